/-! ALL INKS' ROWS IN THE COMPONENT. -/
noncomputable def setN (V : VW) (x y : Int) : Nat → Int
  | 0 => 0
  | m + 1 => setN V x y m + isInkd (V.2 m) x y * (2 : Int) ^ m
theorem inkd_bd (f : Nat → Int) (x y : Int) : isInkd f x y = 0 ∨ isInkd f x y = 1 := by
  unfold isInkd
  split
  · right; rfl
  · left; rfl
theorem setN_bd (V : VW) (x y : Int) : ∀ m, 0 ≤ setN V x y m ∧ setN V x y m < (2 : Int) ^ m := by
  intro m
  induction m with
  | zero => exact ⟨by unfold setN; omega, by unfold setN; decide⟩
  | succ m ih =>
    unfold setN
    rw [Int.pow_succ]
    rcases inkd_bd (V.2 m) x y with h | h <;> rw [h] <;> omega
theorem or_bit {m : Nat} {s : Int} (hm : m < 4) (hs : 0 ≤ s ∧ s < (2 : Int) ^ m) : iI s ||| (iI 1 <<< (iI (m : Int) &&& 31)) = iI (s + 1 * (2 : Int) ^ m) := by
  obtain ⟨n, rfl⟩ : ∃ n : Nat, s = (n : Int) := ⟨s.toNat, by omega⟩
  have hn : n < 16 := by
    have : m = 0 ∨ m = 1 ∨ m = 2 ∨ m = 3 := by omega
    rcases this with h | h | h | h <;> subst h <;> simp at hs <;> omega
  exact (by decide : ∀ m : Nat, m < 4 → ∀ n : Nat, n < 16 → ((n : Nat) : Int) < (2 : Int) ^ m → iI ((n : Nat) : Int) ||| (iI 1 <<< (iI (m : Int) &&& 31)) = iI ((n : Int) + 1 * (2 : Int) ^ m)) m hm n hn hs.2
def rowsC (T : TS) (V : VW) (x y : Int) (m : Nat) : Prop := ∀ i, i < m → rowC T (T.2.2.1 i) (V.2 i) x y
theorem rowC.off {T T' : TS} {V : VW} (hV : okV V) (h : cC T V) {i j : Nat} (hi : i < V.1) (hj : j < V.1) (hij : i ≠ j) {x y : Int} (hr : rowC T (T.2.2.1 i) (V.2 i) x y) (hf : FrI (aOwn (T.2.2.1 j)) T T') : rowC T' (T'.2.2.1 i) (V.2 i) x y := by
  have h4 := hV.1
  have hR : T'.2.2.1 = T.2.2.1 := by rw [hf.2]
  have hne : T.2.2.1 i ≠ T.2.2.1 j := fun e => hij (h.2.2.1 i j (by omega) (by omega) e)
  have hs := isPl_sep (h.2.1 i (by omega)) (h.2.1 j (by omega)) hne
  rw [hR]
  exact hr.fr hf (fun q k q1 q2 z => by have := aOwn_own z; omega)
set_option maxHeartbeats 1000000 in
theorem lp_start {V : VW} (hV : okV V) {x y : Int} (hx : -50000 ≤ x ∧ x ≤ 50000) (hy : -50000 ≤ y ∧ y ≤ 50000) : ∀ (m j : Nat) (T : TS), j + m = V.1 → cC T V → rowsC T V x y j → ∃ T', rn k_Ds_startRow 2 [.ref 0, .int (iI x), .int (iI y), .int (iI (j : Int))] [] (enc T) = some (none, enc T') ∧ FrI aAsk T T' ∧ cC T' V ∧ rowsC T' V x y V.1 := by
  have h4 := hV.1
  intro m
  induction m with
  | zero =>
    intro j T hjm h hr
    have hj : j = V.1 := by omega
    refine ⟨T, ?_, FrI.rf _ _, h, by rw [← hj]; exact hr⟩
    rw [e_Ds_startRow_2, hj]
    simp (disch := first | omega | assumption | decide | (simp (disch := omega) only [iI_lit, iJ_lit, iJ_eq, iI_eq, bI_01, bI_01I] <;> omega)) only [e_Ds_startRow_3, e_Ds_startRow_4, e_Ds_startRow_7, e_Ds_startRow_10, e_Ds_startRow_11, e_Ds_startRow_14, e_Ds_startRow_15, e_Ds_startRow_16, e_Ds_startRow_17, e_Ds_startRow_18, e_Ds_startRow_21, e_Ds_startRow_24, e_Ds_startRow_27, bd_some, bd_none, Option.toList_some, Option.toList_none, List.nil_append, List.cons_append, px_kill_int, px_kill_long, px_kill_ref, px_kill_null, iI_lit, iJ_lit, iI_add, iI_sub, iI_mul, iI_neg, iJ_add, iJ_sub, iJ_mul, iJ_neg, iI_lt, iI_le, iI_eq, iJ_lt, iJ_le, iJ_eq, iI_div, iJ_div, tdiv_tmod, iI_J, iJ_I, iI_ix, iI_toInt, iJ_toInt, cmp_ge, cmp_lt, cmp_eq, cmp_gt, cmp_le, cmp_geI, cmp_ltI, cmp_eqI, cmp_gtI, cmp_leI, bI_0I, bI_1I, pin, if_true, h.1, Int.le_refl]
  | succ m ih =>
    intro j T hjm h hr
    have hj : j < V.1 := by omega
    obtain ⟨T2, e2, fr2, h2, r2⟩ := c_start hV h hj hx hy
    have hR : T2.2.2.1 = T.2.2.1 := by rw [fr2.2]
    have hp := h.2.1 j (by omega)
    have hs := isPl_sh hp
    obtain ⟨T', e3, fr3, h3, r3⟩ := ih (j + 1) T2 (by omega) h2 (fun i hi => by
      by_cases hij : i = j
      · rw [hij, hR]; exact r2
      · exact rowC.off hV h (by omega) hj hij (hr i (by omega)) fr2)
    refine ⟨T', ?_, (fr2.mono (fun q k z => aOwn_ask hp z)).tr fr3, h3, r3⟩
    rw [e_Ds_startRow_2]
    have nle : ¬ (V.1 : Int) ≤ (j : Int) := by omega
    have ej : ((j : Int)).toNat = j := by omega
    simp (disch := first | omega | assumption | decide | (simp (disch := omega) only [iI_lit, iJ_lit, iJ_eq, iI_eq, bI_01, bI_01I] <;> omega)) only [e_Ds_startRow_3, e_Ds_startRow_4, e_Ds_startRow_7, e_Ds_startRow_10, e_Ds_startRow_11, e_Ds_startRow_14, e_Ds_startRow_15, e_Ds_startRow_16, e_Ds_startRow_17, e_Ds_startRow_18, e_Ds_startRow_21, e_Ds_startRow_24, e_Ds_startRow_27, bd_some, bd_none, Option.toList_some, Option.toList_none, List.nil_append, List.cons_append, px_kill_int, px_kill_long, px_kill_ref, px_kill_null, iI_lit, iJ_lit, iI_add, iI_sub, iI_mul, iI_neg, iJ_add, iJ_sub, iJ_mul, iJ_neg, iI_lt, iI_le, iI_eq, iJ_lt, iJ_le, iJ_eq, iI_div, iJ_div, tdiv_tmod, iI_J, iJ_I, iI_ix, iI_toInt, iJ_toInt, cmp_ge, cmp_lt, cmp_eq, cmp_gt, cmp_le, cmp_geI, cmp_ltI, cmp_eqI, cmp_gtI, cmp_leI, bI_0I, bI_1I, pin, if_true, h.1, nle, if_false, sh_n5, ej, e2]
    rw [show (j : Int) + 1 = ((j + 1 : Nat) : Int) by omega, e3]
theorem c_startRow {T : TS} {V : VW} (hV : okV V) (h : cC T V) {x y : Int} (hx : -50000 ≤ x ∧ x ≤ 50000) (hy : -50000 ≤ y ∧ y ≤ 50000) : ∃ T', cl k_Ds_startRow [.ref 0, .int (iI x), .int (iI y)] (enc T) = some (none, enc T') ∧ FrI aAsk T T' ∧ cC T' V ∧ rowsC T' V x y V.1 := by
  obtain ⟨T', e, fr, h', r'⟩ := lp_start hV hx hy V.1 0 T (by omega) h (fun i hi => by omega)
  refine ⟨T', ?_, fr, h', r'⟩
  simp only [c_Ds_startRow, e_Ds_startRow_0, e_Ds_startRow_1, bd_some, bd_none, Option.toList_some, Option.toList_none, List.nil_append, List.cons_append, px_kill_int, px_kill_long, px_kill_ref, px_kill_null, iI_lit]
  exact e
set_option maxHeartbeats 1000000 in
theorem lp_pass {V : VW} (hV : okV V) {x y : Int} : ∀ (m j : Nat) (T : TS), j + m = V.1 → cC T V → rowsC T V (x + 1) y j → (∀ i, j ≤ i → i < V.1 → rowC T (T.2.2.1 i) (V.2 i) x y) → ∃ T', rn k_Ds_passPixel 4 [.ref 0, .int (iI (setN V x y j)), .int (iI (j : Int))] [] (enc T) = some (some (.int (iI (setN V x y V.1))), enc T') ∧ FrI aAsk T T' ∧ cC T' V ∧ rowsC T' V (x + 1) y V.1 := by
  have h4 := hV.1
  intro m
  induction m with
  | zero =>
    intro j T hjm h hr _
    have hj : j = V.1 := by omega
    refine ⟨T, ?_, FrI.rf _ _, h, by rw [← hj]; exact hr⟩
    rw [e_Ds_passPixel_4, hj]
    simp (disch := first | omega | assumption | decide | (simp (disch := omega) only [iI_lit, iJ_lit, iJ_eq, iI_eq, bI_01, bI_01I] <;> omega)) only [e_Ds_passPixel_5, e_Ds_passPixel_6, e_Ds_passPixel_9, e_Ds_passPixel_12, e_Ds_passPixel_13, e_Ds_passPixel_16, e_Ds_passPixel_17, e_Ds_passPixel_18, e_Ds_passPixel_21, e_Ds_passPixel_24, e_Ds_passPixel_25, e_Ds_passPixel_26, e_Ds_passPixel_27, e_Ds_passPixel_28, e_Ds_passPixel_29, e_Ds_passPixel_30, e_Ds_passPixel_33, e_Ds_passPixel_36, e_Ds_passPixel_37, bd_some, bd_none, Option.toList_some, Option.toList_none, List.nil_append, List.cons_append, px_kill_int, px_kill_long, px_kill_ref, px_kill_null, iI_lit, iJ_lit, iI_add, iI_sub, iI_mul, iI_neg, iJ_add, iJ_sub, iJ_mul, iJ_neg, iI_lt, iI_le, iI_eq, iJ_lt, iJ_le, iJ_eq, iI_div, iJ_div, tdiv_tmod, iI_J, iJ_I, iI_ix, iI_toInt, iJ_toInt, cmp_ge, cmp_lt, cmp_eq, cmp_gt, cmp_le, cmp_geI, cmp_ltI, cmp_eqI, cmp_gtI, cmp_leI, bI_0I, bI_1I, pin, if_true, h.1, Int.le_refl]
  | succ m ih =>
    intro j T hjm h hr hq
    have hj : j < V.1 := by omega
    obtain ⟨T2, e2, fr2, h2, r2⟩ := c_pass hV h hj (hq j (Nat.le_refl _) hj)
    have hR : T2.2.2.1 = T.2.2.1 := by rw [fr2.2]
    have hp := h.2.1 j (by omega)
    have hs := isPl_sh hp
    obtain ⟨T', e3, fr3, h3, r3⟩ := ih (j + 1) T2 (by omega) h2 (fun i hi => by
      by_cases hij : i = j
      · rw [hij, hR]; exact r2
      · exact rowC.off hV h (by omega) hj hij (hr i (by omega)) fr2) (fun i h1 hi => rowC.off hV h hi hj (by omega) (hq i (by omega) hi) fr2)
    refine ⟨T', ?_, (fr2.mono (fun q k z => aOwn_ask hp z)).tr fr3, h3, r3⟩
    rw [e_Ds_passPixel_4, ← e3]
    have nle : ¬ (V.1 : Int) ≤ (j : Int) := by omega
    have ej : ((j : Int)).toNat = j := by omega
    have hsb := setN_bd V x y j
    have hor := or_bit (m := j) (by omega) hsb
    rw [show setN V x y (j + 1) = setN V x y j + isInkd (V.2 j) x y * (2 : Int) ^ j from rfl]
    rcases inkd_bd (V.2 j) x y with hk | hk
    · rw [hk] at e2 ⊢
      simp (disch := first | omega | assumption | decide | (simp (disch := omega) only [iI_lit, iJ_lit, iJ_eq, iI_eq, bI_01, bI_01I] <;> omega)) only [e_Ds_passPixel_5, e_Ds_passPixel_6, e_Ds_passPixel_9, e_Ds_passPixel_12, e_Ds_passPixel_13, e_Ds_passPixel_16, e_Ds_passPixel_17, e_Ds_passPixel_18, e_Ds_passPixel_21, e_Ds_passPixel_24, e_Ds_passPixel_25, e_Ds_passPixel_26, e_Ds_passPixel_27, e_Ds_passPixel_28, e_Ds_passPixel_29, e_Ds_passPixel_30, e_Ds_passPixel_33, e_Ds_passPixel_36, e_Ds_passPixel_37, bd_some, bd_none, Option.toList_some, Option.toList_none, List.nil_append, List.cons_append, px_kill_int, px_kill_long, px_kill_ref, px_kill_null, iI_lit, iJ_lit, iI_add, iI_sub, iI_mul, iI_neg, iJ_add, iJ_sub, iJ_mul, iJ_neg, iI_lt, iI_le, iI_eq, iJ_lt, iJ_le, iJ_eq, iI_div, iJ_div, tdiv_tmod, iI_J, iJ_I, iI_ix, iI_toInt, iJ_toInt, cmp_ge, cmp_lt, cmp_eq, cmp_gt, cmp_le, cmp_geI, cmp_ltI, cmp_eqI, cmp_gtI, cmp_leI, bI_0I, bI_1I, pin, if_true, h.1, nle, if_false, sh_n5, ej, e2]
      rw [show (j : Int) + 1 = ((j + 1 : Nat) : Int) by omega, show setN V x y j + 0 * (2 : Int) ^ j = setN V x y j by omega]
    · rw [hk] at e2 ⊢
      simp (disch := first | omega | assumption | decide | (simp (disch := omega) only [iI_lit, iJ_lit, iJ_eq, iI_eq, bI_01, bI_01I] <;> omega)) only [e_Ds_passPixel_5, e_Ds_passPixel_6, e_Ds_passPixel_9, e_Ds_passPixel_12, e_Ds_passPixel_13, e_Ds_passPixel_16, e_Ds_passPixel_17, e_Ds_passPixel_18, e_Ds_passPixel_21, e_Ds_passPixel_24, e_Ds_passPixel_25, e_Ds_passPixel_26, e_Ds_passPixel_27, e_Ds_passPixel_28, e_Ds_passPixel_29, e_Ds_passPixel_30, e_Ds_passPixel_33, e_Ds_passPixel_36, e_Ds_passPixel_37, bd_some, bd_none, Option.toList_some, Option.toList_none, List.nil_append, List.cons_append, px_kill_int, px_kill_long, px_kill_ref, px_kill_null, iI_lit, iJ_lit, iI_add, iI_sub, iI_mul, iI_neg, iJ_add, iJ_sub, iJ_mul, iJ_neg, iI_lt, iI_le, iI_eq, iJ_lt, iJ_le, iJ_eq, iI_div, iJ_div, tdiv_tmod, iI_J, iJ_I, iI_ix, iI_toInt, iJ_toInt, cmp_ge, cmp_lt, cmp_eq, cmp_gt, cmp_le, cmp_geI, cmp_ltI, cmp_eqI, cmp_gtI, cmp_leI, bI_0I, bI_1I, pin, if_true, h.1, nle, if_false, sh_n5, ej, e2, one0]
      rw [show (j : Int) + 1 = ((j + 1 : Nat) : Int) by omega, ← hor]
      rfl
theorem c_passPixel {T : TS} {V : VW} (hV : okV V) (h : cC T V) {x y : Int} (hr : rowsC T V x y V.1) : ∃ T', cl k_Ds_passPixel [.ref 0] (enc T) = some (some (.int (iI (setN V x y V.1))), enc T') ∧ FrI aAsk T T' ∧ cC T' V ∧ rowsC T' V (x + 1) y V.1 := by
  obtain ⟨T', e, fr, h', r'⟩ := lp_pass hV (x := x) (y := y) V.1 0 T (by omega) h (fun i hi => by omega) (fun i _ hi => hr i hi)
  refine ⟨T', ?_, fr, h', r'⟩
  simp only [c_Ds_passPixel, e_Ds_passPixel_0, e_Ds_passPixel_1, e_Ds_passPixel_2, e_Ds_passPixel_3, bd_some, bd_none, Option.toList_some, Option.toList_none, List.nil_append, List.cons_append, px_kill_int, px_kill_long, px_kill_ref, px_kill_null, iI_lit]
  exact e
set_option maxHeartbeats 1000000 in
theorem q_Ds_inked {T : TS} {V : VW} (hV : okV V) (h : cC T V) {i x y : Int} (hi : inI i) (hx : inI x) (hy : inI y) : ∃ T', cl k_Ds_inked [.ref 0, .int (iI i), .int (iI x), .int (iI y)] (enc T) = some (some (.int (iI (qInked V i x y))), enc T') ∧ FrI aAsk T T' ∧ cC T' V := by
  have g1 := g_isInk hV h hi
  have g2 := g_isPixel hx hy (enc T)
  obtain ⟨i1, i2⟩ := id hi
  unfold qInked
  by_cases c1 : isK V i
  · rw [bI_tI c1] at g1
    by_cases c2 : isX x y
    · rw [bI_tI c2] at g2
      rw [if_pos ⟨c1, c2⟩]
      obtain ⟨j, rfl⟩ : ∃ j : Nat, i = (j : Int) := ⟨i.toNat, by omega⟩
      have hj : j < V.1 := by have := c1.2; omega
      have h4 := hV.1
      have hp := h.2.1 j (by omega)
      have hs := isPl_sh hp
      obtain ⟨x1, x2, x3⟩ := id c2
      obtain ⟨T2, e2, fr2, h2, r2⟩ := c_start hV h hj (x := x) (y := y) (by omega) (by omega)
      have hR : T2.2.2.1 j = T.2.2.1 j := by rw [fr2.2]
      have hs2 : sh (T2.2.2.1 j) = (104, 18) := by rw [hR]; exact hs
      rw [← hR] at r2
      obtain ⟨T3, e3, fr3, h3, r3⟩ := c_pass hV h2 hj r2
      rw [hR] at fr3
      have h01 := inkd01 (V.2 j) x y
      have ej : ((j : Int)).toNat = j := by omega
      refine ⟨T3, ?_, (fr2.mono (fun q k z => aOwn_ask hp z)).tr (fr3.mono (fun q k z => aOwn_ask hp z)), h3⟩
      rw [ej]
      simp (disch := first | omega | assumption | decide | (simp (disch := omega) only [iI_lit, iJ_lit, iJ_eq, iI_eq, bI_01, bI_01I] <;> omega)) only [c_Ds_inked, e_Ds_inked_0, e_Ds_inked_1, e_Ds_inked_2, e_Ds_inked_5, e_Ds_inked_8, e_Ds_inked_9, e_Ds_inked_10, e_Ds_inked_13, e_Ds_inked_16, e_Ds_inked_17, e_Ds_inked_18, e_Ds_inked_19, e_Ds_inked_22, e_Ds_inked_23, e_Ds_inked_24, e_Ds_inked_25, e_Ds_inked_26, e_Ds_inked_29, e_Ds_inked_30, e_Ds_inked_33, e_Ds_inked_34, e_Ds_inked_35, e_Ds_inked_38, bd_some, bd_none, Option.toList_some, Option.toList_none, List.nil_append, List.cons_append, px_kill_int, px_kill_long, px_kill_ref, px_kill_null, iI_lit, iJ_lit, iI_add, iI_sub, iI_mul, iI_neg, iJ_add, iJ_sub, iJ_mul, iJ_neg, iI_lt, iI_le, iI_eq, iJ_lt, iJ_le, iJ_eq, iI_div, iJ_div, tdiv_tmod, iI_J, iJ_I, iI_ix, iI_toInt, iJ_toInt, cmp_ge, cmp_lt, cmp_eq, cmp_gt, cmp_le, cmp_geI, cmp_ltI, cmp_eqI, cmp_gtI, cmp_leI, bI_0I, bI_1I, pin, if_true, g1, g2, one0, if_false, sh_n5, ej, e2, e3]
    · rw [bI_fI c2] at g2
      rw [if_neg (fun z => c2 z.2)]
      refine ⟨T, ?_, FrI.rf _ _, h⟩
      simp (disch := first | omega | assumption | decide | (simp (disch := omega) only [iI_lit, iJ_lit, iJ_eq, iI_eq, bI_01, bI_01I] <;> omega)) only [c_Ds_inked, e_Ds_inked_0, e_Ds_inked_1, e_Ds_inked_2, e_Ds_inked_5, e_Ds_inked_8, e_Ds_inked_9, e_Ds_inked_10, e_Ds_inked_13, e_Ds_inked_16, e_Ds_inked_17, e_Ds_inked_18, e_Ds_inked_19, e_Ds_inked_22, e_Ds_inked_23, e_Ds_inked_24, e_Ds_inked_25, e_Ds_inked_26, e_Ds_inked_29, e_Ds_inked_30, e_Ds_inked_33, e_Ds_inked_34, e_Ds_inked_35, e_Ds_inked_38, bd_some, bd_none, Option.toList_some, Option.toList_none, List.nil_append, List.cons_append, px_kill_int, px_kill_long, px_kill_ref, px_kill_null, iI_lit, iJ_lit, iI_add, iI_sub, iI_mul, iI_neg, iJ_add, iJ_sub, iJ_mul, iJ_neg, iI_lt, iI_le, iI_eq, iJ_lt, iJ_le, iJ_eq, iI_div, iJ_div, tdiv_tmod, iI_J, iJ_I, iI_ix, iI_toInt, iJ_toInt, cmp_ge, cmp_lt, cmp_eq, cmp_gt, cmp_le, cmp_geI, cmp_ltI, cmp_eqI, cmp_gtI, cmp_leI, bI_0I, bI_1I, pin, if_true, g1, g2, one0, if_false]
  · rw [bI_fI c1] at g1
    rw [if_neg (fun z => c1 z.1)]
    refine ⟨T, ?_, FrI.rf _ _, h⟩
    simp (disch := first | omega | assumption | decide | (simp (disch := omega) only [iI_lit, iJ_lit, iJ_eq, iI_eq, bI_01, bI_01I] <;> omega)) only [c_Ds_inked, e_Ds_inked_0, e_Ds_inked_1, e_Ds_inked_2, e_Ds_inked_5, e_Ds_inked_8, e_Ds_inked_9, e_Ds_inked_10, e_Ds_inked_13, e_Ds_inked_16, e_Ds_inked_17, e_Ds_inked_18, e_Ds_inked_19, e_Ds_inked_22, e_Ds_inked_23, e_Ds_inked_24, e_Ds_inked_25, e_Ds_inked_26, e_Ds_inked_29, e_Ds_inked_30, e_Ds_inked_33, e_Ds_inked_34, e_Ds_inked_35, e_Ds_inked_38, bd_some, bd_none, Option.toList_some, Option.toList_none, List.nil_append, List.cons_append, px_kill_int, px_kill_long, px_kill_ref, px_kill_null, iI_lit, iJ_lit, iI_add, iI_sub, iI_mul, iI_neg, iJ_add, iJ_sub, iJ_mul, iJ_neg, iI_lt, iI_le, iI_eq, iJ_lt, iJ_le, iJ_eq, iI_div, iJ_div, tdiv_tmod, iI_J, iJ_I, iI_ix, iI_toInt, iJ_toInt, cmp_ge, cmp_lt, cmp_eq, cmp_gt, cmp_le, cmp_geI, cmp_ltI, cmp_eqI, cmp_gtI, cmp_leI, bI_0I, bI_1I, pin, if_true, g1]
noncomputable def qOver (V : VW) (x y : Int) : Int := if isX x y then setN V x y V.1 else -1
set_option maxHeartbeats 1000000 in
theorem q_Ds_overlay {T : TS} {V : VW} (hV : okV V) (h : cC T V) {x y : Int} (hx : inI x) (hy : inI y) : ∃ T', cl k_Ds_overlay [.ref 0, .int (iI x), .int (iI y)] (enc T) = some (some (.int (iI (qOver V x y))), enc T') ∧ FrI aAsk T T' ∧ cC T' V := by
  have g2 := g_isPixel hx hy (enc T)
  unfold qOver
  by_cases c2 : isX x y
  · rw [bI_tI c2] at g2
    rw [if_pos c2]
    obtain ⟨x1, x2, x3⟩ := id c2
    obtain ⟨T2, e2, fr2, h2, r2⟩ := c_startRow hV h (x := x) (y := y) (by omega) (by omega)
    obtain ⟨T3, e3, fr3, h3, r3⟩ := c_passPixel hV h2 r2
    refine ⟨T3, ?_, fr2.tr fr3, h3⟩
    simp (disch := first | omega | assumption | decide | (simp (disch := omega) only [iI_lit, iJ_lit, iJ_eq, iI_eq, bI_01, bI_01I] <;> omega)) only [c_Ds_overlay, e_Ds_overlay_0, e_Ds_overlay_1, e_Ds_overlay_2, e_Ds_overlay_5, e_Ds_overlay_8, e_Ds_overlay_9, e_Ds_overlay_10, e_Ds_overlay_11, e_Ds_overlay_12, e_Ds_overlay_13, e_Ds_overlay_16, e_Ds_overlay_17, e_Ds_overlay_20, bd_some, bd_none, Option.toList_some, Option.toList_none, List.nil_append, List.cons_append, px_kill_int, px_kill_long, px_kill_ref, px_kill_null, iI_lit, iJ_lit, iI_add, iI_sub, iI_mul, iI_neg, iJ_add, iJ_sub, iJ_mul, iJ_neg, iI_lt, iI_le, iI_eq, iJ_lt, iJ_le, iJ_eq, iI_div, iJ_div, tdiv_tmod, iI_J, iJ_I, iI_ix, iI_toInt, iJ_toInt, cmp_ge, cmp_lt, cmp_eq, cmp_gt, cmp_le, cmp_geI, cmp_ltI, cmp_eqI, cmp_gtI, cmp_leI, bI_0I, bI_1I, pin, if_true, g2, one0, if_false, e2, e3]
  · rw [bI_fI c2] at g2
    rw [if_neg c2]
    refine ⟨T, ?_, FrI.rf _ _, h⟩
    simp (disch := first | omega | assumption | decide | (simp (disch := omega) only [iI_lit, iJ_lit, iJ_eq, iI_eq, bI_01, bI_01I] <;> omega)) only [c_Ds_overlay, e_Ds_overlay_0, e_Ds_overlay_1, e_Ds_overlay_2, e_Ds_overlay_5, e_Ds_overlay_8, e_Ds_overlay_9, e_Ds_overlay_10, e_Ds_overlay_11, e_Ds_overlay_12, e_Ds_overlay_13, e_Ds_overlay_16, e_Ds_overlay_17, e_Ds_overlay_20, bd_some, bd_none, Option.toList_some, Option.toList_none, List.nil_append, List.cons_append, px_kill_int, px_kill_long, px_kill_ref, px_kill_null, iI_lit, iJ_lit, iI_add, iI_sub, iI_mul, iI_neg, iJ_add, iJ_sub, iJ_mul, iJ_neg, iI_lt, iI_le, iI_eq, iJ_lt, iJ_le, iJ_eq, iI_div, iJ_div, tdiv_tmod, iI_J, iJ_I, iI_ix, iI_toInt, iJ_toInt, cmp_ge, cmp_lt, cmp_eq, cmp_gt, cmp_le, cmp_geI, cmp_ltI, cmp_eqI, cmp_gtI, cmp_leI, bI_0I, bI_1I, pin, if_true, g2, one0]
