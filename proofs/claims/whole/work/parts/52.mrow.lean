/-! A ROW OF PIXELS IN THE REFERENCE. -/
def aWin (q k : Nat) : Prop := q = 66
set_option maxHeartbeats 1000000 in
theorem lp_mrow0 {w : Nat} (hw : w ≤ 1000) (v1 v2 : Int32) : ∀ (m k : Nat) (T : TS), k + m = w → (∀ c, c < k → T.1 66 c = iI 0) → ∀ (a5 a6 : Value), ∃ T', rn k_Dm_laysRow 3 [.ref 53, .int v1, .int v2, .int (iI (w : Int)), .int (iI (k : Int)), a5, a6] [] (enc T) = rn k_Dm_laysRow 23 [.ref 53, .int v1, .int v2, .int (iI (w : Int)), .int (iI (w : Int)), a5, a6] [] (enc T') ∧ FrI aWin T T' ∧ (∀ c, c < w → T'.1 66 c = iI 0) := by
  intro m
  induction m with
  | zero =>
    intro k T hk h a5 a6
    have hkw : k = w := by omega
    refine ⟨T, ?_, FrI.rf _ _, fun c hc => h c (by omega)⟩
    rw [e_Dm_laysRow_3, hkw]
    simp (disch := first | omega | assumption | decide | (simp (disch := omega) only [iI_lit, iJ_lit, iJ_eq, iI_eq, bI_01, bI_01I] <;> omega)) only [e_Dm_laysRow_5, e_Dm_laysRow_6, e_Dm_laysRow_9, e_Dm_laysRow_10, e_Dm_laysRow_13, e_Dm_laysRow_15, e_Dm_laysRow_16, e_Dm_laysRow_17, e_Dm_laysRow_20, bd_some, bd_none, Option.toList_some, Option.toList_none, List.nil_append, List.cons_append, px_kill_int, px_kill_long, px_kill_ref, px_kill_null, iI_lit, iJ_lit, iI_add, iI_sub, iI_mul, iI_neg, iJ_add, iJ_sub, iJ_mul, iJ_neg, iI_lt, iI_le, iI_eq, iJ_lt, iJ_le, iJ_eq, iI_div, iJ_div, tdiv_tmod, iI_J, iJ_I, iI_ix, iI_toInt, iJ_toInt, cmp_ge, cmp_lt, cmp_eq, cmp_gt, cmp_le, cmp_geI, cmp_ltI, cmp_eqI, cmp_gtI, cmp_leI, bI_0I, bI_1I, pin, if_true, Int.le_refl]
  | succ m ih =>
    intro k T hk h a5 a6
    have nle : ¬ (w : Int) ≤ (k : Int) := by omega
    have ek : ((k : Int)).toNat = k := by omega
    obtain ⟨T', e, fr, g⟩ := ih (k + 1) (sI T 66 k (iI 0)) (by omega) (fun c hc => by
      by_cases hck : c = k
      · rw [hck]; simp only [sI_get, sJ_get, sI_2, sJ_1, sJ_22, sR_1, sR_21, Nat.reduceEqDiff, and_true, true_and, and_false, false_and, and_self, if_true, if_false, reduceIte]
      · have := h c (by omega)
        simp only [sI_get, sJ_get, sI_2, sJ_1, sJ_22, sR_1, sR_21, Nat.reduceEqDiff, and_true, true_and, and_false, false_and, and_self, if_true, if_false, reduceIte, hck, this]) a5 a6
    refine ⟨T', ?_, ((FrI.rf aWin T).wr _ rfl).tr fr, g⟩
    rw [e_Dm_laysRow_3, ← e]
    simp (disch := first | omega | assumption | decide | (simp (disch := omega) only [iI_lit, iJ_lit, iJ_eq, iI_eq, bI_01, bI_01I] <;> omega)) only [e_Dm_laysRow_5, e_Dm_laysRow_6, e_Dm_laysRow_9, e_Dm_laysRow_10, e_Dm_laysRow_13, e_Dm_laysRow_15, e_Dm_laysRow_16, e_Dm_laysRow_17, e_Dm_laysRow_20, bd_some, bd_none, Option.toList_some, Option.toList_none, List.nil_append, List.cons_append, px_kill_int, px_kill_long, px_kill_ref, px_kill_null, iI_lit, iJ_lit, iI_add, iI_sub, iI_mul, iI_neg, iJ_add, iJ_sub, iJ_mul, iJ_neg, iI_lt, iI_le, iI_eq, iJ_lt, iJ_le, iJ_eq, iI_div, iJ_div, tdiv_tmod, iI_J, iJ_I, iI_ix, iI_toInt, iJ_toInt, cmp_ge, cmp_lt, cmp_eq, cmp_gt, cmp_le, cmp_geI, cmp_ltI, cmp_eqI, cmp_gtI, cmp_leI, bI_0I, bI_1I, pin, if_true, nle, if_false, sh_n66, ek]
    rw [show (k : Int) + 1 = ((k + 1 : Nat) : Int) by omega]
theorem isRnkN.fr {T T' : TS} {f : Nat → Int} {A : Nat → Nat → Prop} (h : isRnkN T f) (hf : FrI A T T') (hA : ∀ q k, A q k → q < 58 ∨ 61 < q) : isRnkN T' f := by
  refine ⟨fun r hr => ?_, fun r hr => ?_⟩
  · exact (h.1 r hr).fr (hf.1 _ _ (fun z => by have := hA _ _ z; omega)) (hf.1 _ _ (fun z => by have := hA _ _ z; omega)) (hf.1 _ _ (fun z => by have := hA _ _ z; omega))
  · rw [hf.1 _ _ (fun z => by have := hA _ _ z; omega)]; exact h.2 r hr
theorem FrM.win {T T' : TS} (h : FrI aWin T T') : FrM T T' := FrM.of h (fun q k z => by unfold aWin at z; unfold aRef; omega)
set_option maxHeartbeats 1000000 in
theorem lp_mrow2 {V : VW} (hV : okV V) {j w : Nat} (hj : j < V.1) (hw : w ≤ 1000) {x y : Int} (hx : -20000 ≤ x ∧ x ≤ 20000) (hy : -20000 ≤ y ∧ y ≤ 20000) : ∀ (m k : Nat) (T : TS), k + m = w → cM T V → mBrkN T (V.2 j) → isRnkN T (V.2 j) → (∀ c : Nat, c < k → T.1 66 c = iI (setN V (x + c) y (j + 1))) → (∀ c : Nat, k ≤ c → c < w → T.1 66 c = iI (setN V (x + c) y j)) → ∃ T', rn k_Dm_laysRow 52 [.ref 53, .int (iI x), .int (iI y), .int (iI (w : Int)), .int (iI (j : Int)), .int (iI (lvlN (V.2 j))), .int (iI (k : Int))] [] (enc T) = rn k_Dm_laysRow 98 [.ref 53, .int (iI x), .int (iI y), .int (iI (w : Int)), .int (iI (j : Int)), .int (iI (lvlN (V.2 j))), .int (iI (w : Int))] [] (enc T') ∧ FrM T T' ∧ (∀ c : Nat, c < w → T'.1 66 c = iI (setN V (x + c) y (j + 1))) ∧ (∀ c, T'.1 67 c = T.1 67 c) := by
  have h4 := hV.1
  intro m
  induction m with
  | zero =>
    intro k T hk hM hB hR h1 h2
    have hkw : k = w := by omega
    refine ⟨T, ?_, FrM.rf _, fun c hc => h1 c (by omega), fun _ => rfl⟩
    rw [e_Dm_laysRow_52, hkw]
    simp (disch := first | omega | assumption | decide | (simp (disch := omega) only [iI_lit, iJ_lit, iJ_eq, iI_eq, bI_01, bI_01I] <;> omega)) only [e_Dm_laysRow_54, e_Dm_laysRow_55, e_Dm_laysRow_58, e_Dm_laysRow_59, e_Dm_laysRow_62, e_Dm_laysRow_64, e_Dm_laysRow_65, e_Dm_laysRow_66, e_Dm_laysRow_67, e_Dm_laysRow_69, e_Dm_laysRow_70, e_Dm_laysRow_72, e_Dm_laysRow_73, e_Dm_laysRow_74, e_Dm_laysRow_77, e_Dm_laysRow_79, e_Dm_laysRow_82, e_Dm_laysRow_83, e_Dm_laysRow_85, e_Dm_laysRow_86, e_Dm_laysRow_89, e_Dm_laysRow_90, e_Dm_laysRow_91, e_Dm_laysRow_92, e_Dm_laysRow_95, bd_some, bd_none, Option.toList_some, Option.toList_none, List.nil_append, List.cons_append, px_kill_int, px_kill_long, px_kill_ref, px_kill_null, iI_lit, iJ_lit, iI_add, iI_sub, iI_mul, iI_neg, iJ_add, iJ_sub, iJ_mul, iJ_neg, iI_lt, iI_le, iI_eq, iJ_lt, iJ_le, iJ_eq, iI_div, iJ_div, tdiv_tmod, iI_J, iJ_I, iI_ix, iI_toInt, iJ_toInt, cmp_ge, cmp_lt, cmp_eq, cmp_gt, cmp_le, cmp_geI, cmp_ltI, cmp_eqI, cmp_gtI, cmp_leI, bI_0I, bI_1I, pin, if_true, Int.le_refl]
  | succ m ih =>
    intro k T hk hM hB hR h1 h2
    have nle : ¬ (w : Int) ≤ (k : Int) := by omega
    have ek : ((k : Int)).toNat = k := by omega
    have hv := h2 k (Nat.le_refl _) (by omega)
    obtain ⟨T2, e2, fr2, hM2, hB2, hR2, frA⟩ := m_rankHere hV hM hj hB hR (x := x + k) (y := y) (by omega) (by omega)
    have ok := hV.2 j hj
    have hl := lvlN_bd ok
    have hr := (rkN_sp ok (x + k) y).1
    have hc : 0 < celN (V.2 j) ∧ celN (V.2 j) ≤ 144 := cel_bd ok.1
    have h66 : ∀ c, T2.1 66 c = T.1 66 c := fun c => frA.1 _ _ (by unfold aRnk; omega)
    have frw : FrI aWin T2 (sI T2 66 k (iI (setN V (x + k) y (j + 1)))) := (FrI.rf _ _).wr _ rfl
    obtain ⟨T', e, fr, g, g67⟩ := ih (k + 1) (sI T2 66 k (iI (setN V (x + k) y (j + 1)))) (by omega) (hM2.fr (FrM.win frw)) (mGrd.fr hB2 frw) (hR2.fr frw (fun q k z => by unfold aWin at z; omega)) (fun c hc => by
      by_cases hck : c = k
      · rw [hck]; simp only [sI_get, sJ_get, sI_2, sJ_1, sJ_22, sR_1, sR_21, Nat.reduceEqDiff, and_true, true_and, and_false, false_and, and_self, if_true, if_false, reduceIte]
      · have := h1 c (by omega)
        simp only [sI_get, sJ_get, sI_2, sJ_1, sJ_22, sR_1, sR_21, Nat.reduceEqDiff, and_true, true_and, and_false, false_and, and_self, if_true, if_false, reduceIte, hck, h66, this]) (fun c hc hcw => by
        have := h2 c (by omega) hcw
        have hck : c ≠ k := by omega
        simp only [sI_get, sJ_get, sI_2, sJ_1, sJ_22, sR_1, sR_21, Nat.reduceEqDiff, and_true, true_and, and_false, false_and, and_self, if_true, if_false, reduceIte, hck, h66, this])
    refine ⟨T', ?_, (fr2.tr (FrM.win frw)).tr fr, g, fun c => by rw [g67, frw.1 _ _ (by unfold aWin; omega), frA.1 _ _ (by unfold aRnk; omega)]⟩
    rw [e_Dm_laysRow_52, ← e]
    have hsb := setN_bd V (x + k) y j
    have hor := or_bit (m := j) (by omega) hsb
    rw [show setN V (x + k) y (j + 1) = setN V (x + k) y j + isInkd (V.2 j) (x + k) y * (2 : Int) ^ j from rfl]
    unfold isInkd
    by_cases c : (rkN (V.2 j) (x + k) y : Int) < lvlN (V.2 j)
    · have nc : ¬ lvlN (V.2 j) ≤ (rkN (V.2 j) (x + k) y : Int) := by omega
      rw [if_pos c, ← hor]
      simp (disch := first | omega | assumption | decide | (simp (disch := omega) only [iI_lit, iJ_lit, iJ_eq, iI_eq, bI_01, bI_01I] <;> omega)) only [e_Dm_laysRow_54, e_Dm_laysRow_55, e_Dm_laysRow_58, e_Dm_laysRow_59, e_Dm_laysRow_62, e_Dm_laysRow_64, e_Dm_laysRow_65, e_Dm_laysRow_66, e_Dm_laysRow_67, e_Dm_laysRow_69, e_Dm_laysRow_70, e_Dm_laysRow_72, e_Dm_laysRow_73, e_Dm_laysRow_74, e_Dm_laysRow_77, e_Dm_laysRow_79, e_Dm_laysRow_82, e_Dm_laysRow_83, e_Dm_laysRow_85, e_Dm_laysRow_86, e_Dm_laysRow_89, e_Dm_laysRow_90, e_Dm_laysRow_91, e_Dm_laysRow_92, e_Dm_laysRow_95, bd_some, bd_none, Option.toList_some, Option.toList_none, List.nil_append, List.cons_append, px_kill_int, px_kill_long, px_kill_ref, px_kill_null, iI_lit, iJ_lit, iI_add, iI_sub, iI_mul, iI_neg, iJ_add, iJ_sub, iJ_mul, iJ_neg, iI_lt, iI_le, iI_eq, iJ_lt, iJ_le, iJ_eq, iI_div, iJ_div, tdiv_tmod, iI_J, iJ_I, iI_ix, iI_toInt, iJ_toInt, cmp_ge, cmp_lt, cmp_eq, cmp_gt, cmp_le, cmp_geI, cmp_ltI, cmp_eqI, cmp_gtI, cmp_leI, bI_0I, bI_1I, pin, if_true, nle, if_false, sh_n66, ek, hv, e2, nc]
      rw [show (k : Int) + 1 = ((k + 1 : Nat) : Int) by omega]
    · have nc : lvlN (V.2 j) ≤ (rkN (V.2 j) (x + k) y : Int) := by omega
      rw [if_neg c, Int.zero_mul, Int.add_zero]
      have hz : iI (setN V (x + k) y j) ||| iI 0 = iI (setN V (x + k) y j) := Int32.or_zero
      simp (disch := first | omega | assumption | decide | (simp (disch := omega) only [iI_lit, iJ_lit, iJ_eq, iI_eq, bI_01, bI_01I] <;> omega)) only [e_Dm_laysRow_54, e_Dm_laysRow_55, e_Dm_laysRow_58, e_Dm_laysRow_59, e_Dm_laysRow_62, e_Dm_laysRow_64, e_Dm_laysRow_65, e_Dm_laysRow_66, e_Dm_laysRow_67, e_Dm_laysRow_69, e_Dm_laysRow_70, e_Dm_laysRow_72, e_Dm_laysRow_73, e_Dm_laysRow_74, e_Dm_laysRow_77, e_Dm_laysRow_79, e_Dm_laysRow_82, e_Dm_laysRow_83, e_Dm_laysRow_85, e_Dm_laysRow_86, e_Dm_laysRow_89, e_Dm_laysRow_90, e_Dm_laysRow_91, e_Dm_laysRow_92, e_Dm_laysRow_95, bd_some, bd_none, Option.toList_some, Option.toList_none, List.nil_append, List.cons_append, px_kill_int, px_kill_long, px_kill_ref, px_kill_null, iI_lit, iJ_lit, iI_add, iI_sub, iI_mul, iI_neg, iJ_add, iJ_sub, iJ_mul, iJ_neg, iI_lt, iI_le, iI_eq, iJ_lt, iJ_le, iJ_eq, iI_div, iJ_div, tdiv_tmod, iI_J, iJ_I, iI_ix, iI_toInt, iJ_toInt, cmp_ge, cmp_lt, cmp_eq, cmp_gt, cmp_le, cmp_geI, cmp_ltI, cmp_eqI, cmp_gtI, cmp_leI, bI_0I, bI_1I, pin, if_true, nle, if_false, sh_n66, ek, hv, e2, nc, hz]
      rw [show (k : Int) + 1 = ((k + 1 : Nat) : Int) by omega]
/-- ranks laid leave the window -/
theorem m_ranks2 {T : TS} {V : VW} (hV : okV V) (h : cM T V) {j : Nat} (hj : j < V.1) : ∃ T', cl k_Dm_laysRanks [.ref 53, .int (iI (j : Int))] (enc T) = some (none, enc T') ∧ FrM T T' ∧ cM T' V ∧ mBrkN T' (V.2 j) ∧ isRnkN T' (V.2 j) ∧ ∀ q k, q ≠ 53 → (q < 58 ∨ 61 < q) → T'.1 q k = T.1 q k := by
  obtain ⟨T', e, fr, hb, hr⟩ := s_laysRanks (h.ink hV hj)
  have fr' : FrM T T' := (tBrk_fr T (V.2 j 0) (V.2 j 1) (V.2 j 2) (V.2 j 3)).tr (FrM.of fr (fun q k z => aRnk_ref z))
  exact ⟨T', e, fr', h.fr fr', hb, hr, fun q k h1 h2 => fr.1 q k (by unfold aRnk; omega)⟩
set_option maxHeartbeats 1000000 in
theorem lp_mrow1 {V : VW} (hV : okV V) {w : Nat} (hw : w ≤ 1000) {x y : Int} (hx : -20000 ≤ x ∧ x ≤ 20000) (hy : -20000 ≤ y ∧ y ≤ 20000) : ∀ (m j : Nat) (T : TS), j + m = V.1 → cM T V → (∀ c : Nat, c < w → T.1 66 c = iI (setN V (x + c) y j)) → ∀ (a5 a6 : Value), ∃ T', rn k_Dm_laysRow 26 [.ref 53, .int (iI x), .int (iI y), .int (iI (w : Int)), .int (iI (j : Int)), a5, a6] [] (enc T) = some (none, enc T') ∧ FrM T T' ∧ (∀ c : Nat, c < w → T'.1 66 c = iI (setN V (x + c) y V.1)) ∧ (∀ c, T'.1 67 c = T.1 67 c) := by
  have h4 := hV.1
  intro m
  induction m with
  | zero =>
    intro j T hjm hM h1 a5 a6
    have hj : j = V.1 := by omega
    refine ⟨T, ?_, FrM.rf _, by rw [← hj]; exact h1, fun _ => rfl⟩
    rw [e_Dm_laysRow_26, hj]
    simp (disch := first | omega | assumption | decide | (simp (disch := omega) only [iI_lit, iJ_lit, iJ_eq, iI_eq, bI_01, bI_01I] <;> omega)) only [e_Dm_laysRow_28, e_Dm_laysRow_29, e_Dm_laysRow_32, e_Dm_laysRow_35, e_Dm_laysRow_36, e_Dm_laysRow_38, e_Dm_laysRow_41, e_Dm_laysRow_42, e_Dm_laysRow_44, e_Dm_laysRow_47, e_Dm_laysRow_49, e_Dm_laysRow_50, e_Dm_laysRow_52, e_Dm_laysRow_54, e_Dm_laysRow_55, e_Dm_laysRow_58, e_Dm_laysRow_59, e_Dm_laysRow_62, e_Dm_laysRow_64, e_Dm_laysRow_65, e_Dm_laysRow_66, e_Dm_laysRow_67, e_Dm_laysRow_69, e_Dm_laysRow_70, e_Dm_laysRow_72, e_Dm_laysRow_73, e_Dm_laysRow_74, e_Dm_laysRow_77, e_Dm_laysRow_79, e_Dm_laysRow_82, e_Dm_laysRow_83, e_Dm_laysRow_85, e_Dm_laysRow_86, e_Dm_laysRow_89, e_Dm_laysRow_90, e_Dm_laysRow_91, e_Dm_laysRow_92, e_Dm_laysRow_95, e_Dm_laysRow_98, e_Dm_laysRow_101, e_Dm_laysRow_104, bd_some, bd_none, Option.toList_some, Option.toList_none, List.nil_append, List.cons_append, px_kill_int, px_kill_long, px_kill_ref, px_kill_null, iI_lit, iJ_lit, iI_add, iI_sub, iI_mul, iI_neg, iJ_add, iJ_sub, iJ_mul, iJ_neg, iI_lt, iI_le, iI_eq, iJ_lt, iJ_le, iJ_eq, iI_div, iJ_div, tdiv_tmod, iI_J, iJ_I, iI_ix, iI_toInt, iJ_toInt, cmp_ge, cmp_lt, cmp_eq, cmp_gt, cmp_le, cmp_geI, cmp_ltI, cmp_eqI, cmp_gtI, cmp_leI, bI_0I, bI_1I, pin, if_true, hM.1, Int.le_refl]
  | succ m ih =>
    intro j T hjm hM h1 a5 a6
    have hj : j < V.1 := by omega
    have nle : ¬ (V.1 : Int) ≤ (j : Int) := by omega
    obtain ⟨T2, e2, fr2, hM2, hB2, hR2, fw⟩ := m_ranks2 hV hM hj
    have e3 := m_level hV hM2 hj
    obtain ⟨T3, e4, fr4, g4, k4⟩ := lp_mrow2 hV hj hw hx hy w 0 T2 (by omega) hM2 hB2 hR2 (fun c hc => by omega) (fun c _ hc => by rw [fw _ _ (by decide) (by omega)]; exact h1 c hc)
    obtain ⟨T', e5, fr5, g5, k5⟩ := ih (j + 1) T3 (by omega) (hM2.fr fr4) g4 (.int (iI (lvlN (V.2 j)))) (.int (iI (w : Int)))
    refine ⟨T', ?_, (fr2.tr fr4).tr fr5, g5, fun c => by rw [k5, k4, fw _ _ (by decide) (by omega)]⟩
    rw [e_Dm_laysRow_26]
    simp (disch := first | omega | assumption | decide | (simp (disch := omega) only [iI_lit, iJ_lit, iJ_eq, iI_eq, bI_01, bI_01I] <;> omega)) only [e_Dm_laysRow_28, e_Dm_laysRow_29, e_Dm_laysRow_32, e_Dm_laysRow_35, e_Dm_laysRow_36, e_Dm_laysRow_38, e_Dm_laysRow_41, e_Dm_laysRow_42, e_Dm_laysRow_44, e_Dm_laysRow_47, e_Dm_laysRow_49, e_Dm_laysRow_50, bd_some, bd_none, Option.toList_some, Option.toList_none, List.nil_append, List.cons_append, px_kill_int, px_kill_long, px_kill_ref, px_kill_null, iI_lit, iJ_lit, iI_add, iI_sub, iI_mul, iI_neg, iJ_add, iJ_sub, iJ_mul, iJ_neg, iI_lt, iI_le, iI_eq, iJ_lt, iJ_le, iJ_eq, iI_div, iJ_div, tdiv_tmod, iI_J, iJ_I, iI_ix, iI_toInt, iJ_toInt, cmp_ge, cmp_lt, cmp_eq, cmp_gt, cmp_le, cmp_geI, cmp_ltI, cmp_eqI, cmp_gtI, cmp_leI, bI_0I, bI_1I, pin, if_true, hM.1, nle, if_false, e2, e3]
    refine Eq.trans e4 ?_
    simp (disch := first | omega | assumption | decide | (simp (disch := omega) only [iI_lit, iJ_lit, iJ_eq, iI_eq, bI_01, bI_01I] <;> omega)) only [e_Dm_laysRow_98, e_Dm_laysRow_101, bd_some, bd_none, Option.toList_some, Option.toList_none, List.nil_append, List.cons_append, px_kill_int, px_kill_long, px_kill_ref, px_kill_null, iI_lit, iJ_lit, iI_add, iI_sub, iI_mul, iI_neg, iJ_add, iJ_sub, iJ_mul, iJ_neg, iI_lt, iI_le, iI_eq, iJ_lt, iJ_le, iJ_eq, iI_div, iJ_div, tdiv_tmod, iI_J, iJ_I, iI_ix, iI_toInt, iJ_toInt, cmp_ge, cmp_lt, cmp_eq, cmp_gt, cmp_le, cmp_geI, cmp_ltI, cmp_eqI, cmp_gtI, cmp_leI, bI_0I, bI_1I, pin, if_true]
    rw [show (j : Int) + 1 = ((j + 1 : Nat) : Int) by omega]
    exact e5
set_option maxHeartbeats 1000000 in
theorem m_laysRow {T : TS} {V : VW} (hV : okV V) (hM : cM T V) {w : Nat} (hw : w ≤ 1000) {x y : Int} (hx : -20000 ≤ x ∧ x ≤ 20000) (hy : -20000 ≤ y ∧ y ≤ 20000) : ∃ T', cl k_Dm_laysRow [.ref 53, .int (iI x), .int (iI y), .int (iI (w : Int))] (enc T) = some (none, enc T') ∧ FrM T T' ∧ (∀ c : Nat, c < w → T'.1 66 c = iI (setN V (x + c) y V.1)) ∧ (∀ c, T'.1 67 c = T.1 67 c) := by
  obtain ⟨T2, e2, fr2, g2⟩ := lp_mrow0 hw (iI x) (iI y) w 0 T (by omega) (fun c hc => by omega) .null .null
  obtain ⟨T', e3, fr3, g3, k3⟩ := lp_mrow1 hV hw hx hy V.1 0 T2 (by omega) (hM.fr (FrM.win fr2)) g2 .null .null
  refine ⟨T', ?_, (FrM.win fr2).tr fr3, g3, fun c => by rw [k3, fr2.1 _ _ (by unfold aWin; omega)]⟩
  simp only [c_Dm_laysRow, e_Dm_laysRow_0, e_Dm_laysRow_1, bd_some, bd_none, Option.toList_some, Option.toList_none, List.nil_append, List.cons_append, px_kill_int, px_kill_long, px_kill_ref, px_kill_null, iI_lit]
  refine Eq.trans e2 ?_
  simp only [e_Dm_laysRow_23, e_Dm_laysRow_24, bd_some, bd_none, Option.toList_some, Option.toList_none, List.nil_append, List.cons_append, px_kill_int, px_kill_long, px_kill_ref, px_kill_null, iI_lit]
  exact e3
set_option maxHeartbeats 1000000 in
theorem q_Dm_overlay {T : TS} {V : VW} (hV : okV V) (h : cM T V) {x y : Int} (hx : inI x) (hy : inI y) : ∃ T', cl k_Dm_overlay [.ref 53, .int (iI x), .int (iI y)] (enc T) = some (some (.int (iI (qOver V x y))), enc T') ∧ FrM T T' := by
  have hM : cM (t0 T) V := h.fr (t0_fr T)
  have g2 := g_pxM hx hy (enc (t0 T))
  unfold qOver
  by_cases c2 : isX x y
  · rw [bI_tI c2] at g2
    rw [if_pos c2]
    obtain ⟨x1, x2, x3⟩ := id c2
    obtain ⟨T2, e2, fr2, r2⟩ := m_laysRow hV hM (w := 1) (by omega) (x := x) (y := y) (by omega) (by omega)
    have r0 := r2.1 0 (by omega)
    rw [show x + ((0 : Nat) : Int) = x by omega] at r0
    have e2' : cl k_Dm_laysRow [.ref 53, .int (iI x), .int (iI y), .int (iI 1)] (enc (t0 T)) = some (none, enc T2) := e2
    refine ⟨T2, ?_, (t0_fr T).tr fr2⟩
    simp (disch := first | omega | assumption | decide | (simp (disch := omega) only [iI_lit, iJ_lit, iJ_eq, iI_eq, bI_01, bI_01I] <;> omega)) only [c_Dm_overlay, e_Dm_overlay_0, e_Dm_overlay_1, e_Dm_overlay_2, e_Dm_overlay_5, e_Dm_overlay_6, e_Dm_overlay_7, e_Dm_overlay_10, e_Dm_overlay_13, e_Dm_overlay_14, e_Dm_overlay_15, e_Dm_overlay_16, e_Dm_overlay_17, e_Dm_overlay_18, e_Dm_overlay_19, e_Dm_overlay_22, e_Dm_overlay_23, e_Dm_overlay_26, e_Dm_overlay_27, e_Dm_overlay_28, bd_some, bd_none, Option.toList_some, Option.toList_none, List.nil_append, List.cons_append, px_kill_int, px_kill_long, px_kill_ref, px_kill_null, iI_lit, iJ_lit, iI_add, iI_sub, iI_mul, iI_neg, iJ_add, iJ_sub, iJ_mul, iJ_neg, iI_lt, iI_le, iI_eq, iJ_lt, iJ_le, iJ_eq, iI_div, iJ_div, tdiv_tmod, iI_J, iJ_I, iI_ix, iI_toInt, iJ_toInt, cmp_ge, cmp_lt, cmp_eq, cmp_gt, cmp_le, cmp_geI, cmp_ltI, cmp_eqI, cmp_gtI, cmp_leI, bI_0I, bI_1I, pin, if_true, g2, one0, if_false, e2', sh_n66, Int.toNat_zero, r0]
  · rw [bI_fI c2] at g2
    rw [if_neg c2]
    refine ⟨t0 T, ?_, t0_fr T⟩
    simp (disch := first | omega | assumption | decide | (simp (disch := omega) only [iI_lit, iJ_lit, iJ_eq, iI_eq, bI_01, bI_01I] <;> omega)) only [c_Dm_overlay, e_Dm_overlay_0, e_Dm_overlay_1, e_Dm_overlay_2, e_Dm_overlay_5, e_Dm_overlay_6, e_Dm_overlay_7, e_Dm_overlay_10, e_Dm_overlay_13, e_Dm_overlay_14, e_Dm_overlay_15, e_Dm_overlay_16, e_Dm_overlay_17, e_Dm_overlay_18, e_Dm_overlay_19, e_Dm_overlay_22, e_Dm_overlay_23, e_Dm_overlay_26, e_Dm_overlay_27, e_Dm_overlay_28, bd_some, bd_none, Option.toList_some, Option.toList_none, List.nil_append, List.cons_append, px_kill_int, px_kill_long, px_kill_ref, px_kill_null, iI_lit, iJ_lit, iI_add, iI_sub, iI_mul, iI_neg, iJ_add, iJ_sub, iJ_mul, iJ_neg, iI_lt, iI_le, iI_eq, iJ_lt, iJ_le, iJ_eq, iI_div, iJ_div, tdiv_tmod, iI_J, iJ_I, iI_ix, iI_toInt, iJ_toInt, cmp_ge, cmp_lt, cmp_eq, cmp_gt, cmp_le, cmp_geI, cmp_ltI, cmp_eqI, cmp_gtI, cmp_leI, bI_0I, bI_1I, pin, if_true, g2, one0]
