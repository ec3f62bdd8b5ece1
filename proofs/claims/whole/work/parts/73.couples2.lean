/-! most, of couples: the component's loops. -/
theorem lp_ec2 {V : VW} (hV : okV V) {m : Int} (hm : m = 0 ∨ m = 1) {i : Nat} (hi : i < V.1) : ∀ (t j : Nat) (b : CP) (T : TS), j + t = V.1 → okP V b → cC T V → ∀ a9 : Value, ∃ (T' : TS) (b9 : Value), rn k_Ds_endCouple 25 (lEc V m b (i : Int) (j : Int) a9) [] (enc T) = rn k_Ds_endCouple 152 (lEc V m (cpR m V i b j t) (i : Int) (V.1 : Int) b9) [] (enc T') ∧ FrA aB bB T T' ∧ cC T' V := by
  intro t
  induction t with
  | zero =>
    intro j b T hj hb h a9
    have hh := h.1
    have h4 := hV.1
    have ej : (j : Int) = (V.1 : Int) := by omega
    refine ⟨T, a9, ?_, FrA.rf _ _ _, h⟩
    rw [ej, e_Ds_endCouple_25]
    simp (disch := first | omega | assumption | decide | (simp (disch := omega) only [iI_lit, iJ_lit, iJ_eq, iI_eq, bI_01, bI_01I] <;> omega)) only [e_Ds_endCouple_27, e_Ds_endCouple_28, e_Ds_endCouple_31, bd_some, bd_none, Option.toList_some, Option.toList_none, List.nil_append, List.cons_append, px_kill_int, px_kill_long, px_kill_ref, px_kill_null, iI_lit, iJ_lit, iI_add, iI_sub, iI_mul, iI_neg, iJ_add, iJ_sub, iJ_mul, iJ_neg, iI_lt, iI_le, iI_eq, iJ_lt, iJ_le, iJ_eq, iI_div, iJ_div, tdiv_tmod, iI_J, iJ_I, iI_ix, iI_toInt, iJ_toInt, cmp_ge, cmp_lt, cmp_eq, cmp_gt, cmp_le, cmp_geI, cmp_ltI, cmp_eqI, cmp_gtI, cmp_leI, bI_0I, bI_1I, pin, if_true, hh, Int.le_refl]
    rfl
  | succ t ih =>
    intro j b T hj hb h a9
    obtain ⟨T1, c9, e1, fr1, h1⟩ := st_ec hV hm hi (j := j) (by omega) hb h a9
    obtain ⟨T2, b9, e2, fr2, h2⟩ := ih (j + 1) (cpS m V b (i, j)) T1 (by omega) (cpS_ok hb ⟨hi, by show j < V.1; omega⟩) h1 c9
    exact ⟨T2, b9, e1.trans e2, fr1.tr fr2, h2⟩
set_option maxHeartbeats 1000000 in
theorem lp_ec1 {V : VW} (hV : okV V) {m : Int} (hm : m = 0 ∨ m = 1) : ∀ (t i : Nat) (b : CP) (T : TS), i + t = V.1 → okP V b → cC T V → ∀ a8 a9 : Value, ∃ (T' : TS), rn k_Ds_endCouple 10 [.ref 0, .int (iI m), .int (iI (cpK b)), .long (iJ (cuC V b)), .null, .long (iJ (clC V b)), .null, .int (iI (i : Int)), a8, a9] [] (enc T) = some (some (.int (iI (cpK (cpA m V b i t)))), enc T') ∧ FrA aB bB T T' ∧ cC T' V := by
  intro t
  induction t with
  | zero =>
    intro i b T hi hb h a8 a9
    have hh := h.1
    have h4 := hV.1
    have ei : (i : Int) = (V.1 : Int) := by omega
    refine ⟨T, ?_, FrA.rf _ _ _, h⟩
    rw [ei, e_Ds_endCouple_10]
    simp (disch := first | omega | assumption | decide | (simp (disch := omega) only [iI_lit, iJ_lit, iJ_eq, iI_eq, bI_01, bI_01I] <;> omega)) only [e_Ds_endCouple_12, e_Ds_endCouple_13, e_Ds_endCouple_16, e_Ds_endCouple_19, e_Ds_endCouple_21, e_Ds_endCouple_22, e_Ds_endCouple_23, e_Ds_endCouple_158, e_Ds_endCouple_159, bd_some, bd_none, Option.toList_some, Option.toList_none, List.nil_append, List.cons_append, px_kill_int, px_kill_long, px_kill_ref, px_kill_null, iI_lit, iJ_lit, iI_add, iI_sub, iI_mul, iI_neg, iJ_add, iJ_sub, iJ_mul, iJ_neg, iI_lt, iI_le, iI_eq, iJ_lt, iJ_le, iJ_eq, iI_div, iJ_div, tdiv_tmod, iI_J, iJ_I, iI_ix, iI_toInt, iJ_toInt, cmp_ge, cmp_lt, cmp_eq, cmp_gt, cmp_le, cmp_geI, cmp_ltI, cmp_eqI, cmp_gtI, cmp_leI, bI_0I, bI_1I, pin, if_true, hh, Int.le_refl]
    rfl
  | succ t ih =>
    intro i b T hi hb h a8 a9
    have hh := h.1
    have h4 := hV.1
    have nle : ¬ (V.1 : Int) ≤ (i : Int) := by omega
    obtain ⟨T1, c9, e1, fr1, h1⟩ := lp_ec2 hV hm (i := i) (by omega) (V.1 - (i + 1)) (i + 1) b T (by omega) hb h a9
    obtain ⟨T2, e2, fr2, h2⟩ := ih (i + 1) (cpR m V i b (i + 1) (V.1 - (i + 1))) T1 (by omega) (cpR_ok (by omega) _ _ _ (by omega) hb) h1 (.int (iI (V.1 : Int))) c9
    refine ⟨T2, ?_, fr1.tr fr2, h2⟩
    rw [e_Ds_endCouple_10]
    simp (disch := first | omega | assumption | decide | (simp (disch := omega) only [iI_lit, iJ_lit, iJ_eq, iI_eq, bI_01, bI_01I] <;> omega)) only [e_Ds_endCouple_12, e_Ds_endCouple_13, e_Ds_endCouple_16, e_Ds_endCouple_19, e_Ds_endCouple_21, e_Ds_endCouple_22, e_Ds_endCouple_23, bd_some, bd_none, Option.toList_some, Option.toList_none, List.nil_append, List.cons_append, px_kill_int, px_kill_long, px_kill_ref, px_kill_null, iI_lit, iJ_lit, iI_add, iI_sub, iI_mul, iI_neg, iJ_add, iJ_sub, iJ_mul, iJ_neg, iI_lt, iI_le, iI_eq, iJ_lt, iJ_le, iJ_eq, iI_div, iJ_div, tdiv_tmod, iI_J, iJ_I, iI_ix, iI_toInt, iJ_toInt, cmp_ge, cmp_lt, cmp_eq, cmp_gt, cmp_le, cmp_geI, cmp_ltI, cmp_eqI, cmp_gtI, cmp_leI, bI_0I, bI_1I, pin, if_true, hh, nle, if_false]
    rw [show (i : Int) + 1 = ((i + 1 : Nat) : Int) by omega]
    refine e1.trans ?_
    simp (disch := first | omega | assumption | decide | (simp (disch := omega) only [iI_lit, iJ_lit, iJ_eq, iI_eq, bI_01, bI_01I] <;> omega)) only [e_Ds_endCouple_152, e_Ds_endCouple_155, bd_some, bd_none, Option.toList_some, Option.toList_none, List.nil_append, List.cons_append, px_kill_int, px_kill_long, px_kill_ref, px_kill_null, iI_lit, iJ_lit, iI_add, iI_sub, iI_mul, iI_neg, iJ_add, iJ_sub, iJ_mul, iJ_neg, iI_lt, iI_le, iI_eq, iJ_lt, iJ_le, iJ_eq, iI_div, iJ_div, tdiv_tmod, iI_J, iJ_I, iI_ix, iI_toInt, iJ_toInt, cmp_ge, cmp_lt, cmp_eq, cmp_gt, cmp_le, cmp_geI, cmp_ltI, cmp_eqI, cmp_gtI, cmp_leI, bI_0I, bI_1I, pin, if_true]
    rw [show (i : Int) + 1 = ((i + 1 : Nat) : Int) by omega]
    exact e2
def qCouple (V : VW) (m : Int) : Int := cpK (cpA m V none 0 V.1)
theorem c_endCouple {V : VW} (hV : okV V) {m : Int} (hm : m = 0 ∨ m = 1) {T : TS} (h : cC T V) : ∃ T', cl k_Ds_endCouple [.ref 0, .int (iI m)] (enc T) = some (some (.int (iI (qCouple V m))), enc T') ∧ FrA aB bB T T' ∧ cC T' V := by
  obtain ⟨T', e, fr, hC⟩ := lp_ec1 hV hm V.1 0 none T (by omega) (fun p z => by cases z) h .null .null
  refine ⟨T', ?_, fr, hC⟩
  simp (disch := first | omega | assumption | decide | (simp (disch := omega) only [iI_lit, iJ_lit, iJ_eq, iI_eq, bI_01, bI_01I] <;> omega)) only [c_Ds_endCouple, e_Ds_endCouple_0, e_Ds_endCouple_1, e_Ds_endCouple_2, e_Ds_endCouple_3, e_Ds_endCouple_4, e_Ds_endCouple_5, e_Ds_endCouple_7, e_Ds_endCouple_8, bd_some, bd_none, Option.toList_some, Option.toList_none, List.nil_append, List.cons_append, px_kill_int, px_kill_long, px_kill_ref, px_kill_null, iI_lit, iJ_lit, iI_add, iI_sub, iI_mul, iI_neg, iJ_add, iJ_sub, iJ_mul, iJ_neg, iI_lt, iI_le, iI_eq, iJ_lt, iJ_le, iJ_eq, iI_div, iJ_div, tdiv_tmod, iI_J, iJ_I, iI_ix, iI_toInt, iJ_toInt, cmp_ge, cmp_lt, cmp_eq, cmp_gt, cmp_le, cmp_geI, cmp_ltI, cmp_eqI, cmp_gtI, cmp_leI, bI_0I, bI_1I, pin, if_true]
  exact e
/-! how many are alike -/
abbrev alK (V : VW) (i j : Nat) : Int := (bt (V.2 i) (V.2 j)).2.2.2.2.2
def alR (V : VW) (i : Nat) : Int → Nat → Nat → Int
  | n, _, 0 => n
  | n, j, t + 1 => alR V i (n + alK V i j) (j + 1) t
def alA (V : VW) : Int → Nat → Nat → Int
  | n, _, 0 => n
  | n, i, t + 1 => alA V (alR V i n (i + 1) (V.1 - (i + 1))) (i + 1) t
theorem alR_bd {V : VW} (hV : okV V) {i : Nat} (hi : i < V.1) : ∀ (t j : Nat) (n : Int), j + t ≤ V.1 → 0 ≤ n → 0 ≤ alR V i n j t ∧ alR V i n j t ≤ n + t := by
  intro t
  induction t with
  | zero => intro j n _ h; unfold alR; omega
  | succ t ih =>
    intro j n hj h
    have := al01 (hV.2 i hi) (hV.2 j (by omega))
    have := ih (j + 1) (n + alK V i j) (by omega) (by unfold alK; omega)
    unfold alR
    unfold alK at *
    omega
set_option maxHeartbeats 2000000 in
theorem lp_al2 {V : VW} (hV : okV V) {i : Nat} (hi : i < V.1) : ∀ (t j : Nat) (n : Int) (T : TS), j + t = V.1 → (0 ≤ n ∧ n + t ≤ 100) → cC T V → ∃ (T' : TS), rn k_Ds_alikeCouples 16 [.ref 0, .int (iI n), .int (iI (i : Int)), .int (iI (j : Int))] [] (enc T) = rn k_Ds_alikeCouples 68 [.ref 0, .int (iI (alR V i n j t)), .int (iI (i : Int)), .int (iI (V.1 : Int))] [] (enc T') ∧ FrA aB bB T T' ∧ cC T' V := by
  intro t
  induction t with
  | zero =>
    intro j n T hj hn h
    have hh := h.1
    have h4 := hV.1
    have ej : (j : Int) = (V.1 : Int) := by omega
    refine ⟨T, ?_, FrA.rf _ _ _, h⟩
    rw [ej, e_Ds_alikeCouples_16]
    simp (disch := first | omega | assumption | decide | (simp (disch := omega) only [iI_lit, iJ_lit, iJ_eq, iI_eq, bI_01, bI_01I] <;> omega)) only [e_Ds_alikeCouples_17, e_Ds_alikeCouples_18, e_Ds_alikeCouples_21, bd_some, bd_none, Option.toList_some, Option.toList_none, List.nil_append, List.cons_append, px_kill_int, px_kill_long, px_kill_ref, px_kill_null, iI_lit, iJ_lit, iI_add, iI_sub, iI_mul, iI_neg, iJ_add, iJ_sub, iJ_mul, iJ_neg, iI_lt, iI_le, iI_eq, iJ_lt, iJ_le, iJ_eq, iI_div, iJ_div, tdiv_tmod, iI_J, iJ_I, iI_ix, iI_toInt, iJ_toInt, cmp_ge, cmp_lt, cmp_eq, cmp_gt, cmp_le, cmp_geI, cmp_ltI, cmp_eqI, cmp_gtI, cmp_leI, bI_0I, bI_1I, pin, if_true, hh, Int.le_refl]
    rfl
  | succ t ih =>
    intro j n T hj hn h
    have hh := h.1
    have h4 := hV.1
    have hj' : j < V.1 := by omega
    obtain ⟨_, hp, hs, hI⟩ := cC.at hV h hi
    obtain ⟨_, hp', hs', hI'⟩ := cC.at hV h hj'
    obtain ⟨T1, e, fr, hC, ⟨_, _, _, _, b4⟩, hu, hl⟩ := c_beating hV h hi hj'
    have ha := al01 (hV.2 i hi) (hV.2 j hj')
    have ei : ((i : Int)).toNat = i := by omega
    have ej : ((j : Int)).toNat = j := by omega
    have nle : ¬ (V.1 : Int) ≤ (j : Int) := by omega
    obtain ⟨T2, e2, fr2, h2⟩ := ih (j + 1) (n + alK V i j) T1 (by omega) (by unfold alK; omega) hC
    refine ⟨T2, ?_, fr.tr fr2, h2⟩
    refine Eq.trans ?_ e2
    rw [show ((j + 1 : Nat) : Int) = (j : Int) + 1 by omega, e_Ds_alikeCouples_16]
    unfold alK
    rcases ha with ha | ha <;> rw [ha] at b4 ⊢
    · simp (disch := first | omega | assumption | decide | (simp (disch := omega) only [iI_lit, iJ_lit, iJ_eq, iI_eq, bI_01, bI_01I] <;> omega)) only [e_Ds_alikeCouples_17, e_Ds_alikeCouples_18, e_Ds_alikeCouples_21, e_Ds_alikeCouples_24, e_Ds_alikeCouples_25, e_Ds_alikeCouples_28, e_Ds_alikeCouples_29, e_Ds_alikeCouples_32, e_Ds_alikeCouples_33, e_Ds_alikeCouples_34, e_Ds_alikeCouples_37, e_Ds_alikeCouples_38, e_Ds_alikeCouples_41, e_Ds_alikeCouples_42, e_Ds_alikeCouples_43, e_Ds_alikeCouples_46, e_Ds_alikeCouples_49, e_Ds_alikeCouples_50, e_Ds_alikeCouples_53, e_Ds_alikeCouples_56, e_Ds_alikeCouples_59, e_Ds_alikeCouples_62, e_Ds_alikeCouples_65, bd_some, bd_none, Option.toList_some, Option.toList_none, List.nil_append, List.cons_append, px_kill_int, px_kill_long, px_kill_ref, px_kill_null, iI_lit, iJ_lit, iI_add, iI_sub, iI_mul, iI_neg, iJ_add, iJ_sub, iJ_mul, iJ_neg, iI_lt, iI_le, iI_eq, iJ_lt, iJ_le, iJ_eq, iI_div, iJ_div, tdiv_tmod, iI_J, iJ_I, iI_ix, iI_toInt, iJ_toInt, cmp_ge, cmp_lt, cmp_eq, cmp_gt, cmp_le, cmp_geI, cmp_ltI, cmp_eqI, cmp_gtI, cmp_leI, bI_0I, bI_1I, pin, if_true, hh, nle, if_false, sh_n5, sh_n14, ei, ej, hs, hs', e, b4, Int.add_zero]
    · simp (disch := first | omega | assumption | decide | (simp (disch := omega) only [iI_lit, iJ_lit, iJ_eq, iI_eq, bI_01, bI_01I] <;> omega)) only [e_Ds_alikeCouples_17, e_Ds_alikeCouples_18, e_Ds_alikeCouples_21, e_Ds_alikeCouples_24, e_Ds_alikeCouples_25, e_Ds_alikeCouples_28, e_Ds_alikeCouples_29, e_Ds_alikeCouples_32, e_Ds_alikeCouples_33, e_Ds_alikeCouples_34, e_Ds_alikeCouples_37, e_Ds_alikeCouples_38, e_Ds_alikeCouples_41, e_Ds_alikeCouples_42, e_Ds_alikeCouples_43, e_Ds_alikeCouples_46, e_Ds_alikeCouples_49, e_Ds_alikeCouples_50, e_Ds_alikeCouples_53, e_Ds_alikeCouples_56, e_Ds_alikeCouples_59, e_Ds_alikeCouples_62, e_Ds_alikeCouples_65, bd_some, bd_none, Option.toList_some, Option.toList_none, List.nil_append, List.cons_append, px_kill_int, px_kill_long, px_kill_ref, px_kill_null, iI_lit, iJ_lit, iI_add, iI_sub, iI_mul, iI_neg, iJ_add, iJ_sub, iJ_mul, iJ_neg, iI_lt, iI_le, iI_eq, iJ_lt, iJ_le, iJ_eq, iI_div, iJ_div, tdiv_tmod, iI_J, iJ_I, iI_ix, iI_toInt, iJ_toInt, cmp_ge, cmp_lt, cmp_eq, cmp_gt, cmp_le, cmp_geI, cmp_ltI, cmp_eqI, cmp_gtI, cmp_leI, bI_0I, bI_1I, pin, if_true, hh, nle, if_false, sh_n5, sh_n14, ei, ej, hs, hs', e, b4, one0]
set_option maxHeartbeats 1000000 in
theorem lp_al1 {V : VW} (hV : okV V) : ∀ (t i : Nat) (n : Int) (T : TS), i + t = V.1 → (0 ≤ n ∧ n ≤ 10 * i) → cC T V → ∀ a3 : Value, ∃ (T' : TS), rn k_Ds_alikeCouples 4 [.ref 0, .int (iI n), .int (iI (i : Int)), a3] [] (enc T) = some (some (.int (iI (alA V n i t))), enc T') ∧ FrA aB bB T T' ∧ cC T' V := by
  intro t
  induction t with
  | zero =>
    intro i n T hi hn h a3
    have hh := h.1
    have h4 := hV.1
    have ei : (i : Int) = (V.1 : Int) := by omega
    refine ⟨T, ?_, FrA.rf _ _ _, h⟩
    rw [ei, e_Ds_alikeCouples_4]
    simp (disch := first | omega | assumption | decide | (simp (disch := omega) only [iI_lit, iJ_lit, iJ_eq, iI_eq, bI_01, bI_01I] <;> omega)) only [e_Ds_alikeCouples_5, e_Ds_alikeCouples_6, e_Ds_alikeCouples_9, e_Ds_alikeCouples_12, e_Ds_alikeCouples_13, e_Ds_alikeCouples_14, e_Ds_alikeCouples_15, e_Ds_alikeCouples_74, e_Ds_alikeCouples_75, bd_some, bd_none, Option.toList_some, Option.toList_none, List.nil_append, List.cons_append, px_kill_int, px_kill_long, px_kill_ref, px_kill_null, iI_lit, iJ_lit, iI_add, iI_sub, iI_mul, iI_neg, iJ_add, iJ_sub, iJ_mul, iJ_neg, iI_lt, iI_le, iI_eq, iJ_lt, iJ_le, iJ_eq, iI_div, iJ_div, tdiv_tmod, iI_J, iJ_I, iI_ix, iI_toInt, iJ_toInt, cmp_ge, cmp_lt, cmp_eq, cmp_gt, cmp_le, cmp_geI, cmp_ltI, cmp_eqI, cmp_gtI, cmp_leI, bI_0I, bI_1I, pin, if_true, hh, Int.le_refl]
    rfl
  | succ t ih =>
    intro i n T hi hn h a3
    have hh := h.1
    have h4 := hV.1
    have nle : ¬ (V.1 : Int) ≤ (i : Int) := by omega
    have bd := alR_bd hV (i := i) (by omega) (V.1 - (i + 1)) (i + 1) n (by omega) hn.1
    obtain ⟨T1, e1, fr1, h1⟩ := lp_al2 hV (i := i) (by omega) (V.1 - (i + 1)) (i + 1) n T (by omega) (by omega) h
    obtain ⟨T2, e2, fr2, h2⟩ := ih (i + 1) (alR V i n (i + 1) (V.1 - (i + 1))) T1 (by omega) (by omega) h1 (.int (iI (V.1 : Int)))
    refine ⟨T2, ?_, fr1.tr fr2, h2⟩
    rw [e_Ds_alikeCouples_4]
    simp (disch := first | omega | assumption | decide | (simp (disch := omega) only [iI_lit, iJ_lit, iJ_eq, iI_eq, bI_01, bI_01I] <;> omega)) only [e_Ds_alikeCouples_5, e_Ds_alikeCouples_6, e_Ds_alikeCouples_9, e_Ds_alikeCouples_12, e_Ds_alikeCouples_13, e_Ds_alikeCouples_14, e_Ds_alikeCouples_15, bd_some, bd_none, Option.toList_some, Option.toList_none, List.nil_append, List.cons_append, px_kill_int, px_kill_long, px_kill_ref, px_kill_null, iI_lit, iJ_lit, iI_add, iI_sub, iI_mul, iI_neg, iJ_add, iJ_sub, iJ_mul, iJ_neg, iI_lt, iI_le, iI_eq, iJ_lt, iJ_le, iJ_eq, iI_div, iJ_div, tdiv_tmod, iI_J, iJ_I, iI_ix, iI_toInt, iJ_toInt, cmp_ge, cmp_lt, cmp_eq, cmp_gt, cmp_le, cmp_geI, cmp_ltI, cmp_eqI, cmp_gtI, cmp_leI, bI_0I, bI_1I, pin, if_true, hh, nle, if_false]
    rw [show (i : Int) + 1 = ((i + 1 : Nat) : Int) by omega]
    refine e1.trans ?_
    simp (disch := first | omega | assumption | decide | (simp (disch := omega) only [iI_lit, iJ_lit, iJ_eq, iI_eq, bI_01, bI_01I] <;> omega)) only [e_Ds_alikeCouples_68, e_Ds_alikeCouples_71, bd_some, bd_none, Option.toList_some, Option.toList_none, List.nil_append, List.cons_append, px_kill_int, px_kill_long, px_kill_ref, px_kill_null, iI_lit, iJ_lit, iI_add, iI_sub, iI_mul, iI_neg, iJ_add, iJ_sub, iJ_mul, iJ_neg, iI_lt, iI_le, iI_eq, iJ_lt, iJ_le, iJ_eq, iI_div, iJ_div, tdiv_tmod, iI_J, iJ_I, iI_ix, iI_toInt, iJ_toInt, cmp_ge, cmp_lt, cmp_eq, cmp_gt, cmp_le, cmp_geI, cmp_ltI, cmp_eqI, cmp_gtI, cmp_leI, bI_0I, bI_1I, pin, if_true]
    rw [show (i : Int) + 1 = ((i + 1 : Nat) : Int) by omega]
    exact e2
theorem c_alike {V : VW} (hV : okV V) {T : TS} (h : cC T V) : ∃ T', cl k_Ds_alikeCouples [.ref 0] (enc T) = some (some (.int (iI (alA V 0 0 V.1))), enc T') ∧ FrA aB bB T T' ∧ cC T' V := by
  obtain ⟨T', e, fr, hC⟩ := lp_al1 hV V.1 0 0 T (by omega) (by omega) h .null
  refine ⟨T', ?_, fr, hC⟩
  simp (disch := first | omega | assumption | decide | (simp (disch := omega) only [iI_lit, iJ_lit, iJ_eq, iI_eq, bI_01, bI_01I] <;> omega)) only [c_Ds_alikeCouples, e_Ds_alikeCouples_0, e_Ds_alikeCouples_1, e_Ds_alikeCouples_2, e_Ds_alikeCouples_3, bd_some, bd_none, Option.toList_some, Option.toList_none, List.nil_append, List.cons_append, px_kill_int, px_kill_long, px_kill_ref, px_kill_null, iI_lit, iJ_lit, iI_add, iI_sub, iI_mul, iI_neg, iJ_add, iJ_sub, iJ_mul, iJ_neg, iI_lt, iI_le, iI_eq, iJ_lt, iJ_le, iJ_eq, iI_div, iJ_div, tdiv_tmod, iI_J, iJ_I, iI_ix, iI_toInt, iJ_toInt, cmp_ge, cmp_lt, cmp_eq, cmp_gt, cmp_le, cmp_geI, cmp_ltI, cmp_eqI, cmp_gtI, cmp_leI, bI_0I, bI_1I, pin, if_true]
  exact e
/-! the greatest cell, pixels inked -/
def gcA (V : VW) : Int → Nat → Nat → Int
  | n, _, 0 => n
  | n, i, t + 1 => gcA V (mx2 n (celN (V.2 i))) (i + 1) t
def ipA (V : VW) : Int → Nat → Nat → Int
  | n, _, 0 => n
  | n, i, t + 1 => ipA V (n + lvlN (V.2 i)) (i + 1) t
theorem mx2_bd {a b M : Int} (ha : 0 ≤ a ∧ a ≤ M) (hb : 0 ≤ b ∧ b ≤ M) : 0 ≤ mx2 a b ∧ mx2 a b ≤ M := by unfold mx2; split <;> omega
theorem celN_bd {f : Nat → Int} (hf : okN f) : 0 < celN f ∧ celN f ≤ 144 := cel_bd hf.1
set_option maxHeartbeats 1000000 in
theorem lp_gc {V : VW} (hV : okV V) {T : TS} (h : cC T V) : ∀ (t i : Nat) (n : Int), i + t = V.1 → (0 ≤ n ∧ n ≤ 144) → rn k_Ds_greatestCell 4 [.ref 0, .int (iI n), .int (iI (i : Int))] [] (enc T) = some (some (.int (iI (gcA V n i t))), enc T) := by
  intro t
  have hh := h.1
  have h4 := hV.1
  induction t with
  | zero =>
    intro i n hi hn
    have ei : (i : Int) = (V.1 : Int) := by omega
    rw [ei, e_Ds_greatestCell_4]
    simp (disch := first | omega | assumption | decide | (simp (disch := omega) only [iI_lit, iJ_lit, iJ_eq, iI_eq, bI_01, bI_01I] <;> omega)) only [e_Ds_greatestCell_5, e_Ds_greatestCell_6, e_Ds_greatestCell_9, e_Ds_greatestCell_12, e_Ds_greatestCell_13, e_Ds_greatestCell_14, e_Ds_greatestCell_17, e_Ds_greatestCell_18, e_Ds_greatestCell_19, e_Ds_greatestCell_22, e_Ds_greatestCell_25, e_Ds_greatestCell_26, e_Ds_greatestCell_29, e_Ds_greatestCell_32, e_Ds_greatestCell_33, bd_some, bd_none, Option.toList_some, Option.toList_none, List.nil_append, List.cons_append, px_kill_int, px_kill_long, px_kill_ref, px_kill_null, iI_lit, iJ_lit, iI_add, iI_sub, iI_mul, iI_neg, iJ_add, iJ_sub, iJ_mul, iJ_neg, iI_lt, iI_le, iI_eq, iJ_lt, iJ_le, iJ_eq, iI_div, iJ_div, tdiv_tmod, iI_J, iJ_I, iI_ix, iI_toInt, iJ_toInt, cmp_ge, cmp_lt, cmp_eq, cmp_gt, cmp_le, cmp_geI, cmp_ltI, cmp_eqI, cmp_gtI, cmp_leI, bI_0I, bI_1I, pin, if_true, hh, Int.le_refl]
    rfl
  | succ t ih =>
    intro i n hi hn
    have hi' : i < V.1 := by omega
    obtain ⟨_, hp, hs, hI⟩ := cC.at hV h hi'
    have hc := hI.1.2.2.2.2.1
    have bd := celN_bd (hV.2 i hi')
    have ei : ((i : Int)).toNat = i := by omega
    have nle : ¬ (V.1 : Int) ≤ (i : Int) := by omega
    have mx := g_max (a := n) (b := celN (V.2 i)) (by omega) (by omega) (enc T)
    have e := ih (i + 1) (mx2 n (celN (V.2 i))) (by omega) (mx2_bd hn (by omega))
    refine Eq.trans ?_ e
    rw [show ((i + 1 : Nat) : Int) = (i : Int) + 1 by omega, e_Ds_greatestCell_4]
    simp (disch := first | omega | assumption | decide | (simp (disch := omega) only [iI_lit, iJ_lit, iJ_eq, iI_eq, bI_01, bI_01I] <;> omega)) only [e_Ds_greatestCell_5, e_Ds_greatestCell_6, e_Ds_greatestCell_9, e_Ds_greatestCell_12, e_Ds_greatestCell_13, e_Ds_greatestCell_14, e_Ds_greatestCell_17, e_Ds_greatestCell_18, e_Ds_greatestCell_19, e_Ds_greatestCell_22, e_Ds_greatestCell_25, e_Ds_greatestCell_26, e_Ds_greatestCell_29, bd_some, bd_none, Option.toList_some, Option.toList_none, List.nil_append, List.cons_append, px_kill_int, px_kill_long, px_kill_ref, px_kill_null, iI_lit, iJ_lit, iI_add, iI_sub, iI_mul, iI_neg, iJ_add, iJ_sub, iJ_mul, iJ_neg, iI_lt, iI_le, iI_eq, iJ_lt, iJ_le, iJ_eq, iI_div, iJ_div, tdiv_tmod, iI_J, iJ_I, iI_ix, iI_toInt, iJ_toInt, cmp_ge, cmp_lt, cmp_eq, cmp_gt, cmp_le, cmp_geI, cmp_ltI, cmp_eqI, cmp_gtI, cmp_leI, bI_0I, bI_1I, pin, if_true, hh, nle, if_false, sh_n5, ei, hs, hc, mx]
theorem c_greatest {V : VW} (hV : okV V) {T : TS} (h : cC T V) : cl k_Ds_greatestCell [.ref 0] (enc T) = some (some (.int (iI (gcA V 0 0 V.1))), enc T) := by
  have e := lp_gc hV h V.1 0 0 (by omega) (by omega)
  simp (disch := first | omega | assumption | decide | (simp (disch := omega) only [iI_lit, iJ_lit, iJ_eq, iI_eq, bI_01, bI_01I] <;> omega)) only [c_Ds_greatestCell, e_Ds_greatestCell_0, e_Ds_greatestCell_1, e_Ds_greatestCell_2, e_Ds_greatestCell_3, bd_some, bd_none, Option.toList_some, Option.toList_none, List.nil_append, List.cons_append, px_kill_int, px_kill_long, px_kill_ref, px_kill_null, iI_lit, iJ_lit, iI_add, iI_sub, iI_mul, iI_neg, iJ_add, iJ_sub, iJ_mul, iJ_neg, iI_lt, iI_le, iI_eq, iJ_lt, iJ_le, iJ_eq, iI_div, iJ_div, tdiv_tmod, iI_J, iJ_I, iI_ix, iI_toInt, iJ_toInt, cmp_ge, cmp_lt, cmp_eq, cmp_gt, cmp_le, cmp_geI, cmp_ltI, cmp_eqI, cmp_gtI, cmp_leI, bI_0I, bI_1I, pin, if_true]
  exact e
set_option maxHeartbeats 1000000 in
theorem lp_ip {V : VW} (hV : okV V) {T : TS} (h : cC T V) : ∀ (t i : Nat) (n : Int), i + t = V.1 → (0 ≤ n ∧ n ≤ 144 * i) → rn k_Ds_inkedPixels 4 [.ref 0, .int (iI n), .int (iI (i : Int))] [] (enc T) = some (some (.int (iI (ipA V n i t))), enc T) := by
  intro t
  have hh := h.1
  have h4 := hV.1
  induction t with
  | zero =>
    intro i n hi hn
    have ei : (i : Int) = (V.1 : Int) := by omega
    rw [ei, e_Ds_inkedPixels_4]
    simp (disch := first | omega | assumption | decide | (simp (disch := omega) only [iI_lit, iJ_lit, iJ_eq, iI_eq, bI_01, bI_01I] <;> omega)) only [e_Ds_inkedPixels_5, e_Ds_inkedPixels_6, e_Ds_inkedPixels_9, e_Ds_inkedPixels_12, e_Ds_inkedPixels_13, e_Ds_inkedPixels_14, e_Ds_inkedPixels_17, e_Ds_inkedPixels_18, e_Ds_inkedPixels_19, e_Ds_inkedPixels_22, e_Ds_inkedPixels_23, e_Ds_inkedPixels_24, e_Ds_inkedPixels_27, e_Ds_inkedPixels_30, e_Ds_inkedPixels_31, bd_some, bd_none, Option.toList_some, Option.toList_none, List.nil_append, List.cons_append, px_kill_int, px_kill_long, px_kill_ref, px_kill_null, iI_lit, iJ_lit, iI_add, iI_sub, iI_mul, iI_neg, iJ_add, iJ_sub, iJ_mul, iJ_neg, iI_lt, iI_le, iI_eq, iJ_lt, iJ_le, iJ_eq, iI_div, iJ_div, tdiv_tmod, iI_J, iJ_I, iI_ix, iI_toInt, iJ_toInt, cmp_ge, cmp_lt, cmp_eq, cmp_gt, cmp_le, cmp_geI, cmp_ltI, cmp_eqI, cmp_gtI, cmp_leI, bI_0I, bI_1I, pin, if_true, hh, Int.le_refl]
    rfl
  | succ t ih =>
    intro i n hi hn
    have hi' : i < V.1 := by omega
    obtain ⟨_, hp, hs, hI⟩ := cC.at hV h hi'
    have bd := celN_bd (hV.2 i hi')
    have bl := lvlN_bd (hV.2 i hi')
    have ei : ((i : Int)).toNat = i := by omega
    have nle : ¬ (V.1 : Int) ≤ (i : Int) := by omega
    have lv := s_inklevel T hs hI.1.2.2.2.2.1 hI.2.1 (by show 0 ≤ celN (V.2 i) ∧ celN (V.2 i) ≤ 144; omega) (hV.2 i hi').2.2.1
    have elv : (cel (V.2 i 0) (V.2 i 1) (V.2 i 2) (V.2 i 3) * V.2 i 5 + 50) / 100 = lvlN (V.2 i) := rfl
    rw [elv] at lv
    have e := ih (i + 1) (n + lvlN (V.2 i)) (by omega) (by omega)
    refine Eq.trans ?_ e
    rw [show ((i + 1 : Nat) : Int) = (i : Int) + 1 by omega, e_Ds_inkedPixels_4]
    simp (disch := first | omega | assumption | decide | (simp (disch := omega) only [iI_lit, iJ_lit, iJ_eq, iI_eq, bI_01, bI_01I] <;> omega)) only [e_Ds_inkedPixels_5, e_Ds_inkedPixels_6, e_Ds_inkedPixels_9, e_Ds_inkedPixels_12, e_Ds_inkedPixels_13, e_Ds_inkedPixels_14, e_Ds_inkedPixels_17, e_Ds_inkedPixels_18, e_Ds_inkedPixels_19, e_Ds_inkedPixels_22, e_Ds_inkedPixels_23, e_Ds_inkedPixels_24, e_Ds_inkedPixels_27, bd_some, bd_none, Option.toList_some, Option.toList_none, List.nil_append, List.cons_append, px_kill_int, px_kill_long, px_kill_ref, px_kill_null, iI_lit, iJ_lit, iI_add, iI_sub, iI_mul, iI_neg, iJ_add, iJ_sub, iJ_mul, iJ_neg, iI_lt, iI_le, iI_eq, iJ_lt, iJ_le, iJ_eq, iI_div, iJ_div, tdiv_tmod, iI_J, iJ_I, iI_ix, iI_toInt, iJ_toInt, cmp_ge, cmp_lt, cmp_eq, cmp_gt, cmp_le, cmp_geI, cmp_ltI, cmp_eqI, cmp_gtI, cmp_leI, bI_0I, bI_1I, pin, if_true, hh, nle, if_false, sh_n5, ei, hs, lv]
theorem c_inkedP {V : VW} (hV : okV V) {T : TS} (h : cC T V) : cl k_Ds_inkedPixels [.ref 0] (enc T) = some (some (.int (iI (ipA V 0 0 V.1))), enc T) := by
  have e := lp_ip hV h V.1 0 0 (by omega) (by omega)
  simp (disch := first | omega | assumption | decide | (simp (disch := omega) only [iI_lit, iJ_lit, iJ_eq, iI_eq, bI_01, bI_01I] <;> omega)) only [c_Ds_inkedPixels, e_Ds_inkedPixels_0, e_Ds_inkedPixels_1, e_Ds_inkedPixels_2, e_Ds_inkedPixels_3, bd_some, bd_none, Option.toList_some, Option.toList_none, List.nil_append, List.cons_append, px_kill_int, px_kill_long, px_kill_ref, px_kill_null, iI_lit, iJ_lit, iI_add, iI_sub, iI_mul, iI_neg, iJ_add, iJ_sub, iJ_mul, iJ_neg, iI_lt, iI_le, iI_eq, iJ_lt, iJ_le, iJ_eq, iI_div, iJ_div, tdiv_tmod, iI_J, iJ_I, iI_ix, iI_toInt, iJ_toInt, cmp_ge, cmp_lt, cmp_eq, cmp_gt, cmp_le, cmp_geI, cmp_ltI, cmp_eqI, cmp_gtI, cmp_leI, bI_0I, bI_1I, pin, if_true]
  exact e
