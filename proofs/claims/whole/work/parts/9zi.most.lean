/-! most, on both sides. -/
noncomputable def grB (V : VW) (m : Int) (i : Nat) : Int32 := if gN (V.2 i) (gK m) ≤ lvlN (V.2 i) then iI 1 <<< (iI (i : Int) &&& iI 31) else iI 0
noncomputable def grS (V : VW) (m : Int) : Int32 → Nat → Nat → Int32
  | acc, _, 0 => acc
  | acc, i, t + 1 => grS V m (acc ||| grB V m i) (i + 1) t
theorem or_i0 (x : Int32) : x ||| iI 0 = x := Int32.or_zero
theorem gN_bd {f : Nat → Int} (hf : okN f) {m : Int} (hm : m = 0 ∨ m = 1) : 1 ≤ gN f (gK m) ∧ gN f (gK m) ≤ 144 := by
  obtain ⟨t, ⟨t1, t2⟩, -, tg⟩ := gP_ex (kd := f 4) hf.1 hm
  have hcb := cel_bd hf.1
  have e : gN f (gK m) = (t : Int) := tg
  omega
set_option maxHeartbeats 1000000 in
theorem lp_ig {S : FS} (hS : okF S) {m : Int} (hm : m = 0 ∨ m = 1) : ∀ (t i : Nat) (acc : Int32) (T : TS), i + t = S.1.1 → fC GG T S → ∃ T', rn k_Ds_inksGrown 4 [.ref 0, .int (iI m), .int acc, .int (iI (i : Int))] [] (enc T) = some (some (.int (grS S.1 m acc i t)), enc T') ∧ fC GG T' S ∧ sepC T T' := by
  have h4 := hS.1.1
  intro t
  induction t with
  | zero =>
    intro i acc T hi h
    have ei : (i : Int) = (S.1.1 : Int) := by omega
    have hh := h.1.1
    refine ⟨T, ?_, h, sepC.rf T⟩
    rw [ei, e_Ds_inksGrown_4]
    simp (disch := first | omega | assumption | decide | (simp (disch := omega) only [iI_lit, iJ_lit, iJ_eq, iI_eq, bI_01, bI_01I] <;> omega)) only [e_Ds_inksGrown_5, e_Ds_inksGrown_6, e_Ds_inksGrown_9, e_Ds_inksGrown_12, e_Ds_inksGrown_13, e_Ds_inksGrown_16, e_Ds_inksGrown_17, e_Ds_inksGrown_20, e_Ds_inksGrown_21, e_Ds_inksGrown_22, e_Ds_inksGrown_25, e_Ds_inksGrown_26, e_Ds_inksGrown_29, e_Ds_inksGrown_30, e_Ds_inksGrown_31, e_Ds_inksGrown_34, e_Ds_inksGrown_35, e_Ds_inksGrown_38, e_Ds_inksGrown_39, e_Ds_inksGrown_42, e_Ds_inksGrown_43, e_Ds_inksGrown_44, e_Ds_inksGrown_47, e_Ds_inksGrown_50, e_Ds_inksGrown_51, e_Ds_inksGrown_54, e_Ds_inksGrown_55, e_Ds_inksGrown_56, e_Ds_inksGrown_59, e_Ds_inksGrown_62, e_Ds_inksGrown_63, e_Ds_inksGrown_64, e_Ds_inksGrown_65, e_Ds_inksGrown_66, e_Ds_inksGrown_67, e_Ds_inksGrown_68, e_Ds_inksGrown_71, e_Ds_inksGrown_74, e_Ds_inksGrown_75, bd_some, bd_none, Option.toList_some, Option.toList_none, List.nil_append, List.cons_append, px_kill_int, px_kill_long, px_kill_ref, px_kill_null, iI_lit, iJ_lit, iI_add, iI_sub, iI_mul, iI_neg, iJ_add, iJ_sub, iJ_mul, iJ_neg, iI_lt, iI_le, iI_eq, iJ_lt, iJ_le, iJ_eq, iI_div, iJ_div, tdiv_tmod, iI_J, iJ_I, iI_ix, iI_toInt, iJ_toInt, cmp_ge, cmp_lt, cmp_eq, cmp_gt, cmp_le, cmp_geI, cmp_ltI, cmp_eqI, cmp_gtI, cmp_leI, bI_0I, bI_1I, pin, if_true, hh, Int.le_refl]
    rfl
  | succ t ih =>
    intro i acc T hi h
    have hi' : i < S.1.1 := by omega
    have hh := h.1.1
    obtain ⟨_, hp, hs, hI⟩ := cC.at hS.1 h.1 hi'
    have ei : ((i : Int)).toNat = i := by omega
    have nle : ¬ (S.1.1 : Int) ≤ (i : Int) := by omega
    obtain ⟨T1, e1, hF1, sp1, hR1, k1, k2, k3⟩ := c_grow hS h hi'
    have hR : T1.2.2.1 i = T.2.2.1 i := by rw [hR1]
    obtain ⟨_, hp', hs', hI'⟩ := cC.at hS.1 hF1.1 hi'
    rw [hR] at hI'
    have bd := celN_bd (hS.1.2 i hi')
    have bl := lvlN_bd (hS.1.2 i hi')
    have lv := s_inklevel T1 hs hI'.1.2.2.2.2.1 hI'.2.1 (by show 0 ≤ celN (S.1.2 i) ∧ celN (S.1.2 i) ≤ 144; omega) (hS.1.2 i hi').2.2.1
    have elv : (cel (S.1.2 i 0) (S.1.2 i 1) (S.1.2 i 2) (S.1.2 i 3) * S.1.2 i 5 + 50) / 100 = lvlN (S.1.2 i) := rfl
    rw [elv] at lv
    have gb := gN_bd (hS.1.2 i hi') hm
    obtain ⟨T', e2, hF2, sp2⟩ := ih (i + 1) (acc ||| grB S.1 m i) T1 (by omega) hF1
    refine ⟨T', ?_, hF2, sp1.tr sp2⟩
    show _ = some (some (Value.int (grS S.1 m (acc ||| grB S.1 m i) (i + 1) t)), enc T')
    rw [← e2, show ((i + 1 : Nat) : Int) = (i : Int) + 1 by omega, e_Ds_inksGrown_4]
    by_cases c : gN (S.1.2 i) (gK m) ≤ lvlN (S.1.2 i)
    · have c' : ¬ lvlN (S.1.2 i) < gN (S.1.2 i) (gK m) := by omega
      unfold grB
      rw [if_pos c]
      rcases hm with z | z
      · subst z
        rw [gK0] at c' gb
        simp (disch := first | omega | assumption | decide | (simp (disch := omega) only [iI_lit, iJ_lit, iJ_eq, iI_eq, bI_01, bI_01I] <;> omega)) only [e_Ds_inksGrown_5, e_Ds_inksGrown_6, e_Ds_inksGrown_9, e_Ds_inksGrown_12, e_Ds_inksGrown_13, e_Ds_inksGrown_16, e_Ds_inksGrown_17, e_Ds_inksGrown_20, e_Ds_inksGrown_21, e_Ds_inksGrown_22, e_Ds_inksGrown_25, e_Ds_inksGrown_26, e_Ds_inksGrown_29, e_Ds_inksGrown_30, e_Ds_inksGrown_31, e_Ds_inksGrown_34, e_Ds_inksGrown_35, e_Ds_inksGrown_38, e_Ds_inksGrown_39, e_Ds_inksGrown_42, e_Ds_inksGrown_43, e_Ds_inksGrown_44, e_Ds_inksGrown_47, e_Ds_inksGrown_50, e_Ds_inksGrown_51, e_Ds_inksGrown_54, e_Ds_inksGrown_55, e_Ds_inksGrown_56, e_Ds_inksGrown_59, e_Ds_inksGrown_62, e_Ds_inksGrown_63, e_Ds_inksGrown_64, e_Ds_inksGrown_65, e_Ds_inksGrown_66, e_Ds_inksGrown_67, e_Ds_inksGrown_68, e_Ds_inksGrown_71, bd_some, bd_none, Option.toList_some, Option.toList_none, List.nil_append, List.cons_append, px_kill_int, px_kill_long, px_kill_ref, px_kill_null, iI_lit, iJ_lit, iI_add, iI_sub, iI_mul, iI_neg, iJ_add, iJ_sub, iJ_mul, iJ_neg, iI_lt, iI_le, iI_eq, iJ_lt, iJ_le, iJ_eq, iI_div, iJ_div, tdiv_tmod, iI_J, iJ_I, iI_ix, iI_toInt, iJ_toInt, cmp_ge, cmp_lt, cmp_eq, cmp_gt, cmp_le, cmp_geI, cmp_ltI, cmp_eqI, cmp_gtI, cmp_leI, bI_0I, bI_1I, pin, if_true, hh, nle, if_false, sh_n5, ei, hs, e1, hR, lv, k2, c']
      · subst z
        rw [gK1] at c' gb
        simp (disch := first | omega | assumption | decide | (simp (disch := omega) only [iI_lit, iJ_lit, iJ_eq, iI_eq, bI_01, bI_01I] <;> omega)) only [e_Ds_inksGrown_5, e_Ds_inksGrown_6, e_Ds_inksGrown_9, e_Ds_inksGrown_12, e_Ds_inksGrown_13, e_Ds_inksGrown_16, e_Ds_inksGrown_17, e_Ds_inksGrown_20, e_Ds_inksGrown_21, e_Ds_inksGrown_22, e_Ds_inksGrown_25, e_Ds_inksGrown_26, e_Ds_inksGrown_29, e_Ds_inksGrown_30, e_Ds_inksGrown_31, e_Ds_inksGrown_34, e_Ds_inksGrown_35, e_Ds_inksGrown_38, e_Ds_inksGrown_39, e_Ds_inksGrown_42, e_Ds_inksGrown_43, e_Ds_inksGrown_44, e_Ds_inksGrown_47, e_Ds_inksGrown_50, e_Ds_inksGrown_51, e_Ds_inksGrown_54, e_Ds_inksGrown_55, e_Ds_inksGrown_56, e_Ds_inksGrown_59, e_Ds_inksGrown_62, e_Ds_inksGrown_63, e_Ds_inksGrown_64, e_Ds_inksGrown_65, e_Ds_inksGrown_66, e_Ds_inksGrown_67, e_Ds_inksGrown_68, e_Ds_inksGrown_71, bd_some, bd_none, Option.toList_some, Option.toList_none, List.nil_append, List.cons_append, px_kill_int, px_kill_long, px_kill_ref, px_kill_null, iI_lit, iJ_lit, iI_add, iI_sub, iI_mul, iI_neg, iJ_add, iJ_sub, iJ_mul, iJ_neg, iI_lt, iI_le, iI_eq, iJ_lt, iJ_le, iJ_eq, iI_div, iJ_div, tdiv_tmod, iI_J, iJ_I, iI_ix, iI_toInt, iJ_toInt, cmp_ge, cmp_lt, cmp_eq, cmp_gt, cmp_le, cmp_geI, cmp_ltI, cmp_eqI, cmp_gtI, cmp_leI, bI_0I, bI_1I, pin, if_true, hh, nle, if_false, sh_n5, ei, hs, e1, hR, lv, k3, c', one0]
    · have c' : lvlN (S.1.2 i) < gN (S.1.2 i) (gK m) := by omega
      unfold grB
      rw [if_neg c, or_i0]
      rcases hm with z | z
      · subst z
        rw [gK0] at c' gb
        simp (disch := first | omega | assumption | decide | (simp (disch := omega) only [iI_lit, iJ_lit, iJ_eq, iI_eq, bI_01, bI_01I] <;> omega)) only [e_Ds_inksGrown_5, e_Ds_inksGrown_6, e_Ds_inksGrown_9, e_Ds_inksGrown_12, e_Ds_inksGrown_13, e_Ds_inksGrown_16, e_Ds_inksGrown_17, e_Ds_inksGrown_20, e_Ds_inksGrown_21, e_Ds_inksGrown_22, e_Ds_inksGrown_25, e_Ds_inksGrown_26, e_Ds_inksGrown_29, e_Ds_inksGrown_30, e_Ds_inksGrown_31, e_Ds_inksGrown_34, e_Ds_inksGrown_35, e_Ds_inksGrown_38, e_Ds_inksGrown_39, e_Ds_inksGrown_42, e_Ds_inksGrown_43, e_Ds_inksGrown_44, e_Ds_inksGrown_47, e_Ds_inksGrown_50, e_Ds_inksGrown_51, e_Ds_inksGrown_54, e_Ds_inksGrown_55, e_Ds_inksGrown_56, e_Ds_inksGrown_59, e_Ds_inksGrown_62, e_Ds_inksGrown_63, e_Ds_inksGrown_64, e_Ds_inksGrown_65, e_Ds_inksGrown_66, e_Ds_inksGrown_67, e_Ds_inksGrown_68, e_Ds_inksGrown_71, bd_some, bd_none, Option.toList_some, Option.toList_none, List.nil_append, List.cons_append, px_kill_int, px_kill_long, px_kill_ref, px_kill_null, iI_lit, iJ_lit, iI_add, iI_sub, iI_mul, iI_neg, iJ_add, iJ_sub, iJ_mul, iJ_neg, iI_lt, iI_le, iI_eq, iJ_lt, iJ_le, iJ_eq, iI_div, iJ_div, tdiv_tmod, iI_J, iJ_I, iI_ix, iI_toInt, iJ_toInt, cmp_ge, cmp_lt, cmp_eq, cmp_gt, cmp_le, cmp_geI, cmp_ltI, cmp_eqI, cmp_gtI, cmp_leI, bI_0I, bI_1I, pin, if_true, hh, nle, if_false, sh_n5, ei, hs, e1, hR, lv, k2, c']
      · subst z
        rw [gK1] at c' gb
        simp (disch := first | omega | assumption | decide | (simp (disch := omega) only [iI_lit, iJ_lit, iJ_eq, iI_eq, bI_01, bI_01I] <;> omega)) only [e_Ds_inksGrown_5, e_Ds_inksGrown_6, e_Ds_inksGrown_9, e_Ds_inksGrown_12, e_Ds_inksGrown_13, e_Ds_inksGrown_16, e_Ds_inksGrown_17, e_Ds_inksGrown_20, e_Ds_inksGrown_21, e_Ds_inksGrown_22, e_Ds_inksGrown_25, e_Ds_inksGrown_26, e_Ds_inksGrown_29, e_Ds_inksGrown_30, e_Ds_inksGrown_31, e_Ds_inksGrown_34, e_Ds_inksGrown_35, e_Ds_inksGrown_38, e_Ds_inksGrown_39, e_Ds_inksGrown_42, e_Ds_inksGrown_43, e_Ds_inksGrown_44, e_Ds_inksGrown_47, e_Ds_inksGrown_50, e_Ds_inksGrown_51, e_Ds_inksGrown_54, e_Ds_inksGrown_55, e_Ds_inksGrown_56, e_Ds_inksGrown_59, e_Ds_inksGrown_62, e_Ds_inksGrown_63, e_Ds_inksGrown_64, e_Ds_inksGrown_65, e_Ds_inksGrown_66, e_Ds_inksGrown_67, e_Ds_inksGrown_68, e_Ds_inksGrown_71, bd_some, bd_none, Option.toList_some, Option.toList_none, List.nil_append, List.cons_append, px_kill_int, px_kill_long, px_kill_ref, px_kill_null, iI_lit, iJ_lit, iI_add, iI_sub, iI_mul, iI_neg, iJ_add, iJ_sub, iJ_mul, iJ_neg, iI_lt, iI_le, iI_eq, iJ_lt, iJ_le, iJ_eq, iI_div, iJ_div, tdiv_tmod, iI_J, iJ_I, iI_ix, iI_toInt, iJ_toInt, cmp_ge, cmp_lt, cmp_eq, cmp_gt, cmp_le, cmp_geI, cmp_ltI, cmp_eqI, cmp_gtI, cmp_leI, bI_0I, bI_1I, pin, if_true, hh, nle, if_false, sh_n5, ei, hs, e1, hR, lv, k3, c', one0]
set_option maxHeartbeats 1000000 in
theorem c_inksGrown {S : FS} (hS : okF S) {m : Int} (hm : m = 0 ∨ m = 1) {T : TS} (h : fC GG T S) : ∃ T', cl k_Ds_inksGrown [.ref 0, .int (iI m)] (enc T) = some (some (.int (grS S.1 m (iI 0) 0 S.1.1)), enc T') ∧ fC GG T' S ∧ sepC T T' := by
  obtain ⟨T', e, hF, sp⟩ := lp_ig hS hm S.1.1 0 (iI 0) T (by omega) h
  refine ⟨T', ?_, hF, sp⟩
  rw [← e]
  simp (disch := first | omega | assumption | decide | (simp (disch := omega) only [iI_lit, iJ_lit, iJ_eq, iI_eq, bI_01, bI_01I] <;> omega)) only [c_Ds_inksGrown, e_Ds_inksGrown_0, e_Ds_inksGrown_1, e_Ds_inksGrown_2, e_Ds_inksGrown_3, bd_some, bd_none, Option.toList_some, Option.toList_none, List.nil_append, List.cons_append, px_kill_int, px_kill_long, px_kill_ref, px_kill_null, iI_lit, iJ_lit, iI_add, iI_sub, iI_mul, iI_neg, iJ_add, iJ_sub, iJ_mul, iJ_neg, iI_lt, iI_le, iI_eq, iJ_lt, iJ_le, iJ_eq, iI_div, iJ_div, tdiv_tmod, iI_J, iJ_I, iI_ix, iI_toInt, iJ_toInt, cmp_ge, cmp_lt, cmp_eq, cmp_gt, cmp_le, cmp_geI, cmp_ltI, cmp_eqI, cmp_gtI, cmp_leI, bI_0I, bI_1I, pin, if_true]
  rfl
set_option maxHeartbeats 1000000 in
theorem lp_go {V : VW} (hV : okV V) {m : Int} (hm : m = 0 ∨ m = 1) : ∀ (t i : Nat) (acc : Int32) (T : TS), i + t = V.1 → cM T V → ∃ T', rn k_Dm_grownOnes 4 [.ref 53, .int (iI m), .int acc, .int (iI (i : Int))] [] (enc T) = some (some (.int (grS V m acc i t)), enc T') ∧ FrM T T' := by
  have h4 := hV.1
  intro t
  induction t with
  | zero =>
    intro i acc T hi h
    have ei : (i : Int) = (V.1 : Int) := by omega
    have hh := h.1
    refine ⟨T, ?_, FrM.rf T⟩
    rw [ei, e_Dm_grownOnes_4]
    simp (disch := first | omega | assumption | decide | (simp (disch := omega) only [iI_lit, iJ_lit, iJ_eq, iI_eq, bI_01, bI_01I] <;> omega)) only [e_Dm_grownOnes_5, e_Dm_grownOnes_6, e_Dm_grownOnes_9, e_Dm_grownOnes_12, e_Dm_grownOnes_13, e_Dm_grownOnes_14, e_Dm_grownOnes_15, e_Dm_grownOnes_18, e_Dm_grownOnes_19, e_Dm_grownOnes_20, e_Dm_grownOnes_21, e_Dm_grownOnes_24, e_Dm_grownOnes_27, e_Dm_grownOnes_28, e_Dm_grownOnes_29, e_Dm_grownOnes_30, e_Dm_grownOnes_33, e_Dm_grownOnes_34, e_Dm_grownOnes_35, e_Dm_grownOnes_36, e_Dm_grownOnes_39, e_Dm_grownOnes_42, e_Dm_grownOnes_43, bd_some, bd_none, Option.toList_some, Option.toList_none, List.nil_append, List.cons_append, px_kill_int, px_kill_long, px_kill_ref, px_kill_null, iI_lit, iJ_lit, iI_add, iI_sub, iI_mul, iI_neg, iJ_add, iJ_sub, iJ_mul, iJ_neg, iI_lt, iI_le, iI_eq, iJ_lt, iJ_le, iJ_eq, iI_div, iJ_div, tdiv_tmod, iI_J, iJ_I, iI_ix, iI_toInt, iJ_toInt, cmp_ge, cmp_lt, cmp_eq, cmp_gt, cmp_le, cmp_geI, cmp_ltI, cmp_eqI, cmp_gtI, cmp_leI, bI_0I, bI_1I, pin, if_true, hh, Int.le_refl]
    rfl
  | succ t ih =>
    intro i acc T hi h
    have hi' : i < V.1 := by omega
    have hh := h.1
    have nle : ¬ (V.1 : Int) ≤ (i : Int) := by omega
    have lv := m_level hV h hi'
    have bd := celN_bd (hV.2 i hi')
    have bl := lvlN_bd (hV.2 i hi')
    have gb := gN_bd (hV.2 i hi') hm
    obtain ⟨T1, e1, fr1⟩ := m_grownOf hV h hi' hm
    obtain ⟨T', e2, fr2⟩ := ih (i + 1) (acc ||| grB V m i) T1 (by omega) (h.fr fr1)
    refine ⟨T', ?_, fr1.tr fr2⟩
    show _ = some (some (Value.int (grS V m (acc ||| grB V m i) (i + 1) t)), enc T')
    rw [← e2, show ((i + 1 : Nat) : Int) = (i : Int) + 1 by omega, e_Dm_grownOnes_4]
    by_cases c : gN (V.2 i) (gK m) ≤ lvlN (V.2 i)
    · have c' : ¬ lvlN (V.2 i) < gN (V.2 i) (gK m) := by omega
      unfold grB
      rw [if_pos c]
      simp (disch := first | omega | assumption | decide | (simp (disch := omega) only [iI_lit, iJ_lit, iJ_eq, iI_eq, bI_01, bI_01I] <;> omega)) only [e_Dm_grownOnes_5, e_Dm_grownOnes_6, e_Dm_grownOnes_9, e_Dm_grownOnes_12, e_Dm_grownOnes_13, e_Dm_grownOnes_14, e_Dm_grownOnes_15, e_Dm_grownOnes_18, e_Dm_grownOnes_19, e_Dm_grownOnes_20, e_Dm_grownOnes_21, e_Dm_grownOnes_24, e_Dm_grownOnes_27, e_Dm_grownOnes_28, e_Dm_grownOnes_29, e_Dm_grownOnes_30, e_Dm_grownOnes_33, e_Dm_grownOnes_34, e_Dm_grownOnes_35, e_Dm_grownOnes_36, e_Dm_grownOnes_39, bd_some, bd_none, Option.toList_some, Option.toList_none, List.nil_append, List.cons_append, px_kill_int, px_kill_long, px_kill_ref, px_kill_null, iI_lit, iJ_lit, iI_add, iI_sub, iI_mul, iI_neg, iJ_add, iJ_sub, iJ_mul, iJ_neg, iI_lt, iI_le, iI_eq, iJ_lt, iJ_le, iJ_eq, iI_div, iJ_div, tdiv_tmod, iI_J, iJ_I, iI_ix, iI_toInt, iJ_toInt, cmp_ge, cmp_lt, cmp_eq, cmp_gt, cmp_le, cmp_geI, cmp_ltI, cmp_eqI, cmp_gtI, cmp_leI, bI_0I, bI_1I, pin, if_true, hh, nle, if_false, lv, e1, c']
    · have c' : lvlN (V.2 i) < gN (V.2 i) (gK m) := by omega
      unfold grB
      rw [if_neg c]
      simp (disch := first | omega | assumption | decide | (simp (disch := omega) only [iI_lit, iJ_lit, iJ_eq, iI_eq, bI_01, bI_01I] <;> omega)) only [e_Dm_grownOnes_5, e_Dm_grownOnes_6, e_Dm_grownOnes_9, e_Dm_grownOnes_12, e_Dm_grownOnes_13, e_Dm_grownOnes_14, e_Dm_grownOnes_15, e_Dm_grownOnes_18, e_Dm_grownOnes_19, e_Dm_grownOnes_20, e_Dm_grownOnes_21, e_Dm_grownOnes_24, e_Dm_grownOnes_27, e_Dm_grownOnes_28, e_Dm_grownOnes_29, e_Dm_grownOnes_30, e_Dm_grownOnes_33, e_Dm_grownOnes_34, e_Dm_grownOnes_35, e_Dm_grownOnes_36, e_Dm_grownOnes_39, bd_some, bd_none, Option.toList_some, Option.toList_none, List.nil_append, List.cons_append, px_kill_int, px_kill_long, px_kill_ref, px_kill_null, iI_lit, iJ_lit, iI_add, iI_sub, iI_mul, iI_neg, iJ_add, iJ_sub, iJ_mul, iJ_neg, iI_lt, iI_le, iI_eq, iJ_lt, iJ_le, iJ_eq, iI_div, iJ_div, tdiv_tmod, iI_J, iJ_I, iI_ix, iI_toInt, iJ_toInt, cmp_ge, cmp_lt, cmp_eq, cmp_gt, cmp_le, cmp_geI, cmp_ltI, cmp_eqI, cmp_gtI, cmp_leI, bI_0I, bI_1I, pin, if_true, hh, nle, if_false, lv, e1, c']
set_option maxHeartbeats 1000000 in
theorem m_grownOnes {V : VW} (hV : okV V) {m : Int} (hm : m = 0 ∨ m = 1) {T : TS} (h : cM T V) : ∃ T', cl k_Dm_grownOnes [.ref 53, .int (iI m)] (enc T) = some (some (.int (grS V m (iI 0) 0 V.1)), enc T') ∧ FrM T T' := by
  obtain ⟨T', e, fr⟩ := lp_go hV hm V.1 0 (iI 0) T (by omega) h
  refine ⟨T', ?_, fr⟩
  rw [← e]
  simp (disch := first | omega | assumption | decide | (simp (disch := omega) only [iI_lit, iJ_lit, iJ_eq, iI_eq, bI_01, bI_01I] <;> omega)) only [c_Dm_grownOnes, e_Dm_grownOnes_0, e_Dm_grownOnes_1, e_Dm_grownOnes_2, e_Dm_grownOnes_3, bd_some, bd_none, Option.toList_some, Option.toList_none, List.nil_append, List.cons_append, px_kill_int, px_kill_long, px_kill_ref, px_kill_null, iI_lit, iJ_lit, iI_add, iI_sub, iI_mul, iI_neg, iJ_add, iJ_sub, iJ_mul, iJ_neg, iI_lt, iI_le, iI_eq, iJ_lt, iJ_le, iJ_eq, iI_div, iJ_div, tdiv_tmod, iI_J, iJ_I, iI_ix, iI_toInt, iJ_toInt, cmp_ge, cmp_lt, cmp_eq, cmp_gt, cmp_le, cmp_geI, cmp_ltI, cmp_eqI, cmp_gtI, cmp_leI, bI_0I, bI_1I, pin, if_true]
  rfl
noncomputable def qMost (V : VW) (k : Int) : Int32 := if k = 0 then iI (qCouple V 0) else if k = 1 then iI (qCouple V 1) else if k = 2 then iI (alA V 0 0 V.1) else if k = 3 then iI (gcA V 0 0 V.1) else if k = 4 then iI (ipA V 0 0 V.1) else if k = 5 then grS V 0 (iI 0) 0 V.1 else if k = 6 then grS V 1 (iI 0) 0 V.1 else iI (-1)
theorem mst_x {V : VW} {k : Int} (h : ¬ (k = 0 ∨ k = 1 ∨ k = 2 ∨ k = 3 ∨ k = 4 ∨ k = 5 ∨ k = 6)) : qMost V k = iI (-1) := by
  unfold qMost
  rw [if_neg (by omega), if_neg (by omega), if_neg (by omega), if_neg (by omega), if_neg (by omega), if_neg (by omega), if_neg (by omega)]
theorem iI_ne {k : Int} (hk : inI k) (n : Nat) (hn : n ≤ 100) (h : k ≠ (n : Int)) : ¬ iI k = iI (n : Int) := by
  rw [iI_eq hk.1 hk.2 (by omega) (by omega)]
  exact h
set_option maxHeartbeats 2000000 in
theorem u_Ds_most {T : TS} {S : FS} (hS : okF S) (h : fC GG T S) {k : Int} (hk : inI k) : ∃ T', cl k_Ds_most [.ref 0, .int (iI k)] (enc T) = some (some (.int (qMost S.1 k)), enc T') ∧ fC GG T' S ∧ sepC T T' := by
  have pre : cl k_Ds_most [.ref 0, .int (iI k)] (enc T) = rn k_Ds_most 1 [.ref 0, .int (iI k)] [.int (iI k)] (enc T) := by
    simp (disch := first | omega | assumption | decide | (simp (disch := omega) only [iI_lit, iJ_lit, iJ_eq, iI_eq, bI_01, bI_01I] <;> omega)) only [e_Ds_most_0, c_Ds_most, bd_some, bd_none, Option.toList_some, Option.toList_none, List.nil_append, List.cons_append, px_kill_int, px_kill_long, px_kill_ref, px_kill_null, iI_lit, iJ_lit, iI_add, iI_sub, iI_mul, iI_neg, iJ_add, iJ_sub, iJ_mul, iJ_neg, iI_lt, iI_le, iI_eq, iJ_lt, iJ_le, iJ_eq, iI_div, iJ_div, tdiv_tmod, iI_J, iJ_I, iI_ix, iI_toInt, iJ_toInt, cmp_ge, cmp_lt, cmp_eq, cmp_gt, cmp_le, cmp_geI, cmp_ltI, cmp_eqI, cmp_gtI, cmp_leI, bI_0I, bI_1I, pin, if_true]
  rw [pre]
  by_cases d : k = 0 ∨ k = 1 ∨ k = 2 ∨ k = 3 ∨ k = 4 ∨ k = 5 ∨ k = 6
  case neg =>
    refine ⟨T, ?_, h, sepC.rf T⟩
    rw [mst_x d, e_Ds_most_1, if_neg (show ¬ iI k = (0 : Int32) from iI_ne hk 0 (by omega) (by omega)), if_neg (show ¬ iI k = (1 : Int32) from iI_ne hk 1 (by omega) (by omega)), if_neg (show ¬ iI k = (2 : Int32) from iI_ne hk 2 (by omega) (by omega)), if_neg (show ¬ iI k = (3 : Int32) from iI_ne hk 3 (by omega) (by omega)), if_neg (show ¬ iI k = (4 : Int32) from iI_ne hk 4 (by omega) (by omega)), if_neg (show ¬ iI k = (5 : Int32) from iI_ne hk 5 (by omega) (by omega)), if_neg (show ¬ iI k = (6 : Int32) from iI_ne hk 6 (by omega) (by omega))]
    simp (disch := first | omega | assumption | decide | (simp (disch := omega) only [iI_lit, iJ_lit, iJ_eq, iI_eq, bI_01, bI_01I] <;> omega)) only [e_Ds_most_83, e_Ds_most_84, bd_some, bd_none, Option.toList_some, Option.toList_none, List.nil_append, List.cons_append, px_kill_int, px_kill_long, px_kill_ref, px_kill_null, iI_lit, iJ_lit, iI_add, iI_sub, iI_mul, iI_neg, iJ_add, iJ_sub, iJ_mul, iJ_neg, iI_lt, iI_le, iI_eq, iJ_lt, iJ_le, iJ_eq, iI_div, iJ_div, tdiv_tmod, iI_J, iJ_I, iI_ix, iI_toInt, iJ_toInt, cmp_ge, cmp_lt, cmp_eq, cmp_gt, cmp_le, cmp_geI, cmp_ltI, cmp_eqI, cmp_gtI, cmp_leI, bI_0I, bI_1I, pin, if_true]
  rcases d with z | z | z | z | z | z | z <;> subst z
  · obtain ⟨T', e, fr, -⟩ := c_endCouple hS.1 (m := 0) (Or.inl rfl) h.1
    have hF := h.askN hS fr
    refine ⟨T', ?_, hF.1, hF.2⟩
    unfold qMost
    rw [e_Ds_most_1, if_pos (by decide), if_pos (by decide)]
    simp (disch := first | omega | assumption | decide | (simp (disch := omega) only [iI_lit, iJ_lit, iJ_eq, iI_eq, bI_01, bI_01I] <;> omega)) only [e_Ds_most_44, e_Ds_most_45, e_Ds_most_46, e_Ds_most_49, bd_some, bd_none, Option.toList_some, Option.toList_none, List.nil_append, List.cons_append, px_kill_int, px_kill_long, px_kill_ref, px_kill_null, iI_lit, iJ_lit, iI_add, iI_sub, iI_mul, iI_neg, iJ_add, iJ_sub, iJ_mul, iJ_neg, iI_lt, iI_le, iI_eq, iJ_lt, iJ_le, iJ_eq, iI_div, iJ_div, tdiv_tmod, iI_J, iJ_I, iI_ix, iI_toInt, iJ_toInt, cmp_ge, cmp_lt, cmp_eq, cmp_gt, cmp_le, cmp_geI, cmp_ltI, cmp_eqI, cmp_gtI, cmp_leI, bI_0I, bI_1I, pin, if_true, e]
  · obtain ⟨T', e, fr, -⟩ := c_endCouple hS.1 (m := 1) (Or.inr rfl) h.1
    have hF := h.askN hS fr
    refine ⟨T', ?_, hF.1, hF.2⟩
    unfold qMost
    rw [e_Ds_most_1, if_neg (by decide), if_pos (by decide), if_neg (by decide), if_pos (by decide)]
    simp (disch := first | omega | assumption | decide | (simp (disch := omega) only [iI_lit, iJ_lit, iJ_eq, iI_eq, bI_01, bI_01I] <;> omega)) only [e_Ds_most_50, e_Ds_most_51, e_Ds_most_52, e_Ds_most_55, bd_some, bd_none, Option.toList_some, Option.toList_none, List.nil_append, List.cons_append, px_kill_int, px_kill_long, px_kill_ref, px_kill_null, iI_lit, iJ_lit, iI_add, iI_sub, iI_mul, iI_neg, iJ_add, iJ_sub, iJ_mul, iJ_neg, iI_lt, iI_le, iI_eq, iJ_lt, iJ_le, iJ_eq, iI_div, iJ_div, tdiv_tmod, iI_J, iJ_I, iI_ix, iI_toInt, iJ_toInt, cmp_ge, cmp_lt, cmp_eq, cmp_gt, cmp_le, cmp_geI, cmp_ltI, cmp_eqI, cmp_gtI, cmp_leI, bI_0I, bI_1I, pin, if_true, e]
  · obtain ⟨T', e, fr, -⟩ := c_alike hS.1 h.1
    have hF := h.askN hS fr
    refine ⟨T', ?_, hF.1, hF.2⟩
    unfold qMost
    rw [e_Ds_most_1, if_neg (by decide), if_neg (by decide), if_pos (by decide), if_neg (by decide), if_neg (by decide), if_pos (by decide)]
    simp (disch := first | omega | assumption | decide | (simp (disch := omega) only [iI_lit, iJ_lit, iJ_eq, iI_eq, bI_01, bI_01I] <;> omega)) only [e_Ds_most_56, e_Ds_most_57, e_Ds_most_60, bd_some, bd_none, Option.toList_some, Option.toList_none, List.nil_append, List.cons_append, px_kill_int, px_kill_long, px_kill_ref, px_kill_null, iI_lit, iJ_lit, iI_add, iI_sub, iI_mul, iI_neg, iJ_add, iJ_sub, iJ_mul, iJ_neg, iI_lt, iI_le, iI_eq, iJ_lt, iJ_le, iJ_eq, iI_div, iJ_div, tdiv_tmod, iI_J, iJ_I, iI_ix, iI_toInt, iJ_toInt, cmp_ge, cmp_lt, cmp_eq, cmp_gt, cmp_le, cmp_geI, cmp_ltI, cmp_eqI, cmp_gtI, cmp_leI, bI_0I, bI_1I, pin, if_true, e]
  · have e := c_greatest hS.1 h.1
    refine ⟨T, ?_, h, sepC.rf T⟩
    unfold qMost
    rw [e_Ds_most_1, if_neg (by decide), if_neg (by decide), if_neg (by decide), if_pos (by decide), if_neg (by decide), if_neg (by decide), if_neg (by decide), if_pos (by decide)]
    simp (disch := first | omega | assumption | decide | (simp (disch := omega) only [iI_lit, iJ_lit, iJ_eq, iI_eq, bI_01, bI_01I] <;> omega)) only [e_Ds_most_61, e_Ds_most_62, e_Ds_most_65, bd_some, bd_none, Option.toList_some, Option.toList_none, List.nil_append, List.cons_append, px_kill_int, px_kill_long, px_kill_ref, px_kill_null, iI_lit, iJ_lit, iI_add, iI_sub, iI_mul, iI_neg, iJ_add, iJ_sub, iJ_mul, iJ_neg, iI_lt, iI_le, iI_eq, iJ_lt, iJ_le, iJ_eq, iI_div, iJ_div, tdiv_tmod, iI_J, iJ_I, iI_ix, iI_toInt, iJ_toInt, cmp_ge, cmp_lt, cmp_eq, cmp_gt, cmp_le, cmp_geI, cmp_ltI, cmp_eqI, cmp_gtI, cmp_leI, bI_0I, bI_1I, pin, if_true, e]
  · have e := c_inkedP hS.1 h.1
    refine ⟨T, ?_, h, sepC.rf T⟩
    unfold qMost
    rw [e_Ds_most_1, if_neg (by decide), if_neg (by decide), if_neg (by decide), if_neg (by decide), if_pos (by decide), if_neg (by decide), if_neg (by decide), if_neg (by decide), if_neg (by decide), if_pos (by decide)]
    simp (disch := first | omega | assumption | decide | (simp (disch := omega) only [iI_lit, iJ_lit, iJ_eq, iI_eq, bI_01, bI_01I] <;> omega)) only [e_Ds_most_66, e_Ds_most_67, e_Ds_most_70, bd_some, bd_none, Option.toList_some, Option.toList_none, List.nil_append, List.cons_append, px_kill_int, px_kill_long, px_kill_ref, px_kill_null, iI_lit, iJ_lit, iI_add, iI_sub, iI_mul, iI_neg, iJ_add, iJ_sub, iJ_mul, iJ_neg, iI_lt, iI_le, iI_eq, iJ_lt, iJ_le, iJ_eq, iI_div, iJ_div, tdiv_tmod, iI_J, iJ_I, iI_ix, iI_toInt, iJ_toInt, cmp_ge, cmp_lt, cmp_eq, cmp_gt, cmp_le, cmp_geI, cmp_ltI, cmp_eqI, cmp_gtI, cmp_leI, bI_0I, bI_1I, pin, if_true, e]
  · obtain ⟨T', e, hF, sp⟩ := c_inksGrown hS (m := 0) (Or.inl rfl) h
    refine ⟨T', ?_, hF, sp⟩
    unfold qMost
    rw [e_Ds_most_1, if_neg (by decide), if_neg (by decide), if_neg (by decide), if_neg (by decide), if_neg (by decide), if_pos (by decide), if_neg (by decide), if_neg (by decide), if_neg (by decide), if_neg (by decide), if_neg (by decide), if_pos (by decide)]
    simp (disch := first | omega | assumption | decide | (simp (disch := omega) only [iI_lit, iJ_lit, iJ_eq, iI_eq, bI_01, bI_01I] <;> omega)) only [e_Ds_most_71, e_Ds_most_72, e_Ds_most_73, e_Ds_most_76, bd_some, bd_none, Option.toList_some, Option.toList_none, List.nil_append, List.cons_append, px_kill_int, px_kill_long, px_kill_ref, px_kill_null, iI_lit, iJ_lit, iI_add, iI_sub, iI_mul, iI_neg, iJ_add, iJ_sub, iJ_mul, iJ_neg, iI_lt, iI_le, iI_eq, iJ_lt, iJ_le, iJ_eq, iI_div, iJ_div, tdiv_tmod, iI_J, iJ_I, iI_ix, iI_toInt, iJ_toInt, cmp_ge, cmp_lt, cmp_eq, cmp_gt, cmp_le, cmp_geI, cmp_ltI, cmp_eqI, cmp_gtI, cmp_leI, bI_0I, bI_1I, pin, if_true, e]
  · obtain ⟨T', e, hF, sp⟩ := c_inksGrown hS (m := 1) (Or.inr rfl) h
    refine ⟨T', ?_, hF, sp⟩
    unfold qMost
    rw [e_Ds_most_1, if_neg (by decide), if_neg (by decide), if_neg (by decide), if_neg (by decide), if_neg (by decide), if_neg (by decide), if_pos (by decide), if_neg (by decide), if_neg (by decide), if_neg (by decide), if_neg (by decide), if_neg (by decide), if_neg (by decide), if_pos (by decide)]
    simp (disch := first | omega | assumption | decide | (simp (disch := omega) only [iI_lit, iJ_lit, iJ_eq, iI_eq, bI_01, bI_01I] <;> omega)) only [e_Ds_most_77, e_Ds_most_78, e_Ds_most_79, e_Ds_most_82, bd_some, bd_none, Option.toList_some, Option.toList_none, List.nil_append, List.cons_append, px_kill_int, px_kill_long, px_kill_ref, px_kill_null, iI_lit, iJ_lit, iI_add, iI_sub, iI_mul, iI_neg, iJ_add, iJ_sub, iJ_mul, iJ_neg, iI_lt, iI_le, iI_eq, iJ_lt, iJ_le, iJ_eq, iI_div, iJ_div, tdiv_tmod, iI_J, iJ_I, iI_ix, iI_toInt, iJ_toInt, cmp_ge, cmp_lt, cmp_eq, cmp_gt, cmp_le, cmp_geI, cmp_ltI, cmp_eqI, cmp_gtI, cmp_leI, bI_0I, bI_1I, pin, if_true, e]
set_option maxHeartbeats 2000000 in
theorem q_Dm_most {T : TS} {V : VW} (hV : okV V) (h : cM T V) {k : Int} (hk : inI k) : ∃ T', cl k_Dm_most [.ref 53, .int (iI k)] (enc T) = some (some (.int (qMost V k)), enc T') ∧ FrM T T' := by
  have hM : cM (t0 T) V := h.fr (t0_fr T)
  have pre : cl k_Dm_most [.ref 53, .int (iI k)] (enc T) = rn k_Dm_most 6 [.ref 53, .int (iI k)] [.int (iI k)] (enc (t0 T)) := by
    simp (disch := first | omega | assumption | decide | (simp (disch := omega) only [iI_lit, iJ_lit, iJ_eq, iI_eq, bI_01, bI_01I] <;> omega)) only [e_Dm_most_0, e_Dm_most_1, e_Dm_most_2, e_Dm_most_5, c_Dm_most, bd_some, bd_none, Option.toList_some, Option.toList_none, List.nil_append, List.cons_append, px_kill_int, px_kill_long, px_kill_ref, px_kill_null, iI_lit, iJ_lit, iI_add, iI_sub, iI_mul, iI_neg, iJ_add, iJ_sub, iJ_mul, iJ_neg, iI_lt, iI_le, iI_eq, iJ_lt, iJ_le, iJ_eq, iI_div, iJ_div, tdiv_tmod, iI_J, iJ_I, iI_ix, iI_toInt, iJ_toInt, cmp_ge, cmp_lt, cmp_eq, cmp_gt, cmp_le, cmp_geI, cmp_ltI, cmp_eqI, cmp_gtI, cmp_leI, bI_0I, bI_1I, pin, if_true]
  rw [pre]
  by_cases d : k = 0 ∨ k = 1 ∨ k = 2 ∨ k = 3 ∨ k = 4 ∨ k = 5 ∨ k = 6
  case neg =>
    refine ⟨t0 T, ?_, t0_fr T⟩
    rw [mst_x d, e_Dm_most_6, if_neg (show ¬ iI k = (0 : Int32) from iI_ne hk 0 (by omega) (by omega)), if_neg (show ¬ iI k = (1 : Int32) from iI_ne hk 1 (by omega) (by omega)), if_neg (show ¬ iI k = (2 : Int32) from iI_ne hk 2 (by omega) (by omega)), if_neg (show ¬ iI k = (3 : Int32) from iI_ne hk 3 (by omega) (by omega)), if_neg (show ¬ iI k = (4 : Int32) from iI_ne hk 4 (by omega) (by omega)), if_neg (show ¬ iI k = (5 : Int32) from iI_ne hk 5 (by omega) (by omega)), if_neg (show ¬ iI k = (6 : Int32) from iI_ne hk 6 (by omega) (by omega))]
    simp (disch := first | omega | assumption | decide | (simp (disch := omega) only [iI_lit, iJ_lit, iJ_eq, iI_eq, bI_01, bI_01I] <;> omega)) only [e_Dm_most_99, e_Dm_most_100, bd_some, bd_none, Option.toList_some, Option.toList_none, List.nil_append, List.cons_append, px_kill_int, px_kill_long, px_kill_ref, px_kill_null, iI_lit, iJ_lit, iI_add, iI_sub, iI_mul, iI_neg, iJ_add, iJ_sub, iJ_mul, iJ_neg, iI_lt, iI_le, iI_eq, iJ_lt, iJ_le, iJ_eq, iI_div, iJ_div, tdiv_tmod, iI_J, iJ_I, iI_ix, iI_toInt, iJ_toInt, cmp_ge, cmp_lt, cmp_eq, cmp_gt, cmp_le, cmp_geI, cmp_ltI, cmp_eqI, cmp_gtI, cmp_leI, bI_0I, bI_1I, pin, if_true]
  have z01 : ¬ (0 : Int) = 1 := by decide
  have z43 : ¬ (4 : Int) = 3 := by decide
  have z56 : ¬ (5 : Int) = 6 := by decide
  rcases d with z | z | z | z | z | z | z <;> subst z
  · obtain ⟨T', e, fr⟩ := m_coupleBy hV (m := 0) (Or.inl rfl) hM
    refine ⟨T', ?_, (t0_fr T).tr fr⟩
    unfold qMost
    rw [e_Dm_most_6, if_pos (by decide), if_pos (by decide)]
    simp (disch := first | omega | assumption | decide | (simp (disch := omega) only [iI_lit, iJ_lit, iJ_eq, iI_eq, bI_01, bI_01I] <;> omega)) only [e_Dm_most_48, e_Dm_most_49, e_Dm_most_50, e_Dm_most_51, e_Dm_most_54, e_Dm_most_55, e_Dm_most_58, e_Dm_most_59, e_Dm_most_62, bd_some, bd_none, Option.toList_some, Option.toList_none, List.nil_append, List.cons_append, px_kill_int, px_kill_long, px_kill_ref, px_kill_null, iI_lit, iJ_lit, iI_add, iI_sub, iI_mul, iI_neg, iJ_add, iJ_sub, iJ_mul, iJ_neg, iI_lt, iI_le, iI_eq, iJ_lt, iJ_le, iJ_eq, iI_div, iJ_div, tdiv_tmod, iI_J, iJ_I, iI_ix, iI_toInt, iJ_toInt, cmp_ge, cmp_lt, cmp_eq, cmp_gt, cmp_le, cmp_geI, cmp_ltI, cmp_eqI, cmp_gtI, cmp_leI, bI_0I, bI_1I, pin, if_true, z01, z43, z56, if_false, e]
  · obtain ⟨T', e, fr⟩ := m_coupleBy hV (m := 1) (Or.inr rfl) hM
    refine ⟨T', ?_, (t0_fr T).tr fr⟩
    unfold qMost
    rw [e_Dm_most_6, if_neg (by decide), if_pos (by decide), if_neg (by decide), if_pos (by decide)]
    simp (disch := first | omega | assumption | decide | (simp (disch := omega) only [iI_lit, iJ_lit, iJ_eq, iI_eq, bI_01, bI_01I] <;> omega)) only [e_Dm_most_48, e_Dm_most_49, e_Dm_most_50, e_Dm_most_51, e_Dm_most_54, e_Dm_most_55, e_Dm_most_58, e_Dm_most_59, e_Dm_most_62, bd_some, bd_none, Option.toList_some, Option.toList_none, List.nil_append, List.cons_append, px_kill_int, px_kill_long, px_kill_ref, px_kill_null, iI_lit, iJ_lit, iI_add, iI_sub, iI_mul, iI_neg, iJ_add, iJ_sub, iJ_mul, iJ_neg, iI_lt, iI_le, iI_eq, iJ_lt, iJ_le, iJ_eq, iI_div, iJ_div, tdiv_tmod, iI_J, iJ_I, iI_ix, iI_toInt, iJ_toInt, cmp_ge, cmp_lt, cmp_eq, cmp_gt, cmp_le, cmp_geI, cmp_ltI, cmp_eqI, cmp_gtI, cmp_leI, bI_0I, bI_1I, pin, if_true, z01, z43, z56, if_false, e]
  · obtain ⟨T', e, fr⟩ := m_alikes hV hM
    refine ⟨T', ?_, (t0_fr T).tr fr⟩
    unfold qMost
    rw [e_Dm_most_6, if_neg (by decide), if_neg (by decide), if_pos (by decide), if_neg (by decide), if_neg (by decide), if_pos (by decide)]
    simp (disch := first | omega | assumption | decide | (simp (disch := omega) only [iI_lit, iJ_lit, iJ_eq, iI_eq, bI_01, bI_01I] <;> omega)) only [e_Dm_most_63, e_Dm_most_64, e_Dm_most_67, bd_some, bd_none, Option.toList_some, Option.toList_none, List.nil_append, List.cons_append, px_kill_int, px_kill_long, px_kill_ref, px_kill_null, iI_lit, iJ_lit, iI_add, iI_sub, iI_mul, iI_neg, iJ_add, iJ_sub, iJ_mul, iJ_neg, iI_lt, iI_le, iI_eq, iJ_lt, iJ_le, iJ_eq, iI_div, iJ_div, tdiv_tmod, iI_J, iJ_I, iI_ix, iI_toInt, iJ_toInt, cmp_ge, cmp_lt, cmp_eq, cmp_gt, cmp_le, cmp_geI, cmp_ltI, cmp_eqI, cmp_gtI, cmp_leI, bI_0I, bI_1I, pin, if_true, z01, z43, z56, if_false, e]
  · have e := m_cells1 hV hM
    refine ⟨t0 T, ?_, t0_fr T⟩
    unfold qMost
    rw [e_Dm_most_6, if_neg (by decide), if_neg (by decide), if_neg (by decide), if_pos (by decide), if_neg (by decide), if_neg (by decide), if_neg (by decide), if_pos (by decide)]
    simp (disch := first | omega | assumption | decide | (simp (disch := omega) only [iI_lit, iJ_lit, iJ_eq, iI_eq, bI_01, bI_01I] <;> omega)) only [e_Dm_most_68, e_Dm_most_69, e_Dm_most_70, e_Dm_most_71, e_Dm_most_74, e_Dm_most_75, e_Dm_most_78, e_Dm_most_79, e_Dm_most_82, bd_some, bd_none, Option.toList_some, Option.toList_none, List.nil_append, List.cons_append, px_kill_int, px_kill_long, px_kill_ref, px_kill_null, iI_lit, iJ_lit, iI_add, iI_sub, iI_mul, iI_neg, iJ_add, iJ_sub, iJ_mul, iJ_neg, iI_lt, iI_le, iI_eq, iJ_lt, iJ_le, iJ_eq, iI_div, iJ_div, tdiv_tmod, iI_J, iJ_I, iI_ix, iI_toInt, iJ_toInt, cmp_ge, cmp_lt, cmp_eq, cmp_gt, cmp_le, cmp_geI, cmp_ltI, cmp_eqI, cmp_gtI, cmp_leI, bI_0I, bI_1I, pin, if_true, z01, z43, z56, if_false, e]
  · have e := m_cells0 hV hM
    refine ⟨t0 T, ?_, t0_fr T⟩
    unfold qMost
    rw [e_Dm_most_6, if_neg (by decide), if_neg (by decide), if_neg (by decide), if_neg (by decide), if_pos (by decide), if_neg (by decide), if_neg (by decide), if_neg (by decide), if_neg (by decide), if_pos (by decide)]
    simp (disch := first | omega | assumption | decide | (simp (disch := omega) only [iI_lit, iJ_lit, iJ_eq, iI_eq, bI_01, bI_01I] <;> omega)) only [e_Dm_most_68, e_Dm_most_69, e_Dm_most_70, e_Dm_most_71, e_Dm_most_74, e_Dm_most_75, e_Dm_most_78, e_Dm_most_79, e_Dm_most_82, bd_some, bd_none, Option.toList_some, Option.toList_none, List.nil_append, List.cons_append, px_kill_int, px_kill_long, px_kill_ref, px_kill_null, iI_lit, iJ_lit, iI_add, iI_sub, iI_mul, iI_neg, iJ_add, iJ_sub, iJ_mul, iJ_neg, iI_lt, iI_le, iI_eq, iJ_lt, iJ_le, iJ_eq, iI_div, iJ_div, tdiv_tmod, iI_J, iJ_I, iI_ix, iI_toInt, iJ_toInt, cmp_ge, cmp_lt, cmp_eq, cmp_gt, cmp_le, cmp_geI, cmp_ltI, cmp_eqI, cmp_gtI, cmp_leI, bI_0I, bI_1I, pin, if_true, z01, z43, z56, if_false, e]
  · obtain ⟨T', e, fr⟩ := m_grownOnes hV (m := 0) (Or.inl rfl) hM
    refine ⟨T', ?_, (t0_fr T).tr fr⟩
    unfold qMost
    rw [e_Dm_most_6, if_neg (by decide), if_neg (by decide), if_neg (by decide), if_neg (by decide), if_neg (by decide), if_pos (by decide), if_neg (by decide), if_neg (by decide), if_neg (by decide), if_neg (by decide), if_neg (by decide), if_pos (by decide)]
    simp (disch := first | omega | assumption | decide | (simp (disch := omega) only [iI_lit, iJ_lit, iJ_eq, iI_eq, bI_01, bI_01I] <;> omega)) only [e_Dm_most_83, e_Dm_most_84, e_Dm_most_85, e_Dm_most_87, e_Dm_most_90, e_Dm_most_91, e_Dm_most_94, e_Dm_most_95, e_Dm_most_98, bd_some, bd_none, Option.toList_some, Option.toList_none, List.nil_append, List.cons_append, px_kill_int, px_kill_long, px_kill_ref, px_kill_null, iI_lit, iJ_lit, iI_add, iI_sub, iI_mul, iI_neg, iJ_add, iJ_sub, iJ_mul, iJ_neg, iI_lt, iI_le, iI_eq, iJ_lt, iJ_le, iJ_eq, iI_div, iJ_div, tdiv_tmod, iI_J, iJ_I, iI_ix, iI_toInt, iJ_toInt, cmp_ge, cmp_lt, cmp_eq, cmp_gt, cmp_le, cmp_geI, cmp_ltI, cmp_eqI, cmp_gtI, cmp_leI, bI_0I, bI_1I, pin, if_true, z01, z43, z56, if_false, e]
  · obtain ⟨T', e, fr⟩ := m_grownOnes hV (m := 1) (Or.inr rfl) hM
    refine ⟨T', ?_, (t0_fr T).tr fr⟩
    unfold qMost
    rw [e_Dm_most_6, if_neg (by decide), if_neg (by decide), if_neg (by decide), if_neg (by decide), if_neg (by decide), if_neg (by decide), if_pos (by decide), if_neg (by decide), if_neg (by decide), if_neg (by decide), if_neg (by decide), if_neg (by decide), if_neg (by decide), if_pos (by decide)]
    simp (disch := first | omega | assumption | decide | (simp (disch := omega) only [iI_lit, iJ_lit, iJ_eq, iI_eq, bI_01, bI_01I] <;> omega)) only [e_Dm_most_83, e_Dm_most_84, e_Dm_most_85, e_Dm_most_87, e_Dm_most_90, e_Dm_most_91, e_Dm_most_94, e_Dm_most_95, e_Dm_most_98, bd_some, bd_none, Option.toList_some, Option.toList_none, List.nil_append, List.cons_append, px_kill_int, px_kill_long, px_kill_ref, px_kill_null, iI_lit, iJ_lit, iI_add, iI_sub, iI_mul, iI_neg, iJ_add, iJ_sub, iJ_mul, iJ_neg, iI_lt, iI_le, iI_eq, iJ_lt, iJ_le, iJ_eq, iI_div, iJ_div, tdiv_tmod, iI_J, iJ_I, iI_ix, iI_toInt, iJ_toInt, cmp_ge, cmp_lt, cmp_eq, cmp_gt, cmp_le, cmp_geI, cmp_ltI, cmp_eqI, cmp_gtI, cmp_leI, bI_0I, bI_1I, pin, if_true, z01, z43, z56, if_false, e]
