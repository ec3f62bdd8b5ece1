/-! laysBeat of the reference: a row of ways. -/
def mBt (T : TS) (s : BS) : Prop := T.2.1 53 35 = iJ s.2.1 ∧ T.2.1 53 36 = iJ s.2.2.1 ∧ T.1 53 37 = iI s.2.2.2.1 ∧ T.1 53 38 = iI s.2.2.2.2.1 ∧ T.1 53 39 = iI s.2.2.2.2.2
abbrev fnd (s : BS) : Int := if s.1 = 0 then 0 else 1
theorem s_squared {X Y : Int} (g : px_G) : cl k_Dm_squared [.long (iJ X), .long (iJ Y)] g = some (some (.long (iJ (X * X + Y * Y))), g) := by
  simp (disch := first | omega | assumption | decide | (simp (disch := omega) only [iI_lit, iJ_lit, iJ_eq, iI_eq, bI_01, bI_01I] <;> omega)) only [c_Dm_squared, e_Dm_squared_0, e_Dm_squared_1, e_Dm_squared_2, e_Dm_squared_3, e_Dm_squared_4, e_Dm_squared_5, e_Dm_squared_6, e_Dm_squared_7, bd_some, bd_none, Option.toList_some, Option.toList_none, List.nil_append, List.cons_append, px_kill_int, px_kill_long, px_kill_ref, px_kill_null, iI_lit, iJ_lit, iI_add, iI_sub, iI_mul, iI_neg, iJ_add, iJ_sub, iJ_mul, iJ_neg, iI_lt, iI_le, iI_eq, iJ_lt, iJ_le, iJ_eq, iI_div, iJ_div, tdiv_tmod, iI_J, iJ_I, iI_ix, iI_toInt, iJ_toInt, cmp_ge, cmp_lt, cmp_eq, cmp_gt, cmp_le, cmp_geI, cmp_ltI, cmp_eqI, cmp_gtI, cmp_leI, bI_0I, bI_1I, pin, if_true]
theorem sq_0 {X Y : Int} (h : X * X + Y * Y = 0) : X = 0 ∧ Y = 0 := by
  have h1 := sq_nn X
  have h2 := sq_nn Y
  have e1 : X * X = 0 := by omega
  have e2 : Y * Y = 0 := by omega
  exact ⟨(Int.mul_eq_zero.mp e1).elim id id, (Int.mul_eq_zero.mp e2).elim id id⟩
abbrev lBt (f g : Nat → Int) (fd : Int) (a14 a15 a16 a17 a18 a19 : Value) : List Value := [.ref 53, .int (iI (f 0)), .int (iI (f 1)), .int (iI (f 2)), .int (iI (f 3)), .int (iI (g 0)), .int (iI (g 1)), .int (iI (g 2)), .int (iI (g 3)), .long (iJ (f 0 * f 3 - f 1 * f 2)), .null, .long (iJ (g 0 * g 3 - g 1 * g 2)), .null, .int (iI fd), a14, a15, a16, a17, a18, a19]
theorem btP_fnd (s : BS) (X Y : Int) (i j : Nat) (h : ¬ X * X + Y * Y = 0) : fnd (btP s X Y i j) = 1 := by
  unfold fnd btP
  rw [if_neg h]
  by_cases c : s.1 = 0 ∨ X * X + Y * Y < s.1
  · rw [if_pos c, if_neg h]
  · rw [if_neg c, if_neg (fun z => c (Or.inl z))]
set_option maxHeartbeats 2000000 in
theorem st_mbt {f g : Nat → Int} (hf : okN f) (hg : okN g) {i j : Nat} (hi : i < 4) (hj : j < 4) {s : BS} {T : TS} (hb : mBt T s) (hk : okB s) (a16 a17 a18 a19 : Value) : ∃ T2 : TS, rn k_Dm_laysBeat 45 (lBt f g (fnd s) (.int (iI (i : Int))) (.int (iI (j : Int))) a16 a17 a18 a19) [] (enc T) = rn k_Dm_laysBeat 45 (lBt f g (fnd (btP s (wyX f g i j) (wyY f g i j) i j)) (.int (iI (i : Int))) (.int (iI ((j + 1 : Nat) : Int))) (.long (iJ (wyX f g i j))) .null (.long (iJ (wyY f g i j))) .null) [] (enc T2) ∧ FrA aMb bMb T T2 ∧ mBt T2 (btP s (wyX f g i j) (wyY f g i j) i j) := by
  have nle : ¬ (4 : Int) ≤ (j : Int) := by omega
  obtain ⟨o1, o2, o3, o4, o5⟩ := id hf.1
  obtain ⟨p1, p2, p3, p4, p5⟩ := id hg.1
  have w1 := s_wave1 o1 o2 o3 o4 hi (enc T)
  have w2 := s_wave1 p1 p2 p3 p4 hj (enc T)
  have w3 := s_wave0 o1 o2 o3 o4 hi (enc T)
  have w4 := s_wave0 p1 p2 p3 p4 hj (enc T)
  have bd := wy_bd hf hg i j
  have hl := len_bd bd.1 bd.2
  have ex : (g 0 * g 3 - g 1 * g 2) * wvX (f 1) (f 3) i - (f 0 * f 3 - f 1 * f 2) * wvX (g 1) (g 3) j = wyX f g i j := rfl
  have ey : (g 0 * g 3 - g 1 * g 2) * wvY (f 0) (f 2) i - (f 0 * f 3 - f 1 * f 2) * wvY (g 0) (g 2) j = wyY f g i j := rfl
  have hk0 := hk.1
  generalize wyX f g i j = X at *
  generalize wyY f g i j = Y at *
  obtain ⟨t0', t1', t2', t3', t4'⟩ := hb
  rw [show ((j + 1 : Nat) : Int) = (j : Int) + 1 by omega]
  by_cases c1 : X * X + Y * Y = 0
  · obtain ⟨x0, y0⟩ := sq_0 c1
    refine ⟨sI T 53 39 (iI 1), ?_, (FrA.rf aMb bMb T).wr _ (by unfold aMb; omega), ?_⟩
    · have e : fnd (btP s X Y i j) = fnd s := by unfold btP; rw [if_pos c1]
      rw [e, x0, y0]
      rw [x0] at ex
      rw [y0] at ey
      rw [e_Dm_laysBeat_45]
      simp (disch := first | omega | assumption | decide | (simp (disch := omega) only [iI_lit, iJ_lit, iJ_eq, iI_eq, bI_01, bI_01I] <;> omega)) only [e_Dm_laysBeat_47, e_Dm_laysBeat_48, e_Dm_laysBeat_51, e_Dm_laysBeat_53, e_Dm_laysBeat_54, e_Dm_laysBeat_55, e_Dm_laysBeat_56, e_Dm_laysBeat_58, e_Dm_laysBeat_60, e_Dm_laysBeat_61, e_Dm_laysBeat_64, e_Dm_laysBeat_65, e_Dm_laysBeat_67, e_Dm_laysBeat_69, e_Dm_laysBeat_71, e_Dm_laysBeat_73, e_Dm_laysBeat_75, e_Dm_laysBeat_77, e_Dm_laysBeat_78, e_Dm_laysBeat_81, e_Dm_laysBeat_82, e_Dm_laysBeat_83, e_Dm_laysBeat_85, e_Dm_laysBeat_87, e_Dm_laysBeat_88, e_Dm_laysBeat_89, e_Dm_laysBeat_90, e_Dm_laysBeat_92, e_Dm_laysBeat_94, e_Dm_laysBeat_95, e_Dm_laysBeat_98, e_Dm_laysBeat_99, e_Dm_laysBeat_101, e_Dm_laysBeat_103, e_Dm_laysBeat_105, e_Dm_laysBeat_107, e_Dm_laysBeat_109, e_Dm_laysBeat_111, e_Dm_laysBeat_112, e_Dm_laysBeat_115, e_Dm_laysBeat_116, e_Dm_laysBeat_117, e_Dm_laysBeat_119, e_Dm_laysBeat_121, e_Dm_laysBeat_122, e_Dm_laysBeat_123, e_Dm_laysBeat_126, e_Dm_laysBeat_128, e_Dm_laysBeat_129, e_Dm_laysBeat_130, e_Dm_laysBeat_133, e_Dm_laysBeat_134, e_Dm_laysBeat_135, e_Dm_laysBeat_138, e_Dm_laysBeat_141, e_Dm_laysBeat_143, e_Dm_laysBeat_146, e_Dm_laysBeat_148, e_Dm_laysBeat_150, e_Dm_laysBeat_153, e_Dm_laysBeat_154, e_Dm_laysBeat_157, e_Dm_laysBeat_158, e_Dm_laysBeat_161, e_Dm_laysBeat_164, e_Dm_laysBeat_165, e_Dm_laysBeat_168, e_Dm_laysBeat_169, e_Dm_laysBeat_171, e_Dm_laysBeat_172, e_Dm_laysBeat_174, e_Dm_laysBeat_177, e_Dm_laysBeat_178, e_Dm_laysBeat_180, e_Dm_laysBeat_183, e_Dm_laysBeat_184, e_Dm_laysBeat_186, e_Dm_laysBeat_189, e_Dm_laysBeat_190, e_Dm_laysBeat_192, e_Dm_laysBeat_195, e_Dm_laysBeat_198, bd_some, bd_none, Option.toList_some, Option.toList_none, List.nil_append, List.cons_append, px_kill_int, px_kill_long, px_kill_ref, px_kill_null, iI_lit, iJ_lit, iI_add, iI_sub, iI_mul, iI_neg, iJ_add, iJ_sub, iJ_mul, iJ_neg, iI_lt, iI_le, iI_eq, iJ_lt, iJ_le, iJ_eq, iI_div, iJ_div, tdiv_tmod, iI_J, iJ_I, iI_ix, iI_toInt, iJ_toInt, cmp_ge, cmp_lt, cmp_eq, cmp_gt, cmp_le, cmp_geI, cmp_ltI, cmp_eqI, cmp_gtI, cmp_leI, bI_0I, bI_1I, pin, if_true, nle, if_false, w1, w2, w3, w4, ex, ey]
    · unfold btP
      rw [if_pos c1]
      unfold mBt
      simp only [sI_get, sJ_get, sI_2, sJ_1, sJ_22, sR_1, sR_21, Nat.reduceEqDiff, and_true, true_and, and_false, false_and, and_self, if_true, if_false, reduceIte, t0', t1', t2', t3']
  · rw [btP_fnd s X Y i j c1]
    have cxy : ¬ (X = 0 ∧ Y = 0) := by rintro ⟨rfl, rfl⟩; exact c1 rfl
    have go : ∀ (Z : Option (Option Value × px_G)), (rn k_Dm_laysBeat 141 (lBt f g (fnd s) (.int (iI (i : Int))) (.int (iI (j : Int))) (.long (iJ X)) .null (.long (iJ Y)) .null) [] (enc T) = Z) → rn k_Dm_laysBeat 45 (lBt f g (fnd s) (.int (iI (i : Int))) (.int (iI (j : Int))) a16 a17 a18 a19) [] (enc T) = Z := by
      intro Z hZ
      rw [e_Dm_laysBeat_45]
      by_cases x0 : X = 0
      · have y0 : ¬ Y = 0 := fun z => cxy ⟨x0, z⟩
        simp (disch := first | omega | assumption | decide | (simp (disch := omega) only [iI_lit, iJ_lit, iJ_eq, iI_eq, bI_01, bI_01I] <;> omega)) only [e_Dm_laysBeat_47, e_Dm_laysBeat_48, e_Dm_laysBeat_51, e_Dm_laysBeat_53, e_Dm_laysBeat_54, e_Dm_laysBeat_55, e_Dm_laysBeat_56, e_Dm_laysBeat_58, e_Dm_laysBeat_60, e_Dm_laysBeat_61, e_Dm_laysBeat_64, e_Dm_laysBeat_65, e_Dm_laysBeat_67, e_Dm_laysBeat_69, e_Dm_laysBeat_71, e_Dm_laysBeat_73, e_Dm_laysBeat_75, e_Dm_laysBeat_77, e_Dm_laysBeat_78, e_Dm_laysBeat_81, e_Dm_laysBeat_82, e_Dm_laysBeat_83, e_Dm_laysBeat_85, e_Dm_laysBeat_87, e_Dm_laysBeat_88, e_Dm_laysBeat_89, e_Dm_laysBeat_90, e_Dm_laysBeat_92, e_Dm_laysBeat_94, e_Dm_laysBeat_95, e_Dm_laysBeat_98, e_Dm_laysBeat_99, e_Dm_laysBeat_101, e_Dm_laysBeat_103, e_Dm_laysBeat_105, e_Dm_laysBeat_107, e_Dm_laysBeat_109, e_Dm_laysBeat_111, e_Dm_laysBeat_112, e_Dm_laysBeat_115, e_Dm_laysBeat_116, e_Dm_laysBeat_117, e_Dm_laysBeat_119, e_Dm_laysBeat_121, e_Dm_laysBeat_122, e_Dm_laysBeat_123, e_Dm_laysBeat_126, e_Dm_laysBeat_128, e_Dm_laysBeat_129, e_Dm_laysBeat_130, e_Dm_laysBeat_133, e_Dm_laysBeat_134, e_Dm_laysBeat_135, e_Dm_laysBeat_138, bd_some, bd_none, Option.toList_some, Option.toList_none, List.nil_append, List.cons_append, px_kill_int, px_kill_long, px_kill_ref, px_kill_null, iI_lit, iJ_lit, iI_add, iI_sub, iI_mul, iI_neg, iJ_add, iJ_sub, iJ_mul, iJ_neg, iI_lt, iI_le, iI_eq, iJ_lt, iJ_le, iJ_eq, iI_div, iJ_div, tdiv_tmod, iI_J, iJ_I, iI_ix, iI_toInt, iJ_toInt, cmp_ge, cmp_lt, cmp_eq, cmp_gt, cmp_le, cmp_geI, cmp_ltI, cmp_eqI, cmp_gtI, cmp_leI, bI_0I, bI_1I, pin, if_true, nle, if_false, w1, w2, w3, w4, ex, ey, x0, y0]
        rw [x0] at hZ
        exact hZ
      · simp (disch := first | omega | assumption | decide | (simp (disch := omega) only [iI_lit, iJ_lit, iJ_eq, iI_eq, bI_01, bI_01I] <;> omega)) only [e_Dm_laysBeat_47, e_Dm_laysBeat_48, e_Dm_laysBeat_51, e_Dm_laysBeat_53, e_Dm_laysBeat_54, e_Dm_laysBeat_55, e_Dm_laysBeat_56, e_Dm_laysBeat_58, e_Dm_laysBeat_60, e_Dm_laysBeat_61, e_Dm_laysBeat_64, e_Dm_laysBeat_65, e_Dm_laysBeat_67, e_Dm_laysBeat_69, e_Dm_laysBeat_71, e_Dm_laysBeat_73, e_Dm_laysBeat_75, e_Dm_laysBeat_77, e_Dm_laysBeat_78, e_Dm_laysBeat_81, e_Dm_laysBeat_82, e_Dm_laysBeat_83, e_Dm_laysBeat_85, e_Dm_laysBeat_87, e_Dm_laysBeat_88, e_Dm_laysBeat_89, e_Dm_laysBeat_90, e_Dm_laysBeat_92, e_Dm_laysBeat_94, e_Dm_laysBeat_95, e_Dm_laysBeat_98, e_Dm_laysBeat_99, e_Dm_laysBeat_101, e_Dm_laysBeat_103, e_Dm_laysBeat_105, e_Dm_laysBeat_107, e_Dm_laysBeat_109, e_Dm_laysBeat_111, e_Dm_laysBeat_112, e_Dm_laysBeat_115, e_Dm_laysBeat_116, e_Dm_laysBeat_117, e_Dm_laysBeat_119, e_Dm_laysBeat_121, e_Dm_laysBeat_122, e_Dm_laysBeat_123, e_Dm_laysBeat_126, e_Dm_laysBeat_128, e_Dm_laysBeat_129, e_Dm_laysBeat_130, e_Dm_laysBeat_133, e_Dm_laysBeat_134, e_Dm_laysBeat_135, e_Dm_laysBeat_138, bd_some, bd_none, Option.toList_some, Option.toList_none, List.nil_append, List.cons_append, px_kill_int, px_kill_long, px_kill_ref, px_kill_null, iI_lit, iJ_lit, iI_add, iI_sub, iI_mul, iI_neg, iJ_add, iJ_sub, iJ_mul, iJ_neg, iI_lt, iI_le, iI_eq, iJ_lt, iJ_le, iJ_eq, iI_div, iJ_div, tdiv_tmod, iI_J, iJ_I, iI_ix, iI_toInt, iJ_toInt, cmp_ge, cmp_lt, cmp_eq, cmp_gt, cmp_le, cmp_geI, cmp_ltI, cmp_eqI, cmp_gtI, cmp_leI, bI_0I, bI_1I, pin, if_true, nle, if_false, w1, w2, w3, w4, ex, ey, x0]
        exact hZ
    by_cases c2 : s.1 = 0 ∨ X * X + Y * Y < s.1
    · refine ⟨sI (sI (sJ (sJ T 53 35 (iJ X)) 53 36 (iJ Y)) 53 37 (iI (i : Int))) 53 38 (iI (j : Int)), go _ ?_, ((((FrA.rf aMb bMb T).wrJ _ (by unfold bMb; omega)).wrJ _ (by unfold bMb; omega)).wr _ (by unfold aMb; omega)).wr _ (by unfold aMb; omega), ?_⟩
      · by_cases c3 : s.1 = 0
        · have e : fnd s = 0 := if_pos c3
          rw [e]
          simp (disch := first | omega | assumption | decide | (simp (disch := omega) only [iI_lit, iJ_lit, iJ_eq, iI_eq, bI_01, bI_01I] <;> omega)) only [e_Dm_laysBeat_141, e_Dm_laysBeat_143, e_Dm_laysBeat_146, e_Dm_laysBeat_148, e_Dm_laysBeat_150, e_Dm_laysBeat_153, e_Dm_laysBeat_154, e_Dm_laysBeat_157, e_Dm_laysBeat_158, e_Dm_laysBeat_161, e_Dm_laysBeat_164, e_Dm_laysBeat_165, e_Dm_laysBeat_168, e_Dm_laysBeat_169, e_Dm_laysBeat_171, e_Dm_laysBeat_172, e_Dm_laysBeat_174, e_Dm_laysBeat_177, e_Dm_laysBeat_178, e_Dm_laysBeat_180, e_Dm_laysBeat_183, e_Dm_laysBeat_184, e_Dm_laysBeat_186, e_Dm_laysBeat_189, e_Dm_laysBeat_190, e_Dm_laysBeat_192, e_Dm_laysBeat_195, e_Dm_laysBeat_198, bd_some, bd_none, Option.toList_some, Option.toList_none, List.nil_append, List.cons_append, px_kill_int, px_kill_long, px_kill_ref, px_kill_null, iI_lit, iJ_lit, iI_add, iI_sub, iI_mul, iI_neg, iJ_add, iJ_sub, iJ_mul, iJ_neg, iI_lt, iI_le, iI_eq, iJ_lt, iJ_le, iJ_eq, iI_div, iJ_div, tdiv_tmod, iI_J, iJ_I, iI_ix, iI_toInt, iJ_toInt, cmp_ge, cmp_lt, cmp_eq, cmp_gt, cmp_le, cmp_geI, cmp_ltI, cmp_eqI, cmp_gtI, cmp_leI, bI_0I, bI_1I, pin, if_true]
        · have e : fnd s = 1 := if_neg c3
          obtain ⟨q1, q2, q3⟩ := hk.2.1 c3
          have c4 : ¬ s.1 ≤ X * X + Y * Y := by omega
          rw [e]
          simp (disch := first | omega | assumption | decide | (simp (disch := omega) only [iI_lit, iJ_lit, iJ_eq, iI_eq, bI_01, bI_01I] <;> omega)) only [e_Dm_laysBeat_141, e_Dm_laysBeat_143, e_Dm_laysBeat_146, e_Dm_laysBeat_148, e_Dm_laysBeat_150, e_Dm_laysBeat_153, e_Dm_laysBeat_154, e_Dm_laysBeat_157, e_Dm_laysBeat_158, e_Dm_laysBeat_161, e_Dm_laysBeat_164, e_Dm_laysBeat_165, e_Dm_laysBeat_168, e_Dm_laysBeat_169, e_Dm_laysBeat_171, e_Dm_laysBeat_172, e_Dm_laysBeat_174, e_Dm_laysBeat_177, e_Dm_laysBeat_178, e_Dm_laysBeat_180, e_Dm_laysBeat_183, e_Dm_laysBeat_184, e_Dm_laysBeat_186, e_Dm_laysBeat_189, e_Dm_laysBeat_190, e_Dm_laysBeat_192, e_Dm_laysBeat_195, e_Dm_laysBeat_198, bd_some, bd_none, Option.toList_some, Option.toList_none, List.nil_append, List.cons_append, px_kill_int, px_kill_long, px_kill_ref, px_kill_null, iI_lit, iJ_lit, iI_add, iI_sub, iI_mul, iI_neg, iJ_add, iJ_sub, iJ_mul, iJ_neg, iI_lt, iI_le, iI_eq, iJ_lt, iJ_le, iJ_eq, iI_div, iJ_div, tdiv_tmod, iI_J, iJ_I, iI_ix, iI_toInt, iJ_toInt, cmp_ge, cmp_lt, cmp_eq, cmp_gt, cmp_le, cmp_geI, cmp_ltI, cmp_eqI, cmp_gtI, cmp_leI, bI_0I, bI_1I, pin, if_true, one0, if_false, s_squared, t0', t1', ← q1, c4]
      · unfold btP
        rw [if_neg c1, if_pos c2]
        unfold mBt
        simp only [sI_get, sJ_get, sI_2, sJ_1, sJ_22, sR_1, sR_21, Nat.reduceEqDiff, and_true, true_and, and_false, false_and, and_self, if_true, if_false, reduceIte, t4']
    · have c3 : ¬ s.1 = 0 := fun z => c2 (Or.inl z)
      have c4 : s.1 ≤ X * X + Y * Y := by omega
      obtain ⟨q1, q2, q3⟩ := hk.2.1 c3
      refine ⟨T, go _ ?_, FrA.rf _ _ _, ?_⟩
      · have e : fnd s = 1 := if_neg c3
        rw [e]
        simp (disch := first | omega | assumption | decide | (simp (disch := omega) only [iI_lit, iJ_lit, iJ_eq, iI_eq, bI_01, bI_01I] <;> omega)) only [e_Dm_laysBeat_141, e_Dm_laysBeat_143, e_Dm_laysBeat_146, e_Dm_laysBeat_148, e_Dm_laysBeat_150, e_Dm_laysBeat_153, e_Dm_laysBeat_154, e_Dm_laysBeat_157, e_Dm_laysBeat_158, e_Dm_laysBeat_161, e_Dm_laysBeat_164, e_Dm_laysBeat_165, e_Dm_laysBeat_168, e_Dm_laysBeat_169, e_Dm_laysBeat_171, e_Dm_laysBeat_172, e_Dm_laysBeat_174, e_Dm_laysBeat_177, e_Dm_laysBeat_178, e_Dm_laysBeat_180, e_Dm_laysBeat_183, e_Dm_laysBeat_184, e_Dm_laysBeat_186, e_Dm_laysBeat_189, e_Dm_laysBeat_190, e_Dm_laysBeat_192, e_Dm_laysBeat_195, e_Dm_laysBeat_198, bd_some, bd_none, Option.toList_some, Option.toList_none, List.nil_append, List.cons_append, px_kill_int, px_kill_long, px_kill_ref, px_kill_null, iI_lit, iJ_lit, iI_add, iI_sub, iI_mul, iI_neg, iJ_add, iJ_sub, iJ_mul, iJ_neg, iI_lt, iI_le, iI_eq, iJ_lt, iJ_le, iJ_eq, iI_div, iJ_div, tdiv_tmod, iI_J, iJ_I, iI_ix, iI_toInt, iJ_toInt, cmp_ge, cmp_lt, cmp_eq, cmp_gt, cmp_le, cmp_geI, cmp_ltI, cmp_eqI, cmp_gtI, cmp_leI, bI_0I, bI_1I, pin, if_true, one0, if_false, s_squared, t0', t1', ← q1, c4]
      · unfold btP
        rw [if_neg c1, if_neg c2]
        exact ⟨t0', t1', t2', t3', t4'⟩
theorem lp_mbt2 {f g : Nat → Int} (hf : okN f) (hg : okN g) {i : Nat} (hi : i < 4) (s0 : BS) : ∀ (m j : Nat) (T : TS), j + m = 4 → mBt T (btR f g s0 i j) → okB (btR f g s0 i j) → ∀ (a16 a17 a18 a19 : Value), ∃ (T' : TS) (b16 b17 b18 b19 : Value), rn k_Dm_laysBeat 45 (lBt f g (fnd (btR f g s0 i j)) (.int (iI (i : Int))) (.int (iI (j : Int))) a16 a17 a18 a19) [] (enc T) = rn k_Dm_laysBeat 201 (lBt f g (fnd (btR f g s0 i 4)) (.int (iI (i : Int))) (.int (iI 4)) b16 b17 b18 b19) [] (enc T') ∧ FrA aMb bMb T T' ∧ mBt T' (btR f g s0 i 4) ∧ okB (btR f g s0 i 4) := by
  intro m
  induction m with
  | zero =>
    intro j T hj hb hk a16 a17 a18 a19
    have hj4 : j = 4 := by omega
    subst hj4
    refine ⟨T, a16, a17, a18, a19, ?_, FrA.rf _ _ _, hb, hk⟩
    rw [e_Dm_laysBeat_45]
    have e4 : ((4 : Nat) : Int) = 4 := rfl
    simp (disch := first | omega | assumption | decide | (simp (disch := omega) only [iI_lit, iJ_lit, iJ_eq, iI_eq, bI_01, bI_01I] <;> omega)) only [e_Dm_laysBeat_47, e_Dm_laysBeat_48, bd_some, bd_none, Option.toList_some, Option.toList_none, List.nil_append, List.cons_append, px_kill_int, px_kill_long, px_kill_ref, px_kill_null, e4, iI_lit, iJ_lit, iI_add, iI_sub, iI_mul, iI_neg, iJ_add, iJ_sub, iJ_mul, iJ_neg, iI_lt, iI_le, iI_eq, iJ_lt, iJ_le, iJ_eq, iI_div, iJ_div, tdiv_tmod, iI_J, iJ_I, iI_ix, iI_toInt, iJ_toInt, cmp_ge, cmp_lt, cmp_eq, cmp_gt, cmp_le, cmp_geI, cmp_ltI, cmp_eqI, cmp_gtI, cmp_leI, bI_0I, bI_1I, pin, if_true, Int.le_refl]
  | succ m ih =>
    intro j T hj hb hk a16 a17 a18 a19
    have bd := wy_bd hf hg i j
    obtain ⟨T2, e2, fr2, hb2⟩ := st_mbt hf hg hi (j := j) (by omega) hb hk a16 a17 a18 a19
    obtain ⟨T', b16, b17, b18, b19, e3, fr3, hb3, hk3⟩ := ih (j + 1) T2 (by omega) hb2 (hk.step bd.1 bd.2 i j) (.long (iJ (wyX f g i j))) .null (.long (iJ (wyY f g i j))) .null
    exact ⟨T', b16, b17, b18, b19, e2.trans e3, fr2.tr fr3, hb3, hk3⟩
set_option maxHeartbeats 2000000 in
theorem lp_mbt1 {f g : Nat → Int} (hf : okN f) (hg : okN g) (s0 : BS) : ∀ (m i : Nat) (T : TS), i + m = 4 → mBt T (btA f g s0 i) → okB (btA f g s0 i) → ∀ (a15 a16 a17 a18 a19 : Value), ∃ (T' : TS) (b15 b16 b17 b18 b19 : Value), rn k_Dm_laysBeat 36 (lBt f g (fnd (btA f g s0 i)) (.int (iI (i : Int))) a15 a16 a17 a18 a19) [] (enc T) = rn k_Dm_laysBeat 207 (lBt f g (fnd (btA f g s0 4)) (.int (iI 4)) b15 b16 b17 b18 b19) [] (enc T') ∧ FrA aMb bMb T T' ∧ mBt T' (btA f g s0 4) ∧ okB (btA f g s0 4) := by
  intro m
  induction m with
  | zero =>
    intro i T hi hb hk a15 a16 a17 a18 a19
    have hi4 : i = 4 := by omega
    subst hi4
    refine ⟨T, a15, a16, a17, a18, a19, ?_, FrA.rf _ _ _, hb, hk⟩
    rw [e_Dm_laysBeat_36]
    have e4 : ((4 : Nat) : Int) = 4 := rfl
    simp (disch := first | omega | assumption | decide | (simp (disch := omega) only [iI_lit, iJ_lit, iJ_eq, iI_eq, bI_01, bI_01I] <;> omega)) only [e_Dm_laysBeat_38, e_Dm_laysBeat_39, e_Dm_laysBeat_42, e_Dm_laysBeat_43, bd_some, bd_none, Option.toList_some, Option.toList_none, List.nil_append, List.cons_append, px_kill_int, px_kill_long, px_kill_ref, px_kill_null, e4, iI_lit, iJ_lit, iI_add, iI_sub, iI_mul, iI_neg, iJ_add, iJ_sub, iJ_mul, iJ_neg, iI_lt, iI_le, iI_eq, iJ_lt, iJ_le, iJ_eq, iI_div, iJ_div, tdiv_tmod, iI_J, iJ_I, iI_ix, iI_toInt, iJ_toInt, cmp_ge, cmp_lt, cmp_eq, cmp_gt, cmp_le, cmp_geI, cmp_ltI, cmp_eqI, cmp_gtI, cmp_leI, bI_0I, bI_1I, pin, if_true, Int.le_refl]
  | succ m ih =>
    intro i T hi hb hk a15 a16 a17 a18 a19
    have nle : ¬ (4 : Int) ≤ (i : Int) := by omega
    obtain ⟨T2, c16, c17, c18, c19, e2, fr2, hb2, hk2⟩ := lp_mbt2 hf hg (i := i) (by omega) (btA f g s0 i) 4 0 T (by omega) hb hk a16 a17 a18 a19
    obtain ⟨T', b15, b16, b17, b18, b19, e3, fr3, hb3, hk3⟩ := ih (i + 1) T2 (by omega) hb2 hk2 (.int (iI 4)) c16 c17 c18 c19
    refine ⟨T', b15, b16, b17, b18, b19, ?_, fr2.tr fr3, hb3, hk3⟩
    rw [e_Dm_laysBeat_36]
    simp (disch := first | omega | assumption | decide | (simp (disch := omega) only [iI_lit, iJ_lit, iJ_eq, iI_eq, bI_01, bI_01I] <;> omega)) only [e_Dm_laysBeat_38, e_Dm_laysBeat_39, e_Dm_laysBeat_42, e_Dm_laysBeat_43, bd_some, bd_none, Option.toList_some, Option.toList_none, List.nil_append, List.cons_append, px_kill_int, px_kill_long, px_kill_ref, px_kill_null, iI_lit, iJ_lit, iI_add, iI_sub, iI_mul, iI_neg, iJ_add, iJ_sub, iJ_mul, iJ_neg, iI_lt, iI_le, iI_eq, iJ_lt, iJ_le, iJ_eq, iI_div, iJ_div, tdiv_tmod, iI_J, iJ_I, iI_ix, iI_toInt, iJ_toInt, cmp_ge, cmp_lt, cmp_eq, cmp_gt, cmp_le, cmp_geI, cmp_ltI, cmp_eqI, cmp_gtI, cmp_leI, bI_0I, bI_1I, pin, if_true, nle, if_false]
    refine Eq.trans e2 ?_
    simp (disch := first | omega | assumption | decide | (simp (disch := omega) only [iI_lit, iJ_lit, iJ_eq, iI_eq, bI_01, bI_01I] <;> omega)) only [e_Dm_laysBeat_201, e_Dm_laysBeat_204, bd_some, bd_none, Option.toList_some, Option.toList_none, List.nil_append, List.cons_append, px_kill_int, px_kill_long, px_kill_ref, px_kill_null, iI_lit, iJ_lit, iI_add, iI_sub, iI_mul, iI_neg, iJ_add, iJ_sub, iJ_mul, iJ_neg, iI_lt, iI_le, iI_eq, iJ_lt, iJ_le, iJ_eq, iI_div, iJ_div, tdiv_tmod, iI_J, iJ_I, iI_ix, iI_toInt, iJ_toInt, cmp_ge, cmp_lt, cmp_eq, cmp_gt, cmp_le, cmp_geI, cmp_ltI, cmp_eqI, cmp_gtI, cmp_leI, bI_0I, bI_1I, pin, if_true]
    rw [show (i : Int) + 1 = ((i + 1 : Nat) : Int) by omega]
    exact e3
set_option maxHeartbeats 2000000 in
theorem s_laysBeat {f g : Nat → Int} (hf : okN f) (hg : okN g) (T : TS) : ∃ (T2 : TS) (s0 : BS), s0.1 = 0 ∧ s0.2.2.2.2.2 = 0 ∧ FrA aMb bMb T T2 ∧ mBt T2 (btA f g s0 4) ∧ okB (btA f g s0 4) ∧ cl k_Dm_laysBeat [.ref 53, .int (iI (f 0)), .int (iI (f 1)), .int (iI (f 2)), .int (iI (f 3)), .int (iI (g 0)), .int (iI (g 1)), .int (iI (g 2)), .int (iI (g 3))] (enc T) = some (none, enc T2) := by
  obtain ⟨s0, hs0⟩ : ∃ s0 : BS, s0 = (0, (T.2.1 53 35).toInt, (T.2.1 53 36).toInt, (T.1 53 37).toInt, (T.1 53 38).toInt, 0) := ⟨_, rfl⟩
  have z1 : s0.1 = 0 := by rw [hs0]
  have z2 : s0.2.2.2.2.2 = 0 := by rw [hs0]
  obtain ⟨o1, o2, o3, o4, o5⟩ := id hf.1
  obtain ⟨p1, p2, p3, p4, p5⟩ := id hg.1
  have fr0 : FrA aMb bMb T (sI T 53 39 (iI 0)) := (FrA.rf aMb bMb T).wr _ (by unfold aMb; omega)
  obtain ⟨T2, b15, b16, b17, b18, b19, e2, fr2, hb2, hk2⟩ := lp_mbt1 hf hg s0 4 0 (sI T 53 39 (iI 0)) (by omega) (by
    show mBt _ s0
    rw [hs0]
    unfold mBt
    simp only [sI_get, sJ_get, sI_2, sJ_1, sJ_22, sR_1, sR_21, Nat.reduceEqDiff, and_true, true_and, and_false, false_and, and_self, if_true, if_false, reduceIte, iI_of, iJ_of]) (by
    show okB s0
    exact ⟨by omega, fun z => absurd z1 z, Or.inl z2⟩) .null .null .null .null .null
  refine ⟨T2, s0, z1, z2, fr0.tr fr2, hb2, hk2, ?_⟩
  have ez : fnd (btA f g s0 0) = 0 := if_pos z1
  rw [ez] at e2
  simp (disch := first | omega | assumption | decide | (simp (disch := omega) only [iI_lit, iJ_lit, iJ_eq, iI_eq, bI_01, bI_01I] <;> omega)) only [c_Dm_laysBeat, e_Dm_laysBeat_0, e_Dm_laysBeat_1, e_Dm_laysBeat_3, e_Dm_laysBeat_4, e_Dm_laysBeat_5, e_Dm_laysBeat_6, e_Dm_laysBeat_7, e_Dm_laysBeat_8, e_Dm_laysBeat_9, e_Dm_laysBeat_11, e_Dm_laysBeat_13, e_Dm_laysBeat_15, e_Dm_laysBeat_16, e_Dm_laysBeat_18, e_Dm_laysBeat_20, e_Dm_laysBeat_21, e_Dm_laysBeat_22, e_Dm_laysBeat_23, e_Dm_laysBeat_25, e_Dm_laysBeat_26, e_Dm_laysBeat_28, e_Dm_laysBeat_29, e_Dm_laysBeat_30, e_Dm_laysBeat_33, e_Dm_laysBeat_34, bd_some, bd_none, Option.toList_some, Option.toList_none, List.nil_append, List.cons_append, px_kill_int, px_kill_long, px_kill_ref, px_kill_null, iI_lit, iJ_lit, iI_add, iI_sub, iI_mul, iI_neg, iJ_add, iJ_sub, iJ_mul, iJ_neg, iI_lt, iI_le, iI_eq, iJ_lt, iJ_le, iJ_eq, iI_div, iJ_div, tdiv_tmod, iI_J, iJ_I, iI_ix, iI_toInt, iJ_toInt, cmp_ge, cmp_lt, cmp_eq, cmp_gt, cmp_le, cmp_geI, cmp_ltI, cmp_eqI, cmp_gtI, cmp_leI, bI_0I, bI_1I, pin, if_true]
  refine Eq.trans e2 ?_
  simp (disch := first | omega | assumption | decide | (simp (disch := omega) only [iI_lit, iJ_lit, iJ_eq, iI_eq, bI_01, bI_01I] <;> omega)) only [e_Dm_laysBeat_207, bd_some, bd_none, Option.toList_some, Option.toList_none, List.nil_append, List.cons_append, px_kill_int, px_kill_long, px_kill_ref, px_kill_null, iI_lit, iJ_lit, iI_add, iI_sub, iI_mul, iI_neg, iJ_add, iJ_sub, iJ_mul, iJ_neg, iI_lt, iI_le, iI_eq, iJ_lt, iJ_le, iJ_eq, iI_div, iJ_div, tdiv_tmod, iI_J, iJ_I, iI_ix, iI_toInt, iJ_toInt, cmp_ge, cmp_lt, cmp_eq, cmp_gt, cmp_le, cmp_geI, cmp_ltI, cmp_eqI, cmp_gtI, cmp_leI, bI_0I, bI_1I, pin, if_true]
