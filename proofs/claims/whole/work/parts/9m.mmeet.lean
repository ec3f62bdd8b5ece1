/-! two grids meet: the reference's side. -/
set_option maxHeartbeats 2000000 in
theorem lp_mmeet {T : TS} {w o oh os O m : Int} (hw : T.2.1 53 11 = iJ w) (bw : 0 < w ∧ w ≤ 429981696) (bo : 0 < o ∧ o ≤ 144) (bO : 0 ≤ O ∧ O ≤ 10000000000000) (bm : 0 ≤ m ∧ m ≤ 144) (v7 v9 v11 v15 v17 : Int64) : ∀ (n i : Nat) (x : Int), (i : Int) + n = m → 0 ≤ x → x + (n : Int) * 429981696 ≤ 20000000000000 → ∃ i' : Int64, rn k_Dm_meets 121 [.ref 53, .long (iJ o), .null, .long (iJ oh), .null, .long (iJ os), .null, .long v7, .null, .long v9, .null, .long v11, .null, .long (iJ O), .null, .long v15, .null, .long v17, .null, .long (iJ x), .null, .long (iJ m), .null, .long (iJ (i : Int)), .null] [] (enc T) = rn k_Dm_meets 161 [.ref 53, .long (iJ o), .null, .long (iJ oh), .null, .long (iJ os), .null, .long v7, .null, .long v9, .null, .long v11, .null, .long (iJ O), .null, .long v15, .null, .long v17, .null, .long (iJ (fdK w o O n x)), .null, .long (iJ m), .null, .long i', .null] [] (enc T) := by
  intro n
  induction n with
  | zero =>
    intro i x hi h0 h1
    have e : (i : Int) = m := by omega
    refine ⟨iJ m, ?_⟩
    rw [e, e_Dm_meets_121]
    simp (disch := first | omega | assumption | decide | (simp (disch := omega) only [iI_lit, iJ_lit, iJ_eq, iI_eq, bI_01, bI_01I] <;> omega)) only [e_Dm_meets_123, e_Dm_meets_125, e_Dm_meets_126, bd_some, bd_none, Option.toList_some, Option.toList_none, List.nil_append, List.cons_append, px_kill_int, px_kill_long, px_kill_ref, px_kill_null, iI_lit, iJ_lit, iI_add, iI_sub, iI_mul, iI_neg, iJ_add, iJ_sub, iJ_mul, iJ_neg, iI_lt, iI_le, iI_eq, iJ_lt, iJ_le, iJ_eq, iI_div, iJ_div, tdiv_tmod, iI_J, iJ_I, iI_ix, iI_toInt, iJ_toInt, cmp_ge, cmp_lt, cmp_eq, cmp_gt, cmp_le, cmp_geI, cmp_ltI, cmp_eqI, cmp_gtI, cmp_leI, bI_0I, bI_1I, pin, if_true, Int.le_refl]
    rfl
  | succ n ih =>
    intro i x hi h0 h1
    have nle : ¬ m ≤ (i : Int) := by omega
    have e1 := s_left (a := x - O) (b := o) (by omega) (by omega) (enc T)
    have m0 := Int.emod_nonneg (x - O) (b := o) (by omega)
    have m1 := Int.emod_lt_of_pos (x - O) bo.1
    rw [fdK_s]
    by_cases c : (x - O) % o = 0
    · rw [if_pos c]
      rw [c] at e1
      refine ⟨iJ (i : Int), ?_⟩
      rw [e_Dm_meets_121]
      simp (disch := first | omega | assumption | decide | (simp (disch := omega) only [iI_lit, iJ_lit, iJ_eq, iI_eq, bI_01, bI_01I] <;> omega)) only [e_Dm_meets_123, e_Dm_meets_125, e_Dm_meets_126, e_Dm_meets_129, e_Dm_meets_131, e_Dm_meets_133, e_Dm_meets_134, e_Dm_meets_135, e_Dm_meets_138, e_Dm_meets_139, e_Dm_meets_140, e_Dm_meets_143, e_Dm_meets_145, e_Dm_meets_146, e_Dm_meets_149, e_Dm_meets_150, e_Dm_meets_152, e_Dm_meets_154, e_Dm_meets_155, e_Dm_meets_156, e_Dm_meets_158, bd_some, bd_none, Option.toList_some, Option.toList_none, List.nil_append, List.cons_append, px_kill_int, px_kill_long, px_kill_ref, px_kill_null, iI_lit, iJ_lit, iI_add, iI_sub, iI_mul, iI_neg, iJ_add, iJ_sub, iJ_mul, iJ_neg, iI_lt, iI_le, iI_eq, iJ_lt, iJ_le, iJ_eq, iI_div, iJ_div, tdiv_tmod, iI_J, iJ_I, iI_ix, iI_toInt, iJ_toInt, cmp_ge, cmp_lt, cmp_eq, cmp_gt, cmp_le, cmp_geI, cmp_ltI, cmp_eqI, cmp_gtI, cmp_leI, bI_0I, bI_1I, pin, if_true, nle, if_false, hw, e1]
    · rw [if_neg c]
      obtain ⟨i', e2⟩ := ih (i + 1) (x + w) (by omega) (by omega) (by omega)
      refine ⟨i', ?_⟩
      refine Eq.trans ?_ e2
      rw [show ((i + 1 : Nat) : Int) = (i : Int) + 1 by omega, e_Dm_meets_121]
      generalize (x - O) % o = Z at *
      simp (disch := first | omega | assumption | decide | (simp (disch := omega) only [iI_lit, iJ_lit, iJ_eq, iI_eq, bI_01, bI_01I] <;> omega)) only [e_Dm_meets_123, e_Dm_meets_125, e_Dm_meets_126, e_Dm_meets_129, e_Dm_meets_131, e_Dm_meets_133, e_Dm_meets_134, e_Dm_meets_135, e_Dm_meets_138, e_Dm_meets_139, e_Dm_meets_140, e_Dm_meets_143, e_Dm_meets_145, e_Dm_meets_146, e_Dm_meets_149, e_Dm_meets_150, e_Dm_meets_152, e_Dm_meets_154, e_Dm_meets_155, e_Dm_meets_156, e_Dm_meets_158, bd_some, bd_none, Option.toList_some, Option.toList_none, List.nil_append, List.cons_append, px_kill_int, px_kill_long, px_kill_ref, px_kill_null, iI_lit, iJ_lit, iI_add, iI_sub, iI_mul, iI_neg, iJ_add, iJ_sub, iJ_mul, iJ_neg, iI_lt, iI_le, iI_eq, iJ_lt, iJ_le, iJ_eq, iI_div, iJ_div, tdiv_tmod, iI_J, iJ_I, iI_ix, iI_toInt, iJ_toInt, cmp_ge, cmp_lt, cmp_eq, cmp_gt, cmp_le, cmp_geI, cmp_ltI, cmp_eqI, cmp_gtI, cmp_leI, bI_0I, bI_1I, pin, if_true, nle, if_false, hw, e1, c]
theorem q_nn {a b : Int} (h : 0 ≤ a) : a.tdiv b = a / b := Int.tdiv_eq_ediv_of_nonneg h
set_option maxHeartbeats 4000000 in
theorem m_meets {T : TS} {C w h s o oh os : Int} (hC : C ≤ 429981696) (h1 : okMC C w h s) (h2 : okG o oh os) (hg : mGrd T w h s) : ∃ T', cl k_Dm_meets [.ref 53, .long (iJ o), .long (iJ oh), .long (iJ os)] (enc T) = some (none, enc T') ∧ FrA aNo (fun p i => p = 53 ∧ 11 ≤ i ∧ i ≤ 13) T T' ∧ mGrd T' (mtW w o) (mtH w h s o oh os) (mtS w h s o oh os) := by
  obtain ⟨F1, F2, F3, F4, F5, F6, F7, F8, F9, F10, F11, F12⟩ := mt_facts hC h1 h2
  obtain ⟨w0, h0, s0, c0⟩ := id h1
  obtain ⟨o0, oh0, os0, oc0⟩ := id h2
  obtain ⟨pw, ph⟩ := prod_le w0 h0 c0
  obtain ⟨a0, a1, a2⟩ := id hg
  have e1 := s_part (a := w) (b := o) (by omega) (by omega) (enc T)
  have rg : ((Int.gcd w o : Nat) : Int) = gc w o := rfl
  rw [rg] at e1
  have e2 := s_part (a := h) (b := oh) (by omega) (by omega) (enc T)
  have rg1 : ((Int.gcd h oh : Nat) : Int) = gc h oh := rfl
  rw [rg1] at e2
  have t1 : h.tdiv (gc h oh) = h / gc h oh := q_nn (by omega)
  have r1 : h / gc h oh * oh = mRs h oh := rfl
  have t2 : (mRs h oh).tdiv h = mRs h oh / h := q_nn (by omega)
  have t3 : (mRs h oh).tdiv oh = mRs h oh / oh := q_nn (by omega)
  have rx : s * (mRs h oh / h) = mX h s oh := Int.mul_comm _ _
  have ro : os * (mRs h oh / oh) = mO h oh os := Int.mul_comm _ _
  have e5 := s_part (a := gc w o) (b := mX h s oh - mO h oh os) (by omega) (by omega) (enc T)
  have rg2 : ((Int.gcd (gc w o) (mX h s oh - mO h oh os) : Nat) : Int) = gc (gc w o) (mX h s oh - mO h oh os) := rfl
  rw [rg2] at e5
  have gle : gc (gc w o) (mX h s oh - mO h oh os) ≤ gc w o := (gc_f (w := gc w o) (o := mX h s oh - mO h oh os) F1.1).2.2.2
  have t4 : (gc w o).tdiv (gc (gc w o) (mX h s oh - mO h oh os)) = mTm w h s o oh os := q_nn (by omega)
  have rh : mRs h oh * mTm w h s o oh os = mtH w h s o oh os := Int.mul_comm _ _
  have t5 : w.tdiv (gc w o) = w / gc w o := q_nn (by omega)
  have r5 : w / gc w o * o = mtW w o := rfl
  have t6 : o.tdiv (gc w o) = o / gc w o := q_nn (by omega)
  have bX := mul_bd2 (a := mX h s oh) (b := mTm w h s o oh os) (M := 61917364224) (N := 144) (by omega) (by omega)
  have bO := mul_bd2 (a := mO h oh os) (b := mTm w h s o oh os) (M := 61917364224) (N := 144) (by omega) (by omega)
  have e6 := s_left (a := mX h s oh * mTm w h s o oh os) (b := w) (by omega) (by omega) (enc T)
  have e7 := s_left (a := mO h oh os * mTm w h s o oh os) (b := o) (by omega) (by omega) (enc T)
  have X0 := Int.emod_nonneg (mX h s oh * mTm w h s o oh os) (b := w) (by omega)
  have X1 := Int.emod_lt_of_pos (mX h s oh * mTm w h s o oh os) w0
  have O0 := Int.emod_nonneg (mO h oh os * mTm w h s o oh os) (b := o) (by omega)
  have O1 := Int.emod_lt_of_pos (mO h oh os * mTm w h s o oh os) o0.1
  have dX : w ∣ mX h s oh * mTm w h s o oh os - mX h s oh * mTm w h s o oh os % w := Int.dvd_self_sub_emod
  have dO : o ∣ mO h oh os * mTm w h s o oh os - mO h oh os * mTm w h s o oh os % o := Int.dvd_self_sub_emod
  have nn : ((o / gc w o).toNat : Int) = o / gc w o := by omega
  obtain ⟨i', lp⟩ := lp_mmeet (T := T) (w := w) (o := o) (oh := oh) (os := os) (O := mO h oh os * mTm w h s o oh os % o) (m := o / gc w o) a0 ⟨w0, by omega⟩ o0 (by omega) (by omega) (iJ (gc w o)) (iJ (mtH w h s o oh os)) (iJ (mX h s oh * mTm w h s o oh os % w)) (iJ (mTm w h s o oh os)) (iJ (mtW w o)) (o / gc w o).toNat 0 (mX h s oh * mTm w h s o oh os % w) (by omega) X0 (by omega)
  have same := meet_same (w := w) (o := o) (X := mX h s oh * mTm w h s o oh os) (O := mO h oh os * mTm w h s o oh os) (X' := mX h s oh * mTm w h s o oh os % w) (O' := mO h oh os * mTm w h s o oh os % o) w0 o0.1 dX dO F8 (n := 144) (n' := (o / gc w o).toNat) (by omega) (by omega)
  obtain ⟨j, hj, ej⟩ := same.2.2
  have bj := mul_bd2 (a := (j : Int)) (b := w) (M := 144) (N := 429981696) (by omega) (by omega)
  have eS : fdK w o (mO h oh os * mTm w h s o oh os % o) (o / gc w o).toNat (mX h s oh * mTm w h s o oh os % w) % mtW w o = mtS w h s o oh os := same.1.symm
  clear same
  generalize fdK w o (mO h oh os * mTm w h s o oh os % o) (o / gc w o).toNat (mX h s oh * mTm w h s o oh os % w) = K at *
  generalize mX h s oh * mTm w h s o oh os % w = X' at *
  generalize mO h oh os * mTm w h s o oh os % o = O' at *
  have e8 := s_left (a := K) (b := mtW w o) (by omega) (by omega) (enc (sJ (sJ T 53 11 (iJ (mtW w o))) 53 12 (iJ (mtH w h s o oh os))))
  rw [eS] at e8
  refine ⟨sJ (sJ (sJ T 53 11 (iJ (mtW w o))) 53 12 (iJ (mtH w h s o oh os))) 53 13 (iJ (mtS w h s o oh os)), ?_, (((FrA.rf aNo (fun p i => p = 53 ∧ 11 ≤ i ∧ i ≤ 13) T).wrJ _ ⟨rfl, by omega⟩).wrJ _ ⟨rfl, by omega⟩).wrJ _ ⟨rfl, by omega⟩, ?_⟩
  · have pre : cl k_Dm_meets [.ref 53, .long (iJ o), .long (iJ oh), .long (iJ os)] (enc T) = rn k_Dm_meets 121 [.ref 53, .long (iJ o), .null, .long (iJ oh), .null, .long (iJ os), .null, .long (iJ (gc w o)), .null, .long (iJ (mtH w h s o oh os)), .null, .long (iJ X'), .null, .long (iJ O'), .null, .long (iJ (mTm w h s o oh os)), .null, .long (iJ (mtW w o)), .null, .long (iJ X'), .null, .long (iJ (o / gc w o)), .null, .long (iJ ((0 : Nat) : Int)), .null] [] (enc T) := by
      simp (disch := first | omega | assumption | decide | (simp (disch := omega) only [iI_lit, iJ_lit, iJ_eq, iI_eq, bI_01, bI_01I] <;> omega)) only [c_Dm_meets, e_Dm_meets_0, e_Dm_meets_1, e_Dm_meets_4, e_Dm_meets_5, e_Dm_meets_8, e_Dm_meets_10, e_Dm_meets_11, e_Dm_meets_14, e_Dm_meets_15, e_Dm_meets_18, e_Dm_meets_19, e_Dm_meets_22, e_Dm_meets_23, e_Dm_meets_24, e_Dm_meets_25, e_Dm_meets_27, e_Dm_meets_28, e_Dm_meets_31, e_Dm_meets_33, e_Dm_meets_34, e_Dm_meets_37, e_Dm_meets_38, e_Dm_meets_39, e_Dm_meets_41, e_Dm_meets_43, e_Dm_meets_45, e_Dm_meets_46, e_Dm_meets_47, e_Dm_meets_48, e_Dm_meets_50, e_Dm_meets_52, e_Dm_meets_54, e_Dm_meets_56, e_Dm_meets_58, e_Dm_meets_59, e_Dm_meets_62, e_Dm_meets_63, e_Dm_meets_65, e_Dm_meets_67, e_Dm_meets_69, e_Dm_meets_70, e_Dm_meets_72, e_Dm_meets_74, e_Dm_meets_76, e_Dm_meets_77, e_Dm_meets_78, e_Dm_meets_81, e_Dm_meets_84, e_Dm_meets_86, e_Dm_meets_88, e_Dm_meets_90, e_Dm_meets_91, e_Dm_meets_92, e_Dm_meets_95, e_Dm_meets_97, e_Dm_meets_98, e_Dm_meets_101, e_Dm_meets_103, e_Dm_meets_104, e_Dm_meets_105, e_Dm_meets_106, e_Dm_meets_108, e_Dm_meets_110, e_Dm_meets_112, e_Dm_meets_113, e_Dm_meets_115, e_Dm_meets_116, e_Dm_meets_118, e_Dm_meets_119, bd_some, bd_none, Option.toList_some, Option.toList_none, List.nil_append, List.cons_append, px_kill_int, px_kill_long, px_kill_ref, px_kill_null, iI_lit, iJ_lit, iI_add, iI_sub, iI_mul, iI_neg, iJ_add, iJ_sub, iJ_mul, iJ_neg, iI_lt, iI_le, iI_eq, iJ_lt, iJ_le, iJ_eq, iI_div, iJ_div, tdiv_tmod, iI_J, iJ_I, iI_ix, iI_toInt, iJ_toInt, cmp_ge, cmp_lt, cmp_eq, cmp_gt, cmp_le, cmp_geI, cmp_ltI, cmp_eqI, cmp_gtI, cmp_leI, bI_0I, bI_1I, pin, if_true, a0, a1, a2, e1, e2, t1, r1, t2, t3, rx, ro, e5, t4, rh, e6, e7, t5, r5, t6]
      rfl
    rw [pre, lp]
    simp (disch := first | omega | assumption | decide | (simp (disch := omega) only [iI_lit, iJ_lit, iJ_eq, iI_eq, bI_01, bI_01I] <;> omega)) only [e_Dm_meets_161, e_Dm_meets_162, e_Dm_meets_164, e_Dm_meets_167, e_Dm_meets_168, e_Dm_meets_170, e_Dm_meets_173, e_Dm_meets_174, e_Dm_meets_176, e_Dm_meets_178, e_Dm_meets_181, e_Dm_meets_184, bd_some, bd_none, Option.toList_some, Option.toList_none, List.nil_append, List.cons_append, px_kill_int, px_kill_long, px_kill_ref, px_kill_null, iI_lit, iJ_lit, iI_add, iI_sub, iI_mul, iI_neg, iJ_add, iJ_sub, iJ_mul, iJ_neg, iI_lt, iI_le, iI_eq, iJ_lt, iJ_le, iJ_eq, iI_div, iJ_div, tdiv_tmod, iI_J, iJ_I, iI_ix, iI_toInt, iJ_toInt, cmp_ge, cmp_lt, cmp_eq, cmp_gt, cmp_le, cmp_geI, cmp_ltI, cmp_eqI, cmp_gtI, cmp_leI, bI_0I, bI_1I, pin, if_true, sI_get, sJ_get, sI_2, sJ_1, sJ_22, sR_1, sR_21, Nat.reduceEqDiff, and_true, true_and, and_false, false_and, and_self, if_true, if_false, reduceIte, e8]
  · unfold mGrd
    simp only [sI_get, sJ_get, sI_2, sJ_1, sJ_22, sR_1, sR_21, Nat.reduceEqDiff, and_true, true_and, and_false, false_and, and_self, if_true, if_false, reduceIte]
