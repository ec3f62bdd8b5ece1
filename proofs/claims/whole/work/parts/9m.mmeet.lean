/-! two grids meet: the reference's side. -/
set_option maxHeartbeats 2000000 in
theorem lp_mmeet {T : TS} {w o oh os O m : Int} (hw : T.2.1 53 11 = iJ w) (bw : 0 < w ∧ w ≤ 429981696) (bo : 0 < o ∧ o ≤ 144) (bO : 0 ≤ O ∧ O ≤ 10000000000000) (bm : 0 ≤ m ∧ m ≤ 144) (v7 v9 v11 v15 v17 : Int64) : ∀ (n i : Nat) (x : Int), (i : Int) + n = m → 0 ≤ x → x + (n : Int) * 429981696 ≤ 20000000000000 → ∃ i' : Int64, rn k_Dm_meets 121 [.ref 53, .long (iJ o), .null, .long (iJ oh), .null, .long (iJ os), .null, .long v7, .null, .long v9, .null, .long v11, .null, .long (iJ O), .null, .long v15, .null, .long v17, .null, .long (iJ x), .null, .long (iJ m), .null, .long (iJ (i : Int)), .null] [] (enc T) = rn k_Dm_meets 161 [.ref 53, .long (iJ o), .null, .long (iJ oh), .null, .long (iJ os), .null, .long v7, .null, .long v9, .null, .long v11, .null, .long (iJ O), .null, .long v15, .null, .long v17, .null, .long (iJ (fdK w o O n x)), .null, .long (iJ m), .null, .long i', .null] [] (enc T) := by
  intro n
  induction n with
  | zero =>
    intro i x hi h0 h1
    have e : (i : Int) = m := by omega
    refine ⟨iJ m, ?_⟩
    rw [e, e_Dm_meets_121]
    simp (disch := first | omega | assumption | decide | (simp (disch := omega) only [iI_lit, iJ_lit, iJ_eq, iI_eq, bI_01, bI_01I] <;> omega)) only [e_Dm_meets_123, e_Dm_meets_125, e_Dm_meets_126, bd_some, bd_none, Option.toList_some, Option.toList_none, List.nil_append, List.cons_append, px_kill_int, px_kill_long, px_kill_ref, px_kill_null, iI_lit, iJ_lit, iI_add, iI_sub, iI_mul, iI_neg, iJ_add, iJ_sub, iJ_mul, iJ_neg, iI_lt, iI_le, iI_eq, iJ_lt, iJ_le, iJ_eq, iI_div, iJ_div, tdiv_tmod, iI_J, iJ_I, iI_ix, iI_toInt, iJ_toInt, cmp_ge, cmp_lt, cmp_eq, cmp_gt, cmp_le, cmp_geI, cmp_ltI, cmp_eqI, cmp_gtI, cmp_leI, bI_0I, bI_1I, pin, if_true, Int.le_refl]
    rfl
  | succ n ih =>
    intro i x hi h0 h1
    have nle : ¬ m ≤ (i : Int) := by omega
    have e1 := s_left (a := x - O) (b := o) (by omega) (by omega) (enc T)
    have m0 := Int.emod_nonneg (x - O) (b := o) (by omega)
    have m1 := Int.emod_lt_of_pos (x - O) bo.1
    rw [fdK_s]
    by_cases c : (x - O) % o = 0
    · rw [if_pos c]
      rw [c] at e1
      refine ⟨iJ (i : Int), ?_⟩
      rw [e_Dm_meets_121]
      simp (disch := first | omega | assumption | decide | (simp (disch := omega) only [iI_lit, iJ_lit, iJ_eq, iI_eq, bI_01, bI_01I] <;> omega)) only [e_Dm_meets_123, e_Dm_meets_125, e_Dm_meets_126, e_Dm_meets_129, e_Dm_meets_131, e_Dm_meets_133, e_Dm_meets_134, e_Dm_meets_135, e_Dm_meets_138, e_Dm_meets_139, e_Dm_meets_140, e_Dm_meets_143, e_Dm_meets_145, e_Dm_meets_146, e_Dm_meets_149, e_Dm_meets_150, e_Dm_meets_152, e_Dm_meets_154, e_Dm_meets_155, e_Dm_meets_156, e_Dm_meets_158, bd_some, bd_none, Option.toList_some, Option.toList_none, List.nil_append, List.cons_append, px_kill_int, px_kill_long, px_kill_ref, px_kill_null, iI_lit, iJ_lit, iI_add, iI_sub, iI_mul, iI_neg, iJ_add, iJ_sub, iJ_mul, iJ_neg, iI_lt, iI_le, iI_eq, iJ_lt, iJ_le, iJ_eq, iI_div, iJ_div, tdiv_tmod, iI_J, iJ_I, iI_ix, iI_toInt, iJ_toInt, cmp_ge, cmp_lt, cmp_eq, cmp_gt, cmp_le, cmp_geI, cmp_ltI, cmp_eqI, cmp_gtI, cmp_leI, bI_0I, bI_1I, pin, if_true, nle, if_false, hw, e1]
    · rw [if_neg c]
      obtain ⟨i', e2⟩ := ih (i + 1) (x + w) (by omega) (by omega) (by omega)
      refine ⟨i', ?_⟩
      refine Eq.trans ?_ e2
      rw [show ((i + 1 : Nat) : Int) = (i : Int) + 1 by omega, e_Dm_meets_121]
      generalize (x - O) % o = Z at *
      simp (disch := first | omega | assumption | decide | (simp (disch := omega) only [iI_lit, iJ_lit, iJ_eq, iI_eq, bI_01, bI_01I] <;> omega)) only [e_Dm_meets_123, e_Dm_meets_125, e_Dm_meets_126, e_Dm_meets_129, e_Dm_meets_131, e_Dm_meets_133, e_Dm_meets_134, e_Dm_meets_135, e_Dm_meets_138, e_Dm_meets_139, e_Dm_meets_140, e_Dm_meets_143, e_Dm_meets_145, e_Dm_meets_146, e_Dm_meets_149, e_Dm_meets_150, e_Dm_meets_152, e_Dm_meets_154, e_Dm_meets_155, e_Dm_meets_156, e_Dm_meets_158, bd_some, bd_none, Option.toList_some, Option.toList_none, List.nil_append, List.cons_append, px_kill_int, px_kill_long, px_kill_ref, px_kill_null, iI_lit, iJ_lit, iI_add, iI_sub, iI_mul, iI_neg, iJ_add, iJ_sub, iJ_mul, iJ_neg, iI_lt, iI_le, iI_eq, iJ_lt, iJ_le, iJ_eq, iI_div, iJ_div, tdiv_tmod, iI_J, iJ_I, iI_ix, iI_toInt, iJ_toInt, cmp_ge, cmp_lt, cmp_eq, cmp_gt, cmp_le, cmp_geI, cmp_ltI, cmp_eqI, cmp_gtI, cmp_leI, bI_0I, bI_1I, pin, if_true, nle, if_false, hw, e1, c]
