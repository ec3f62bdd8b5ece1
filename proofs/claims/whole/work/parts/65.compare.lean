/-! Beat.compare whole. -/
set_option maxHeartbeats 2000000 in
theorem s_compare {T : TS} {p q r : Nat} (hp : sh p = (100, 7)) (hq : sh q = (107, 4)) (hr : sh r = (107, 4)) (hpq : p ≠ q) (hpr : p ≠ r) {f g : Nat → Int} (hf : okN f) (hg : okN g) (h1 : cScr T q (f 0) (f 1) (f 2) (f 3)) (h2 : cScr T r (g 0) (g 1) (g 2) (g 3)) : ∃ (T2 : TS) (s0 : BS), s0.1 = 0 ∧ s0.2.2.2.2.2 = 0 ∧ FrI (aBt p) T T2 ∧ bAt T2 p (btA f g s0 4) ∧ okB (btA f g s0 4) ∧ cl k_Beat_compare [.ref p, .ref q, .ref r] (enc T) = some (none, enc (sJ (sJ T2 p 5 (iJ (((f 0 * f 3 - f 1 * f 2) * (g 0 * g 3 - g 1 * g 2)) * ((f 0 * f 3 - f 1 * f 2) * (g 0 * g 3 - g 1 * g 2)) / ((Int.gcd (((f 0 * f 3 - f 1 * f 2) * (g 0 * g 3 - g 1 * g 2)) * ((f 0 * f 3 - f 1 * f 2) * (g 0 * g 3 - g 1 * g 2))) (btA f g s0 4).1 : Nat) : Int)))) p 6 (iJ ((btA f g s0 4).1 / ((Int.gcd (((f 0 * f 3 - f 1 * f 2) * (g 0 * g 3 - g 1 * g 2)) * ((f 0 * f 3 - f 1 * f 2) * (g 0 * g 3 - g 1 * g 2))) (btA f g s0 4).1 : Nat) : Int))))) := by
  have a1 := s_area T hq h1
  have a2 := s_area T hr h2
  obtain ⟨s0, hs0⟩ : ∃ s0 : BS, s0 = (0, (T.1 p 0).toInt, (T.1 p 1).toInt, (T.1 p 2).toInt, (T.1 p 3).toInt, 0) := ⟨_, rfl⟩
  have z1 : s0.1 = 0 := by rw [hs0]
  have z2 : s0.2.2.2.2.2 = 0 := by rw [hs0]
  have fr0 : FrI (aBt p) T (sI T p 4 (iI 0)) := (FrI.rf (aBt p) T).wr _ ⟨rfl, by omega⟩
  have sc : ∀ q' : Nat, p ≠ q' → ∀ k, (sI T p 4 (iI 0)).1 q' k = T.1 q' k := fun q' hne k => fr0.1 _ _ (fun z => hne z.1.symm)
  obtain ⟨T2, b7, b8, b9, b10, e2, fr2, hb2, hk2⟩ := lp_cbt1 hp hq hr hpq hpr hf hg s0 4 0 (sI T p 4 (iI 0)) (by omega) (by unfold cScr at *; rw [sc q hpq, sc q hpq, sc q hpq, sc q hpq]; exact h1) (by unfold cScr at *; rw [sc r hpr, sc r hpr, sc r hpr, sc r hpr]; exact h2) (by
    show bAt _ p s0
    rw [hs0]
    unfold bAt
    simp only [sI_get, sJ_get, sI_2, sJ_1, sJ_22, sR_1, sR_21, Nat.reduceEqDiff, and_true, true_and, and_false, false_and, and_self, if_true, if_false, reduceIte, iI_of]) (by
    show okB s0
    exact ⟨by omega, fun z => absurd z1 z, Or.inl z2⟩) .null .null .null .null
  refine ⟨T2, s0, z1, z2, fr0.tr fr2, hb2, hk2, ?_⟩
  have hA := hf.1.2.2.2.2
  have hB := hg.1.2.2.2.2
  have hk0 := hk2.1
  have ez : (btA f g s0 0).1 = 0 := z1
  rw [ez] at e2
  simp (disch := first | omega | assumption | decide | (simp (disch := omega) only [iI_lit, iJ_lit, iJ_eq, iI_eq, bI_01, bI_01I] <;> omega)) only [c_Beat_compare, e_Beat_compare_0, e_Beat_compare_1, e_Beat_compare_4, e_Beat_compare_5, e_Beat_compare_6, e_Beat_compare_9, e_Beat_compare_11, e_Beat_compare_12, e_Beat_compare_14, e_Beat_compare_15, e_Beat_compare_16, e_Beat_compare_19, e_Beat_compare_20, bd_some, bd_none, Option.toList_some, Option.toList_none, List.nil_append, List.cons_append, px_kill_int, px_kill_long, px_kill_ref, px_kill_null, iI_lit, iJ_lit, iI_add, iI_sub, iI_mul, iI_neg, iJ_add, iJ_sub, iJ_mul, iJ_neg, iI_lt, iI_le, iI_eq, iJ_lt, iJ_le, iJ_eq, iI_div, iJ_div, tdiv_tmod, iI_J, iJ_I, iI_ix, iI_toInt, iJ_toInt, cmp_ge, cmp_lt, cmp_eq, cmp_gt, cmp_le, cmp_geI, cmp_ltI, cmp_eqI, cmp_gtI, cmp_leI, bI_0I, bI_1I, pin, if_true, a1, a2]
  refine Eq.trans e2 ?_
  generalize (btA f g s0 4).1 = L at *
  generalize f 0 * f 3 - f 1 * f 2 = A at *
  generalize g 0 * g 3 - g 1 * g 2 = B at *
  have m1 := mul_bd (M := 144) (N := 144) hA.2 hB.2
  have hAB : A * B ≠ 0 := Int.mul_ne_zero hA.1 hB.1
  have m2 := mul_bd (M := 20736) (N := 20736) m1 m1
  have hSS : A * B * (A * B) ≠ 0 := Int.mul_ne_zero hAB hAB
  have e3 := s_commonPart (a := A * B * (A * B)) (b := L) (by omega) (by omega) (enc T2)
  have hpos : 0 < Int.gcd (A * B * (A * B)) L := by rw [Int.gcd_pos_iff]; exact Or.inl hSS
  have hle : ((Int.gcd (A * B * (A * B)) L : Nat) : Int) ≤ 429981696 := by
    have := Int.natAbs_dvd_natAbs.mpr (Int.gcd_dvd_left (a := A * B * (A * B)) (b := L))
    have := Nat.le_of_dvd (by omega) this
    omega
  generalize hG : ((Int.gcd (A * B * (A * B)) L : Nat) : Int) = G at *
  have d1 := s_div (a := A * B * (A * B)) (b := G) (by omega) (by omega) (enc T2)
  have d2 := s_div (a := L) (b := G) (by omega) (by omega) (enc (sJ T2 p 5 (iJ (A * B * (A * B) / G))))
  simp (disch := first | omega | assumption | decide | (simp (disch := omega) only [iI_lit, iJ_lit, iJ_eq, iI_eq, bI_01, bI_01I] <;> omega)) only [e_Beat_compare_155, e_Beat_compare_156, e_Beat_compare_157, e_Beat_compare_159, e_Beat_compare_160, e_Beat_compare_161, e_Beat_compare_163, e_Beat_compare_165, e_Beat_compare_167, e_Beat_compare_168, e_Beat_compare_170, e_Beat_compare_171, e_Beat_compare_174, e_Beat_compare_176, e_Beat_compare_177, e_Beat_compare_179, e_Beat_compare_181, e_Beat_compare_182, e_Beat_compare_184, e_Beat_compare_187, e_Beat_compare_190, e_Beat_compare_191, e_Beat_compare_193, e_Beat_compare_194, e_Beat_compare_196, e_Beat_compare_199, e_Beat_compare_202, bd_some, bd_none, Option.toList_some, Option.toList_none, List.nil_append, List.cons_append, px_kill_int, px_kill_long, px_kill_ref, px_kill_null, iI_lit, iJ_lit, iI_add, iI_sub, iI_mul, iI_neg, iJ_add, iJ_sub, iJ_mul, iJ_neg, iI_lt, iI_le, iI_eq, iJ_lt, iJ_le, iJ_eq, iI_div, iJ_div, tdiv_tmod, iI_J, iJ_I, iI_ix, iI_toInt, iJ_toInt, cmp_ge, cmp_lt, cmp_eq, cmp_gt, cmp_le, cmp_geI, cmp_ltI, cmp_eqI, cmp_gtI, cmp_leI, bI_0I, bI_1I, pin, if_true, e3, d1, d2]
