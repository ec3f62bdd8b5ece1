/-! the reference's pair: divided by its common part, then turned. -/
theorem pr_step {T : TS} {X Y : Int} (hX : T.2.1 53 33 = iJ X) (hY : T.2.1 53 34 = iJ Y) (bx : -1000000 ≤ X ∧ X ≤ 1000000) (by' : -1000000 ≤ Y ∧ Y ≤ 1000000) (a1 a3 a5 : Int64) (a7 a8 : Value) : rn k_Dm_laysPair 23 [.ref 53, .long a1, .null, .long a3, .null, .long a5, .null, a7, a8] [] (enc T) = if 0 < X ∧ 0 ≤ Y then some (none, enc T) else rn k_Dm_laysPair 23 [.ref 53, .long a1, .null, .long a3, .null, .long a5, .null, .long (iJ X), .null] [] (enc (sJ (sJ T 53 33 (iJ (-Y))) 53 34 (iJ X))) := by
  rw [e_Dm_laysPair_23]
  by_cases c : 0 < X ∧ 0 ≤ Y
  · rw [if_pos c]
    have n1 : ¬ X ≤ 0 := by omega
    have n2 : 0 ≤ Y := c.2
    simp (disch := first | omega | assumption | decide | (simp (disch := omega) only [iI_lit, iJ_lit, iJ_eq, iI_eq, bI_01, bI_01I] <;> omega)) only [e_Dm_laysPair_24, e_Dm_laysPair_27, e_Dm_laysPair_28, e_Dm_laysPair_29, e_Dm_laysPair_32, e_Dm_laysPair_33, e_Dm_laysPair_36, e_Dm_laysPair_37, e_Dm_laysPair_38, e_Dm_laysPair_41, e_Dm_laysPair_42, e_Dm_laysPair_45, e_Dm_laysPair_47, e_Dm_laysPair_48, e_Dm_laysPair_49, e_Dm_laysPair_52, e_Dm_laysPair_53, e_Dm_laysPair_56, e_Dm_laysPair_57, e_Dm_laysPair_59, e_Dm_laysPair_62, e_Dm_laysPair_65, bd_some, bd_none, Option.toList_some, Option.toList_none, List.nil_append, List.cons_append, px_kill_int, px_kill_long, px_kill_ref, px_kill_null, iI_lit, iJ_lit, iI_add, iI_sub, iI_mul, iI_neg, iJ_add, iJ_sub, iJ_mul, iJ_neg, iI_lt, iI_le, iI_eq, iJ_lt, iJ_le, iJ_eq, iI_div, iJ_div, tdiv_tmod, iI_J, iJ_I, iI_ix, iI_toInt, iJ_toInt, cmp_ge, cmp_lt, cmp_eq, cmp_gt, cmp_le, cmp_geI, cmp_ltI, cmp_eqI, cmp_gtI, cmp_leI, bI_0I, bI_1I, pin, if_true, hX, hY, n1, n2, if_false]
  · rw [if_neg c]
    by_cases n1 : X ≤ 0
    · simp (disch := first | omega | assumption | decide | (simp (disch := omega) only [iI_lit, iJ_lit, iJ_eq, iI_eq, bI_01, bI_01I] <;> omega)) only [e_Dm_laysPair_24, e_Dm_laysPair_27, e_Dm_laysPair_28, e_Dm_laysPair_29, e_Dm_laysPair_32, e_Dm_laysPair_33, e_Dm_laysPair_36, e_Dm_laysPair_37, e_Dm_laysPair_38, e_Dm_laysPair_41, e_Dm_laysPair_42, e_Dm_laysPair_45, e_Dm_laysPair_47, e_Dm_laysPair_48, e_Dm_laysPair_49, e_Dm_laysPair_52, e_Dm_laysPair_53, e_Dm_laysPair_56, e_Dm_laysPair_57, e_Dm_laysPair_59, e_Dm_laysPair_62, e_Dm_laysPair_65, bd_some, bd_none, Option.toList_some, Option.toList_none, List.nil_append, List.cons_append, px_kill_int, px_kill_long, px_kill_ref, px_kill_null, iI_lit, iJ_lit, iI_add, iI_sub, iI_mul, iI_neg, iJ_add, iJ_sub, iJ_mul, iJ_neg, iI_lt, iI_le, iI_eq, iJ_lt, iJ_le, iJ_eq, iI_div, iJ_div, tdiv_tmod, iI_J, iJ_I, iI_ix, iI_toInt, iJ_toInt, cmp_ge, cmp_lt, cmp_eq, cmp_gt, cmp_le, cmp_geI, cmp_ltI, cmp_eqI, cmp_gtI, cmp_leI, bI_0I, bI_1I, pin, if_true, sI_get, sJ_get, sI_2, sJ_1, sJ_22, sR_1, sR_21, Nat.reduceEqDiff, and_true, true_and, and_false, false_and, and_self, if_true, if_false, reduceIte, hX, hY, n1]
    · have n2 : ¬ 0 ≤ Y := by omega
      simp (disch := first | omega | assumption | decide | (simp (disch := omega) only [iI_lit, iJ_lit, iJ_eq, iI_eq, bI_01, bI_01I] <;> omega)) only [e_Dm_laysPair_24, e_Dm_laysPair_27, e_Dm_laysPair_28, e_Dm_laysPair_29, e_Dm_laysPair_32, e_Dm_laysPair_33, e_Dm_laysPair_36, e_Dm_laysPair_37, e_Dm_laysPair_38, e_Dm_laysPair_41, e_Dm_laysPair_42, e_Dm_laysPair_45, e_Dm_laysPair_47, e_Dm_laysPair_48, e_Dm_laysPair_49, e_Dm_laysPair_52, e_Dm_laysPair_53, e_Dm_laysPair_56, e_Dm_laysPair_57, e_Dm_laysPair_59, e_Dm_laysPair_62, e_Dm_laysPair_65, bd_some, bd_none, Option.toList_some, Option.toList_none, List.nil_append, List.cons_append, px_kill_int, px_kill_long, px_kill_ref, px_kill_null, iI_lit, iJ_lit, iI_add, iI_sub, iI_mul, iI_neg, iJ_add, iJ_sub, iJ_mul, iJ_neg, iI_lt, iI_le, iI_eq, iJ_lt, iJ_le, iJ_eq, iI_div, iJ_div, tdiv_tmod, iI_J, iJ_I, iI_ix, iI_toInt, iJ_toInt, cmp_ge, cmp_lt, cmp_eq, cmp_gt, cmp_le, cmp_geI, cmp_ltI, cmp_eqI, cmp_gtI, cmp_leI, bI_0I, bI_1I, pin, if_true, sI_get, sJ_get, sI_2, sJ_1, sJ_22, sR_1, sR_21, Nat.reduceEqDiff, and_true, true_and, and_false, false_and, and_self, if_true, if_false, reduceIte, hX, hY, n1, n2, if_false]
theorem pr_go {X Y : Int} (bx : -1000000 ≤ X ∧ X ≤ 1000000) (by' : -1000000 ≤ Y ∧ Y ≤ 1000000) (a1 a3 a5 : Int64) : ∀ (T : TS) (a7 a8 : Value), T.2.1 53 33 = iJ X → T.2.1 53 34 = iJ Y → X ≠ 0 ∨ Y ≠ 0 → ∃ T', rn k_Dm_laysPair 23 [.ref 53, .long a1, .null, .long a3, .null, .long a5, .null, a7, a8] [] (enc T) = some (none, enc T') ∧ FrM T T' ∧ T'.1 = T.1 ∧ T'.2.1 53 33 = iJ (trX X Y) ∧ T'.2.1 53 34 = iJ (trY X Y) := by
  have one : ∀ (X Y : Int) (T : TS) (a7 a8 : Value), (-1000000 ≤ X ∧ X ≤ 1000000) → (-1000000 ≤ Y ∧ Y ≤ 1000000) → T.2.1 53 33 = iJ X → T.2.1 53 34 = iJ Y → ¬ (0 < X ∧ 0 ≤ Y) → ∃ T2 : TS, rn k_Dm_laysPair 23 [.ref 53, .long a1, .null, .long a3, .null, .long a5, .null, a7, a8] [] (enc T) = rn k_Dm_laysPair 23 [.ref 53, .long a1, .null, .long a3, .null, .long a5, .null, .long (iJ X), .null] [] (enc T2) ∧ FrM T T2 ∧ T2.1 = T.1 ∧ T2.2.1 53 33 = iJ (-Y) ∧ T2.2.1 53 34 = iJ X := by
    intro X Y T a7 a8 bx bY hX hY hn
    refine ⟨sJ (sJ T 53 33 (iJ (-Y))) 53 34 (iJ X), ?_, ((FrM.rf T).wrJ _ (Or.inl rfl)).wrJ _ (Or.inl rfl), rfl, ?_, ?_⟩
    · rw [pr_step hX hY bx bY, if_neg hn]
    · simp only [sI_get, sJ_get, sI_2, sJ_1, sJ_22, sR_1, sR_21, Nat.reduceEqDiff, and_true, true_and, and_false, false_and, and_self, if_true, if_false, reduceIte]
    · simp only [sI_get, sJ_get, sI_2, sJ_1, sJ_22, sR_1, sR_21, Nat.reduceEqDiff, and_true, true_and, and_false, false_and, and_self, if_true, if_false, reduceIte]
  intro T a7 a8 hX hY hne
  by_cases q0 : 0 < X ∧ 0 ≤ Y
  · refine ⟨T, ?_, FrM.rf _, rfl, ?_, ?_⟩
    · rw [pr_step hX hY bx by', if_pos q0]
    · rw [hX, show trX X Y = X by unfold trX; rw [if_pos (Or.inl q0)]; omega]
    · rw [hY, show trY X Y = Y by unfold trY; rw [if_pos (Or.inl q0)]; omega]
  · obtain ⟨T1, e1, f1, i1, x1, y1⟩ := one X Y T a7 a8 bx by' hX hY q0
    by_cases q1 : 0 < -Y ∧ 0 ≤ X
    · refine ⟨T1, ?_, f1, i1, ?_, ?_⟩
      · rw [e1, pr_step x1 y1 (by omega) (by omega), if_pos q1]
      · rw [x1, show trX X Y = -Y by unfold trX; rw [if_neg (by unfold isQ; omega)]; omega]
      · rw [y1, show trY X Y = X by unfold trY; rw [if_neg (by unfold isQ; omega)]; omega]
    · obtain ⟨T2, e2, f2, i2, x2, y2⟩ := one (-Y) X T1 _ _ (by omega) (by omega) x1 y1 q1
      by_cases q2 : 0 < -X ∧ 0 ≤ -Y
      · refine ⟨T2, ?_, f1.tr f2, i2.trans i1, ?_, ?_⟩
        · rw [e1, e2, pr_step x2 y2 (by omega) (by omega), if_pos q2]
        · rw [x2, show trX X Y = -X by unfold trX; rw [if_pos (by unfold isQ; omega)]; omega]
        · rw [y2, show trY X Y = -Y by unfold trY; rw [if_pos (by unfold isQ; omega)]; omega]
      · obtain ⟨T3, e3, f3, i3, x3, y3⟩ := one (-X) (-Y) T2 _ _ (by omega) (by omega) x2 y2 q2
        rw [Int.neg_neg] at x3
        have q3 : 0 < Y ∧ 0 ≤ -X := by omega
        refine ⟨T3, ?_, (f1.tr f2).tr f3, i3.trans (i2.trans i1), ?_, ?_⟩
        · rw [e1, e2, e3, pr_step x3 y3 (by omega) (by omega), if_pos q3]
        · rw [x3, show trX X Y = Y by unfold trX; rw [if_neg (by unfold isQ; omega)]; omega]
        · rw [y3, show trY X Y = -X by unfold trY; rw [if_neg (by unfold isQ; omega)]; omega]
theorem tr_div {a b : Int} (hne : a ≠ 0 ∨ b ≠ 0) : trX (a / ((Int.gcd a b : Nat) : Int)) (b / ((Int.gcd a b : Nat) : Int)) = trX a b / ((Int.gcd a b : Nat) : Int) ∧ trY (a / ((Int.gcd a b : Nat) : Int)) (b / ((Int.gcd a b : Nat) : Int)) = trY a b / ((Int.gcd a b : Nat) : Int) := by
  have hpos : 0 < Int.gcd a b := by rw [Int.gcd_pos_iff]; exact hne
  obtain ⟨u, hu⟩ := Int.gcd_dvd_left (a := a) (b := b)
  obtain ⟨v, hv⟩ := Int.gcd_dvd_right (a := a) (b := b)
  generalize hg : ((Int.gcd a b : Nat) : Int) = g at *
  have hg0 : 0 < g := by omega
  have eu : a / g = u := by rw [hu]; exact Int.mul_ediv_cancel_left _ (by omega)
  have ev : b / g = v := by rw [hv]; exact Int.mul_ediv_cancel_left _ (by omega)
  rw [eu, ev]
  have sg : ∀ t : Int, (0 < g * t ↔ 0 < t) ∧ (g * t < 0 ↔ t < 0) := by
    intro t
    rcases Int.lt_trichotomy t 0 with q | q | q
    · have := Int.mul_neg_of_pos_of_neg hg0 q
      omega
    · rw [q, Int.mul_zero]; omega
    · have := Int.mul_pos hg0 q
      omega
  have ab : ∀ t : Int, (((g * t).natAbs : Nat) : Int) = g * ((t.natAbs : Nat) : Int) := by
    intro t
    rw [Int.natAbs_mul, Int.natCast_mul, show ((g.natAbs : Nat) : Int) = g by omega]
  have su := sg u
  have sv := sg v
  rw [← hu] at su
  rw [← hv] at sv
  have iq : isQ a b ↔ isQ u v := by unfold isQ; omega
  have da : ((a.natAbs : Nat) : Int) / g = ((u.natAbs : Nat) : Int) := by
    rw [hu, ab]; exact Int.mul_ediv_cancel_left _ (by omega)
  have db : ((b.natAbs : Nat) : Int) / g = ((v.natAbs : Nat) : Int) := by
    rw [hv, ab]; exact Int.mul_ediv_cancel_left _ (by omega)
  unfold trX trY
  by_cases c : isQ u v
  · rw [if_pos c, if_pos c, if_pos (iq.mpr c), if_pos (iq.mpr c), da, db]
    exact ⟨rfl, rfl⟩
  · rw [if_neg c, if_neg c, if_neg (fun z => c (iq.mp z)), if_neg (fun z => c (iq.mp z)), da, db]
    exact ⟨rfl, rfl⟩
set_option maxHeartbeats 1000000 in
theorem s_laysPair {T : TS} {a b : Int} (ha : -1000000 ≤ a ∧ a ≤ 1000000) (hb : -1000000 ≤ b ∧ b ≤ 1000000) (hne : a ≠ 0 ∨ b ≠ 0) : ∃ T', cl k_Dm_laysPair [.ref 53, .long (iJ a), .long (iJ b)] (enc T) = some (none, enc T') ∧ FrM T T' ∧ T'.1 = T.1 ∧ T'.2.1 53 33 = iJ (trX a b / ((Int.gcd a b : Nat) : Int)) ∧ T'.2.1 53 34 = iJ (trY a b / ((Int.gcd a b : Nat) : Int)) := by
  have e1 := s_part (a := a) (b := b) (by omega) (by omega) (enc T)
  have hpos : 0 < Int.gcd a b := by rw [Int.gcd_pos_iff]; exact hne
  have hdv := tr_div hne
  have d1 : a.tdiv ((Int.gcd a b : Nat) : Int) = a / ((Int.gcd a b : Nat) : Int) := Int.tdiv_eq_ediv_of_dvd (Int.gcd_dvd_left (a := a) (b := b))
  have d2 : b.tdiv ((Int.gcd a b : Nat) : Int) = b / ((Int.gcd a b : Nat) : Int) := Int.tdiv_eq_ediv_of_dvd (Int.gcd_dvd_right (a := a) (b := b))
  obtain ⟨u, hu⟩ := Int.gcd_dvd_left (a := a) (b := b)
  obtain ⟨v, hv⟩ := Int.gcd_dvd_right (a := a) (b := b)
  have hle : ((Int.gcd a b : Nat) : Int) ≤ 1000000 := by
    rcases hne with h | h
    · have := Int.natAbs_dvd_natAbs.mpr (Int.gcd_dvd_left (a := a) (b := b))
      have := Nat.le_of_dvd (by omega) this
      omega
    · have := Int.natAbs_dvd_natAbs.mpr (Int.gcd_dvd_right (a := a) (b := b))
      have := Nat.le_of_dvd (by omega) this
      omega
  rw [← hdv.1, ← hdv.2]
  have b1 : -1000000 ≤ a / ((Int.gcd a b : Nat) : Int) ∧ a / ((Int.gcd a b : Nat) : Int) ≤ 1000000 := ⟨Int.le_ediv_of_mul_le (by omega) (by omega), by
    have := Int.ediv_le_ediv (c := ((Int.gcd a b : Nat) : Int)) (by omega) ha.2
    have := Int.ediv_le_self (a := 1000000) ((Int.gcd a b : Nat) : Int) (by omega)
    omega⟩
  have b2 : -1000000 ≤ b / ((Int.gcd a b : Nat) : Int) ∧ b / ((Int.gcd a b : Nat) : Int) ≤ 1000000 := ⟨Int.le_ediv_of_mul_le (by omega) (by omega), by
    have := Int.ediv_le_ediv (c := ((Int.gcd a b : Nat) : Int)) (by omega) hb.2
    have := Int.ediv_le_self (a := 1000000) ((Int.gcd a b : Nat) : Int) (by omega)
    omega⟩
  have hn2 : a / ((Int.gcd a b : Nat) : Int) ≠ 0 ∨ b / ((Int.gcd a b : Nat) : Int) ≠ 0 := by
    rcases hne with h | h
    · left
      intro e
      have := Int.ediv_mul_cancel (Int.gcd_dvd_left (a := a) (b := b))
      rw [e] at this
      omega
    · right
      intro e
      have := Int.ediv_mul_cancel (Int.gcd_dvd_right (a := a) (b := b))
      rw [e] at this
      omega
  clear hu hv
  generalize hX : a / ((Int.gcd a b : Nat) : Int) = X at *
  generalize hY : b / ((Int.gcd a b : Nat) : Int) = Y at *
  obtain ⟨T', e2, f2, i2, x2, y2⟩ := pr_go b1 b2 (iJ a) (iJ b) (iJ ((Int.gcd a b : Nat) : Int)) (sJ (sJ T 53 33 (iJ X)) 53 34 (iJ Y)) .null .null (by simp only [sI_get, sJ_get, sI_2, sJ_1, sJ_22, sR_1, sR_21, Nat.reduceEqDiff, and_true, true_and, and_false, false_and, and_self, if_true, if_false, reduceIte]) (by simp only [sI_get, sJ_get, sI_2, sJ_1, sJ_22, sR_1, sR_21, Nat.reduceEqDiff, and_true, true_and, and_false, false_and, and_self, if_true, if_false, reduceIte]) hn2
  refine ⟨T', ?_, (((FrM.rf T).wrJ _ (Or.inl rfl)).wrJ _ (Or.inl rfl)).tr f2, i2, x2, y2⟩
  have gne : ¬ ((Int.gcd a b : Nat) : Int) = 0 := by omega
  simp (disch := first | omega | assumption | decide | (simp (disch := omega) only [iI_lit, iJ_lit, iJ_eq, iI_eq, bI_01, bI_01I] <;> omega)) only [c_Dm_laysPair, e_Dm_laysPair_0, e_Dm_laysPair_1, e_Dm_laysPair_2, e_Dm_laysPair_5, e_Dm_laysPair_7, e_Dm_laysPair_8, e_Dm_laysPair_9, e_Dm_laysPair_11, e_Dm_laysPair_12, e_Dm_laysPair_15, e_Dm_laysPair_16, e_Dm_laysPair_17, e_Dm_laysPair_19, e_Dm_laysPair_20, bd_some, bd_none, Option.toList_some, Option.toList_none, List.nil_append, List.cons_append, px_kill_int, px_kill_long, px_kill_ref, px_kill_null, iI_lit, iJ_lit, iI_add, iI_sub, iI_mul, iI_neg, iJ_add, iJ_sub, iJ_mul, iJ_neg, iI_lt, iI_le, iI_eq, iJ_lt, iJ_le, iJ_eq, iI_div, iJ_div, tdiv_tmod, iI_J, iJ_I, iI_ix, iI_toInt, iJ_toInt, cmp_ge, cmp_lt, cmp_eq, cmp_gt, cmp_le, cmp_geI, cmp_ltI, cmp_eqI, cmp_gtI, cmp_leI, bI_0I, bI_1I, pin, if_true, e1, gne, if_false, d1, d2]
  exact e2
set_option maxHeartbeats 1000000 in
theorem q_Dm_slope {T : TS} {V : VW} (hV : okV V) (h : cM T V) {i k : Int} (hi : inI i) (hk : inI k) : ∃ T', cl k_Dm_slope [.ref 53, .int (iI i), .int (iI k)] (enc T) = some (some (.int (iI (qSlope V i k))), enc T') ∧ FrM T T' := by
  have hM : cM (t0 T) V := h.fr (t0_fr T)
  have g1 := g_inM hV hM hi
  obtain ⟨i1, i2⟩ := id hi
  obtain ⟨k1, k2⟩ := hk
  have g3 := s_in (x := k) (l := 0) (h := 1) (enc (t0 T)) (by omega) (by omega) (by omega)
  unfold qSlope
  by_cases c1 : isK V i
  · rw [bI_tI c1] at g1
    by_cases c3 : 0 ≤ k ∧ k ≤ 1
    · rw [bI_tI c3] at g3
      rw [if_pos ⟨c1, c3⟩]
      obtain ⟨j, rfl⟩ : ∃ j : Nat, i = (j : Int) := ⟨i.toNat, by omega⟩
      have hj : j < V.1 := by have := c1.2; omega
      have ok := hV.2 j hj
      have h4 := hV.1
      obtain ⟨o1, o2, o3⟩ := id ok.1
      have m0 : (t0 T).1 56 (8 * j) = iI (V.2 j 0) := hM.2 j hj 0 (by omega)
      have m1 := hM.2 j hj 1 (by omega)
      have f0 := s_of0 (t0 T) (i := j) (by omega)
      have f1 := s_of1 (t0 T) (i := j) (by omega)
      obtain ⟨T2, e2, fr2, ii, x2, y2⟩ := s_laysPair (T := t0 T) (a := V.2 j 0) (b := V.2 j 1) (by omega) (by omega) (okS_ne ok.1)
      have ej : ((j : Int)).toNat = j := by omega
      refine ⟨T2, ?_, (t0_fr T).tr fr2⟩
      rw [ej]
      by_cases k0 : k = 0
      · subst k0
        simp (disch := first | omega | assumption | decide | (simp (disch := omega) only [iI_lit, iJ_lit, iJ_eq, iI_eq, bI_01, bI_01I] <;> omega)) only [c_Dm_slope, e_Dm_slope_0, e_Dm_slope_1, e_Dm_slope_2, e_Dm_slope_5, e_Dm_slope_6, e_Dm_slope_7, e_Dm_slope_10, e_Dm_slope_13, e_Dm_slope_14, e_Dm_slope_15, e_Dm_slope_16, e_Dm_slope_17, e_Dm_slope_20, e_Dm_slope_23, e_Dm_slope_26, e_Dm_slope_27, e_Dm_slope_28, e_Dm_slope_29, e_Dm_slope_30, e_Dm_slope_31, e_Dm_slope_34, e_Dm_slope_35, e_Dm_slope_36, e_Dm_slope_37, e_Dm_slope_38, e_Dm_slope_41, e_Dm_slope_42, e_Dm_slope_45, e_Dm_slope_46, e_Dm_slope_49, e_Dm_slope_50, e_Dm_slope_53, e_Dm_slope_56, e_Dm_slope_57, e_Dm_slope_60, e_Dm_slope_61, bd_some, bd_none, Option.toList_some, Option.toList_none, List.nil_append, List.cons_append, px_kill_int, px_kill_long, px_kill_ref, px_kill_null, iI_lit, iJ_lit, iI_add, iI_sub, iI_mul, iI_neg, iJ_add, iJ_sub, iJ_mul, iJ_neg, iI_lt, iI_le, iI_eq, iJ_lt, iJ_le, iJ_eq, iI_div, iJ_div, tdiv_tmod, iI_J, iJ_I, iI_ix, iI_toInt, iJ_toInt, cmp_ge, cmp_lt, cmp_eq, cmp_gt, cmp_le, cmp_geI, cmp_ltI, cmp_eqI, cmp_gtI, cmp_leI, bI_0I, bI_1I, pin, if_true, g1, g3, one0, if_false, f0, f1, m0, m1, e2, x2]
      · have k1 : k = 1 := by omega
        subst k1
        simp (disch := first | omega | assumption | decide | (simp (disch := omega) only [iI_lit, iJ_lit, iJ_eq, iI_eq, bI_01, bI_01I] <;> omega)) only [c_Dm_slope, e_Dm_slope_0, e_Dm_slope_1, e_Dm_slope_2, e_Dm_slope_5, e_Dm_slope_6, e_Dm_slope_7, e_Dm_slope_10, e_Dm_slope_13, e_Dm_slope_14, e_Dm_slope_15, e_Dm_slope_16, e_Dm_slope_17, e_Dm_slope_20, e_Dm_slope_23, e_Dm_slope_26, e_Dm_slope_27, e_Dm_slope_28, e_Dm_slope_29, e_Dm_slope_30, e_Dm_slope_31, e_Dm_slope_34, e_Dm_slope_35, e_Dm_slope_36, e_Dm_slope_37, e_Dm_slope_38, e_Dm_slope_41, e_Dm_slope_42, e_Dm_slope_45, e_Dm_slope_46, e_Dm_slope_49, e_Dm_slope_50, e_Dm_slope_53, e_Dm_slope_56, e_Dm_slope_57, e_Dm_slope_60, e_Dm_slope_61, bd_some, bd_none, Option.toList_some, Option.toList_none, List.nil_append, List.cons_append, px_kill_int, px_kill_long, px_kill_ref, px_kill_null, iI_lit, iJ_lit, iI_add, iI_sub, iI_mul, iI_neg, iJ_add, iJ_sub, iJ_mul, iJ_neg, iI_lt, iI_le, iI_eq, iJ_lt, iJ_le, iJ_eq, iI_div, iJ_div, tdiv_tmod, iI_J, iJ_I, iI_ix, iI_toInt, iJ_toInt, cmp_ge, cmp_lt, cmp_eq, cmp_gt, cmp_le, cmp_geI, cmp_ltI, cmp_eqI, cmp_gtI, cmp_leI, bI_0I, bI_1I, pin, if_true, g1, g3, one0, if_false, f0, f1, m0, m1, e2, y2]
    · rw [bI_fI c3] at g3
      rw [if_neg (fun z => c3 z.2)]
      refine ⟨t0 T, ?_, t0_fr T⟩
      simp (disch := first | omega | assumption | decide | (simp (disch := omega) only [iI_lit, iJ_lit, iJ_eq, iI_eq, bI_01, bI_01I] <;> omega)) only [c_Dm_slope, e_Dm_slope_0, e_Dm_slope_1, e_Dm_slope_2, e_Dm_slope_5, e_Dm_slope_6, e_Dm_slope_7, e_Dm_slope_10, e_Dm_slope_13, e_Dm_slope_14, e_Dm_slope_15, e_Dm_slope_16, e_Dm_slope_17, e_Dm_slope_20, e_Dm_slope_23, e_Dm_slope_26, e_Dm_slope_27, e_Dm_slope_28, e_Dm_slope_29, e_Dm_slope_30, e_Dm_slope_31, e_Dm_slope_34, e_Dm_slope_35, e_Dm_slope_36, e_Dm_slope_37, e_Dm_slope_38, e_Dm_slope_41, e_Dm_slope_42, e_Dm_slope_45, e_Dm_slope_46, e_Dm_slope_49, e_Dm_slope_50, e_Dm_slope_53, e_Dm_slope_56, e_Dm_slope_57, e_Dm_slope_60, e_Dm_slope_61, bd_some, bd_none, Option.toList_some, Option.toList_none, List.nil_append, List.cons_append, px_kill_int, px_kill_long, px_kill_ref, px_kill_null, iI_lit, iJ_lit, iI_add, iI_sub, iI_mul, iI_neg, iJ_add, iJ_sub, iJ_mul, iJ_neg, iI_lt, iI_le, iI_eq, iJ_lt, iJ_le, iJ_eq, iI_div, iJ_div, tdiv_tmod, iI_J, iJ_I, iI_ix, iI_toInt, iJ_toInt, cmp_ge, cmp_lt, cmp_eq, cmp_gt, cmp_le, cmp_geI, cmp_ltI, cmp_eqI, cmp_gtI, cmp_leI, bI_0I, bI_1I, pin, if_true, g1, g3, one0, if_false]
  · rw [bI_fI c1] at g1
    rw [if_neg (fun z => c1 z.1)]
    refine ⟨t0 T, ?_, t0_fr T⟩
    simp (disch := first | omega | assumption | decide | (simp (disch := omega) only [iI_lit, iJ_lit, iJ_eq, iI_eq, bI_01, bI_01I] <;> omega)) only [c_Dm_slope, e_Dm_slope_0, e_Dm_slope_1, e_Dm_slope_2, e_Dm_slope_5, e_Dm_slope_6, e_Dm_slope_7, e_Dm_slope_10, e_Dm_slope_13, e_Dm_slope_14, e_Dm_slope_15, e_Dm_slope_16, e_Dm_slope_17, e_Dm_slope_20, e_Dm_slope_23, e_Dm_slope_26, e_Dm_slope_27, e_Dm_slope_28, e_Dm_slope_29, e_Dm_slope_30, e_Dm_slope_31, e_Dm_slope_34, e_Dm_slope_35, e_Dm_slope_36, e_Dm_slope_37, e_Dm_slope_38, e_Dm_slope_41, e_Dm_slope_42, e_Dm_slope_45, e_Dm_slope_46, e_Dm_slope_49, e_Dm_slope_50, e_Dm_slope_53, e_Dm_slope_56, e_Dm_slope_57, e_Dm_slope_60, e_Dm_slope_61, bd_some, bd_none, Option.toList_some, Option.toList_none, List.nil_append, List.cons_append, px_kill_int, px_kill_long, px_kill_ref, px_kill_null, iI_lit, iJ_lit, iI_add, iI_sub, iI_mul, iI_neg, iJ_add, iJ_sub, iJ_mul, iJ_neg, iI_lt, iI_le, iI_eq, iJ_lt, iJ_le, iJ_eq, iI_div, iJ_div, tdiv_tmod, iI_J, iJ_I, iI_ix, iI_toInt, iJ_toInt, cmp_ge, cmp_lt, cmp_eq, cmp_gt, cmp_le, cmp_geI, cmp_ltI, cmp_eqI, cmp_gtI, cmp_leI, bI_0I, bI_1I, pin, if_true, g1]
