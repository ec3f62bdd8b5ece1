/-! slope and turn. -/
abbrev isQ (a b : Int) : Prop := (0 < a ∧ 0 ≤ b) ∨ (a < 0 ∧ b ≤ 0)
def trX (a b : Int) : Int := if isQ a b then (a.natAbs : Int) else (b.natAbs : Int)
def trY (a b : Int) : Int := if isQ a b then (b.natAbs : Int) else (a.natAbs : Int)
theorem abs_I {a : Int} (ha : -1000000 ≤ a ∧ a ≤ 1000000) (g : px_G) : cl k_Math_abs_I [.int (iI a)] g = some (some (.int (iI (a.natAbs : Int))), g) := by
  by_cases c : 0 ≤ a
  · simp (disch := first | omega | assumption | decide | (simp (disch := omega) only [iI_lit, iJ_lit, iJ_eq, iI_eq, bI_01, bI_01I] <;> omega)) only [c_Math_abs_I, e_Math_abs_I_0, e_Math_abs_I_1, e_Math_abs_I_4, e_Math_abs_I_5, e_Math_abs_I_6, e_Math_abs_I_9, e_Math_abs_I_10, bd_some, bd_none, Option.toList_some, Option.toList_none, List.nil_append, List.cons_append, px_kill_int, px_kill_long, px_kill_ref, px_kill_null, iI_lit, iJ_lit, iI_add, iI_sub, iI_mul, iI_neg, iJ_add, iJ_sub, iJ_mul, iJ_neg, iI_lt, iI_le, iI_eq, iJ_lt, iJ_le, iJ_eq, iI_div, iJ_div, tdiv_tmod, iI_J, iJ_I, iI_ix, iI_toInt, iJ_toInt, cmp_ge, cmp_lt, cmp_eq, cmp_gt, cmp_le, cmp_geI, cmp_ltI, cmp_eqI, cmp_gtI, cmp_leI, bI_0I, bI_1I, pin, if_true, c]
    rw [show ((a.natAbs : Nat) : Int) = a by omega]
  · simp (disch := first | omega | assumption | decide | (simp (disch := omega) only [iI_lit, iJ_lit, iJ_eq, iI_eq, bI_01, bI_01I] <;> omega)) only [c_Math_abs_I, e_Math_abs_I_0, e_Math_abs_I_1, e_Math_abs_I_4, e_Math_abs_I_5, e_Math_abs_I_6, e_Math_abs_I_9, e_Math_abs_I_10, bd_some, bd_none, Option.toList_some, Option.toList_none, List.nil_append, List.cons_append, px_kill_int, px_kill_long, px_kill_ref, px_kill_null, iI_lit, iJ_lit, iI_add, iI_sub, iI_mul, iI_neg, iJ_add, iJ_sub, iJ_mul, iJ_neg, iI_lt, iI_le, iI_eq, iJ_lt, iJ_le, iJ_eq, iI_div, iJ_div, tdiv_tmod, iI_J, iJ_I, iI_ix, iI_toInt, iJ_toInt, cmp_ge, cmp_lt, cmp_eq, cmp_gt, cmp_le, cmp_geI, cmp_ltI, cmp_eqI, cmp_gtI, cmp_leI, bI_0I, bI_1I, pin, if_true, c, if_false]
    rw [show ((a.natAbs : Nat) : Int) = -a by omega]
set_option maxHeartbeats 1000000 in
theorem s_turnedX {a b : Int} (ha : -1000000 ≤ a ∧ a ≤ 1000000) (hb : -1000000 ≤ b ∧ b ≤ 1000000) (g : px_G) : cl k_Ds_turnedX [.int (iI a), .int (iI b)] g = some (some (.int (iI (trX a b))), g) := by
  have e1 := abs_I ha g
  have e2 := abs_I hb g
  unfold trX
  simp (disch := first | omega | assumption | decide | (simp (disch := omega) only [iI_lit, iJ_lit, iJ_eq, iI_eq, bI_01, bI_01I] <;> omega)) only [c_Ds_turnedX, e_Ds_turnedX_0, e_Ds_turnedX_1, e_Ds_turnedX_4, e_Ds_turnedX_5, e_Ds_turnedX_8, e_Ds_turnedX_9, e_Ds_turnedX_12, e_Ds_turnedX_13, e_Ds_turnedX_16, e_Ds_turnedX_17, e_Ds_turnedX_20, e_Ds_turnedX_23, e_Ds_turnedX_24, e_Ds_turnedX_27, bd_some, bd_none, Option.toList_some, Option.toList_none, List.nil_append, List.cons_append, px_kill_int, px_kill_long, px_kill_ref, px_kill_null, iI_lit, iJ_lit, iI_add, iI_sub, iI_mul, iI_neg, iJ_add, iJ_sub, iJ_mul, iJ_neg, iI_lt, iI_le, iI_eq, iJ_lt, iJ_le, iJ_eq, iI_div, iJ_div, tdiv_tmod, iI_J, iJ_I, iI_ix, iI_toInt, iJ_toInt, cmp_ge, cmp_lt, cmp_eq, cmp_gt, cmp_le, cmp_geI, cmp_ltI, cmp_eqI, cmp_gtI, cmp_leI, bI_0I, bI_1I, pin, if_true, e1, e2]
  grind
set_option maxHeartbeats 1000000 in
theorem s_turnedY {a b : Int} (ha : -1000000 ≤ a ∧ a ≤ 1000000) (hb : -1000000 ≤ b ∧ b ≤ 1000000) (g : px_G) : cl k_Ds_turnedY [.int (iI a), .int (iI b)] g = some (some (.int (iI (trY a b))), g) := by
  have e1 := abs_I ha g
  have e2 := abs_I hb g
  unfold trY
  simp (disch := first | omega | assumption | decide | (simp (disch := omega) only [iI_lit, iJ_lit, iJ_eq, iI_eq, bI_01, bI_01I] <;> omega)) only [c_Ds_turnedY, e_Ds_turnedY_0, e_Ds_turnedY_1, e_Ds_turnedY_4, e_Ds_turnedY_5, e_Ds_turnedY_8, e_Ds_turnedY_9, e_Ds_turnedY_12, e_Ds_turnedY_13, e_Ds_turnedY_16, e_Ds_turnedY_17, e_Ds_turnedY_20, e_Ds_turnedY_23, e_Ds_turnedY_24, e_Ds_turnedY_27, bd_some, bd_none, Option.toList_some, Option.toList_none, List.nil_append, List.cons_append, px_kill_int, px_kill_long, px_kill_ref, px_kill_null, iI_lit, iJ_lit, iI_add, iI_sub, iI_mul, iI_neg, iJ_add, iJ_sub, iJ_mul, iJ_neg, iI_lt, iI_le, iI_eq, iJ_lt, iJ_le, iJ_eq, iI_div, iJ_div, tdiv_tmod, iI_J, iJ_I, iI_ix, iI_toInt, iJ_toInt, cmp_ge, cmp_lt, cmp_eq, cmp_gt, cmp_le, cmp_geI, cmp_ltI, cmp_eqI, cmp_gtI, cmp_leI, bI_0I, bI_1I, pin, if_true, e1, e2]
  grind
theorem s_lowest {p x y : Int} (hp : -1000000 ≤ p ∧ p ≤ 1000000) (hx : -1000000 ≤ x ∧ x ≤ 1000000) (hy : -1000000 ≤ y ∧ y ≤ 1000000) (hne : x ≠ 0 ∨ y ≠ 0) (g : px_G) : cl k_Ds_lowest [.int (iI p), .int (iI x), .int (iI y)] g = some (some (.int (iI (p / ((Int.gcd x y : Nat) : Int)))), g) := by
  have e1 := s_commonPart (a := x) (b := y) (by omega) (by omega) g
  have hpos : 0 < Int.gcd x y := by
    rw [Int.gcd_pos_iff]; exact hne
  have hle : ((Int.gcd x y : Nat) : Int) ≤ 1000000 := by
    rcases hne with h | h
    · have := Int.natAbs_dvd_natAbs.mpr (Int.gcd_dvd_left (a := x) (b := y))
      have := Nat.le_of_dvd (by omega) this
      omega
    · have := Int.natAbs_dvd_natAbs.mpr (Int.gcd_dvd_right (a := x) (b := y))
      have := Nat.le_of_dvd (by omega) this
      omega
  have e2 := s_div (a := p) (b := ((Int.gcd x y : Nat) : Int)) (by omega) (by omega) g
  simp (disch := first | omega | assumption | decide | (simp (disch := omega) only [iI_lit, iJ_lit, iJ_eq, iI_eq, bI_01, bI_01I] <;> omega)) only [c_Ds_lowest, e_Ds_lowest_0, e_Ds_lowest_1, e_Ds_lowest_2, e_Ds_lowest_3, e_Ds_lowest_4, e_Ds_lowest_5, e_Ds_lowest_6, e_Ds_lowest_9, e_Ds_lowest_12, e_Ds_lowest_13, bd_some, bd_none, Option.toList_some, Option.toList_none, List.nil_append, List.cons_append, px_kill_int, px_kill_long, px_kill_ref, px_kill_null, iI_lit, iJ_lit, iI_add, iI_sub, iI_mul, iI_neg, iJ_add, iJ_sub, iJ_mul, iJ_neg, iI_lt, iI_le, iI_eq, iJ_lt, iJ_le, iJ_eq, iI_div, iJ_div, tdiv_tmod, iI_J, iJ_I, iI_ix, iI_toInt, iJ_toInt, cmp_ge, cmp_lt, cmp_eq, cmp_gt, cmp_le, cmp_geI, cmp_ltI, cmp_eqI, cmp_gtI, cmp_leI, bI_0I, bI_1I, pin, if_true, e1, e2]
theorem tr_bd {a b M : Int} (ha : -M ≤ a ∧ a ≤ M) (hb : -M ≤ b ∧ b ≤ M) : (0 ≤ trX a b ∧ trX a b ≤ M) ∧ (0 ≤ trY a b ∧ trY a b ≤ M) := by
  unfold trX trY
  split <;> omega
theorem tr_ne {a b : Int} (h : a ≠ 0 ∨ b ≠ 0) : trX a b ≠ 0 ∨ trY a b ≠ 0 := by
  unfold trX trY
  split <;> omega
theorem tr_gcd (a b : Int) : Int.gcd (trX a b) (trY a b) = Int.gcd a b := by
  unfold trX trY
  split
  · simp [Int.gcd]
  · simp [Int.gcd, Nat.gcd_comm]
theorem okS_ne {a b c d : Int} (h : okS a b c d) : a ≠ 0 ∨ b ≠ 0 := by
  rcases Int.lt_trichotomy a 0 with q | q | q
  · left; omega
  · right
    intro e
    exact h.2.2.2.2.1 (by rw [q, e]; omega)
  · left; omega
def qSlope (V : VW) (i k : Int) : Int := if isK V i ∧ 0 ≤ k ∧ k ≤ 1 then (if k = 0 then trX (V.2 i.toNat 0) (V.2 i.toNat 1) else trY (V.2 i.toNat 0) (V.2 i.toNat 1)) / ((Int.gcd (V.2 i.toNat 0) (V.2 i.toNat 1) : Nat) : Int) else -1000000
set_option maxHeartbeats 1000000 in
theorem q_Ds_slope {T : TS} {V : VW} (hV : okV V) (h : cC T V) {i k : Int} (hi : inI i) (hk : inI k) : cl k_Ds_slope [.ref 0, .int (iI i), .int (iI k)] (enc T) = some (some (.int (iI (qSlope V i k))), enc T) := by
  have g1 := g_isInk hV h hi
  have g3 := g_isAxis hk (enc T)
  obtain ⟨i1, i2⟩ := id hi
  obtain ⟨k1, k2⟩ := hk
  unfold qSlope
  by_cases c1 : isK V i
  · rw [bI_tI c1] at g1
    by_cases c3 : 0 ≤ k ∧ k ≤ 1
    · rw [bI_tI c3] at g3
      rw [if_pos ⟨c1, c3⟩]
      obtain ⟨j, rfl⟩ : ∃ j : Nat, i = (j : Int) := ⟨i.toNat, by omega⟩
      obtain ⟨h4, hp, hs, hI⟩ := cC.at hV h (j := j) (by have := c1.2; omega)
      have ok := hV.2 j (by have := c1.2; omega)
      obtain ⟨o1, o2, o3⟩ := id ok.1
      obtain ⟨s0, s1, s2, s3⟩ := hI.1.2.2.1
      have q1 := (pl_s3 hp).2.2.2.2.1
      have ej : ((j : Int)).toNat = j := by omega
      have t1 := s_turnedX (a := V.2 j 0) (b := V.2 j 1) (by omega) (by omega) (enc T)
      have t2 := s_turnedY (a := V.2 j 0) (b := V.2 j 1) (by omega) (by omega) (enc T)
      have hb := tr_bd o1 o2
      have hne := tr_ne (okS_ne ok.1)
      have hgc := tr_gcd (V.2 j 0) (V.2 j 1)
      have l1 := s_lowest (p := trX (V.2 j 0) (V.2 j 1)) (x := trX (V.2 j 0) (V.2 j 1)) (y := trY (V.2 j 0) (V.2 j 1)) (by omega) (by omega) (by omega) hne (enc T)
      have l2 := s_lowest (p := trY (V.2 j 0) (V.2 j 1)) (x := trX (V.2 j 0) (V.2 j 1)) (y := trY (V.2 j 0) (V.2 j 1)) (by omega) (by omega) (by omega) hne (enc T)
      rw [hgc] at l1 l2
      by_cases k0 : k = 0
      · subst k0
        simp (disch := first | omega | assumption | decide | (simp (disch := omega) only [iI_lit, iJ_lit, iJ_eq, iI_eq, bI_01, bI_01I] <;> omega)) only [c_Ds_slope, e_Ds_slope_0, e_Ds_slope_1, e_Ds_slope_2, e_Ds_slope_5, e_Ds_slope_8, e_Ds_slope_9, e_Ds_slope_12, e_Ds_slope_15, e_Ds_slope_17, e_Ds_slope_18, e_Ds_slope_19, e_Ds_slope_22, e_Ds_slope_23, e_Ds_slope_24, e_Ds_slope_27, e_Ds_slope_28, e_Ds_slope_29, e_Ds_slope_32, e_Ds_slope_33, e_Ds_slope_36, e_Ds_slope_39, e_Ds_slope_41, e_Ds_slope_42, e_Ds_slope_45, e_Ds_slope_46, e_Ds_slope_49, e_Ds_slope_52, e_Ds_slope_54, e_Ds_slope_55, e_Ds_slope_58, e_Ds_slope_60, e_Ds_slope_63, e_Ds_slope_65, e_Ds_slope_67, e_Ds_slope_69, e_Ds_slope_72, bd_some, bd_none, Option.toList_some, Option.toList_none, List.nil_append, List.cons_append, px_kill_int, px_kill_long, px_kill_ref, px_kill_null, iI_lit, iJ_lit, iI_add, iI_sub, iI_mul, iI_neg, iJ_add, iJ_sub, iJ_mul, iJ_neg, iI_lt, iI_le, iI_eq, iJ_lt, iJ_le, iJ_eq, iI_div, iJ_div, tdiv_tmod, iI_J, iJ_I, iI_ix, iI_toInt, iJ_toInt, cmp_ge, cmp_lt, cmp_eq, cmp_gt, cmp_le, cmp_geI, cmp_ltI, cmp_eqI, cmp_gtI, cmp_leI, bI_0I, bI_1I, pin, if_true, g1, g3, one0, if_false, sh_n5, ej, hs, q1, s0, s1, t1, t2, l1]
      · have k1 : k = 1 := by omega
        subst k1
        simp (disch := first | omega | assumption | decide | (simp (disch := omega) only [iI_lit, iJ_lit, iJ_eq, iI_eq, bI_01, bI_01I] <;> omega)) only [c_Ds_slope, e_Ds_slope_0, e_Ds_slope_1, e_Ds_slope_2, e_Ds_slope_5, e_Ds_slope_8, e_Ds_slope_9, e_Ds_slope_12, e_Ds_slope_15, e_Ds_slope_17, e_Ds_slope_18, e_Ds_slope_19, e_Ds_slope_22, e_Ds_slope_23, e_Ds_slope_24, e_Ds_slope_27, e_Ds_slope_28, e_Ds_slope_29, e_Ds_slope_32, e_Ds_slope_33, e_Ds_slope_36, e_Ds_slope_39, e_Ds_slope_41, e_Ds_slope_42, e_Ds_slope_45, e_Ds_slope_46, e_Ds_slope_49, e_Ds_slope_52, e_Ds_slope_54, e_Ds_slope_55, e_Ds_slope_58, e_Ds_slope_60, e_Ds_slope_63, e_Ds_slope_65, e_Ds_slope_67, e_Ds_slope_69, e_Ds_slope_72, bd_some, bd_none, Option.toList_some, Option.toList_none, List.nil_append, List.cons_append, px_kill_int, px_kill_long, px_kill_ref, px_kill_null, iI_lit, iJ_lit, iI_add, iI_sub, iI_mul, iI_neg, iJ_add, iJ_sub, iJ_mul, iJ_neg, iI_lt, iI_le, iI_eq, iJ_lt, iJ_le, iJ_eq, iI_div, iJ_div, tdiv_tmod, iI_J, iJ_I, iI_ix, iI_toInt, iJ_toInt, cmp_ge, cmp_lt, cmp_eq, cmp_gt, cmp_le, cmp_geI, cmp_ltI, cmp_eqI, cmp_gtI, cmp_leI, bI_0I, bI_1I, pin, if_true, g1, g3, one0, if_false, sh_n5, ej, hs, q1, s0, s1, t1, t2, l2]
    · rw [bI_fI c3] at g3
      rw [if_neg (fun z => c3 z.2)]
      simp (disch := first | omega | assumption | decide | (simp (disch := omega) only [iI_lit, iJ_lit, iJ_eq, iI_eq, bI_01, bI_01I] <;> omega)) only [c_Ds_slope, e_Ds_slope_0, e_Ds_slope_1, e_Ds_slope_2, e_Ds_slope_5, e_Ds_slope_8, e_Ds_slope_9, e_Ds_slope_12, e_Ds_slope_15, e_Ds_slope_17, e_Ds_slope_18, e_Ds_slope_19, e_Ds_slope_22, e_Ds_slope_23, e_Ds_slope_24, e_Ds_slope_27, e_Ds_slope_28, e_Ds_slope_29, e_Ds_slope_32, e_Ds_slope_33, e_Ds_slope_36, e_Ds_slope_39, e_Ds_slope_41, e_Ds_slope_42, e_Ds_slope_45, e_Ds_slope_46, e_Ds_slope_49, e_Ds_slope_52, e_Ds_slope_54, e_Ds_slope_55, e_Ds_slope_58, e_Ds_slope_60, e_Ds_slope_63, e_Ds_slope_65, e_Ds_slope_67, e_Ds_slope_69, e_Ds_slope_72, bd_some, bd_none, Option.toList_some, Option.toList_none, List.nil_append, List.cons_append, px_kill_int, px_kill_long, px_kill_ref, px_kill_null, iI_lit, iJ_lit, iI_add, iI_sub, iI_mul, iI_neg, iJ_add, iJ_sub, iJ_mul, iJ_neg, iI_lt, iI_le, iI_eq, iJ_lt, iJ_le, iJ_eq, iI_div, iJ_div, tdiv_tmod, iI_J, iJ_I, iI_ix, iI_toInt, iJ_toInt, cmp_ge, cmp_lt, cmp_eq, cmp_gt, cmp_le, cmp_geI, cmp_ltI, cmp_eqI, cmp_gtI, cmp_leI, bI_0I, bI_1I, pin, if_true, g1, g3, one0, if_false]
  · rw [bI_fI c1] at g1
    rw [if_neg (fun z => c1 z.1)]
    simp (disch := first | omega | assumption | decide | (simp (disch := omega) only [iI_lit, iJ_lit, iJ_eq, iI_eq, bI_01, bI_01I] <;> omega)) only [c_Ds_slope, e_Ds_slope_0, e_Ds_slope_1, e_Ds_slope_2, e_Ds_slope_5, e_Ds_slope_8, e_Ds_slope_9, e_Ds_slope_12, e_Ds_slope_15, e_Ds_slope_17, e_Ds_slope_18, e_Ds_slope_19, e_Ds_slope_22, e_Ds_slope_23, e_Ds_slope_24, e_Ds_slope_27, e_Ds_slope_28, e_Ds_slope_29, e_Ds_slope_32, e_Ds_slope_33, e_Ds_slope_36, e_Ds_slope_39, e_Ds_slope_41, e_Ds_slope_42, e_Ds_slope_45, e_Ds_slope_46, e_Ds_slope_49, e_Ds_slope_52, e_Ds_slope_54, e_Ds_slope_55, e_Ds_slope_58, e_Ds_slope_60, e_Ds_slope_63, e_Ds_slope_65, e_Ds_slope_67, e_Ds_slope_69, e_Ds_slope_72, bd_some, bd_none, Option.toList_some, Option.toList_none, List.nil_append, List.cons_append, px_kill_int, px_kill_long, px_kill_ref, px_kill_null, iI_lit, iJ_lit, iI_add, iI_sub, iI_mul, iI_neg, iJ_add, iJ_sub, iJ_mul, iJ_neg, iI_lt, iI_le, iI_eq, iJ_lt, iJ_le, iJ_eq, iI_div, iJ_div, tdiv_tmod, iI_J, iJ_I, iI_ix, iI_toInt, iJ_toInt, cmp_ge, cmp_lt, cmp_eq, cmp_gt, cmp_le, cmp_geI, cmp_ltI, cmp_eqI, cmp_gtI, cmp_leI, bI_0I, bI_1I, pin, if_true, g1]
