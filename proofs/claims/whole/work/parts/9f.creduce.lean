/-! the shortest moves: pure folds; the component. -/
abbrev cbX (q : Q4) (i j : Int) : Int := i * q.1 + j * q.2.2.1
abbrev cbY (q : Q4) (i j : Int) : Int := i * q.2.1 + j * q.2.2.2
abbrev isAh (x y ox oy : Int) : Prop := x * x + y * y < ox * ox + oy * oy ∨ (x * x + y * y = ox * ox + oy * oy ∧ (ox < x ∨ (x = ox ∧ oy < y)))
theorem dt_bd (q : Q4) : 2 * dtU q ≤ rU q + rV q ∧ -(2 * dtU q) ≤ rU q + rV q := by
  have a1 := sq_nn (q.1 - q.2.2.1)
  have a2 := sq_nn (q.2.1 - q.2.2.2)
  have b1 := sq_nn (q.1 + q.2.2.1)
  have b2 := sq_nn (q.2.1 + q.2.2.2)
  have e1 : (q.1 - q.2.2.1) * (q.1 - q.2.2.1) = q.1 * q.1 - 2 * (q.1 * q.2.2.1) + q.2.2.1 * q.2.2.1 := by grind
  have e2 : (q.2.1 - q.2.2.2) * (q.2.1 - q.2.2.2) = q.2.1 * q.2.1 - 2 * (q.2.1 * q.2.2.2) + q.2.2.2 * q.2.2.2 := by grind
  have e3 : (q.1 + q.2.2.1) * (q.1 + q.2.2.1) = q.1 * q.1 + 2 * (q.1 * q.2.2.1) + q.2.2.1 * q.2.2.1 := by grind
  have e4 : (q.2.1 + q.2.2.2) * (q.2.1 + q.2.2.2) = q.2.1 * q.2.1 + 2 * (q.2.1 * q.2.2.2) + q.2.2.2 * q.2.2.2 := by grind
  unfold dtU rU rV
  omega
abbrev bNn (N : Int) : Prop := 0 ≤ N ∧ N ≤ 400000000000000000
theorem cb_bd {N : Int} (hN : bNn N) {q : Q4} (h : okR N q) {i j : Int} (hi : -2 ≤ i ∧ i ≤ 2) (hj : -2 ≤ j ∧ j ≤ 2) : 0 ≤ cbX q i j * cbX q i j + cbY q i j * cbY q i j ∧ cbX q i j * cbX q i j + cbY q i j * cbY q i j ≤ 6400000000000000000 := by
  have e : cbX q i j * cbX q i j + cbY q i j * cbY q i j = i * i * rU q + 2 * (i * j) * dtU q + j * j * rV q := by
    unfold cbX cbY rU rV dtU
    grind
  have n1 := sq_nn (cbX q i j)
  have n2 := sq_nn (cbY q i j)
  refine ⟨by omega, ?_⟩
  rw [e]
  have db := dt_bd q
  have hp := h.pos
  have u := h.2.1
  have v := h.2.2
  generalize rU q = U at *
  generalize rV q = V at *
  generalize dtU q = D at *
  have ci : i = -2 ∨ i = -1 ∨ i = 0 ∨ i = 1 ∨ i = 2 := by omega
  have cj : j = -2 ∨ j = -1 ∨ j = 0 ∨ j = 1 ∨ j = 2 := by omega
  rcases ci with c | c | c | c | c <;> subst c <;> rcases cj with c | c | c | c | c <;> subst c <;> omega
theorem le_sq (x : Int) : -(x * x) ≤ x ∧ x ≤ x * x := by
  have n := sq_nn x
  rcases Int.lt_trichotomy x 0 with h | h | h
  · have k := Int.mul_le_mul_of_nonneg_left (a := 1) (b := -x) (c := -x) (by omega) (by omega)
    rw [Int.neg_mul_neg, Int.mul_one] at k
    omega
  · subst h; omega
  · have k := Int.mul_le_mul_of_nonneg_left (a := 1) (b := x) (c := x) (by omega) (by omega)
    rw [Int.mul_one] at k
    omega
/-- numbers that the machine can compare -/
def okZ (x y : Int) : Prop := x * x + y * y ≤ 6400000000000000000
theorem okZ.bd {x y : Int} (h : okZ x y) : (-6400000000000000000 ≤ x ∧ x ≤ 6400000000000000000) ∧ (-6400000000000000000 ≤ y ∧ y ≤ 6400000000000000000) ∧ 0 ≤ x * x + y * y := by
  unfold okZ at h
  have a := le_sq x
  have b := le_sq y
  have c := sq_nn x
  have d := sq_nn y
  omega
theorem s_rsquare {X Y : Int} (g : px_G) : cl k_Red_square [.long (iJ X), .long (iJ Y)] g = some (some (.long (iJ (X * X + Y * Y))), g) := by
  simp (disch := first | omega | assumption | decide | (simp (disch := omega) only [iI_lit, iJ_lit, iJ_eq, iI_eq, bI_01, bI_01I] <;> omega)) only [c_Red_square, e_Red_square_0, e_Red_square_1, e_Red_square_2, e_Red_square_3, e_Red_square_4, e_Red_square_5, e_Red_square_6, e_Red_square_7, bd_some, bd_none, Option.toList_some, Option.toList_none, List.nil_append, List.cons_append, px_kill_int, px_kill_long, px_kill_ref, px_kill_null, iI_lit, iJ_lit, iI_add, iI_sub, iI_mul, iI_neg, iJ_add, iJ_sub, iJ_mul, iJ_neg, iI_lt, iI_le, iI_eq, iJ_lt, iJ_le, iJ_eq, iI_div, iJ_div, tdiv_tmod, iI_J, iJ_I, iI_ix, iI_toInt, iJ_toInt, cmp_ge, cmp_lt, cmp_eq, cmp_gt, cmp_le, cmp_geI, cmp_ltI, cmp_eqI, cmp_gtI, cmp_leI, bI_0I, bI_1I, pin, if_true]
set_option maxHeartbeats 2000000 in
theorem s_cahead0 {x y ox oy A B : Int} (b1 : -6400000000000000000 ≤ x ∧ x ≤ 6400000000000000000) (b2 : -6400000000000000000 ≤ y ∧ y ≤ 6400000000000000000) (d1 : -6400000000000000000 ≤ ox ∧ ox ≤ 6400000000000000000) (d2 : -6400000000000000000 ≤ oy ∧ oy ≤ 6400000000000000000) (h1 : 0 ≤ A ∧ A ≤ 6400000000000000000) (h2 : 0 ≤ B ∧ B ≤ 6400000000000000000) (g : px_G) (e1 : cl k_Red_square [.long (iJ x), .long (iJ y)] g = some (some (.long (iJ A)), g)) (e2 : cl k_Red_square [.long (iJ ox), .long (iJ oy)] g = some (some (.long (iJ B)), g)) {P : Prop} [Decidable P] (key : P ↔ (A < B ∨ (A = B ∧ (ox < x ∨ (x = ox ∧ oy < y))))) : cl k_Red_isAhead [.long (iJ x), .long (iJ y), .long (iJ ox), .long (iJ oy)] g = some (some (.int (bI P)), g) := by
  by_cases c1 : A = B
  · by_cases c2 : x = ox
    · by_cases c3 : y ≤ oy
      · rw [bI_fI (c := P) (fun z => by have := key.mp z; omega)]
        subst c2
        simp (disch := first | omega | assumption | decide | (simp (disch := omega) only [iI_lit, iJ_lit, iJ_eq, iI_eq, bI_01, bI_01I] <;> omega)) only [c_Red_isAhead, e_Red_isAhead_0, e_Red_isAhead_1, e_Red_isAhead_2, e_Red_isAhead_5, e_Red_isAhead_7, e_Red_isAhead_9, e_Red_isAhead_11, e_Red_isAhead_14, e_Red_isAhead_16, e_Red_isAhead_18, e_Red_isAhead_20, e_Red_isAhead_21, e_Red_isAhead_24, e_Red_isAhead_26, e_Red_isAhead_28, e_Red_isAhead_29, e_Red_isAhead_32, e_Red_isAhead_33, e_Red_isAhead_36, e_Red_isAhead_37, e_Red_isAhead_38, e_Red_isAhead_39, e_Red_isAhead_41, e_Red_isAhead_42, e_Red_isAhead_45, e_Red_isAhead_46, e_Red_isAhead_48, e_Red_isAhead_49, e_Red_isAhead_52, e_Red_isAhead_53, e_Red_isAhead_56, e_Red_isAhead_57, e_Red_isAhead_60, e_Red_isAhead_61, e_Red_isAhead_63, e_Red_isAhead_64, e_Red_isAhead_67, e_Red_isAhead_68, e_Red_isAhead_71, e_Red_isAhead_72, bd_some, bd_none, Option.toList_some, Option.toList_none, List.nil_append, List.cons_append, px_kill_int, px_kill_long, px_kill_ref, px_kill_null, iI_lit, iJ_lit, iI_add, iI_sub, iI_mul, iI_neg, iJ_add, iJ_sub, iJ_mul, iJ_neg, iI_lt, iI_le, iI_eq, iJ_lt, iJ_le, iJ_eq, iI_div, iJ_div, tdiv_tmod, iI_J, iJ_I, iI_ix, iI_toInt, iJ_toInt, cmp_ge, cmp_lt, cmp_eq, cmp_gt, cmp_le, cmp_geI, cmp_ltI, cmp_eqI, cmp_gtI, cmp_leI, bI_0I, bI_1I, pin, if_true, e1, e2, c1, c3, eq_self]
      · rw [bI_tI (c := P) (key.mpr (by omega))]
        subst c2
        simp (disch := first | omega | assumption | decide | (simp (disch := omega) only [iI_lit, iJ_lit, iJ_eq, iI_eq, bI_01, bI_01I] <;> omega)) only [c_Red_isAhead, e_Red_isAhead_0, e_Red_isAhead_1, e_Red_isAhead_2, e_Red_isAhead_5, e_Red_isAhead_7, e_Red_isAhead_9, e_Red_isAhead_11, e_Red_isAhead_14, e_Red_isAhead_16, e_Red_isAhead_18, e_Red_isAhead_20, e_Red_isAhead_21, e_Red_isAhead_24, e_Red_isAhead_26, e_Red_isAhead_28, e_Red_isAhead_29, e_Red_isAhead_32, e_Red_isAhead_33, e_Red_isAhead_36, e_Red_isAhead_37, e_Red_isAhead_38, e_Red_isAhead_39, e_Red_isAhead_41, e_Red_isAhead_42, e_Red_isAhead_45, e_Red_isAhead_46, e_Red_isAhead_48, e_Red_isAhead_49, e_Red_isAhead_52, e_Red_isAhead_53, e_Red_isAhead_56, e_Red_isAhead_57, e_Red_isAhead_60, e_Red_isAhead_61, e_Red_isAhead_63, e_Red_isAhead_64, e_Red_isAhead_67, e_Red_isAhead_68, e_Red_isAhead_71, e_Red_isAhead_72, bd_some, bd_none, Option.toList_some, Option.toList_none, List.nil_append, List.cons_append, px_kill_int, px_kill_long, px_kill_ref, px_kill_null, iI_lit, iJ_lit, iI_add, iI_sub, iI_mul, iI_neg, iJ_add, iJ_sub, iJ_mul, iJ_neg, iI_lt, iI_le, iI_eq, iJ_lt, iJ_le, iJ_eq, iI_div, iJ_div, tdiv_tmod, iI_J, iJ_I, iI_ix, iI_toInt, iJ_toInt, cmp_ge, cmp_lt, cmp_eq, cmp_gt, cmp_le, cmp_geI, cmp_ltI, cmp_eqI, cmp_gtI, cmp_leI, bI_0I, bI_1I, pin, if_true, e1, e2, c1, c3, if_false, eq_self]
    · by_cases c3 : x ≤ ox
      · rw [bI_fI (c := P) (fun z => by have := key.mp z; omega)]
        simp (disch := first | omega | assumption | decide | (simp (disch := omega) only [iI_lit, iJ_lit, iJ_eq, iI_eq, bI_01, bI_01I] <;> omega)) only [c_Red_isAhead, e_Red_isAhead_0, e_Red_isAhead_1, e_Red_isAhead_2, e_Red_isAhead_5, e_Red_isAhead_7, e_Red_isAhead_9, e_Red_isAhead_11, e_Red_isAhead_14, e_Red_isAhead_16, e_Red_isAhead_18, e_Red_isAhead_20, e_Red_isAhead_21, e_Red_isAhead_24, e_Red_isAhead_26, e_Red_isAhead_28, e_Red_isAhead_29, e_Red_isAhead_32, e_Red_isAhead_33, e_Red_isAhead_36, e_Red_isAhead_37, e_Red_isAhead_38, e_Red_isAhead_39, e_Red_isAhead_41, e_Red_isAhead_42, e_Red_isAhead_45, e_Red_isAhead_46, e_Red_isAhead_48, e_Red_isAhead_49, e_Red_isAhead_52, e_Red_isAhead_53, e_Red_isAhead_56, e_Red_isAhead_57, e_Red_isAhead_60, e_Red_isAhead_61, e_Red_isAhead_63, e_Red_isAhead_64, e_Red_isAhead_67, e_Red_isAhead_68, e_Red_isAhead_71, e_Red_isAhead_72, bd_some, bd_none, Option.toList_some, Option.toList_none, List.nil_append, List.cons_append, px_kill_int, px_kill_long, px_kill_ref, px_kill_null, iI_lit, iJ_lit, iI_add, iI_sub, iI_mul, iI_neg, iJ_add, iJ_sub, iJ_mul, iJ_neg, iI_lt, iI_le, iI_eq, iJ_lt, iJ_le, iJ_eq, iI_div, iJ_div, tdiv_tmod, iI_J, iJ_I, iI_ix, iI_toInt, iJ_toInt, cmp_ge, cmp_lt, cmp_eq, cmp_gt, cmp_le, cmp_geI, cmp_ltI, cmp_eqI, cmp_gtI, cmp_leI, bI_0I, bI_1I, pin, if_true, e1, e2, c1, c2, c3, if_false]
      · rw [bI_tI (c := P) (key.mpr (by omega))]
        simp (disch := first | omega | assumption | decide | (simp (disch := omega) only [iI_lit, iJ_lit, iJ_eq, iI_eq, bI_01, bI_01I] <;> omega)) only [c_Red_isAhead, e_Red_isAhead_0, e_Red_isAhead_1, e_Red_isAhead_2, e_Red_isAhead_5, e_Red_isAhead_7, e_Red_isAhead_9, e_Red_isAhead_11, e_Red_isAhead_14, e_Red_isAhead_16, e_Red_isAhead_18, e_Red_isAhead_20, e_Red_isAhead_21, e_Red_isAhead_24, e_Red_isAhead_26, e_Red_isAhead_28, e_Red_isAhead_29, e_Red_isAhead_32, e_Red_isAhead_33, e_Red_isAhead_36, e_Red_isAhead_37, e_Red_isAhead_38, e_Red_isAhead_39, e_Red_isAhead_41, e_Red_isAhead_42, e_Red_isAhead_45, e_Red_isAhead_46, e_Red_isAhead_48, e_Red_isAhead_49, e_Red_isAhead_52, e_Red_isAhead_53, e_Red_isAhead_56, e_Red_isAhead_57, e_Red_isAhead_60, e_Red_isAhead_61, e_Red_isAhead_63, e_Red_isAhead_64, e_Red_isAhead_67, e_Red_isAhead_68, e_Red_isAhead_71, e_Red_isAhead_72, bd_some, bd_none, Option.toList_some, Option.toList_none, List.nil_append, List.cons_append, px_kill_int, px_kill_long, px_kill_ref, px_kill_null, iI_lit, iJ_lit, iI_add, iI_sub, iI_mul, iI_neg, iJ_add, iJ_sub, iJ_mul, iJ_neg, iI_lt, iI_le, iI_eq, iJ_lt, iJ_le, iJ_eq, iI_div, iJ_div, tdiv_tmod, iI_J, iJ_I, iI_ix, iI_toInt, iJ_toInt, cmp_ge, cmp_lt, cmp_eq, cmp_gt, cmp_le, cmp_geI, cmp_ltI, cmp_eqI, cmp_gtI, cmp_leI, bI_0I, bI_1I, pin, if_true, e1, e2, c1, c2, c3, if_false]
  · by_cases c2 : B ≤ A
    · rw [bI_fI (c := P) (fun z => by have := key.mp z; omega)]
      simp (disch := first | omega | assumption | decide | (simp (disch := omega) only [iI_lit, iJ_lit, iJ_eq, iI_eq, bI_01, bI_01I] <;> omega)) only [c_Red_isAhead, e_Red_isAhead_0, e_Red_isAhead_1, e_Red_isAhead_2, e_Red_isAhead_5, e_Red_isAhead_7, e_Red_isAhead_9, e_Red_isAhead_11, e_Red_isAhead_14, e_Red_isAhead_16, e_Red_isAhead_18, e_Red_isAhead_20, e_Red_isAhead_21, e_Red_isAhead_24, e_Red_isAhead_26, e_Red_isAhead_28, e_Red_isAhead_29, e_Red_isAhead_32, e_Red_isAhead_33, e_Red_isAhead_36, e_Red_isAhead_37, e_Red_isAhead_38, e_Red_isAhead_39, e_Red_isAhead_41, e_Red_isAhead_42, e_Red_isAhead_45, e_Red_isAhead_46, e_Red_isAhead_48, e_Red_isAhead_49, e_Red_isAhead_52, e_Red_isAhead_53, e_Red_isAhead_56, e_Red_isAhead_57, e_Red_isAhead_60, e_Red_isAhead_61, e_Red_isAhead_63, e_Red_isAhead_64, e_Red_isAhead_67, e_Red_isAhead_68, e_Red_isAhead_71, e_Red_isAhead_72, bd_some, bd_none, Option.toList_some, Option.toList_none, List.nil_append, List.cons_append, px_kill_int, px_kill_long, px_kill_ref, px_kill_null, iI_lit, iJ_lit, iI_add, iI_sub, iI_mul, iI_neg, iJ_add, iJ_sub, iJ_mul, iJ_neg, iI_lt, iI_le, iI_eq, iJ_lt, iJ_le, iJ_eq, iI_div, iJ_div, tdiv_tmod, iI_J, iJ_I, iI_ix, iI_toInt, iJ_toInt, cmp_ge, cmp_lt, cmp_eq, cmp_gt, cmp_le, cmp_geI, cmp_ltI, cmp_eqI, cmp_gtI, cmp_leI, bI_0I, bI_1I, pin, if_true, e1, e2, c1, c2, if_false]
    · rw [bI_tI (c := P) (key.mpr (by omega))]
      simp (disch := first | omega | assumption | decide | (simp (disch := omega) only [iI_lit, iJ_lit, iJ_eq, iI_eq, bI_01, bI_01I] <;> omega)) only [c_Red_isAhead, e_Red_isAhead_0, e_Red_isAhead_1, e_Red_isAhead_2, e_Red_isAhead_5, e_Red_isAhead_7, e_Red_isAhead_9, e_Red_isAhead_11, e_Red_isAhead_14, e_Red_isAhead_16, e_Red_isAhead_18, e_Red_isAhead_20, e_Red_isAhead_21, e_Red_isAhead_24, e_Red_isAhead_26, e_Red_isAhead_28, e_Red_isAhead_29, e_Red_isAhead_32, e_Red_isAhead_33, e_Red_isAhead_36, e_Red_isAhead_37, e_Red_isAhead_38, e_Red_isAhead_39, e_Red_isAhead_41, e_Red_isAhead_42, e_Red_isAhead_45, e_Red_isAhead_46, e_Red_isAhead_48, e_Red_isAhead_49, e_Red_isAhead_52, e_Red_isAhead_53, e_Red_isAhead_56, e_Red_isAhead_57, e_Red_isAhead_60, e_Red_isAhead_61, e_Red_isAhead_63, e_Red_isAhead_64, e_Red_isAhead_67, e_Red_isAhead_68, e_Red_isAhead_71, e_Red_isAhead_72, bd_some, bd_none, Option.toList_some, Option.toList_none, List.nil_append, List.cons_append, px_kill_int, px_kill_long, px_kill_ref, px_kill_null, iI_lit, iJ_lit, iI_add, iI_sub, iI_mul, iI_neg, iJ_add, iJ_sub, iJ_mul, iJ_neg, iI_lt, iI_le, iI_eq, iJ_lt, iJ_le, iJ_eq, iI_div, iJ_div, tdiv_tmod, iI_J, iJ_I, iI_ix, iI_toInt, iJ_toInt, cmp_ge, cmp_lt, cmp_eq, cmp_gt, cmp_le, cmp_geI, cmp_ltI, cmp_eqI, cmp_gtI, cmp_leI, bI_0I, bI_1I, pin, if_true, e1, e2, c1, c2, if_false]
theorem s_cahead {x y ox oy : Int} (h1 : okZ x y) (h2 : okZ ox oy) (g : px_G) : cl k_Red_isAhead [.long (iJ x), .long (iJ y), .long (iJ ox), .long (iJ oy)] g = some (some (.int (bI (isAh x y ox oy))), g) := by
  obtain ⟨b1, b2, b3⟩ := h1.bd
  obtain ⟨d1, d2, d3⟩ := h2.bd
  exact s_cahead0 b1 b2 d1 d2 ⟨b3, h1⟩ ⟨d3, h2⟩ g (s_rsquare g) (s_rsquare g) Iff.rfl
set_option maxHeartbeats 2000000 in
theorem s_mahead0 {x y ox oy A B : Int} (b1 : -6400000000000000000 ≤ x ∧ x ≤ 6400000000000000000) (b2 : -6400000000000000000 ≤ y ∧ y ≤ 6400000000000000000) (d1 : -6400000000000000000 ≤ ox ∧ ox ≤ 6400000000000000000) (d2 : -6400000000000000000 ≤ oy ∧ oy ≤ 6400000000000000000) (h1 : 0 ≤ A ∧ A ≤ 6400000000000000000) (h2 : 0 ≤ B ∧ B ≤ 6400000000000000000) (g : px_G) (e1 : cl k_Dm_squared [.long (iJ x), .long (iJ y)] g = some (some (.long (iJ A)), g)) (e2 : cl k_Dm_squared [.long (iJ ox), .long (iJ oy)] g = some (some (.long (iJ B)), g)) {P : Prop} [Decidable P] (key : P ↔ (A < B ∨ (A = B ∧ (ox < x ∨ (x = ox ∧ oy < y))))) : cl k_Dm_isAhead [.long (iJ x), .long (iJ y), .long (iJ ox), .long (iJ oy)] g = some (some (.int (bI P)), g) := by
  by_cases c1 : A - B = 0
  · by_cases c2 : x = ox
    · by_cases c3 : y ≤ oy
      · rw [bI_fI (c := P) (fun z => by have := key.mp z; omega)]
        subst c2
        simp (disch := first | omega | assumption | decide | (simp (disch := omega) only [iI_lit, iJ_lit, iJ_eq, iI_eq, bI_01, bI_01I] <;> omega)) only [c_Dm_isAhead, e_Dm_isAhead_0, e_Dm_isAhead_1, e_Dm_isAhead_2, e_Dm_isAhead_5, e_Dm_isAhead_7, e_Dm_isAhead_9, e_Dm_isAhead_12, e_Dm_isAhead_13, e_Dm_isAhead_15, e_Dm_isAhead_17, e_Dm_isAhead_18, e_Dm_isAhead_19, e_Dm_isAhead_22, e_Dm_isAhead_24, e_Dm_isAhead_25, e_Dm_isAhead_26, e_Dm_isAhead_29, e_Dm_isAhead_30, e_Dm_isAhead_33, e_Dm_isAhead_34, e_Dm_isAhead_37, e_Dm_isAhead_38, e_Dm_isAhead_40, e_Dm_isAhead_41, e_Dm_isAhead_44, e_Dm_isAhead_45, e_Dm_isAhead_47, e_Dm_isAhead_48, e_Dm_isAhead_51, e_Dm_isAhead_52, e_Dm_isAhead_55, e_Dm_isAhead_56, e_Dm_isAhead_59, e_Dm_isAhead_60, e_Dm_isAhead_62, e_Dm_isAhead_63, e_Dm_isAhead_66, e_Dm_isAhead_67, e_Dm_isAhead_70, e_Dm_isAhead_71, bd_some, bd_none, Option.toList_some, Option.toList_none, List.nil_append, List.cons_append, px_kill_int, px_kill_long, px_kill_ref, px_kill_null, iI_lit, iJ_lit, iI_add, iI_sub, iI_mul, iI_neg, iJ_add, iJ_sub, iJ_mul, iJ_neg, iI_lt, iI_le, iI_eq, iJ_lt, iJ_le, iJ_eq, iI_div, iJ_div, tdiv_tmod, iI_J, iJ_I, iI_ix, iI_toInt, iJ_toInt, cmp_ge, cmp_lt, cmp_eq, cmp_gt, cmp_le, cmp_geI, cmp_ltI, cmp_eqI, cmp_gtI, cmp_leI, bI_0I, bI_1I, pin, if_true, e1, e2, c1, c3, eq_self]
      · rw [bI_tI (c := P) (key.mpr (by omega))]
        subst c2
        simp (disch := first | omega | assumption | decide | (simp (disch := omega) only [iI_lit, iJ_lit, iJ_eq, iI_eq, bI_01, bI_01I] <;> omega)) only [c_Dm_isAhead, e_Dm_isAhead_0, e_Dm_isAhead_1, e_Dm_isAhead_2, e_Dm_isAhead_5, e_Dm_isAhead_7, e_Dm_isAhead_9, e_Dm_isAhead_12, e_Dm_isAhead_13, e_Dm_isAhead_15, e_Dm_isAhead_17, e_Dm_isAhead_18, e_Dm_isAhead_19, e_Dm_isAhead_22, e_Dm_isAhead_24, e_Dm_isAhead_25, e_Dm_isAhead_26, e_Dm_isAhead_29, e_Dm_isAhead_30, e_Dm_isAhead_33, e_Dm_isAhead_34, e_Dm_isAhead_37, e_Dm_isAhead_38, e_Dm_isAhead_40, e_Dm_isAhead_41, e_Dm_isAhead_44, e_Dm_isAhead_45, e_Dm_isAhead_47, e_Dm_isAhead_48, e_Dm_isAhead_51, e_Dm_isAhead_52, e_Dm_isAhead_55, e_Dm_isAhead_56, e_Dm_isAhead_59, e_Dm_isAhead_60, e_Dm_isAhead_62, e_Dm_isAhead_63, e_Dm_isAhead_66, e_Dm_isAhead_67, e_Dm_isAhead_70, e_Dm_isAhead_71, bd_some, bd_none, Option.toList_some, Option.toList_none, List.nil_append, List.cons_append, px_kill_int, px_kill_long, px_kill_ref, px_kill_null, iI_lit, iJ_lit, iI_add, iI_sub, iI_mul, iI_neg, iJ_add, iJ_sub, iJ_mul, iJ_neg, iI_lt, iI_le, iI_eq, iJ_lt, iJ_le, iJ_eq, iI_div, iJ_div, tdiv_tmod, iI_J, iJ_I, iI_ix, iI_toInt, iJ_toInt, cmp_ge, cmp_lt, cmp_eq, cmp_gt, cmp_le, cmp_geI, cmp_ltI, cmp_eqI, cmp_gtI, cmp_leI, bI_0I, bI_1I, pin, if_true, e1, e2, c1, c3, if_false, eq_self]
    · by_cases c3 : x ≤ ox
      · rw [bI_fI (c := P) (fun z => by have := key.mp z; omega)]
        simp (disch := first | omega | assumption | decide | (simp (disch := omega) only [iI_lit, iJ_lit, iJ_eq, iI_eq, bI_01, bI_01I] <;> omega)) only [c_Dm_isAhead, e_Dm_isAhead_0, e_Dm_isAhead_1, e_Dm_isAhead_2, e_Dm_isAhead_5, e_Dm_isAhead_7, e_Dm_isAhead_9, e_Dm_isAhead_12, e_Dm_isAhead_13, e_Dm_isAhead_15, e_Dm_isAhead_17, e_Dm_isAhead_18, e_Dm_isAhead_19, e_Dm_isAhead_22, e_Dm_isAhead_24, e_Dm_isAhead_25, e_Dm_isAhead_26, e_Dm_isAhead_29, e_Dm_isAhead_30, e_Dm_isAhead_33, e_Dm_isAhead_34, e_Dm_isAhead_37, e_Dm_isAhead_38, e_Dm_isAhead_40, e_Dm_isAhead_41, e_Dm_isAhead_44, e_Dm_isAhead_45, e_Dm_isAhead_47, e_Dm_isAhead_48, e_Dm_isAhead_51, e_Dm_isAhead_52, e_Dm_isAhead_55, e_Dm_isAhead_56, e_Dm_isAhead_59, e_Dm_isAhead_60, e_Dm_isAhead_62, e_Dm_isAhead_63, e_Dm_isAhead_66, e_Dm_isAhead_67, e_Dm_isAhead_70, e_Dm_isAhead_71, bd_some, bd_none, Option.toList_some, Option.toList_none, List.nil_append, List.cons_append, px_kill_int, px_kill_long, px_kill_ref, px_kill_null, iI_lit, iJ_lit, iI_add, iI_sub, iI_mul, iI_neg, iJ_add, iJ_sub, iJ_mul, iJ_neg, iI_lt, iI_le, iI_eq, iJ_lt, iJ_le, iJ_eq, iI_div, iJ_div, tdiv_tmod, iI_J, iJ_I, iI_ix, iI_toInt, iJ_toInt, cmp_ge, cmp_lt, cmp_eq, cmp_gt, cmp_le, cmp_geI, cmp_ltI, cmp_eqI, cmp_gtI, cmp_leI, bI_0I, bI_1I, pin, if_true, e1, e2, c1, c2, c3, if_false]
      · rw [bI_tI (c := P) (key.mpr (by omega))]
        simp (disch := first | omega | assumption | decide | (simp (disch := omega) only [iI_lit, iJ_lit, iJ_eq, iI_eq, bI_01, bI_01I] <;> omega)) only [c_Dm_isAhead, e_Dm_isAhead_0, e_Dm_isAhead_1, e_Dm_isAhead_2, e_Dm_isAhead_5, e_Dm_isAhead_7, e_Dm_isAhead_9, e_Dm_isAhead_12, e_Dm_isAhead_13, e_Dm_isAhead_15, e_Dm_isAhead_17, e_Dm_isAhead_18, e_Dm_isAhead_19, e_Dm_isAhead_22, e_Dm_isAhead_24, e_Dm_isAhead_25, e_Dm_isAhead_26, e_Dm_isAhead_29, e_Dm_isAhead_30, e_Dm_isAhead_33, e_Dm_isAhead_34, e_Dm_isAhead_37, e_Dm_isAhead_38, e_Dm_isAhead_40, e_Dm_isAhead_41, e_Dm_isAhead_44, e_Dm_isAhead_45, e_Dm_isAhead_47, e_Dm_isAhead_48, e_Dm_isAhead_51, e_Dm_isAhead_52, e_Dm_isAhead_55, e_Dm_isAhead_56, e_Dm_isAhead_59, e_Dm_isAhead_60, e_Dm_isAhead_62, e_Dm_isAhead_63, e_Dm_isAhead_66, e_Dm_isAhead_67, e_Dm_isAhead_70, e_Dm_isAhead_71, bd_some, bd_none, Option.toList_some, Option.toList_none, List.nil_append, List.cons_append, px_kill_int, px_kill_long, px_kill_ref, px_kill_null, iI_lit, iJ_lit, iI_add, iI_sub, iI_mul, iI_neg, iJ_add, iJ_sub, iJ_mul, iJ_neg, iI_lt, iI_le, iI_eq, iJ_lt, iJ_le, iJ_eq, iI_div, iJ_div, tdiv_tmod, iI_J, iJ_I, iI_ix, iI_toInt, iJ_toInt, cmp_ge, cmp_lt, cmp_eq, cmp_gt, cmp_le, cmp_geI, cmp_ltI, cmp_eqI, cmp_gtI, cmp_leI, bI_0I, bI_1I, pin, if_true, e1, e2, c1, c2, c3, if_false]
  · by_cases c2 : 0 ≤ A - B
    · rw [bI_fI (c := P) (fun z => by have := key.mp z; omega)]
      simp (disch := first | omega | assumption | decide | (simp (disch := omega) only [iI_lit, iJ_lit, iJ_eq, iI_eq, bI_01, bI_01I] <;> omega)) only [c_Dm_isAhead, e_Dm_isAhead_0, e_Dm_isAhead_1, e_Dm_isAhead_2, e_Dm_isAhead_5, e_Dm_isAhead_7, e_Dm_isAhead_9, e_Dm_isAhead_12, e_Dm_isAhead_13, e_Dm_isAhead_15, e_Dm_isAhead_17, e_Dm_isAhead_18, e_Dm_isAhead_19, e_Dm_isAhead_22, e_Dm_isAhead_24, e_Dm_isAhead_25, e_Dm_isAhead_26, e_Dm_isAhead_29, e_Dm_isAhead_30, e_Dm_isAhead_33, e_Dm_isAhead_34, e_Dm_isAhead_37, e_Dm_isAhead_38, e_Dm_isAhead_40, e_Dm_isAhead_41, e_Dm_isAhead_44, e_Dm_isAhead_45, e_Dm_isAhead_47, e_Dm_isAhead_48, e_Dm_isAhead_51, e_Dm_isAhead_52, e_Dm_isAhead_55, e_Dm_isAhead_56, e_Dm_isAhead_59, e_Dm_isAhead_60, e_Dm_isAhead_62, e_Dm_isAhead_63, e_Dm_isAhead_66, e_Dm_isAhead_67, e_Dm_isAhead_70, e_Dm_isAhead_71, bd_some, bd_none, Option.toList_some, Option.toList_none, List.nil_append, List.cons_append, px_kill_int, px_kill_long, px_kill_ref, px_kill_null, iI_lit, iJ_lit, iI_add, iI_sub, iI_mul, iI_neg, iJ_add, iJ_sub, iJ_mul, iJ_neg, iI_lt, iI_le, iI_eq, iJ_lt, iJ_le, iJ_eq, iI_div, iJ_div, tdiv_tmod, iI_J, iJ_I, iI_ix, iI_toInt, iJ_toInt, cmp_ge, cmp_lt, cmp_eq, cmp_gt, cmp_le, cmp_geI, cmp_ltI, cmp_eqI, cmp_gtI, cmp_leI, bI_0I, bI_1I, pin, if_true, e1, e2, c1, c2, if_false]
    · rw [bI_tI (c := P) (key.mpr (by omega))]
      simp (disch := first | omega | assumption | decide | (simp (disch := omega) only [iI_lit, iJ_lit, iJ_eq, iI_eq, bI_01, bI_01I] <;> omega)) only [c_Dm_isAhead, e_Dm_isAhead_0, e_Dm_isAhead_1, e_Dm_isAhead_2, e_Dm_isAhead_5, e_Dm_isAhead_7, e_Dm_isAhead_9, e_Dm_isAhead_12, e_Dm_isAhead_13, e_Dm_isAhead_15, e_Dm_isAhead_17, e_Dm_isAhead_18, e_Dm_isAhead_19, e_Dm_isAhead_22, e_Dm_isAhead_24, e_Dm_isAhead_25, e_Dm_isAhead_26, e_Dm_isAhead_29, e_Dm_isAhead_30, e_Dm_isAhead_33, e_Dm_isAhead_34, e_Dm_isAhead_37, e_Dm_isAhead_38, e_Dm_isAhead_40, e_Dm_isAhead_41, e_Dm_isAhead_44, e_Dm_isAhead_45, e_Dm_isAhead_47, e_Dm_isAhead_48, e_Dm_isAhead_51, e_Dm_isAhead_52, e_Dm_isAhead_55, e_Dm_isAhead_56, e_Dm_isAhead_59, e_Dm_isAhead_60, e_Dm_isAhead_62, e_Dm_isAhead_63, e_Dm_isAhead_66, e_Dm_isAhead_67, e_Dm_isAhead_70, e_Dm_isAhead_71, bd_some, bd_none, Option.toList_some, Option.toList_none, List.nil_append, List.cons_append, px_kill_int, px_kill_long, px_kill_ref, px_kill_null, iI_lit, iJ_lit, iI_add, iI_sub, iI_mul, iI_neg, iJ_add, iJ_sub, iJ_mul, iJ_neg, iI_lt, iI_le, iI_eq, iJ_lt, iJ_le, iJ_eq, iI_div, iJ_div, tdiv_tmod, iI_J, iJ_I, iI_ix, iI_toInt, iJ_toInt, cmp_ge, cmp_lt, cmp_eq, cmp_gt, cmp_le, cmp_geI, cmp_ltI, cmp_eqI, cmp_gtI, cmp_leI, bI_0I, bI_1I, pin, if_true, e1, e2, c1, c2, if_false]
theorem s_mahead {x y ox oy : Int} (h1 : okZ x y) (h2 : okZ ox oy) (g : px_G) : cl k_Dm_isAhead [.long (iJ x), .long (iJ y), .long (iJ ox), .long (iJ oy)] g = some (some (.int (bI (isAh x y ox oy))), g) := by
  obtain ⟨b1, b2, b3⟩ := h1.bd
  obtain ⟨d1, d2, d3⟩ := h2.bd
  exact s_mahead0 b1 b2 d1 d2 ⟨b3, h1⟩ ⟨d3, h2⟩ g (s_squared g) (s_squared g) Iff.rfl
/-- the first one -/
def fS (q : Q4) (i j : Int) (s : Int × Int) : Int × Int := if (i ≠ 0 ∨ j ≠ 0) ∧ isAh (cbX q i j) (cbY q i j) s.1 s.2 then (cbX q i j, cbY q i j) else s
def fR (q : Q4) (i : Int) : (Int × Int) → Int → Nat → (Int × Int)
  | s, _, 0 => s
  | s, j, t + 1 => fR q i (fS q i j s) (j + 1) t
def fA (q : Q4) : (Int × Int) → Int → Nat → (Int × Int)
  | s, _, 0 => s
  | s, i, t + 1 => fA q (fR q i s (-1) 3) (i + 1) t
def frst (q : Q4) : Int × Int := fA q (q.1, q.2.1) (-1) 3
/-- it is a sum of at most one of each -/
def isC1 (q : Q4) (s : Int × Int) : Prop := ∃ i j : Int, (-1 ≤ i ∧ i ≤ 1) ∧ (-1 ≤ j ∧ j ≤ 1) ∧ (i ≠ 0 ∨ j ≠ 0) ∧ s = (cbX q i j, cbY q i j)
theorem fS_c1 {q : Q4} {i j : Int} (hi : -1 ≤ i ∧ i ≤ 1) (hj : -1 ≤ j ∧ j ≤ 1) {s : Int × Int} (h : isC1 q s) : isC1 q (fS q i j s) := by
  unfold fS
  split
  · rename_i c
    exact ⟨i, j, hi, hj, c.1, rfl⟩
  · exact h
theorem fR_c1 {q : Q4} {i : Int} (hi : -1 ≤ i ∧ i ≤ 1) : ∀ (t : Nat) (j : Int) (s : Int × Int), -1 ≤ j → j + t ≤ 2 → isC1 q s → isC1 q (fR q i s j t) := by
  intro t
  induction t with
  | zero => intro j s _ _ h; exact h
  | succ t ih => intro j s h1 h2 h; exact ih (j + 1) _ (by omega) (by omega) (fS_c1 hi (by omega) h)
theorem fA_c1 {q : Q4} : ∀ (t : Nat) (i : Int) (s : Int × Int), -1 ≤ i → i + t ≤ 2 → isC1 q s → isC1 q (fA q s i t) := by
  intro t
  induction t with
  | zero => intro i s _ _ h; exact h
  | succ t ih => intro i s h1 h2 h; exact ih (i + 1) _ (by omega) (by omega) (fR_c1 (by omega) 3 (-1) s (by omega) (by omega) h)
theorem c1_u (q : Q4) : isC1 q (q.1, q.2.1) := ⟨1, 0, by omega, by omega, Or.inl (by omega), by unfold cbX cbY; simp⟩
theorem frst_c1 (q : Q4) : isC1 q (frst q) := fA_c1 3 (-1) _ (by omega) (by omega) (c1_u q)
theorem isC1.z {N : Int} (hN : bNn N) {q : Q4} (h : okR N q) {s : Int × Int} (hs : isC1 q s) : okZ s.1 s.2 := by
  obtain ⟨i, j, hi, hj, _, rfl⟩ := hs
  exact (cb_bd hN h (i := i) (j := j) (by omega) (by omega)).2
/-- the second one -/
def sS (q : Q4) (f : Int × Int) (c : Int) (i j : Int) (s : Option (Int × Int)) : Option (Int × Int) := if ((f.1 * cbY q i j - f.2 * cbX q i j).natAbs : Int) = c then (match s with
  | none => some (cbX q i j, cbY q i j)
  | some o => if isAh (cbX q i j) (cbY q i j) o.1 o.2 then some (cbX q i j, cbY q i j) else some o) else s
def sR2 (q : Q4) (f : Int × Int) (c : Int) (i : Int) : Option (Int × Int) → Int → Nat → Option (Int × Int)
  | s, _, 0 => s
  | s, j, t + 1 => sR2 q f c i (sS q f c i j s) (j + 1) t
def sA2 (q : Q4) (f : Int × Int) (c : Int) : Option (Int × Int) → Int → Nat → Option (Int × Int)
  | s, _, 0 => s
  | s, i, t + 1 => sA2 q f c (sR2 q f c i s (-2) 5) (i + 1) t
def scnd (q : Q4) (c : Int) : Option (Int × Int) := sA2 q (frst q) c none (-2) 5
def isC2 (q : Q4) (s : Option (Int × Int)) : Prop := ∀ o, s = some o → ∃ i j : Int, (-2 ≤ i ∧ i ≤ 2) ∧ (-2 ≤ j ∧ j ≤ 2) ∧ o = (cbX q i j, cbY q i j)
theorem sS_c2 {q : Q4} {f : Int × Int} {c i j : Int} (hi : -2 ≤ i ∧ i ≤ 2) (hj : -2 ≤ j ∧ j ≤ 2) {s : Option (Int × Int)} (h : isC2 q s) : isC2 q (sS q f c i j s) := by
  unfold sS
  intro o ho
  split at ho
  · split at ho
    · cases ho; exact ⟨i, j, hi, hj, rfl⟩
    · split at ho
      · cases ho; exact ⟨i, j, hi, hj, rfl⟩
      · exact h o ho
  · exact h o ho
theorem sR_c2 {q : Q4} {f : Int × Int} {c i : Int} (hi : -2 ≤ i ∧ i ≤ 2) : ∀ (t : Nat) (j : Int) (s : Option (Int × Int)), -2 ≤ j → j + t ≤ 3 → isC2 q s → isC2 q (sR2 q f c i s j t) := by
  intro t
  induction t with
  | zero => intro j s _ _ h; exact h
  | succ t ih => intro j s h1 h2 h; exact ih (j + 1) _ (by omega) (by omega) (sS_c2 hi (by omega) h)
theorem isC2.z {N : Int} (hN : bNn N) {q : Q4} (h : okR N q) {o : Int × Int} (hs : isC2 q (some o)) : okZ o.1 o.2 := by
  obtain ⟨i, j, hi, hj, rfl⟩ := hs o rfl
  exact (cb_bd hN h (i := i) (j := j) hi hj).2
/-- across the first one -/
theorem crs {q : Q4} {f : Int × Int} (hf : isC1 q f) {i j : Int} : ∃ m : Int, f.1 * cbY q i j - f.2 * cbX q i j = m * ddU q ∧ ((-2 ≤ i ∧ i ≤ 2) → (-2 ≤ j ∧ j ≤ 2) → -4 ≤ m ∧ m ≤ 4) := by
  obtain ⟨a, b, ha, hb, _, rfl⟩ := hf
  refine ⟨a * j - b * i, ?_, fun hi hj => ?_⟩
  · unfold cbX cbY ddU
    grind
  · have m1 := mul_bd (a := a) (b := j) (M := 1) (N := 2) ha hj
    have m2 := mul_bd (a := b) (b := i) (M := 1) (N := 2) hb hi
    omega
theorem crs_bd {q : Q4} {f : Int × Int} (hf : isC1 q f) (hd : -429981696 ≤ ddU q ∧ ddU q ≤ 429981696) {i j : Int} (hi : -2 ≤ i ∧ i ≤ 2) (hj : -2 ≤ j ∧ j ≤ 2) : -1719926784 ≤ f.1 * cbY q i j - f.2 * cbX q i j ∧ f.1 * cbY q i j - f.2 * cbX q i j ≤ 1719926784 := by
  obtain ⟨m, e, bm⟩ := crs hf (i := i) (j := j)
  have b := bm hi hj
  rw [e]
  have m1 := mul_bd (a := m) (b := ddU q) (M := 4) (N := 429981696) b hd
  omega
