/-! THE COMPONENT'S SPOT. -/
theorem ilt (a b : Int) : a < b ∨ b ≤ a := by omega
theorem rise_bd {h y k : Int} (hh : 0 < h ∧ h ≤ 144) (hy : 0 ≤ y ∧ y < h) (hk : -145 ≤ k ∧ k ≤ 145) : 0 ≤ rise h y k ∧ rise h y k ≤ 42100 ∧ (-41760 ≤ 2 * k * h ∧ 2 * k * h ≤ 41760) := by
  have h1 := mul_bd (a := k) (b := h) (M := 145) (N := 144) hk (by omega)
  have h2 : 2 * k * h = 2 * (k * h) := by grind
  unfold rise
  omega
theorem sq_bd {u N : Int} (hu : 0 ≤ u ∧ u ≤ N) : 0 ≤ u * u ∧ u * u ≤ N * N := ⟨Int.mul_nonneg hu.1 hu.1, Int.mul_le_mul hu.2 hu.2 hu.1 (by omega)⟩
theorem s_measure (T : TS) {p : Nat} (hp : sh p = (104, 18)) {kd u v : Int} (hk : T.1 p 3 = iI kd) (hkb : 0 ≤ kd ∧ kd ≤ 2) : cl k_Ink_measure [.ref p, .int (iI u), .int (iI v)] (enc T) = some (some (.int (iI (meas kd u v))), enc T) := by
  unfold meas
  by_cases h1 : kd = 1
  · simp (disch := first | omega | assumption | decide | (simp (disch := omega) only [iI_lit, iJ_lit, iJ_eq, iI_eq, bI_01, bI_01I] <;> omega)) only [c_Ink_measure, e_Ink_measure_0, e_Ink_measure_1, e_Ink_measure_4, e_Ink_measure_5, e_Ink_measure_8, e_Ink_measure_9, e_Ink_measure_10, e_Ink_measure_11, e_Ink_measure_14, e_Ink_measure_15, e_Ink_measure_16, e_Ink_measure_17, e_Ink_measure_18, e_Ink_measure_19, e_Ink_measure_20, e_Ink_measure_21, bd_some, bd_none, Option.toList_some, Option.toList_none, List.nil_append, List.cons_append, px_kill_int, px_kill_long, px_kill_ref, px_kill_null, hk, iI_lit, iJ_lit, iI_add, iI_sub, iI_mul, iI_neg, iJ_add, iJ_sub, iJ_mul, iJ_neg, iI_lt, iI_le, iI_eq, iJ_lt, iJ_le, iJ_eq, iI_div, iJ_div, tdiv_tmod, iI_J, iJ_I, iI_ix, iI_toInt, iJ_toInt, cmp_ge, cmp_lt, cmp_eq, cmp_gt, cmp_le, cmp_geI, cmp_ltI, cmp_eqI, cmp_gtI, cmp_leI, bI_0I, bI_1I, pin, if_true, h1]
  · simp (disch := first | omega | assumption | decide | (simp (disch := omega) only [iI_lit, iJ_lit, iJ_eq, iI_eq, bI_01, bI_01I] <;> omega)) only [c_Ink_measure, e_Ink_measure_0, e_Ink_measure_1, e_Ink_measure_4, e_Ink_measure_5, e_Ink_measure_8, e_Ink_measure_9, e_Ink_measure_10, e_Ink_measure_11, e_Ink_measure_14, e_Ink_measure_15, e_Ink_measure_16, e_Ink_measure_17, e_Ink_measure_18, e_Ink_measure_19, e_Ink_measure_20, e_Ink_measure_21, bd_some, bd_none, Option.toList_some, Option.toList_none, List.nil_append, List.cons_append, px_kill_int, px_kill_long, px_kill_ref, px_kill_null, hk, iI_lit, iJ_lit, iI_add, iI_sub, iI_mul, iI_neg, iJ_add, iJ_sub, iJ_mul, iJ_neg, iI_lt, iI_le, iI_eq, iJ_lt, iJ_le, iJ_eq, iI_div, iJ_div, tdiv_tmod, iI_J, iJ_I, iI_ix, iI_toInt, iJ_toInt, cmp_ge, cmp_lt, cmp_eq, cmp_gt, cmp_le, cmp_geI, cmp_ltI, cmp_eqI, cmp_gtI, cmp_leI, bI_0I, bI_1I, pin, if_true, h1, if_false]
section
variable {T : TS} {p : Nat} {w h s : Int}
theorem s_riseTo (hp : sh p = (104, 18)) (hg : cGrd T (p + 2) w h s) (ho : okG w h s) {y k : Int} (hy : 0 ≤ y ∧ y < h) (hk : -145 ≤ k ∧ k ≤ 145) : cl k_Ink_riseTo [.ref p, .int (iI y), .int (iI k)] (enc T) = some (some (.int (iI (rise h y k))), enc T) := by
  obtain ⟨g1, g2, g3⟩ := hg
  have h2 := ink_s2 hp
  obtain ⟨o1, o2, o3, o4⟩ := ho
  obtain ⟨r1, r2, r3⟩ := rise_bd o2 hy hk
  simp (disch := first | omega | assumption | decide | (simp (disch := omega) only [iI_lit, iJ_lit, iJ_eq, iI_eq, bI_01, bI_01I] <;> omega)) only [c_Ink_riseTo, e_Ink_riseTo_0, e_Ink_riseTo_1, e_Ink_riseTo_2, e_Ink_riseTo_3, e_Ink_riseTo_4, e_Ink_riseTo_5, e_Ink_riseTo_6, e_Ink_riseTo_7, e_Ink_riseTo_8, e_Ink_riseTo_9, e_Ink_riseTo_10, e_Ink_riseTo_11, e_Ink_riseTo_14, e_Ink_riseTo_17, e_Ink_riseTo_18, e_Ink_riseTo_19, e_Ink_riseTo_22, e_Ink_riseTo_23, bd_some, bd_none, Option.toList_some, Option.toList_none, List.nil_append, List.cons_append, px_kill_int, px_kill_long, px_kill_ref, px_kill_null, g2, iI_lit, iJ_lit, iI_add, iI_sub, iI_mul, iI_neg, iJ_add, iJ_sub, iJ_mul, iJ_neg, iI_lt, iI_le, iI_eq, iJ_lt, iJ_le, iJ_eq, iI_div, iJ_div, tdiv_tmod, iI_J, iJ_I, iI_ix, iI_toInt, iJ_toInt, cmp_ge, cmp_lt, cmp_eq, cmp_gt, cmp_le, cmp_geI, cmp_ltI, cmp_eqI, cmp_gtI, cmp_leI, bI_0I, bI_1I, pin, if_true, s_absJ2 (a := 2 * y + 1 - 2 * k * h) (by omega)]
  rfl
theorem s_inRows (hp : sh p = (104, 18)) (hg : cGrd T (p + 2) w h s) (ho : okG w h s) {kd y k : Int} (hkd : T.1 p 3 = iI kd) (hkb : 0 ≤ kd ∧ kd ≤ 2) (hy : 0 ≤ y ∧ y < h) (hk : -145 ≤ k ∧ k ≤ 145) : cl k_Ink_inRows [.ref p, .int (iI y), .int (iI k)] (enc T) = some (some (.int (iI (meas kd 0 (rise h y k)))), enc T) := by
  simp (disch := first | omega | assumption | decide | (simp (disch := omega) only [iI_lit, iJ_lit, iJ_eq, iI_eq, bI_01, bI_01I] <;> omega)) only [c_Ink_inRows, e_Ink_inRows_0, e_Ink_inRows_1, e_Ink_inRows_2, e_Ink_inRows_3, e_Ink_inRows_4, e_Ink_inRows_5, e_Ink_inRows_8, e_Ink_inRows_11, bd_some, bd_none, Option.toList_some, Option.toList_none, List.nil_append, List.cons_append, px_kill_int, px_kill_long, px_kill_ref, px_kill_null, iI_lit, s_riseTo hp hg ho hy hk, s_measure T hp hkd hkb]
theorem s_spotInRow (hp : sh p = (104, 18)) (hg : cGrd T (p + 2) w h s) (ho : okG w h s) {kd x y k : Int} (hkd : T.1 p 3 = iI kd) (hkb : 0 ≤ kd ∧ kd ≤ 2) (hx : 0 ≤ x ∧ x < w) (hy : 0 ≤ y ∧ y < h) (hk : -145 ≤ k ∧ k ≤ 145) : cl k_Ink_spotInRow [.ref p, .int (iI x), .int (iI y), .int (iI k)] (enc T) = some (some (.int (iI (spK kd w h s x y k))), enc T) := by
  obtain ⟨g1, g2, g3⟩ := id hg
  have h2 := ink_s2 hp
  obtain ⟨o1, o2, o3, o4⟩ := id ho
  have m1 := mul_bd (a := k) (b := s) (M := 145) (N := 144) hk (by omega)
  have m2 : 2 * k * s = 2 * (k * s) := by grind
  have e1 := Int.emod_nonneg (2 * x + 1 - 2 * k * s) (show 2 * w ≠ 0 by omega)
  have e2 := Int.emod_lt_of_pos (2 * x + 1 - 2 * k * s) (show 0 < 2 * w by omega)
  simp (disch := first | omega | assumption | decide | (simp (disch := omega) only [iI_lit, iJ_lit, iJ_eq, iI_eq, bI_01, bI_01I] <;> omega)) only [c_Ink_spotInRow, e_Ink_spotInRow_0, e_Ink_spotInRow_3, e_Ink_spotInRow_4, e_Ink_spotInRow_7, e_Ink_spotInRow_10, e_Ink_spotInRow_11, e_Ink_spotInRow_12, e_Ink_spotInRow_14, e_Ink_spotInRow_15, e_Ink_spotInRow_16, e_Ink_spotInRow_17, e_Ink_spotInRow_18, e_Ink_spotInRow_19, e_Ink_spotInRow_20, e_Ink_spotInRow_21, e_Ink_spotInRow_22, e_Ink_spotInRow_23, e_Ink_spotInRow_24, e_Ink_spotInRow_25, e_Ink_spotInRow_28, e_Ink_spotInRow_31, e_Ink_spotInRow_32, e_Ink_spotInRow_33, e_Ink_spotInRow_35, e_Ink_spotInRow_36, e_Ink_spotInRow_39, e_Ink_spotInRow_40, e_Ink_spotInRow_42, e_Ink_spotInRow_43, e_Ink_spotInRow_45, e_Ink_spotInRow_47, e_Ink_spotInRow_49, e_Ink_spotInRow_50, e_Ink_spotInRow_53, e_Ink_spotInRow_54, e_Ink_spotInRow_55, e_Ink_spotInRow_56, e_Ink_spotInRow_59, e_Ink_spotInRow_62, bd_some, bd_none, Option.toList_some, Option.toList_none, List.nil_append, List.cons_append, px_kill_int, px_kill_long, px_kill_ref, px_kill_null, g1, g3, iI_lit, iJ_lit, iI_add, iI_sub, iI_mul, iI_neg, iJ_add, iJ_sub, iJ_mul, iJ_neg, iI_lt, iI_le, iI_eq, iJ_lt, iJ_le, iJ_eq, iI_div, iJ_div, tdiv_tmod, iI_J, iJ_I, iI_ix, iI_toInt, iJ_toInt, cmp_ge, cmp_lt, cmp_eq, cmp_gt, cmp_le, cmp_geI, cmp_ltI, cmp_eqI, cmp_gtI, cmp_leI, bI_0I, bI_1I, pin, if_true, s_mod (a := 2 * x + 1 - 2 * k * s) (b := 2 * w) (by omega) (by omega), s_minI, s_riseTo hp hg ho hy hk]
  have hn : (if 2 * w - (2 * x + 1 - 2 * k * s) % (2 * w) < (2 * x + 1 - 2 * k * s) % (2 * w) then iI (2 * w - (2 * x + 1 - 2 * k * s) % (2 * w)) else iI ((2 * x + 1 - 2 * k * s) % (2 * w))) = iI (nearD ((2 * x + 1 - 2 * k * s) % (2 * w)) (2 * w)) := by
    unfold nearD
    split <;> rfl
  rw [hn, s_measure T hp hkd hkb]
  simp only [e_Ink_spotInRow_62, bd_some, bd_none, Option.toList_some, Option.toList_none, List.nil_append, List.cons_append, px_kill_int, px_kill_long, px_kill_ref, px_kill_null]
  rfl
end
theorem meas_bd {kd u v : Int} (hu : 0 ≤ u ∧ u ≤ 144) (hv : 0 ≤ v ∧ v ≤ 42100) : 0 ≤ meas kd u v ∧ meas kd u v ≤ 1800000000 := by
  unfold meas
  have h1 := sq_bd hu
  have h2 := sq_bd hv
  split <;> omega
theorem spK_bd {kd w h s x y k : Int} (ho : okG w h s) (hy : 0 ≤ y ∧ y < h) (hk : -145 ≤ k ∧ k ≤ 145) : 0 ≤ spK kd w h s x y k ∧ spK kd w h s x y k ≤ 1800000000 := by
  have hb := near_bd (z := 2 * x + 1 - 2 * k * s) ho.1.1 0
  have hr := rise_bd ho.2.1 hy hk
  exact meas_bd ⟨hb.1, by have := ho.1; omega⟩ ⟨hr.1, hr.2.1⟩
theorem rise_up {h y r k : Int} (hh : 0 < h) (hy : 0 ≤ y ∧ y < h) (hr : 1 ≤ r) (hk : r ≤ k) : rise h y r ≤ rise h y k := by
  unfold rise
  have h1 : 1 * h ≤ r * h := Int.mul_le_mul_of_nonneg_right hr (by omega)
  have h2 : r * h ≤ k * h := Int.mul_le_mul_of_nonneg_right hk (by omega)
  have h3 : 2 * r * h = 2 * (r * h) := by grind
  have h4 : 2 * k * h = 2 * (k * h) := by grind
  omega
theorem rise_dn {h y r k : Int} (hh : 0 < h) (hy : 0 ≤ y ∧ y < h) (hr : r ≤ -1) (hk : k ≤ r) : rise h y r ≤ rise h y k := by
  unfold rise
  have h1 : r * h ≤ -1 * h := Int.mul_le_mul_of_nonneg_right hr (by omega)
  have h2 : k * h ≤ r * h := Int.mul_le_mul_of_nonneg_right hk (by omega)
  have h3 : 2 * r * h = 2 * (r * h) := by grind
  have h4 : 2 * k * h = 2 * (k * h) := by grind
  omega
/-- row 144 is farther than the first row's spot -/
theorem far144 {kd w h s x y k : Int} (ho : okG w h s) (hy : 0 ≤ y ∧ y < h) (hk : k ≤ -144 ∨ 144 ≤ k) : spK kd w h s x y 0 ≤ spK kd w h s x y k := by
  have hb := near_bd (z := 2 * x + 1 - 2 * 0 * s) ho.1.1 0
  have hb2 := near_bd (z := 2 * x + 1 - 2 * k * s) ho.1.1 0
  have hr : 286 * h ≤ rise h y k := by
    unfold rise
    have h4 : 2 * k * h = 2 * (k * h) := by grind
    rcases hk with hk | hk
    · have h2 : k * h ≤ -144 * h := Int.mul_le_mul_of_nonneg_right hk (by have := ho.2.1; omega)
      omega
    · have h2 : 144 * h ≤ k * h := Int.mul_le_mul_of_nonneg_right hk (by have := ho.2.1; omega)
      omega
  have h0 : rise h y 0 ≤ 2 * h := by unfold rise; omega
  have a1 : spK kd w h s x y 0 ≤ meas kd 144 (2 * h) := meas_mono ⟨hb.1, by have := ho.1; omega⟩ ⟨by unfold rise; omega, h0⟩
  have a2 : meas kd 0 (286 * h) ≤ spK kd w h s x y k := meas_mono ⟨by omega, hb2.1⟩ ⟨by have := ho.2.1; omega, hr⟩
  have a3 : meas kd 144 (2 * h) ≤ meas kd 0 (286 * h) := by
    have := ho.2.1
    unfold meas
    split
    · omega
    · have h5 : 1 * 1 ≤ h * h := Int.mul_le_mul (by omega) (by omega) (by omega) (by omega)
      have h6 : 2 * h * (2 * h) = 4 * (h * h) := by grind
      have h7 : 286 * h * (286 * h) = 81796 * (h * h) := by grind
      omega
  omega
set_option maxHeartbeats 1000000 in
theorem lp_spotUp {T : TS} {p : Nat} {w h s : Int} (hp : sh p = (104, 18)) (hg : cGrd T (p + 2) w h s) (ho : okG w h s) {kd x y : Int} (hkd : T.1 p 3 = iI kd) (hkb : 0 ≤ kd ∧ kd ≤ 2) (hx : 0 ≤ x ∧ x < w) (hy : 0 ≤ y ∧ y < h) : ∀ (n : Nat) (r B : Int), r + n = 145 → 1 ≤ r → (∃ k, B = spK kd w h s x y k) → (0 ≤ B ∧ B ≤ 1800000000) → (∀ k, 0 ≤ k → k < r → B ≤ spK kd w h s x y k) →
    ∃ B' r', rn k_Ink_spotOf 72 [.ref p, .int (iI x), .int (iI y), .int (iI B), .int (iI r)] [] (enc T) = rn k_Ink_spotOf 110 [.ref p, .int (iI x), .int (iI y), .int (iI B'), .int (iI r')] [] (enc T) ∧ (∃ k, B' = spK kd w h s x y k) ∧ (0 ≤ B' ∧ B' ≤ 1800000000) ∧ ∀ k, 0 ≤ k → B' ≤ spK kd w h s x y k := by
  intro n
  induction n with
  | zero =>
    intro r B hr h1 hex hb hall
    have hr145 : r = 145 := by omega
    subst hr145
    refine ⟨B, 145, ?_, hex, hb, fun k hk => ?_⟩
    · rw [e_Ink_spotOf_72]
      have hc : (144 : Int) < 145 := by omega
      simp (disch := first | omega | assumption | decide | (simp (disch := omega) only [iI_lit, iJ_lit, iJ_eq, iI_eq, bI_01, bI_01I] <;> omega)) only [e_Ink_spotOf_74, e_Ink_spotOf_77, bd_some, bd_none, Option.toList_some, Option.toList_none, List.nil_append, List.cons_append, px_kill_int, px_kill_long, px_kill_ref, px_kill_null, iI_lit, iJ_lit, iI_add, iI_sub, iI_mul, iI_neg, iJ_add, iJ_sub, iJ_mul, iJ_neg, iI_lt, iI_le, iI_eq, iJ_lt, iJ_le, iJ_eq, iI_div, iJ_div, tdiv_tmod, iI_J, iJ_I, iI_ix, iI_toInt, iJ_toInt, cmp_ge, cmp_lt, cmp_eq, cmp_gt, cmp_le, cmp_geI, cmp_ltI, cmp_eqI, cmp_gtI, cmp_leI, bI_0I, bI_1I, pin, if_true, hc]
    · rcases ilt k 145 with q | q
      · exact hall k hk q
      · exact Int.le_trans (hall 0 (by omega) (by omega)) (far144 ho hy (Or.inr (by omega)))
  | succ n ih =>
    intro r B hr h1 hex hb hall
    have hr144 : ¬ (144 : Int) < r := by omega
    have hbr := rise_bd ho.2.1 hy (show -145 ≤ r ∧ r ≤ 145 by omega)
    have hmb := meas_bd (kd := kd) (u := 0) (v := rise h y r) (by omega) ⟨hbr.1, hbr.2.1⟩
    have hsb := spK_bd (kd := kd) (x := x) ho hy (show -145 ≤ r ∧ r ≤ 145 by omega)
    by_cases hc : B ≤ meas kd 0 (rise h y r)
    · refine ⟨B, r, ?_, hex, hb, fun k hk => ?_⟩
      · rw [e_Ink_spotOf_72]
        simp (disch := first | omega | assumption | decide | (simp (disch := omega) only [iI_lit, iJ_lit, iJ_eq, iI_eq, bI_01, bI_01I] <;> omega)) only [e_Ink_spotOf_74, e_Ink_spotOf_77, e_Ink_spotOf_80, e_Ink_spotOf_81, e_Ink_spotOf_82, e_Ink_spotOf_84, e_Ink_spotOf_87, e_Ink_spotOf_88, e_Ink_spotOf_91, e_Ink_spotOf_92, e_Ink_spotOf_93, e_Ink_spotOf_94, e_Ink_spotOf_95, e_Ink_spotOf_97, e_Ink_spotOf_100, e_Ink_spotOf_103, e_Ink_spotOf_104, e_Ink_spotOf_107, bd_some, bd_none, Option.toList_some, Option.toList_none, List.nil_append, List.cons_append, px_kill_int, px_kill_long, px_kill_ref, px_kill_null, iI_lit, iJ_lit, iI_add, iI_sub, iI_mul, iI_neg, iJ_add, iJ_sub, iJ_mul, iJ_neg, iI_lt, iI_le, iI_eq, iJ_lt, iJ_le, iJ_eq, iI_div, iJ_div, tdiv_tmod, iI_J, iJ_I, iI_ix, iI_toInt, iJ_toInt, cmp_ge, cmp_lt, cmp_eq, cmp_gt, cmp_le, cmp_geI, cmp_ltI, cmp_eqI, cmp_gtI, cmp_leI, bI_0I, bI_1I, pin, if_true, hr144, if_false, s_inRows hp hg ho hkd hkb hy (show -145 ≤ r ∧ r ≤ 145 by omega), hc]
      · rcases ilt k r with q | q
        · exact hall k hk q
        · have hb2 := near_bd (z := 2 * x + 1 - 2 * k * s) ho.1.1 0
          have := rise_up ho.2.1.1 hy h1 q
          exact Int.le_trans hc (meas_mono ⟨by omega, hb2.1⟩ ⟨hbr.1, this⟩)
    · have step : rn k_Ink_spotOf 72 [.ref p, .int (iI x), .int (iI y), .int (iI B), .int (iI r)] [] (enc T) = rn k_Ink_spotOf 72 [.ref p, .int (iI x), .int (iI y), .int (iI (if spK kd w h s x y r < B then spK kd w h s x y r else B)), .int (iI (r + 1))] [] (enc T) := by
        rw [e_Ink_spotOf_72]
        simp (disch := first | omega | assumption | decide | (simp (disch := omega) only [iI_lit, iJ_lit, iJ_eq, iI_eq, bI_01, bI_01I] <;> omega)) only [e_Ink_spotOf_74, e_Ink_spotOf_77, e_Ink_spotOf_80, e_Ink_spotOf_81, e_Ink_spotOf_82, e_Ink_spotOf_84, e_Ink_spotOf_87, e_Ink_spotOf_88, e_Ink_spotOf_91, e_Ink_spotOf_92, e_Ink_spotOf_93, e_Ink_spotOf_94, e_Ink_spotOf_95, e_Ink_spotOf_97, e_Ink_spotOf_100, e_Ink_spotOf_103, e_Ink_spotOf_104, e_Ink_spotOf_107, bd_some, bd_none, Option.toList_some, Option.toList_none, List.nil_append, List.cons_append, px_kill_int, px_kill_long, px_kill_ref, px_kill_null, iI_lit, iJ_lit, iI_add, iI_sub, iI_mul, iI_neg, iJ_add, iJ_sub, iJ_mul, iJ_neg, iI_lt, iI_le, iI_eq, iJ_lt, iJ_le, iJ_eq, iI_div, iJ_div, tdiv_tmod, iI_J, iJ_I, iI_ix, iI_toInt, iJ_toInt, cmp_ge, cmp_lt, cmp_eq, cmp_gt, cmp_le, cmp_geI, cmp_ltI, cmp_eqI, cmp_gtI, cmp_leI, bI_0I, bI_1I, pin, if_true, hr144, if_false, s_inRows hp hg ho hkd hkb hy (show -145 ≤ r ∧ r ≤ 145 by omega), hc, s_spotInRow hp hg ho hkd hkb hx hy (show -145 ≤ r ∧ r ≤ 145 by omega), s_minI]
        split <;> rfl
      rw [step]
      refine ih (r + 1) _ (by omega) (by omega) ?_ ?_ ?_
      · split
        · exact ⟨r, rfl⟩
        · exact hex
      · split <;> omega
      · intro k hk hkr
        rcases ilt k r with q | q
        · have := hall k hk q
          split <;> omega
        · rw [show k = r by omega]
          split <;> omega
set_option maxHeartbeats 1000000 in
theorem lp_spotDn {T : TS} {p : Nat} {w h s : Int} (hp : sh p = (104, 18)) (hg : cGrd T (p + 2) w h s) (ho : okG w h s) {kd x y : Int} (hkd : T.1 p 3 = iI kd) (hkb : 0 ≤ kd ∧ kd ≤ 2) (hx : 0 ≤ x ∧ x < w) (hy : 0 ≤ y ∧ y < h) : ∀ (n : Nat) (r B : Int), -r + n = 145 → r ≤ -1 → (∃ k, B = spK kd w h s x y k) → (0 ≤ B ∧ B ≤ 1800000000) → (∀ k, r < k → B ≤ spK kd w h s x y k) →
    ∃ B', rn k_Ink_spotOf 113 [.ref p, .int (iI x), .int (iI y), .int (iI B), .int (iI r)] [] (enc T) = some (some (.int (iI B')), enc T) ∧ (∃ k, B' = spK kd w h s x y k) ∧ ∀ k, B' ≤ spK kd w h s x y k := by
  intro n
  induction n with
  | zero =>
    intro r B hr h1 hex hb hall
    have hr145 : r = -145 := by omega
    subst hr145
    refine ⟨B, ?_, hex, fun k => ?_⟩
    · rw [e_Ink_spotOf_113]
      have hc : (-145 : Int) < -144 := by omega
      simp (disch := first | omega | assumption | decide | (simp (disch := omega) only [iI_lit, iJ_lit, iJ_eq, iI_eq, bI_01, bI_01I] <;> omega)) only [e_Ink_spotOf_115, e_Ink_spotOf_118, e_Ink_spotOf_121, e_Ink_spotOf_122, e_Ink_spotOf_123, e_Ink_spotOf_125, e_Ink_spotOf_128, e_Ink_spotOf_129, e_Ink_spotOf_132, e_Ink_spotOf_133, e_Ink_spotOf_134, e_Ink_spotOf_135, e_Ink_spotOf_136, e_Ink_spotOf_138, e_Ink_spotOf_141, e_Ink_spotOf_144, e_Ink_spotOf_145, e_Ink_spotOf_148, e_Ink_spotOf_151, e_Ink_spotOf_152, bd_some, bd_none, Option.toList_some, Option.toList_none, List.nil_append, List.cons_append, px_kill_int, px_kill_long, px_kill_ref, px_kill_null, iI_lit, iJ_lit, iI_add, iI_sub, iI_mul, iI_neg, iJ_add, iJ_sub, iJ_mul, iJ_neg, iI_lt, iI_le, iI_eq, iJ_lt, iJ_le, iJ_eq, iI_div, iJ_div, tdiv_tmod, iI_J, iJ_I, iI_ix, iI_toInt, iJ_toInt, cmp_ge, cmp_lt, cmp_eq, cmp_gt, cmp_le, cmp_geI, cmp_ltI, cmp_eqI, cmp_gtI, cmp_leI, bI_0I, bI_1I, pin, if_true, hc]
    · rcases ilt (-145) k with q | q
      · exact hall k q
      · exact Int.le_trans (hall 0 (by omega)) (far144 ho hy (Or.inl (by omega)))
  | succ n ih =>
    intro r B hr h1 hex hb hall
    have hr144 : ¬ r < (-144 : Int) := by omega
    have hbr := rise_bd ho.2.1 hy (show -145 ≤ r ∧ r ≤ 145 by omega)
    have hmb := meas_bd (kd := kd) (u := 0) (v := rise h y r) (by omega) ⟨hbr.1, hbr.2.1⟩
    have hsb := spK_bd (kd := kd) (x := x) ho hy (show -145 ≤ r ∧ r ≤ 145 by omega)
    by_cases hc : B ≤ meas kd 0 (rise h y r)
    · refine ⟨B, ?_, hex, fun k => ?_⟩
      · rw [e_Ink_spotOf_113]
        simp (disch := first | omega | assumption | decide | (simp (disch := omega) only [iI_lit, iJ_lit, iJ_eq, iI_eq, bI_01, bI_01I] <;> omega)) only [e_Ink_spotOf_115, e_Ink_spotOf_118, e_Ink_spotOf_121, e_Ink_spotOf_122, e_Ink_spotOf_123, e_Ink_spotOf_125, e_Ink_spotOf_128, e_Ink_spotOf_129, e_Ink_spotOf_132, e_Ink_spotOf_133, e_Ink_spotOf_134, e_Ink_spotOf_135, e_Ink_spotOf_136, e_Ink_spotOf_138, e_Ink_spotOf_141, e_Ink_spotOf_144, e_Ink_spotOf_145, e_Ink_spotOf_148, e_Ink_spotOf_151, e_Ink_spotOf_152, bd_some, bd_none, Option.toList_some, Option.toList_none, List.nil_append, List.cons_append, px_kill_int, px_kill_long, px_kill_ref, px_kill_null, iI_lit, iJ_lit, iI_add, iI_sub, iI_mul, iI_neg, iJ_add, iJ_sub, iJ_mul, iJ_neg, iI_lt, iI_le, iI_eq, iJ_lt, iJ_le, iJ_eq, iI_div, iJ_div, tdiv_tmod, iI_J, iJ_I, iI_ix, iI_toInt, iJ_toInt, cmp_ge, cmp_lt, cmp_eq, cmp_gt, cmp_le, cmp_geI, cmp_ltI, cmp_eqI, cmp_gtI, cmp_leI, bI_0I, bI_1I, pin, if_true, hr144, if_false, s_inRows hp hg ho hkd hkb hy (show -145 ≤ r ∧ r ≤ 145 by omega), hc]
      · rcases ilt r k with q | q
        · exact hall k q
        · have hb2 := near_bd (z := 2 * x + 1 - 2 * k * s) ho.1.1 0
          have := rise_dn ho.2.1.1 hy h1 q
          exact Int.le_trans hc (meas_mono ⟨by omega, hb2.1⟩ ⟨hbr.1, this⟩)
    · have step : rn k_Ink_spotOf 113 [.ref p, .int (iI x), .int (iI y), .int (iI B), .int (iI r)] [] (enc T) = rn k_Ink_spotOf 113 [.ref p, .int (iI x), .int (iI y), .int (iI (if spK kd w h s x y r < B then spK kd w h s x y r else B)), .int (iI (r + -1))] [] (enc T) := by
        rw [e_Ink_spotOf_113]
        simp (disch := first | omega | assumption | decide | (simp (disch := omega) only [iI_lit, iJ_lit, iJ_eq, iI_eq, bI_01, bI_01I] <;> omega)) only [e_Ink_spotOf_115, e_Ink_spotOf_118, e_Ink_spotOf_121, e_Ink_spotOf_122, e_Ink_spotOf_123, e_Ink_spotOf_125, e_Ink_spotOf_128, e_Ink_spotOf_129, e_Ink_spotOf_132, e_Ink_spotOf_133, e_Ink_spotOf_134, e_Ink_spotOf_135, e_Ink_spotOf_136, e_Ink_spotOf_138, e_Ink_spotOf_141, e_Ink_spotOf_144, e_Ink_spotOf_145, e_Ink_spotOf_148, e_Ink_spotOf_151, e_Ink_spotOf_152, bd_some, bd_none, Option.toList_some, Option.toList_none, List.nil_append, List.cons_append, px_kill_int, px_kill_long, px_kill_ref, px_kill_null, iI_lit, iJ_lit, iI_add, iI_sub, iI_mul, iI_neg, iJ_add, iJ_sub, iJ_mul, iJ_neg, iI_lt, iI_le, iI_eq, iJ_lt, iJ_le, iJ_eq, iI_div, iJ_div, tdiv_tmod, iI_J, iJ_I, iI_ix, iI_toInt, iJ_toInt, cmp_ge, cmp_lt, cmp_eq, cmp_gt, cmp_le, cmp_geI, cmp_ltI, cmp_eqI, cmp_gtI, cmp_leI, bI_0I, bI_1I, pin, if_true, hr144, if_false, s_inRows hp hg ho hkd hkb hy (show -145 ≤ r ∧ r ≤ 145 by omega), hc, s_spotInRow hp hg ho hkd hkb hx hy (show -145 ≤ r ∧ r ≤ 145 by omega), s_minI]
        split <;> rfl
      rw [step]
      refine ih (r + -1) _ (by omega) (by omega) ?_ ?_ ?_
      · split
        · exact ⟨r, rfl⟩
        · exact hex
      · split <;> omega
      · intro k hkr
        rcases ilt r k with q | q
        · have := hall k q
          split <;> omega
        · rw [show k = r by omega]
          split <;> omega
theorem min_two {f : Int → Int} {u v : Int} (hu : (∃ k, u = f k) ∧ ∀ k, u ≤ f k) (hv : (∃ k, v = f k) ∧ ∀ k, v ≤ f k) : u = v := by
  obtain ⟨⟨k1, e1⟩, h1⟩ := hu
  obtain ⟨⟨k2, e2⟩, h2⟩ := hv
  have := h1 k2
  have := h2 k1
  omega
/-- a spot: of a line by the pixel itself, else the least over the rows -/
def spt (kd a b cl w h s x y : Int) : Int := if kd = 2 then nearD (((2 * x + 1) * b - (2 * y + 1) * a) % (2 * cl)) (2 * cl) else spM kd w h s x y
theorem s_spotOf {T : TS} {p : Nat} (hp : sh p = (104, 18)) {a b c d : Int} (ho : okS a b c d) (hg : cGrd T (p + 2) (bkW (brk a b c d)) (bkH (brk a b c d)) (bkS (brk a b c d))) (hs : cScr T (p + 1) a b c d) (hc : T.1 p 2 = iI (cel a b c d)) {kd x y : Int} (hkd : T.1 p 3 = iI kd) (hkb : 0 ≤ kd ∧ kd ≤ 2) (hx : 0 ≤ x ∧ x < bkW (brk a b c d)) (hy : 0 ≤ y ∧ y < bkH (brk a b c d)) :
    cl k_Ink_spotOf [.ref p, .int (iI x), .int (iI y)] (enc T) = some (some (.int (iI (spt kd a b (cel a b c d) (bkW (brk a b c d)) (bkH (brk a b c d)) (bkS (brk a b c d)) x y))), enc T) := by
  have hG := okG_brk ho
  by_cases h2 : kd = 2
  · subst h2
    have q1 := ink_s1 hp
    obtain ⟨s1, s2, s3, s4⟩ := hs
    obtain ⟨o1, o2, o3, o4, o5, o6⟩ := id ho
    have hcb : 0 < cel a b c d ∧ cel a b c d ≤ 144 := by unfold cel; omega
    have hxx : 0 ≤ x ∧ x ≤ 144 := by have := hG.1; omega
    have hyy : 0 ≤ y ∧ y ≤ 144 := by have := hG.2.1; omega
    have m1 := mul_bd (a := 2 * x + 1) (b := b) (M := 289) (N := 12) (by omega) o2
    have m2 := mul_bd (a := 2 * y + 1) (b := a) (M := 289) (N := 12) (by omega) o1
    have e1 := Int.emod_nonneg ((2 * x + 1) * b - (2 * y + 1) * a) (show 2 * cel a b c d ≠ 0 by omega)
    have e2 := Int.emod_lt_of_pos ((2 * x + 1) * b - (2 * y + 1) * a) (show 0 < 2 * cel a b c d by omega)
    simp (disch := first | omega | assumption | decide | (simp (disch := omega) only [iI_lit, iJ_lit, iJ_eq, iI_eq, bI_01, bI_01I] <;> omega)) only [c_Ink_spotOf, e_Ink_spotOf_0, e_Ink_spotOf_1, e_Ink_spotOf_4, e_Ink_spotOf_5, e_Ink_spotOf_8, e_Ink_spotOf_9, e_Ink_spotOf_10, e_Ink_spotOf_11, e_Ink_spotOf_12, e_Ink_spotOf_13, e_Ink_spotOf_14, e_Ink_spotOf_17, e_Ink_spotOf_20, e_Ink_spotOf_21, e_Ink_spotOf_22, e_Ink_spotOf_23, e_Ink_spotOf_24, e_Ink_spotOf_25, e_Ink_spotOf_26, e_Ink_spotOf_27, e_Ink_spotOf_30, e_Ink_spotOf_33, e_Ink_spotOf_34, e_Ink_spotOf_35, e_Ink_spotOf_36, e_Ink_spotOf_37, e_Ink_spotOf_38, e_Ink_spotOf_41, e_Ink_spotOf_42, e_Ink_spotOf_43, e_Ink_spotOf_46, e_Ink_spotOf_47, e_Ink_spotOf_48, e_Ink_spotOf_49, e_Ink_spotOf_50, e_Ink_spotOf_51, e_Ink_spotOf_54, e_Ink_spotOf_55, e_Ink_spotOf_56, e_Ink_spotOf_57, e_Ink_spotOf_60, e_Ink_spotOf_61, e_Ink_spotOf_62, e_Ink_spotOf_63, e_Ink_spotOf_64, e_Ink_spotOf_65, e_Ink_spotOf_68, e_Ink_spotOf_69, e_Ink_spotOf_70, e_Ink_spotOf_72, e_Ink_spotOf_74, e_Ink_spotOf_77, e_Ink_spotOf_80, e_Ink_spotOf_81, e_Ink_spotOf_82, e_Ink_spotOf_84, e_Ink_spotOf_87, e_Ink_spotOf_88, e_Ink_spotOf_91, e_Ink_spotOf_92, e_Ink_spotOf_93, e_Ink_spotOf_94, e_Ink_spotOf_95, e_Ink_spotOf_97, e_Ink_spotOf_100, e_Ink_spotOf_103, e_Ink_spotOf_104, e_Ink_spotOf_107, e_Ink_spotOf_110, e_Ink_spotOf_111, e_Ink_spotOf_113, e_Ink_spotOf_115, e_Ink_spotOf_118, e_Ink_spotOf_121, e_Ink_spotOf_122, e_Ink_spotOf_123, e_Ink_spotOf_125, e_Ink_spotOf_128, e_Ink_spotOf_129, e_Ink_spotOf_132, e_Ink_spotOf_133, e_Ink_spotOf_134, e_Ink_spotOf_135, e_Ink_spotOf_136, e_Ink_spotOf_138, e_Ink_spotOf_141, e_Ink_spotOf_144, e_Ink_spotOf_145, e_Ink_spotOf_148, e_Ink_spotOf_151, e_Ink_spotOf_152, bd_some, bd_none, Option.toList_some, Option.toList_none, List.nil_append, List.cons_append, px_kill_int, px_kill_long, px_kill_ref, px_kill_null, hkd, s1, s2, hc, iI_lit, iJ_lit, iI_add, iI_sub, iI_mul, iI_neg, iJ_add, iJ_sub, iJ_mul, iJ_neg, iI_lt, iI_le, iI_eq, iJ_lt, iJ_le, iJ_eq, iI_div, iJ_div, tdiv_tmod, iI_J, iJ_I, iI_ix, iI_toInt, iJ_toInt, cmp_ge, cmp_lt, cmp_eq, cmp_gt, cmp_le, cmp_geI, cmp_ltI, cmp_eqI, cmp_gtI, cmp_leI, bI_0I, bI_1I, pin, if_true, s_mod (a := (2 * x + 1) * b - (2 * y + 1) * a) (b := 2 * cel a b c d) (by omega) (by omega), s_minI]
    unfold spt nearD
    rw [if_pos rfl]
    split <;> rfl
  · have hsb := spK_bd (kd := kd) (x := x) hG hy (show -145 ≤ (0 : Int) ∧ (0 : Int) ≤ 145 by omega)
    simp (disch := first | omega | assumption | decide | (simp (disch := omega) only [iI_lit, iJ_lit, iJ_eq, iI_eq, bI_01, bI_01I] <;> omega)) only [c_Ink_spotOf, e_Ink_spotOf_0, e_Ink_spotOf_1, e_Ink_spotOf_4, e_Ink_spotOf_5, e_Ink_spotOf_8, e_Ink_spotOf_9, e_Ink_spotOf_10, e_Ink_spotOf_11, e_Ink_spotOf_12, e_Ink_spotOf_13, e_Ink_spotOf_14, e_Ink_spotOf_17, e_Ink_spotOf_20, e_Ink_spotOf_21, e_Ink_spotOf_22, e_Ink_spotOf_23, e_Ink_spotOf_24, e_Ink_spotOf_25, e_Ink_spotOf_26, e_Ink_spotOf_27, e_Ink_spotOf_30, e_Ink_spotOf_33, e_Ink_spotOf_34, e_Ink_spotOf_35, e_Ink_spotOf_36, e_Ink_spotOf_37, e_Ink_spotOf_38, e_Ink_spotOf_41, e_Ink_spotOf_42, e_Ink_spotOf_43, e_Ink_spotOf_46, e_Ink_spotOf_47, e_Ink_spotOf_48, e_Ink_spotOf_49, e_Ink_spotOf_50, e_Ink_spotOf_51, e_Ink_spotOf_54, e_Ink_spotOf_55, e_Ink_spotOf_56, e_Ink_spotOf_57, e_Ink_spotOf_60, e_Ink_spotOf_61, e_Ink_spotOf_62, e_Ink_spotOf_63, e_Ink_spotOf_64, e_Ink_spotOf_65, e_Ink_spotOf_68, e_Ink_spotOf_69, e_Ink_spotOf_70, bd_some, bd_none, Option.toList_some, Option.toList_none, List.nil_append, List.cons_append, px_kill_int, px_kill_long, px_kill_ref, px_kill_null, hkd, iI_lit, iJ_lit, iI_add, iI_sub, iI_mul, iI_neg, iJ_add, iJ_sub, iJ_mul, iJ_neg, iI_lt, iI_le, iI_eq, iJ_lt, iJ_le, iJ_eq, iI_div, iJ_div, tdiv_tmod, iI_J, iJ_I, iI_ix, iI_toInt, iJ_toInt, cmp_ge, cmp_lt, cmp_eq, cmp_gt, cmp_le, cmp_geI, cmp_ltI, cmp_eqI, cmp_gtI, cmp_leI, bI_0I, bI_1I, pin, if_true, h2, if_false, s_spotInRow hp hg hG hkd hkb hx hy (show -145 ≤ (0 : Int) ∧ (0 : Int) ≤ 145 by omega)]
    obtain ⟨B1, r1, e1, x1, b1, l1⟩ := lp_spotUp hp hg hG hkd hkb hx hy 144 1 (spK kd (bkW (brk a b c d)) (bkH (brk a b c d)) (bkS (brk a b c d)) x y 0) (by omega) (by omega) ⟨0, rfl⟩ hsb (fun k hk hk1 => by rw [show k = 0 by omega]; exact Int.le_refl _)
    rw [e1]
    simp (disch := first | omega | assumption | decide | (simp (disch := omega) only [iI_lit, iJ_lit, iJ_eq, iI_eq, bI_01, bI_01I] <;> omega)) only [e_Ink_spotOf_110, e_Ink_spotOf_111, bd_some, bd_none, Option.toList_some, Option.toList_none, List.nil_append, List.cons_append, px_kill_int, px_kill_long, px_kill_ref, px_kill_null, iI_lit, iI_neg]
    obtain ⟨B2, e2, x2, l2⟩ := lp_spotDn hp hg hG hkd hkb hx hy 144 (-1) B1 (by omega) (by omega) x1 b1 (fun k hk => l1 k (by omega))
    rw [e2]
    have := min_two ⟨x2, l2⟩ ⟨spM_ex kd _ _ _ x y, spM_le ho hy⟩
    rw [this, spt, if_neg h2]
