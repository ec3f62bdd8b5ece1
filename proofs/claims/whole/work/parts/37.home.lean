/-! HOMES. -/
def hmX (w h s x y : Int) : Int := (x - y / h * s) % w
def plc (w h s x y : Int) : Int := y % h * w + hmX w h s x y
/-- bounds of a brick -/
def okG (w h s : Int) : Prop := (0 < w ∧ w ≤ 144) ∧ (0 < h ∧ h ≤ 144) ∧ (0 ≤ s ∧ s < w) ∧ w * h ≤ 144
theorem okG_brk {a b c d : Int} (ho : okS a b c d) : okG (bkW (brk a b c d)) (bkH (brk a b c d)) (bkS (brk a b c d)) := by
  obtain ⟨h1, h2, h3, h4, h5, -⟩ := brk_facts ho
  obtain ⟨o1, o2, o3, o4, o5, o6⟩ := ho
  have hc : cel a b c d ≤ 144 := by unfold cel; omega
  generalize bkW (brk a b c d) = w at *
  generalize bkH (brk a b c d) = h at *
  have e1 : w * 1 ≤ w * h := Int.mul_le_mul_of_nonneg_left (by omega) (by omega)
  have e2 : 1 * h ≤ w * h := Int.mul_le_mul_of_nonneg_right (by omega) (by omega)
  exact ⟨⟨h1, by omega⟩, ⟨h2, by omega⟩, ⟨h3, h4⟩, by omega⟩
theorem row_bd {h s y : Int} (hh : 0 < h) (hs : 0 ≤ s ∧ s < 144) (hy : -100000 ≤ y ∧ y ≤ 100000) : (-100000 ≤ y / h ∧ y / h ≤ 100000) ∧ (-14400000 ≤ y / h * s ∧ y / h * s ≤ 14400000) ∧ y / h * h = y - y % h ∧ 0 ≤ y % h ∧ y % h < h := by
  have h1 := ediv_bd (a := y) hh
  have h2 : -100000 ≤ y / h ∧ y / h ≤ 100000 := by omega
  have h3 := mul_bd (a := y / h) (b := s) (M := 100000) (N := 144) h2 (by omega)
  have h4 := Int.emod_add_ediv_mul y h
  have h5 := Int.emod_nonneg y (show h ≠ 0 by omega)
  have h6 := Int.emod_lt_of_pos y hh
  exact ⟨h2, by omega, by omega, h5, h6⟩
theorem hmX_bd {w h s x y : Int} (hw : 0 < w) : 0 ≤ hmX w h s x y ∧ hmX w h s x y < w := ⟨Int.emod_nonneg _ (by omega), Int.emod_lt_of_pos _ hw⟩
theorem plc_bd {w h s x y : Int} (ho : okG w h s) : 0 ≤ plc w h s x y ∧ plc w h s x y < w * h := by
  obtain ⟨h1, h2, h3, h4⟩ := ho
  have hx := hmX_bd (h := h) (s := s) (x := x) (y := y) h1.1
  have h5 := Int.emod_nonneg y (show h ≠ 0 by omega)
  have h6 := Int.emod_lt_of_pos y h2.1
  have h7 : 0 ≤ y % h * w := Int.mul_nonneg h5 (by omega)
  have h8 : y % h * w ≤ (h - 1) * w := Int.mul_le_mul_of_nonneg_right (by omega) (by omega)
  have h9 : (h - 1) * w = w * h - w := by grind
  unfold plc
  omega
/-- the component -/
theorem s_placeFrom (T : TS) {p : Nat} (hp : sh p = (104, 18)) {w h s x y : Int} (hg : cGrd T (p + 2) w h s) (ho : okG w h s) (hx : -100000 ≤ x ∧ x ≤ 100000) (hy : -100000 ≤ y ∧ y ≤ 100000) : cl k_Ink_placeFrom [.ref p, .int (iI x), .int (iI y)] (enc T) = some (some (.int (iI (plc w h s x y))), enc T) := by
  obtain ⟨g1, g2, g3⟩ := hg
  have h2 := ink_s2 hp
  have hb := plc_bd (x := x) (y := y) ho
  obtain ⟨o1, o2, o3, o4⟩ := ho
  obtain ⟨r1, r2, r3, r4, r5⟩ := row_bd (s := s) o2.1 (by omega) hy
  simp (disch := first | omega | assumption | decide | (simp (disch := omega) only [iI_lit, iJ_lit, iJ_eq, iI_eq, bI_01, bI_01I] <;> omega)) only [c_Ink_placeFrom, e_Ink_placeFrom_0, e_Ink_placeFrom_1, e_Ink_placeFrom_2, e_Ink_placeFrom_3, e_Ink_placeFrom_6, e_Ink_placeFrom_9, e_Ink_placeFrom_12, e_Ink_placeFrom_13, e_Ink_placeFrom_14, e_Ink_placeFrom_15, e_Ink_placeFrom_16, e_Ink_placeFrom_17, e_Ink_placeFrom_20, e_Ink_placeFrom_23, e_Ink_placeFrom_24, e_Ink_placeFrom_25, e_Ink_placeFrom_26, e_Ink_placeFrom_29, e_Ink_placeFrom_32, e_Ink_placeFrom_33, e_Ink_placeFrom_34, e_Ink_placeFrom_35, e_Ink_placeFrom_36, e_Ink_placeFrom_37, e_Ink_placeFrom_40, e_Ink_placeFrom_43, e_Ink_placeFrom_44, e_Ink_placeFrom_45, e_Ink_placeFrom_46, e_Ink_placeFrom_49, e_Ink_placeFrom_52, e_Ink_placeFrom_55, e_Ink_placeFrom_56, e_Ink_placeFrom_57, bd_some, bd_none, Option.toList_some, Option.toList_none, List.nil_append, List.cons_append, px_kill_int, px_kill_long, px_kill_ref, px_kill_null, g1, g2, g3, iI_J, s_div (a := y) (b := h) (by omega) (by omega), iJ_mul, iJ_sub, s_mod (a := x - y / h * s) (b := w) (by omega) (by omega), iJ_add, iJ_I]
  rw [r3, show y - (y - y % h) = y % h by omega]
  rfl
theorem s_placeOf (T : TS) {p : Nat} (hp : sh p = (104, 18)) {w h s x y ox oy : Int} (hg : cGrd T (p + 2) w h s) (ho : okG w h s) (hx : -50000 ≤ x ∧ x ≤ 50000) (hy : -50000 ≤ y ∧ y ≤ 50000) (hox : T.1 p 5 = iI ox) (hoy : T.1 p 6 = iI oy) (hob : (-99 ≤ ox ∧ ox ≤ 99) ∧ (-99 ≤ oy ∧ oy ≤ 99)) : cl k_Ink_placeOf [.ref p, .int (iI x), .int (iI y)] (enc T) = some (some (.int (iI (plc w h s (x - ox) (y - oy)))), enc T) := by
  simp (disch := first | omega | assumption | decide | (simp (disch := omega) only [iI_lit, iJ_lit, iJ_eq, iI_eq, bI_01, bI_01I] <;> omega)) only [c_Ink_placeOf, e_Ink_placeOf_0, e_Ink_placeOf_1, e_Ink_placeOf_2, e_Ink_placeOf_3, e_Ink_placeOf_6, e_Ink_placeOf_7, e_Ink_placeOf_8, e_Ink_placeOf_9, e_Ink_placeOf_12, e_Ink_placeOf_13, e_Ink_placeOf_16, bd_some, bd_none, Option.toList_some, Option.toList_none, List.nil_append, List.cons_append, px_kill_int, px_kill_long, px_kill_ref, px_kill_null, hox, hoy, iI_sub, s_placeFrom T hp (x := x - ox) (y := y - oy) hg ho (by omega) (by omega)]
theorem s_axis0 (T : TS) {p : Nat} (hp : sh p = (104, 18)) {w h s n : Int} (hg : cGrd T (p + 2) w h s) (ho : okG w h s) (hn : -1000000 ≤ n ∧ n ≤ 1000000) : cl k_Ink_axisOf [.ref p, .int (iI n), .int (iI 0)] (enc T) = some (some (.int (iI (n % w))), enc T) := by
  obtain ⟨g1, g2, g3⟩ := hg
  have h2 := ink_s2 hp
  obtain ⟨o1, o2, o3, o4⟩ := ho
  simp (disch := first | omega | assumption | decide | (simp (disch := omega) only [iI_lit, iJ_lit, iJ_eq, iI_eq, bI_01, bI_01I] <;> omega)) only [c_Ink_axisOf, e_Ink_axisOf_0, e_Ink_axisOf_1, e_Ink_axisOf_4, e_Ink_axisOf_5, e_Ink_axisOf_6, e_Ink_axisOf_7, e_Ink_axisOf_10, e_Ink_axisOf_13, e_Ink_axisOf_16, e_Ink_axisOf_19, e_Ink_axisOf_20, e_Ink_axisOf_21, e_Ink_axisOf_22, e_Ink_axisOf_25, e_Ink_axisOf_28, e_Ink_axisOf_31, e_Ink_axisOf_32, bd_some, bd_none, Option.toList_some, Option.toList_none, List.nil_append, List.cons_append, px_kill_int, px_kill_long, px_kill_ref, px_kill_null, iI_lit, iJ_lit, iI_add, iI_sub, iI_mul, iI_neg, iJ_add, iJ_sub, iJ_mul, iJ_neg, iI_lt, iI_le, iI_eq, iJ_lt, iJ_le, iJ_eq, iI_div, iJ_div, tdiv_tmod, iI_J, iJ_I, iI_ix, iI_toInt, iJ_toInt, cmp_ge, cmp_lt, cmp_eq, cmp_gt, cmp_le, cmp_geI, cmp_ltI, cmp_eqI, cmp_gtI, cmp_leI, bI_0I, bI_1I, pin, if_true, g1, s_mod (a := n) (b := w) (by omega) (by omega)]
theorem s_axis1 (T : TS) {p : Nat} (hp : sh p = (104, 18)) {w h s n : Int} (hg : cGrd T (p + 2) w h s) (ho : okG w h s) (hn : -1000000 ≤ n ∧ n ≤ 1000000) : cl k_Ink_axisOf [.ref p, .int (iI n), .int (iI 1)] (enc T) = some (some (.int (iI (n / w))), enc T) := by
  obtain ⟨g1, g2, g3⟩ := hg
  have h2 := ink_s2 hp
  obtain ⟨o1, o2, o3, o4⟩ := ho
  have h10 : ¬ (1 : Int) = 0 := by omega
  simp (disch := first | omega | assumption | decide | (simp (disch := omega) only [iI_lit, iJ_lit, iJ_eq, iI_eq, bI_01, bI_01I] <;> omega)) only [c_Ink_axisOf, e_Ink_axisOf_0, e_Ink_axisOf_1, e_Ink_axisOf_4, e_Ink_axisOf_5, e_Ink_axisOf_6, e_Ink_axisOf_7, e_Ink_axisOf_10, e_Ink_axisOf_13, e_Ink_axisOf_16, e_Ink_axisOf_19, e_Ink_axisOf_20, e_Ink_axisOf_21, e_Ink_axisOf_22, e_Ink_axisOf_25, e_Ink_axisOf_28, e_Ink_axisOf_31, e_Ink_axisOf_32, bd_some, bd_none, Option.toList_some, Option.toList_none, List.nil_append, List.cons_append, px_kill_int, px_kill_long, px_kill_ref, px_kill_null, iI_lit, iJ_lit, iI_add, iI_sub, iI_mul, iI_neg, iJ_add, iJ_sub, iJ_mul, iJ_neg, iI_lt, iI_le, iI_eq, iJ_lt, iJ_le, iJ_eq, iI_div, iJ_div, tdiv_tmod, iI_J, iJ_I, iI_ix, iI_toInt, iJ_toInt, cmp_ge, cmp_lt, cmp_eq, cmp_gt, cmp_le, cmp_geI, cmp_ltI, cmp_eqI, cmp_gtI, cmp_leI, bI_0I, bI_1I, pin, if_true, g1, h10, if_false, s_div (a := n) (b := w) (by omega) (by omega)]
theorem s_inklevel (T : TS) {p : Nat} (hp : sh p = (104, 18)) {c t : Int} (hc : T.1 p 2 = iI c) (ht : T.1 p 4 = iI t) (hcb : 0 ≤ c ∧ c ≤ 144) (htb : 0 ≤ t ∧ t ≤ 100) : cl k_Ink_level [.ref p] (enc T) = some (some (.int (iI ((c * t + 50) / 100))), enc T) := by
  have hm : 0 ≤ c * t ∧ c * t ≤ 14400 := by
    have h1 := mul_bd (a := c) (b := t) (M := 144) (N := 100) (by omega) (by omega)
    have h2 : 0 ≤ c * t := Int.mul_nonneg (by omega) (by omega)
    omega
  simp (disch := first | omega | assumption | decide | (simp (disch := omega) only [iI_lit, iJ_lit, iJ_eq, iI_eq, bI_01, bI_01I] <;> omega)) only [c_Ink_level, e_Ink_level_0, e_Ink_level_1, e_Ink_level_4, e_Ink_level_5, e_Ink_level_8, e_Ink_level_9, e_Ink_level_11, e_Ink_level_12, e_Ink_level_14, e_Ink_level_15, bd_some, bd_none, Option.toList_some, Option.toList_none, List.nil_append, List.cons_append, px_kill_int, px_kill_long, px_kill_ref, px_kill_null, hc, ht, iI_lit, iJ_lit, iI_add, iI_sub, iI_mul, iI_neg, iJ_add, iJ_sub, iJ_mul, iJ_neg, iI_lt, iI_le, iI_eq, iJ_lt, iJ_le, iJ_eq, iI_div, iJ_div, tdiv_tmod, iI_J, iJ_I, iI_ix, iI_toInt, iJ_toInt, cmp_ge, cmp_lt, cmp_eq, cmp_gt, cmp_le, cmp_geI, cmp_ltI, cmp_eqI, cmp_gtI, cmp_leI, bI_0I, bI_1I, pin, if_true]
  rw [Int.tdiv_eq_ediv_of_nonneg (by omega)]
/-- the reference: the laid brick is that of the three numbers -/
def mGrd (T : TS) (w h s : Int) : Prop := T.2.1 53 11 = iJ w ∧ T.2.1 53 12 = iJ h ∧ T.2.1 53 13 = iJ s
theorem s_laysHome (T : TS) {w h s x y : Int} (hg : mGrd T w h s) (ho : okG w h s) (hx : -100000 ≤ x ∧ x ≤ 100000) (hy : -100000 ≤ y ∧ y ≤ 100000) : cl k_Dm_laysHome [.ref 53, .int (iI x), .int (iI y)] (enc T) = some (none, enc (sI (sI T 53 19 (iI (y % h))) 53 18 (iI (hmX w h s x y)))) := by
  obtain ⟨g1, g2, g3⟩ := hg
  obtain ⟨o1, o2, o3, o4⟩ := ho
  obtain ⟨r1, r2, r3, r4, r5⟩ := row_bd (s := s) o2.1 (by omega) hy
  have e1 : (y - y % h).tdiv h = y / h := by rw [← r3]; exact Int.mul_tdiv_cancel _ (by omega)
  simp (disch := first | omega | assumption | decide | (simp (disch := omega) only [iI_lit, iJ_lit, iJ_eq, iI_eq, bI_01, bI_01I] <;> omega)) only [c_Dm_laysHome, e_Dm_laysHome_0, e_Dm_laysHome_1, e_Dm_laysHome_2, e_Dm_laysHome_3, e_Dm_laysHome_4, e_Dm_laysHome_5, e_Dm_laysHome_8, e_Dm_laysHome_11, e_Dm_laysHome_12, e_Dm_laysHome_13, e_Dm_laysHome_14, e_Dm_laysHome_15, e_Dm_laysHome_16, e_Dm_laysHome_17, e_Dm_laysHome_18, e_Dm_laysHome_19, e_Dm_laysHome_22, e_Dm_laysHome_23, e_Dm_laysHome_24, e_Dm_laysHome_25, e_Dm_laysHome_26, e_Dm_laysHome_27, e_Dm_laysHome_30, e_Dm_laysHome_31, e_Dm_laysHome_32, e_Dm_laysHome_35, e_Dm_laysHome_36, e_Dm_laysHome_37, e_Dm_laysHome_38, e_Dm_laysHome_41, e_Dm_laysHome_44, e_Dm_laysHome_45, e_Dm_laysHome_48, bd_some, bd_none, Option.toList_some, Option.toList_none, List.nil_append, List.cons_append, px_kill_int, px_kill_long, px_kill_ref, px_kill_null, sI_get, sJ_get, sI_2, sJ_1, sJ_22, sR_1, sR_21, Nat.reduceEqDiff, and_true, true_and, and_false, false_and, and_self, if_true, if_false, reduceIte, g1, g2, g3, iI_J, s_left (a := y) (b := h) (by omega) (by omega), iJ_sub, iJ_I, iJ_div, e1, iJ_mul, s_left (a := x - y / h * s) (b := w) (by omega) (by omega)]
  rw [show y - (y - y % h) = y % h by omega]
  rfl
theorem s_homeAt (T : TS) {w h s x y : Int} (hg : mGrd T w h s) (ho : okG w h s) (hx : 0 ≤ x ∧ x < w) (hy : 0 ≤ y ∧ y < h) : cl k_Dm_homeAt [.ref 53, .int (iI x), .int (iI y)] (enc T) = some (some (.int (iI (y * w + x))), enc T) := by
  obtain ⟨g1, g2, g3⟩ := hg
  obtain ⟨o1, o2, o3, o4⟩ := ho
  simp (disch := first | omega | assumption | decide | (simp (disch := omega) only [iI_lit, iJ_lit, iJ_eq, iI_eq, bI_01, bI_01I] <;> omega)) only [c_Dm_homeAt, e_Dm_homeAt_0, e_Dm_homeAt_1, e_Dm_homeAt_2, e_Dm_homeAt_3, e_Dm_homeAt_6, e_Dm_homeAt_7, e_Dm_homeAt_8, e_Dm_homeAt_9, e_Dm_homeAt_10, bd_some, bd_none, Option.toList_some, Option.toList_none, List.nil_append, List.cons_append, px_kill_int, px_kill_long, px_kill_ref, px_kill_null, g1, iI_J, iJ_mul, iJ_I, iI_add]
