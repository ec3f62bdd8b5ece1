/-! ARITHMETIC METHODS, in whole numbers. -/
theorem xor_neg (x y : Int64) : ((x ^^^ y).toInt < 0) = ((x.toInt < 0) ↔ ¬ (y.toInt < 0)) := by
  have h : (x ^^^ y).toBitVec = x.toBitVec ^^^ y.toBitVec := rfl
  have e : ∀ z : Int64, z.toInt = z.toBitVec.toInt := fun z => rfl
  have h1 := BitVec.msb_xor (x := x.toBitVec) (y := y.toBitVec)
  rw [BitVec.msb_eq_toInt, BitVec.msb_eq_toInt, BitVec.msb_eq_toInt] at h1
  rw [e, e, e, h]
  generalize (x.toBitVec ^^^ y.toBitVec).toInt = z at h1 ⊢
  generalize x.toBitVec.toInt = u at h1 ⊢
  generalize y.toBitVec.toInt = v at h1 ⊢
  by_cases a : u < 0 <;> by_cases b : v < 0 <;> by_cases c : z < 0 <;> simp [a, b, c] at h1 ⊢
theorem s_absI (x : Int32) (g : px_G) : cl k_Math_abs_I [.int x] g = some (some (.int (if 0 ≤ x then x else -x)), g) := by
  simp only [c_Math_abs_I, e_Math_abs_I_0, e_Math_abs_I_1, e_Math_abs_I_4, e_Math_abs_I_5, e_Math_abs_I_6, e_Math_abs_I_9, e_Math_abs_I_10, bd_some, bd_none, Option.toList_some, Option.toList_none, List.nil_append, List.cons_append, px_kill_int, px_kill_long, px_kill_ref, px_kill_null]
  grind
theorem s_absJ (x : Int64) (g : px_G) : cl k_Math_abs_J [.long x] g = some (some (.long (if 0 ≤ x then x else -x)), g) := by
  simp only [c_Math_abs_J, e_Math_abs_J_0, e_Math_abs_J_1, e_Math_abs_J_2, e_Math_abs_J_3, e_Math_abs_J_6, e_Math_abs_J_7, e_Math_abs_J_8, e_Math_abs_J_11, e_Math_abs_J_12, bd_some, bd_none, Option.toList_some, Option.toList_none, List.nil_append, List.cons_append, px_kill_int, px_kill_long, px_kill_ref, px_kill_null, cmp_ge]
  grind
theorem s_minI (x y : Int32) (g : px_G) : cl k_Math_min_II [.int x, .int y] g = some (some (.int (if y < x then y else x)), g) := by
  simp only [c_Math_min_II, e_Math_min_II_0, e_Math_min_II_1, e_Math_min_II_2, e_Math_min_II_5, e_Math_min_II_6, e_Math_min_II_9, e_Math_min_II_10, bd_some, bd_none, Option.toList_some, Option.toList_none, List.nil_append, List.cons_append, px_kill_int, px_kill_long, px_kill_ref, px_kill_null]
  grind
theorem s_maxI (x y : Int32) (g : px_G) : cl k_Math_max_II [.int x, .int y] g = some (some (.int (if x < y then y else x)), g) := by
  simp only [c_Math_max_II, e_Math_max_II_0, e_Math_max_II_1, e_Math_max_II_2, e_Math_max_II_5, e_Math_max_II_6, e_Math_max_II_9, e_Math_max_II_10, bd_some, bd_none, Option.toList_some, Option.toList_none, List.nil_append, List.cons_append, px_kill_int, px_kill_long, px_kill_ref, px_kill_null]
  grind
theorem s_minJ (x y : Int64) (g : px_G) : cl k_Math_min_JJ [.long x, .long y] g = some (some (.long (if y < x then y else x)), g) := by
  simp only [c_Math_min_JJ, e_Math_min_JJ_0, e_Math_min_JJ_1, e_Math_min_JJ_2, e_Math_min_JJ_3, e_Math_min_JJ_6, e_Math_min_JJ_7, e_Math_min_JJ_10, e_Math_min_JJ_11, bd_some, bd_none, Option.toList_some, Option.toList_none, List.nil_append, List.cons_append, px_kill_int, px_kill_long, px_kill_ref, px_kill_null, cmp_gt]
  grind
theorem s_maxJ (x y : Int64) (g : px_G) : cl k_Math_max_JJ [.long x, .long y] g = some (some (.long (if x < y then y else x)), g) := by
  simp only [c_Math_max_JJ, e_Math_max_JJ_0, e_Math_max_JJ_1, e_Math_max_JJ_2, e_Math_max_JJ_3, e_Math_max_JJ_6, e_Math_max_JJ_7, e_Math_max_JJ_10, e_Math_max_JJ_11, bd_some, bd_none, Option.toList_some, Option.toList_none, List.nil_append, List.cons_append, px_kill_int, px_kill_long, px_kill_ref, px_kill_null, cmp_lt]
  grind
/-- the bounds of a long -/
abbrev b64 (a : Int) : Prop := -9223372036854775808 ≤ a ∧ a ≤ 9223372036854775807
theorem ediv_bd {a b : Int} (hb : 0 < b) : (a < 0 → a ≤ a / b ∧ a / b < 0) ∧ (0 ≤ a → 0 ≤ a / b ∧ a / b ≤ a) := by
  constructor
  · intro ha
    refine ⟨?_, Int.ediv_neg_of_neg_of_pos ha hb⟩
    apply Int.le_ediv_of_mul_le hb
    have : a * b ≤ a * 1 := Int.mul_le_mul_of_nonpos_left (by omega) (by omega)
    omega
  · intro ha
    exact ⟨Int.ediv_nonneg ha (by omega), Int.ediv_le_self b ha⟩
theorem s_floorDiv {a b : Int} (ha : -4611686018427387904 ≤ a ∧ a ≤ 4611686018427387904) (hb : 0 < b ∧ b ≤ 4611686018427387904) (g : px_G) : cl k_Math_floorDiv [.long (iJ a), .long (iJ b)] g = some (some (.long (iJ (a / b))), g) := by
  have h0 : ¬ iJ b = 0 := by
    rw [show (0 : Int64) = iJ 0 from rfl, iJ_eq (by omega) (by omega) (by omega) (by omega)]; omega
  have hq := ediv_bd (a := a) hb.1
  have ht := Int.tdiv_eq_ediv (a := a) (b := b)
  have hs : b.sign = 1 := Int.sign_eq_one_of_pos hb.1
  have hx := xor_neg (iJ a) (iJ b)
  rw [iJ_toInt (by omega) (by omega), iJ_toInt (by omega) (by omega)] at hx
  simp only [c_Math_floorDiv, e_Math_floorDiv_0, e_Math_floorDiv_1, e_Math_floorDiv_2, e_Math_floorDiv_3, e_Math_floorDiv_5, e_Math_floorDiv_6, e_Math_floorDiv_7, e_Math_floorDiv_8, e_Math_floorDiv_9, e_Math_floorDiv_10, e_Math_floorDiv_13, e_Math_floorDiv_15, e_Math_floorDiv_16, e_Math_floorDiv_17, e_Math_floorDiv_18, e_Math_floorDiv_19, e_Math_floorDiv_22, e_Math_floorDiv_24, e_Math_floorDiv_25, e_Math_floorDiv_26, e_Math_floorDiv_27, e_Math_floorDiv_29, bd_some, bd_none, Option.toList_some, Option.toList_none, List.nil_append, List.cons_append, px_kill_int, px_kill_long, px_kill_ref, px_kill_null, cmp_ge, cmp_eq, h0, not_false_eq_true, Int64.le_iff_toInt_le, Int64.reduceToInt]
  rw [iJ_div (by omega) (by omega) (by omega) (by omega), iJ_mul]
  by_cases hneg : a < 0
  · have hx2 : (iJ a ^^^ iJ b).toInt < 0 := by rw [hx]; constructor <;> intro <;> omega
    rw [if_neg (by omega)]
    have hm : a.tdiv b * b = a - a.tmod b := Int.tdiv_mul_self a b
    have hme := Int.tmod_eq_emod (a := a) (b := b)
    have he1 := Int.emod_nonneg a (show b ≠ 0 by omega)
    have he2 := Int.emod_lt_of_pos a hb.1
    by_cases hd : b ∣ a
    · rw [if_pos (Or.inr hd), Int.add_zero] at ht
      have h9 : a.tdiv b * b = a := by rw [ht]; exact Int.ediv_mul_cancel hd
      rw [h9, if_pos rfl, ht]
    · have hno : ¬ (0 ≤ a ∨ b ∣ a) := fun h => h.elim (fun h => by omega) hd
      rw [if_neg hno, hs] at ht
      rw [if_neg hno] at hme
      have hnz : a % b ≠ 0 := fun h => hd (Int.dvd_of_emod_eq_zero h)
      have h9 : ¬ iJ (a.tdiv b * b) = iJ a := by
        rw [hm, iJ_eq (by omega) (by omega) (by omega) (by omega)]
        omega
      rw [if_neg h9, show (1 : Int64) = iJ 1 from rfl, iJ_sub, show a.tdiv b - 1 = a / b by omega]
  · have hx2 : ¬ (iJ a ^^^ iJ b).toInt < 0 := by rw [hx]; intro h; have := h.mpr (by omega); omega
    rw [if_pos (by omega)]
    rw [if_pos (Or.inl (by omega)), Int.add_zero] at ht
    rw [ht]
theorem s_floorMod {a b : Int} (ha : -4611686018427387904 ≤ a ∧ a ≤ 4611686018427387904) (hb : 0 < b ∧ b ≤ 4611686018427387904) (g : px_G) : cl k_Math_floorMod [.long (iJ a), .long (iJ b)] g = some (some (.long (iJ (a % b))), g) := by
  have h0 : ¬ iJ b = 0 := by
    rw [show (0 : Int64) = iJ 0 from rfl, iJ_eq (by omega) (by omega) (by omega) (by omega)]; omega
  have hx := xor_neg (iJ a) (iJ b)
  rw [iJ_toInt (by omega) (by omega), iJ_toInt (by omega) (by omega)] at hx
  have hme := Int.tmod_eq_emod (a := a) (b := b)
  have he1 := Int.emod_nonneg a (show b ≠ 0 by omega)
  have he2 := Int.emod_lt_of_pos a hb.1
  simp only [c_Math_floorMod, e_Math_floorMod_0, e_Math_floorMod_1, e_Math_floorMod_2, e_Math_floorMod_3, e_Math_floorMod_5, e_Math_floorMod_6, e_Math_floorMod_7, e_Math_floorMod_8, e_Math_floorMod_9, e_Math_floorMod_10, e_Math_floorMod_13, e_Math_floorMod_15, e_Math_floorMod_16, e_Math_floorMod_17, e_Math_floorMod_20, e_Math_floorMod_22, e_Math_floorMod_23, e_Math_floorMod_24, e_Math_floorMod_25, e_Math_floorMod_27, bd_some, bd_none, Option.toList_some, Option.toList_none, List.nil_append, List.cons_append, px_kill_int, px_kill_long, px_kill_ref, px_kill_null, cmp_ge, cmp_eq, h0, not_false_eq_true, Int64.le_iff_toInt_le, Int64.reduceToInt]
  rw [iJ_rem (by omega) (by omega) (by omega) (by omega), iJ_add, show (0 : Int64) = iJ 0 from rfl]
  by_cases hneg : a < 0
  · have hx2 : (iJ a ^^^ iJ b).toInt < 0 := by rw [hx]; constructor <;> intro <;> omega
    rw [if_neg (by omega)]
    by_cases hd : b ∣ a
    · rw [if_pos (Or.inr hd)] at hme
      have h9 : a % b = 0 := Int.emod_eq_zero_of_dvd hd
      rw [show a.tmod b = 0 by omega, h9, if_pos rfl]
    · have hno : ¬ (0 ≤ a ∨ b ∣ a) := fun h => h.elim (fun h => by omega) hd
      rw [if_neg hno] at hme
      have hnz : a % b ≠ 0 := fun h => hd (Int.dvd_of_emod_eq_zero h)
      have h9 : ¬ iJ (a.tmod b) = iJ 0 := by
        rw [iJ_eq (by omega) (by omega) (by omega) (by omega)]
        omega
      rw [if_neg h9, show a.tmod b + b = a % b by omega]
  · have hx2 : ¬ (iJ a ^^^ iJ b).toInt < 0 := by rw [hx]; intro h; have := h.mpr (by omega); omega
    rw [if_pos (by omega)]
    rw [if_pos (Or.inl (by omega))] at hme
    rw [show a.tmod b = a % b by omega]
/-- Ds.div, Ds.mod: by a number above 0 -/
theorem s_div {a b : Int} (ha : -4611686018427387904 ≤ a ∧ a ≤ 4611686018427387904) (hb : 0 < b ∧ b ≤ 4611686018427387904) (g : px_G) : cl k_Ds_div [.long (iJ a), .long (iJ b)] g = some (some (.long (iJ (a / b))), g) := by
  have h1 : ¬ (iJ b ≤ 0) := by rw [show (0 : Int64) = iJ 0 from rfl, iJ_le (by omega) (by omega) (by omega) (by omega)]; omega
  simp only [c_Ds_div, e_Ds_div_0, e_Ds_div_1, e_Ds_div_2, e_Ds_div_3, e_Ds_div_6, e_Ds_div_7, e_Ds_div_8, e_Ds_div_11, e_Ds_div_14, e_Ds_div_15, bd_some, bd_none, Option.toList_some, Option.toList_none, List.nil_append, List.cons_append, px_kill_int, px_kill_long, px_kill_ref, px_kill_null, cmp_le, h1, if_false, s_floorDiv ha hb]
theorem s_mod {a b : Int} (ha : -4611686018427387904 ≤ a ∧ a ≤ 4611686018427387904) (hb : 0 < b ∧ b ≤ 4611686018427387904) (g : px_G) : cl k_Ds_mod [.long (iJ a), .long (iJ b)] g = some (some (.long (iJ (a % b))), g) := by
  have h1 : ¬ (iJ b ≤ 0) := by rw [show (0 : Int64) = iJ 0 from rfl, iJ_le (by omega) (by omega) (by omega) (by omega)]; omega
  simp only [c_Ds_mod, e_Ds_mod_0, e_Ds_mod_1, e_Ds_mod_2, e_Ds_mod_3, e_Ds_mod_6, e_Ds_mod_7, e_Ds_mod_8, e_Ds_mod_11, e_Ds_mod_14, e_Ds_mod_15, bd_some, bd_none, Option.toList_some, Option.toList_none, List.nil_append, List.cons_append, px_kill_int, px_kill_long, px_kill_ref, px_kill_null, cmp_le, h1, if_false, s_floorMod ha hb]
/-- the reference's own: left, far -/
theorem s_left {a b : Int} (ha : -4611686018427387904 ≤ a ∧ a ≤ 4611686018427387904) (hb : 0 < b ∧ b ≤ 4611686018427387904) (g : px_G) : cl k_Dm_left [.long (iJ a), .long (iJ b)] g = some (some (.long (iJ (a % b))), g) := by
  have h0 : ¬ iJ b = 0 := by
    rw [show (0 : Int64) = iJ 0 from rfl, iJ_eq (by omega) (by omega) (by omega) (by omega)]; omega
  have hme := Int.tmod_eq_emod (a := a) (b := b)
  have he1 := Int.emod_nonneg a (show b ≠ 0 by omega)
  have he2 := Int.emod_lt_of_pos a hb.1
  have hn : (b.natAbs : Int) = b := by omega
  have ht : -4611686018427387904 ≤ a.tmod b ∧ a.tmod b ≤ 4611686018427387904 := by
    split at hme <;> omega
  have h0 : ¬ b = 0 := by omega
  simp (disch := omega) only [c_Dm_left, e_Dm_left_0, e_Dm_left_1, e_Dm_left_2, e_Dm_left_3, e_Dm_left_5, e_Dm_left_7, e_Dm_left_8, e_Dm_left_9, e_Dm_left_12, e_Dm_left_14, e_Dm_left_15, e_Dm_left_16, e_Dm_left_19, e_Dm_left_21, bd_some, bd_none, Option.toList_some, Option.toList_none, List.nil_append, List.cons_append, px_kill_int, px_kill_long, px_kill_ref, px_kill_null, iI_lit, iJ_lit, iI_add, iI_sub, iI_mul, iI_neg, iJ_add, iJ_sub, iJ_mul, iJ_neg, iI_lt, iI_le, iI_eq, iJ_lt, iJ_le, iJ_eq, iI_div, iJ_div, tdiv_tmod, iI_J, iJ_I, iI_ix, iI_toInt, iJ_toInt, cmp_ge, cmp_lt, cmp_eq, cmp_gt, cmp_le, cmp_geI, cmp_ltI, cmp_eqI, cmp_gtI, cmp_leI, bI_0I, bI_1I, pin, if_true, h0, not_false_eq_true]
  by_cases hc : 0 ≤ a ∨ b ∣ a
  · rw [if_pos hc] at hme
    rw [if_pos (by omega), show a.tmod b = a % b by omega]
  · rw [if_neg hc] at hme
    have hnz : a % b ≠ 0 := fun h => hc (Or.inr (Int.dvd_of_emod_eq_zero h))
    rw [if_neg (by omega), show a.tmod b + b = a % b by omega]
theorem s_farJ {a : Int} (ha : -4611686018427387904 ≤ a ∧ a ≤ 4611686018427387904) (g : px_G) : cl k_Dm_far_J [.long (iJ a)] g = some (some (.long (iJ (a.natAbs : Int))), g) := by
  simp (disch := omega) only [c_Dm_far_J, e_Dm_far_J_0, e_Dm_far_J_1, e_Dm_far_J_2, e_Dm_far_J_3, e_Dm_far_J_6, e_Dm_far_J_7, e_Dm_far_J_8, e_Dm_far_J_11, e_Dm_far_J_12, bd_some, bd_none, Option.toList_some, Option.toList_none, List.nil_append, List.cons_append, px_kill_int, px_kill_long, px_kill_ref, px_kill_null, iI_lit, iJ_lit, iI_add, iI_sub, iI_mul, iI_neg, iJ_add, iJ_sub, iJ_mul, iJ_neg, iI_lt, iI_le, iI_eq, iJ_lt, iJ_le, iJ_eq, iI_div, iJ_div, tdiv_tmod, iI_J, iJ_I, iI_ix, iI_toInt, iJ_toInt, cmp_ge, cmp_lt, cmp_eq, cmp_gt, cmp_le, cmp_geI, cmp_ltI, cmp_eqI, cmp_gtI, cmp_leI, bI_0I, bI_1I, pin, if_true]
  by_cases h : 0 ≤ a
  · rw [if_pos h, show (a.natAbs : Int) = a by omega]
  · rw [if_neg h, show (a.natAbs : Int) = -a by omega]
theorem s_absJ2 {a : Int} (ha : -4611686018427387904 ≤ a ∧ a ≤ 4611686018427387904) (g : px_G) : cl k_Math_abs_J [.long (iJ a)] g = some (some (.long (iJ (a.natAbs : Int))), g) := by
  simp (disch := omega) only [s_absJ, iI_lit, iJ_lit, iI_add, iI_sub, iI_mul, iI_neg, iJ_add, iJ_sub, iJ_mul, iJ_neg, iI_lt, iI_le, iI_eq, iJ_lt, iJ_le, iJ_eq, iI_div, iJ_div, tdiv_tmod, iI_J, iJ_I, iI_ix, iI_toInt, iJ_toInt, cmp_ge, cmp_lt, cmp_eq, cmp_gt, cmp_le, cmp_geI, cmp_ltI, cmp_eqI, cmp_gtI, cmp_leI, bI_0I, bI_1I, pin, if_true]
  by_cases h : 0 ≤ a
  · rw [if_pos h, show (a.natAbs : Int) = a by omega]
  · rw [if_neg h, show (a.natAbs : Int) = -a by omega]
