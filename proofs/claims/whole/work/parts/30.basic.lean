/-! SMALL METHODS. -/
/-- an answer by a truth -/
theorem ans_b {c : Prop} [Decidable c] {g : px_G} {X : Option (Option Value × px_G)} (h1 : c → X = some (some (.int 1), g)) (h0 : ¬ c → X = some (some (.int 0), g)) : X = some (some (.int (bI c)), g) := by
  by_cases h : c
  · rw [h1 h, bI_t h]
  · rw [h0 h, bI_f h]
theorem neg_9999 : (-(9999 : Int32)).toInt = -9999 := by decide
theorem neg_999 : (-(999 : Int32)).toInt = -999 := by decide
theorem neg_144 : (-(144 : Int32)).toInt = -144 := by decide
theorem neg_99 : (-(99 : Int32)).toInt = -99 := by decide
theorem neg_12 : (-(12 : Int32)).toInt = -12 := by decide
theorem s_isAxis (a : Int32) (g : px_G) : cl k_Ds_isAxis [.int a] g = some (some (.int (bI (a = 0 ∨ a = 1))), g) := by
  simp only [c_Ds_isAxis, e_Ds_isAxis_0, e_Ds_isAxis_1, e_Ds_isAxis_4, e_Ds_isAxis_5, e_Ds_isAxis_6, e_Ds_isAxis_9, e_Ds_isAxis_10, e_Ds_isAxis_13, e_Ds_isAxis_14, bd_some, bd_none, Option.toList_some, Option.toList_none, List.nil_append, List.cons_append, px_kill_int, px_kill_long, px_kill_ref, px_kill_null, true_or, or_true]
  refine ans_b (fun h => ?_) (fun h => ?_) <;> grind
theorem s_isWithin (a b : Int32) (g : px_G) : cl k_Ds_isWithin [.int a, .int b] g = some (some (.int (bI ((-b).toInt ≤ a.toInt ∧ a.toInt ≤ b.toInt))), g) := by
  simp only [c_Ds_isWithin, e_Ds_isWithin_0, e_Ds_isWithin_1, e_Ds_isWithin_2, e_Ds_isWithin_3, e_Ds_isWithin_6, e_Ds_isWithin_7, e_Ds_isWithin_8, e_Ds_isWithin_11, e_Ds_isWithin_12, e_Ds_isWithin_15, e_Ds_isWithin_16, bd_some, bd_none, Option.toList_some, Option.toList_none, List.nil_append, List.cons_append, px_kill_int, px_kill_long, px_kill_ref, px_kill_null, true_or, or_true, Int32.lt_iff_toInt_lt]
  refine ans_b (fun h => ?_) (fun h => ?_) <;> grind
theorem s_isPixel (x y : Int32) (g : px_G) : cl k_Ds_isPixel [.int x, .int y] g = some (some (.int (bI ((-9999 ≤ x.toInt ∧ x.toInt ≤ 9999) ∧ (-9999 ≤ y.toInt ∧ y.toInt ≤ 9999)))), g) := by
  simp only [c_Ds_isPixel, e_Ds_isPixel_0, e_Ds_isPixel_1, e_Ds_isPixel_4, e_Ds_isPixel_7, e_Ds_isPixel_10, e_Ds_isPixel_11, e_Ds_isPixel_14, e_Ds_isPixel_17, e_Ds_isPixel_20, e_Ds_isPixel_21, e_Ds_isPixel_24, e_Ds_isPixel_25, bd_some, bd_none, Option.toList_some, Option.toList_none, List.nil_append, List.cons_append, px_kill_int, px_kill_long, px_kill_ref, px_kill_null, true_or, or_true, s_isWithin, bI_0, neg_9999, neg_999, neg_144, neg_99, neg_12, Int32.reduceToInt]
  refine ans_b (fun h => ?_) (fun h => ?_) <;> grind
theorem s_isCorner (x y : Int32) (g : px_G) : cl k_Ds_isCorner [.int x, .int y] g = some (some (.int (bI ((-999 ≤ x.toInt ∧ x.toInt ≤ 999) ∧ (-999 ≤ y.toInt ∧ y.toInt ≤ 999)))), g) := by
  simp only [c_Ds_isCorner, e_Ds_isCorner_0, e_Ds_isCorner_1, e_Ds_isCorner_4, e_Ds_isCorner_7, e_Ds_isCorner_10, e_Ds_isCorner_11, e_Ds_isCorner_14, e_Ds_isCorner_17, e_Ds_isCorner_20, e_Ds_isCorner_21, e_Ds_isCorner_24, e_Ds_isCorner_25, bd_some, bd_none, Option.toList_some, Option.toList_none, List.nil_append, List.cons_append, px_kill_int, px_kill_long, px_kill_ref, px_kill_null, true_or, or_true, s_isWithin, bI_0, neg_9999, neg_999, neg_144, neg_99, neg_12, Int32.reduceToInt]
  refine ans_b (fun h => ?_) (fun h => ?_) <;> grind
theorem s_isWindow (x y w h : Int32) (g : px_G) : cl k_Ds_isWindow [.int x, .int y, .int w, .int h] g = some (some (.int (bI (((-999 ≤ x.toInt ∧ x.toInt ≤ 999) ∧ (-999 ≤ y.toInt ∧ y.toInt ≤ 999)) ∧ (1 ≤ w.toInt ∧ w.toInt ≤ 32) ∧ (1 ≤ h.toInt ∧ h.toInt ≤ 32)))), g) := by
  simp only [c_Ds_isWindow, e_Ds_isWindow_0, e_Ds_isWindow_1, e_Ds_isWindow_2, e_Ds_isWindow_5, e_Ds_isWindow_8, e_Ds_isWindow_9, e_Ds_isWindow_10, e_Ds_isWindow_13, e_Ds_isWindow_14, e_Ds_isWindow_16, e_Ds_isWindow_19, e_Ds_isWindow_20, e_Ds_isWindow_21, e_Ds_isWindow_24, e_Ds_isWindow_25, e_Ds_isWindow_27, e_Ds_isWindow_30, e_Ds_isWindow_31, e_Ds_isWindow_34, e_Ds_isWindow_35, bd_some, bd_none, Option.toList_some, Option.toList_none, List.nil_append, List.cons_append, px_kill_int, px_kill_long, px_kill_ref, px_kill_null, true_or, or_true, s_isCorner, bI_0, neg_9999, neg_999, neg_144, neg_99, neg_12, Int32.reduceToInt, Int32.lt_iff_toInt_lt]
  refine ans_b (fun h => ?_) (fun h => ?_) <;> grind (splits := 20)
theorem s_isInk (i : Int32) (T : TS) : cl k_Ds_isInk [.ref 0, .int i] (enc T) = some (some (.int (bI (0 ≤ i.toInt ∧ i.toInt < (T.1 0 3).toInt ∧ i.toInt < 4))), enc T) := by
  simp only [c_Ds_isInk, e_Ds_isInk_0, e_Ds_isInk_1, e_Ds_isInk_4, e_Ds_isInk_5, e_Ds_isInk_6, e_Ds_isInk_9, e_Ds_isInk_12, e_Ds_isInk_13, e_Ds_isInk_14, e_Ds_isInk_17, e_Ds_isInk_18, e_Ds_isInk_21, e_Ds_isInk_22, bd_some, bd_none, Option.toList_some, Option.toList_none, List.nil_append, List.cons_append, px_kill_int, px_kill_long, px_kill_ref, px_kill_null, true_or, or_true, Int32.reduceToInt, Int32.lt_iff_toInt_lt, Int32.le_iff_toInt_le]
  refine ans_b (fun h => ?_) (fun h => ?_) <;> grind
theorem sh_le (p : Nat) : (sh p).2 ≤ 1000 := by
  rcases Nat.lt_or_ge p 1000 with h | h
  · exact (by decide +kernel : ∀ p, p < 1000 → (sh p).2 ≤ 1000) p h
  · have e : sh p = (1099, 0) := by unfold sh; rw [List.getD, List.getElem?_eq_none (Nat.le_trans (by decide) h)]; rfl
    rw [e]; exact Nat.zero_le _
theorem ofN_toInt {n : Nat} (h : n ≤ 1000) : (Int32.ofNat n).toInt = (n : Int) := Int32.toInt_ofNat_of_lt (by omega)
theorem lt4_0 : (0 < 4) = True := by decide
theorem s_at (p : Nat) (i : Int32) (T : TS) (hp : (sh p).1 = 0) : cl k_Ds_at [.ref p, .int i] (enc T) = some (some (.int (if px_in i (sh p).2 then T.1 p i.toNatClampNeg else -1)), enc T) := by
  simp only [c_Ds_at, e_Ds_at_0, e_Ds_at_1, e_Ds_at_4, e_Ds_at_5, e_Ds_at_6, e_Ds_at_7, e_Ds_at_10, e_Ds_at_11, e_Ds_at_12, e_Ds_at_13, e_Ds_at_16, e_Ds_at_17, bd_some, bd_none, Option.toList_some, Option.toList_none, List.nil_append, List.cons_append, px_kill_int, px_kill_long, px_kill_ref, px_kill_null, true_or, or_true, Int32.reduceToInt, Int32.lt_iff_toInt_lt, Int32.le_iff_toInt_le, hp, lt4_0, ofN_toInt (sh_le p)]
  grind
