/-! SMALL METHODS. -/
/-- a truth as an int -/
def bI (c : Prop) [Decidable c] : Int32 := if c then 1 else 0
theorem bI_0 (c : Prop) [Decidable c] : (bI c = 0) = ¬ c := by
  unfold bI; split <;> simp_all
theorem bI_1 (c : Prop) [Decidable c] : (bI c = 1) = c := by
  unfold bI; split <;> simp_all
theorem bI_01 (c : Prop) [Decidable c] : (bI c = 0 ∨ bI c = 1) = True := by
  unfold bI; split <;> simp
theorem bI_t {c : Prop} [Decidable c] (h : c) : bI c = 1 := if_pos h
theorem bI_f {c : Prop} [Decidable c] (h : ¬ c) : bI c = 0 := if_neg h
theorem s_isAxis (a : Int32) (g : px_G) : cl k_Ds_isAxis [.int a] g = some (some (.int (bI (a = 0 ∨ a = 1))), g) := by
  simp only [c_Ds_isAxis, e_Ds_isAxis_0, e_Ds_isAxis_1, e_Ds_isAxis_4, e_Ds_isAxis_5, e_Ds_isAxis_6, e_Ds_isAxis_9, e_Ds_isAxis_10, e_Ds_isAxis_13, e_Ds_isAxis_14, bd_some, bd_none, Option.toList_some, Option.toList_none, List.nil_append, List.cons_append, px_kill_int, px_kill_long, px_kill_ref, px_kill_null, true_or, or_true]
  by_cases h0 : a = 0
  · simp [h0, bI]
  · by_cases h1 : a = 1 <;> simp [h0, h1, bI]
theorem s_isWithin (a b : Int32) (g : px_G) : cl k_Ds_isWithin [.int a, .int b] g = some (some (.int (bI (-b ≤ a ∧ a ≤ b))), g) := by
  simp only [c_Ds_isWithin, e_Ds_isWithin_0, e_Ds_isWithin_1, e_Ds_isWithin_2, e_Ds_isWithin_3, e_Ds_isWithin_6, e_Ds_isWithin_7, e_Ds_isWithin_8, e_Ds_isWithin_11, e_Ds_isWithin_12, e_Ds_isWithin_15, e_Ds_isWithin_16, bd_some, bd_none, Option.toList_some, Option.toList_none, List.nil_append, List.cons_append, px_kill_int, px_kill_long, px_kill_ref, px_kill_null, true_or, or_true]
  sorry
