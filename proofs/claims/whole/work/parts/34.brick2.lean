/-! THE BRICK OF A SCREEN, on both sides. -/
abbrev brk (a b c d : Int) : Int × Int × Int × Int := eu 12 a b c d
/-- Model.of -/
theorem s_of (T : TS) {i k : Nat} (hi : i < 4) (hk : k < 8) : cl k_Dm_of [.ref 53, .int (iI (i : Int)), .int (iI (k : Int))] (enc T) = some (some (.int (T.1 56 (8 * i + k))), enc T) := by
  simp (disch := first | omega | assumption | decide | (simp (disch := omega) only [iI_lit, iJ_lit, iJ_eq, iI_eq, bI_01, bI_01I] <;> omega)) only [c_Dm_of, e_Dm_of_0, e_Dm_of_1, e_Dm_of_4, e_Dm_of_6, e_Dm_of_7, e_Dm_of_8, e_Dm_of_9, e_Dm_of_10, e_Dm_of_11, bd_some, bd_none, Option.toList_some, Option.toList_none, List.nil_append, List.cons_append, px_kill_int, px_kill_long, px_kill_ref, px_kill_null, iI_lit, iJ_lit, iI_add, iI_sub, iI_mul, iI_neg, iJ_add, iJ_sub, iJ_mul, iJ_neg, iI_lt, iI_le, iI_eq, iJ_lt, iJ_le, iJ_eq, iI_div, iJ_div, tdiv_tmod, iI_J, iJ_I, iI_ix, iI_toInt, iJ_toInt, cmp_ge, cmp_lt, cmp_eq, cmp_gt, cmp_le, cmp_geI, cmp_ltI, cmp_eqI, cmp_gtI, cmp_leI, bI_0I, bI_1I, pin, if_true, sh_n56]
  rw [show (8 * (i : Int) + (k : Int)).toNat = 8 * i + k by omega]
/-- an ink's screen as the reference holds it -/
def mScr (T : TS) (i : Nat) (a b c d : Int) : Prop := T.1 56 (8 * i) = iI a ∧ T.1 56 (8 * i + 1) = iI b ∧ T.1 56 (8 * i + 2) = iI c ∧ T.1 56 (8 * i + 3) = iI d
/-- bounds of a screen -/
def okS (a b c d : Int) : Prop := (-12 ≤ a ∧ a ≤ 12) ∧ (-12 ≤ b ∧ b ≤ 12) ∧ (-12 ≤ c ∧ c ≤ 12) ∧ (-12 ≤ d ∧ d ≤ 12) ∧ a * d - b * c ≠ 0 ∧ (-144 ≤ a * d - b * c ∧ a * d - b * c ≤ 144)
theorem s_of0 (T : TS) {i : Nat} (hi : i < 4) : cl k_Dm_of [.ref 53, .int (iI (i : Int)), .int (iI 0)] (enc T) = some (some (.int (T.1 56 (8 * i))), enc T) := s_of T (k := 0) hi (by decide)
theorem s_of1 (T : TS) {i : Nat} (hi : i < 4) : cl k_Dm_of [.ref 53, .int (iI (i : Int)), .int (iI 1)] (enc T) = some (some (.int (T.1 56 (8 * i + 1))), enc T) := s_of T (k := 1) hi (by decide)
theorem s_of2 (T : TS) {i : Nat} (hi : i < 4) : cl k_Dm_of [.ref 53, .int (iI (i : Int)), .int (iI 2)] (enc T) = some (some (.int (T.1 56 (8 * i + 2))), enc T) := s_of T (k := 2) hi (by decide)
theorem s_of3 (T : TS) {i : Nat} (hi : i < 4) : cl k_Dm_of [.ref 53, .int (iI (i : Int)), .int (iI 3)] (enc T) = some (some (.int (T.1 56 (8 * i + 3))), enc T) := s_of T (k := 3) hi (by decide)
theorem s_of4 (T : TS) {i : Nat} (hi : i < 4) : cl k_Dm_of [.ref 53, .int (iI (i : Int)), .int (iI 4)] (enc T) = some (some (.int (T.1 56 (8 * i + 4))), enc T) := s_of T (k := 4) hi (by decide)
theorem s_of5 (T : TS) {i : Nat} (hi : i < 4) : cl k_Dm_of [.ref 53, .int (iI (i : Int)), .int (iI 5)] (enc T) = some (some (.int (T.1 56 (8 * i + 5))), enc T) := s_of T (k := 5) hi (by decide)
theorem s_of6 (T : TS) {i : Nat} (hi : i < 4) : cl k_Dm_of [.ref 53, .int (iI (i : Int)), .int (iI 6)] (enc T) = some (some (.int (T.1 56 (8 * i + 6))), enc T) := s_of T (k := 6) hi (by decide)
theorem s_of7 (T : TS) {i : Nat} (hi : i < 4) : cl k_Dm_of [.ref 53, .int (iI (i : Int)), .int (iI 7)] (enc T) = some (some (.int (T.1 56 (8 * i + 7))), enc T) := s_of T (k := 7) hi (by decide)
theorem s_laysBrick (T : TS) {i : Nat} (hi : i < 4) {a b c d : Int} (hs : mScr T i a b c d) (ho : okS a b c d) : cl k_Dm_laysBrick [.ref 53, .int (iI (i : Int))] (enc T) = some (none, enc (sJ (sJ (sJ T 53 11 (iJ (bkW (brk a b c d)))) 53 12 (iJ (bkH (brk a b c d)))) 53 13 (iJ (bkS (brk a b c d))))) := by
  obtain ⟨h1, h2, h3, h4⟩ := hs
  obtain ⟨o1, o2, o3, o4, o5, -⟩ := ho
  simp (disch := first | omega | assumption | decide | (simp (disch := omega) only [iI_lit, iJ_lit, iJ_eq, iI_eq, bI_01, bI_01I] <;> omega)) only [c_Dm_laysBrick, e_Dm_laysBrick_0, e_Dm_laysBrick_1, e_Dm_laysBrick_2, e_Dm_laysBrick_3, e_Dm_laysBrick_6, e_Dm_laysBrick_7, e_Dm_laysBrick_8, e_Dm_laysBrick_9, e_Dm_laysBrick_10, e_Dm_laysBrick_11, e_Dm_laysBrick_14, e_Dm_laysBrick_15, e_Dm_laysBrick_17, e_Dm_laysBrick_18, e_Dm_laysBrick_19, e_Dm_laysBrick_20, e_Dm_laysBrick_23, e_Dm_laysBrick_24, e_Dm_laysBrick_26, e_Dm_laysBrick_27, e_Dm_laysBrick_28, e_Dm_laysBrick_29, e_Dm_laysBrick_32, e_Dm_laysBrick_33, bd_some, bd_none, Option.toList_some, Option.toList_none, List.nil_append, List.cons_append, px_kill_int, px_kill_long, px_kill_ref, px_kill_null, s_of0 T hi, s_of1 T hi, s_of2 T hi, s_of3 T hi, h1, h2, h3, h4, iI_J, iI_lit]
  exact lp_laysBrick T _ 12 12 a b c d (by omega) (by omega) (by omega) (by omega) (by omega) (by omega) (by decide) o5 _ _ _ _ _ _
theorem s_sided (T : TS) {i : Nat} (hi : i < 4) {a b c d : Int} (hs : mScr T i a b c d) : cl k_Dm_sided [.ref 53, .int (iI (i : Int))] (enc T) = some (some (.int (iI (a * d - b * c))), enc T) := by
  obtain ⟨h1, h2, h3, h4⟩ := hs
  simp (disch := first | omega | assumption | decide | (simp (disch := omega) only [iI_lit, iJ_lit, iJ_eq, iI_eq, bI_01, bI_01I] <;> omega)) only [c_Dm_sided, e_Dm_sided_0, e_Dm_sided_1, e_Dm_sided_2, e_Dm_sided_3, e_Dm_sided_6, e_Dm_sided_7, e_Dm_sided_8, e_Dm_sided_9, e_Dm_sided_12, e_Dm_sided_13, e_Dm_sided_14, e_Dm_sided_15, e_Dm_sided_16, e_Dm_sided_19, e_Dm_sided_20, e_Dm_sided_21, e_Dm_sided_22, e_Dm_sided_25, e_Dm_sided_26, e_Dm_sided_27, bd_some, bd_none, Option.toList_some, Option.toList_none, List.nil_append, List.cons_append, px_kill_int, px_kill_long, px_kill_ref, px_kill_null, s_of0 T hi, s_of1 T hi, s_of2 T hi, s_of3 T hi, h1, h2, h3, h4, iI_mul, iI_sub, iI_lit]
/-- the cell -/
def cel (a b c d : Int) : Int := ((a * d - b * c).natAbs : Int)
theorem s_cellOf (T : TS) {i : Nat} (hi : i < 4) {a b c d : Int} (hs : mScr T i a b c d) (ho : okS a b c d) : cl k_Dm_cellOf [.ref 53, .int (iI (i : Int))] (enc T) = some (some (.int (iI (cel a b c d))), enc T) := by
  obtain ⟨o1, o2, o3, o4, o5, o6⟩ := ho
  simp (disch := first | omega | assumption | decide | (simp (disch := omega) only [iI_lit, iJ_lit, iJ_eq, iI_eq, bI_01, bI_01I] <;> omega)) only [c_Dm_cellOf, e_Dm_cellOf_0, e_Dm_cellOf_1, e_Dm_cellOf_2, e_Dm_cellOf_5, e_Dm_cellOf_6, e_Dm_cellOf_9, e_Dm_cellOf_10, bd_some, bd_none, Option.toList_some, Option.toList_none, List.nil_append, List.cons_append, px_kill_int, px_kill_long, px_kill_ref, px_kill_null, s_sided T hi hs, iI_J, s_farJ (a := a * d - b * c) (by omega), iJ_I]
  rfl
theorem s_levelOf (T : TS) {i : Nat} (hi : i < 4) {a b c d t : Int} (hs : mScr T i a b c d) (ho : okS a b c d) (ht : T.1 56 (8 * i + 5) = iI t) (htb : 0 ≤ t ∧ t ≤ 100) : cl k_Dm_levelOf [.ref 53, .int (iI (i : Int))] (enc T) = some (some (.int (iI ((cel a b c d * t + 50) / 100))), enc T) := by
  have hcb : 0 < cel a b c d ∧ cel a b c d ≤ 144 := by obtain ⟨o1, o2, o3, o4, o5, o6⟩ := ho; unfold cel; omega
  have hm : 0 ≤ cel a b c d * t ∧ cel a b c d * t ≤ 14400 := by
    have h1 := mul_bd (a := cel a b c d) (b := t) (M := 144) (N := 100) (by omega) (by omega)
    have h2 : 0 ≤ cel a b c d * t := Int.mul_nonneg (by omega) (by omega)
    omega
  simp (disch := first | omega | assumption | decide | (simp (disch := omega) only [iI_lit, iJ_lit, iJ_eq, iI_eq, bI_01, bI_01I] <;> omega)) only [c_Dm_levelOf, e_Dm_levelOf_0, e_Dm_levelOf_1, e_Dm_levelOf_2, e_Dm_levelOf_5, e_Dm_levelOf_6, e_Dm_levelOf_7, e_Dm_levelOf_8, e_Dm_levelOf_11, e_Dm_levelOf_12, e_Dm_levelOf_14, e_Dm_levelOf_15, e_Dm_levelOf_17, e_Dm_levelOf_18, bd_some, bd_none, Option.toList_some, Option.toList_none, List.nil_append, List.cons_append, px_kill_int, px_kill_long, px_kill_ref, px_kill_null, s_cellOf T hi hs ho, s_of5 T hi, ht, iI_lit, iJ_lit, iI_add, iI_sub, iI_mul, iI_neg, iJ_add, iJ_sub, iJ_mul, iJ_neg, iI_lt, iI_le, iI_eq, iJ_lt, iJ_le, iJ_eq, iI_div, iJ_div, tdiv_tmod, iI_J, iJ_I, iI_ix, iI_toInt, iJ_toInt, cmp_ge, cmp_lt, cmp_eq, cmp_gt, cmp_le, cmp_geI, cmp_ltI, cmp_eqI, cmp_gtI, cmp_leI, bI_0I, bI_1I, pin, if_true]
  rw [Int.tdiv_eq_ediv_of_nonneg (by omega)]
