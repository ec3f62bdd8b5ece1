/-! THE COMPONENT'S SCREENS AND GRIDS. -/
def cScr (T : TS) (q : Nat) (a b c d : Int) : Prop := T.1 q 0 = iI a ∧ T.1 q 1 = iI b ∧ T.1 q 2 = iI c ∧ T.1 q 3 = iI d
def cGrd (T : TS) (q : Nat) (w h s : Int) : Prop := T.2.1 q 0 = iJ w ∧ T.2.1 q 1 = iJ h ∧ T.2.1 q 2 = iJ s
theorem s_area (T : TS) {q : Nat} (hq : sh q = (107, 4)) {a b c d : Int} (hs : cScr T q a b c d) : cl k_Screen_area [.ref q] (enc T) = some (some (.int (iI (a * d - b * c))), enc T) := by
  obtain ⟨h1, h2, h3, h4⟩ := hs
  simp (disch := first | omega | assumption | decide | (simp (disch := omega) only [iI_lit, iJ_lit, iJ_eq, iI_eq, bI_01, bI_01I] <;> omega)) only [c_Screen_area, e_Screen_area_0, e_Screen_area_1, e_Screen_area_4, e_Screen_area_5, e_Screen_area_8, e_Screen_area_9, e_Screen_area_10, e_Screen_area_13, e_Screen_area_14, e_Screen_area_17, e_Screen_area_18, e_Screen_area_19, bd_some, bd_none, Option.toList_some, Option.toList_none, List.nil_append, List.cons_append, px_kill_int, px_kill_long, px_kill_ref, px_kill_null, h1, h2, h3, h4, iI_mul, iI_sub]
/-- a screen is told -/
def tScr (T : TS) (q : Nat) (a b c d : Int32) : TS := sI (sI (sI (sI T q 0 a) q 1 b) q 2 c) q 3 d
theorem s_take (T : TS) {q : Nat} (hq : sh q = (107, 4)) (a b c d : Int32) : cl k_Screen_take [.ref q, .int a, .int b, .int c, .int d] (enc T) = some (none, enc (tScr T q a b c d)) := by
  simp (disch := first | omega | assumption | decide | (simp (disch := omega) only [iI_lit, iJ_lit, iJ_eq, iI_eq, bI_01, bI_01I] <;> omega)) only [c_Screen_take, e_Screen_take_0, e_Screen_take_1, e_Screen_take_2, e_Screen_take_5, e_Screen_take_6, e_Screen_take_7, e_Screen_take_10, e_Screen_take_11, e_Screen_take_12, e_Screen_take_15, e_Screen_take_16, e_Screen_take_18, e_Screen_take_21, bd_some, bd_none, Option.toList_some, Option.toList_none, List.nil_append, List.cons_append, px_kill_int, px_kill_long, px_kill_ref, px_kill_null]
  rfl
theorem s_takeSquare (T : TS) {q : Nat} (hq : sh q = (107, 4)) (a b : Int32) : cl k_Screen_takeSquare [.ref q, .int a, .int b] (enc T) = some (none, enc (tScr T q a b (-b) a)) := by
  simp (disch := first | omega | assumption | decide | (simp (disch := omega) only [iI_lit, iJ_lit, iJ_eq, iI_eq, bI_01, bI_01I] <;> omega)) only [c_Screen_takeSquare, e_Screen_takeSquare_0, e_Screen_takeSquare_1, e_Screen_takeSquare_2, e_Screen_takeSquare_3, e_Screen_takeSquare_4, e_Screen_takeSquare_5, e_Screen_takeSquare_6, e_Screen_takeSquare_9, bd_some, bd_none, Option.toList_some, Option.toList_none, List.nil_append, List.cons_append, px_kill_int, px_kill_long, px_kill_ref, px_kill_null, s_take T hq]
theorem tScr_c (T : TS) (q : Nat) (a b c d : Int) : cScr (tScr T q (iI a) (iI b) (iI c) (iI d)) q a b c d := by
  simp [cScr, tScr, sI]
theorem s_isTold (T : TS) {q : Nat} (hq : sh q = (107, 4)) (a b c d : Int32) : cl k_Screen_isTold [.ref q, .int a, .int b, .int c, .int d] (enc T) = some (some (.int (bI (T.1 q 0 = a ∧ T.1 q 1 = b ∧ T.1 q 2 = c ∧ T.1 q 3 = d))), enc T) := by
  simp (disch := first | omega | assumption | decide | (simp (disch := omega) only [iI_lit, iJ_lit, iJ_eq, iI_eq, bI_01, bI_01I] <;> omega)) only [c_Screen_isTold, e_Screen_isTold_0, e_Screen_isTold_1, e_Screen_isTold_4, e_Screen_isTold_5, e_Screen_isTold_8, e_Screen_isTold_9, e_Screen_isTold_12, e_Screen_isTold_13, e_Screen_isTold_16, e_Screen_isTold_17, e_Screen_isTold_20, e_Screen_isTold_21, e_Screen_isTold_24, e_Screen_isTold_25, e_Screen_isTold_28, e_Screen_isTold_30, e_Screen_isTold_33, e_Screen_isTold_34, e_Screen_isTold_37, e_Screen_isTold_38, bd_some, bd_none, Option.toList_some, Option.toList_none, List.nil_append, List.cons_append, px_kill_int, px_kill_long, px_kill_ref, px_kill_null]
  refine ans_b (fun h => ?_) (fun h => ?_) <;> grind
/-- a grid's three numbers are written -/
def tGrd (T : TS) (q : Nat) (w h s : Int) : TS := sJ (sJ (sJ T q 0 (iJ w)) q 1 (iJ h)) q 2 (iJ s)
theorem tGrd_c (T : TS) (q : Nat) (w h s : Int) : cGrd (tGrd T q w h s) q w h s := by
  simp [cGrd, tGrd, sJ]
theorem tGrd_1 (T : TS) (q : Nat) (w h s : Int) : (tGrd T q w h s).1 = T.1 := rfl
theorem ex_gtake (T : TS) {p : Nat} (hp : sh p = (102, 3)) (r : Nat) {ux uy vx : Int} (hx : -2305843009213693952 ≤ ux ∧ ux ≤ 2305843009213693952) (hy : -12 ≤ uy ∧ uy ≤ 12) (hv : -2305843009213693952 ≤ vx ∧ vx ≤ 2305843009213693952) (h0 : vx ≠ 0) (a8 a9 a10 a11 a12 a13 a14 a15 a16 : Value) :
    rn k_Grid_take 92 [.ref p, .ref r, .long (iJ ux), .null, .long (iJ uy), .null, .long (iJ vx), .null, a8, a9, a10, a11, a12, a13, a14, a15, a16] [] (enc T) = some (none, enc (tGrd T p (bkW (ux, uy, vx, 0)) (bkH (ux, uy, vx, 0)) (bkS (ux, uy, vx, 0)))) := by
  have hw : 0 < (vx.natAbs : Int) ∧ (vx.natAbs : Int) ≤ 4611686018427387904 := by omega
  simp (disch := first | omega | assumption | decide | (simp (disch := omega) only [iI_lit, iJ_lit, iJ_eq, iI_eq, bI_01, bI_01I] <;> omega)) only [e_Grid_take_92, e_Grid_take_93, e_Grid_take_95, e_Grid_take_98, e_Grid_take_101, e_Grid_take_102, e_Grid_take_104, e_Grid_take_107, e_Grid_take_110, e_Grid_take_111, e_Grid_take_113, e_Grid_take_114, e_Grid_take_115, e_Grid_take_118, e_Grid_take_119, e_Grid_take_120, e_Grid_take_123, e_Grid_take_124, e_Grid_take_125, e_Grid_take_128, e_Grid_take_131, e_Grid_take_134, bd_some, bd_none, Option.toList_some, Option.toList_none, List.nil_append, List.cons_append, px_kill_int, px_kill_long, px_kill_ref, px_kill_null, iI_lit, iJ_lit, iI_add, iI_sub, iI_mul, iI_neg, iJ_add, iJ_sub, iJ_mul, iJ_neg, iI_lt, iI_le, iI_eq, iJ_lt, iJ_le, iJ_eq, iI_div, iJ_div, tdiv_tmod, iI_J, iJ_I, iI_ix, iI_toInt, iJ_toInt, cmp_ge, cmp_lt, cmp_eq, cmp_gt, cmp_le, cmp_geI, cmp_ltI, cmp_eqI, cmp_gtI, cmp_leI, bI_0I, bI_1I, pin, if_true, sI_get, sJ_get, sI_2, sJ_1, sJ_22, sR_1, sR_21, Nat.reduceEqDiff, and_true, true_and, and_false, false_and, and_self, if_true, if_false, reduceIte, s_absJ2 (a := vx) (by omega), s_absJ2 (a := uy) (by omega)]
  by_cases h : 0 ≤ uy
  · simp (disch := first | omega | assumption | decide | (simp (disch := omega) only [iI_lit, iJ_lit, iJ_eq, iI_eq, bI_01, bI_01I] <;> omega)) only [h, if_true, e_Grid_take_92, e_Grid_take_93, e_Grid_take_95, e_Grid_take_98, e_Grid_take_101, e_Grid_take_102, e_Grid_take_104, e_Grid_take_107, e_Grid_take_110, e_Grid_take_111, e_Grid_take_113, e_Grid_take_114, e_Grid_take_115, e_Grid_take_118, e_Grid_take_119, e_Grid_take_120, e_Grid_take_123, e_Grid_take_124, e_Grid_take_125, e_Grid_take_128, e_Grid_take_131, e_Grid_take_134, bd_some, bd_none, Option.toList_some, Option.toList_none, List.nil_append, List.cons_append, px_kill_int, px_kill_long, px_kill_ref, px_kill_null, sI_get, sJ_get, sI_2, sJ_1, sJ_22, sR_1, sR_21, Nat.reduceEqDiff, and_true, true_and, and_false, false_and, and_self, if_true, if_false, reduceIte, s_mod (a := ux) (by omega) hw, bkW, bkH, bkS]
    rfl
  · simp (disch := first | omega | assumption | decide | (simp (disch := omega) only [iI_lit, iJ_lit, iJ_eq, iI_eq, bI_01, bI_01I] <;> omega)) only [h, if_false, e_Grid_take_92, e_Grid_take_93, e_Grid_take_95, e_Grid_take_98, e_Grid_take_101, e_Grid_take_102, e_Grid_take_104, e_Grid_take_107, e_Grid_take_110, e_Grid_take_111, e_Grid_take_113, e_Grid_take_114, e_Grid_take_115, e_Grid_take_118, e_Grid_take_119, e_Grid_take_120, e_Grid_take_123, e_Grid_take_124, e_Grid_take_125, e_Grid_take_128, e_Grid_take_131, e_Grid_take_134, bd_some, bd_none, Option.toList_some, Option.toList_none, List.nil_append, List.cons_append, px_kill_int, px_kill_long, px_kill_ref, px_kill_null, sI_get, sJ_get, sI_2, sJ_1, sJ_22, sR_1, sR_21, Nat.reduceEqDiff, and_true, true_and, and_false, false_and, and_self, if_true, if_false, reduceIte, s_mod (a := -ux) (by omega) hw, bkW, bkH, bkS]
    rfl
set_option maxHeartbeats 1000000 in
theorem lp_gtake (T : TS) {p : Nat} (hp : sh p = (102, 3)) (r : Nat) : ∀ (k : Nat) (M ux uy vx vy : Int), vy.natAbs ≤ k → k ≤ 12 → (-M ≤ ux ∧ ux ≤ M) → (-M ≤ vx ∧ vx ≤ M) → (-12 ≤ uy ∧ uy ≤ 12) → 0 ≤ M → M * 13 ^ k ≤ 2305843009213693952 → ux * vy - uy * vx ≠ 0 → ∀ (i : Nat) (a11 a12 a13 a14 a15 a16 : Value), i + k ≤ 100 →
    rn k_Grid_take 30 [.ref p, .ref r, .long (iJ ux), .null, .long (iJ uy), .null, .long (iJ vx), .null, .long (iJ vy), .null, .int (iI (i : Int)), a11, a12, a13, a14, a15, a16] [] (enc T) = some (none, enc (tGrd T p (bkW (eu k ux uy vx vy)) (bkH (eu k ux uy vx vy)) (bkS (eu k ux uy vx vy)))) := by
  intro k
  induction k with
  | zero =>
    intro M ux uy vx vy hk hk12 hx hv hy hM hMB hdet i a11 a12 a13 a14 a15 a16 hi
    have h0 : vy = 0 := by omega
    subst h0
    have hvx : vx ≠ 0 := by rintro rfl; simp at hdet
    have hii : ¬ (200 : Int) ≤ (i : Int) := by omega
    rw [e_Grid_take_30]
    simp (disch := first | omega | assumption | decide | (simp (disch := omega) only [iI_lit, iJ_lit, iJ_eq, iI_eq, bI_01, bI_01I] <;> omega)) only [e_Grid_take_32, e_Grid_take_35, e_Grid_take_38, e_Grid_take_40, e_Grid_take_41, e_Grid_take_42, e_Grid_take_45, e_Grid_take_47, e_Grid_take_49, e_Grid_take_50, e_Grid_take_52, e_Grid_take_53, e_Grid_take_55, e_Grid_take_57, e_Grid_take_58, e_Grid_take_59, e_Grid_take_61, e_Grid_take_63, e_Grid_take_65, e_Grid_take_67, e_Grid_take_68, e_Grid_take_69, e_Grid_take_71, e_Grid_take_73, e_Grid_take_74, e_Grid_take_76, e_Grid_take_78, e_Grid_take_80, e_Grid_take_82, e_Grid_take_84, e_Grid_take_86, e_Grid_take_89, bd_some, bd_none, Option.toList_some, Option.toList_none, List.nil_append, List.cons_append, px_kill_int, px_kill_long, px_kill_ref, px_kill_null, iI_lit, iJ_lit, iI_add, iI_sub, iI_mul, iI_neg, iJ_add, iJ_sub, iJ_mul, iJ_neg, iI_lt, iI_le, iI_eq, iJ_lt, iJ_le, iJ_eq, iI_div, iJ_div, tdiv_tmod, iI_J, iJ_I, iI_ix, iI_toInt, iJ_toInt, cmp_ge, cmp_lt, cmp_eq, cmp_gt, cmp_le, cmp_geI, cmp_ltI, cmp_eqI, cmp_gtI, cmp_leI, bI_0I, bI_1I, pin, if_true, hii, if_false]
    rw [eu_0]
    exact ex_gtake T hp r (by omega) hy (by omega) hvx _ _ _ _ _ _ _ _ _
  | succ k ih =>
    intro M ux uy vx vy hk hk12 hx hv hy hM hMB hdet i a11 a12 a13 a14 a15 a16 hi
    have hii : ¬ (200 : Int) ≤ (i : Int) := by omega
    rw [e_Grid_take_30]
    by_cases h0 : vy = 0
    · subst h0
      have hvx : vx ≠ 0 := by rintro rfl; simp at hdet
      have hMs : M ≤ 2305843009213693952 := by
        have : M * 1 ≤ M * 13 ^ (k + 1) := Int.mul_le_mul_of_nonneg_left (by have : (0 : Int) < 13 ^ (k + 1) := Int.pow_pos (by decide); omega) hM
        omega
      simp (disch := first | omega | assumption | decide | (simp (disch := omega) only [iI_lit, iJ_lit, iJ_eq, iI_eq, bI_01, bI_01I] <;> omega)) only [e_Grid_take_32, e_Grid_take_35, e_Grid_take_38, e_Grid_take_40, e_Grid_take_41, e_Grid_take_42, e_Grid_take_45, e_Grid_take_47, e_Grid_take_49, e_Grid_take_50, e_Grid_take_52, e_Grid_take_53, e_Grid_take_55, e_Grid_take_57, e_Grid_take_58, e_Grid_take_59, e_Grid_take_61, e_Grid_take_63, e_Grid_take_65, e_Grid_take_67, e_Grid_take_68, e_Grid_take_69, e_Grid_take_71, e_Grid_take_73, e_Grid_take_74, e_Grid_take_76, e_Grid_take_78, e_Grid_take_80, e_Grid_take_82, e_Grid_take_84, e_Grid_take_86, e_Grid_take_89, bd_some, bd_none, Option.toList_some, Option.toList_none, List.nil_append, List.cons_append, px_kill_int, px_kill_long, px_kill_ref, px_kill_null, iI_lit, iJ_lit, iI_add, iI_sub, iI_mul, iI_neg, iJ_add, iJ_sub, iJ_mul, iJ_neg, iI_lt, iI_le, iI_eq, iJ_lt, iJ_le, iJ_eq, iI_div, iJ_div, tdiv_tmod, iI_J, iJ_I, iI_ix, iI_toInt, iJ_toInt, cmp_ge, cmp_lt, cmp_eq, cmp_gt, cmp_le, cmp_geI, cmp_ltI, cmp_eqI, cmp_gtI, cmp_leI, bI_0I, bI_1I, pin, if_true, hii, if_false]
      rw [eu_0]
      exact ex_gtake T hp r (by omega) hy (by omega) hvx _ _ _ _ _ _ _ _ _
    · have h13 : 13 * M * 13 ^ k ≤ 2305843009213693952 := by
        have : 13 * M * 13 ^ k = M * 13 ^ (k + 1) := by rw [Int.pow_succ, Int.mul_comm 13 M, Int.mul_assoc, Int.mul_comm 13 (13 ^ k)]
        omega
      have hMs : 13 * M ≤ 2305843009213693952 := by
        have : 13 * M * 1 ≤ 13 * M * 13 ^ k := Int.mul_le_mul_of_nonneg_left (by have : (0 : Int) < 13 ^ k := Int.pow_pos (by decide); omega) (by omega)
        omega
      have hb := eu_bd (vy := vy) hx hv hy
      have hq := tdiv_le12 (b := vy) hy
      have ht := tmod_lt (a := uy) h0
      have htm := tdiv_tmod uy vy
      simp (disch := first | omega | assumption | decide | (simp (disch := omega) only [iI_lit, iJ_lit, iJ_eq, iI_eq, bI_01, bI_01I] <;> omega)) only [e_Grid_take_32, e_Grid_take_35, e_Grid_take_38, e_Grid_take_40, e_Grid_take_41, e_Grid_take_42, e_Grid_take_45, e_Grid_take_47, e_Grid_take_49, e_Grid_take_50, e_Grid_take_52, e_Grid_take_53, e_Grid_take_55, e_Grid_take_57, e_Grid_take_58, e_Grid_take_59, e_Grid_take_61, e_Grid_take_63, e_Grid_take_65, e_Grid_take_67, e_Grid_take_68, e_Grid_take_69, e_Grid_take_71, e_Grid_take_73, e_Grid_take_74, e_Grid_take_76, e_Grid_take_78, e_Grid_take_80, e_Grid_take_82, e_Grid_take_84, e_Grid_take_86, e_Grid_take_89, bd_some, bd_none, Option.toList_some, Option.toList_none, List.nil_append, List.cons_append, px_kill_int, px_kill_long, px_kill_ref, px_kill_null, iI_lit, iJ_lit, iI_add, iI_sub, iI_mul, iI_neg, iJ_add, iJ_sub, iJ_mul, iJ_neg, iI_lt, iI_le, iI_eq, iJ_lt, iJ_le, iJ_eq, iI_div, iJ_div, tdiv_tmod, iI_J, iJ_I, iI_ix, iI_toInt, iJ_toInt, cmp_ge, cmp_lt, cmp_eq, cmp_gt, cmp_le, cmp_geI, cmp_ltI, cmp_eqI, cmp_gtI, cmp_leI, bI_0I, bI_1I, pin, if_true, h0, hii, if_false]
      rw [← htm, show (i : Int) + 1 = ((i + 1 : Nat) : Int) by omega, ih (13 * M) vx vy (ux - uy.tdiv vy * vx) (uy - uy.tdiv vy * vy) (by rw [htm]; omega) (by omega) (by omega) (by omega) (by omega) (by omega) h13 (eu_det hdet) (i + 1) _ _ _ _ _ _ (by omega)]
      simp only [eu, h0, if_false]
theorem s_gtake (T : TS) {p q : Nat} (hp : sh p = (102, 3)) (hq : sh q = (107, 4)) {a b c d : Int} (hs : cScr T q a b c d) (ho : okS a b c d) : cl k_Grid_take [.ref p, .ref q] (enc T) = some (none, enc (tGrd T p (bkW (brk a b c d)) (bkH (brk a b c d)) (bkS (brk a b c d)))) := by
  obtain ⟨h1, h2, h3, h4⟩ := hs
  obtain ⟨o1, o2, o3, o4, o5, -⟩ := ho
  simp (disch := first | omega | assumption | decide | (simp (disch := omega) only [iI_lit, iJ_lit, iJ_eq, iI_eq, bI_01, bI_01I] <;> omega)) only [c_Grid_take, e_Grid_take_0, e_Grid_take_1, e_Grid_take_4, e_Grid_take_5, e_Grid_take_6, e_Grid_take_7, e_Grid_take_10, e_Grid_take_11, e_Grid_take_13, e_Grid_take_14, e_Grid_take_17, e_Grid_take_18, e_Grid_take_20, e_Grid_take_21, e_Grid_take_24, e_Grid_take_25, e_Grid_take_27, e_Grid_take_28, bd_some, bd_none, Option.toList_some, Option.toList_none, List.nil_append, List.cons_append, px_kill_int, px_kill_long, px_kill_ref, px_kill_null, h1, h2, h3, h4, iI_J, iI_lit]
  exact lp_gtake T hp _ 12 12 a b c d (by omega) (by omega) (by omega) (by omega) (by omega) (by omega) (by decide) o5 0 _ _ _ _ _ _ (by omega)
