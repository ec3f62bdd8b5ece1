/-! READS BEHIND WRITES -/
theorem sI_get (T : TS) (p k : Nat) (x : Int32) (q j : Nat) : (sI T p k x).1 q j = if q = p ∧ j = k then x else T.1 q j := rfl
theorem sJ_get (T : TS) (p k : Nat) (x : Int64) (q j : Nat) : (sJ T p k x).2.1 q j = if q = p ∧ j = k then x else T.2.1 q j := rfl
theorem sI_2 (T : TS) (p k : Nat) (x : Int32) : (sI T p k x).2 = T.2 := rfl
theorem sJ_1 (T : TS) (p k : Nat) (x : Int64) : (sJ T p k x).1 = T.1 := rfl
theorem sJ_22 (T : TS) (p k : Nat) (x : Int64) : (sJ T p k x).2.2 = T.2.2 := rfl
theorem sR_1 (T : TS) (k : Nat) (x : Nat) : (sR T k x).1 = T.1 := rfl
theorem sR_21 (T : TS) (k : Nat) (x : Nat) : (sR T k x).2.1 = T.2.1 := rfl
/-! THE BRICK: Euclid's steps on Y -/
/-- the pairs behind at most k steps: (ux, uy, vx, vy) -/
def eu : Nat → Int → Int → Int → Int → Int × Int × Int × Int
  | 0, ux, uy, vx, vy => (ux, uy, vx, vy)
  | k + 1, ux, uy, vx, vy => if vy = 0 then (ux, uy, vx, vy) else eu k vx vy (ux - uy.tdiv vy * vx) (uy - uy.tdiv vy * vy)
def bkW (t : Int × Int × Int × Int) : Int := (t.2.2.1.natAbs : Int)
def bkH (t : Int × Int × Int × Int) : Int := (t.2.1.natAbs : Int)
def bkS (t : Int × Int × Int × Int) : Int := (if 0 ≤ t.2.1 then t.1 else -t.1) % bkW t
theorem eu_0 (k : Nat) (ux uy vx : Int) : eu k ux uy vx 0 = (ux, uy, vx, 0) := by cases k <;> simp [eu]
theorem tdiv_le12 {a b : Int} (ha : -12 ≤ a ∧ a ≤ 12) : -12 ≤ a.tdiv b ∧ a.tdiv b ≤ 12 := by
  have := Int.natAbs_tdiv_le_natAbs a b
  omega
theorem mul_bd {a b M N : Int} (ha : -M ≤ a ∧ a ≤ M) (hb : -N ≤ b ∧ b ≤ N) : -(M * N) ≤ a * b ∧ a * b ≤ M * N := by
  have h : (a * b).natAbs ≤ (M * N).natAbs := by
    rw [Int.natAbs_mul, Int.natAbs_mul]
    exact Nat.mul_le_mul (by omega) (by omega)
  have h2 : 0 ≤ M * N := Int.mul_nonneg (by omega) (by omega)
  omega
theorem tmod_lt {a b : Int} (hb : b ≠ 0) : (a.tmod b).natAbs < b.natAbs := by
  rw [Int.natAbs_tmod]
  exact Nat.mod_lt _ (by omega)
/-- the reference: the exit of the loop -/
theorem ex_laysBrick (T : TS) (i : Int32) {ux uy vx : Int} (hx : -2305843009213693952 ≤ ux ∧ ux ≤ 2305843009213693952) (hy : -12 ≤ uy ∧ uy ≤ 12) (hv : -2305843009213693952 ≤ vx ∧ vx ≤ 2305843009213693952) (h0 : vx ≠ 0) (vy : Value) (a9 a10 a11 a12 a13 a14 a15 : Value) :
    rn k_Dm_laysBrick 86 [.ref 53, .int i, .long (iJ ux), .null, .long (iJ uy), .null, .long (iJ vx), .null, vy, a9, a10, a11, a12, a13, a14, a15] [] (enc T) = some (none, enc (sJ (sJ (sJ T 53 11 (iJ (bkW (ux, uy, vx, 0)))) 53 12 (iJ (bkH (ux, uy, vx, 0)))) 53 13 (iJ (bkS (ux, uy, vx, 0))))) := by
  have hw : 0 < (vx.natAbs : Int) ∧ (vx.natAbs : Int) ≤ 4611686018427387904 := by omega
  simp (disch := first | omega | assumption | decide | (simp (disch := omega) only [iI_lit, iJ_lit, iJ_eq, iI_eq, bI_01, bI_01I] <;> omega)) only [e_Dm_laysBrick_86, e_Dm_laysBrick_87, e_Dm_laysBrick_89, e_Dm_laysBrick_92, e_Dm_laysBrick_95, e_Dm_laysBrick_96, e_Dm_laysBrick_98, e_Dm_laysBrick_101, e_Dm_laysBrick_104, e_Dm_laysBrick_105, e_Dm_laysBrick_107, e_Dm_laysBrick_108, e_Dm_laysBrick_109, e_Dm_laysBrick_112, e_Dm_laysBrick_113, e_Dm_laysBrick_114, e_Dm_laysBrick_117, e_Dm_laysBrick_118, e_Dm_laysBrick_119, e_Dm_laysBrick_122, e_Dm_laysBrick_125, e_Dm_laysBrick_128, bd_some, bd_none, Option.toList_some, Option.toList_none, List.nil_append, List.cons_append, px_kill_int, px_kill_long, px_kill_ref, px_kill_null, iI_lit, iJ_lit, iI_add, iI_sub, iI_mul, iI_neg, iJ_add, iJ_sub, iJ_mul, iJ_neg, iI_lt, iI_le, iI_eq, iJ_lt, iJ_le, iJ_eq, iI_div, iJ_div, tdiv_tmod, iI_J, iJ_I, iI_ix, iI_toInt, iJ_toInt, cmp_ge, cmp_lt, cmp_eq, cmp_gt, cmp_le, cmp_geI, cmp_ltI, cmp_eqI, cmp_gtI, cmp_leI, bI_0I, bI_1I, pin, if_true, sI_get, sJ_get, sI_2, sJ_1, sJ_22, sR_1, sR_21, Nat.reduceEqDiff, and_true, true_and, and_false, false_and, and_self, if_true, if_false, reduceIte, s_farJ (a := vx) (by omega), s_farJ (a := uy) (by omega)]
  by_cases h : 0 ≤ uy
  · simp only [h, if_true, e_Dm_laysBrick_86, e_Dm_laysBrick_87, e_Dm_laysBrick_89, e_Dm_laysBrick_92, e_Dm_laysBrick_95, e_Dm_laysBrick_96, e_Dm_laysBrick_98, e_Dm_laysBrick_101, e_Dm_laysBrick_104, e_Dm_laysBrick_105, e_Dm_laysBrick_107, e_Dm_laysBrick_108, e_Dm_laysBrick_109, e_Dm_laysBrick_112, e_Dm_laysBrick_113, e_Dm_laysBrick_114, e_Dm_laysBrick_117, e_Dm_laysBrick_118, e_Dm_laysBrick_119, e_Dm_laysBrick_122, e_Dm_laysBrick_125, e_Dm_laysBrick_128, bd_some, bd_none, Option.toList_some, Option.toList_none, List.nil_append, List.cons_append, px_kill_int, px_kill_long, px_kill_ref, px_kill_null, sI_get, sJ_get, sI_2, sJ_1, sJ_22, sR_1, sR_21, Nat.reduceEqDiff, and_true, true_and, and_false, false_and, and_self, if_true, if_false, reduceIte, s_left (a := ux) (by omega) hw, bkW, bkH, bkS]
  · simp only [h, if_false, e_Dm_laysBrick_86, e_Dm_laysBrick_87, e_Dm_laysBrick_89, e_Dm_laysBrick_92, e_Dm_laysBrick_95, e_Dm_laysBrick_96, e_Dm_laysBrick_98, e_Dm_laysBrick_101, e_Dm_laysBrick_104, e_Dm_laysBrick_105, e_Dm_laysBrick_107, e_Dm_laysBrick_108, e_Dm_laysBrick_109, e_Dm_laysBrick_112, e_Dm_laysBrick_113, e_Dm_laysBrick_114, e_Dm_laysBrick_117, e_Dm_laysBrick_118, e_Dm_laysBrick_119, e_Dm_laysBrick_122, e_Dm_laysBrick_125, e_Dm_laysBrick_128, bd_some, bd_none, Option.toList_some, Option.toList_none, List.nil_append, List.cons_append, px_kill_int, px_kill_long, px_kill_ref, px_kill_null, sI_get, sJ_get, sI_2, sJ_1, sJ_22, sR_1, sR_21, Nat.reduceEqDiff, and_true, true_and, and_false, false_and, and_self, if_true, if_false, reduceIte, s_left (a := -ux) (by omega) hw, bkW, bkH, bkS]
theorem eu_bd {ux uy vx vy M : Int} (hx : -M ≤ ux ∧ ux ≤ M) (hv : -M ≤ vx ∧ vx ≤ M) (hy : -12 ≤ uy ∧ uy ≤ 12) : -(12 * M) ≤ uy.tdiv vy * vx ∧ uy.tdiv vy * vx ≤ 12 * M ∧ -(13 * M) ≤ ux - uy.tdiv vy * vx ∧ ux - uy.tdiv vy * vx ≤ 13 * M := by
  have h1 := mul_bd (tdiv_le12 (b := vy) hy) hv
  omega
theorem eu_det {ux uy vx vy t : Int} (h : ux * vy - uy * vx ≠ 0) : vx * (uy - t * vy) - vy * (ux - t * vx) ≠ 0 := by
  intro h2
  apply h
  have e : vx * (uy - t * vy) - vy * (ux - t * vx) = -(ux * vy - uy * vx) := by
    rw [Int.mul_sub, Int.mul_sub]
    rw [Int.mul_comm vx uy, Int.mul_comm vy ux, show vx * (t * vy) = vy * (t * vx) by rw [Int.mul_left_comm, Int.mul_comm vx vy, ← Int.mul_left_comm]]
    omega
  omega
set_option maxHeartbeats 1000000 in
theorem lp_laysBrick (T : TS) (i : Int32) : ∀ (k : Nat) (M ux uy vx vy : Int), vy.natAbs ≤ k → k ≤ 12 → (-M ≤ ux ∧ ux ≤ M) → (-M ≤ vx ∧ vx ≤ M) → (-12 ≤ uy ∧ uy ≤ 12) → 0 ≤ M → M * 13 ^ k ≤ 2305843009213693952 → ux * vy - uy * vx ≠ 0 → ∀ (a10 a11 a12 a13 a14 a15 : Value),
    rn k_Dm_laysBrick 35 [.ref 53, .int i, .long (iJ ux), .null, .long (iJ uy), .null, .long (iJ vx), .null, .long (iJ vy), .null, a10, a11, a12, a13, a14, a15] [] (enc T) = some (none, enc (sJ (sJ (sJ T 53 11 (iJ (bkW (eu k ux uy vx vy)))) 53 12 (iJ (bkH (eu k ux uy vx vy)))) 53 13 (iJ (bkS (eu k ux uy vx vy))))) := by
  intro k
  induction k with
  | zero =>
    intro M ux uy vx vy hk hk12 hx hv hy hM hMB hdet a10 a11 a12 a13 a14 a15
    have h0 : vy = 0 := by omega
    subst h0
    have hvx : vx ≠ 0 := by rintro rfl; simp at hdet
    rw [e_Dm_laysBrick_35]
    simp (disch := first | omega | assumption | decide | (simp (disch := omega) only [iI_lit, iJ_lit, iJ_eq, iI_eq, bI_01, bI_01I] <;> omega)) only [e_Dm_laysBrick_37, e_Dm_laysBrick_38, e_Dm_laysBrick_39, e_Dm_laysBrick_42, e_Dm_laysBrick_44, e_Dm_laysBrick_46, e_Dm_laysBrick_47, e_Dm_laysBrick_49, e_Dm_laysBrick_50, e_Dm_laysBrick_52, e_Dm_laysBrick_54, e_Dm_laysBrick_55, e_Dm_laysBrick_56, e_Dm_laysBrick_58, e_Dm_laysBrick_60, e_Dm_laysBrick_62, e_Dm_laysBrick_64, e_Dm_laysBrick_65, e_Dm_laysBrick_66, e_Dm_laysBrick_68, e_Dm_laysBrick_70, e_Dm_laysBrick_71, e_Dm_laysBrick_73, e_Dm_laysBrick_75, e_Dm_laysBrick_77, e_Dm_laysBrick_79, e_Dm_laysBrick_81, e_Dm_laysBrick_83, bd_some, bd_none, Option.toList_some, Option.toList_none, List.nil_append, List.cons_append, px_kill_int, px_kill_long, px_kill_ref, px_kill_null, iI_lit, iJ_lit, iI_add, iI_sub, iI_mul, iI_neg, iJ_add, iJ_sub, iJ_mul, iJ_neg, iI_lt, iI_le, iI_eq, iJ_lt, iJ_le, iJ_eq, iI_div, iJ_div, tdiv_tmod, iI_J, iJ_I, iI_ix, iI_toInt, iJ_toInt, cmp_ge, cmp_lt, cmp_eq, cmp_gt, cmp_le, cmp_geI, cmp_ltI, cmp_eqI, cmp_gtI, cmp_leI, bI_0I, bI_1I, pin, if_true, if_true]
    rw [eu_0]
    exact ex_laysBrick T i (by omega) hy (by omega) hvx _ _ _ _ _ _ _ _
  | succ k ih =>
    intro M ux uy vx vy hk hk12 hx hv hy hM hMB hdet a10 a11 a12 a13 a14 a15
    rw [e_Dm_laysBrick_35]
    by_cases h0 : vy = 0
    · subst h0
      have hvx : vx ≠ 0 := by rintro rfl; simp at hdet
      have hMs : M ≤ 2305843009213693952 := by
        have : M * 1 ≤ M * 13 ^ (k + 1) := Int.mul_le_mul_of_nonneg_left (by have : (0 : Int) < 13 ^ (k + 1) := Int.pow_pos (by decide); omega) hM
        omega
      simp (disch := first | omega | assumption | decide | (simp (disch := omega) only [iI_lit, iJ_lit, iJ_eq, iI_eq, bI_01, bI_01I] <;> omega)) only [e_Dm_laysBrick_37, e_Dm_laysBrick_38, e_Dm_laysBrick_39, e_Dm_laysBrick_42, e_Dm_laysBrick_44, e_Dm_laysBrick_46, e_Dm_laysBrick_47, e_Dm_laysBrick_49, e_Dm_laysBrick_50, e_Dm_laysBrick_52, e_Dm_laysBrick_54, e_Dm_laysBrick_55, e_Dm_laysBrick_56, e_Dm_laysBrick_58, e_Dm_laysBrick_60, e_Dm_laysBrick_62, e_Dm_laysBrick_64, e_Dm_laysBrick_65, e_Dm_laysBrick_66, e_Dm_laysBrick_68, e_Dm_laysBrick_70, e_Dm_laysBrick_71, e_Dm_laysBrick_73, e_Dm_laysBrick_75, e_Dm_laysBrick_77, e_Dm_laysBrick_79, e_Dm_laysBrick_81, e_Dm_laysBrick_83, bd_some, bd_none, Option.toList_some, Option.toList_none, List.nil_append, List.cons_append, px_kill_int, px_kill_long, px_kill_ref, px_kill_null, iI_lit, iJ_lit, iI_add, iI_sub, iI_mul, iI_neg, iJ_add, iJ_sub, iJ_mul, iJ_neg, iI_lt, iI_le, iI_eq, iJ_lt, iJ_le, iJ_eq, iI_div, iJ_div, tdiv_tmod, iI_J, iJ_I, iI_ix, iI_toInt, iJ_toInt, cmp_ge, cmp_lt, cmp_eq, cmp_gt, cmp_le, cmp_geI, cmp_ltI, cmp_eqI, cmp_gtI, cmp_leI, bI_0I, bI_1I, pin, if_true, if_true]
      rw [eu_0]
      exact ex_laysBrick T i (by omega) hy (by omega) hvx _ _ _ _ _ _ _ _
    · have h13 : 13 * M * 13 ^ k ≤ 2305843009213693952 := by
        have : 13 * M * 13 ^ k = M * 13 ^ (k + 1) := by rw [Int.pow_succ, Int.mul_comm 13 M, Int.mul_assoc, Int.mul_comm 13 (13 ^ k)]
        omega
      have hMs : 13 * M ≤ 2305843009213693952 := by
        have : 13 * M * 1 ≤ 13 * M * 13 ^ k := Int.mul_le_mul_of_nonneg_left (by have : (0 : Int) < 13 ^ k := Int.pow_pos (by decide); omega) (by omega)
        omega
      have hb := eu_bd (vy := vy) hx hv hy
      have hq := tdiv_le12 (b := vy) hy
      have ht := tmod_lt (a := uy) h0
      have htm := tdiv_tmod uy vy
      simp (disch := first | omega | assumption | decide | (simp (disch := omega) only [iI_lit, iJ_lit, iJ_eq, iI_eq, bI_01, bI_01I] <;> omega)) only [e_Dm_laysBrick_37, e_Dm_laysBrick_38, e_Dm_laysBrick_39, e_Dm_laysBrick_42, e_Dm_laysBrick_44, e_Dm_laysBrick_46, e_Dm_laysBrick_47, e_Dm_laysBrick_49, e_Dm_laysBrick_50, e_Dm_laysBrick_52, e_Dm_laysBrick_54, e_Dm_laysBrick_55, e_Dm_laysBrick_56, e_Dm_laysBrick_58, e_Dm_laysBrick_60, e_Dm_laysBrick_62, e_Dm_laysBrick_64, e_Dm_laysBrick_65, e_Dm_laysBrick_66, e_Dm_laysBrick_68, e_Dm_laysBrick_70, e_Dm_laysBrick_71, e_Dm_laysBrick_73, e_Dm_laysBrick_75, e_Dm_laysBrick_77, e_Dm_laysBrick_79, e_Dm_laysBrick_81, e_Dm_laysBrick_83, bd_some, bd_none, Option.toList_some, Option.toList_none, List.nil_append, List.cons_append, px_kill_int, px_kill_long, px_kill_ref, px_kill_null, iI_lit, iJ_lit, iI_add, iI_sub, iI_mul, iI_neg, iJ_add, iJ_sub, iJ_mul, iJ_neg, iI_lt, iI_le, iI_eq, iJ_lt, iJ_le, iJ_eq, iI_div, iJ_div, tdiv_tmod, iI_J, iJ_I, iI_ix, iI_toInt, iJ_toInt, cmp_ge, cmp_lt, cmp_eq, cmp_gt, cmp_le, cmp_geI, cmp_ltI, cmp_eqI, cmp_gtI, cmp_leI, bI_0I, bI_1I, pin, if_true, h0, if_false]
      rw [← htm, ih (13 * M) vx vy (ux - uy.tdiv vy * vx) (uy - uy.tdiv vy * vy) (by rw [htm]; omega) (by omega) (by omega) (by omega) (by omega) (by omega) h13 (eu_det hdet)]
      simp only [eu, h0, if_false]
