/-! THE GREATEST COMMON PART. -/
theorem tmod_nat (m n : Nat) : (m : Int).tmod (n : Int) = ((m % n : Nat) : Int) := (Int.ofNat_tmod m n).symm
theorem lp_part (p0 q0 : Int64) (g : px_G) : ∀ (n m : Nat), m ≤ 4611686018427387904 → n ≤ 4611686018427387904 → ∀ (a8 a9 : Value), rn k_Dm_part 12 [.long p0, .null, .long q0, .null, .long (iJ (m : Int)), .null, .long (iJ (n : Int)), .null, a8, a9] [] g = some (some (.long (iJ ((Nat.gcd m n : Nat) : Int))), g) := by
  intro n
  induction n using Nat.strongRecOn with
  | ind n ih =>
    intro m hm hn a8 a9
    rw [e_Dm_part_12]
    by_cases h0 : n = 0
    · subst h0
      simp (disch := first | omega | assumption | decide | (simp (disch := omega) only [iI_lit, iJ_lit, iJ_eq, iI_eq, bI_01, bI_01I] <;> omega)) only [e_Dm_part_14, e_Dm_part_15, e_Dm_part_16, e_Dm_part_19, e_Dm_part_21, e_Dm_part_23, e_Dm_part_24, e_Dm_part_26, e_Dm_part_28, e_Dm_part_30, e_Dm_part_32, e_Dm_part_34, e_Dm_part_37, e_Dm_part_39, bd_some, bd_none, Option.toList_some, Option.toList_none, List.nil_append, List.cons_append, px_kill_int, px_kill_long, px_kill_ref, px_kill_null, iI_lit, iJ_lit, iI_add, iI_sub, iI_mul, iI_neg, iJ_add, iJ_sub, iJ_mul, iJ_neg, iI_lt, iI_le, iI_eq, iJ_lt, iJ_le, iJ_eq, iI_div, iJ_div, tdiv_tmod, iI_J, iJ_I, iI_ix, iI_toInt, iJ_toInt, cmp_ge, cmp_lt, cmp_eq, cmp_gt, cmp_le, cmp_geI, cmp_ltI, cmp_eqI, cmp_gtI, cmp_leI, bI_0I, bI_1I, pin, if_true, Int.natCast_zero, Nat.gcd_zero_right, if_true]
    · have hz : ¬ (n : Int) = 0 := by omega
      have hlt := Nat.mod_lt m (Nat.pos_of_ne_zero h0)
      simp (disch := first | omega | assumption | decide | (simp (disch := omega) only [iI_lit, iJ_lit, iJ_eq, iI_eq, bI_01, bI_01I] <;> omega)) only [e_Dm_part_14, e_Dm_part_15, e_Dm_part_16, e_Dm_part_19, e_Dm_part_21, e_Dm_part_23, e_Dm_part_24, e_Dm_part_26, e_Dm_part_28, e_Dm_part_30, e_Dm_part_32, e_Dm_part_34, e_Dm_part_37, e_Dm_part_39, bd_some, bd_none, Option.toList_some, Option.toList_none, List.nil_append, List.cons_append, px_kill_int, px_kill_long, px_kill_ref, px_kill_null, iI_lit, iJ_lit, iI_add, iI_sub, iI_mul, iI_neg, iJ_add, iJ_sub, iJ_mul, iJ_neg, iI_lt, iI_le, iI_eq, iJ_lt, iJ_le, iJ_eq, iI_div, iJ_div, tdiv_tmod, iI_J, iJ_I, iI_ix, iI_toInt, iJ_toInt, cmp_ge, cmp_lt, cmp_eq, cmp_gt, cmp_le, cmp_geI, cmp_ltI, cmp_eqI, cmp_gtI, cmp_leI, bI_0I, bI_1I, pin, if_true, hz, not_false_eq_true, if_false, tmod_nat]
      rw [ih (m % n) hlt n hn (by omega), Nat.gcd_comm m n, Nat.gcd_rec n m, Nat.gcd_comm]
theorem s_part {a b : Int} (ha : -4611686018427387904 ≤ a ∧ a ≤ 4611686018427387904) (hb : -4611686018427387904 ≤ b ∧ b ≤ 4611686018427387904) (g : px_G) : cl k_Dm_part [.long (iJ a), .long (iJ b)] g = some (some (.long (iJ ((Int.gcd a b : Nat) : Int))), g) := by
  simp only [c_Dm_part, e_Dm_part_0, e_Dm_part_1, e_Dm_part_4, e_Dm_part_6, e_Dm_part_7, e_Dm_part_10, bd_some, bd_none, Option.toList_some, Option.toList_none, List.nil_append, List.cons_append, px_kill_int, px_kill_long, px_kill_ref, px_kill_null, s_farJ ha, s_farJ hb]
  rw [lp_part _ _ _ _ _ (by omega) (by omega)]
  rfl
theorem mod_half {m n : Nat} (h : n ≤ m) (hn : 0 < n) : 2 * (m % n) ≤ m := by
  have h1 := Nat.mod_lt m hn
  have h2 := Nat.div_add_mod m n
  have h3 : 1 ≤ m / n := (Nat.one_le_div_iff hn).mpr h
  have h4 : n * 1 ≤ n * (m / n) := Nat.mul_le_mul_left n h3
  omega
/-- a step of the loop -/
theorem st_commonPart (p0 q0 : Int64) (g : px_G) {n m : Nat} (hm : m ≤ 4611686018427387904) (hn : n ≤ 4611686018427387904) (h0 : ¬ n = 0) {i : Nat} (hi : i < 200) (a9 a10 : Value) : rn k_Ds_commonPart 15 [.long p0, .null, .long q0, .null, .long (iJ (m : Int)), .null, .long (iJ (n : Int)), .null, .int (iI (i : Int)), a9, a10] [] g = rn k_Ds_commonPart 15 [.long p0, .null, .long q0, .null, .long (iJ (n : Int)), .null, .long (iJ ((m % n : Nat) : Int)), .null, .int (iI ((i + 1 : Nat) : Int)), .long (iJ ((m % n : Nat) : Int)), .null] [] g := by
  rw [e_Ds_commonPart_15]
  have hz : ¬ (n : Int) = 0 := by omega
  have hii : ¬ (200 : Int) ≤ (i : Int) := by omega
  simp (disch := first | omega | assumption | decide | (simp (disch := omega) only [iI_lit, iJ_lit, iJ_eq, iI_eq, bI_01, bI_01I] <;> omega)) only [e_Ds_commonPart_17, e_Ds_commonPart_20, e_Ds_commonPart_23, e_Ds_commonPart_25, e_Ds_commonPart_26, e_Ds_commonPart_27, e_Ds_commonPart_30, e_Ds_commonPart_32, e_Ds_commonPart_34, e_Ds_commonPart_35, e_Ds_commonPart_37, e_Ds_commonPart_39, e_Ds_commonPart_41, e_Ds_commonPart_43, e_Ds_commonPart_45, e_Ds_commonPart_48, e_Ds_commonPart_51, e_Ds_commonPart_53, bd_some, bd_none, Option.toList_some, Option.toList_none, List.nil_append, List.cons_append, px_kill_int, px_kill_long, px_kill_ref, px_kill_null, iI_lit, iJ_lit, iI_add, iI_sub, iI_mul, iI_neg, iJ_add, iJ_sub, iJ_mul, iJ_neg, iI_lt, iI_le, iI_eq, iJ_lt, iJ_le, iJ_eq, iI_div, iJ_div, tdiv_tmod, iI_J, iJ_I, iI_ix, iI_toInt, iJ_toInt, cmp_ge, cmp_lt, cmp_eq, cmp_gt, cmp_le, cmp_geI, cmp_ltI, cmp_eqI, cmp_gtI, cmp_leI, bI_0I, bI_1I, pin, if_true, hz, hii, if_false, tmod_nat, Int.natCast_add, Int.cast_ofNat_Int]
theorem en_commonPart (p0 q0 : Int64) (g : px_G) {m : Nat} (hm : m ≤ 4611686018427387904) {i : Nat} (hi : i ≤ 200) (a9 a10 : Value) : rn k_Ds_commonPart 15 [.long p0, .null, .long q0, .null, .long (iJ (m : Int)), .null, .long (iJ ((0 : Nat) : Int)), .null, .int (iI (i : Int)), a9, a10] [] g = some (some (.long (iJ (m : Int))), g) := by
  rw [e_Ds_commonPart_15]
  simp (disch := first | omega | assumption | decide | (simp (disch := omega) only [iI_lit, iJ_lit, iJ_eq, iI_eq, bI_01, bI_01I] <;> omega)) only [e_Ds_commonPart_17, e_Ds_commonPart_20, e_Ds_commonPart_23, e_Ds_commonPart_25, e_Ds_commonPart_26, e_Ds_commonPart_27, e_Ds_commonPart_30, e_Ds_commonPart_32, e_Ds_commonPart_34, e_Ds_commonPart_35, e_Ds_commonPart_37, e_Ds_commonPart_39, e_Ds_commonPart_41, e_Ds_commonPart_43, e_Ds_commonPart_45, e_Ds_commonPart_48, e_Ds_commonPart_51, e_Ds_commonPart_53, bd_some, bd_none, Option.toList_some, Option.toList_none, List.nil_append, List.cons_append, px_kill_int, px_kill_long, px_kill_ref, px_kill_null, iI_lit, iJ_lit, iI_add, iI_sub, iI_mul, iI_neg, iJ_add, iJ_sub, iJ_mul, iJ_neg, iI_lt, iI_le, iI_eq, iJ_lt, iJ_le, iJ_eq, iI_div, iJ_div, tdiv_tmod, iI_J, iJ_I, iI_ix, iI_toInt, iJ_toInt, cmp_ge, cmp_lt, cmp_eq, cmp_gt, cmp_le, cmp_geI, cmp_ltI, cmp_eqI, cmp_gtI, cmp_leI, bI_0I, bI_1I, pin, if_true, Int.natCast_zero, if_true, ite_self]
theorem lp_commonPart (p0 q0 : Int64) (g : px_G) : ∀ (k n m : Nat), m ≤ 4611686018427387904 → n ≤ 4611686018427387904 → n ≤ m → m * n < 2 ^ k → ∀ (i : Nat) (a9 a10 : Value), i + k ≤ 200 → rn k_Ds_commonPart 15 [.long p0, .null, .long q0, .null, .long (iJ (m : Int)), .null, .long (iJ (n : Int)), .null, .int (iI (i : Int)), a9, a10] [] g = some (some (.long (iJ ((Nat.gcd m n : Nat) : Int))), g) := by
  intro k
  induction k with
  | zero =>
    intro n m hm hn hnm hk i a9 a10 hi
    have h0 : n = 0 := by
      rcases Nat.eq_zero_or_pos n with h | h
      · exact h
      · have : 1 * 1 ≤ m * n := Nat.mul_le_mul (by omega) h
        omega
    subst h0
    rw [en_commonPart p0 q0 g hm (by omega), Nat.gcd_zero_right]
  | succ k ih =>
    intro n m hm hn hnm hk i a9 a10 hi
    by_cases h0 : n = 0
    · subst h0
      rw [en_commonPart p0 q0 g hm (by omega), Nat.gcd_zero_right]
    · have hp : 0 < n := Nat.pos_of_ne_zero h0
      have hlt := Nat.mod_lt m hp
      have hh := mod_half hnm hp
      rw [st_commonPart p0 q0 g hm hn h0 (by omega)]
      rw [ih (m % n) n hn (by omega) (by omega) ?_ (i + 1) _ _ (by omega)]
      · rw [Nat.gcd_comm m n, Nat.gcd_rec n m, Nat.gcd_comm]
      · have h1 : n * (2 * (m % n)) ≤ n * m := Nat.mul_le_mul_left n hh
        have h2 : n * (2 * (m % n)) = 2 * (n * (m % n)) := by rw [Nat.mul_left_comm]
        have h3 : n * m = m * n := Nat.mul_comm n m
        have h4 : 2 ^ (k + 1) = 2 * 2 ^ k := by rw [Nat.pow_succ, Nat.mul_comm]
        omega
theorem lp_commonPart2 (p0 q0 : Int64) (g : px_G) (n m : Nat) (hm : m ≤ 4611686018427387904) (hn : n ≤ 4611686018427387904) (a9 a10 : Value) : rn k_Ds_commonPart 15 [.long p0, .null, .long q0, .null, .long (iJ (m : Int)), .null, .long (iJ (n : Int)), .null, .int (iI ((0 : Nat) : Int)), a9, a10] [] g = some (some (.long (iJ ((Nat.gcd m n : Nat) : Int))), g) := by
  by_cases h0 : n = 0
  · subst h0
    rw [en_commonPart p0 q0 g hm (by omega), Nat.gcd_zero_right]
  · have hp : 0 < n := Nat.pos_of_ne_zero h0
    have hlt := Nat.mod_lt m hp
    rw [st_commonPart p0 q0 g hm hn h0 (by omega), lp_commonPart p0 q0 g 125 (m % n) n hn (by omega) (by omega) ?_ _ _ _ (by omega)]
    · rw [Nat.gcd_comm m n, Nat.gcd_rec n m, Nat.gcd_comm]
    · have : n * (m % n) ≤ 4611686018427387904 * 4611686018427387904 := Nat.mul_le_mul hn (by omega)
      omega
theorem s_commonPart {a b : Int} (ha : -4611686018427387904 ≤ a ∧ a ≤ 4611686018427387904) (hb : -4611686018427387904 ≤ b ∧ b ≤ 4611686018427387904) (g : px_G) : cl k_Ds_commonPart [.long (iJ a), .long (iJ b)] g = some (some (.long (iJ ((Int.gcd a b : Nat) : Int))), g) := by
  simp only [c_Ds_commonPart, e_Ds_commonPart_0, e_Ds_commonPart_1, e_Ds_commonPart_4, e_Ds_commonPart_6, e_Ds_commonPart_7, e_Ds_commonPart_10, e_Ds_commonPart_12, e_Ds_commonPart_13, bd_some, bd_none, Option.toList_some, Option.toList_none, List.nil_append, List.cons_append, px_kill_int, px_kill_long, px_kill_ref, px_kill_null, s_absJ2 ha, s_absJ2 hb]
  exact lp_commonPart2 _ _ _ b.natAbs a.natAbs (by omega) (by omega) _ _
