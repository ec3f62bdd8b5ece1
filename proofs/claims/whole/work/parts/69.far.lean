/-! beat and far on both sides; roots. -/
def bitv : Nat → Int
  | 0 => 0
  | k + 1 => (2 : Int) ^ k
def rt (n : Int) : Nat → Int → Int
  | 0, r => r
  | k + 1, r => rt n k (if (r + (2 : Int) ^ k) * (r + (2 : Int) ^ k) ≤ n then r + (2 : Int) ^ k else r)
theorem rt_s (n : Int) (k : Nat) (r : Int) : rt n (k + 1) r = rt n k (if (r + (2 : Int) ^ k) * (r + (2 : Int) ^ k) ≤ n then r + (2 : Int) ^ k else r) := rfl
theorem rt_sp (n : Int) : ∀ (k : Nat) (r : Int), 0 ≤ r → r * r ≤ n → n < (r + (2 : Int) ^ k) * (r + (2 : Int) ^ k) → 0 ≤ rt n k r ∧ rt n k r * rt n k r ≤ n ∧ n < (rt n k r + 1) * (rt n k r + 1) := by
  intro k
  induction k with
  | zero => intro r h0 h1 h2; exact ⟨h0, h1, h2⟩
  | succ k ih =>
    intro r h0 h1 h2
    have hp : (0 : Int) < (2 : Int) ^ k := Int.pow_pos (by omega)
    have e : (2 : Int) ^ (k + 1) = (2 : Int) ^ k + (2 : Int) ^ k := by rw [Int.pow_succ]; omega
    rw [e] at h2
    rw [rt_s]
    generalize (2 : Int) ^ k = B at *
    by_cases c : (r + B) * (r + B) ≤ n
    · rw [if_pos c]; exact ih (r + B) (by omega) c (by rw [Int.add_assoc]; exact h2)
    · rw [if_neg c]; exact ih r h0 h1 (by omega)
theorem rt_one {n a b : Int} (ha : 0 ≤ a ∧ a * a ≤ n ∧ n < (a + 1) * (a + 1)) (hb : 0 ≤ b ∧ b * b ≤ n ∧ n < (b + 1) * (b + 1)) : a = b := by
  have key : ∀ x y : Int, 0 ≤ x → 0 ≤ y → x * x ≤ n → n < (y + 1) * (y + 1) → x ≤ y := by
    intro x y hx hy h1 h2
    apply Classical.byContradiction
    intro hc
    have : (y + 1) * (y + 1) ≤ x * x := Int.mul_le_mul (by omega) (by omega) (by omega) (by omega)
    omega
  have h1 := key a b ha.1 hb.1 ha.2.1 hb.2.2
  have h2 := key b a hb.1 ha.1 hb.2.1 ha.2.2
  omega
theorem shr1 : ∀ k : Nat, k < 31 → iJ ((2 : Int) ^ k) >>> (iJ 1 &&& iJ 63) = iJ (bitv k) := by decide +kernel
set_option maxHeartbeats 1000000 in
theorem st_root {n r B B' : Int} (hn : 0 ≤ n ∧ n ≤ 4611686018427387904) (hr : 0 ≤ r ∧ r ≤ 2147483648) (hB : 0 < B ∧ B ≤ 2147483648) (hs : iJ B >>> (iJ 1 &&& iJ 63) = iJ B') (hm : 0 ≤ (r + B) * (r + B) ∧ (r + B) * (r + B) ≤ 4611686018427387904) (g : px_G) : rn k_Ds_rootOf 7 [.long (iJ n), .null, .long (iJ r), .null, .long (iJ B), .null] [] g = rn k_Ds_rootOf 7 [.long (iJ n), .null, .long (iJ (if (r + B) * (r + B) ≤ n then r + B else r)), .null, .long (iJ B'), .null] [] g := by
  have c0 : ¬ B ≤ 0 := by omega
  rw [e_Ds_rootOf_7]
  by_cases c : (r + B) * (r + B) ≤ n
  · have c1 : ¬ n < (r + B) * (r + B) := by omega
    rw [if_pos c]
    simp (disch := first | omega | assumption | decide | (simp (disch := omega) only [iI_lit, iJ_lit, iJ_eq, iI_eq, bI_01, bI_01I] <;> omega)) only [e_Ds_rootOf_9, e_Ds_rootOf_10, e_Ds_rootOf_11, e_Ds_rootOf_14, e_Ds_rootOf_15, e_Ds_rootOf_17, e_Ds_rootOf_18, e_Ds_rootOf_19, e_Ds_rootOf_21, e_Ds_rootOf_22, e_Ds_rootOf_23, e_Ds_rootOf_24, e_Ds_rootOf_25, e_Ds_rootOf_28, e_Ds_rootOf_29, e_Ds_rootOf_31, e_Ds_rootOf_32, e_Ds_rootOf_33, e_Ds_rootOf_35, e_Ds_rootOf_36, e_Ds_rootOf_37, e_Ds_rootOf_39, bd_some, bd_none, Option.toList_some, Option.toList_none, List.nil_append, List.cons_append, px_kill_int, px_kill_long, px_kill_ref, px_kill_null, iI_lit, iJ_lit, iI_add, iI_sub, iI_mul, iI_neg, iJ_add, iJ_sub, iJ_mul, iJ_neg, iI_lt, iI_le, iI_eq, iJ_lt, iJ_le, iJ_eq, iI_div, iJ_div, tdiv_tmod, iI_J, iJ_I, iI_ix, iI_toInt, iJ_toInt, cmp_ge, cmp_lt, cmp_eq, cmp_gt, cmp_le, cmp_geI, cmp_ltI, cmp_eqI, cmp_gtI, cmp_leI, bI_0I, bI_1I, pin, if_true, c0, c1, if_false, hs]
  · have c1 : n < (r + B) * (r + B) := by omega
    rw [if_neg c]
    simp (disch := first | omega | assumption | decide | (simp (disch := omega) only [iI_lit, iJ_lit, iJ_eq, iI_eq, bI_01, bI_01I] <;> omega)) only [e_Ds_rootOf_9, e_Ds_rootOf_10, e_Ds_rootOf_11, e_Ds_rootOf_14, e_Ds_rootOf_15, e_Ds_rootOf_17, e_Ds_rootOf_18, e_Ds_rootOf_19, e_Ds_rootOf_21, e_Ds_rootOf_22, e_Ds_rootOf_23, e_Ds_rootOf_24, e_Ds_rootOf_25, e_Ds_rootOf_28, e_Ds_rootOf_29, e_Ds_rootOf_31, e_Ds_rootOf_32, e_Ds_rootOf_33, e_Ds_rootOf_35, e_Ds_rootOf_36, e_Ds_rootOf_37, e_Ds_rootOf_39, bd_some, bd_none, Option.toList_some, Option.toList_none, List.nil_append, List.cons_append, px_kill_int, px_kill_long, px_kill_ref, px_kill_null, iI_lit, iJ_lit, iI_add, iI_sub, iI_mul, iI_neg, iJ_add, iJ_sub, iJ_mul, iJ_neg, iI_lt, iI_le, iI_eq, iJ_lt, iJ_le, iJ_eq, iI_div, iJ_div, tdiv_tmod, iI_J, iJ_I, iI_ix, iI_toInt, iJ_toInt, cmp_ge, cmp_lt, cmp_eq, cmp_gt, cmp_le, cmp_geI, cmp_ltI, cmp_eqI, cmp_gtI, cmp_leI, bI_0I, bI_1I, pin, if_true, c0, c1, if_false, hs]
set_option maxHeartbeats 1000000 in
theorem st_mroot {n r B B' : Int} (hn : 0 ≤ n ∧ n ≤ 4611686018427387904) (hr : 0 ≤ r ∧ r ≤ 2147483648) (hB : 0 < B ∧ B ≤ 2147483648) (hs : iJ B >>> (iJ 1 &&& iJ 63) = iJ B') (hm : 0 ≤ (r + B) * (r + B) ∧ (r + B) * (r + B) ≤ 4611686018427387904) (g : px_G) : rn k_Dm_rootOf 7 [.long (iJ n), .null, .long (iJ r), .null, .long (iJ B), .null] [] g = rn k_Dm_rootOf 7 [.long (iJ n), .null, .long (iJ (if (r + B) * (r + B) ≤ n then r + B else r)), .null, .long (iJ B'), .null] [] g := by
  have c0 : ¬ B ≤ 0 := by omega
  rw [e_Dm_rootOf_7]
  by_cases c : (r + B) * (r + B) ≤ n
  · have c1 : ¬ n < (r + B) * (r + B) := by omega
    rw [if_pos c]
    simp (disch := first | omega | assumption | decide | (simp (disch := omega) only [iI_lit, iJ_lit, iJ_eq, iI_eq, bI_01, bI_01I] <;> omega)) only [e_Dm_rootOf_9, e_Dm_rootOf_10, e_Dm_rootOf_11, e_Dm_rootOf_14, e_Dm_rootOf_15, e_Dm_rootOf_16, e_Dm_rootOf_18, e_Dm_rootOf_19, e_Dm_rootOf_20, e_Dm_rootOf_22, e_Dm_rootOf_23, e_Dm_rootOf_24, e_Dm_rootOf_25, e_Dm_rootOf_26, e_Dm_rootOf_29, e_Dm_rootOf_31, e_Dm_rootOf_34, e_Dm_rootOf_35, e_Dm_rootOf_36, e_Dm_rootOf_37, e_Dm_rootOf_39, e_Dm_rootOf_40, e_Dm_rootOf_41, e_Dm_rootOf_43, bd_some, bd_none, Option.toList_some, Option.toList_none, List.nil_append, List.cons_append, px_kill_int, px_kill_long, px_kill_ref, px_kill_null, iI_lit, iJ_lit, iI_add, iI_sub, iI_mul, iI_neg, iJ_add, iJ_sub, iJ_mul, iJ_neg, iI_lt, iI_le, iI_eq, iJ_lt, iJ_le, iJ_eq, iI_div, iJ_div, tdiv_tmod, iI_J, iJ_I, iI_ix, iI_toInt, iJ_toInt, cmp_ge, cmp_lt, cmp_eq, cmp_gt, cmp_le, cmp_geI, cmp_ltI, cmp_eqI, cmp_gtI, cmp_leI, bI_0I, bI_1I, pin, if_true, c0, c1, if_false, hs]
  · have c1 : n < (r + B) * (r + B) := by omega
    rw [if_neg c]
    simp (disch := first | omega | assumption | decide | (simp (disch := omega) only [iI_lit, iJ_lit, iJ_eq, iI_eq, bI_01, bI_01I] <;> omega)) only [e_Dm_rootOf_9, e_Dm_rootOf_10, e_Dm_rootOf_11, e_Dm_rootOf_14, e_Dm_rootOf_15, e_Dm_rootOf_16, e_Dm_rootOf_18, e_Dm_rootOf_19, e_Dm_rootOf_20, e_Dm_rootOf_22, e_Dm_rootOf_23, e_Dm_rootOf_24, e_Dm_rootOf_25, e_Dm_rootOf_26, e_Dm_rootOf_29, e_Dm_rootOf_31, e_Dm_rootOf_34, e_Dm_rootOf_35, e_Dm_rootOf_36, e_Dm_rootOf_37, e_Dm_rootOf_39, e_Dm_rootOf_40, e_Dm_rootOf_41, e_Dm_rootOf_43, bd_some, bd_none, Option.toList_some, Option.toList_none, List.nil_append, List.cons_append, px_kill_int, px_kill_long, px_kill_ref, px_kill_null, iI_lit, iJ_lit, iI_add, iI_sub, iI_mul, iI_neg, iJ_add, iJ_sub, iJ_mul, iJ_neg, iI_lt, iI_le, iI_eq, iJ_lt, iJ_le, iJ_eq, iI_div, iJ_div, tdiv_tmod, iI_J, iJ_I, iI_ix, iI_toInt, iJ_toInt, cmp_ge, cmp_lt, cmp_eq, cmp_gt, cmp_le, cmp_geI, cmp_ltI, cmp_eqI, cmp_gtI, cmp_leI, bI_0I, bI_1I, pin, if_true, c0, c1, if_false, hs, Int.add_zero]
theorem pow_le31 {k : Nat} (h : k ≤ 31) : (0 : Int) < (2 : Int) ^ k ∧ (2 : Int) ^ k ≤ 2147483648 := by
  refine ⟨Int.pow_pos (by omega), ?_⟩
  have : (2 : Nat) ^ k ≤ 2 ^ 31 := Nat.pow_le_pow_right (by omega) h
  have e : ((2 ^ k : Nat) : Int) = (2 : Int) ^ k := by rw [Int.natCast_pow]; rfl
  have e2 : (2 : Nat) ^ 31 = 2147483648 := by decide
  omega
theorem sq31 {z : Int} (h : 0 ≤ z ∧ z ≤ 2147483648) : 0 ≤ z * z ∧ z * z ≤ 4611686018427387904 := by
  have := sq_bd (u := z) (N := 2147483648) h
  omega
theorem lp_root {n : Int} (hn : 0 ≤ n ∧ n ≤ 4611686018427387904) (g : px_G) : ∀ (k : Nat) (r : Int), k ≤ 31 → 0 ≤ r → r + (2 : Int) ^ k ≤ 2147483648 → rn k_Ds_rootOf 7 [.long (iJ n), .null, .long (iJ r), .null, .long (iJ (bitv k)), .null] [] g = some (some (.long (iJ (rt n k r))), g) := by
  intro k
  induction k with
  | zero =>
    intro r hk h0 h1
    rw [e_Ds_rootOf_7]
    simp (disch := first | omega | assumption | decide | (simp (disch := omega) only [iI_lit, iJ_lit, iJ_eq, iI_eq, bI_01, bI_01I] <;> omega)) only [e_Ds_rootOf_9, e_Ds_rootOf_10, e_Ds_rootOf_11, e_Ds_rootOf_14, e_Ds_rootOf_15, e_Ds_rootOf_17, e_Ds_rootOf_18, e_Ds_rootOf_19, e_Ds_rootOf_21, e_Ds_rootOf_22, e_Ds_rootOf_23, e_Ds_rootOf_24, e_Ds_rootOf_25, e_Ds_rootOf_28, e_Ds_rootOf_29, e_Ds_rootOf_31, e_Ds_rootOf_32, e_Ds_rootOf_33, e_Ds_rootOf_35, e_Ds_rootOf_36, e_Ds_rootOf_37, e_Ds_rootOf_39, bd_some, bd_none, Option.toList_some, Option.toList_none, List.nil_append, List.cons_append, px_kill_int, px_kill_long, px_kill_ref, px_kill_null, iI_lit, iJ_lit, iI_add, iI_sub, iI_mul, iI_neg, iJ_add, iJ_sub, iJ_mul, iJ_neg, iI_lt, iI_le, iI_eq, iJ_lt, iJ_le, iJ_eq, iI_div, iJ_div, tdiv_tmod, iI_J, iJ_I, iI_ix, iI_toInt, iJ_toInt, cmp_ge, cmp_lt, cmp_eq, cmp_gt, cmp_le, cmp_geI, cmp_ltI, cmp_eqI, cmp_gtI, cmp_leI, bI_0I, bI_1I, pin, if_true, bitv, Int.le_refl]
    simp (disch := first | omega | assumption | decide | (simp (disch := omega) only [iI_lit, iJ_lit, iJ_eq, iI_eq, bI_01, bI_01I] <;> omega)) only [e_Ds_rootOf_42, e_Ds_rootOf_43, bd_some, bd_none, Option.toList_some, Option.toList_none, List.nil_append, List.cons_append, px_kill_int, px_kill_long, px_kill_ref, px_kill_null, iI_lit, iJ_lit, iI_add, iI_sub, iI_mul, iI_neg, iJ_add, iJ_sub, iJ_mul, iJ_neg, iI_lt, iI_le, iI_eq, iJ_lt, iJ_le, iJ_eq, iI_div, iJ_div, tdiv_tmod, iI_J, iJ_I, iI_ix, iI_toInt, iJ_toInt, cmp_ge, cmp_lt, cmp_eq, cmp_gt, cmp_le, cmp_geI, cmp_ltI, cmp_eqI, cmp_gtI, cmp_leI, bI_0I, bI_1I, pin, if_true]
    rfl
  | succ k ih =>
    intro r hk h0 h1
    have p := pow_le31 (k := k) (by omega)
    have e : (2 : Int) ^ (k + 1) = (2 : Int) ^ k + (2 : Int) ^ k := by rw [Int.pow_succ]; omega
    rw [e] at h1
    have hs := shr1 k (by omega)
    rw [show bitv (k + 1) = (2 : Int) ^ k from rfl]
    rw [st_root hn (by omega) p hs (sq31 (by omega)) g]
    rw [rt_s]
    apply ih _ (by omega)
    · split <;> omega
    · split <;> omega
theorem lp_mroot {n : Int} (hn : 0 ≤ n ∧ n ≤ 4611686018427387904) (g : px_G) : ∀ (k : Nat) (r : Int), k ≤ 31 → 0 ≤ r → r + (2 : Int) ^ k ≤ 2147483648 → rn k_Dm_rootOf 7 [.long (iJ n), .null, .long (iJ r), .null, .long (iJ (bitv k)), .null] [] g = some (some (.long (iJ (rt n k r))), g) := by
  intro k
  induction k with
  | zero =>
    intro r hk h0 h1
    rw [e_Dm_rootOf_7]
    simp (disch := first | omega | assumption | decide | (simp (disch := omega) only [iI_lit, iJ_lit, iJ_eq, iI_eq, bI_01, bI_01I] <;> omega)) only [e_Dm_rootOf_9, e_Dm_rootOf_10, e_Dm_rootOf_11, e_Dm_rootOf_14, e_Dm_rootOf_15, e_Dm_rootOf_16, e_Dm_rootOf_18, e_Dm_rootOf_19, e_Dm_rootOf_20, e_Dm_rootOf_22, e_Dm_rootOf_23, e_Dm_rootOf_24, e_Dm_rootOf_25, e_Dm_rootOf_26, e_Dm_rootOf_29, e_Dm_rootOf_31, e_Dm_rootOf_34, e_Dm_rootOf_35, e_Dm_rootOf_36, e_Dm_rootOf_37, e_Dm_rootOf_39, e_Dm_rootOf_40, e_Dm_rootOf_41, e_Dm_rootOf_43, bd_some, bd_none, Option.toList_some, Option.toList_none, List.nil_append, List.cons_append, px_kill_int, px_kill_long, px_kill_ref, px_kill_null, iI_lit, iJ_lit, iI_add, iI_sub, iI_mul, iI_neg, iJ_add, iJ_sub, iJ_mul, iJ_neg, iI_lt, iI_le, iI_eq, iJ_lt, iJ_le, iJ_eq, iI_div, iJ_div, tdiv_tmod, iI_J, iJ_I, iI_ix, iI_toInt, iJ_toInt, cmp_ge, cmp_lt, cmp_eq, cmp_gt, cmp_le, cmp_geI, cmp_ltI, cmp_eqI, cmp_gtI, cmp_leI, bI_0I, bI_1I, pin, if_true, bitv, Int.le_refl]
    simp (disch := first | omega | assumption | decide | (simp (disch := omega) only [iI_lit, iJ_lit, iJ_eq, iI_eq, bI_01, bI_01I] <;> omega)) only [e_Dm_rootOf_46, e_Dm_rootOf_47, bd_some, bd_none, Option.toList_some, Option.toList_none, List.nil_append, List.cons_append, px_kill_int, px_kill_long, px_kill_ref, px_kill_null, iI_lit, iJ_lit, iI_add, iI_sub, iI_mul, iI_neg, iJ_add, iJ_sub, iJ_mul, iJ_neg, iI_lt, iI_le, iI_eq, iJ_lt, iJ_le, iJ_eq, iI_div, iJ_div, tdiv_tmod, iI_J, iJ_I, iI_ix, iI_toInt, iJ_toInt, cmp_ge, cmp_lt, cmp_eq, cmp_gt, cmp_le, cmp_geI, cmp_ltI, cmp_eqI, cmp_gtI, cmp_leI, bI_0I, bI_1I, pin, if_true]
    rfl
  | succ k ih =>
    intro r hk h0 h1
    have p := pow_le31 (k := k) (by omega)
    have e : (2 : Int) ^ (k + 1) = (2 : Int) ^ k + (2 : Int) ^ k := by rw [Int.pow_succ]; omega
    rw [e] at h1
    have hs := shr1 k (by omega)
    rw [show bitv (k + 1) = (2 : Int) ^ k from rfl]
    rw [st_mroot hn (by omega) p hs (sq31 (by omega)) g]
    rw [rt_s]
    apply ih _ (by omega)
    · split <;> omega
    · split <;> omega
def rot (n : Int) : Int := rt n 21 0
theorem s_rootC {n : Int} (hn : 0 ≤ n ∧ n ≤ 429981696) (g : px_G) : cl k_Ds_rootOf [.long (iJ n)] g = some (some (.long (iJ (rot n))), g) := by
  have h := lp_root (n := n) (by omega) g 31 0 (by omega) (by omega) (by decide)
  have e : rt n 31 0 = rot n := rt_one (rt_sp n 31 0 (by omega) (by omega) (by have : ((0 : Int) + 2 ^ 31) * (0 + 2 ^ 31) = 4611686018427387904 := by decide
                                                                               omega)) (rt_sp n 21 0 (by omega) (by omega) (by have : ((0 : Int) + 2 ^ 21) * (0 + 2 ^ 21) = 4398046511104 := by decide
                                                                                                                               omega))
  rw [← e]
  have eb : bitv 31 = 1073741824 := by decide
  rw [eb] at h
  simp (disch := first | omega | assumption | decide | (simp (disch := omega) only [iI_lit, iJ_lit, iJ_eq, iI_eq, bI_01, bI_01I] <;> omega)) only [c_Ds_rootOf, e_Ds_rootOf_0, e_Ds_rootOf_1, e_Ds_rootOf_2, e_Ds_rootOf_5, bd_some, bd_none, Option.toList_some, Option.toList_none, List.nil_append, List.cons_append, px_kill_int, px_kill_long, px_kill_ref, px_kill_null, iI_lit, iJ_lit, iI_add, iI_sub, iI_mul, iI_neg, iJ_add, iJ_sub, iJ_mul, iJ_neg, iI_lt, iI_le, iI_eq, iJ_lt, iJ_le, iJ_eq, iI_div, iJ_div, tdiv_tmod, iI_J, iJ_I, iI_ix, iI_toInt, iJ_toInt, cmp_ge, cmp_lt, cmp_eq, cmp_gt, cmp_le, cmp_geI, cmp_ltI, cmp_eqI, cmp_gtI, cmp_leI, bI_0I, bI_1I, pin, if_true]
  exact h
theorem s_rootM {n : Int} (hn : 0 ≤ n ∧ n ≤ 429981696) (g : px_G) : cl k_Dm_rootOf [.long (iJ n)] g = some (some (.long (iJ (rot n))), g) := by
  have h := lp_mroot (n := n) (by omega) g 21 0 (by omega) (by omega) (by decide)
  have eb : bitv 21 = 1048576 := by decide
  rw [eb] at h
  simp (disch := first | omega | assumption | decide | (simp (disch := omega) only [iI_lit, iJ_lit, iJ_eq, iI_eq, bI_01, bI_01I] <;> omega)) only [c_Dm_rootOf, e_Dm_rootOf_0, e_Dm_rootOf_1, e_Dm_rootOf_2, e_Dm_rootOf_5, bd_some, bd_none, Option.toList_some, Option.toList_none, List.nil_append, List.cons_append, px_kill_int, px_kill_long, px_kill_ref, px_kill_null, iI_lit, iJ_lit, iI_add, iI_sub, iI_mul, iI_neg, iJ_add, iJ_sub, iJ_mul, iJ_neg, iI_lt, iI_le, iI_eq, iJ_lt, iJ_le, iJ_eq, iI_div, iJ_div, tdiv_tmod, iI_J, iJ_I, iI_ix, iI_toInt, iJ_toInt, cmp_ge, cmp_lt, cmp_eq, cmp_gt, cmp_le, cmp_geI, cmp_ltI, cmp_eqI, cmp_gtI, cmp_leI, bI_0I, bI_1I, pin, if_true]
  exact h
