/-! window and densest: the sums. -/
def btN (s : Int) : Int := s % 2 + s / 2 % 2 + s / 4 % 2 + s / 8 % 2
theorem btN_bd (s : Int) : 0 ≤ btN s ∧ btN s ≤ 4 := by unfold btN; omega
theorem s_bitCount {s : Int} (hs : 0 ≤ s ∧ s ≤ 15) (g : px_G) : cl k_Integer_bitCount [.int (iI s)] g = some (some (.int (iI (btN s))), g) := by
  obtain ⟨n, rfl⟩ : ∃ n : Nat, s = (n : Int) := ⟨s.toNat, by omega⟩
  have hn : n < 16 := by omega
  simp only [c_Integer_bitCount, e_Integer_bitCount_0, e_Integer_bitCount_1, e_Integer_bitCount_2, e_Integer_bitCount_3, e_Integer_bitCount_4, e_Integer_bitCount_7, e_Integer_bitCount_8, e_Integer_bitCount_9, e_Integer_bitCount_10, e_Integer_bitCount_11, e_Integer_bitCount_14, e_Integer_bitCount_15, e_Integer_bitCount_16, e_Integer_bitCount_17, e_Integer_bitCount_18, e_Integer_bitCount_21, e_Integer_bitCount_22, e_Integer_bitCount_23, e_Integer_bitCount_24, e_Integer_bitCount_25, e_Integer_bitCount_26, e_Integer_bitCount_27, e_Integer_bitCount_28, e_Integer_bitCount_29, e_Integer_bitCount_32, e_Integer_bitCount_33, e_Integer_bitCount_34, e_Integer_bitCount_35, e_Integer_bitCount_36, e_Integer_bitCount_38, e_Integer_bitCount_39, e_Integer_bitCount_40, e_Integer_bitCount_41, e_Integer_bitCount_42, e_Integer_bitCount_43, e_Integer_bitCount_45, e_Integer_bitCount_46, e_Integer_bitCount_47, e_Integer_bitCount_48, e_Integer_bitCount_49, e_Integer_bitCount_51, e_Integer_bitCount_52, bd_some, bd_none, Option.toList_some, Option.toList_none, List.nil_append, List.cons_append, px_kill_int, px_kill_long, px_kill_ref, px_kill_null]
  refine congrArg (fun z => some (some (Value.int z), g)) ?_
  clear hs
  revert n
  decide
set_option maxHeartbeats 1000000 in
theorem s_bits {s : Int} (hs : 0 ≤ s ∧ s ≤ 15) (g : px_G) : cl k_Dm_bits [.int (iI s)] g = some (some (.int (iI (btN s))), g) := by
  obtain ⟨n, rfl⟩ : ∃ n : Nat, s = (n : Int) := ⟨s.toNat, by omega⟩
  have hn : n < 16 := by omega
  have step : ∀ (i : Int) (a : Int32), 0 ≤ i → i < 4 → rn k_Dm_bits 4 [.int (iI (n : Int)), .int a, .int (iI i)] [] g = rn k_Dm_bits 4 [.int (iI (n : Int)), .int (a + ((iI (n : Int) >>> (iI i &&& iI 31)) &&& iI 1)), .int (iI (i + 1))] [] g := by
    intro i a h1 h2
    have n4 : ¬ (4 : Int) ≤ i := by omega
    rw [e_Dm_bits_4]
    simp (disch := first | omega | assumption | decide | (simp (disch := omega) only [iI_lit, iJ_lit, iJ_eq, iI_eq, bI_01, bI_01I] <;> omega)) only [e_Dm_bits_5, e_Dm_bits_6, e_Dm_bits_9, e_Dm_bits_10, e_Dm_bits_11, e_Dm_bits_12, e_Dm_bits_13, e_Dm_bits_14, e_Dm_bits_15, e_Dm_bits_16, e_Dm_bits_17, e_Dm_bits_20, e_Dm_bits_23, bd_some, bd_none, Option.toList_some, Option.toList_none, List.nil_append, List.cons_append, px_kill_int, px_kill_long, px_kill_ref, px_kill_null, iI_lit, iJ_lit, iI_add, iI_sub, iI_mul, iI_neg, iJ_add, iJ_sub, iJ_mul, iJ_neg, iI_lt, iI_le, iI_eq, iJ_lt, iJ_le, iJ_eq, iI_div, iJ_div, tdiv_tmod, iI_J, iJ_I, iI_ix, iI_toInt, iJ_toInt, cmp_ge, cmp_lt, cmp_eq, cmp_gt, cmp_le, cmp_geI, cmp_ltI, cmp_eqI, cmp_gtI, cmp_leI, bI_0I, bI_1I, pin, if_true, n4, if_false]
  have last : ∀ a : Int32, rn k_Dm_bits 4 [.int (iI (n : Int)), .int a, .int (iI 4)] [] g = some (some (.int a), g) := by
    intro a
    rw [e_Dm_bits_4]
    simp (disch := first | omega | assumption | decide | (simp (disch := omega) only [iI_lit, iJ_lit, iJ_eq, iI_eq, bI_01, bI_01I] <;> omega)) only [e_Dm_bits_5, e_Dm_bits_6, e_Dm_bits_9, e_Dm_bits_10, e_Dm_bits_11, e_Dm_bits_12, e_Dm_bits_13, e_Dm_bits_14, e_Dm_bits_15, e_Dm_bits_16, e_Dm_bits_17, e_Dm_bits_20, e_Dm_bits_23, e_Dm_bits_24, bd_some, bd_none, Option.toList_some, Option.toList_none, List.nil_append, List.cons_append, px_kill_int, px_kill_long, px_kill_ref, px_kill_null, iI_lit, iJ_lit, iI_add, iI_sub, iI_mul, iI_neg, iJ_add, iJ_sub, iJ_mul, iJ_neg, iI_lt, iI_le, iI_eq, iJ_lt, iJ_le, iJ_eq, iI_div, iJ_div, tdiv_tmod, iI_J, iJ_I, iI_ix, iI_toInt, iJ_toInt, cmp_ge, cmp_lt, cmp_eq, cmp_gt, cmp_le, cmp_geI, cmp_ltI, cmp_eqI, cmp_gtI, cmp_leI, bI_0I, bI_1I, pin, if_true, Int.le_refl]
  simp only [c_Dm_bits, e_Dm_bits_0, e_Dm_bits_1, e_Dm_bits_2, e_Dm_bits_3, bd_some, bd_none, Option.toList_some, Option.toList_none, List.nil_append, List.cons_append, px_kill_int, px_kill_long, px_kill_ref, px_kill_null, iI_lit]
  refine (step 0 _ (by omega) (by omega)).trans ((step 1 _ (by omega) (by omega)).trans ((step 2 _ (by omega) (by omega)).trans ((step 3 _ (by omega) (by omega)).trans ((last _).trans ?_))))
  refine congrArg (fun z => some (some (Value.int z), g)) ?_
  clear hs step last
  revert n
  decide
/-! sums -/
def sm (g : Nat → Int) : Nat → Int
  | 0 => 0
  | m + 1 => sm g m + g m
theorem sm_cong {g g' : Nat → Int} : ∀ m, (∀ i, i < m → g i = g' i) → sm g m = sm g' m := by
  intro m
  induction m with
  | zero => intro _; rfl
  | succ m ih => intro h; unfold sm; rw [ih (fun i hi => h i (by omega)), h m (by omega)]
theorem sm_nn {g : Nat → Int} : ∀ m, (∀ i, i < m → 0 ≤ g i) → 0 ≤ sm g m := by
  intro m
  induction m with
  | zero => intro _; exact Int.le_refl 0
  | succ m ih => intro h; unfold sm; have := ih (fun i hi => h i (by omega)); have := h m (by omega); omega
theorem sm_le {g : Nat → Int} {b : Int} : ∀ m : Nat, (∀ i, i < m → g i ≤ b) → sm g m ≤ b * m := by
  intro m
  induction m with
  | zero => intro _; unfold sm; omega
  | succ m ih => intro h; unfold sm; have := ih (fun i hi => h i (by omega)); have := h m (by omega); have e : b * ((m + 1 : Nat) : Int) = b * m + b := by grind
                 omega
theorem sm_add (g g' : Nat → Int) : ∀ m, sm (fun i => g i + g' i) m = sm g m + sm g' m := by
  intro m
  induction m with
  | zero => rfl
  | succ m ih => unfold sm; rw [ih]; omega
theorem sm_zero : ∀ m, sm (fun _ => 0) m = 0 := by
  intro m
  induction m with
  | zero => rfl
  | succ m ih => unfold sm; rw [ih]; omega
theorem sm_swap (F : Nat → Nat → Int) (n : Nat) : ∀ m, sm (fun i => sm (fun j => F i j) n) m = sm (fun j => sm (fun i => F i j) m) n := by
  intro m
  induction m with
  | zero => show (0 : Int) = sm (fun _ => 0) n; rw [sm_zero]
  | succ m ih =>
    show sm (fun i => sm (fun j => F i j) n) m + sm (fun j => F m j) n = sm (fun j => sm (fun i => F i j) m + F m j) n
    rw [ih, sm_add]
theorem sm_del (h : Nat → Int) (s0 : Nat) : ∀ m, sm (fun s => if s0 = s then h s else 0) m = if s0 < m then h s0 else 0 := by
  intro m
  induction m with
  | zero => rfl
  | succ m ih =>
    unfold sm
    rw [ih]
    by_cases h1 : s0 < m
    · rw [if_pos h1, if_neg (by omega), if_pos (by omega)]; omega
    · rw [if_neg h1]
      by_cases h2 : s0 = m
      · rw [if_pos h2, if_pos (by omega), h2]; omega
      · rw [if_neg h2, if_neg (by omega)]; rfl
