/-! feed and end of the reference. -/
set_option maxHeartbeats 4000000 in
theorem s_byteOf (a b c d e : Int32) {k : Nat} (hk : k < 20) (g : px_G) : cl k_Dm_byteOf [.int a, .int b, .int c, .int d, .int e, .int (iI (k : Int))] g = some (some (.int (iI (bF a b c d e k))), g) := by
  have z4 : ¬ (4 : Int) = 0 := by omega
  have hr : (k : Int).tmod 4 = ((k % 4 : Nat) : Int) := (Int.ofNat_tmod k 4).symm
  have key : ∀ w : Int32, (w >>> (iI (24 - 8 * ((k % 4 : Nat) : Int)) &&& iI 31)) &&& iI 255 = iI (byk w (k % 4)) := fun w => byk_eq w (k % 4)
  unfold bF
  by_cases c1 : k < 4
  · have d1 : ¬ (4 : Int) ≤ (k : Int) := by omega
    rw [if_pos c1]
    simp (disch := first | omega | assumption | decide | (simp (disch := omega) only [iI_lit, iJ_lit, iJ_eq, iI_eq, bI_01, bI_01I] <;> omega)) only [c_Dm_byteOf, e_Dm_byteOf_0, e_Dm_byteOf_2, e_Dm_byteOf_3, e_Dm_byteOf_6, e_Dm_byteOf_7, e_Dm_byteOf_10, e_Dm_byteOf_12, e_Dm_byteOf_14, e_Dm_byteOf_17, e_Dm_byteOf_18, e_Dm_byteOf_21, e_Dm_byteOf_23, e_Dm_byteOf_25, e_Dm_byteOf_28, e_Dm_byteOf_29, e_Dm_byteOf_32, e_Dm_byteOf_34, e_Dm_byteOf_36, e_Dm_byteOf_39, e_Dm_byteOf_40, e_Dm_byteOf_43, e_Dm_byteOf_45, e_Dm_byteOf_47, e_Dm_byteOf_49, e_Dm_byteOf_51, e_Dm_byteOf_53, e_Dm_byteOf_55, e_Dm_byteOf_56, e_Dm_byteOf_57, e_Dm_byteOf_58, e_Dm_byteOf_59, e_Dm_byteOf_60, e_Dm_byteOf_63, e_Dm_byteOf_64, bd_some, bd_none, Option.toList_some, Option.toList_none, List.nil_append, List.cons_append, px_kill_int, px_kill_long, px_kill_ref, px_kill_null, iI_lit, iJ_lit, iI_add, iI_sub, iI_mul, iI_neg, iJ_add, iJ_sub, iJ_mul, iJ_neg, iI_lt, iI_le, iI_eq, iJ_lt, iJ_le, iJ_eq, iI_div, iJ_div, tdiv_tmod, iI_J, iJ_I, iI_ix, iI_toInt, iJ_toInt, cmp_ge, cmp_lt, cmp_eq, cmp_gt, cmp_le, cmp_geI, cmp_ltI, cmp_eqI, cmp_gtI, cmp_leI, bI_0I, bI_1I, pin, if_true, d1, if_false, hr, key, z4]
  rw [if_neg c1]
  have d1 : (4 : Int) ≤ (k : Int) := by omega
  by_cases c2 : k < 8
  · have d2 : ¬ (8 : Int) ≤ (k : Int) := by omega
    rw [if_pos c2]
    simp (disch := first | omega | assumption | decide | (simp (disch := omega) only [iI_lit, iJ_lit, iJ_eq, iI_eq, bI_01, bI_01I] <;> omega)) only [c_Dm_byteOf, e_Dm_byteOf_0, e_Dm_byteOf_2, e_Dm_byteOf_3, e_Dm_byteOf_6, e_Dm_byteOf_7, e_Dm_byteOf_10, e_Dm_byteOf_12, e_Dm_byteOf_14, e_Dm_byteOf_17, e_Dm_byteOf_18, e_Dm_byteOf_21, e_Dm_byteOf_23, e_Dm_byteOf_25, e_Dm_byteOf_28, e_Dm_byteOf_29, e_Dm_byteOf_32, e_Dm_byteOf_34, e_Dm_byteOf_36, e_Dm_byteOf_39, e_Dm_byteOf_40, e_Dm_byteOf_43, e_Dm_byteOf_45, e_Dm_byteOf_47, e_Dm_byteOf_49, e_Dm_byteOf_51, e_Dm_byteOf_53, e_Dm_byteOf_55, e_Dm_byteOf_56, e_Dm_byteOf_57, e_Dm_byteOf_58, e_Dm_byteOf_59, e_Dm_byteOf_60, e_Dm_byteOf_63, e_Dm_byteOf_64, bd_some, bd_none, Option.toList_some, Option.toList_none, List.nil_append, List.cons_append, px_kill_int, px_kill_long, px_kill_ref, px_kill_null, iI_lit, iJ_lit, iI_add, iI_sub, iI_mul, iI_neg, iJ_add, iJ_sub, iJ_mul, iJ_neg, iI_lt, iI_le, iI_eq, iJ_lt, iJ_le, iJ_eq, iI_div, iJ_div, tdiv_tmod, iI_J, iJ_I, iI_ix, iI_toInt, iJ_toInt, cmp_ge, cmp_lt, cmp_eq, cmp_gt, cmp_le, cmp_geI, cmp_ltI, cmp_eqI, cmp_gtI, cmp_leI, bI_0I, bI_1I, pin, if_true, d1, d2, if_false, hr, key, z4]
  rw [if_neg c2]
  have d2 : (8 : Int) ≤ (k : Int) := by omega
  by_cases c3 : k < 12
  · have d3 : ¬ (12 : Int) ≤ (k : Int) := by omega
    rw [if_pos c3]
    simp (disch := first | omega | assumption | decide | (simp (disch := omega) only [iI_lit, iJ_lit, iJ_eq, iI_eq, bI_01, bI_01I] <;> omega)) only [c_Dm_byteOf, e_Dm_byteOf_0, e_Dm_byteOf_2, e_Dm_byteOf_3, e_Dm_byteOf_6, e_Dm_byteOf_7, e_Dm_byteOf_10, e_Dm_byteOf_12, e_Dm_byteOf_14, e_Dm_byteOf_17, e_Dm_byteOf_18, e_Dm_byteOf_21, e_Dm_byteOf_23, e_Dm_byteOf_25, e_Dm_byteOf_28, e_Dm_byteOf_29, e_Dm_byteOf_32, e_Dm_byteOf_34, e_Dm_byteOf_36, e_Dm_byteOf_39, e_Dm_byteOf_40, e_Dm_byteOf_43, e_Dm_byteOf_45, e_Dm_byteOf_47, e_Dm_byteOf_49, e_Dm_byteOf_51, e_Dm_byteOf_53, e_Dm_byteOf_55, e_Dm_byteOf_56, e_Dm_byteOf_57, e_Dm_byteOf_58, e_Dm_byteOf_59, e_Dm_byteOf_60, e_Dm_byteOf_63, e_Dm_byteOf_64, bd_some, bd_none, Option.toList_some, Option.toList_none, List.nil_append, List.cons_append, px_kill_int, px_kill_long, px_kill_ref, px_kill_null, iI_lit, iJ_lit, iI_add, iI_sub, iI_mul, iI_neg, iJ_add, iJ_sub, iJ_mul, iJ_neg, iI_lt, iI_le, iI_eq, iJ_lt, iJ_le, iJ_eq, iI_div, iJ_div, tdiv_tmod, iI_J, iJ_I, iI_ix, iI_toInt, iJ_toInt, cmp_ge, cmp_lt, cmp_eq, cmp_gt, cmp_le, cmp_geI, cmp_ltI, cmp_eqI, cmp_gtI, cmp_leI, bI_0I, bI_1I, pin, if_true, d1, d2, d3, if_false, hr, key, z4]
  rw [if_neg c3]
  have d3 : (12 : Int) ≤ (k : Int) := by omega
  by_cases c4 : k < 16
  · have d4 : ¬ (16 : Int) ≤ (k : Int) := by omega
    rw [if_pos c4]
    simp (disch := first | omega | assumption | decide | (simp (disch := omega) only [iI_lit, iJ_lit, iJ_eq, iI_eq, bI_01, bI_01I] <;> omega)) only [c_Dm_byteOf, e_Dm_byteOf_0, e_Dm_byteOf_2, e_Dm_byteOf_3, e_Dm_byteOf_6, e_Dm_byteOf_7, e_Dm_byteOf_10, e_Dm_byteOf_12, e_Dm_byteOf_14, e_Dm_byteOf_17, e_Dm_byteOf_18, e_Dm_byteOf_21, e_Dm_byteOf_23, e_Dm_byteOf_25, e_Dm_byteOf_28, e_Dm_byteOf_29, e_Dm_byteOf_32, e_Dm_byteOf_34, e_Dm_byteOf_36, e_Dm_byteOf_39, e_Dm_byteOf_40, e_Dm_byteOf_43, e_Dm_byteOf_45, e_Dm_byteOf_47, e_Dm_byteOf_49, e_Dm_byteOf_51, e_Dm_byteOf_53, e_Dm_byteOf_55, e_Dm_byteOf_56, e_Dm_byteOf_57, e_Dm_byteOf_58, e_Dm_byteOf_59, e_Dm_byteOf_60, e_Dm_byteOf_63, e_Dm_byteOf_64, bd_some, bd_none, Option.toList_some, Option.toList_none, List.nil_append, List.cons_append, px_kill_int, px_kill_long, px_kill_ref, px_kill_null, iI_lit, iJ_lit, iI_add, iI_sub, iI_mul, iI_neg, iJ_add, iJ_sub, iJ_mul, iJ_neg, iI_lt, iI_le, iI_eq, iJ_lt, iJ_le, iJ_eq, iI_div, iJ_div, tdiv_tmod, iI_J, iJ_I, iI_ix, iI_toInt, iJ_toInt, cmp_ge, cmp_lt, cmp_eq, cmp_gt, cmp_le, cmp_geI, cmp_ltI, cmp_eqI, cmp_gtI, cmp_leI, bI_0I, bI_1I, pin, if_true, d1, d2, d3, d4, if_false, hr, key, z4]
  rw [if_neg c4]
  have d4 : (16 : Int) ≤ (k : Int) := by omega
  simp (disch := first | omega | assumption | decide | (simp (disch := omega) only [iI_lit, iJ_lit, iJ_eq, iI_eq, bI_01, bI_01I] <;> omega)) only [c_Dm_byteOf, e_Dm_byteOf_0, e_Dm_byteOf_2, e_Dm_byteOf_3, e_Dm_byteOf_6, e_Dm_byteOf_7, e_Dm_byteOf_10, e_Dm_byteOf_12, e_Dm_byteOf_14, e_Dm_byteOf_17, e_Dm_byteOf_18, e_Dm_byteOf_21, e_Dm_byteOf_23, e_Dm_byteOf_25, e_Dm_byteOf_28, e_Dm_byteOf_29, e_Dm_byteOf_32, e_Dm_byteOf_34, e_Dm_byteOf_36, e_Dm_byteOf_39, e_Dm_byteOf_40, e_Dm_byteOf_43, e_Dm_byteOf_45, e_Dm_byteOf_47, e_Dm_byteOf_49, e_Dm_byteOf_51, e_Dm_byteOf_53, e_Dm_byteOf_55, e_Dm_byteOf_56, e_Dm_byteOf_57, e_Dm_byteOf_58, e_Dm_byteOf_59, e_Dm_byteOf_60, e_Dm_byteOf_63, e_Dm_byteOf_64, bd_some, bd_none, Option.toList_some, Option.toList_none, List.nil_append, List.cons_append, px_kill_int, px_kill_long, px_kill_ref, px_kill_null, iI_lit, iJ_lit, iI_add, iI_sub, iI_mul, iI_neg, iJ_add, iJ_sub, iJ_mul, iJ_neg, iI_lt, iI_le, iI_eq, iJ_lt, iJ_le, iJ_eq, iI_div, iJ_div, tdiv_tmod, iI_J, iJ_I, iI_ix, iI_toInt, iJ_toInt, cmp_ge, cmp_lt, cmp_eq, cmp_gt, cmp_le, cmp_geI, cmp_ltI, cmp_eqI, cmp_gtI, cmp_leI, bI_0I, bI_1I, pin, if_true, d1, d2, d3, d4, hr, key, z4]
theorem bF_bd (a b c d e : Int32) (k : Nat) : 0 ≤ bF a b c d e k ∧ bF a b c d e k ≤ 255 := byk_bd _ _
set_option maxHeartbeats 1000000 in
theorem lp_mfeed1 (T : TS) (a b c d e : Int32) : ∀ (m k : Nat), k + m = 20 → ∀ a8 : Value, rn k_Dm_feed 11 [.ref 53, .int a, .int b, .int c, .int d, .int e, .int (iI (cnN (bF a b c d e) k)), .int (iI (k : Int)), a8] [] (enc T) = rn k_Dm_feed 49 [.ref 53, .int a, .int b, .int c, .int d, .int e, .int (iI (cnN (bF a b c d e) 20)), .int (iI 20), a8] [] (enc T) := by
  intro m
  induction m with
  | zero =>
    intro k hk a8
    have ek : (k : Int) = 20 := by omega
    have ek' : k = 20 := by omega
    rw [ek, ek', e_Dm_feed_11]
    simp (disch := first | omega | assumption | decide | (simp (disch := omega) only [iI_lit, iJ_lit, iJ_eq, iI_eq, bI_01, bI_01I] <;> omega)) only [e_Dm_feed_13, e_Dm_feed_15, bd_some, bd_none, Option.toList_some, Option.toList_none, List.nil_append, List.cons_append, px_kill_int, px_kill_long, px_kill_ref, px_kill_null, iI_lit, iJ_lit, iI_add, iI_sub, iI_mul, iI_neg, iJ_add, iJ_sub, iJ_mul, iJ_neg, iI_lt, iI_le, iI_eq, iJ_lt, iJ_le, iJ_eq, iI_div, iJ_div, tdiv_tmod, iI_J, iJ_I, iI_ix, iI_toInt, iJ_toInt, cmp_ge, cmp_lt, cmp_eq, cmp_gt, cmp_le, cmp_geI, cmp_ltI, cmp_eqI, cmp_gtI, cmp_leI, bI_0I, bI_1I, pin, if_true, Int.le_refl]
  | succ m ih =>
    intro k hk a8
    have nle : ¬ (20 : Int) ≤ (k : Int) := by omega
    have by' := s_byteOf a b c d e (k := k) (by omega) (enc T)
    have bb := bF_bd a b c d e k
    have cb := cnN_bd (bF a b c d e) k
    have es : cnN (bF a b c d e) (k + 1) = cnN (bF a b c d e) k + nz (bF a b c d e k) := rfl
    have e2 := ih (k + 1) (by omega) a8
    refine Eq.trans ?_ e2
    rw [es, show ((k + 1 : Nat) : Int) = (k : Int) + 1 by omega, e_Dm_feed_11]
    unfold nz
    by_cases c0 : bF a b c d e k = 0
    · rw [if_pos c0]
      rw [c0] at by'
      simp (disch := first | omega | assumption | decide | (simp (disch := omega) only [iI_lit, iJ_lit, iJ_eq, iI_eq, bI_01, bI_01I] <;> omega)) only [e_Dm_feed_13, e_Dm_feed_15, e_Dm_feed_18, e_Dm_feed_20, e_Dm_feed_21, e_Dm_feed_22, e_Dm_feed_23, e_Dm_feed_25, e_Dm_feed_27, e_Dm_feed_29, e_Dm_feed_32, e_Dm_feed_35, e_Dm_feed_36, e_Dm_feed_39, e_Dm_feed_40, e_Dm_feed_41, e_Dm_feed_43, e_Dm_feed_46, bd_some, bd_none, Option.toList_some, Option.toList_none, List.nil_append, List.cons_append, px_kill_int, px_kill_long, px_kill_ref, px_kill_null, iI_lit, iJ_lit, iI_add, iI_sub, iI_mul, iI_neg, iJ_add, iJ_sub, iJ_mul, iJ_neg, iI_lt, iI_le, iI_eq, iJ_lt, iJ_le, iJ_eq, iI_div, iJ_div, tdiv_tmod, iI_J, iJ_I, iI_ix, iI_toInt, iJ_toInt, cmp_ge, cmp_lt, cmp_eq, cmp_gt, cmp_le, cmp_geI, cmp_ltI, cmp_eqI, cmp_gtI, cmp_leI, bI_0I, bI_1I, pin, if_true, nle, if_false, by']
    · rw [if_neg c0]
      simp (disch := first | omega | assumption | decide | (simp (disch := omega) only [iI_lit, iJ_lit, iJ_eq, iI_eq, bI_01, bI_01I] <;> omega)) only [e_Dm_feed_13, e_Dm_feed_15, e_Dm_feed_18, e_Dm_feed_20, e_Dm_feed_21, e_Dm_feed_22, e_Dm_feed_23, e_Dm_feed_25, e_Dm_feed_27, e_Dm_feed_29, e_Dm_feed_32, e_Dm_feed_35, e_Dm_feed_36, e_Dm_feed_39, e_Dm_feed_40, e_Dm_feed_41, e_Dm_feed_43, e_Dm_feed_46, bd_some, bd_none, Option.toList_some, Option.toList_none, List.nil_append, List.cons_append, px_kill_int, px_kill_long, px_kill_ref, px_kill_null, iI_lit, iJ_lit, iI_add, iI_sub, iI_mul, iI_neg, iJ_add, iJ_sub, iJ_mul, iJ_neg, iI_lt, iI_le, iI_eq, iJ_lt, iJ_le, iJ_eq, iI_div, iJ_div, tdiv_tmod, iI_J, iJ_I, iI_ix, iI_toInt, iJ_toInt, cmp_ge, cmp_lt, cmp_eq, cmp_gt, cmp_le, cmp_geI, cmp_ltI, cmp_eqI, cmp_gtI, cmp_leI, bI_0I, bI_1I, pin, if_true, nle, if_false, by', c0]
def hTm (T : TS) (t : TP) : Prop := T.1 53 2 = iI (t.1 : Int) ∧ ∀ k, k < t.1 → T.1 54 k = iI (t.2 k)
def aTm (q k : Nat) : Prop := (q = 53 ∧ k = 2) ∨ q = 54
set_option maxHeartbeats 1000000 in
theorem lp_mfeed2 (a b c d e : Int32) (n : Int32) (t : TP) (hl : (t.1 : Int) + cnN (bF a b c d e) 20 ≤ 160) : ∀ (m k : Nat) (T : TS), k + m = 20 → hTm T (psN t (bF a b c d e) k) → ∀ a8 : Value, ∃ T', rn k_Dm_feed 67 [.ref 53, .int a, .int b, .int c, .int d, .int e, .int n, .int (iI (k : Int)), a8] [] (enc T) = some (some (.int (iI ((psN t (bF a b c d e) 20).1 : Int))), enc T') ∧ FrI aTm T T' ∧ hTm T' (psN t (bF a b c d e) 20) := by
  intro m
  induction m with
  | zero =>
    intro k T hk ht a8
    have ek : (k : Int) = 20 := by omega
    have ek' : k = 20 := by omega
    rw [ek'] at ht
    have h1 := ht.1
    refine ⟨T, ?_, FrI.rf _ _, ht⟩
    rw [ek, e_Dm_feed_67]
    simp (disch := first | omega | assumption | decide | (simp (disch := omega) only [iI_lit, iJ_lit, iJ_eq, iI_eq, bI_01, bI_01I] <;> omega)) only [e_Dm_feed_69, e_Dm_feed_71, e_Dm_feed_120, e_Dm_feed_121, e_Dm_feed_124, bd_some, bd_none, Option.toList_some, Option.toList_none, List.nil_append, List.cons_append, px_kill_int, px_kill_long, px_kill_ref, px_kill_null, iI_lit, iJ_lit, iI_add, iI_sub, iI_mul, iI_neg, iJ_add, iJ_sub, iJ_mul, iJ_neg, iI_lt, iI_le, iI_eq, iJ_lt, iJ_le, iJ_eq, iI_div, iJ_div, tdiv_tmod, iI_J, iJ_I, iI_ix, iI_toInt, iJ_toInt, cmp_ge, cmp_lt, cmp_eq, cmp_gt, cmp_le, cmp_geI, cmp_ltI, cmp_eqI, cmp_gtI, cmp_leI, bI_0I, bI_1I, pin, if_true, Int.le_refl, h1]
  | succ m ih =>
    intro k T hk ht a8
    have nle : ¬ (20 : Int) ≤ (k : Int) := by omega
    have by' := s_byteOf a b c d e (k := k) (by omega) (enc T)
    have bb := bF_bd a b c d e k
    have pl := psN_len t (bF a b c d e) k
    have cs : cnN (bF a b c d e) (k + (1 + m)) = _ := cnN_add (bF a b c d e) k (1 + m)
    rw [show k + (1 + m) = 20 by omega, cnN_add] at cs
    have cm := cnN_bd (fun i => bF a b c d e (k + (1 + i))) m
    have e1n : cnN (fun i => bF a b c d e (k + i)) 1 = 0 + nz (bF a b c d e k) := rfl
    rw [e1n] at cs
    have h1 := ht.1
    have es : psN t (bF a b c d e) (k + 1) = psh (psN t (bF a b c d e) k) (bF a b c d e k) := rfl
    unfold nz at cs
    by_cases c0 : bF a b c d e k = 0
    · have ep : psN t (bF a b c d e) (k + 1) = psN t (bF a b c d e) k := by rw [es]; exact if_pos c0
      obtain ⟨T', e2, f2, h2⟩ := ih (k + 1) T (by omega) (by rw [ep]; exact ht) (.int (iI 0))
      refine ⟨T', ?_, f2, h2⟩
      refine Eq.trans ?_ e2
      rw [c0] at by'
      rw [show ((k + 1 : Nat) : Int) = (k : Int) + 1 by omega, e_Dm_feed_67]
      simp (disch := first | omega | assumption | decide | (simp (disch := omega) only [iI_lit, iJ_lit, iJ_eq, iI_eq, bI_01, bI_01I] <;> omega)) only [e_Dm_feed_69, e_Dm_feed_71, e_Dm_feed_74, e_Dm_feed_75, e_Dm_feed_76, e_Dm_feed_77, e_Dm_feed_79, e_Dm_feed_81, e_Dm_feed_83, e_Dm_feed_86, e_Dm_feed_88, e_Dm_feed_90, e_Dm_feed_93, e_Dm_feed_94, e_Dm_feed_97, e_Dm_feed_98, e_Dm_feed_101, e_Dm_feed_103, e_Dm_feed_104, e_Dm_feed_105, e_Dm_feed_106, e_Dm_feed_109, e_Dm_feed_110, e_Dm_feed_111, e_Dm_feed_114, e_Dm_feed_117, bd_some, bd_none, Option.toList_some, Option.toList_none, List.nil_append, List.cons_append, px_kill_int, px_kill_long, px_kill_ref, px_kill_null, iI_lit, iJ_lit, iI_add, iI_sub, iI_mul, iI_neg, iJ_add, iJ_sub, iJ_mul, iJ_neg, iI_lt, iI_le, iI_eq, iJ_lt, iJ_le, iJ_eq, iI_div, iJ_div, tdiv_tmod, iI_J, iJ_I, iI_ix, iI_toInt, iJ_toInt, cmp_ge, cmp_lt, cmp_eq, cmp_gt, cmp_le, cmp_geI, cmp_ltI, cmp_eqI, cmp_gtI, cmp_leI, bI_0I, bI_1I, pin, if_true, nle, if_false, by']
    · rw [if_neg c0] at cs
      generalize hX : psN t (bF a b c d e) k = X at *
      have ep : psN t (bF a b c d e) (k + 1) = (X.1 + 1, fun i => if i = X.1 then bF a b c d e k else X.2 i) := by rw [es]; exact if_neg c0
      have et : ((X.1 : Int)).toNat = X.1 := by omega
      have frS : FrI aTm T (sI (sI T 54 X.1 (iI (bF a b c d e k))) 53 2 (iI ((X.1 : Int) + 1))) := ((FrI.rf aTm T).wr _ (Or.inr rfl)).wr _ (Or.inl ⟨rfl, rfl⟩)
      obtain ⟨T', e2, f2, h2⟩ := ih (k + 1) (sI (sI T 54 X.1 (iI (bF a b c d e k))) 53 2 (iI ((X.1 : Int) + 1))) (by omega) (by
        rw [ep]
        refine ⟨?_, fun q hq => ?_⟩
        · show _ = iI ((X.1 + 1 : Nat) : Int)
          rw [show ((X.1 + 1 : Nat) : Int) = (X.1 : Int) + 1 by omega]
          simp only [sI_get, sJ_get, sI_2, sJ_1, sJ_22, sR_1, sR_21, Nat.reduceEqDiff, and_true, true_and, and_false, false_and, and_self, if_true, if_false, reduceIte]
        · have hq' : q < X.1 + 1 := hq
          show _ = iI (if q = X.1 then bF a b c d e k else X.2 q)
          by_cases eq' : q = X.1
          · rw [if_pos eq', eq']; simp only [sI_get, sJ_get, sI_2, sJ_1, sJ_22, sR_1, sR_21, Nat.reduceEqDiff, and_true, true_and, and_false, false_and, and_self, if_true, if_false, reduceIte]
          · rw [if_neg eq', sI_get, if_neg (by omega), sI_get, if_neg (fun z => eq' z.2)]
            exact ht.2 q (by omega)) (.int (iI (bF a b c d e k)))
      refine ⟨T', ?_, frS.tr f2, h2⟩
      refine Eq.trans ?_ e2
      rw [show ((k + 1 : Nat) : Int) = (k : Int) + 1 by omega, e_Dm_feed_67]
      simp (disch := first | omega | assumption | decide | (simp (disch := omega) only [iI_lit, iJ_lit, iJ_eq, iI_eq, bI_01, bI_01I] <;> omega)) only [e_Dm_feed_69, e_Dm_feed_71, e_Dm_feed_74, e_Dm_feed_75, e_Dm_feed_76, e_Dm_feed_77, e_Dm_feed_79, e_Dm_feed_81, e_Dm_feed_83, e_Dm_feed_86, e_Dm_feed_88, e_Dm_feed_90, e_Dm_feed_93, e_Dm_feed_94, e_Dm_feed_97, e_Dm_feed_98, e_Dm_feed_101, e_Dm_feed_103, e_Dm_feed_104, e_Dm_feed_105, e_Dm_feed_106, e_Dm_feed_109, e_Dm_feed_110, e_Dm_feed_111, e_Dm_feed_114, e_Dm_feed_117, bd_some, bd_none, Option.toList_some, Option.toList_none, List.nil_append, List.cons_append, px_kill_int, px_kill_long, px_kill_ref, px_kill_null, iI_lit, iJ_lit, iI_add, iI_sub, iI_mul, iI_neg, iJ_add, iJ_sub, iJ_mul, iJ_neg, iI_lt, iI_le, iI_eq, iJ_lt, iJ_le, iJ_eq, iI_div, iJ_div, tdiv_tmod, iI_J, iJ_I, iI_ix, iI_toInt, iJ_toInt, cmp_ge, cmp_lt, cmp_eq, cmp_gt, cmp_le, cmp_geI, cmp_ltI, cmp_eqI, cmp_gtI, cmp_leI, bI_0I, bI_1I, pin, if_true, sI_get, sJ_get, sI_2, sJ_1, sJ_22, sR_1, sR_21, Nat.reduceEqDiff, and_true, true_and, and_false, false_and, and_self, if_true, if_false, reduceIte, nle, if_false, by', c0, h1, sh_n54, et]
theorem fM.tape {T T' : TS} {S : FS} (h : fM T S) {t : TP} (hf : FrI aTm T T') (ht : hTm T' t) : fM T' (S.1, t, S.2.2) ∧ sepM T T' := by
  obtain ⟨⟨h1, h2⟩, _, h5⟩ := h
  refine ⟨⟨⟨?_, fun j hj k hk => ?_⟩, ht, fun k hk => ?_⟩, ⟨fun q k hq => hf.1 _ _ (by unfold aTm; omega), fun q k hq => by rw [hf.2], by rw [hf.2]⟩⟩
  · rw [hf.1 _ _ (by unfold aTm; omega)]; exact h1
  · rw [hf.1 _ _ (by unfold aTm; omega)]; exact h2 j hj k hk
  · rw [hf.1 _ _ (by unfold aTm; omega)]; exact h5 k hk
set_option maxHeartbeats 1000000 in
theorem u_Dm_feed {T : TS} {S : FS} (hS : okF S) (h : fM T S) (a b c d e : Int32) : ∃ T', cl k_Dm_feed [.ref 53, .int a, .int b, .int c, .int d, .int e] (enc T) = some (some (.int (iI (rFeed S a b c d e).2)), enc T') ∧ fM T' (rFeed S a b c d e).1 ∧ sepM T T' := by
  obtain ⟨h0, s0⟩ := t0_fM h
  have hl := hS.2.1
  have hlen := h0.2.1.1
  have cb := cnN_bd (bF a b c d e) 20
  have l1 := lp_mfeed1 (t0 T) a b c d e 20 0 (by omega) .null
  have pre : cl k_Dm_feed [.ref 53, .int a, .int b, .int c, .int d, .int e] (enc T) = rn k_Dm_feed 49 [.ref 53, .int a, .int b, .int c, .int d, .int e, .int (iI (cnN (bF a b c d e) 20)), .int (iI 20), .null] [] (enc (t0 T)) := by
    simp (disch := first | omega | assumption | decide | (simp (disch := omega) only [iI_lit, iJ_lit, iJ_eq, iI_eq, bI_01, bI_01I] <;> omega)) only [c_Dm_feed, e_Dm_feed_0, e_Dm_feed_1, e_Dm_feed_2, e_Dm_feed_5, e_Dm_feed_6, e_Dm_feed_8, e_Dm_feed_9, bd_some, bd_none, Option.toList_some, Option.toList_none, List.nil_append, List.cons_append, px_kill_int, px_kill_long, px_kill_ref, px_kill_null, iI_lit, iJ_lit, iI_add, iI_sub, iI_mul, iI_neg, iJ_add, iJ_sub, iJ_mul, iJ_neg, iI_lt, iI_le, iI_eq, iJ_lt, iJ_le, iJ_eq, iI_div, iJ_div, tdiv_tmod, iI_J, iJ_I, iI_ix, iI_toInt, iJ_toInt, cmp_ge, cmp_lt, cmp_eq, cmp_gt, cmp_le, cmp_geI, cmp_ltI, cmp_eqI, cmp_gtI, cmp_leI, bI_0I, bI_1I, pin, if_true]
    exact l1
  unfold rFeed
  by_cases c0 : 160 < (S.2.1.1 : Int) + cnN (bF a b c d e) 20
  · rw [if_pos c0]
    have c1 : ¬ (S.2.1.1 : Int) + cnN (bF a b c d e) 20 ≤ 160 := by omega
    refine ⟨t0 T, ?_, h0, s0⟩
    rw [pre]
    simp (disch := first | omega | assumption | decide | (simp (disch := omega) only [iI_lit, iJ_lit, iJ_eq, iI_eq, bI_01, bI_01I] <;> omega)) only [e_Dm_feed_49, e_Dm_feed_50, e_Dm_feed_53, e_Dm_feed_55, e_Dm_feed_56, e_Dm_feed_59, e_Dm_feed_62, e_Dm_feed_63, e_Dm_feed_64, e_Dm_feed_65, bd_some, bd_none, Option.toList_some, Option.toList_none, List.nil_append, List.cons_append, px_kill_int, px_kill_long, px_kill_ref, px_kill_null, iI_lit, iJ_lit, iI_add, iI_sub, iI_mul, iI_neg, iJ_add, iJ_sub, iJ_mul, iJ_neg, iI_lt, iI_le, iI_eq, iJ_lt, iJ_le, iJ_eq, iI_div, iJ_div, tdiv_tmod, iI_J, iJ_I, iI_ix, iI_toInt, iJ_toInt, cmp_ge, cmp_lt, cmp_eq, cmp_gt, cmp_le, cmp_geI, cmp_ltI, cmp_eqI, cmp_gtI, cmp_leI, bI_0I, bI_1I, pin, if_true, hlen, c1, if_false]
  · rw [if_neg c0]
    have c1 : (S.2.1.1 : Int) + cnN (bF a b c d e) 20 ≤ 160 := by omega
    obtain ⟨T', e2, f2, h2⟩ := lp_mfeed2 a b c d e (iI (cnN (bF a b c d e) 20)) S.2.1 c1 20 0 (t0 T) (by omega) h0.2.1 .null
    have hF := h0.tape f2 h2
    refine ⟨T', ?_, hF.1, s0.tr hF.2⟩
    rw [pre]
    simp (disch := first | omega | assumption | decide | (simp (disch := omega) only [iI_lit, iJ_lit, iJ_eq, iI_eq, bI_01, bI_01I] <;> omega)) only [e_Dm_feed_49, e_Dm_feed_50, e_Dm_feed_53, e_Dm_feed_55, e_Dm_feed_56, e_Dm_feed_59, e_Dm_feed_62, e_Dm_feed_63, e_Dm_feed_64, e_Dm_feed_65, bd_some, bd_none, Option.toList_some, Option.toList_none, List.nil_append, List.cons_append, px_kill_int, px_kill_long, px_kill_ref, px_kill_null, iI_lit, iJ_lit, iI_add, iI_sub, iI_mul, iI_neg, iJ_add, iJ_sub, iJ_mul, iJ_neg, iI_lt, iI_le, iI_eq, iJ_lt, iJ_le, iJ_eq, iI_div, iJ_div, tdiv_tmod, iI_J, iJ_I, iI_ix, iI_toInt, iJ_toInt, cmp_ge, cmp_lt, cmp_eq, cmp_gt, cmp_le, cmp_geI, cmp_ltI, cmp_eqI, cmp_gtI, cmp_leI, bI_0I, bI_1I, pin, if_true, hlen, c1]
    exact e2
theorem u_Dm_end {T : TS} {S : FS} (hS : okF S) (h : fM T S) {n : Int} (hn : inI n) : ∃ T', cl k_Dm_end [.ref 53, .int (iI n)] (enc T) = some (some (.int (iI (rEnd S n).2)), enc T') ∧ fM T' (rEnd S n).1 ∧ sepM T T' := by
  obtain ⟨h0, s0⟩ := t0_fM h
  obtain ⟨n1, n2⟩ := hn
  have hl := hS.2.1
  have hlen := h0.2.1.1
  have g := s_in (x := n) (l := 0) (h := (S.2.1.1 : Int)) (enc (t0 T)) (by omega) (by omega) (by omega)
  unfold rEnd
  by_cases c : 0 ≤ n ∧ n ≤ (S.2.1.1 : Int)
  · rw [bI_tI c] at g
    rw [if_pos c]
    have hF := h0.tape (T' := sI (t0 T) 53 2 (iI n)) (t := (n.toNat, S.2.1.2)) ((FrI.rf aTm (t0 T)).wr _ (Or.inl ⟨rfl, rfl⟩)) ⟨by
      show _ = iI ((n.toNat : Nat) : Int)
      rw [show ((n.toNat : Nat) : Int) = n by omega]
      simp only [sI_get, sJ_get, sI_2, sJ_1, sJ_22, sR_1, sR_21, Nat.reduceEqDiff, and_true, true_and, and_false, false_and, and_self, if_true, if_false, reduceIte], fun k hk => by
      have hk' : k < n.toNat := hk
      rw [sI_get, if_neg (by omega)]
      exact h0.2.1.2 k (by omega)⟩
    refine ⟨_, ?_, hF.1, s0.tr hF.2⟩
    simp (disch := first | omega | assumption | decide | (simp (disch := omega) only [iI_lit, iJ_lit, iJ_eq, iI_eq, bI_01, bI_01I] <;> omega)) only [c_Dm_end, e_Dm_end_0, e_Dm_end_1, e_Dm_end_2, e_Dm_end_5, e_Dm_end_6, e_Dm_end_7, e_Dm_end_8, e_Dm_end_9, e_Dm_end_12, e_Dm_end_13, e_Dm_end_16, e_Dm_end_19, e_Dm_end_20, e_Dm_end_21, e_Dm_end_22, e_Dm_end_23, e_Dm_end_26, e_Dm_end_27, bd_some, bd_none, Option.toList_some, Option.toList_none, List.nil_append, List.cons_append, px_kill_int, px_kill_long, px_kill_ref, px_kill_null, iI_lit, iJ_lit, iI_add, iI_sub, iI_mul, iI_neg, iJ_add, iJ_sub, iJ_mul, iJ_neg, iI_lt, iI_le, iI_eq, iJ_lt, iJ_le, iJ_eq, iI_div, iJ_div, tdiv_tmod, iI_J, iJ_I, iI_ix, iI_toInt, iJ_toInt, cmp_ge, cmp_lt, cmp_eq, cmp_gt, cmp_le, cmp_geI, cmp_ltI, cmp_eqI, cmp_gtI, cmp_leI, bI_0I, bI_1I, pin, if_true, hlen, g, one0, if_false]
  · rw [bI_fI c] at g
    rw [if_neg c]
    refine ⟨t0 T, ?_, h0, s0⟩
    simp (disch := first | omega | assumption | decide | (simp (disch := omega) only [iI_lit, iJ_lit, iJ_eq, iI_eq, bI_01, bI_01I] <;> omega)) only [c_Dm_end, e_Dm_end_0, e_Dm_end_1, e_Dm_end_2, e_Dm_end_5, e_Dm_end_6, e_Dm_end_7, e_Dm_end_8, e_Dm_end_9, e_Dm_end_12, e_Dm_end_13, e_Dm_end_16, e_Dm_end_19, e_Dm_end_20, e_Dm_end_21, e_Dm_end_22, e_Dm_end_23, e_Dm_end_26, e_Dm_end_27, bd_some, bd_none, Option.toList_some, Option.toList_none, List.nil_append, List.cons_append, px_kill_int, px_kill_long, px_kill_ref, px_kill_null, iI_lit, iJ_lit, iI_add, iI_sub, iI_mul, iI_neg, iJ_add, iJ_sub, iJ_mul, iJ_neg, iI_lt, iI_le, iI_eq, iJ_lt, iJ_le, iJ_eq, iI_div, iJ_div, tdiv_tmod, iI_J, iJ_I, iI_ix, iI_toInt, iJ_toInt, cmp_ge, cmp_lt, cmp_eq, cmp_gt, cmp_le, cmp_geI, cmp_ltI, cmp_eqI, cmp_gtI, cmp_leI, bI_0I, bI_1I, pin, if_true, hlen, g]
