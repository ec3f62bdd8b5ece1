/-! choose of the component. -/
theorem hBc.fr {T T' : TS} {b : CB} (h : hBc T b) (h1 : T'.1 15 9 = T.1 15 9) (h2 : ∀ k, T'.1 23 k = T.1 23 k) : hBc T' b := by
  cases b with
  | none => exact h1.trans h
  | some x => exact ⟨h1.trans h.1, (h2 0).trans h.2.1, (h2 1).trans h.2.2.1, (h2 2).trans h.2.2.2⟩
set_option maxHeartbeats 2000000 in
theorem st_pk {l : List (Nat × Nat)} (hl : okQ l) (hlen : l.length ≤ 20) {n m : Int} (hnn : n = 2 ∨ n = 3) (hm : m = 0 ∨ m = 1) {i j : Nat} (hij : i < j) (hj : j < l.length) {b : CB} {T : TS} (hC : hCh T m l) (hb : okD l b) (hB : hBc T b) (lo hi : Int32) : ∃ T', rn k_Chooser_pick 88 [.ref 15, .int (iI n), .int lo, .int hi, .int (iI m), .int (iI (i : Int)), .int (iI (j : Int))] [] (enc T) = rn k_Chooser_pick 88 [.ref 15, .int (iI n), .int lo, .int hi, .int (iI m), .int (iI (i : Int)), .int (iI ((j + 1 : Nat) : Int))] [] (enc T') ∧ FrI aPp T T' ∧ hBc T' (c3S n m l b i j) := by
  obtain ⟨hf, hn, hM⟩ := id hC
  have nle : ¬ (l.length : Int) ≤ (j : Int) := by omega
  rw [show ((j + 1 : Nat) : Int) = (j : Int) + 1 by omega]
  rcases hnn with hnn | hnn
  · subst hnn
    have ec : isCp l (i, j) := ⟨hij, hj⟩
    have k1 := s_coupleOf (i := (i : Int)) (j := (j : Int)) (by omega) (by omega) (enc T)
    have e1 : 20 * (i : Int) + (j : Int) = cpN (i, j) := rfl
    rw [e1] at k1
    obtain ⟨T1, e4, fr1, hB1⟩ := s_propose hl hlen hm hf hM hb hB ec i j j
    have eS : c3S 2 m l b i j = pps m l b (i, j) (i, j, j) := if_pos rfl
    rw [eS]
    refine ⟨T1, ?_, fr1, hB1⟩
    rw [e_Chooser_pick_88]
    simp (disch := first | omega | assumption | decide | (simp (disch := omega) only [iI_lit, iJ_lit, iJ_eq, iI_eq, bI_01, bI_01I] <;> omega)) only [e_Chooser_pick_90, e_Chooser_pick_91, e_Chooser_pick_94, e_Chooser_pick_97, e_Chooser_pick_98, e_Chooser_pick_99, e_Chooser_pick_102, e_Chooser_pick_103, e_Chooser_pick_105, e_Chooser_pick_107, e_Chooser_pick_110, e_Chooser_pick_112, e_Chooser_pick_114, e_Chooser_pick_116, e_Chooser_pick_119, e_Chooser_pick_122, e_Chooser_pick_123, e_Chooser_pick_125, e_Chooser_pick_127, e_Chooser_pick_130, e_Chooser_pick_133, bd_some, bd_none, Option.toList_some, Option.toList_none, List.nil_append, List.cons_append, px_kill_int, px_kill_long, px_kill_ref, px_kill_null, iI_lit, iJ_lit, iI_add, iI_sub, iI_mul, iI_neg, iJ_add, iJ_sub, iJ_mul, iJ_neg, iI_lt, iI_le, iI_eq, iJ_lt, iJ_le, iJ_eq, iI_div, iJ_div, tdiv_tmod, iI_J, iJ_I, iI_ix, iI_toInt, iJ_toInt, cmp_ge, cmp_lt, cmp_eq, cmp_gt, cmp_le, cmp_geI, cmp_ltI, cmp_eqI, cmp_gtI, cmp_leI, bI_0I, bI_1I, pin, if_true, hn, sh_n15, nle, if_false, k1, e4]
  · subst hnn
    have n32 : ¬ (3 : Int) = 2 := by omega
    obtain ⟨T1, e4, fr1, hB1⟩ := s_thirds hl hlen hm hij hj hC hb hB
    have eS : c3S 3 m l b i j = c3T m l i j b (j + 1) (l.length - (j + 1)) := if_neg n32
    rw [eS]
    refine ⟨T1, ?_, fr1, hB1⟩
    rw [e_Chooser_pick_88]
    simp (disch := first | omega | assumption | decide | (simp (disch := omega) only [iI_lit, iJ_lit, iJ_eq, iI_eq, bI_01, bI_01I] <;> omega)) only [e_Chooser_pick_90, e_Chooser_pick_91, e_Chooser_pick_94, e_Chooser_pick_97, e_Chooser_pick_98, e_Chooser_pick_99, e_Chooser_pick_102, e_Chooser_pick_103, e_Chooser_pick_105, e_Chooser_pick_107, e_Chooser_pick_110, e_Chooser_pick_112, e_Chooser_pick_114, e_Chooser_pick_116, e_Chooser_pick_119, e_Chooser_pick_122, e_Chooser_pick_123, e_Chooser_pick_125, e_Chooser_pick_127, e_Chooser_pick_130, e_Chooser_pick_133, bd_some, bd_none, Option.toList_some, Option.toList_none, List.nil_append, List.cons_append, px_kill_int, px_kill_long, px_kill_ref, px_kill_null, iI_lit, iJ_lit, iI_add, iI_sub, iI_mul, iI_neg, iJ_add, iJ_sub, iJ_mul, iJ_neg, iI_lt, iI_le, iI_eq, iJ_lt, iJ_le, iJ_eq, iI_div, iJ_div, tdiv_tmod, iI_J, iJ_I, iI_ix, iI_toInt, iJ_toInt, cmp_ge, cmp_lt, cmp_eq, cmp_gt, cmp_le, cmp_geI, cmp_ltI, cmp_eqI, cmp_gtI, cmp_leI, bI_0I, bI_1I, pin, if_true, hn, sh_n15, nle, n32, if_false, e4]
theorem lp_pk2 {l : List (Nat × Nat)} (hl : okQ l) (hlen : l.length ≤ 20) {n m : Int} (hnn : n = 2 ∨ n = 3) (hm : m = 0 ∨ m = 1) (lo hi : Int32) {i : Nat} : ∀ (t j : Nat) (b : CB) (T : TS), i < j → j + t = l.length → hCh T m l → okD l b → hBc T b → ∃ T', rn k_Chooser_pick 88 [.ref 15, .int (iI n), .int lo, .int hi, .int (iI m), .int (iI (i : Int)), .int (iI (j : Int))] [] (enc T) = rn k_Chooser_pick 136 [.ref 15, .int (iI n), .int lo, .int hi, .int (iI m), .int (iI (i : Int)), .int (iI (l.length : Int))] [] (enc T') ∧ FrI aPp T T' ∧ hBc T' (c3R n m l i b j t) := by
  intro t
  induction t with
  | zero =>
    intro j b T hij hj hC hb hB
    have ej : (j : Int) = (l.length : Int) := by omega
    have hn := hC.2.1
    refine ⟨T, ?_, FrI.rf _ _, hB⟩
    rw [ej, e_Chooser_pick_88]
    simp (disch := first | omega | assumption | decide | (simp (disch := omega) only [iI_lit, iJ_lit, iJ_eq, iI_eq, bI_01, bI_01I] <;> omega)) only [e_Chooser_pick_90, e_Chooser_pick_91, e_Chooser_pick_94, bd_some, bd_none, Option.toList_some, Option.toList_none, List.nil_append, List.cons_append, px_kill_int, px_kill_long, px_kill_ref, px_kill_null, iI_lit, iJ_lit, iI_add, iI_sub, iI_mul, iI_neg, iJ_add, iJ_sub, iJ_mul, iJ_neg, iI_lt, iI_le, iI_eq, iJ_lt, iJ_le, iJ_eq, iI_div, iJ_div, tdiv_tmod, iI_J, iJ_I, iI_ix, iI_toInt, iJ_toInt, cmp_ge, cmp_lt, cmp_eq, cmp_gt, cmp_le, cmp_geI, cmp_ltI, cmp_eqI, cmp_gtI, cmp_leI, bI_0I, bI_1I, pin, if_true, hn, sh_n15, Int.le_refl]
  | succ t ih =>
    intro j b T hij hj hC hb hB
    obtain ⟨T1, e1, fr1, hB1⟩ := st_pk hl hlen hnn hm hij (show j < l.length by omega) hC hb hB lo hi
    obtain ⟨T2, e2, fr2, hB2⟩ := ih (j + 1) (c3S n m l b i j) T1 (by omega) (by omega) (hC.pp fr1) (c3S_okD hij (by omega) hb) hB1
    exact ⟨T2, e1.trans e2, fr1.tr fr2, hB2⟩
theorem lp_pk1 {l : List (Nat × Nat)} (hl : okQ l) (hlen : l.length ≤ 20) {n m : Int} (hnn : n = 2 ∨ n = 3) (hm : m = 0 ∨ m = 1) (lo hi : Int32) : ∀ (t i : Nat) (b : CB) (T : TS), i + t = l.length → hCh T m l → okD l b → hBc T b → ∀ a6 : Value, ∃ T', rn k_Chooser_pick 73 [.ref 15, .int (iI n), .int lo, .int hi, .int (iI m), .int (iI (i : Int)), a6] [] (enc T) = some (none, enc T') ∧ FrI aPp T T' ∧ hBc T' (c3A n m l b i t) := by
  intro t
  induction t with
  | zero =>
    intro i b T hi' hC hb hB a6
    have ei : (i : Int) = (l.length : Int) := by omega
    have hn := hC.2.1
    refine ⟨T, ?_, FrI.rf _ _, hB⟩
    rw [ei, e_Chooser_pick_73]
    simp (disch := first | omega | assumption | decide | (simp (disch := omega) only [iI_lit, iJ_lit, iJ_eq, iI_eq, bI_01, bI_01I] <;> omega)) only [e_Chooser_pick_75, e_Chooser_pick_76, e_Chooser_pick_79, e_Chooser_pick_82, e_Chooser_pick_84, e_Chooser_pick_85, e_Chooser_pick_86, e_Chooser_pick_142, bd_some, bd_none, Option.toList_some, Option.toList_none, List.nil_append, List.cons_append, px_kill_int, px_kill_long, px_kill_ref, px_kill_null, iI_lit, iJ_lit, iI_add, iI_sub, iI_mul, iI_neg, iJ_add, iJ_sub, iJ_mul, iJ_neg, iI_lt, iI_le, iI_eq, iJ_lt, iJ_le, iJ_eq, iI_div, iJ_div, tdiv_tmod, iI_J, iJ_I, iI_ix, iI_toInt, iJ_toInt, cmp_ge, cmp_lt, cmp_eq, cmp_gt, cmp_le, cmp_geI, cmp_ltI, cmp_eqI, cmp_gtI, cmp_leI, bI_0I, bI_1I, pin, if_true, hn, sh_n15, Int.le_refl]
  | succ t ih =>
    intro i b T hi' hC hb hB a6
    have hn := hC.2.1
    have nle : ¬ (l.length : Int) ≤ (i : Int) := by omega
    obtain ⟨T1, e1, fr1, hB1⟩ := lp_pk2 hl hlen hnn hm lo hi (i := i) (l.length - (i + 1)) (i + 1) b T (by omega) (by omega) hC hb hB
    obtain ⟨T2, e2, fr2, hB2⟩ := ih (i + 1) (c3R n m l i b (i + 1) (l.length - (i + 1))) T1 (by omega) (hC.pp fr1) (c3R_okD _ _ _ (by omega) (by omega) hb) hB1 (.int (iI (l.length : Int)))
    refine ⟨T2, ?_, fr1.tr fr2, hB2⟩
    rw [e_Chooser_pick_73]
    simp (disch := first | omega | assumption | decide | (simp (disch := omega) only [iI_lit, iJ_lit, iJ_eq, iI_eq, bI_01, bI_01I] <;> omega)) only [e_Chooser_pick_75, e_Chooser_pick_76, e_Chooser_pick_79, e_Chooser_pick_82, e_Chooser_pick_84, e_Chooser_pick_85, e_Chooser_pick_86, bd_some, bd_none, Option.toList_some, Option.toList_none, List.nil_append, List.cons_append, px_kill_int, px_kill_long, px_kill_ref, px_kill_null, iI_lit, iJ_lit, iI_add, iI_sub, iI_mul, iI_neg, iJ_add, iJ_sub, iJ_mul, iJ_neg, iI_lt, iI_le, iI_eq, iJ_lt, iJ_le, iJ_eq, iI_div, iJ_div, tdiv_tmod, iI_J, iJ_I, iI_ix, iI_toInt, iJ_toInt, cmp_ge, cmp_lt, cmp_eq, cmp_gt, cmp_le, cmp_geI, cmp_ltI, cmp_eqI, cmp_gtI, cmp_leI, bI_0I, bI_1I, pin, if_true, hn, sh_n15, nle, if_false]
    rw [show (i : Int) + 1 = ((i + 1 : Nat) : Int) by omega]
    refine e1.trans ?_
    simp (disch := first | omega | assumption | decide | (simp (disch := omega) only [iI_lit, iJ_lit, iJ_eq, iI_eq, bI_01, bI_01I] <;> omega)) only [e_Chooser_pick_136, e_Chooser_pick_139, bd_some, bd_none, Option.toList_some, Option.toList_none, List.nil_append, List.cons_append, px_kill_int, px_kill_long, px_kill_ref, px_kill_null, iI_lit, iJ_lit, iI_add, iI_sub, iI_mul, iI_neg, iJ_add, iJ_sub, iJ_mul, iJ_neg, iI_lt, iI_le, iI_eq, iJ_lt, iJ_le, iJ_eq, iI_div, iJ_div, tdiv_tmod, iI_J, iJ_I, iI_ix, iI_toInt, iJ_toInt, cmp_ge, cmp_lt, cmp_eq, cmp_gt, cmp_le, cmp_geI, cmp_ltI, cmp_eqI, cmp_gtI, cmp_leI, bI_0I, bI_1I, pin, if_true]
    rw [show (i : Int) + 1 = ((i + 1 : Nat) : Int) by omega]
    exact e2
/-- a choice that is held -/
def hChz (T : TS) (n m lo hi : Int) : Prop := (T.1 15 10 = iI n ∧ T.1 15 11 = iI lo ∧ T.1 15 12 = iI hi ∧ T.1 15 13 = iI m) ∧ ((n = 2 ∨ n = 3) ∧ (m = 0 ∨ m = 1) ∧ (1 ≤ lo ∧ lo ≤ 144) ∧ (1 ≤ hi ∧ hi ≤ 144) ∧ hi - lo ≤ 20) ∧ hBc T (chz n m lo hi) ∧ hSq T 16 17 (sqL lo hi)
def cCh (T : TS) : Prop := T.1 15 10 = iI 0 ∨ ∃ n m lo hi, hChz T n m lo hi
def aCz (q _k : Nat) : Prop := 15 ≤ q ∧ q ≤ 23
set_option maxHeartbeats 2000000 in
theorem c_pick34 {n m lo hi : Int} (hg : (n = 2 ∨ n = 3) ∧ (m = 0 ∨ m = 1) ∧ (1 ≤ lo ∧ lo ≤ 144) ∧ (1 ≤ hi ∧ hi ≤ 144) ∧ hi - lo ≤ 20) (T : TS) : ∃ T', rn k_Chooser_pick 34 [.ref 15, .int (iI n), .int (iI lo), .int (iI hi), .int (iI m), .null, .null] [] (enc T) = some (none, enc T') ∧ FrA aCz aCz T T' ∧ hChz T' n m lo hi := by
  obtain ⟨hnn, hm, hlo, hhi, hd⟩ := id hg
  obtain ⟨T0, hT0⟩ : ∃ T0, T0 = sI (sI (sI (sI T 15 10 (iI n)) 15 11 (iI lo)) 15 12 (iI hi)) 15 13 (iI m) := ⟨_, rfl⟩
  have fr0 : FrA aCz aCz T T0 := by
    rw [hT0]
    exact ((((FrA.rf aCz aCz T).wr _ (by unfold aCz; omega)).wr _ (by unfold aCz; omega)).wr _ (by unfold aCz; omega)).wr _ (by unfold aCz; omega)
  have s0 : rn k_Chooser_pick 34 [.ref 15, .int (iI n), .int (iI lo), .int (iI hi), .int (iI m), .null, .null] [] (enc T) = rn k_Chooser_pick 55 [.ref 15, .int (iI n), .int (iI lo), .int (iI hi), .int (iI m), .null, .null] [] (enc T0) := by
    rw [hT0]
    simp (disch := first | omega | assumption | decide | (simp (disch := omega) only [iI_lit, iJ_lit, iJ_eq, iI_eq, bI_01, bI_01I] <;> omega)) only [e_Chooser_pick_34, e_Chooser_pick_35, e_Chooser_pick_36, e_Chooser_pick_39, e_Chooser_pick_40, e_Chooser_pick_41, e_Chooser_pick_44, e_Chooser_pick_45, e_Chooser_pick_46, e_Chooser_pick_49, e_Chooser_pick_50, e_Chooser_pick_52, bd_some, bd_none, Option.toList_some, Option.toList_none, List.nil_append, List.cons_append, px_kill_int, px_kill_long, px_kill_ref, px_kill_null, iI_lit, iJ_lit, iI_add, iI_sub, iI_mul, iI_neg, iJ_add, iJ_sub, iJ_mul, iJ_neg, iI_lt, iI_le, iI_eq, iJ_lt, iJ_le, iJ_eq, iI_div, iJ_div, tdiv_tmod, iI_J, iJ_I, iI_ix, iI_toInt, iJ_toInt, cmp_ge, cmp_lt, cmp_eq, cmp_gt, cmp_le, cmp_geI, cmp_ltI, cmp_eqI, cmp_gtI, cmp_leI, bI_0I, bI_1I, pin, if_true, sh_n15]
  obtain ⟨T1, e1, fr1, hS1, hn1⟩ := c_squares hlo hhi hd T0
  have hlen := sqL_20 hlo hhi hd
  have hok := sqL_ok hlo hhi
  have ez : chz n m lo hi = c3A n m (sqL lo hi) none 0 (sqL lo hi).length := rfl
  have fr1' : FrA aCz aCz T0 T1 := (FrA.of fr1).mono (fun q k z => by unfold aSqC at z; unfold aCz; omega) (fun q k z => z)
  obtain ⟨T2, e2, fr2, hM2⟩ := c_matrix hok hlen hS1 hn1
  have fr2' : FrA aCz aCz T1 T2 := fr2.mono (fun q k z => by unfold aCs at z; unfold aCz; omega) (fun q k z => by unfold bCs at z; unfold aCz; omega)
  have r15 : ∀ k, k ≠ 2 → T2.1 15 k = T0.1 15 k := fun k hk => by rw [fr2.1 _ _ (by unfold aCs; omega), fr1.1 _ _ (by unfold aSqC; omega)]
  obtain ⟨T3, hT3⟩ : ∃ T3, T3 = sI T2 15 9 (iI (-1)) := ⟨_, rfl⟩
  have fr3 : FrA aCz aCz T2 T3 := by rw [hT3]; exact (FrA.rf aCz aCz T2).wr _ (by unfold aCz; omega)
  have hC3 : hCh T3 m (sqL lo hi) := by
    refine ⟨?_, ?_, ?_⟩
    · rw [hT3]; simp only [sI_get, sJ_get, sI_2, sJ_1, sJ_22, sR_1, sR_21, Nat.reduceEqDiff, and_true, true_and, and_false, false_and, and_self, if_true, if_false, reduceIte]
      rw [r15 13 (by omega), hT0]; simp only [sI_get, sJ_get, sI_2, sJ_1, sJ_22, sR_1, sR_21, Nat.reduceEqDiff, and_true, true_and, and_false, false_and, and_self, if_true, if_false, reduceIte]
    · rw [hT3]; simp only [sI_get, sJ_get, sI_2, sJ_1, sJ_22, sR_1, sR_21, Nat.reduceEqDiff, and_true, true_and, and_false, false_and, and_self, if_true, if_false, reduceIte]
      rw [fr2.1 _ _ (by unfold aCs; omega)]; exact hn1
    · rw [hT3]; exact hM2
  have hB3 : hBc T3 none := by
    rw [hT3]
    show (sI T2 15 9 (iI (-1))).1 15 9 = iI (-1)
    simp only [sI_get, sJ_get, sI_2, sJ_1, sJ_22, sR_1, sR_21, Nat.reduceEqDiff, and_true, true_and, and_false, false_and, and_self, if_true, if_false, reduceIte]
  have hS3 : hSq T3 16 17 (sqL lo hi) := by
    rw [hT3]
    exact (hS1.frA fr2 (fun k => by unfold aCs; omega) (fun k => by unfold aCs; omega)).fr (fun k => by simp only [sI_get, sJ_get, sI_2, sJ_1, sJ_22, sR_1, sR_21, Nat.reduceEqDiff, and_true, true_and, and_false, false_and, and_self, if_true, if_false, reduceIte]) (fun k => by simp only [sI_get, sJ_get, sI_2, sJ_1, sJ_22, sR_1, sR_21, Nat.reduceEqDiff, and_true, true_and, and_false, false_and, and_self, if_true, if_false, reduceIte])
  obtain ⟨T4, e4, fr4, hB4⟩ := lp_pk1 hok hlen hnn hm (iI lo) (iI hi) (sqL lo hi).length 0 none T3 (by omega) hC3 (fun x z => by cases z) hB3 .null
  have fr4' : FrA aCz aCz T3 T4 := (FrA.of fr4).mono (fun q k z => by unfold aPp at z; unfold aCz; omega) (fun q k z => z)
  have r15b : ∀ k, k ≠ 2 → k ≠ 9 → T4.1 15 k = T0.1 15 k := fun k hk hk2 => by rw [fr4.1 _ _ (by unfold aPp; omega), hT3]; simp only [sI_get, sJ_get, sI_2, sJ_1, sJ_22, sR_1, sR_21, Nat.reduceEqDiff, and_true, true_and, and_false, false_and, and_self, if_true, if_false, reduceIte, hk2]; exact r15 k hk
  refine ⟨T4, ?_, (((fr0.tr fr1').tr fr2').tr fr3).tr fr4', ⟨?_, ?_, ?_, ?_⟩, hg, ?_, ?_⟩
  · rw [s0]
    simp (disch := first | omega | assumption | decide | (simp (disch := omega) only [iI_lit, iJ_lit, iJ_eq, iI_eq, bI_01, bI_01I] <;> omega)) only [e_Chooser_pick_55, e_Chooser_pick_56, e_Chooser_pick_57, e_Chooser_pick_58, e_Chooser_pick_61, e_Chooser_pick_62, e_Chooser_pick_65, e_Chooser_pick_66, e_Chooser_pick_67, e_Chooser_pick_70, e_Chooser_pick_71, bd_some, bd_none, Option.toList_some, Option.toList_none, List.nil_append, List.cons_append, px_kill_int, px_kill_long, px_kill_ref, px_kill_null, iI_lit, iJ_lit, iI_add, iI_sub, iI_mul, iI_neg, iJ_add, iJ_sub, iJ_mul, iJ_neg, iI_lt, iI_le, iI_eq, iJ_lt, iJ_le, iJ_eq, iI_div, iJ_div, tdiv_tmod, iI_J, iJ_I, iI_ix, iI_toInt, iJ_toInt, cmp_ge, cmp_lt, cmp_eq, cmp_gt, cmp_le, cmp_geI, cmp_ltI, cmp_eqI, cmp_gtI, cmp_leI, bI_0I, bI_1I, pin, if_true, sh_n15, e1, e2]
    rw [← hT3]
    exact e4
  · rw [r15b 10 (by omega) (by omega), hT0]; simp only [sI_get, sJ_get, sI_2, sJ_1, sJ_22, sR_1, sR_21, Nat.reduceEqDiff, and_true, true_and, and_false, false_and, and_self, if_true, if_false, reduceIte]
  · rw [r15b 11 (by omega) (by omega), hT0]; simp only [sI_get, sJ_get, sI_2, sJ_1, sJ_22, sR_1, sR_21, Nat.reduceEqDiff, and_true, true_and, and_false, false_and, and_self, if_true, if_false, reduceIte]
  · rw [r15b 12 (by omega) (by omega), hT0]; simp only [sI_get, sJ_get, sI_2, sJ_1, sJ_22, sR_1, sR_21, Nat.reduceEqDiff, and_true, true_and, and_false, false_and, and_self, if_true, if_false, reduceIte]
  · rw [r15b 13 (by omega) (by omega), hT0]; simp only [sI_get, sJ_get, sI_2, sJ_1, sJ_22, sR_1, sR_21, Nat.reduceEqDiff, and_true, true_and, and_false, false_and, and_self, if_true, if_false, reduceIte]
  · rw [ez]; exact hB4
  · exact hS3.fr (fun k => fr4.1 _ _ (by unfold aPp; omega)) (fun k => fr4.1 _ _ (by unfold aPp; omega))
set_option maxHeartbeats 2000000 in
theorem c_pick {n m lo hi : Int} (hg : (n = 2 ∨ n = 3) ∧ (m = 0 ∨ m = 1) ∧ (1 ≤ lo ∧ lo ≤ 144) ∧ (1 ≤ hi ∧ hi ≤ 144) ∧ hi - lo ≤ 20) {T : TS} (hc : cCh T) : ∃ T', cl k_Chooser_pick [.ref 15, .int (iI n), .int (iI lo), .int (iI hi), .int (iI m)] (enc T) = some (none, enc T') ∧ FrA aCz aCz T T' ∧ hChz T' n m lo hi := by
  obtain ⟨hnn, hm, hlo, hhi, hd⟩ := id hg
  obtain ⟨T', e, fr, h⟩ := c_pick34 hg T
  rcases hc with hc | ⟨n0, m0, lo0, hi0, hz⟩
  · refine ⟨T', ?_, fr, h⟩
    have n0 : ¬ n = 0 := by omega
    refine Eq.trans ?_ e
    simp (disch := first | omega | assumption | decide | (simp (disch := omega) only [iI_lit, iJ_lit, iJ_eq, iI_eq, bI_01, bI_01I] <;> omega)) only [c_Chooser_pick, e_Chooser_pick_0, e_Chooser_pick_1, e_Chooser_pick_2, e_Chooser_pick_5, e_Chooser_pick_8, e_Chooser_pick_9, e_Chooser_pick_10, e_Chooser_pick_13, e_Chooser_pick_16, e_Chooser_pick_17, e_Chooser_pick_18, e_Chooser_pick_21, e_Chooser_pick_24, e_Chooser_pick_26, e_Chooser_pick_27, e_Chooser_pick_30, e_Chooser_pick_33, bd_some, bd_none, Option.toList_some, Option.toList_none, List.nil_append, List.cons_append, px_kill_int, px_kill_long, px_kill_ref, px_kill_null, iI_lit, iJ_lit, iI_add, iI_sub, iI_mul, iI_neg, iJ_add, iJ_sub, iJ_mul, iJ_neg, iI_lt, iI_le, iI_eq, iJ_lt, iJ_le, iJ_eq, iI_div, iJ_div, tdiv_tmod, iI_J, iJ_I, iI_ix, iI_toInt, iJ_toInt, cmp_ge, cmp_lt, cmp_eq, cmp_gt, cmp_le, cmp_geI, cmp_ltI, cmp_eqI, cmp_gtI, cmp_leI, bI_0I, bI_1I, pin, if_true, sh_n15, hc, n0, if_false]
  · obtain ⟨⟨z1, z2, z3, z4⟩, ⟨y1, y2, y3, y4, y5⟩, _, _⟩ := id hz
    by_cases c1 : n = n0
    · by_cases c2 : lo = lo0
      · by_cases c3 : hi = hi0
        · by_cases c4 : m = m0
          · subst c1 c2 c3 c4
            refine ⟨T, ?_, FrA.rf _ _ _, hz⟩
            simp (disch := first | omega | assumption | decide | (simp (disch := omega) only [iI_lit, iJ_lit, iJ_eq, iI_eq, bI_01, bI_01I] <;> omega)) only [c_Chooser_pick, e_Chooser_pick_0, e_Chooser_pick_1, e_Chooser_pick_2, e_Chooser_pick_5, e_Chooser_pick_8, e_Chooser_pick_9, e_Chooser_pick_10, e_Chooser_pick_13, e_Chooser_pick_16, e_Chooser_pick_17, e_Chooser_pick_18, e_Chooser_pick_21, e_Chooser_pick_24, e_Chooser_pick_26, e_Chooser_pick_27, e_Chooser_pick_30, e_Chooser_pick_33, bd_some, bd_none, Option.toList_some, Option.toList_none, List.nil_append, List.cons_append, px_kill_int, px_kill_long, px_kill_ref, px_kill_null, iI_lit, iJ_lit, iI_add, iI_sub, iI_mul, iI_neg, iJ_add, iJ_sub, iJ_mul, iJ_neg, iI_lt, iI_le, iI_eq, iJ_lt, iJ_le, iJ_eq, iI_div, iJ_div, tdiv_tmod, iI_J, iJ_I, iI_ix, iI_toInt, iJ_toInt, cmp_ge, cmp_lt, cmp_eq, cmp_gt, cmp_le, cmp_geI, cmp_ltI, cmp_eqI, cmp_gtI, cmp_leI, bI_0I, bI_1I, pin, if_true, sh_n15, z1, z2, z3, z4]
          · refine ⟨T', ?_, fr, h⟩
            refine Eq.trans ?_ e
            subst c1 c2 c3
            simp (disch := first | omega | assumption | decide | (simp (disch := omega) only [iI_lit, iJ_lit, iJ_eq, iI_eq, bI_01, bI_01I] <;> omega)) only [c_Chooser_pick, e_Chooser_pick_0, e_Chooser_pick_1, e_Chooser_pick_2, e_Chooser_pick_5, e_Chooser_pick_8, e_Chooser_pick_9, e_Chooser_pick_10, e_Chooser_pick_13, e_Chooser_pick_16, e_Chooser_pick_17, e_Chooser_pick_18, e_Chooser_pick_21, e_Chooser_pick_24, e_Chooser_pick_26, e_Chooser_pick_27, e_Chooser_pick_30, e_Chooser_pick_33, bd_some, bd_none, Option.toList_some, Option.toList_none, List.nil_append, List.cons_append, px_kill_int, px_kill_long, px_kill_ref, px_kill_null, iI_lit, iJ_lit, iI_add, iI_sub, iI_mul, iI_neg, iJ_add, iJ_sub, iJ_mul, iJ_neg, iI_lt, iI_le, iI_eq, iJ_lt, iJ_le, iJ_eq, iI_div, iJ_div, tdiv_tmod, iI_J, iJ_I, iI_ix, iI_toInt, iJ_toInt, cmp_ge, cmp_lt, cmp_eq, cmp_gt, cmp_le, cmp_geI, cmp_ltI, cmp_eqI, cmp_gtI, cmp_leI, bI_0I, bI_1I, pin, if_true, sh_n15, z1, z2, z3, z4, c4, if_false]
        · refine ⟨T', ?_, fr, h⟩
          refine Eq.trans ?_ e
          subst c1 c2
          simp (disch := first | omega | assumption | decide | (simp (disch := omega) only [iI_lit, iJ_lit, iJ_eq, iI_eq, bI_01, bI_01I] <;> omega)) only [c_Chooser_pick, e_Chooser_pick_0, e_Chooser_pick_1, e_Chooser_pick_2, e_Chooser_pick_5, e_Chooser_pick_8, e_Chooser_pick_9, e_Chooser_pick_10, e_Chooser_pick_13, e_Chooser_pick_16, e_Chooser_pick_17, e_Chooser_pick_18, e_Chooser_pick_21, e_Chooser_pick_24, e_Chooser_pick_26, e_Chooser_pick_27, e_Chooser_pick_30, e_Chooser_pick_33, bd_some, bd_none, Option.toList_some, Option.toList_none, List.nil_append, List.cons_append, px_kill_int, px_kill_long, px_kill_ref, px_kill_null, iI_lit, iJ_lit, iI_add, iI_sub, iI_mul, iI_neg, iJ_add, iJ_sub, iJ_mul, iJ_neg, iI_lt, iI_le, iI_eq, iJ_lt, iJ_le, iJ_eq, iI_div, iJ_div, tdiv_tmod, iI_J, iJ_I, iI_ix, iI_toInt, iJ_toInt, cmp_ge, cmp_lt, cmp_eq, cmp_gt, cmp_le, cmp_geI, cmp_ltI, cmp_eqI, cmp_gtI, cmp_leI, bI_0I, bI_1I, pin, if_true, sh_n15, z1, z2, z3, z4, c3, if_false]
      · refine ⟨T', ?_, fr, h⟩
        refine Eq.trans ?_ e
        subst c1
        simp (disch := first | omega | assumption | decide | (simp (disch := omega) only [iI_lit, iJ_lit, iJ_eq, iI_eq, bI_01, bI_01I] <;> omega)) only [c_Chooser_pick, e_Chooser_pick_0, e_Chooser_pick_1, e_Chooser_pick_2, e_Chooser_pick_5, e_Chooser_pick_8, e_Chooser_pick_9, e_Chooser_pick_10, e_Chooser_pick_13, e_Chooser_pick_16, e_Chooser_pick_17, e_Chooser_pick_18, e_Chooser_pick_21, e_Chooser_pick_24, e_Chooser_pick_26, e_Chooser_pick_27, e_Chooser_pick_30, e_Chooser_pick_33, bd_some, bd_none, Option.toList_some, Option.toList_none, List.nil_append, List.cons_append, px_kill_int, px_kill_long, px_kill_ref, px_kill_null, iI_lit, iJ_lit, iI_add, iI_sub, iI_mul, iI_neg, iJ_add, iJ_sub, iJ_mul, iJ_neg, iI_lt, iI_le, iI_eq, iJ_lt, iJ_le, iJ_eq, iI_div, iJ_div, tdiv_tmod, iI_J, iJ_I, iI_ix, iI_toInt, iJ_toInt, cmp_ge, cmp_lt, cmp_eq, cmp_gt, cmp_le, cmp_geI, cmp_ltI, cmp_eqI, cmp_gtI, cmp_leI, bI_0I, bI_1I, pin, if_true, sh_n15, z1, z2, z3, z4, c2, if_false]
    · refine ⟨T', ?_, fr, h⟩
      refine Eq.trans ?_ e
      simp (disch := first | omega | assumption | decide | (simp (disch := omega) only [iI_lit, iJ_lit, iJ_eq, iI_eq, bI_01, bI_01I] <;> omega)) only [c_Chooser_pick, e_Chooser_pick_0, e_Chooser_pick_1, e_Chooser_pick_2, e_Chooser_pick_5, e_Chooser_pick_8, e_Chooser_pick_9, e_Chooser_pick_10, e_Chooser_pick_13, e_Chooser_pick_16, e_Chooser_pick_17, e_Chooser_pick_18, e_Chooser_pick_21, e_Chooser_pick_24, e_Chooser_pick_26, e_Chooser_pick_27, e_Chooser_pick_30, e_Chooser_pick_33, bd_some, bd_none, Option.toList_some, Option.toList_none, List.nil_append, List.cons_append, px_kill_int, px_kill_long, px_kill_ref, px_kill_null, iI_lit, iJ_lit, iI_add, iI_sub, iI_mul, iI_neg, iJ_add, iJ_sub, iJ_mul, iJ_neg, iI_lt, iI_le, iI_eq, iJ_lt, iJ_le, iJ_eq, iI_div, iJ_div, tdiv_tmod, iI_J, iJ_I, iI_ix, iI_toInt, iJ_toInt, cmp_ge, cmp_lt, cmp_eq, cmp_gt, cmp_le, cmp_geI, cmp_ltI, cmp_eqI, cmp_gtI, cmp_leI, bI_0I, bI_1I, pin, if_true, sh_n15, z1, z2, z3, z4, c1, if_false]
def chI (x : (Nat × Nat) × Nat × Nat × Nat) (i : Int) : Nat := if i = 0 then x.2.1 else if i = 1 then x.2.2.1 else x.2.2.2
def chK (l : List (Nat × Nat)) (b : CB) (i k : Int) : Int := match b with
  | none => -1
  | some x => if k = 0 then ((gQ l (chI x i)).1 : Int) else ((gQ l (chI x i)).2 : Int)
abbrev isCh (n lo hi i k : Int) : Prop := (n = 2 ∨ n = 3) ∧ (0 ≤ i ∧ i < n) ∧ (0 ≤ k ∧ k ≤ 1) ∧ (1 ≤ lo ∧ lo ≤ 144) ∧ (1 ≤ hi ∧ hi ≤ 144) ∧ hi - lo ≤ 20
def qChoose (n lo hi m i k : Int) : Int := if isCh n lo hi i k then chK (sqL lo hi) (chz n m lo hi) i k else -1
theorem chz_ok (n m lo hi : Int) : okD (sqL lo hi) (chz n m lo hi) := c3A_okD _ _ _ (by omega) (fun x z => by cases z)
set_option maxHeartbeats 2000000 in
theorem c_part {n m lo hi i k : Int} (hgg : isCh n lo hi i k) {T : TS} (h : hChz T n m lo hi) : cl k_Chooser_part [.ref 15, .int (iI i), .int (iI k)] (enc T) = some (some (.int (iI (chK (sqL lo hi) (chz n m lo hi) i k))), enc T) := by
  obtain ⟨g1, g2, g3, g4, g5, g6⟩ := hgg
  have hlen := sqL_20 g4 g5 g6
  obtain ⟨_, _, hB, hS⟩ := h
  have hD := chz_ok n m lo hi
  have e3 : Int32.ofNat 3 = iI 3 := by decide
  generalize chz n m lo hi = b at *
  cases b with
  | none =>
    have hB' : T.1 15 9 = iI (-1) := hB
    have e : chK (sqL lo hi) none i k = -1 := rfl
    rw [e]
    simp (disch := first | omega | assumption | decide | (simp (disch := omega) only [iI_lit, iJ_lit, iJ_eq, iI_eq, bI_01, bI_01I] <;> omega)) only [c_Chooser_part, e_Chooser_part_0, e_Chooser_part_1, e_Chooser_part_4, e_Chooser_part_5, e_Chooser_part_8, e_Chooser_part_9, e_Chooser_part_12, e_Chooser_part_13, e_Chooser_part_14, e_Chooser_part_17, e_Chooser_part_18, e_Chooser_part_21, e_Chooser_part_22, e_Chooser_part_23, e_Chooser_part_24, e_Chooser_part_27, e_Chooser_part_28, e_Chooser_part_31, e_Chooser_part_34, e_Chooser_part_35, e_Chooser_part_38, e_Chooser_part_39, e_Chooser_part_42, e_Chooser_part_43, e_Chooser_part_44, e_Chooser_part_47, bd_some, bd_none, Option.toList_some, Option.toList_none, List.nil_append, List.cons_append, px_kill_int, px_kill_long, px_kill_ref, px_kill_null, iI_lit, iJ_lit, iI_add, iI_sub, iI_mul, iI_neg, iJ_add, iJ_sub, iJ_mul, iJ_neg, iI_lt, iI_le, iI_eq, iJ_lt, iJ_le, iJ_eq, iI_div, iJ_div, tdiv_tmod, iI_J, iJ_I, iI_ix, iI_toInt, iJ_toInt, cmp_ge, cmp_lt, cmp_eq, cmp_gt, cmp_le, cmp_geI, cmp_ltI, cmp_eqI, cmp_gtI, cmp_leI, bI_0I, bI_1I, pin, if_true, sh_n15, hB']
  | some x =>
    obtain ⟨hB1, hB2, hB3, hB4⟩ := hB
    obtain ⟨⟨d1, d2⟩, d3, d4, d5⟩ := hD x rfl
    have nx : ¬ cpN x.1 = -1 := by unfold cpN; omega
    have bx : 0 ≤ cpN x.1 ∧ cpN x.1 < 400 := by unfold cpN; omega
    have ni0 : ¬ i < 0 := by omega
    have i3 : i < 3 := by omega
    have hcI : T.1 23 i.toNat = iI ((chI x i : Nat) : Int) ∧ chI x i < (sqL lo hi).length := by
      unfold chI
      by_cases i0 : i = 0
      · subst i0; rw [if_pos rfl]; exact ⟨hB2, d3⟩
      · by_cases i1 : i = 1
        · subst i1; rw [if_neg i0, if_pos rfl]; exact ⟨hB3, d4⟩
        · have i2 : i = 2 := by omega
          subst i2; rw [if_neg i0, if_neg i1]; exact ⟨hB4, d5⟩
    generalize hw : chI x i = w at *
    obtain ⟨s1, s2⟩ := hS w hcI.2
    have a1 := g_at (T := T) (p := 16) (N := 20) (n := (w : Int)) rfl (by omega) (by omega)
    have a2 := g_at (T := T) (p := 17) (N := 20) (n := (w : Int)) rfl (by omega) (by omega)
    have ew : ((w : Int)).toNat = w := by omega
    rw [ew] at a1 a2
    have hcI1 := hcI.1
    have e : chK (sqL lo hi) (some x) i k = if k = 0 then ((gQ (sqL lo hi) w).1 : Int) else ((gQ (sqL lo hi) w).2 : Int) := by
      show (if k = 0 then ((gQ (sqL lo hi) (chI x i)).1 : Int) else ((gQ (sqL lo hi) (chI x i)).2 : Int)) = _
      rw [hw]
    rw [e]
    generalize cpN x.1 = C at *
    by_cases k0 : k = 0
    · subst k0
      rw [if_pos rfl]
      simp (disch := first | omega | assumption | decide | (simp (disch := omega) only [iI_lit, iJ_lit, iJ_eq, iI_eq, bI_01, bI_01I] <;> omega)) only [c_Chooser_part, e_Chooser_part_0, e_Chooser_part_1, e_Chooser_part_4, e_Chooser_part_5, e_Chooser_part_8, e_Chooser_part_9, e_Chooser_part_12, e_Chooser_part_13, e_Chooser_part_14, e_Chooser_part_17, e_Chooser_part_18, e_Chooser_part_21, e_Chooser_part_22, e_Chooser_part_23, e_Chooser_part_24, e_Chooser_part_27, e_Chooser_part_28, e_Chooser_part_31, e_Chooser_part_34, e_Chooser_part_35, e_Chooser_part_38, e_Chooser_part_39, e_Chooser_part_42, e_Chooser_part_43, e_Chooser_part_44, e_Chooser_part_47, bd_some, bd_none, Option.toList_some, Option.toList_none, List.nil_append, List.cons_append, px_kill_int, px_kill_long, px_kill_ref, px_kill_null, iI_lit, iJ_lit, iI_add, iI_sub, iI_mul, iI_neg, iJ_add, iJ_sub, iJ_mul, iJ_neg, iI_lt, iI_le, iI_eq, iJ_lt, iJ_le, iJ_eq, iI_div, iJ_div, tdiv_tmod, iI_J, iJ_I, iI_ix, iI_toInt, iJ_toInt, cmp_ge, cmp_lt, cmp_eq, cmp_gt, cmp_le, cmp_geI, cmp_ltI, cmp_eqI, cmp_gtI, cmp_leI, bI_0I, bI_1I, pin, if_true, sh_n15, sh_n23, e3, hB1, nx, ni0, i3, if_false, hcI1, a1, s1]
    · have k1 : k = 1 := by omega
      subst k1
      rw [if_neg k0]
      simp (disch := first | omega | assumption | decide | (simp (disch := omega) only [iI_lit, iJ_lit, iJ_eq, iI_eq, bI_01, bI_01I] <;> omega)) only [c_Chooser_part, e_Chooser_part_0, e_Chooser_part_1, e_Chooser_part_4, e_Chooser_part_5, e_Chooser_part_8, e_Chooser_part_9, e_Chooser_part_12, e_Chooser_part_13, e_Chooser_part_14, e_Chooser_part_17, e_Chooser_part_18, e_Chooser_part_21, e_Chooser_part_22, e_Chooser_part_23, e_Chooser_part_24, e_Chooser_part_27, e_Chooser_part_28, e_Chooser_part_31, e_Chooser_part_34, e_Chooser_part_35, e_Chooser_part_38, e_Chooser_part_39, e_Chooser_part_42, e_Chooser_part_43, e_Chooser_part_44, e_Chooser_part_47, bd_some, bd_none, Option.toList_some, Option.toList_none, List.nil_append, List.cons_append, px_kill_int, px_kill_long, px_kill_ref, px_kill_null, iI_lit, iJ_lit, iI_add, iI_sub, iI_mul, iI_neg, iJ_add, iJ_sub, iJ_mul, iJ_neg, iI_lt, iI_le, iI_eq, iJ_lt, iJ_le, iJ_eq, iI_div, iJ_div, tdiv_tmod, iI_J, iJ_I, iI_ix, iI_toInt, iJ_toInt, cmp_ge, cmp_lt, cmp_eq, cmp_gt, cmp_le, cmp_geI, cmp_ltI, cmp_eqI, cmp_gtI, cmp_leI, bI_0I, bI_1I, pin, if_true, sh_n15, sh_n23, e3, hB1, nx, ni0, i3, one0, if_false, hcI1, a2, s2]
set_option maxHeartbeats 2000000 in
theorem q_Ds_choose {T : TS} (hc : cCh T) {n lo hi m i k : Int} (hn : inI n) (hlo : inI lo) (hhi : inI hi) (hm : m = 0 ∨ m = 1) (hi' : inI i) (hk : inI k) : ∃ T', cl k_Ds_choose [.ref 0, .int (iI n), .int (iI lo), .int (iI hi), .int (iI m), .int (iI i), .int (iI k)] (enc T) = some (some (.int (iI (qChoose n lo hi m i k))), enc T') ∧ FrA aCz aCz T T' ∧ cCh T' := by
  obtain ⟨n1, n2⟩ := hn
  obtain ⟨lo1, lo2⟩ := hlo
  obtain ⟨hi1, hi2⟩ := hhi
  obtain ⟨i1, i2⟩ := hi'
  have g3 := g_isAxis hk (enc T)
  obtain ⟨k1, k2⟩ := id hk
  unfold qChoose
  by_cases c : isCh n lo hi i k
  · rw [if_pos c]
    obtain ⟨q1, q2, q3, q4, q5, q6⟩ := id c
    rw [bI_tI q3] at g3
    obtain ⟨T', e, fr, h⟩ := c_pick (n := n) (m := m) (lo := lo) (hi := hi) ⟨q1, hm, q4, q5, q6⟩ hc
    have ep := c_part c h
    refine ⟨T', ?_, fr, Or.inr ⟨n, m, lo, hi, h⟩⟩
    have a1 : ¬ n < 2 := by omega
    have a2 : ¬ 3 < n := by omega
    have a3 : ¬ i < 0 := by omega
    have a4 : ¬ n ≤ i := by omega
    have a5 : ¬ lo < 1 := by omega
    have a6 : ¬ 144 < lo := by omega
    have a7 : ¬ hi < 1 := by omega
    have a8 : ¬ 144 < hi := by omega
    simp (disch := first | omega | assumption | decide | (simp (disch := omega) only [iI_lit, iJ_lit, iJ_eq, iI_eq, bI_01, bI_01I] <;> omega)) only [c_Ds_choose, e_Ds_choose_0, e_Ds_choose_1, e_Ds_choose_2, e_Ds_choose_5, e_Ds_choose_6, e_Ds_choose_7, e_Ds_choose_10, e_Ds_choose_12, e_Ds_choose_15, e_Ds_choose_17, e_Ds_choose_18, e_Ds_choose_21, e_Ds_choose_23, e_Ds_choose_26, e_Ds_choose_29, e_Ds_choose_30, e_Ds_choose_31, e_Ds_choose_32, e_Ds_choose_33, e_Ds_choose_36, e_Ds_choose_37, e_Ds_choose_40, e_Ds_choose_43, e_Ds_choose_44, e_Ds_choose_45, e_Ds_choose_48, e_Ds_choose_49, e_Ds_choose_52, e_Ds_choose_55, e_Ds_choose_56, e_Ds_choose_57, e_Ds_choose_58, e_Ds_choose_60, e_Ds_choose_63, e_Ds_choose_64, e_Ds_choose_65, e_Ds_choose_66, e_Ds_choose_69, e_Ds_choose_70, e_Ds_choose_71, e_Ds_choose_72, e_Ds_choose_74, e_Ds_choose_77, e_Ds_choose_78, e_Ds_choose_81, e_Ds_choose_83, e_Ds_choose_85, e_Ds_choose_88, bd_some, bd_none, Option.toList_some, Option.toList_none, List.nil_append, List.cons_append, px_kill_int, px_kill_long, px_kill_ref, px_kill_null, iI_lit, iJ_lit, iI_add, iI_sub, iI_mul, iI_neg, iJ_add, iJ_sub, iJ_mul, iJ_neg, iI_lt, iI_le, iI_eq, iJ_lt, iJ_le, iJ_eq, iI_div, iJ_div, tdiv_tmod, iI_J, iJ_I, iI_ix, iI_toInt, iJ_toInt, cmp_ge, cmp_lt, cmp_eq, cmp_gt, cmp_le, cmp_geI, cmp_ltI, cmp_eqI, cmp_gtI, cmp_leI, bI_0I, bI_1I, pin, if_true, a1, a2, a3, a4, a5, a6, a7, a8, q6, if_false, g3, one0, sh_n15, e, ep]
  · rw [if_neg c]
    refine ⟨T, ?_, FrA.rf _ _ _, hc⟩
    by_cases a1 : n < 2
    · simp (disch := first | omega | assumption | decide | (simp (disch := omega) only [iI_lit, iJ_lit, iJ_eq, iI_eq, bI_01, bI_01I] <;> omega)) only [c_Ds_choose, e_Ds_choose_0, e_Ds_choose_1, e_Ds_choose_2, e_Ds_choose_5, e_Ds_choose_6, e_Ds_choose_7, e_Ds_choose_10, e_Ds_choose_12, e_Ds_choose_15, e_Ds_choose_17, e_Ds_choose_18, e_Ds_choose_21, e_Ds_choose_23, e_Ds_choose_26, e_Ds_choose_29, e_Ds_choose_30, e_Ds_choose_31, e_Ds_choose_32, e_Ds_choose_33, e_Ds_choose_36, e_Ds_choose_37, e_Ds_choose_40, e_Ds_choose_43, e_Ds_choose_44, e_Ds_choose_45, e_Ds_choose_48, e_Ds_choose_49, e_Ds_choose_52, e_Ds_choose_55, e_Ds_choose_56, e_Ds_choose_57, e_Ds_choose_58, e_Ds_choose_60, e_Ds_choose_63, e_Ds_choose_64, e_Ds_choose_65, e_Ds_choose_66, e_Ds_choose_69, e_Ds_choose_70, e_Ds_choose_71, e_Ds_choose_72, e_Ds_choose_74, e_Ds_choose_77, e_Ds_choose_78, e_Ds_choose_81, e_Ds_choose_83, e_Ds_choose_85, e_Ds_choose_88, bd_some, bd_none, Option.toList_some, Option.toList_none, List.nil_append, List.cons_append, px_kill_int, px_kill_long, px_kill_ref, px_kill_null, iI_lit, iJ_lit, iI_add, iI_sub, iI_mul, iI_neg, iJ_add, iJ_sub, iJ_mul, iJ_neg, iI_lt, iI_le, iI_eq, iJ_lt, iJ_le, iJ_eq, iI_div, iJ_div, tdiv_tmod, iI_J, iJ_I, iI_ix, iI_toInt, iJ_toInt, cmp_ge, cmp_lt, cmp_eq, cmp_gt, cmp_le, cmp_geI, cmp_ltI, cmp_eqI, cmp_gtI, cmp_leI, bI_0I, bI_1I, pin, if_true, a1]
    by_cases a2 : 3 < n
    · simp (disch := first | omega | assumption | decide | (simp (disch := omega) only [iI_lit, iJ_lit, iJ_eq, iI_eq, bI_01, bI_01I] <;> omega)) only [c_Ds_choose, e_Ds_choose_0, e_Ds_choose_1, e_Ds_choose_2, e_Ds_choose_5, e_Ds_choose_6, e_Ds_choose_7, e_Ds_choose_10, e_Ds_choose_12, e_Ds_choose_15, e_Ds_choose_17, e_Ds_choose_18, e_Ds_choose_21, e_Ds_choose_23, e_Ds_choose_26, e_Ds_choose_29, e_Ds_choose_30, e_Ds_choose_31, e_Ds_choose_32, e_Ds_choose_33, e_Ds_choose_36, e_Ds_choose_37, e_Ds_choose_40, e_Ds_choose_43, e_Ds_choose_44, e_Ds_choose_45, e_Ds_choose_48, e_Ds_choose_49, e_Ds_choose_52, e_Ds_choose_55, e_Ds_choose_56, e_Ds_choose_57, e_Ds_choose_58, e_Ds_choose_60, e_Ds_choose_63, e_Ds_choose_64, e_Ds_choose_65, e_Ds_choose_66, e_Ds_choose_69, e_Ds_choose_70, e_Ds_choose_71, e_Ds_choose_72, e_Ds_choose_74, e_Ds_choose_77, e_Ds_choose_78, e_Ds_choose_81, e_Ds_choose_83, e_Ds_choose_85, e_Ds_choose_88, bd_some, bd_none, Option.toList_some, Option.toList_none, List.nil_append, List.cons_append, px_kill_int, px_kill_long, px_kill_ref, px_kill_null, iI_lit, iJ_lit, iI_add, iI_sub, iI_mul, iI_neg, iJ_add, iJ_sub, iJ_mul, iJ_neg, iI_lt, iI_le, iI_eq, iJ_lt, iJ_le, iJ_eq, iI_div, iJ_div, tdiv_tmod, iI_J, iJ_I, iI_ix, iI_toInt, iJ_toInt, cmp_ge, cmp_lt, cmp_eq, cmp_gt, cmp_le, cmp_geI, cmp_ltI, cmp_eqI, cmp_gtI, cmp_leI, bI_0I, bI_1I, pin, if_true, a1, a2, if_false]
    by_cases a3 : i < 0
    · simp (disch := first | omega | assumption | decide | (simp (disch := omega) only [iI_lit, iJ_lit, iJ_eq, iI_eq, bI_01, bI_01I] <;> omega)) only [c_Ds_choose, e_Ds_choose_0, e_Ds_choose_1, e_Ds_choose_2, e_Ds_choose_5, e_Ds_choose_6, e_Ds_choose_7, e_Ds_choose_10, e_Ds_choose_12, e_Ds_choose_15, e_Ds_choose_17, e_Ds_choose_18, e_Ds_choose_21, e_Ds_choose_23, e_Ds_choose_26, e_Ds_choose_29, e_Ds_choose_30, e_Ds_choose_31, e_Ds_choose_32, e_Ds_choose_33, e_Ds_choose_36, e_Ds_choose_37, e_Ds_choose_40, e_Ds_choose_43, e_Ds_choose_44, e_Ds_choose_45, e_Ds_choose_48, e_Ds_choose_49, e_Ds_choose_52, e_Ds_choose_55, e_Ds_choose_56, e_Ds_choose_57, e_Ds_choose_58, e_Ds_choose_60, e_Ds_choose_63, e_Ds_choose_64, e_Ds_choose_65, e_Ds_choose_66, e_Ds_choose_69, e_Ds_choose_70, e_Ds_choose_71, e_Ds_choose_72, e_Ds_choose_74, e_Ds_choose_77, e_Ds_choose_78, e_Ds_choose_81, e_Ds_choose_83, e_Ds_choose_85, e_Ds_choose_88, bd_some, bd_none, Option.toList_some, Option.toList_none, List.nil_append, List.cons_append, px_kill_int, px_kill_long, px_kill_ref, px_kill_null, iI_lit, iJ_lit, iI_add, iI_sub, iI_mul, iI_neg, iJ_add, iJ_sub, iJ_mul, iJ_neg, iI_lt, iI_le, iI_eq, iJ_lt, iJ_le, iJ_eq, iI_div, iJ_div, tdiv_tmod, iI_J, iJ_I, iI_ix, iI_toInt, iJ_toInt, cmp_ge, cmp_lt, cmp_eq, cmp_gt, cmp_le, cmp_geI, cmp_ltI, cmp_eqI, cmp_gtI, cmp_leI, bI_0I, bI_1I, pin, if_true, a1, a2, a3, if_false]
    by_cases a4 : n ≤ i
    · simp (disch := first | omega | assumption | decide | (simp (disch := omega) only [iI_lit, iJ_lit, iJ_eq, iI_eq, bI_01, bI_01I] <;> omega)) only [c_Ds_choose, e_Ds_choose_0, e_Ds_choose_1, e_Ds_choose_2, e_Ds_choose_5, e_Ds_choose_6, e_Ds_choose_7, e_Ds_choose_10, e_Ds_choose_12, e_Ds_choose_15, e_Ds_choose_17, e_Ds_choose_18, e_Ds_choose_21, e_Ds_choose_23, e_Ds_choose_26, e_Ds_choose_29, e_Ds_choose_30, e_Ds_choose_31, e_Ds_choose_32, e_Ds_choose_33, e_Ds_choose_36, e_Ds_choose_37, e_Ds_choose_40, e_Ds_choose_43, e_Ds_choose_44, e_Ds_choose_45, e_Ds_choose_48, e_Ds_choose_49, e_Ds_choose_52, e_Ds_choose_55, e_Ds_choose_56, e_Ds_choose_57, e_Ds_choose_58, e_Ds_choose_60, e_Ds_choose_63, e_Ds_choose_64, e_Ds_choose_65, e_Ds_choose_66, e_Ds_choose_69, e_Ds_choose_70, e_Ds_choose_71, e_Ds_choose_72, e_Ds_choose_74, e_Ds_choose_77, e_Ds_choose_78, e_Ds_choose_81, e_Ds_choose_83, e_Ds_choose_85, e_Ds_choose_88, bd_some, bd_none, Option.toList_some, Option.toList_none, List.nil_append, List.cons_append, px_kill_int, px_kill_long, px_kill_ref, px_kill_null, iI_lit, iJ_lit, iI_add, iI_sub, iI_mul, iI_neg, iJ_add, iJ_sub, iJ_mul, iJ_neg, iI_lt, iI_le, iI_eq, iJ_lt, iJ_le, iJ_eq, iI_div, iJ_div, tdiv_tmod, iI_J, iJ_I, iI_ix, iI_toInt, iJ_toInt, cmp_ge, cmp_lt, cmp_eq, cmp_gt, cmp_le, cmp_geI, cmp_ltI, cmp_eqI, cmp_gtI, cmp_leI, bI_0I, bI_1I, pin, if_true, a1, a2, a3, a4, if_false]
    by_cases a9 : 0 ≤ k ∧ k ≤ 1
    · rw [bI_tI a9] at g3
      by_cases a5 : lo < 1
      · simp (disch := first | omega | assumption | decide | (simp (disch := omega) only [iI_lit, iJ_lit, iJ_eq, iI_eq, bI_01, bI_01I] <;> omega)) only [c_Ds_choose, e_Ds_choose_0, e_Ds_choose_1, e_Ds_choose_2, e_Ds_choose_5, e_Ds_choose_6, e_Ds_choose_7, e_Ds_choose_10, e_Ds_choose_12, e_Ds_choose_15, e_Ds_choose_17, e_Ds_choose_18, e_Ds_choose_21, e_Ds_choose_23, e_Ds_choose_26, e_Ds_choose_29, e_Ds_choose_30, e_Ds_choose_31, e_Ds_choose_32, e_Ds_choose_33, e_Ds_choose_36, e_Ds_choose_37, e_Ds_choose_40, e_Ds_choose_43, e_Ds_choose_44, e_Ds_choose_45, e_Ds_choose_48, e_Ds_choose_49, e_Ds_choose_52, e_Ds_choose_55, e_Ds_choose_56, e_Ds_choose_57, e_Ds_choose_58, e_Ds_choose_60, e_Ds_choose_63, e_Ds_choose_64, e_Ds_choose_65, e_Ds_choose_66, e_Ds_choose_69, e_Ds_choose_70, e_Ds_choose_71, e_Ds_choose_72, e_Ds_choose_74, e_Ds_choose_77, e_Ds_choose_78, e_Ds_choose_81, e_Ds_choose_83, e_Ds_choose_85, e_Ds_choose_88, bd_some, bd_none, Option.toList_some, Option.toList_none, List.nil_append, List.cons_append, px_kill_int, px_kill_long, px_kill_ref, px_kill_null, iI_lit, iJ_lit, iI_add, iI_sub, iI_mul, iI_neg, iJ_add, iJ_sub, iJ_mul, iJ_neg, iI_lt, iI_le, iI_eq, iJ_lt, iJ_le, iJ_eq, iI_div, iJ_div, tdiv_tmod, iI_J, iJ_I, iI_ix, iI_toInt, iJ_toInt, cmp_ge, cmp_lt, cmp_eq, cmp_gt, cmp_le, cmp_geI, cmp_ltI, cmp_eqI, cmp_gtI, cmp_leI, bI_0I, bI_1I, pin, if_true, a1, a2, a3, a4, a5, if_false, g3, one0]
      by_cases a6 : 144 < lo
      · simp (disch := first | omega | assumption | decide | (simp (disch := omega) only [iI_lit, iJ_lit, iJ_eq, iI_eq, bI_01, bI_01I] <;> omega)) only [c_Ds_choose, e_Ds_choose_0, e_Ds_choose_1, e_Ds_choose_2, e_Ds_choose_5, e_Ds_choose_6, e_Ds_choose_7, e_Ds_choose_10, e_Ds_choose_12, e_Ds_choose_15, e_Ds_choose_17, e_Ds_choose_18, e_Ds_choose_21, e_Ds_choose_23, e_Ds_choose_26, e_Ds_choose_29, e_Ds_choose_30, e_Ds_choose_31, e_Ds_choose_32, e_Ds_choose_33, e_Ds_choose_36, e_Ds_choose_37, e_Ds_choose_40, e_Ds_choose_43, e_Ds_choose_44, e_Ds_choose_45, e_Ds_choose_48, e_Ds_choose_49, e_Ds_choose_52, e_Ds_choose_55, e_Ds_choose_56, e_Ds_choose_57, e_Ds_choose_58, e_Ds_choose_60, e_Ds_choose_63, e_Ds_choose_64, e_Ds_choose_65, e_Ds_choose_66, e_Ds_choose_69, e_Ds_choose_70, e_Ds_choose_71, e_Ds_choose_72, e_Ds_choose_74, e_Ds_choose_77, e_Ds_choose_78, e_Ds_choose_81, e_Ds_choose_83, e_Ds_choose_85, e_Ds_choose_88, bd_some, bd_none, Option.toList_some, Option.toList_none, List.nil_append, List.cons_append, px_kill_int, px_kill_long, px_kill_ref, px_kill_null, iI_lit, iJ_lit, iI_add, iI_sub, iI_mul, iI_neg, iJ_add, iJ_sub, iJ_mul, iJ_neg, iI_lt, iI_le, iI_eq, iJ_lt, iJ_le, iJ_eq, iI_div, iJ_div, tdiv_tmod, iI_J, iJ_I, iI_ix, iI_toInt, iJ_toInt, cmp_ge, cmp_lt, cmp_eq, cmp_gt, cmp_le, cmp_geI, cmp_ltI, cmp_eqI, cmp_gtI, cmp_leI, bI_0I, bI_1I, pin, if_true, a1, a2, a3, a4, a5, a6, if_false, g3, one0]
      by_cases a7 : hi < 1
      · simp (disch := first | omega | assumption | decide | (simp (disch := omega) only [iI_lit, iJ_lit, iJ_eq, iI_eq, bI_01, bI_01I] <;> omega)) only [c_Ds_choose, e_Ds_choose_0, e_Ds_choose_1, e_Ds_choose_2, e_Ds_choose_5, e_Ds_choose_6, e_Ds_choose_7, e_Ds_choose_10, e_Ds_choose_12, e_Ds_choose_15, e_Ds_choose_17, e_Ds_choose_18, e_Ds_choose_21, e_Ds_choose_23, e_Ds_choose_26, e_Ds_choose_29, e_Ds_choose_30, e_Ds_choose_31, e_Ds_choose_32, e_Ds_choose_33, e_Ds_choose_36, e_Ds_choose_37, e_Ds_choose_40, e_Ds_choose_43, e_Ds_choose_44, e_Ds_choose_45, e_Ds_choose_48, e_Ds_choose_49, e_Ds_choose_52, e_Ds_choose_55, e_Ds_choose_56, e_Ds_choose_57, e_Ds_choose_58, e_Ds_choose_60, e_Ds_choose_63, e_Ds_choose_64, e_Ds_choose_65, e_Ds_choose_66, e_Ds_choose_69, e_Ds_choose_70, e_Ds_choose_71, e_Ds_choose_72, e_Ds_choose_74, e_Ds_choose_77, e_Ds_choose_78, e_Ds_choose_81, e_Ds_choose_83, e_Ds_choose_85, e_Ds_choose_88, bd_some, bd_none, Option.toList_some, Option.toList_none, List.nil_append, List.cons_append, px_kill_int, px_kill_long, px_kill_ref, px_kill_null, iI_lit, iJ_lit, iI_add, iI_sub, iI_mul, iI_neg, iJ_add, iJ_sub, iJ_mul, iJ_neg, iI_lt, iI_le, iI_eq, iJ_lt, iJ_le, iJ_eq, iI_div, iJ_div, tdiv_tmod, iI_J, iJ_I, iI_ix, iI_toInt, iJ_toInt, cmp_ge, cmp_lt, cmp_eq, cmp_gt, cmp_le, cmp_geI, cmp_ltI, cmp_eqI, cmp_gtI, cmp_leI, bI_0I, bI_1I, pin, if_true, a1, a2, a3, a4, a5, a6, a7, if_false, g3, one0]
      by_cases a8 : 144 < hi
      · simp (disch := first | omega | assumption | decide | (simp (disch := omega) only [iI_lit, iJ_lit, iJ_eq, iI_eq, bI_01, bI_01I] <;> omega)) only [c_Ds_choose, e_Ds_choose_0, e_Ds_choose_1, e_Ds_choose_2, e_Ds_choose_5, e_Ds_choose_6, e_Ds_choose_7, e_Ds_choose_10, e_Ds_choose_12, e_Ds_choose_15, e_Ds_choose_17, e_Ds_choose_18, e_Ds_choose_21, e_Ds_choose_23, e_Ds_choose_26, e_Ds_choose_29, e_Ds_choose_30, e_Ds_choose_31, e_Ds_choose_32, e_Ds_choose_33, e_Ds_choose_36, e_Ds_choose_37, e_Ds_choose_40, e_Ds_choose_43, e_Ds_choose_44, e_Ds_choose_45, e_Ds_choose_48, e_Ds_choose_49, e_Ds_choose_52, e_Ds_choose_55, e_Ds_choose_56, e_Ds_choose_57, e_Ds_choose_58, e_Ds_choose_60, e_Ds_choose_63, e_Ds_choose_64, e_Ds_choose_65, e_Ds_choose_66, e_Ds_choose_69, e_Ds_choose_70, e_Ds_choose_71, e_Ds_choose_72, e_Ds_choose_74, e_Ds_choose_77, e_Ds_choose_78, e_Ds_choose_81, e_Ds_choose_83, e_Ds_choose_85, e_Ds_choose_88, bd_some, bd_none, Option.toList_some, Option.toList_none, List.nil_append, List.cons_append, px_kill_int, px_kill_long, px_kill_ref, px_kill_null, iI_lit, iJ_lit, iI_add, iI_sub, iI_mul, iI_neg, iJ_add, iJ_sub, iJ_mul, iJ_neg, iI_lt, iI_le, iI_eq, iJ_lt, iJ_le, iJ_eq, iI_div, iJ_div, tdiv_tmod, iI_J, iJ_I, iI_ix, iI_toInt, iJ_toInt, cmp_ge, cmp_lt, cmp_eq, cmp_gt, cmp_le, cmp_geI, cmp_ltI, cmp_eqI, cmp_gtI, cmp_leI, bI_0I, bI_1I, pin, if_true, a1, a2, a3, a4, a5, a6, a7, a8, if_false, g3, one0]
      have q6 : ¬ hi - lo ≤ 20 := fun z => c ⟨by omega, by omega, a9, by omega, by omega, z⟩
      simp (disch := first | omega | assumption | decide | (simp (disch := omega) only [iI_lit, iJ_lit, iJ_eq, iI_eq, bI_01, bI_01I] <;> omega)) only [c_Ds_choose, e_Ds_choose_0, e_Ds_choose_1, e_Ds_choose_2, e_Ds_choose_5, e_Ds_choose_6, e_Ds_choose_7, e_Ds_choose_10, e_Ds_choose_12, e_Ds_choose_15, e_Ds_choose_17, e_Ds_choose_18, e_Ds_choose_21, e_Ds_choose_23, e_Ds_choose_26, e_Ds_choose_29, e_Ds_choose_30, e_Ds_choose_31, e_Ds_choose_32, e_Ds_choose_33, e_Ds_choose_36, e_Ds_choose_37, e_Ds_choose_40, e_Ds_choose_43, e_Ds_choose_44, e_Ds_choose_45, e_Ds_choose_48, e_Ds_choose_49, e_Ds_choose_52, e_Ds_choose_55, e_Ds_choose_56, e_Ds_choose_57, e_Ds_choose_58, e_Ds_choose_60, e_Ds_choose_63, e_Ds_choose_64, e_Ds_choose_65, e_Ds_choose_66, e_Ds_choose_69, e_Ds_choose_70, e_Ds_choose_71, e_Ds_choose_72, e_Ds_choose_74, e_Ds_choose_77, e_Ds_choose_78, e_Ds_choose_81, e_Ds_choose_83, e_Ds_choose_85, e_Ds_choose_88, bd_some, bd_none, Option.toList_some, Option.toList_none, List.nil_append, List.cons_append, px_kill_int, px_kill_long, px_kill_ref, px_kill_null, iI_lit, iJ_lit, iI_add, iI_sub, iI_mul, iI_neg, iJ_add, iJ_sub, iJ_mul, iJ_neg, iI_lt, iI_le, iI_eq, iJ_lt, iJ_le, iJ_eq, iI_div, iJ_div, tdiv_tmod, iI_J, iJ_I, iI_ix, iI_toInt, iJ_toInt, cmp_ge, cmp_lt, cmp_eq, cmp_gt, cmp_le, cmp_geI, cmp_ltI, cmp_eqI, cmp_gtI, cmp_leI, bI_0I, bI_1I, pin, if_true, a1, a2, a3, a4, a5, a6, a7, a8, q6, if_false, g3, one0]
    · rw [bI_fI a9] at g3
      simp (disch := first | omega | assumption | decide | (simp (disch := omega) only [iI_lit, iJ_lit, iJ_eq, iI_eq, bI_01, bI_01I] <;> omega)) only [c_Ds_choose, e_Ds_choose_0, e_Ds_choose_1, e_Ds_choose_2, e_Ds_choose_5, e_Ds_choose_6, e_Ds_choose_7, e_Ds_choose_10, e_Ds_choose_12, e_Ds_choose_15, e_Ds_choose_17, e_Ds_choose_18, e_Ds_choose_21, e_Ds_choose_23, e_Ds_choose_26, e_Ds_choose_29, e_Ds_choose_30, e_Ds_choose_31, e_Ds_choose_32, e_Ds_choose_33, e_Ds_choose_36, e_Ds_choose_37, e_Ds_choose_40, e_Ds_choose_43, e_Ds_choose_44, e_Ds_choose_45, e_Ds_choose_48, e_Ds_choose_49, e_Ds_choose_52, e_Ds_choose_55, e_Ds_choose_56, e_Ds_choose_57, e_Ds_choose_58, e_Ds_choose_60, e_Ds_choose_63, e_Ds_choose_64, e_Ds_choose_65, e_Ds_choose_66, e_Ds_choose_69, e_Ds_choose_70, e_Ds_choose_71, e_Ds_choose_72, e_Ds_choose_74, e_Ds_choose_77, e_Ds_choose_78, e_Ds_choose_81, e_Ds_choose_83, e_Ds_choose_85, e_Ds_choose_88, bd_some, bd_none, Option.toList_some, Option.toList_none, List.nil_append, List.cons_append, px_kill_int, px_kill_long, px_kill_ref, px_kill_null, iI_lit, iJ_lit, iI_add, iI_sub, iI_mul, iI_neg, iJ_add, iJ_sub, iJ_mul, iJ_neg, iI_lt, iI_le, iI_eq, iJ_lt, iJ_le, iJ_eq, iI_div, iJ_div, tdiv_tmod, iI_J, iJ_I, iI_ix, iI_toInt, iJ_toInt, cmp_ge, cmp_lt, cmp_eq, cmp_gt, cmp_le, cmp_geI, cmp_ltI, cmp_eqI, cmp_gtI, cmp_leI, bI_0I, bI_1I, pin, if_true, a1, a2, a3, a4, if_false, g3]
