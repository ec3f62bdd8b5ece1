/-! the reference lays lots, level by level. -/
set_option maxHeartbeats 2000000 in
theorem s_goesFrom {w h sl : Int} (hG : okG w h sl) {N : Nat} (hN : (N : Int) = w * h) (o : Nat → Nat) (hsur : ∀ k, k < N → ∃ j, j < N ∧ o j = k) (hinj : ∀ r r', r < N → r' < N → o r = o r' → r = r') {r : Nat} (hr : r ≤ N) {T : TS} (hg : mGrd T w h sl) (hrk : ∀ j, j < N → T.1 61 (o j) = iI (j : Int)) {fd : Nat → Prop} {S : Nat → Nat} {qx qy : Nat → Int} {tb sb : Nat} (hL : mL (hmN w h sl) (hX w) (hY w) N (entE o r) fd S qx qy tb sb) (hF : mF T N fd qx qy) (h29 : T.1 53 29 = iI (tb : Int)) (h30 : T.1 53 30 = iI (sb : Int)) (h28 : T.1 53 28 = iI (cnt (fun k => fd k ∧ S k = k) N : Int)) {a : Nat} (ha : entE o r a) (haN : a < N) (hna : ¬ fd a) :
    ∃ (T' : TS) (fd' : Nat → Prop) (S' : Nat → Nat) (qx' qy' : Nat → Int) (tb' sb' : Nat), cl k_Dm_goesFrom [.ref 53, .int (iI (a : Int)), .int (iI (r : Int))] (enc T) = some (none, enc T') ∧ FrA aSg bSe T T' ∧ mL (hmN w h sl) (hX w) (hY w) N (entE o r) fd' S' qx' qy' tb' sb' ∧ mF T' N fd' qx' qy' ∧ T'.1 53 29 = iI (tb' : Int) ∧ T'.1 53 30 = iI (sb' : Int) ∧ T'.1 53 28 = iI (cnt (fun k => fd' k ∧ S' k = k) N : Int) ∧ fd' a ∧ ∀ k, fd k → fd' k := by
  have hN4 : N ≤ 144 := by have := hG.2.2.2; omega
  have hw := hG.1
  have hh := hG.2.1
  have hm := home_n (w := w) (h := h) (n := a) hw.1 (by omega)
  have hrp := hmN_rep hG
  rw [show (w * h).toNat = N by omega] at hrp
  have ea : ((a : Int)).toNat = a := by omega
  have e0 : ((0 : Int)).toNat = 0 := rfl
  have em : (a : Int) - (a : Int) / w * w = (a : Int) % w := by have := Int.emod_add_ediv_mul (a : Int) w; omega
  have ed : (a : Int).tdiv w = (a : Int) / w := Int.tdiv_eq_ediv_of_nonneg (by omega)
  obtain ⟨T1, hT1⟩ : ∃ T1, T1 = sI (sI (sI (sI (sI (sJ (sJ T 53 31 (iJ 0)) 53 32 (iJ 0)) 53 28 (iI ((cnt (fun k => fd k ∧ S k = k) N : Int) + 1))) 65 0 (iI (a : Int))) 64 a (iI 1)) 62 a (iI ((a : Int) % w))) 63 a (iI ((a : Int) / w)) := ⟨_, rfl⟩
  have fr1 : FrA aSg bSe T T1 := by
    rw [hT1]
    exact (((((((FrA.rf _ _ _).wrJ _ (by unfold bSe; omega)).wrJ _ (by unfold bSe; omega)).wr _ (by unfold aSg aSe; omega)).wr _ (by unfold aSg aSe; omega)).wr _ (by unfold aSg aSe; omega)).wr _ (by unfold aSg aSe; omega)).wr _ (by unfold aSg aSe; omega)
  have hg1 : mGrd T1 w h sl := by unfold mGrd at *; rw [fr1.2.1 _ _ (by unfold bSe; omega), fr1.2.1 _ _ (by unfold bSe; omega), fr1.2.1 _ _ (by unfold bSe; omega)]; exact hg
  have hfd : ∀ k, fdQ fd 1 (fun _ => a) k ↔ (fd k ∨ k = a) := by
    intro k
    constructor
    · rintro (z | ⟨i, z1, z2⟩)
      · exact Or.inl z
      · exact Or.inr z2.symm
    · rintro (z | z)
      · exact Or.inl z
      · exact Or.inr ⟨0, by omega, z.symm⟩
  have hW1 : mW (hmN w h sl) (hX w) (hY w) N (entE o r) fd qx qy a tb sb 0 0 1 T1 := by
    refine ⟨fun _ => a, upN qx a (hX w a), upN qy a (hY w a), tb, sb, 0, 0, 0, 0, ⟨⟨by omega, by omega, rfl, upN_s _ _ _, upN_s _ _ _⟩, fun i hi => ?_, fun i j hi hj _ => by omega⟩, ?_, ?_, ?_, ?_, ?_, ?_, ?_⟩
    · rw [upN_s, upN_s]
      have hh := hrp.1 a haN
      exact ⟨ha, hna, hh, Con.rf (by show entE o r (hmN w h sl _ _); rw [hh]; exact ha), by omega, by omega⟩
    · intro k hk
      by_cases c : k = a
      · subst c
        refine ⟨fun _ => ?_, fun z => absurd ((hfd k).mpr (Or.inr rfl)) z⟩
        rw [upN_s, upN_s, hT1]
        refine ⟨?_, ?_, ?_⟩ <;> simp only [sI_get, sJ_get, sI_2, sJ_1, sJ_22, sR_1, sR_21, Nat.reduceEqDiff, and_true, true_and, and_false, false_and, and_self, if_true, if_false, reduceIte]
      · rw [upN_o _ _ c, upN_o _ _ c, hT1]
        simp only [sI_get, sJ_get, sI_2, sJ_1, sJ_22, sR_1, sR_21, Nat.reduceEqDiff, and_true, true_and, and_false, false_and, and_self, if_true, if_false, reduceIte, c]
        exact ⟨fun z => (hF k hk).1 (((hfd k).mp z).resolve_right c), fun z => (hF k hk).2 (fun y => z ((hfd k).mpr (Or.inl y)))⟩
    · intro i hi
      have i0 : i = 0 := by omega
      rw [i0, hT1]
      simp only [sI_get, sJ_get, sI_2, sJ_1, sJ_22, sR_1, sR_21, Nat.reduceEqDiff, and_true, true_and, and_false, false_and, and_self, if_true, if_false, reduceIte]
    · rintro k s' ⟨i, i1, i2, i3, i4⟩
      omega
    · rw [hT1]
      refine ⟨?_, ?_, ?_, ?_⟩
      · simp only [sI_get, sJ_get, sI_2, sJ_1, sJ_22, sR_1, sR_21, Nat.reduceEqDiff, and_true, true_and, and_false, false_and, and_self, if_true, if_false, reduceIte]; exact h29
      · simp only [sI_get, sJ_get, sI_2, sJ_1, sJ_22, sR_1, sR_21, Nat.reduceEqDiff, and_true, true_and, and_false, false_and, and_self, if_true, if_false, reduceIte]; exact h30
      · simp only [sI_get, sJ_get, sI_2, sJ_1, sJ_22, sR_1, sR_21, Nat.reduceEqDiff, and_true, true_and, and_false, false_and, and_self, if_true, if_false, reduceIte]
      · simp only [sI_get, sJ_get, sI_2, sJ_1, sJ_22, sR_1, sR_21, Nat.reduceEqDiff, and_true, true_and, and_false, false_and, and_self, if_true, if_false, reduceIte]
    · exact ⟨by omega, by omega, hL.2.2.1.1, hL.2.2.1.2, ⟨fun z => Or.inl z, fun z => z.resolve_right (by omega)⟩, ⟨fun z => Or.inl z, fun z => z.resolve_right (by omega)⟩, fun _ => ⟨rfl, rfl⟩⟩
    · exact ⟨fun _ => ⟨rfl, fun k s d => by obtain ⟨i, i1, i2, i3, i4⟩ := d; omega⟩, fun z => absurd rfl z⟩
    · intro k f
      have c : k ≠ a := fun c => hna (c ▸ f)
      rw [upN_o _ _ c, upN_o _ _ c]
      exact ⟨rfl, rfl⟩
  obtain ⟨T', n', e2, fr2, qu, qx', qy', tb', sb', t, so, ux, uy, w1, w2, w3, w4, w5, w6, w7, w8⟩ := lp_go2 hG hN o hsur hinj hr (fun k s f he => (hL.2.1 k s f he).1) haN N 0 1 T1 (by omega) (by omega) hg1 (fun j hj => by rw [fr1.1 _ _ (by unfold aSg aSe; omega)]; exact hrk j hj) hW1 .null .null .null .null
  obtain ⟨m1, m2⟩ := hL.step haN w1 w4 w6 w7 w8
  have h28' : T'.1 53 28 = iI ((cnt (fun k => fd k ∧ S k = k) N : Int) + 1) := by
    rw [fr2.1 _ _ (by unfold aSe; omega), hT1]
    simp only [sI_get, sJ_get, sI_2, sJ_1, sJ_22, sR_1, sR_21, Nat.reduceEqDiff, and_true, true_and, and_false, false_and, and_self, if_true, if_false, reduceIte]
  refine ⟨T', _, _, qx', qy', tb', sb', ?_, fr1.tr (fr2.mono (fun q k z => Or.inl z) (fun q k z => z)), m1, w2, w5.1, w5.2.1, ?_, Or.inr ⟨0, by have := w1.1.1; omega, w1.1.2.2.1⟩, fun k z => Or.inl z⟩
  · rw [← e2]
    simp (disch := first | omega | assumption | decide | (simp (disch := omega) only [iI_lit, iJ_lit, iJ_eq, iI_eq, bI_01, bI_01I] <;> omega)) only [c_Dm_goesFrom, e_Dm_goesFrom_0, e_Dm_goesFrom_1, e_Dm_goesFrom_2, e_Dm_goesFrom_5, e_Dm_goesFrom_6, e_Dm_goesFrom_7, e_Dm_goesFrom_10, e_Dm_goesFrom_11, e_Dm_goesFrom_12, e_Dm_goesFrom_15, e_Dm_goesFrom_16, e_Dm_goesFrom_17, e_Dm_goesFrom_20, e_Dm_goesFrom_21, e_Dm_goesFrom_24, e_Dm_goesFrom_25, e_Dm_goesFrom_26, e_Dm_goesFrom_27, e_Dm_goesFrom_28, e_Dm_goesFrom_31, e_Dm_goesFrom_32, e_Dm_goesFrom_33, e_Dm_goesFrom_34, e_Dm_goesFrom_35, e_Dm_goesFrom_38, e_Dm_goesFrom_39, e_Dm_goesFrom_40, e_Dm_goesFrom_41, e_Dm_goesFrom_42, e_Dm_goesFrom_45, e_Dm_goesFrom_46, e_Dm_goesFrom_47, e_Dm_goesFrom_48, e_Dm_goesFrom_49, e_Dm_goesFrom_52, e_Dm_goesFrom_53, e_Dm_goesFrom_54, e_Dm_goesFrom_55, e_Dm_goesFrom_56, e_Dm_goesFrom_59, e_Dm_goesFrom_60, e_Dm_goesFrom_61, e_Dm_goesFrom_62, e_Dm_goesFrom_63, e_Dm_goesFrom_64, e_Dm_goesFrom_65, bd_some, bd_none, Option.toList_some, Option.toList_none, List.nil_append, List.cons_append, px_kill_int, px_kill_long, px_kill_ref, px_kill_null, iI_lit, iJ_lit, iI_add, iI_sub, iI_mul, iI_neg, iJ_add, iJ_sub, iJ_mul, iJ_neg, iI_lt, iI_le, iI_eq, iJ_lt, iJ_le, iJ_eq, iI_div, iJ_div, tdiv_tmod, iI_J, iJ_I, iI_ix, iI_toInt, iJ_toInt, cmp_ge, cmp_lt, cmp_eq, cmp_gt, cmp_le, cmp_geI, cmp_ltI, cmp_eqI, cmp_gtI, cmp_leI, bI_0I, bI_1I, pin, if_true, sI_get, sJ_get, sI_2, sJ_1, sJ_22, sR_1, sR_21, Nat.reduceEqDiff, and_true, true_and, and_false, false_and, and_self, if_true, if_false, reduceIte, h28, hg.1, sh_n65, sh_n64, sh_n62, sh_n63, ea, e0, em, ed]
    rw [← hT1]
    rfl
  · rw [h28', m2]
    rw [show ((cnt (fun k => fd k ∧ S k = k) N + 1 : Nat) : Int) = (cnt (fun k => fd k ∧ S k = k) N : Int) + 1 by omega]
theorem sh64l : (sh 64).1 = 2 := by rw [sh_n64]
set_option maxHeartbeats 1000000 in
theorem lp_ll1 {N : Nat} (hN : N ≤ 144) (r : Int32) : ∀ (m k : Nat) (T : TS), k + m = N → (∀ j, j < k → T.1 64 j = iI 0) → ∀ (a4 : Value), ∃ T', rn k_Dm_laysLots 17 [.ref 53, .int (iI (N : Int)), .int r, .int (iI (k : Int)), a4] [] (enc T) = rn k_Dm_laysLots 35 [.ref 53, .int (iI (N : Int)), .int r, .int (iI (N : Int)), a4] [] (enc T') ∧ FrI (fun q _ => q = 64) T T' ∧ ∀ j, j < N → T'.1 64 j = iI 0 := by
  intro m
  induction m with
  | zero =>
    intro k T hk h a4
    have e : k = N := by omega
    subst e
    refine ⟨T, ?_, FrI.rf _ _, h⟩
    rw [e_Dm_laysLots_17]
    simp (disch := first | omega | assumption | decide | (simp (disch := omega) only [iI_lit, iJ_lit, iJ_eq, iI_eq, bI_01, bI_01I] <;> omega)) only [e_Dm_laysLots_18, e_Dm_laysLots_19, bd_some, bd_none, Option.toList_some, Option.toList_none, List.nil_append, List.cons_append, px_kill_int, px_kill_long, px_kill_ref, px_kill_null, iI_lit, iJ_lit, iI_add, iI_sub, iI_mul, iI_neg, iJ_add, iJ_sub, iJ_mul, iJ_neg, iI_lt, iI_le, iI_eq, iJ_lt, iJ_le, iJ_eq, iI_div, iJ_div, tdiv_tmod, iI_J, iJ_I, iI_ix, iI_toInt, iJ_toInt, cmp_ge, cmp_lt, cmp_eq, cmp_gt, cmp_le, cmp_geI, cmp_ltI, cmp_eqI, cmp_gtI, cmp_leI, bI_0I, bI_1I, pin, if_true, Int.le_refl]
  | succ m ih =>
    intro k T hk h a4
    have hnge : ¬ (N : Int) ≤ (k : Int) := by omega
    have ek : ((k : Int)).toNat = k := by omega
    have hp := sh64l
    have fr1 : FrI (fun q _ => q = 64) T (sI T 64 k (iI 0)) := (FrI.rf _ _).wr _ rfl
    obtain ⟨T', e2, fr2, g⟩ := ih (k + 1) (sI T 64 k (iI 0)) (by omega) (fun j hj => by
      rw [sI_get]
      by_cases c : j = k
      · rw [if_pos ⟨rfl, c⟩]
      · rw [if_neg (fun z => c z.2)]; exact h j (by omega)) a4
    refine ⟨T', ?_, fr1.tr fr2, g⟩
    rw [← e2, e_Dm_laysLots_17]
    simp (disch := first | omega | assumption | decide | (simp (disch := omega) only [iI_lit, iJ_lit, iJ_eq, iI_eq, bI_01, bI_01I] <;> omega)) only [e_Dm_laysLots_18, e_Dm_laysLots_19, e_Dm_laysLots_22, e_Dm_laysLots_23, e_Dm_laysLots_26, e_Dm_laysLots_27, e_Dm_laysLots_28, e_Dm_laysLots_29, e_Dm_laysLots_32, bd_some, bd_none, Option.toList_some, Option.toList_none, List.nil_append, List.cons_append, px_kill_int, px_kill_long, px_kill_ref, px_kill_null, iI_lit, iJ_lit, iI_add, iI_sub, iI_mul, iI_neg, iJ_add, iJ_sub, iJ_mul, iJ_neg, iI_lt, iI_le, iI_eq, iJ_lt, iJ_le, iJ_eq, iI_div, iJ_div, tdiv_tmod, iI_J, iJ_I, iI_ix, iI_toInt, iJ_toInt, cmp_ge, cmp_lt, cmp_eq, cmp_gt, cmp_le, cmp_geI, cmp_ltI, cmp_eqI, cmp_gtI, cmp_leI, bI_0I, bI_1I, pin, if_true, hnge, if_false, sh_n64, ek]
    rw [show ((k + 1 : Nat) : Int) = (k : Int) + 1 by omega]
set_option maxHeartbeats 1000000 in
theorem lp_ll2 {w h sl : Int} (hG : okG w h sl) {N : Nat} (hN : (N : Int) = w * h) (o : Nat → Nat) (f : Nat → Int) (hsur : ∀ k, k < N → ∃ j, j < N ∧ o j = k) (hinj : ∀ r r', r < N → r' < N → o r = o r' → r = r') (hlt : ∀ r, r < N → o r < N) {r : Nat} (hr : r ≤ N) : ∀ (m j : Nat) (T : TS), j + m = r → mGrd T w h sl → (∀ j, j < N → T.1 61 (o j) = iI (j : Int)) → (∀ j, j < N → rowM T w f j (o j)) → ∀ (fd : Nat → Prop) (S : Nat → Nat) (qx qy : Nat → Int) (tb sb : Nat), mL (hmN w h sl) (hX w) (hY w) N (entE o r) fd S qx qy tb sb → mF T N fd qx qy → T.1 53 29 = iI (tb : Int) → T.1 53 30 = iI (sb : Int) → T.1 53 28 = iI (cnt (fun k => fd k ∧ S k = k) N : Int) → (∀ i, i < j → fd (o i)) → ∀ (a4 : Value),
    ∃ (T' : TS) (fd' : Nat → Prop) (S' : Nat → Nat) (qx' qy' : Nat → Int) (tb' sb' : Nat), rn k_Dm_laysLots 37 [.ref 53, .int (iI (N : Int)), .int (iI (r : Int)), .int (iI (j : Int)), a4] [] (enc T) = some (none, enc T') ∧ FrA aSg bSe T T' ∧ mL (hmN w h sl) (hX w) (hY w) N (entE o r) fd' S' qx' qy' tb' sb' ∧ T'.1 53 29 = iI (tb' : Int) ∧ T'.1 53 30 = iI (sb' : Int) ∧ T'.1 53 28 = iI (cnt (fun k => fd' k ∧ S' k = k) N : Int) ∧ ∀ i, i < r → fd' (o i) := by
  have hN4 : N ≤ 144 := by have := hG.2.2.2; omega
  have hw := hG.1
  have hh := hG.2.1
  intro m
  induction m with
  | zero =>
    intro j T hjm hg hrk hrow fd S qx qy tb sb hL hF h29 h30 h28 hfi a4
    have e : j = r := by omega
    subst e
    refine ⟨T, fd, S, qx, qy, tb, sb, ?_, FrA.rf _ _ _, hL, h29, h30, h28, hfi⟩
    rw [e_Dm_laysLots_37]
    simp (disch := first | omega | assumption | decide | (simp (disch := omega) only [iI_lit, iJ_lit, iJ_eq, iI_eq, bI_01, bI_01I] <;> omega)) only [e_Dm_laysLots_38, e_Dm_laysLots_39, e_Dm_laysLots_83, bd_some, bd_none, Option.toList_some, Option.toList_none, List.nil_append, List.cons_append, px_kill_int, px_kill_long, px_kill_ref, px_kill_null, iI_lit, iJ_lit, iI_add, iI_sub, iI_mul, iI_neg, iJ_add, iJ_sub, iJ_mul, iJ_neg, iI_lt, iI_le, iI_eq, iJ_lt, iJ_le, iJ_eq, iI_div, iJ_div, tdiv_tmod, iI_J, iJ_I, iI_ix, iI_toInt, iJ_toInt, cmp_ge, cmp_lt, cmp_eq, cmp_gt, cmp_le, cmp_geI, cmp_ltI, cmp_eqI, cmp_gtI, cmp_leI, bI_0I, bI_1I, pin, if_true, Int.le_refl]
  | succ m ih =>
    intro j T hjm hg hrk hrow fd S qx qy tb sb hL hF h29 h30 h28 hfi a4
    have hnge : ¬ (r : Int) ≤ (j : Int) := by omega
    have ej : ((j : Int)).toNat = j := by omega
    have hol := hlt j (by omega)
    have eo : ((o j : Nat) : Int).toNat = o j := by omega
    obtain ⟨r60, r58, r59⟩ := hrow j (by omega)
    have hm := home_n (w := w) (h := h) (n := o j) hw.1 (by omega)
    have hat := s_homeAt T hg hG hm.1 hm.2
    have hnn : (o j : Int) / w * w + (o j : Int) % w = (o j : Int) := by rw [Int.mul_comm]; exact Int.mul_ediv_add_emod _ _
    rw [hnn] at hat
    have hp := sh64l
    by_cases c : fd (o j)
    · obtain ⟨g1, -, -⟩ := (hF (o j) hol).1 c
      obtain ⟨T', fd', S', qx', qy', tb', sb', e2, fr2, k1, k2, k3, k4, k5⟩ := ih (j + 1) T (by omega) hg hrk hrow fd S qx qy tb sb hL hF h29 h30 h28 (fun i hi => by
        by_cases z : i = j
        · rw [z]; exact c
        · exact hfi i (by omega)) (.int (iI (o j : Int)))
      refine ⟨T', fd', S', qx', qy', tb', sb', ?_, fr2, k1, k2, k3, k4, k5⟩
      rw [← e2, e_Dm_laysLots_37]
      simp (disch := first | omega | assumption | decide | (simp (disch := omega) only [iI_lit, iJ_lit, iJ_eq, iI_eq, bI_01, bI_01I] <;> omega)) only [e_Dm_laysLots_38, e_Dm_laysLots_39, e_Dm_laysLots_42, e_Dm_laysLots_43, e_Dm_laysLots_44, e_Dm_laysLots_47, e_Dm_laysLots_48, e_Dm_laysLots_49, e_Dm_laysLots_50, e_Dm_laysLots_53, e_Dm_laysLots_54, e_Dm_laysLots_55, e_Dm_laysLots_58, e_Dm_laysLots_60, e_Dm_laysLots_61, e_Dm_laysLots_64, e_Dm_laysLots_66, e_Dm_laysLots_67, e_Dm_laysLots_70, e_Dm_laysLots_71, e_Dm_laysLots_73, e_Dm_laysLots_74, e_Dm_laysLots_77, e_Dm_laysLots_80, bd_some, bd_none, Option.toList_some, Option.toList_none, List.nil_append, List.cons_append, px_kill_int, px_kill_long, px_kill_ref, px_kill_null, iI_lit, iJ_lit, iI_add, iI_sub, iI_mul, iI_neg, iJ_add, iJ_sub, iJ_mul, iJ_neg, iI_lt, iI_le, iI_eq, iJ_lt, iJ_le, iJ_eq, iI_div, iJ_div, tdiv_tmod, iI_J, iJ_I, iI_ix, iI_toInt, iJ_toInt, cmp_ge, cmp_lt, cmp_eq, cmp_gt, cmp_le, cmp_geI, cmp_ltI, cmp_eqI, cmp_gtI, cmp_leI, bI_0I, bI_1I, pin, if_true, hnge, if_false, sh_n58, sh_n59, sh_n64, ej, r58, r59, hat, eo, g1, one0]
      rw [show ((j + 1 : Nat) : Int) = (j : Int) + 1 by omega]
    · have g1 := (hF (o j) hol).2 c
      obtain ⟨T1, fd1, S1, qx1, qy1, tb1, sb1, e1, fr1, l1, l2, l3, l4, l5, l6, l7⟩ := s_goesFrom hG hN o hsur hinj hr hg hrk hL hF h29 h30 h28 (a := o j) ⟨j, by omega, rfl⟩ hol c
      have hg1 : mGrd T1 w h sl := by unfold mGrd at *; rw [fr1.2.1 _ _ (by unfold bSe; omega), fr1.2.1 _ _ (by unfold bSe; omega), fr1.2.1 _ _ (by unfold bSe; omega)]; exact hg
      have rd : ∀ q k, 58 ≤ q → q ≤ 61 → T1.1 q k = T.1 q k := fun q k q1 q2 => fr1.1 q k (by unfold aSg aSe; omega)
      obtain ⟨T', fd', S', qx', qy', tb', sb', e2, fr2, k1, k2, k3, k4, k5⟩ := ih (j + 1) T1 (by omega) hg1 (fun i hi => by rw [rd _ _ (by omega) (by omega)]; exact hrk i hi) (fun i hi => (hrow i hi).fr (rd _ _ (by omega) (by omega)) (rd _ _ (by omega) (by omega)) (rd _ _ (by omega) (by omega))) fd1 S1 qx1 qy1 tb1 sb1 l1 l2 l3 l4 l5 (fun i hi => by
        by_cases z : i = j
        · rw [z]; exact l6
        · exact l7 _ (hfi i (by omega))) (.int (iI (o j : Int)))
      refine ⟨T', fd', S', qx', qy', tb', sb', ?_, fr1.tr fr2, k1, k2, k3, k4, k5⟩
      rw [← e2, e_Dm_laysLots_37]
      simp (disch := first | omega | assumption | decide | (simp (disch := omega) only [iI_lit, iJ_lit, iJ_eq, iI_eq, bI_01, bI_01I] <;> omega)) only [e_Dm_laysLots_38, e_Dm_laysLots_39, e_Dm_laysLots_42, e_Dm_laysLots_43, e_Dm_laysLots_44, e_Dm_laysLots_47, e_Dm_laysLots_48, e_Dm_laysLots_49, e_Dm_laysLots_50, e_Dm_laysLots_53, e_Dm_laysLots_54, e_Dm_laysLots_55, e_Dm_laysLots_58, e_Dm_laysLots_60, e_Dm_laysLots_61, e_Dm_laysLots_64, e_Dm_laysLots_66, e_Dm_laysLots_67, e_Dm_laysLots_70, e_Dm_laysLots_71, e_Dm_laysLots_73, e_Dm_laysLots_74, e_Dm_laysLots_77, e_Dm_laysLots_80, bd_some, bd_none, Option.toList_some, Option.toList_none, List.nil_append, List.cons_append, px_kill_int, px_kill_long, px_kill_ref, px_kill_null, iI_lit, iJ_lit, iI_add, iI_sub, iI_mul, iI_neg, iJ_add, iJ_sub, iJ_mul, iJ_neg, iI_lt, iI_le, iI_eq, iJ_lt, iJ_le, iJ_eq, iI_div, iJ_div, tdiv_tmod, iI_J, iJ_I, iI_ix, iI_toInt, iJ_toInt, cmp_ge, cmp_lt, cmp_eq, cmp_gt, cmp_le, cmp_geI, cmp_ltI, cmp_eqI, cmp_gtI, cmp_leI, bI_0I, bI_1I, pin, if_true, hnge, if_false, sh_n58, sh_n59, sh_n64, ej, r58, r59, hat, eo, g1, e1]
      rw [show ((j + 1 : Nat) : Int) = (j : Int) + 1 by omega]
set_option maxHeartbeats 1000000 in
theorem s_laysLots {T : TS} {a b c d kd : Int} (ho : okS a b c d) (hg : mBrk T a b c d) (hR : isRnk T a b c d kd) {r : Nat} (hr : (r : Int) ≤ cel a b c d) :
    ∃ T' tb sb, cl k_Dm_laysLots [.ref 53, .int (iI (cel a b c d)), .int (iI (r : Int))] (enc T) = some (none, enc T') ∧ FrA aSg bSe T T' ∧ T'.1 53 28 = iI (gG a b c d kd r) ∧ T'.1 53 29 = iI ((tb : Nat) : Int) ∧ T'.1 53 30 = iI ((sb : Nat) : Int) ∧ (tb ≤ 1 ∧ sb ≤ 1) ∧ (tb = 1 ↔ TCH (hmB a b c d) (entE (oB a b c d kd) r)) ∧ (sb = 1 ↔ SLD (hmB a b c d) (entE (oB a b c d kd) r)) := by
  have hG := okG_brk ho
  obtain ⟨f1, f2, f3, f4, f5, f6⟩ := brk_facts ho
  have hcb := cel_bd ho
  have hrp := hmN_rep hG
  rw [f5] at hrp
  obtain ⟨N, hNe⟩ : ∃ N, N = (cel a b c d).toNat := ⟨_, rfl⟩
  have hNi : (N : Int) = cel a b c d := by omega
  rw [← hNe] at hrp
  obtain ⟨T1, hT1⟩ : ∃ T1, T1 = sI (sI (sI T 53 28 (iI 0)) 53 29 (iI 0)) 53 30 (iI 0) := ⟨_, rfl⟩
  have fr1 : FrA aSg bSe T T1 := by
    rw [hT1]
    exact (((FrA.rf _ _ _).wr _ (by unfold aSg aSe; omega)).wr _ (by unfold aSg aSe; omega)).wr _ (by unfold aSg aSe; omega)
  obtain ⟨T2, e2, fr2, z2⟩ := lp_ll1 (N := N) (by omega) (iI (r : Int)) N 0 T1 (by omega) (fun j hj => by omega) .null
  have fr12 : FrA aSg bSe T T2 := fr1.tr ((FrA.of (b := bSe) fr2).mono (fun q k z => by unfold aSg aSe; omega) (fun q k z => z))
  have hg2 : mBrk T2 a b c d := by unfold mBrk mGrd at *; rw [fr12.2.1 _ _ (by unfold bSe; omega), fr12.2.1 _ _ (by unfold bSe; omega), fr12.2.1 _ _ (by unfold bSe; omega)]; exact hg
  have rd : ∀ q k, 58 ≤ q → q ≤ 61 → T2.1 q k = T.1 q k := fun q k q1 q2 => fr12.1 q k (by unfold aSg aSe; omega)
  have c0 : ∀ p : Nat → Prop, (∀ k, ¬ p k) → ∀ n, cnt p n = 0 := by
    intro p hp n
    induction n with
    | zero => rfl
    | succ n ih => simp only [cnt]; rw [ih, tv_f (hp n)]
  have hz : ∀ k, k = 28 ∨ k = 29 ∨ k = 30 → T2.1 53 k = iI 0 := by
    intro k hk
    rw [fr2.1 _ _ (by omega), hT1]
    rcases hk with rfl | rfl | rfl <;> simp only [sI_get, sJ_get, sI_2, sJ_1, sJ_22, sR_1, sR_21, Nat.reduceEqDiff, and_true, true_and, and_false, false_and, and_self, if_true, if_false, reduceIte]
  obtain ⟨T', fd', S', qx', qy', tb', sb', e3, fr3, k1, k2, k3, k4, k5⟩ := lp_ll2 hG (N := N) (by omega) (oB a b c d kd) (fSp a b c d kd) (by rw [hNe]; exact ordS_sur _ _) (by rw [hNe]; exact ordS_inj _ _) (by rw [hNe]; exact ordS_lt _ _) (r := r) (by omega) r 0 T2 (by omega) hg2 (fun j hj => by rw [rd _ _ (by omega) (by omega)]; exact hR.2 j (by omega)) (fun j hj => (hR.1 j (by omega)).fr (rd _ _ (by omega) (by omega)) (rd _ _ (by omega) (by omega)) (rd _ _ (by omega) (by omega))) (fun _ => False) (fun k => k) (fun _ => 0) (fun _ => 0) 0 0 ⟨fun k z => z.elim, fun k s z => z.elim, ⟨by omega, by omega⟩, ⟨fun z => by omega, fun ⟨k, s, z, _⟩ => z.elim⟩, ⟨fun z => by omega, fun ⟨k, s, k', s', z, _⟩ => z.1.elim⟩⟩ (fun k hk => ⟨fun z => z.elim, fun _ => z2 k hk⟩) (hz 29 (by omega)) (hz 30 (by omega)) (by rw [c0 _ (fun k z => z.1)]; exact hz 28 (by omega)) (fun i hi => by omega) .null
  obtain ⟨m1, m2, m3, m4⟩ := k1.all (hmN_inv hG) hrp (fun k ⟨j, j1, j2⟩ => by rw [← j2]; exact k5 j j1)
  refine ⟨T', tb', sb', ?_, fr12.tr fr3, ?_, k2, k3, k1.2.2.1, m2, m3⟩
  · rw [← e3]
    have z0 : ((0 : Nat) : Int) = 0 := rfl
    rw [z0, hNi] at e2
    rw [z0, hNi]
    simp (disch := first | omega | assumption | decide | (simp (disch := omega) only [iI_lit, iJ_lit, iJ_eq, iI_eq, bI_01, bI_01I] <;> omega)) only [c_Dm_laysLots, e_Dm_laysLots_0, e_Dm_laysLots_1, e_Dm_laysLots_2, e_Dm_laysLots_5, e_Dm_laysLots_6, e_Dm_laysLots_7, e_Dm_laysLots_10, e_Dm_laysLots_11, e_Dm_laysLots_12, e_Dm_laysLots_15, e_Dm_laysLots_16, bd_some, bd_none, Option.toList_some, Option.toList_none, List.nil_append, List.cons_append, px_kill_int, px_kill_long, px_kill_ref, px_kill_null, iI_lit, iJ_lit, iI_add, iI_sub, iI_mul, iI_neg, iJ_add, iJ_sub, iJ_mul, iJ_neg, iI_lt, iI_le, iI_eq, iJ_lt, iJ_le, iJ_eq, iI_div, iJ_div, tdiv_tmod, iI_J, iJ_I, iI_ix, iI_toInt, iJ_toInt, cmp_ge, cmp_lt, cmp_eq, cmp_gt, cmp_le, cmp_geI, cmp_ltI, cmp_eqI, cmp_gtI, cmp_leI, bI_0I, bI_1I, pin, if_true, sI_get, sJ_get, sI_2, sJ_1, sJ_22, sR_1, sR_21, Nat.reduceEqDiff, and_true, true_and, and_false, false_and, and_self, if_true, if_false, reduceIte]
    rw [← hT1, e2]
    simp (disch := first | omega | assumption | decide | (simp (disch := omega) only [iI_lit, iJ_lit, iJ_eq, iI_eq, bI_01, bI_01I] <;> omega)) only [e_Dm_laysLots_35, e_Dm_laysLots_36, bd_some, bd_none, Option.toList_some, Option.toList_none, List.nil_append, List.cons_append, px_kill_int, px_kill_long, px_kill_ref, px_kill_null, iI_lit, iJ_lit, iI_add, iI_sub, iI_mul, iI_neg, iJ_add, iJ_sub, iJ_mul, iJ_neg, iI_lt, iI_le, iI_eq, iJ_lt, iJ_le, iJ_eq, iI_div, iJ_div, tdiv_tmod, iI_J, iJ_I, iI_ix, iI_toInt, iJ_toInt, cmp_ge, cmp_lt, cmp_eq, cmp_gt, cmp_le, cmp_geI, cmp_ltI, cmp_eqI, cmp_gtI, cmp_leI, bI_0I, bI_1I, pin, if_true]
  · rw [k4, m4, gG_lots ho hr m1, hNe]
