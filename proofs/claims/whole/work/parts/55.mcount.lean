/-! the reference counts. -/
def aCnt (q k : Nat) : Prop := q = 67
theorem FrM.cnt {T T' : TS} (h : FrI aCnt T T') : FrM T T' := FrM.of h (fun q k z => by unfold aCnt at z; unfold aRef; omega)
set_option maxHeartbeats 1000000 in
theorem lp_mcnt0 (v1 v2 v3 v4 : Int32) : ∀ (m k : Nat) (T : TS), k + m = 16 → (∀ c, c < k → T.1 67 c = iI 0) → ∀ (a6 : Value), ∃ T', rn k_Dm_counts 3 [.ref 53, .int v1, .int v2, .int v3, .int v4, .int (iI (k : Int)), a6] [] (enc T) = rn k_Dm_counts 24 [.ref 53, .int v1, .int v2, .int v3, .int v4, .int (iI 16), a6] [] (enc T') ∧ FrI aCnt T T' ∧ (∀ c, c < 16 → T'.1 67 c = iI 0) := by
  intro m
  induction m with
  | zero =>
    intro k T hk h a6
    have hkw : k = 16 := by omega
    refine ⟨T, ?_, FrI.rf _ _, fun c hc => h c (by omega)⟩
    rw [e_Dm_counts_3, hkw]
    have h16 : ((16 : Nat) : Int) = 16 := rfl
    simp (disch := first | omega | assumption | decide | (simp (disch := omega) only [iI_lit, iJ_lit, iJ_eq, iI_eq, bI_01, bI_01I] <;> omega)) only [e_Dm_counts_5, e_Dm_counts_7, e_Dm_counts_10, e_Dm_counts_11, e_Dm_counts_14, e_Dm_counts_16, e_Dm_counts_17, e_Dm_counts_18, e_Dm_counts_21, bd_some, bd_none, Option.toList_some, Option.toList_none, List.nil_append, List.cons_append, px_kill_int, px_kill_long, px_kill_ref, px_kill_null, h16, iI_lit, iJ_lit, iI_add, iI_sub, iI_mul, iI_neg, iJ_add, iJ_sub, iJ_mul, iJ_neg, iI_lt, iI_le, iI_eq, iJ_lt, iJ_le, iJ_eq, iI_div, iJ_div, tdiv_tmod, iI_J, iJ_I, iI_ix, iI_toInt, iJ_toInt, cmp_ge, cmp_lt, cmp_eq, cmp_gt, cmp_le, cmp_geI, cmp_ltI, cmp_eqI, cmp_gtI, cmp_leI, bI_0I, bI_1I, pin, if_true, Int.le_refl]
  | succ m ih =>
    intro k T hk h a6
    have nle : ¬ (16 : Int) ≤ (k : Int) := by omega
    have ek : ((k : Int)).toNat = k := by omega
    obtain ⟨T', e, fr, g⟩ := ih (k + 1) (sI T 67 k (iI 0)) (by omega) (fun c hc => by
      by_cases hck : c = k
      · rw [hck]; simp only [sI_get, sJ_get, sI_2, sJ_1, sJ_22, sR_1, sR_21, Nat.reduceEqDiff, and_true, true_and, and_false, false_and, and_self, if_true, if_false, reduceIte]
      · have := h c (by omega)
        simp only [sI_get, sJ_get, sI_2, sJ_1, sJ_22, sR_1, sR_21, Nat.reduceEqDiff, and_true, true_and, and_false, false_and, and_self, if_true, if_false, reduceIte, hck, this]) a6
    refine ⟨T', ?_, ((FrI.rf aCnt T).wr _ rfl).tr fr, g⟩
    rw [e_Dm_counts_3, ← e]
    simp (disch := first | omega | assumption | decide | (simp (disch := omega) only [iI_lit, iJ_lit, iJ_eq, iI_eq, bI_01, bI_01I] <;> omega)) only [e_Dm_counts_5, e_Dm_counts_7, e_Dm_counts_10, e_Dm_counts_11, e_Dm_counts_14, e_Dm_counts_16, e_Dm_counts_17, e_Dm_counts_18, e_Dm_counts_21, bd_some, bd_none, Option.toList_some, Option.toList_none, List.nil_append, List.cons_append, px_kill_int, px_kill_long, px_kill_ref, px_kill_null, iI_lit, iJ_lit, iI_add, iI_sub, iI_mul, iI_neg, iJ_add, iJ_sub, iJ_mul, iJ_neg, iI_lt, iI_le, iI_eq, iJ_lt, iJ_le, iJ_eq, iI_div, iJ_div, tdiv_tmod, iI_J, iJ_I, iI_ix, iI_toInt, iJ_toInt, cmp_ge, cmp_lt, cmp_eq, cmp_gt, cmp_le, cmp_geI, cmp_ltI, cmp_eqI, cmp_gtI, cmp_leI, bI_0I, bI_1I, pin, if_true, nle, if_false, sh_n67, ek]
    rw [show (k : Int) + 1 = ((k + 1 : Nat) : Int) by omega]
noncomputable abbrev hitN (V : VW) (x y : Int) (s : Nat) : Int := if setN V x y V.1 = (s : Int) then 1 else 0
set_option maxHeartbeats 1000000 in
theorem lp_mcnt2 {V : VW} (hV : okV V) {w : Nat} (hw : w ≤ 32) {x y : Int} (v1 v2 v4 v5 : Int32) (B : Nat → Int) : ∀ (m k : Nat) (T : TS), k + m = w → (∀ c : Nat, c < w → T.1 66 c = iI (setN V (x + c) y V.1)) → (∀ s, s < 16 → T.1 67 s = iI (B s + sm (fun i => hitN V (x + i) y s) k)) → ∃ T', rn k_Dm_counts 47 [.ref 53, .int v1, .int v2, .int (iI (w : Int)), .int v4, .int v5, .int (iI (k : Int))] [] (enc T) = rn k_Dm_counts 75 [.ref 53, .int v1, .int v2, .int (iI (w : Int)), .int v4, .int v5, .int (iI (w : Int))] [] (enc T') ∧ FrI aCnt T T' ∧ (∀ s, s < 16 → T'.1 67 s = iI (B s + sm (fun i => hitN V (x + i) y s) w)) := by
  intro m
  induction m with
  | zero =>
    intro k T hk h1 h2
    have hkw : k = w := by omega
    refine ⟨T, ?_, FrI.rf _ _, by rw [← hkw]; exact h2⟩
    rw [e_Dm_counts_47, hkw]
    simp (disch := first | omega | assumption | decide | (simp (disch := omega) only [iI_lit, iJ_lit, iJ_eq, iI_eq, bI_01, bI_01I] <;> omega)) only [e_Dm_counts_49, e_Dm_counts_50, e_Dm_counts_53, e_Dm_counts_54, e_Dm_counts_57, e_Dm_counts_58, e_Dm_counts_61, e_Dm_counts_63, e_Dm_counts_64, e_Dm_counts_65, e_Dm_counts_66, e_Dm_counts_67, e_Dm_counts_68, e_Dm_counts_69, e_Dm_counts_72, bd_some, bd_none, Option.toList_some, Option.toList_none, List.nil_append, List.cons_append, px_kill_int, px_kill_long, px_kill_ref, px_kill_null, iI_lit, iJ_lit, iI_add, iI_sub, iI_mul, iI_neg, iJ_add, iJ_sub, iJ_mul, iJ_neg, iI_lt, iI_le, iI_eq, iJ_lt, iJ_le, iJ_eq, iI_div, iJ_div, tdiv_tmod, iI_J, iJ_I, iI_ix, iI_toInt, iJ_toInt, cmp_ge, cmp_lt, cmp_eq, cmp_gt, cmp_le, cmp_geI, cmp_ltI, cmp_eqI, cmp_gtI, cmp_leI, bI_0I, bI_1I, pin, if_true, Int.le_refl]
  | succ m ih =>
    intro k T hk h1 h2
    have nle : ¬ (w : Int) ≤ (k : Int) := by omega
    have ek : ((k : Int)).toNat = k := by omega
    have hv := h1 k (by omega)
    have hb := setN_16 hV (x + k) y
    have hc := h2 (setN V (x + k) y V.1).toNat (by omega)
    obtain ⟨T2, hT2⟩ : ∃ T2 : TS, T2 = sI T 67 (setN V (x + k) y V.1).toNat (iI (B (setN V (x + k) y V.1).toNat + sm (fun i => hitN V (x + i) y (setN V (x + k) y V.1).toNat) k + 1)) := ⟨_, rfl⟩
    have frw : FrI aCnt T T2 := by rw [hT2]; exact (FrI.rf aCnt T).wr _ rfl
    obtain ⟨T', e, fr, g⟩ := ih (k + 1) T2 (by omega) (fun c hc => by rw [frw.1 _ _ (by unfold aCnt; omega)]; exact h1 c hc) (fun s hs => by
      rw [show sm (fun i => hitN V (x + i) y s) (k + 1) = sm (fun i => hitN V (x + i) y s) k + hitN V (x + k) y s from rfl]
      rw [hT2]
      by_cases hsk : s = (setN V (x + k) y V.1).toNat
      · rw [show hitN V (x + k) y s = 1 from if_pos (by omega)]
        rw [hsk]
        simp only [sI_get, sJ_get, sI_2, sJ_1, sJ_22, sR_1, sR_21, Nat.reduceEqDiff, and_true, true_and, and_false, false_and, and_self, if_true, if_false, reduceIte]
        rw [Int.add_assoc]
      · rw [show hitN V (x + k) y s = 0 from if_neg (by omega)]
        have := h2 s hs
        simp only [sI_get, sJ_get, sI_2, sJ_1, sJ_22, sR_1, sR_21, Nat.reduceEqDiff, and_true, true_and, and_false, false_and, and_self, if_true, if_false, reduceIte, hsk, this, Int.add_zero])
    refine ⟨T', ?_, frw.tr fr, g⟩
    rw [e_Dm_counts_47, ← e, hT2]
    simp (disch := first | omega | assumption | decide | (simp (disch := omega) only [iI_lit, iJ_lit, iJ_eq, iI_eq, bI_01, bI_01I] <;> omega)) only [e_Dm_counts_49, e_Dm_counts_50, e_Dm_counts_53, e_Dm_counts_54, e_Dm_counts_57, e_Dm_counts_58, e_Dm_counts_61, e_Dm_counts_63, e_Dm_counts_64, e_Dm_counts_65, e_Dm_counts_66, e_Dm_counts_67, e_Dm_counts_68, e_Dm_counts_69, e_Dm_counts_72, bd_some, bd_none, Option.toList_some, Option.toList_none, List.nil_append, List.cons_append, px_kill_int, px_kill_long, px_kill_ref, px_kill_null, iI_lit, iJ_lit, iI_add, iI_sub, iI_mul, iI_neg, iJ_add, iJ_sub, iJ_mul, iJ_neg, iI_lt, iI_le, iI_eq, iJ_lt, iJ_le, iJ_eq, iI_div, iJ_div, tdiv_tmod, iI_J, iJ_I, iI_ix, iI_toInt, iJ_toInt, cmp_ge, cmp_lt, cmp_eq, cmp_gt, cmp_le, cmp_geI, cmp_ltI, cmp_eqI, cmp_gtI, cmp_leI, bI_0I, bI_1I, pin, if_true, nle, if_false, sh_n66, sh_n67, ek, hv, hc]
    rw [show (k : Int) + 1 = ((k + 1 : Nat) : Int) by omega]
noncomputable def cntN (V : VW) (x y : Int) (w h s : Nat) : Int := sm (fun j => sm (fun i => hitN V (x + i) (y + j) s) w) h
set_option maxHeartbeats 1000000 in
theorem lp_mcnt1 {V : VW} (hV : okV V) {w h : Nat} (hw : w ≤ 32) (hh : h ≤ 32) {x y : Int} (hx : -999 ≤ x ∧ x ≤ 999) (hy : -999 ≤ y ∧ y ≤ 999) : ∀ (m j : Nat) (T : TS), j + m = h → cM T V → (∀ s, s < 16 → T.1 67 s = iI (cntN V x y w j s)) → ∀ (a6 : Value), ∃ T', rn k_Dm_counts 27 [.ref 53, .int (iI x), .int (iI y), .int (iI (w : Int)), .int (iI (h : Int)), .int (iI (j : Int)), a6] [] (enc T) = some (none, enc T') ∧ FrM T T' ∧ (∀ s, s < 16 → T'.1 67 s = iI (cntN V x y w h s)) := by
  intro m
  induction m with
  | zero =>
    intro j T hj hM h1 a6
    have hjh : j = h := by omega
    refine ⟨T, ?_, FrM.rf _, by rw [← hjh]; exact h1⟩
    rw [e_Dm_counts_27, hjh]
    simp (disch := first | omega | assumption | decide | (simp (disch := omega) only [iI_lit, iJ_lit, iJ_eq, iI_eq, bI_01, bI_01I] <;> omega)) only [e_Dm_counts_29, e_Dm_counts_31, e_Dm_counts_34, e_Dm_counts_35, e_Dm_counts_36, e_Dm_counts_37, e_Dm_counts_39, e_Dm_counts_40, e_Dm_counts_41, e_Dm_counts_44, e_Dm_counts_45, e_Dm_counts_47, e_Dm_counts_49, e_Dm_counts_50, e_Dm_counts_53, e_Dm_counts_54, e_Dm_counts_57, e_Dm_counts_58, e_Dm_counts_61, e_Dm_counts_63, e_Dm_counts_64, e_Dm_counts_65, e_Dm_counts_66, e_Dm_counts_67, e_Dm_counts_68, e_Dm_counts_69, e_Dm_counts_72, e_Dm_counts_75, e_Dm_counts_78, e_Dm_counts_81, bd_some, bd_none, Option.toList_some, Option.toList_none, List.nil_append, List.cons_append, px_kill_int, px_kill_long, px_kill_ref, px_kill_null, iI_lit, iJ_lit, iI_add, iI_sub, iI_mul, iI_neg, iJ_add, iJ_sub, iJ_mul, iJ_neg, iI_lt, iI_le, iI_eq, iJ_lt, iJ_le, iJ_eq, iI_div, iJ_div, tdiv_tmod, iI_J, iJ_I, iI_ix, iI_toInt, iJ_toInt, cmp_ge, cmp_lt, cmp_eq, cmp_gt, cmp_le, cmp_geI, cmp_ltI, cmp_eqI, cmp_gtI, cmp_leI, bI_0I, bI_1I, pin, if_true, Int.le_refl]
  | succ m ih =>
    intro j T hj hM h1 a6
    have nle : ¬ (h : Int) ≤ (j : Int) := by omega
    obtain ⟨T2, e2, fr2, g2, h67⟩ := m_laysRow hV hM (w := w) (by omega) (x := x) (y := y + j) (by omega) (by omega)
    obtain ⟨T3, e3, fr3, g3⟩ := lp_mcnt2 hV hw (x := x) (y := y + j) (iI x) (iI y) (iI (h : Int)) (iI (j : Int)) (cntN V x y w j) w 0 T2 (by omega) g2 (fun s hs => by
      rw [h67, h1 s hs]
      show _ = iI (cntN V x y w j s + 0)
      rw [Int.add_zero])
    obtain ⟨T', e4, fr4, g4⟩ := ih (j + 1) T3 (by omega) ((hM.fr fr2).fr (FrM.cnt fr3)) g3 (.int (iI (w : Int)))
    refine ⟨T', ?_, (fr2.tr (FrM.cnt fr3)).tr fr4, g4⟩
    rw [e_Dm_counts_27]
    simp (disch := first | omega | assumption | decide | (simp (disch := omega) only [iI_lit, iJ_lit, iJ_eq, iI_eq, bI_01, bI_01I] <;> omega)) only [e_Dm_counts_29, e_Dm_counts_31, e_Dm_counts_34, e_Dm_counts_35, e_Dm_counts_36, e_Dm_counts_37, e_Dm_counts_39, e_Dm_counts_40, e_Dm_counts_41, e_Dm_counts_44, e_Dm_counts_45, bd_some, bd_none, Option.toList_some, Option.toList_none, List.nil_append, List.cons_append, px_kill_int, px_kill_long, px_kill_ref, px_kill_null, iI_lit, iJ_lit, iI_add, iI_sub, iI_mul, iI_neg, iJ_add, iJ_sub, iJ_mul, iJ_neg, iI_lt, iI_le, iI_eq, iJ_lt, iJ_le, iJ_eq, iI_div, iJ_div, tdiv_tmod, iI_J, iJ_I, iI_ix, iI_toInt, iJ_toInt, cmp_ge, cmp_lt, cmp_eq, cmp_gt, cmp_le, cmp_geI, cmp_ltI, cmp_eqI, cmp_gtI, cmp_leI, bI_0I, bI_1I, pin, if_true, nle, if_false, e2]
    refine Eq.trans e3 ?_
    simp (disch := first | omega | assumption | decide | (simp (disch := omega) only [iI_lit, iJ_lit, iJ_eq, iI_eq, bI_01, bI_01I] <;> omega)) only [e_Dm_counts_75, e_Dm_counts_78, bd_some, bd_none, Option.toList_some, Option.toList_none, List.nil_append, List.cons_append, px_kill_int, px_kill_long, px_kill_ref, px_kill_null, iI_lit, iJ_lit, iI_add, iI_sub, iI_mul, iI_neg, iJ_add, iJ_sub, iJ_mul, iJ_neg, iI_lt, iI_le, iI_eq, iJ_lt, iJ_le, iJ_eq, iI_div, iJ_div, tdiv_tmod, iI_J, iJ_I, iI_ix, iI_toInt, iJ_toInt, cmp_ge, cmp_lt, cmp_eq, cmp_gt, cmp_le, cmp_geI, cmp_ltI, cmp_eqI, cmp_gtI, cmp_leI, bI_0I, bI_1I, pin, if_true]
    rw [show (j : Int) + 1 = ((j + 1 : Nat) : Int) by omega]
    exact e4
set_option maxHeartbeats 1000000 in
theorem m_counts {T : TS} {V : VW} (hV : okV V) (hM : cM T V) {w h : Nat} (hw : w ≤ 32) (hh : h ≤ 32) {x y : Int} (hx : -999 ≤ x ∧ x ≤ 999) (hy : -999 ≤ y ∧ y ≤ 999) : ∃ T', cl k_Dm_counts [.ref 53, .int (iI x), .int (iI y), .int (iI (w : Int)), .int (iI (h : Int))] (enc T) = some (none, enc T') ∧ FrM T T' ∧ (∀ s, s < 16 → T'.1 67 s = iI (cntN V x y w h s)) := by
  obtain ⟨T2, e2, fr2, g2⟩ := lp_mcnt0 (iI x) (iI y) (iI (w : Int)) (iI (h : Int)) 16 0 T (by omega) (fun c hc => by omega) .null
  obtain ⟨T', e3, fr3, g3⟩ := lp_mcnt1 hV hw hh hx hy h 0 T2 (by omega) (hM.fr (FrM.cnt fr2)) g2 .null
  refine ⟨T', ?_, (FrM.cnt fr2).tr fr3, g3⟩
  simp only [c_Dm_counts, e_Dm_counts_0, e_Dm_counts_1, bd_some, bd_none, Option.toList_some, Option.toList_none, List.nil_append, List.cons_append, px_kill_int, px_kill_long, px_kill_ref, px_kill_null, iI_lit]
  refine Eq.trans e2 ?_
  simp (disch := first | omega | assumption | decide | (simp (disch := omega) only [iI_lit, iJ_lit, iJ_eq, iI_eq, bI_01, bI_01I] <;> omega)) only [e_Dm_counts_24, e_Dm_counts_25, bd_some, bd_none, Option.toList_some, Option.toList_none, List.nil_append, List.cons_append, px_kill_int, px_kill_long, px_kill_ref, px_kill_null, iI_lit, iJ_lit, iI_add, iI_sub, iI_mul, iI_neg, iJ_add, iJ_sub, iJ_mul, iJ_neg, iI_lt, iI_le, iI_eq, iJ_lt, iJ_le, iJ_eq, iI_div, iJ_div, tdiv_tmod, iI_J, iJ_I, iI_ix, iI_toInt, iJ_toInt, cmp_ge, cmp_lt, cmp_eq, cmp_gt, cmp_le, cmp_geI, cmp_ltI, cmp_eqI, cmp_gtI, cmp_leI, bI_0I, bI_1I, pin, if_true]
  exact e3
