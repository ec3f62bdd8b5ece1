/-! the reference reads: signs, numbers. A mode: an error where it stands, or all well and where. -/
abbrev MD : Type := Nat ⊕ Nat
def hMd (T : TS) (t : TP) (md : MD) : Prop := match md with
  | .inl e => T.1 53 4 = iI (e : Int) ∧ e ≤ t.1 ∧ ∃ a, a ≤ t.1 ∧ T.1 53 3 = iI (a : Int)
  | .inr a => T.1 53 4 = iI (-1) ∧ a ≤ t.1 ∧ T.1 53 3 = iI (a : Int)
def aAw (q k : Nat) : Prop := q = 53 ∧ (k = 3 ∨ k = 4)
theorem hTm.fr {T T' : TS} {t : TP} {A : Nat → Nat → Prop} (h : hTm T t) (hf : FrI A T T') (hA : ∀ q k, A q k → (q = 53 ∧ (k = 3 ∨ k = 4 ∨ k = 8 ∨ k = 9)) ∨ q = 55) : hTm T' t := by
  refine ⟨?_, fun k hk => ?_⟩
  · rw [hf.1 _ _ (fun z => by have := hA _ _ z; omega)]; exact h.1
  · rw [hf.1 _ _ (fun z => by have := hA _ _ z; omega)]; exact h.2 k hk
theorem aAw_p {q k : Nat} (h : aAw q k) : (q = 53 ∧ (k = 3 ∨ k = 4 ∨ k = 8 ∨ k = 9)) ∨ q = 55 := by unfold aAw at h; omega
theorem m_here {T : TS} {t : TP} (ht : okTp t) (hT : hTm T t) {a : Nat} (ha : a ≤ t.1) (hA : T.1 53 3 = iI (a : Int)) : cl k_Dm_here [.ref 53] (enc T) = some (some (.int (iI (sg t a))), enc T) := by
  have hl := ht.1
  have h1 := hT.1
  by_cases c : a < t.1
  · have c1 : ¬ (t.1 : Int) ≤ (a : Int) := by omega
    have hb := hT.2 a c
    have ea : ((a : Int)).toNat = a := by omega
    have es : sg t a = t.2 a := if_pos c
    rw [es]
    simp (disch := first | omega | assumption | decide | (simp (disch := omega) only [iI_lit, iJ_lit, iJ_eq, iI_eq, bI_01, bI_01I] <;> omega)) only [c_Dm_here, e_Dm_here_0, e_Dm_here_1, e_Dm_here_4, e_Dm_here_5, e_Dm_here_8, e_Dm_here_11, e_Dm_here_12, e_Dm_here_15, e_Dm_here_16, e_Dm_here_19, e_Dm_here_20, e_Dm_here_23, e_Dm_here_24, bd_some, bd_none, Option.toList_some, Option.toList_none, List.nil_append, List.cons_append, px_kill_int, px_kill_long, px_kill_ref, px_kill_null, iI_lit, iJ_lit, iI_add, iI_sub, iI_mul, iI_neg, iJ_add, iJ_sub, iJ_mul, iJ_neg, iI_lt, iI_le, iI_eq, iJ_lt, iJ_le, iJ_eq, iI_div, iJ_div, tdiv_tmod, iI_J, iJ_I, iI_ix, iI_toInt, iJ_toInt, cmp_ge, cmp_lt, cmp_eq, cmp_gt, cmp_le, cmp_geI, cmp_ltI, cmp_eqI, cmp_gtI, cmp_leI, bI_0I, bI_1I, pin, if_true, hA, h1, c1, if_false, sh_n54, ea, hb]
  · have c1 : (t.1 : Int) ≤ (a : Int) := by omega
    have es : sg t a = -1 := if_neg c
    rw [es]
    simp (disch := first | omega | assumption | decide | (simp (disch := omega) only [iI_lit, iJ_lit, iJ_eq, iI_eq, bI_01, bI_01I] <;> omega)) only [c_Dm_here, e_Dm_here_0, e_Dm_here_1, e_Dm_here_4, e_Dm_here_5, e_Dm_here_8, e_Dm_here_11, e_Dm_here_12, e_Dm_here_15, e_Dm_here_16, e_Dm_here_19, e_Dm_here_20, e_Dm_here_23, e_Dm_here_24, bd_some, bd_none, Option.toList_some, Option.toList_none, List.nil_append, List.cons_append, px_kill_int, px_kill_long, px_kill_ref, px_kill_null, iI_lit, iJ_lit, iI_add, iI_sub, iI_mul, iI_neg, iJ_add, iJ_sub, iJ_mul, iJ_neg, iI_lt, iI_le, iI_eq, iJ_lt, iJ_le, iJ_eq, iI_div, iJ_div, tdiv_tmod, iI_J, iJ_I, iI_ix, iI_toInt, iJ_toInt, cmp_ge, cmp_lt, cmp_eq, cmp_gt, cmp_le, cmp_geI, cmp_ltI, cmp_eqI, cmp_gtI, cmp_leI, bI_0I, bI_1I, pin, if_true, hA, h1, c1]
set_option maxHeartbeats 1000000 in
theorem m_ahead {t : TP} (ht : okTp t) : ∀ a, ∀ T : TS, hTm T t → a ≤ t.1 → T.1 53 3 = iI (a : Int) → ∃ T', cl k_Dm_ahead [.ref 53] (enc T) = some (some (.int (iI (sg t (SK t a)))), enc T') ∧ FrI (fun q k => q = 53 ∧ k = 3) T T' ∧ T'.1 53 3 = iI ((SK t a : Nat) : Int) := by
  apply SK_ind ht
  · intro k hs T hT hk hA
    rw [SK_no hs]
    have e := m_here ht hT hk hA
    have bs := sg_bd ht k
    refine ⟨T, ?_, FrI.rf _ _, hA⟩
    simp (disch := first | omega | assumption | decide | (simp (disch := omega) only [iI_lit, iJ_lit, iJ_eq, iI_eq, bI_01, bI_01I] <;> omega)) only [c_Dm_ahead, e_Dm_ahead_0, e_Dm_ahead_1, e_Dm_ahead_4, e_Dm_ahead_6, e_Dm_ahead_9, e_Dm_ahead_10, e_Dm_ahead_11, e_Dm_ahead_14, e_Dm_ahead_15, e_Dm_ahead_16, e_Dm_ahead_19, e_Dm_ahead_22, e_Dm_ahead_23, e_Dm_ahead_26, bd_some, bd_none, Option.toList_some, Option.toList_none, List.nil_append, List.cons_append, px_kill_int, px_kill_long, px_kill_ref, px_kill_null, iI_lit, iJ_lit, iI_add, iI_sub, iI_mul, iI_neg, iJ_add, iJ_sub, iJ_mul, iJ_neg, iI_lt, iI_le, iI_eq, iJ_lt, iJ_le, iJ_eq, iI_div, iJ_div, tdiv_tmod, iI_J, iJ_I, iI_ix, iI_toInt, iJ_toInt, cmp_ge, cmp_lt, cmp_eq, cmp_gt, cmp_le, cmp_geI, cmp_ltI, cmp_eqI, cmp_gtI, cmp_leI, bI_0I, bI_1I, pin, if_true, e, hs, if_false]
  · intro k hkt hs ih T hT hk hA
    rw [SK_bl ht hs]
    have hl := ht.1
    have e := m_here ht hT hk hA
    rw [hs] at e
    have f1 : FrI (fun q k => q = 53 ∧ k = 3) T (sI T 53 3 (iI ((k : Int) + 1))) := (FrI.rf _ T).wr _ ⟨rfl, rfl⟩
    obtain ⟨T', e2, f2, g2⟩ := ih (sI T 53 3 (iI ((k : Int) + 1))) (hT.fr f1 (fun q k z => by omega)) (by omega) (by rw [show ((k + 1 : Nat) : Int) = (k : Int) + 1 by omega]; simp only [sI_get, sJ_get, sI_2, sJ_1, sJ_22, sR_1, sR_21, Nat.reduceEqDiff, and_true, true_and, and_false, false_and, and_self, if_true, if_false, reduceIte])
    refine ⟨T', ?_, f1.tr f2, g2⟩
    rw [c_Dm_ahead] at e2 ⊢
    refine Eq.trans ?_ e2
    rw [e_Dm_ahead_0]
    simp (disch := first | omega | assumption | decide | (simp (disch := omega) only [iI_lit, iJ_lit, iJ_eq, iI_eq, bI_01, bI_01I] <;> omega)) only [e_Dm_ahead_1, e_Dm_ahead_4, e_Dm_ahead_6, e_Dm_ahead_9, e_Dm_ahead_10, e_Dm_ahead_11, e_Dm_ahead_14, e_Dm_ahead_15, e_Dm_ahead_16, e_Dm_ahead_19, bd_some, bd_none, Option.toList_some, Option.toList_none, List.nil_append, List.cons_append, px_kill_int, px_kill_long, px_kill_ref, px_kill_null, iI_lit, iJ_lit, iI_add, iI_sub, iI_mul, iI_neg, iJ_add, iJ_sub, iJ_mul, iJ_neg, iI_lt, iI_le, iI_eq, iJ_lt, iJ_le, iJ_eq, iI_div, iJ_div, tdiv_tmod, iI_J, iJ_I, iI_ix, iI_toInt, iJ_toInt, cmp_ge, cmp_lt, cmp_eq, cmp_gt, cmp_le, cmp_geI, cmp_ltI, cmp_eqI, cmp_gtI, cmp_leI, bI_0I, bI_1I, pin, if_true, e, hA]
theorem m_bad1 {T : TS} {t : TP} {a : Nat} (ha : a ≤ t.1) (hl : t.1 ≤ 160) (hW : T.1 53 4 = iI (-1)) (hA : T.1 53 3 = iI (a : Int)) : ∃ T', cl k_Dm_bad [.ref 53] (enc T) = some (none, enc T') ∧ FrI aAw T T' ∧ hMd T' t (.inl a) := by
  refine ⟨sI T 53 4 (iI (a : Int)), ?_, (FrI.rf aAw T).wr _ ⟨rfl, by omega⟩, ?_, ha, a, ha, ?_⟩
  · simp (disch := first | omega | assumption | decide | (simp (disch := omega) only [iI_lit, iJ_lit, iJ_eq, iI_eq, bI_01, bI_01I] <;> omega)) only [c_Dm_bad, e_Dm_bad_0, e_Dm_bad_1, e_Dm_bad_2, e_Dm_bad_5, e_Dm_bad_6, e_Dm_bad_9, e_Dm_bad_10, e_Dm_bad_13, e_Dm_bad_16, e_Dm_bad_17, e_Dm_bad_20, e_Dm_bad_23, bd_some, bd_none, Option.toList_some, Option.toList_none, List.nil_append, List.cons_append, px_kill_int, px_kill_long, px_kill_ref, px_kill_null, iI_lit, iJ_lit, iI_add, iI_sub, iI_mul, iI_neg, iJ_add, iJ_sub, iJ_mul, iJ_neg, iI_lt, iI_le, iI_eq, iJ_lt, iJ_le, iJ_eq, iI_div, iJ_div, tdiv_tmod, iI_J, iJ_I, iI_ix, iI_toInt, iJ_toInt, cmp_ge, cmp_lt, cmp_eq, cmp_gt, cmp_le, cmp_geI, cmp_ltI, cmp_eqI, cmp_gtI, cmp_leI, bI_0I, bI_1I, pin, if_true, hW, hA]
  · simp only [sI_get, sJ_get, sI_2, sJ_1, sJ_22, sR_1, sR_21, Nat.reduceEqDiff, and_true, true_and, and_false, false_and, and_self, if_true, if_false, reduceIte]
  · simp only [sI_get, sJ_get, sI_2, sJ_1, sJ_22, sR_1, sR_21, Nat.reduceEqDiff, and_true, true_and, and_false, false_and, and_self, if_true, if_false, reduceIte]; exact hA
theorem m_bad0 {T : TS} {t : TP} (hl : t.1 ≤ 160) {e : Nat} (h : hMd T t (.inl e)) : ∃ T', cl k_Dm_bad [.ref 53] (enc T) = some (none, enc T') ∧ FrI aAw T T' ∧ hMd T' t (.inl e) := by
  obtain ⟨h1, h2, a, h3, h4⟩ := h
  have ne : ¬ (e : Int) = -1 := by omega
  refine ⟨sI T 53 4 (iI (e : Int)), ?_, (FrI.rf aAw T).wr _ ⟨rfl, by omega⟩, ?_, h2, a, h3, ?_⟩
  · simp (disch := first | omega | assumption | decide | (simp (disch := omega) only [iI_lit, iJ_lit, iJ_eq, iI_eq, bI_01, bI_01I] <;> omega)) only [c_Dm_bad, e_Dm_bad_0, e_Dm_bad_1, e_Dm_bad_2, e_Dm_bad_5, e_Dm_bad_6, e_Dm_bad_9, e_Dm_bad_10, e_Dm_bad_13, e_Dm_bad_16, e_Dm_bad_17, e_Dm_bad_20, e_Dm_bad_23, bd_some, bd_none, Option.toList_some, Option.toList_none, List.nil_append, List.cons_append, px_kill_int, px_kill_long, px_kill_ref, px_kill_null, iI_lit, iJ_lit, iI_add, iI_sub, iI_mul, iI_neg, iJ_add, iJ_sub, iJ_mul, iJ_neg, iI_lt, iI_le, iI_eq, iJ_lt, iJ_le, iJ_eq, iI_div, iJ_div, tdiv_tmod, iI_J, iJ_I, iI_ix, iI_toInt, iJ_toInt, cmp_ge, cmp_lt, cmp_eq, cmp_gt, cmp_le, cmp_geI, cmp_ltI, cmp_eqI, cmp_gtI, cmp_leI, bI_0I, bI_1I, pin, if_true, h1, ne, if_false]
  · simp only [sI_get, sJ_get, sI_2, sJ_1, sJ_22, sR_1, sR_21, Nat.reduceEqDiff, and_true, true_and, and_false, false_and, and_self, if_true, if_false, reduceIte]
  · simp only [sI_get, sJ_get, sI_2, sJ_1, sJ_22, sR_1, sR_21, Nat.reduceEqDiff, and_true, true_and, and_false, false_and, and_self, if_true, if_false, reduceIte]; exact h4
def muD (t : TP) (md : MD) (c : Int) : MD := match md with
  | .inl e => .inl e
  | .inr a => if sg t (SK t a) = c then .inr (SK t a + 1) else .inl (SK t a)
theorem f3_aw {T T' : TS} (h : FrI (fun q k => q = 53 ∧ k = 3) T T') : FrI aAw T T' := h.mono (fun q k z => by unfold aAw; omega)
set_option maxHeartbeats 1000000 in
theorem m_must {T : TS} {t : TP} (ht : okTp t) (hT : hTm T t) {md : MD} (h : hMd T t md) {c : Int} (hc : 0 ≤ c ∧ c ≤ 255) : ∃ T', cl k_Dm_must [.ref 53, .int (iI c)] (enc T) = some (none, enc T') ∧ FrI aAw T T' ∧ hMd T' t (muD t md c) := by
  have hl := ht.1
  cases md with
  | inl e =>
    obtain ⟨h1, h2, a, h3, h4⟩ := id h
    have ne : ¬ (e : Int) = -1 := by omega
    obtain ⟨T1, e1, f1, g1⟩ := m_bad0 hl h
    refine ⟨T1, ?_, f1, g1⟩
    simp (disch := first | omega | assumption | decide | (simp (disch := omega) only [iI_lit, iJ_lit, iJ_eq, iI_eq, bI_01, bI_01I] <;> omega)) only [c_Dm_must, e_Dm_must_0, e_Dm_must_1, e_Dm_must_4, e_Dm_must_5, e_Dm_must_8, e_Dm_must_9, e_Dm_must_12, e_Dm_must_13, e_Dm_must_16, e_Dm_must_17, e_Dm_must_18, e_Dm_must_21, e_Dm_must_22, e_Dm_must_23, e_Dm_must_26, e_Dm_must_29, e_Dm_must_30, e_Dm_must_33, bd_some, bd_none, Option.toList_some, Option.toList_none, List.nil_append, List.cons_append, px_kill_int, px_kill_long, px_kill_ref, px_kill_null, iI_lit, iJ_lit, iI_add, iI_sub, iI_mul, iI_neg, iJ_add, iJ_sub, iJ_mul, iJ_neg, iI_lt, iI_le, iI_eq, iJ_lt, iJ_le, iJ_eq, iI_div, iJ_div, tdiv_tmod, iI_J, iJ_I, iI_ix, iI_toInt, iJ_toInt, cmp_ge, cmp_lt, cmp_eq, cmp_gt, cmp_le, cmp_geI, cmp_ltI, cmp_eqI, cmp_gtI, cmp_leI, bI_0I, bI_1I, pin, if_true, h1, ne, if_false, e1]
  | inr a =>
    obtain ⟨h1, h2, h3⟩ := h
    obtain ⟨T1, e1, f1, g1⟩ := m_ahead ht a T hT h2 h3
    have hs := SK_le ht a
    have bs := sg_bd ht (SK t a)
    have hW1 : T1.1 53 4 = iI (-1) := by rw [f1.1 _ _ (by omega)]; exact h1
    unfold muD
    simp only
    by_cases cc : sg t (SK t a) = c
    · rw [if_pos cc]
      have hlt := sg_lt (t := t) (k := SK t a) (by omega)
      rw [cc] at e1
      refine ⟨sI T1 53 3 (iI (((SK t a : Nat) : Int) + 1)), ?_, (f3_aw f1).wr _ ⟨rfl, by omega⟩, ?_, by omega, ?_⟩
      · simp (disch := first | omega | assumption | decide | (simp (disch := omega) only [iI_lit, iJ_lit, iJ_eq, iI_eq, bI_01, bI_01I] <;> omega)) only [c_Dm_must, e_Dm_must_0, e_Dm_must_1, e_Dm_must_4, e_Dm_must_5, e_Dm_must_8, e_Dm_must_9, e_Dm_must_12, e_Dm_must_13, e_Dm_must_16, e_Dm_must_17, e_Dm_must_18, e_Dm_must_21, e_Dm_must_22, e_Dm_must_23, e_Dm_must_26, e_Dm_must_29, e_Dm_must_30, e_Dm_must_33, bd_some, bd_none, Option.toList_some, Option.toList_none, List.nil_append, List.cons_append, px_kill_int, px_kill_long, px_kill_ref, px_kill_null, iI_lit, iJ_lit, iI_add, iI_sub, iI_mul, iI_neg, iJ_add, iJ_sub, iJ_mul, iJ_neg, iI_lt, iI_le, iI_eq, iJ_lt, iJ_le, iJ_eq, iI_div, iJ_div, tdiv_tmod, iI_J, iJ_I, iI_ix, iI_toInt, iJ_toInt, cmp_ge, cmp_lt, cmp_eq, cmp_gt, cmp_le, cmp_geI, cmp_ltI, cmp_eqI, cmp_gtI, cmp_leI, bI_0I, bI_1I, pin, if_true, h1, e1, g1]
      · simp only [sI_get, sJ_get, sI_2, sJ_1, sJ_22, sR_1, sR_21, Nat.reduceEqDiff, and_true, true_and, and_false, false_and, and_self, if_true, if_false, reduceIte]; exact hW1
      · rw [show ((SK t a + 1 : Nat) : Int) = ((SK t a : Nat) : Int) + 1 by omega]; simp only [sI_get, sJ_get, sI_2, sJ_1, sJ_22, sR_1, sR_21, Nat.reduceEqDiff, and_true, true_and, and_false, false_and, and_self, if_true, if_false, reduceIte]
    · rw [if_neg cc]
      obtain ⟨T2, e2, f2, g2⟩ := m_bad1 (T := T1) (t := t) (a := SK t a) (hs.2 h2) hl hW1 g1
      refine ⟨T2, ?_, (f3_aw f1).tr f2, g2⟩
      simp (disch := first | omega | assumption | decide | (simp (disch := omega) only [iI_lit, iJ_lit, iJ_eq, iI_eq, bI_01, bI_01I] <;> omega)) only [c_Dm_must, e_Dm_must_0, e_Dm_must_1, e_Dm_must_4, e_Dm_must_5, e_Dm_must_8, e_Dm_must_9, e_Dm_must_12, e_Dm_must_13, e_Dm_must_16, e_Dm_must_17, e_Dm_must_18, e_Dm_must_21, e_Dm_must_22, e_Dm_must_23, e_Dm_must_26, e_Dm_must_29, e_Dm_must_30, e_Dm_must_33, bd_some, bd_none, Option.toList_some, Option.toList_none, List.nil_append, List.cons_append, px_kill_int, px_kill_long, px_kill_ref, px_kill_null, iI_lit, iJ_lit, iI_add, iI_sub, iI_mul, iI_neg, iJ_add, iJ_sub, iJ_mul, iJ_neg, iI_lt, iI_le, iI_eq, iJ_lt, iJ_le, iJ_eq, iI_div, iJ_div, tdiv_tmod, iI_J, iJ_I, iI_ix, iI_toInt, iJ_toInt, cmp_ge, cmp_lt, cmp_eq, cmp_gt, cmp_le, cmp_geI, cmp_ltI, cmp_eqI, cmp_gtI, cmp_leI, bI_0I, bI_1I, pin, if_true, h1, e1, cc, if_false, e2]
def tkD (t : TP) (md : MD) (c : Int) : MD := match md with
  | .inl e => .inl e
  | .inr a => if sg t (SK t a) = c then .inr (SK t a + 1) else .inr (SK t a)
def tkB (t : TP) (md : MD) (c : Int) : Int := match md with
  | .inl _ => 0
  | .inr a => if sg t (SK t a) = c then 1 else 0
set_option maxHeartbeats 1000000 in
theorem m_takes {T : TS} {t : TP} (ht : okTp t) (hT : hTm T t) {md : MD} (h : hMd T t md) {c : Int} (hc : 0 ≤ c ∧ c ≤ 255) : ∃ T', cl k_Dm_takes [.ref 53, .int (iI c)] (enc T) = some (some (.int (iI (tkB t md c))), enc T') ∧ FrI aAw T T' ∧ hMd T' t (tkD t md c) := by
  have hl := ht.1
  cases md with
  | inl e =>
    obtain ⟨h1, h2, a, h3, h4⟩ := id h
    have ne : ¬ (e : Int) = -1 := by omega
    refine ⟨sI T 53 3 (iI (a : Int)), ?_, (FrI.rf aAw T).wr _ ⟨rfl, by omega⟩, ?_, h2, a, h3, ?_⟩
    · show cl k_Dm_takes [.ref 53, .int (iI c)] (enc T) = some (some (.int (iI 0)), _)
      simp (disch := first | omega | assumption | decide | (simp (disch := omega) only [iI_lit, iJ_lit, iJ_eq, iI_eq, bI_01, bI_01I] <;> omega)) only [c_Dm_takes, e_Dm_takes_0, e_Dm_takes_1, e_Dm_takes_4, e_Dm_takes_5, e_Dm_takes_8, e_Dm_takes_9, e_Dm_takes_12, e_Dm_takes_13, e_Dm_takes_16, e_Dm_takes_17, e_Dm_takes_20, e_Dm_takes_21, e_Dm_takes_22, e_Dm_takes_23, e_Dm_takes_24, e_Dm_takes_27, e_Dm_takes_28, e_Dm_takes_31, e_Dm_takes_32, e_Dm_takes_35, e_Dm_takes_36, e_Dm_takes_37, e_Dm_takes_40, e_Dm_takes_41, bd_some, bd_none, Option.toList_some, Option.toList_none, List.nil_append, List.cons_append, px_kill_int, px_kill_long, px_kill_ref, px_kill_null, iI_lit, iJ_lit, iI_add, iI_sub, iI_mul, iI_neg, iJ_add, iJ_sub, iJ_mul, iJ_neg, iI_lt, iI_le, iI_eq, iJ_lt, iJ_le, iJ_eq, iI_div, iJ_div, tdiv_tmod, iI_J, iJ_I, iI_ix, iI_toInt, iJ_toInt, cmp_ge, cmp_lt, cmp_eq, cmp_gt, cmp_le, cmp_geI, cmp_ltI, cmp_eqI, cmp_gtI, cmp_leI, bI_0I, bI_1I, pin, if_true, h1, ne, if_false, h4, Int.add_zero]
    · simp only [sI_get, sJ_get, sI_2, sJ_1, sJ_22, sR_1, sR_21, Nat.reduceEqDiff, and_true, true_and, and_false, false_and, and_self, if_true, if_false, reduceIte]; exact h1
    · simp only [sI_get, sJ_get, sI_2, sJ_1, sJ_22, sR_1, sR_21, Nat.reduceEqDiff, and_true, true_and, and_false, false_and, and_self, if_true, if_false, reduceIte]
  | inr a =>
    obtain ⟨h1, h2, h3⟩ := h
    obtain ⟨T1, e1, f1, g1⟩ := m_ahead ht a T hT h2 h3
    have hs := SK_le ht a
    have bs := sg_bd ht (SK t a)
    have hW1 : T1.1 53 4 = iI (-1) := by rw [f1.1 _ _ (by omega)]; exact h1
    unfold tkD tkB
    simp only
    by_cases cc : sg t (SK t a) = c
    · rw [if_pos cc, if_pos cc]
      have hlt := sg_lt (t := t) (k := SK t a) (by omega)
      rw [cc] at e1
      refine ⟨sI T1 53 3 (iI (((SK t a : Nat) : Int) + 1)), ?_, (f3_aw f1).wr _ ⟨rfl, by omega⟩, ?_, by omega, ?_⟩
      · simp (disch := first | omega | assumption | decide | (simp (disch := omega) only [iI_lit, iJ_lit, iJ_eq, iI_eq, bI_01, bI_01I] <;> omega)) only [c_Dm_takes, e_Dm_takes_0, e_Dm_takes_1, e_Dm_takes_4, e_Dm_takes_5, e_Dm_takes_8, e_Dm_takes_9, e_Dm_takes_12, e_Dm_takes_13, e_Dm_takes_16, e_Dm_takes_17, e_Dm_takes_20, e_Dm_takes_21, e_Dm_takes_22, e_Dm_takes_23, e_Dm_takes_24, e_Dm_takes_27, e_Dm_takes_28, e_Dm_takes_31, e_Dm_takes_32, e_Dm_takes_35, e_Dm_takes_36, e_Dm_takes_37, e_Dm_takes_40, e_Dm_takes_41, bd_some, bd_none, Option.toList_some, Option.toList_none, List.nil_append, List.cons_append, px_kill_int, px_kill_long, px_kill_ref, px_kill_null, iI_lit, iJ_lit, iI_add, iI_sub, iI_mul, iI_neg, iJ_add, iJ_sub, iJ_mul, iJ_neg, iI_lt, iI_le, iI_eq, iJ_lt, iJ_le, iJ_eq, iI_div, iJ_div, tdiv_tmod, iI_J, iJ_I, iI_ix, iI_toInt, iJ_toInt, cmp_ge, cmp_lt, cmp_eq, cmp_gt, cmp_le, cmp_geI, cmp_ltI, cmp_eqI, cmp_gtI, cmp_leI, bI_0I, bI_1I, pin, if_true, h1, e1, g1, one0, if_false]
      · simp only [sI_get, sJ_get, sI_2, sJ_1, sJ_22, sR_1, sR_21, Nat.reduceEqDiff, and_true, true_and, and_false, false_and, and_self, if_true, if_false, reduceIte]; exact hW1
      · rw [show ((SK t a + 1 : Nat) : Int) = ((SK t a : Nat) : Int) + 1 by omega]; simp only [sI_get, sJ_get, sI_2, sJ_1, sJ_22, sR_1, sR_21, Nat.reduceEqDiff, and_true, true_and, and_false, false_and, and_self, if_true, if_false, reduceIte]
    · rw [if_neg cc, if_neg cc]
      refine ⟨sI T1 53 3 (iI ((SK t a : Nat) : Int)), ?_, (f3_aw f1).wr _ ⟨rfl, by omega⟩, ?_, hs.2 h2, ?_⟩
      · simp (disch := first | omega | assumption | decide | (simp (disch := omega) only [iI_lit, iJ_lit, iJ_eq, iI_eq, bI_01, bI_01I] <;> omega)) only [c_Dm_takes, e_Dm_takes_0, e_Dm_takes_1, e_Dm_takes_4, e_Dm_takes_5, e_Dm_takes_8, e_Dm_takes_9, e_Dm_takes_12, e_Dm_takes_13, e_Dm_takes_16, e_Dm_takes_17, e_Dm_takes_20, e_Dm_takes_21, e_Dm_takes_22, e_Dm_takes_23, e_Dm_takes_24, e_Dm_takes_27, e_Dm_takes_28, e_Dm_takes_31, e_Dm_takes_32, e_Dm_takes_35, e_Dm_takes_36, e_Dm_takes_37, e_Dm_takes_40, e_Dm_takes_41, bd_some, bd_none, Option.toList_some, Option.toList_none, List.nil_append, List.cons_append, px_kill_int, px_kill_long, px_kill_ref, px_kill_null, iI_lit, iJ_lit, iI_add, iI_sub, iI_mul, iI_neg, iJ_add, iJ_sub, iJ_mul, iJ_neg, iI_lt, iI_le, iI_eq, iJ_lt, iJ_le, iJ_eq, iI_div, iJ_div, tdiv_tmod, iI_J, iJ_I, iI_ix, iI_toInt, iJ_toInt, cmp_ge, cmp_lt, cmp_eq, cmp_gt, cmp_le, cmp_geI, cmp_ltI, cmp_eqI, cmp_gtI, cmp_leI, bI_0I, bI_1I, pin, if_true, h1, e1, g1, cc, if_false, Int.add_zero]
      · simp only [sI_get, sJ_get, sI_2, sJ_1, sJ_22, sR_1, sR_21, Nat.reduceEqDiff, and_true, true_and, and_false, false_and, and_self, if_true, if_false, reduceIte]; exact hW1
      · simp only [sI_get, sJ_get, sI_2, sJ_1, sJ_22, sR_1, sR_21, Nat.reduceEqDiff, and_true, true_and, and_false, false_and, and_self, if_true, if_false, reduceIte]
theorem m_isDigit {c : Int} (hc : -1 ≤ c ∧ c ≤ 255) (g : px_G) : cl k_Dm_isDigit [.int (iI c)] g = some (some (.int (bI (dg c))), g) := by
  by_cases c1 : c < 48
  · rw [bI_fI (c := dg c) (fun z => by omega)]
    simp (disch := first | omega | assumption | decide | (simp (disch := omega) only [iI_lit, iJ_lit, iJ_eq, iI_eq, bI_01, bI_01I] <;> omega)) only [c_Dm_isDigit, e_Dm_isDigit_0, e_Dm_isDigit_1, e_Dm_isDigit_3, e_Dm_isDigit_6, e_Dm_isDigit_7, e_Dm_isDigit_9, e_Dm_isDigit_12, e_Dm_isDigit_13, e_Dm_isDigit_16, e_Dm_isDigit_17, bd_some, bd_none, Option.toList_some, Option.toList_none, List.nil_append, List.cons_append, px_kill_int, px_kill_long, px_kill_ref, px_kill_null, iI_lit, iJ_lit, iI_add, iI_sub, iI_mul, iI_neg, iJ_add, iJ_sub, iJ_mul, iJ_neg, iI_lt, iI_le, iI_eq, iJ_lt, iJ_le, iJ_eq, iI_div, iJ_div, tdiv_tmod, iI_J, iJ_I, iI_ix, iI_toInt, iJ_toInt, cmp_ge, cmp_lt, cmp_eq, cmp_gt, cmp_le, cmp_geI, cmp_ltI, cmp_eqI, cmp_gtI, cmp_leI, bI_0I, bI_1I, pin, if_true, c1]
  · by_cases c2 : 57 < c
    · rw [bI_fI (c := dg c) (fun z => by omega)]
      simp (disch := first | omega | assumption | decide | (simp (disch := omega) only [iI_lit, iJ_lit, iJ_eq, iI_eq, bI_01, bI_01I] <;> omega)) only [c_Dm_isDigit, e_Dm_isDigit_0, e_Dm_isDigit_1, e_Dm_isDigit_3, e_Dm_isDigit_6, e_Dm_isDigit_7, e_Dm_isDigit_9, e_Dm_isDigit_12, e_Dm_isDigit_13, e_Dm_isDigit_16, e_Dm_isDigit_17, bd_some, bd_none, Option.toList_some, Option.toList_none, List.nil_append, List.cons_append, px_kill_int, px_kill_long, px_kill_ref, px_kill_null, iI_lit, iJ_lit, iI_add, iI_sub, iI_mul, iI_neg, iJ_add, iJ_sub, iJ_mul, iJ_neg, iI_lt, iI_le, iI_eq, iJ_lt, iJ_le, iJ_eq, iI_div, iJ_div, tdiv_tmod, iI_J, iJ_I, iI_ix, iI_toInt, iJ_toInt, cmp_ge, cmp_lt, cmp_eq, cmp_gt, cmp_le, cmp_geI, cmp_ltI, cmp_eqI, cmp_gtI, cmp_leI, bI_0I, bI_1I, pin, if_true, c1, c2, if_false]
    · rw [bI_tI (c := dg c) (by omega)]
      simp (disch := first | omega | assumption | decide | (simp (disch := omega) only [iI_lit, iJ_lit, iJ_eq, iI_eq, bI_01, bI_01I] <;> omega)) only [c_Dm_isDigit, e_Dm_isDigit_0, e_Dm_isDigit_1, e_Dm_isDigit_3, e_Dm_isDigit_6, e_Dm_isDigit_7, e_Dm_isDigit_9, e_Dm_isDigit_12, e_Dm_isDigit_13, e_Dm_isDigit_16, e_Dm_isDigit_17, bd_some, bd_none, Option.toList_some, Option.toList_none, List.nil_append, List.cons_append, px_kill_int, px_kill_long, px_kill_ref, px_kill_null, iI_lit, iJ_lit, iI_add, iI_sub, iI_mul, iI_neg, iJ_add, iJ_sub, iJ_mul, iJ_neg, iI_lt, iI_le, iI_eq, iJ_lt, iJ_le, iJ_eq, iI_div, iJ_div, tdiv_tmod, iI_J, iJ_I, iI_ix, iI_toInt, iJ_toInt, cmp_ge, cmp_lt, cmp_eq, cmp_gt, cmp_le, cmp_geI, cmp_ltI, cmp_eqI, cmp_gtI, cmp_leI, bI_0I, bI_1I, pin, if_true, c1, c2, if_false]
set_option maxHeartbeats 2000000 in
theorem lp_mdig {t : TP} (ht : okTp t) {dm : Nat} (hdm : dm ≤ 3) (lo hi b : Int32) : ∀ (n k d : Nat) (v : Int) (T : TS), d + n = dm → hTm T t → k ≤ t.1 → T.1 53 3 = iI (k : Int) → 0 ≤ v → v + 1 ≤ (10 : Int) ^ d → ∃ (T' : TS) (d' : Nat) (x : Int × Nat), rn k_Dm_digits 30 [.ref 53, .int (iI (dm : Int)), .int lo, .int hi, .int b, .int (iI v), .int (iI (d : Int))] [] (enc T) = rn k_Dm_digits 77 [.ref 53, .int (iI (dm : Int)), .int lo, .int hi, .int b, .int (iI x.1), .int (iI (d' : Int))] [] (enc T') ∧ FrI (fun q k => q = 53 ∧ k = 3) T T' ∧ T'.1 53 3 = iI (x.2 : Int) ∧ x.2 ≤ t.1 ∧ d' ≤ dm ∧ 0 ≤ x.1 ∧ x.1 + 1 ≤ (10 : Int) ^ d' ∧ pD t n k v = if dg (sg t x.2) then .inl x.2 else .inr x := by
  intro n
  induction n with
  | zero =>
    intro k d v T hd hT hk hA h0 h1
    have ed : (d : Int) = (dm : Int) := by omega
    refine ⟨T, d, (v, k), ?_, FrI.rf _ _, hA, hk, by omega, h0, h1, pD_0 t k v⟩
    rw [e_Dm_digits_30, ed]
    simp (disch := first | omega | assumption | decide | (simp (disch := omega) only [iI_lit, iJ_lit, iJ_eq, iI_eq, bI_01, bI_01I] <;> omega)) only [e_Dm_digits_32, e_Dm_digits_33, e_Dm_digits_36, e_Dm_digits_37, e_Dm_digits_40, e_Dm_digits_43, e_Dm_digits_46, e_Dm_digits_48, e_Dm_digits_50, e_Dm_digits_51, e_Dm_digits_52, e_Dm_digits_55, e_Dm_digits_56, e_Dm_digits_58, e_Dm_digits_59, e_Dm_digits_61, e_Dm_digits_62, e_Dm_digits_63, e_Dm_digits_66, e_Dm_digits_67, e_Dm_digits_68, e_Dm_digits_71, e_Dm_digits_74, bd_some, bd_none, Option.toList_some, Option.toList_none, List.nil_append, List.cons_append, px_kill_int, px_kill_long, px_kill_ref, px_kill_null, iI_lit, iJ_lit, iI_add, iI_sub, iI_mul, iI_neg, iJ_add, iJ_sub, iJ_mul, iJ_neg, iI_lt, iI_le, iI_eq, iJ_lt, iJ_le, iJ_eq, iI_div, iJ_div, tdiv_tmod, iI_J, iJ_I, iI_ix, iI_toInt, iJ_toInt, cmp_ge, cmp_lt, cmp_eq, cmp_gt, cmp_le, cmp_geI, cmp_ltI, cmp_eqI, cmp_gtI, cmp_leI, bI_0I, bI_1I, pin, if_true, Int.le_refl]
  | succ n ih =>
    intro k d v T hd hT hk hA h0 h1
    have nd : ¬ (dm : Int) ≤ (d : Int) := by omega
    have bs := sg_bd ht k
    have eh := m_here ht hT hk hA
    have ei := m_isDigit bs (enc T)
    have p10 := pow10 (d := d) (by omega)
    have p11 : (10 : Int) ^ (d + 1) = (10 : Int) ^ d * 10 := by rw [Int.pow_succ]
    rw [pD_s]
    by_cases c : dg (sg t k)
    · rw [bI_tI c] at ei
      rw [if_pos c]
      have hkt := sg_lt (t := t) (k := k) (by omega)
      have hl := ht.1
      have f1 : FrI (fun q k => q = 53 ∧ k = 3) T (sI T 53 3 (iI ((k : Int) + 1))) := (FrI.rf _ T).wr _ ⟨rfl, rfl⟩
      obtain ⟨T', d', x, e2, f2, g2, g3, g4, g5, g6, g7⟩ := ih (k + 1) (d + 1) (10 * v + sg t k - 48) (sI T 53 3 (iI ((k : Int) + 1))) (by omega) (hT.fr f1 (fun q k z => by omega)) (by omega) (by rw [show ((k + 1 : Nat) : Int) = (k : Int) + 1 by omega]; simp only [sI_get, sJ_get, sI_2, sJ_1, sJ_22, sR_1, sR_21, Nat.reduceEqDiff, and_true, true_and, and_false, false_and, and_self, if_true, if_false, reduceIte]) (by omega) (by rw [p11]; omega)
      refine ⟨T', d', x, ?_, f1.tr f2, g2, g3, g4, g5, g6, g7⟩
      refine Eq.trans ?_ e2
      rw [show ((d + 1 : Nat) : Int) = (d : Int) + 1 by omega, e_Dm_digits_30]
      simp (disch := first | omega | assumption | decide | (simp (disch := omega) only [iI_lit, iJ_lit, iJ_eq, iI_eq, bI_01, bI_01I] <;> omega)) only [e_Dm_digits_32, e_Dm_digits_33, e_Dm_digits_36, e_Dm_digits_37, e_Dm_digits_40, e_Dm_digits_43, e_Dm_digits_46, e_Dm_digits_48, e_Dm_digits_50, e_Dm_digits_51, e_Dm_digits_52, e_Dm_digits_55, e_Dm_digits_56, e_Dm_digits_58, e_Dm_digits_59, e_Dm_digits_61, e_Dm_digits_62, e_Dm_digits_63, e_Dm_digits_66, e_Dm_digits_67, e_Dm_digits_68, e_Dm_digits_71, e_Dm_digits_74, bd_some, bd_none, Option.toList_some, Option.toList_none, List.nil_append, List.cons_append, px_kill_int, px_kill_long, px_kill_ref, px_kill_null, iI_lit, iJ_lit, iI_add, iI_sub, iI_mul, iI_neg, iJ_add, iJ_sub, iJ_mul, iJ_neg, iI_lt, iI_le, iI_eq, iJ_lt, iJ_le, iJ_eq, iI_div, iJ_div, tdiv_tmod, iI_J, iJ_I, iI_ix, iI_toInt, iJ_toInt, cmp_ge, cmp_lt, cmp_eq, cmp_gt, cmp_le, cmp_geI, cmp_ltI, cmp_eqI, cmp_gtI, cmp_leI, bI_0I, bI_1I, pin, if_true, nd, if_false, eh, ei, one0, hA]
    · rw [bI_fI c] at ei
      rw [if_neg c]
      refine ⟨T, d, (v, k), ?_, FrI.rf _ _, hA, hk, by omega, h0, h1, by rw [if_neg c]⟩
      rw [e_Dm_digits_30]
      simp (disch := first | omega | assumption | decide | (simp (disch := omega) only [iI_lit, iJ_lit, iJ_eq, iI_eq, bI_01, bI_01I] <;> omega)) only [e_Dm_digits_32, e_Dm_digits_33, e_Dm_digits_36, e_Dm_digits_37, e_Dm_digits_40, e_Dm_digits_43, e_Dm_digits_46, e_Dm_digits_48, e_Dm_digits_50, e_Dm_digits_51, e_Dm_digits_52, e_Dm_digits_55, e_Dm_digits_56, e_Dm_digits_58, e_Dm_digits_59, e_Dm_digits_61, e_Dm_digits_62, e_Dm_digits_63, e_Dm_digits_66, e_Dm_digits_67, e_Dm_digits_68, e_Dm_digits_71, e_Dm_digits_74, bd_some, bd_none, Option.toList_some, Option.toList_none, List.nil_append, List.cons_append, px_kill_int, px_kill_long, px_kill_ref, px_kill_null, iI_lit, iJ_lit, iI_add, iI_sub, iI_mul, iI_neg, iJ_add, iJ_sub, iJ_mul, iJ_neg, iI_lt, iI_le, iI_eq, iJ_lt, iJ_le, iJ_eq, iI_div, iJ_div, tdiv_tmod, iI_J, iJ_I, iI_ix, iI_toInt, iJ_toInt, cmp_ge, cmp_lt, cmp_eq, cmp_gt, cmp_le, cmp_geI, cmp_ltI, cmp_eqI, cmp_gtI, cmp_leI, bI_0I, bI_1I, pin, if_true, nd, if_false, eh, ei]
/-- digits from k on -/
def dgD (t : TP) (k : Nat) (hi : Int) (dm : Nat) : Nat ⊕ (Int × Nat) := if dg (sg t k) then (match pD t dm k 0 with
  | .inl e => .inl e
  | .inr x => if hi < x.1 then .inl (x.2 - 1) else .inr x) else .inl k
def mdO (r : Nat ⊕ (Int × Nat)) : MD := match r with
  | .inl e => .inl e
  | .inr x => .inr x.2
set_option maxHeartbeats 4000000 in
theorem m_digits {T : TS} {t : TP} (ht : okTp t) (hT : hTm T t) {a : Nat} (h : hMd T t (.inr a)) {dm : Nat} (hdm : 0 < dm ∧ dm ≤ 3) {lo hi b : Int} (hb : (b = 0 ∧ lo ≤ 0) ∨ (b = 1 ∧ lo = -hi)) (hlo : -100 ≤ lo ∧ lo ≤ 0) (hhi : 0 ≤ hi ∧ hi ≤ 100) : ∃ (T' : TS) (v : Int32), cl k_Dm_digits [.ref 53, .int (iI (dm : Int)), .int (iI lo), .int (iI hi), .int (iI b)] (enc T) = some (some (.int v), enc T') ∧ FrI aAw T T' ∧ hMd T' t (mdO (dgD t a hi dm)) ∧ ∀ x, dgD t a hi dm = .inr x → v = iI (if b = 1 then -x.1 else x.1) := by
  obtain ⟨h1, h2, h3⟩ := h
  have hl := ht.1
  have bs := sg_bd ht a
  have eh := m_here ht hT h2 h3
  have ei := m_isDigit bs (enc T)
  unfold dgD
  by_cases c : dg (sg t a)
  case neg =>
    rw [bI_fI c] at ei
    rw [if_neg c]
    obtain ⟨T1, e1, f1, g1⟩ := m_bad1 (T := T) (t := t) (a := a) h2 hl h1 h3
    refine ⟨T1, iI 0, ?_, f1, g1, fun x hx => by cases hx⟩
    simp (disch := first | omega | assumption | decide | (simp (disch := omega) only [iI_lit, iJ_lit, iJ_eq, iI_eq, bI_01, bI_01I] <;> omega)) only [c_Dm_digits, e_Dm_digits_0, e_Dm_digits_1, e_Dm_digits_4, e_Dm_digits_5, e_Dm_digits_8, e_Dm_digits_9, e_Dm_digits_12, e_Dm_digits_15, e_Dm_digits_18, e_Dm_digits_19, e_Dm_digits_22, e_Dm_digits_23, e_Dm_digits_24, e_Dm_digits_25, e_Dm_digits_27, e_Dm_digits_28, bd_some, bd_none, Option.toList_some, Option.toList_none, List.nil_append, List.cons_append, px_kill_int, px_kill_long, px_kill_ref, px_kill_null, iI_lit, iJ_lit, iI_add, iI_sub, iI_mul, iI_neg, iJ_add, iJ_sub, iJ_mul, iJ_neg, iI_lt, iI_le, iI_eq, iJ_lt, iJ_le, iJ_eq, iI_div, iJ_div, tdiv_tmod, iI_J, iJ_I, iI_ix, iI_toInt, iJ_toInt, cmp_ge, cmp_lt, cmp_eq, cmp_gt, cmp_le, cmp_geI, cmp_ltI, cmp_eqI, cmp_gtI, cmp_leI, bI_0I, bI_1I, pin, if_true, h1, eh, ei, e1]
  rw [bI_tI c] at ei
  rw [if_pos c]
  obtain ⟨T1, d', x, e1, f1, g1, g2, g3, g4, g5, g6⟩ := lp_mdig ht hdm.2 (iI lo) (iI hi) (iI b) dm a 0 0 T (by omega) hT h2 h3 (by omega) (by show (0 : Int) + 1 ≤ 1; omega)
  have p10 := pow10 (d := d') (by omega)
  have pre : cl k_Dm_digits [.ref 53, .int (iI (dm : Int)), .int (iI lo), .int (iI hi), .int (iI b)] (enc T) = rn k_Dm_digits 77 [.ref 53, .int (iI (dm : Int)), .int (iI lo), .int (iI hi), .int (iI b), .int (iI x.1), .int (iI (d' : Int))] [] (enc T1) := by
    simp (disch := first | omega | assumption | decide | (simp (disch := omega) only [iI_lit, iJ_lit, iJ_eq, iI_eq, bI_01, bI_01I] <;> omega)) only [c_Dm_digits, e_Dm_digits_0, e_Dm_digits_1, e_Dm_digits_4, e_Dm_digits_5, e_Dm_digits_8, e_Dm_digits_9, e_Dm_digits_12, e_Dm_digits_15, e_Dm_digits_18, e_Dm_digits_19, e_Dm_digits_22, e_Dm_digits_23, e_Dm_digits_24, e_Dm_digits_25, e_Dm_digits_27, e_Dm_digits_28, bd_some, bd_none, Option.toList_some, Option.toList_none, List.nil_append, List.cons_append, px_kill_int, px_kill_long, px_kill_ref, px_kill_null, iI_lit, iJ_lit, iI_add, iI_sub, iI_mul, iI_neg, iJ_add, iJ_sub, iJ_mul, iJ_neg, iI_lt, iI_le, iI_eq, iJ_lt, iJ_le, iJ_eq, iI_div, iJ_div, tdiv_tmod, iI_J, iJ_I, iI_ix, iI_toInt, iJ_toInt, cmp_ge, cmp_lt, cmp_eq, cmp_gt, cmp_le, cmp_geI, cmp_ltI, cmp_eqI, cmp_gtI, cmp_leI, bI_0I, bI_1I, pin, if_true, h1, eh, ei, one0, if_false]
    exact e1
  have hW1 : T1.1 53 4 = iI (-1) := by rw [f1.1 _ _ (by omega)]; exact h1
  have hT1 := hT.fr f1 (fun q k z => by omega)
  have bs2 := sg_bd ht x.2
  have eh2 := m_here ht hT1 g2 g1
  have ei2 := m_isDigit bs2 (enc T1)
  obtain ⟨w, hw⟩ : ∃ w : Int, w = if b = 1 then -x.1 else x.1 := ⟨_, rfl⟩
  have bw : -1000 ≤ w ∧ w ≤ 1000 := by rw [hw]; split <;> omega
  have pre2 : rn k_Dm_digits 77 [.ref 53, .int (iI (dm : Int)), .int (iI lo), .int (iI hi), .int (iI b), .int (iI x.1), .int (iI (d' : Int))] [] (enc T1) = rn k_Dm_digits 92 [.ref 53, .int (iI (dm : Int)), .int (iI lo), .int (iI hi), .int (iI b), .int (iI w), .int (iI (d' : Int))] [] (enc T1) := by
    rcases hb with hb | hb
    · rw [hb.1] at hw ⊢
      have ew : w = x.1 := by rw [hw]; exact if_neg (by omega)
      rw [ew]
      simp (disch := first | omega | assumption | decide | (simp (disch := omega) only [iI_lit, iJ_lit, iJ_eq, iI_eq, bI_01, bI_01I] <;> omega)) only [e_Dm_digits_77, e_Dm_digits_79, e_Dm_digits_82, e_Dm_digits_84, e_Dm_digits_85, e_Dm_digits_88, e_Dm_digits_90, bd_some, bd_none, Option.toList_some, Option.toList_none, List.nil_append, List.cons_append, px_kill_int, px_kill_long, px_kill_ref, px_kill_null, iI_lit, iJ_lit, iI_add, iI_sub, iI_mul, iI_neg, iJ_add, iJ_sub, iJ_mul, iJ_neg, iI_lt, iI_le, iI_eq, iJ_lt, iJ_le, iJ_eq, iI_div, iJ_div, tdiv_tmod, iI_J, iJ_I, iI_ix, iI_toInt, iJ_toInt, cmp_ge, cmp_lt, cmp_eq, cmp_gt, cmp_le, cmp_geI, cmp_ltI, cmp_eqI, cmp_gtI, cmp_leI, bI_0I, bI_1I, pin, if_true]
    · rw [hb.1] at hw ⊢
      have ew : w = -x.1 := by rw [hw]; exact if_pos rfl
      rw [ew]
      simp (disch := first | omega | assumption | decide | (simp (disch := omega) only [iI_lit, iJ_lit, iJ_eq, iI_eq, bI_01, bI_01I] <;> omega)) only [e_Dm_digits_77, e_Dm_digits_79, e_Dm_digits_82, e_Dm_digits_84, e_Dm_digits_85, e_Dm_digits_88, e_Dm_digits_90, bd_some, bd_none, Option.toList_some, Option.toList_none, List.nil_append, List.cons_append, px_kill_int, px_kill_long, px_kill_ref, px_kill_null, iI_lit, iJ_lit, iI_add, iI_sub, iI_mul, iI_neg, iJ_add, iJ_sub, iJ_mul, iJ_neg, iI_lt, iI_le, iI_eq, iJ_lt, iJ_le, iJ_eq, iI_div, iJ_div, tdiv_tmod, iI_J, iJ_I, iI_ix, iI_toInt, iJ_toInt, cmp_ge, cmp_lt, cmp_eq, cmp_gt, cmp_le, cmp_geI, cmp_ltI, cmp_eqI, cmp_gtI, cmp_leI, bI_0I, bI_1I, pin, if_true, one0, if_false]
  rw [g6]
  by_cases cd : dg (sg t x.2)
  · rw [bI_tI cd] at ei2
    rw [if_pos cd]
    obtain ⟨T2, e2, f2, g7⟩ := m_bad1 (T := T1) (t := t) (a := x.2) g2 hl hW1 g1
    refine ⟨T2, iI w, ?_, (f3_aw f1).tr f2, g7, fun y hy => by cases hy⟩
    rw [pre, pre2]
    simp (disch := first | omega | assumption | decide | (simp (disch := omega) only [iI_lit, iJ_lit, iJ_eq, iI_eq, bI_01, bI_01I] <;> omega)) only [e_Dm_digits_92, e_Dm_digits_93, e_Dm_digits_96, e_Dm_digits_99, e_Dm_digits_102, e_Dm_digits_103, e_Dm_digits_106, e_Dm_digits_109, e_Dm_digits_111, e_Dm_digits_112, e_Dm_digits_113, e_Dm_digits_114, e_Dm_digits_115, e_Dm_digits_116, e_Dm_digits_119, e_Dm_digits_122, e_Dm_digits_123, e_Dm_digits_124, e_Dm_digits_127, e_Dm_digits_128, e_Dm_digits_129, e_Dm_digits_132, e_Dm_digits_133, e_Dm_digits_136, e_Dm_digits_138, bd_some, bd_none, Option.toList_some, Option.toList_none, List.nil_append, List.cons_append, px_kill_int, px_kill_long, px_kill_ref, px_kill_null, iI_lit, iJ_lit, iI_add, iI_sub, iI_mul, iI_neg, iJ_add, iJ_sub, iJ_mul, iJ_neg, iI_lt, iI_le, iI_eq, iJ_lt, iJ_le, iJ_eq, iI_div, iJ_div, tdiv_tmod, iI_J, iJ_I, iI_ix, iI_toInt, iJ_toInt, cmp_ge, cmp_lt, cmp_eq, cmp_gt, cmp_le, cmp_geI, cmp_ltI, cmp_eqI, cmp_gtI, cmp_leI, bI_0I, bI_1I, pin, if_true, eh2, ei2, one0, if_false, e2]
  · rw [bI_fI cd] at ei2
    rw [if_neg cd]
    simp only
    have gi := s_in (x := w) (l := lo) (h := hi) (enc T1) (by omega) (by omega) (by omega)
    rw [bI_iff (q := x.1 ≤ hi) (by rw [hw]; rcases hb with hb | hb <;> rw [hb.1] <;> simp <;> omega)] at gi
    by_cases cm : hi < x.1
    · rw [bI_fI (c := x.1 ≤ hi) (by omega)] at gi
      rw [if_pos cm]
      -- the last digit
      have hpos : 0 < x.2 := by
        have := (pD_bd ht dm a 0 (by omega)).2 x (by rw [g6, if_neg cd])
        have := this.2.2.2 c hdm.1
        omega
      have ex : (x.2 : Int) - 1 = ((x.2 - 1 : Nat) : Int) := by omega
      obtain ⟨T2, e2, f2, g7⟩ := m_bad1 (T := sI T1 53 3 (iI ((x.2 - 1 : Nat) : Int))) (t := t) (a := x.2 - 1) (by omega) hl (by simp only [sI_get, sJ_get, sI_2, sJ_1, sJ_22, sR_1, sR_21, Nat.reduceEqDiff, and_true, true_and, and_false, false_and, and_self, if_true, if_false, reduceIte]; exact hW1) (by simp only [sI_get, sJ_get, sI_2, sJ_1, sJ_22, sR_1, sR_21, Nat.reduceEqDiff, and_true, true_and, and_false, false_and, and_self, if_true, if_false, reduceIte])
      refine ⟨T2, iI w, ?_, ((f3_aw f1).wr _ ⟨rfl, by omega⟩).tr f2, g7, fun y hy => by cases hy⟩
      rw [pre, pre2]
      simp (disch := first | omega | assumption | decide | (simp (disch := omega) only [iI_lit, iJ_lit, iJ_eq, iI_eq, bI_01, bI_01I] <;> omega)) only [e_Dm_digits_92, e_Dm_digits_93, e_Dm_digits_96, e_Dm_digits_99, e_Dm_digits_102, e_Dm_digits_103, e_Dm_digits_106, e_Dm_digits_109, e_Dm_digits_111, e_Dm_digits_112, e_Dm_digits_113, e_Dm_digits_114, e_Dm_digits_115, e_Dm_digits_116, e_Dm_digits_119, e_Dm_digits_122, e_Dm_digits_123, e_Dm_digits_124, e_Dm_digits_127, e_Dm_digits_128, e_Dm_digits_129, e_Dm_digits_132, e_Dm_digits_133, e_Dm_digits_136, e_Dm_digits_138, bd_some, bd_none, Option.toList_some, Option.toList_none, List.nil_append, List.cons_append, px_kill_int, px_kill_long, px_kill_ref, px_kill_null, iI_lit, iJ_lit, iI_add, iI_sub, iI_mul, iI_neg, iJ_add, iJ_sub, iJ_mul, iJ_neg, iI_lt, iI_le, iI_eq, iJ_lt, iJ_le, iJ_eq, iI_div, iJ_div, tdiv_tmod, iI_J, iJ_I, iI_ix, iI_toInt, iJ_toInt, cmp_ge, cmp_lt, cmp_eq, cmp_gt, cmp_le, cmp_geI, cmp_ltI, cmp_eqI, cmp_gtI, cmp_leI, bI_0I, bI_1I, pin, if_true, eh2, ei2, gi, g1, ex, e2]
    · rw [bI_tI (c := x.1 ≤ hi) (by omega)] at gi
      rw [if_neg cm]
      refine ⟨T1, iI w, ?_, f3_aw f1, ⟨hW1, g2, g1⟩, fun y hy => ?_⟩
      · rw [pre, pre2]
        simp (disch := first | omega | assumption | decide | (simp (disch := omega) only [iI_lit, iJ_lit, iJ_eq, iI_eq, bI_01, bI_01I] <;> omega)) only [e_Dm_digits_92, e_Dm_digits_93, e_Dm_digits_96, e_Dm_digits_99, e_Dm_digits_102, e_Dm_digits_103, e_Dm_digits_106, e_Dm_digits_109, e_Dm_digits_111, e_Dm_digits_112, e_Dm_digits_113, e_Dm_digits_114, e_Dm_digits_115, e_Dm_digits_116, e_Dm_digits_119, e_Dm_digits_122, e_Dm_digits_123, e_Dm_digits_124, e_Dm_digits_127, e_Dm_digits_128, e_Dm_digits_129, e_Dm_digits_132, e_Dm_digits_133, e_Dm_digits_136, e_Dm_digits_138, bd_some, bd_none, Option.toList_some, Option.toList_none, List.nil_append, List.cons_append, px_kill_int, px_kill_long, px_kill_ref, px_kill_null, iI_lit, iJ_lit, iI_add, iI_sub, iI_mul, iI_neg, iJ_add, iJ_sub, iJ_mul, iJ_neg, iI_lt, iI_le, iI_eq, iJ_lt, iJ_le, iJ_eq, iI_div, iJ_div, tdiv_tmod, iI_J, iJ_I, iI_ix, iI_toInt, iJ_toInt, cmp_ge, cmp_lt, cmp_eq, cmp_gt, cmp_le, cmp_geI, cmp_ltI, cmp_eqI, cmp_gtI, cmp_leI, bI_0I, bI_1I, pin, if_true, eh2, ei2, gi, one0, if_false]
      · cases hy
        rw [hw]
/-- digits where something is wrong already -/
theorem m_digits0 {T : TS} {t : TP} (ht : okTp t) {e : Nat} (h : hMd T t (.inl e)) (dm lo hi b : Int32) : ∃ T' : TS, cl k_Dm_digits [.ref 53, .int dm, .int lo, .int hi, .int b] (enc T) = some (some (.int (iI 0)), enc T') ∧ FrI aAw T T' ∧ hMd T' t (.inl e) := by
  have hl := ht.1
  obtain ⟨h1, h2, _⟩ := id h
  have ne : ¬ (e : Int) = -1 := by omega
  obtain ⟨T1, e1, f1, g1⟩ := m_bad0 hl h
  refine ⟨T1, ?_, f1, g1⟩
  simp (disch := first | omega | assumption | decide | (simp (disch := omega) only [iI_lit, iJ_lit, iJ_eq, iI_eq, bI_01, bI_01I] <;> omega)) only [c_Dm_digits, e_Dm_digits_0, e_Dm_digits_1, e_Dm_digits_4, e_Dm_digits_5, e_Dm_digits_8, e_Dm_digits_9, e_Dm_digits_12, e_Dm_digits_15, e_Dm_digits_18, e_Dm_digits_19, e_Dm_digits_22, e_Dm_digits_23, e_Dm_digits_24, e_Dm_digits_25, e_Dm_digits_27, e_Dm_digits_28, bd_some, bd_none, Option.toList_some, Option.toList_none, List.nil_append, List.cons_append, px_kill_int, px_kill_long, px_kill_ref, px_kill_null, iI_lit, iJ_lit, iI_add, iI_sub, iI_mul, iI_neg, iJ_add, iJ_sub, iJ_mul, iJ_neg, iI_lt, iI_le, iI_eq, iJ_lt, iJ_le, iJ_eq, iI_div, iJ_div, tdiv_tmod, iI_J, iJ_I, iI_ix, iI_toInt, iJ_toInt, cmp_ge, cmp_lt, cmp_eq, cmp_gt, cmp_le, cmp_geI, cmp_ltI, cmp_eqI, cmp_gtI, cmp_leI, bI_0I, bI_1I, pin, if_true, h1, ne, if_false, e1]
def nuD (t : TP) (md : MD) (most : Int) : Nat ⊕ (Int × Nat) := match md with
  | .inl e => .inl e
  | .inr a => pnum t (SK t a) false most 2
theorem pnum_dg (t : TP) (k : Nat) (most : Int) : pnum t k false most 2 = match dgD t (k1N t k false) most 2 with
  | .inl e => .inl e
  | .inr x => .inr (sgN t k false x.1, x.2) := by
  unfold pnum dgD
  split
  · generalize pD t 2 (k1N t k false) 0 = P
    cases P with
    | inl e => rfl
    | inr x =>
      simp only
      split <;> rfl
  · rfl
set_option maxHeartbeats 2000000 in
theorem m_number {T : TS} {t : TP} (ht : okTp t) (hT : hTm T t) {md : MD} (h : hMd T t md) {most : Int} (hm : 0 ≤ most ∧ most ≤ 100) : ∃ (T' : TS) (v : Int32), cl k_Dm_number [.ref 53, .int (iI most)] (enc T) = some (some (.int v), enc T') ∧ FrI aAw T T' ∧ hMd T' t (mdO (nuD t md most)) ∧ ∀ x, nuD t md most = .inr x → v = iI x.1 := by
  obtain ⟨T1, e1, f1, g1⟩ := m_takes ht hT h (c := 45) (by omega)
  have hT1 := hT.fr f1 (fun q k z => aAw_p z)
  have e22 : ((2 : Nat) : Int) = 2 := rfl
  cases md with
  | inl e =>
    obtain ⟨h1, h2, a, h3, h4⟩ := g1
    obtain ⟨T2, e2, f2, g2⟩ := m_ahead ht a T1 hT1 h3 h4
    have hE2 : hMd T2 t (.inl e) := ⟨by rw [f2.1 _ _ (by omega)]; exact h1, h2, SK t a, (SK_le ht a).2 h3, g2⟩
    obtain ⟨T3, e3, f3, g3⟩ := m_digits0 ht hE2 (iI 2) (iI (-most)) (iI most) (iI 0)
    refine ⟨T3, iI 0, ?_, (f1.tr (f3_aw f2)).tr f3, g3, fun x hx => by cases hx⟩
    have e1' : cl k_Dm_takes [.ref 53, .int (iI 45)] (enc T) = some (some (.int (iI 0)), enc T1) := e1
    simp (disch := first | omega | assumption | decide | (simp (disch := omega) only [iI_lit, iJ_lit, iJ_eq, iI_eq, bI_01, bI_01I] <;> omega)) only [c_Dm_number, e_Dm_number_0, e_Dm_number_1, e_Dm_number_3, e_Dm_number_6, e_Dm_number_7, e_Dm_number_8, e_Dm_number_11, e_Dm_number_12, e_Dm_number_15, e_Dm_number_16, e_Dm_number_17, e_Dm_number_18, e_Dm_number_19, e_Dm_number_20, e_Dm_number_21, e_Dm_number_22, e_Dm_number_25, bd_some, bd_none, Option.toList_some, Option.toList_none, List.nil_append, List.cons_append, px_kill_int, px_kill_long, px_kill_ref, px_kill_null, iI_lit, iJ_lit, iI_add, iI_sub, iI_mul, iI_neg, iJ_add, iJ_sub, iJ_mul, iJ_neg, iI_lt, iI_le, iI_eq, iJ_lt, iJ_le, iJ_eq, iI_div, iJ_div, tdiv_tmod, iI_J, iJ_I, iI_ix, iI_toInt, iJ_toInt, cmp_ge, cmp_lt, cmp_eq, cmp_gt, cmp_le, cmp_geI, cmp_ltI, cmp_eqI, cmp_gtI, cmp_leI, bI_0I, bI_1I, pin, if_true, e1', e2, e3]
  | inr a =>
    have ha := h.2.1
    have hs := SK_le ht a
    unfold nuD
    simp only
    rw [pnum_dg]
    by_cases cc : sg t (SK t a) = 45
    · have hlt := sg_lt (t := t) (k := SK t a) (by omega)
      have ek : k1N t (SK t a) false = SK t a + 1 := if_pos ⟨cc, rfl⟩
      have eb : tkB t (.inr a) 45 = 1 := if_pos cc
      have ed : tkD t (.inr a) 45 = .inr (SK t a + 1) := if_pos cc
      rw [eb] at e1
      rw [ed] at g1
      obtain ⟨T2, v, e2, f2, g2, g3⟩ := m_digits ht hT1 g1 (dm := 2) (by omega) (lo := -most) (hi := most) (b := 1) (Or.inr ⟨rfl, rfl⟩) (by omega) hm
      rw [e22] at e2
      refine ⟨T2, v, ?_, f1.tr f2, ?_, ?_⟩
      · simp (disch := first | omega | assumption | decide | (simp (disch := omega) only [iI_lit, iJ_lit, iJ_eq, iI_eq, bI_01, bI_01I] <;> omega)) only [c_Dm_number, e_Dm_number_0, e_Dm_number_1, e_Dm_number_3, e_Dm_number_6, e_Dm_number_7, e_Dm_number_8, e_Dm_number_11, e_Dm_number_12, e_Dm_number_15, e_Dm_number_16, e_Dm_number_17, e_Dm_number_18, e_Dm_number_19, e_Dm_number_20, e_Dm_number_21, e_Dm_number_22, e_Dm_number_25, bd_some, bd_none, Option.toList_some, Option.toList_none, List.nil_append, List.cons_append, px_kill_int, px_kill_long, px_kill_ref, px_kill_null, iI_lit, iJ_lit, iI_add, iI_sub, iI_mul, iI_neg, iJ_add, iJ_sub, iJ_mul, iJ_neg, iI_lt, iI_le, iI_eq, iJ_lt, iJ_le, iJ_eq, iI_div, iJ_div, tdiv_tmod, iI_J, iJ_I, iI_ix, iI_toInt, iJ_toInt, cmp_ge, cmp_lt, cmp_eq, cmp_gt, cmp_le, cmp_geI, cmp_ltI, cmp_eqI, cmp_gtI, cmp_leI, bI_0I, bI_1I, pin, if_true, e1, one0, if_false, e2]
      · rw [ek]
        generalize dgD t (SK t a + 1) most 2 = P at *
        cases P with
        | inl e => exact g2
        | inr x => exact g2
      · rw [ek]
        generalize dgD t (SK t a + 1) most 2 = P at *
        cases P with
        | inl e => exact fun x hx => by cases hx
        | inr x =>
          intro y hy
          cases hy
          rw [g3 x rfl, if_pos rfl]
          show iI (-x.1) = iI (sgN t (SK t a) false x.1)
          unfold sgN
          rw [if_pos ⟨cc, rfl⟩]
    · have ek : k1N t (SK t a) false = SK t a := if_neg (fun z => cc z.1)
      have eb : tkB t (.inr a) 45 = 0 := if_neg cc
      have ed : tkD t (.inr a) 45 = .inr (SK t a) := if_neg cc
      rw [eb] at e1
      rw [ed] at g1
      obtain ⟨h1, h2, h3⟩ := id g1
      obtain ⟨T2, e2, f2, g2⟩ := m_ahead ht (SK t a) T1 hT1 h2 h3
      rw [SK_SK ht] at e2 g2
      have hM2 : hMd T2 t (.inr (SK t a)) := ⟨by rw [f2.1 _ _ (by omega)]; exact h1, h2, g2⟩
      have hT2 := hT1.fr f2 (fun q k z => by omega)
      obtain ⟨T3, v, e3, f3, g3, g4⟩ := m_digits ht hT2 hM2 (dm := 2) (by omega) (lo := -most) (hi := most) (b := 0) (Or.inl ⟨rfl, by omega⟩) (by omega) hm
      rw [e22] at e3
      refine ⟨T3, v, ?_, (f1.tr (f3_aw f2)).tr f3, ?_, ?_⟩
      · simp (disch := first | omega | assumption | decide | (simp (disch := omega) only [iI_lit, iJ_lit, iJ_eq, iI_eq, bI_01, bI_01I] <;> omega)) only [c_Dm_number, e_Dm_number_0, e_Dm_number_1, e_Dm_number_3, e_Dm_number_6, e_Dm_number_7, e_Dm_number_8, e_Dm_number_11, e_Dm_number_12, e_Dm_number_15, e_Dm_number_16, e_Dm_number_17, e_Dm_number_18, e_Dm_number_19, e_Dm_number_20, e_Dm_number_21, e_Dm_number_22, e_Dm_number_25, bd_some, bd_none, Option.toList_some, Option.toList_none, List.nil_append, List.cons_append, px_kill_int, px_kill_long, px_kill_ref, px_kill_null, iI_lit, iJ_lit, iI_add, iI_sub, iI_mul, iI_neg, iJ_add, iJ_sub, iJ_mul, iJ_neg, iI_lt, iI_le, iI_eq, iJ_lt, iJ_le, iJ_eq, iI_div, iJ_div, tdiv_tmod, iI_J, iJ_I, iI_ix, iI_toInt, iJ_toInt, cmp_ge, cmp_lt, cmp_eq, cmp_gt, cmp_le, cmp_geI, cmp_ltI, cmp_eqI, cmp_gtI, cmp_leI, bI_0I, bI_1I, pin, if_true, e1, e2, e3]
      · rw [ek]
        generalize dgD t (SK t a) most 2 = P at *
        cases P with
        | inl e => exact g3
        | inr x => exact g3
      · rw [ek]
        generalize dgD t (SK t a) most 2 = P at *
        cases P with
        | inl e => exact fun x hx => by cases hx
        | inr x =>
          intro y hy
          cases hy
          rw [g4 x rfl, if_neg (by omega)]
          show iI x.1 = iI (sgN t (SK t a) false x.1)
          unfold sgN
          rw [if_neg (fun z => cc z.1)]
