/-! the component's couples, screens, letters. -/
def pcpl (t : TP) (k : Nat) (most : Int) : Nat ⊕ ((Int × Int) × Nat) := match pnum t k false most 2 with
  | .inl e => .inl e
  | .inr x => if sg t (SK t x.2) = 44 then (match pnum t (SK t (SK t x.2 + 1)) false most 2 with
    | .inl e => .inl e
    | .inr y => .inr ((x.1, y.1), y.2)) else .inl (SK t x.2)
theorem pcpl_bd {t : TP} (ht : okTp t) {k : Nat} {most : Int} (hm : 0 ≤ most) (hk : k ≤ t.1) : (∀ e, pcpl t k most = .inl e → e ≤ t.1) ∧ ∀ x, pcpl t k most = .inr x → k < x.2 ∧ x.2 ≤ t.1 ∧ (-most ≤ x.1.1 ∧ x.1.1 ≤ most) ∧ (-most ≤ x.1.2 ∧ x.1.2 ≤ most) := by
  unfold pcpl
  obtain ⟨a1, a2⟩ := pnum_bd ht (k := k) (tone := false) (most := most) (dm := 2) (by omega) hm hk
  generalize pnum t k false most 2 = P at *
  cases P with
  | inl e => exact ⟨fun e' he => by cases he; exact a1 e rfl, fun x hx => by cases hx⟩
  | inr x =>
    obtain ⟨b1, b2, b3, b4⟩ := a2 x rfl
    have hs := SK_le ht x.2
    simp only
    by_cases c : sg t (SK t x.2) = 44
    · rw [if_pos c]
      have hl := sg_lt (t := t) (k := SK t x.2) (by omega)
      have hs2 := SK_le ht (SK t x.2 + 1)
      obtain ⟨c1, c2⟩ := pnum_bd ht (k := SK t (SK t x.2 + 1)) (tone := false) (most := most) (dm := 2) (by omega) hm (hs2.2 (by omega))
      generalize pnum t (SK t (SK t x.2 + 1)) false most 2 = Q at *
      cases Q with
      | inl e => exact ⟨fun e' he => by cases he; exact c1 e rfl, fun x hx => by cases hx⟩
      | inr y =>
        obtain ⟨d1, d2, d3, d4⟩ := c2 y rfl
        refine ⟨fun e' he => (by cases he), fun z hz => ?_⟩
        cases hz
        exact ⟨by show k < y.2; omega, d2, b3, d3⟩
    · rw [if_neg c]
      refine ⟨fun e' he => ?_, fun x hx => by cases hx⟩
      cases he
      exact hs.2 b2
def aC2 (c w q k : Nat) : Prop := aMv q k ∨ (q = 4 ∧ (k = 8 * c + w ∨ k = 8 * c + w + 1))
theorem aC2_34 {c w q k : Nat} (h : aC2 c w q k) : q = 3 ∨ q = 4 := by unfold aC2 aMv at h; omega
theorem aC2_fl {c w q k : Nat} (h : aC2 c w q k) : aFl q k := by unfold aC2 aMv at h; unfold aFl; omega
set_option maxHeartbeats 2000000 in
theorem c_couple {T : TS} {t : TP} (ht : okTp t) (hT : hTp T t) {k : Nat} (hk : k ≤ t.1) (hp : pAt T t k) {c w : Nat} (hc : c < 4) (hw : w = 0 ∨ w = 2 ∨ w = 6) (hC : T.1 3 4 = iI (c : Int)) {most : Int} (hm : 0 ≤ most ∧ most ≤ 100) : (∀ e, pcpl t k most = .inl e → ∃ T', cl k_Reader_readCouple [.ref 3, .int (iI (w : Int)), .int (iI most)] (enc T) = some (some (.int (iI 0)), enc T') ∧ FrI aFl T T' ∧ T'.1 3 5 = iI (e : Int)) ∧ (∀ x, pcpl t k most = .inr x → ∃ T', cl k_Reader_readCouple [.ref 3, .int (iI (w : Int)), .int (iI most)] (enc T) = some (some (.int (iI 1)), enc T') ∧ FrI (aC2 c w) T T' ∧ pAt T' t (SK t x.2) ∧ T'.1 4 (8 * c + w) = iI x.1.1 ∧ T'.1 4 (8 * c + w + 1) = iI x.1.2) := by
  obtain ⟨n1, n2⟩ := c_number ht hT hk hp hc (w := w) (by omega) hC (tone := false) ⟨fun z => (by cases z), fun z => by omega⟩ hm (dm := 2) (by omega)
  have e22 : ((2 : Nat) : Int) = 2 := rfl
  rw [e22] at n1 n2
  unfold pcpl
  obtain ⟨a1, a2⟩ := pnum_bd ht (k := k) (tone := false) (most := most) (dm := 2) (by omega) hm.1 hk
  generalize pnum t k false most 2 = P at *
  have hl := ht.1
  cases P with
  | inl e =>
    refine ⟨fun e' he => ?_, fun x hx => by cases hx⟩
    cases he
    obtain ⟨T1, e1, f1, g1⟩ := n1 e rfl
    refine ⟨T1, ?_, f1, g1⟩
    simp (disch := first | omega | assumption | decide | (simp (disch := omega) only [iI_lit, iJ_lit, iJ_eq, iI_eq, bI_01, bI_01I] <;> omega)) only [c_Reader_readCouple, e_Reader_readCouple_0, e_Reader_readCouple_1, e_Reader_readCouple_2, e_Reader_readCouple_3, e_Reader_readCouple_4, e_Reader_readCouple_7, e_Reader_readCouple_10, e_Reader_readCouple_11, e_Reader_readCouple_12, e_Reader_readCouple_13, e_Reader_readCouple_16, e_Reader_readCouple_18, e_Reader_readCouple_21, e_Reader_readCouple_22, e_Reader_readCouple_23, e_Reader_readCouple_26, e_Reader_readCouple_29, e_Reader_readCouple_30, e_Reader_readCouple_31, e_Reader_readCouple_34, e_Reader_readCouple_35, e_Reader_readCouple_36, e_Reader_readCouple_37, e_Reader_readCouple_38, e_Reader_readCouple_39, e_Reader_readCouple_40, e_Reader_readCouple_43, bd_some, bd_none, Option.toList_some, Option.toList_none, List.nil_append, List.cons_append, px_kill_int, px_kill_long, px_kill_ref, px_kill_null, iI_lit, iJ_lit, iI_add, iI_sub, iI_mul, iI_neg, iJ_add, iJ_sub, iJ_mul, iJ_neg, iI_lt, iI_le, iI_eq, iJ_lt, iJ_le, iJ_eq, iI_div, iJ_div, tdiv_tmod, iI_J, iJ_I, iI_ix, iI_toInt, iJ_toInt, cmp_ge, cmp_lt, cmp_eq, cmp_gt, cmp_le, cmp_geI, cmp_ltI, cmp_eqI, cmp_gtI, cmp_leI, bI_0I, bI_1I, pin, if_true, sh_n3, e1]
  | inr x =>
    obtain ⟨T1, e1, f1, p1, v1⟩ := n2 x rfl
    obtain ⟨b1, b2, b3, b4⟩ := a2 x rfl
    have hs := SK_le ht x.2
    have bs := sg_bd ht (SK t x.2)
    obtain ⟨r1, r2⟩ := id p1
    have hT1 := hT.fr f1 (fun q k z => aNs_34 z)
    simp only
    by_cases cc : sg t (SK t x.2) = 44
    · rw [if_pos cc]
      rw [cc] at r2
      have hlt := sg_lt (t := t) (k := SK t x.2) (by omega)
      have hs2 := SK_le ht (SK t x.2 + 1)
      obtain ⟨T2, e2, f2, p2⟩ := c_passN ht hT1 (k := SK t x.2) (by omega) p1
      have hC2 : T2.1 3 4 = iI (c : Int) := by rw [f2.1 _ _ (by unfold aMv; omega), f1.1 _ _ (by unfold aNs aMv; omega)]; exact hC
      obtain ⟨m1, m2⟩ := c_number ht (hT1.fr f2 (fun q k z => Or.inl z.1)) (hs2.2 (by omega)) p2 hc (w := w + 1) (by omega) hC2 (tone := false) ⟨fun z => (by cases z), fun z => by omega⟩ hm (dm := 2) (by omega)
      rw [e22, show ((w + 1 : Nat) : Int) = (w : Int) + 1 by omega] at m1 m2
      generalize pnum t (SK t (SK t x.2 + 1)) false most 2 = Q at *
      cases Q with
      | inl e =>
        refine ⟨fun e' he => ?_, fun x hx => by cases hx⟩
        cases he
        obtain ⟨T3, e3, f3, g3⟩ := m1 e rfl
        refine ⟨T3, ?_, ((f1.mono (fun q k z => aNs_fl z)).tr (f2.mono (fun q k z => aMv_fl z))).tr f3, g3⟩
        simp (disch := first | omega | assumption | decide | (simp (disch := omega) only [iI_lit, iJ_lit, iJ_eq, iI_eq, bI_01, bI_01I] <;> omega)) only [c_Reader_readCouple, e_Reader_readCouple_0, e_Reader_readCouple_1, e_Reader_readCouple_2, e_Reader_readCouple_3, e_Reader_readCouple_4, e_Reader_readCouple_7, e_Reader_readCouple_10, e_Reader_readCouple_11, e_Reader_readCouple_12, e_Reader_readCouple_13, e_Reader_readCouple_16, e_Reader_readCouple_18, e_Reader_readCouple_21, e_Reader_readCouple_22, e_Reader_readCouple_23, e_Reader_readCouple_26, e_Reader_readCouple_29, e_Reader_readCouple_30, e_Reader_readCouple_31, e_Reader_readCouple_34, e_Reader_readCouple_35, e_Reader_readCouple_36, e_Reader_readCouple_37, e_Reader_readCouple_38, e_Reader_readCouple_39, e_Reader_readCouple_40, e_Reader_readCouple_43, bd_some, bd_none, Option.toList_some, Option.toList_none, List.nil_append, List.cons_append, px_kill_int, px_kill_long, px_kill_ref, px_kill_null, iI_lit, iJ_lit, iI_add, iI_sub, iI_mul, iI_neg, iJ_add, iJ_sub, iJ_mul, iJ_neg, iI_lt, iI_le, iI_eq, iJ_lt, iJ_le, iJ_eq, iI_div, iJ_div, tdiv_tmod, iI_J, iJ_I, iI_ix, iI_toInt, iJ_toInt, cmp_ge, cmp_lt, cmp_eq, cmp_gt, cmp_le, cmp_geI, cmp_ltI, cmp_eqI, cmp_gtI, cmp_leI, bI_0I, bI_1I, pin, if_true, sh_n3, e1, one0, if_false, r2, e2, e3]
      | inr y =>
        refine ⟨fun e' he => (by cases he), fun z hz => ?_⟩
        cases hz
        obtain ⟨T3, e3, f3, p3, v3⟩ := m2 y rfl
        have fa : FrI (aC2 c w) T T1 := f1.mono (fun q k z => by unfold aNs aMv at z; unfold aC2 aMv; omega)
        have fb : FrI (aC2 c w) T1 T2 := f2.mono (fun q k z => Or.inl z)
        have fc : FrI (aC2 c w) T2 T3 := f3.mono (fun q k z => by unfold aNs aMv at z; unfold aC2 aMv; omega)
        refine ⟨T3, ?_, (fa.tr fb).tr fc, p3, ?_, v3⟩
        · simp (disch := first | omega | assumption | decide | (simp (disch := omega) only [iI_lit, iJ_lit, iJ_eq, iI_eq, bI_01, bI_01I] <;> omega)) only [c_Reader_readCouple, e_Reader_readCouple_0, e_Reader_readCouple_1, e_Reader_readCouple_2, e_Reader_readCouple_3, e_Reader_readCouple_4, e_Reader_readCouple_7, e_Reader_readCouple_10, e_Reader_readCouple_11, e_Reader_readCouple_12, e_Reader_readCouple_13, e_Reader_readCouple_16, e_Reader_readCouple_18, e_Reader_readCouple_21, e_Reader_readCouple_22, e_Reader_readCouple_23, e_Reader_readCouple_26, e_Reader_readCouple_29, e_Reader_readCouple_30, e_Reader_readCouple_31, e_Reader_readCouple_34, e_Reader_readCouple_35, e_Reader_readCouple_36, e_Reader_readCouple_37, e_Reader_readCouple_38, e_Reader_readCouple_39, e_Reader_readCouple_40, e_Reader_readCouple_43, bd_some, bd_none, Option.toList_some, Option.toList_none, List.nil_append, List.cons_append, px_kill_int, px_kill_long, px_kill_ref, px_kill_null, iI_lit, iJ_lit, iI_add, iI_sub, iI_mul, iI_neg, iJ_add, iJ_sub, iJ_mul, iJ_neg, iI_lt, iI_le, iI_eq, iJ_lt, iJ_le, iJ_eq, iI_div, iJ_div, tdiv_tmod, iI_J, iJ_I, iI_ix, iI_toInt, iJ_toInt, cmp_ge, cmp_lt, cmp_eq, cmp_gt, cmp_le, cmp_geI, cmp_ltI, cmp_eqI, cmp_gtI, cmp_leI, bI_0I, bI_1I, pin, if_true, sh_n3, e1, one0, if_false, r2, e2, e3]
        · rw [f3.1 _ _ (by unfold aNs aMv; omega), f2.1 _ _ (by unfold aMv; omega)]; exact v1
    · rw [if_neg cc]
      refine ⟨fun e' he => ?_, fun x hx => by cases hx⟩
      cases he
      have ef := c_failAt (T := T1) (iI ((SK t x.2 : Nat) : Int))
      refine ⟨sI T1 3 5 (iI ((SK t x.2 : Nat) : Int)), ?_, (f1.mono (fun q k z => aNs_fl z)).wr _ (by unfold aFl; omega), by simp only [sI_get, sJ_get, sI_2, sJ_1, sJ_22, sR_1, sR_21, Nat.reduceEqDiff, and_true, true_and, and_false, false_and, and_self, if_true, if_false, reduceIte]⟩
      generalize SK t x.2 = K at *
      simp (disch := first | omega | assumption | decide | (simp (disch := omega) only [iI_lit, iJ_lit, iJ_eq, iI_eq, bI_01, bI_01I] <;> omega)) only [c_Reader_readCouple, e_Reader_readCouple_0, e_Reader_readCouple_1, e_Reader_readCouple_2, e_Reader_readCouple_3, e_Reader_readCouple_4, e_Reader_readCouple_7, e_Reader_readCouple_10, e_Reader_readCouple_11, e_Reader_readCouple_12, e_Reader_readCouple_13, e_Reader_readCouple_16, e_Reader_readCouple_18, e_Reader_readCouple_21, e_Reader_readCouple_22, e_Reader_readCouple_23, e_Reader_readCouple_26, e_Reader_readCouple_29, e_Reader_readCouple_30, e_Reader_readCouple_31, e_Reader_readCouple_34, e_Reader_readCouple_35, e_Reader_readCouple_36, e_Reader_readCouple_37, e_Reader_readCouple_38, e_Reader_readCouple_39, e_Reader_readCouple_40, e_Reader_readCouple_43, bd_some, bd_none, Option.toList_some, Option.toList_none, List.nil_append, List.cons_append, px_kill_int, px_kill_long, px_kill_ref, px_kill_null, iI_lit, iJ_lit, iI_add, iI_sub, iI_mul, iI_neg, iJ_add, iJ_sub, iJ_mul, iJ_neg, iI_lt, iI_le, iI_eq, iJ_lt, iJ_le, iJ_eq, iI_div, iJ_div, tdiv_tmod, iI_J, iJ_I, iI_ix, iI_toInt, iJ_toInt, cmp_ge, cmp_lt, cmp_eq, cmp_gt, cmp_le, cmp_geI, cmp_ltI, cmp_eqI, cmp_gtI, cmp_leI, bI_0I, bI_1I, pin, if_true, sh_n3, e1, one0, if_false, r1, r2, cc, ef]
abbrev Q4 : Type := Int × Int × Int × Int
def pscr (t : TP) (k : Nat) : Nat ⊕ (Q4 × Nat) := match pcpl t k 12 with
  | .inl e => .inl e
  | .inr x => if sg t (SK t x.2) = 44 then (match pcpl t (SK t (SK t x.2 + 1)) 12 with
    | .inl e => .inl e
    | .inr y => .inr ((x.1.1, x.1.2, y.1.1, y.1.2), y.2)) else .inr ((x.1.1, x.1.2, -x.1.2, x.1.1), x.2)
abbrev okQ4 (x : Q4) : Prop := (-12 ≤ x.1 ∧ x.1 ≤ 12) ∧ (-12 ≤ x.2.1 ∧ x.2.1 ≤ 12) ∧ (-12 ≤ x.2.2.1 ∧ x.2.2.1 ≤ 12) ∧ (-12 ≤ x.2.2.2 ∧ x.2.2.2 ≤ 12)
theorem pscr_bd {t : TP} (ht : okTp t) {k : Nat} (hk : k ≤ t.1) : (∀ e, pscr t k = .inl e → e ≤ t.1) ∧ ∀ x, pscr t k = .inr x → k < x.2 ∧ x.2 ≤ t.1 ∧ okQ4 x.1 := by
  unfold pscr
  obtain ⟨a1, a2⟩ := pcpl_bd ht (k := k) (most := 12) (by omega) hk
  generalize pcpl t k 12 = P at *
  cases P with
  | inl e => exact ⟨fun e' he => by cases he; exact a1 e rfl, fun x hx => by cases hx⟩
  | inr x =>
    obtain ⟨b1, b2, b3, b4⟩ := a2 x rfl
    have hs := SK_le ht x.2
    simp only
    by_cases c : sg t (SK t x.2) = 44
    · rw [if_pos c]
      have hl := sg_lt (t := t) (k := SK t x.2) (by omega)
      have hs2 := SK_le ht (SK t x.2 + 1)
      obtain ⟨c1, c2⟩ := pcpl_bd ht (k := SK t (SK t x.2 + 1)) (most := 12) (by omega) (hs2.2 (by omega))
      generalize pcpl t (SK t (SK t x.2 + 1)) 12 = Q at *
      cases Q with
      | inl e => exact ⟨fun e' he => by cases he; exact c1 e rfl, fun x hx => by cases hx⟩
      | inr y =>
        obtain ⟨d1, d2, d3, d4⟩ := c2 y rfl
        refine ⟨fun e' he => (by cases he), fun z hz => ?_⟩
        cases hz
        exact ⟨by show k < y.2; omega, d2, b3, b4, d3, d4⟩
    · rw [if_neg c]
      refine ⟨fun e' he => (by cases he), fun z hz => ?_⟩
      cases hz
      exact ⟨b1, b2, b3, b4, by show -12 ≤ -x.1.2 ∧ -x.1.2 ≤ 12; omega, b3⟩
theorem c_told {T : TS} {c w : Nat} (hc : c < 4) (hw : w < 8) : cl k_Reader_told [.ref 3, .int (iI (c : Int)), .int (iI (w : Int))] (enc T) = some (some (.int (T.1 4 (8 * c + w))), enc T) := by
  have e1 : (c : Int) * 8 + (w : Int) = ((8 * c + w : Nat) : Int) := by omega
  have g := g_at (T := T) (p := 4) (N := 32) (n := ((8 * c + w : Nat) : Int)) rfl (by omega) (by omega)
  rw [show (((8 * c + w : Nat) : Int)).toNat = 8 * c + w by omega] at g
  simp (disch := first | omega | assumption | decide | (simp (disch := omega) only [iI_lit, iJ_lit, iJ_eq, iI_eq, bI_01, bI_01I] <;> omega)) only [c_Reader_told, e_Reader_told_0, e_Reader_told_1, e_Reader_told_4, e_Reader_told_5, e_Reader_told_7, e_Reader_told_8, e_Reader_told_9, e_Reader_told_10, e_Reader_told_13, bd_some, bd_none, Option.toList_some, Option.toList_none, List.nil_append, List.cons_append, px_kill_int, px_kill_long, px_kill_ref, px_kill_null, iI_lit, iJ_lit, iI_add, iI_sub, iI_mul, iI_neg, iJ_add, iJ_sub, iJ_mul, iJ_neg, iI_lt, iI_le, iI_eq, iJ_lt, iJ_le, iJ_eq, iI_div, iJ_div, tdiv_tmod, iI_J, iJ_I, iI_ix, iI_toInt, iJ_toInt, cmp_ge, cmp_lt, cmp_eq, cmp_gt, cmp_le, cmp_geI, cmp_ltI, cmp_eqI, cmp_gtI, cmp_leI, bI_0I, bI_1I, pin, if_true, sh_n3, e1, g]
def aSc (c q k : Nat) : Prop := aMv q k ∨ (q = 4 ∧ 8 * c ≤ k ∧ k < 8 * c + 4)
set_option maxHeartbeats 2000000 in
theorem c_screen {T : TS} {t : TP} (ht : okTp t) (hT : hTp T t) {k : Nat} (hk : k ≤ t.1) (hp : pAt T t k) {c : Nat} (hc : c < 4) (hC : T.1 3 4 = iI (c : Int)) : (∀ e, pscr t k = .inl e → ∃ T', cl k_Reader_readScreen [.ref 3] (enc T) = some (some (.int (iI 0)), enc T') ∧ FrI aFl T T' ∧ T'.1 3 5 = iI (e : Int)) ∧ (∀ x, pscr t k = .inr x → ∃ T', cl k_Reader_readScreen [.ref 3] (enc T) = some (some (.int (iI 1)), enc T') ∧ FrI (aSc c) T T' ∧ pAt T' t (SK t x.2) ∧ T'.1 4 (8 * c) = iI x.1.1 ∧ T'.1 4 (8 * c + 1) = iI x.1.2.1 ∧ T'.1 4 (8 * c + 2) = iI x.1.2.2.1 ∧ T'.1 4 (8 * c + 3) = iI x.1.2.2.2) := by
  obtain ⟨n1, n2⟩ := c_couple ht hT hk hp hc (w := 0) (by omega) hC (most := 12) (by omega)
  have e00 : ((0 : Nat) : Int) = 0 := rfl
  rw [e00] at n1 n2
  unfold pscr
  obtain ⟨a1, a2⟩ := pcpl_bd ht (k := k) (most := 12) (by omega) hk
  generalize pcpl t k 12 = P at *
  have hl := ht.1
  cases P with
  | inl e =>
    refine ⟨fun e' he => ?_, fun x hx => by cases hx⟩
    cases he
    obtain ⟨T1, e1, f1, g1⟩ := n1 e rfl
    refine ⟨T1, ?_, f1, g1⟩
    simp (disch := first | omega | assumption | decide | (simp (disch := omega) only [iI_lit, iJ_lit, iJ_eq, iI_eq, bI_01, bI_01I] <;> omega)) only [c_Reader_readScreen, e_Reader_readScreen_0, e_Reader_readScreen_1, e_Reader_readScreen_2, e_Reader_readScreen_4, e_Reader_readScreen_7, e_Reader_readScreen_10, e_Reader_readScreen_11, e_Reader_readScreen_12, e_Reader_readScreen_13, e_Reader_readScreen_16, e_Reader_readScreen_18, e_Reader_readScreen_21, e_Reader_readScreen_22, e_Reader_readScreen_25, e_Reader_readScreen_26, e_Reader_readScreen_27, e_Reader_readScreen_29, e_Reader_readScreen_32, e_Reader_readScreen_33, e_Reader_readScreen_34, e_Reader_readScreen_35, e_Reader_readScreen_36, e_Reader_readScreen_37, e_Reader_readScreen_40, e_Reader_readScreen_41, e_Reader_readScreen_44, e_Reader_readScreen_45, e_Reader_readScreen_48, e_Reader_readScreen_49, e_Reader_readScreen_50, e_Reader_readScreen_51, e_Reader_readScreen_52, e_Reader_readScreen_55, e_Reader_readScreen_56, e_Reader_readScreen_59, e_Reader_readScreen_62, e_Reader_readScreen_63, bd_some, bd_none, Option.toList_some, Option.toList_none, List.nil_append, List.cons_append, px_kill_int, px_kill_long, px_kill_ref, px_kill_null, iI_lit, iJ_lit, iI_add, iI_sub, iI_mul, iI_neg, iJ_add, iJ_sub, iJ_mul, iJ_neg, iI_lt, iI_le, iI_eq, iJ_lt, iJ_le, iJ_eq, iI_div, iJ_div, tdiv_tmod, iI_J, iJ_I, iI_ix, iI_toInt, iJ_toInt, cmp_ge, cmp_lt, cmp_eq, cmp_gt, cmp_le, cmp_geI, cmp_ltI, cmp_eqI, cmp_gtI, cmp_leI, bI_0I, bI_1I, pin, if_true, sh_n3, e1]
  | inr x =>
    obtain ⟨T1, e1, f1, p1, v1, v2⟩ := n2 x rfl
    obtain ⟨b1, b2, b3, b4⟩ := a2 x rfl
    have hs := SK_le ht x.2
    have bs := sg_bd ht (SK t x.2)
    obtain ⟨r1, r2⟩ := id p1
    have hT1 := hT.fr f1 (fun q k z => aC2_34 z)
    have hC1 : T1.1 3 4 = iI (c : Int) := by rw [f1.1 _ _ (by unfold aC2 aMv; omega)]; exact hC
    have f1' : FrI (aSc c) T T1 := f1.mono (fun q k z => by unfold aC2 aMv at z; unfold aSc aMv; omega)
    rw [Nat.add_zero] at v1 v2
    simp only
    by_cases cc : sg t (SK t x.2) = 44
    · rw [if_pos cc]
      rw [cc] at r2
      have hlt := sg_lt (t := t) (k := SK t x.2) (by omega)
      have hs2 := SK_le ht (SK t x.2 + 1)
      obtain ⟨T2, e2, f2, p2⟩ := c_passN ht hT1 (k := SK t x.2) (by omega) p1
      have hC2 : T2.1 3 4 = iI (c : Int) := by rw [f2.1 _ _ (by unfold aMv; omega)]; exact hC1
      obtain ⟨m1, m2⟩ := c_couple ht (hT1.fr f2 (fun q k z => Or.inl z.1)) (hs2.2 (by omega)) p2 hc (w := 2) (by omega) hC2 (most := 12) (by omega)
      have e22 : ((2 : Nat) : Int) = 2 := rfl
      rw [e22] at m1 m2
      generalize pcpl t (SK t (SK t x.2 + 1)) 12 = Q at *
      cases Q with
      | inl e =>
        refine ⟨fun e' he => ?_, fun x hx => by cases hx⟩
        cases he
        obtain ⟨T3, e3, f3, g3⟩ := m1 e rfl
        refine ⟨T3, ?_, ((f1.mono (fun q k z => aC2_fl z)).tr (f2.mono (fun q k z => aMv_fl z))).tr f3, g3⟩
        simp (disch := first | omega | assumption | decide | (simp (disch := omega) only [iI_lit, iJ_lit, iJ_eq, iI_eq, bI_01, bI_01I] <;> omega)) only [c_Reader_readScreen, e_Reader_readScreen_0, e_Reader_readScreen_1, e_Reader_readScreen_2, e_Reader_readScreen_4, e_Reader_readScreen_7, e_Reader_readScreen_10, e_Reader_readScreen_11, e_Reader_readScreen_12, e_Reader_readScreen_13, e_Reader_readScreen_16, e_Reader_readScreen_18, e_Reader_readScreen_21, e_Reader_readScreen_22, e_Reader_readScreen_25, e_Reader_readScreen_26, e_Reader_readScreen_27, e_Reader_readScreen_29, e_Reader_readScreen_32, e_Reader_readScreen_33, e_Reader_readScreen_34, e_Reader_readScreen_35, e_Reader_readScreen_36, e_Reader_readScreen_37, e_Reader_readScreen_40, e_Reader_readScreen_41, e_Reader_readScreen_44, e_Reader_readScreen_45, e_Reader_readScreen_48, e_Reader_readScreen_49, e_Reader_readScreen_50, e_Reader_readScreen_51, e_Reader_readScreen_52, e_Reader_readScreen_55, e_Reader_readScreen_56, e_Reader_readScreen_59, e_Reader_readScreen_62, e_Reader_readScreen_63, bd_some, bd_none, Option.toList_some, Option.toList_none, List.nil_append, List.cons_append, px_kill_int, px_kill_long, px_kill_ref, px_kill_null, iI_lit, iJ_lit, iI_add, iI_sub, iI_mul, iI_neg, iJ_add, iJ_sub, iJ_mul, iJ_neg, iI_lt, iI_le, iI_eq, iJ_lt, iJ_le, iJ_eq, iI_div, iJ_div, tdiv_tmod, iI_J, iJ_I, iI_ix, iI_toInt, iJ_toInt, cmp_ge, cmp_lt, cmp_eq, cmp_gt, cmp_le, cmp_geI, cmp_ltI, cmp_eqI, cmp_gtI, cmp_leI, bI_0I, bI_1I, pin, if_true, sh_n3, e1, one0, if_false, r2, e2, e3]
      | inr y =>
        refine ⟨fun e' he => (by cases he), fun z hz => ?_⟩
        cases hz
        obtain ⟨T3, e3, f3, p3, v3, v4⟩ := m2 y rfl
        refine ⟨T3, ?_, (f1'.tr (f2.mono (fun q k z => Or.inl z))).tr (f3.mono (fun q k z => by unfold aC2 aMv at z; unfold aSc aMv; omega)), p3, ?_, ?_, v3, v4⟩
        · simp (disch := first | omega | assumption | decide | (simp (disch := omega) only [iI_lit, iJ_lit, iJ_eq, iI_eq, bI_01, bI_01I] <;> omega)) only [c_Reader_readScreen, e_Reader_readScreen_0, e_Reader_readScreen_1, e_Reader_readScreen_2, e_Reader_readScreen_4, e_Reader_readScreen_7, e_Reader_readScreen_10, e_Reader_readScreen_11, e_Reader_readScreen_12, e_Reader_readScreen_13, e_Reader_readScreen_16, e_Reader_readScreen_18, e_Reader_readScreen_21, e_Reader_readScreen_22, e_Reader_readScreen_25, e_Reader_readScreen_26, e_Reader_readScreen_27, e_Reader_readScreen_29, e_Reader_readScreen_32, e_Reader_readScreen_33, e_Reader_readScreen_34, e_Reader_readScreen_35, e_Reader_readScreen_36, e_Reader_readScreen_37, e_Reader_readScreen_40, e_Reader_readScreen_41, e_Reader_readScreen_44, e_Reader_readScreen_45, e_Reader_readScreen_48, e_Reader_readScreen_49, e_Reader_readScreen_50, e_Reader_readScreen_51, e_Reader_readScreen_52, e_Reader_readScreen_55, e_Reader_readScreen_56, e_Reader_readScreen_59, e_Reader_readScreen_62, e_Reader_readScreen_63, bd_some, bd_none, Option.toList_some, Option.toList_none, List.nil_append, List.cons_append, px_kill_int, px_kill_long, px_kill_ref, px_kill_null, iI_lit, iJ_lit, iI_add, iI_sub, iI_mul, iI_neg, iJ_add, iJ_sub, iJ_mul, iJ_neg, iI_lt, iI_le, iI_eq, iJ_lt, iJ_le, iJ_eq, iI_div, iJ_div, tdiv_tmod, iI_J, iJ_I, iI_ix, iI_toInt, iJ_toInt, cmp_ge, cmp_lt, cmp_eq, cmp_gt, cmp_le, cmp_geI, cmp_ltI, cmp_eqI, cmp_gtI, cmp_leI, bI_0I, bI_1I, pin, if_true, sh_n3, e1, one0, if_false, r2, e2, e3]
        · rw [f3.1 _ _ (by unfold aC2 aMv; omega), f2.1 _ _ (by unfold aMv; omega)]; exact v1
        · rw [f3.1 _ _ (by unfold aC2 aMv; omega), f2.1 _ _ (by unfold aMv; omega)]; exact v2
    · rw [if_neg cc]
      refine ⟨fun e' he => (by cases he), fun z hz => ?_⟩
      cases hz
      have t1 := c_told (T := T1) (c := c) (w := 1) hc (by omega)
      have e11 : ((1 : Nat) : Int) = 1 := rfl
      have e22 : ((2 : Nat) : Int) = 2 := rfl
      have e33 : ((3 : Nat) : Int) = 3 := rfl
      rw [e11, v2] at t1
      have w2 := c_tell (T := T1) hc (w := 2) (by omega) hC1 (iI (-x.1.2))
      rw [e22] at w2
      obtain ⟨T2, hT2⟩ : ∃ T2, T2 = sI T1 4 (8 * c + 2) (iI (-x.1.2)) := ⟨_, rfl⟩
      rw [← hT2] at w2
      have t0' := c_told (T := T2) (c := c) (w := 0) hc (by omega)
      have v1' : T2.1 4 (8 * c) = iI x.1.1 := by rw [hT2, wr_ne _ _ (by omega)]; exact v1
      rw [e00, Nat.add_zero, v1'] at t0'
      have hC2 : T2.1 3 4 = iI (c : Int) := by rw [hT2, wr_ne _ _ (by omega)]; exact hC1
      have w3 := c_tell (T := T2) hc (w := 3) (by omega) hC2 (iI x.1.1)
      rw [e33] at w3
      obtain ⟨T3, hT3⟩ : ∃ T3, T3 = sI T2 4 (8 * c + 3) (iI x.1.1) := ⟨_, rfl⟩
      rw [← hT3] at w3
      refine ⟨T3, ?_, ?_, ?_, ?_, ?_, ?_, ?_⟩
      · simp (disch := first | omega | assumption | decide | (simp (disch := omega) only [iI_lit, iJ_lit, iJ_eq, iI_eq, bI_01, bI_01I] <;> omega)) only [c_Reader_readScreen, e_Reader_readScreen_0, e_Reader_readScreen_1, e_Reader_readScreen_2, e_Reader_readScreen_4, e_Reader_readScreen_7, e_Reader_readScreen_10, e_Reader_readScreen_11, e_Reader_readScreen_12, e_Reader_readScreen_13, e_Reader_readScreen_16, e_Reader_readScreen_18, e_Reader_readScreen_21, e_Reader_readScreen_22, e_Reader_readScreen_25, e_Reader_readScreen_26, e_Reader_readScreen_27, e_Reader_readScreen_29, e_Reader_readScreen_32, e_Reader_readScreen_33, e_Reader_readScreen_34, e_Reader_readScreen_35, e_Reader_readScreen_36, e_Reader_readScreen_37, e_Reader_readScreen_40, e_Reader_readScreen_41, e_Reader_readScreen_44, e_Reader_readScreen_45, e_Reader_readScreen_48, e_Reader_readScreen_49, e_Reader_readScreen_50, e_Reader_readScreen_51, e_Reader_readScreen_52, e_Reader_readScreen_55, e_Reader_readScreen_56, e_Reader_readScreen_59, e_Reader_readScreen_62, e_Reader_readScreen_63, bd_some, bd_none, Option.toList_some, Option.toList_none, List.nil_append, List.cons_append, px_kill_int, px_kill_long, px_kill_ref, px_kill_null, iI_lit, iJ_lit, iI_add, iI_sub, iI_mul, iI_neg, iJ_add, iJ_sub, iJ_mul, iJ_neg, iI_lt, iI_le, iI_eq, iJ_lt, iJ_le, iJ_eq, iI_div, iJ_div, tdiv_tmod, iI_J, iJ_I, iI_ix, iI_toInt, iJ_toInt, cmp_ge, cmp_lt, cmp_eq, cmp_gt, cmp_le, cmp_geI, cmp_ltI, cmp_eqI, cmp_gtI, cmp_leI, bI_0I, bI_1I, pin, if_true, sh_n3, e1, one0, if_false, r2, cc, hC1, hC2, t1, w2, t0', w3]
      · rw [hT3, hT2]
        exact (f1'.wr _ (by unfold aSc; omega)).wr _ (by unfold aSc; omega)
      · rw [hT3, hT2]
        exact ⟨by simp only [sI_get, sJ_get, sI_2, sJ_1, sJ_22, sR_1, sR_21, Nat.reduceEqDiff, and_true, true_and, and_false, false_and, and_self, if_true, if_false, reduceIte]; exact r1, by simp only [sI_get, sJ_get, sI_2, sJ_1, sJ_22, sR_1, sR_21, Nat.reduceEqDiff, and_true, true_and, and_false, false_and, and_self, if_true, if_false, reduceIte]; exact r2⟩
      · rw [hT3, wr_ne _ _ (by omega)]; exact v1'
      · rw [hT3, wr_ne _ _ (by omega), hT2, wr_ne _ _ (by omega)]; exact v2
      · rw [hT3, wr_ne _ _ (by omega), hT2]; simp only [sI_get, sJ_get, sI_2, sJ_1, sJ_22, sR_1, sR_21, Nat.reduceEqDiff, and_true, true_and, and_false, false_and, and_self, if_true, if_false, reduceIte]
      · rw [hT3]; simp only [sI_get, sJ_get, sI_2, sJ_1, sJ_22, sR_1, sR_21, Nat.reduceEqDiff, and_true, true_and, and_false, false_and, and_self, if_true, if_false, reduceIte]
