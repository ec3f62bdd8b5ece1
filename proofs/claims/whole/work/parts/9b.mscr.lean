/-! the reference reads a screen, a letter. -/
theorem hMd.w55 {T : TS} {t : TP} {md : MD} (h : hMd T t md) (k : Nat) (x : Int32) : hMd (sI T 55 k x) t md := by
  cases md with
  | inl e =>
    obtain ⟨h1, h2, a, h3, h4⟩ := h
    exact ⟨by rw [wr_ne _ _ (by omega)]; exact h1, h2, a, h3, by rw [wr_ne _ _ (by omega)]; exact h4⟩
  | inr a =>
    obtain ⟨h1, h2, h3⟩ := h
    exact ⟨by rw [wr_ne _ _ (by omega)]; exact h1, h2, by rw [wr_ne _ _ (by omega)]; exact h3⟩
def aRi (r q k : Nat) : Prop := aAw q k ∨ (q = 55 ∧ 8 * r ≤ k ∧ k < 8 * r + 8)
theorem aRi_p {r q k : Nat} (h : aRi r q k) : (q = 53 ∧ (k = 3 ∨ k = 4 ∨ k = 8 ∨ k = 9)) ∨ q = 55 := by unfold aRi aAw at h; omega
theorem FrI.ri {T T' : TS} {r : Nat} (h : FrI aAw T T') : FrI (aRi r) T T' := h.mono (fun q k z => Or.inl z)
set_option maxHeartbeats 8000000 in
theorem m_readScreen {T : TS} {t : TP} (ht : okTp t) (hT : hTm T t) {a : Nat} (h : hMd T t (.inr a)) {r : Nat} (hr : r < 4) : ∃ T' : TS, cl k_Dm_readScreen [.ref 53, .int (iI ((8 * r : Nat) : Int))] (enc T) = some (none, enc T') ∧ FrI (aRi r) T T' ∧ (∀ e, pscr t (SK t a) = .inl e → hMd T' t (.inl e)) ∧ (∀ x, pscr t (SK t a) = .inr x → ∃ a', hMd T' t (.inr a') ∧ SK t a' = SK t x.2 ∧ T'.1 55 (8 * r) = iI x.1.1 ∧ T'.1 55 (8 * r + 1) = iI x.1.2.1 ∧ T'.1 55 (8 * r + 2) = iI x.1.2.2.1 ∧ T'.1 55 (8 * r + 3) = iI x.1.2.2.2) := by
  have i0 : (((8 * r : Nat) : Int) + 0).toNat = 8 * r := by omega
  have i1 : (((8 * r : Nat) : Int) + 1).toNat = 8 * r + 1 := by omega
  have i2 : (((8 * r : Nat) : Int) + 2).toNat = 8 * r + 2 := by omega
  have i3 : (((8 * r : Nat) : Int) + 3).toNat = 8 * r + 3 := by omega
  obtain ⟨T1, v1, e1, f1, g1, q1⟩ := m_number ht hT h (most := 12) (by omega)
  obtain ⟨T1', hT1'⟩ : ∃ T1', T1' = sI T1 55 (8 * r) v1 := ⟨_, rfl⟩
  have f1' : FrI (aRi r) T T1' := by rw [hT1']; exact f1.ri.wr _ (Or.inr ⟨rfl, by omega, by omega⟩)
  have g1' : hMd T1' t (mdO (nuD t (.inr a) 12)) := by rw [hT1']; exact g1.w55 _ _
  obtain ⟨T2, e2, f2, g2⟩ := m_must ht (hT.fr f1' (fun q k z => aRi_p z)) g1' (c := 44) (by omega)
  have f2' := f1'.tr f2.ri
  obtain ⟨T3, v2, e3, f3, g3, q3⟩ := m_number ht (hT.fr f2' (fun q k z => aRi_p z)) g2 (most := 12) (by omega)
  have f3' := f2'.tr f3.ri
  have z1 : T3.1 55 (8 * r) = v1 := by rw [f3.1 _ _ (by unfold aAw; omega), f2.1 _ _ (by unfold aAw; omega), hT1']; simp only [sI_get, sJ_get, sI_2, sJ_1, sJ_22, sR_1, sR_21, Nat.reduceEqDiff, and_true, true_and, and_false, false_and, and_self, if_true, if_false, reduceIte]
  obtain ⟨T4, hT4⟩ : ∃ T4, T4 = sI (sI (sI T3 55 (8 * r + 1) v2) 55 (8 * r + 2) (-v2)) 55 (8 * r + 3) v1 := ⟨_, rfl⟩
  have f4' : FrI (aRi r) T T4 := by rw [hT4]; exact ((f3'.wr _ (Or.inr ⟨rfl, by omega, by omega⟩)).wr _ (Or.inr ⟨rfl, by omega, by omega⟩)).wr _ (Or.inr ⟨rfl, by omega, by omega⟩)
  have g4 : hMd T4 t (mdO (nuD t (muD t (mdO (nuD t (.inr a) 12)) 44) 12)) := by rw [hT4]; exact ((g3.w55 _ _).w55 _ _).w55 _ _
  obtain ⟨T5, e5, f5, g5⟩ := m_takes ht (hT.fr f4' (fun q k z => aRi_p z)) g4 (c := 44) (by omega)
  have f5' := f4'.tr f5.ri
  have w0 : T5.1 55 (8 * r) = v1 := by rw [f5.1 _ _ (by unfold aAw; omega), hT4, wr_ne _ _ (by omega), wr_ne _ _ (by omega), wr_ne _ _ (by omega)]; exact z1
  have w1 : T5.1 55 (8 * r + 1) = v2 := by rw [f5.1 _ _ (by unfold aAw; omega), hT4, wr_ne _ _ (by omega), wr_ne _ _ (by omega)]; simp only [sI_get, sJ_get, sI_2, sJ_1, sJ_22, sR_1, sR_21, Nat.reduceEqDiff, and_true, true_and, and_false, false_and, and_self, if_true, if_false, reduceIte]
  have w2 : T5.1 55 (8 * r + 2) = -v2 := by rw [f5.1 _ _ (by unfold aAw; omega), hT4, wr_ne _ _ (by omega)]; simp only [sI_get, sJ_get, sI_2, sJ_1, sJ_22, sR_1, sR_21, Nat.reduceEqDiff, and_true, true_and, and_false, false_and, and_self, if_true, if_false, reduceIte]
  have w3 : T5.1 55 (8 * r + 3) = v1 := by rw [f5.1 _ _ (by unfold aAw; omega), hT4]; simp only [sI_get, sJ_get, sI_2, sJ_1, sJ_22, sR_1, sR_21, Nat.reduceEqDiff, and_true, true_and, and_false, false_and, and_self, if_true, if_false, reduceIte]
  have n01 : ¬ 8 * r = 8 * r + 1 := by omega
  have n02 : ¬ 8 * r = 8 * r + 2 := by omega
  have n12 : ¬ 8 * r + 1 = 8 * r + 2 := by omega
  have pre : cl k_Dm_readScreen [.ref 53, .int (iI ((8 * r : Nat) : Int))] (enc T) = rn k_Dm_readScreen 73 [.ref 53, .int (iI ((8 * r : Nat) : Int))] [.int (iI (tkB t (mdO (nuD t (muD t (mdO (nuD t (.inr a) 12)) 44) 12)) 44))] (enc T5) := by
    simp (disch := first | omega | assumption | decide | (simp (disch := omega) only [iI_lit, iJ_lit, iJ_eq, iI_eq, bI_01, bI_01I] <;> omega)) only [c_Dm_readScreen, e_Dm_readScreen_0, e_Dm_readScreen_1, e_Dm_readScreen_4, e_Dm_readScreen_5, e_Dm_readScreen_6, e_Dm_readScreen_7, e_Dm_readScreen_8, e_Dm_readScreen_10, e_Dm_readScreen_13, bd_some, bd_none, Option.toList_some, Option.toList_none, List.nil_append, List.cons_append, px_kill_int, px_kill_long, px_kill_ref, px_kill_null, iI_lit, iJ_lit, iI_add, iI_sub, iI_mul, iI_neg, iJ_add, iJ_sub, iJ_mul, iJ_neg, iI_lt, iI_le, iI_eq, iJ_lt, iJ_le, iJ_eq, iI_div, iJ_div, tdiv_tmod, iI_J, iJ_I, iI_ix, iI_toInt, iJ_toInt, cmp_ge, cmp_lt, cmp_eq, cmp_gt, cmp_le, cmp_geI, cmp_ltI, cmp_eqI, cmp_gtI, cmp_leI, bI_0I, bI_1I, pin, if_true, sh_n55, i0, e1]
    rw [← hT1']
    simp (disch := first | omega | assumption | decide | (simp (disch := omega) only [iI_lit, iJ_lit, iJ_eq, iI_eq, bI_01, bI_01I] <;> omega)) only [e_Dm_readScreen_14, e_Dm_readScreen_15, e_Dm_readScreen_17, e_Dm_readScreen_20, e_Dm_readScreen_21, e_Dm_readScreen_24, e_Dm_readScreen_25, e_Dm_readScreen_26, e_Dm_readScreen_27, e_Dm_readScreen_28, e_Dm_readScreen_30, e_Dm_readScreen_33, e_Dm_readScreen_34, e_Dm_readScreen_35, e_Dm_readScreen_38, e_Dm_readScreen_39, e_Dm_readScreen_40, e_Dm_readScreen_41, e_Dm_readScreen_42, e_Dm_readScreen_45, e_Dm_readScreen_46, e_Dm_readScreen_47, e_Dm_readScreen_48, e_Dm_readScreen_49, e_Dm_readScreen_50, e_Dm_readScreen_51, e_Dm_readScreen_52, e_Dm_readScreen_55, e_Dm_readScreen_56, e_Dm_readScreen_57, e_Dm_readScreen_58, e_Dm_readScreen_59, e_Dm_readScreen_62, e_Dm_readScreen_63, e_Dm_readScreen_64, e_Dm_readScreen_65, e_Dm_readScreen_66, bd_some, bd_none, Option.toList_some, Option.toList_none, List.nil_append, List.cons_append, px_kill_int, px_kill_long, px_kill_ref, px_kill_null, iI_lit, iJ_lit, iI_add, iI_sub, iI_mul, iI_neg, iJ_add, iJ_sub, iJ_mul, iJ_neg, iI_lt, iI_le, iI_eq, iJ_lt, iJ_le, iJ_eq, iI_div, iJ_div, tdiv_tmod, iI_J, iJ_I, iI_ix, iI_toInt, iJ_toInt, cmp_ge, cmp_lt, cmp_eq, cmp_gt, cmp_le, cmp_geI, cmp_ltI, cmp_eqI, cmp_gtI, cmp_leI, bI_0I, bI_1I, pin, if_true, sh_n55, i0, i1, i2, i3, e2, e3, sI_get, sJ_get, sI_2, sJ_1, sJ_22, sR_1, sR_21, Nat.reduceEqDiff, and_true, true_and, and_false, false_and, and_self, if_true, if_false, reduceIte, n01, n02, n12, z1]
    rw [← hT4]
    simp (disch := first | omega | assumption | decide | (simp (disch := omega) only [iI_lit, iJ_lit, iJ_eq, iI_eq, bI_01, bI_01I] <;> omega)) only [e_Dm_readScreen_67, e_Dm_readScreen_68, e_Dm_readScreen_70, bd_some, bd_none, Option.toList_some, Option.toList_none, List.nil_append, List.cons_append, px_kill_int, px_kill_long, px_kill_ref, px_kill_null, iI_lit, iJ_lit, iI_add, iI_sub, iI_mul, iI_neg, iJ_add, iJ_sub, iJ_mul, iJ_neg, iI_lt, iI_le, iI_eq, iJ_lt, iJ_le, iJ_eq, iI_div, iJ_div, tdiv_tmod, iI_J, iJ_I, iI_ix, iI_toInt, iJ_toInt, cmp_ge, cmp_lt, cmp_eq, cmp_gt, cmp_le, cmp_geI, cmp_ltI, cmp_eqI, cmp_gtI, cmp_leI, bI_0I, bI_1I, pin, if_true, e5]
  have no : tkB t (mdO (nuD t (muD t (mdO (nuD t (.inr a) 12)) 44) 12)) 44 = 0 → cl k_Dm_readScreen [.ref 53, .int (iI ((8 * r : Nat) : Int))] (enc T) = some (none, enc T5) := by
    intro z
    rw [pre, z]
    simp (disch := first | omega | assumption | decide | (simp (disch := omega) only [iI_lit, iJ_lit, iJ_eq, iI_eq, bI_01, bI_01I] <;> omega)) only [e_Dm_readScreen_73, e_Dm_readScreen_110, bd_some, bd_none, Option.toList_some, Option.toList_none, List.nil_append, List.cons_append, px_kill_int, px_kill_long, px_kill_ref, px_kill_null, iI_lit, iJ_lit, iI_add, iI_sub, iI_mul, iI_neg, iJ_add, iJ_sub, iJ_mul, iJ_neg, iI_lt, iI_le, iI_eq, iJ_lt, iJ_le, iJ_eq, iI_div, iJ_div, tdiv_tmod, iI_J, iJ_I, iI_ix, iI_toInt, iJ_toInt, cmp_ge, cmp_lt, cmp_eq, cmp_gt, cmp_le, cmp_geI, cmp_ltI, cmp_eqI, cmp_gtI, cmp_leI, bI_0I, bI_1I, pin, if_true]
  -- the modes
  unfold pscr pcpl
  clear g1 g1' g2 g3 g4 e5
  have en1 : pnum t (SK t a) false 12 2 = nuD t (.inr a) 12 := rfl
  rw [en1]
  generalize nuD t (.inr a) 12 = P1 at q1 q3 g5 pre no ⊢
  cases P1 with
  | inl e =>
    refine ⟨T5, no rfl, f5', fun e' he => ?_, fun x hx => by cases hx⟩
    cases he
    exact g5
  | inr x =>
    simp only
    have em : muD t (mdO (.inr x)) 44 = if sg t (SK t x.2) = 44 then .inr (SK t x.2 + 1) else .inl (SK t x.2) := rfl
    by_cases c1 : sg t (SK t x.2) = 44
    case neg =>
      rw [if_neg c1] at em
      rw [if_neg c1]
      rw [em] at g5 no
      refine ⟨T5, no rfl, f5', fun e' he => ?_, fun x hx => by cases hx⟩
      cases he
      exact g5
    rw [if_pos c1] at em
    rw [if_pos c1]
    rw [em] at q3 g5 pre no
    have en2 : pnum t (SK t (SK t x.2 + 1)) false 12 2 = nuD t (.inr (SK t x.2 + 1)) 12 := rfl
    rw [en2]
    generalize nuD t (.inr (SK t x.2 + 1)) 12 = P2 at q3 g5 pre no ⊢
    cases P2 with
    | inl e =>
      refine ⟨T5, no rfl, f5', fun e' he => ?_, fun x hx => by cases hx⟩
      cases he
      exact g5
    | inr y =>
      simp only
      have u1 := q1 x rfl
      have u2 := q3 y rfl
      have et : tkD t (mdO (.inr y)) 44 = if sg t (SK t y.2) = 44 then .inr (SK t y.2 + 1) else .inr (SK t y.2) := rfl
      have eb : tkB t (mdO (.inr y)) 44 = if sg t (SK t y.2) = 44 then 1 else 0 := rfl
      by_cases c2 : sg t (SK t y.2) = 44
      case neg =>
        rw [if_neg c2] at et eb
        rw [if_neg c2]
        rw [et] at g5
        refine ⟨T5, no eb, f5', fun e' he => (by cases he), fun z hz => ?_⟩
        cases hz
        exact ⟨SK t y.2, g5, SK_SK ht _, by rw [w0, u1], by rw [w1, u2], by rw [w2, u2, iI_neg], by rw [w3, u1]⟩
      rw [if_pos c2] at et eb
      rw [if_pos c2]
      rw [et] at g5
      rw [eb] at pre
      obtain ⟨T6, v3, e6, f6, g6, q6⟩ := m_number ht (hT.fr f5' (fun q k z => aRi_p z)) g5 (most := 12) (by omega)
      have f6' := f5'.tr f6.ri
      obtain ⟨T6', hT6'⟩ : ∃ T6', T6' = sI T6 55 (8 * r + 2) v3 := ⟨_, rfl⟩
      have f6'' : FrI (aRi r) T T6' := by rw [hT6']; exact f6'.wr _ (Or.inr ⟨rfl, by omega, by omega⟩)
      have g6' : hMd T6' t (mdO (nuD t (.inr (SK t y.2 + 1)) 12)) := by rw [hT6']; exact g6.w55 _ _
      obtain ⟨T7, e7, f7, g7⟩ := m_must ht (hT.fr f6'' (fun q k z => aRi_p z)) g6' (c := 44) (by omega)
      have f7' := f6''.tr f7.ri
      obtain ⟨T8, v4, e8, f8, g8, q8⟩ := m_number ht (hT.fr f7' (fun q k z => aRi_p z)) g7 (most := 12) (by omega)
      have f8' := f7'.tr f8.ri
      have y0 : T8.1 55 (8 * r) = v1 := by rw [f8.1 _ _ (by unfold aAw; omega), f7.1 _ _ (by unfold aAw; omega), hT6', wr_ne _ _ (by omega), f6.1 _ _ (by unfold aAw; omega)]; exact w0
      have y1 : T8.1 55 (8 * r + 1) = v2 := by rw [f8.1 _ _ (by unfold aAw; omega), f7.1 _ _ (by unfold aAw; omega), hT6', wr_ne _ _ (by omega), f6.1 _ _ (by unfold aAw; omega)]; exact w1
      have y2 : T8.1 55 (8 * r + 2) = v3 := by rw [f8.1 _ _ (by unfold aAw; omega), f7.1 _ _ (by unfold aAw; omega), hT6']; simp only [sI_get, sJ_get, sI_2, sJ_1, sJ_22, sR_1, sR_21, Nat.reduceEqDiff, and_true, true_and, and_false, false_and, and_self, if_true, if_false, reduceIte]
      have fin : cl k_Dm_readScreen [.ref 53, .int (iI ((8 * r : Nat) : Int))] (enc T) = some (none, enc (sI T8 55 (8 * r + 3) v4)) := by
        rw [pre]
        simp (disch := first | omega | assumption | decide | (simp (disch := omega) only [iI_lit, iJ_lit, iJ_eq, iI_eq, bI_01, bI_01I] <;> omega)) only [e_Dm_readScreen_73, e_Dm_readScreen_76, e_Dm_readScreen_77, e_Dm_readScreen_80, e_Dm_readScreen_81, e_Dm_readScreen_82, e_Dm_readScreen_83, e_Dm_readScreen_84, e_Dm_readScreen_86, e_Dm_readScreen_89, bd_some, bd_none, Option.toList_some, Option.toList_none, List.nil_append, List.cons_append, px_kill_int, px_kill_long, px_kill_ref, px_kill_null, iI_lit, iJ_lit, iI_add, iI_sub, iI_mul, iI_neg, iJ_add, iJ_sub, iJ_mul, iJ_neg, iI_lt, iI_le, iI_eq, iJ_lt, iJ_le, iJ_eq, iI_div, iJ_div, tdiv_tmod, iI_J, iJ_I, iI_ix, iI_toInt, iJ_toInt, cmp_ge, cmp_lt, cmp_eq, cmp_gt, cmp_le, cmp_geI, cmp_ltI, cmp_eqI, cmp_gtI, cmp_leI, bI_0I, bI_1I, pin, if_true, one0, if_false, sh_n55, i2, e6]
        rw [← hT6']
        simp (disch := first | omega | assumption | decide | (simp (disch := omega) only [iI_lit, iJ_lit, iJ_eq, iI_eq, bI_01, bI_01I] <;> omega)) only [e_Dm_readScreen_90, e_Dm_readScreen_91, e_Dm_readScreen_93, e_Dm_readScreen_96, e_Dm_readScreen_97, e_Dm_readScreen_100, e_Dm_readScreen_101, e_Dm_readScreen_102, e_Dm_readScreen_103, e_Dm_readScreen_104, e_Dm_readScreen_106, e_Dm_readScreen_109, e_Dm_readScreen_110, bd_some, bd_none, Option.toList_some, Option.toList_none, List.nil_append, List.cons_append, px_kill_int, px_kill_long, px_kill_ref, px_kill_null, iI_lit, iJ_lit, iI_add, iI_sub, iI_mul, iI_neg, iJ_add, iJ_sub, iJ_mul, iJ_neg, iI_lt, iI_le, iI_eq, iJ_lt, iJ_le, iJ_eq, iI_div, iJ_div, tdiv_tmod, iI_J, iJ_I, iI_ix, iI_toInt, iJ_toInt, cmp_ge, cmp_lt, cmp_eq, cmp_gt, cmp_le, cmp_geI, cmp_ltI, cmp_eqI, cmp_gtI, cmp_leI, bI_0I, bI_1I, pin, if_true, sh_n55, i3, e7, e8]
      have f9 : FrI (aRi r) T (sI T8 55 (8 * r + 3) v4) := f8'.wr _ (Or.inr ⟨rfl, by omega, by omega⟩)
      have g9 := g8.w55 (8 * r + 3) v4
      refine ⟨_, fin, f9, ?_⟩
      clear g6 g6' g7 g8
      have en3 : pnum t (SK t (SK t y.2 + 1)) false 12 2 = nuD t (.inr (SK t y.2 + 1)) 12 := rfl
      rw [en3]
      generalize nuD t (.inr (SK t y.2 + 1)) 12 = P3 at q6 q8 g9 ⊢
      cases P3 with
      | inl e =>
        refine ⟨fun e' he => ?_, fun x hx => by cases hx⟩
        cases he
        exact g9
      | inr x3 =>
        simp only
        have em3 : muD t (mdO (.inr x3)) 44 = if sg t (SK t x3.2) = 44 then .inr (SK t x3.2 + 1) else .inl (SK t x3.2) := rfl
        by_cases c3 : sg t (SK t x3.2) = 44
        case neg =>
          rw [if_neg c3] at em3
          rw [if_neg c3]
          rw [em3] at g9
          refine ⟨fun e' he => ?_, fun x hx => by cases hx⟩
          cases he
          exact g9
        rw [if_pos c3] at em3
        rw [if_pos c3]
        rw [em3] at q8 g9
        have en4 : pnum t (SK t (SK t x3.2 + 1)) false 12 2 = nuD t (.inr (SK t x3.2 + 1)) 12 := rfl
        rw [en4]
        generalize nuD t (.inr (SK t x3.2 + 1)) 12 = P4 at q8 g9 ⊢
        cases P4 with
        | inl e =>
          refine ⟨fun e' he => ?_, fun x hx => by cases hx⟩
          cases he
          exact g9
        | inr y4 =>
          refine ⟨fun e' he => (by cases he), fun z hz => ?_⟩
          cases hz
          have u3 := q6 x3 rfl
          have u4 := q8 y4 rfl
          exact ⟨y4.2, g9, rfl, by rw [wr_ne _ _ (by omega), y0, u1], by rw [wr_ne _ _ (by omega), y1, u2], by rw [wr_ne _ _ (by omega), y2, u3], by simp only [sI_get, sJ_get, sI_2, sJ_1, sJ_22, sR_1, sR_21, Nat.reduceEqDiff, and_true, true_and, and_false, false_and, and_self, if_true, if_false, reduceIte]; rw [u4]⟩
/-! letters -/
def lhI (c : Int) : Int := if ltr c = 3 then -1 else (ltr c : Int)
theorem m_lh {c : Int} (hc : -1 ≤ c ∧ c ≤ 255) (T : TS) {g : px_G} (e : cl k_Dm_ahead [.ref 53] (enc T) = some (some (.int (iI c)), g)) : cl k_Dm_letterHere [.ref 53] (enc T) = some (some (.int (iI (lhI c))), g) := by
  by_cases c4 : c = 114
  · subst c4; simp (disch := first | omega | assumption | decide | (simp (disch := omega) only [iI_lit, iJ_lit, iJ_eq, iI_eq, bI_01, bI_01I] <;> omega)) only [c_Dm_letterHere, e_Dm_letterHere_0, e_Dm_letterHere_1, e_Dm_letterHere_4, e_Dm_letterHere_5, e_Dm_letterHere_6, e_Dm_letterHere_8, e_Dm_letterHere_11, e_Dm_letterHere_12, e_Dm_letterHere_14, e_Dm_letterHere_17, e_Dm_letterHere_18, e_Dm_letterHere_20, e_Dm_letterHere_23, e_Dm_letterHere_24, e_Dm_letterHere_27, e_Dm_letterHere_28, e_Dm_letterHere_30, e_Dm_letterHere_33, e_Dm_letterHere_34, e_Dm_letterHere_37, e_Dm_letterHere_38, e_Dm_letterHere_40, e_Dm_letterHere_43, e_Dm_letterHere_44, e_Dm_letterHere_47, e_Dm_letterHere_48, bd_some, bd_none, Option.toList_some, Option.toList_none, List.nil_append, List.cons_append, px_kill_int, px_kill_long, px_kill_ref, px_kill_null, iI_lit, iJ_lit, iI_add, iI_sub, iI_mul, iI_neg, iJ_add, iJ_sub, iJ_mul, iJ_neg, iI_lt, iI_le, iI_eq, iJ_lt, iJ_le, iJ_eq, iI_div, iJ_div, tdiv_tmod, iI_J, iJ_I, iI_ix, iI_toInt, iJ_toInt, cmp_ge, cmp_lt, cmp_eq, cmp_gt, cmp_le, cmp_geI, cmp_ltI, cmp_eqI, cmp_gtI, cmp_leI, bI_0I, bI_1I, pin, if_true, e]; rfl
  by_cases c1 : c = 100
  · subst c1; simp (disch := first | omega | assumption | decide | (simp (disch := omega) only [iI_lit, iJ_lit, iJ_eq, iI_eq, bI_01, bI_01I] <;> omega)) only [c_Dm_letterHere, e_Dm_letterHere_0, e_Dm_letterHere_1, e_Dm_letterHere_4, e_Dm_letterHere_5, e_Dm_letterHere_6, e_Dm_letterHere_8, e_Dm_letterHere_11, e_Dm_letterHere_12, e_Dm_letterHere_14, e_Dm_letterHere_17, e_Dm_letterHere_18, e_Dm_letterHere_20, e_Dm_letterHere_23, e_Dm_letterHere_24, e_Dm_letterHere_27, e_Dm_letterHere_28, e_Dm_letterHere_30, e_Dm_letterHere_33, e_Dm_letterHere_34, e_Dm_letterHere_37, e_Dm_letterHere_38, e_Dm_letterHere_40, e_Dm_letterHere_43, e_Dm_letterHere_44, e_Dm_letterHere_47, e_Dm_letterHere_48, bd_some, bd_none, Option.toList_some, Option.toList_none, List.nil_append, List.cons_append, px_kill_int, px_kill_long, px_kill_ref, px_kill_null, iI_lit, iJ_lit, iI_add, iI_sub, iI_mul, iI_neg, iJ_add, iJ_sub, iJ_mul, iJ_neg, iI_lt, iI_le, iI_eq, iJ_lt, iJ_le, iJ_eq, iI_div, iJ_div, tdiv_tmod, iI_J, iJ_I, iI_ix, iI_toInt, iJ_toInt, cmp_ge, cmp_lt, cmp_eq, cmp_gt, cmp_le, cmp_geI, cmp_ltI, cmp_eqI, cmp_gtI, cmp_leI, bI_0I, bI_1I, pin, if_true, e, c4, if_false]; rfl
  by_cases c2 : c = 108
  · subst c2; simp (disch := first | omega | assumption | decide | (simp (disch := omega) only [iI_lit, iJ_lit, iJ_eq, iI_eq, bI_01, bI_01I] <;> omega)) only [c_Dm_letterHere, e_Dm_letterHere_0, e_Dm_letterHere_1, e_Dm_letterHere_4, e_Dm_letterHere_5, e_Dm_letterHere_6, e_Dm_letterHere_8, e_Dm_letterHere_11, e_Dm_letterHere_12, e_Dm_letterHere_14, e_Dm_letterHere_17, e_Dm_letterHere_18, e_Dm_letterHere_20, e_Dm_letterHere_23, e_Dm_letterHere_24, e_Dm_letterHere_27, e_Dm_letterHere_28, e_Dm_letterHere_30, e_Dm_letterHere_33, e_Dm_letterHere_34, e_Dm_letterHere_37, e_Dm_letterHere_38, e_Dm_letterHere_40, e_Dm_letterHere_43, e_Dm_letterHere_44, e_Dm_letterHere_47, e_Dm_letterHere_48, bd_some, bd_none, Option.toList_some, Option.toList_none, List.nil_append, List.cons_append, px_kill_int, px_kill_long, px_kill_ref, px_kill_null, iI_lit, iJ_lit, iI_add, iI_sub, iI_mul, iI_neg, iJ_add, iJ_sub, iJ_mul, iJ_neg, iI_lt, iI_le, iI_eq, iJ_lt, iJ_le, iJ_eq, iI_div, iJ_div, tdiv_tmod, iI_J, iJ_I, iI_ix, iI_toInt, iJ_toInt, cmp_ge, cmp_lt, cmp_eq, cmp_gt, cmp_le, cmp_geI, cmp_ltI, cmp_eqI, cmp_gtI, cmp_leI, bI_0I, bI_1I, pin, if_true, e, c4, c1, if_false]; rfl
  by_cases c5 : c = 116
  · subst c5; simp (disch := first | omega | assumption | decide | (simp (disch := omega) only [iI_lit, iJ_lit, iJ_eq, iI_eq, bI_01, bI_01I] <;> omega)) only [c_Dm_letterHere, e_Dm_letterHere_0, e_Dm_letterHere_1, e_Dm_letterHere_4, e_Dm_letterHere_5, e_Dm_letterHere_6, e_Dm_letterHere_8, e_Dm_letterHere_11, e_Dm_letterHere_12, e_Dm_letterHere_14, e_Dm_letterHere_17, e_Dm_letterHere_18, e_Dm_letterHere_20, e_Dm_letterHere_23, e_Dm_letterHere_24, e_Dm_letterHere_27, e_Dm_letterHere_28, e_Dm_letterHere_30, e_Dm_letterHere_33, e_Dm_letterHere_34, e_Dm_letterHere_37, e_Dm_letterHere_38, e_Dm_letterHere_40, e_Dm_letterHere_43, e_Dm_letterHere_44, e_Dm_letterHere_47, e_Dm_letterHere_48, bd_some, bd_none, Option.toList_some, Option.toList_none, List.nil_append, List.cons_append, px_kill_int, px_kill_long, px_kill_ref, px_kill_null, iI_lit, iJ_lit, iI_add, iI_sub, iI_mul, iI_neg, iJ_add, iJ_sub, iJ_mul, iJ_neg, iI_lt, iI_le, iI_eq, iJ_lt, iJ_le, iJ_eq, iI_div, iJ_div, tdiv_tmod, iI_J, iJ_I, iI_ix, iI_toInt, iJ_toInt, cmp_ge, cmp_lt, cmp_eq, cmp_gt, cmp_le, cmp_geI, cmp_ltI, cmp_eqI, cmp_gtI, cmp_leI, bI_0I, bI_1I, pin, if_true, e, c4, c1, c2, if_false]; rfl
  by_cases c3 : c = 111
  · subst c3; simp (disch := first | omega | assumption | decide | (simp (disch := omega) only [iI_lit, iJ_lit, iJ_eq, iI_eq, bI_01, bI_01I] <;> omega)) only [c_Dm_letterHere, e_Dm_letterHere_0, e_Dm_letterHere_1, e_Dm_letterHere_4, e_Dm_letterHere_5, e_Dm_letterHere_6, e_Dm_letterHere_8, e_Dm_letterHere_11, e_Dm_letterHere_12, e_Dm_letterHere_14, e_Dm_letterHere_17, e_Dm_letterHere_18, e_Dm_letterHere_20, e_Dm_letterHere_23, e_Dm_letterHere_24, e_Dm_letterHere_27, e_Dm_letterHere_28, e_Dm_letterHere_30, e_Dm_letterHere_33, e_Dm_letterHere_34, e_Dm_letterHere_37, e_Dm_letterHere_38, e_Dm_letterHere_40, e_Dm_letterHere_43, e_Dm_letterHere_44, e_Dm_letterHere_47, e_Dm_letterHere_48, bd_some, bd_none, Option.toList_some, Option.toList_none, List.nil_append, List.cons_append, px_kill_int, px_kill_long, px_kill_ref, px_kill_null, iI_lit, iJ_lit, iI_add, iI_sub, iI_mul, iI_neg, iJ_add, iJ_sub, iJ_mul, iJ_neg, iI_lt, iI_le, iI_eq, iJ_lt, iJ_le, iJ_eq, iI_div, iJ_div, tdiv_tmod, iI_J, iJ_I, iI_ix, iI_toInt, iJ_toInt, cmp_ge, cmp_lt, cmp_eq, cmp_gt, cmp_le, cmp_geI, cmp_ltI, cmp_eqI, cmp_gtI, cmp_leI, bI_0I, bI_1I, pin, if_true, e, c4, c1, c2, c5, if_false]; rfl
  · have e3 : lhI c = -1 := by
      unfold lhI ltr
      rw [if_neg (show ¬ (c = 114 ∨ c = 100 ∨ c = 108) by omega), if_neg c5, if_neg c3]
      rfl
    rw [e3]
    simp (disch := first | omega | assumption | decide | (simp (disch := omega) only [iI_lit, iJ_lit, iJ_eq, iI_eq, bI_01, bI_01I] <;> omega)) only [c_Dm_letterHere, e_Dm_letterHere_0, e_Dm_letterHere_1, e_Dm_letterHere_4, e_Dm_letterHere_5, e_Dm_letterHere_6, e_Dm_letterHere_8, e_Dm_letterHere_11, e_Dm_letterHere_12, e_Dm_letterHere_14, e_Dm_letterHere_17, e_Dm_letterHere_18, e_Dm_letterHere_20, e_Dm_letterHere_23, e_Dm_letterHere_24, e_Dm_letterHere_27, e_Dm_letterHere_28, e_Dm_letterHere_30, e_Dm_letterHere_33, e_Dm_letterHere_34, e_Dm_letterHere_37, e_Dm_letterHere_38, e_Dm_letterHere_40, e_Dm_letterHere_43, e_Dm_letterHere_44, e_Dm_letterHere_47, e_Dm_letterHere_48, bd_some, bd_none, Option.toList_some, Option.toList_none, List.nil_append, List.cons_append, px_kill_int, px_kill_long, px_kill_ref, px_kill_null, iI_lit, iJ_lit, iI_add, iI_sub, iI_mul, iI_neg, iJ_add, iJ_sub, iJ_mul, iJ_neg, iI_lt, iI_le, iI_eq, iJ_lt, iJ_le, iJ_eq, iI_div, iJ_div, tdiv_tmod, iI_J, iJ_I, iI_ix, iI_toInt, iJ_toInt, cmp_ge, cmp_lt, cmp_eq, cmp_gt, cmp_le, cmp_geI, cmp_ltI, cmp_eqI, cmp_gtI, cmp_leI, bI_0I, bI_1I, pin, if_true, e, c4, c1, c2, c3, c5, if_false]
/-- where the next sign stands, and its letter -/
theorem m_letterHere {T : TS} {t : TP} (ht : okTp t) (hT : hTm T t) {md : MD} (h : hMd T t md) : ∃ (T' : TS) (v : Int), cl k_Dm_letterHere [.ref 53] (enc T) = some (some (.int (iI v)), enc T') ∧ (-1 ≤ v ∧ v ≤ 2) ∧ FrI aAw T T' ∧ (∀ e, md = .inl e → hMd T' t (.inl e)) ∧ (∀ a, md = .inr a → hMd T' t (.inr (SK t a)) ∧ v = lhI (sg t (SK t a))) := by
  have bl : ∀ c, -1 ≤ lhI c ∧ lhI c ≤ 2 := by
    intro c
    have := ltr_le c
    unfold lhI
    split <;> omega
  cases md with
  | inl e =>
    obtain ⟨h1, h2, a, h3, h4⟩ := h
    obtain ⟨T1, e1, f1, g1⟩ := m_ahead ht a T hT h3 h4
    refine ⟨T1, _, m_lh (sg_bd ht _) T e1, bl _, f3_aw f1, fun e' he => ?_, fun a' ha => by cases ha⟩
    cases he
    exact ⟨by rw [f1.1 _ _ (by omega)]; exact h1, h2, SK t a, (SK_le ht a).2 h3, g1⟩
  | inr a =>
    obtain ⟨h1, h2, h3⟩ := h
    obtain ⟨T1, e1, f1, g1⟩ := m_ahead ht a T hT h2 h3
    refine ⟨T1, _, m_lh (sg_bd ht _) T e1, bl _, f3_aw f1, fun e' he => (by cases he), fun a' ha => ?_⟩
    cases ha
    exact ⟨⟨by rw [f1.1 _ _ (by omega)]; exact h1, (SK_le ht a).2 h2, g1⟩, rfl⟩
def hPm (T : TS) (r : Nat) (f : Nat → Int) : Prop := ∀ k, k < 8 → T.1 55 (8 * r + k) = iI (f k)
theorem pnum_t (t : TP) (k : Nat) : pnum t k true 100 3 = dgD t k 100 3 := by
  have e1 : k1N t k true = k := if_neg (fun z => by cases z.2)
  have e2 : ∀ v, sgN t k true v = v := fun v => if_neg (fun z => by cases z.2)
  unfold pnum dgD
  rw [e1]
  split
  · generalize pD t 3 k 0 = P
    cases P with
    | inl e => rfl
    | inr x =>
      simp only
      rw [e2]
  · rfl
set_option maxHeartbeats 8000000 in
theorem m_readLetter {T : TS} {t : TP} (ht : okTp t) (hT : hTm T t) {k : Nat} (h : hMd T t (.inr k)) {r : Nat} (hr : r < 4) {hb : Nat} {f : Nat → Int} (hP : hPm T r f) (h3 : ltr (sg t k) ≠ 3) (hnb : ¬ hasB hb (ltr (sg t k))) : ∃ T' : TS, cl k_Dm_readLetter [.ref 53, .int (iI ((8 * r : Nat) : Int)), .int (iI (ltr (sg t k) : Int))] (enc T) = some (none, enc T') ∧ FrI (aRi r) T T' ∧ (∀ e, plS t k hb f = .inl e → hMd T' t (.inl e)) ∧ (∀ y, plS t k hb f = .inr y → ∃ a', hMd T' t (.inr a') ∧ SK t a' = y.1 ∧ hPm T' r y.2.2) := by
  obtain ⟨h1, h2, hA⟩ := id h
  have hl := ht.1
  have lt3 := ltr_le (sg t k)
  have eh := m_here ht hT h2 hA
  have bs := sg_bd ht k
  have hlt : k < t.1 := by
    apply sg_lt
    intro z
    rw [z] at h3
    exact h3 rfl
  have i4 : (((8 * r : Nat) : Int) + 4).toNat = 8 * r + 4 := by omega
  have i5 : (((8 * r : Nat) : Int) + 5).toNat = 8 * r + 5 := by omega
  have i6 : (((8 * r : Nat) : Int) + 6).toNat = 8 * r + 6 := by omega
  have i7 : (((8 * r : Nat) : Int) + 7).toNat = 8 * r + 7 := by omega
  obtain ⟨T1, hT1⟩ : ∃ T1, T1 = sI T 53 3 (iI ((k : Int) + 1)) := ⟨_, rfl⟩
  have f1 : FrI (aRi r) T T1 := by rw [hT1]; exact (FrI.rf _ T).wr _ (Or.inl ⟨rfl, by omega⟩)
  have g1 : hMd T1 t (.inr (k + 1)) := by
    rw [hT1]
    exact ⟨by rw [wr_ne _ _ (by omega)]; exact h1, by omega, by rw [show ((k + 1 : Nat) : Int) = (k : Int) + 1 by omega]; simp only [sI_get, sJ_get, sI_2, sJ_1, sJ_22, sR_1, sR_21, Nat.reduceEqDiff, and_true, true_and, and_false, false_and, and_self, if_true, if_false, reduceIte]⟩
  have hTT1 := hT.fr f1 (fun q k z => aRi_p z)
  have hP1 : hPm T1 r f := fun q hq => by rw [hT1, wr_ne _ _ (by omega)]; exact hP q hq
  have pre : ∀ L : Int32, cl k_Dm_readLetter [.ref 53, .int (iI ((8 * r : Nat) : Int)), .int L] (enc T) = rn k_Dm_readLetter 15 [.ref 53, .int (iI ((8 * r : Nat) : Int)), .int L, .int (iI (sg t k))] [] (enc T1) := by
    intro L
    rw [hT1]
    simp (disch := first | omega | assumption | decide | (simp (disch := omega) only [iI_lit, iJ_lit, iJ_eq, iI_eq, bI_01, bI_01I] <;> omega)) only [c_Dm_readLetter, e_Dm_readLetter_0, e_Dm_readLetter_1, e_Dm_readLetter_4, e_Dm_readLetter_5, e_Dm_readLetter_6, e_Dm_readLetter_7, e_Dm_readLetter_10, e_Dm_readLetter_11, e_Dm_readLetter_12, bd_some, bd_none, Option.toList_some, Option.toList_none, List.nil_append, List.cons_append, px_kill_int, px_kill_long, px_kill_ref, px_kill_null, iI_lit, iJ_lit, iI_add, iI_sub, iI_mul, iI_neg, iJ_add, iJ_sub, iJ_mul, iJ_neg, iI_lt, iI_le, iI_eq, iJ_lt, iJ_le, iJ_eq, iI_div, iJ_div, tdiv_tmod, iI_J, iJ_I, iI_ix, iI_toInt, iJ_toInt, cmp_ge, cmp_lt, cmp_eq, cmp_gt, cmp_le, cmp_geI, cmp_ltI, cmp_eqI, cmp_gtI, cmp_leI, bI_0I, bI_1I, pin, if_true, eh, hA]
  unfold plS
  rw [if_neg (fun z => z.elim h3 hnb)]
  by_cases c0 : ltr (sg t k) = 0
  · rw [if_pos c0]
    have eL : (ltr (sg t k) : Int) = 0 := by omega
    refine ⟨sI T1 55 (8 * r + 4) (iI (knd (sg t k))), ?_, f1.wr _ (Or.inr ⟨rfl, by omega, by omega⟩), fun e he => (by cases he), fun y hy => ?_⟩
    · rw [pre, eL]
      by_cases k1 : sg t k = 114
      · have ek : knd (sg t k) = 0 := by rw [k1]; rfl
        rw [ek, k1]
        simp (disch := first | omega | assumption | decide | (simp (disch := omega) only [iI_lit, iJ_lit, iJ_eq, iI_eq, bI_01, bI_01I] <;> omega)) only [e_Dm_readLetter_15, e_Dm_readLetter_16, e_Dm_readLetter_19, e_Dm_readLetter_20, e_Dm_readLetter_23, e_Dm_readLetter_24, e_Dm_readLetter_25, e_Dm_readLetter_26, e_Dm_readLetter_27, e_Dm_readLetter_29, e_Dm_readLetter_32, e_Dm_readLetter_33, e_Dm_readLetter_36, e_Dm_readLetter_37, e_Dm_readLetter_39, e_Dm_readLetter_42, e_Dm_readLetter_43, e_Dm_readLetter_46, e_Dm_readLetter_47, e_Dm_readLetter_48, e_Dm_readLetter_51, e_Dm_readLetter_52, e_Dm_readLetter_53, e_Dm_readLetter_56, e_Dm_readLetter_57, e_Dm_readLetter_60, e_Dm_readLetter_61, e_Dm_readLetter_62, e_Dm_readLetter_65, e_Dm_readLetter_66, e_Dm_readLetter_67, e_Dm_readLetter_68, e_Dm_readLetter_69, e_Dm_readLetter_70, e_Dm_readLetter_71, e_Dm_readLetter_73, e_Dm_readLetter_74, e_Dm_readLetter_77, e_Dm_readLetter_78, e_Dm_readLetter_81, e_Dm_readLetter_82, e_Dm_readLetter_85, e_Dm_readLetter_86, e_Dm_readLetter_88, e_Dm_readLetter_89, e_Dm_readLetter_90, e_Dm_readLetter_92, e_Dm_readLetter_95, e_Dm_readLetter_96, e_Dm_readLetter_97, e_Dm_readLetter_99, e_Dm_readLetter_102, e_Dm_readLetter_103, e_Dm_readLetter_106, e_Dm_readLetter_107, e_Dm_readLetter_109, e_Dm_readLetter_110, e_Dm_readLetter_111, e_Dm_readLetter_113, e_Dm_readLetter_116, e_Dm_readLetter_117, bd_some, bd_none, Option.toList_some, Option.toList_none, List.nil_append, List.cons_append, px_kill_int, px_kill_long, px_kill_ref, px_kill_null, iI_lit, iJ_lit, iI_add, iI_sub, iI_mul, iI_neg, iJ_add, iJ_sub, iJ_mul, iJ_neg, iI_lt, iI_le, iI_eq, iJ_lt, iJ_le, iJ_eq, iI_div, iJ_div, tdiv_tmod, iI_J, iJ_I, iI_ix, iI_toInt, iJ_toInt, cmp_ge, cmp_lt, cmp_eq, cmp_gt, cmp_le, cmp_geI, cmp_ltI, cmp_eqI, cmp_gtI, cmp_leI, bI_0I, bI_1I, pin, if_true, sh_n55, i4]
      · by_cases k2 : sg t k = 100
        · have ek : knd (sg t k) = 1 := by rw [k2]; rfl
          rw [ek, k2]
          have d3' : ¬ (100 : Int) = 114 := by omega
          simp (disch := first | omega | assumption | decide | (simp (disch := omega) only [iI_lit, iJ_lit, iJ_eq, iI_eq, bI_01, bI_01I] <;> omega)) only [e_Dm_readLetter_15, e_Dm_readLetter_16, e_Dm_readLetter_19, e_Dm_readLetter_20, e_Dm_readLetter_23, e_Dm_readLetter_24, e_Dm_readLetter_25, e_Dm_readLetter_26, e_Dm_readLetter_27, e_Dm_readLetter_29, e_Dm_readLetter_32, e_Dm_readLetter_33, e_Dm_readLetter_36, e_Dm_readLetter_37, e_Dm_readLetter_39, e_Dm_readLetter_42, e_Dm_readLetter_43, e_Dm_readLetter_46, e_Dm_readLetter_47, e_Dm_readLetter_48, e_Dm_readLetter_51, e_Dm_readLetter_52, e_Dm_readLetter_53, e_Dm_readLetter_56, e_Dm_readLetter_57, e_Dm_readLetter_60, e_Dm_readLetter_61, e_Dm_readLetter_62, e_Dm_readLetter_65, e_Dm_readLetter_66, e_Dm_readLetter_67, e_Dm_readLetter_68, e_Dm_readLetter_69, e_Dm_readLetter_70, e_Dm_readLetter_71, e_Dm_readLetter_73, e_Dm_readLetter_74, e_Dm_readLetter_77, e_Dm_readLetter_78, e_Dm_readLetter_81, e_Dm_readLetter_82, e_Dm_readLetter_85, e_Dm_readLetter_86, e_Dm_readLetter_88, e_Dm_readLetter_89, e_Dm_readLetter_90, e_Dm_readLetter_92, e_Dm_readLetter_95, e_Dm_readLetter_96, e_Dm_readLetter_97, e_Dm_readLetter_99, e_Dm_readLetter_102, e_Dm_readLetter_103, e_Dm_readLetter_106, e_Dm_readLetter_107, e_Dm_readLetter_109, e_Dm_readLetter_110, e_Dm_readLetter_111, e_Dm_readLetter_113, e_Dm_readLetter_116, e_Dm_readLetter_117, bd_some, bd_none, Option.toList_some, Option.toList_none, List.nil_append, List.cons_append, px_kill_int, px_kill_long, px_kill_ref, px_kill_null, iI_lit, iJ_lit, iI_add, iI_sub, iI_mul, iI_neg, iJ_add, iJ_sub, iJ_mul, iJ_neg, iI_lt, iI_le, iI_eq, iJ_lt, iJ_le, iJ_eq, iI_div, iJ_div, tdiv_tmod, iI_J, iJ_I, iI_ix, iI_toInt, iJ_toInt, cmp_ge, cmp_lt, cmp_eq, cmp_gt, cmp_le, cmp_geI, cmp_ltI, cmp_eqI, cmp_gtI, cmp_leI, bI_0I, bI_1I, pin, if_true, sh_n55, i4, d3', if_false]
        · have ek : knd (sg t k) = 2 := by unfold knd; rw [if_neg k1, if_neg k2]
          rw [ek]
          simp (disch := first | omega | assumption | decide | (simp (disch := omega) only [iI_lit, iJ_lit, iJ_eq, iI_eq, bI_01, bI_01I] <;> omega)) only [e_Dm_readLetter_15, e_Dm_readLetter_16, e_Dm_readLetter_19, e_Dm_readLetter_20, e_Dm_readLetter_23, e_Dm_readLetter_24, e_Dm_readLetter_25, e_Dm_readLetter_26, e_Dm_readLetter_27, e_Dm_readLetter_29, e_Dm_readLetter_32, e_Dm_readLetter_33, e_Dm_readLetter_36, e_Dm_readLetter_37, e_Dm_readLetter_39, e_Dm_readLetter_42, e_Dm_readLetter_43, e_Dm_readLetter_46, e_Dm_readLetter_47, e_Dm_readLetter_48, e_Dm_readLetter_51, e_Dm_readLetter_52, e_Dm_readLetter_53, e_Dm_readLetter_56, e_Dm_readLetter_57, e_Dm_readLetter_60, e_Dm_readLetter_61, e_Dm_readLetter_62, e_Dm_readLetter_65, e_Dm_readLetter_66, e_Dm_readLetter_67, e_Dm_readLetter_68, e_Dm_readLetter_69, e_Dm_readLetter_70, e_Dm_readLetter_71, e_Dm_readLetter_73, e_Dm_readLetter_74, e_Dm_readLetter_77, e_Dm_readLetter_78, e_Dm_readLetter_81, e_Dm_readLetter_82, e_Dm_readLetter_85, e_Dm_readLetter_86, e_Dm_readLetter_88, e_Dm_readLetter_89, e_Dm_readLetter_90, e_Dm_readLetter_92, e_Dm_readLetter_95, e_Dm_readLetter_96, e_Dm_readLetter_97, e_Dm_readLetter_99, e_Dm_readLetter_102, e_Dm_readLetter_103, e_Dm_readLetter_106, e_Dm_readLetter_107, e_Dm_readLetter_109, e_Dm_readLetter_110, e_Dm_readLetter_111, e_Dm_readLetter_113, e_Dm_readLetter_116, e_Dm_readLetter_117, bd_some, bd_none, Option.toList_some, Option.toList_none, List.nil_append, List.cons_append, px_kill_int, px_kill_long, px_kill_ref, px_kill_null, iI_lit, iJ_lit, iI_add, iI_sub, iI_mul, iI_neg, iJ_add, iJ_sub, iJ_mul, iJ_neg, iI_lt, iI_le, iI_eq, iJ_lt, iJ_le, iJ_eq, iI_div, iJ_div, tdiv_tmod, iI_J, iJ_I, iI_ix, iI_toInt, iJ_toInt, cmp_ge, cmp_lt, cmp_eq, cmp_gt, cmp_le, cmp_geI, cmp_ltI, cmp_eqI, cmp_gtI, cmp_leI, bI_0I, bI_1I, pin, if_true, sh_n55, i4, k1, k2, if_false]
    · cases hy
      refine ⟨k + 1, g1.w55 _ _, rfl, fun q hq => ?_⟩
      show _ = iI (setF f 4 (knd (sg t k)) q)
      unfold setF
      by_cases q4 : q = 4
      · rw [if_pos q4, q4]; simp only [sI_get, sJ_get, sI_2, sJ_1, sJ_22, sR_1, sR_21, Nat.reduceEqDiff, and_true, true_and, and_false, false_and, and_self, if_true, if_false, reduceIte]
      · rw [if_neg q4, wr_ne _ _ (by omega)]; exact hP1 q hq
  · rw [if_neg c0]
    by_cases c1 : ltr (sg t k) = 1
    · rw [if_pos c1]
      have eL : (ltr (sg t k) : Int) = 1 := by omega
      obtain ⟨m1, m2, m3⟩ := id g1
      obtain ⟨T2, e2, f2, g2⟩ := m_ahead ht (k + 1) T1 hTT1 m2 m3
      have hs := SK_le ht (k + 1)
      have g2' : hMd T2 t (.inr (SK t (k + 1))) := ⟨by rw [f2.1 _ _ (by omega)]; exact m1, hs.2 m2, g2⟩
      have f2' := f1.tr (f3_aw f2).ri
      obtain ⟨T3, v, e3, f3, g3, q3⟩ := m_digits ht (hT.fr f2' (fun q k z => aRi_p z)) g2' (dm := 3) (by omega) (lo := 0) (hi := 100) (b := 0) (Or.inl ⟨rfl, by omega⟩) (by omega) (by omega)
      have e33 : ((3 : Nat) : Int) = 3 := rfl
      rw [e33] at e3
      have f3' := f2'.tr f3.ri
      have hP3 : hPm T3 r f := fun q hq => by rw [f3.1 _ _ (by unfold aAw; omega), f2.1 _ _ (by omega)]; exact hP1 q hq
      refine ⟨sI T3 55 (8 * r + 5) v, ?_, f3'.wr _ (Or.inr ⟨rfl, by omega, by omega⟩), ?_⟩
      · rw [pre, eL]
        simp (disch := first | omega | assumption | decide | (simp (disch := omega) only [iI_lit, iJ_lit, iJ_eq, iI_eq, bI_01, bI_01I] <;> omega)) only [e_Dm_readLetter_15, e_Dm_readLetter_16, e_Dm_readLetter_19, e_Dm_readLetter_20, e_Dm_readLetter_23, e_Dm_readLetter_24, e_Dm_readLetter_25, e_Dm_readLetter_26, e_Dm_readLetter_27, e_Dm_readLetter_29, e_Dm_readLetter_32, e_Dm_readLetter_33, e_Dm_readLetter_36, e_Dm_readLetter_37, e_Dm_readLetter_39, e_Dm_readLetter_42, e_Dm_readLetter_43, e_Dm_readLetter_46, e_Dm_readLetter_47, e_Dm_readLetter_48, e_Dm_readLetter_51, e_Dm_readLetter_52, e_Dm_readLetter_53, e_Dm_readLetter_56, e_Dm_readLetter_57, e_Dm_readLetter_60, e_Dm_readLetter_61, e_Dm_readLetter_62, e_Dm_readLetter_65, e_Dm_readLetter_66, e_Dm_readLetter_67, e_Dm_readLetter_68, e_Dm_readLetter_69, e_Dm_readLetter_70, e_Dm_readLetter_71, e_Dm_readLetter_73, e_Dm_readLetter_74, e_Dm_readLetter_77, e_Dm_readLetter_78, e_Dm_readLetter_81, e_Dm_readLetter_82, e_Dm_readLetter_85, e_Dm_readLetter_86, e_Dm_readLetter_88, e_Dm_readLetter_89, e_Dm_readLetter_90, e_Dm_readLetter_92, e_Dm_readLetter_95, e_Dm_readLetter_96, e_Dm_readLetter_97, e_Dm_readLetter_99, e_Dm_readLetter_102, e_Dm_readLetter_103, e_Dm_readLetter_106, e_Dm_readLetter_107, e_Dm_readLetter_109, e_Dm_readLetter_110, e_Dm_readLetter_111, e_Dm_readLetter_113, e_Dm_readLetter_116, e_Dm_readLetter_117, bd_some, bd_none, Option.toList_some, Option.toList_none, List.nil_append, List.cons_append, px_kill_int, px_kill_long, px_kill_ref, px_kill_null, iI_lit, iJ_lit, iI_add, iI_sub, iI_mul, iI_neg, iJ_add, iJ_sub, iJ_mul, iJ_neg, iI_lt, iI_le, iI_eq, iJ_lt, iJ_le, iJ_eq, iI_div, iJ_div, tdiv_tmod, iI_J, iJ_I, iI_ix, iI_toInt, iJ_toInt, cmp_ge, cmp_lt, cmp_eq, cmp_gt, cmp_le, cmp_geI, cmp_ltI, cmp_eqI, cmp_gtI, cmp_leI, bI_0I, bI_1I, pin, if_true, one0, if_false, e2, sh_n55, i5, e3]
      · rw [pnum_t]
        have g4 := g3.w55 (8 * r + 5) v
        generalize dgD t (SK t (k + 1)) 100 3 = P at *
        cases P with
        | inl e =>
          refine ⟨fun e' he => ?_, fun y hy => by cases hy⟩
          cases he
          exact g4
        | inr x =>
          refine ⟨fun e' he => (by cases he), fun y hy => ?_⟩
          cases hy
          refine ⟨x.2, g4, rfl, fun q hq => ?_⟩
          show _ = iI (setF f 5 x.1 q)
          unfold setF
          by_cases q5 : q = 5
          · rw [if_pos q5, q5]; simp only [sI_get, sJ_get, sI_2, sJ_1, sJ_22, sR_1, sR_21, Nat.reduceEqDiff, and_true, true_and, and_false, false_and, and_self, if_true, if_false, reduceIte]; rw [q3 x rfl, if_neg (by omega)]
          · rw [if_neg q5, wr_ne _ _ (by omega)]; exact hP3 q hq
    · rw [if_neg c1]
      have eL : (ltr (sg t k) : Int) = 2 := by omega
      have n20 : ¬ (2 : Int) = 0 := by omega
      have n21 : ¬ (2 : Int) = 1 := by omega
      obtain ⟨T2, v1, e2, f2, g2, q2⟩ := m_number ht hTT1 g1 (most := 99) (by omega)
      have f2' := f1.tr f2.ri
      obtain ⟨T2', hT2'⟩ : ∃ T2', T2' = sI T2 55 (8 * r + 6) v1 := ⟨_, rfl⟩
      have f2'' : FrI (aRi r) T T2' := by rw [hT2']; exact f2'.wr _ (Or.inr ⟨rfl, by omega, by omega⟩)
      have g2' : hMd T2' t (mdO (nuD t (.inr (k + 1)) 99)) := by rw [hT2']; exact g2.w55 _ _
      obtain ⟨T3, e3, f3, g3⟩ := m_must ht (hT.fr f2'' (fun q k z => aRi_p z)) g2' (c := 44) (by omega)
      have f3' := f2''.tr f3.ri
      obtain ⟨T4, v2, e4, f4, g4, q4⟩ := m_number ht (hT.fr f3' (fun q k z => aRi_p z)) g3 (most := 99) (by omega)
      have f4' := f3'.tr f4.ri
      have g5 := g4.w55 (8 * r + 7) v2
      have hP4 : ∀ q, q < 8 → q ≠ 6 → T4.1 55 (8 * r + q) = iI (f q) := fun q hq h6 => by
        rw [f4.1 _ _ (by unfold aAw; omega), f3.1 _ _ (by unfold aAw; omega), hT2', wr_ne _ _ (by omega), f2.1 _ _ (by unfold aAw; omega)]
        exact hP1 q hq
      have v6 : T4.1 55 (8 * r + 6) = v1 := by rw [f4.1 _ _ (by unfold aAw; omega), f3.1 _ _ (by unfold aAw; omega), hT2']; simp only [sI_get, sJ_get, sI_2, sJ_1, sJ_22, sR_1, sR_21, Nat.reduceEqDiff, and_true, true_and, and_false, false_and, and_self, if_true, if_false, reduceIte]
      refine ⟨sI T4 55 (8 * r + 7) v2, ?_, f4'.wr _ (Or.inr ⟨rfl, by omega, by omega⟩), ?_⟩
      · rw [pre, eL]
        simp (disch := first | omega | assumption | decide | (simp (disch := omega) only [iI_lit, iJ_lit, iJ_eq, iI_eq, bI_01, bI_01I] <;> omega)) only [e_Dm_readLetter_15, e_Dm_readLetter_16, e_Dm_readLetter_19, e_Dm_readLetter_20, e_Dm_readLetter_23, e_Dm_readLetter_24, e_Dm_readLetter_25, e_Dm_readLetter_26, e_Dm_readLetter_27, e_Dm_readLetter_29, e_Dm_readLetter_32, e_Dm_readLetter_33, e_Dm_readLetter_36, e_Dm_readLetter_37, e_Dm_readLetter_39, e_Dm_readLetter_42, e_Dm_readLetter_43, e_Dm_readLetter_46, e_Dm_readLetter_47, e_Dm_readLetter_48, e_Dm_readLetter_51, e_Dm_readLetter_52, e_Dm_readLetter_53, e_Dm_readLetter_56, e_Dm_readLetter_57, e_Dm_readLetter_60, e_Dm_readLetter_61, e_Dm_readLetter_62, e_Dm_readLetter_65, e_Dm_readLetter_66, e_Dm_readLetter_67, e_Dm_readLetter_68, e_Dm_readLetter_69, e_Dm_readLetter_70, e_Dm_readLetter_71, e_Dm_readLetter_73, e_Dm_readLetter_74, e_Dm_readLetter_77, e_Dm_readLetter_78, e_Dm_readLetter_81, e_Dm_readLetter_82, e_Dm_readLetter_85, e_Dm_readLetter_86, e_Dm_readLetter_88, e_Dm_readLetter_89, e_Dm_readLetter_90, e_Dm_readLetter_92, e_Dm_readLetter_95, bd_some, bd_none, Option.toList_some, Option.toList_none, List.nil_append, List.cons_append, px_kill_int, px_kill_long, px_kill_ref, px_kill_null, iI_lit, iJ_lit, iI_add, iI_sub, iI_mul, iI_neg, iJ_add, iJ_sub, iJ_mul, iJ_neg, iI_lt, iI_le, iI_eq, iJ_lt, iJ_le, iJ_eq, iI_div, iJ_div, tdiv_tmod, iI_J, iJ_I, iI_ix, iI_toInt, iJ_toInt, cmp_ge, cmp_lt, cmp_eq, cmp_gt, cmp_le, cmp_geI, cmp_ltI, cmp_eqI, cmp_gtI, cmp_leI, bI_0I, bI_1I, pin, if_true, n20, n21, if_false, sh_n55, i6, e2]
        rw [← hT2']
        simp (disch := first | omega | assumption | decide | (simp (disch := omega) only [iI_lit, iJ_lit, iJ_eq, iI_eq, bI_01, bI_01I] <;> omega)) only [e_Dm_readLetter_96, e_Dm_readLetter_97, e_Dm_readLetter_99, e_Dm_readLetter_102, e_Dm_readLetter_103, e_Dm_readLetter_106, e_Dm_readLetter_107, e_Dm_readLetter_109, e_Dm_readLetter_110, e_Dm_readLetter_111, e_Dm_readLetter_113, e_Dm_readLetter_116, e_Dm_readLetter_117, bd_some, bd_none, Option.toList_some, Option.toList_none, List.nil_append, List.cons_append, px_kill_int, px_kill_long, px_kill_ref, px_kill_null, iI_lit, iJ_lit, iI_add, iI_sub, iI_mul, iI_neg, iJ_add, iJ_sub, iJ_mul, iJ_neg, iI_lt, iI_le, iI_eq, iJ_lt, iJ_le, iJ_eq, iI_div, iJ_div, tdiv_tmod, iI_J, iJ_I, iI_ix, iI_toInt, iJ_toInt, cmp_ge, cmp_lt, cmp_eq, cmp_gt, cmp_le, cmp_geI, cmp_ltI, cmp_eqI, cmp_gtI, cmp_leI, bI_0I, bI_1I, pin, if_true, sh_n55, i7, e3, e4]
      · unfold pcpl
        clear g2 g2' g3 g4
        have en1 : pnum t (SK t (k + 1)) false 99 2 = nuD t (.inr (k + 1)) 99 := rfl
        rw [en1]
        generalize nuD t (.inr (k + 1)) 99 = P1 at q2 q4 g5 ⊢
        cases P1 with
        | inl e =>
          refine ⟨fun e' he => ?_, fun y hy => by cases hy⟩
          cases he
          exact g5
        | inr x =>
          simp only
          have em : muD t (mdO (.inr x)) 44 = if sg t (SK t x.2) = 44 then .inr (SK t x.2 + 1) else .inl (SK t x.2) := rfl
          by_cases cc : sg t (SK t x.2) = 44
          case neg =>
            rw [if_neg cc] at em
            rw [if_neg cc]
            rw [em] at g5
            refine ⟨fun e' he => ?_, fun y hy => by cases hy⟩
            cases he
            exact g5
          rw [if_pos cc] at em
          rw [if_pos cc]
          rw [em] at q4 g5
          have en2 : pnum t (SK t (SK t x.2 + 1)) false 99 2 = nuD t (.inr (SK t x.2 + 1)) 99 := rfl
          rw [en2]
          generalize nuD t (.inr (SK t x.2 + 1)) 99 = P2 at q4 g5 ⊢
          cases P2 with
          | inl e =>
            refine ⟨fun e' he => ?_, fun y hy => by cases hy⟩
            cases he
            exact g5
          | inr y =>
            refine ⟨fun e' he => (by cases he), fun z hz => ?_⟩
            cases hz
            refine ⟨y.2, g5, rfl, fun q hq => ?_⟩
            show _ = iI (setF (setF f 6 x.1) 7 y.1 q)
            unfold setF
            by_cases q7 : q = 7
            · rw [if_pos q7, q7]; simp only [sI_get, sJ_get, sI_2, sJ_1, sJ_22, sR_1, sR_21, Nat.reduceEqDiff, and_true, true_and, and_false, false_and, and_self, if_true, if_false, reduceIte]; exact q4 y rfl
            · rw [if_neg q7, wr_ne _ _ (by omega)]
              by_cases q6 : q = 6
              · rw [if_pos q6, q6, v6]; exact q2 x rfl
              · rw [if_neg q6]; exact hP4 q hq q6
