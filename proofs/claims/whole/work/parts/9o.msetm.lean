/-! what a set of grids has in common: the reference's side. -/
theorem lp_first {V : VW} (hV : okV V) {m : Nat} (hm : m < 16) (g : px_G) (a3 a4 a5 a6 a7 a8 a9 a10 a11 a12 a13 a14 a15 : Value) : ∀ (n i : Nat), i + n = V.1 → gcm V m i = (1, 1, 0) → (∃ j, i ≤ j ∧ j < V.1 ∧ m / 2 ^ j % 2 = 1) → ∃ i', i' < V.1 ∧ m / 2 ^ i' % 2 = 1 ∧ gcm V m i' = (1, 1, 0) ∧ rn k_Dm_laysCommon 2 [.ref 53, .int (iI (m : Int)), .int (iI (i : Int)), a3, a4, a5, a6, a7, a8, a9, a10, a11, a12, a13, a14, a15] [] g = rn k_Dm_laysCommon 16 [.ref 53, .int (iI (m : Int)), .int (iI (i' : Int)), a3, a4, a5, a6, a7, a8, a9, a10, a11, a12, a13, a14, a15] [] g := by
  intro n
  induction n with
  | zero =>
    intro i hi _ hx
    obtain ⟨j, h1, h2, h3⟩ := hx
    omega
  | succ n ih =>
    intro i hi hg hx
    have h4 := hV.1
    have gh := g_has4 hm (j := i) (by omega) g
    by_cases c : m / 2 ^ i % 2 = 1
    · rw [bI_tI c] at gh
      refine ⟨i, by omega, c, hg, ?_⟩
      rw [e_Dm_laysCommon_2]
      simp (disch := first | omega | assumption | decide | (simp (disch := omega) only [iI_lit, iJ_lit, iJ_eq, iI_eq, bI_01, bI_01I] <;> omega)) only [e_Dm_laysCommon_3, e_Dm_laysCommon_4, e_Dm_laysCommon_7, e_Dm_laysCommon_10, e_Dm_laysCommon_13, bd_some, bd_none, Option.toList_some, Option.toList_none, List.nil_append, List.cons_append, px_kill_int, px_kill_long, px_kill_ref, px_kill_null, iI_lit, iJ_lit, iI_add, iI_sub, iI_mul, iI_neg, iJ_add, iJ_sub, iJ_mul, iJ_neg, iI_lt, iI_le, iI_eq, iJ_lt, iJ_le, iJ_eq, iI_div, iJ_div, tdiv_tmod, iI_J, iJ_I, iI_ix, iI_toInt, iJ_toInt, cmp_ge, cmp_lt, cmp_eq, cmp_gt, cmp_le, cmp_geI, cmp_ltI, cmp_eqI, cmp_gtI, cmp_leI, bI_0I, bI_1I, pin, if_true, gh, one0, if_false]
    · rw [bI_fI c] at gh
      have eg : gcm V m (i + 1) = gcm V m i := by
        show (if m / 2 ^ i % 2 = 1 then _ else _) = _
        rw [if_neg c]
      obtain ⟨i', r1, r2, r3, r4⟩ := ih (i + 1) (by omega) (by rw [eg]; exact hg) (by
        obtain ⟨j, h1, h2, h3⟩ := hx
        refine ⟨j, ?_, h2, h3⟩
        have : j ≠ i := fun z => c (z ▸ h3)
        omega)
      refine ⟨i', r1, r2, r3, Eq.trans ?_ r4⟩
      rw [show ((i + 1 : Nat) : Int) = (i : Int) + 1 by omega, e_Dm_laysCommon_2]
      simp (disch := first | omega | assumption | decide | (simp (disch := omega) only [iI_lit, iJ_lit, iJ_eq, iI_eq, bI_01, bI_01I] <;> omega)) only [e_Dm_laysCommon_3, e_Dm_laysCommon_4, e_Dm_laysCommon_7, e_Dm_laysCommon_10, e_Dm_laysCommon_13, bd_some, bd_none, Option.toList_some, Option.toList_none, List.nil_append, List.cons_append, px_kill_int, px_kill_long, px_kill_ref, px_kill_null, iI_lit, iJ_lit, iI_add, iI_sub, iI_mul, iI_neg, iJ_add, iJ_sub, iJ_mul, iJ_neg, iI_lt, iI_le, iI_eq, iJ_lt, iJ_le, iJ_eq, iI_div, iJ_div, tdiv_tmod, iI_J, iJ_I, iI_ix, iI_toInt, iJ_toInt, cmp_ge, cmp_lt, cmp_eq, cmp_gt, cmp_le, cmp_geI, cmp_ltI, cmp_eqI, cmp_gtI, cmp_leI, bI_0I, bI_1I, pin, if_true, gh]
set_option maxHeartbeats 4000000 in
theorem lp_msm {V : VW} (hV : okV V) {m : Nat} (hm : m < 16) (i0 : Int32) : ∀ (n k : Nat) (T : TS) (a4 a5 a6 a7 a8 a9 a10 a11 a12 a13 a14 a15 : Value), k + n = V.1 → cM T V → mGrd T (gcm V m k).1 (gcm V m k).2.1 (gcm V m k).2.2 → ∃ T', rn k_Dm_laysCommon 25 [.ref 53, .int (iI (m : Int)), .int i0, .int (iI (k : Int)), a4, a5, a6, a7, a8, a9, a10, a11, a12, a13, a14, a15] [] (enc T) = some (none, enc T') ∧ FrM T T' ∧ mGrd T' (gW V m) (gH V m) (gS V m) := by
  intro n
  induction n with
  | zero =>
    intro k T a4 a5 a6 a7 a8 a9 a10 a11 a12 a13 a14 a15 hk h hg
    have e : k = V.1 := by omega
    subst e
    have h4 := hV.1
    refine ⟨T, ?_, FrM.rf T, hg⟩
    rw [e_Dm_laysCommon_25]
    simp (disch := first | omega | assumption | decide | (simp (disch := omega) only [iI_lit, iJ_lit, iJ_eq, iI_eq, bI_01, bI_01I] <;> omega)) only [e_Dm_laysCommon_26, e_Dm_laysCommon_27, e_Dm_laysCommon_30, e_Dm_laysCommon_33, e_Dm_laysCommon_34, e_Dm_laysCommon_35, e_Dm_laysCommon_38, e_Dm_laysCommon_41, e_Dm_laysCommon_42, e_Dm_laysCommon_45, e_Dm_laysCommon_47, e_Dm_laysCommon_48, e_Dm_laysCommon_51, e_Dm_laysCommon_53, e_Dm_laysCommon_54, e_Dm_laysCommon_57, e_Dm_laysCommon_59, e_Dm_laysCommon_60, e_Dm_laysCommon_61, e_Dm_laysCommon_64, e_Dm_laysCommon_65, e_Dm_laysCommon_68, e_Dm_laysCommon_70, e_Dm_laysCommon_71, e_Dm_laysCommon_74, e_Dm_laysCommon_76, e_Dm_laysCommon_77, e_Dm_laysCommon_80, e_Dm_laysCommon_82, e_Dm_laysCommon_83, e_Dm_laysCommon_85, e_Dm_laysCommon_88, e_Dm_laysCommon_89, e_Dm_laysCommon_91, e_Dm_laysCommon_94, e_Dm_laysCommon_95, e_Dm_laysCommon_97, e_Dm_laysCommon_100, e_Dm_laysCommon_101, e_Dm_laysCommon_103, e_Dm_laysCommon_105, e_Dm_laysCommon_107, e_Dm_laysCommon_110, e_Dm_laysCommon_113, e_Dm_laysCommon_116, bd_some, bd_none, Option.toList_some, Option.toList_none, List.nil_append, List.cons_append, px_kill_int, px_kill_long, px_kill_ref, px_kill_null, iI_lit, iJ_lit, iI_add, iI_sub, iI_mul, iI_neg, iJ_add, iJ_sub, iJ_mul, iJ_neg, iI_lt, iI_le, iI_eq, iJ_lt, iJ_le, iJ_eq, iI_div, iJ_div, tdiv_tmod, iI_J, iJ_I, iI_ix, iI_toInt, iJ_toInt, cmp_ge, cmp_lt, cmp_eq, cmp_gt, cmp_le, cmp_geI, cmp_ltI, cmp_eqI, cmp_gtI, cmp_leI, bI_0I, bI_1I, pin, if_true, h.1, Int.le_refl]
  | succ n ih =>
    intro k T a4 a5 a6 a7 a8 a9 a10 a11 a12 a13 a14 a15 hk h hg
    have h4 := hV.1
    have nle : ¬ (V.1 : Int) ≤ (k : Int) := by omega
    have gh := g_has4 hm (j := k) (by omega) (enc T)
    have ek : ((k + 1 : Nat) : Int) = (k : Int) + 1 := by omega
    by_cases c : m / 2 ^ k % 2 = 1
    · rw [bI_tI c] at gh
      have hink := h.ink hV (j := k) (by omega)
      have hb : cl k_Dm_laysBrick [.ref 53, .int (iI (k : Int))] (enc T) = some (none, enc (tBrk T (V.2 k 0) (V.2 k 1) (V.2 k 2) (V.2 k 3))) := s_laysBrick T hink.1 hink.2.2.1 hink.2.1
      obtain ⟨b0, b1, b2⟩ := tBrk_g T (V.2 k 0) (V.2 k 1) (V.2 k 2) (V.2 k 3)
      have fb := tBrk_fr T (V.2 k 0) (V.2 k 1) (V.2 k 2) (V.2 k 3)
      obtain ⟨a0, a1, a2⟩ := id hg
      have hok := gcm_ok hV m k (by omega)
      have eg : gcm V m (k + 1) = (mtW (gcm V m k).1 (bkW (brkN (V.2 k))), mtH (gcm V m k).1 (gcm V m k).2.1 (gcm V m k).2.2 (bkW (brkN (V.2 k))) (bkH (brkN (V.2 k))) (bkS (brkN (V.2 k))), mtS (gcm V m k).1 (gcm V m k).2.1 (gcm V m k).2.2 (bkW (brkN (V.2 k))) (bkH (brkN (V.2 k))) (bkS (brkN (V.2 k)))) := by
        show (if m / 2 ^ k % 2 = 1 then _ else _) = _
        rw [if_pos c]
      generalize tBrk T (V.2 k 0) (V.2 k 1) (V.2 k 2) (V.2 k 3) = T1 at *
      have f2 : FrA aNo (fun p i => p = 53 ∧ 11 ≤ i ∧ i ≤ 13) T1 (sJ (sJ (sJ T1 53 11 (iJ (gcm V m k).1)) 53 12 (iJ (gcm V m k).2.1)) 53 13 (iJ (gcm V m k).2.2)) := (((FrA.rf _ _ T1).wrJ _ ⟨rfl, by omega⟩).wrJ _ ⟨rfl, by omega⟩).wrJ _ ⟨rfl, by omega⟩
      have g2 : mGrd (sJ (sJ (sJ T1 53 11 (iJ (gcm V m k).1)) 53 12 (iJ (gcm V m k).2.1)) 53 13 (iJ (gcm V m k).2.2)) (gcm V m k).1 (gcm V m k).2.1 (gcm V m k).2.2 := by
        unfold mGrd
        simp only [sI_get, sJ_get, sI_2, sJ_1, sJ_22, sR_1, sR_21, Nat.reduceEqDiff, and_true, true_and, and_false, false_and, and_self, if_true, if_false, reduceIte]
      obtain ⟨T3, e3, f3, g3⟩ := m_meets (pw4_b k (by omega)).2.2 hok (okG_brk (hV.2 k (by omega)).1) g2
      have fM : FrM T T3 := fb.tr (FrM.ofA (f2.tr f3) (fun q k z => z.elim) (fun q k z => by omega))
      obtain ⟨T4, e4, f4, g4⟩ := ih (k + 1) T3 (.long (iJ (gcm V m k).1)) .null (.long (iJ (gcm V m k).2.1)) .null (.long (iJ (gcm V m k).2.2)) .null (.long (iJ (bkW (brkN (V.2 k))))) .null (.long (iJ (bkH (brkN (V.2 k))))) .null (.long (iJ (bkS (brkN (V.2 k))))) .null (by omega) (h.fr fM) (by rw [eg]; exact g3)
      refine ⟨T4, ?_, fM.tr f4, g4⟩
      refine Eq.trans ?_ e4
      rw [ek, e_Dm_laysCommon_25]
      simp (disch := first | omega | assumption | decide | (simp (disch := omega) only [iI_lit, iJ_lit, iJ_eq, iI_eq, bI_01, bI_01I] <;> omega)) only [e_Dm_laysCommon_26, e_Dm_laysCommon_27, e_Dm_laysCommon_30, e_Dm_laysCommon_33, e_Dm_laysCommon_34, e_Dm_laysCommon_35, e_Dm_laysCommon_38, e_Dm_laysCommon_41, e_Dm_laysCommon_42, e_Dm_laysCommon_45, e_Dm_laysCommon_47, e_Dm_laysCommon_48, e_Dm_laysCommon_51, e_Dm_laysCommon_53, e_Dm_laysCommon_54, e_Dm_laysCommon_57, e_Dm_laysCommon_59, e_Dm_laysCommon_60, e_Dm_laysCommon_61, e_Dm_laysCommon_64, e_Dm_laysCommon_65, e_Dm_laysCommon_68, e_Dm_laysCommon_70, e_Dm_laysCommon_71, e_Dm_laysCommon_74, e_Dm_laysCommon_76, e_Dm_laysCommon_77, e_Dm_laysCommon_80, e_Dm_laysCommon_82, e_Dm_laysCommon_83, e_Dm_laysCommon_85, e_Dm_laysCommon_88, e_Dm_laysCommon_89, e_Dm_laysCommon_91, e_Dm_laysCommon_94, e_Dm_laysCommon_95, e_Dm_laysCommon_97, e_Dm_laysCommon_100, e_Dm_laysCommon_101, e_Dm_laysCommon_103, e_Dm_laysCommon_105, e_Dm_laysCommon_107, e_Dm_laysCommon_110, e_Dm_laysCommon_113, e_Dm_laysCommon_116, bd_some, bd_none, Option.toList_some, Option.toList_none, List.nil_append, List.cons_append, px_kill_int, px_kill_long, px_kill_ref, px_kill_null, iI_lit, iJ_lit, iI_add, iI_sub, iI_mul, iI_neg, iJ_add, iJ_sub, iJ_mul, iJ_neg, iI_lt, iI_le, iI_eq, iJ_lt, iJ_le, iJ_eq, iI_div, iJ_div, tdiv_tmod, iI_J, iJ_I, iI_ix, iI_toInt, iJ_toInt, cmp_ge, cmp_lt, cmp_eq, cmp_gt, cmp_le, cmp_geI, cmp_ltI, cmp_eqI, cmp_gtI, cmp_leI, bI_0I, bI_1I, pin, if_true, h.1, nle, if_false, gh, one0, a0, a1, a2, hb, b0, b1, b2, e3]
    · rw [bI_fI c] at gh
      have eg : gcm V m (k + 1) = gcm V m k := by
        show (if m / 2 ^ k % 2 = 1 then _ else _) = _
        rw [if_neg c]
      obtain ⟨T2, e2, f2, g2⟩ := ih (k + 1) T a4 a5 a6 a7 a8 a9 a10 a11 a12 a13 a14 a15 (by omega) h (by rw [eg]; exact hg)
      refine ⟨T2, ?_, f2, g2⟩
      refine Eq.trans ?_ e2
      rw [ek, e_Dm_laysCommon_25]
      simp (disch := first | omega | assumption | decide | (simp (disch := omega) only [iI_lit, iJ_lit, iJ_eq, iI_eq, bI_01, bI_01I] <;> omega)) only [e_Dm_laysCommon_26, e_Dm_laysCommon_27, e_Dm_laysCommon_30, e_Dm_laysCommon_33, e_Dm_laysCommon_34, e_Dm_laysCommon_35, e_Dm_laysCommon_38, e_Dm_laysCommon_41, e_Dm_laysCommon_42, e_Dm_laysCommon_45, e_Dm_laysCommon_47, e_Dm_laysCommon_48, e_Dm_laysCommon_51, e_Dm_laysCommon_53, e_Dm_laysCommon_54, e_Dm_laysCommon_57, e_Dm_laysCommon_59, e_Dm_laysCommon_60, e_Dm_laysCommon_61, e_Dm_laysCommon_64, e_Dm_laysCommon_65, e_Dm_laysCommon_68, e_Dm_laysCommon_70, e_Dm_laysCommon_71, e_Dm_laysCommon_74, e_Dm_laysCommon_76, e_Dm_laysCommon_77, e_Dm_laysCommon_80, e_Dm_laysCommon_82, e_Dm_laysCommon_83, e_Dm_laysCommon_85, e_Dm_laysCommon_88, e_Dm_laysCommon_89, e_Dm_laysCommon_91, e_Dm_laysCommon_94, e_Dm_laysCommon_95, e_Dm_laysCommon_97, e_Dm_laysCommon_100, e_Dm_laysCommon_101, e_Dm_laysCommon_103, e_Dm_laysCommon_105, e_Dm_laysCommon_107, e_Dm_laysCommon_110, e_Dm_laysCommon_113, e_Dm_laysCommon_116, bd_some, bd_none, Option.toList_some, Option.toList_none, List.nil_append, List.cons_append, px_kill_int, px_kill_long, px_kill_ref, px_kill_null, iI_lit, iJ_lit, iI_add, iI_sub, iI_mul, iI_neg, iJ_add, iJ_sub, iJ_mul, iJ_neg, iI_lt, iI_le, iI_eq, iJ_lt, iJ_le, iJ_eq, iI_div, iJ_div, tdiv_tmod, iI_J, iJ_I, iI_ix, iI_toInt, iJ_toInt, cmp_ge, cmp_lt, cmp_eq, cmp_gt, cmp_le, cmp_geI, cmp_ltI, cmp_eqI, cmp_gtI, cmp_leI, bI_0I, bI_1I, pin, if_true, h.1, nle, if_false, gh]
set_option maxHeartbeats 2000000 in
theorem m_smeet {T : TS} {V : VW} (hV : okV V) (h : cM T V) {m : Nat} (hm : m < 16) (hx : ∃ j, 0 ≤ j ∧ j < V.1 ∧ m / 2 ^ j % 2 = 1) : ∃ T', cl k_Dm_laysCommon [.ref 53, .int (iI (m : Int))] (enc T) = some (none, enc T') ∧ FrM T T' ∧ mGrd T' (gW V m) (gH V m) (gS V m) := by
  obtain ⟨i, r1, r2, r3, r4⟩ := lp_first hV hm (enc T) .null .null .null .null .null .null .null .null .null .null .null .null .null V.1 0 (by omega) rfl hx
  have h4 := hV.1
  have hink := h.ink hV r1
  have hb : cl k_Dm_laysBrick [.ref 53, .int (iI (i : Int))] (enc T) = some (none, enc (tBrk T (V.2 i 0) (V.2 i 1) (V.2 i 2) (V.2 i 3))) := s_laysBrick T hink.1 hink.2.2.1 hink.2.1
  have bg : mGrd (tBrk T (V.2 i 0) (V.2 i 1) (V.2 i 2) (V.2 i 3)) (bkW (brkN (V.2 i))) (bkH (brkN (V.2 i))) (bkS (brkN (V.2 i))) := tBrk_g T (V.2 i 0) (V.2 i 1) (V.2 i 2) (V.2 i 3)
  have fb := tBrk_fr T (V.2 i 0) (V.2 i 1) (V.2 i 2) (V.2 i 3)
  obtain ⟨m1, m2, m3⟩ := mt_one (okG_brk (hV.2 i r1).1)
  have eg : gcm V m (i + 1) = (bkW (brkN (V.2 i)), bkH (brkN (V.2 i)), bkS (brkN (V.2 i))) := by
    show (if m / 2 ^ i % 2 = 1 then _ else _) = _
    rw [if_pos r2, r3]
    show (mtW 1 _, mtH 1 1 0 _ _ _, mtS 1 1 0 _ _ _) = _
    rw [m1, m2, m3]
  obtain ⟨T2, e2, f2, g2⟩ := lp_msm hV hm (iI (i : Int)) (V.1 - (i + 1)) (i + 1) (tBrk T (V.2 i 0) (V.2 i 1) (V.2 i 2) (V.2 i 3)) .null .null .null .null .null .null .null .null .null .null .null .null (by omega) (h.fr fb) (by rw [eg]; exact bg)
  refine ⟨T2, ?_, fb.tr f2, g2⟩
  refine Eq.trans ?_ e2
  have pre : cl k_Dm_laysCommon [.ref 53, .int (iI (m : Int))] (enc T) = rn k_Dm_laysCommon 2 [.ref 53, .int (iI (m : Int)), .int (iI ((0 : Nat) : Int)), .null, .null, .null, .null, .null, .null, .null, .null, .null, .null, .null, .null, .null] [] (enc T) := by
    simp (disch := first | omega | assumption | decide | (simp (disch := omega) only [iI_lit, iJ_lit, iJ_eq, iI_eq, bI_01, bI_01I] <;> omega)) only [c_Dm_laysCommon, e_Dm_laysCommon_0, e_Dm_laysCommon_1, bd_some, bd_none, Option.toList_some, Option.toList_none, List.nil_append, List.cons_append, px_kill_int, px_kill_long, px_kill_ref, px_kill_null, iI_lit, iJ_lit, iI_add, iI_sub, iI_mul, iI_neg, iJ_add, iJ_sub, iJ_mul, iJ_neg, iI_lt, iI_le, iI_eq, iJ_lt, iJ_le, iJ_eq, iI_div, iJ_div, tdiv_tmod, iI_J, iJ_I, iI_ix, iI_toInt, iJ_toInt, cmp_ge, cmp_lt, cmp_eq, cmp_gt, cmp_le, cmp_geI, cmp_ltI, cmp_eqI, cmp_gtI, cmp_leI, bI_0I, bI_1I, pin, if_true]
    rfl
  rw [pre, r4, show ((i + 1 : Nat) : Int) = (i : Int) + 1 by omega]
  simp (disch := first | omega | assumption | decide | (simp (disch := omega) only [iI_lit, iJ_lit, iJ_eq, iI_eq, bI_01, bI_01I] <;> omega)) only [e_Dm_laysCommon_16, e_Dm_laysCommon_17, e_Dm_laysCommon_18, e_Dm_laysCommon_21, e_Dm_laysCommon_22, e_Dm_laysCommon_23, e_Dm_laysCommon_24, bd_some, bd_none, Option.toList_some, Option.toList_none, List.nil_append, List.cons_append, px_kill_int, px_kill_long, px_kill_ref, px_kill_null, iI_lit, iJ_lit, iI_add, iI_sub, iI_mul, iI_neg, iJ_add, iJ_sub, iJ_mul, iJ_neg, iI_lt, iI_le, iI_eq, iJ_lt, iJ_le, iJ_eq, iI_div, iJ_div, tdiv_tmod, iI_J, iJ_I, iI_ix, iI_toInt, iJ_toInt, cmp_ge, cmp_lt, cmp_eq, cmp_gt, cmp_le, cmp_geI, cmp_ltI, cmp_eqI, cmp_gtI, cmp_leI, bI_0I, bI_1I, pin, if_true, hb]
/-! the supercell -/
def scl (w h s : Int) : Int := w / gc w (h * (w / gc w s)) * (h * (w / gc w s))
theorem scl_f {w h s : Int} (o : okMC 429981696 w h s) : (0 < w ∧ w ≤ 429981696) ∧ (0 < h ∧ h ≤ 429981696) ∧ (0 < gc w s ∧ gc w s ≤ w) ∧ (0 < w / gc w s ∧ w / gc w s ≤ w) ∧ (0 < h * (w / gc w s) ∧ h * (w / gc w s) ≤ 429981696) ∧ (0 < gc w (h * (w / gc w s)) ∧ gc w (h * (w / gc w s)) ≤ w) ∧ (0 < w / gc w (h * (w / gc w s)) ∧ w / gc w (h * (w / gc w s)) ≤ w) ∧ (0 < scl w h s ∧ scl w h s ≤ 429981696) := by
  obtain ⟨w0, h0, s0, c0⟩ := o
  obtain ⟨pw, ph⟩ := prod_le w0 h0 c0
  obtain ⟨g0, g1, g2, g3⟩ := gc_f (w := w) (o := s) w0
  have wg := div_pos' w0 g0 g1
  have hp := Int.mul_pos h0 wg.1
  have hle : h * (w / gc w s) ≤ h * w := Int.mul_le_mul_of_nonneg_left wg.2 (by omega)
  rw [Int.mul_comm h w] at hle
  obtain ⟨k0, k1, k2, k3⟩ := gc_f (w := w) (o := h * (w / gc w s)) w0
  have wk := div_pos' w0 k0 k1
  have dv : w / gc w s ∣ gc w (h * (w / gc w s)) := by
    refine Int.dvd_coe_gcd ⟨gc w s, ?_⟩ ⟨h, Int.mul_comm _ _⟩
    rw [Int.mul_comm]; exact g1.symm
  have le := Int.le_of_dvd k0 dv
  have sp := Int.mul_pos wk.1 hp
  have e1 : h * (w / gc w s) ≤ h * gc w (h * (w / gc w s)) := Int.mul_le_mul_of_nonneg_left le (by omega)
  have e2 := Int.mul_le_mul_of_nonneg_left (c := w / gc w (h * (w / gc w s))) e1 (by omega)
  have e3 : w / gc w (h * (w / gc w s)) * (h * gc w (h * (w / gc w s))) = (gc w (h * (w / gc w s)) * (w / gc w (h * (w / gc w s)))) * h := by grind
  rw [e3, k1] at e2
  refine ⟨⟨w0, by omega⟩, ⟨h0, by omega⟩, ⟨g0, g3⟩, wg, ⟨hp, by omega⟩, ⟨k0, k3⟩, wk, ⟨sp, ?_⟩⟩
  unfold scl
  omega
set_option maxHeartbeats 1000000 in
theorem c_scl {T : TS} {w h s : Int} (hg : cGrd T 12 w h s) (o : okMC 429981696 w h s) : cl k_Grid_supercell [.ref 12] (enc T) = some (some (.long (iJ (scl w h s))), enc T) := by
  obtain ⟨F1, F2, F3, F4, F5, F6, F7, F8⟩ := scl_f o
  obtain ⟨w0, h0, s0, c0⟩ := id o
  obtain ⟨a0, a1, a2⟩ := id hg
  have e1 := s_commonPart (a := w) (b := s) (by omega) (by omega) (enc T)
  have r1 : ((Int.gcd w s : Nat) : Int) = gc w s := rfl
  rw [r1] at e1
  have e2 := s_div (a := w) (b := gc w s) (by omega) (by omega) (enc T)
  have e3 := s_cmult (a := w) (b := h * (w / gc w s)) (by omega) (by omega) (enc T)
  have r3 : w / gc w (h * (w / gc w s)) * (h * (w / gc w s)) = scl w h s := rfl
  rw [r3] at e3
  simp (disch := first | omega | assumption | decide | (simp (disch := omega) only [iI_lit, iJ_lit, iJ_eq, iI_eq, bI_01, bI_01I] <;> omega)) only [c_Grid_supercell, e_Grid_supercell_0, e_Grid_supercell_1, e_Grid_supercell_4, e_Grid_supercell_5, e_Grid_supercell_8, e_Grid_supercell_9, e_Grid_supercell_12, e_Grid_supercell_13, e_Grid_supercell_16, e_Grid_supercell_19, e_Grid_supercell_22, e_Grid_supercell_23, e_Grid_supercell_24, e_Grid_supercell_25, e_Grid_supercell_28, e_Grid_supercell_29, e_Grid_supercell_32, bd_some, bd_none, Option.toList_some, Option.toList_none, List.nil_append, List.cons_append, px_kill_int, px_kill_long, px_kill_ref, px_kill_null, iI_lit, iJ_lit, iI_add, iI_sub, iI_mul, iI_neg, iJ_add, iJ_sub, iJ_mul, iJ_neg, iI_lt, iI_le, iI_eq, iJ_lt, iJ_le, iJ_eq, iI_div, iJ_div, tdiv_tmod, iI_J, iJ_I, iI_ix, iI_toInt, iJ_toInt, cmp_ge, cmp_lt, cmp_eq, cmp_gt, cmp_le, cmp_geI, cmp_ltI, cmp_eqI, cmp_gtI, cmp_leI, bI_0I, bI_1I, pin, if_true, sh_n12, a0, a1, a2, e1, e2, e3]
set_option maxHeartbeats 1000000 in
theorem m_scl {T : TS} {w h s : Int} (hg : mGrd T w h s) (o : okMC 429981696 w h s) : cl k_Dm_superCell [.ref 53] (enc T) = some (some (.long (iJ (scl w h s))), enc T) := by
  obtain ⟨F1, F2, F3, F4, F5, F6, F7, F8⟩ := scl_f o
  obtain ⟨w0, h0, s0, c0⟩ := id o
  obtain ⟨a0, a1, a2⟩ := id hg
  have e1 := s_part (a := w) (b := s) (by omega) (by omega) (enc T)
  have r1 : ((Int.gcd w s : Nat) : Int) = gc w s := rfl
  rw [r1] at e1
  have t1 : w.tdiv (gc w s) = w / gc w s := q_nn (by omega)
  have e2 := s_part (a := w) (b := h * (w / gc w s)) (by omega) (by omega) (enc T)
  have r2 : ((Int.gcd w (h * (w / gc w s)) : Nat) : Int) = gc w (h * (w / gc w s)) := rfl
  rw [r2] at e2
  have t2 : w.tdiv (gc w (h * (w / gc w s))) = w / gc w (h * (w / gc w s)) := q_nn (by omega)
  have r3 : w / gc w (h * (w / gc w s)) * (h * (w / gc w s)) = scl w h s := rfl
  simp (disch := first | omega | assumption | decide | (simp (disch := omega) only [iI_lit, iJ_lit, iJ_eq, iI_eq, bI_01, bI_01I] <;> omega)) only [c_Dm_superCell, e_Dm_superCell_0, e_Dm_superCell_1, e_Dm_superCell_4, e_Dm_superCell_5, e_Dm_superCell_8, e_Dm_superCell_9, e_Dm_superCell_12, e_Dm_superCell_13, e_Dm_superCell_16, e_Dm_superCell_19, e_Dm_superCell_20, e_Dm_superCell_21, e_Dm_superCell_22, e_Dm_superCell_23, e_Dm_superCell_26, e_Dm_superCell_27, e_Dm_superCell_30, e_Dm_superCell_31, e_Dm_superCell_34, e_Dm_superCell_35, e_Dm_superCell_36, e_Dm_superCell_37, bd_some, bd_none, Option.toList_some, Option.toList_none, List.nil_append, List.cons_append, px_kill_int, px_kill_long, px_kill_ref, px_kill_null, iI_lit, iJ_lit, iI_add, iI_sub, iI_mul, iI_neg, iJ_add, iJ_sub, iJ_mul, iJ_neg, iI_lt, iI_le, iI_eq, iJ_lt, iJ_le, iJ_eq, iI_div, iJ_div, tdiv_tmod, iI_J, iJ_I, iI_ix, iI_toInt, iJ_toInt, cmp_ge, cmp_lt, cmp_eq, cmp_gt, cmp_le, cmp_geI, cmp_ltI, cmp_eqI, cmp_gtI, cmp_leI, bI_0I, bI_1I, pin, if_true, a0, a1, a2, e1, t1, e2, t2, r3]
