/-! what a set of grids has in common: the reference's side. -/
theorem lp_first {V : VW} (hV : okV V) {m : Nat} (hm : m < 16) (g : px_G) (a3 a4 a5 a6 a7 a8 a9 a10 a11 a12 a13 a14 a15 : Value) : ∀ (n i : Nat), i + n = V.1 → gcm V m i = (1, 1, 0) → (∃ j, i ≤ j ∧ j < V.1 ∧ m / 2 ^ j % 2 = 1) → ∃ i', i' < V.1 ∧ m / 2 ^ i' % 2 = 1 ∧ gcm V m i' = (1, 1, 0) ∧ rn k_Dm_laysCommon 2 [.ref 53, .int (iI (m : Int)), .int (iI (i : Int)), a3, a4, a5, a6, a7, a8, a9, a10, a11, a12, a13, a14, a15] [] g = rn k_Dm_laysCommon 16 [.ref 53, .int (iI (m : Int)), .int (iI (i' : Int)), a3, a4, a5, a6, a7, a8, a9, a10, a11, a12, a13, a14, a15] [] g := by
  intro n
  induction n with
  | zero =>
    intro i hi _ hx
    obtain ⟨j, h1, h2, h3⟩ := hx
    omega
  | succ n ih =>
    intro i hi hg hx
    have h4 := hV.1
    have gh := g_has4 hm (j := i) (by omega) g
    by_cases c : m / 2 ^ i % 2 = 1
    · rw [bI_tI c] at gh
      refine ⟨i, by omega, c, hg, ?_⟩
      rw [e_Dm_laysCommon_2]
      simp (disch := first | omega | assumption | decide | (simp (disch := omega) only [iI_lit, iJ_lit, iJ_eq, iI_eq, bI_01, bI_01I] <;> omega)) only [e_Dm_laysCommon_3, e_Dm_laysCommon_4, e_Dm_laysCommon_7, e_Dm_laysCommon_10, e_Dm_laysCommon_13, bd_some, bd_none, Option.toList_some, Option.toList_none, List.nil_append, List.cons_append, px_kill_int, px_kill_long, px_kill_ref, px_kill_null, iI_lit, iJ_lit, iI_add, iI_sub, iI_mul, iI_neg, iJ_add, iJ_sub, iJ_mul, iJ_neg, iI_lt, iI_le, iI_eq, iJ_lt, iJ_le, iJ_eq, iI_div, iJ_div, tdiv_tmod, iI_J, iJ_I, iI_ix, iI_toInt, iJ_toInt, cmp_ge, cmp_lt, cmp_eq, cmp_gt, cmp_le, cmp_geI, cmp_ltI, cmp_eqI, cmp_gtI, cmp_leI, bI_0I, bI_1I, pin, if_true, gh, one0, if_false]
    · rw [bI_fI c] at gh
      have eg : gcm V m (i + 1) = gcm V m i := by
        show (if m / 2 ^ i % 2 = 1 then _ else _) = _
        rw [if_neg c]
      obtain ⟨i', r1, r2, r3, r4⟩ := ih (i + 1) (by omega) (by rw [eg]; exact hg) (by
        obtain ⟨j, h1, h2, h3⟩ := hx
        refine ⟨j, ?_, h2, h3⟩
        have : j ≠ i := fun z => c (z ▸ h3)
        omega)
      refine ⟨i', r1, r2, r3, Eq.trans ?_ r4⟩
      rw [show ((i + 1 : Nat) : Int) = (i : Int) + 1 by omega, e_Dm_laysCommon_2]
      simp (disch := first | omega | assumption | decide | (simp (disch := omega) only [iI_lit, iJ_lit, iJ_eq, iI_eq, bI_01, bI_01I] <;> omega)) only [e_Dm_laysCommon_3, e_Dm_laysCommon_4, e_Dm_laysCommon_7, e_Dm_laysCommon_10, e_Dm_laysCommon_13, bd_some, bd_none, Option.toList_some, Option.toList_none, List.nil_append, List.cons_append, px_kill_int, px_kill_long, px_kill_ref, px_kill_null, iI_lit, iJ_lit, iI_add, iI_sub, iI_mul, iI_neg, iJ_add, iJ_sub, iJ_mul, iJ_neg, iI_lt, iI_le, iI_eq, iJ_lt, iJ_le, iJ_eq, iI_div, iJ_div, tdiv_tmod, iI_J, iJ_I, iI_ix, iI_toInt, iJ_toInt, cmp_ge, cmp_lt, cmp_eq, cmp_gt, cmp_le, cmp_geI, cmp_ltI, cmp_eqI, cmp_gtI, cmp_leI, bI_0I, bI_1I, pin, if_true, gh]
set_option maxHeartbeats 4000000 in
theorem lp_msm {V : VW} (hV : okV V) {m : Nat} (hm : m < 16) (i0 : Int32) : ∀ (n k : Nat) (T : TS) (a4 a5 a6 a7 a8 a9 a10 a11 a12 a13 a14 a15 : Value), k + n = V.1 → cM T V → mGrd T (gcm V m k).1 (gcm V m k).2.1 (gcm V m k).2.2 → ∃ T', rn k_Dm_laysCommon 25 [.ref 53, .int (iI (m : Int)), .int i0, .int (iI (k : Int)), a4, a5, a6, a7, a8, a9, a10, a11, a12, a13, a14, a15] [] (enc T) = some (none, enc T') ∧ FrM T T' ∧ mGrd T' (gW V m) (gH V m) (gS V m) := by
  intro n
  induction n with
  | zero =>
    intro k T a4 a5 a6 a7 a8 a9 a10 a11 a12 a13 a14 a15 hk h hg
    have e : k = V.1 := by omega
    subst e
    have h4 := hV.1
    refine ⟨T, ?_, FrM.rf T, hg⟩
    rw [e_Dm_laysCommon_25]
    simp (disch := first | omega | assumption | decide | (simp (disch := omega) only [iI_lit, iJ_lit, iJ_eq, iI_eq, bI_01, bI_01I] <;> omega)) only [e_Dm_laysCommon_26, e_Dm_laysCommon_27, e_Dm_laysCommon_30, e_Dm_laysCommon_33, e_Dm_laysCommon_34, e_Dm_laysCommon_35, e_Dm_laysCommon_38, e_Dm_laysCommon_41, e_Dm_laysCommon_42, e_Dm_laysCommon_45, e_Dm_laysCommon_47, e_Dm_laysCommon_48, e_Dm_laysCommon_51, e_Dm_laysCommon_53, e_Dm_laysCommon_54, e_Dm_laysCommon_57, e_Dm_laysCommon_59, e_Dm_laysCommon_60, e_Dm_laysCommon_61, e_Dm_laysCommon_64, e_Dm_laysCommon_65, e_Dm_laysCommon_68, e_Dm_laysCommon_70, e_Dm_laysCommon_71, e_Dm_laysCommon_74, e_Dm_laysCommon_76, e_Dm_laysCommon_77, e_Dm_laysCommon_80, e_Dm_laysCommon_82, e_Dm_laysCommon_83, e_Dm_laysCommon_85, e_Dm_laysCommon_88, e_Dm_laysCommon_89, e_Dm_laysCommon_91, e_Dm_laysCommon_94, e_Dm_laysCommon_95, e_Dm_laysCommon_97, e_Dm_laysCommon_100, e_Dm_laysCommon_101, e_Dm_laysCommon_103, e_Dm_laysCommon_105, e_Dm_laysCommon_107, e_Dm_laysCommon_110, e_Dm_laysCommon_113, e_Dm_laysCommon_116, bd_some, bd_none, Option.toList_some, Option.toList_none, List.nil_append, List.cons_append, px_kill_int, px_kill_long, px_kill_ref, px_kill_null, iI_lit, iJ_lit, iI_add, iI_sub, iI_mul, iI_neg, iJ_add, iJ_sub, iJ_mul, iJ_neg, iI_lt, iI_le, iI_eq, iJ_lt, iJ_le, iJ_eq, iI_div, iJ_div, tdiv_tmod, iI_J, iJ_I, iI_ix, iI_toInt, iJ_toInt, cmp_ge, cmp_lt, cmp_eq, cmp_gt, cmp_le, cmp_geI, cmp_ltI, cmp_eqI, cmp_gtI, cmp_leI, bI_0I, bI_1I, pin, if_true, h.1, Int.le_refl]
  | succ n ih =>
    intro k T a4 a5 a6 a7 a8 a9 a10 a11 a12 a13 a14 a15 hk h hg
    have h4 := hV.1
    have nle : ¬ (V.1 : Int) ≤ (k : Int) := by omega
    have gh := g_has4 hm (j := k) (by omega) (enc T)
    have ek : ((k + 1 : Nat) : Int) = (k : Int) + 1 := by omega
    by_cases c : m / 2 ^ k % 2 = 1
    · rw [bI_tI c] at gh
      have hink := h.ink hV (j := k) (by omega)
      have hb : cl k_Dm_laysBrick [.ref 53, .int (iI (k : Int))] (enc T) = some (none, enc (tBrk T (V.2 k 0) (V.2 k 1) (V.2 k 2) (V.2 k 3))) := s_laysBrick T hink.1 hink.2.2.1 hink.2.1
      obtain ⟨b0, b1, b2⟩ := tBrk_g T (V.2 k 0) (V.2 k 1) (V.2 k 2) (V.2 k 3)
      have fb := tBrk_fr T (V.2 k 0) (V.2 k 1) (V.2 k 2) (V.2 k 3)
      obtain ⟨a0, a1, a2⟩ := id hg
      have hok := gcm_ok hV m k (by omega)
      have eg : gcm V m (k + 1) = (mtW (gcm V m k).1 (bkW (brkN (V.2 k))), mtH (gcm V m k).1 (gcm V m k).2.1 (gcm V m k).2.2 (bkW (brkN (V.2 k))) (bkH (brkN (V.2 k))) (bkS (brkN (V.2 k))), mtS (gcm V m k).1 (gcm V m k).2.1 (gcm V m k).2.2 (bkW (brkN (V.2 k))) (bkH (brkN (V.2 k))) (bkS (brkN (V.2 k)))) := by
        show (if m / 2 ^ k % 2 = 1 then _ else _) = _
        rw [if_pos c]
      generalize tBrk T (V.2 k 0) (V.2 k 1) (V.2 k 2) (V.2 k 3) = T1 at *
      have f2 : FrA aNo (fun p i => p = 53 ∧ 11 ≤ i ∧ i ≤ 13) T1 (sJ (sJ (sJ T1 53 11 (iJ (gcm V m k).1)) 53 12 (iJ (gcm V m k).2.1)) 53 13 (iJ (gcm V m k).2.2)) := (((FrA.rf _ _ T1).wrJ _ ⟨rfl, by omega⟩).wrJ _ ⟨rfl, by omega⟩).wrJ _ ⟨rfl, by omega⟩
      have g2 : mGrd (sJ (sJ (sJ T1 53 11 (iJ (gcm V m k).1)) 53 12 (iJ (gcm V m k).2.1)) 53 13 (iJ (gcm V m k).2.2)) (gcm V m k).1 (gcm V m k).2.1 (gcm V m k).2.2 := by
        unfold mGrd
        simp only [sI_get, sJ_get, sI_2, sJ_1, sJ_22, sR_1, sR_21, Nat.reduceEqDiff, and_true, true_and, and_false, false_and, and_self, if_true, if_false, reduceIte]
      obtain ⟨T3, e3, f3, g3⟩ := m_meets (pw4_b k (by omega)).2.2 hok (okG_brk (hV.2 k (by omega)).1) g2
      have fM : FrM T T3 := fb.tr (FrM.ofA (f2.tr f3) (fun q k z => z.elim) (fun q k z => by omega))
      obtain ⟨T4, e4, f4, g4⟩ := ih (k + 1) T3 (.long (iJ (gcm V m k).1)) .null (.long (iJ (gcm V m k).2.1)) .null (.long (iJ (gcm V m k).2.2)) .null (.long (iJ (bkW (brkN (V.2 k))))) .null (.long (iJ (bkH (brkN (V.2 k))))) .null (.long (iJ (bkS (brkN (V.2 k))))) .null (by omega) (h.fr fM) (by rw [eg]; exact g3)
      refine ⟨T4, ?_, fM.tr f4, g4⟩
      refine Eq.trans ?_ e4
      rw [ek, e_Dm_laysCommon_25]
      simp (disch := first | omega | assumption | decide | (simp (disch := omega) only [iI_lit, iJ_lit, iJ_eq, iI_eq, bI_01, bI_01I] <;> omega)) only [e_Dm_laysCommon_26, e_Dm_laysCommon_27, e_Dm_laysCommon_30, e_Dm_laysCommon_33, e_Dm_laysCommon_34, e_Dm_laysCommon_35, e_Dm_laysCommon_38, e_Dm_laysCommon_41, e_Dm_laysCommon_42, e_Dm_laysCommon_45, e_Dm_laysCommon_47, e_Dm_laysCommon_48, e_Dm_laysCommon_51, e_Dm_laysCommon_53, e_Dm_laysCommon_54, e_Dm_laysCommon_57, e_Dm_laysCommon_59, e_Dm_laysCommon_60, e_Dm_laysCommon_61, e_Dm_laysCommon_64, e_Dm_laysCommon_65, e_Dm_laysCommon_68, e_Dm_laysCommon_70, e_Dm_laysCommon_71, e_Dm_laysCommon_74, e_Dm_laysCommon_76, e_Dm_laysCommon_77, e_Dm_laysCommon_80, e_Dm_laysCommon_82, e_Dm_laysCommon_83, e_Dm_laysCommon_85, e_Dm_laysCommon_88, e_Dm_laysCommon_89, e_Dm_laysCommon_91, e_Dm_laysCommon_94, e_Dm_laysCommon_95, e_Dm_laysCommon_97, e_Dm_laysCommon_100, e_Dm_laysCommon_101, e_Dm_laysCommon_103, e_Dm_laysCommon_105, e_Dm_laysCommon_107, e_Dm_laysCommon_110, e_Dm_laysCommon_113, e_Dm_laysCommon_116, bd_some, bd_none, Option.toList_some, Option.toList_none, List.nil_append, List.cons_append, px_kill_int, px_kill_long, px_kill_ref, px_kill_null, iI_lit, iJ_lit, iI_add, iI_sub, iI_mul, iI_neg, iJ_add, iJ_sub, iJ_mul, iJ_neg, iI_lt, iI_le, iI_eq, iJ_lt, iJ_le, iJ_eq, iI_div, iJ_div, tdiv_tmod, iI_J, iJ_I, iI_ix, iI_toInt, iJ_toInt, cmp_ge, cmp_lt, cmp_eq, cmp_gt, cmp_le, cmp_geI, cmp_ltI, cmp_eqI, cmp_gtI, cmp_leI, bI_0I, bI_1I, pin, if_true, h.1, nle, if_false, gh, one0, a0, a1, a2, hb, b0, b1, b2, e3]
    · rw [bI_fI c] at gh
      have eg : gcm V m (k + 1) = gcm V m k := by
        show (if m / 2 ^ k % 2 = 1 then _ else _) = _
        rw [if_neg c]
      obtain ⟨T2, e2, f2, g2⟩ := ih (k + 1) T a4 a5 a6 a7 a8 a9 a10 a11 a12 a13 a14 a15 (by omega) h (by rw [eg]; exact hg)
      refine ⟨T2, ?_, f2, g2⟩
      refine Eq.trans ?_ e2
      rw [ek, e_Dm_laysCommon_25]
      simp (disch := first | omega | assumption | decide | (simp (disch := omega) only [iI_lit, iJ_lit, iJ_eq, iI_eq, bI_01, bI_01I] <;> omega)) only [e_Dm_laysCommon_26, e_Dm_laysCommon_27, e_Dm_laysCommon_30, e_Dm_laysCommon_33, e_Dm_laysCommon_34, e_Dm_laysCommon_35, e_Dm_laysCommon_38, e_Dm_laysCommon_41, e_Dm_laysCommon_42, e_Dm_laysCommon_45, e_Dm_laysCommon_47, e_Dm_laysCommon_48, e_Dm_laysCommon_51, e_Dm_laysCommon_53, e_Dm_laysCommon_54, e_Dm_laysCommon_57, e_Dm_laysCommon_59, e_Dm_laysCommon_60, e_Dm_laysCommon_61, e_Dm_laysCommon_64, e_Dm_laysCommon_65, e_Dm_laysCommon_68, e_Dm_laysCommon_70, e_Dm_laysCommon_71, e_Dm_laysCommon_74, e_Dm_laysCommon_76, e_Dm_laysCommon_77, e_Dm_laysCommon_80, e_Dm_laysCommon_82, e_Dm_laysCommon_83, e_Dm_laysCommon_85, e_Dm_laysCommon_88, e_Dm_laysCommon_89, e_Dm_laysCommon_91, e_Dm_laysCommon_94, e_Dm_laysCommon_95, e_Dm_laysCommon_97, e_Dm_laysCommon_100, e_Dm_laysCommon_101, e_Dm_laysCommon_103, e_Dm_laysCommon_105, e_Dm_laysCommon_107, e_Dm_laysCommon_110, e_Dm_laysCommon_113, e_Dm_laysCommon_116, bd_some, bd_none, Option.toList_some, Option.toList_none, List.nil_append, List.cons_append, px_kill_int, px_kill_long, px_kill_ref, px_kill_null, iI_lit, iJ_lit, iI_add, iI_sub, iI_mul, iI_neg, iJ_add, iJ_sub, iJ_mul, iJ_neg, iI_lt, iI_le, iI_eq, iJ_lt, iJ_le, iJ_eq, iI_div, iJ_div, tdiv_tmod, iI_J, iJ_I, iI_ix, iI_toInt, iJ_toInt, cmp_ge, cmp_lt, cmp_eq, cmp_gt, cmp_le, cmp_geI, cmp_ltI, cmp_eqI, cmp_gtI, cmp_leI, bI_0I, bI_1I, pin, if_true, h.1, nle, if_false, gh]
