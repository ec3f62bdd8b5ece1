/-! the reference's second shortest move; reduced on both sides. -/
def sHm (T : TS) (s : Option (Int × Int)) : Prop := ∀ o, s = some o → T.2.1 53 16 = iJ o.1 ∧ T.2.1 53 17 = iJ o.2
def bSm (q k : Nat) : Prop := q = 53 ∧ 16 ≤ k ∧ k ≤ 17
theorem fHm.fr {T T' : TS} {s : Int × Int} {a : Nat → Nat → Prop} (h : fHm T s) (hf : FrA a bSm T T') : fHm T' s := ⟨by rw [hf.2.1 _ _ (by unfold bSm; omega)]; exact h.1, by rw [hf.2.1 _ _ (by unfold bSm; omega)]; exact h.2⟩
abbrev lMs (q : Q4) (fd c : Int) (i j x1 x2 y1 y2 : Value) : List Value := [.ref 53, .long (iJ q.1), .null, .long (iJ q.2.1), .null, .long (iJ q.2.2.1), .null, .long (iJ q.2.2.2), .null, .int (iI fd), .long (iJ c), .null, i, j, x1, x2, y1, y2]
set_option maxHeartbeats 4000000 in
theorem lp_ms2 {N : Int} (hN : bNn N) {q : Q4} (ho : okR N q) {f : Int × Int} (hf : isC1 q f) (hd : -429981696 ≤ ddU q ∧ ddU q ≤ 429981696) {c : Int} (hc : 0 ≤ c ∧ c ≤ 429981696) {i : Int} (hi : -2 ≤ i ∧ i ≤ 2) : ∀ (t : Nat) (j : Int) (s : Option (Int × Int)) (T : TS), -2 ≤ j → j + t = 3 → isC2 q s → fHm T f → sHm T s → ∀ a6 a7 a8 a9 : Value, ∃ (T' : TS) (b6 b7 b8 b9 : Value), rn k_Dm_laysSecond 28 (lMs q (fdO s) c (.int (iI i)) (.int (iI j)) a6 a7 a8 a9) [] (enc T) = rn k_Dm_laysSecond 130 (lMs q (fdO (sR2 q f c i s j t)) c (.int (iI i)) (.int (iI 3)) b6 b7 b8 b9) [] (enc T') ∧ FrA aNo bSm T T' ∧ sHm T' (sR2 q f c i s j t) := by
  intro t
  induction t with
  | zero =>
    intro j s T h1 h2 hs hF hS a6 a7 a8 a9
    have e : j = 3 := by omega
    have l12 : (2 : Int) < 3 := by omega
    refine ⟨T, a6, a7, a8, a9, ?_, FrA.rf _ _ _, hS⟩
    rw [e, e_Dm_laysSecond_28]
    simp (disch := first | omega | assumption | decide | (simp (disch := omega) only [iI_lit, iJ_lit, iJ_eq, iI_eq, bI_01, bI_01I] <;> omega)) only [e_Dm_laysSecond_30, e_Dm_laysSecond_31, bd_some, bd_none, Option.toList_some, Option.toList_none, List.nil_append, List.cons_append, px_kill_int, px_kill_long, px_kill_ref, px_kill_null, iI_lit, iJ_lit, iI_add, iI_sub, iI_mul, iI_neg, iJ_add, iJ_sub, iJ_mul, iJ_neg, iI_lt, iI_le, iI_eq, iJ_lt, iJ_le, iJ_eq, iI_div, iJ_div, tdiv_tmod, iI_J, iJ_I, iI_ix, iI_toInt, iJ_toInt, cmp_ge, cmp_lt, cmp_eq, cmp_gt, cmp_le, cmp_geI, cmp_ltI, cmp_eqI, cmp_gtI, cmp_leI, bI_0I, bI_1I, pin, if_true, l12]
    rfl
  | succ t ih =>
    intro j s T h1 h2 hs hF hS a6 a7 a8 a9
    have nlt : ¬ (2 : Int) < j := by omega
    obtain ⟨f0, f1⟩ := id hF
    have cz : okZ (cbX q i j) (cbY q i j) := (cb_bd hN ho (i := i) (j := j) (by omega) (by omega)).2
    have cb := crs_bd hf hd (i := i) (j := j) hi (by omega)
    have eab := s_farJ (a := f.1 * cbY q i j - f.2 * cbX q i j) (by omega) (enc T)
    have ex : i * q.1 + j * q.2.2.1 = cbX q i j := rfl
    have ey : i * q.2.1 + j * q.2.2.2 = cbY q i j := rfl
    have fold : sR2 q f c i s j (t + 1) = sR2 q f c i (sS q f c i j s) (j + 1) t := rfl
    rw [fold]
    have pre : rn k_Dm_laysSecond 28 (lMs q (fdO s) c (.int (iI i)) (.int (iI j)) a6 a7 a8 a9) [] (enc T) = rn k_Dm_laysSecond 80 (lMs q (fdO s) c (.int (iI i)) (.int (iI j)) (.long (iJ (cbX q i j))) .null (.long (iJ (cbY q i j))) .null) [.long (iJ ((f.1 * cbY q i j - f.2 * cbX q i j).natAbs : Int))] (enc T) := by
      rw [e_Dm_laysSecond_28]
      simp (disch := first | omega | assumption | decide | (simp (disch := omega) only [iI_lit, iJ_lit, iJ_eq, iI_eq, bI_01, bI_01I] <;> omega)) only [e_Dm_laysSecond_30, e_Dm_laysSecond_31, e_Dm_laysSecond_34, e_Dm_laysSecond_36, e_Dm_laysSecond_37, e_Dm_laysSecond_38, e_Dm_laysSecond_39, e_Dm_laysSecond_41, e_Dm_laysSecond_42, e_Dm_laysSecond_44, e_Dm_laysSecond_45, e_Dm_laysSecond_46, e_Dm_laysSecond_48, e_Dm_laysSecond_50, e_Dm_laysSecond_51, e_Dm_laysSecond_52, e_Dm_laysSecond_53, e_Dm_laysSecond_55, e_Dm_laysSecond_56, e_Dm_laysSecond_58, e_Dm_laysSecond_59, e_Dm_laysSecond_60, e_Dm_laysSecond_62, e_Dm_laysSecond_63, e_Dm_laysSecond_66, e_Dm_laysSecond_68, e_Dm_laysSecond_69, e_Dm_laysSecond_70, e_Dm_laysSecond_73, e_Dm_laysSecond_75, e_Dm_laysSecond_76, e_Dm_laysSecond_77, bd_some, bd_none, Option.toList_some, Option.toList_none, List.nil_append, List.cons_append, px_kill_int, px_kill_long, px_kill_ref, px_kill_null, iI_lit, iJ_lit, iI_add, iI_sub, iI_mul, iI_neg, iJ_add, iJ_sub, iJ_mul, iJ_neg, iI_lt, iI_le, iI_eq, iJ_lt, iJ_le, iJ_eq, iI_div, iJ_div, tdiv_tmod, iI_J, iJ_I, iI_ix, iI_toInt, iJ_toInt, cmp_ge, cmp_lt, cmp_eq, cmp_gt, cmp_le, cmp_geI, cmp_ltI, cmp_eqI, cmp_gtI, cmp_leI, bI_0I, bI_1I, pin, if_true, nlt, if_false, f0, f1, ex, ey, eab]
    have keep : ∀ s', s' = s → rn k_Dm_laysSecond 28 (lMs q (fdO s) c (.int (iI i)) (.int (iI j)) a6 a7 a8 a9) [] (enc T) = rn k_Dm_laysSecond 124 (lMs q (fdO s) c (.int (iI i)) (.int (iI j)) (.long (iJ (cbX q i j))) .null (.long (iJ (cbY q i j))) .null) [] (enc T) → ∃ (T' : TS) (b6 b7 b8 b9 : Value), rn k_Dm_laysSecond 28 (lMs q (fdO s) c (.int (iI i)) (.int (iI j)) a6 a7 a8 a9) [] (enc T) = rn k_Dm_laysSecond 130 (lMs q (fdO (sR2 q f c i s' (j + 1) t)) c (.int (iI i)) (.int (iI 3)) b6 b7 b8 b9) [] (enc T') ∧ FrA aNo bSm T T' ∧ sHm T' (sR2 q f c i s' (j + 1) t) := by
      intro s' hs' e0
      subst hs'
      obtain ⟨T2, b6, b7, b8, b9, e2, f2, g2⟩ := ih (j + 1) s' T (by omega) (by omega) hs hF hS (.long (iJ (cbX q i j))) .null (.long (iJ (cbY q i j))) .null
      refine ⟨T2, b6, b7, b8, b9, ?_, f2, g2⟩
      rw [e0]
      refine Eq.trans ?_ e2
      simp (disch := first | omega | assumption | decide | (simp (disch := omega) only [iI_lit, iJ_lit, iJ_eq, iI_eq, bI_01, bI_01I] <;> omega)) only [e_Dm_laysSecond_124, e_Dm_laysSecond_127, bd_some, bd_none, Option.toList_some, Option.toList_none, List.nil_append, List.cons_append, px_kill_int, px_kill_long, px_kill_ref, px_kill_null, iI_lit, iJ_lit, iI_add, iI_sub, iI_mul, iI_neg, iJ_add, iJ_sub, iJ_mul, iJ_neg, iI_lt, iI_le, iI_eq, iJ_lt, iJ_le, iJ_eq, iI_div, iJ_div, tdiv_tmod, iI_J, iJ_I, iI_ix, iI_toInt, iJ_toInt, cmp_ge, cmp_lt, cmp_eq, cmp_gt, cmp_le, cmp_geI, cmp_ltI, cmp_eqI, cmp_gtI, cmp_leI, bI_0I, bI_1I, pin, if_true]
    have take : ∀ s', s' = some (cbX q i j, cbY q i j) → rn k_Dm_laysSecond 28 (lMs q (fdO s) c (.int (iI i)) (.int (iI j)) a6 a7 a8 a9) [] (enc T) = rn k_Dm_laysSecond 109 (lMs q (fdO s) c (.int (iI i)) (.int (iI j)) (.long (iJ (cbX q i j))) .null (.long (iJ (cbY q i j))) .null) [] (enc T) → ∃ (T' : TS) (b6 b7 b8 b9 : Value), rn k_Dm_laysSecond 28 (lMs q (fdO s) c (.int (iI i)) (.int (iI j)) a6 a7 a8 a9) [] (enc T) = rn k_Dm_laysSecond 130 (lMs q (fdO (sR2 q f c i s' (j + 1) t)) c (.int (iI i)) (.int (iI 3)) b6 b7 b8 b9) [] (enc T') ∧ FrA aNo bSm T T' ∧ sHm T' (sR2 q f c i s' (j + 1) t) := by
      intro s' hs' e0
      have f' : FrA aNo bSm T (sJ (sJ T 53 16 (iJ (cbX q i j))) 53 17 (iJ (cbY q i j))) := ((FrA.rf _ _ T).wrJ _ ⟨rfl, by omega⟩).wrJ _ ⟨rfl, by omega⟩
      obtain ⟨T2, b6, b7, b8, b9, e2, f2, g2⟩ := ih (j + 1) s' (sJ (sJ T 53 16 (iJ (cbX q i j))) 53 17 (iJ (cbY q i j))) (by omega) (by omega) (by rw [hs']; intro o ho'; cases ho'; exact ⟨i, j, hi, by omega, rfl⟩) (hF.fr f') (by rw [hs']; intro o ho'; cases ho'; exact ⟨by simp only [sI_get, sJ_get, sI_2, sJ_1, sJ_22, sR_1, sR_21, Nat.reduceEqDiff, and_true, true_and, and_false, false_and, and_self, if_true, if_false, reduceIte], by simp only [sI_get, sJ_get, sI_2, sJ_1, sJ_22, sR_1, sR_21, Nat.reduceEqDiff, and_true, true_and, and_false, false_and, and_self, if_true, if_false, reduceIte]⟩) (.long (iJ (cbX q i j))) .null (.long (iJ (cbY q i j))) .null
      refine ⟨T2, b6, b7, b8, b9, ?_, f'.tr f2, g2⟩
      rw [e0]
      have e1 : fdO s' = 1 := by rw [hs']; rfl
      rw [e1] at e2
      refine Eq.trans ?_ e2
      simp (disch := first | omega | assumption | decide | (simp (disch := omega) only [iI_lit, iJ_lit, iJ_eq, iI_eq, bI_01, bI_01I] <;> omega)) only [e_Dm_laysSecond_109, e_Dm_laysSecond_110, e_Dm_laysSecond_112, e_Dm_laysSecond_115, e_Dm_laysSecond_116, e_Dm_laysSecond_118, e_Dm_laysSecond_121, e_Dm_laysSecond_122, e_Dm_laysSecond_124, e_Dm_laysSecond_127, bd_some, bd_none, Option.toList_some, Option.toList_none, List.nil_append, List.cons_append, px_kill_int, px_kill_long, px_kill_ref, px_kill_null, iI_lit, iJ_lit, iI_add, iI_sub, iI_mul, iI_neg, iJ_add, iJ_sub, iJ_mul, iJ_neg, iI_lt, iI_le, iI_eq, iJ_lt, iJ_le, iJ_eq, iI_div, iJ_div, tdiv_tmod, iI_J, iJ_I, iI_ix, iI_toInt, iJ_toInt, cmp_ge, cmp_lt, cmp_eq, cmp_gt, cmp_le, cmp_geI, cmp_ltI, cmp_eqI, cmp_gtI, cmp_leI, bI_0I, bI_1I, pin, if_true]
    have bab : 0 ≤ ((f.1 * cbY q i j - f.2 * cbX q i j).natAbs : Int) ∧ ((f.1 * cbY q i j - f.2 * cbX q i j).natAbs : Int) ≤ 1719926784 := by omega
    rcases sS_cases (q := q) (f := f) (c := c) (i := i) (j := j) s with ⟨n, e⟩ | ⟨n, ⟨s0, e⟩ | ⟨o, so, ⟨a, e⟩ | ⟨a, e⟩⟩⟩
    · refine keep _ e ?_
      rw [pre]
      generalize ((f.1 * cbY q i j - f.2 * cbX q i j).natAbs : Int) = Z at *
      simp (disch := first | omega | assumption | decide | (simp (disch := omega) only [iI_lit, iJ_lit, iJ_eq, iI_eq, bI_01, bI_01I] <;> omega)) only [e_Dm_laysSecond_80, e_Dm_laysSecond_82, e_Dm_laysSecond_83, bd_some, bd_none, Option.toList_some, Option.toList_none, List.nil_append, List.cons_append, px_kill_int, px_kill_long, px_kill_ref, px_kill_null, iI_lit, iJ_lit, iI_add, iI_sub, iI_mul, iI_neg, iJ_add, iJ_sub, iJ_mul, iJ_neg, iI_lt, iI_le, iI_eq, iJ_lt, iJ_le, iJ_eq, iI_div, iJ_div, tdiv_tmod, iI_J, iJ_I, iI_ix, iI_toInt, iJ_toInt, cmp_ge, cmp_lt, cmp_eq, cmp_gt, cmp_le, cmp_geI, cmp_ltI, cmp_eqI, cmp_gtI, cmp_leI, bI_0I, bI_1I, pin, if_true, n, if_false]
    · refine take _ e ?_
      rw [pre, n]
      have e1 : fdO s = 0 := by rw [s0]; rfl
      rw [e1]
      simp (disch := first | omega | assumption | decide | (simp (disch := omega) only [iI_lit, iJ_lit, iJ_eq, iI_eq, bI_01, bI_01I] <;> omega)) only [e_Dm_laysSecond_80, e_Dm_laysSecond_82, e_Dm_laysSecond_83, e_Dm_laysSecond_86, e_Dm_laysSecond_88, e_Dm_laysSecond_91, e_Dm_laysSecond_93, e_Dm_laysSecond_95, e_Dm_laysSecond_96, e_Dm_laysSecond_99, e_Dm_laysSecond_100, e_Dm_laysSecond_103, e_Dm_laysSecond_106, bd_some, bd_none, Option.toList_some, Option.toList_none, List.nil_append, List.cons_append, px_kill_int, px_kill_long, px_kill_ref, px_kill_null, iI_lit, iJ_lit, iI_add, iI_sub, iI_mul, iI_neg, iJ_add, iJ_sub, iJ_mul, iJ_neg, iI_lt, iI_le, iI_eq, iJ_lt, iJ_le, iJ_eq, iI_div, iJ_div, tdiv_tmod, iI_J, iJ_I, iI_ix, iI_toInt, iJ_toInt, cmp_ge, cmp_lt, cmp_eq, cmp_gt, cmp_le, cmp_geI, cmp_ltI, cmp_eqI, cmp_gtI, cmp_leI, bI_0I, bI_1I, pin, if_true]
    · refine take _ e ?_
      obtain ⟨g6, g7⟩ := hS o so
      have ea := s_mahead cz ((show isC2 q (some o) by rw [← so]; exact hs).z hN ho) (enc T)
      rw [bI_tI a] at ea
      rw [pre, n]
      have e1 : fdO s = 1 := by rw [so]; rfl
      rw [e1]
      generalize cbX q i j = X at *
      generalize cbY q i j = Y at *
      simp (disch := first | omega | assumption | decide | (simp (disch := omega) only [iI_lit, iJ_lit, iJ_eq, iI_eq, bI_01, bI_01I] <;> omega)) only [e_Dm_laysSecond_80, e_Dm_laysSecond_82, e_Dm_laysSecond_83, e_Dm_laysSecond_86, e_Dm_laysSecond_88, e_Dm_laysSecond_91, e_Dm_laysSecond_93, e_Dm_laysSecond_95, e_Dm_laysSecond_96, e_Dm_laysSecond_99, e_Dm_laysSecond_100, e_Dm_laysSecond_103, e_Dm_laysSecond_106, bd_some, bd_none, Option.toList_some, Option.toList_none, List.nil_append, List.cons_append, px_kill_int, px_kill_long, px_kill_ref, px_kill_null, iI_lit, iJ_lit, iI_add, iI_sub, iI_mul, iI_neg, iJ_add, iJ_sub, iJ_mul, iJ_neg, iI_lt, iI_le, iI_eq, iJ_lt, iJ_le, iJ_eq, iI_div, iJ_div, tdiv_tmod, iI_J, iJ_I, iI_ix, iI_toInt, iJ_toInt, cmp_ge, cmp_lt, cmp_eq, cmp_gt, cmp_le, cmp_geI, cmp_ltI, cmp_eqI, cmp_gtI, cmp_leI, bI_0I, bI_1I, pin, if_true, one0, if_false, g6, g7, ea]
    · refine keep _ e ?_
      obtain ⟨g6, g7⟩ := hS o so
      have ea := s_mahead cz ((show isC2 q (some o) by rw [← so]; exact hs).z hN ho) (enc T)
      rw [bI_fI a] at ea
      rw [pre, n]
      have e1 : fdO s = 1 := by rw [so]; rfl
      rw [e1]
      generalize cbX q i j = X at *
      generalize cbY q i j = Y at *
      simp (disch := first | omega | assumption | decide | (simp (disch := omega) only [iI_lit, iJ_lit, iJ_eq, iI_eq, bI_01, bI_01I] <;> omega)) only [e_Dm_laysSecond_80, e_Dm_laysSecond_82, e_Dm_laysSecond_83, e_Dm_laysSecond_86, e_Dm_laysSecond_88, e_Dm_laysSecond_91, e_Dm_laysSecond_93, e_Dm_laysSecond_95, e_Dm_laysSecond_96, e_Dm_laysSecond_99, e_Dm_laysSecond_100, e_Dm_laysSecond_103, e_Dm_laysSecond_106, bd_some, bd_none, Option.toList_some, Option.toList_none, List.nil_append, List.cons_append, px_kill_int, px_kill_long, px_kill_ref, px_kill_null, iI_lit, iJ_lit, iI_add, iI_sub, iI_mul, iI_neg, iJ_add, iJ_sub, iJ_mul, iJ_neg, iI_lt, iI_le, iI_eq, iJ_lt, iJ_le, iJ_eq, iI_div, iJ_div, tdiv_tmod, iI_J, iJ_I, iI_ix, iI_toInt, iJ_toInt, cmp_ge, cmp_lt, cmp_eq, cmp_gt, cmp_le, cmp_geI, cmp_ltI, cmp_eqI, cmp_gtI, cmp_leI, bI_0I, bI_1I, pin, if_true, one0, if_false, g6, g7, ea]
theorem lp_ms1 {N : Int} (hN : bNn N) {q : Q4} (ho : okR N q) {f : Int × Int} (hf : isC1 q f) (hd : -429981696 ≤ ddU q ∧ ddU q ≤ 429981696) {c : Int} (hc : 0 ≤ c ∧ c ≤ 429981696) : ∀ (t : Nat) (i : Int) (s : Option (Int × Int)) (T : TS), -2 ≤ i → i + t = 3 → isC2 q s → fHm T f → sHm T s → ∀ a5 a6 a7 a8 a9 : Value, ∃ T' : TS, rn k_Dm_laysSecond 18 (lMs q (fdO s) c (.int (iI i)) a5 a6 a7 a8 a9) [] (enc T) = some (none, enc T') ∧ FrA aNo bSm T T' ∧ sHm T' (sA2 q f c s i t) := by
  intro t
  induction t with
  | zero =>
    intro i s T h1 h2 hs hF hS a5 a6 a7 a8 a9
    have e : i = 3 := by omega
    have l12 : (2 : Int) < 3 := by omega
    refine ⟨T, ?_, FrA.rf _ _ _, hS⟩
    rw [e, e_Dm_laysSecond_18]
    simp (disch := first | omega | assumption | decide | (simp (disch := omega) only [iI_lit, iJ_lit, iJ_eq, iI_eq, bI_01, bI_01I] <;> omega)) only [e_Dm_laysSecond_20, e_Dm_laysSecond_21, e_Dm_laysSecond_24, e_Dm_laysSecond_26, e_Dm_laysSecond_136, bd_some, bd_none, Option.toList_some, Option.toList_none, List.nil_append, List.cons_append, px_kill_int, px_kill_long, px_kill_ref, px_kill_null, iI_lit, iJ_lit, iI_add, iI_sub, iI_mul, iI_neg, iJ_add, iJ_sub, iJ_mul, iJ_neg, iI_lt, iI_le, iI_eq, iJ_lt, iJ_le, iJ_eq, iI_div, iJ_div, tdiv_tmod, iI_J, iJ_I, iI_ix, iI_toInt, iJ_toInt, cmp_ge, cmp_lt, cmp_eq, cmp_gt, cmp_le, cmp_geI, cmp_ltI, cmp_eqI, cmp_gtI, cmp_leI, bI_0I, bI_1I, pin, if_true, l12]
  | succ t ih =>
    intro i s T h1 h2 hs hF hS a5 a6 a7 a8 a9
    have nlt : ¬ (2 : Int) < i := by omega
    obtain ⟨T1, b6, b7, b8, b9, e1, f1, g1⟩ := lp_ms2 hN ho hf hd hc (i := i) (by omega) 5 (-2) s T (by omega) (by omega) hs hF hS a6 a7 a8 a9
    obtain ⟨T2, e2, f2, g2⟩ := ih (i + 1) (sR2 q f c i s (-2) 5) T1 (by omega) (by omega) (sR_c2 (by omega) 5 (-2) s (by omega) (by omega) hs) (hF.fr f1) g1 (.int (iI 3)) b6 b7 b8 b9
    refine ⟨T2, ?_, f1.tr f2, g2⟩
    rw [e_Dm_laysSecond_18]
    simp (disch := first | omega | assumption | decide | (simp (disch := omega) only [iI_lit, iJ_lit, iJ_eq, iI_eq, bI_01, bI_01I] <;> omega)) only [e_Dm_laysSecond_20, e_Dm_laysSecond_21, e_Dm_laysSecond_24, e_Dm_laysSecond_26, bd_some, bd_none, Option.toList_some, Option.toList_none, List.nil_append, List.cons_append, px_kill_int, px_kill_long, px_kill_ref, px_kill_null, iI_lit, iJ_lit, iI_add, iI_sub, iI_mul, iI_neg, iJ_add, iJ_sub, iJ_mul, iJ_neg, iI_lt, iI_le, iI_eq, iJ_lt, iJ_le, iJ_eq, iI_div, iJ_div, tdiv_tmod, iI_J, iJ_I, iI_ix, iI_toInt, iJ_toInt, cmp_ge, cmp_lt, cmp_eq, cmp_gt, cmp_le, cmp_geI, cmp_ltI, cmp_eqI, cmp_gtI, cmp_leI, bI_0I, bI_1I, pin, if_true, nlt, if_false]
    refine Eq.trans e1 ?_
    simp (disch := first | omega | assumption | decide | (simp (disch := omega) only [iI_lit, iJ_lit, iJ_eq, iI_eq, bI_01, bI_01I] <;> omega)) only [e_Dm_laysSecond_130, e_Dm_laysSecond_133, bd_some, bd_none, Option.toList_some, Option.toList_none, List.nil_append, List.cons_append, px_kill_int, px_kill_long, px_kill_ref, px_kill_null, iI_lit, iJ_lit, iI_add, iI_sub, iI_mul, iI_neg, iJ_add, iJ_sub, iJ_mul, iJ_neg, iI_lt, iI_le, iI_eq, iJ_lt, iJ_le, iJ_eq, iI_div, iJ_div, tdiv_tmod, iI_J, iJ_I, iI_ix, iI_toInt, iJ_toInt, cmp_ge, cmp_lt, cmp_eq, cmp_gt, cmp_le, cmp_geI, cmp_ltI, cmp_eqI, cmp_gtI, cmp_leI, bI_0I, bI_1I, pin, if_true]
    exact e2
set_option maxHeartbeats 2000000 in
theorem m_laysReduced {T : TS} {w h s : Int} (hg : mGrd T w h s) (o : okW w h s) : ∃ T', cl k_Dm_laysReduced [.ref 53] (enc T) = some (none, enc T') ∧ FrA aNo bRm T T' ∧ T'.2.1 53 14 = iJ (rdK w h s 0) ∧ T'.2.1 53 15 = iJ (rdK w h s 1) ∧ T'.2.1 53 16 = iJ (rdK w h s 2) ∧ T'.2.1 53 17 = iJ (rdK w h s 3) := by
  obtain ⟨ok0, ed⟩ := o.r
  obtain ⟨okq, dq⟩ := LR_ok 200 (gQ4 w h s) ok0
  have hN : bNn 400000000000000000 := ⟨by omega, by omega⟩
  obtain ⟨o1, o2, o3, o4⟩ := id o
  have hpos : 0 < w * h := Int.mul_pos o1.1 o2.1
  have hd : -429981696 ≤ ddU (rdQ w h s) ∧ ddU (rdQ w h s) ≤ 429981696 := by unfold rdQ; omega
  obtain ⟨g0, g1, g2⟩ := id hg
  obtain ⟨b10, b11, b12, b13, b14, b15, e1⟩ := lp_mred hN T 200 (gQ4 w h s) ok0 (ter_all (by omega) ok0) .null .null .null .null .null .null
  have eq : LR 200 (gQ4 w h s) = rdQ w h s := rfl
  rw [eq] at e1 okq
  have hne2 : scnd (rdQ w h s) (w * h) ≠ none := scnd_ne ⟨by unfold rdQ; omega, by omega⟩
  have er : ∀ k, rdK w h s k = if k = 0 then (frst (rdQ w h s)).1 else if k = 1 then (frst (rdQ w h s)).2 else if k = 2 then ((scnd (rdQ w h s) (w * h)).getD (0, 0)).1 else ((scnd (rdQ w h s) (w * h)).getD (0, 0)).2 := fun k => rfl
  have x0 : rdK w h s 0 = (frst (rdQ w h s)).1 := rfl
  have x1 : rdK w h s 1 = (frst (rdQ w h s)).2 := rfl
  have x2 : rdK w h s 2 = ((scnd (rdQ w h s) (w * h)).getD (0, 0)).1 := rfl
  have x3 : rdK w h s 3 = ((scnd (rdQ w h s) (w * h)).getD (0, 0)).2 := rfl
  rw [x0, x1, x2, x3]
  clear er x0 x1 x2 x3 eq dq
  generalize rdQ w h s = q at *
  have f0 : FrA aNo bRm T (sJ (sJ T 53 14 (iJ q.1)) 53 15 (iJ q.2.1)) := ((FrA.rf _ _ T).wrJ _ ⟨rfl, by omega⟩).wrJ _ ⟨rfl, by omega⟩
  obtain ⟨T2, d11, d12, d13, d14, d15, e2, f2, r2⟩ := lp_mf1 hN okq (iI 0) 3 (-1) (q.1, q.2.1) (sJ (sJ T 53 14 (iJ q.1)) 53 15 (iJ q.2.1)) (by omega) (by omega) (c1_u q) (by unfold fHm; simp only [sI_get, sJ_get, sI_2, sJ_1, sJ_22, sR_1, sR_21, Nat.reduceEqDiff, and_true, true_and, and_false, false_and, and_self, if_true, if_false, reduceIte]) b11 b12 b13 b14 b15
  have f02 := f0.tr f2
  have g0' : T2.2.1 53 11 = iJ w := by rw [f02.2.1 _ _ (by unfold bRm; omega)]; exact g0
  have g1' : T2.2.1 53 12 = iJ h := by rw [f02.2.1 _ _ (by unfold bRm; omega)]; exact g1
  obtain ⟨T3, e3, f3, r3⟩ := lp_ms1 hN okq (frst_c1 q) hd (c := w * h) (by omega) 5 (-2) none T2 (by omega) (by omega) (fun o z => by cases z) r2 (fun o z => by cases z) .null .null .null .null .null
  have e3' : cl k_Dm_laysSecond [.ref 53, .long (iJ q.1), .long (iJ q.2.1), .long (iJ q.2.2.1), .long (iJ q.2.2.2)] (enc T2) = some (none, enc T3) := by
    simp (disch := first | omega | assumption | decide | (simp (disch := omega) only [iI_lit, iJ_lit, iJ_eq, iI_eq, bI_01, bI_01I] <;> omega)) only [c_Dm_laysSecond, e_Dm_laysSecond_0, e_Dm_laysSecond_1, e_Dm_laysSecond_3, e_Dm_laysSecond_4, e_Dm_laysSecond_7, e_Dm_laysSecond_8, e_Dm_laysSecond_11, e_Dm_laysSecond_12, e_Dm_laysSecond_14, e_Dm_laysSecond_16, bd_some, bd_none, Option.toList_some, Option.toList_none, List.nil_append, List.cons_append, px_kill_int, px_kill_long, px_kill_ref, px_kill_null, iI_lit, iJ_lit, iI_add, iI_sub, iI_mul, iI_neg, iJ_add, iJ_sub, iJ_mul, iJ_neg, iI_lt, iI_le, iI_eq, iJ_lt, iJ_le, iJ_eq, iI_div, iJ_div, tdiv_tmod, iI_J, iJ_I, iI_ix, iI_toInt, iJ_toInt, cmp_ge, cmp_lt, cmp_eq, cmp_gt, cmp_le, cmp_geI, cmp_ltI, cmp_eqI, cmp_gtI, cmp_leI, bI_0I, bI_1I, pin, if_true, g0', g1']
    exact e3
  obtain ⟨z, hz⟩ : ∃ z, scnd q (w * h) = some z := by
    cases hh : scnd q (w * h) with
    | none => exact absurd hh hne2
    | some z => exact ⟨z, rfl⟩
  obtain ⟨z6, z7⟩ := r3 z hz
  have r2' := r2.fr f3
  refine ⟨T3, ?_, f02.tr (f3.mono (fun q k z => z) (fun q k z => by unfold bSm at z; unfold bRm; omega)), r2'.1, r2'.2, by rw [z6, hz]; rfl, by rw [z7, hz]; rfl⟩
  simp (disch := first | omega | assumption | decide | (simp (disch := omega) only [iI_lit, iJ_lit, iJ_eq, iI_eq, bI_01, bI_01I] <;> omega)) only [c_Dm_laysReduced, e_Dm_laysReduced_0, e_Dm_laysReduced_1, e_Dm_laysReduced_4, e_Dm_laysReduced_5, e_Dm_laysReduced_6, e_Dm_laysReduced_7, e_Dm_laysReduced_8, e_Dm_laysReduced_11, e_Dm_laysReduced_13, e_Dm_laysReduced_14, e_Dm_laysReduced_17, e_Dm_laysReduced_19, e_Dm_laysReduced_20, bd_some, bd_none, Option.toList_some, Option.toList_none, List.nil_append, List.cons_append, px_kill_int, px_kill_long, px_kill_ref, px_kill_null, iI_lit, iJ_lit, iI_add, iI_sub, iI_mul, iI_neg, iJ_add, iJ_sub, iJ_mul, iJ_neg, iI_lt, iI_le, iI_eq, iJ_lt, iJ_le, iJ_eq, iI_div, iJ_div, tdiv_tmod, iI_J, iJ_I, iI_ix, iI_toInt, iJ_toInt, cmp_ge, cmp_lt, cmp_eq, cmp_gt, cmp_le, cmp_geI, cmp_ltI, cmp_eqI, cmp_gtI, cmp_leI, bI_0I, bI_1I, pin, if_true, g0, g1, g2]
  refine Eq.trans e1 ?_
  simp (disch := first | omega | assumption | decide | (simp (disch := omega) only [iI_lit, iJ_lit, iJ_eq, iI_eq, bI_01, bI_01I] <;> omega)) only [e_Dm_laysReduced_126, e_Dm_laysReduced_127, e_Dm_laysReduced_128, e_Dm_laysReduced_131, e_Dm_laysReduced_132, e_Dm_laysReduced_133, e_Dm_laysReduced_136, e_Dm_laysReduced_137, bd_some, bd_none, Option.toList_some, Option.toList_none, List.nil_append, List.cons_append, px_kill_int, px_kill_long, px_kill_ref, px_kill_null, iI_lit, iJ_lit, iI_add, iI_sub, iI_mul, iI_neg, iJ_add, iJ_sub, iJ_mul, iJ_neg, iI_lt, iI_le, iI_eq, iJ_lt, iJ_le, iJ_eq, iI_div, iJ_div, tdiv_tmod, iI_J, iJ_I, iI_ix, iI_toInt, iJ_toInt, cmp_ge, cmp_lt, cmp_eq, cmp_gt, cmp_le, cmp_geI, cmp_ltI, cmp_eqI, cmp_gtI, cmp_leI, bI_0I, bI_1I, pin, if_true]
  refine Eq.trans e2 ?_
  simp (disch := first | omega | assumption | decide | (simp (disch := omega) only [iI_lit, iJ_lit, iJ_eq, iI_eq, bI_01, bI_01I] <;> omega)) only [e_Dm_laysReduced_234, e_Dm_laysReduced_235, e_Dm_laysReduced_236, e_Dm_laysReduced_237, e_Dm_laysReduced_239, e_Dm_laysReduced_241, e_Dm_laysReduced_244, bd_some, bd_none, Option.toList_some, Option.toList_none, List.nil_append, List.cons_append, px_kill_int, px_kill_long, px_kill_ref, px_kill_null, iI_lit, iJ_lit, iI_add, iI_sub, iI_mul, iI_neg, iJ_add, iJ_sub, iJ_mul, iJ_neg, iI_lt, iI_le, iI_eq, iJ_lt, iJ_le, iJ_eq, iI_div, iJ_div, tdiv_tmod, iI_J, iJ_I, iI_ix, iI_toInt, iJ_toInt, cmp_ge, cmp_lt, cmp_eq, cmp_gt, cmp_le, cmp_geI, cmp_ltI, cmp_eqI, cmp_gtI, cmp_leI, bI_0I, bI_1I, pin, if_true, e3']
/-! reduced on both sides -/
theorem okW_brk {a b c d : Int} (ho : okS a b c d) : okW (bkW (brk a b c d)) (bkH (brk a b c d)) (bkS (brk a b c d)) := by
  obtain ⟨g1, g2, g3, g4⟩ := okG_brk ho
  exact ⟨by omega, by omega, g3, by omega⟩
abbrev rdN (f : Nat → Int) (k : Int) : Int := rdK (bkW (brkN f)) (bkH (brkN f)) (bkS (brkN f)) k
def qRed (V : VW) (i k : Int) : Int := if isK V i ∧ 0 ≤ k ∧ k ≤ 3 then rdN (V.2 i.toNat) k else -1000000
theorem s_rpart {T : TS} {w h s k : Int} (hk : 0 ≤ k ∧ k ≤ 3) (h0 : T.2.1 13 4 = iJ (rdK w h s 0)) (h1 : T.2.1 13 5 = iJ (rdK w h s 1)) (h2 : T.2.1 13 6 = iJ (rdK w h s 2)) (h3 : T.2.1 13 7 = iJ (rdK w h s 3)) : cl k_Red_part [.ref 13, .int (iI k)] (enc T) = some (some (.long (iJ (rdK w h s k))), enc T) := by
  have : k = 0 ∨ k = 1 ∨ k = 2 ∨ k = 3 := by omega
  have n20 : ¬ (2 : Int) = 0 := by omega
  have n21 : ¬ (2 : Int) = 1 := by omega
  have n30 : ¬ (3 : Int) = 0 := by omega
  have n31 : ¬ (3 : Int) = 1 := by omega
  have n32 : ¬ (3 : Int) = 2 := by omega
  rcases this with z | z | z | z <;> subst z
  · simp (disch := first | omega | assumption | decide | (simp (disch := omega) only [iI_lit, iJ_lit, iJ_eq, iI_eq, bI_01, bI_01I] <;> omega)) only [c_Red_part, e_Red_part_0, e_Red_part_1, e_Red_part_28, e_Red_part_29, e_Red_part_32, e_Red_part_33, e_Red_part_34, e_Red_part_37, e_Red_part_38, e_Red_part_39, e_Red_part_42, e_Red_part_43, e_Red_part_44, e_Red_part_47, bd_some, bd_none, Option.toList_some, Option.toList_none, List.nil_append, List.cons_append, px_kill_int, px_kill_long, px_kill_ref, px_kill_null, iI_lit, iJ_lit, iI_add, iI_sub, iI_mul, iI_neg, iJ_add, iJ_sub, iJ_mul, iJ_neg, iI_lt, iI_le, iI_eq, iJ_lt, iJ_le, iJ_eq, iI_div, iJ_div, tdiv_tmod, iI_J, iJ_I, iI_ix, iI_toInt, iJ_toInt, cmp_ge, cmp_lt, cmp_eq, cmp_gt, cmp_le, cmp_geI, cmp_ltI, cmp_eqI, cmp_gtI, cmp_leI, bI_0I, bI_1I, pin, if_true, sh_n13, h0]
  · simp (disch := first | omega | assumption | decide | (simp (disch := omega) only [iI_lit, iJ_lit, iJ_eq, iI_eq, bI_01, bI_01I] <;> omega)) only [c_Red_part, e_Red_part_0, e_Red_part_1, e_Red_part_28, e_Red_part_29, e_Red_part_32, e_Red_part_33, e_Red_part_34, e_Red_part_37, e_Red_part_38, e_Red_part_39, e_Red_part_42, e_Red_part_43, e_Red_part_44, e_Red_part_47, bd_some, bd_none, Option.toList_some, Option.toList_none, List.nil_append, List.cons_append, px_kill_int, px_kill_long, px_kill_ref, px_kill_null, iI_lit, iJ_lit, iI_add, iI_sub, iI_mul, iI_neg, iJ_add, iJ_sub, iJ_mul, iJ_neg, iI_lt, iI_le, iI_eq, iJ_lt, iJ_le, iJ_eq, iI_div, iJ_div, tdiv_tmod, iI_J, iJ_I, iI_ix, iI_toInt, iJ_toInt, cmp_ge, cmp_lt, cmp_eq, cmp_gt, cmp_le, cmp_geI, cmp_ltI, cmp_eqI, cmp_gtI, cmp_leI, bI_0I, bI_1I, pin, if_true, sh_n13, one0, if_false, h1]
  · simp (disch := first | omega | assumption | decide | (simp (disch := omega) only [iI_lit, iJ_lit, iJ_eq, iI_eq, bI_01, bI_01I] <;> omega)) only [c_Red_part, e_Red_part_0, e_Red_part_1, e_Red_part_28, e_Red_part_29, e_Red_part_32, e_Red_part_33, e_Red_part_34, e_Red_part_37, e_Red_part_38, e_Red_part_39, e_Red_part_42, e_Red_part_43, e_Red_part_44, e_Red_part_47, bd_some, bd_none, Option.toList_some, Option.toList_none, List.nil_append, List.cons_append, px_kill_int, px_kill_long, px_kill_ref, px_kill_null, iI_lit, iJ_lit, iI_add, iI_sub, iI_mul, iI_neg, iJ_add, iJ_sub, iJ_mul, iJ_neg, iI_lt, iI_le, iI_eq, iJ_lt, iJ_le, iJ_eq, iI_div, iJ_div, tdiv_tmod, iI_J, iJ_I, iI_ix, iI_toInt, iJ_toInt, cmp_ge, cmp_lt, cmp_eq, cmp_gt, cmp_le, cmp_geI, cmp_ltI, cmp_eqI, cmp_gtI, cmp_leI, bI_0I, bI_1I, pin, if_true, sh_n13, n20, n21, if_false, h2]
  · simp (disch := first | omega | assumption | decide | (simp (disch := omega) only [iI_lit, iJ_lit, iJ_eq, iI_eq, bI_01, bI_01I] <;> omega)) only [c_Red_part, e_Red_part_0, e_Red_part_1, e_Red_part_28, e_Red_part_29, e_Red_part_32, e_Red_part_33, e_Red_part_34, e_Red_part_37, e_Red_part_38, e_Red_part_39, e_Red_part_42, e_Red_part_43, e_Red_part_44, e_Red_part_47, bd_some, bd_none, Option.toList_some, Option.toList_none, List.nil_append, List.cons_append, px_kill_int, px_kill_long, px_kill_ref, px_kill_null, iI_lit, iJ_lit, iI_add, iI_sub, iI_mul, iI_neg, iJ_add, iJ_sub, iJ_mul, iJ_neg, iI_lt, iI_le, iI_eq, iJ_lt, iJ_le, iJ_eq, iI_div, iJ_div, tdiv_tmod, iI_J, iJ_I, iI_ix, iI_toInt, iJ_toInt, cmp_ge, cmp_lt, cmp_eq, cmp_gt, cmp_le, cmp_geI, cmp_ltI, cmp_eqI, cmp_gtI, cmp_leI, bI_0I, bI_1I, pin, if_true, sh_n13, n30, n31, n32, if_false, h3]
theorem s_mpart {T : TS} {w h s k : Int} (hk : 0 ≤ k ∧ k ≤ 3) (h0 : T.2.1 53 14 = iJ (rdK w h s 0)) (h1 : T.2.1 53 15 = iJ (rdK w h s 1)) (h2 : T.2.1 53 16 = iJ (rdK w h s 2)) (h3 : T.2.1 53 17 = iJ (rdK w h s 3)) : cl k_Dm_reducedBy [.ref 53, .int (iI k)] (enc T) = some (some (.long (iJ (rdK w h s k))), enc T) := by
  have : k = 0 ∨ k = 1 ∨ k = 2 ∨ k = 3 := by omega
  have n20 : ¬ (2 : Int) = 0 := by omega
  have n21 : ¬ (2 : Int) = 1 := by omega
  have n30 : ¬ (3 : Int) = 0 := by omega
  have n31 : ¬ (3 : Int) = 1 := by omega
  have n32 : ¬ (3 : Int) = 2 := by omega
  rcases this with z | z | z | z <;> subst z
  · simp (disch := first | omega | assumption | decide | (simp (disch := omega) only [iI_lit, iJ_lit, iJ_eq, iI_eq, bI_01, bI_01I] <;> omega)) only [c_Dm_reducedBy, e_Dm_reducedBy_0, e_Dm_reducedBy_1, e_Dm_reducedBy_4, e_Dm_reducedBy_5, e_Dm_reducedBy_8, e_Dm_reducedBy_11, e_Dm_reducedBy_12, e_Dm_reducedBy_13, e_Dm_reducedBy_16, e_Dm_reducedBy_17, e_Dm_reducedBy_20, e_Dm_reducedBy_23, e_Dm_reducedBy_24, e_Dm_reducedBy_25, e_Dm_reducedBy_28, e_Dm_reducedBy_29, e_Dm_reducedBy_32, e_Dm_reducedBy_35, e_Dm_reducedBy_36, e_Dm_reducedBy_39, bd_some, bd_none, Option.toList_some, Option.toList_none, List.nil_append, List.cons_append, px_kill_int, px_kill_long, px_kill_ref, px_kill_null, iI_lit, iJ_lit, iI_add, iI_sub, iI_mul, iI_neg, iJ_add, iJ_sub, iJ_mul, iJ_neg, iI_lt, iI_le, iI_eq, iJ_lt, iJ_le, iJ_eq, iI_div, iJ_div, tdiv_tmod, iI_J, iJ_I, iI_ix, iI_toInt, iJ_toInt, cmp_ge, cmp_lt, cmp_eq, cmp_gt, cmp_le, cmp_geI, cmp_ltI, cmp_eqI, cmp_gtI, cmp_leI, bI_0I, bI_1I, pin, if_true, h0]
  · simp (disch := first | omega | assumption | decide | (simp (disch := omega) only [iI_lit, iJ_lit, iJ_eq, iI_eq, bI_01, bI_01I] <;> omega)) only [c_Dm_reducedBy, e_Dm_reducedBy_0, e_Dm_reducedBy_1, e_Dm_reducedBy_4, e_Dm_reducedBy_5, e_Dm_reducedBy_8, e_Dm_reducedBy_11, e_Dm_reducedBy_12, e_Dm_reducedBy_13, e_Dm_reducedBy_16, e_Dm_reducedBy_17, e_Dm_reducedBy_20, e_Dm_reducedBy_23, e_Dm_reducedBy_24, e_Dm_reducedBy_25, e_Dm_reducedBy_28, e_Dm_reducedBy_29, e_Dm_reducedBy_32, e_Dm_reducedBy_35, e_Dm_reducedBy_36, e_Dm_reducedBy_39, bd_some, bd_none, Option.toList_some, Option.toList_none, List.nil_append, List.cons_append, px_kill_int, px_kill_long, px_kill_ref, px_kill_null, iI_lit, iJ_lit, iI_add, iI_sub, iI_mul, iI_neg, iJ_add, iJ_sub, iJ_mul, iJ_neg, iI_lt, iI_le, iI_eq, iJ_lt, iJ_le, iJ_eq, iI_div, iJ_div, tdiv_tmod, iI_J, iJ_I, iI_ix, iI_toInt, iJ_toInt, cmp_ge, cmp_lt, cmp_eq, cmp_gt, cmp_le, cmp_geI, cmp_ltI, cmp_eqI, cmp_gtI, cmp_leI, bI_0I, bI_1I, pin, if_true, one0, if_false, h1]
  · simp (disch := first | omega | assumption | decide | (simp (disch := omega) only [iI_lit, iJ_lit, iJ_eq, iI_eq, bI_01, bI_01I] <;> omega)) only [c_Dm_reducedBy, e_Dm_reducedBy_0, e_Dm_reducedBy_1, e_Dm_reducedBy_4, e_Dm_reducedBy_5, e_Dm_reducedBy_8, e_Dm_reducedBy_11, e_Dm_reducedBy_12, e_Dm_reducedBy_13, e_Dm_reducedBy_16, e_Dm_reducedBy_17, e_Dm_reducedBy_20, e_Dm_reducedBy_23, e_Dm_reducedBy_24, e_Dm_reducedBy_25, e_Dm_reducedBy_28, e_Dm_reducedBy_29, e_Dm_reducedBy_32, e_Dm_reducedBy_35, e_Dm_reducedBy_36, e_Dm_reducedBy_39, bd_some, bd_none, Option.toList_some, Option.toList_none, List.nil_append, List.cons_append, px_kill_int, px_kill_long, px_kill_ref, px_kill_null, iI_lit, iJ_lit, iI_add, iI_sub, iI_mul, iI_neg, iJ_add, iJ_sub, iJ_mul, iJ_neg, iI_lt, iI_le, iI_eq, iJ_lt, iJ_le, iJ_eq, iI_div, iJ_div, tdiv_tmod, iI_J, iJ_I, iI_ix, iI_toInt, iJ_toInt, cmp_ge, cmp_lt, cmp_eq, cmp_gt, cmp_le, cmp_geI, cmp_ltI, cmp_eqI, cmp_gtI, cmp_leI, bI_0I, bI_1I, pin, if_true, n20, n21, if_false, h2]
  · simp (disch := first | omega | assumption | decide | (simp (disch := omega) only [iI_lit, iJ_lit, iJ_eq, iI_eq, bI_01, bI_01I] <;> omega)) only [c_Dm_reducedBy, e_Dm_reducedBy_0, e_Dm_reducedBy_1, e_Dm_reducedBy_4, e_Dm_reducedBy_5, e_Dm_reducedBy_8, e_Dm_reducedBy_11, e_Dm_reducedBy_12, e_Dm_reducedBy_13, e_Dm_reducedBy_16, e_Dm_reducedBy_17, e_Dm_reducedBy_20, e_Dm_reducedBy_23, e_Dm_reducedBy_24, e_Dm_reducedBy_25, e_Dm_reducedBy_28, e_Dm_reducedBy_29, e_Dm_reducedBy_32, e_Dm_reducedBy_35, e_Dm_reducedBy_36, e_Dm_reducedBy_39, bd_some, bd_none, Option.toList_some, Option.toList_none, List.nil_append, List.cons_append, px_kill_int, px_kill_long, px_kill_ref, px_kill_null, iI_lit, iJ_lit, iI_add, iI_sub, iI_mul, iI_neg, iJ_add, iJ_sub, iJ_mul, iJ_neg, iI_lt, iI_le, iI_eq, iJ_lt, iJ_le, iJ_eq, iI_div, iJ_div, tdiv_tmod, iI_J, iJ_I, iI_ix, iI_toInt, iJ_toInt, cmp_ge, cmp_lt, cmp_eq, cmp_gt, cmp_le, cmp_geI, cmp_ltI, cmp_eqI, cmp_gtI, cmp_leI, bI_0I, bI_1I, pin, if_true, n30, n31, n32, if_false, h3]
theorem aNo_B {q k : Nat} (h : aNo q k) : aB q k := h.elim
set_option maxHeartbeats 1000000 in
theorem q_Ds_reduced {T : TS} {V : VW} (hV : okV V) (h : cC T V) {i k : Int} (hi : inI i) (hk : inI k) : ∃ T', cl k_Ds_reduced [.ref 0, .int (iI i), .int (iI k)] (enc T) = some (some (.int (iI (qRed V i k))), enc T') ∧ FrA aB bB T T' := by
  have g1 := g_isInk hV h hi
  obtain ⟨i1, i2⟩ := id hi
  obtain ⟨k1, k2⟩ := hk
  unfold qRed
  by_cases c1 : isK V i
  · rw [bI_tI c1] at g1
    by_cases c2 : k < 0
    · rw [if_neg (fun z => by omega)]
      refine ⟨T, ?_, FrA.rf _ _ _⟩
      simp (disch := first | omega | assumption | decide | (simp (disch := omega) only [iI_lit, iJ_lit, iJ_eq, iI_eq, bI_01, bI_01I] <;> omega)) only [c_Ds_reduced, e_Ds_reduced_0, e_Ds_reduced_1, e_Ds_reduced_2, e_Ds_reduced_5, e_Ds_reduced_8, e_Ds_reduced_9, e_Ds_reduced_12, e_Ds_reduced_13, e_Ds_reduced_14, e_Ds_reduced_17, e_Ds_reduced_19, e_Ds_reduced_20, e_Ds_reduced_21, e_Ds_reduced_24, e_Ds_reduced_25, e_Ds_reduced_28, e_Ds_reduced_29, e_Ds_reduced_30, e_Ds_reduced_33, e_Ds_reduced_36, e_Ds_reduced_37, e_Ds_reduced_40, e_Ds_reduced_41, e_Ds_reduced_44, e_Ds_reduced_45, bd_some, bd_none, Option.toList_some, Option.toList_none, List.nil_append, List.cons_append, px_kill_int, px_kill_long, px_kill_ref, px_kill_null, iI_lit, iJ_lit, iI_add, iI_sub, iI_mul, iI_neg, iJ_add, iJ_sub, iJ_mul, iJ_neg, iI_lt, iI_le, iI_eq, iJ_lt, iJ_le, iJ_eq, iI_div, iJ_div, tdiv_tmod, iI_J, iJ_I, iI_ix, iI_toInt, iJ_toInt, cmp_ge, cmp_lt, cmp_eq, cmp_gt, cmp_le, cmp_geI, cmp_ltI, cmp_eqI, cmp_gtI, cmp_leI, bI_0I, bI_1I, pin, if_true, g1, one0, if_false, c2]
    · by_cases c3 : k ≤ 3
      · rw [if_pos ⟨c1, by omega⟩]
        obtain ⟨j, rfl⟩ : ∃ j : Nat, i = (j : Int) := ⟨i.toNat, by omega⟩
        have hj : j < V.1 := by have := c1.2; omega
        have ej : ((j : Int)).toNat = j := by omega
        obtain ⟨h4, hp, hs, hI⟩ := cC.at hV h hj
        have q2 := (pl_s3 hp).2.2.2.2.2
        obtain ⟨T1, e1, f1, r0, r1, r2, r3⟩ := c_reduce (T := T) q2 (by unfold isPl at hp; omega) hI.1.2.2.2.1 (okW_brk (hV.2 j hj).1)
        have ep := s_rpart (k := k) (by omega) r0 r1 r2 r3
        rw [ej]
        refine ⟨T1, ?_, f1.mono (fun q k z => aNo_B z) (fun q k z => by unfold bRd at z; unfold bB; omega)⟩
        simp (disch := first | omega | assumption | decide | (simp (disch := omega) only [iI_lit, iJ_lit, iJ_eq, iI_eq, bI_01, bI_01I] <;> omega)) only [c_Ds_reduced, e_Ds_reduced_0, e_Ds_reduced_1, e_Ds_reduced_2, e_Ds_reduced_5, e_Ds_reduced_8, e_Ds_reduced_9, e_Ds_reduced_12, e_Ds_reduced_13, e_Ds_reduced_14, e_Ds_reduced_17, e_Ds_reduced_19, e_Ds_reduced_20, e_Ds_reduced_21, e_Ds_reduced_24, e_Ds_reduced_25, e_Ds_reduced_28, e_Ds_reduced_29, e_Ds_reduced_30, e_Ds_reduced_33, e_Ds_reduced_36, e_Ds_reduced_37, e_Ds_reduced_40, e_Ds_reduced_41, e_Ds_reduced_44, e_Ds_reduced_45, bd_some, bd_none, Option.toList_some, Option.toList_none, List.nil_append, List.cons_append, px_kill_int, px_kill_long, px_kill_ref, px_kill_null, iI_lit, iJ_lit, iI_add, iI_sub, iI_mul, iI_neg, iJ_add, iJ_sub, iJ_mul, iJ_neg, iI_lt, iI_le, iI_eq, iJ_lt, iJ_le, iJ_eq, iI_div, iJ_div, tdiv_tmod, iI_J, iJ_I, iI_ix, iI_toInt, iJ_toInt, cmp_ge, cmp_lt, cmp_eq, cmp_gt, cmp_le, cmp_geI, cmp_ltI, cmp_eqI, cmp_gtI, cmp_leI, bI_0I, bI_1I, pin, if_true, g1, one0, if_false, c2, c3, sh_n5, sh_n13, ej, hs, e1, ep]
      · rw [if_neg (fun z => by omega)]
        refine ⟨T, ?_, FrA.rf _ _ _⟩
        simp (disch := first | omega | assumption | decide | (simp (disch := omega) only [iI_lit, iJ_lit, iJ_eq, iI_eq, bI_01, bI_01I] <;> omega)) only [c_Ds_reduced, e_Ds_reduced_0, e_Ds_reduced_1, e_Ds_reduced_2, e_Ds_reduced_5, e_Ds_reduced_8, e_Ds_reduced_9, e_Ds_reduced_12, e_Ds_reduced_13, e_Ds_reduced_14, e_Ds_reduced_17, e_Ds_reduced_19, e_Ds_reduced_20, e_Ds_reduced_21, e_Ds_reduced_24, e_Ds_reduced_25, e_Ds_reduced_28, e_Ds_reduced_29, e_Ds_reduced_30, e_Ds_reduced_33, e_Ds_reduced_36, e_Ds_reduced_37, e_Ds_reduced_40, e_Ds_reduced_41, e_Ds_reduced_44, e_Ds_reduced_45, bd_some, bd_none, Option.toList_some, Option.toList_none, List.nil_append, List.cons_append, px_kill_int, px_kill_long, px_kill_ref, px_kill_null, iI_lit, iJ_lit, iI_add, iI_sub, iI_mul, iI_neg, iJ_add, iJ_sub, iJ_mul, iJ_neg, iI_lt, iI_le, iI_eq, iJ_lt, iJ_le, iJ_eq, iI_div, iJ_div, tdiv_tmod, iI_J, iJ_I, iI_ix, iI_toInt, iJ_toInt, cmp_ge, cmp_lt, cmp_eq, cmp_gt, cmp_le, cmp_geI, cmp_ltI, cmp_eqI, cmp_gtI, cmp_leI, bI_0I, bI_1I, pin, if_true, g1, one0, if_false, c2, c3]
  · rw [bI_fI c1] at g1
    rw [if_neg (fun z => c1 z.1)]
    refine ⟨T, ?_, FrA.rf _ _ _⟩
    simp (disch := first | omega | assumption | decide | (simp (disch := omega) only [iI_lit, iJ_lit, iJ_eq, iI_eq, bI_01, bI_01I] <;> omega)) only [c_Ds_reduced, e_Ds_reduced_0, e_Ds_reduced_1, e_Ds_reduced_2, e_Ds_reduced_5, e_Ds_reduced_8, e_Ds_reduced_9, e_Ds_reduced_12, e_Ds_reduced_13, e_Ds_reduced_14, e_Ds_reduced_17, e_Ds_reduced_19, e_Ds_reduced_20, e_Ds_reduced_21, e_Ds_reduced_24, e_Ds_reduced_25, e_Ds_reduced_28, e_Ds_reduced_29, e_Ds_reduced_30, e_Ds_reduced_33, e_Ds_reduced_36, e_Ds_reduced_37, e_Ds_reduced_40, e_Ds_reduced_41, e_Ds_reduced_44, e_Ds_reduced_45, bd_some, bd_none, Option.toList_some, Option.toList_none, List.nil_append, List.cons_append, px_kill_int, px_kill_long, px_kill_ref, px_kill_null, iI_lit, iJ_lit, iI_add, iI_sub, iI_mul, iI_neg, iJ_add, iJ_sub, iJ_mul, iJ_neg, iI_lt, iI_le, iI_eq, iJ_lt, iJ_le, iJ_eq, iI_div, iJ_div, tdiv_tmod, iI_J, iJ_I, iI_ix, iI_toInt, iJ_toInt, cmp_ge, cmp_lt, cmp_eq, cmp_gt, cmp_le, cmp_geI, cmp_ltI, cmp_eqI, cmp_gtI, cmp_leI, bI_0I, bI_1I, pin, if_true, g1]
set_option maxHeartbeats 1000000 in
theorem q_Dm_reduced {T : TS} {V : VW} (hV : okV V) (h : cM T V) {i k : Int} (hi : inI i) (hk : inI k) : ∃ T', cl k_Dm_reduced [.ref 53, .int (iI i), .int (iI k)] (enc T) = some (some (.int (iI (qRed V i k))), enc T') ∧ FrM T T' := by
  have hM : cM (t0 T) V := h.fr (t0_fr T)
  have g1 := g_inM hV hM hi
  obtain ⟨i1, i2⟩ := id hi
  obtain ⟨k1, k2⟩ := hk
  have g2 := s_in (x := k) (l := 0) (h := 3) (enc (t0 T)) (by omega) (by omega) (by omega)
  unfold qRed
  by_cases c1 : isK V i
  · rw [bI_tI c1] at g1
    by_cases c2 : 0 ≤ k ∧ k ≤ 3
    · rw [bI_tI c2] at g2
      rw [if_pos ⟨c1, c2⟩]
      obtain ⟨j, rfl⟩ : ∃ j : Nat, i = (j : Int) := ⟨i.toNat, by omega⟩
      have hj : j < V.1 := by have := c1.2; omega
      have ej : ((j : Int)).toNat = j := by omega
      have hink := hM.ink hV hj
      have hb : cl k_Dm_laysBrick [.ref 53, .int (iI (j : Int))] (enc (t0 T)) = some (none, enc (tBrk (t0 T) (V.2 j 0) (V.2 j 1) (V.2 j 2) (V.2 j 3))) := s_laysBrick (t0 T) hink.1 hink.2.2.1 hink.2.1
      have hg := tBrk_g (t0 T) (V.2 j 0) (V.2 j 1) (V.2 j 2) (V.2 j 3)
      obtain ⟨T1, e1, f1, r0, r1, r2, r3⟩ := m_laysReduced hg (okW_brk (hV.2 j hj).1)
      have ep := s_mpart (k := k) c2 r0 r1 r2 r3
      rw [ej]
      refine ⟨T1, ?_, ((t0_fr T).tr (tBrk_fr _ _ _ _ _)).tr (FrM.ofA f1 (fun q k z => z.elim) (fun q k z => by unfold bRm at z; omega))⟩
      simp (disch := first | omega | assumption | decide | (simp (disch := omega) only [iI_lit, iJ_lit, iJ_eq, iI_eq, bI_01, bI_01I] <;> omega)) only [c_Dm_reduced, e_Dm_reduced_0, e_Dm_reduced_1, e_Dm_reduced_2, e_Dm_reduced_5, e_Dm_reduced_6, e_Dm_reduced_7, e_Dm_reduced_10, e_Dm_reduced_13, e_Dm_reduced_14, e_Dm_reduced_15, e_Dm_reduced_16, e_Dm_reduced_19, e_Dm_reduced_22, e_Dm_reduced_25, e_Dm_reduced_28, e_Dm_reduced_29, e_Dm_reduced_30, e_Dm_reduced_31, e_Dm_reduced_34, e_Dm_reduced_35, e_Dm_reduced_38, e_Dm_reduced_39, e_Dm_reduced_40, e_Dm_reduced_43, e_Dm_reduced_44, bd_some, bd_none, Option.toList_some, Option.toList_none, List.nil_append, List.cons_append, px_kill_int, px_kill_long, px_kill_ref, px_kill_null, iI_lit, iJ_lit, iI_add, iI_sub, iI_mul, iI_neg, iJ_add, iJ_sub, iJ_mul, iJ_neg, iI_lt, iI_le, iI_eq, iJ_lt, iJ_le, iJ_eq, iI_div, iJ_div, tdiv_tmod, iI_J, iJ_I, iI_ix, iI_toInt, iJ_toInt, cmp_ge, cmp_lt, cmp_eq, cmp_gt, cmp_le, cmp_geI, cmp_ltI, cmp_eqI, cmp_gtI, cmp_leI, bI_0I, bI_1I, pin, if_true, g1, g2, one0, if_false, hb, e1, ep]
    · rw [bI_fI c2] at g2
      rw [if_neg (fun z => c2 z.2)]
      refine ⟨t0 T, ?_, t0_fr T⟩
      simp (disch := first | omega | assumption | decide | (simp (disch := omega) only [iI_lit, iJ_lit, iJ_eq, iI_eq, bI_01, bI_01I] <;> omega)) only [c_Dm_reduced, e_Dm_reduced_0, e_Dm_reduced_1, e_Dm_reduced_2, e_Dm_reduced_5, e_Dm_reduced_6, e_Dm_reduced_7, e_Dm_reduced_10, e_Dm_reduced_13, e_Dm_reduced_14, e_Dm_reduced_15, e_Dm_reduced_16, e_Dm_reduced_19, e_Dm_reduced_22, e_Dm_reduced_25, e_Dm_reduced_28, e_Dm_reduced_29, e_Dm_reduced_30, e_Dm_reduced_31, e_Dm_reduced_34, e_Dm_reduced_35, e_Dm_reduced_38, e_Dm_reduced_39, e_Dm_reduced_40, e_Dm_reduced_43, e_Dm_reduced_44, bd_some, bd_none, Option.toList_some, Option.toList_none, List.nil_append, List.cons_append, px_kill_int, px_kill_long, px_kill_ref, px_kill_null, iI_lit, iJ_lit, iI_add, iI_sub, iI_mul, iI_neg, iJ_add, iJ_sub, iJ_mul, iJ_neg, iI_lt, iI_le, iI_eq, iJ_lt, iJ_le, iJ_eq, iI_div, iJ_div, tdiv_tmod, iI_J, iJ_I, iI_ix, iI_toInt, iJ_toInt, cmp_ge, cmp_lt, cmp_eq, cmp_gt, cmp_le, cmp_geI, cmp_ltI, cmp_eqI, cmp_gtI, cmp_leI, bI_0I, bI_1I, pin, if_true, g1, g2, one0, if_false]
  · rw [bI_fI c1] at g1
    rw [if_neg (fun z => c1 z.1)]
    refine ⟨t0 T, ?_, t0_fr T⟩
    simp (disch := first | omega | assumption | decide | (simp (disch := omega) only [iI_lit, iJ_lit, iJ_eq, iI_eq, bI_01, bI_01I] <;> omega)) only [c_Dm_reduced, e_Dm_reduced_0, e_Dm_reduced_1, e_Dm_reduced_2, e_Dm_reduced_5, e_Dm_reduced_6, e_Dm_reduced_7, e_Dm_reduced_10, e_Dm_reduced_13, e_Dm_reduced_14, e_Dm_reduced_15, e_Dm_reduced_16, e_Dm_reduced_19, e_Dm_reduced_22, e_Dm_reduced_25, e_Dm_reduced_28, e_Dm_reduced_29, e_Dm_reduced_30, e_Dm_reduced_31, e_Dm_reduced_34, e_Dm_reduced_35, e_Dm_reduced_38, e_Dm_reduced_39, e_Dm_reduced_40, e_Dm_reduced_43, e_Dm_reduced_44, bd_some, bd_none, Option.toList_some, Option.toList_none, List.nil_append, List.cons_append, px_kill_int, px_kill_long, px_kill_ref, px_kill_null, iI_lit, iJ_lit, iI_add, iI_sub, iI_mul, iI_neg, iJ_add, iJ_sub, iJ_mul, iJ_neg, iI_lt, iI_le, iI_eq, iJ_lt, iJ_le, iJ_eq, iI_div, iJ_div, tdiv_tmod, iI_J, iJ_I, iI_ix, iI_toInt, iJ_toInt, cmp_ge, cmp_lt, cmp_eq, cmp_gt, cmp_le, cmp_geI, cmp_ltI, cmp_eqI, cmp_gtI, cmp_leI, bI_0I, bI_1I, pin, if_true, g1]
