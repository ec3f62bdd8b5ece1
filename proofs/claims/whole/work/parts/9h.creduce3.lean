/-! the component's second shortest move; reduced. -/
def sH (T : TS) (s : Option (Int × Int)) : Prop := ∀ o, s = some o → T.2.1 13 6 = iJ o.1 ∧ T.2.1 13 7 = iJ o.2
def fdO (s : Option (Int × Int)) : Int := match s with
  | none => 0
  | some _ => 1
theorem fH.fr {T T' : TS} {s : Int × Int} {a : Nat → Nat → Prop} {lo : Nat} (h : fH T s) (hf : FrA a (bRd lo) T T') (hlo : 6 ≤ lo) : fH T' s := ⟨by rw [hf.2.1 _ _ (by unfold bRd; omega)]; exact h.1, by rw [hf.2.1 _ _ (by unfold bRd; omega)]; exact h.2⟩
/-- one more: how the second one changes -/
theorem sS_cases {q : Q4} {f : Int × Int} {c i j : Int} (s : Option (Int × Int)) : (((f.1 * cbY q i j - f.2 * cbX q i j).natAbs : Int) ≠ c ∧ sS q f c i j s = s) ∨ (((f.1 * cbY q i j - f.2 * cbX q i j).natAbs : Int) = c ∧ ((s = none ∧ sS q f c i j s = some (cbX q i j, cbY q i j)) ∨ ∃ o, s = some o ∧ ((isAh (cbX q i j) (cbY q i j) o.1 o.2 ∧ sS q f c i j s = some (cbX q i j, cbY q i j)) ∨ (¬ isAh (cbX q i j) (cbY q i j) o.1 o.2 ∧ sS q f c i j s = s)))) := by
  unfold sS
  by_cases h : ((f.1 * cbY q i j - f.2 * cbX q i j).natAbs : Int) = c
  · right
    refine ⟨h, ?_⟩
    rw [if_pos h]
    cases s with
    | none => exact Or.inl ⟨rfl, rfl⟩
    | some o =>
      right
      refine ⟨o, rfl, ?_⟩
      by_cases a : isAh (cbX q i j) (cbY q i j) o.1 o.2
      · exact Or.inl ⟨a, by simp only; rw [if_pos a]⟩
      · exact Or.inr ⟨a, by simp only; rw [if_neg a]⟩
  · exact Or.inl ⟨h, if_neg h⟩
set_option maxHeartbeats 4000000 in
theorem lp_fs2 {N : Int} (hN : bNn N) {q : Q4} (ho : okR N q) {f : Int × Int} (hf : isC1 q f) (hd : -429981696 ≤ ddU q ∧ ddU q ≤ 429981696) {c : Int} (hc : 0 ≤ c ∧ c ≤ 429981696) {i : Int} (hi : -2 ≤ i ∧ i ≤ 2) : ∀ (t : Nat) (j : Int) (s : Option (Int × Int)) (T : TS), -2 ≤ j → j + t = 3 → isC2 q s → rH T q → fH T f → sH T s → ∀ a6 a7 a8 a9 : Value, ∃ (T' : TS) (b6 b7 b8 b9 : Value), rn k_Red_findSecond 16 [.ref 13, .long (iJ c), .null, .int (iI (fdO s)), .int (iI i), .int (iI j), a6, a7, a8, a9] [] (enc T) = rn k_Red_findSecond 128 [.ref 13, .long (iJ c), .null, .int (iI (fdO (sR2 q f c i s j t))), .int (iI i), .int (iI 3), b6, b7, b8, b9] [] (enc T') ∧ FrA aNo (bRd 6) T T' ∧ sH T' (sR2 q f c i s j t) := by
  intro t
  induction t with
  | zero =>
    intro j s T h1 h2 hs hr hF hS a6 a7 a8 a9
    have e : j = 3 := by omega
    have l12 : (2 : Int) < 3 := by omega
    refine ⟨T, a6, a7, a8, a9, ?_, FrA.rf _ _ _, hS⟩
    rw [e, e_Red_findSecond_16]
    simp (disch := first | omega | assumption | decide | (simp (disch := omega) only [iI_lit, iJ_lit, iJ_eq, iI_eq, bI_01, bI_01I] <;> omega)) only [e_Red_findSecond_18, e_Red_findSecond_19, bd_some, bd_none, Option.toList_some, Option.toList_none, List.nil_append, List.cons_append, px_kill_int, px_kill_long, px_kill_ref, px_kill_null, iI_lit, iJ_lit, iI_add, iI_sub, iI_mul, iI_neg, iJ_add, iJ_sub, iJ_mul, iJ_neg, iI_lt, iI_le, iI_eq, iJ_lt, iJ_le, iJ_eq, iI_div, iJ_div, tdiv_tmod, iI_J, iJ_I, iI_ix, iI_toInt, iJ_toInt, cmp_ge, cmp_lt, cmp_eq, cmp_gt, cmp_le, cmp_geI, cmp_ltI, cmp_eqI, cmp_gtI, cmp_leI, bI_0I, bI_1I, pin, if_true, l12]
    rfl
  | succ t ih =>
    intro j s T h1 h2 hs hr hF hS a6 a7 a8 a9
    have nlt : ¬ (2 : Int) < j := by omega
    obtain ⟨r0, r1, r2, r3⟩ := id hr
    obtain ⟨f0, f1⟩ := id hF
    have cz : okZ (cbX q i j) (cbY q i j) := (cb_bd hN ho (i := i) (j := j) (by omega) (by omega)).2
    have cb := crs_bd hf hd (i := i) (j := j) hi (by omega)
    have eab := s_absJ2 (a := f.1 * cbY q i j - f.2 * cbX q i j) (by omega) (enc T)
    have ex : i * q.1 + j * q.2.2.1 = cbX q i j := rfl
    have ey : i * q.2.1 + j * q.2.2.2 = cbY q i j := rfl
    have fold : sR2 q f c i s j (t + 1) = sR2 q f c i (sS q f c i j s) (j + 1) t := rfl
    rw [fold]
    have pre : rn k_Red_findSecond 16 [.ref 13, .long (iJ c), .null, .int (iI (fdO s)), .int (iI i), .int (iI j), a6, a7, a8, a9] [] (enc T) = rn k_Red_findSecond 78 [.ref 13, .long (iJ c), .null, .int (iI (fdO s)), .int (iI i), .int (iI j), .long (iJ (cbX q i j)), .null, .long (iJ (cbY q i j)), .null] [.long (iJ ((f.1 * cbY q i j - f.2 * cbX q i j).natAbs : Int))] (enc T) := by
      rw [e_Red_findSecond_16]
      simp (disch := first | omega | assumption | decide | (simp (disch := omega) only [iI_lit, iJ_lit, iJ_eq, iI_eq, bI_01, bI_01I] <;> omega)) only [e_Red_findSecond_18, e_Red_findSecond_19, e_Red_findSecond_22, e_Red_findSecond_24, e_Red_findSecond_25, e_Red_findSecond_26, e_Red_findSecond_29, e_Red_findSecond_30, e_Red_findSecond_32, e_Red_findSecond_33, e_Red_findSecond_34, e_Red_findSecond_37, e_Red_findSecond_38, e_Red_findSecond_39, e_Red_findSecond_41, e_Red_findSecond_43, e_Red_findSecond_44, e_Red_findSecond_45, e_Red_findSecond_48, e_Red_findSecond_49, e_Red_findSecond_51, e_Red_findSecond_52, e_Red_findSecond_53, e_Red_findSecond_56, e_Red_findSecond_57, e_Red_findSecond_58, e_Red_findSecond_60, e_Red_findSecond_61, e_Red_findSecond_64, e_Red_findSecond_66, e_Red_findSecond_67, e_Red_findSecond_68, e_Red_findSecond_71, e_Red_findSecond_73, e_Red_findSecond_74, e_Red_findSecond_75, bd_some, bd_none, Option.toList_some, Option.toList_none, List.nil_append, List.cons_append, px_kill_int, px_kill_long, px_kill_ref, px_kill_null, iI_lit, iJ_lit, iI_add, iI_sub, iI_mul, iI_neg, iJ_add, iJ_sub, iJ_mul, iJ_neg, iI_lt, iI_le, iI_eq, iJ_lt, iJ_le, iJ_eq, iI_div, iJ_div, tdiv_tmod, iI_J, iJ_I, iI_ix, iI_toInt, iJ_toInt, cmp_ge, cmp_lt, cmp_eq, cmp_gt, cmp_le, cmp_geI, cmp_ltI, cmp_eqI, cmp_gtI, cmp_leI, bI_0I, bI_1I, pin, if_true, nlt, if_false, sh_n13, r0, r1, r2, r3, f0, f1, ex, ey, eab]
    have keep : ∀ s', s' = s → rn k_Red_findSecond 16 [.ref 13, .long (iJ c), .null, .int (iI (fdO s)), .int (iI i), .int (iI j), a6, a7, a8, a9] [] (enc T) = rn k_Red_findSecond 122 [.ref 13, .long (iJ c), .null, .int (iI (fdO s)), .int (iI i), .int (iI j), .long (iJ (cbX q i j)), .null, .long (iJ (cbY q i j)), .null] [] (enc T) → ∃ (T' : TS) (b6 b7 b8 b9 : Value), rn k_Red_findSecond 16 [.ref 13, .long (iJ c), .null, .int (iI (fdO s)), .int (iI i), .int (iI j), a6, a7, a8, a9] [] (enc T) = rn k_Red_findSecond 128 [.ref 13, .long (iJ c), .null, .int (iI (fdO (sR2 q f c i s' (j + 1) t))), .int (iI i), .int (iI 3), b6, b7, b8, b9] [] (enc T') ∧ FrA aNo (bRd 6) T T' ∧ sH T' (sR2 q f c i s' (j + 1) t) := by
      intro s' hs' e0
      subst hs'
      obtain ⟨T2, b6, b7, b8, b9, e2, f2, g2⟩ := ih (j + 1) s' T (by omega) (by omega) hs hr hF hS (.long (iJ (cbX q i j))) .null (.long (iJ (cbY q i j))) .null
      refine ⟨T2, b6, b7, b8, b9, ?_, f2, g2⟩
      rw [e0]
      refine Eq.trans ?_ e2
      simp (disch := first | omega | assumption | decide | (simp (disch := omega) only [iI_lit, iJ_lit, iJ_eq, iI_eq, bI_01, bI_01I] <;> omega)) only [e_Red_findSecond_122, e_Red_findSecond_125, bd_some, bd_none, Option.toList_some, Option.toList_none, List.nil_append, List.cons_append, px_kill_int, px_kill_long, px_kill_ref, px_kill_null, iI_lit, iJ_lit, iI_add, iI_sub, iI_mul, iI_neg, iJ_add, iJ_sub, iJ_mul, iJ_neg, iI_lt, iI_le, iI_eq, iJ_lt, iJ_le, iJ_eq, iI_div, iJ_div, tdiv_tmod, iI_J, iJ_I, iI_ix, iI_toInt, iJ_toInt, cmp_ge, cmp_lt, cmp_eq, cmp_gt, cmp_le, cmp_geI, cmp_ltI, cmp_eqI, cmp_gtI, cmp_leI, bI_0I, bI_1I, pin, if_true]
    have take : ∀ s', s' = some (cbX q i j, cbY q i j) → rn k_Red_findSecond 16 [.ref 13, .long (iJ c), .null, .int (iI (fdO s)), .int (iI i), .int (iI j), a6, a7, a8, a9] [] (enc T) = rn k_Red_findSecond 108 [.ref 13, .long (iJ c), .null, .int (iI (fdO s)), .int (iI i), .int (iI j), .long (iJ (cbX q i j)), .null, .long (iJ (cbY q i j)), .null] [] (enc T) → ∃ (T' : TS) (b6 b7 b8 b9 : Value), rn k_Red_findSecond 16 [.ref 13, .long (iJ c), .null, .int (iI (fdO s)), .int (iI i), .int (iI j), a6, a7, a8, a9] [] (enc T) = rn k_Red_findSecond 128 [.ref 13, .long (iJ c), .null, .int (iI (fdO (sR2 q f c i s' (j + 1) t))), .int (iI i), .int (iI 3), b6, b7, b8, b9] [] (enc T') ∧ FrA aNo (bRd 6) T T' ∧ sH T' (sR2 q f c i s' (j + 1) t) := by
      intro s' hs' e0
      have f' : FrA aNo (bRd 6) T (sJ (sJ T 13 6 (iJ (cbX q i j))) 13 7 (iJ (cbY q i j))) := ((FrA.rf _ _ T).wrJ _ ⟨rfl, by omega⟩).wrJ _ ⟨rfl, by omega⟩
      obtain ⟨T2, b6, b7, b8, b9, e2, f2, g2⟩ := ih (j + 1) s' (sJ (sJ T 13 6 (iJ (cbX q i j))) 13 7 (iJ (cbY q i j))) (by omega) (by omega) (by rw [hs']; intro o ho'; cases ho'; exact ⟨i, j, hi, by omega, rfl⟩) (hr.fr f' (by omega)) (hF.fr f' (by omega)) (by rw [hs']; intro o ho'; cases ho'; exact ⟨by simp only [sI_get, sJ_get, sI_2, sJ_1, sJ_22, sR_1, sR_21, Nat.reduceEqDiff, and_true, true_and, and_false, false_and, and_self, if_true, if_false, reduceIte], by simp only [sI_get, sJ_get, sI_2, sJ_1, sJ_22, sR_1, sR_21, Nat.reduceEqDiff, and_true, true_and, and_false, false_and, and_self, if_true, if_false, reduceIte]⟩) (.long (iJ (cbX q i j))) .null (.long (iJ (cbY q i j))) .null
      refine ⟨T2, b6, b7, b8, b9, ?_, f'.tr f2, g2⟩
      rw [e0]
      have e1 : fdO s' = 1 := by rw [hs']; rfl
      rw [e1] at e2
      refine Eq.trans ?_ e2
      simp (disch := first | omega | assumption | decide | (simp (disch := omega) only [iI_lit, iJ_lit, iJ_eq, iI_eq, bI_01, bI_01I] <;> omega)) only [e_Red_findSecond_108, e_Red_findSecond_109, e_Red_findSecond_110, e_Red_findSecond_111, e_Red_findSecond_113, e_Red_findSecond_116, e_Red_findSecond_117, e_Red_findSecond_119, e_Red_findSecond_122, e_Red_findSecond_125, bd_some, bd_none, Option.toList_some, Option.toList_none, List.nil_append, List.cons_append, px_kill_int, px_kill_long, px_kill_ref, px_kill_null, iI_lit, iJ_lit, iI_add, iI_sub, iI_mul, iI_neg, iJ_add, iJ_sub, iJ_mul, iJ_neg, iI_lt, iI_le, iI_eq, iJ_lt, iJ_le, iJ_eq, iI_div, iJ_div, tdiv_tmod, iI_J, iJ_I, iI_ix, iI_toInt, iJ_toInt, cmp_ge, cmp_lt, cmp_eq, cmp_gt, cmp_le, cmp_geI, cmp_ltI, cmp_eqI, cmp_gtI, cmp_leI, bI_0I, bI_1I, pin, if_true, sh_n13]
    have bab : 0 ≤ ((f.1 * cbY q i j - f.2 * cbX q i j).natAbs : Int) ∧ ((f.1 * cbY q i j - f.2 * cbX q i j).natAbs : Int) ≤ 1719926784 := by omega
    rcases sS_cases (q := q) (f := f) (c := c) (i := i) (j := j) s with ⟨n, e⟩ | ⟨n, ⟨s0, e⟩ | ⟨o, so, ⟨a, e⟩ | ⟨a, e⟩⟩⟩
    · refine keep _ e ?_
      rw [pre]
      generalize ((f.1 * cbY q i j - f.2 * cbX q i j).natAbs : Int) = Z at *
      simp (disch := first | omega | assumption | decide | (simp (disch := omega) only [iI_lit, iJ_lit, iJ_eq, iI_eq, bI_01, bI_01I] <;> omega)) only [e_Red_findSecond_78, e_Red_findSecond_79, e_Red_findSecond_80, e_Red_findSecond_83, bd_some, bd_none, Option.toList_some, Option.toList_none, List.nil_append, List.cons_append, px_kill_int, px_kill_long, px_kill_ref, px_kill_null, iI_lit, iJ_lit, iI_add, iI_sub, iI_mul, iI_neg, iJ_add, iJ_sub, iJ_mul, iJ_neg, iI_lt, iI_le, iI_eq, iJ_lt, iJ_le, iJ_eq, iI_div, iJ_div, tdiv_tmod, iI_J, iJ_I, iI_ix, iI_toInt, iJ_toInt, cmp_ge, cmp_lt, cmp_eq, cmp_gt, cmp_le, cmp_geI, cmp_ltI, cmp_eqI, cmp_gtI, cmp_leI, bI_0I, bI_1I, pin, if_true, n, if_false]
    · refine take _ e ?_
      rw [pre, n]
      have e1 : fdO s = 0 := by rw [s0]; rfl
      rw [e1]
      simp (disch := first | omega | assumption | decide | (simp (disch := omega) only [iI_lit, iJ_lit, iJ_eq, iI_eq, bI_01, bI_01I] <;> omega)) only [e_Red_findSecond_78, e_Red_findSecond_79, e_Red_findSecond_80, e_Red_findSecond_83, e_Red_findSecond_86, e_Red_findSecond_87, e_Red_findSecond_90, e_Red_findSecond_92, e_Red_findSecond_94, e_Red_findSecond_95, e_Red_findSecond_98, e_Red_findSecond_99, e_Red_findSecond_102, e_Red_findSecond_105, bd_some, bd_none, Option.toList_some, Option.toList_none, List.nil_append, List.cons_append, px_kill_int, px_kill_long, px_kill_ref, px_kill_null, iI_lit, iJ_lit, iI_add, iI_sub, iI_mul, iI_neg, iJ_add, iJ_sub, iJ_mul, iJ_neg, iI_lt, iI_le, iI_eq, iJ_lt, iJ_le, iJ_eq, iI_div, iJ_div, tdiv_tmod, iI_J, iJ_I, iI_ix, iI_toInt, iJ_toInt, cmp_ge, cmp_lt, cmp_eq, cmp_gt, cmp_le, cmp_geI, cmp_ltI, cmp_eqI, cmp_gtI, cmp_leI, bI_0I, bI_1I, pin, if_true]
    · refine take _ e ?_
      obtain ⟨g6, g7⟩ := hS o so
      have ea := s_cahead cz ((show isC2 q (some o) by rw [← so]; exact hs).z hN ho) (enc T)
      rw [bI_tI a] at ea
      rw [pre, n]
      have e1 : fdO s = 1 := by rw [so]; rfl
      rw [e1]
      generalize cbX q i j = X at *
      generalize cbY q i j = Y at *
      simp (disch := first | omega | assumption | decide | (simp (disch := omega) only [iI_lit, iJ_lit, iJ_eq, iI_eq, bI_01, bI_01I] <;> omega)) only [e_Red_findSecond_78, e_Red_findSecond_79, e_Red_findSecond_80, e_Red_findSecond_83, e_Red_findSecond_86, e_Red_findSecond_87, e_Red_findSecond_90, e_Red_findSecond_92, e_Red_findSecond_94, e_Red_findSecond_95, e_Red_findSecond_98, e_Red_findSecond_99, e_Red_findSecond_102, e_Red_findSecond_105, bd_some, bd_none, Option.toList_some, Option.toList_none, List.nil_append, List.cons_append, px_kill_int, px_kill_long, px_kill_ref, px_kill_null, iI_lit, iJ_lit, iI_add, iI_sub, iI_mul, iI_neg, iJ_add, iJ_sub, iJ_mul, iJ_neg, iI_lt, iI_le, iI_eq, iJ_lt, iJ_le, iJ_eq, iI_div, iJ_div, tdiv_tmod, iI_J, iJ_I, iI_ix, iI_toInt, iJ_toInt, cmp_ge, cmp_lt, cmp_eq, cmp_gt, cmp_le, cmp_geI, cmp_ltI, cmp_eqI, cmp_gtI, cmp_leI, bI_0I, bI_1I, pin, if_true, one0, if_false, sh_n13, g6, g7, ea]
    · refine keep _ e ?_
      obtain ⟨g6, g7⟩ := hS o so
      have ea := s_cahead cz ((show isC2 q (some o) by rw [← so]; exact hs).z hN ho) (enc T)
      rw [bI_fI a] at ea
      rw [pre, n]
      have e1 : fdO s = 1 := by rw [so]; rfl
      rw [e1]
      generalize cbX q i j = X at *
      generalize cbY q i j = Y at *
      simp (disch := first | omega | assumption | decide | (simp (disch := omega) only [iI_lit, iJ_lit, iJ_eq, iI_eq, bI_01, bI_01I] <;> omega)) only [e_Red_findSecond_78, e_Red_findSecond_79, e_Red_findSecond_80, e_Red_findSecond_83, e_Red_findSecond_86, e_Red_findSecond_87, e_Red_findSecond_90, e_Red_findSecond_92, e_Red_findSecond_94, e_Red_findSecond_95, e_Red_findSecond_98, e_Red_findSecond_99, e_Red_findSecond_102, e_Red_findSecond_105, bd_some, bd_none, Option.toList_some, Option.toList_none, List.nil_append, List.cons_append, px_kill_int, px_kill_long, px_kill_ref, px_kill_null, iI_lit, iJ_lit, iI_add, iI_sub, iI_mul, iI_neg, iJ_add, iJ_sub, iJ_mul, iJ_neg, iI_lt, iI_le, iI_eq, iJ_lt, iJ_le, iJ_eq, iI_div, iJ_div, tdiv_tmod, iI_J, iJ_I, iI_ix, iI_toInt, iJ_toInt, cmp_ge, cmp_lt, cmp_eq, cmp_gt, cmp_le, cmp_geI, cmp_ltI, cmp_eqI, cmp_gtI, cmp_leI, bI_0I, bI_1I, pin, if_true, one0, if_false, sh_n13, g6, g7, ea]
theorem lp_fs1 {N : Int} (hN : bNn N) {q : Q4} (ho : okR N q) {f : Int × Int} (hf : isC1 q f) (hd : -429981696 ≤ ddU q ∧ ddU q ≤ 429981696) {c : Int} (hc : 0 ≤ c ∧ c ≤ 429981696) : ∀ (t : Nat) (i : Int) (s : Option (Int × Int)) (T : TS), -2 ≤ i → i + t = 3 → isC2 q s → rH T q → fH T f → sH T s → ∀ a5 a6 a7 a8 a9 : Value, ∃ T' : TS, rn k_Red_findSecond 6 [.ref 13, .long (iJ c), .null, .int (iI (fdO s)), .int (iI i), a5, a6, a7, a8, a9] [] (enc T) = some (none, enc T') ∧ FrA aNo (bRd 6) T T' ∧ sH T' (sA2 q f c s i t) := by
  intro t
  induction t with
  | zero =>
    intro i s T h1 h2 hs hr hF hS a5 a6 a7 a8 a9
    have e : i = 3 := by omega
    have l12 : (2 : Int) < 3 := by omega
    refine ⟨T, ?_, FrA.rf _ _ _, hS⟩
    rw [e, e_Red_findSecond_6]
    simp (disch := first | omega | assumption | decide | (simp (disch := omega) only [iI_lit, iJ_lit, iJ_eq, iI_eq, bI_01, bI_01I] <;> omega)) only [e_Red_findSecond_8, e_Red_findSecond_9, e_Red_findSecond_12, e_Red_findSecond_14, e_Red_findSecond_134, bd_some, bd_none, Option.toList_some, Option.toList_none, List.nil_append, List.cons_append, px_kill_int, px_kill_long, px_kill_ref, px_kill_null, iI_lit, iJ_lit, iI_add, iI_sub, iI_mul, iI_neg, iJ_add, iJ_sub, iJ_mul, iJ_neg, iI_lt, iI_le, iI_eq, iJ_lt, iJ_le, iJ_eq, iI_div, iJ_div, tdiv_tmod, iI_J, iJ_I, iI_ix, iI_toInt, iJ_toInt, cmp_ge, cmp_lt, cmp_eq, cmp_gt, cmp_le, cmp_geI, cmp_ltI, cmp_eqI, cmp_gtI, cmp_leI, bI_0I, bI_1I, pin, if_true, l12]
  | succ t ih =>
    intro i s T h1 h2 hs hr hF hS a5 a6 a7 a8 a9
    have nlt : ¬ (2 : Int) < i := by omega
    obtain ⟨T1, b6, b7, b8, b9, e1, f1, g1⟩ := lp_fs2 hN ho hf hd hc (i := i) (by omega) 5 (-2) s T (by omega) (by omega) hs hr hF hS a6 a7 a8 a9
    obtain ⟨T2, e2, f2, g2⟩ := ih (i + 1) (sR2 q f c i s (-2) 5) T1 (by omega) (by omega) (sR_c2 (by omega) 5 (-2) s (by omega) (by omega) hs) (hr.fr f1 (by omega)) (hF.fr f1 (by omega)) g1 (.int (iI 3)) b6 b7 b8 b9
    refine ⟨T2, ?_, f1.tr f2, g2⟩
    rw [e_Red_findSecond_6]
    simp (disch := first | omega | assumption | decide | (simp (disch := omega) only [iI_lit, iJ_lit, iJ_eq, iI_eq, bI_01, bI_01I] <;> omega)) only [e_Red_findSecond_8, e_Red_findSecond_9, e_Red_findSecond_12, e_Red_findSecond_14, bd_some, bd_none, Option.toList_some, Option.toList_none, List.nil_append, List.cons_append, px_kill_int, px_kill_long, px_kill_ref, px_kill_null, iI_lit, iJ_lit, iI_add, iI_sub, iI_mul, iI_neg, iJ_add, iJ_sub, iJ_mul, iJ_neg, iI_lt, iI_le, iI_eq, iJ_lt, iJ_le, iJ_eq, iI_div, iJ_div, tdiv_tmod, iI_J, iJ_I, iI_ix, iI_toInt, iJ_toInt, cmp_ge, cmp_lt, cmp_eq, cmp_gt, cmp_le, cmp_geI, cmp_ltI, cmp_eqI, cmp_gtI, cmp_leI, bI_0I, bI_1I, pin, if_true, nlt, if_false]
    refine Eq.trans e1 ?_
    simp (disch := first | omega | assumption | decide | (simp (disch := omega) only [iI_lit, iJ_lit, iJ_eq, iI_eq, bI_01, bI_01I] <;> omega)) only [e_Red_findSecond_128, e_Red_findSecond_131, bd_some, bd_none, Option.toList_some, Option.toList_none, List.nil_append, List.cons_append, px_kill_int, px_kill_long, px_kill_ref, px_kill_null, iI_lit, iJ_lit, iI_add, iI_sub, iI_mul, iI_neg, iJ_add, iJ_sub, iJ_mul, iJ_neg, iI_lt, iI_le, iI_eq, iJ_lt, iJ_le, iJ_eq, iI_div, iJ_div, tdiv_tmod, iI_J, iJ_I, iI_ix, iI_toInt, iJ_toInt, cmp_ge, cmp_lt, cmp_eq, cmp_gt, cmp_le, cmp_geI, cmp_ltI, cmp_eqI, cmp_gtI, cmp_leI, bI_0I, bI_1I, pin, if_true]
    exact e2
theorem c_findSecond {N : Int} (hN : bNn N) {T : TS} {q : Q4} (ho : okR N q) (hd : -429981696 ≤ ddU q ∧ ddU q ≤ 429981696) {c : Int} (hc : 0 ≤ c ∧ c ≤ 429981696) (hr : rH T q) (hF : fH T (frst q)) : ∃ T' : TS, cl k_Red_findSecond [.ref 13, .long (iJ c)] (enc T) = some (none, enc T') ∧ FrA aNo (bRd 6) T T' ∧ sH T' (scnd q c) := by
  obtain ⟨T1, e1, f1, g1⟩ := lp_fs1 hN ho (frst_c1 q) hd hc 5 (-2) none T (by omega) (by omega) (fun o z => by cases z) hr hF (fun o z => by cases z) .null .null .null .null .null
  refine ⟨T1, ?_, f1, g1⟩
  simp (disch := first | omega | assumption | decide | (simp (disch := omega) only [iI_lit, iJ_lit, iJ_eq, iI_eq, bI_01, bI_01I] <;> omega)) only [c_Red_findSecond, e_Red_findSecond_0, e_Red_findSecond_1, e_Red_findSecond_2, e_Red_findSecond_4, bd_some, bd_none, Option.toList_some, Option.toList_none, List.nil_append, List.cons_append, px_kill_int, px_kill_long, px_kill_ref, px_kill_null, iI_lit, iJ_lit, iI_add, iI_sub, iI_mul, iI_neg, iJ_add, iJ_sub, iJ_mul, iJ_neg, iI_lt, iI_le, iI_eq, iJ_lt, iJ_le, iJ_eq, iI_div, iJ_div, tdiv_tmod, iI_J, iJ_I, iI_ix, iI_toInt, iJ_toInt, cmp_ge, cmp_lt, cmp_eq, cmp_gt, cmp_le, cmp_geI, cmp_ltI, cmp_eqI, cmp_gtI, cmp_leI, bI_0I, bI_1I, pin, if_true]
  exact e1
/-- there is a second one -/
theorem sS_ne {q : Q4} {f : Int × Int} {c i j : Int} {s : Option (Int × Int)} (h : s ≠ none ∨ ((f.1 * cbY q i j - f.2 * cbX q i j).natAbs : Int) = c) : sS q f c i j s ≠ none := by
  rcases sS_cases (q := q) (f := f) (c := c) (i := i) (j := j) s with ⟨n, e⟩ | ⟨n, ⟨s0, e⟩ | ⟨o, so, ⟨a, e⟩ | ⟨a, e⟩⟩⟩
  · rw [e]
    rcases h with h | h
    · exact h
    · exact absurd h n
  · rw [e]; intro z; cases z
  · rw [e]; intro z; cases z
  · rw [e, so]; intro z; cases z
theorem sR_ne {q : Q4} {f : Int × Int} {c i : Int} : ∀ (t : Nat) (j : Int) (s : Option (Int × Int)), (s ≠ none ∨ ∃ j', j ≤ j' ∧ j' < j + t ∧ ((f.1 * cbY q i j' - f.2 * cbX q i j').natAbs : Int) = c) → sR2 q f c i s j t ≠ none := by
  intro t
  induction t with
  | zero => intro j s h; rcases h with h | ⟨j', h1, h2, _⟩
            · exact h
            · omega
  | succ t ih =>
    intro j s h
    refine ih (j + 1) _ ?_
    rcases h with h | ⟨j', h1, h2, h3⟩
    · exact Or.inl (sS_ne (Or.inl h))
    · by_cases e : j' = j
      · subst e; exact Or.inl (sS_ne (Or.inr h3))
      · exact Or.inr ⟨j', by omega, by omega, h3⟩
theorem sA_ne {q : Q4} {f : Int × Int} {c : Int} : ∀ (t : Nat) (i : Int) (s : Option (Int × Int)), (s ≠ none ∨ ∃ i' j', i ≤ i' ∧ i' < i + t ∧ (-2 ≤ j' ∧ j' ≤ 2) ∧ ((f.1 * cbY q i' j' - f.2 * cbX q i' j').natAbs : Int) = c) → sA2 q f c s i t ≠ none := by
  intro t
  induction t with
  | zero => intro i s h; rcases h with h | ⟨i', j', h1, h2, _⟩
            · exact h
            · omega
  | succ t ih =>
    intro i s h
    refine ih (i + 1) _ ?_
    rcases h with h | ⟨i', j', h1, h2, h3, h4⟩
    · exact Or.inl (sR_ne 5 (-2) s (Or.inl h))
    · by_cases e : i' = i
      · subst e; exact Or.inl (sR_ne 5 (-2) s (Or.inr ⟨j', by omega, by omega, h4⟩))
      · exact Or.inr ⟨i', j', by omega, by omega, h3, h4⟩
theorem scnd_ne {q : Q4} {c : Int} (hc : (ddU q = c ∨ ddU q = -c) ∧ 0 ≤ c) : scnd q c ≠ none := by
  obtain ⟨a, b, ha, hb, hab, hf⟩ := frst_c1 q
  have key : ∀ i j : Int, (frst q).1 * cbY q i j - (frst q).2 * cbX q i j = (a * j - b * i) * ddU q := by
    intro i j
    rw [hf]
    unfold cbX cbY ddU
    grind
  refine sA_ne 5 (-2) none (Or.inr ?_)
  by_cases a0 : a = 0
  · refine ⟨1, 0, by omega, by omega, by omega, ?_⟩
    rw [key]
    have hb' : b = 1 ∨ b = -1 := by omega
    rw [a0]
    rcases hb' with z | z <;> rw [z] <;> omega
  · refine ⟨0, 1, by omega, by omega, by omega, ?_⟩
    rw [key]
    have ha' : a = 1 ∨ a = -1 := by omega
    rcases ha' with z | z <;> rw [z] <;> omega
/-- reduced: four numbers of a grid -/
abbrev rdQ (w h s : Int) : Q4 := LR 200 (gQ4 w h s)
def rdK (w h s k : Int) : Int := if k = 0 then (frst (rdQ w h s)).1 else if k = 1 then (frst (rdQ w h s)).2 else if k = 2 then ((scnd (rdQ w h s) (w * h)).getD (0, 0)).1 else ((scnd (rdQ w h s) (w * h)).getD (0, 0)).2
set_option maxHeartbeats 1000000 in
theorem c_reduce {T : TS} {p : Nat} (hp : sh p = (102, 3)) (hne : p ≠ 13) {w h s : Int} (hg : cGrd T p w h s) (o : okW w h s) : ∃ T', cl k_Red_reduce [.ref 13, .ref p] (enc T) = some (none, enc T') ∧ FrA aNo (bRd 0) T T' ∧ T'.2.1 13 4 = iJ (rdK w h s 0) ∧ T'.2.1 13 5 = iJ (rdK w h s 1) ∧ T'.2.1 13 6 = iJ (rdK w h s 2) ∧ T'.2.1 13 7 = iJ (rdK w h s 3) := by
  obtain ⟨ok0, ed⟩ := o.r
  obtain ⟨okq, dq⟩ := LR_ok 200 (gQ4 w h s) ok0
  have hN : bNn 400000000000000000 := ⟨by omega, by omega⟩
  obtain ⟨o1, o2, o3, o4⟩ := id o
  have hpos : 0 < w * h := Int.mul_pos o1.1 o2.1
  have hd : -429981696 ≤ ddU (rdQ w h s) ∧ ddU (rdQ w h s) ≤ 429981696 := by unfold rdQ; omega
  obtain ⟨T1, e1, f1, r1⟩ := c_shorten hp hne hg o
  obtain ⟨T2, e2, f2, r2⟩ := c_findFirst hN okq r1
  have r1' := r1.fr f2 (by omega)
  obtain ⟨T3, e3, f3, r3⟩ := c_findSecond hN okq hd (c := w * h) (by omega) r1' r2
  have r2' := r2.fr f3 (by omega)
  obtain ⟨g0, g1, g2⟩ := hg
  have g0' : T2.2.1 p 0 = iJ w := by rw [f2.2.1 _ _ (by unfold bRd; omega), f1.2.1 _ _ (by unfold bRd; omega)]; exact g0
  have g1' : T2.2.1 p 1 = iJ h := by rw [f2.2.1 _ _ (by unfold bRd; omega), f1.2.1 _ _ (by unfold bRd; omega)]; exact g1
  have hne2 : scnd (rdQ w h s) (w * h) ≠ none := scnd_ne ⟨by unfold rdQ; omega, by omega⟩
  obtain ⟨z, hz⟩ : ∃ z, scnd (rdQ w h s) (w * h) = some z := by
    cases hh : scnd (rdQ w h s) (w * h) with
    | none => exact absurd hh hne2
    | some z => exact ⟨z, rfl⟩
  obtain ⟨z6, z7⟩ := r3 z hz
  refine ⟨T3, ?_, (f1.tr (f2.mono (fun q k z => z) (fun q k z => ⟨z.1, by omega⟩))).tr (f3.mono (fun q k z => z) (fun q k z => ⟨z.1, by omega⟩)), r2'.1, r2'.2, ?_, ?_⟩
  · simp (disch := first | omega | assumption | decide | (simp (disch := omega) only [iI_lit, iJ_lit, iJ_eq, iI_eq, bI_01, bI_01I] <;> omega)) only [c_Red_reduce, e_Red_reduce_0, e_Red_reduce_1, e_Red_reduce_2, e_Red_reduce_5, e_Red_reduce_6, e_Red_reduce_9, e_Red_reduce_10, e_Red_reduce_11, e_Red_reduce_14, e_Red_reduce_15, e_Red_reduce_18, e_Red_reduce_19, e_Red_reduce_22, bd_some, bd_none, Option.toList_some, Option.toList_none, List.nil_append, List.cons_append, px_kill_int, px_kill_long, px_kill_ref, px_kill_null, iI_lit, iJ_lit, iI_add, iI_sub, iI_mul, iI_neg, iJ_add, iJ_sub, iJ_mul, iJ_neg, iI_lt, iI_le, iI_eq, iJ_lt, iJ_le, iJ_eq, iI_div, iJ_div, tdiv_tmod, iI_J, iJ_I, iI_ix, iI_toInt, iJ_toInt, cmp_ge, cmp_lt, cmp_eq, cmp_gt, cmp_le, cmp_geI, cmp_ltI, cmp_eqI, cmp_gtI, cmp_leI, bI_0I, bI_1I, pin, if_true, sh_n13, hp, e1, e2, g0', g1', e3]
  · rw [z6]
    show _ = iJ ((scnd (rdQ w h s) (w * h)).getD (0, 0)).1
    rw [hz]
    rfl
  · rw [z7]
    show _ = iJ ((scnd (rdQ w h s) (w * h)).getD (0, 0)).2
    rw [hz]
    rfl
