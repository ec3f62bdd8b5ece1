/-! the component reduces. -/
def rH (T : TS) (q : Q4) : Prop := T.2.1 13 0 = iJ q.1 ∧ T.2.1 13 1 = iJ q.2.1 ∧ T.2.1 13 2 = iJ q.2.2.1 ∧ T.2.1 13 3 = iJ q.2.2.2
def bRd (lo q k : Nat) : Prop := q = 13 ∧ lo ≤ k
abbrev aNo (_q _k : Nat) : Prop := False
theorem s_swapMoves {T : TS} {q : Q4} (h : rH T q) : ∃ T', cl k_Red_swapMoves [.ref 13] (enc T) = some (none, enc T') ∧ FrA aNo (bRd 0) T T' ∧ rH T' (q.2.2.1, q.2.2.2, q.1, q.2.1) := by
  obtain ⟨h0, h1, h2, h3⟩ := h
  refine ⟨sJ (sJ (sJ (sJ T 13 0 (iJ q.2.2.1)) 13 1 (iJ q.2.2.2)) 13 2 (iJ q.1)) 13 3 (iJ q.2.1), ?_, ((((FrA.rf aNo (bRd 0) T).wrJ _ ⟨rfl, by omega⟩).wrJ _ ⟨rfl, by omega⟩).wrJ _ ⟨rfl, by omega⟩).wrJ _ ⟨rfl, by omega⟩, ?_⟩
  · simp (disch := first | omega | assumption | decide | (simp (disch := omega) only [iI_lit, iJ_lit, iJ_eq, iI_eq, bI_01, bI_01I] <;> omega)) only [c_Red_swapMoves, e_Red_swapMoves_0, e_Red_swapMoves_1, e_Red_swapMoves_4, e_Red_swapMoves_5, e_Red_swapMoves_6, e_Red_swapMoves_9, e_Red_swapMoves_10, e_Red_swapMoves_11, e_Red_swapMoves_12, e_Red_swapMoves_15, e_Red_swapMoves_18, e_Red_swapMoves_19, e_Red_swapMoves_20, e_Red_swapMoves_23, e_Red_swapMoves_26, e_Red_swapMoves_27, e_Red_swapMoves_28, e_Red_swapMoves_31, e_Red_swapMoves_32, e_Red_swapMoves_33, e_Red_swapMoves_36, bd_some, bd_none, Option.toList_some, Option.toList_none, List.nil_append, List.cons_append, px_kill_int, px_kill_long, px_kill_ref, px_kill_null, sI_get, sJ_get, sI_2, sJ_1, sJ_22, sR_1, sR_21, Nat.reduceEqDiff, and_true, true_and, and_false, false_and, and_self, if_true, if_false, reduceIte, sh_n13, h0, h1, h2, h3]
  · unfold rH
    simp only [sI_get, sJ_get, sI_2, sJ_1, sJ_22, sR_1, sR_21, Nat.reduceEqDiff, and_true, true_and, and_false, false_and, and_self, if_true, if_false, reduceIte]
set_option maxHeartbeats 4000000 in
theorem lp_shorten {N : Int} (hN : bNn N) (g : Nat) : ∀ (n i : Nat) (q : Q4) (T : TS), i + n = 200 → okR N q → rH T q → ∀ a3 a4 a5 a6 a7 a8 : Value, ∃ T', rn k_Red_shorten 31 [.ref 13, .ref g, .int (iI (i : Int)), a3, a4, a5, a6, a7, a8] [] (enc T) = some (none, enc T') ∧ FrA aNo (bRd 0) T T' ∧ rH T' (LR n q) := by
  intro n
  induction n with
  | zero =>
    intro i q T hi ho h a3 a4 a5 a6 a7 a8
    have e : (i : Int) = 200 := by omega
    refine ⟨T, ?_, FrA.rf _ _ _, h⟩
    rw [e, e_Red_shorten_31]
    simp (disch := first | omega | assumption | decide | (simp (disch := omega) only [iI_lit, iJ_lit, iJ_eq, iI_eq, bI_01, bI_01I] <;> omega)) only [e_Red_shorten_32, e_Red_shorten_35, e_Red_shorten_165, bd_some, bd_none, Option.toList_some, Option.toList_none, List.nil_append, List.cons_append, px_kill_int, px_kill_long, px_kill_ref, px_kill_null, iI_lit, iJ_lit, iI_add, iI_sub, iI_mul, iI_neg, iJ_add, iJ_sub, iJ_mul, iJ_neg, iI_lt, iI_le, iI_eq, iJ_lt, iJ_le, iJ_eq, iI_div, iJ_div, tdiv_tmod, iI_J, iJ_I, iI_ix, iI_toInt, iJ_toInt, cmp_ge, cmp_lt, cmp_eq, cmp_gt, cmp_le, cmp_geI, cmp_ltI, cmp_eqI, cmp_gtI, cmp_leI, bI_0I, bI_1I, pin, if_true, Int.le_refl]
  | succ n ih =>
    intro i q T hi ho h a3 a4 a5 a6 a7 a8
    have nle : ¬ (200 : Int) ≤ (i : Int) := by omega
    have hp := ho.pos
    have hu := ho.2.1
    have hv := ho.2.2
    -- after the swap
    have sw : ∃ T1, rn k_Red_shorten 31 [.ref 13, .ref g, .int (iI (i : Int)), a3, a4, a5, a6, a7, a8] [] (enc T) = rn k_Red_shorten 68 [.ref 13, .ref g, .int (iI (i : Int)), a3, a4, a5, a6, a7, a8] [] (enc T1) ∧ FrA aNo (bRd 0) T T1 ∧ rH T1 (swp q) := by
      obtain ⟨h0, h1, h2, h3⟩ := id h
      have e1 := s_rsquare (X := q.2.2.1) (Y := q.2.2.2) (enc T)
      have e2 := s_rsquare (X := q.1) (Y := q.2.1) (enc T)
      have eV : q.2.2.1 * q.2.2.1 + q.2.2.2 * q.2.2.2 = rV q := rfl
      have eU : q.1 * q.1 + q.2.1 * q.2.1 = rU q := rfl
      rw [eV] at e1
      rw [eU] at e2
      unfold swp
      generalize rU q = U at *
      generalize rV q = V at *
      by_cases c : V < U
      · have c' : ¬ U ≤ V := by omega
        rw [if_pos c]
        obtain ⟨T1, e3, f3, g3⟩ := s_swapMoves h
        refine ⟨T1, ?_, f3, g3⟩
        rw [e_Red_shorten_31]
        simp (disch := first | omega | assumption | decide | (simp (disch := omega) only [iI_lit, iJ_lit, iJ_eq, iI_eq, bI_01, bI_01I] <;> omega)) only [e_Red_shorten_32, e_Red_shorten_35, e_Red_shorten_38, e_Red_shorten_39, e_Red_shorten_42, e_Red_shorten_43, e_Red_shorten_46, e_Red_shorten_49, e_Red_shorten_50, e_Red_shorten_53, e_Red_shorten_54, e_Red_shorten_57, e_Red_shorten_60, e_Red_shorten_61, e_Red_shorten_64, e_Red_shorten_65, bd_some, bd_none, Option.toList_some, Option.toList_none, List.nil_append, List.cons_append, px_kill_int, px_kill_long, px_kill_ref, px_kill_null, iI_lit, iJ_lit, iI_add, iI_sub, iI_mul, iI_neg, iJ_add, iJ_sub, iJ_mul, iJ_neg, iI_lt, iI_le, iI_eq, iJ_lt, iJ_le, iJ_eq, iI_div, iJ_div, tdiv_tmod, iI_J, iJ_I, iI_ix, iI_toInt, iJ_toInt, cmp_ge, cmp_lt, cmp_eq, cmp_gt, cmp_le, cmp_geI, cmp_ltI, cmp_eqI, cmp_gtI, cmp_leI, bI_0I, bI_1I, pin, if_true, nle, if_false, sh_n13, h0, h1, h2, h3, e1, e2, c', e3]
      · have c' : U ≤ V := by omega
        rw [if_neg c]
        refine ⟨T, ?_, FrA.rf _ _ _, h⟩
        rw [e_Red_shorten_31]
        simp (disch := first | omega | assumption | decide | (simp (disch := omega) only [iI_lit, iJ_lit, iJ_eq, iI_eq, bI_01, bI_01I] <;> omega)) only [e_Red_shorten_32, e_Red_shorten_35, e_Red_shorten_38, e_Red_shorten_39, e_Red_shorten_42, e_Red_shorten_43, e_Red_shorten_46, e_Red_shorten_49, e_Red_shorten_50, e_Red_shorten_53, e_Red_shorten_54, e_Red_shorten_57, e_Red_shorten_60, e_Red_shorten_61, e_Red_shorten_64, e_Red_shorten_65, bd_some, bd_none, Option.toList_some, Option.toList_none, List.nil_append, List.cons_append, px_kill_int, px_kill_long, px_kill_ref, px_kill_null, iI_lit, iJ_lit, iI_add, iI_sub, iI_mul, iI_neg, iJ_add, iJ_sub, iJ_mul, iJ_neg, iI_lt, iI_le, iI_eq, iJ_lt, iJ_le, iJ_eq, iI_div, iJ_div, tdiv_tmod, iI_J, iJ_I, iI_ix, iI_toInt, iJ_toInt, cmp_ge, cmp_lt, cmp_eq, cmp_gt, cmp_le, cmp_geI, cmp_ltI, cmp_eqI, cmp_gtI, cmp_leI, bI_0I, bI_1I, pin, if_true, nle, if_false, sh_n13, h0, h1, h2, h3, e1, e2, c']
    obtain ⟨T1, e1, f1, h1⟩ := sw
    obtain ⟨ok1, _, _⟩ := swp_ok ho
    rw [LR_s]
    generalize swp q = q1 at *
    obtain ⟨r0, r1, r2, r3⟩ := id h1
    have hp1 := ok1.pos
    have hu1 := ok1.2.1
    have hv1 := ok1.2.2
    have db := dt_bd q1
    have eU := s_rsquare (X := q1.1) (Y := q1.2.1) (enc T1)
    have eU' : q1.1 * q1.1 + q1.2.1 * q1.2.1 = rU q1 := rfl
    rw [eU'] at eU
    have eD : q1.1 * q1.2.2.1 + q1.2.1 * q1.2.2.2 = dtU q1 := rfl
    have et : (2 * dtU q1 + rU q1) / (2 * rU q1) = tmU q1 := rfl
    have ed := s_div (a := 2 * dtU q1 + rU q1) (b := 2 * rU q1) (by omega) (by omega) (enc T1)
    rw [et] at ed
    have bt : -4611686018427387904 ≤ tmU q1 ∧ tmU q1 ≤ 4611686018427387904 := by
      have := ediv_bd (a := 2 * dtU q1 + rU q1) (b := 2 * rU q1) (by omega)
      rw [et] at this
      omega
    have pre : rn k_Red_shorten 68 [.ref 13, .ref g, .int (iI (i : Int)), a3, a4, a5, a6, a7, a8] [] (enc T1) = rn k_Red_shorten 119 [.ref 13, .ref g, .int (iI (i : Int)), .long (iJ (rU q1)), .null, .long (iJ (dtU q1)), .null, .long (iJ (tmU q1)), .null] [] (enc T1) := by
      simp (disch := first | omega | assumption | decide | (simp (disch := omega) only [iI_lit, iJ_lit, iJ_eq, iI_eq, bI_01, bI_01I] <;> omega)) only [e_Red_shorten_68, e_Red_shorten_69, e_Red_shorten_72, e_Red_shorten_73, e_Red_shorten_76, e_Red_shorten_79, e_Red_shorten_80, e_Red_shorten_81, e_Red_shorten_84, e_Red_shorten_85, e_Red_shorten_88, e_Red_shorten_89, e_Red_shorten_90, e_Red_shorten_93, e_Red_shorten_94, e_Red_shorten_97, e_Red_shorten_98, e_Red_shorten_99, e_Red_shorten_101, e_Red_shorten_104, e_Red_shorten_106, e_Red_shorten_107, e_Red_shorten_108, e_Red_shorten_109, e_Red_shorten_112, e_Red_shorten_113, e_Red_shorten_114, e_Red_shorten_117, bd_some, bd_none, Option.toList_some, Option.toList_none, List.nil_append, List.cons_append, px_kill_int, px_kill_long, px_kill_ref, px_kill_null, iI_lit, iJ_lit, iI_add, iI_sub, iI_mul, iI_neg, iJ_add, iJ_sub, iJ_mul, iJ_neg, iI_lt, iI_le, iI_eq, iJ_lt, iJ_le, iJ_eq, iI_div, iJ_div, tdiv_tmod, iI_J, iJ_I, iI_ix, iI_toInt, iJ_toInt, cmp_ge, cmp_lt, cmp_eq, cmp_gt, cmp_le, cmp_geI, cmp_ltI, cmp_eqI, cmp_gtI, cmp_leI, bI_0I, bI_1I, pin, if_true, sh_n13, r0, r1, r2, r3, eU, eD, ed]
    by_cases t0 : tmU q1 = 0
    · rw [if_pos t0]
      refine ⟨T1, ?_, f1, h1⟩
      rw [e1, pre, t0]
      simp (disch := first | omega | assumption | decide | (simp (disch := omega) only [iI_lit, iJ_lit, iJ_eq, iI_eq, bI_01, bI_01I] <;> omega)) only [e_Red_shorten_119, e_Red_shorten_121, e_Red_shorten_122, e_Red_shorten_123, e_Red_shorten_126, bd_some, bd_none, Option.toList_some, Option.toList_none, List.nil_append, List.cons_append, px_kill_int, px_kill_long, px_kill_ref, px_kill_null, iI_lit, iJ_lit, iI_add, iI_sub, iI_mul, iI_neg, iJ_add, iJ_sub, iJ_mul, iJ_neg, iI_lt, iI_le, iI_eq, iJ_lt, iJ_le, iJ_eq, iI_div, iJ_div, tdiv_tmod, iI_J, iJ_I, iI_ix, iI_toInt, iJ_toInt, cmp_ge, cmp_lt, cmp_eq, cmp_gt, cmp_le, cmp_geI, cmp_ltI, cmp_eqI, cmp_gtI, cmp_leI, bI_0I, bI_1I, pin, if_true]
    · rw [if_neg t0]
      have hr : rH (sJ (sJ T1 13 2 (iJ (q1.2.2.1 - tmU q1 * q1.1))) 13 3 (iJ (q1.2.2.2 - tmU q1 * q1.2.1))) (redU q1) := by
        unfold rH redU
        simp only [sI_get, sJ_get, sI_2, sJ_1, sJ_22, sR_1, sR_21, Nat.reduceEqDiff, and_true, true_and, and_false, false_and, and_self, if_true, if_false, reduceIte, r0, r1]
      obtain ⟨T2, e2, f2, h2⟩ := ih (i + 1) (redU q1) (sJ (sJ T1 13 2 (iJ (q1.2.2.1 - tmU q1 * q1.1))) 13 3 (iJ (q1.2.2.2 - tmU q1 * q1.2.1))) (by omega) (red_ok ok1).1 hr (.long (iJ (rU q1))) .null (.long (iJ (dtU q1))) .null (.long (iJ (tmU q1))) .null
      refine ⟨T2, ?_, ((f1.wrJ _ ⟨rfl, by omega⟩).wrJ _ ⟨rfl, by omega⟩).tr f2, h2⟩
      rw [e1, pre]
      refine Eq.trans ?_ e2
      rw [show ((i + 1 : Nat) : Int) = (i : Int) + 1 by omega]
      generalize tmU q1 = t at *
      simp (disch := first | omega | assumption | decide | (simp (disch := omega) only [iI_lit, iJ_lit, iJ_eq, iI_eq, bI_01, bI_01I] <;> omega)) only [e_Red_shorten_119, e_Red_shorten_121, e_Red_shorten_122, e_Red_shorten_123, e_Red_shorten_126, e_Red_shorten_127, e_Red_shorten_128, e_Red_shorten_129, e_Red_shorten_132, e_Red_shorten_134, e_Red_shorten_135, e_Red_shorten_138, e_Red_shorten_139, e_Red_shorten_140, e_Red_shorten_143, e_Red_shorten_144, e_Red_shorten_145, e_Red_shorten_148, e_Red_shorten_150, e_Red_shorten_151, e_Red_shorten_154, e_Red_shorten_155, e_Red_shorten_156, e_Red_shorten_159, e_Red_shorten_162, bd_some, bd_none, Option.toList_some, Option.toList_none, List.nil_append, List.cons_append, px_kill_int, px_kill_long, px_kill_ref, px_kill_null, iI_lit, iJ_lit, iI_add, iI_sub, iI_mul, iI_neg, iJ_add, iJ_sub, iJ_mul, iJ_neg, iI_lt, iI_le, iI_eq, iJ_lt, iJ_le, iJ_eq, iI_div, iJ_div, tdiv_tmod, iI_J, iJ_I, iI_ix, iI_toInt, iJ_toInt, cmp_ge, cmp_lt, cmp_eq, cmp_gt, cmp_le, cmp_geI, cmp_ltI, cmp_eqI, cmp_gtI, cmp_leI, bI_0I, bI_1I, pin, if_true, sI_get, sJ_get, sI_2, sJ_1, sJ_22, sR_1, sR_21, Nat.reduceEqDiff, and_true, true_and, and_false, false_and, and_self, if_true, if_false, reduceIte, t0, if_false, sh_n13, r0, r1, r2, r3]
/-- a grid whose moves are to be reduced -/
abbrev gQ4 (w h s : Int) : Q4 := (w, 0, s, h)
def okW (w h s : Int) : Prop := (0 < w ∧ w ≤ 429981696) ∧ (0 < h ∧ h ≤ 429981696) ∧ (0 ≤ s ∧ s < w) ∧ w * h ≤ 429981696
theorem okW.r {w h s : Int} (o : okW w h s) : okR 400000000000000000 (gQ4 w h s) ∧ ddU (gQ4 w h s) = w * h := by
  obtain ⟨o1, o2, o3, o4⟩ := o
  have m1 := sq_bd (u := w) (N := 429981696) (by omega)
  have m2 := sq_bd (u := h) (N := 429981696) (by omega)
  have m3 := sq_bd (u := s) (N := 429981696) (by omega)
  have hd : 0 < w * h := Int.mul_pos o1.1 o2.1
  have ed : ddU (gQ4 w h s) = w * h := by
    show w * h - 0 * s = w * h
    rw [Int.zero_mul]
    omega
  refine ⟨⟨by rw [ed]; omega, ?_, ?_⟩, ed⟩
  · show w * w + 0 * 0 ≤ _
    omega
  · show s * s + h * h ≤ _
    omega
theorem c_shorten {T : TS} {p : Nat} (hp : sh p = (102, 3)) (hne : p ≠ 13) {w h s : Int} (hg : cGrd T p w h s) (o : okW w h s) : ∃ T', cl k_Red_shorten [.ref 13, .ref p] (enc T) = some (none, enc T') ∧ FrA aNo (bRd 0) T T' ∧ rH T' (LR 200 (gQ4 w h s)) := by
  obtain ⟨g0, g1, g2⟩ := hg
  have np : ¬ p = 13 := hne
  have f0 : FrA aNo (bRd 0) T (sJ (sJ (sJ (sJ T 13 0 (iJ w)) 13 1 (iJ 0)) 13 2 (iJ s)) 13 3 (iJ h)) := ((((FrA.rf aNo (bRd 0) T).wrJ _ ⟨rfl, by omega⟩).wrJ _ ⟨rfl, by omega⟩).wrJ _ ⟨rfl, by omega⟩).wrJ _ ⟨rfl, by omega⟩
  obtain ⟨T1, e1, f1, h1⟩ := lp_shorten (N := 400000000000000000) ⟨by omega, by omega⟩ p 200 0 (gQ4 w h s) (sJ (sJ (sJ (sJ T 13 0 (iJ w)) 13 1 (iJ 0)) 13 2 (iJ s)) 13 3 (iJ h)) (by omega) o.r.1 (by unfold rH; simp only [sI_get, sJ_get, sI_2, sJ_1, sJ_22, sR_1, sR_21, Nat.reduceEqDiff, and_true, true_and, and_false, false_and, and_self, if_true, if_false, reduceIte]) .null .null .null .null .null .null
  refine ⟨T1, ?_, f0.tr f1, h1⟩
  simp (disch := first | omega | assumption | decide | (simp (disch := omega) only [iI_lit, iJ_lit, iJ_eq, iI_eq, bI_01, bI_01I] <;> omega)) only [c_Red_shorten, e_Red_shorten_0, e_Red_shorten_1, e_Red_shorten_2, e_Red_shorten_5, e_Red_shorten_8, e_Red_shorten_9, e_Red_shorten_10, e_Red_shorten_13, e_Red_shorten_14, e_Red_shorten_15, e_Red_shorten_18, e_Red_shorten_21, e_Red_shorten_22, e_Red_shorten_23, e_Red_shorten_26, e_Red_shorten_29, e_Red_shorten_30, bd_some, bd_none, Option.toList_some, Option.toList_none, List.nil_append, List.cons_append, px_kill_int, px_kill_long, px_kill_ref, px_kill_null, iI_lit, iJ_lit, iI_add, iI_sub, iI_mul, iI_neg, iJ_add, iJ_sub, iJ_mul, iJ_neg, iI_lt, iI_le, iI_eq, iJ_lt, iJ_le, iJ_eq, iI_div, iJ_div, tdiv_tmod, iI_J, iJ_I, iI_ix, iI_toInt, iJ_toInt, cmp_ge, cmp_lt, cmp_eq, cmp_gt, cmp_le, cmp_geI, cmp_ltI, cmp_eqI, cmp_gtI, cmp_leI, bI_0I, bI_1I, pin, if_true, sI_get, sJ_get, sI_2, sJ_1, sJ_22, sR_1, sR_21, Nat.reduceEqDiff, and_true, true_and, and_false, false_and, and_self, if_true, if_false, reduceIte, sh_n13, np, g0, g1, g2]
  exact e1
def fH (T : TS) (s : Int × Int) : Prop := T.2.1 13 4 = iJ s.1 ∧ T.2.1 13 5 = iJ s.2
theorem rH.fr {T T' : TS} {q : Q4} {a : Nat → Nat → Prop} {lo : Nat} (h : rH T q) (hf : FrA a (bRd lo) T T') (hlo : 4 ≤ lo) : rH T' q := by
  obtain ⟨h0, h1, h2, h3⟩ := h
  exact ⟨by rw [hf.2.1 _ _ (by unfold bRd; omega)]; exact h0, by rw [hf.2.1 _ _ (by unfold bRd; omega)]; exact h1, by rw [hf.2.1 _ _ (by unfold bRd; omega)]; exact h2, by rw [hf.2.1 _ _ (by unfold bRd; omega)]; exact h3⟩
set_option maxHeartbeats 2000000 in
theorem lp_ff2 {N : Int} (hN : bNn N) {q : Q4} (ho : okR N q) {i : Int} (hi : -1 ≤ i ∧ i ≤ 1) : ∀ (t : Nat) (j : Int) (s : Int × Int) (T : TS), -1 ≤ j → j + t = 2 → isC1 q s → rH T q → fH T s → ∀ a3 a4 a5 a6 : Value, ∃ (T' : TS) (b3 b4 b5 b6 : Value), rn k_Red_findFirst 25 [.ref 13, .int (iI i), .int (iI j), a3, a4, a5, a6] [] (enc T) = rn k_Red_findFirst 105 [.ref 13, .int (iI i), .int (iI 2), b3, b4, b5, b6] [] (enc T') ∧ FrA aNo (bRd 4) T T' ∧ fH T' (fR q i s j t) := by
  intro t
  induction t with
  | zero =>
    intro j s T h1 h2 hs hr hf a3 a4 a5 a6
    have e : j = 2 := by omega
    have l12 : (1 : Int) < 2 := by omega
    refine ⟨T, a3, a4, a5, a6, ?_, FrA.rf _ _ _, hf⟩
    rw [e, e_Red_findFirst_25]
    simp (disch := first | omega | assumption | decide | (simp (disch := omega) only [iI_lit, iJ_lit, iJ_eq, iI_eq, bI_01, bI_01I] <;> omega)) only [e_Red_findFirst_26, e_Red_findFirst_27, bd_some, bd_none, Option.toList_some, Option.toList_none, List.nil_append, List.cons_append, px_kill_int, px_kill_long, px_kill_ref, px_kill_null, iI_lit, iJ_lit, iI_add, iI_sub, iI_mul, iI_neg, iJ_add, iJ_sub, iJ_mul, iJ_neg, iI_lt, iI_le, iI_eq, iJ_lt, iJ_le, iJ_eq, iI_div, iJ_div, tdiv_tmod, iI_J, iJ_I, iI_ix, iI_toInt, iJ_toInt, cmp_ge, cmp_lt, cmp_eq, cmp_gt, cmp_le, cmp_geI, cmp_ltI, cmp_eqI, cmp_gtI, cmp_leI, bI_0I, bI_1I, pin, if_true, l12]
  | succ t ih =>
    intro j s T h1 h2 hs hr hf a3 a4 a5 a6
    have nlt : ¬ (1 : Int) < j := by omega
    obtain ⟨r0, r1, r2, r3⟩ := id hr
    obtain ⟨f0, f1⟩ := id hf
    have cz : okZ (cbX q i j) (cbY q i j) := (cb_bd hN ho (i := i) (j := j) (by omega) (by omega)).2
    have ea := s_cahead cz (hs.z hN ho) (enc T)
    have ex : i * q.1 + j * q.2.2.1 = cbX q i j := rfl
    have ey : i * q.2.1 + j * q.2.2.2 = cbY q i j := rfl
    have fold : fR q i s j (t + 1) = fR q i (fS q i j s) (j + 1) t := rfl
    rw [fold]
    have pre : rn k_Red_findFirst 25 [.ref 13, .int (iI i), .int (iI j), a3, a4, a5, a6] [] (enc T) = rn k_Red_findFirst 63 [.ref 13, .int (iI i), .int (iI j), .long (iJ (cbX q i j)), .null, .long (iJ (cbY q i j)), .null] [] (enc T) := by
      rw [e_Red_findFirst_25]
      simp (disch := first | omega | assumption | decide | (simp (disch := omega) only [iI_lit, iJ_lit, iJ_eq, iI_eq, bI_01, bI_01I] <;> omega)) only [e_Red_findFirst_26, e_Red_findFirst_27, e_Red_findFirst_30, e_Red_findFirst_31, e_Red_findFirst_32, e_Red_findFirst_33, e_Red_findFirst_36, e_Red_findFirst_37, e_Red_findFirst_38, e_Red_findFirst_39, e_Red_findFirst_40, e_Red_findFirst_43, e_Red_findFirst_44, e_Red_findFirst_45, e_Red_findFirst_46, e_Red_findFirst_47, e_Red_findFirst_48, e_Red_findFirst_49, e_Red_findFirst_52, e_Red_findFirst_53, e_Red_findFirst_54, e_Red_findFirst_55, e_Red_findFirst_56, e_Red_findFirst_59, e_Red_findFirst_60, e_Red_findFirst_61, bd_some, bd_none, Option.toList_some, Option.toList_none, List.nil_append, List.cons_append, px_kill_int, px_kill_long, px_kill_ref, px_kill_null, iI_lit, iJ_lit, iI_add, iI_sub, iI_mul, iI_neg, iJ_add, iJ_sub, iJ_mul, iJ_neg, iI_lt, iI_le, iI_eq, iJ_lt, iJ_le, iJ_eq, iI_div, iJ_div, tdiv_tmod, iI_J, iJ_I, iI_ix, iI_toInt, iJ_toInt, cmp_ge, cmp_lt, cmp_eq, cmp_gt, cmp_le, cmp_geI, cmp_ltI, cmp_eqI, cmp_gtI, cmp_leI, bI_0I, bI_1I, pin, if_true, nlt, if_false, sh_n13, r0, r1, r2, r3, ex, ey]
    by_cases c : (i ≠ 0 ∨ j ≠ 0) ∧ isAh (cbX q i j) (cbY q i j) s.1 s.2
    · have eS : fS q i j s = (cbX q i j, cbY q i j) := if_pos c
      rw [eS]
      rw [bI_tI c.2] at ea
      have f' : FrA aNo (bRd 4) T (sJ (sJ T 13 4 (iJ (cbX q i j))) 13 5 (iJ (cbY q i j))) := ((FrA.rf _ _ T).wrJ _ ⟨rfl, by omega⟩).wrJ _ ⟨rfl, by omega⟩
      obtain ⟨T2, b3, b4, b5, b6, e2, f2, g2⟩ := ih (j + 1) (cbX q i j, cbY q i j) (sJ (sJ T 13 4 (iJ (cbX q i j))) 13 5 (iJ (cbY q i j))) (by omega) (by omega) ⟨i, j, hi, by omega, c.1, rfl⟩ (hr.fr f' (by omega)) (by unfold fH; simp only [sI_get, sJ_get, sI_2, sJ_1, sJ_22, sR_1, sR_21, Nat.reduceEqDiff, and_true, true_and, and_false, false_and, and_self, if_true, if_false, reduceIte]) (.long (iJ (cbX q i j))) .null (.long (iJ (cbY q i j))) .null
      refine ⟨T2, b3, b4, b5, b6, ?_, f'.tr f2, g2⟩
      rw [pre]
      refine Eq.trans ?_ e2
      generalize cbX q i j = X at *
      generalize cbY q i j = Y at *
      by_cases i0 : i = 0
      · have j0 : ¬ j = 0 := by have := c.1; omega
        rw [i0]
        simp (disch := first | omega | assumption | decide | (simp (disch := omega) only [iI_lit, iJ_lit, iJ_eq, iI_eq, bI_01, bI_01I] <;> omega)) only [e_Red_findFirst_63, e_Red_findFirst_64, e_Red_findFirst_67, e_Red_findFirst_68, e_Red_findFirst_71, e_Red_findFirst_72, e_Red_findFirst_74, e_Red_findFirst_75, e_Red_findFirst_78, e_Red_findFirst_79, e_Red_findFirst_82, e_Red_findFirst_85, e_Red_findFirst_88, e_Red_findFirst_89, e_Red_findFirst_90, e_Red_findFirst_93, e_Red_findFirst_94, e_Red_findFirst_96, e_Red_findFirst_99, e_Red_findFirst_102, bd_some, bd_none, Option.toList_some, Option.toList_none, List.nil_append, List.cons_append, px_kill_int, px_kill_long, px_kill_ref, px_kill_null, iI_lit, iJ_lit, iI_add, iI_sub, iI_mul, iI_neg, iJ_add, iJ_sub, iJ_mul, iJ_neg, iI_lt, iI_le, iI_eq, iJ_lt, iJ_le, iJ_eq, iI_div, iJ_div, tdiv_tmod, iI_J, iJ_I, iI_ix, iI_toInt, iJ_toInt, cmp_ge, cmp_lt, cmp_eq, cmp_gt, cmp_le, cmp_geI, cmp_ltI, cmp_eqI, cmp_gtI, cmp_leI, bI_0I, bI_1I, pin, if_true, j0, if_false, sh_n13, f0, f1, ea, one0]
      · simp (disch := first | omega | assumption | decide | (simp (disch := omega) only [iI_lit, iJ_lit, iJ_eq, iI_eq, bI_01, bI_01I] <;> omega)) only [e_Red_findFirst_63, e_Red_findFirst_64, e_Red_findFirst_67, e_Red_findFirst_68, e_Red_findFirst_71, e_Red_findFirst_72, e_Red_findFirst_74, e_Red_findFirst_75, e_Red_findFirst_78, e_Red_findFirst_79, e_Red_findFirst_82, e_Red_findFirst_85, e_Red_findFirst_88, e_Red_findFirst_89, e_Red_findFirst_90, e_Red_findFirst_93, e_Red_findFirst_94, e_Red_findFirst_96, e_Red_findFirst_99, e_Red_findFirst_102, bd_some, bd_none, Option.toList_some, Option.toList_none, List.nil_append, List.cons_append, px_kill_int, px_kill_long, px_kill_ref, px_kill_null, iI_lit, iJ_lit, iI_add, iI_sub, iI_mul, iI_neg, iJ_add, iJ_sub, iJ_mul, iJ_neg, iI_lt, iI_le, iI_eq, iJ_lt, iJ_le, iJ_eq, iI_div, iJ_div, tdiv_tmod, iI_J, iJ_I, iI_ix, iI_toInt, iJ_toInt, cmp_ge, cmp_lt, cmp_eq, cmp_gt, cmp_le, cmp_geI, cmp_ltI, cmp_eqI, cmp_gtI, cmp_leI, bI_0I, bI_1I, pin, if_true, i0, if_false, sh_n13, f0, f1, ea, one0]
    · have eS : fS q i j s = s := if_neg c
      rw [eS]
      obtain ⟨T2, b3, b4, b5, b6, e2, f2, g2⟩ := ih (j + 1) s T (by omega) (by omega) hs hr hf (.long (iJ (cbX q i j))) .null (.long (iJ (cbY q i j))) .null
      refine ⟨T2, b3, b4, b5, b6, ?_, f2, g2⟩
      rw [pre]
      refine Eq.trans ?_ e2
      by_cases z : i = 0 ∧ j = 0
      · rw [z.1, z.2]
        simp (disch := first | omega | assumption | decide | (simp (disch := omega) only [iI_lit, iJ_lit, iJ_eq, iI_eq, bI_01, bI_01I] <;> omega)) only [e_Red_findFirst_63, e_Red_findFirst_64, e_Red_findFirst_67, e_Red_findFirst_68, e_Red_findFirst_71, e_Red_findFirst_72, e_Red_findFirst_74, e_Red_findFirst_75, e_Red_findFirst_78, e_Red_findFirst_79, e_Red_findFirst_82, e_Red_findFirst_85, e_Red_findFirst_88, e_Red_findFirst_89, e_Red_findFirst_90, e_Red_findFirst_93, e_Red_findFirst_94, e_Red_findFirst_96, e_Red_findFirst_99, e_Red_findFirst_102, bd_some, bd_none, Option.toList_some, Option.toList_none, List.nil_append, List.cons_append, px_kill_int, px_kill_long, px_kill_ref, px_kill_null, iI_lit, iJ_lit, iI_add, iI_sub, iI_mul, iI_neg, iJ_add, iJ_sub, iJ_mul, iJ_neg, iI_lt, iI_le, iI_eq, iJ_lt, iJ_le, iJ_eq, iI_div, iJ_div, tdiv_tmod, iI_J, iJ_I, iI_ix, iI_toInt, iJ_toInt, cmp_ge, cmp_lt, cmp_eq, cmp_gt, cmp_le, cmp_geI, cmp_ltI, cmp_eqI, cmp_gtI, cmp_leI, bI_0I, bI_1I, pin, if_true]
      · have na : ¬ isAh (cbX q i j) (cbY q i j) s.1 s.2 := fun y => c ⟨by omega, y⟩
        rw [bI_fI na] at ea
        generalize cbX q i j = X at *
        generalize cbY q i j = Y at *
        by_cases i0 : i = 0
        · have j0 : ¬ j = 0 := by omega
          rw [i0]
          simp (disch := first | omega | assumption | decide | (simp (disch := omega) only [iI_lit, iJ_lit, iJ_eq, iI_eq, bI_01, bI_01I] <;> omega)) only [e_Red_findFirst_63, e_Red_findFirst_64, e_Red_findFirst_67, e_Red_findFirst_68, e_Red_findFirst_71, e_Red_findFirst_72, e_Red_findFirst_74, e_Red_findFirst_75, e_Red_findFirst_78, e_Red_findFirst_79, e_Red_findFirst_82, e_Red_findFirst_85, e_Red_findFirst_88, e_Red_findFirst_89, e_Red_findFirst_90, e_Red_findFirst_93, e_Red_findFirst_94, e_Red_findFirst_96, e_Red_findFirst_99, e_Red_findFirst_102, bd_some, bd_none, Option.toList_some, Option.toList_none, List.nil_append, List.cons_append, px_kill_int, px_kill_long, px_kill_ref, px_kill_null, iI_lit, iJ_lit, iI_add, iI_sub, iI_mul, iI_neg, iJ_add, iJ_sub, iJ_mul, iJ_neg, iI_lt, iI_le, iI_eq, iJ_lt, iJ_le, iJ_eq, iI_div, iJ_div, tdiv_tmod, iI_J, iJ_I, iI_ix, iI_toInt, iJ_toInt, cmp_ge, cmp_lt, cmp_eq, cmp_gt, cmp_le, cmp_geI, cmp_ltI, cmp_eqI, cmp_gtI, cmp_leI, bI_0I, bI_1I, pin, if_true, j0, if_false, sh_n13, f0, f1, ea]
        · simp (disch := first | omega | assumption | decide | (simp (disch := omega) only [iI_lit, iJ_lit, iJ_eq, iI_eq, bI_01, bI_01I] <;> omega)) only [e_Red_findFirst_63, e_Red_findFirst_64, e_Red_findFirst_67, e_Red_findFirst_68, e_Red_findFirst_71, e_Red_findFirst_72, e_Red_findFirst_74, e_Red_findFirst_75, e_Red_findFirst_78, e_Red_findFirst_79, e_Red_findFirst_82, e_Red_findFirst_85, e_Red_findFirst_88, e_Red_findFirst_89, e_Red_findFirst_90, e_Red_findFirst_93, e_Red_findFirst_94, e_Red_findFirst_96, e_Red_findFirst_99, e_Red_findFirst_102, bd_some, bd_none, Option.toList_some, Option.toList_none, List.nil_append, List.cons_append, px_kill_int, px_kill_long, px_kill_ref, px_kill_null, iI_lit, iJ_lit, iI_add, iI_sub, iI_mul, iI_neg, iJ_add, iJ_sub, iJ_mul, iJ_neg, iI_lt, iI_le, iI_eq, iJ_lt, iJ_le, iJ_eq, iI_div, iJ_div, tdiv_tmod, iI_J, iJ_I, iI_ix, iI_toInt, iJ_toInt, cmp_ge, cmp_lt, cmp_eq, cmp_gt, cmp_le, cmp_geI, cmp_ltI, cmp_eqI, cmp_gtI, cmp_leI, bI_0I, bI_1I, pin, if_true, i0, if_false, sh_n13, f0, f1, ea]
theorem lp_ff1 {N : Int} (hN : bNn N) {q : Q4} (ho : okR N q) : ∀ (t : Nat) (i : Int) (s : Int × Int) (T : TS), -1 ≤ i → i + t = 2 → isC1 q s → rH T q → fH T s → ∀ a2 a3 a4 a5 a6 : Value, ∃ T' : TS, rn k_Red_findFirst 18 [.ref 13, .int (iI i), a2, a3, a4, a5, a6] [] (enc T) = some (none, enc T') ∧ FrA aNo (bRd 4) T T' ∧ fH T' (fA q s i t) := by
  intro t
  induction t with
  | zero =>
    intro i s T h1 h2 hs hr hf a2 a3 a4 a5 a6
    have e : i = 2 := by omega
    have l12 : (1 : Int) < 2 := by omega
    refine ⟨T, ?_, FrA.rf _ _ _, hf⟩
    rw [e, e_Red_findFirst_18]
    simp (disch := first | omega | assumption | decide | (simp (disch := omega) only [iI_lit, iJ_lit, iJ_eq, iI_eq, bI_01, bI_01I] <;> omega)) only [e_Red_findFirst_19, e_Red_findFirst_20, e_Red_findFirst_23, e_Red_findFirst_24, e_Red_findFirst_111, bd_some, bd_none, Option.toList_some, Option.toList_none, List.nil_append, List.cons_append, px_kill_int, px_kill_long, px_kill_ref, px_kill_null, iI_lit, iJ_lit, iI_add, iI_sub, iI_mul, iI_neg, iJ_add, iJ_sub, iJ_mul, iJ_neg, iI_lt, iI_le, iI_eq, iJ_lt, iJ_le, iJ_eq, iI_div, iJ_div, tdiv_tmod, iI_J, iJ_I, iI_ix, iI_toInt, iJ_toInt, cmp_ge, cmp_lt, cmp_eq, cmp_gt, cmp_le, cmp_geI, cmp_ltI, cmp_eqI, cmp_gtI, cmp_leI, bI_0I, bI_1I, pin, if_true, l12]
  | succ t ih =>
    intro i s T h1 h2 hs hr hf a2 a3 a4 a5 a6
    have nlt : ¬ (1 : Int) < i := by omega
    obtain ⟨T1, b3, b4, b5, b6, e1, f1, g1⟩ := lp_ff2 hN ho (i := i) (by omega) 3 (-1) s T (by omega) (by omega) hs hr hf a3 a4 a5 a6
    obtain ⟨T2, e2, f2, g2⟩ := ih (i + 1) (fR q i s (-1) 3) T1 (by omega) (by omega) (fR_c1 (by omega) 3 (-1) s (by omega) (by omega) hs) (hr.fr f1 (by omega)) g1 (.int (iI 2)) b3 b4 b5 b6
    refine ⟨T2, ?_, f1.tr f2, g2⟩
    rw [e_Red_findFirst_18]
    simp (disch := first | omega | assumption | decide | (simp (disch := omega) only [iI_lit, iJ_lit, iJ_eq, iI_eq, bI_01, bI_01I] <;> omega)) only [e_Red_findFirst_19, e_Red_findFirst_20, e_Red_findFirst_23, e_Red_findFirst_24, bd_some, bd_none, Option.toList_some, Option.toList_none, List.nil_append, List.cons_append, px_kill_int, px_kill_long, px_kill_ref, px_kill_null, iI_lit, iJ_lit, iI_add, iI_sub, iI_mul, iI_neg, iJ_add, iJ_sub, iJ_mul, iJ_neg, iI_lt, iI_le, iI_eq, iJ_lt, iJ_le, iJ_eq, iI_div, iJ_div, tdiv_tmod, iI_J, iJ_I, iI_ix, iI_toInt, iJ_toInt, cmp_ge, cmp_lt, cmp_eq, cmp_gt, cmp_le, cmp_geI, cmp_ltI, cmp_eqI, cmp_gtI, cmp_leI, bI_0I, bI_1I, pin, if_true, nlt, if_false]
    refine Eq.trans e1 ?_
    simp (disch := first | omega | assumption | decide | (simp (disch := omega) only [iI_lit, iJ_lit, iJ_eq, iI_eq, bI_01, bI_01I] <;> omega)) only [e_Red_findFirst_105, e_Red_findFirst_108, bd_some, bd_none, Option.toList_some, Option.toList_none, List.nil_append, List.cons_append, px_kill_int, px_kill_long, px_kill_ref, px_kill_null, iI_lit, iJ_lit, iI_add, iI_sub, iI_mul, iI_neg, iJ_add, iJ_sub, iJ_mul, iJ_neg, iI_lt, iI_le, iI_eq, iJ_lt, iJ_le, iJ_eq, iI_div, iJ_div, tdiv_tmod, iI_J, iJ_I, iI_ix, iI_toInt, iJ_toInt, cmp_ge, cmp_lt, cmp_eq, cmp_gt, cmp_le, cmp_geI, cmp_ltI, cmp_eqI, cmp_gtI, cmp_leI, bI_0I, bI_1I, pin, if_true]
    exact e2
theorem c_findFirst {N : Int} (hN : bNn N) {T : TS} {q : Q4} (ho : okR N q) (hr : rH T q) : ∃ T' : TS, cl k_Red_findFirst [.ref 13] (enc T) = some (none, enc T') ∧ FrA aNo (bRd 4) T T' ∧ fH T' (frst q) := by
  obtain ⟨r0, r1, r2, r3⟩ := id hr
  have f0 : FrA aNo (bRd 4) T (sJ (sJ T 13 4 (iJ q.1)) 13 5 (iJ q.2.1)) := ((FrA.rf _ _ T).wrJ _ ⟨rfl, by omega⟩).wrJ _ ⟨rfl, by omega⟩
  obtain ⟨T1, e1, f1, g1⟩ := lp_ff1 hN ho 3 (-1) (q.1, q.2.1) (sJ (sJ T 13 4 (iJ q.1)) 13 5 (iJ q.2.1)) (by omega) (by omega) (c1_u q) (hr.fr f0 (by omega)) (by unfold fH; simp only [sI_get, sJ_get, sI_2, sJ_1, sJ_22, sR_1, sR_21, Nat.reduceEqDiff, and_true, true_and, and_false, false_and, and_self, if_true, if_false, reduceIte]) .null .null .null .null .null
  refine ⟨T1, ?_, f0.tr f1, g1⟩
  simp (disch := first | omega | assumption | decide | (simp (disch := omega) only [iI_lit, iJ_lit, iJ_eq, iI_eq, bI_01, bI_01I] <;> omega)) only [c_Red_findFirst, e_Red_findFirst_0, e_Red_findFirst_1, e_Red_findFirst_2, e_Red_findFirst_5, e_Red_findFirst_8, e_Red_findFirst_9, e_Red_findFirst_10, e_Red_findFirst_13, e_Red_findFirst_16, e_Red_findFirst_17, bd_some, bd_none, Option.toList_some, Option.toList_none, List.nil_append, List.cons_append, px_kill_int, px_kill_long, px_kill_ref, px_kill_null, iI_lit, iJ_lit, iI_add, iI_sub, iI_mul, iI_neg, iJ_add, iJ_sub, iJ_mul, iJ_neg, iI_lt, iI_le, iI_eq, iJ_lt, iJ_le, iJ_eq, iI_div, iJ_div, tdiv_tmod, iI_J, iJ_I, iI_ix, iI_toInt, iJ_toInt, cmp_ge, cmp_lt, cmp_eq, cmp_gt, cmp_le, cmp_geI, cmp_ltI, cmp_eqI, cmp_gtI, cmp_leI, bI_0I, bI_1I, pin, if_true, sI_get, sJ_get, sI_2, sJ_1, sJ_22, sR_1, sR_21, Nat.reduceEqDiff, and_true, true_and, and_false, false_and, and_self, if_true, if_false, reduceIte, sh_n13, r0, r1]
  exact e1
