/-! window of the component. -/
set_option maxHeartbeats 1000000 in
theorem lp_cwin2 {V : VW} (hV : okV V) {w : Nat} (hw : w ≤ 32) {x y wh k : Int} (hk : inI k) (hwh : 0 ≤ wh ∧ wh ≤ 1) (v1 v2 v4 v8 : Int32) (B : Int) : ∀ (m i : Nat) (T : TS), i + m = w → cC T V → rowsC T V (x + i) y V.1 → ∀ (a10 : Value), ∃ T' a10', rn k_Ds_window 79 [.ref 0, .int v1, .int v2, .int (iI (w : Int)), .int v4, .int (iI wh), .int (iI k), .int (iI (B + sm (fun i => if keyN wh (setN V (x + (i : Nat)) y V.1) = k then 1 else 0) i)), .int v8, .int (iI (i : Int)), a10] [] (enc T) = rn k_Ds_window 120 [.ref 0, .int v1, .int v2, .int (iI (w : Int)), .int v4, .int (iI wh), .int (iI k), .int (iI (B + sm (fun i => if keyN wh (setN V (x + (i : Nat)) y V.1) = k then 1 else 0) w)), .int v8, .int (iI (w : Int)), a10'] [] (enc T') ∧ FrI aAsk T T' ∧ cC T' V := by
  obtain ⟨k1, k2⟩ := hk
  intro m
  induction m with
  | zero =>
    intro i T hi h hr a10
    have hiw : i = w := by omega
    refine ⟨T, a10, ?_, FrI.rf _ _, h⟩
    rw [e_Ds_window_79, hiw]
    simp (disch := first | omega | assumption | decide | (simp (disch := omega) only [iI_lit, iJ_lit, iJ_eq, iI_eq, bI_01, bI_01I] <;> omega)) only [e_Ds_window_81, e_Ds_window_82, e_Ds_window_85, e_Ds_window_86, e_Ds_window_89, e_Ds_window_91, e_Ds_window_93, e_Ds_window_95, e_Ds_window_98, e_Ds_window_100, e_Ds_window_103, e_Ds_window_106, e_Ds_window_108, e_Ds_window_111, e_Ds_window_114, e_Ds_window_117, bd_some, bd_none, Option.toList_some, Option.toList_none, List.nil_append, List.cons_append, px_kill_int, px_kill_long, px_kill_ref, px_kill_null, iI_lit, iJ_lit, iI_add, iI_sub, iI_mul, iI_neg, iJ_add, iJ_sub, iJ_mul, iJ_neg, iI_lt, iI_le, iI_eq, iJ_lt, iJ_le, iJ_eq, iI_div, iJ_div, tdiv_tmod, iI_J, iJ_I, iI_ix, iI_toInt, iJ_toInt, cmp_ge, cmp_lt, cmp_eq, cmp_gt, cmp_le, cmp_geI, cmp_ltI, cmp_eqI, cmp_gtI, cmp_leI, bI_0I, bI_1I, pin, if_true, Int.le_refl]
  | succ m ih =>
    intro i T hi h hr a10
    have nle : ¬ (w : Int) ≤ (i : Int) := by omega
    obtain ⟨T2, e2, fr2, h2, r2⟩ := c_passPixel hV h hr
    rw [show x + (i : Int) + 1 = x + ((i + 1 : Nat) : Int) by omega] at r2
    have hb := setN_16 hV (x + i) y
    obtain ⟨T', a', e3, fr3, h3⟩ := ih (i + 1) T2 (by omega) h2 r2 (.int (iI (setN V (x + i) y V.1)))
    refine ⟨T', a', ?_, fr2.tr fr3, h3⟩
    rw [e_Ds_window_79, ← e3]
    rw [show sm (fun i => if keyN wh (setN V (x + (i : Nat)) y V.1) = k then 1 else 0) (i + 1) = sm (fun i => if keyN wh (setN V (x + (i : Nat)) y V.1) = k then 1 else 0) i + (if keyN wh (setN V (x + (i : Nat)) y V.1) = k then 1 else 0) from rfl]
    have hbt := btN_bd (setN V (x + i) y V.1)
    have hbc := s_bitCount hb (enc T2)
    generalize setN V (x + i) y V.1 = z at *
    by_cases c0 : wh = 0
    · by_cases c : btN z = k
      · rw [if_pos (show keyN wh z = k by unfold keyN; rw [if_pos c0]; exact c)]
        subst c0
        have ceq : (k = btN z) = True := eq_true c.symm
        simp (disch := first | omega | assumption | decide | (simp (disch := omega) only [iI_lit, iJ_lit, iJ_eq, iI_eq, bI_01, bI_01I] <;> omega)) only [e_Ds_window_81, e_Ds_window_82, e_Ds_window_85, e_Ds_window_86, e_Ds_window_89, e_Ds_window_91, e_Ds_window_93, e_Ds_window_95, e_Ds_window_98, e_Ds_window_100, e_Ds_window_103, e_Ds_window_106, e_Ds_window_108, e_Ds_window_111, e_Ds_window_114, e_Ds_window_117, bd_some, bd_none, Option.toList_some, Option.toList_none, List.nil_append, List.cons_append, px_kill_int, px_kill_long, px_kill_ref, px_kill_null, iI_lit, iJ_lit, iI_add, iI_sub, iI_mul, iI_neg, iJ_add, iJ_sub, iJ_mul, iJ_neg, iI_lt, iI_le, iI_eq, iJ_lt, iJ_le, iJ_eq, iI_div, iJ_div, tdiv_tmod, iI_J, iJ_I, iI_ix, iI_toInt, iJ_toInt, cmp_ge, cmp_lt, cmp_eq, cmp_gt, cmp_le, cmp_geI, cmp_ltI, cmp_eqI, cmp_gtI, cmp_leI, bI_0I, bI_1I, pin, if_true, nle, if_false, e2, hbc, ceq]
        rw [show (i : Int) + 1 = ((i + 1 : Nat) : Int) by omega, Int.add_assoc]
      · rw [if_neg (show ¬ keyN wh z = k by unfold keyN; rw [if_pos c0]; exact c)]
        subst c0
        have ceq : (k = btN z) = False := eq_false (fun e => c e.symm)
        simp (disch := first | omega | assumption | decide | (simp (disch := omega) only [iI_lit, iJ_lit, iJ_eq, iI_eq, bI_01, bI_01I] <;> omega)) only [e_Ds_window_81, e_Ds_window_82, e_Ds_window_85, e_Ds_window_86, e_Ds_window_89, e_Ds_window_91, e_Ds_window_93, e_Ds_window_95, e_Ds_window_98, e_Ds_window_100, e_Ds_window_103, e_Ds_window_106, e_Ds_window_108, e_Ds_window_111, e_Ds_window_114, e_Ds_window_117, bd_some, bd_none, Option.toList_some, Option.toList_none, List.nil_append, List.cons_append, px_kill_int, px_kill_long, px_kill_ref, px_kill_null, iI_lit, iJ_lit, iI_add, iI_sub, iI_mul, iI_neg, iJ_add, iJ_sub, iJ_mul, iJ_neg, iI_lt, iI_le, iI_eq, iJ_lt, iJ_le, iJ_eq, iI_div, iJ_div, tdiv_tmod, iI_J, iJ_I, iI_ix, iI_toInt, iJ_toInt, cmp_ge, cmp_lt, cmp_eq, cmp_gt, cmp_le, cmp_geI, cmp_ltI, cmp_eqI, cmp_gtI, cmp_leI, bI_0I, bI_1I, pin, if_true, nle, if_false, e2, hbc, ceq]
        rw [show (i : Int) + 1 = ((i + 1 : Nat) : Int) by omega, Int.add_zero]
    · by_cases c : z = k
      · rw [if_pos (show keyN wh z = k by unfold keyN; rw [if_neg c0]; exact c)]
        have ceq : (k = z) = True := eq_true c.symm
        simp (disch := first | omega | assumption | decide | (simp (disch := omega) only [iI_lit, iJ_lit, iJ_eq, iI_eq, bI_01, bI_01I] <;> omega)) only [e_Ds_window_81, e_Ds_window_82, e_Ds_window_85, e_Ds_window_86, e_Ds_window_89, e_Ds_window_91, e_Ds_window_93, e_Ds_window_95, e_Ds_window_98, e_Ds_window_100, e_Ds_window_103, e_Ds_window_106, e_Ds_window_108, e_Ds_window_111, e_Ds_window_114, e_Ds_window_117, bd_some, bd_none, Option.toList_some, Option.toList_none, List.nil_append, List.cons_append, px_kill_int, px_kill_long, px_kill_ref, px_kill_null, iI_lit, iJ_lit, iI_add, iI_sub, iI_mul, iI_neg, iJ_add, iJ_sub, iJ_mul, iJ_neg, iI_lt, iI_le, iI_eq, iJ_lt, iJ_le, iJ_eq, iI_div, iJ_div, tdiv_tmod, iI_J, iJ_I, iI_ix, iI_toInt, iJ_toInt, cmp_ge, cmp_lt, cmp_eq, cmp_gt, cmp_le, cmp_geI, cmp_ltI, cmp_eqI, cmp_gtI, cmp_leI, bI_0I, bI_1I, pin, if_true, nle, if_false, c0, e2, ceq]
        rw [show (i : Int) + 1 = ((i + 1 : Nat) : Int) by omega, Int.add_assoc]
      · rw [if_neg (show ¬ keyN wh z = k by unfold keyN; rw [if_neg c0]; exact c)]
        have ceq : (k = z) = False := eq_false (fun e => c e.symm)
        simp (disch := first | omega | assumption | decide | (simp (disch := omega) only [iI_lit, iJ_lit, iJ_eq, iI_eq, bI_01, bI_01I] <;> omega)) only [e_Ds_window_81, e_Ds_window_82, e_Ds_window_85, e_Ds_window_86, e_Ds_window_89, e_Ds_window_91, e_Ds_window_93, e_Ds_window_95, e_Ds_window_98, e_Ds_window_100, e_Ds_window_103, e_Ds_window_106, e_Ds_window_108, e_Ds_window_111, e_Ds_window_114, e_Ds_window_117, bd_some, bd_none, Option.toList_some, Option.toList_none, List.nil_append, List.cons_append, px_kill_int, px_kill_long, px_kill_ref, px_kill_null, iI_lit, iJ_lit, iI_add, iI_sub, iI_mul, iI_neg, iJ_add, iJ_sub, iJ_mul, iJ_neg, iI_lt, iI_le, iI_eq, iJ_lt, iJ_le, iJ_eq, iI_div, iJ_div, tdiv_tmod, iI_J, iJ_I, iI_ix, iI_toInt, iJ_toInt, cmp_ge, cmp_lt, cmp_eq, cmp_gt, cmp_le, cmp_geI, cmp_ltI, cmp_eqI, cmp_gtI, cmp_leI, bI_0I, bI_1I, pin, if_true, nle, if_false, c0, e2, ceq]
        rw [show (i : Int) + 1 = ((i + 1 : Nat) : Int) by omega, Int.add_zero]
set_option maxHeartbeats 1000000 in
theorem lp_cwin1 {V : VW} (hV : okV V) {w ht : Nat} (hw : w ≤ 32) (hh : ht ≤ 32) {x y wh k : Int} (hx : -999 ≤ x ∧ x ≤ 999) (hy : -999 ≤ y ∧ y ≤ 999) (hk : inI k) (hwh : 0 ≤ wh ∧ wh ≤ 1) : ∀ (m j : Nat) (T : TS), j + m = ht → cC T V → ∀ (a9 a10 : Value), ∃ T', rn k_Ds_window 60 [.ref 0, .int (iI x), .int (iI y), .int (iI (w : Int)), .int (iI (ht : Int)), .int (iI wh), .int (iI k), .int (iI (winN V x y w j wh k)), .int (iI (j : Int)), a9, a10] [] (enc T) = some (some (.int (iI (winN V x y w ht wh k))), enc T') ∧ FrI aAsk T T' ∧ cC T' V := by
  intro m
  induction m with
  | zero =>
    intro j T hj h a9 a10
    have hjh : j = ht := by omega
    refine ⟨T, ?_, FrI.rf _ _, h⟩
    rw [e_Ds_window_60, hjh]
    simp (disch := first | omega | assumption | decide | (simp (disch := omega) only [iI_lit, iJ_lit, iJ_eq, iI_eq, bI_01, bI_01I] <;> omega)) only [e_Ds_window_62, e_Ds_window_64, e_Ds_window_67, e_Ds_window_68, e_Ds_window_69, e_Ds_window_70, e_Ds_window_72, e_Ds_window_73, e_Ds_window_76, e_Ds_window_77, e_Ds_window_79, e_Ds_window_81, e_Ds_window_82, e_Ds_window_85, e_Ds_window_86, e_Ds_window_89, e_Ds_window_91, e_Ds_window_93, e_Ds_window_95, e_Ds_window_98, e_Ds_window_100, e_Ds_window_103, e_Ds_window_106, e_Ds_window_108, e_Ds_window_111, e_Ds_window_114, e_Ds_window_117, e_Ds_window_120, e_Ds_window_123, e_Ds_window_126, e_Ds_window_128, bd_some, bd_none, Option.toList_some, Option.toList_none, List.nil_append, List.cons_append, px_kill_int, px_kill_long, px_kill_ref, px_kill_null, iI_lit, iJ_lit, iI_add, iI_sub, iI_mul, iI_neg, iJ_add, iJ_sub, iJ_mul, iJ_neg, iI_lt, iI_le, iI_eq, iJ_lt, iJ_le, iJ_eq, iI_div, iJ_div, tdiv_tmod, iI_J, iJ_I, iI_ix, iI_toInt, iJ_toInt, cmp_ge, cmp_lt, cmp_eq, cmp_gt, cmp_le, cmp_geI, cmp_ltI, cmp_eqI, cmp_gtI, cmp_leI, bI_0I, bI_1I, pin, if_true, Int.le_refl]
  | succ m ih =>
    intro j T hj h a9 a10
    have nle : ¬ (ht : Int) ≤ (j : Int) := by omega
    obtain ⟨T2, e2, fr2, h2, r2⟩ := c_startRow hV h (x := x) (y := y + j) (by omega) (by omega)
    obtain ⟨T3, a', e3, fr3, h3⟩ := lp_cwin2 hV hw (x := x) (y := y + j) hk hwh (iI x) (iI y) (iI (ht : Int)) (iI (j : Int)) (winN V x y w j wh k) w 0 T2 (by omega) h2 (by rw [show x + ((0 : Nat) : Int) = x by omega]; exact r2) a10
    obtain ⟨T', e4, fr4, h4⟩ := ih (j + 1) T3 (by omega) h3 (.int (iI (w : Int))) a'
    refine ⟨T', ?_, (fr2.tr fr3).tr fr4, h4⟩
    rw [e_Ds_window_60]
    simp (disch := first | omega | assumption | decide | (simp (disch := omega) only [iI_lit, iJ_lit, iJ_eq, iI_eq, bI_01, bI_01I] <;> omega)) only [e_Ds_window_62, e_Ds_window_64, e_Ds_window_67, e_Ds_window_68, e_Ds_window_69, e_Ds_window_70, e_Ds_window_72, e_Ds_window_73, e_Ds_window_76, e_Ds_window_77, bd_some, bd_none, Option.toList_some, Option.toList_none, List.nil_append, List.cons_append, px_kill_int, px_kill_long, px_kill_ref, px_kill_null, iI_lit, iJ_lit, iI_add, iI_sub, iI_mul, iI_neg, iJ_add, iJ_sub, iJ_mul, iJ_neg, iI_lt, iI_le, iI_eq, iJ_lt, iJ_le, iJ_eq, iI_div, iJ_div, tdiv_tmod, iI_J, iJ_I, iI_ix, iI_toInt, iJ_toInt, cmp_ge, cmp_lt, cmp_eq, cmp_gt, cmp_le, cmp_geI, cmp_ltI, cmp_eqI, cmp_gtI, cmp_leI, bI_0I, bI_1I, pin, if_true, nle, if_false, e2]
    refine Eq.trans ?_ (Eq.trans e3 ?_)
    · rw [show winN V x y w j wh k + sm (fun i => if keyN wh (setN V (x + (i : Nat)) (y + (j : Nat)) V.1) = k then 1 else 0) 0 = winN V x y w j wh k from Int.add_zero _]
      rfl
    · simp (disch := first | omega | assumption | decide | (simp (disch := omega) only [iI_lit, iJ_lit, iJ_eq, iI_eq, bI_01, bI_01I] <;> omega)) only [e_Ds_window_120, e_Ds_window_123, bd_some, bd_none, Option.toList_some, Option.toList_none, List.nil_append, List.cons_append, px_kill_int, px_kill_long, px_kill_ref, px_kill_null, iI_lit, iJ_lit, iI_add, iI_sub, iI_mul, iI_neg, iJ_add, iJ_sub, iJ_mul, iJ_neg, iI_lt, iI_le, iI_eq, iJ_lt, iJ_le, iJ_eq, iI_div, iJ_div, tdiv_tmod, iI_J, iJ_I, iI_ix, iI_toInt, iJ_toInt, cmp_ge, cmp_lt, cmp_eq, cmp_gt, cmp_le, cmp_geI, cmp_ltI, cmp_eqI, cmp_gtI, cmp_leI, bI_0I, bI_1I, pin, if_true]
      rw [show (j : Int) + 1 = ((j + 1 : Nat) : Int) by omega]
      exact e4
theorem g_isWindow {x y w h : Int} (hx : inI x) (hy : inI y) (hw : inI w) (hh : inI h) (g : px_G) : cl k_Ds_isWindow [.int (iI x), .int (iI y), .int (iI w), .int (iI h)] g = some (some (.int (bI (isWn x y w h))), g) := by
  rw [s_isWindow, iI_toInt hx.1 hx.2, iI_toInt hy.1 hy.2, iI_toInt hw.1 hw.2, iI_toInt hh.1 hh.2]
theorem g_isSet {T : TS} {V : VW} (hV : okV V) (h : cC T V) {k : Int} (hk : inI k) : cl k_Ds_isSet [.ref 0, .int (iI k)] (enc T) = some (some (.int (bI (0 ≤ k ∧ k ≤ (2 : Int) ^ V.1 - 1))), enc T) := by
  have h4 := hV.1
  have hpw := pow_n h4
  obtain ⟨k1, k2⟩ := hk
  have hsh : iI 1 <<< (iI (V.1 : Int) &&& iI 31) = iI ((2 : Int) ^ V.1) := shl_n h4
  by_cases n1 : k < 0
  · rw [bI_fI (by omega)]
    simp (disch := first | omega | assumption | decide | (simp (disch := omega) only [iI_lit, iJ_lit, iJ_eq, iI_eq, bI_01, bI_01I] <;> omega)) only [c_Ds_isSet, e_Ds_isSet_0, e_Ds_isSet_1, e_Ds_isSet_4, e_Ds_isSet_5, e_Ds_isSet_6, e_Ds_isSet_7, e_Ds_isSet_10, e_Ds_isSet_11, e_Ds_isSet_14, e_Ds_isSet_15, e_Ds_isSet_18, e_Ds_isSet_19, bd_some, bd_none, Option.toList_some, Option.toList_none, List.nil_append, List.cons_append, px_kill_int, px_kill_long, px_kill_ref, px_kill_null, iI_lit, iJ_lit, iI_add, iI_sub, iI_mul, iI_neg, iJ_add, iJ_sub, iJ_mul, iJ_neg, iI_lt, iI_le, iI_eq, iJ_lt, iJ_le, iJ_eq, iI_div, iJ_div, tdiv_tmod, iI_J, iJ_I, iI_ix, iI_toInt, iJ_toInt, cmp_ge, cmp_lt, cmp_eq, cmp_gt, cmp_le, cmp_geI, cmp_ltI, cmp_eqI, cmp_gtI, cmp_leI, bI_0I, bI_1I, pin, if_true, n1]
  · by_cases n2 : (2 : Int) ^ V.1 ≤ k
    · rw [bI_fI (by omega)]
      simp (disch := first | omega | assumption | decide | (simp (disch := omega) only [iI_lit, iJ_lit, iJ_eq, iI_eq, bI_01, bI_01I] <;> omega)) only [c_Ds_isSet, e_Ds_isSet_0, e_Ds_isSet_1, e_Ds_isSet_4, e_Ds_isSet_5, e_Ds_isSet_6, e_Ds_isSet_7, e_Ds_isSet_10, e_Ds_isSet_11, e_Ds_isSet_14, e_Ds_isSet_15, e_Ds_isSet_18, e_Ds_isSet_19, bd_some, bd_none, Option.toList_some, Option.toList_none, List.nil_append, List.cons_append, px_kill_int, px_kill_long, px_kill_ref, px_kill_null, iI_lit, iJ_lit, iI_add, iI_sub, iI_mul, iI_neg, iJ_add, iJ_sub, iJ_mul, iJ_neg, iI_lt, iI_le, iI_eq, iJ_lt, iJ_le, iJ_eq, iI_div, iJ_div, tdiv_tmod, iI_J, iJ_I, iI_ix, iI_toInt, iJ_toInt, cmp_ge, cmp_lt, cmp_eq, cmp_gt, cmp_le, cmp_geI, cmp_ltI, cmp_eqI, cmp_gtI, cmp_leI, bI_0I, bI_1I, pin, if_true, n1, if_false, h.1, hsh, n2]
    · rw [bI_tI (by omega)]
      simp (disch := first | omega | assumption | decide | (simp (disch := omega) only [iI_lit, iJ_lit, iJ_eq, iI_eq, bI_01, bI_01I] <;> omega)) only [c_Ds_isSet, e_Ds_isSet_0, e_Ds_isSet_1, e_Ds_isSet_4, e_Ds_isSet_5, e_Ds_isSet_6, e_Ds_isSet_7, e_Ds_isSet_10, e_Ds_isSet_11, e_Ds_isSet_14, e_Ds_isSet_15, e_Ds_isSet_18, e_Ds_isSet_19, bd_some, bd_none, Option.toList_some, Option.toList_none, List.nil_append, List.cons_append, px_kill_int, px_kill_long, px_kill_ref, px_kill_null, iI_lit, iJ_lit, iI_add, iI_sub, iI_mul, iI_neg, iJ_add, iJ_sub, iJ_mul, iJ_neg, iI_lt, iI_le, iI_eq, iJ_lt, iJ_le, iJ_eq, iI_div, iJ_div, tdiv_tmod, iI_J, iJ_I, iI_ix, iI_toInt, iJ_toInt, cmp_ge, cmp_lt, cmp_eq, cmp_gt, cmp_le, cmp_geI, cmp_ltI, cmp_eqI, cmp_gtI, cmp_leI, bI_0I, bI_1I, pin, if_true, n1, if_false, h.1, hsh, n2]
set_option maxHeartbeats 1000000 in
theorem q_Ds_window {T : TS} {V : VW} (hV : okV V) (h : cC T V) {x y w ht wh k : Int} (hx : inI x) (hy : inI y) (hw : inI w) (hh : inI ht) (hwh : inI wh) (hk : inI k) : ∃ T', cl k_Ds_window [.ref 0, .int (iI x), .int (iI y), .int (iI w), .int (iI ht), .int (iI wh), .int (iI k)] (enc T) = some (some (.int (iI (qWin V x y w ht wh k))), enc T') ∧ FrI aAsk T T' ∧ cC T' V := by
  have h4 := hV.1
  have g1 := g_isWindow hx hy hw hh (enc T)
  have g2 := g_isAxis hwh (enc T)
  have g3 := g_isSet hV h hk
  obtain ⟨a1, a2⟩ := id hwh
  obtain ⟨k1, k2⟩ := id hk
  unfold qWin
  by_cases c1 : isWn x y w ht
  · rw [bI_tI c1] at g1
    by_cases c2 : 0 ≤ wh ∧ wh ≤ 1
    · rw [bI_tI c2] at g2
      by_cases c3 : 0 ≤ k ∧ k ≤ topN V wh
      · rw [if_pos ⟨c1, c2, c3⟩]
        obtain ⟨⟨cx, cy⟩, cw, ch⟩ := id c1
        obtain ⟨T', e, fr, h'⟩ := lp_cwin1 hV (w := w.toNat) (ht := ht.toNat) (by omega) (by omega) cx cy hk c2 ht.toNat 0 T (by omega) h .null .null
        rw [show ((w.toNat : Nat) : Int) = w by omega, show ((ht.toNat : Nat) : Int) = ht by omega] at e
        refine ⟨T', ?_, fr, h'⟩
        unfold topN at c3
        by_cases c0 : wh = 0
        · rw [if_pos c0] at c3
          subst c0
          have n1 : ¬ k < 0 := by omega
          have n2 : k ≤ (V.1 : Int) := c3.2
          simp (disch := first | omega | assumption | decide | (simp (disch := omega) only [iI_lit, iJ_lit, iJ_eq, iI_eq, bI_01, bI_01I] <;> omega)) only [c_Ds_window, e_Ds_window_0, e_Ds_window_1, e_Ds_window_2, e_Ds_window_3, e_Ds_window_5, e_Ds_window_8, e_Ds_window_11, e_Ds_window_13, e_Ds_window_16, e_Ds_window_19, e_Ds_window_20, e_Ds_window_21, e_Ds_window_23, e_Ds_window_26, e_Ds_window_28, e_Ds_window_31, e_Ds_window_33, e_Ds_window_34, e_Ds_window_37, e_Ds_window_40, e_Ds_window_43, e_Ds_window_44, e_Ds_window_46, e_Ds_window_49, e_Ds_window_52, e_Ds_window_53, e_Ds_window_54, e_Ds_window_55, e_Ds_window_57, e_Ds_window_58, bd_some, bd_none, Option.toList_some, Option.toList_none, List.nil_append, List.cons_append, px_kill_int, px_kill_long, px_kill_ref, px_kill_null, iI_lit, iJ_lit, iI_add, iI_sub, iI_mul, iI_neg, iJ_add, iJ_sub, iJ_mul, iJ_neg, iI_lt, iI_le, iI_eq, iJ_lt, iJ_le, iJ_eq, iI_div, iJ_div, tdiv_tmod, iI_J, iJ_I, iI_ix, iI_toInt, iJ_toInt, cmp_ge, cmp_lt, cmp_eq, cmp_gt, cmp_le, cmp_geI, cmp_ltI, cmp_eqI, cmp_gtI, cmp_leI, bI_0I, bI_1I, pin, if_true, g1, g2, one0, if_false, n1, h.1, n2]
          exact e
        · rw [if_neg c0] at c3
          rw [bI_tI c3] at g3
          simp (disch := first | omega | assumption | decide | (simp (disch := omega) only [iI_lit, iJ_lit, iJ_eq, iI_eq, bI_01, bI_01I] <;> omega)) only [c_Ds_window, e_Ds_window_0, e_Ds_window_1, e_Ds_window_2, e_Ds_window_3, e_Ds_window_5, e_Ds_window_8, e_Ds_window_11, e_Ds_window_13, e_Ds_window_16, e_Ds_window_19, e_Ds_window_20, e_Ds_window_21, e_Ds_window_23, e_Ds_window_26, e_Ds_window_28, e_Ds_window_31, e_Ds_window_33, e_Ds_window_34, e_Ds_window_37, e_Ds_window_40, e_Ds_window_43, e_Ds_window_44, e_Ds_window_46, e_Ds_window_49, e_Ds_window_52, e_Ds_window_53, e_Ds_window_54, e_Ds_window_55, e_Ds_window_57, e_Ds_window_58, bd_some, bd_none, Option.toList_some, Option.toList_none, List.nil_append, List.cons_append, px_kill_int, px_kill_long, px_kill_ref, px_kill_null, iI_lit, iJ_lit, iI_add, iI_sub, iI_mul, iI_neg, iJ_add, iJ_sub, iJ_mul, iJ_neg, iI_lt, iI_le, iI_eq, iJ_lt, iJ_le, iJ_eq, iI_div, iJ_div, tdiv_tmod, iI_J, iJ_I, iI_ix, iI_toInt, iJ_toInt, cmp_ge, cmp_lt, cmp_eq, cmp_gt, cmp_le, cmp_geI, cmp_ltI, cmp_eqI, cmp_gtI, cmp_leI, bI_0I, bI_1I, pin, if_true, g1, g2, one0, if_false, c0, g3]
          exact e
      · rw [if_neg (fun z => c3 z.2.2)]
        refine ⟨T, ?_, FrI.rf _ _, h⟩
        unfold topN at c3
        by_cases c0 : wh = 0
        · rw [if_pos c0] at c3
          subst c0
          by_cases n1 : k < 0
          · simp (disch := first | omega | assumption | decide | (simp (disch := omega) only [iI_lit, iJ_lit, iJ_eq, iI_eq, bI_01, bI_01I] <;> omega)) only [c_Ds_window, e_Ds_window_0, e_Ds_window_1, e_Ds_window_2, e_Ds_window_3, e_Ds_window_5, e_Ds_window_8, e_Ds_window_11, e_Ds_window_13, e_Ds_window_16, e_Ds_window_19, e_Ds_window_20, e_Ds_window_21, e_Ds_window_23, e_Ds_window_26, e_Ds_window_28, e_Ds_window_31, e_Ds_window_33, e_Ds_window_34, e_Ds_window_37, e_Ds_window_40, e_Ds_window_43, e_Ds_window_44, e_Ds_window_46, e_Ds_window_49, e_Ds_window_52, e_Ds_window_53, e_Ds_window_54, e_Ds_window_55, e_Ds_window_57, e_Ds_window_58, bd_some, bd_none, Option.toList_some, Option.toList_none, List.nil_append, List.cons_append, px_kill_int, px_kill_long, px_kill_ref, px_kill_null, iI_lit, iJ_lit, iI_add, iI_sub, iI_mul, iI_neg, iJ_add, iJ_sub, iJ_mul, iJ_neg, iI_lt, iI_le, iI_eq, iJ_lt, iJ_le, iJ_eq, iI_div, iJ_div, tdiv_tmod, iI_J, iJ_I, iI_ix, iI_toInt, iJ_toInt, cmp_ge, cmp_lt, cmp_eq, cmp_gt, cmp_le, cmp_geI, cmp_ltI, cmp_eqI, cmp_gtI, cmp_leI, bI_0I, bI_1I, pin, if_true, g1, g2, one0, if_false, n1]
          · have n2 : ¬ k ≤ (V.1 : Int) := by omega
            simp (disch := first | omega | assumption | decide | (simp (disch := omega) only [iI_lit, iJ_lit, iJ_eq, iI_eq, bI_01, bI_01I] <;> omega)) only [c_Ds_window, e_Ds_window_0, e_Ds_window_1, e_Ds_window_2, e_Ds_window_3, e_Ds_window_5, e_Ds_window_8, e_Ds_window_11, e_Ds_window_13, e_Ds_window_16, e_Ds_window_19, e_Ds_window_20, e_Ds_window_21, e_Ds_window_23, e_Ds_window_26, e_Ds_window_28, e_Ds_window_31, e_Ds_window_33, e_Ds_window_34, e_Ds_window_37, e_Ds_window_40, e_Ds_window_43, e_Ds_window_44, e_Ds_window_46, e_Ds_window_49, e_Ds_window_52, e_Ds_window_53, e_Ds_window_54, e_Ds_window_55, e_Ds_window_57, e_Ds_window_58, bd_some, bd_none, Option.toList_some, Option.toList_none, List.nil_append, List.cons_append, px_kill_int, px_kill_long, px_kill_ref, px_kill_null, iI_lit, iJ_lit, iI_add, iI_sub, iI_mul, iI_neg, iJ_add, iJ_sub, iJ_mul, iJ_neg, iI_lt, iI_le, iI_eq, iJ_lt, iJ_le, iJ_eq, iI_div, iJ_div, tdiv_tmod, iI_J, iJ_I, iI_ix, iI_toInt, iJ_toInt, cmp_ge, cmp_lt, cmp_eq, cmp_gt, cmp_le, cmp_geI, cmp_ltI, cmp_eqI, cmp_gtI, cmp_leI, bI_0I, bI_1I, pin, if_true, g1, g2, one0, if_false, n1, h.1, n2]
        · rw [if_neg c0] at c3
          rw [bI_fI c3] at g3
          simp (disch := first | omega | assumption | decide | (simp (disch := omega) only [iI_lit, iJ_lit, iJ_eq, iI_eq, bI_01, bI_01I] <;> omega)) only [c_Ds_window, e_Ds_window_0, e_Ds_window_1, e_Ds_window_2, e_Ds_window_3, e_Ds_window_5, e_Ds_window_8, e_Ds_window_11, e_Ds_window_13, e_Ds_window_16, e_Ds_window_19, e_Ds_window_20, e_Ds_window_21, e_Ds_window_23, e_Ds_window_26, e_Ds_window_28, e_Ds_window_31, e_Ds_window_33, e_Ds_window_34, e_Ds_window_37, e_Ds_window_40, e_Ds_window_43, e_Ds_window_44, e_Ds_window_46, e_Ds_window_49, e_Ds_window_52, e_Ds_window_53, e_Ds_window_54, e_Ds_window_55, e_Ds_window_57, e_Ds_window_58, bd_some, bd_none, Option.toList_some, Option.toList_none, List.nil_append, List.cons_append, px_kill_int, px_kill_long, px_kill_ref, px_kill_null, iI_lit, iJ_lit, iI_add, iI_sub, iI_mul, iI_neg, iJ_add, iJ_sub, iJ_mul, iJ_neg, iI_lt, iI_le, iI_eq, iJ_lt, iJ_le, iJ_eq, iI_div, iJ_div, tdiv_tmod, iI_J, iJ_I, iI_ix, iI_toInt, iJ_toInt, cmp_ge, cmp_lt, cmp_eq, cmp_gt, cmp_le, cmp_geI, cmp_ltI, cmp_eqI, cmp_gtI, cmp_leI, bI_0I, bI_1I, pin, if_true, g1, g2, one0, if_false, c0, g3]
    · rw [bI_fI c2] at g2
      rw [if_neg (fun z => c2 z.2.1)]
      refine ⟨T, ?_, FrI.rf _ _, h⟩
      simp (disch := first | omega | assumption | decide | (simp (disch := omega) only [iI_lit, iJ_lit, iJ_eq, iI_eq, bI_01, bI_01I] <;> omega)) only [c_Ds_window, e_Ds_window_0, e_Ds_window_1, e_Ds_window_2, e_Ds_window_3, e_Ds_window_5, e_Ds_window_8, e_Ds_window_11, e_Ds_window_13, e_Ds_window_16, e_Ds_window_19, e_Ds_window_20, e_Ds_window_21, e_Ds_window_23, e_Ds_window_26, e_Ds_window_28, e_Ds_window_31, e_Ds_window_33, e_Ds_window_34, e_Ds_window_37, e_Ds_window_40, e_Ds_window_43, e_Ds_window_44, e_Ds_window_46, e_Ds_window_49, e_Ds_window_52, e_Ds_window_53, e_Ds_window_54, e_Ds_window_55, e_Ds_window_57, e_Ds_window_58, bd_some, bd_none, Option.toList_some, Option.toList_none, List.nil_append, List.cons_append, px_kill_int, px_kill_long, px_kill_ref, px_kill_null, iI_lit, iJ_lit, iI_add, iI_sub, iI_mul, iI_neg, iJ_add, iJ_sub, iJ_mul, iJ_neg, iI_lt, iI_le, iI_eq, iJ_lt, iJ_le, iJ_eq, iI_div, iJ_div, tdiv_tmod, iI_J, iJ_I, iI_ix, iI_toInt, iJ_toInt, cmp_ge, cmp_lt, cmp_eq, cmp_gt, cmp_le, cmp_geI, cmp_ltI, cmp_eqI, cmp_gtI, cmp_leI, bI_0I, bI_1I, pin, if_true, g1, g2, one0, if_false]
  · rw [bI_fI c1] at g1
    rw [if_neg (fun z => c1 z.1)]
    refine ⟨T, ?_, FrI.rf _ _, h⟩
    simp (disch := first | omega | assumption | decide | (simp (disch := omega) only [iI_lit, iJ_lit, iJ_eq, iI_eq, bI_01, bI_01I] <;> omega)) only [c_Ds_window, e_Ds_window_0, e_Ds_window_1, e_Ds_window_2, e_Ds_window_3, e_Ds_window_5, e_Ds_window_8, e_Ds_window_11, e_Ds_window_13, e_Ds_window_16, e_Ds_window_19, e_Ds_window_20, e_Ds_window_21, e_Ds_window_23, e_Ds_window_26, e_Ds_window_28, e_Ds_window_31, e_Ds_window_33, e_Ds_window_34, e_Ds_window_37, e_Ds_window_40, e_Ds_window_43, e_Ds_window_44, e_Ds_window_46, e_Ds_window_49, e_Ds_window_52, e_Ds_window_53, e_Ds_window_54, e_Ds_window_55, e_Ds_window_57, e_Ds_window_58, bd_some, bd_none, Option.toList_some, Option.toList_none, List.nil_append, List.cons_append, px_kill_int, px_kill_long, px_kill_ref, px_kill_null, iI_lit, iJ_lit, iI_add, iI_sub, iI_mul, iI_neg, iJ_add, iJ_sub, iJ_mul, iJ_neg, iI_lt, iI_le, iI_eq, iJ_lt, iJ_le, iJ_eq, iI_div, iJ_div, tdiv_tmod, iI_J, iJ_I, iI_ix, iI_toInt, iJ_toInt, cmp_ge, cmp_lt, cmp_eq, cmp_gt, cmp_le, cmp_geI, cmp_ltI, cmp_eqI, cmp_gtI, cmp_leI, bI_0I, bI_1I, pin, if_true, g1]
