/-! next. -/
abbrev isCn (x y : Int) : Prop := (-999 ≤ x ∧ x ≤ 999) ∧ (-999 ≤ y ∧ y ≤ 999)
noncomputable def nxN (V : VW) (x y s : Int) : Nat → Nat → Int
  | 0, _ => -1
  | m + 1, i => if setN V (x + (i : Int)) y V.1 = s then (i : Int) else nxN V x y s m (i + 1)
noncomputable def qNext (V : VW) (x y s : Int) : Int := if isCn x y ∧ 0 ≤ s ∧ s ≤ 15 then nxN V x y s 1000 0 else -1
theorem setN_16 {V : VW} (hV : okV V) (x y : Int) : 0 ≤ setN V x y V.1 ∧ setN V x y V.1 ≤ 15 := by
  have h := setN_bd V x y V.1
  have h4 := hV.1
  have : V.1 = 0 ∨ V.1 = 1 ∨ V.1 = 2 ∨ V.1 = 3 ∨ V.1 = 4 := by omega
  refine ⟨h.1, ?_⟩
  have h2 := h.2
  generalize setN V x y V.1 = z at *
  rcases this with e | e | e | e | e <;> rw [e] at h2 <;> simp at h2 <;> omega
set_option maxHeartbeats 1000000 in
theorem lp_cnext {V : VW} (hV : okV V) {x y s : Int} (hs : 0 ≤ s ∧ s ≤ 15) : ∀ (m i : Nat) (T : TS), i + m = 1000 → cC T V → rowsC T V (x + i) y V.1 → ∃ T', rn k_Ds_next 29 [.ref 0, .int (iI x), .int (iI y), .int (iI s), .int (iI (i : Int))] [] (enc T) = some (some (.int (iI (nxN V x y s m i))), enc T') ∧ FrI aAsk T T' ∧ cC T' V := by
  intro m
  induction m with
  | zero =>
    intro i T hi h hr
    refine ⟨T, ?_, FrI.rf _ _, h⟩
    have hlt : (999 : Int) < (i : Int) := by omega
    rw [e_Ds_next_29]
    simp (disch := first | omega | assumption | decide | (simp (disch := omega) only [iI_lit, iJ_lit, iJ_eq, iI_eq, bI_01, bI_01I] <;> omega)) only [e_Ds_next_31, e_Ds_next_34, e_Ds_next_37, e_Ds_next_38, e_Ds_next_41, e_Ds_next_42, e_Ds_next_45, e_Ds_next_47, e_Ds_next_48, e_Ds_next_51, e_Ds_next_54, e_Ds_next_55, bd_some, bd_none, Option.toList_some, Option.toList_none, List.nil_append, List.cons_append, px_kill_int, px_kill_long, px_kill_ref, px_kill_null, iI_lit, iJ_lit, iI_add, iI_sub, iI_mul, iI_neg, iJ_add, iJ_sub, iJ_mul, iJ_neg, iI_lt, iI_le, iI_eq, iJ_lt, iJ_le, iJ_eq, iI_div, iJ_div, tdiv_tmod, iI_J, iJ_I, iI_ix, iI_toInt, iJ_toInt, cmp_ge, cmp_lt, cmp_eq, cmp_gt, cmp_le, cmp_geI, cmp_ltI, cmp_eqI, cmp_gtI, cmp_leI, bI_0I, bI_1I, pin, if_true, hlt, nxN]
  | succ m ih =>
    intro i T hi h hr
    have hlt : ¬ (999 : Int) < (i : Int) := by omega
    obtain ⟨T2, e2, fr2, h2, r2⟩ := c_passPixel hV h hr
    have hb := setN_16 hV (x + i) y
    by_cases c : setN V (x + i) y V.1 = s
    · refine ⟨T2, ?_, fr2, h2⟩
      rw [e_Ds_next_29]
      unfold nxN
      rw [if_pos c]
      rw [c] at e2
      simp (disch := first | omega | assumption | decide | (simp (disch := omega) only [iI_lit, iJ_lit, iJ_eq, iI_eq, bI_01, bI_01I] <;> omega)) only [e_Ds_next_31, e_Ds_next_34, e_Ds_next_37, e_Ds_next_38, e_Ds_next_41, e_Ds_next_42, e_Ds_next_45, e_Ds_next_47, e_Ds_next_48, e_Ds_next_51, e_Ds_next_54, e_Ds_next_55, bd_some, bd_none, Option.toList_some, Option.toList_none, List.nil_append, List.cons_append, px_kill_int, px_kill_long, px_kill_ref, px_kill_null, iI_lit, iJ_lit, iI_add, iI_sub, iI_mul, iI_neg, iJ_add, iJ_sub, iJ_mul, iJ_neg, iI_lt, iI_le, iI_eq, iJ_lt, iJ_le, iJ_eq, iI_div, iJ_div, tdiv_tmod, iI_J, iJ_I, iI_ix, iI_toInt, iJ_toInt, cmp_ge, cmp_lt, cmp_eq, cmp_gt, cmp_le, cmp_geI, cmp_ltI, cmp_eqI, cmp_gtI, cmp_leI, bI_0I, bI_1I, pin, if_true, hlt, if_false, e2]
    · rw [show x + (i : Int) + 1 = x + ((i + 1 : Nat) : Int) by omega] at r2
      obtain ⟨T', e3, fr3, h3⟩ := ih (i + 1) T2 (by omega) h2 r2
      refine ⟨T', ?_, fr2.tr fr3, h3⟩
      rw [e_Ds_next_29]
      unfold nxN
      rw [if_neg c, ← e3]
      simp (disch := first | omega | assumption | decide | (simp (disch := omega) only [iI_lit, iJ_lit, iJ_eq, iI_eq, bI_01, bI_01I] <;> omega)) only [e_Ds_next_31, e_Ds_next_34, e_Ds_next_37, e_Ds_next_38, e_Ds_next_41, e_Ds_next_42, e_Ds_next_45, e_Ds_next_47, e_Ds_next_48, e_Ds_next_51, e_Ds_next_54, e_Ds_next_55, bd_some, bd_none, Option.toList_some, Option.toList_none, List.nil_append, List.cons_append, px_kill_int, px_kill_long, px_kill_ref, px_kill_null, iI_lit, iJ_lit, iI_add, iI_sub, iI_mul, iI_neg, iJ_add, iJ_sub, iJ_mul, iJ_neg, iI_lt, iI_le, iI_eq, iJ_lt, iJ_le, iJ_eq, iI_div, iJ_div, tdiv_tmod, iI_J, iJ_I, iI_ix, iI_toInt, iJ_toInt, cmp_ge, cmp_lt, cmp_eq, cmp_gt, cmp_le, cmp_geI, cmp_ltI, cmp_eqI, cmp_gtI, cmp_leI, bI_0I, bI_1I, pin, if_true, hlt, if_false, e2, c]
      rw [show (i : Int) + 1 = ((i + 1 : Nat) : Int) by omega]
theorem g_isCorner {x y : Int} (hx : inI x) (hy : inI y) (g : px_G) : cl k_Ds_isCorner [.int (iI x), .int (iI y)] g = some (some (.int (bI (isCn x y))), g) := by
  rw [s_isCorner, iI_toInt hx.1 hx.2, iI_toInt hy.1 hy.2]
set_option maxHeartbeats 1000000 in
theorem q_Ds_next {T : TS} {V : VW} (hV : okV V) (h : cC T V) {x y s : Int} (hx : inI x) (hy : inI y) (hs : inI s) : ∃ T', cl k_Ds_next [.ref 0, .int (iI x), .int (iI y), .int (iI s)] (enc T) = some (some (.int (iI (qNext V x y s))), enc T') ∧ FrI aAsk T T' ∧ cC T' V := by
  have g2 := g_isCorner hx hy (enc T)
  obtain ⟨s1, s2⟩ := id hs
  unfold qNext
  by_cases c1 : isCn x y
  · rw [bI_tI c1] at g2
    by_cases c2 : 0 ≤ s ∧ s ≤ 15
    · rw [if_pos ⟨c1, c2⟩]
      obtain ⟨x1, x2, x3⟩ := id c1
      obtain ⟨T2, e2, fr2, h2, r2⟩ := c_startRow hV h (x := x) (y := y) (by omega) (by omega)
      obtain ⟨T3, e3, fr3, h3⟩ := lp_cnext hV (x := x) (y := y) c2 1000 0 T2 (by omega) h2 (by rw [show x + ((0 : Nat) : Int) = x by omega]; exact r2)
      refine ⟨T3, ?_, fr2.tr fr3, h3⟩
      have n1 : ¬ s < 0 := by omega
      have n2 : s ≤ 15 := c2.2
      simp (disch := first | omega | assumption | decide | (simp (disch := omega) only [iI_lit, iJ_lit, iJ_eq, iI_eq, bI_01, bI_01I] <;> omega)) only [c_Ds_next, e_Ds_next_0, e_Ds_next_1, e_Ds_next_2, e_Ds_next_5, e_Ds_next_8, e_Ds_next_9, e_Ds_next_12, e_Ds_next_13, e_Ds_next_15, e_Ds_next_18, e_Ds_next_19, e_Ds_next_20, e_Ds_next_21, e_Ds_next_22, e_Ds_next_23, e_Ds_next_26, e_Ds_next_27, bd_some, bd_none, Option.toList_some, Option.toList_none, List.nil_append, List.cons_append, px_kill_int, px_kill_long, px_kill_ref, px_kill_null, iI_lit, iJ_lit, iI_add, iI_sub, iI_mul, iI_neg, iJ_add, iJ_sub, iJ_mul, iJ_neg, iI_lt, iI_le, iI_eq, iJ_lt, iJ_le, iJ_eq, iI_div, iJ_div, tdiv_tmod, iI_J, iJ_I, iI_ix, iI_toInt, iJ_toInt, cmp_ge, cmp_lt, cmp_eq, cmp_gt, cmp_le, cmp_geI, cmp_ltI, cmp_eqI, cmp_gtI, cmp_leI, bI_0I, bI_1I, pin, if_true, g2, one0, if_false, n1, n2, e2]
      exact e3
    · rw [if_neg (fun z => c2 z.2)]
      refine ⟨T, ?_, FrI.rf _ _, h⟩
      by_cases n1 : s < 0
      · simp (disch := first | omega | assumption | decide | (simp (disch := omega) only [iI_lit, iJ_lit, iJ_eq, iI_eq, bI_01, bI_01I] <;> omega)) only [c_Ds_next, e_Ds_next_0, e_Ds_next_1, e_Ds_next_2, e_Ds_next_5, e_Ds_next_8, e_Ds_next_9, e_Ds_next_12, e_Ds_next_13, e_Ds_next_15, e_Ds_next_18, e_Ds_next_19, e_Ds_next_20, e_Ds_next_21, e_Ds_next_22, e_Ds_next_23, e_Ds_next_26, e_Ds_next_27, bd_some, bd_none, Option.toList_some, Option.toList_none, List.nil_append, List.cons_append, px_kill_int, px_kill_long, px_kill_ref, px_kill_null, iI_lit, iJ_lit, iI_add, iI_sub, iI_mul, iI_neg, iJ_add, iJ_sub, iJ_mul, iJ_neg, iI_lt, iI_le, iI_eq, iJ_lt, iJ_le, iJ_eq, iI_div, iJ_div, tdiv_tmod, iI_J, iJ_I, iI_ix, iI_toInt, iJ_toInt, cmp_ge, cmp_lt, cmp_eq, cmp_gt, cmp_le, cmp_geI, cmp_ltI, cmp_eqI, cmp_gtI, cmp_leI, bI_0I, bI_1I, pin, if_true, g2, one0, if_false, n1]
      · have n2 : ¬ s ≤ 15 := by omega
        simp (disch := first | omega | assumption | decide | (simp (disch := omega) only [iI_lit, iJ_lit, iJ_eq, iI_eq, bI_01, bI_01I] <;> omega)) only [c_Ds_next, e_Ds_next_0, e_Ds_next_1, e_Ds_next_2, e_Ds_next_5, e_Ds_next_8, e_Ds_next_9, e_Ds_next_12, e_Ds_next_13, e_Ds_next_15, e_Ds_next_18, e_Ds_next_19, e_Ds_next_20, e_Ds_next_21, e_Ds_next_22, e_Ds_next_23, e_Ds_next_26, e_Ds_next_27, bd_some, bd_none, Option.toList_some, Option.toList_none, List.nil_append, List.cons_append, px_kill_int, px_kill_long, px_kill_ref, px_kill_null, iI_lit, iJ_lit, iI_add, iI_sub, iI_mul, iI_neg, iJ_add, iJ_sub, iJ_mul, iJ_neg, iI_lt, iI_le, iI_eq, iJ_lt, iJ_le, iJ_eq, iI_div, iJ_div, tdiv_tmod, iI_J, iJ_I, iI_ix, iI_toInt, iJ_toInt, cmp_ge, cmp_lt, cmp_eq, cmp_gt, cmp_le, cmp_geI, cmp_ltI, cmp_eqI, cmp_gtI, cmp_leI, bI_0I, bI_1I, pin, if_true, g2, one0, if_false, n1, n2]
  · rw [bI_fI c1] at g2
    rw [if_neg (fun z => c1 z.1)]
    refine ⟨T, ?_, FrI.rf _ _, h⟩
    simp (disch := first | omega | assumption | decide | (simp (disch := omega) only [iI_lit, iJ_lit, iJ_eq, iI_eq, bI_01, bI_01I] <;> omega)) only [c_Ds_next, e_Ds_next_0, e_Ds_next_1, e_Ds_next_2, e_Ds_next_5, e_Ds_next_8, e_Ds_next_9, e_Ds_next_12, e_Ds_next_13, e_Ds_next_15, e_Ds_next_18, e_Ds_next_19, e_Ds_next_20, e_Ds_next_21, e_Ds_next_22, e_Ds_next_23, e_Ds_next_26, e_Ds_next_27, bd_some, bd_none, Option.toList_some, Option.toList_none, List.nil_append, List.cons_append, px_kill_int, px_kill_long, px_kill_ref, px_kill_null, iI_lit, iJ_lit, iI_add, iI_sub, iI_mul, iI_neg, iJ_add, iJ_sub, iJ_mul, iJ_neg, iI_lt, iI_le, iI_eq, iJ_lt, iJ_le, iJ_eq, iI_div, iJ_div, tdiv_tmod, iI_J, iJ_I, iI_ix, iI_toInt, iJ_toInt, cmp_ge, cmp_lt, cmp_eq, cmp_gt, cmp_le, cmp_geI, cmp_ltI, cmp_eqI, cmp_gtI, cmp_leI, bI_0I, bI_1I, pin, if_true, g2]
set_option maxHeartbeats 1000000 in
theorem lp_mnext {V : VW} (hV : okV V) {x y s : Int} (hs : 0 ≤ s ∧ s ≤ 15) {T : TS} (hr : ∀ c : Nat, c < 1000 → T.1 66 c = iI (setN V (x + c) y V.1)) : ∀ (m i : Nat), i + m = 1000 → rn k_Dm_next 59 [.ref 53, .int (iI x), .int (iI y), .int (iI s), .int (iI (i : Int))] [] (enc T) = some (some (.int (iI (nxN V x y s m i))), enc T) := by
  intro m
  induction m with
  | zero =>
    intro i hi
    have hlt : (999 : Int) < (i : Int) := by omega
    rw [e_Dm_next_59]
    simp (disch := first | omega | assumption | decide | (simp (disch := omega) only [iI_lit, iJ_lit, iJ_eq, iI_eq, bI_01, bI_01I] <;> omega)) only [e_Dm_next_61, e_Dm_next_64, e_Dm_next_67, e_Dm_next_68, e_Dm_next_71, e_Dm_next_73, e_Dm_next_74, e_Dm_next_75, e_Dm_next_78, e_Dm_next_80, e_Dm_next_81, e_Dm_next_84, e_Dm_next_87, e_Dm_next_88, bd_some, bd_none, Option.toList_some, Option.toList_none, List.nil_append, List.cons_append, px_kill_int, px_kill_long, px_kill_ref, px_kill_null, iI_lit, iJ_lit, iI_add, iI_sub, iI_mul, iI_neg, iJ_add, iJ_sub, iJ_mul, iJ_neg, iI_lt, iI_le, iI_eq, iJ_lt, iJ_le, iJ_eq, iI_div, iJ_div, tdiv_tmod, iI_J, iJ_I, iI_ix, iI_toInt, iJ_toInt, cmp_ge, cmp_lt, cmp_eq, cmp_gt, cmp_le, cmp_geI, cmp_ltI, cmp_eqI, cmp_gtI, cmp_leI, bI_0I, bI_1I, pin, if_true, hlt, nxN]
  | succ m ih =>
    intro i hi
    have hlt : ¬ (999 : Int) < (i : Int) := by omega
    have hb := setN_16 hV (x + i) y
    have hv := hr i (by omega)
    have ei : ((i : Int)).toNat = i := by omega
    rw [e_Dm_next_59]
    unfold nxN
    by_cases c : setN V (x + i) y V.1 = s
    · rw [if_pos c]
      rw [c] at hv
      simp (disch := first | omega | assumption | decide | (simp (disch := omega) only [iI_lit, iJ_lit, iJ_eq, iI_eq, bI_01, bI_01I] <;> omega)) only [e_Dm_next_61, e_Dm_next_64, e_Dm_next_67, e_Dm_next_68, e_Dm_next_71, e_Dm_next_73, e_Dm_next_74, e_Dm_next_75, e_Dm_next_78, e_Dm_next_80, e_Dm_next_81, e_Dm_next_84, e_Dm_next_87, e_Dm_next_88, bd_some, bd_none, Option.toList_some, Option.toList_none, List.nil_append, List.cons_append, px_kill_int, px_kill_long, px_kill_ref, px_kill_null, iI_lit, iJ_lit, iI_add, iI_sub, iI_mul, iI_neg, iJ_add, iJ_sub, iJ_mul, iJ_neg, iI_lt, iI_le, iI_eq, iJ_lt, iJ_le, iJ_eq, iI_div, iJ_div, tdiv_tmod, iI_J, iJ_I, iI_ix, iI_toInt, iJ_toInt, cmp_ge, cmp_lt, cmp_eq, cmp_gt, cmp_le, cmp_geI, cmp_ltI, cmp_eqI, cmp_gtI, cmp_leI, bI_0I, bI_1I, pin, if_true, hlt, if_false, sh_n66, ei, hv]
    · rw [if_neg c, ← ih (i + 1) (by omega)]
      simp (disch := first | omega | assumption | decide | (simp (disch := omega) only [iI_lit, iJ_lit, iJ_eq, iI_eq, bI_01, bI_01I] <;> omega)) only [e_Dm_next_61, e_Dm_next_64, e_Dm_next_67, e_Dm_next_68, e_Dm_next_71, e_Dm_next_73, e_Dm_next_74, e_Dm_next_75, e_Dm_next_78, e_Dm_next_80, e_Dm_next_81, e_Dm_next_84, e_Dm_next_87, e_Dm_next_88, bd_some, bd_none, Option.toList_some, Option.toList_none, List.nil_append, List.cons_append, px_kill_int, px_kill_long, px_kill_ref, px_kill_null, iI_lit, iJ_lit, iI_add, iI_sub, iI_mul, iI_neg, iJ_add, iJ_sub, iJ_mul, iJ_neg, iI_lt, iI_le, iI_eq, iJ_lt, iJ_le, iJ_eq, iI_div, iJ_div, tdiv_tmod, iI_J, iJ_I, iI_ix, iI_toInt, iJ_toInt, cmp_ge, cmp_lt, cmp_eq, cmp_gt, cmp_le, cmp_geI, cmp_ltI, cmp_eqI, cmp_gtI, cmp_leI, bI_0I, bI_1I, pin, if_true, hlt, if_false, sh_n66, ei, hv, c]
      rw [show (i : Int) + 1 = ((i + 1 : Nat) : Int) by omega]
set_option maxHeartbeats 1000000 in
theorem q_Dm_next {T : TS} {V : VW} (hV : okV V) (h : cM T V) {x y s : Int} (hx : inI x) (hy : inI y) (hs : inI s) : ∃ T', cl k_Dm_next [.ref 53, .int (iI x), .int (iI y), .int (iI s)] (enc T) = some (some (.int (iI (qNext V x y s))), enc T') ∧ FrM T T' := by
  have hM : cM (t0 T) V := h.fr (t0_fr T)
  obtain ⟨s1, s2⟩ := id hs
  obtain ⟨x1, x2⟩ := id hx
  obtain ⟨y1, y2⟩ := id hy
  have e9 : (-999 : Int64) = iJ (-999) := by decide
  have g1 := s_in (x := x) (l := -999) (h := 999) (enc (t0 T)) (by omega) (by omega) (by omega)
  have g2 := s_in (x := y) (l := -999) (h := 999) (enc (t0 T)) (by omega) (by omega) (by omega)
  have g3 := s_in (x := s) (l := 0) (h := 15) (enc (t0 T)) (by omega) (by omega) (by omega)
  unfold qNext
  by_cases c1 : -999 ≤ x ∧ x ≤ 999
  · rw [bI_tI c1] at g1
    by_cases c2 : -999 ≤ y ∧ y ≤ 999
    · rw [bI_tI c2] at g2
      by_cases c3 : 0 ≤ s ∧ s ≤ 15
      · rw [bI_tI c3] at g3
        rw [if_pos ⟨⟨c1, c2⟩, c3⟩]
        obtain ⟨T2, e2, fr2, r2⟩ := m_laysRow hV hM (w := 1000) (by omega) (x := x) (y := y) (by omega) (by omega)
        have e2' : cl k_Dm_laysRow [.ref 53, .int (iI x), .int (iI y), .int (iI 1000)] (enc (t0 T)) = some (none, enc T2) := e2
        have e3 := lp_mnext hV (x := x) (y := y) c3 r2.1 1000 0 (by omega)
        refine ⟨T2, ?_, (t0_fr T).tr fr2⟩
        simp (disch := first | omega | assumption | decide | (simp (disch := omega) only [iI_lit, iJ_lit, iJ_eq, iI_eq, bI_01, bI_01I] <;> omega)) only [c_Dm_next, e_Dm_next_0, e_Dm_next_1, e_Dm_next_2, e_Dm_next_5, e_Dm_next_6, e_Dm_next_7, e_Dm_next_10, e_Dm_next_13, e_Dm_next_16, e_Dm_next_19, e_Dm_next_20, e_Dm_next_21, e_Dm_next_24, e_Dm_next_27, e_Dm_next_30, e_Dm_next_33, e_Dm_next_34, e_Dm_next_35, e_Dm_next_36, e_Dm_next_39, e_Dm_next_42, e_Dm_next_45, e_Dm_next_46, e_Dm_next_47, e_Dm_next_48, e_Dm_next_49, e_Dm_next_50, e_Dm_next_53, e_Dm_next_56, e_Dm_next_57, bd_some, bd_none, Option.toList_some, Option.toList_none, List.nil_append, List.cons_append, px_kill_int, px_kill_long, px_kill_ref, px_kill_null, e9, iI_lit, iJ_lit, iI_add, iI_sub, iI_mul, iI_neg, iJ_add, iJ_sub, iJ_mul, iJ_neg, iI_lt, iI_le, iI_eq, iJ_lt, iJ_le, iJ_eq, iI_div, iJ_div, tdiv_tmod, iI_J, iJ_I, iI_ix, iI_toInt, iJ_toInt, cmp_ge, cmp_lt, cmp_eq, cmp_gt, cmp_le, cmp_geI, cmp_ltI, cmp_eqI, cmp_gtI, cmp_leI, bI_0I, bI_1I, pin, if_true, g1, g2, g3, one0, if_false, e2']
        exact e3
      · rw [bI_fI c3] at g3
        rw [if_neg (fun z => c3 z.2)]
        refine ⟨t0 T, ?_, t0_fr T⟩
        simp (disch := first | omega | assumption | decide | (simp (disch := omega) only [iI_lit, iJ_lit, iJ_eq, iI_eq, bI_01, bI_01I] <;> omega)) only [c_Dm_next, e_Dm_next_0, e_Dm_next_1, e_Dm_next_2, e_Dm_next_5, e_Dm_next_6, e_Dm_next_7, e_Dm_next_10, e_Dm_next_13, e_Dm_next_16, e_Dm_next_19, e_Dm_next_20, e_Dm_next_21, e_Dm_next_24, e_Dm_next_27, e_Dm_next_30, e_Dm_next_33, e_Dm_next_34, e_Dm_next_35, e_Dm_next_36, e_Dm_next_39, e_Dm_next_42, e_Dm_next_45, e_Dm_next_46, e_Dm_next_47, e_Dm_next_48, e_Dm_next_49, e_Dm_next_50, e_Dm_next_53, e_Dm_next_56, e_Dm_next_57, bd_some, bd_none, Option.toList_some, Option.toList_none, List.nil_append, List.cons_append, px_kill_int, px_kill_long, px_kill_ref, px_kill_null, e9, iI_lit, iJ_lit, iI_add, iI_sub, iI_mul, iI_neg, iJ_add, iJ_sub, iJ_mul, iJ_neg, iI_lt, iI_le, iI_eq, iJ_lt, iJ_le, iJ_eq, iI_div, iJ_div, tdiv_tmod, iI_J, iJ_I, iI_ix, iI_toInt, iJ_toInt, cmp_ge, cmp_lt, cmp_eq, cmp_gt, cmp_le, cmp_geI, cmp_ltI, cmp_eqI, cmp_gtI, cmp_leI, bI_0I, bI_1I, pin, if_true, g1, g2, g3, one0, if_false]
    · rw [bI_fI c2] at g2
      rw [if_neg (fun z => c2 z.1.2)]
      refine ⟨t0 T, ?_, t0_fr T⟩
      simp (disch := first | omega | assumption | decide | (simp (disch := omega) only [iI_lit, iJ_lit, iJ_eq, iI_eq, bI_01, bI_01I] <;> omega)) only [c_Dm_next, e_Dm_next_0, e_Dm_next_1, e_Dm_next_2, e_Dm_next_5, e_Dm_next_6, e_Dm_next_7, e_Dm_next_10, e_Dm_next_13, e_Dm_next_16, e_Dm_next_19, e_Dm_next_20, e_Dm_next_21, e_Dm_next_24, e_Dm_next_27, e_Dm_next_30, e_Dm_next_33, e_Dm_next_34, e_Dm_next_35, e_Dm_next_36, e_Dm_next_39, e_Dm_next_42, e_Dm_next_45, e_Dm_next_46, e_Dm_next_47, e_Dm_next_48, e_Dm_next_49, e_Dm_next_50, e_Dm_next_53, e_Dm_next_56, e_Dm_next_57, bd_some, bd_none, Option.toList_some, Option.toList_none, List.nil_append, List.cons_append, px_kill_int, px_kill_long, px_kill_ref, px_kill_null, e9, iI_lit, iJ_lit, iI_add, iI_sub, iI_mul, iI_neg, iJ_add, iJ_sub, iJ_mul, iJ_neg, iI_lt, iI_le, iI_eq, iJ_lt, iJ_le, iJ_eq, iI_div, iJ_div, tdiv_tmod, iI_J, iJ_I, iI_ix, iI_toInt, iJ_toInt, cmp_ge, cmp_lt, cmp_eq, cmp_gt, cmp_le, cmp_geI, cmp_ltI, cmp_eqI, cmp_gtI, cmp_leI, bI_0I, bI_1I, pin, if_true, g1, g2, one0, if_false]
  · rw [bI_fI c1] at g1
    rw [if_neg (fun z => c1 z.1.1)]
    refine ⟨t0 T, ?_, t0_fr T⟩
    simp (disch := first | omega | assumption | decide | (simp (disch := omega) only [iI_lit, iJ_lit, iJ_eq, iI_eq, bI_01, bI_01I] <;> omega)) only [c_Dm_next, e_Dm_next_0, e_Dm_next_1, e_Dm_next_2, e_Dm_next_5, e_Dm_next_6, e_Dm_next_7, e_Dm_next_10, e_Dm_next_13, e_Dm_next_16, e_Dm_next_19, e_Dm_next_20, e_Dm_next_21, e_Dm_next_24, e_Dm_next_27, e_Dm_next_30, e_Dm_next_33, e_Dm_next_34, e_Dm_next_35, e_Dm_next_36, e_Dm_next_39, e_Dm_next_42, e_Dm_next_45, e_Dm_next_46, e_Dm_next_47, e_Dm_next_48, e_Dm_next_49, e_Dm_next_50, e_Dm_next_53, e_Dm_next_56, e_Dm_next_57, bd_some, bd_none, Option.toList_some, Option.toList_none, List.nil_append, List.cons_append, px_kill_int, px_kill_long, px_kill_ref, px_kill_null, e9, iI_lit, iJ_lit, iI_add, iI_sub, iI_mul, iI_neg, iJ_add, iJ_sub, iJ_mul, iJ_neg, iI_lt, iI_le, iI_eq, iJ_lt, iJ_le, iJ_eq, iI_div, iJ_div, tdiv_tmod, iI_J, iJ_I, iI_ix, iI_toInt, iJ_toInt, cmp_ge, cmp_lt, cmp_eq, cmp_gt, cmp_le, cmp_geI, cmp_ltI, cmp_eqI, cmp_gtI, cmp_leI, bI_0I, bI_1I, pin, if_true, g1]
