/-! window and densest of the reference. -/
abbrev isWn (x y w h : Int) : Prop := isCn x y ∧ (1 ≤ w ∧ w ≤ 32) ∧ (1 ≤ h ∧ h ≤ 32)
abbrev keyN (wh s : Int) : Int := if wh = 0 then btN s else s
abbrev topN (V : VW) (wh : Int) : Int := if wh = 0 then (V.1 : Int) else (2 : Int) ^ V.1 - 1
noncomputable def winN (V : VW) (x y : Int) (w h : Nat) (wh k : Int) : Int := sm (fun j => sm (fun i => if keyN wh (setN V (x + (i : Nat)) (y + (j : Nat)) V.1) = k then 1 else 0) w) h
noncomputable def qWin (V : VW) (x y w h wh k : Int) : Int := if isWn x y w h ∧ (0 ≤ wh ∧ wh ≤ 1) ∧ 0 ≤ k ∧ k ≤ topN V wh then winN V x y w.toNat h.toNat wh k else -1
theorem g_wnM {x y w h : Int} (hx : inI x) (hy : inI y) (hw : inI w) (hh : inI h) (g : px_G) : cl k_Dm_isWindow [.int (iI x), .int (iI y), .int (iI w), .int (iI h)] g = some (some (.int (bI (isWn x y w h))), g) := by
  obtain ⟨x1, x2⟩ := hx
  obtain ⟨y1, y2⟩ := hy
  obtain ⟨w1, w2⟩ := hw
  obtain ⟨h1, h2⟩ := hh
  have e9 : (-999 : Int64) = iJ (-999) := by decide
  have g1 := s_in (x := x) (l := -999) (h := 999) g (by omega) (by omega) (by omega)
  have g2 := s_in (x := y) (l := -999) (h := 999) g (by omega) (by omega) (by omega)
  have g3 := s_in (x := w) (l := 1) (h := 32) g (by omega) (by omega) (by omega)
  have g4 := s_in (x := h) (l := 1) (h := 32) g (by omega) (by omega) (by omega)
  by_cases c1 : -999 ≤ x ∧ x ≤ 999
  · rw [bI_tI c1] at g1
    by_cases c2 : -999 ≤ y ∧ y ≤ 999
    · rw [bI_tI c2] at g2
      by_cases c3 : 1 ≤ w ∧ w ≤ 32
      · rw [bI_tI c3] at g3
        by_cases c4 : 1 ≤ h ∧ h ≤ 32
        · rw [bI_tI c4] at g4
          rw [bI_tI (c := isWn x y w h) ⟨⟨c1, c2⟩, c3, c4⟩]
          simp (disch := first | omega | assumption | decide | (simp (disch := omega) only [iI_lit, iJ_lit, iJ_eq, iI_eq, bI_01, bI_01I] <;> omega)) only [c_Dm_isWindow, e_Dm_isWindow_0, e_Dm_isWindow_1, e_Dm_isWindow_2, e_Dm_isWindow_5, e_Dm_isWindow_8, e_Dm_isWindow_11, e_Dm_isWindow_14, e_Dm_isWindow_15, e_Dm_isWindow_16, e_Dm_isWindow_19, e_Dm_isWindow_22, e_Dm_isWindow_25, e_Dm_isWindow_28, e_Dm_isWindow_29, e_Dm_isWindow_30, e_Dm_isWindow_31, e_Dm_isWindow_34, e_Dm_isWindow_37, e_Dm_isWindow_40, e_Dm_isWindow_41, e_Dm_isWindow_42, e_Dm_isWindow_43, e_Dm_isWindow_46, e_Dm_isWindow_49, e_Dm_isWindow_52, e_Dm_isWindow_53, e_Dm_isWindow_56, e_Dm_isWindow_57, bd_some, bd_none, Option.toList_some, Option.toList_none, List.nil_append, List.cons_append, px_kill_int, px_kill_long, px_kill_ref, px_kill_null, e9, iI_lit, iJ_lit, iI_add, iI_sub, iI_mul, iI_neg, iJ_add, iJ_sub, iJ_mul, iJ_neg, iI_lt, iI_le, iI_eq, iJ_lt, iJ_le, iJ_eq, iI_div, iJ_div, tdiv_tmod, iI_J, iJ_I, iI_ix, iI_toInt, iJ_toInt, cmp_ge, cmp_lt, cmp_eq, cmp_gt, cmp_le, cmp_geI, cmp_ltI, cmp_eqI, cmp_gtI, cmp_leI, bI_0I, bI_1I, pin, if_true, g1, g2, g3, g4, one0, if_false]
        · rw [bI_fI c4] at g4
          rw [bI_fI (c := isWn x y w h) (fun z => c4 z.2.2)]
          simp (disch := first | omega | assumption | decide | (simp (disch := omega) only [iI_lit, iJ_lit, iJ_eq, iI_eq, bI_01, bI_01I] <;> omega)) only [c_Dm_isWindow, e_Dm_isWindow_0, e_Dm_isWindow_1, e_Dm_isWindow_2, e_Dm_isWindow_5, e_Dm_isWindow_8, e_Dm_isWindow_11, e_Dm_isWindow_14, e_Dm_isWindow_15, e_Dm_isWindow_16, e_Dm_isWindow_19, e_Dm_isWindow_22, e_Dm_isWindow_25, e_Dm_isWindow_28, e_Dm_isWindow_29, e_Dm_isWindow_30, e_Dm_isWindow_31, e_Dm_isWindow_34, e_Dm_isWindow_37, e_Dm_isWindow_40, e_Dm_isWindow_41, e_Dm_isWindow_42, e_Dm_isWindow_43, e_Dm_isWindow_46, e_Dm_isWindow_49, e_Dm_isWindow_52, e_Dm_isWindow_53, e_Dm_isWindow_56, e_Dm_isWindow_57, bd_some, bd_none, Option.toList_some, Option.toList_none, List.nil_append, List.cons_append, px_kill_int, px_kill_long, px_kill_ref, px_kill_null, e9, iI_lit, iJ_lit, iI_add, iI_sub, iI_mul, iI_neg, iJ_add, iJ_sub, iJ_mul, iJ_neg, iI_lt, iI_le, iI_eq, iJ_lt, iJ_le, iJ_eq, iI_div, iJ_div, tdiv_tmod, iI_J, iJ_I, iI_ix, iI_toInt, iJ_toInt, cmp_ge, cmp_lt, cmp_eq, cmp_gt, cmp_le, cmp_geI, cmp_ltI, cmp_eqI, cmp_gtI, cmp_leI, bI_0I, bI_1I, pin, if_true, g1, g2, g3, g4, one0, if_false]
      · rw [bI_fI c3] at g3
        rw [bI_fI (c := isWn x y w h) (fun z => c3 z.2.1)]
        simp (disch := first | omega | assumption | decide | (simp (disch := omega) only [iI_lit, iJ_lit, iJ_eq, iI_eq, bI_01, bI_01I] <;> omega)) only [c_Dm_isWindow, e_Dm_isWindow_0, e_Dm_isWindow_1, e_Dm_isWindow_2, e_Dm_isWindow_5, e_Dm_isWindow_8, e_Dm_isWindow_11, e_Dm_isWindow_14, e_Dm_isWindow_15, e_Dm_isWindow_16, e_Dm_isWindow_19, e_Dm_isWindow_22, e_Dm_isWindow_25, e_Dm_isWindow_28, e_Dm_isWindow_29, e_Dm_isWindow_30, e_Dm_isWindow_31, e_Dm_isWindow_34, e_Dm_isWindow_37, e_Dm_isWindow_40, e_Dm_isWindow_41, e_Dm_isWindow_42, e_Dm_isWindow_43, e_Dm_isWindow_46, e_Dm_isWindow_49, e_Dm_isWindow_52, e_Dm_isWindow_53, e_Dm_isWindow_56, e_Dm_isWindow_57, bd_some, bd_none, Option.toList_some, Option.toList_none, List.nil_append, List.cons_append, px_kill_int, px_kill_long, px_kill_ref, px_kill_null, e9, iI_lit, iJ_lit, iI_add, iI_sub, iI_mul, iI_neg, iJ_add, iJ_sub, iJ_mul, iJ_neg, iI_lt, iI_le, iI_eq, iJ_lt, iJ_le, iJ_eq, iI_div, iJ_div, tdiv_tmod, iI_J, iJ_I, iI_ix, iI_toInt, iJ_toInt, cmp_ge, cmp_lt, cmp_eq, cmp_gt, cmp_le, cmp_geI, cmp_ltI, cmp_eqI, cmp_gtI, cmp_leI, bI_0I, bI_1I, pin, if_true, g1, g2, g3, one0, if_false]
    · rw [bI_fI c2] at g2
      rw [bI_fI (c := isWn x y w h) (fun z => c2 z.1.2)]
      simp (disch := first | omega | assumption | decide | (simp (disch := omega) only [iI_lit, iJ_lit, iJ_eq, iI_eq, bI_01, bI_01I] <;> omega)) only [c_Dm_isWindow, e_Dm_isWindow_0, e_Dm_isWindow_1, e_Dm_isWindow_2, e_Dm_isWindow_5, e_Dm_isWindow_8, e_Dm_isWindow_11, e_Dm_isWindow_14, e_Dm_isWindow_15, e_Dm_isWindow_16, e_Dm_isWindow_19, e_Dm_isWindow_22, e_Dm_isWindow_25, e_Dm_isWindow_28, e_Dm_isWindow_29, e_Dm_isWindow_30, e_Dm_isWindow_31, e_Dm_isWindow_34, e_Dm_isWindow_37, e_Dm_isWindow_40, e_Dm_isWindow_41, e_Dm_isWindow_42, e_Dm_isWindow_43, e_Dm_isWindow_46, e_Dm_isWindow_49, e_Dm_isWindow_52, e_Dm_isWindow_53, e_Dm_isWindow_56, e_Dm_isWindow_57, bd_some, bd_none, Option.toList_some, Option.toList_none, List.nil_append, List.cons_append, px_kill_int, px_kill_long, px_kill_ref, px_kill_null, e9, iI_lit, iJ_lit, iI_add, iI_sub, iI_mul, iI_neg, iJ_add, iJ_sub, iJ_mul, iJ_neg, iI_lt, iI_le, iI_eq, iJ_lt, iJ_le, iJ_eq, iI_div, iJ_div, tdiv_tmod, iI_J, iJ_I, iI_ix, iI_toInt, iJ_toInt, cmp_ge, cmp_lt, cmp_eq, cmp_gt, cmp_le, cmp_geI, cmp_ltI, cmp_eqI, cmp_gtI, cmp_leI, bI_0I, bI_1I, pin, if_true, g1, g2, one0, if_false]
  · rw [bI_fI c1] at g1
    rw [bI_fI (c := isWn x y w h) (fun z => c1 z.1.1)]
    simp (disch := first | omega | assumption | decide | (simp (disch := omega) only [iI_lit, iJ_lit, iJ_eq, iI_eq, bI_01, bI_01I] <;> omega)) only [c_Dm_isWindow, e_Dm_isWindow_0, e_Dm_isWindow_1, e_Dm_isWindow_2, e_Dm_isWindow_5, e_Dm_isWindow_8, e_Dm_isWindow_11, e_Dm_isWindow_14, e_Dm_isWindow_15, e_Dm_isWindow_16, e_Dm_isWindow_19, e_Dm_isWindow_22, e_Dm_isWindow_25, e_Dm_isWindow_28, e_Dm_isWindow_29, e_Dm_isWindow_30, e_Dm_isWindow_31, e_Dm_isWindow_34, e_Dm_isWindow_37, e_Dm_isWindow_40, e_Dm_isWindow_41, e_Dm_isWindow_42, e_Dm_isWindow_43, e_Dm_isWindow_46, e_Dm_isWindow_49, e_Dm_isWindow_52, e_Dm_isWindow_53, e_Dm_isWindow_56, e_Dm_isWindow_57, bd_some, bd_none, Option.toList_some, Option.toList_none, List.nil_append, List.cons_append, px_kill_int, px_kill_long, px_kill_ref, px_kill_null, e9, iI_lit, iJ_lit, iI_add, iI_sub, iI_mul, iI_neg, iJ_add, iJ_sub, iJ_mul, iJ_neg, iI_lt, iI_le, iI_eq, iJ_lt, iJ_le, iJ_eq, iI_div, iJ_div, tdiv_tmod, iI_J, iJ_I, iI_ix, iI_toInt, iJ_toInt, cmp_ge, cmp_lt, cmp_eq, cmp_gt, cmp_le, cmp_geI, cmp_ltI, cmp_eqI, cmp_gtI, cmp_leI, bI_0I, bI_1I, pin, if_true, g1]
theorem win_cnt {V : VW} (hV : okV V) (x y : Int) (w h : Nat) (wh k : Int) : sm (fun s => if keyN wh ((s : Nat) : Int) = k then cntN V x y w h s else 0) 16 = winN V x y w h wh k := by
  have e1 : ∀ s, s < 16 → (if keyN wh ((s : Nat) : Int) = k then cntN V x y w h s else 0) = sm (fun j => sm (fun i => if (setN V (x + (i : Nat)) (y + (j : Nat)) V.1).toNat = s then (if keyN wh ((s : Nat) : Int) = k then 1 else 0) else 0) w) h := by
    intro s hs
    by_cases c : keyN wh ((s : Nat) : Int) = k
    · rw [if_pos c, if_pos c]
      unfold cntN
      refine sm_cong _ (fun j _ => sm_cong _ (fun i _ => ?_))
      have hb := setN_16 hV (x + (i : Nat)) (y + (j : Nat))
      unfold hitN
      by_cases c2 : setN V (x + (i : Nat)) (y + (j : Nat)) V.1 = (s : Int)
      · rw [if_pos c2, if_pos (by omega)]
      · rw [if_neg c2, if_neg (by omega)]
    · rw [if_neg c, if_neg c]
      rw [sm_cong (g' := fun _ => 0) _ (fun j _ => ?_), sm_zero]
      rw [sm_cong (g' := fun _ => 0) _ (fun i _ => ?_), sm_zero]
      split <;> rfl
  rw [sm_cong _ e1, sm_swap]
  unfold winN
  refine sm_cong _ (fun j _ => ?_)
  rw [sm_swap]
  refine sm_cong _ (fun i _ => ?_)
  have hb := setN_16 hV (x + (i : Nat)) (y + (j : Nat))
  rw [sm_del (fun s => if keyN wh ((s : Nat) : Int) = k then 1 else 0), if_pos (by omega), show (((setN V (x + (i : Nat)) (y + (j : Nat)) V.1).toNat : Nat) : Int) = setN V (x + (i : Nat)) (y + (j : Nat)) V.1 by omega]
set_option maxHeartbeats 1000000 in
theorem lp_mwin {T : TS} {V : VW} (v1 v2 v3 v4 : Int32) {x y : Int} {w h : Nat} {wh k : Int} (hwh : 0 ≤ wh ∧ wh ≤ 1) (hk : inI k) (hc : ∀ s, s < 16 → T.1 67 s = iI (cntN V x y w h s)) : ∀ (m s : Nat), s + m = 16 → rn k_Dm_window 76 [.ref 53, .int v1, .int v2, .int v3, .int v4, .int (iI wh), .int (iI k), .int (iI (sm (fun s => if keyN wh ((s : Nat) : Int) = k then cntN V x y w h s else 0) s)), .int (iI (s : Int))] [] (enc T) = some (some (.int (iI (sm (fun s => if keyN wh ((s : Nat) : Int) = k then cntN V x y w h s else 0) 16))), enc T) := by
  obtain ⟨k1, k2⟩ := hk
  intro m
  induction m with
  | zero =>
    intro s hs
    have h16 : s = 16 := by omega
    rw [e_Dm_window_76, h16]
    have h16 : ((16 : Nat) : Int) = 16 := rfl
    simp (disch := first | omega | assumption | decide | (simp (disch := omega) only [iI_lit, iJ_lit, iJ_eq, iI_eq, bI_01, bI_01I] <;> omega)) only [e_Dm_window_78, e_Dm_window_80, e_Dm_window_83, e_Dm_window_85, e_Dm_window_87, e_Dm_window_90, e_Dm_window_92, e_Dm_window_95, e_Dm_window_97, e_Dm_window_100, e_Dm_window_103, e_Dm_window_105, e_Dm_window_107, e_Dm_window_110, e_Dm_window_111, e_Dm_window_114, e_Dm_window_116, e_Dm_window_117, e_Dm_window_120, e_Dm_window_121, e_Dm_window_122, e_Dm_window_124, e_Dm_window_127, e_Dm_window_130, e_Dm_window_132, bd_some, bd_none, Option.toList_some, Option.toList_none, List.nil_append, List.cons_append, px_kill_int, px_kill_long, px_kill_ref, px_kill_null, h16, iI_lit, iJ_lit, iI_add, iI_sub, iI_mul, iI_neg, iJ_add, iJ_sub, iJ_mul, iJ_neg, iI_lt, iI_le, iI_eq, iJ_lt, iJ_le, iJ_eq, iI_div, iJ_div, tdiv_tmod, iI_J, iJ_I, iI_ix, iI_toInt, iJ_toInt, cmp_ge, cmp_lt, cmp_eq, cmp_gt, cmp_le, cmp_geI, cmp_ltI, cmp_eqI, cmp_gtI, cmp_leI, bI_0I, bI_1I, pin, if_true, Int.le_refl]
  | succ m ih =>
    intro s hs
    have nle : ¬ (16 : Int) ≤ (s : Int) := by omega
    have es : ((s : Int)).toNat = s := by omega
    have hv := hc s (by omega)
    have hbt := btN_bd (s : Int)
    have hbc := s_bits (s := (s : Int)) (by omega) (enc T)
    rw [e_Dm_window_76, ← ih (s + 1) (by omega)]
    rw [show sm (fun s => if keyN wh ((s : Nat) : Int) = k then cntN V x y w h s else 0) (s + 1) = sm (fun s => if keyN wh ((s : Nat) : Int) = k then cntN V x y w h s else 0) s + (if keyN wh ((s : Nat) : Int) = k then cntN V x y w h s else 0) from rfl]
    by_cases c0 : wh = 0
    · by_cases c : btN (s : Int) = k
      · rw [if_pos (show keyN wh (s : Int) = k by unfold keyN; rw [if_pos c0]; exact c)]
        subst c0
        simp (disch := first | omega | assumption | decide | (simp (disch := omega) only [iI_lit, iJ_lit, iJ_eq, iI_eq, bI_01, bI_01I] <;> omega)) only [e_Dm_window_78, e_Dm_window_80, e_Dm_window_83, e_Dm_window_85, e_Dm_window_87, e_Dm_window_90, e_Dm_window_92, e_Dm_window_95, e_Dm_window_97, e_Dm_window_100, e_Dm_window_103, e_Dm_window_105, e_Dm_window_107, e_Dm_window_110, e_Dm_window_111, e_Dm_window_114, e_Dm_window_116, e_Dm_window_117, e_Dm_window_120, e_Dm_window_121, e_Dm_window_122, e_Dm_window_124, e_Dm_window_127, e_Dm_window_130, e_Dm_window_132, bd_some, bd_none, Option.toList_some, Option.toList_none, List.nil_append, List.cons_append, px_kill_int, px_kill_long, px_kill_ref, px_kill_null, iI_lit, iJ_lit, iI_add, iI_sub, iI_mul, iI_neg, iJ_add, iJ_sub, iJ_mul, iJ_neg, iI_lt, iI_le, iI_eq, iJ_lt, iJ_le, iJ_eq, iI_div, iJ_div, tdiv_tmod, iI_J, iJ_I, iI_ix, iI_toInt, iJ_toInt, cmp_ge, cmp_lt, cmp_eq, cmp_gt, cmp_le, cmp_geI, cmp_ltI, cmp_eqI, cmp_gtI, cmp_leI, bI_0I, bI_1I, pin, if_true, nle, if_false, hbc, c, sh_n67, es, hv]
        rw [show (s : Int) + 1 = ((s + 1 : Nat) : Int) by omega]
      · rw [if_neg (show ¬ keyN wh (s : Int) = k by unfold keyN; rw [if_pos c0]; exact c)]
        subst c0
        simp (disch := first | omega | assumption | decide | (simp (disch := omega) only [iI_lit, iJ_lit, iJ_eq, iI_eq, bI_01, bI_01I] <;> omega)) only [e_Dm_window_78, e_Dm_window_80, e_Dm_window_83, e_Dm_window_85, e_Dm_window_87, e_Dm_window_90, e_Dm_window_92, e_Dm_window_95, e_Dm_window_97, e_Dm_window_100, e_Dm_window_103, e_Dm_window_105, e_Dm_window_107, e_Dm_window_110, e_Dm_window_111, e_Dm_window_114, e_Dm_window_116, e_Dm_window_117, e_Dm_window_120, e_Dm_window_121, e_Dm_window_122, e_Dm_window_124, e_Dm_window_127, e_Dm_window_130, e_Dm_window_132, bd_some, bd_none, Option.toList_some, Option.toList_none, List.nil_append, List.cons_append, px_kill_int, px_kill_long, px_kill_ref, px_kill_null, iI_lit, iJ_lit, iI_add, iI_sub, iI_mul, iI_neg, iJ_add, iJ_sub, iJ_mul, iJ_neg, iI_lt, iI_le, iI_eq, iJ_lt, iJ_le, iJ_eq, iI_div, iJ_div, tdiv_tmod, iI_J, iJ_I, iI_ix, iI_toInt, iJ_toInt, cmp_ge, cmp_lt, cmp_eq, cmp_gt, cmp_le, cmp_geI, cmp_ltI, cmp_eqI, cmp_gtI, cmp_leI, bI_0I, bI_1I, pin, if_true, nle, if_false, hbc, c]
        rw [show (s : Int) + 1 = ((s + 1 : Nat) : Int) by omega]
    · by_cases c : (s : Int) = k
      · rw [if_pos (show keyN wh (s : Int) = k by unfold keyN; rw [if_neg c0]; exact c)]
        have ceq : ((s : Int) = k) = True := eq_true c
        simp (disch := first | omega | assumption | decide | (simp (disch := omega) only [iI_lit, iJ_lit, iJ_eq, iI_eq, bI_01, bI_01I] <;> omega)) only [e_Dm_window_78, e_Dm_window_80, e_Dm_window_83, e_Dm_window_85, e_Dm_window_87, e_Dm_window_90, e_Dm_window_92, e_Dm_window_95, e_Dm_window_97, e_Dm_window_100, e_Dm_window_103, e_Dm_window_105, e_Dm_window_107, e_Dm_window_110, e_Dm_window_111, e_Dm_window_114, e_Dm_window_116, e_Dm_window_117, e_Dm_window_120, e_Dm_window_121, e_Dm_window_122, e_Dm_window_124, e_Dm_window_127, e_Dm_window_130, e_Dm_window_132, bd_some, bd_none, Option.toList_some, Option.toList_none, List.nil_append, List.cons_append, px_kill_int, px_kill_long, px_kill_ref, px_kill_null, iI_lit, iJ_lit, iI_add, iI_sub, iI_mul, iI_neg, iJ_add, iJ_sub, iJ_mul, iJ_neg, iI_lt, iI_le, iI_eq, iJ_lt, iJ_le, iJ_eq, iI_div, iJ_div, tdiv_tmod, iI_J, iJ_I, iI_ix, iI_toInt, iJ_toInt, cmp_ge, cmp_lt, cmp_eq, cmp_gt, cmp_le, cmp_geI, cmp_ltI, cmp_eqI, cmp_gtI, cmp_leI, bI_0I, bI_1I, pin, if_true, nle, if_false, c0, ceq, sh_n67, es, hv]
        rw [show (s : Int) + 1 = ((s + 1 : Nat) : Int) by omega]
      · rw [if_neg (show ¬ keyN wh (s : Int) = k by unfold keyN; rw [if_neg c0]; exact c)]
        simp (disch := first | omega | assumption | decide | (simp (disch := omega) only [iI_lit, iJ_lit, iJ_eq, iI_eq, bI_01, bI_01I] <;> omega)) only [e_Dm_window_78, e_Dm_window_80, e_Dm_window_83, e_Dm_window_85, e_Dm_window_87, e_Dm_window_90, e_Dm_window_92, e_Dm_window_95, e_Dm_window_97, e_Dm_window_100, e_Dm_window_103, e_Dm_window_105, e_Dm_window_107, e_Dm_window_110, e_Dm_window_111, e_Dm_window_114, e_Dm_window_116, e_Dm_window_117, e_Dm_window_120, e_Dm_window_121, e_Dm_window_122, e_Dm_window_124, e_Dm_window_127, e_Dm_window_130, e_Dm_window_132, bd_some, bd_none, Option.toList_some, Option.toList_none, List.nil_append, List.cons_append, px_kill_int, px_kill_long, px_kill_ref, px_kill_null, iI_lit, iJ_lit, iI_add, iI_sub, iI_mul, iI_neg, iJ_add, iJ_sub, iJ_mul, iJ_neg, iI_lt, iI_le, iI_eq, iJ_lt, iJ_le, iJ_eq, iI_div, iJ_div, tdiv_tmod, iI_J, iJ_I, iI_ix, iI_toInt, iJ_toInt, cmp_ge, cmp_lt, cmp_eq, cmp_gt, cmp_le, cmp_geI, cmp_ltI, cmp_eqI, cmp_gtI, cmp_leI, bI_0I, bI_1I, pin, if_true, nle, if_false, c0, c]
        rw [show (s : Int) + 1 = ((s + 1 : Nat) : Int) by omega]
theorem shl_n {n : Nat} (hn : n ≤ 4) : iI 1 <<< (iI (n : Int) &&& 31) = iI ((2 : Int) ^ n) := (by decide : ∀ n : Nat, n < 5 → iI 1 <<< (iI (n : Int) &&& 31) = iI ((2 : Int) ^ n)) n (by omega)
theorem pow_n {n : Nat} (hn : n ≤ 4) : 1 ≤ (2 : Int) ^ n ∧ (2 : Int) ^ n ≤ 16 := by
  have : n = 0 ∨ n = 1 ∨ n = 2 ∨ n = 3 ∨ n = 4 := by omega
  rcases this with e | e | e | e | e <;> rw [e] <;> decide
set_option maxHeartbeats 1000000 in
theorem q_Dm_window {T : TS} {V : VW} (hV : okV V) (h : cM T V) {x y w ht wh k : Int} (hx : inI x) (hy : inI y) (hw : inI w) (hh : inI ht) (hwh : inI wh) (hk : inI k) : ∃ T', cl k_Dm_window [.ref 53, .int (iI x), .int (iI y), .int (iI w), .int (iI ht), .int (iI wh), .int (iI k)] (enc T) = some (some (.int (iI (qWin V x y w ht wh k))), enc T') ∧ FrM T T' := by
  have hM : cM (t0 T) V := h.fr (t0_fr T)
  have h4 := hV.1
  have g1 := g_wnM hx hy hw hh (enc (t0 T))
  obtain ⟨a1, a2⟩ := id hwh
  obtain ⟨k1, k2⟩ := id hk
  have g2 := s_in (x := wh) (l := 0) (h := 1) (enc (t0 T)) (by omega) (by omega) (by omega)
  have hpw := pow_n h4
  have hsh : iI 1 <<< (iI (V.1 : Int) &&& iI 31) = iI ((2 : Int) ^ V.1) := shl_n h4
  have htop : 0 ≤ topN V wh ∧ topN V wh ≤ 15 := by unfold topN; split <;> omega
  have g3 := s_in (x := k) (l := 0) (h := topN V wh) (enc (t0 T)) (by omega) (by omega) (by omega)
  unfold qWin
  by_cases c1 : isWn x y w ht
  · rw [bI_tI c1] at g1
    by_cases c2 : 0 ≤ wh ∧ wh ≤ 1
    · rw [bI_tI c2] at g2
      have pre : ∀ b : Int, cl k_Dm_in [.long (iJ k), .long (iJ 0), .long (iJ (topN V wh))] (enc (t0 T)) = some (some (.int (iI b)), enc (t0 T)) → cl k_Dm_window [.ref 53, .int (iI x), .int (iI y), .int (iI w), .int (iI ht), .int (iI wh), .int (iI k)] (enc T) = rn k_Dm_window 56 [.ref 53, .int (iI x), .int (iI y), .int (iI w), .int (iI ht), .int (iI wh), .int (iI k), .null, .null] [.int (iI b)] (enc (t0 T)) := by
        intro b hb
        unfold topN at hb
        by_cases c0 : wh = 0
        · rw [if_pos c0] at hb
          subst c0
          simp (disch := first | omega | assumption | decide | (simp (disch := omega) only [iI_lit, iJ_lit, iJ_eq, iI_eq, bI_01, bI_01I] <;> omega)) only [c_Dm_window, e_Dm_window_0, e_Dm_window_1, e_Dm_window_2, e_Dm_window_5, e_Dm_window_6, e_Dm_window_7, e_Dm_window_8, e_Dm_window_10, e_Dm_window_13, e_Dm_window_16, e_Dm_window_18, e_Dm_window_19, e_Dm_window_20, e_Dm_window_21, e_Dm_window_24, e_Dm_window_27, e_Dm_window_29, e_Dm_window_30, e_Dm_window_31, e_Dm_window_33, e_Dm_window_36, e_Dm_window_37, e_Dm_window_40, e_Dm_window_41, e_Dm_window_44, e_Dm_window_45, e_Dm_window_46, e_Dm_window_49, e_Dm_window_50, e_Dm_window_51, e_Dm_window_52, e_Dm_window_53, bd_some, bd_none, Option.toList_some, Option.toList_none, List.nil_append, List.cons_append, px_kill_int, px_kill_long, px_kill_ref, px_kill_null, iI_lit, iJ_lit, iI_add, iI_sub, iI_mul, iI_neg, iJ_add, iJ_sub, iJ_mul, iJ_neg, iI_lt, iI_le, iI_eq, iJ_lt, iJ_le, iJ_eq, iI_div, iJ_div, tdiv_tmod, iI_J, iJ_I, iI_ix, iI_toInt, iJ_toInt, cmp_ge, cmp_lt, cmp_eq, cmp_gt, cmp_le, cmp_geI, cmp_ltI, cmp_eqI, cmp_gtI, cmp_leI, bI_0I, bI_1I, pin, if_true, g1, g2, one0, if_false, hM.1, hb]
        · rw [if_neg c0] at hb
          simp (disch := first | omega | assumption | decide | (simp (disch := omega) only [iI_lit, iJ_lit, iJ_eq, iI_eq, bI_01, bI_01I] <;> omega)) only [c_Dm_window, e_Dm_window_0, e_Dm_window_1, e_Dm_window_2, e_Dm_window_5, e_Dm_window_6, e_Dm_window_7, e_Dm_window_8, e_Dm_window_10, e_Dm_window_13, e_Dm_window_16, e_Dm_window_18, e_Dm_window_19, e_Dm_window_20, e_Dm_window_21, e_Dm_window_24, e_Dm_window_27, e_Dm_window_29, e_Dm_window_30, e_Dm_window_31, e_Dm_window_33, e_Dm_window_36, e_Dm_window_37, e_Dm_window_40, e_Dm_window_41, e_Dm_window_44, e_Dm_window_45, e_Dm_window_46, e_Dm_window_49, e_Dm_window_50, e_Dm_window_51, e_Dm_window_52, e_Dm_window_53, bd_some, bd_none, Option.toList_some, Option.toList_none, List.nil_append, List.cons_append, px_kill_int, px_kill_long, px_kill_ref, px_kill_null, iI_lit, iJ_lit, iI_add, iI_sub, iI_mul, iI_neg, iJ_add, iJ_sub, iJ_mul, iJ_neg, iI_lt, iI_le, iI_eq, iJ_lt, iJ_le, iJ_eq, iI_div, iJ_div, tdiv_tmod, iI_J, iJ_I, iI_ix, iI_toInt, iJ_toInt, cmp_ge, cmp_lt, cmp_eq, cmp_gt, cmp_le, cmp_geI, cmp_ltI, cmp_eqI, cmp_gtI, cmp_leI, bI_0I, bI_1I, pin, if_true, g1, g2, one0, if_false, c0, hM.1, hsh, hb]
      by_cases c3 : 0 ≤ k ∧ k ≤ topN V wh
      · rw [bI_tI c3] at g3
        rw [if_pos ⟨c1, c2, c3⟩]
        obtain ⟨⟨cx, cy⟩, cw, ch⟩ := id c1
        obtain ⟨T2, e2, fr2, r2⟩ := m_counts hV hM (w := w.toNat) (h := ht.toNat) (by omega) (by omega) cx cy
        rw [show ((w.toNat : Nat) : Int) = w by omega, show ((ht.toNat : Nat) : Int) = ht by omega] at e2
        have e3 := lp_mwin (T := T2) (V := V) (iI x) (iI y) (iI w) (iI ht) (x := x) (y := y) (w := w.toNat) (h := ht.toNat) c2 hk r2 16 0 (by omega)
        rw [win_cnt hV] at e3
        refine ⟨T2, ?_, (t0_fr T).tr fr2⟩
        rw [pre 1 g3]
        simp (disch := first | omega | assumption | decide | (simp (disch := omega) only [iI_lit, iJ_lit, iJ_eq, iI_eq, bI_01, bI_01I] <;> omega)) only [e_Dm_window_56, e_Dm_window_59, e_Dm_window_60, e_Dm_window_61, e_Dm_window_62, e_Dm_window_63, e_Dm_window_64, e_Dm_window_65, e_Dm_window_67, e_Dm_window_70, e_Dm_window_71, e_Dm_window_73, e_Dm_window_74, bd_some, bd_none, Option.toList_some, Option.toList_none, List.nil_append, List.cons_append, px_kill_int, px_kill_long, px_kill_ref, px_kill_null, iI_lit, iJ_lit, iI_add, iI_sub, iI_mul, iI_neg, iJ_add, iJ_sub, iJ_mul, iJ_neg, iI_lt, iI_le, iI_eq, iJ_lt, iJ_le, iJ_eq, iI_div, iJ_div, tdiv_tmod, iI_J, iJ_I, iI_ix, iI_toInt, iJ_toInt, cmp_ge, cmp_lt, cmp_eq, cmp_gt, cmp_le, cmp_geI, cmp_ltI, cmp_eqI, cmp_gtI, cmp_leI, bI_0I, bI_1I, pin, if_true, one0, if_false, e2]
        exact e3
      · rw [bI_fI c3] at g3
        rw [if_neg (fun z => c3 z.2.2)]
        refine ⟨t0 T, ?_, t0_fr T⟩
        rw [pre 0 g3]
        simp (disch := first | omega | assumption | decide | (simp (disch := omega) only [iI_lit, iJ_lit, iJ_eq, iI_eq, bI_01, bI_01I] <;> omega)) only [e_Dm_window_56, e_Dm_window_59, e_Dm_window_60, e_Dm_window_61, e_Dm_window_62, e_Dm_window_63, e_Dm_window_64, e_Dm_window_65, e_Dm_window_67, e_Dm_window_70, e_Dm_window_71, e_Dm_window_73, e_Dm_window_74, bd_some, bd_none, Option.toList_some, Option.toList_none, List.nil_append, List.cons_append, px_kill_int, px_kill_long, px_kill_ref, px_kill_null, iI_lit, iJ_lit, iI_add, iI_sub, iI_mul, iI_neg, iJ_add, iJ_sub, iJ_mul, iJ_neg, iI_lt, iI_le, iI_eq, iJ_lt, iJ_le, iJ_eq, iI_div, iJ_div, tdiv_tmod, iI_J, iJ_I, iI_ix, iI_toInt, iJ_toInt, cmp_ge, cmp_lt, cmp_eq, cmp_gt, cmp_le, cmp_geI, cmp_ltI, cmp_eqI, cmp_gtI, cmp_leI, bI_0I, bI_1I, pin, if_true, one0, if_false]
    · rw [bI_fI c2] at g2
      rw [if_neg (fun z => c2 z.2.1)]
      refine ⟨t0 T, ?_, t0_fr T⟩
      simp (disch := first | omega | assumption | decide | (simp (disch := omega) only [iI_lit, iJ_lit, iJ_eq, iI_eq, bI_01, bI_01I] <;> omega)) only [c_Dm_window, e_Dm_window_0, e_Dm_window_1, e_Dm_window_2, e_Dm_window_5, e_Dm_window_6, e_Dm_window_7, e_Dm_window_8, e_Dm_window_10, e_Dm_window_13, e_Dm_window_16, e_Dm_window_18, e_Dm_window_19, e_Dm_window_20, e_Dm_window_21, e_Dm_window_24, e_Dm_window_27, e_Dm_window_29, e_Dm_window_30, e_Dm_window_31, e_Dm_window_33, e_Dm_window_36, e_Dm_window_37, e_Dm_window_40, e_Dm_window_41, e_Dm_window_44, e_Dm_window_45, e_Dm_window_46, e_Dm_window_49, e_Dm_window_50, e_Dm_window_51, e_Dm_window_52, e_Dm_window_53, e_Dm_window_56, e_Dm_window_59, e_Dm_window_60, e_Dm_window_61, e_Dm_window_62, e_Dm_window_63, e_Dm_window_64, e_Dm_window_65, e_Dm_window_67, e_Dm_window_70, e_Dm_window_71, e_Dm_window_73, e_Dm_window_74, bd_some, bd_none, Option.toList_some, Option.toList_none, List.nil_append, List.cons_append, px_kill_int, px_kill_long, px_kill_ref, px_kill_null, iI_lit, iJ_lit, iI_add, iI_sub, iI_mul, iI_neg, iJ_add, iJ_sub, iJ_mul, iJ_neg, iI_lt, iI_le, iI_eq, iJ_lt, iJ_le, iJ_eq, iI_div, iJ_div, tdiv_tmod, iI_J, iJ_I, iI_ix, iI_toInt, iJ_toInt, cmp_ge, cmp_lt, cmp_eq, cmp_gt, cmp_le, cmp_geI, cmp_ltI, cmp_eqI, cmp_gtI, cmp_leI, bI_0I, bI_1I, pin, if_true, g1, g2, one0, if_false]
  · rw [bI_fI c1] at g1
    rw [if_neg (fun z => c1 z.1)]
    refine ⟨t0 T, ?_, t0_fr T⟩
    simp (disch := first | omega | assumption | decide | (simp (disch := omega) only [iI_lit, iJ_lit, iJ_eq, iI_eq, bI_01, bI_01I] <;> omega)) only [c_Dm_window, e_Dm_window_0, e_Dm_window_1, e_Dm_window_2, e_Dm_window_5, e_Dm_window_6, e_Dm_window_7, e_Dm_window_8, e_Dm_window_10, e_Dm_window_13, e_Dm_window_16, e_Dm_window_18, e_Dm_window_19, e_Dm_window_20, e_Dm_window_21, e_Dm_window_24, e_Dm_window_27, e_Dm_window_29, e_Dm_window_30, e_Dm_window_31, e_Dm_window_33, e_Dm_window_36, e_Dm_window_37, e_Dm_window_40, e_Dm_window_41, e_Dm_window_44, e_Dm_window_45, e_Dm_window_46, e_Dm_window_49, e_Dm_window_50, e_Dm_window_51, e_Dm_window_52, e_Dm_window_53, e_Dm_window_56, e_Dm_window_59, e_Dm_window_60, e_Dm_window_61, e_Dm_window_62, e_Dm_window_63, e_Dm_window_64, e_Dm_window_65, e_Dm_window_67, e_Dm_window_70, e_Dm_window_71, e_Dm_window_73, e_Dm_window_74, bd_some, bd_none, Option.toList_some, Option.toList_none, List.nil_append, List.cons_append, px_kill_int, px_kill_long, px_kill_ref, px_kill_null, iI_lit, iJ_lit, iI_add, iI_sub, iI_mul, iI_neg, iJ_add, iJ_sub, iJ_mul, iJ_neg, iI_lt, iI_le, iI_eq, iJ_lt, iJ_le, iJ_eq, iI_div, iJ_div, tdiv_tmod, iI_J, iJ_I, iI_ix, iI_toInt, iJ_toInt, cmp_ge, cmp_lt, cmp_eq, cmp_gt, cmp_le, cmp_geI, cmp_ltI, cmp_eqI, cmp_gtI, cmp_leI, bI_0I, bI_1I, pin, if_true, g1]
