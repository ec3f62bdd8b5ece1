/-! home, spot, rank, ranked. -/
theorem cC.at {T : TS} {V : VW} (hV : okV V) (h : cC T V) {j : Nat} (hj : j < V.1) : j < 4 ∧ isPl (T.2.2.1 j) ∧ sh (T.2.2.1 j) = (104, 18) ∧ inkC T (T.2.2.1 j) (V.2 j) := by
  have := hV.1
  exact ⟨by omega, h.2.1 j (by omega), isPl_sh (h.2.1 j (by omega)), h.2.2.2 j hj⟩
theorem g_isAxis {k : Int} (hk : inI k) (g : px_G) : cl k_Ds_isAxis [.int (iI k)] g = some (some (.int (bI (0 ≤ k ∧ k ≤ 1))), g) := by
  have e0 : (iI k = 0) = (k = 0) := iI_eq (b := 0) hk.1 hk.2 (by omega) (by omega)
  have e1 : (iI k = 1) = (k = 1) := iI_eq (b := 1) hk.1 hk.2 (by omega) (by omega)
  rw [s_isAxis, bI_iff (q := 0 ≤ k ∧ k ≤ 1) (by rw [e0, e1]; omega)]
theorem m_home {T : TS} {w h s x y : Int} (hg : mGrd T w h s) (ho : okG w h s) (hx : -100000 ≤ x ∧ x ≤ 100000) (hy : -100000 ≤ y ∧ y ≤ 100000) : ∃ T', cl k_Dm_laysHome [.ref 53, .int (iI x), .int (iI y)] (enc T) = some (none, enc T') ∧ FrM T T' ∧ FrI aRnk T T' ∧ T'.1 53 18 = iI (hmX w h s x y) ∧ T'.1 53 19 = iI (y % h) := by
  refine ⟨_, s_laysHome T hg ho hx hy, ?_, ?_, ?_, ?_⟩
  · exact ((FrM.rf T).wr _ (by unfold aRef; omega)).wr _ (by unfold aRef; omega)
  · exact ((FrI.rf _ T).wr _ (by unfold aRnk; omega)).wr _ (by unfold aRnk; omega)
  · simp only [sI_get, sJ_get, sI_2, sJ_1, sJ_22, sR_1, sR_21, Nat.reduceEqDiff, and_true, true_and, and_false, false_and, and_self, if_true, if_false, reduceIte]
  · simp only [sI_get, sJ_get, sI_2, sJ_1, sJ_22, sR_1, sR_21, Nat.reduceEqDiff, and_true, true_and, and_false, false_and, and_self, if_true, if_false, reduceIte]
theorem plcN_bd {f : Nat → Int} (hf : okN f) (x y : Int) : 0 ≤ plcN f x y ∧ plcN f x y < celN f ∧ celN f ≤ 144 := by
  have hp := plc_bd4 (okG_brk hf.1) (x - f 6) (y - f 7)
  obtain ⟨f1, f2, f3, f4, f5, f6⟩ := brk_facts hf.1
  have := cel_bd hf.1
  rw [f5] at hp
  exact ⟨hp.2.2.1, hp.2.2.2, this.2⟩
def qHome (V : VW) (i x y k : Int) : Int := if isK V i ∧ isX x y ∧ 0 ≤ k ∧ k ≤ 1 then (if k = 0 then plcN (V.2 i.toNat) x y % bkW (brkN (V.2 i.toNat)) else plcN (V.2 i.toNat) x y / bkW (brkN (V.2 i.toNat))) else -1000000
set_option maxHeartbeats 1000000 in
theorem q_Ds_home {T : TS} {V : VW} (hV : okV V) (h : cC T V) {i x y k : Int} (hi : inI i) (hx : inI x) (hy : inI y) (hk : inI k) : cl k_Ds_home [.ref 0, .int (iI i), .int (iI x), .int (iI y), .int (iI k)] (enc T) = some (some (.int (iI (qHome V i x y k))), enc T) := by
  have g1 := g_isInk hV h hi
  have g2 := g_isPixel hx hy (enc T)
  have g3 := g_isAxis hk (enc T)
  obtain ⟨i1, i2⟩ := id hi
  obtain ⟨k1, k2⟩ := hk
  unfold qHome
  by_cases c1 : isK V i
  · rw [bI_tI c1] at g1
    by_cases c2 : isX x y
    · rw [bI_tI c2] at g2
      by_cases c3 : 0 ≤ k ∧ k ≤ 1
      · rw [bI_tI c3] at g3
        rw [if_pos ⟨c1, c2, c3⟩]
        obtain ⟨j, rfl⟩ : ∃ j : Nat, i = (j : Int) := ⟨i.toNat, by omega⟩
        obtain ⟨h4, hp, hs, hI⟩ := cC.at hV h (j := j) (by have := c1.2; omega)
        have ok := hV.2 j (by have := c1.2; omega)
        have hG := okG_brk ok.1
        have hb := plcN_bd ok x y
        obtain ⟨x1, x2, x3⟩ := id c2
        have e1 := s_placeOf T hs (x := x) (y := y) hI.1.2.2.2.1 hG (by omega) (by omega) hI.2.2.1 hI.2.2.2.1 ⟨ok.2.2.2.1, ok.2.2.2.2⟩
        have e2 := s_axis0 T hs (n := plcN (V.2 j) x y) hI.1.2.2.2.1 hG (by omega)
        have e3 := s_axis1 T hs (n := plcN (V.2 j) x y) hI.1.2.2.2.1 hG (by omega)
        have ej : ((j : Int)).toNat = j := by omega
        by_cases k0 : k = 0
        · subst k0
          simp (disch := first | omega | assumption | decide | (simp (disch := omega) only [iI_lit, iJ_lit, iJ_eq, iI_eq, bI_01, bI_01I] <;> omega)) only [c_Ds_home, e_Ds_home_0, e_Ds_home_1, e_Ds_home_2, e_Ds_home_5, e_Ds_home_8, e_Ds_home_9, e_Ds_home_10, e_Ds_home_13, e_Ds_home_16, e_Ds_home_18, e_Ds_home_21, e_Ds_home_24, e_Ds_home_26, e_Ds_home_27, e_Ds_home_28, e_Ds_home_31, e_Ds_home_32, e_Ds_home_33, e_Ds_home_35, e_Ds_home_37, e_Ds_home_39, e_Ds_home_40, e_Ds_home_41, e_Ds_home_44, e_Ds_home_46, e_Ds_home_49, bd_some, bd_none, Option.toList_some, Option.toList_none, List.nil_append, List.cons_append, px_kill_int, px_kill_long, px_kill_ref, px_kill_null, iI_lit, iJ_lit, iI_add, iI_sub, iI_mul, iI_neg, iJ_add, iJ_sub, iJ_mul, iJ_neg, iI_lt, iI_le, iI_eq, iJ_lt, iJ_le, iJ_eq, iI_div, iJ_div, tdiv_tmod, iI_J, iJ_I, iI_ix, iI_toInt, iJ_toInt, cmp_ge, cmp_lt, cmp_eq, cmp_gt, cmp_le, cmp_geI, cmp_ltI, cmp_eqI, cmp_gtI, cmp_leI, bI_0I, bI_1I, pin, if_true, g1, g2, g3, one0, if_false, sh_n5, ej, hs, e1, e2]
        · have k1 : k = 1 := by omega
          subst k1
          simp (disch := first | omega | assumption | decide | (simp (disch := omega) only [iI_lit, iJ_lit, iJ_eq, iI_eq, bI_01, bI_01I] <;> omega)) only [c_Ds_home, e_Ds_home_0, e_Ds_home_1, e_Ds_home_2, e_Ds_home_5, e_Ds_home_8, e_Ds_home_9, e_Ds_home_10, e_Ds_home_13, e_Ds_home_16, e_Ds_home_18, e_Ds_home_21, e_Ds_home_24, e_Ds_home_26, e_Ds_home_27, e_Ds_home_28, e_Ds_home_31, e_Ds_home_32, e_Ds_home_33, e_Ds_home_35, e_Ds_home_37, e_Ds_home_39, e_Ds_home_40, e_Ds_home_41, e_Ds_home_44, e_Ds_home_46, e_Ds_home_49, bd_some, bd_none, Option.toList_some, Option.toList_none, List.nil_append, List.cons_append, px_kill_int, px_kill_long, px_kill_ref, px_kill_null, iI_lit, iJ_lit, iI_add, iI_sub, iI_mul, iI_neg, iJ_add, iJ_sub, iJ_mul, iJ_neg, iI_lt, iI_le, iI_eq, iJ_lt, iJ_le, iJ_eq, iI_div, iJ_div, tdiv_tmod, iI_J, iJ_I, iI_ix, iI_toInt, iJ_toInt, cmp_ge, cmp_lt, cmp_eq, cmp_gt, cmp_le, cmp_geI, cmp_ltI, cmp_eqI, cmp_gtI, cmp_leI, bI_0I, bI_1I, pin, if_true, g1, g2, g3, one0, if_false, sh_n5, ej, hs, e1, e3]
      · rw [bI_fI c3] at g3
        rw [if_neg (fun z => c3 z.2.2)]
        simp (disch := first | omega | assumption | decide | (simp (disch := omega) only [iI_lit, iJ_lit, iJ_eq, iI_eq, bI_01, bI_01I] <;> omega)) only [c_Ds_home, e_Ds_home_0, e_Ds_home_1, e_Ds_home_2, e_Ds_home_5, e_Ds_home_8, e_Ds_home_9, e_Ds_home_10, e_Ds_home_13, e_Ds_home_16, e_Ds_home_18, e_Ds_home_21, e_Ds_home_24, e_Ds_home_26, e_Ds_home_27, e_Ds_home_28, e_Ds_home_31, e_Ds_home_32, e_Ds_home_33, e_Ds_home_35, e_Ds_home_37, e_Ds_home_39, e_Ds_home_40, e_Ds_home_41, e_Ds_home_44, e_Ds_home_46, e_Ds_home_49, bd_some, bd_none, Option.toList_some, Option.toList_none, List.nil_append, List.cons_append, px_kill_int, px_kill_long, px_kill_ref, px_kill_null, iI_lit, iJ_lit, iI_add, iI_sub, iI_mul, iI_neg, iJ_add, iJ_sub, iJ_mul, iJ_neg, iI_lt, iI_le, iI_eq, iJ_lt, iJ_le, iJ_eq, iI_div, iJ_div, tdiv_tmod, iI_J, iJ_I, iI_ix, iI_toInt, iJ_toInt, cmp_ge, cmp_lt, cmp_eq, cmp_gt, cmp_le, cmp_geI, cmp_ltI, cmp_eqI, cmp_gtI, cmp_leI, bI_0I, bI_1I, pin, if_true, g1, g2, g3, one0, if_false]
    · rw [bI_fI c2] at g2
      rw [if_neg (fun z => c2 z.2.1)]
      simp (disch := first | omega | assumption | decide | (simp (disch := omega) only [iI_lit, iJ_lit, iJ_eq, iI_eq, bI_01, bI_01I] <;> omega)) only [c_Ds_home, e_Ds_home_0, e_Ds_home_1, e_Ds_home_2, e_Ds_home_5, e_Ds_home_8, e_Ds_home_9, e_Ds_home_10, e_Ds_home_13, e_Ds_home_16, e_Ds_home_18, e_Ds_home_21, e_Ds_home_24, e_Ds_home_26, e_Ds_home_27, e_Ds_home_28, e_Ds_home_31, e_Ds_home_32, e_Ds_home_33, e_Ds_home_35, e_Ds_home_37, e_Ds_home_39, e_Ds_home_40, e_Ds_home_41, e_Ds_home_44, e_Ds_home_46, e_Ds_home_49, bd_some, bd_none, Option.toList_some, Option.toList_none, List.nil_append, List.cons_append, px_kill_int, px_kill_long, px_kill_ref, px_kill_null, iI_lit, iJ_lit, iI_add, iI_sub, iI_mul, iI_neg, iJ_add, iJ_sub, iJ_mul, iJ_neg, iI_lt, iI_le, iI_eq, iJ_lt, iJ_le, iJ_eq, iI_div, iJ_div, tdiv_tmod, iI_J, iJ_I, iI_ix, iI_toInt, iJ_toInt, cmp_ge, cmp_lt, cmp_eq, cmp_gt, cmp_le, cmp_geI, cmp_ltI, cmp_eqI, cmp_gtI, cmp_leI, bI_0I, bI_1I, pin, if_true, g1, g2, one0, if_false]
  · rw [bI_fI c1] at g1
    rw [if_neg (fun z => c1 z.1)]
    simp (disch := first | omega | assumption | decide | (simp (disch := omega) only [iI_lit, iJ_lit, iJ_eq, iI_eq, bI_01, bI_01I] <;> omega)) only [c_Ds_home, e_Ds_home_0, e_Ds_home_1, e_Ds_home_2, e_Ds_home_5, e_Ds_home_8, e_Ds_home_9, e_Ds_home_10, e_Ds_home_13, e_Ds_home_16, e_Ds_home_18, e_Ds_home_21, e_Ds_home_24, e_Ds_home_26, e_Ds_home_27, e_Ds_home_28, e_Ds_home_31, e_Ds_home_32, e_Ds_home_33, e_Ds_home_35, e_Ds_home_37, e_Ds_home_39, e_Ds_home_40, e_Ds_home_41, e_Ds_home_44, e_Ds_home_46, e_Ds_home_49, bd_some, bd_none, Option.toList_some, Option.toList_none, List.nil_append, List.cons_append, px_kill_int, px_kill_long, px_kill_ref, px_kill_null, iI_lit, iJ_lit, iI_add, iI_sub, iI_mul, iI_neg, iJ_add, iJ_sub, iJ_mul, iJ_neg, iI_lt, iI_le, iI_eq, iJ_lt, iJ_le, iJ_eq, iI_div, iJ_div, tdiv_tmod, iI_J, iJ_I, iI_ix, iI_toInt, iJ_toInt, cmp_ge, cmp_lt, cmp_eq, cmp_gt, cmp_le, cmp_geI, cmp_ltI, cmp_eqI, cmp_gtI, cmp_leI, bI_0I, bI_1I, pin, if_true, g1]
theorem plc_ax {w h s : Int} (hG : okG w h s) (x y : Int) : plc w h s x y % w = hmX w h s x y ∧ plc w h s x y / w = y % h := by
  have hp := plc_bd4 hG x y
  exact num_home (y := y % h) hp.1
set_option maxHeartbeats 1000000 in
theorem q_Dm_home {T : TS} {V : VW} (hV : okV V) (h : cM T V) {i x y k : Int} (hi : inI i) (hx : inI x) (hy : inI y) (hk : inI k) : ∃ T', cl k_Dm_home [.ref 53, .int (iI i), .int (iI x), .int (iI y), .int (iI k)] (enc T) = some (some (.int (iI (qHome V i x y k))), enc T') ∧ FrM T T' := by
  have hM : cM (t0 T) V := h.fr (t0_fr T)
  have g1 := g_inM hV hM hi
  have g2 := g_pxM hx hy (enc (t0 T))
  obtain ⟨i1, i2⟩ := id hi
  obtain ⟨k1, k2⟩ := hk
  have g3 := s_in (x := k) (l := 0) (h := 1) (enc (t0 T)) (by omega) (by omega) (by omega)
  unfold qHome
  by_cases c1 : isK V i
  · rw [bI_tI c1] at g1
    by_cases c2 : isX x y
    · rw [bI_tI c2] at g2
      by_cases c3 : 0 ≤ k ∧ k ≤ 1
      · rw [bI_tI c3] at g3
        rw [if_pos ⟨c1, c2, c3⟩]
        obtain ⟨j, rfl⟩ : ∃ j : Nat, i = (j : Int) := ⟨i.toNat, by omega⟩
        have hj : j < V.1 := by have := c1.2; omega
        have ok := hV.2 j hj
        have hG := okG_brk ok.1
        have hink := hM.ink hV hj
        obtain ⟨x1, x2, x3⟩ := id c2
        have hb : cl k_Dm_laysBrick [.ref 53, .int (iI (j : Int))] (enc (t0 T)) = some (none, enc (tBrk (t0 T) (V.2 j 0) (V.2 j 1) (V.2 j 2) (V.2 j 3))) := s_laysBrick (t0 T) hink.1 hink.2.2.1 hink.2.1
        have hg := tBrk_g (t0 T) (V.2 j 0) (V.2 j 1) (V.2 j 2) (V.2 j 3)
        have h6 := hM.2 j hj 6 (by omega)
        have h7 := hM.2 j hj 7 (by omega)
        obtain ⟨T2, hT2⟩ : ∃ T2, T2 = tBrk (t0 T) (V.2 j 0) (V.2 j 1) (V.2 j 2) (V.2 j 3) := ⟨_, rfl⟩
        have h6' : T2.1 56 (8 * j + 6) = iI (V.2 j 6) := by rw [hT2]; exact h6
        have h7' : T2.1 56 (8 * j + 7) = iI (V.2 j 7) := by rw [hT2]; exact h7
        have fr2 : FrM T T2 := by rw [hT2]; exact (t0_fr T).tr (tBrk_fr _ _ _ _ _)
        rw [← hT2] at hb hg
        have o6 := s_of6 T2 hink.1
        have o7 := s_of7 T2 hink.1
        have okk := ok.2.2.2
        obtain ⟨T3, hl, fr3, fr3', h18, h19⟩ := m_home hg hG (x := x - V.2 j 6) (y := y - V.2 j 7) (by omega) (by omega)
        have hax := plc_ax hG (x - V.2 j 6) (y - V.2 j 7)
        refine ⟨T3, ?_, fr2.tr fr3⟩
        have ej : ((j : Int)).toNat = j := by omega
        rw [ej, hax.1, hax.2]
        by_cases k0 : k = 0
        · subst k0
          simp (disch := first | omega | assumption | decide | (simp (disch := omega) only [iI_lit, iJ_lit, iJ_eq, iI_eq, bI_01, bI_01I] <;> omega)) only [c_Dm_home, e_Dm_home_0, e_Dm_home_1, e_Dm_home_2, e_Dm_home_5, e_Dm_home_6, e_Dm_home_7, e_Dm_home_10, e_Dm_home_13, e_Dm_home_14, e_Dm_home_15, e_Dm_home_18, e_Dm_home_21, e_Dm_home_23, e_Dm_home_24, e_Dm_home_25, e_Dm_home_26, e_Dm_home_29, e_Dm_home_32, e_Dm_home_35, e_Dm_home_36, e_Dm_home_37, e_Dm_home_38, e_Dm_home_41, e_Dm_home_42, e_Dm_home_43, e_Dm_home_44, e_Dm_home_45, e_Dm_home_47, e_Dm_home_50, e_Dm_home_51, e_Dm_home_52, e_Dm_home_53, e_Dm_home_54, e_Dm_home_56, e_Dm_home_59, e_Dm_home_60, e_Dm_home_63, e_Dm_home_65, e_Dm_home_68, e_Dm_home_69, e_Dm_home_72, e_Dm_home_75, e_Dm_home_76, e_Dm_home_79, bd_some, bd_none, Option.toList_some, Option.toList_none, List.nil_append, List.cons_append, px_kill_int, px_kill_long, px_kill_ref, px_kill_null, iI_lit, iJ_lit, iI_add, iI_sub, iI_mul, iI_neg, iJ_add, iJ_sub, iJ_mul, iJ_neg, iI_lt, iI_le, iI_eq, iJ_lt, iJ_le, iJ_eq, iI_div, iJ_div, tdiv_tmod, iI_J, iJ_I, iI_ix, iI_toInt, iJ_toInt, cmp_ge, cmp_lt, cmp_eq, cmp_gt, cmp_le, cmp_geI, cmp_ltI, cmp_eqI, cmp_gtI, cmp_leI, bI_0I, bI_1I, pin, if_true, g1, g2, g3, one0, if_false, hb, o6, o7, h6', h7', hl, h18, h19]
        · have k1 : k = 1 := by omega
          subst k1
          simp (disch := first | omega | assumption | decide | (simp (disch := omega) only [iI_lit, iJ_lit, iJ_eq, iI_eq, bI_01, bI_01I] <;> omega)) only [c_Dm_home, e_Dm_home_0, e_Dm_home_1, e_Dm_home_2, e_Dm_home_5, e_Dm_home_6, e_Dm_home_7, e_Dm_home_10, e_Dm_home_13, e_Dm_home_14, e_Dm_home_15, e_Dm_home_18, e_Dm_home_21, e_Dm_home_23, e_Dm_home_24, e_Dm_home_25, e_Dm_home_26, e_Dm_home_29, e_Dm_home_32, e_Dm_home_35, e_Dm_home_36, e_Dm_home_37, e_Dm_home_38, e_Dm_home_41, e_Dm_home_42, e_Dm_home_43, e_Dm_home_44, e_Dm_home_45, e_Dm_home_47, e_Dm_home_50, e_Dm_home_51, e_Dm_home_52, e_Dm_home_53, e_Dm_home_54, e_Dm_home_56, e_Dm_home_59, e_Dm_home_60, e_Dm_home_63, e_Dm_home_65, e_Dm_home_68, e_Dm_home_69, e_Dm_home_72, e_Dm_home_75, e_Dm_home_76, e_Dm_home_79, bd_some, bd_none, Option.toList_some, Option.toList_none, List.nil_append, List.cons_append, px_kill_int, px_kill_long, px_kill_ref, px_kill_null, iI_lit, iJ_lit, iI_add, iI_sub, iI_mul, iI_neg, iJ_add, iJ_sub, iJ_mul, iJ_neg, iI_lt, iI_le, iI_eq, iJ_lt, iJ_le, iJ_eq, iI_div, iJ_div, tdiv_tmod, iI_J, iJ_I, iI_ix, iI_toInt, iJ_toInt, cmp_ge, cmp_lt, cmp_eq, cmp_gt, cmp_le, cmp_geI, cmp_ltI, cmp_eqI, cmp_gtI, cmp_leI, bI_0I, bI_1I, pin, if_true, g1, g2, g3, one0, if_false, hb, o6, o7, h6', h7', hl, h18, h19]
      · rw [bI_fI c3] at g3
        rw [if_neg (fun z => c3 z.2.2)]
        refine ⟨t0 T, ?_, t0_fr T⟩
        simp (disch := first | omega | assumption | decide | (simp (disch := omega) only [iI_lit, iJ_lit, iJ_eq, iI_eq, bI_01, bI_01I] <;> omega)) only [c_Dm_home, e_Dm_home_0, e_Dm_home_1, e_Dm_home_2, e_Dm_home_5, e_Dm_home_6, e_Dm_home_7, e_Dm_home_10, e_Dm_home_13, e_Dm_home_14, e_Dm_home_15, e_Dm_home_18, e_Dm_home_21, e_Dm_home_23, e_Dm_home_24, e_Dm_home_25, e_Dm_home_26, e_Dm_home_29, e_Dm_home_32, e_Dm_home_35, e_Dm_home_36, e_Dm_home_37, e_Dm_home_38, e_Dm_home_41, e_Dm_home_42, e_Dm_home_43, e_Dm_home_44, e_Dm_home_45, e_Dm_home_47, e_Dm_home_50, e_Dm_home_51, e_Dm_home_52, e_Dm_home_53, e_Dm_home_54, e_Dm_home_56, e_Dm_home_59, e_Dm_home_60, e_Dm_home_63, e_Dm_home_65, e_Dm_home_68, e_Dm_home_69, e_Dm_home_72, e_Dm_home_75, e_Dm_home_76, e_Dm_home_79, bd_some, bd_none, Option.toList_some, Option.toList_none, List.nil_append, List.cons_append, px_kill_int, px_kill_long, px_kill_ref, px_kill_null, iI_lit, iJ_lit, iI_add, iI_sub, iI_mul, iI_neg, iJ_add, iJ_sub, iJ_mul, iJ_neg, iI_lt, iI_le, iI_eq, iJ_lt, iJ_le, iJ_eq, iI_div, iJ_div, tdiv_tmod, iI_J, iJ_I, iI_ix, iI_toInt, iJ_toInt, cmp_ge, cmp_lt, cmp_eq, cmp_gt, cmp_le, cmp_geI, cmp_ltI, cmp_eqI, cmp_gtI, cmp_leI, bI_0I, bI_1I, pin, if_true, g1, g2, g3, one0, if_false]
    · rw [bI_fI c2] at g2
      rw [if_neg (fun z => c2 z.2.1)]
      refine ⟨t0 T, ?_, t0_fr T⟩
      simp (disch := first | omega | assumption | decide | (simp (disch := omega) only [iI_lit, iJ_lit, iJ_eq, iI_eq, bI_01, bI_01I] <;> omega)) only [c_Dm_home, e_Dm_home_0, e_Dm_home_1, e_Dm_home_2, e_Dm_home_5, e_Dm_home_6, e_Dm_home_7, e_Dm_home_10, e_Dm_home_13, e_Dm_home_14, e_Dm_home_15, e_Dm_home_18, e_Dm_home_21, e_Dm_home_23, e_Dm_home_24, e_Dm_home_25, e_Dm_home_26, e_Dm_home_29, e_Dm_home_32, e_Dm_home_35, e_Dm_home_36, e_Dm_home_37, e_Dm_home_38, e_Dm_home_41, e_Dm_home_42, e_Dm_home_43, e_Dm_home_44, e_Dm_home_45, e_Dm_home_47, e_Dm_home_50, e_Dm_home_51, e_Dm_home_52, e_Dm_home_53, e_Dm_home_54, e_Dm_home_56, e_Dm_home_59, e_Dm_home_60, e_Dm_home_63, e_Dm_home_65, e_Dm_home_68, e_Dm_home_69, e_Dm_home_72, e_Dm_home_75, e_Dm_home_76, e_Dm_home_79, bd_some, bd_none, Option.toList_some, Option.toList_none, List.nil_append, List.cons_append, px_kill_int, px_kill_long, px_kill_ref, px_kill_null, iI_lit, iJ_lit, iI_add, iI_sub, iI_mul, iI_neg, iJ_add, iJ_sub, iJ_mul, iJ_neg, iI_lt, iI_le, iI_eq, iJ_lt, iJ_le, iJ_eq, iI_div, iJ_div, tdiv_tmod, iI_J, iJ_I, iI_ix, iI_toInt, iJ_toInt, cmp_ge, cmp_lt, cmp_eq, cmp_gt, cmp_le, cmp_geI, cmp_ltI, cmp_eqI, cmp_gtI, cmp_leI, bI_0I, bI_1I, pin, if_true, g1, g2, one0, if_false]
  · rw [bI_fI c1] at g1
    rw [if_neg (fun z => c1 z.1)]
    refine ⟨t0 T, ?_, t0_fr T⟩
    simp (disch := first | omega | assumption | decide | (simp (disch := omega) only [iI_lit, iJ_lit, iJ_eq, iI_eq, bI_01, bI_01I] <;> omega)) only [c_Dm_home, e_Dm_home_0, e_Dm_home_1, e_Dm_home_2, e_Dm_home_5, e_Dm_home_6, e_Dm_home_7, e_Dm_home_10, e_Dm_home_13, e_Dm_home_14, e_Dm_home_15, e_Dm_home_18, e_Dm_home_21, e_Dm_home_23, e_Dm_home_24, e_Dm_home_25, e_Dm_home_26, e_Dm_home_29, e_Dm_home_32, e_Dm_home_35, e_Dm_home_36, e_Dm_home_37, e_Dm_home_38, e_Dm_home_41, e_Dm_home_42, e_Dm_home_43, e_Dm_home_44, e_Dm_home_45, e_Dm_home_47, e_Dm_home_50, e_Dm_home_51, e_Dm_home_52, e_Dm_home_53, e_Dm_home_54, e_Dm_home_56, e_Dm_home_59, e_Dm_home_60, e_Dm_home_63, e_Dm_home_65, e_Dm_home_68, e_Dm_home_69, e_Dm_home_72, e_Dm_home_75, e_Dm_home_76, e_Dm_home_79, bd_some, bd_none, Option.toList_some, Option.toList_none, List.nil_append, List.cons_append, px_kill_int, px_kill_long, px_kill_ref, px_kill_null, iI_lit, iJ_lit, iI_add, iI_sub, iI_mul, iI_neg, iJ_add, iJ_sub, iJ_mul, iJ_neg, iI_lt, iI_le, iI_eq, iJ_lt, iJ_le, iJ_eq, iI_div, iJ_div, tdiv_tmod, iI_J, iJ_I, iI_ix, iI_toInt, iJ_toInt, cmp_ge, cmp_lt, cmp_eq, cmp_gt, cmp_le, cmp_geI, cmp_ltI, cmp_eqI, cmp_gtI, cmp_leI, bI_0I, bI_1I, pin, if_true, g1]
