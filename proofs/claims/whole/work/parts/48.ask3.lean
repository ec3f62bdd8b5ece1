/-! spot, rank, ranked. -/
theorem pl_s3 {p : Nat} (h : isPl p) : sh (p + 3) = (0, 144) ∧ sh (p + 4) = (0, 144) ∧ sh (p + 5) = (0, 144) ∧ sh (p + 6) = (0, 145) ∧ sh (p + 1) = (107, 4) ∧ sh (p + 2) = (102, 3) := by
  rcases h with h | h | h | h <;> subst h <;> exact ⟨rfl, rfl, rfl, rfl, rfl, rfl⟩
theorem g_at {T : TS} {p N : Nat} {n : Int} (hp : sh p = (0, N)) (hn : 0 ≤ n ∧ n < N) (hN : N ≤ 1000) : cl k_Ds_at [.ref p, .int (iI n)] (enc T) = some (some (.int (T.1 p n.toNat)), enc T) := by
  rw [s_at p _ T (by rw [hp])]
  rw [hp]
  simp (disch := first | omega | assumption | decide | (simp (disch := omega) only [iI_lit, iJ_lit, iJ_eq, iI_eq, bI_01, bI_01I] <;> omega)) only [iI_lit, iJ_lit, iI_add, iI_sub, iI_mul, iI_neg, iJ_add, iJ_sub, iJ_mul, iJ_neg, iI_lt, iI_le, iI_eq, iJ_lt, iJ_le, iJ_eq, iI_div, iJ_div, tdiv_tmod, iI_J, iJ_I, iI_ix, iI_toInt, iJ_toInt, cmp_ge, cmp_lt, cmp_eq, cmp_gt, cmp_le, cmp_geI, cmp_ltI, cmp_eqI, cmp_gtI, cmp_leI, bI_0I, bI_1I, pin, if_true]
noncomputable def rkN (f : Nat → Int) (x y : Int) : Nat := Classical.epsilon (fun r : Nat => (r : Int) < celN f ∧ ((ordN f r : Nat) : Int) = plcN f x y)
theorem rkN_sp {f : Nat → Int} (hf : okN f) (x y : Int) : (rkN f x y : Int) < celN f ∧ ((ordN f (rkN f x y) : Nat) : Int) = plcN f x y := Classical.epsilon_spec (rk_ex (f 4) hf.1 (x - f 6) (y - f 7))
abbrev fSpN (f : Nat → Int) (n : Nat) : Int := fSp (f 0) (f 1) (f 2) (f 3) (f 4) n
def qSpot (V : VW) (i x y : Int) : Int := if isK V i ∧ isX x y then fSpN (V.2 i.toNat) (plcN (V.2 i.toNat) x y).toNat else -1
noncomputable def qRank (V : VW) (i x y : Int) : Int := if isK V i ∧ isX x y then (rkN (V.2 i.toNat) x y : Int) else -1
def qRanked (V : VW) (i r k : Int) : Int := if isK V i ∧ (0 ≤ r ∧ r < celN (V.2 i.toNat)) ∧ 0 ≤ k ∧ k ≤ 1 then (if k = 0 then (ordN (V.2 i.toNat) r.toNat : Int) % bkW (brkN (V.2 i.toNat)) else (ordN (V.2 i.toNat) r.toNat : Int) / bkW (brkN (V.2 i.toNat))) else -1000000
set_option maxHeartbeats 1000000 in
theorem q_Ds_spot {T : TS} {V : VW} (hV : okV V) (h : cC T V) {i x y : Int} (hi : inI i) (hx : inI x) (hy : inI y) : ∃ T', cl k_Ds_spot [.ref 0, .int (iI i), .int (iI x), .int (iI y)] (enc T) = some (some (.int (iI (qSpot V i x y))), enc T') ∧ FrI aAsk T T' ∧ cC T' V := by
  have g1 := g_isInk hV h hi
  have g2 := g_isPixel hx hy (enc T)
  obtain ⟨i1, i2⟩ := id hi
  unfold qSpot
  by_cases c1 : isK V i
  · rw [bI_tI c1] at g1
    by_cases c2 : isX x y
    · rw [bI_tI c2] at g2
      rw [if_pos ⟨c1, c2⟩]
      obtain ⟨j, rfl⟩ : ∃ j : Nat, i = (j : Int) := ⟨i.toNat, by omega⟩
      have hj : j < V.1 := by have := c1.2; omega
      obtain ⟨T', e, fr, hC, hS, hR⟩ := c_sort hV h hj
      have hpr : T'.2.2.1 j = T.2.2.1 j := by rw [hR]
      obtain ⟨h4, hp, hs, hI⟩ := cC.at hV hC hj
      rw [hpr] at hp hs hI
      have ok := hV.2 j hj
      have hG := okG_brk ok.1
      have hb := plcN_bd ok x y
      obtain ⟨x1, x2, x3⟩ := id c2
      have e1 := s_placeOf T' hs (x := x) (y := y) hI.1.2.2.2.1 hG (by omega) (by omega) hI.2.2.1 hI.2.2.2.1 ⟨ok.2.2.2.1, ok.2.2.2.2⟩
      have e2 := g_at (T := T') (n := plcN (V.2 j) x y) (pl_s3 hp).1 (by omega) (by omega)
      have e3 := hS.1 (plcN (V.2 j) x y).toNat (show (((plcN (V.2 j) x y).toNat : Nat) : Int) < celN (V.2 j) by omega)
      rw [e3] at e2
      have ej : ((j : Int)).toNat = j := by omega
      refine ⟨T', ?_, fr, hC⟩
      simp (disch := first | omega | assumption | decide | (simp (disch := omega) only [iI_lit, iJ_lit, iJ_eq, iI_eq, bI_01, bI_01I] <;> omega)) only [c_Ds_spot, e_Ds_spot_0, e_Ds_spot_1, e_Ds_spot_2, e_Ds_spot_5, e_Ds_spot_8, e_Ds_spot_9, e_Ds_spot_10, e_Ds_spot_13, e_Ds_spot_16, e_Ds_spot_17, e_Ds_spot_18, e_Ds_spot_19, e_Ds_spot_22, e_Ds_spot_23, e_Ds_spot_24, e_Ds_spot_26, e_Ds_spot_28, e_Ds_spot_31, e_Ds_spot_33, e_Ds_spot_36, e_Ds_spot_38, e_Ds_spot_39, e_Ds_spot_40, e_Ds_spot_43, e_Ds_spot_46, bd_some, bd_none, Option.toList_some, Option.toList_none, List.nil_append, List.cons_append, px_kill_int, px_kill_long, px_kill_ref, px_kill_null, iI_lit, iJ_lit, iI_add, iI_sub, iI_mul, iI_neg, iJ_add, iJ_sub, iJ_mul, iJ_neg, iI_lt, iI_le, iI_eq, iJ_lt, iJ_le, iJ_eq, iI_div, iJ_div, tdiv_tmod, iI_J, iJ_I, iI_ix, iI_toInt, iJ_toInt, cmp_ge, cmp_lt, cmp_eq, cmp_gt, cmp_le, cmp_geI, cmp_ltI, cmp_eqI, cmp_gtI, cmp_leI, bI_0I, bI_1I, pin, if_true, g1, g2, one0, if_false, sh_n5, ej, hs, e, e1, e2]
    · rw [bI_fI c2] at g2
      rw [if_neg (fun z => c2 z.2)]
      refine ⟨T, ?_, FrI.rf _ _, h⟩
      simp (disch := first | omega | assumption | decide | (simp (disch := omega) only [iI_lit, iJ_lit, iJ_eq, iI_eq, bI_01, bI_01I] <;> omega)) only [c_Ds_spot, e_Ds_spot_0, e_Ds_spot_1, e_Ds_spot_2, e_Ds_spot_5, e_Ds_spot_8, e_Ds_spot_9, e_Ds_spot_10, e_Ds_spot_13, e_Ds_spot_16, e_Ds_spot_17, e_Ds_spot_18, e_Ds_spot_19, e_Ds_spot_22, e_Ds_spot_23, e_Ds_spot_24, e_Ds_spot_26, e_Ds_spot_28, e_Ds_spot_31, e_Ds_spot_33, e_Ds_spot_36, e_Ds_spot_38, e_Ds_spot_39, e_Ds_spot_40, e_Ds_spot_43, e_Ds_spot_46, bd_some, bd_none, Option.toList_some, Option.toList_none, List.nil_append, List.cons_append, px_kill_int, px_kill_long, px_kill_ref, px_kill_null, iI_lit, iJ_lit, iI_add, iI_sub, iI_mul, iI_neg, iJ_add, iJ_sub, iJ_mul, iJ_neg, iI_lt, iI_le, iI_eq, iJ_lt, iJ_le, iJ_eq, iI_div, iJ_div, tdiv_tmod, iI_J, iJ_I, iI_ix, iI_toInt, iJ_toInt, cmp_ge, cmp_lt, cmp_eq, cmp_gt, cmp_le, cmp_geI, cmp_ltI, cmp_eqI, cmp_gtI, cmp_leI, bI_0I, bI_1I, pin, if_true, g1, g2, one0, if_false]
  · rw [bI_fI c1] at g1
    rw [if_neg (fun z => c1 z.1)]
    refine ⟨T, ?_, FrI.rf _ _, h⟩
    simp (disch := first | omega | assumption | decide | (simp (disch := omega) only [iI_lit, iJ_lit, iJ_eq, iI_eq, bI_01, bI_01I] <;> omega)) only [c_Ds_spot, e_Ds_spot_0, e_Ds_spot_1, e_Ds_spot_2, e_Ds_spot_5, e_Ds_spot_8, e_Ds_spot_9, e_Ds_spot_10, e_Ds_spot_13, e_Ds_spot_16, e_Ds_spot_17, e_Ds_spot_18, e_Ds_spot_19, e_Ds_spot_22, e_Ds_spot_23, e_Ds_spot_24, e_Ds_spot_26, e_Ds_spot_28, e_Ds_spot_31, e_Ds_spot_33, e_Ds_spot_36, e_Ds_spot_38, e_Ds_spot_39, e_Ds_spot_40, e_Ds_spot_43, e_Ds_spot_46, bd_some, bd_none, Option.toList_some, Option.toList_none, List.nil_append, List.cons_append, px_kill_int, px_kill_long, px_kill_ref, px_kill_null, iI_lit, iJ_lit, iI_add, iI_sub, iI_mul, iI_neg, iJ_add, iJ_sub, iJ_mul, iJ_neg, iI_lt, iI_le, iI_eq, iJ_lt, iJ_le, iJ_eq, iI_div, iJ_div, tdiv_tmod, iI_J, iJ_I, iI_ix, iI_toInt, iJ_toInt, cmp_ge, cmp_lt, cmp_eq, cmp_gt, cmp_le, cmp_geI, cmp_ltI, cmp_eqI, cmp_gtI, cmp_leI, bI_0I, bI_1I, pin, if_true, g1]
set_option maxHeartbeats 1000000 in
theorem q_Ds_rank {T : TS} {V : VW} (hV : okV V) (h : cC T V) {i x y : Int} (hi : inI i) (hx : inI x) (hy : inI y) : ∃ T', cl k_Ds_rank [.ref 0, .int (iI i), .int (iI x), .int (iI y)] (enc T) = some (some (.int (iI (qRank V i x y))), enc T') ∧ FrI aAsk T T' ∧ cC T' V := by
  have g1 := g_isInk hV h hi
  have g2 := g_isPixel hx hy (enc T)
  obtain ⟨i1, i2⟩ := id hi
  unfold qRank
  by_cases c1 : isK V i
  · rw [bI_tI c1] at g1
    by_cases c2 : isX x y
    · rw [bI_tI c2] at g2
      rw [if_pos ⟨c1, c2⟩]
      obtain ⟨j, rfl⟩ : ∃ j : Nat, i = (j : Int) := ⟨i.toNat, by omega⟩
      have hj : j < V.1 := by have := c1.2; omega
      obtain ⟨T', e, fr, hC, hS, hR⟩ := c_sort hV h hj
      have hpr : T'.2.2.1 j = T.2.2.1 j := by rw [hR]
      obtain ⟨h4, hp, hs, hI⟩ := cC.at hV hC hj
      rw [hpr] at hp hs hI
      have ok := hV.2 j hj
      have hG := okG_brk ok.1
      have hb := plcN_bd ok x y
      have hrk := rkN_sp ok x y
      obtain ⟨x1, x2, x3⟩ := id c2
      have e1 := s_placeOf T' hs (x := x) (y := y) hI.1.2.2.2.1 hG (by omega) (by omega) hI.2.2.1 hI.2.2.2.1 ⟨ok.2.2.2.1, ok.2.2.2.2⟩
      have e2 := g_at (T := T') (n := plcN (V.2 j) x y) (pl_s3 hp).2.1 (by omega) (by omega)
      have e3 := hS.2.2.1 (rkN (V.2 j) x y) hrk.1
      rw [← hrk.2, show (((ordN (V.2 j) (rkN (V.2 j) x y) : Nat) : Int)).toNat = ordN (V.2 j) (rkN (V.2 j) x y) by omega, e3, hrk.2] at e2
      have ej : ((j : Int)).toNat = j := by omega
      refine ⟨T', ?_, fr, hC⟩
      simp (disch := first | omega | assumption | decide | (simp (disch := omega) only [iI_lit, iJ_lit, iJ_eq, iI_eq, bI_01, bI_01I] <;> omega)) only [c_Ds_rank, e_Ds_rank_0, e_Ds_rank_1, e_Ds_rank_2, e_Ds_rank_5, e_Ds_rank_8, e_Ds_rank_9, e_Ds_rank_10, e_Ds_rank_13, e_Ds_rank_16, e_Ds_rank_17, e_Ds_rank_18, e_Ds_rank_19, e_Ds_rank_22, e_Ds_rank_23, e_Ds_rank_24, e_Ds_rank_26, e_Ds_rank_28, e_Ds_rank_31, e_Ds_rank_33, e_Ds_rank_36, e_Ds_rank_38, e_Ds_rank_39, e_Ds_rank_40, e_Ds_rank_43, e_Ds_rank_46, bd_some, bd_none, Option.toList_some, Option.toList_none, List.nil_append, List.cons_append, px_kill_int, px_kill_long, px_kill_ref, px_kill_null, iI_lit, iJ_lit, iI_add, iI_sub, iI_mul, iI_neg, iJ_add, iJ_sub, iJ_mul, iJ_neg, iI_lt, iI_le, iI_eq, iJ_lt, iJ_le, iJ_eq, iI_div, iJ_div, tdiv_tmod, iI_J, iJ_I, iI_ix, iI_toInt, iJ_toInt, cmp_ge, cmp_lt, cmp_eq, cmp_gt, cmp_le, cmp_geI, cmp_ltI, cmp_eqI, cmp_gtI, cmp_leI, bI_0I, bI_1I, pin, if_true, g1, g2, one0, if_false, sh_n5, ej, hs, e, e1, e2]
    · rw [bI_fI c2] at g2
      rw [if_neg (fun z => c2 z.2)]
      refine ⟨T, ?_, FrI.rf _ _, h⟩
      simp (disch := first | omega | assumption | decide | (simp (disch := omega) only [iI_lit, iJ_lit, iJ_eq, iI_eq, bI_01, bI_01I] <;> omega)) only [c_Ds_rank, e_Ds_rank_0, e_Ds_rank_1, e_Ds_rank_2, e_Ds_rank_5, e_Ds_rank_8, e_Ds_rank_9, e_Ds_rank_10, e_Ds_rank_13, e_Ds_rank_16, e_Ds_rank_17, e_Ds_rank_18, e_Ds_rank_19, e_Ds_rank_22, e_Ds_rank_23, e_Ds_rank_24, e_Ds_rank_26, e_Ds_rank_28, e_Ds_rank_31, e_Ds_rank_33, e_Ds_rank_36, e_Ds_rank_38, e_Ds_rank_39, e_Ds_rank_40, e_Ds_rank_43, e_Ds_rank_46, bd_some, bd_none, Option.toList_some, Option.toList_none, List.nil_append, List.cons_append, px_kill_int, px_kill_long, px_kill_ref, px_kill_null, iI_lit, iJ_lit, iI_add, iI_sub, iI_mul, iI_neg, iJ_add, iJ_sub, iJ_mul, iJ_neg, iI_lt, iI_le, iI_eq, iJ_lt, iJ_le, iJ_eq, iI_div, iJ_div, tdiv_tmod, iI_J, iJ_I, iI_ix, iI_toInt, iJ_toInt, cmp_ge, cmp_lt, cmp_eq, cmp_gt, cmp_le, cmp_geI, cmp_ltI, cmp_eqI, cmp_gtI, cmp_leI, bI_0I, bI_1I, pin, if_true, g1, g2, one0, if_false]
  · rw [bI_fI c1] at g1
    rw [if_neg (fun z => c1 z.1)]
    refine ⟨T, ?_, FrI.rf _ _, h⟩
    simp (disch := first | omega | assumption | decide | (simp (disch := omega) only [iI_lit, iJ_lit, iJ_eq, iI_eq, bI_01, bI_01I] <;> omega)) only [c_Ds_rank, e_Ds_rank_0, e_Ds_rank_1, e_Ds_rank_2, e_Ds_rank_5, e_Ds_rank_8, e_Ds_rank_9, e_Ds_rank_10, e_Ds_rank_13, e_Ds_rank_16, e_Ds_rank_17, e_Ds_rank_18, e_Ds_rank_19, e_Ds_rank_22, e_Ds_rank_23, e_Ds_rank_24, e_Ds_rank_26, e_Ds_rank_28, e_Ds_rank_31, e_Ds_rank_33, e_Ds_rank_36, e_Ds_rank_38, e_Ds_rank_39, e_Ds_rank_40, e_Ds_rank_43, e_Ds_rank_46, bd_some, bd_none, Option.toList_some, Option.toList_none, List.nil_append, List.cons_append, px_kill_int, px_kill_long, px_kill_ref, px_kill_null, iI_lit, iJ_lit, iI_add, iI_sub, iI_mul, iI_neg, iJ_add, iJ_sub, iJ_mul, iJ_neg, iI_lt, iI_le, iI_eq, iJ_lt, iJ_le, iJ_eq, iI_div, iJ_div, tdiv_tmod, iI_J, iJ_I, iI_ix, iI_toInt, iJ_toInt, cmp_ge, cmp_lt, cmp_eq, cmp_gt, cmp_le, cmp_geI, cmp_ltI, cmp_eqI, cmp_gtI, cmp_leI, bI_0I, bI_1I, pin, if_true, g1]
set_option maxHeartbeats 1000000 in
theorem q_Ds_ranked {T : TS} {V : VW} (hV : okV V) (h : cC T V) {i r k : Int} (hi : inI i) (hr : inI r) (hk : inI k) : ∃ T', cl k_Ds_ranked [.ref 0, .int (iI i), .int (iI r), .int (iI k)] (enc T) = some (some (.int (iI (qRanked V i r k))), enc T') ∧ FrI aAsk T T' ∧ cC T' V := by
  have g1 := g_isInk hV h hi
  have g2 := g_isAxis hk (enc T)
  obtain ⟨i1, i2⟩ := id hi
  obtain ⟨r1, r2⟩ := id hr
  unfold qRanked
  by_cases c1 : isK V i
  · rw [bI_tI c1] at g1
    obtain ⟨j, rfl⟩ : ∃ j : Nat, i = (j : Int) := ⟨i.toNat, by omega⟩
    have hj : j < V.1 := by have := c1.2; omega
    have ej : ((j : Int)).toNat = j := by omega
    have ok := hV.2 j hj
    have hG := okG_brk ok.1
    have hcb : 0 < celN (V.2 j) ∧ celN (V.2 j) ≤ 144 := cel_bd ok.1
    obtain ⟨h4, hp0, hs0, hI0⟩ := cC.at hV h hj
    have hcel : T.1 (T.2.2.1 j) 2 = iI (celN (V.2 j)) := hI0.1.2.2.2.2.1
    by_cases c2 : 0 ≤ k ∧ k ≤ 1
    · rw [bI_tI c2] at g2
      by_cases c3 : 0 ≤ r ∧ r < celN (V.2 j)
      · rw [ej, if_pos ⟨c1, c3, c2⟩]
        obtain ⟨T', e, fr, hC, hS, hR⟩ := c_sort hV h hj
        have hpr : T'.2.2.1 j = T.2.2.1 j := by rw [hR]
        obtain ⟨h4, hp, hs, hI⟩ := cC.at hV hC hj
        rw [hpr] at hp hs hI
        have e2 := g_at (T := T') (n := r) (pl_s3 hp).2.2.1 (by omega) (by omega)
        have e3 := hS.2.1 r.toNat (show ((r.toNat : Nat) : Int) < celN (V.2 j) by omega)
        rw [e3] at e2
        have hlt : ordN (V.2 j) r.toNat < (celN (V.2 j)).toNat := ordS_lt (fSp (V.2 j 0) (V.2 j 1) (V.2 j 2) (V.2 j 3) (V.2 j 4)) (celN (V.2 j)).toNat r.toNat (by omega)
        have a0 := s_axis0 T' hs (n := ((ordN (V.2 j) r.toNat : Nat) : Int)) hI.1.2.2.2.1 hG (by omega)
        have a1 := s_axis1 T' hs (n := ((ordN (V.2 j) r.toNat : Nat) : Int)) hI.1.2.2.2.1 hG (by omega)
        have n1 : ¬ r < 0 := by omega
        have n2 : r < celN (V.2 j) := c3.2
        refine ⟨T', ?_, fr, hC⟩
        by_cases k0 : k = 0
        · subst k0
          simp (disch := first | omega | assumption | decide | (simp (disch := omega) only [iI_lit, iJ_lit, iJ_eq, iI_eq, bI_01, bI_01I] <;> omega)) only [c_Ds_ranked, e_Ds_ranked_0, e_Ds_ranked_1, e_Ds_ranked_2, e_Ds_ranked_5, e_Ds_ranked_8, e_Ds_ranked_9, e_Ds_ranked_12, e_Ds_ranked_15, e_Ds_ranked_16, e_Ds_ranked_19, e_Ds_ranked_20, e_Ds_ranked_21, e_Ds_ranked_24, e_Ds_ranked_25, e_Ds_ranked_26, e_Ds_ranked_29, e_Ds_ranked_32, e_Ds_ranked_34, e_Ds_ranked_35, e_Ds_ranked_36, e_Ds_ranked_39, e_Ds_ranked_40, e_Ds_ranked_41, e_Ds_ranked_43, e_Ds_ranked_45, e_Ds_ranked_48, e_Ds_ranked_50, e_Ds_ranked_52, e_Ds_ranked_55, e_Ds_ranked_56, e_Ds_ranked_59, e_Ds_ranked_60, e_Ds_ranked_63, bd_some, bd_none, Option.toList_some, Option.toList_none, List.nil_append, List.cons_append, px_kill_int, px_kill_long, px_kill_ref, px_kill_null, iI_lit, iJ_lit, iI_add, iI_sub, iI_mul, iI_neg, iJ_add, iJ_sub, iJ_mul, iJ_neg, iI_lt, iI_le, iI_eq, iJ_lt, iJ_le, iJ_eq, iI_div, iJ_div, tdiv_tmod, iI_J, iJ_I, iI_ix, iI_toInt, iJ_toInt, cmp_ge, cmp_lt, cmp_eq, cmp_gt, cmp_le, cmp_geI, cmp_ltI, cmp_eqI, cmp_gtI, cmp_leI, bI_0I, bI_1I, pin, if_true, g1, g2, one0, if_false, sh_n5, ej, hs, hcel, n1, n2, e, e2, a0]
        · have k1 : k = 1 := by omega
          subst k1
          simp (disch := first | omega | assumption | decide | (simp (disch := omega) only [iI_lit, iJ_lit, iJ_eq, iI_eq, bI_01, bI_01I] <;> omega)) only [c_Ds_ranked, e_Ds_ranked_0, e_Ds_ranked_1, e_Ds_ranked_2, e_Ds_ranked_5, e_Ds_ranked_8, e_Ds_ranked_9, e_Ds_ranked_12, e_Ds_ranked_15, e_Ds_ranked_16, e_Ds_ranked_19, e_Ds_ranked_20, e_Ds_ranked_21, e_Ds_ranked_24, e_Ds_ranked_25, e_Ds_ranked_26, e_Ds_ranked_29, e_Ds_ranked_32, e_Ds_ranked_34, e_Ds_ranked_35, e_Ds_ranked_36, e_Ds_ranked_39, e_Ds_ranked_40, e_Ds_ranked_41, e_Ds_ranked_43, e_Ds_ranked_45, e_Ds_ranked_48, e_Ds_ranked_50, e_Ds_ranked_52, e_Ds_ranked_55, e_Ds_ranked_56, e_Ds_ranked_59, e_Ds_ranked_60, e_Ds_ranked_63, bd_some, bd_none, Option.toList_some, Option.toList_none, List.nil_append, List.cons_append, px_kill_int, px_kill_long, px_kill_ref, px_kill_null, iI_lit, iJ_lit, iI_add, iI_sub, iI_mul, iI_neg, iJ_add, iJ_sub, iJ_mul, iJ_neg, iI_lt, iI_le, iI_eq, iJ_lt, iJ_le, iJ_eq, iI_div, iJ_div, tdiv_tmod, iI_J, iJ_I, iI_ix, iI_toInt, iJ_toInt, cmp_ge, cmp_lt, cmp_eq, cmp_gt, cmp_le, cmp_geI, cmp_ltI, cmp_eqI, cmp_gtI, cmp_leI, bI_0I, bI_1I, pin, if_true, g1, g2, one0, if_false, sh_n5, ej, hs, hcel, n1, n2, e, e2, a1]
      · rw [ej, if_neg (fun z => c3 z.2.1)]
        refine ⟨T, ?_, FrI.rf _ _, h⟩
        by_cases n1 : r < 0
        · simp (disch := first | omega | assumption | decide | (simp (disch := omega) only [iI_lit, iJ_lit, iJ_eq, iI_eq, bI_01, bI_01I] <;> omega)) only [c_Ds_ranked, e_Ds_ranked_0, e_Ds_ranked_1, e_Ds_ranked_2, e_Ds_ranked_5, e_Ds_ranked_8, e_Ds_ranked_9, e_Ds_ranked_12, e_Ds_ranked_15, e_Ds_ranked_16, e_Ds_ranked_19, e_Ds_ranked_20, e_Ds_ranked_21, e_Ds_ranked_24, e_Ds_ranked_25, e_Ds_ranked_26, e_Ds_ranked_29, e_Ds_ranked_32, e_Ds_ranked_34, e_Ds_ranked_35, e_Ds_ranked_36, e_Ds_ranked_39, e_Ds_ranked_40, e_Ds_ranked_41, e_Ds_ranked_43, e_Ds_ranked_45, e_Ds_ranked_48, e_Ds_ranked_50, e_Ds_ranked_52, e_Ds_ranked_55, e_Ds_ranked_56, e_Ds_ranked_59, e_Ds_ranked_60, e_Ds_ranked_63, bd_some, bd_none, Option.toList_some, Option.toList_none, List.nil_append, List.cons_append, px_kill_int, px_kill_long, px_kill_ref, px_kill_null, iI_lit, iJ_lit, iI_add, iI_sub, iI_mul, iI_neg, iJ_add, iJ_sub, iJ_mul, iJ_neg, iI_lt, iI_le, iI_eq, iJ_lt, iJ_le, iJ_eq, iI_div, iJ_div, tdiv_tmod, iI_J, iJ_I, iI_ix, iI_toInt, iJ_toInt, cmp_ge, cmp_lt, cmp_eq, cmp_gt, cmp_le, cmp_geI, cmp_ltI, cmp_eqI, cmp_gtI, cmp_leI, bI_0I, bI_1I, pin, if_true, g1, g2, one0, if_false, n1]
        · have n2 : ¬ r < celN (V.2 j) := by omega
          simp (disch := first | omega | assumption | decide | (simp (disch := omega) only [iI_lit, iJ_lit, iJ_eq, iI_eq, bI_01, bI_01I] <;> omega)) only [c_Ds_ranked, e_Ds_ranked_0, e_Ds_ranked_1, e_Ds_ranked_2, e_Ds_ranked_5, e_Ds_ranked_8, e_Ds_ranked_9, e_Ds_ranked_12, e_Ds_ranked_15, e_Ds_ranked_16, e_Ds_ranked_19, e_Ds_ranked_20, e_Ds_ranked_21, e_Ds_ranked_24, e_Ds_ranked_25, e_Ds_ranked_26, e_Ds_ranked_29, e_Ds_ranked_32, e_Ds_ranked_34, e_Ds_ranked_35, e_Ds_ranked_36, e_Ds_ranked_39, e_Ds_ranked_40, e_Ds_ranked_41, e_Ds_ranked_43, e_Ds_ranked_45, e_Ds_ranked_48, e_Ds_ranked_50, e_Ds_ranked_52, e_Ds_ranked_55, e_Ds_ranked_56, e_Ds_ranked_59, e_Ds_ranked_60, e_Ds_ranked_63, bd_some, bd_none, Option.toList_some, Option.toList_none, List.nil_append, List.cons_append, px_kill_int, px_kill_long, px_kill_ref, px_kill_null, iI_lit, iJ_lit, iI_add, iI_sub, iI_mul, iI_neg, iJ_add, iJ_sub, iJ_mul, iJ_neg, iI_lt, iI_le, iI_eq, iJ_lt, iJ_le, iJ_eq, iI_div, iJ_div, tdiv_tmod, iI_J, iJ_I, iI_ix, iI_toInt, iJ_toInt, cmp_ge, cmp_lt, cmp_eq, cmp_gt, cmp_le, cmp_geI, cmp_ltI, cmp_eqI, cmp_gtI, cmp_leI, bI_0I, bI_1I, pin, if_true, g1, g2, one0, if_false, sh_n5, ej, hs0, hcel, n1, n2]
    · rw [bI_fI c2] at g2
      rw [if_neg (fun z => c2 z.2.2)]
      refine ⟨T, ?_, FrI.rf _ _, h⟩
      simp (disch := first | omega | assumption | decide | (simp (disch := omega) only [iI_lit, iJ_lit, iJ_eq, iI_eq, bI_01, bI_01I] <;> omega)) only [c_Ds_ranked, e_Ds_ranked_0, e_Ds_ranked_1, e_Ds_ranked_2, e_Ds_ranked_5, e_Ds_ranked_8, e_Ds_ranked_9, e_Ds_ranked_12, e_Ds_ranked_15, e_Ds_ranked_16, e_Ds_ranked_19, e_Ds_ranked_20, e_Ds_ranked_21, e_Ds_ranked_24, e_Ds_ranked_25, e_Ds_ranked_26, e_Ds_ranked_29, e_Ds_ranked_32, e_Ds_ranked_34, e_Ds_ranked_35, e_Ds_ranked_36, e_Ds_ranked_39, e_Ds_ranked_40, e_Ds_ranked_41, e_Ds_ranked_43, e_Ds_ranked_45, e_Ds_ranked_48, e_Ds_ranked_50, e_Ds_ranked_52, e_Ds_ranked_55, e_Ds_ranked_56, e_Ds_ranked_59, e_Ds_ranked_60, e_Ds_ranked_63, bd_some, bd_none, Option.toList_some, Option.toList_none, List.nil_append, List.cons_append, px_kill_int, px_kill_long, px_kill_ref, px_kill_null, iI_lit, iJ_lit, iI_add, iI_sub, iI_mul, iI_neg, iJ_add, iJ_sub, iJ_mul, iJ_neg, iI_lt, iI_le, iI_eq, iJ_lt, iJ_le, iJ_eq, iI_div, iJ_div, tdiv_tmod, iI_J, iJ_I, iI_ix, iI_toInt, iJ_toInt, cmp_ge, cmp_lt, cmp_eq, cmp_gt, cmp_le, cmp_geI, cmp_ltI, cmp_eqI, cmp_gtI, cmp_leI, bI_0I, bI_1I, pin, if_true, g1, g2, one0, if_false]
  · rw [bI_fI c1] at g1
    rw [if_neg (fun z => c1 z.1)]
    refine ⟨T, ?_, FrI.rf _ _, h⟩
    simp (disch := first | omega | assumption | decide | (simp (disch := omega) only [iI_lit, iJ_lit, iJ_eq, iI_eq, bI_01, bI_01I] <;> omega)) only [c_Ds_ranked, e_Ds_ranked_0, e_Ds_ranked_1, e_Ds_ranked_2, e_Ds_ranked_5, e_Ds_ranked_8, e_Ds_ranked_9, e_Ds_ranked_12, e_Ds_ranked_15, e_Ds_ranked_16, e_Ds_ranked_19, e_Ds_ranked_20, e_Ds_ranked_21, e_Ds_ranked_24, e_Ds_ranked_25, e_Ds_ranked_26, e_Ds_ranked_29, e_Ds_ranked_32, e_Ds_ranked_34, e_Ds_ranked_35, e_Ds_ranked_36, e_Ds_ranked_39, e_Ds_ranked_40, e_Ds_ranked_41, e_Ds_ranked_43, e_Ds_ranked_45, e_Ds_ranked_48, e_Ds_ranked_50, e_Ds_ranked_52, e_Ds_ranked_55, e_Ds_ranked_56, e_Ds_ranked_59, e_Ds_ranked_60, e_Ds_ranked_63, bd_some, bd_none, Option.toList_some, Option.toList_none, List.nil_append, List.cons_append, px_kill_int, px_kill_long, px_kill_ref, px_kill_null, iI_lit, iJ_lit, iI_add, iI_sub, iI_mul, iI_neg, iJ_add, iJ_sub, iJ_mul, iJ_neg, iI_lt, iI_le, iI_eq, iJ_lt, iJ_le, iJ_eq, iI_div, iJ_div, tdiv_tmod, iI_J, iJ_I, iI_ix, iI_toInt, iJ_toInt, cmp_ge, cmp_lt, cmp_eq, cmp_gt, cmp_le, cmp_geI, cmp_ltI, cmp_eqI, cmp_gtI, cmp_leI, bI_0I, bI_1I, pin, if_true, g1]
set_option maxHeartbeats 1000000 in
theorem q_Dm_spot {T : TS} {V : VW} (hV : okV V) (h : cM T V) {i x y : Int} (hi : inI i) (hx : inI x) (hy : inI y) : ∃ T', cl k_Dm_spot [.ref 53, .int (iI i), .int (iI x), .int (iI y)] (enc T) = some (some (.int (iI (qSpot V i x y))), enc T') ∧ FrM T T' := by
  have hM : cM (t0 T) V := h.fr (t0_fr T)
  have g1 := g_inM hV hM hi
  have g2 := g_pxM hx hy (enc (t0 T))
  obtain ⟨i1, i2⟩ := id hi
  unfold qSpot
  by_cases c1 : isK V i
  · rw [bI_tI c1] at g1
    by_cases c2 : isX x y
    · rw [bI_tI c2] at g2
      rw [if_pos ⟨c1, c2⟩]
      obtain ⟨j, rfl⟩ : ∃ j : Nat, i = (j : Int) := ⟨i.toNat, by omega⟩
      have hj : j < V.1 := by have := c1.2; omega
      have ok := hV.2 j hj
      have hG := okG_brk ok.1
      have hink := hM.ink hV hj
      obtain ⟨x1, x2, x3⟩ := id c2
      have hb : cl k_Dm_laysBrick [.ref 53, .int (iI (j : Int))] (enc (t0 T)) = some (none, enc (tBrk (t0 T) (V.2 j 0) (V.2 j 1) (V.2 j 2) (V.2 j 3))) := s_laysBrick (t0 T) hink.1 hink.2.2.1 hink.2.1
      have hg := tBrk_g (t0 T) (V.2 j 0) (V.2 j 1) (V.2 j 2) (V.2 j 3)
      have h6 := hM.2 j hj 6 (by omega)
      have h7 := hM.2 j hj 7 (by omega)
      have hink2 : inkM (tBrk (t0 T) (V.2 j 0) (V.2 j 1) (V.2 j 2) (V.2 j 3)) j (V.2 j 0) (V.2 j 1) (V.2 j 2) (V.2 j 3) (V.2 j 4) := hink.eqI rfl
      have fr2 : FrM T (tBrk (t0 T) (V.2 j 0) (V.2 j 1) (V.2 j 2) (V.2 j 3)) := (t0_fr T).tr (tBrk_fr _ _ _ _ _)
      have h6' : (tBrk (t0 T) (V.2 j 0) (V.2 j 1) (V.2 j 2) (V.2 j 3)).1 56 (8 * j + 6) = iI (V.2 j 6) := h6
      have h7' : (tBrk (t0 T) (V.2 j 0) (V.2 j 1) (V.2 j 2) (V.2 j 3)).1 56 (8 * j + 7) = iI (V.2 j 7) := h7
      generalize tBrk (t0 T) (V.2 j 0) (V.2 j 1) (V.2 j 2) (V.2 j 3) = T2 at *
      have o6 := s_of6 T2 hink.1
      have o7 := s_of7 T2 hink.1
      have okk := ok.2.2.2
      have hsp := s_mspot hink2.1 hink2.2.2.1 hink2.2.1 hg hink2.2.2.2.1 hink2.2.2.2.2 (x := x - V.2 j 6) (y := y - V.2 j 7) (by omega) (by omega)
      have hax := plc_ax hG (x - V.2 j 6) (y - V.2 j 7)
      have hpb := plcN_bd ok x y
      have hval : fSpN (V.2 j) (plcN (V.2 j) x y).toNat = spt (V.2 j 4) (V.2 j 0) (V.2 j 1) (cel (V.2 j 0) (V.2 j 1) (V.2 j 2) (V.2 j 3)) (bkW (brk (V.2 j 0) (V.2 j 1) (V.2 j 2) (V.2 j 3))) (bkH (brk (V.2 j 0) (V.2 j 1) (V.2 j 2) (V.2 j 3))) (bkS (brk (V.2 j 0) (V.2 j 1) (V.2 j 2) (V.2 j 3))) (hmX (bkW (brk (V.2 j 0) (V.2 j 1) (V.2 j 2) (V.2 j 3))) (bkH (brk (V.2 j 0) (V.2 j 1) (V.2 j 2) (V.2 j 3))) (bkS (brk (V.2 j 0) (V.2 j 1) (V.2 j 2) (V.2 j 3))) (x - V.2 j 6) (y - V.2 j 7)) ((y - V.2 j 7) % bkH (brk (V.2 j 0) (V.2 j 1) (V.2 j 2) (V.2 j 3))) := by
        unfold fSpN fSp
        rw [show (((plcN (V.2 j) x y).toNat : Nat) : Int) = plcN (V.2 j) x y by omega]
        unfold plcN
        rw [hax.1, hax.2]
      rw [← hval] at hsp
      refine ⟨_, ?_, fr2.tr (FrM.of (mHome_fr T2 (V.2 j 4) (hmX (bkW (brk (V.2 j 0) (V.2 j 1) (V.2 j 2) (V.2 j 3))) (bkH (brk (V.2 j 0) (V.2 j 1) (V.2 j 2) (V.2 j 3))) (bkS (brk (V.2 j 0) (V.2 j 1) (V.2 j 2) (V.2 j 3))) (x - V.2 j 6) (y - V.2 j 7)) ((y - V.2 j 7) % bkH (brk (V.2 j 0) (V.2 j 1) (V.2 j 2) (V.2 j 3)))) (fun q k z => aRnk_ref z))⟩
      have ej : ((j : Int)).toNat = j := by omega
      rw [ej]
      simp (disch := first | omega | assumption | decide | (simp (disch := omega) only [iI_lit, iJ_lit, iJ_eq, iI_eq, bI_01, bI_01I] <;> omega)) only [c_Dm_spot, e_Dm_spot_0, e_Dm_spot_1, e_Dm_spot_2, e_Dm_spot_5, e_Dm_spot_6, e_Dm_spot_7, e_Dm_spot_10, e_Dm_spot_13, e_Dm_spot_14, e_Dm_spot_15, e_Dm_spot_18, e_Dm_spot_21, e_Dm_spot_22, e_Dm_spot_23, e_Dm_spot_24, e_Dm_spot_25, e_Dm_spot_28, e_Dm_spot_29, e_Dm_spot_30, e_Dm_spot_31, e_Dm_spot_32, e_Dm_spot_33, e_Dm_spot_35, e_Dm_spot_38, e_Dm_spot_39, e_Dm_spot_40, e_Dm_spot_41, e_Dm_spot_42, e_Dm_spot_44, e_Dm_spot_47, e_Dm_spot_48, e_Dm_spot_51, bd_some, bd_none, Option.toList_some, Option.toList_none, List.nil_append, List.cons_append, px_kill_int, px_kill_long, px_kill_ref, px_kill_null, iI_lit, iJ_lit, iI_add, iI_sub, iI_mul, iI_neg, iJ_add, iJ_sub, iJ_mul, iJ_neg, iI_lt, iI_le, iI_eq, iJ_lt, iJ_le, iJ_eq, iI_div, iJ_div, tdiv_tmod, iI_J, iJ_I, iI_ix, iI_toInt, iJ_toInt, cmp_ge, cmp_lt, cmp_eq, cmp_gt, cmp_le, cmp_geI, cmp_ltI, cmp_eqI, cmp_gtI, cmp_leI, bI_0I, bI_1I, pin, if_true, g1, g2, one0, if_false, hb, o6, o7, h6', h7', hsp]
    · rw [bI_fI c2] at g2
      rw [if_neg (fun z => c2 z.2)]
      refine ⟨t0 T, ?_, t0_fr T⟩
      simp (disch := first | omega | assumption | decide | (simp (disch := omega) only [iI_lit, iJ_lit, iJ_eq, iI_eq, bI_01, bI_01I] <;> omega)) only [c_Dm_spot, e_Dm_spot_0, e_Dm_spot_1, e_Dm_spot_2, e_Dm_spot_5, e_Dm_spot_6, e_Dm_spot_7, e_Dm_spot_10, e_Dm_spot_13, e_Dm_spot_14, e_Dm_spot_15, e_Dm_spot_18, e_Dm_spot_21, e_Dm_spot_22, e_Dm_spot_23, e_Dm_spot_24, e_Dm_spot_25, e_Dm_spot_28, e_Dm_spot_29, e_Dm_spot_30, e_Dm_spot_31, e_Dm_spot_32, e_Dm_spot_33, e_Dm_spot_35, e_Dm_spot_38, e_Dm_spot_39, e_Dm_spot_40, e_Dm_spot_41, e_Dm_spot_42, e_Dm_spot_44, e_Dm_spot_47, e_Dm_spot_48, e_Dm_spot_51, bd_some, bd_none, Option.toList_some, Option.toList_none, List.nil_append, List.cons_append, px_kill_int, px_kill_long, px_kill_ref, px_kill_null, iI_lit, iJ_lit, iI_add, iI_sub, iI_mul, iI_neg, iJ_add, iJ_sub, iJ_mul, iJ_neg, iI_lt, iI_le, iI_eq, iJ_lt, iJ_le, iJ_eq, iI_div, iJ_div, tdiv_tmod, iI_J, iJ_I, iI_ix, iI_toInt, iJ_toInt, cmp_ge, cmp_lt, cmp_eq, cmp_gt, cmp_le, cmp_geI, cmp_ltI, cmp_eqI, cmp_gtI, cmp_leI, bI_0I, bI_1I, pin, if_true, g1, g2, one0, if_false]
  · rw [bI_fI c1] at g1
    rw [if_neg (fun z => c1 z.1)]
    refine ⟨t0 T, ?_, t0_fr T⟩
    simp (disch := first | omega | assumption | decide | (simp (disch := omega) only [iI_lit, iJ_lit, iJ_eq, iI_eq, bI_01, bI_01I] <;> omega)) only [c_Dm_spot, e_Dm_spot_0, e_Dm_spot_1, e_Dm_spot_2, e_Dm_spot_5, e_Dm_spot_6, e_Dm_spot_7, e_Dm_spot_10, e_Dm_spot_13, e_Dm_spot_14, e_Dm_spot_15, e_Dm_spot_18, e_Dm_spot_21, e_Dm_spot_22, e_Dm_spot_23, e_Dm_spot_24, e_Dm_spot_25, e_Dm_spot_28, e_Dm_spot_29, e_Dm_spot_30, e_Dm_spot_31, e_Dm_spot_32, e_Dm_spot_33, e_Dm_spot_35, e_Dm_spot_38, e_Dm_spot_39, e_Dm_spot_40, e_Dm_spot_41, e_Dm_spot_42, e_Dm_spot_44, e_Dm_spot_47, e_Dm_spot_48, e_Dm_spot_51, bd_some, bd_none, Option.toList_some, Option.toList_none, List.nil_append, List.cons_append, px_kill_int, px_kill_long, px_kill_ref, px_kill_null, iI_lit, iJ_lit, iI_add, iI_sub, iI_mul, iI_neg, iJ_add, iJ_sub, iJ_mul, iJ_neg, iI_lt, iI_le, iI_eq, iJ_lt, iJ_le, iJ_eq, iI_div, iJ_div, tdiv_tmod, iI_J, iJ_I, iI_ix, iI_toInt, iJ_toInt, cmp_ge, cmp_lt, cmp_eq, cmp_gt, cmp_le, cmp_geI, cmp_ltI, cmp_eqI, cmp_gtI, cmp_leI, bI_0I, bI_1I, pin, if_true, g1]
