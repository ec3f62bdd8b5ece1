/-! rank, ranked, inked of the reference. -/
def isRnkN (T : TS) (f : Nat → Int) : Prop := isRnk T (f 0) (f 1) (f 2) (f 3) (f 4)
abbrev mBrkN (T : TS) (f : Nat → Int) : Prop := mBrk T (f 0) (f 1) (f 2) (f 3)
/-- the ranks of ink j laid -/
theorem m_ranks {T : TS} {V : VW} (hV : okV V) (h : cM T V) {j : Nat} (hj : j < V.1) : ∃ T', cl k_Dm_laysRanks [.ref 53, .int (iI (j : Int))] (enc T) = some (none, enc T') ∧ FrM T T' ∧ cM T' V ∧ mBrkN T' (V.2 j) ∧ isRnkN T' (V.2 j) := by
  obtain ⟨T', e, fr, hb, hr⟩ := s_laysRanks (h.ink hV hj)
  have fr' : FrM T T' := (tBrk_fr T (V.2 j 0) (V.2 j 1) (V.2 j 2) (V.2 j 3)).tr (FrM.of fr (fun q k z => aRnk_ref z))
  exact ⟨T', e, fr', h.fr fr', hb, hr⟩
theorem m_rankHere {T : TS} {V : VW} (hV : okV V) (h : cM T V) {j : Nat} (hj : j < V.1) (hB : mBrkN T (V.2 j)) (hR : isRnkN T (V.2 j)) {x y : Int} (hx : -50000 ≤ x ∧ x ≤ 50000) (hy : -50000 ≤ y ∧ y ≤ 50000) : ∃ T', cl k_Dm_rankHere [.ref 53, .int (iI (j : Int)), .int (iI x), .int (iI y)] (enc T) = some (some (.int (iI (rkN (V.2 j) x y : Int))), enc T') ∧ FrM T T' ∧ cM T' V ∧ mBrkN T' (V.2 j) ∧ isRnkN T' (V.2 j) ∧ FrI aRnk T T' := by
  have ok := hV.2 j hj
  have hrk := rkN_sp ok x y
  have h4 := hV.1
  obtain ⟨T', e, fr, hb, hr⟩ := s_rankHere (i := j) (by omega) ok.1 hB hR (h.2 j hj 6 (by omega)) (h.2 j hj 7 (by omega)) ⟨ok.2.2.2.1, ok.2.2.2.2⟩ hx hy hrk.1 hrk.2
  have fr' : FrM T T' := FrM.of fr (fun q k z => aRnk_ref z)
  exact ⟨T', e, fr', h.fr fr', hb, hr, fr⟩
abbrev lvlN (f : Nat → Int) : Int := (celN f * f 5 + 50) / 100
theorem m_level {T : TS} {V : VW} (hV : okV V) (h : cM T V) {j : Nat} (hj : j < V.1) : cl k_Dm_levelOf [.ref 53, .int (iI (j : Int))] (enc T) = some (some (.int (iI (lvlN (V.2 j)))), enc T) := by
  have ok := hV.2 j hj
  have hi := h.ink hV hj
  exact s_levelOf T hi.1 hi.2.2.1 hi.2.1 (h.2 j hj 5 (by omega)) ok.2.2.1
theorem lvlN_bd {f : Nat → Int} (hf : okN f) : 0 ≤ lvlN f ∧ lvlN f ≤ celN f := by
  have hc := cel_bd hf.1
  have ht := hf.2.2.1
  have hc' : 0 < celN f ∧ celN f ≤ 144 := hc
  have m1 : 0 ≤ celN f * f 5 := Int.mul_nonneg (by omega) (by omega)
  have m2 : celN f * f 5 ≤ celN f * 100 := Int.mul_le_mul_of_nonneg_left (by omega) (by omega)
  unfold lvlN
  generalize celN f * f 5 = z at *
  omega
set_option maxHeartbeats 1000000 in
theorem q_Dm_rank {T : TS} {V : VW} (hV : okV V) (h : cM T V) {i x y : Int} (hi : inI i) (hx : inI x) (hy : inI y) : ∃ T', cl k_Dm_rank [.ref 53, .int (iI i), .int (iI x), .int (iI y)] (enc T) = some (some (.int (iI (qRank V i x y))), enc T') ∧ FrM T T' := by
  have hM : cM (t0 T) V := h.fr (t0_fr T)
  have g1 := g_inM hV hM hi
  have g2 := g_pxM hx hy (enc (t0 T))
  obtain ⟨i1, i2⟩ := id hi
  unfold qRank
  by_cases c1 : isK V i
  · rw [bI_tI c1] at g1
    by_cases c2 : isX x y
    · rw [bI_tI c2] at g2
      rw [if_pos ⟨c1, c2⟩]
      obtain ⟨j, rfl⟩ : ∃ j : Nat, i = (j : Int) := ⟨i.toNat, by omega⟩
      have hj : j < V.1 := by have := c1.2; omega
      obtain ⟨x1, x2, x3⟩ := id c2
      obtain ⟨T2, e2, fr2, hM2, hB2, hR2⟩ := m_ranks hV hM hj
      obtain ⟨T3, e3, fr3, hM3, hB3, hR3⟩ := m_rankHere hV hM2 hj hB2 hR2 (x := x) (y := y) (by omega) (by omega)
      refine ⟨T3, ?_, (t0_fr T).tr (fr2.tr fr3)⟩
      have ej : ((j : Int)).toNat = j := by omega
      rw [ej]
      simp (disch := first | omega | assumption | decide | (simp (disch := omega) only [iI_lit, iJ_lit, iJ_eq, iI_eq, bI_01, bI_01I] <;> omega)) only [c_Dm_rank, e_Dm_rank_0, e_Dm_rank_1, e_Dm_rank_2, e_Dm_rank_5, e_Dm_rank_6, e_Dm_rank_7, e_Dm_rank_10, e_Dm_rank_13, e_Dm_rank_14, e_Dm_rank_15, e_Dm_rank_18, e_Dm_rank_21, e_Dm_rank_22, e_Dm_rank_23, e_Dm_rank_24, e_Dm_rank_25, e_Dm_rank_28, e_Dm_rank_29, e_Dm_rank_30, e_Dm_rank_31, e_Dm_rank_32, e_Dm_rank_35, bd_some, bd_none, Option.toList_some, Option.toList_none, List.nil_append, List.cons_append, px_kill_int, px_kill_long, px_kill_ref, px_kill_null, iI_lit, iJ_lit, iI_add, iI_sub, iI_mul, iI_neg, iJ_add, iJ_sub, iJ_mul, iJ_neg, iI_lt, iI_le, iI_eq, iJ_lt, iJ_le, iJ_eq, iI_div, iJ_div, tdiv_tmod, iI_J, iJ_I, iI_ix, iI_toInt, iJ_toInt, cmp_ge, cmp_lt, cmp_eq, cmp_gt, cmp_le, cmp_geI, cmp_ltI, cmp_eqI, cmp_gtI, cmp_leI, bI_0I, bI_1I, pin, if_true, g1, g2, one0, if_false, e2, e3]
    · rw [bI_fI c2] at g2
      rw [if_neg (fun z => c2 z.2)]
      refine ⟨t0 T, ?_, t0_fr T⟩
      simp (disch := first | omega | assumption | decide | (simp (disch := omega) only [iI_lit, iJ_lit, iJ_eq, iI_eq, bI_01, bI_01I] <;> omega)) only [c_Dm_rank, e_Dm_rank_0, e_Dm_rank_1, e_Dm_rank_2, e_Dm_rank_5, e_Dm_rank_6, e_Dm_rank_7, e_Dm_rank_10, e_Dm_rank_13, e_Dm_rank_14, e_Dm_rank_15, e_Dm_rank_18, e_Dm_rank_21, e_Dm_rank_22, e_Dm_rank_23, e_Dm_rank_24, e_Dm_rank_25, e_Dm_rank_28, e_Dm_rank_29, e_Dm_rank_30, e_Dm_rank_31, e_Dm_rank_32, e_Dm_rank_35, bd_some, bd_none, Option.toList_some, Option.toList_none, List.nil_append, List.cons_append, px_kill_int, px_kill_long, px_kill_ref, px_kill_null, iI_lit, iJ_lit, iI_add, iI_sub, iI_mul, iI_neg, iJ_add, iJ_sub, iJ_mul, iJ_neg, iI_lt, iI_le, iI_eq, iJ_lt, iJ_le, iJ_eq, iI_div, iJ_div, tdiv_tmod, iI_J, iJ_I, iI_ix, iI_toInt, iJ_toInt, cmp_ge, cmp_lt, cmp_eq, cmp_gt, cmp_le, cmp_geI, cmp_ltI, cmp_eqI, cmp_gtI, cmp_leI, bI_0I, bI_1I, pin, if_true, g1, g2, one0, if_false]
  · rw [bI_fI c1] at g1
    rw [if_neg (fun z => c1 z.1)]
    refine ⟨t0 T, ?_, t0_fr T⟩
    simp (disch := first | omega | assumption | decide | (simp (disch := omega) only [iI_lit, iJ_lit, iJ_eq, iI_eq, bI_01, bI_01I] <;> omega)) only [c_Dm_rank, e_Dm_rank_0, e_Dm_rank_1, e_Dm_rank_2, e_Dm_rank_5, e_Dm_rank_6, e_Dm_rank_7, e_Dm_rank_10, e_Dm_rank_13, e_Dm_rank_14, e_Dm_rank_15, e_Dm_rank_18, e_Dm_rank_21, e_Dm_rank_22, e_Dm_rank_23, e_Dm_rank_24, e_Dm_rank_25, e_Dm_rank_28, e_Dm_rank_29, e_Dm_rank_30, e_Dm_rank_31, e_Dm_rank_32, e_Dm_rank_35, bd_some, bd_none, Option.toList_some, Option.toList_none, List.nil_append, List.cons_append, px_kill_int, px_kill_long, px_kill_ref, px_kill_null, iI_lit, iJ_lit, iI_add, iI_sub, iI_mul, iI_neg, iJ_add, iJ_sub, iJ_mul, iJ_neg, iI_lt, iI_le, iI_eq, iJ_lt, iJ_le, iJ_eq, iI_div, iJ_div, tdiv_tmod, iI_J, iJ_I, iI_ix, iI_toInt, iJ_toInt, cmp_ge, cmp_lt, cmp_eq, cmp_gt, cmp_le, cmp_geI, cmp_ltI, cmp_eqI, cmp_gtI, cmp_leI, bI_0I, bI_1I, pin, if_true, g1]
noncomputable def isInkd (f : Nat → Int) (x y : Int) : Int := if (rkN f x y : Int) < lvlN f then 1 else 0
noncomputable def qInked (V : VW) (i x y : Int) : Int := if isK V i ∧ isX x y then isInkd (V.2 i.toNat) x y else 0
set_option maxHeartbeats 1000000 in
theorem q_Dm_inked {T : TS} {V : VW} (hV : okV V) (h : cM T V) {i x y : Int} (hi : inI i) (hx : inI x) (hy : inI y) : ∃ T', cl k_Dm_inked [.ref 53, .int (iI i), .int (iI x), .int (iI y)] (enc T) = some (some (.int (iI (qInked V i x y))), enc T') ∧ FrM T T' := by
  have hM : cM (t0 T) V := h.fr (t0_fr T)
  have g1 := g_inM hV hM hi
  have g2 := g_pxM hx hy (enc (t0 T))
  obtain ⟨i1, i2⟩ := id hi
  unfold qInked
  by_cases c1 : isK V i
  · rw [bI_tI c1] at g1
    by_cases c2 : isX x y
    · rw [bI_tI c2] at g2
      rw [if_pos ⟨c1, c2⟩]
      obtain ⟨j, rfl⟩ : ∃ j : Nat, i = (j : Int) := ⟨i.toNat, by omega⟩
      have hj : j < V.1 := by have := c1.2; omega
      obtain ⟨x1, x2, x3⟩ := id c2
      obtain ⟨T2, e2, fr2, hM2, hB2, hR2⟩ := m_ranks hV hM hj
      obtain ⟨T3, e3, fr3, hM3, hB3, hR3⟩ := m_rankHere hV hM2 hj hB2 hR2 (x := x) (y := y) (by omega) (by omega)
      have e4 := m_level hV hM3 hj
      have ok := hV.2 j hj
      have hl := lvlN_bd ok
      have hr := (rkN_sp ok x y).1
      have hc : 0 < celN (V.2 j) ∧ celN (V.2 j) ≤ 144 := cel_bd ok.1
      refine ⟨T3, ?_, (t0_fr T).tr (fr2.tr fr3)⟩
      have ej : ((j : Int)).toNat = j := by omega
      rw [ej]
      unfold isInkd
      by_cases c : (rkN (V.2 j) x y : Int) < lvlN (V.2 j)
      · have nc : ¬ lvlN (V.2 j) ≤ (rkN (V.2 j) x y : Int) := by omega
        rw [if_pos c]
        simp (disch := first | omega | assumption | decide | (simp (disch := omega) only [iI_lit, iJ_lit, iJ_eq, iI_eq, bI_01, bI_01I] <;> omega)) only [c_Dm_inked, e_Dm_inked_0, e_Dm_inked_1, e_Dm_inked_2, e_Dm_inked_5, e_Dm_inked_6, e_Dm_inked_7, e_Dm_inked_10, e_Dm_inked_13, e_Dm_inked_14, e_Dm_inked_15, e_Dm_inked_18, e_Dm_inked_21, e_Dm_inked_22, e_Dm_inked_23, e_Dm_inked_24, e_Dm_inked_25, e_Dm_inked_28, e_Dm_inked_29, e_Dm_inked_30, e_Dm_inked_31, e_Dm_inked_32, e_Dm_inked_35, e_Dm_inked_36, e_Dm_inked_37, e_Dm_inked_40, e_Dm_inked_43, e_Dm_inked_44, e_Dm_inked_47, e_Dm_inked_48, bd_some, bd_none, Option.toList_some, Option.toList_none, List.nil_append, List.cons_append, px_kill_int, px_kill_long, px_kill_ref, px_kill_null, iI_lit, iJ_lit, iI_add, iI_sub, iI_mul, iI_neg, iJ_add, iJ_sub, iJ_mul, iJ_neg, iI_lt, iI_le, iI_eq, iJ_lt, iJ_le, iJ_eq, iI_div, iJ_div, tdiv_tmod, iI_J, iJ_I, iI_ix, iI_toInt, iJ_toInt, cmp_ge, cmp_lt, cmp_eq, cmp_gt, cmp_le, cmp_geI, cmp_ltI, cmp_eqI, cmp_gtI, cmp_leI, bI_0I, bI_1I, pin, if_true, g1, g2, one0, if_false, e2, e3, e4, nc]
      · have nc : lvlN (V.2 j) ≤ (rkN (V.2 j) x y : Int) := by omega
        rw [if_neg c]
        simp (disch := first | omega | assumption | decide | (simp (disch := omega) only [iI_lit, iJ_lit, iJ_eq, iI_eq, bI_01, bI_01I] <;> omega)) only [c_Dm_inked, e_Dm_inked_0, e_Dm_inked_1, e_Dm_inked_2, e_Dm_inked_5, e_Dm_inked_6, e_Dm_inked_7, e_Dm_inked_10, e_Dm_inked_13, e_Dm_inked_14, e_Dm_inked_15, e_Dm_inked_18, e_Dm_inked_21, e_Dm_inked_22, e_Dm_inked_23, e_Dm_inked_24, e_Dm_inked_25, e_Dm_inked_28, e_Dm_inked_29, e_Dm_inked_30, e_Dm_inked_31, e_Dm_inked_32, e_Dm_inked_35, e_Dm_inked_36, e_Dm_inked_37, e_Dm_inked_40, e_Dm_inked_43, e_Dm_inked_44, e_Dm_inked_47, e_Dm_inked_48, bd_some, bd_none, Option.toList_some, Option.toList_none, List.nil_append, List.cons_append, px_kill_int, px_kill_long, px_kill_ref, px_kill_null, iI_lit, iJ_lit, iI_add, iI_sub, iI_mul, iI_neg, iJ_add, iJ_sub, iJ_mul, iJ_neg, iI_lt, iI_le, iI_eq, iJ_lt, iJ_le, iJ_eq, iI_div, iJ_div, tdiv_tmod, iI_J, iJ_I, iI_ix, iI_toInt, iJ_toInt, cmp_ge, cmp_lt, cmp_eq, cmp_gt, cmp_le, cmp_geI, cmp_ltI, cmp_eqI, cmp_gtI, cmp_leI, bI_0I, bI_1I, pin, if_true, g1, g2, one0, if_false, e2, e3, e4, nc]
    · rw [bI_fI c2] at g2
      rw [if_neg (fun z => c2 z.2)]
      refine ⟨t0 T, ?_, t0_fr T⟩
      simp (disch := first | omega | assumption | decide | (simp (disch := omega) only [iI_lit, iJ_lit, iJ_eq, iI_eq, bI_01, bI_01I] <;> omega)) only [c_Dm_inked, e_Dm_inked_0, e_Dm_inked_1, e_Dm_inked_2, e_Dm_inked_5, e_Dm_inked_6, e_Dm_inked_7, e_Dm_inked_10, e_Dm_inked_13, e_Dm_inked_14, e_Dm_inked_15, e_Dm_inked_18, e_Dm_inked_21, e_Dm_inked_22, e_Dm_inked_23, e_Dm_inked_24, e_Dm_inked_25, e_Dm_inked_28, e_Dm_inked_29, e_Dm_inked_30, e_Dm_inked_31, e_Dm_inked_32, e_Dm_inked_35, e_Dm_inked_36, e_Dm_inked_37, e_Dm_inked_40, e_Dm_inked_43, e_Dm_inked_44, e_Dm_inked_47, e_Dm_inked_48, bd_some, bd_none, Option.toList_some, Option.toList_none, List.nil_append, List.cons_append, px_kill_int, px_kill_long, px_kill_ref, px_kill_null, iI_lit, iJ_lit, iI_add, iI_sub, iI_mul, iI_neg, iJ_add, iJ_sub, iJ_mul, iJ_neg, iI_lt, iI_le, iI_eq, iJ_lt, iJ_le, iJ_eq, iI_div, iJ_div, tdiv_tmod, iI_J, iJ_I, iI_ix, iI_toInt, iJ_toInt, cmp_ge, cmp_lt, cmp_eq, cmp_gt, cmp_le, cmp_geI, cmp_ltI, cmp_eqI, cmp_gtI, cmp_leI, bI_0I, bI_1I, pin, if_true, g1, g2, one0, if_false]
  · rw [bI_fI c1] at g1
    rw [if_neg (fun z => c1 z.1)]
    refine ⟨t0 T, ?_, t0_fr T⟩
    simp (disch := first | omega | assumption | decide | (simp (disch := omega) only [iI_lit, iJ_lit, iJ_eq, iI_eq, bI_01, bI_01I] <;> omega)) only [c_Dm_inked, e_Dm_inked_0, e_Dm_inked_1, e_Dm_inked_2, e_Dm_inked_5, e_Dm_inked_6, e_Dm_inked_7, e_Dm_inked_10, e_Dm_inked_13, e_Dm_inked_14, e_Dm_inked_15, e_Dm_inked_18, e_Dm_inked_21, e_Dm_inked_22, e_Dm_inked_23, e_Dm_inked_24, e_Dm_inked_25, e_Dm_inked_28, e_Dm_inked_29, e_Dm_inked_30, e_Dm_inked_31, e_Dm_inked_32, e_Dm_inked_35, e_Dm_inked_36, e_Dm_inked_37, e_Dm_inked_40, e_Dm_inked_43, e_Dm_inked_44, e_Dm_inked_47, e_Dm_inked_48, bd_some, bd_none, Option.toList_some, Option.toList_none, List.nil_append, List.cons_append, px_kill_int, px_kill_long, px_kill_ref, px_kill_null, iI_lit, iJ_lit, iI_add, iI_sub, iI_mul, iI_neg, iJ_add, iJ_sub, iJ_mul, iJ_neg, iI_lt, iI_le, iI_eq, iJ_lt, iJ_le, iJ_eq, iI_div, iJ_div, tdiv_tmod, iI_J, iJ_I, iI_ix, iI_toInt, iJ_toInt, cmp_ge, cmp_lt, cmp_eq, cmp_gt, cmp_le, cmp_geI, cmp_ltI, cmp_eqI, cmp_gtI, cmp_leI, bI_0I, bI_1I, pin, if_true, g1]
theorem m_cell {T : TS} {V : VW} (hV : okV V) (h : cM T V) {j : Nat} (hj : j < V.1) : cl k_Dm_cellOf [.ref 53, .int (iI (j : Int))] (enc T) = some (some (.int (iI (celN (V.2 j)))), enc T) := by
  have hi := h.ink hV hj
  exact s_cellOf T hi.1 hi.2.2.1 hi.2.1
set_option maxHeartbeats 1000000 in
theorem q_Dm_ranked {T : TS} {V : VW} (hV : okV V) (h : cM T V) {i r k : Int} (hi : inI i) (hr : inI r) (hk : inI k) : ∃ T', cl k_Dm_ranked [.ref 53, .int (iI i), .int (iI r), .int (iI k)] (enc T) = some (some (.int (iI (qRanked V i r k))), enc T') ∧ FrM T T' := by
  have hM : cM (t0 T) V := h.fr (t0_fr T)
  have g1 := g_inM hV hM hi
  obtain ⟨i1, i2⟩ := id hi
  obtain ⟨r1, r2⟩ := id hr
  obtain ⟨k1, k2⟩ := id hk
  have g3 := s_in (x := k) (l := 0) (h := 1) (enc (t0 T)) (by omega) (by omega) (by omega)
  unfold qRanked
  by_cases c1 : isK V i
  · rw [bI_tI c1] at g1
    obtain ⟨j, rfl⟩ : ∃ j : Nat, i = (j : Int) := ⟨i.toNat, by omega⟩
    have hj : j < V.1 := by have := c1.2; omega
    have ej : ((j : Int)).toNat = j := by omega
    have ok := hV.2 j hj
    have hcb : 0 < celN (V.2 j) ∧ celN (V.2 j) ≤ 144 := cel_bd ok.1
    have ec := m_cell hV hM hj
    have g2 := s_in (x := r) (l := 0) (h := celN (V.2 j) - 1) (enc (t0 T)) (by omega) (by omega) (by omega)
    rw [ej]
    by_cases c2 : 0 ≤ r ∧ r ≤ celN (V.2 j) - 1
    · rw [bI_tI c2] at g2
      by_cases c3 : 0 ≤ k ∧ k ≤ 1
      · rw [bI_tI c3] at g3
        rw [if_pos ⟨c1, by omega, c3⟩]
        obtain ⟨T2, e2, fr2, hM2, hB2, hR2⟩ := m_ranks hV hM hj
        obtain ⟨w0, w1, w2⟩ := hR2.1 r.toNat (show ((r.toNat : Nat) : Int) < celN (V.2 j) by omega)
        refine ⟨T2, ?_, (t0_fr T).tr fr2⟩
        by_cases k0 : k = 0
        · subst k0
          simp (disch := first | omega | assumption | decide | (simp (disch := omega) only [iI_lit, iJ_lit, iJ_eq, iI_eq, bI_01, bI_01I] <;> omega)) only [c_Dm_ranked, e_Dm_ranked_0, e_Dm_ranked_1, e_Dm_ranked_2, e_Dm_ranked_5, e_Dm_ranked_6, e_Dm_ranked_7, e_Dm_ranked_10, e_Dm_ranked_13, e_Dm_ranked_14, e_Dm_ranked_15, e_Dm_ranked_16, e_Dm_ranked_17, e_Dm_ranked_18, e_Dm_ranked_21, e_Dm_ranked_22, e_Dm_ranked_23, e_Dm_ranked_24, e_Dm_ranked_27, e_Dm_ranked_30, e_Dm_ranked_31, e_Dm_ranked_32, e_Dm_ranked_33, e_Dm_ranked_34, e_Dm_ranked_37, e_Dm_ranked_40, e_Dm_ranked_43, e_Dm_ranked_44, e_Dm_ranked_45, e_Dm_ranked_46, e_Dm_ranked_49, e_Dm_ranked_50, e_Dm_ranked_53, e_Dm_ranked_54, e_Dm_ranked_57, e_Dm_ranked_58, e_Dm_ranked_59, e_Dm_ranked_62, e_Dm_ranked_63, e_Dm_ranked_66, e_Dm_ranked_67, e_Dm_ranked_68, bd_some, bd_none, Option.toList_some, Option.toList_none, List.nil_append, List.cons_append, px_kill_int, px_kill_long, px_kill_ref, px_kill_null, iI_lit, iJ_lit, iI_add, iI_sub, iI_mul, iI_neg, iJ_add, iJ_sub, iJ_mul, iJ_neg, iI_lt, iI_le, iI_eq, iJ_lt, iJ_le, iJ_eq, iI_div, iJ_div, tdiv_tmod, iI_J, iJ_I, iI_ix, iI_toInt, iJ_toInt, cmp_ge, cmp_lt, cmp_eq, cmp_gt, cmp_le, cmp_geI, cmp_ltI, cmp_eqI, cmp_gtI, cmp_leI, bI_0I, bI_1I, pin, if_true, g1, ec, g2, g3, one0, if_false, e2, sh_n58, sh_n59, w1]
        · have k1 : k = 1 := by omega
          subst k1
          simp (disch := first | omega | assumption | decide | (simp (disch := omega) only [iI_lit, iJ_lit, iJ_eq, iI_eq, bI_01, bI_01I] <;> omega)) only [c_Dm_ranked, e_Dm_ranked_0, e_Dm_ranked_1, e_Dm_ranked_2, e_Dm_ranked_5, e_Dm_ranked_6, e_Dm_ranked_7, e_Dm_ranked_10, e_Dm_ranked_13, e_Dm_ranked_14, e_Dm_ranked_15, e_Dm_ranked_16, e_Dm_ranked_17, e_Dm_ranked_18, e_Dm_ranked_21, e_Dm_ranked_22, e_Dm_ranked_23, e_Dm_ranked_24, e_Dm_ranked_27, e_Dm_ranked_30, e_Dm_ranked_31, e_Dm_ranked_32, e_Dm_ranked_33, e_Dm_ranked_34, e_Dm_ranked_37, e_Dm_ranked_40, e_Dm_ranked_43, e_Dm_ranked_44, e_Dm_ranked_45, e_Dm_ranked_46, e_Dm_ranked_49, e_Dm_ranked_50, e_Dm_ranked_53, e_Dm_ranked_54, e_Dm_ranked_57, e_Dm_ranked_58, e_Dm_ranked_59, e_Dm_ranked_62, e_Dm_ranked_63, e_Dm_ranked_66, e_Dm_ranked_67, e_Dm_ranked_68, bd_some, bd_none, Option.toList_some, Option.toList_none, List.nil_append, List.cons_append, px_kill_int, px_kill_long, px_kill_ref, px_kill_null, iI_lit, iJ_lit, iI_add, iI_sub, iI_mul, iI_neg, iJ_add, iJ_sub, iJ_mul, iJ_neg, iI_lt, iI_le, iI_eq, iJ_lt, iJ_le, iJ_eq, iI_div, iJ_div, tdiv_tmod, iI_J, iJ_I, iI_ix, iI_toInt, iJ_toInt, cmp_ge, cmp_lt, cmp_eq, cmp_gt, cmp_le, cmp_geI, cmp_ltI, cmp_eqI, cmp_gtI, cmp_leI, bI_0I, bI_1I, pin, if_true, g1, ec, g2, g3, one0, if_false, e2, sh_n58, sh_n59, w2]
      · rw [bI_fI c3] at g3
        rw [if_neg (fun z => c3 z.2.2)]
        refine ⟨t0 T, ?_, t0_fr T⟩
        simp (disch := first | omega | assumption | decide | (simp (disch := omega) only [iI_lit, iJ_lit, iJ_eq, iI_eq, bI_01, bI_01I] <;> omega)) only [c_Dm_ranked, e_Dm_ranked_0, e_Dm_ranked_1, e_Dm_ranked_2, e_Dm_ranked_5, e_Dm_ranked_6, e_Dm_ranked_7, e_Dm_ranked_10, e_Dm_ranked_13, e_Dm_ranked_14, e_Dm_ranked_15, e_Dm_ranked_16, e_Dm_ranked_17, e_Dm_ranked_18, e_Dm_ranked_21, e_Dm_ranked_22, e_Dm_ranked_23, e_Dm_ranked_24, e_Dm_ranked_27, e_Dm_ranked_30, e_Dm_ranked_31, e_Dm_ranked_32, e_Dm_ranked_33, e_Dm_ranked_34, e_Dm_ranked_37, e_Dm_ranked_40, e_Dm_ranked_43, e_Dm_ranked_44, e_Dm_ranked_45, e_Dm_ranked_46, e_Dm_ranked_49, e_Dm_ranked_50, e_Dm_ranked_53, e_Dm_ranked_54, e_Dm_ranked_57, e_Dm_ranked_58, e_Dm_ranked_59, e_Dm_ranked_62, e_Dm_ranked_63, e_Dm_ranked_66, e_Dm_ranked_67, e_Dm_ranked_68, bd_some, bd_none, Option.toList_some, Option.toList_none, List.nil_append, List.cons_append, px_kill_int, px_kill_long, px_kill_ref, px_kill_null, iI_lit, iJ_lit, iI_add, iI_sub, iI_mul, iI_neg, iJ_add, iJ_sub, iJ_mul, iJ_neg, iI_lt, iI_le, iI_eq, iJ_lt, iJ_le, iJ_eq, iI_div, iJ_div, tdiv_tmod, iI_J, iJ_I, iI_ix, iI_toInt, iJ_toInt, cmp_ge, cmp_lt, cmp_eq, cmp_gt, cmp_le, cmp_geI, cmp_ltI, cmp_eqI, cmp_gtI, cmp_leI, bI_0I, bI_1I, pin, if_true, g1, ec, g2, g3, one0, if_false]
    · rw [bI_fI c2] at g2
      rw [if_neg (fun z => by omega)]
      refine ⟨t0 T, ?_, t0_fr T⟩
      simp (disch := first | omega | assumption | decide | (simp (disch := omega) only [iI_lit, iJ_lit, iJ_eq, iI_eq, bI_01, bI_01I] <;> omega)) only [c_Dm_ranked, e_Dm_ranked_0, e_Dm_ranked_1, e_Dm_ranked_2, e_Dm_ranked_5, e_Dm_ranked_6, e_Dm_ranked_7, e_Dm_ranked_10, e_Dm_ranked_13, e_Dm_ranked_14, e_Dm_ranked_15, e_Dm_ranked_16, e_Dm_ranked_17, e_Dm_ranked_18, e_Dm_ranked_21, e_Dm_ranked_22, e_Dm_ranked_23, e_Dm_ranked_24, e_Dm_ranked_27, e_Dm_ranked_30, e_Dm_ranked_31, e_Dm_ranked_32, e_Dm_ranked_33, e_Dm_ranked_34, e_Dm_ranked_37, e_Dm_ranked_40, e_Dm_ranked_43, e_Dm_ranked_44, e_Dm_ranked_45, e_Dm_ranked_46, e_Dm_ranked_49, e_Dm_ranked_50, e_Dm_ranked_53, e_Dm_ranked_54, e_Dm_ranked_57, e_Dm_ranked_58, e_Dm_ranked_59, e_Dm_ranked_62, e_Dm_ranked_63, e_Dm_ranked_66, e_Dm_ranked_67, e_Dm_ranked_68, bd_some, bd_none, Option.toList_some, Option.toList_none, List.nil_append, List.cons_append, px_kill_int, px_kill_long, px_kill_ref, px_kill_null, iI_lit, iJ_lit, iI_add, iI_sub, iI_mul, iI_neg, iJ_add, iJ_sub, iJ_mul, iJ_neg, iI_lt, iI_le, iI_eq, iJ_lt, iJ_le, iJ_eq, iI_div, iJ_div, tdiv_tmod, iI_J, iJ_I, iI_ix, iI_toInt, iJ_toInt, cmp_ge, cmp_lt, cmp_eq, cmp_gt, cmp_le, cmp_geI, cmp_ltI, cmp_eqI, cmp_gtI, cmp_leI, bI_0I, bI_1I, pin, if_true, g1, ec, g2, one0, if_false]
  · rw [bI_fI c1] at g1
    rw [if_neg (fun z => c1 z.1)]
    refine ⟨t0 T, ?_, t0_fr T⟩
    simp (disch := first | omega | assumption | decide | (simp (disch := omega) only [iI_lit, iJ_lit, iJ_eq, iI_eq, bI_01, bI_01I] <;> omega)) only [c_Dm_ranked, e_Dm_ranked_0, e_Dm_ranked_1, e_Dm_ranked_2, e_Dm_ranked_5, e_Dm_ranked_6, e_Dm_ranked_7, e_Dm_ranked_10, e_Dm_ranked_13, e_Dm_ranked_14, e_Dm_ranked_15, e_Dm_ranked_16, e_Dm_ranked_17, e_Dm_ranked_18, e_Dm_ranked_21, e_Dm_ranked_22, e_Dm_ranked_23, e_Dm_ranked_24, e_Dm_ranked_27, e_Dm_ranked_30, e_Dm_ranked_31, e_Dm_ranked_32, e_Dm_ranked_33, e_Dm_ranked_34, e_Dm_ranked_37, e_Dm_ranked_40, e_Dm_ranked_43, e_Dm_ranked_44, e_Dm_ranked_45, e_Dm_ranked_46, e_Dm_ranked_49, e_Dm_ranked_50, e_Dm_ranked_53, e_Dm_ranked_54, e_Dm_ranked_57, e_Dm_ranked_58, e_Dm_ranked_59, e_Dm_ranked_62, e_Dm_ranked_63, e_Dm_ranked_66, e_Dm_ranked_67, e_Dm_ranked_68, bd_some, bd_none, Option.toList_some, Option.toList_none, List.nil_append, List.cons_append, px_kill_int, px_kill_long, px_kill_ref, px_kill_null, iI_lit, iJ_lit, iI_add, iI_sub, iI_mul, iI_neg, iJ_add, iJ_sub, iJ_mul, iJ_neg, iI_lt, iI_le, iI_eq, iJ_lt, iJ_le, iJ_eq, iI_div, iJ_div, tdiv_tmod, iI_J, iJ_I, iI_ix, iI_toInt, iJ_toInt, cmp_ge, cmp_lt, cmp_eq, cmp_gt, cmp_le, cmp_geI, cmp_ltI, cmp_eqI, cmp_gtI, cmp_leI, bI_0I, bI_1I, pin, if_true, g1]
