/-! far on both sides. -/
theorem fr_div {f g : Nat → Int} (hf : okN f) (hg : okN g) : (btU f g / btG f g) / (btL f g / btG f g) = btU f g / btL f g := by
  obtain ⟨g0, g1, g2, g3⟩ := btG_bd hf hg
  have hl := btL_bd hf hg
  generalize btG f g = G at *
  have e := Int.mul_ediv_mul_of_pos (btU f g / G) (btL f g / G) g0
  rw [g2, g3] at e
  exact e.symm
theorem fr_bd {f g : Nat → Int} (hf : okN f) (hg : okN g) : (0 < btU f g / btG f g ∧ btU f g / btG f g ≤ 429981696) ∧ (0 < btL f g / btG f g ∧ btL f g / btG f g ≤ 23887872) := by
  obtain ⟨g0, g1, g2, g3⟩ := btG_bd hf hg
  have hl := btL_bd hf hg
  have hu := btU_bd hf hg
  generalize btG f g = G at *
  generalize btU f g = U at *
  generalize btL f g = L at *
  have a1 := ediv_bd (a := U) g0
  have a2 := ediv_bd (a := L) g0
  have n1 : U / G ≠ 0 := by intro z; rw [z] at g2; omega
  have n2 : L / G ≠ 0 := by intro z; rw [z] at g3; omega
  omega
set_option maxHeartbeats 2000000 in
theorem q_Ds_far {T : TS} {V : VW} (hV : okV V) (h : cC T V) {i o k : Int} (hi : inI i) (ho : inI o) (hk : inI k) : ∃ T', cl k_Ds_far [.ref 0, .int (iI i), .int (iI o), .int (iI k)] (enc T) = some (some (.long (iJ (qFar V i o k))), enc T') ∧ FrA aB bB T T' := by
  have g1 := g_isInk hV h hi
  have g2 := g_isInk hV h ho
  have e6 : (-1000000 : Int64) = iJ (-1000000) := by decide
  obtain ⟨i1, i2⟩ := id hi
  obtain ⟨o1', o2'⟩ := id ho
  obtain ⟨k1, k2⟩ := hk
  unfold qFar
  by_cases c1 : isK V i
  · rw [bI_tI c1] at g1
    by_cases c2 : isK V o
    · rw [bI_tI c2] at g2
      by_cases c3 : i = o
      · rw [if_neg (fun z => z.2.2.1 c3)]
        refine ⟨T, ?_, FrA.rf _ _ _⟩
        simp (disch := first | omega | assumption | decide | (simp (disch := omega) only [iI_lit, iJ_lit, iJ_eq, iI_eq, bI_01, bI_01I] <;> omega)) only [c_Ds_far, e_Ds_far_0, e_Ds_far_1, e_Ds_far_2, e_Ds_far_5, e_Ds_far_8, e_Ds_far_9, e_Ds_far_10, e_Ds_far_13, e_Ds_far_16, e_Ds_far_17, e_Ds_far_18, e_Ds_far_21, e_Ds_far_24, e_Ds_far_25, e_Ds_far_26, e_Ds_far_29, e_Ds_far_30, e_Ds_far_33, e_Ds_far_34, e_Ds_far_35, e_Ds_far_38, e_Ds_far_39, e_Ds_far_42, e_Ds_far_43, e_Ds_far_44, e_Ds_far_47, e_Ds_far_50, e_Ds_far_51, e_Ds_far_76, e_Ds_far_77, e_Ds_far_80, e_Ds_far_83, e_Ds_far_84, e_Ds_far_85, e_Ds_far_88, e_Ds_far_91, e_Ds_far_92, e_Ds_far_93, e_Ds_far_96, e_Ds_far_99, e_Ds_far_100, e_Ds_far_103, e_Ds_far_106, e_Ds_far_109, e_Ds_far_112, e_Ds_far_113, e_Ds_far_116, bd_some, bd_none, Option.toList_some, Option.toList_none, List.nil_append, List.cons_append, px_kill_int, px_kill_long, px_kill_ref, px_kill_null, iI_lit, iJ_lit, iI_add, iI_sub, iI_mul, iI_neg, iJ_add, iJ_sub, iJ_mul, iJ_neg, iI_lt, iI_le, iI_eq, iJ_lt, iJ_le, iJ_eq, iI_div, iJ_div, tdiv_tmod, iI_J, iJ_I, iI_ix, iI_toInt, iJ_toInt, cmp_ge, cmp_lt, cmp_eq, cmp_gt, cmp_le, cmp_geI, cmp_ltI, cmp_eqI, cmp_gtI, cmp_leI, bI_0I, bI_1I, pin, if_true, g1, g2, one0, if_false, c3, e6]
      · obtain ⟨j, rfl⟩ : ∃ j : Nat, i = (j : Int) := ⟨i.toNat, by omega⟩
        obtain ⟨l, rfl⟩ : ∃ l : Nat, o = (l : Int) := ⟨o.toNat, by omega⟩
        have hj : j < V.1 := by have := c1.2; omega
        have hl : l < V.1 := by have := c2.2; omega
        obtain ⟨h4, hp, hs, hI⟩ := cC.at hV h hj
        obtain ⟨h4', hp', hs', hI'⟩ := cC.at hV h hl
        obtain ⟨T', e, fr, hC, hb, hu, hl'⟩ := c_beating hV h hj hl
        have ej : ((j : Int)).toNat = j := by omega
        have el : ((l : Int)).toNat = l := by omega
        have hbd := fr_bd (hV.2 j hj) (hV.2 l hl)
        have hdv := fr_div (hV.2 j hj) (hV.2 l hl)
        have hU := btU_bd (hV.2 j hj) (hV.2 l hl)
        have hL := btL_bd (hV.2 j hj) (hV.2 l hl)
        rw [ej, el]
        refine ⟨T', ?_, fr⟩
        generalize btU (V.2 j) (V.2 l) / btG (V.2 j) (V.2 l) = u at *
        generalize btL (V.2 j) (V.2 l) / btG (V.2 j) (V.2 l) = w at *
        generalize btU (V.2 j) (V.2 l) = U at *
        generalize btL (V.2 j) (V.2 l) = L at *
        by_cases k0 : k = 0
        · subst k0
          rw [if_pos ⟨c1, c2, c3, by omega⟩]
          simp (disch := first | omega | assumption | decide | (simp (disch := omega) only [iI_lit, iJ_lit, iJ_eq, iI_eq, bI_01, bI_01I] <;> omega)) only [c_Ds_far, e_Ds_far_0, e_Ds_far_1, e_Ds_far_2, e_Ds_far_5, e_Ds_far_8, e_Ds_far_9, e_Ds_far_10, e_Ds_far_13, e_Ds_far_16, e_Ds_far_17, e_Ds_far_18, e_Ds_far_21, e_Ds_far_24, e_Ds_far_25, e_Ds_far_26, e_Ds_far_29, e_Ds_far_30, e_Ds_far_33, e_Ds_far_34, e_Ds_far_35, e_Ds_far_38, e_Ds_far_39, e_Ds_far_42, e_Ds_far_43, e_Ds_far_44, e_Ds_far_47, e_Ds_far_50, e_Ds_far_51, e_Ds_far_76, e_Ds_far_77, e_Ds_far_80, e_Ds_far_83, e_Ds_far_84, e_Ds_far_85, e_Ds_far_88, e_Ds_far_91, e_Ds_far_92, e_Ds_far_93, e_Ds_far_96, e_Ds_far_99, e_Ds_far_100, e_Ds_far_103, e_Ds_far_106, e_Ds_far_109, e_Ds_far_112, e_Ds_far_113, e_Ds_far_116, bd_some, bd_none, Option.toList_some, Option.toList_none, List.nil_append, List.cons_append, px_kill_int, px_kill_long, px_kill_ref, px_kill_null, iI_lit, iJ_lit, iI_add, iI_sub, iI_mul, iI_neg, iJ_add, iJ_sub, iJ_mul, iJ_neg, iI_lt, iI_le, iI_eq, iJ_lt, iJ_le, iJ_eq, iI_div, iJ_div, tdiv_tmod, iI_J, iJ_I, iI_ix, iI_toInt, iJ_toInt, cmp_ge, cmp_lt, cmp_eq, cmp_gt, cmp_le, cmp_geI, cmp_ltI, cmp_eqI, cmp_gtI, cmp_leI, bI_0I, bI_1I, pin, if_true, g1, g2, one0, if_false, c3, sh_n5, sh_n14, ej, el, hs, hs', e, hu]
        by_cases k1 : k = 1
        · subst k1
          rw [if_pos ⟨c1, c2, c3, by omega⟩]
          simp (disch := first | omega | assumption | decide | (simp (disch := omega) only [iI_lit, iJ_lit, iJ_eq, iI_eq, bI_01, bI_01I] <;> omega)) only [c_Ds_far, e_Ds_far_0, e_Ds_far_1, e_Ds_far_2, e_Ds_far_5, e_Ds_far_8, e_Ds_far_9, e_Ds_far_10, e_Ds_far_13, e_Ds_far_16, e_Ds_far_17, e_Ds_far_18, e_Ds_far_21, e_Ds_far_24, e_Ds_far_25, e_Ds_far_26, e_Ds_far_29, e_Ds_far_30, e_Ds_far_33, e_Ds_far_34, e_Ds_far_35, e_Ds_far_38, e_Ds_far_39, e_Ds_far_42, e_Ds_far_43, e_Ds_far_44, e_Ds_far_47, e_Ds_far_50, e_Ds_far_51, e_Ds_far_76, e_Ds_far_77, e_Ds_far_80, e_Ds_far_83, e_Ds_far_84, e_Ds_far_85, e_Ds_far_88, e_Ds_far_91, e_Ds_far_92, e_Ds_far_93, e_Ds_far_96, e_Ds_far_99, e_Ds_far_100, e_Ds_far_103, e_Ds_far_106, e_Ds_far_109, e_Ds_far_112, e_Ds_far_113, e_Ds_far_116, bd_some, bd_none, Option.toList_some, Option.toList_none, List.nil_append, List.cons_append, px_kill_int, px_kill_long, px_kill_ref, px_kill_null, iI_lit, iJ_lit, iI_add, iI_sub, iI_mul, iI_neg, iJ_add, iJ_sub, iJ_mul, iJ_neg, iI_lt, iI_le, iI_eq, iJ_lt, iJ_le, iJ_eq, iI_div, iJ_div, tdiv_tmod, iI_J, iJ_I, iI_ix, iI_toInt, iJ_toInt, cmp_ge, cmp_lt, cmp_eq, cmp_gt, cmp_le, cmp_geI, cmp_ltI, cmp_eqI, cmp_gtI, cmp_leI, bI_0I, bI_1I, pin, if_true, g1, g2, one0, if_false, c3, sh_n5, sh_n14, ej, el, hs, hs', e, hl']
        by_cases k2 : k = 2
        · subst k2
          rw [if_pos ⟨c1, c2, c3, by omega⟩]
          have d1 := s_div (a := u) (b := w) (by omega) (by omega) (enc T')
          rw [hdv] at d1
          have bq := ediv_bd (a := U) (b := L) (by omega)
          have r1 := s_rootC (n := U / L) (by omega) (enc T')
          simp (disch := first | omega | assumption | decide | (simp (disch := omega) only [iI_lit, iJ_lit, iJ_eq, iI_eq, bI_01, bI_01I] <;> omega)) only [c_Ds_far, e_Ds_far_0, e_Ds_far_1, e_Ds_far_2, e_Ds_far_5, e_Ds_far_8, e_Ds_far_9, e_Ds_far_10, e_Ds_far_13, e_Ds_far_16, e_Ds_far_17, e_Ds_far_18, e_Ds_far_21, e_Ds_far_24, e_Ds_far_25, e_Ds_far_26, e_Ds_far_29, e_Ds_far_30, e_Ds_far_33, e_Ds_far_34, e_Ds_far_35, e_Ds_far_38, e_Ds_far_39, e_Ds_far_42, e_Ds_far_43, e_Ds_far_44, e_Ds_far_47, e_Ds_far_50, e_Ds_far_51, e_Ds_far_76, e_Ds_far_77, e_Ds_far_80, e_Ds_far_83, e_Ds_far_84, e_Ds_far_85, e_Ds_far_88, e_Ds_far_91, e_Ds_far_92, e_Ds_far_93, e_Ds_far_96, e_Ds_far_99, e_Ds_far_100, e_Ds_far_103, e_Ds_far_106, e_Ds_far_109, e_Ds_far_112, e_Ds_far_113, e_Ds_far_116, bd_some, bd_none, Option.toList_some, Option.toList_none, List.nil_append, List.cons_append, px_kill_int, px_kill_long, px_kill_ref, px_kill_null, iI_lit, iJ_lit, iI_add, iI_sub, iI_mul, iI_neg, iJ_add, iJ_sub, iJ_mul, iJ_neg, iI_lt, iI_le, iI_eq, iJ_lt, iJ_le, iJ_eq, iI_div, iJ_div, tdiv_tmod, iI_J, iJ_I, iI_ix, iI_toInt, iJ_toInt, cmp_ge, cmp_lt, cmp_eq, cmp_gt, cmp_le, cmp_geI, cmp_ltI, cmp_eqI, cmp_gtI, cmp_leI, bI_0I, bI_1I, pin, if_true, g1, g2, one0, if_false, c3, k0, k1, sh_n5, sh_n14, ej, el, hs, hs', e, hu, hl', d1, r1]
        · rw [if_neg (fun z => by omega)]
          simp (disch := first | omega | assumption | decide | (simp (disch := omega) only [iI_lit, iJ_lit, iJ_eq, iI_eq, bI_01, bI_01I] <;> omega)) only [c_Ds_far, e_Ds_far_0, e_Ds_far_1, e_Ds_far_2, e_Ds_far_5, e_Ds_far_8, e_Ds_far_9, e_Ds_far_10, e_Ds_far_13, e_Ds_far_16, e_Ds_far_17, e_Ds_far_18, e_Ds_far_21, e_Ds_far_24, e_Ds_far_25, e_Ds_far_26, e_Ds_far_29, e_Ds_far_30, e_Ds_far_33, e_Ds_far_34, e_Ds_far_35, e_Ds_far_38, e_Ds_far_39, e_Ds_far_42, e_Ds_far_43, e_Ds_far_44, e_Ds_far_47, e_Ds_far_50, e_Ds_far_51, e_Ds_far_76, e_Ds_far_77, e_Ds_far_80, e_Ds_far_83, e_Ds_far_84, e_Ds_far_85, e_Ds_far_88, e_Ds_far_91, e_Ds_far_92, e_Ds_far_93, e_Ds_far_96, e_Ds_far_99, e_Ds_far_100, e_Ds_far_103, e_Ds_far_106, e_Ds_far_109, e_Ds_far_112, e_Ds_far_113, e_Ds_far_116, bd_some, bd_none, Option.toList_some, Option.toList_none, List.nil_append, List.cons_append, px_kill_int, px_kill_long, px_kill_ref, px_kill_null, iI_lit, iJ_lit, iI_add, iI_sub, iI_mul, iI_neg, iJ_add, iJ_sub, iJ_mul, iJ_neg, iI_lt, iI_le, iI_eq, iJ_lt, iJ_le, iJ_eq, iI_div, iJ_div, tdiv_tmod, iI_J, iJ_I, iI_ix, iI_toInt, iJ_toInt, cmp_ge, cmp_lt, cmp_eq, cmp_gt, cmp_le, cmp_geI, cmp_ltI, cmp_eqI, cmp_gtI, cmp_leI, bI_0I, bI_1I, pin, if_true, g1, g2, one0, if_false, c3, k0, k1, k2, sh_n5, sh_n14, ej, el, hs, hs', e, e6]
    · rw [bI_fI c2] at g2
      rw [if_neg (fun z => c2 z.2.1)]
      refine ⟨T, ?_, FrA.rf _ _ _⟩
      simp (disch := first | omega | assumption | decide | (simp (disch := omega) only [iI_lit, iJ_lit, iJ_eq, iI_eq, bI_01, bI_01I] <;> omega)) only [c_Ds_far, e_Ds_far_0, e_Ds_far_1, e_Ds_far_2, e_Ds_far_5, e_Ds_far_8, e_Ds_far_9, e_Ds_far_10, e_Ds_far_13, e_Ds_far_16, e_Ds_far_17, e_Ds_far_18, e_Ds_far_21, e_Ds_far_24, e_Ds_far_25, e_Ds_far_26, e_Ds_far_29, e_Ds_far_30, e_Ds_far_33, e_Ds_far_34, e_Ds_far_35, e_Ds_far_38, e_Ds_far_39, e_Ds_far_42, e_Ds_far_43, e_Ds_far_44, e_Ds_far_47, e_Ds_far_50, e_Ds_far_51, e_Ds_far_76, e_Ds_far_77, e_Ds_far_80, e_Ds_far_83, e_Ds_far_84, e_Ds_far_85, e_Ds_far_88, e_Ds_far_91, e_Ds_far_92, e_Ds_far_93, e_Ds_far_96, e_Ds_far_99, e_Ds_far_100, e_Ds_far_103, e_Ds_far_106, e_Ds_far_109, e_Ds_far_112, e_Ds_far_113, e_Ds_far_116, bd_some, bd_none, Option.toList_some, Option.toList_none, List.nil_append, List.cons_append, px_kill_int, px_kill_long, px_kill_ref, px_kill_null, iI_lit, iJ_lit, iI_add, iI_sub, iI_mul, iI_neg, iJ_add, iJ_sub, iJ_mul, iJ_neg, iI_lt, iI_le, iI_eq, iJ_lt, iJ_le, iJ_eq, iI_div, iJ_div, tdiv_tmod, iI_J, iJ_I, iI_ix, iI_toInt, iJ_toInt, cmp_ge, cmp_lt, cmp_eq, cmp_gt, cmp_le, cmp_geI, cmp_ltI, cmp_eqI, cmp_gtI, cmp_leI, bI_0I, bI_1I, pin, if_true, g1, g2, one0, if_false, e6]
  · rw [bI_fI c1] at g1
    rw [if_neg (fun z => c1 z.1)]
    refine ⟨T, ?_, FrA.rf _ _ _⟩
    simp (disch := first | omega | assumption | decide | (simp (disch := omega) only [iI_lit, iJ_lit, iJ_eq, iI_eq, bI_01, bI_01I] <;> omega)) only [c_Ds_far, e_Ds_far_0, e_Ds_far_1, e_Ds_far_2, e_Ds_far_5, e_Ds_far_8, e_Ds_far_9, e_Ds_far_10, e_Ds_far_13, e_Ds_far_16, e_Ds_far_17, e_Ds_far_18, e_Ds_far_21, e_Ds_far_24, e_Ds_far_25, e_Ds_far_26, e_Ds_far_29, e_Ds_far_30, e_Ds_far_33, e_Ds_far_34, e_Ds_far_35, e_Ds_far_38, e_Ds_far_39, e_Ds_far_42, e_Ds_far_43, e_Ds_far_44, e_Ds_far_47, e_Ds_far_50, e_Ds_far_51, e_Ds_far_76, e_Ds_far_77, e_Ds_far_80, e_Ds_far_83, e_Ds_far_84, e_Ds_far_85, e_Ds_far_88, e_Ds_far_91, e_Ds_far_92, e_Ds_far_93, e_Ds_far_96, e_Ds_far_99, e_Ds_far_100, e_Ds_far_103, e_Ds_far_106, e_Ds_far_109, e_Ds_far_112, e_Ds_far_113, e_Ds_far_116, bd_some, bd_none, Option.toList_some, Option.toList_none, List.nil_append, List.cons_append, px_kill_int, px_kill_long, px_kill_ref, px_kill_null, iI_lit, iJ_lit, iI_add, iI_sub, iI_mul, iI_neg, iJ_add, iJ_sub, iJ_mul, iJ_neg, iI_lt, iI_le, iI_eq, iJ_lt, iJ_le, iJ_eq, iI_div, iJ_div, tdiv_tmod, iI_J, iJ_I, iI_ix, iI_toInt, iJ_toInt, cmp_ge, cmp_lt, cmp_eq, cmp_gt, cmp_le, cmp_geI, cmp_ltI, cmp_eqI, cmp_gtI, cmp_leI, bI_0I, bI_1I, pin, if_true, g1, e6]
theorem m_beatL {T : TS} {f g : Nat → Int} (hf : okN f) (hg : okN g) (hb : mBt T (bt f g)) (G : px_G) : cl k_Dm_squared [.long (T.2.1 53 35), .long (T.2.1 53 36)] G = some (some (.long (iJ (btL f g))), G) := by
  have h1 := bt_ok hf hg
  have h2 : btL f g ≠ 0 := btA_ne4 hf hg _
  obtain ⟨q1, q2, q3⟩ := h1.2.1 h2
  rw [hb.1, hb.2.1, s_squared, ← q1]
set_option maxHeartbeats 2000000 in
theorem q_Dm_far {T : TS} {V : VW} (hV : okV V) (h : cM T V) {i o k : Int} (hi : inI i) (ho : inI o) (hk : inI k) : ∃ T', cl k_Dm_far_III [.ref 53, .int (iI i), .int (iI o), .int (iI k)] (enc T) = some (some (.long (iJ (qFar V i o k))), enc T') ∧ FrM T T' := by
  have hM : cM (t0 T) V := h.fr (t0_fr T)
  have g1 := g_inM hV hM hi
  have g2 := g_inM hV hM ho
  have e6 : (-1000000 : Int64) = iJ (-1000000) := by decide
  obtain ⟨i1, i2⟩ := id hi
  obtain ⟨o1', o2'⟩ := id ho
  obtain ⟨k1, k2⟩ := hk
  have g3 := s_in (x := k) (l := 0) (h := 2) (enc (t0 T)) (by omega) (by omega) (by omega)
  unfold qFar
  by_cases c1 : isK V i
  · rw [bI_tI c1] at g1
    by_cases c2 : isK V o
    · rw [bI_tI c2] at g2
      by_cases c3 : i = o
      · rw [if_neg (fun z => z.2.2.1 c3)]
        refine ⟨t0 T, ?_, t0_fr T⟩
        simp (disch := first | omega | assumption | decide | (simp (disch := omega) only [iI_lit, iJ_lit, iJ_eq, iI_eq, bI_01, bI_01I] <;> omega)) only [c_Dm_far_III, e_Dm_far_III_0, e_Dm_far_III_1, e_Dm_far_III_2, e_Dm_far_III_5, e_Dm_far_III_6, e_Dm_far_III_7, e_Dm_far_III_10, e_Dm_far_III_13, e_Dm_far_III_14, e_Dm_far_III_15, e_Dm_far_III_18, e_Dm_far_III_21, e_Dm_far_III_22, e_Dm_far_III_23, e_Dm_far_III_26, e_Dm_far_III_27, e_Dm_far_III_28, e_Dm_far_III_29, e_Dm_far_III_32, e_Dm_far_III_35, e_Dm_far_III_38, e_Dm_far_III_41, e_Dm_far_III_42, e_Dm_far_III_43, e_Dm_far_III_44, e_Dm_far_III_45, e_Dm_far_III_48, e_Dm_far_III_49, e_Dm_far_III_50, e_Dm_far_III_51, e_Dm_far_III_54, e_Dm_far_III_56, e_Dm_far_III_57, e_Dm_far_III_60, e_Dm_far_III_61, e_Dm_far_III_64, e_Dm_far_III_67, e_Dm_far_III_69, e_Dm_far_III_71, e_Dm_far_III_73, e_Dm_far_III_76, e_Dm_far_III_78, e_Dm_far_III_79, e_Dm_far_III_82, e_Dm_far_III_84, e_Dm_far_III_86, e_Dm_far_III_87, e_Dm_far_III_90, e_Dm_far_III_91, e_Dm_far_III_92, e_Dm_far_III_95, e_Dm_far_III_97, e_Dm_far_III_99, e_Dm_far_III_100, e_Dm_far_III_103, e_Dm_far_III_105, e_Dm_far_III_107, e_Dm_far_III_108, e_Dm_far_III_111, bd_some, bd_none, Option.toList_some, Option.toList_none, List.nil_append, List.cons_append, px_kill_int, px_kill_long, px_kill_ref, px_kill_null, iI_lit, iJ_lit, iI_add, iI_sub, iI_mul, iI_neg, iJ_add, iJ_sub, iJ_mul, iJ_neg, iI_lt, iI_le, iI_eq, iJ_lt, iJ_le, iJ_eq, iI_div, iJ_div, tdiv_tmod, iI_J, iJ_I, iI_ix, iI_toInt, iJ_toInt, cmp_ge, cmp_lt, cmp_eq, cmp_gt, cmp_le, cmp_geI, cmp_ltI, cmp_eqI, cmp_gtI, cmp_leI, bI_0I, bI_1I, pin, if_true, g1, g2, one0, if_false, c3, e6]
      · by_cases c4 : 0 ≤ k ∧ k ≤ 2
        · rw [bI_tI c4] at g3
          rw [if_pos ⟨c1, c2, c3, c4⟩]
          obtain ⟨j, rfl⟩ : ∃ j : Nat, i = (j : Int) := ⟨i.toNat, by omega⟩
          obtain ⟨l, rfl⟩ : ∃ l : Nat, o = (l : Int) := ⟨o.toNat, by omega⟩
          have hj : j < V.1 := by have := c1.2; omega
          have hl : l < V.1 := by have := c2.2; omega
          have h4 := hV.1
          obtain ⟨T', e, fr, hb⟩ := m_laysBeatOf hV hM hj hl
          have hM' := hM.fr fr
          have eu := m_upperOf hV hM' hj hl
          have esq := m_beatL (hV.2 j hj) (hV.2 l hl) hb (enc T')
          have hU := btU_bd (hV.2 j hj) (hV.2 l hl)
          have hL := btL_bd (hV.2 j hj) (hV.2 l hl)
          have hG := btG_bd (hV.2 j hj) (hV.2 l hl)
          have ep := s_part (a := btU (V.2 j) (V.2 l)) (b := btL (V.2 j) (V.2 l)) (by omega) (by omega) (enc T')
          have ej : ((j : Int)).toNat = j := by omega
          have el : ((l : Int)).toNat = l := by omega
          have edG : ((Int.gcd (btU (V.2 j) (V.2 l)) (btL (V.2 j) (V.2 l)) : Nat) : Int) = btG (V.2 j) (V.2 l) := rfl
          rw [edG] at ep
          rw [ej, el]
          refine ⟨T', ?_, (t0_fr T).tr fr⟩
          generalize btG (V.2 j) (V.2 l) = G at *
          generalize btU (V.2 j) (V.2 l) = U at *
          generalize btL (V.2 j) (V.2 l) = L at *
          have tU : U.tdiv G = U / G := Int.tdiv_eq_ediv_of_nonneg (by omega)
          have tL : L.tdiv G = L / G := Int.tdiv_eq_ediv_of_nonneg (by omega)
          have tR : U.tdiv L = U / L := Int.tdiv_eq_ediv_of_nonneg (by omega)
          have bq := ediv_bd (a := U) (b := L) (by omega)
          have r1 := s_rootM (n := U / L) (by omega) (enc T')
          have nG : ¬ G = 0 := by omega
          have nL : ¬ L = 0 := by omega
          by_cases k0 : k = 0
          · subst k0
            simp (disch := first | omega | assumption | decide | (simp (disch := omega) only [iI_lit, iJ_lit, iJ_eq, iI_eq, bI_01, bI_01I] <;> omega)) only [c_Dm_far_III, e_Dm_far_III_0, e_Dm_far_III_1, e_Dm_far_III_2, e_Dm_far_III_5, e_Dm_far_III_6, e_Dm_far_III_7, e_Dm_far_III_10, e_Dm_far_III_13, e_Dm_far_III_14, e_Dm_far_III_15, e_Dm_far_III_18, e_Dm_far_III_21, e_Dm_far_III_22, e_Dm_far_III_23, e_Dm_far_III_26, e_Dm_far_III_27, e_Dm_far_III_28, e_Dm_far_III_29, e_Dm_far_III_32, e_Dm_far_III_35, e_Dm_far_III_38, e_Dm_far_III_41, e_Dm_far_III_42, e_Dm_far_III_43, e_Dm_far_III_44, e_Dm_far_III_45, e_Dm_far_III_48, e_Dm_far_III_49, e_Dm_far_III_50, e_Dm_far_III_51, e_Dm_far_III_54, e_Dm_far_III_56, e_Dm_far_III_57, e_Dm_far_III_60, e_Dm_far_III_61, e_Dm_far_III_64, e_Dm_far_III_67, e_Dm_far_III_69, e_Dm_far_III_71, e_Dm_far_III_73, e_Dm_far_III_76, e_Dm_far_III_78, e_Dm_far_III_79, e_Dm_far_III_82, e_Dm_far_III_84, e_Dm_far_III_86, e_Dm_far_III_87, e_Dm_far_III_90, e_Dm_far_III_91, e_Dm_far_III_92, e_Dm_far_III_95, e_Dm_far_III_97, e_Dm_far_III_99, e_Dm_far_III_100, e_Dm_far_III_103, e_Dm_far_III_105, e_Dm_far_III_107, e_Dm_far_III_108, e_Dm_far_III_111, bd_some, bd_none, Option.toList_some, Option.toList_none, List.nil_append, List.cons_append, px_kill_int, px_kill_long, px_kill_ref, px_kill_null, iI_lit, iJ_lit, iI_add, iI_sub, iI_mul, iI_neg, iJ_add, iJ_sub, iJ_mul, iJ_neg, iI_lt, iI_le, iI_eq, iJ_lt, iJ_le, iJ_eq, iI_div, iJ_div, tdiv_tmod, iI_J, iJ_I, iI_ix, iI_toInt, iJ_toInt, cmp_ge, cmp_lt, cmp_eq, cmp_gt, cmp_le, cmp_geI, cmp_ltI, cmp_eqI, cmp_gtI, cmp_leI, bI_0I, bI_1I, pin, if_true, g1, g2, g3, one0, if_false, c3, ej, el, e, eu, esq, ep, nG, tU]
          by_cases k1 : k = 1
          · subst k1
            simp (disch := first | omega | assumption | decide | (simp (disch := omega) only [iI_lit, iJ_lit, iJ_eq, iI_eq, bI_01, bI_01I] <;> omega)) only [c_Dm_far_III, e_Dm_far_III_0, e_Dm_far_III_1, e_Dm_far_III_2, e_Dm_far_III_5, e_Dm_far_III_6, e_Dm_far_III_7, e_Dm_far_III_10, e_Dm_far_III_13, e_Dm_far_III_14, e_Dm_far_III_15, e_Dm_far_III_18, e_Dm_far_III_21, e_Dm_far_III_22, e_Dm_far_III_23, e_Dm_far_III_26, e_Dm_far_III_27, e_Dm_far_III_28, e_Dm_far_III_29, e_Dm_far_III_32, e_Dm_far_III_35, e_Dm_far_III_38, e_Dm_far_III_41, e_Dm_far_III_42, e_Dm_far_III_43, e_Dm_far_III_44, e_Dm_far_III_45, e_Dm_far_III_48, e_Dm_far_III_49, e_Dm_far_III_50, e_Dm_far_III_51, e_Dm_far_III_54, e_Dm_far_III_56, e_Dm_far_III_57, e_Dm_far_III_60, e_Dm_far_III_61, e_Dm_far_III_64, e_Dm_far_III_67, e_Dm_far_III_69, e_Dm_far_III_71, e_Dm_far_III_73, e_Dm_far_III_76, e_Dm_far_III_78, e_Dm_far_III_79, e_Dm_far_III_82, e_Dm_far_III_84, e_Dm_far_III_86, e_Dm_far_III_87, e_Dm_far_III_90, e_Dm_far_III_91, e_Dm_far_III_92, e_Dm_far_III_95, e_Dm_far_III_97, e_Dm_far_III_99, e_Dm_far_III_100, e_Dm_far_III_103, e_Dm_far_III_105, e_Dm_far_III_107, e_Dm_far_III_108, e_Dm_far_III_111, bd_some, bd_none, Option.toList_some, Option.toList_none, List.nil_append, List.cons_append, px_kill_int, px_kill_long, px_kill_ref, px_kill_null, iI_lit, iJ_lit, iI_add, iI_sub, iI_mul, iI_neg, iJ_add, iJ_sub, iJ_mul, iJ_neg, iI_lt, iI_le, iI_eq, iJ_lt, iJ_le, iJ_eq, iI_div, iJ_div, tdiv_tmod, iI_J, iJ_I, iI_ix, iI_toInt, iJ_toInt, cmp_ge, cmp_lt, cmp_eq, cmp_gt, cmp_le, cmp_geI, cmp_ltI, cmp_eqI, cmp_gtI, cmp_leI, bI_0I, bI_1I, pin, if_true, g1, g2, g3, one0, if_false, c3, ej, el, e, eu, esq, ep, nG, tL]
          have k2 : k = 2 := by omega
          subst k2
          simp (disch := first | omega | assumption | decide | (simp (disch := omega) only [iI_lit, iJ_lit, iJ_eq, iI_eq, bI_01, bI_01I] <;> omega)) only [c_Dm_far_III, e_Dm_far_III_0, e_Dm_far_III_1, e_Dm_far_III_2, e_Dm_far_III_5, e_Dm_far_III_6, e_Dm_far_III_7, e_Dm_far_III_10, e_Dm_far_III_13, e_Dm_far_III_14, e_Dm_far_III_15, e_Dm_far_III_18, e_Dm_far_III_21, e_Dm_far_III_22, e_Dm_far_III_23, e_Dm_far_III_26, e_Dm_far_III_27, e_Dm_far_III_28, e_Dm_far_III_29, e_Dm_far_III_32, e_Dm_far_III_35, e_Dm_far_III_38, e_Dm_far_III_41, e_Dm_far_III_42, e_Dm_far_III_43, e_Dm_far_III_44, e_Dm_far_III_45, e_Dm_far_III_48, e_Dm_far_III_49, e_Dm_far_III_50, e_Dm_far_III_51, e_Dm_far_III_54, e_Dm_far_III_56, e_Dm_far_III_57, e_Dm_far_III_60, e_Dm_far_III_61, e_Dm_far_III_64, e_Dm_far_III_67, e_Dm_far_III_69, e_Dm_far_III_71, e_Dm_far_III_73, e_Dm_far_III_76, e_Dm_far_III_78, e_Dm_far_III_79, e_Dm_far_III_82, e_Dm_far_III_84, e_Dm_far_III_86, e_Dm_far_III_87, e_Dm_far_III_90, e_Dm_far_III_91, e_Dm_far_III_92, e_Dm_far_III_95, e_Dm_far_III_97, e_Dm_far_III_99, e_Dm_far_III_100, e_Dm_far_III_103, e_Dm_far_III_105, e_Dm_far_III_107, e_Dm_far_III_108, e_Dm_far_III_111, bd_some, bd_none, Option.toList_some, Option.toList_none, List.nil_append, List.cons_append, px_kill_int, px_kill_long, px_kill_ref, px_kill_null, iI_lit, iJ_lit, iI_add, iI_sub, iI_mul, iI_neg, iJ_add, iJ_sub, iJ_mul, iJ_neg, iI_lt, iI_le, iI_eq, iJ_lt, iJ_le, iJ_eq, iI_div, iJ_div, tdiv_tmod, iI_J, iJ_I, iI_ix, iI_toInt, iJ_toInt, cmp_ge, cmp_lt, cmp_eq, cmp_gt, cmp_le, cmp_geI, cmp_ltI, cmp_eqI, cmp_gtI, cmp_leI, bI_0I, bI_1I, pin, if_true, g1, g2, g3, one0, if_false, c3, k0, k1, ej, el, e, eu, esq, ep, nL, tR, r1]
        · rw [bI_fI c4] at g3
          rw [if_neg (fun z => c4 z.2.2.2)]
          refine ⟨t0 T, ?_, t0_fr T⟩
          simp (disch := first | omega | assumption | decide | (simp (disch := omega) only [iI_lit, iJ_lit, iJ_eq, iI_eq, bI_01, bI_01I] <;> omega)) only [c_Dm_far_III, e_Dm_far_III_0, e_Dm_far_III_1, e_Dm_far_III_2, e_Dm_far_III_5, e_Dm_far_III_6, e_Dm_far_III_7, e_Dm_far_III_10, e_Dm_far_III_13, e_Dm_far_III_14, e_Dm_far_III_15, e_Dm_far_III_18, e_Dm_far_III_21, e_Dm_far_III_22, e_Dm_far_III_23, e_Dm_far_III_26, e_Dm_far_III_27, e_Dm_far_III_28, e_Dm_far_III_29, e_Dm_far_III_32, e_Dm_far_III_35, e_Dm_far_III_38, e_Dm_far_III_41, e_Dm_far_III_42, e_Dm_far_III_43, e_Dm_far_III_44, e_Dm_far_III_45, e_Dm_far_III_48, e_Dm_far_III_49, e_Dm_far_III_50, e_Dm_far_III_51, e_Dm_far_III_54, e_Dm_far_III_56, e_Dm_far_III_57, e_Dm_far_III_60, e_Dm_far_III_61, e_Dm_far_III_64, e_Dm_far_III_67, e_Dm_far_III_69, e_Dm_far_III_71, e_Dm_far_III_73, e_Dm_far_III_76, e_Dm_far_III_78, e_Dm_far_III_79, e_Dm_far_III_82, e_Dm_far_III_84, e_Dm_far_III_86, e_Dm_far_III_87, e_Dm_far_III_90, e_Dm_far_III_91, e_Dm_far_III_92, e_Dm_far_III_95, e_Dm_far_III_97, e_Dm_far_III_99, e_Dm_far_III_100, e_Dm_far_III_103, e_Dm_far_III_105, e_Dm_far_III_107, e_Dm_far_III_108, e_Dm_far_III_111, bd_some, bd_none, Option.toList_some, Option.toList_none, List.nil_append, List.cons_append, px_kill_int, px_kill_long, px_kill_ref, px_kill_null, iI_lit, iJ_lit, iI_add, iI_sub, iI_mul, iI_neg, iJ_add, iJ_sub, iJ_mul, iJ_neg, iI_lt, iI_le, iI_eq, iJ_lt, iJ_le, iJ_eq, iI_div, iJ_div, tdiv_tmod, iI_J, iJ_I, iI_ix, iI_toInt, iJ_toInt, cmp_ge, cmp_lt, cmp_eq, cmp_gt, cmp_le, cmp_geI, cmp_ltI, cmp_eqI, cmp_gtI, cmp_leI, bI_0I, bI_1I, pin, if_true, g1, g2, g3, one0, if_false, c3, e6]
    · rw [bI_fI c2] at g2
      rw [if_neg (fun z => c2 z.2.1)]
      refine ⟨t0 T, ?_, t0_fr T⟩
      simp (disch := first | omega | assumption | decide | (simp (disch := omega) only [iI_lit, iJ_lit, iJ_eq, iI_eq, bI_01, bI_01I] <;> omega)) only [c_Dm_far_III, e_Dm_far_III_0, e_Dm_far_III_1, e_Dm_far_III_2, e_Dm_far_III_5, e_Dm_far_III_6, e_Dm_far_III_7, e_Dm_far_III_10, e_Dm_far_III_13, e_Dm_far_III_14, e_Dm_far_III_15, e_Dm_far_III_18, e_Dm_far_III_21, e_Dm_far_III_22, e_Dm_far_III_23, e_Dm_far_III_26, e_Dm_far_III_27, e_Dm_far_III_28, e_Dm_far_III_29, e_Dm_far_III_32, e_Dm_far_III_35, e_Dm_far_III_38, e_Dm_far_III_41, e_Dm_far_III_42, e_Dm_far_III_43, e_Dm_far_III_44, e_Dm_far_III_45, e_Dm_far_III_48, e_Dm_far_III_49, e_Dm_far_III_50, e_Dm_far_III_51, e_Dm_far_III_54, e_Dm_far_III_56, e_Dm_far_III_57, e_Dm_far_III_60, e_Dm_far_III_61, e_Dm_far_III_64, e_Dm_far_III_67, e_Dm_far_III_69, e_Dm_far_III_71, e_Dm_far_III_73, e_Dm_far_III_76, e_Dm_far_III_78, e_Dm_far_III_79, e_Dm_far_III_82, e_Dm_far_III_84, e_Dm_far_III_86, e_Dm_far_III_87, e_Dm_far_III_90, e_Dm_far_III_91, e_Dm_far_III_92, e_Dm_far_III_95, e_Dm_far_III_97, e_Dm_far_III_99, e_Dm_far_III_100, e_Dm_far_III_103, e_Dm_far_III_105, e_Dm_far_III_107, e_Dm_far_III_108, e_Dm_far_III_111, bd_some, bd_none, Option.toList_some, Option.toList_none, List.nil_append, List.cons_append, px_kill_int, px_kill_long, px_kill_ref, px_kill_null, iI_lit, iJ_lit, iI_add, iI_sub, iI_mul, iI_neg, iJ_add, iJ_sub, iJ_mul, iJ_neg, iI_lt, iI_le, iI_eq, iJ_lt, iJ_le, iJ_eq, iI_div, iJ_div, tdiv_tmod, iI_J, iJ_I, iI_ix, iI_toInt, iJ_toInt, cmp_ge, cmp_lt, cmp_eq, cmp_gt, cmp_le, cmp_geI, cmp_ltI, cmp_eqI, cmp_gtI, cmp_leI, bI_0I, bI_1I, pin, if_true, g1, g2, one0, if_false, e6]
  · rw [bI_fI c1] at g1
    rw [if_neg (fun z => c1 z.1)]
    refine ⟨t0 T, ?_, t0_fr T⟩
    simp (disch := first | omega | assumption | decide | (simp (disch := omega) only [iI_lit, iJ_lit, iJ_eq, iI_eq, bI_01, bI_01I] <;> omega)) only [c_Dm_far_III, e_Dm_far_III_0, e_Dm_far_III_1, e_Dm_far_III_2, e_Dm_far_III_5, e_Dm_far_III_6, e_Dm_far_III_7, e_Dm_far_III_10, e_Dm_far_III_13, e_Dm_far_III_14, e_Dm_far_III_15, e_Dm_far_III_18, e_Dm_far_III_21, e_Dm_far_III_22, e_Dm_far_III_23, e_Dm_far_III_26, e_Dm_far_III_27, e_Dm_far_III_28, e_Dm_far_III_29, e_Dm_far_III_32, e_Dm_far_III_35, e_Dm_far_III_38, e_Dm_far_III_41, e_Dm_far_III_42, e_Dm_far_III_43, e_Dm_far_III_44, e_Dm_far_III_45, e_Dm_far_III_48, e_Dm_far_III_49, e_Dm_far_III_50, e_Dm_far_III_51, e_Dm_far_III_54, e_Dm_far_III_56, e_Dm_far_III_57, e_Dm_far_III_60, e_Dm_far_III_61, e_Dm_far_III_64, e_Dm_far_III_67, e_Dm_far_III_69, e_Dm_far_III_71, e_Dm_far_III_73, e_Dm_far_III_76, e_Dm_far_III_78, e_Dm_far_III_79, e_Dm_far_III_82, e_Dm_far_III_84, e_Dm_far_III_86, e_Dm_far_III_87, e_Dm_far_III_90, e_Dm_far_III_91, e_Dm_far_III_92, e_Dm_far_III_95, e_Dm_far_III_97, e_Dm_far_III_99, e_Dm_far_III_100, e_Dm_far_III_103, e_Dm_far_III_105, e_Dm_far_III_107, e_Dm_far_III_108, e_Dm_far_III_111, bd_some, bd_none, Option.toList_some, Option.toList_none, List.nil_append, List.cons_append, px_kill_int, px_kill_long, px_kill_ref, px_kill_null, iI_lit, iJ_lit, iI_add, iI_sub, iI_mul, iI_neg, iJ_add, iJ_sub, iJ_mul, iJ_neg, iI_lt, iI_le, iI_eq, iJ_lt, iJ_le, iJ_eq, iI_div, iJ_div, tdiv_tmod, iI_J, iJ_I, iI_ix, iI_toInt, iJ_toInt, cmp_ge, cmp_lt, cmp_eq, cmp_gt, cmp_le, cmp_geI, cmp_ltI, cmp_eqI, cmp_gtI, cmp_leI, bI_0I, bI_1I, pin, if_true, g1, e6]
