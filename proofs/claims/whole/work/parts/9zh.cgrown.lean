/-! dots and grown of the component. -/
def grwP (T : TS) (p : Nat) (f : Nat → Int) : Prop := (∀ k : Nat, (k : Int) ≤ celN f → T.1 (p + 6) k = iI (gN f k)) ∧ T.1 p 11 = iI (gN f 200) ∧ T.1 p 12 = iI (gN f 201)
set_option maxHeartbeats 1000000 in
theorem c_grow {T : TS} {S : FS} (hS : okF S) (h : fC GG T S) {j : Nat} (hj : j < S.1.1) : ∃ T', cl k_Growth_grow [.ref 7, .ref (T.2.2.1 j)] (enc T) = some (none, enc T') ∧ fC GG T' S ∧ sepC T T' ∧ T'.2.2 = T.2.2 ∧ grwP T' (T.2.2.1 j) (S.1.2 j) := by
  obtain ⟨h4, hp, hs, hI⟩ := cC.at hS.1 h.1 hj
  have hg := h.2.2.2.2 j hj
  rcases hg with g0 | ⟨g1, g2, g3, g4⟩
  case inr =>
    refine ⟨T, ?_, h, sepC.rf T, rfl, g2, g3, g4⟩
    simp (disch := first | omega | assumption | decide | (simp (disch := omega) only [iI_lit, iJ_lit, iJ_eq, iI_eq, bI_01, bI_01I] <;> omega)) only [c_Growth_grow, e_Growth_grow_0, e_Growth_grow_1, e_Growth_grow_4, e_Growth_grow_7, bd_some, bd_none, Option.toList_some, Option.toList_none, List.nil_append, List.cons_append, px_kill_int, px_kill_long, px_kill_ref, px_kill_null, iI_lit, iJ_lit, iI_add, iI_sub, iI_mul, iI_neg, iJ_add, iJ_sub, iJ_mul, iJ_neg, iI_lt, iI_le, iI_eq, iJ_lt, iJ_le, iJ_eq, iI_div, iJ_div, tdiv_tmod, iI_J, iJ_I, iI_ix, iI_toInt, iJ_toInt, cmp_ge, cmp_lt, cmp_eq, cmp_gt, cmp_le, cmp_geI, cmp_ltI, cmp_eqI, cmp_gtI, cmp_leI, bI_0I, bI_1I, pin, if_true, g1, one0, if_false]
  case inl =>
    obtain ⟨T', e, fr, s1, k1, k2, k3, k4⟩ := s_grow hp hI.1 hI.2.2.2.2 g0
    obtain ⟨⟨c1, c2, c3, c4⟩, ⟨d2, d3⟩, d4, d5, d6⟩ := id h
    have hR : T'.2.2.1 = T.2.2.1 := by rw [fr.2]
    have hV := hS.1.1
    have pp := hp
    unfold isPl at pp
    generalize hpe : T.2.2.1 j = p at *
    have nA : ∀ q k, ¬ (7 ≤ q ∧ q ≤ 11) → ¬ (p ≤ q ∧ q < p + 7) → ¬ (aSort p q k ∨ aGrw p q k) := by
      intro q k q1 q2
      unfold aSort aGrw
      omega
    have own : inkC T' p (S.1.2 j) := by
      obtain ⟨i1, i2, i3, i4, i5⟩ := hI
      refine ⟨i1.fr fr (fun k => by unfold aSort aGrw; omega) (by unfold aSort aGrw; omega) (by unfold aSort aGrw; omega), ?_, ?_, ?_, Or.inr s1⟩
      · rw [fr.1 _ _ (by unfold aSort aGrw; omega)]; exact i2
      · rw [fr.1 _ _ (by unfold aSort aGrw; omega)]; exact i3
      · rw [fr.1 _ _ (by unfold aSort aGrw; omega)]; exact i4
    have sep : ∀ i, i < S.1.1 → i ≠ j → T.2.2.1 i + 7 ≤ p ∨ p + 7 ≤ T.2.2.1 i := fun i hi hij => by
      have := isPl_sep (c2 i (by omega)) (c2 j (by omega)) (fun e => hij (c3 i j (by omega) (by omega) e))
      omega
    refine ⟨T', e, ⟨⟨?_, by rw [hR]; exact c2, by rw [hR]; exact c3, fun i hi => ?_⟩, ⟨?_, fun k hk => ?_⟩, fun k hk => ?_, ?_, fun i hi => ?_⟩, ?_, by rw [fr.2], k2, k3, k4⟩
    · rw [fr.1 _ _ (nA _ _ (by omega) (by omega))]; exact c1
    · rw [hR]
      by_cases z : i = j
      · rw [z, hpe]; exact own
      · have hpi := c2 i (by omega)
        unfold isPl at hpi
        have hsp := sep i hi z
        exact (c4 i hi).fr fr (fun q k q1 q2 => nA q k (by omega) (by omega))
    · rw [fr.1 _ _ (nA _ _ (by omega) (by omega))]; exact d2
    · rw [fr.1 _ _ (nA _ _ (by omega) (by omega))]; exact d3 k hk
    · rw [fr.1 _ _ (nA _ _ (by omega) (by omega))]; exact d4 k hk
    · exact d5.same (fun q k q1 q2 => fr.1 q k (nA _ _ (by omega) (by omega)))
    · rw [hR]
      by_cases z : i = j
      · rw [z, hpe]
        exact Or.inr ⟨k1, k2, k3, k4⟩
      · have hpi := c2 i (by omega)
        unfold isPl at hpi
        have hsp := sep i hi z
        exact (d6 i hi).same (fr.1 _ _ (nA _ _ (by omega) (by omega))) (fun k => fr.1 _ _ (nA _ _ (by omega) (by omega))) (fr.1 _ _ (nA _ _ (by omega) (by omega))) (fr.1 _ _ (nA _ _ (by omega) (by omega)))
    · refine sepC.ofA (FrA.of (b := fun _ _ => False) fr) (fun q k z => ?_) (fun q k z => z.elim)
      unfold aSort aGrw at z
      omega
set_option maxHeartbeats 1000000 in
theorem u_Ds_dots {T : TS} {S : FS} (hS : okF S) (h : fC GG T S) {i l : Int} (hi : inI i) (hl : inI l) : ∃ T', cl k_Ds_dots [.ref 0, .int (iI i), .int (iI l)] (enc T) = some (some (.int (iI (qDots S.1 i l))), enc T') ∧ fC GG T' S ∧ sepC T T' := by
  have g1 := g_isInk hS.1 h.1 hi
  obtain ⟨i1, i2⟩ := id hi
  obtain ⟨l1, l2⟩ := id hl
  unfold qDots
  by_cases c1 : isK S.1 i
  case neg =>
    rw [bI_fI c1] at g1
    rw [if_neg (fun z => c1 z.1)]
    refine ⟨T, ?_, h, sepC.rf T⟩
    simp (disch := first | omega | assumption | decide | (simp (disch := omega) only [iI_lit, iJ_lit, iJ_eq, iI_eq, bI_01, bI_01I] <;> omega)) only [c_Ds_dots, e_Ds_dots_0, e_Ds_dots_1, e_Ds_dots_2, e_Ds_dots_5, e_Ds_dots_8, e_Ds_dots_9, e_Ds_dots_12, e_Ds_dots_13, e_Ds_dots_14, e_Ds_dots_17, e_Ds_dots_18, e_Ds_dots_19, e_Ds_dots_22, e_Ds_dots_25, e_Ds_dots_26, e_Ds_dots_27, e_Ds_dots_28, e_Ds_dots_31, e_Ds_dots_32, e_Ds_dots_35, e_Ds_dots_36, e_Ds_dots_37, e_Ds_dots_40, e_Ds_dots_41, e_Ds_dots_44, e_Ds_dots_45, e_Ds_dots_46, e_Ds_dots_49, e_Ds_dots_50, e_Ds_dots_53, bd_some, bd_none, Option.toList_some, Option.toList_none, List.nil_append, List.cons_append, px_kill_int, px_kill_long, px_kill_ref, px_kill_null, iI_lit, iJ_lit, iI_add, iI_sub, iI_mul, iI_neg, iJ_add, iJ_sub, iJ_mul, iJ_neg, iI_lt, iI_le, iI_eq, iJ_lt, iJ_le, iJ_eq, iI_div, iJ_div, tdiv_tmod, iI_J, iJ_I, iI_ix, iI_toInt, iJ_toInt, cmp_ge, cmp_lt, cmp_eq, cmp_gt, cmp_le, cmp_geI, cmp_ltI, cmp_eqI, cmp_gtI, cmp_leI, bI_0I, bI_1I, pin, if_true, g1]
  rw [bI_tI c1] at g1
  obtain ⟨j, rfl⟩ : ∃ j : Nat, i = (j : Int) := ⟨i.toNat, by omega⟩
  have hj : j < S.1.1 := by have := c1.2; omega
  have ej : ((j : Int)).toNat = j := by omega
  obtain ⟨h4, hp, hs, hI⟩ := cC.at hS.1 h.1 hj
  have hcel : T.1 (T.2.2.1 j) 2 = iI (celN (S.1.2 j)) := hI.1.2.2.2.2.1
  have bT : 0 < celN (S.1.2 j) ∧ celN (S.1.2 j) ≤ 144 := cel_bd (hS.1.2 j hj).1
  rw [ej]
  by_cases c2 : l < 0
  · rw [if_neg (fun z => by omega)]
    refine ⟨T, ?_, h, sepC.rf T⟩
    simp (disch := first | omega | assumption | decide | (simp (disch := omega) only [iI_lit, iJ_lit, iJ_eq, iI_eq, bI_01, bI_01I] <;> omega)) only [c_Ds_dots, e_Ds_dots_0, e_Ds_dots_1, e_Ds_dots_2, e_Ds_dots_5, e_Ds_dots_8, e_Ds_dots_9, e_Ds_dots_12, e_Ds_dots_13, e_Ds_dots_14, e_Ds_dots_17, e_Ds_dots_18, e_Ds_dots_19, e_Ds_dots_22, e_Ds_dots_25, e_Ds_dots_26, e_Ds_dots_27, e_Ds_dots_28, e_Ds_dots_31, e_Ds_dots_32, e_Ds_dots_35, e_Ds_dots_36, e_Ds_dots_37, e_Ds_dots_40, e_Ds_dots_41, e_Ds_dots_44, e_Ds_dots_45, e_Ds_dots_46, e_Ds_dots_49, e_Ds_dots_50, e_Ds_dots_53, bd_some, bd_none, Option.toList_some, Option.toList_none, List.nil_append, List.cons_append, px_kill_int, px_kill_long, px_kill_ref, px_kill_null, iI_lit, iJ_lit, iI_add, iI_sub, iI_mul, iI_neg, iJ_add, iJ_sub, iJ_mul, iJ_neg, iI_lt, iI_le, iI_eq, iJ_lt, iJ_le, iJ_eq, iI_div, iJ_div, tdiv_tmod, iI_J, iJ_I, iI_ix, iI_toInt, iJ_toInt, cmp_ge, cmp_lt, cmp_eq, cmp_gt, cmp_le, cmp_geI, cmp_ltI, cmp_eqI, cmp_gtI, cmp_leI, bI_0I, bI_1I, pin, if_true, g1, one0, if_false, c2]
  by_cases c3 : l ≤ celN (S.1.2 j)
  · rw [if_pos ⟨c1, by omega, c3⟩]
    obtain ⟨r, rfl⟩ : ∃ r : Nat, l = (r : Int) := ⟨l.toNat, by omega⟩
    have er : ((r : Int)).toNat = r := by omega
    obtain ⟨T', e, hF, hsp, hR, k1, k2, k3⟩ := c_grow hS h hj
    refine ⟨T', ?_, hF, hsp⟩
    have q6 := ink_s6 hs
    have q6' : (sh (T.2.2.1 j + 6)).1 = 0 := by rw [q6]
    have hat : cl k_Ds_at [.ref (T.2.2.1 j + 6), .int (iI (r : Int))] (enc T') = some (some (.int (iI (gN (S.1.2 j) r))), enc T') := by
      rw [s_at _ _ T' q6', q6, if_pos (by rw [px_in, iI_toInt (by omega) (by omega)]; omega), iI_ix (by omega) (by omega), er, k1 r c3]
    have hR1 : T'.2.2.1 j = T.2.2.1 j := by rw [hR]
    rw [er]
    simp (disch := first | omega | assumption | decide | (simp (disch := omega) only [iI_lit, iJ_lit, iJ_eq, iI_eq, bI_01, bI_01I] <;> omega)) only [c_Ds_dots, e_Ds_dots_0, e_Ds_dots_1, e_Ds_dots_2, e_Ds_dots_5, e_Ds_dots_8, e_Ds_dots_9, e_Ds_dots_12, e_Ds_dots_13, e_Ds_dots_14, e_Ds_dots_17, e_Ds_dots_18, e_Ds_dots_19, e_Ds_dots_22, e_Ds_dots_25, e_Ds_dots_26, e_Ds_dots_27, e_Ds_dots_28, e_Ds_dots_31, e_Ds_dots_32, e_Ds_dots_35, e_Ds_dots_36, e_Ds_dots_37, e_Ds_dots_40, e_Ds_dots_41, e_Ds_dots_44, e_Ds_dots_45, e_Ds_dots_46, e_Ds_dots_49, e_Ds_dots_50, e_Ds_dots_53, bd_some, bd_none, Option.toList_some, Option.toList_none, List.nil_append, List.cons_append, px_kill_int, px_kill_long, px_kill_ref, px_kill_null, iI_lit, iJ_lit, iI_add, iI_sub, iI_mul, iI_neg, iJ_add, iJ_sub, iJ_mul, iJ_neg, iI_lt, iI_le, iI_eq, iJ_lt, iJ_le, iJ_eq, iI_div, iJ_div, tdiv_tmod, iI_J, iJ_I, iI_ix, iI_toInt, iJ_toInt, cmp_ge, cmp_lt, cmp_eq, cmp_gt, cmp_le, cmp_geI, cmp_ltI, cmp_eqI, cmp_gtI, cmp_leI, bI_0I, bI_1I, pin, if_true, g1, one0, if_false, c2, c3, sh_n5, ej, hs, hcel, e, hR1, hat]
  · rw [if_neg (fun z => c3 z.2.2)]
    refine ⟨T, ?_, h, sepC.rf T⟩
    simp (disch := first | omega | assumption | decide | (simp (disch := omega) only [iI_lit, iJ_lit, iJ_eq, iI_eq, bI_01, bI_01I] <;> omega)) only [c_Ds_dots, e_Ds_dots_0, e_Ds_dots_1, e_Ds_dots_2, e_Ds_dots_5, e_Ds_dots_8, e_Ds_dots_9, e_Ds_dots_12, e_Ds_dots_13, e_Ds_dots_14, e_Ds_dots_17, e_Ds_dots_18, e_Ds_dots_19, e_Ds_dots_22, e_Ds_dots_25, e_Ds_dots_26, e_Ds_dots_27, e_Ds_dots_28, e_Ds_dots_31, e_Ds_dots_32, e_Ds_dots_35, e_Ds_dots_36, e_Ds_dots_37, e_Ds_dots_40, e_Ds_dots_41, e_Ds_dots_44, e_Ds_dots_45, e_Ds_dots_46, e_Ds_dots_49, e_Ds_dots_50, e_Ds_dots_53, bd_some, bd_none, Option.toList_some, Option.toList_none, List.nil_append, List.cons_append, px_kill_int, px_kill_long, px_kill_ref, px_kill_null, iI_lit, iJ_lit, iI_add, iI_sub, iI_mul, iI_neg, iJ_add, iJ_sub, iJ_mul, iJ_neg, iI_lt, iI_le, iI_eq, iJ_lt, iJ_le, iJ_eq, iI_div, iJ_div, tdiv_tmod, iI_J, iJ_I, iI_ix, iI_toInt, iJ_toInt, cmp_ge, cmp_lt, cmp_eq, cmp_gt, cmp_le, cmp_geI, cmp_ltI, cmp_eqI, cmp_gtI, cmp_leI, bI_0I, bI_1I, pin, if_true, g1, one0, if_false, c2, c3, sh_n5, ej, hs, hcel]
set_option maxHeartbeats 1000000 in
theorem u_Ds_grown {T : TS} {S : FS} (hS : okF S) (h : fC GG T S) {i k : Int} (hi : inI i) (hk : inI k) : ∃ T', cl k_Ds_grown [.ref 0, .int (iI i), .int (iI k)] (enc T) = some (some (.int (iI (qGrown S.1 i k))), enc T') ∧ fC GG T' S ∧ sepC T T' := by
  have g1 := g_isInk hS.1 h.1 hi
  have g2 := g_isAxis hk (enc T)
  obtain ⟨i1, i2⟩ := id hi
  obtain ⟨k1, k2⟩ := id hk
  unfold qGrown
  by_cases c1 : isK S.1 i
  case neg =>
    rw [bI_fI c1] at g1
    rw [if_neg (fun z => c1 z.1)]
    refine ⟨T, ?_, h, sepC.rf T⟩
    simp (disch := first | omega | assumption | decide | (simp (disch := omega) only [iI_lit, iJ_lit, iJ_eq, iI_eq, bI_01, bI_01I] <;> omega)) only [c_Ds_grown, e_Ds_grown_0, e_Ds_grown_1, e_Ds_grown_2, e_Ds_grown_5, e_Ds_grown_8, e_Ds_grown_9, e_Ds_grown_12, e_Ds_grown_15, e_Ds_grown_16, e_Ds_grown_17, e_Ds_grown_18, e_Ds_grown_21, e_Ds_grown_22, e_Ds_grown_25, e_Ds_grown_26, e_Ds_grown_27, e_Ds_grown_30, e_Ds_grown_31, e_Ds_grown_34, e_Ds_grown_35, e_Ds_grown_38, e_Ds_grown_39, e_Ds_grown_40, e_Ds_grown_43, e_Ds_grown_46, e_Ds_grown_47, e_Ds_grown_50, e_Ds_grown_51, e_Ds_grown_52, e_Ds_grown_55, bd_some, bd_none, Option.toList_some, Option.toList_none, List.nil_append, List.cons_append, px_kill_int, px_kill_long, px_kill_ref, px_kill_null, iI_lit, iJ_lit, iI_add, iI_sub, iI_mul, iI_neg, iJ_add, iJ_sub, iJ_mul, iJ_neg, iI_lt, iI_le, iI_eq, iJ_lt, iJ_le, iJ_eq, iI_div, iJ_div, tdiv_tmod, iI_J, iJ_I, iI_ix, iI_toInt, iJ_toInt, cmp_ge, cmp_lt, cmp_eq, cmp_gt, cmp_le, cmp_geI, cmp_ltI, cmp_eqI, cmp_gtI, cmp_leI, bI_0I, bI_1I, pin, if_true, g1]
  rw [bI_tI c1] at g1
  obtain ⟨j, rfl⟩ : ∃ j : Nat, i = (j : Int) := ⟨i.toNat, by omega⟩
  have hj : j < S.1.1 := by have := c1.2; omega
  have ej : ((j : Int)).toNat = j := by omega
  obtain ⟨h4, hp, hs, hI⟩ := cC.at hS.1 h.1 hj
  rw [ej]
  by_cases c2 : 0 ≤ k ∧ k ≤ 1
  case neg =>
    rw [bI_fI c2] at g2
    rw [if_neg (fun z => c2 z.2)]
    refine ⟨T, ?_, h, sepC.rf T⟩
    simp (disch := first | omega | assumption | decide | (simp (disch := omega) only [iI_lit, iJ_lit, iJ_eq, iI_eq, bI_01, bI_01I] <;> omega)) only [c_Ds_grown, e_Ds_grown_0, e_Ds_grown_1, e_Ds_grown_2, e_Ds_grown_5, e_Ds_grown_8, e_Ds_grown_9, e_Ds_grown_12, e_Ds_grown_15, e_Ds_grown_16, e_Ds_grown_17, e_Ds_grown_18, e_Ds_grown_21, e_Ds_grown_22, e_Ds_grown_25, e_Ds_grown_26, e_Ds_grown_27, e_Ds_grown_30, e_Ds_grown_31, e_Ds_grown_34, e_Ds_grown_35, e_Ds_grown_38, e_Ds_grown_39, e_Ds_grown_40, e_Ds_grown_43, e_Ds_grown_46, e_Ds_grown_47, e_Ds_grown_50, e_Ds_grown_51, e_Ds_grown_52, e_Ds_grown_55, bd_some, bd_none, Option.toList_some, Option.toList_none, List.nil_append, List.cons_append, px_kill_int, px_kill_long, px_kill_ref, px_kill_null, iI_lit, iJ_lit, iI_add, iI_sub, iI_mul, iI_neg, iJ_add, iJ_sub, iJ_mul, iJ_neg, iI_lt, iI_le, iI_eq, iJ_lt, iJ_le, iJ_eq, iI_div, iJ_div, tdiv_tmod, iI_J, iJ_I, iI_ix, iI_toInt, iJ_toInt, cmp_ge, cmp_lt, cmp_eq, cmp_gt, cmp_le, cmp_geI, cmp_ltI, cmp_eqI, cmp_gtI, cmp_leI, bI_0I, bI_1I, pin, if_true, g1, g2, one0, if_false]
  rw [bI_tI c2] at g2
  rw [if_pos ⟨c1, c2⟩]
  obtain ⟨T', e, hF, hsp, hR, r1, r2, r3⟩ := c_grow hS h hj
  refine ⟨T', ?_, hF, hsp⟩
  have hR1 : T'.2.2.1 j = T.2.2.1 j := by rw [hR]
  by_cases k0 : k = 0
  · subst k0
    rw [gK0]
    simp (disch := first | omega | assumption | decide | (simp (disch := omega) only [iI_lit, iJ_lit, iJ_eq, iI_eq, bI_01, bI_01I] <;> omega)) only [c_Ds_grown, e_Ds_grown_0, e_Ds_grown_1, e_Ds_grown_2, e_Ds_grown_5, e_Ds_grown_8, e_Ds_grown_9, e_Ds_grown_12, e_Ds_grown_15, e_Ds_grown_16, e_Ds_grown_17, e_Ds_grown_18, e_Ds_grown_21, e_Ds_grown_22, e_Ds_grown_25, e_Ds_grown_26, e_Ds_grown_27, e_Ds_grown_30, e_Ds_grown_31, e_Ds_grown_34, e_Ds_grown_35, e_Ds_grown_38, e_Ds_grown_39, e_Ds_grown_40, e_Ds_grown_43, e_Ds_grown_46, e_Ds_grown_47, e_Ds_grown_50, e_Ds_grown_51, e_Ds_grown_52, e_Ds_grown_55, bd_some, bd_none, Option.toList_some, Option.toList_none, List.nil_append, List.cons_append, px_kill_int, px_kill_long, px_kill_ref, px_kill_null, iI_lit, iJ_lit, iI_add, iI_sub, iI_mul, iI_neg, iJ_add, iJ_sub, iJ_mul, iJ_neg, iI_lt, iI_le, iI_eq, iJ_lt, iJ_le, iJ_eq, iI_div, iJ_div, tdiv_tmod, iI_J, iJ_I, iI_ix, iI_toInt, iJ_toInt, cmp_ge, cmp_lt, cmp_eq, cmp_gt, cmp_le, cmp_geI, cmp_ltI, cmp_eqI, cmp_gtI, cmp_leI, bI_0I, bI_1I, pin, if_true, g1, g2, one0, if_false, sh_n5, ej, hs, e, hR1, r2]
  · have kk : k = 1 := by omega
    subst kk
    rw [gK1]
    simp (disch := first | omega | assumption | decide | (simp (disch := omega) only [iI_lit, iJ_lit, iJ_eq, iI_eq, bI_01, bI_01I] <;> omega)) only [c_Ds_grown, e_Ds_grown_0, e_Ds_grown_1, e_Ds_grown_2, e_Ds_grown_5, e_Ds_grown_8, e_Ds_grown_9, e_Ds_grown_12, e_Ds_grown_15, e_Ds_grown_16, e_Ds_grown_17, e_Ds_grown_18, e_Ds_grown_21, e_Ds_grown_22, e_Ds_grown_25, e_Ds_grown_26, e_Ds_grown_27, e_Ds_grown_30, e_Ds_grown_31, e_Ds_grown_34, e_Ds_grown_35, e_Ds_grown_38, e_Ds_grown_39, e_Ds_grown_40, e_Ds_grown_43, e_Ds_grown_46, e_Ds_grown_47, e_Ds_grown_50, e_Ds_grown_51, e_Ds_grown_52, e_Ds_grown_55, bd_some, bd_none, Option.toList_some, Option.toList_none, List.nil_append, List.cons_append, px_kill_int, px_kill_long, px_kill_ref, px_kill_null, iI_lit, iJ_lit, iI_add, iI_sub, iI_mul, iI_neg, iJ_add, iJ_sub, iJ_mul, iJ_neg, iI_lt, iI_le, iI_eq, iJ_lt, iJ_le, iJ_eq, iI_div, iJ_div, tdiv_tmod, iI_J, iJ_I, iI_ix, iI_toInt, iJ_toInt, cmp_ge, cmp_lt, cmp_eq, cmp_gt, cmp_le, cmp_geI, cmp_ltI, cmp_eqI, cmp_gtI, cmp_leI, bI_0I, bI_1I, pin, if_true, g1, g2, one0, if_false, sh_n5, ej, hs, e, hR1, r3]
