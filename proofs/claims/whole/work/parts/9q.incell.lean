/-! inCell on both sides. -/
set_option maxHeartbeats 4000000 in
theorem q_Ds_inCell {T : TS} {V : VW} (hV : okV V) (h : cC T V) {m i : Int} (hm : inI m) (hi : inI i) : ∃ T', cl k_Ds_inCell [.ref 0, .int (iI m), .int (iI i)] (enc T) = some (some (.long (iJ (qInC V m i))), enc T') ∧ FrA aB bB T T' := by
  have g1 := g_isSet hV h hm
  have g2 := g_isInk hV h hi
  have hpw := pow_n hV.1
  have h4 := hV.1
  obtain ⟨m1, m2⟩ := id hm
  obtain ⟨i1, i2⟩ := id hi
  unfold qInC
  by_cases c1 : 0 ≤ m ∧ m ≤ (2 : Int) ^ V.1 - 1
  · rw [bI_tI c1] at g1
    by_cases c2 : isK V i
    · rw [bI_tI c2] at g2
      obtain ⟨j, rfl⟩ : ∃ j : Nat, m = (j : Int) := ⟨m.toNat, by omega⟩
      obtain ⟨l, rfl⟩ : ∃ l : Nat, i = (l : Int) := ⟨i.toNat, by have := c2.1; omega⟩
      have ej : ((j : Int)).toNat = j := by omega
      have el : ((l : Int)).toNat = l := by omega
      have hl : l < V.1 := by have := c2.2; omega
      have hj : j < 16 := by omega
      have b := bit_has4 j hj l (by omega)
      by_cases c3 : j / 2 ^ l % 2 = 1
      · have jp : 1 ≤ (j : Int) := by
          have : j ≠ 0 := by
            intro z
            rw [z, Nat.zero_div] at c3
            omega
          omega
        rw [if_pos ⟨⟨jp, c1.2⟩, c2, by unfold hasI; rw [ej, el]; exact c3⟩]
        rw [c3, show ((1 : Nat) : Int) = 1 from rfl] at b
        rw [ej, el]
        obtain ⟨T1, e1, f1, G1⟩ := c_smeet hV h hj
        have oM := gcm_okM hV j
        have f1' := mt_B f1
        obtain ⟨h4', hp, hs, hI⟩ := cC.at hV (h.frB hV f1') hl
        have e8 := c_scl G1 oM
        have cb := cel_bd (hV.2 l hl).1
        have ec := hI.1.2.2.2.2.1
        obtain ⟨F1, F2, F3, F4, F5, F6, F7, F8⟩ := scl_f oM
        generalize scl (gW V j) (gH V j) (gS V j) = S at *
        have sq := mul_bd2 (a := S) (b := S) (M := 429981696) (N := 429981696) (by omega) (by omega)
        have ed := s_div (a := S * S) (b := celN (V.2 l)) (by omega) (by show 0 < cel _ _ _ _ ∧ cel _ _ _ _ ≤ _; omega) (enc T1)
        refine ⟨T1, ?_, f1'⟩
        simp (disch := first | omega | assumption | decide | (simp (disch := omega) only [iI_lit, iJ_lit, iJ_eq, iI_eq, bI_01, bI_01I] <;> omega)) only [c_Ds_inCell, e_Ds_inCell_0, e_Ds_inCell_1, e_Ds_inCell_2, e_Ds_inCell_5, e_Ds_inCell_8, e_Ds_inCell_9, e_Ds_inCell_10, e_Ds_inCell_13, e_Ds_inCell_16, e_Ds_inCell_17, e_Ds_inCell_18, e_Ds_inCell_19, e_Ds_inCell_20, e_Ds_inCell_21, e_Ds_inCell_24, e_Ds_inCell_27, e_Ds_inCell_28, e_Ds_inCell_29, e_Ds_inCell_30, e_Ds_inCell_33, e_Ds_inCell_34, e_Ds_inCell_37, e_Ds_inCell_40, e_Ds_inCell_41, e_Ds_inCell_42, e_Ds_inCell_43, e_Ds_inCell_44, e_Ds_inCell_45, e_Ds_inCell_48, e_Ds_inCell_49, e_Ds_inCell_50, e_Ds_inCell_53, e_Ds_inCell_54, e_Ds_inCell_57, bd_some, bd_none, Option.toList_some, Option.toList_none, List.nil_append, List.cons_append, px_kill_int, px_kill_long, px_kill_ref, px_kill_null, iI_lit, iJ_lit, iI_add, iI_sub, iI_mul, iI_neg, iJ_add, iJ_sub, iJ_mul, iJ_neg, iI_lt, iI_le, iI_eq, iJ_lt, iJ_le, iJ_eq, iI_div, iJ_div, tdiv_tmod, iI_J, iJ_I, iI_ix, iI_toInt, iJ_toInt, cmp_ge, cmp_lt, cmp_eq, cmp_gt, cmp_le, cmp_geI, cmp_ltI, cmp_eqI, cmp_gtI, cmp_leI, bI_0I, bI_1I, pin, if_true, g1, g2, one0, if_false, b, e1, e8, el, sh_n5, hs, ec, ed]
      · have c3' : j / 2 ^ l % 2 = 0 := by omega
        rw [c3', show ((0 : Nat) : Int) = 0 from rfl] at b
        rw [if_neg (fun z => by have := z.2.2; unfold hasI at this; rw [ej, el] at this; exact c3 this)]
        refine ⟨T, ?_, FrA.rf _ _ _⟩
        simp (disch := first | omega | assumption | decide | (simp (disch := omega) only [iI_lit, iJ_lit, iJ_eq, iI_eq, bI_01, bI_01I] <;> omega)) only [c_Ds_inCell, e_Ds_inCell_0, e_Ds_inCell_1, e_Ds_inCell_2, e_Ds_inCell_5, e_Ds_inCell_8, e_Ds_inCell_9, e_Ds_inCell_10, e_Ds_inCell_13, e_Ds_inCell_16, e_Ds_inCell_17, e_Ds_inCell_18, e_Ds_inCell_19, e_Ds_inCell_20, e_Ds_inCell_21, e_Ds_inCell_24, e_Ds_inCell_27, e_Ds_inCell_28, e_Ds_inCell_29, e_Ds_inCell_30, e_Ds_inCell_33, e_Ds_inCell_34, e_Ds_inCell_37, e_Ds_inCell_40, e_Ds_inCell_41, e_Ds_inCell_42, e_Ds_inCell_43, e_Ds_inCell_44, e_Ds_inCell_45, e_Ds_inCell_48, e_Ds_inCell_49, e_Ds_inCell_50, e_Ds_inCell_53, e_Ds_inCell_54, e_Ds_inCell_57, bd_some, bd_none, Option.toList_some, Option.toList_none, List.nil_append, List.cons_append, px_kill_int, px_kill_long, px_kill_ref, px_kill_null, iI_lit, iJ_lit, iI_add, iI_sub, iI_mul, iI_neg, iJ_add, iJ_sub, iJ_mul, iJ_neg, iI_lt, iI_le, iI_eq, iJ_lt, iJ_le, iJ_eq, iI_div, iJ_div, tdiv_tmod, iI_J, iJ_I, iI_ix, iI_toInt, iJ_toInt, cmp_ge, cmp_lt, cmp_eq, cmp_gt, cmp_le, cmp_geI, cmp_ltI, cmp_eqI, cmp_gtI, cmp_leI, bI_0I, bI_1I, pin, if_true, g1, g2, one0, if_false, b]
    · rw [bI_fI c2] at g2
      rw [if_neg (fun z => c2 z.2.1)]
      refine ⟨T, ?_, FrA.rf _ _ _⟩
      simp (disch := first | omega | assumption | decide | (simp (disch := omega) only [iI_lit, iJ_lit, iJ_eq, iI_eq, bI_01, bI_01I] <;> omega)) only [c_Ds_inCell, e_Ds_inCell_0, e_Ds_inCell_1, e_Ds_inCell_2, e_Ds_inCell_5, e_Ds_inCell_8, e_Ds_inCell_9, e_Ds_inCell_10, e_Ds_inCell_13, e_Ds_inCell_16, e_Ds_inCell_17, e_Ds_inCell_18, e_Ds_inCell_19, e_Ds_inCell_20, e_Ds_inCell_21, e_Ds_inCell_24, e_Ds_inCell_27, e_Ds_inCell_28, e_Ds_inCell_29, e_Ds_inCell_30, e_Ds_inCell_33, e_Ds_inCell_34, e_Ds_inCell_37, e_Ds_inCell_40, e_Ds_inCell_41, e_Ds_inCell_42, e_Ds_inCell_43, e_Ds_inCell_44, e_Ds_inCell_45, e_Ds_inCell_48, e_Ds_inCell_49, e_Ds_inCell_50, e_Ds_inCell_53, e_Ds_inCell_54, e_Ds_inCell_57, bd_some, bd_none, Option.toList_some, Option.toList_none, List.nil_append, List.cons_append, px_kill_int, px_kill_long, px_kill_ref, px_kill_null, iI_lit, iJ_lit, iI_add, iI_sub, iI_mul, iI_neg, iJ_add, iJ_sub, iJ_mul, iJ_neg, iI_lt, iI_le, iI_eq, iJ_lt, iJ_le, iJ_eq, iI_div, iJ_div, tdiv_tmod, iI_J, iJ_I, iI_ix, iI_toInt, iJ_toInt, cmp_ge, cmp_lt, cmp_eq, cmp_gt, cmp_le, cmp_geI, cmp_ltI, cmp_eqI, cmp_gtI, cmp_leI, bI_0I, bI_1I, pin, if_true, g1, g2, one0, if_false]
  · rw [bI_fI c1] at g1
    rw [if_neg (fun z => by omega)]
    refine ⟨T, ?_, FrA.rf _ _ _⟩
    simp (disch := first | omega | assumption | decide | (simp (disch := omega) only [iI_lit, iJ_lit, iJ_eq, iI_eq, bI_01, bI_01I] <;> omega)) only [c_Ds_inCell, e_Ds_inCell_0, e_Ds_inCell_1, e_Ds_inCell_2, e_Ds_inCell_5, e_Ds_inCell_8, e_Ds_inCell_9, e_Ds_inCell_10, e_Ds_inCell_13, e_Ds_inCell_16, e_Ds_inCell_17, e_Ds_inCell_18, e_Ds_inCell_19, e_Ds_inCell_20, e_Ds_inCell_21, e_Ds_inCell_24, e_Ds_inCell_27, e_Ds_inCell_28, e_Ds_inCell_29, e_Ds_inCell_30, e_Ds_inCell_33, e_Ds_inCell_34, e_Ds_inCell_37, e_Ds_inCell_40, e_Ds_inCell_41, e_Ds_inCell_42, e_Ds_inCell_43, e_Ds_inCell_44, e_Ds_inCell_45, e_Ds_inCell_48, e_Ds_inCell_49, e_Ds_inCell_50, e_Ds_inCell_53, e_Ds_inCell_54, e_Ds_inCell_57, bd_some, bd_none, Option.toList_some, Option.toList_none, List.nil_append, List.cons_append, px_kill_int, px_kill_long, px_kill_ref, px_kill_null, iI_lit, iJ_lit, iI_add, iI_sub, iI_mul, iI_neg, iJ_add, iJ_sub, iJ_mul, iJ_neg, iI_lt, iI_le, iI_eq, iJ_lt, iJ_le, iJ_eq, iI_div, iJ_div, tdiv_tmod, iI_J, iJ_I, iI_ix, iI_toInt, iJ_toInt, cmp_ge, cmp_lt, cmp_eq, cmp_gt, cmp_le, cmp_geI, cmp_ltI, cmp_eqI, cmp_gtI, cmp_leI, bI_0I, bI_1I, pin, if_true, g1]
set_option maxHeartbeats 4000000 in
theorem q_Dm_inCell {T : TS} {V : VW} (hV : okV V) (h : cM T V) {m i : Int} (hm : inI m) (hi : inI i) : ∃ T', cl k_Dm_inCell [.ref 53, .int (iI m), .int (iI i)] (enc T) = some (some (.long (iJ (qInC V m i))), enc T') ∧ FrM T T' := by
  have hM : cM (t0 T) V := h.fr (t0_fr T)
  have g1 := g_isSetM hV hM hm
  have g2 := g_inM hV hM hi
  have hpw := pow_n hV.1
  have h4 := hV.1
  obtain ⟨m1, m2⟩ := id hm
  obtain ⟨i1, i2⟩ := id hi
  unfold qInC
  by_cases c1 : 1 ≤ m ∧ m ≤ (2 : Int) ^ V.1 - 1
  · rw [bI_tI c1] at g1
    by_cases c2 : isK V i
    · rw [bI_tI c2] at g2
      obtain ⟨j, rfl⟩ : ∃ j : Nat, m = (j : Int) := ⟨m.toNat, by omega⟩
      obtain ⟨l, rfl⟩ : ∃ l : Nat, i = (l : Int) := ⟨i.toNat, by have := c2.1; omega⟩
      have ej : ((j : Int)).toNat = j := by omega
      have el : ((l : Int)).toNat = l := by omega
      have hl : l < V.1 := by have := c2.2; omega
      obtain ⟨hj, hx⟩ := set_ex hV (m := j) c1.1 c1.2
      have b := g_has4 hj (j := l) (by omega) (enc (t0 T))
      by_cases c3 : j / 2 ^ l % 2 = 1
      · rw [bI_tI c3] at b
        rw [if_pos ⟨c1, c2, by unfold hasI; rw [ej, el]; exact c3⟩]
        rw [ej, el]
        obtain ⟨T1, e1, f1, G1⟩ := m_smeet hV hM hj hx
        have oM := gcm_okM hV j
        have e8 := m_scl G1 oM
        have cb := cel_bd (hV.2 l hl).1
        have ec := m_cell hV (hM.fr f1) hl
        obtain ⟨F1, F2, F3, F4, F5, F6, F7, F8⟩ := scl_f oM
        generalize scl (gW V j) (gH V j) (gS V j) = S at *
        have sq := mul_bd2 (a := S) (b := S) (M := 429981696) (N := 429981696) (by omega) (by omega)
        have td : (S * S).tdiv (celN (V.2 l)) = S * S / celN (V.2 l) := q_nn (by omega)
        have cb' : 0 < celN (V.2 l) ∧ celN (V.2 l) ≤ 144 := cb
        generalize celN (V.2 l) = cc at *
        refine ⟨T1, ?_, (t0_fr T).tr f1⟩
        simp (disch := first | omega | assumption | decide | (simp (disch := omega) only [iI_lit, iJ_lit, iJ_eq, iI_eq, bI_01, bI_01I] <;> omega)) only [c_Dm_inCell, e_Dm_inCell_0, e_Dm_inCell_1, e_Dm_inCell_2, e_Dm_inCell_5, e_Dm_inCell_6, e_Dm_inCell_7, e_Dm_inCell_10, e_Dm_inCell_13, e_Dm_inCell_14, e_Dm_inCell_15, e_Dm_inCell_18, e_Dm_inCell_21, e_Dm_inCell_22, e_Dm_inCell_23, e_Dm_inCell_26, e_Dm_inCell_29, e_Dm_inCell_32, e_Dm_inCell_33, e_Dm_inCell_34, e_Dm_inCell_35, e_Dm_inCell_38, e_Dm_inCell_39, e_Dm_inCell_42, e_Dm_inCell_43, e_Dm_inCell_44, e_Dm_inCell_45, e_Dm_inCell_46, e_Dm_inCell_47, e_Dm_inCell_48, e_Dm_inCell_51, e_Dm_inCell_52, e_Dm_inCell_53, bd_some, bd_none, Option.toList_some, Option.toList_none, List.nil_append, List.cons_append, px_kill_int, px_kill_long, px_kill_ref, px_kill_null, iI_lit, iJ_lit, iI_add, iI_sub, iI_mul, iI_neg, iJ_add, iJ_sub, iJ_mul, iJ_neg, iI_lt, iI_le, iI_eq, iJ_lt, iJ_le, iJ_eq, iI_div, iJ_div, tdiv_tmod, iI_J, iJ_I, iI_ix, iI_toInt, iJ_toInt, cmp_ge, cmp_lt, cmp_eq, cmp_gt, cmp_le, cmp_geI, cmp_ltI, cmp_eqI, cmp_gtI, cmp_leI, bI_0I, bI_1I, pin, if_true, g1, g2, one0, if_false, b, e1, e8, ec, td]
      · rw [bI_fI c3] at b
        rw [if_neg (fun z => by have := z.2.2; unfold hasI at this; rw [ej, el] at this; exact c3 this)]
        refine ⟨t0 T, ?_, t0_fr T⟩
        simp (disch := first | omega | assumption | decide | (simp (disch := omega) only [iI_lit, iJ_lit, iJ_eq, iI_eq, bI_01, bI_01I] <;> omega)) only [c_Dm_inCell, e_Dm_inCell_0, e_Dm_inCell_1, e_Dm_inCell_2, e_Dm_inCell_5, e_Dm_inCell_6, e_Dm_inCell_7, e_Dm_inCell_10, e_Dm_inCell_13, e_Dm_inCell_14, e_Dm_inCell_15, e_Dm_inCell_18, e_Dm_inCell_21, e_Dm_inCell_22, e_Dm_inCell_23, e_Dm_inCell_26, e_Dm_inCell_29, e_Dm_inCell_32, e_Dm_inCell_33, e_Dm_inCell_34, e_Dm_inCell_35, e_Dm_inCell_38, e_Dm_inCell_39, e_Dm_inCell_42, e_Dm_inCell_43, e_Dm_inCell_44, e_Dm_inCell_45, e_Dm_inCell_46, e_Dm_inCell_47, e_Dm_inCell_48, e_Dm_inCell_51, e_Dm_inCell_52, e_Dm_inCell_53, bd_some, bd_none, Option.toList_some, Option.toList_none, List.nil_append, List.cons_append, px_kill_int, px_kill_long, px_kill_ref, px_kill_null, iI_lit, iJ_lit, iI_add, iI_sub, iI_mul, iI_neg, iJ_add, iJ_sub, iJ_mul, iJ_neg, iI_lt, iI_le, iI_eq, iJ_lt, iJ_le, iJ_eq, iI_div, iJ_div, tdiv_tmod, iI_J, iJ_I, iI_ix, iI_toInt, iJ_toInt, cmp_ge, cmp_lt, cmp_eq, cmp_gt, cmp_le, cmp_geI, cmp_ltI, cmp_eqI, cmp_gtI, cmp_leI, bI_0I, bI_1I, pin, if_true, g1, g2, one0, if_false, b]
    · rw [bI_fI c2] at g2
      rw [if_neg (fun z => c2 z.2.1)]
      refine ⟨t0 T, ?_, t0_fr T⟩
      simp (disch := first | omega | assumption | decide | (simp (disch := omega) only [iI_lit, iJ_lit, iJ_eq, iI_eq, bI_01, bI_01I] <;> omega)) only [c_Dm_inCell, e_Dm_inCell_0, e_Dm_inCell_1, e_Dm_inCell_2, e_Dm_inCell_5, e_Dm_inCell_6, e_Dm_inCell_7, e_Dm_inCell_10, e_Dm_inCell_13, e_Dm_inCell_14, e_Dm_inCell_15, e_Dm_inCell_18, e_Dm_inCell_21, e_Dm_inCell_22, e_Dm_inCell_23, e_Dm_inCell_26, e_Dm_inCell_29, e_Dm_inCell_32, e_Dm_inCell_33, e_Dm_inCell_34, e_Dm_inCell_35, e_Dm_inCell_38, e_Dm_inCell_39, e_Dm_inCell_42, e_Dm_inCell_43, e_Dm_inCell_44, e_Dm_inCell_45, e_Dm_inCell_46, e_Dm_inCell_47, e_Dm_inCell_48, e_Dm_inCell_51, e_Dm_inCell_52, e_Dm_inCell_53, bd_some, bd_none, Option.toList_some, Option.toList_none, List.nil_append, List.cons_append, px_kill_int, px_kill_long, px_kill_ref, px_kill_null, iI_lit, iJ_lit, iI_add, iI_sub, iI_mul, iI_neg, iJ_add, iJ_sub, iJ_mul, iJ_neg, iI_lt, iI_le, iI_eq, iJ_lt, iJ_le, iJ_eq, iI_div, iJ_div, tdiv_tmod, iI_J, iJ_I, iI_ix, iI_toInt, iJ_toInt, cmp_ge, cmp_lt, cmp_eq, cmp_gt, cmp_le, cmp_geI, cmp_ltI, cmp_eqI, cmp_gtI, cmp_leI, bI_0I, bI_1I, pin, if_true, g1, g2, one0, if_false]
  · rw [bI_fI c1] at g1
    rw [if_neg (fun z => c1 z.1)]
    refine ⟨t0 T, ?_, t0_fr T⟩
    simp (disch := first | omega | assumption | decide | (simp (disch := omega) only [iI_lit, iJ_lit, iJ_eq, iI_eq, bI_01, bI_01I] <;> omega)) only [c_Dm_inCell, e_Dm_inCell_0, e_Dm_inCell_1, e_Dm_inCell_2, e_Dm_inCell_5, e_Dm_inCell_6, e_Dm_inCell_7, e_Dm_inCell_10, e_Dm_inCell_13, e_Dm_inCell_14, e_Dm_inCell_15, e_Dm_inCell_18, e_Dm_inCell_21, e_Dm_inCell_22, e_Dm_inCell_23, e_Dm_inCell_26, e_Dm_inCell_29, e_Dm_inCell_32, e_Dm_inCell_33, e_Dm_inCell_34, e_Dm_inCell_35, e_Dm_inCell_38, e_Dm_inCell_39, e_Dm_inCell_42, e_Dm_inCell_43, e_Dm_inCell_44, e_Dm_inCell_45, e_Dm_inCell_46, e_Dm_inCell_47, e_Dm_inCell_48, e_Dm_inCell_51, e_Dm_inCell_52, e_Dm_inCell_53, bd_some, bd_none, Option.toList_some, Option.toList_none, List.nil_append, List.cons_append, px_kill_int, px_kill_long, px_kill_ref, px_kill_null, iI_lit, iJ_lit, iI_add, iI_sub, iI_mul, iI_neg, iJ_add, iJ_sub, iJ_mul, iJ_neg, iI_lt, iI_le, iI_eq, iJ_lt, iJ_le, iJ_eq, iI_div, iJ_div, tdiv_tmod, iI_J, iJ_I, iI_ix, iI_toInt, iJ_toInt, cmp_ge, cmp_lt, cmp_eq, cmp_gt, cmp_le, cmp_geI, cmp_ltI, cmp_eqI, cmp_gtI, cmp_leI, bI_0I, bI_1I, pin, if_true, g1]
