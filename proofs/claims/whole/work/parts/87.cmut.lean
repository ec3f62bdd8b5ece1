/-! the component's changes by hand: one ink. -/
theorem fC.upd {G : GW} {T T' : TS} {S : FS} (hS : okF S) (h : fC G T S) {j : Nat} (hj : j < S.1.1) {f : Nat → Int} (hR : T'.2.2 = T.2.2) (h1 : ∀ q k, ¬ (T.2.2.1 j ≤ q ∧ q < T.2.2.1 j + 7) → T'.1 q k = T.1 q k) (h2 : ∀ q k, ¬ (T.2.2.1 j ≤ q ∧ q < T.2.2.1 j + 7) → T'.2.1 q k = T.2.1 q k) (hin : inkC T' (T.2.2.1 j) f) (hg : gOk G T' (T.2.2.1 j) f) : fC G T' (inS S j f) ∧ sepC T T' := by
  obtain ⟨⟨c1, c2, c3, c4⟩, ⟨d2, d3⟩, d4, d5, d6⟩ := id h
  have hR' : T'.2.2.1 = T.2.2.1 := by rw [hR]
  have h4 := hS.1.1
  have hp := c2 j (by omega)
  have hp' := hp
  unfold isPl at hp'
  have sep : ∀ i, i < S.1.1 → i ≠ j → T.2.2.1 i + 7 ≤ T.2.2.1 j ∨ T.2.2.1 j + 7 ≤ T.2.2.1 i := fun i hi hij => isPl_sep (c2 i (by omega)) hp (fun e => hij (c3 i j (by omega) (by omega) e))
  refine ⟨⟨⟨?_, by rw [hR']; exact c2, by rw [hR']; exact c3, fun i hi => ?_⟩, ⟨?_, fun k hk => ?_⟩, fun k hk => ?_, ?_, fun i hi => ?_⟩, ?_⟩
  · rw [h1 _ _ (by omega)]; exact c1
  · have hi' : i < S.1.1 := hi
    rw [hR']
    show inkC T' (T.2.2.1 i) (if i = j then f else S.1.2 i)
    by_cases e : i = j
    · rw [if_pos e, e]; exact hin
    · rw [if_neg e]
      have hs := sep i hi' e
      exact (c4 i hi').frA (a := fun q _ => T.2.2.1 j ≤ q ∧ q < T.2.2.1 j + 7) (b := fun q _ => T.2.2.1 j ≤ q ∧ q < T.2.2.1 j + 7) ⟨h1, h2, hR⟩ (fun q k q1 q2 => by omega) (fun q k q1 q2 => by omega)
  · rw [h1 _ _ (by omega)]; exact d2
  · rw [h1 _ _ (by omega)]; exact d3 k hk
  · rw [h1 _ _ (by omega)]; exact d4 k hk
  · exact d5.same (fun q k q1 q2 => h1 _ _ (by omega))
  · have hi' : i < S.1.1 := hi
    rw [hR']
    show gOk G T' (T.2.2.1 i) (if i = j then f else S.1.2 i)
    by_cases e : i = j
    · rw [if_pos e, e]; exact hg
    · rw [if_neg e]
      have hs := sep i hi' e
      exact (d6 i hi').same (h1 _ _ (by omega)) (fun k => h1 _ _ (by omega)) (h1 _ _ (by omega)) (h1 _ _ (by omega))
  · exact ⟨fun q k hq => h1 _ _ (by omega), fun q k hq => h2 _ _ (by omega), by rw [hR]⟩
def setF (f : Nat → Int) (w : Nat) (v : Int) : Nat → Int := fun k => if k = w then v else f k
/-- tone -/
def rTone (S : FS) (i t : Int) : FS × Int := if isK S.1 i then (if 0 ≤ t ∧ t ≤ 100 then (if S.1.2 i.toNat 5 = t then (rfS S 2, -1) else (inS S i.toNat (setF (S.1.2 i.toNat) 5 t), S.1.2 i.toNat 5)) else (rfS S 1, -1)) else (rfS S 0, -1)
set_option maxHeartbeats 1000000 in
theorem u_Ds_tone {G : GW} (hG : okGW G) {T : TS} {S : FS} (hS : okF S) (h : fC G T S) {i t : Int} (hi : inI i) (ht : inI t) : ∃ T', cl k_Ds_tone [.ref 0, .int (iI i), .int (iI t)] (enc T) = some (some (.int (iI (rTone S i t).2)), enc T') ∧ fC G T' (rTone S i t).1 ∧ sepC T T' := by
  have g1 := g_isInk hS.1 h.1 hi
  obtain ⟨i1, i2⟩ := id hi
  obtain ⟨t1, t2⟩ := id ht
  unfold rTone
  by_cases c1 : isK S.1 i
  case neg =>
    rw [bI_fI c1] at g1
    obtain ⟨T', e, hF, hs⟩ := c_ref0 hS h
    rw [if_neg c1]
    refine ⟨T', ?_, hF, hs⟩
    simp (disch := first | omega | assumption | decide | (simp (disch := omega) only [iI_lit, iJ_lit, iJ_eq, iI_eq, bI_01, bI_01I] <;> omega)) only [c_Ds_tone, e_Ds_tone_0, e_Ds_tone_1, e_Ds_tone_2, e_Ds_tone_5, e_Ds_tone_8, e_Ds_tone_9, e_Ds_tone_10, e_Ds_tone_13, e_Ds_tone_14, e_Ds_tone_15, e_Ds_tone_18, e_Ds_tone_19, e_Ds_tone_21, e_Ds_tone_24, e_Ds_tone_25, e_Ds_tone_26, e_Ds_tone_29, e_Ds_tone_30, e_Ds_tone_31, e_Ds_tone_34, e_Ds_tone_35, e_Ds_tone_36, e_Ds_tone_39, e_Ds_tone_40, e_Ds_tone_41, e_Ds_tone_42, e_Ds_tone_45, e_Ds_tone_46, e_Ds_tone_47, e_Ds_tone_50, e_Ds_tone_51, e_Ds_tone_52, e_Ds_tone_55, e_Ds_tone_56, e_Ds_tone_57, e_Ds_tone_58, e_Ds_tone_61, e_Ds_tone_62, bd_some, bd_none, Option.toList_some, Option.toList_none, List.nil_append, List.cons_append, px_kill_int, px_kill_long, px_kill_ref, px_kill_null, iI_lit, iJ_lit, iI_add, iI_sub, iI_mul, iI_neg, iJ_add, iJ_sub, iJ_mul, iJ_neg, iI_lt, iI_le, iI_eq, iJ_lt, iJ_le, iJ_eq, iI_div, iJ_div, tdiv_tmod, iI_J, iJ_I, iI_ix, iI_toInt, iJ_toInt, cmp_ge, cmp_lt, cmp_eq, cmp_gt, cmp_le, cmp_geI, cmp_ltI, cmp_eqI, cmp_gtI, cmp_leI, bI_0I, bI_1I, pin, if_true, g1, e]
  rw [bI_tI c1] at g1
  rw [if_pos c1]
  by_cases c2 : 0 ≤ t ∧ t ≤ 100
  case neg =>
    obtain ⟨T', e, hF, hs⟩ := c_ref1 hS h
    rw [if_neg c2]
    refine ⟨T', ?_, hF, hs⟩
    by_cases c3 : t < 0
    · simp (disch := first | omega | assumption | decide | (simp (disch := omega) only [iI_lit, iJ_lit, iJ_eq, iI_eq, bI_01, bI_01I] <;> omega)) only [c_Ds_tone, e_Ds_tone_0, e_Ds_tone_1, e_Ds_tone_2, e_Ds_tone_5, e_Ds_tone_8, e_Ds_tone_9, e_Ds_tone_10, e_Ds_tone_13, e_Ds_tone_14, e_Ds_tone_15, e_Ds_tone_18, e_Ds_tone_19, e_Ds_tone_21, e_Ds_tone_24, e_Ds_tone_25, e_Ds_tone_26, e_Ds_tone_29, e_Ds_tone_30, e_Ds_tone_31, e_Ds_tone_34, e_Ds_tone_35, e_Ds_tone_36, e_Ds_tone_39, e_Ds_tone_40, e_Ds_tone_41, e_Ds_tone_42, e_Ds_tone_45, e_Ds_tone_46, e_Ds_tone_47, e_Ds_tone_50, e_Ds_tone_51, e_Ds_tone_52, e_Ds_tone_55, e_Ds_tone_56, e_Ds_tone_57, e_Ds_tone_58, e_Ds_tone_61, e_Ds_tone_62, bd_some, bd_none, Option.toList_some, Option.toList_none, List.nil_append, List.cons_append, px_kill_int, px_kill_long, px_kill_ref, px_kill_null, iI_lit, iJ_lit, iI_add, iI_sub, iI_mul, iI_neg, iJ_add, iJ_sub, iJ_mul, iJ_neg, iI_lt, iI_le, iI_eq, iJ_lt, iJ_le, iJ_eq, iI_div, iJ_div, tdiv_tmod, iI_J, iJ_I, iI_ix, iI_toInt, iJ_toInt, cmp_ge, cmp_lt, cmp_eq, cmp_gt, cmp_le, cmp_geI, cmp_ltI, cmp_eqI, cmp_gtI, cmp_leI, bI_0I, bI_1I, pin, if_true, g1, one0, if_false, c3, e]
    · have c4 : ¬ t ≤ 100 := by omega
      simp (disch := first | omega | assumption | decide | (simp (disch := omega) only [iI_lit, iJ_lit, iJ_eq, iI_eq, bI_01, bI_01I] <;> omega)) only [c_Ds_tone, e_Ds_tone_0, e_Ds_tone_1, e_Ds_tone_2, e_Ds_tone_5, e_Ds_tone_8, e_Ds_tone_9, e_Ds_tone_10, e_Ds_tone_13, e_Ds_tone_14, e_Ds_tone_15, e_Ds_tone_18, e_Ds_tone_19, e_Ds_tone_21, e_Ds_tone_24, e_Ds_tone_25, e_Ds_tone_26, e_Ds_tone_29, e_Ds_tone_30, e_Ds_tone_31, e_Ds_tone_34, e_Ds_tone_35, e_Ds_tone_36, e_Ds_tone_39, e_Ds_tone_40, e_Ds_tone_41, e_Ds_tone_42, e_Ds_tone_45, e_Ds_tone_46, e_Ds_tone_47, e_Ds_tone_50, e_Ds_tone_51, e_Ds_tone_52, e_Ds_tone_55, e_Ds_tone_56, e_Ds_tone_57, e_Ds_tone_58, e_Ds_tone_61, e_Ds_tone_62, bd_some, bd_none, Option.toList_some, Option.toList_none, List.nil_append, List.cons_append, px_kill_int, px_kill_long, px_kill_ref, px_kill_null, iI_lit, iJ_lit, iI_add, iI_sub, iI_mul, iI_neg, iJ_add, iJ_sub, iJ_mul, iJ_neg, iI_lt, iI_le, iI_eq, iJ_lt, iJ_le, iJ_eq, iI_div, iJ_div, tdiv_tmod, iI_J, iJ_I, iI_ix, iI_toInt, iJ_toInt, cmp_ge, cmp_lt, cmp_eq, cmp_gt, cmp_le, cmp_geI, cmp_ltI, cmp_eqI, cmp_gtI, cmp_leI, bI_0I, bI_1I, pin, if_true, g1, one0, if_false, c3, c4, e]
  rw [if_pos c2]
  have c3 : ¬ t < 0 := by omega
  have c4 : t ≤ 100 := by omega
  obtain ⟨j, rfl⟩ : ∃ j : Nat, i = (j : Int) := ⟨i.toNat, by omega⟩
  have hj : j < S.1.1 := by have := c1.2; omega
  have ej : ((j : Int)).toNat = j := by omega
  obtain ⟨h4, hp, hs, hI⟩ := cC.at hS.1 h.1 hj
  have hT := hI.2.1
  have bT := (hS.1.2 j hj).2.2.1
  rw [ej]
  by_cases c5 : S.1.2 j 5 = t
  · rw [if_pos c5]
    obtain ⟨T', e, hF, hsp⟩ := c_ref2 hS h
    refine ⟨T', ?_, hF, hsp⟩
    simp (disch := first | omega | assumption | decide | (simp (disch := omega) only [iI_lit, iJ_lit, iJ_eq, iI_eq, bI_01, bI_01I] <;> omega)) only [c_Ds_tone, e_Ds_tone_0, e_Ds_tone_1, e_Ds_tone_2, e_Ds_tone_5, e_Ds_tone_8, e_Ds_tone_9, e_Ds_tone_10, e_Ds_tone_13, e_Ds_tone_14, e_Ds_tone_15, e_Ds_tone_18, e_Ds_tone_19, e_Ds_tone_21, e_Ds_tone_24, e_Ds_tone_25, e_Ds_tone_26, e_Ds_tone_29, e_Ds_tone_30, e_Ds_tone_31, e_Ds_tone_34, e_Ds_tone_35, e_Ds_tone_36, e_Ds_tone_39, e_Ds_tone_40, e_Ds_tone_41, e_Ds_tone_42, e_Ds_tone_45, e_Ds_tone_46, e_Ds_tone_47, e_Ds_tone_50, e_Ds_tone_51, e_Ds_tone_52, e_Ds_tone_55, e_Ds_tone_56, e_Ds_tone_57, e_Ds_tone_58, e_Ds_tone_61, e_Ds_tone_62, bd_some, bd_none, Option.toList_some, Option.toList_none, List.nil_append, List.cons_append, px_kill_int, px_kill_long, px_kill_ref, px_kill_null, iI_lit, iJ_lit, iI_add, iI_sub, iI_mul, iI_neg, iJ_add, iJ_sub, iJ_mul, iJ_neg, iI_lt, iI_le, iI_eq, iJ_lt, iJ_le, iJ_eq, iI_div, iJ_div, tdiv_tmod, iI_J, iJ_I, iI_ix, iI_toInt, iJ_toInt, cmp_ge, cmp_lt, cmp_eq, cmp_gt, cmp_le, cmp_geI, cmp_ltI, cmp_eqI, cmp_gtI, cmp_leI, bI_0I, bI_1I, pin, if_true, g1, one0, if_false, c3, c4, sh_n5, ej, hs, hT, c5, e]
  · rw [if_neg c5]
    have hu := fC.upd (T' := sI T (T.2.2.1 j) 4 (iI t)) (f := setF (S.1.2 j) 5 t) hS h hj rfl (fun q k hq => by rw [sI_get, if_neg (by omega)]) (fun q k hq => rfl) (by
      obtain ⟨q1, q2, q3, q4, q5⟩ := hI
      have fr : FrI (fun q k => q = T.2.2.1 j ∧ k = 4) T (sI T (T.2.2.1 j) 4 (iI t)) := (FrI.rf _ T).wr _ ⟨rfl, rfl⟩
      refine ⟨q1.fr fr (fun k => by omega) (by omega) (by omega), ?_, ?_, ?_, ?_⟩
      · show (sI T (T.2.2.1 j) 4 (iI t)).1 (T.2.2.1 j) 4 = iI t
        simp only [sI_get, sJ_get, sI_2, sJ_1, sJ_22, sR_1, sR_21, Nat.reduceEqDiff, and_true, true_and, and_false, false_and, and_self, if_true, if_false, reduceIte]
      · rw [fr.1 _ _ (by omega)]; exact q3
      · rw [fr.1 _ _ (by omega)]; exact q4
      · rcases q5 with q5 | q5
        · left; rw [fr.1 _ _ (by omega)]; exact q5
        · right
          obtain ⟨s1, s2, s3, s4⟩ := q5
          refine ⟨fun r hr => ?_, fun r hr => ?_, fun r hr => ?_, ?_⟩
          · rw [fr.1 _ _ (by omega)]; exact s1 r hr
          · rw [fr.1 _ _ (by omega)]; exact s2 r hr
          · rw [fr.1 _ _ (by omega)]; exact s3 r hr
          · rw [fr.1 _ _ (by omega)]; exact s4) (by
      have hg := h.2.2.2.2 j hj
      have eG : G (setF (S.1.2 j) 5 t) = G (S.1.2 j) := hG _ _ (fun k hk => by unfold setF; rw [if_neg (by omega)])
      unfold gOk at *
      rw [eG]
      have hg' := hg
      rcases hg with g | ⟨a1, a2, a3, a4⟩
      · left; rw [sI_get, if_neg (by omega)]; exact g
      · right
        refine ⟨by rw [sI_get, if_neg (by omega)]; exact a1, fun k hk => by rw [sI_get, if_neg (by omega)]; exact a2 k hk, by rw [sI_get, if_neg (by omega)]; exact a3, by rw [sI_get, if_neg (by omega)]; exact a4⟩)
    refine ⟨_, ?_, hu.1, hu.2⟩
    simp (disch := first | omega | assumption | decide | (simp (disch := omega) only [iI_lit, iJ_lit, iJ_eq, iI_eq, bI_01, bI_01I] <;> omega)) only [c_Ds_tone, e_Ds_tone_0, e_Ds_tone_1, e_Ds_tone_2, e_Ds_tone_5, e_Ds_tone_8, e_Ds_tone_9, e_Ds_tone_10, e_Ds_tone_13, e_Ds_tone_14, e_Ds_tone_15, e_Ds_tone_18, e_Ds_tone_19, e_Ds_tone_21, e_Ds_tone_24, e_Ds_tone_25, e_Ds_tone_26, e_Ds_tone_29, e_Ds_tone_30, e_Ds_tone_31, e_Ds_tone_34, e_Ds_tone_35, e_Ds_tone_36, e_Ds_tone_39, e_Ds_tone_40, e_Ds_tone_41, e_Ds_tone_42, e_Ds_tone_45, e_Ds_tone_46, e_Ds_tone_47, e_Ds_tone_50, e_Ds_tone_51, e_Ds_tone_52, e_Ds_tone_55, e_Ds_tone_56, e_Ds_tone_57, e_Ds_tone_58, e_Ds_tone_61, e_Ds_tone_62, bd_some, bd_none, Option.toList_some, Option.toList_none, List.nil_append, List.cons_append, px_kill_int, px_kill_long, px_kill_ref, px_kill_null, iI_lit, iJ_lit, iI_add, iI_sub, iI_mul, iI_neg, iJ_add, iJ_sub, iJ_mul, iJ_neg, iI_lt, iI_le, iI_eq, iJ_lt, iJ_le, iJ_eq, iI_div, iJ_div, tdiv_tmod, iI_J, iJ_I, iI_ix, iI_toInt, iJ_toInt, cmp_ge, cmp_lt, cmp_eq, cmp_gt, cmp_le, cmp_geI, cmp_ltI, cmp_eqI, cmp_gtI, cmp_leI, bI_0I, bI_1I, pin, if_true, g1, one0, if_false, c3, c4, sh_n5, ej, hs, hT, c5]
