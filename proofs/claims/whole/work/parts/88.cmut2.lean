/-! the component's changes by hand: shape, offset, screen. -/
theorem wr_ne (T : TS) {p q k j : Nat} (x : Int32) (h : ¬ (q = p ∧ j = k)) : (sI T p k x).1 q j = T.1 q j := by rw [sI_get, if_neg h]
def rShape (S : FS) (i t : Int) : FS × Int := if isK S.1 i then (if 0 ≤ t ∧ t ≤ 2 then (if S.1.2 i.toNat 4 = t then (rfS S 2, -1) else (inS S i.toNat (setF (S.1.2 i.toNat) 4 t), S.1.2 i.toNat 4)) else (rfS S 1, -1)) else (rfS S 0, -1)
theorem s_takeSpot (T : TS) {p : Nat} (hp : sh p = (104, 18)) (k : Int32) : cl k_Ink_takeSpot [.ref p, .int k] (enc T) = some (none, enc (sI (sI (sI T p 3 k) p 13 (iI 0)) p 14 (iI 0))) := by
  simp (disch := first | omega | assumption | decide | (simp (disch := omega) only [iI_lit, iJ_lit, iJ_eq, iI_eq, bI_01, bI_01I] <;> omega)) only [c_Ink_takeSpot, e_Ink_takeSpot_0, e_Ink_takeSpot_1, e_Ink_takeSpot_2, e_Ink_takeSpot_5, e_Ink_takeSpot_6, e_Ink_takeSpot_7, e_Ink_takeSpot_10, e_Ink_takeSpot_11, e_Ink_takeSpot_12, e_Ink_takeSpot_15, bd_some, bd_none, Option.toList_some, Option.toList_none, List.nil_append, List.cons_append, px_kill_int, px_kill_long, px_kill_ref, px_kill_null, iI_lit, iJ_lit, iI_add, iI_sub, iI_mul, iI_neg, iJ_add, iJ_sub, iJ_mul, iJ_neg, iI_lt, iI_le, iI_eq, iJ_lt, iJ_le, iJ_eq, iI_div, iJ_div, tdiv_tmod, iI_J, iJ_I, iI_ix, iI_toInt, iJ_toInt, cmp_ge, cmp_lt, cmp_eq, cmp_gt, cmp_le, cmp_geI, cmp_ltI, cmp_eqI, cmp_gtI, cmp_leI, bI_0I, bI_1I, pin, if_true]
set_option maxHeartbeats 1000000 in
theorem u_Ds_shape {G : GW} {T : TS} {S : FS} (hS : okF S) (h : fC G T S) {i t : Int} (hi : inI i) (ht : inI t) : ∃ T', cl k_Ds_shape [.ref 0, .int (iI i), .int (iI t)] (enc T) = some (some (.int (iI (rShape S i t).2)), enc T') ∧ fC G T' (rShape S i t).1 ∧ sepC T T' := by
  have g1 := g_isInk hS.1 h.1 hi
  obtain ⟨i1, i2⟩ := id hi
  obtain ⟨t1, t2⟩ := id ht
  unfold rShape
  by_cases c1 : isK S.1 i
  case neg =>
    rw [bI_fI c1] at g1
    obtain ⟨T', e, hF, hs⟩ := c_ref0 hS h
    rw [if_neg c1]
    refine ⟨T', ?_, hF, hs⟩
    simp (disch := first | omega | assumption | decide | (simp (disch := omega) only [iI_lit, iJ_lit, iJ_eq, iI_eq, bI_01, bI_01I] <;> omega)) only [c_Ds_shape, e_Ds_shape_0, e_Ds_shape_1, e_Ds_shape_2, e_Ds_shape_5, e_Ds_shape_8, e_Ds_shape_9, e_Ds_shape_10, e_Ds_shape_13, e_Ds_shape_14, e_Ds_shape_15, e_Ds_shape_18, e_Ds_shape_19, e_Ds_shape_20, e_Ds_shape_23, e_Ds_shape_24, e_Ds_shape_25, e_Ds_shape_28, e_Ds_shape_29, e_Ds_shape_30, e_Ds_shape_33, e_Ds_shape_34, e_Ds_shape_35, e_Ds_shape_38, e_Ds_shape_39, e_Ds_shape_40, e_Ds_shape_41, e_Ds_shape_44, e_Ds_shape_45, e_Ds_shape_46, e_Ds_shape_49, e_Ds_shape_50, e_Ds_shape_51, e_Ds_shape_54, e_Ds_shape_55, e_Ds_shape_56, e_Ds_shape_57, e_Ds_shape_60, e_Ds_shape_61, bd_some, bd_none, Option.toList_some, Option.toList_none, List.nil_append, List.cons_append, px_kill_int, px_kill_long, px_kill_ref, px_kill_null, iI_lit, iJ_lit, iI_add, iI_sub, iI_mul, iI_neg, iJ_add, iJ_sub, iJ_mul, iJ_neg, iI_lt, iI_le, iI_eq, iJ_lt, iJ_le, iJ_eq, iI_div, iJ_div, tdiv_tmod, iI_J, iJ_I, iI_ix, iI_toInt, iJ_toInt, cmp_ge, cmp_lt, cmp_eq, cmp_gt, cmp_le, cmp_geI, cmp_ltI, cmp_eqI, cmp_gtI, cmp_leI, bI_0I, bI_1I, pin, if_true, g1, e]
  rw [bI_tI c1] at g1
  rw [if_pos c1]
  by_cases c2 : 0 ≤ t ∧ t ≤ 2
  case neg =>
    obtain ⟨T', e, hF, hs⟩ := c_ref1 hS h
    rw [if_neg c2]
    refine ⟨T', ?_, hF, hs⟩
    by_cases c3 : t < 0
    · simp (disch := first | omega | assumption | decide | (simp (disch := omega) only [iI_lit, iJ_lit, iJ_eq, iI_eq, bI_01, bI_01I] <;> omega)) only [c_Ds_shape, e_Ds_shape_0, e_Ds_shape_1, e_Ds_shape_2, e_Ds_shape_5, e_Ds_shape_8, e_Ds_shape_9, e_Ds_shape_10, e_Ds_shape_13, e_Ds_shape_14, e_Ds_shape_15, e_Ds_shape_18, e_Ds_shape_19, e_Ds_shape_20, e_Ds_shape_23, e_Ds_shape_24, e_Ds_shape_25, e_Ds_shape_28, e_Ds_shape_29, e_Ds_shape_30, e_Ds_shape_33, e_Ds_shape_34, e_Ds_shape_35, e_Ds_shape_38, e_Ds_shape_39, e_Ds_shape_40, e_Ds_shape_41, e_Ds_shape_44, e_Ds_shape_45, e_Ds_shape_46, e_Ds_shape_49, e_Ds_shape_50, e_Ds_shape_51, e_Ds_shape_54, e_Ds_shape_55, e_Ds_shape_56, e_Ds_shape_57, e_Ds_shape_60, e_Ds_shape_61, bd_some, bd_none, Option.toList_some, Option.toList_none, List.nil_append, List.cons_append, px_kill_int, px_kill_long, px_kill_ref, px_kill_null, iI_lit, iJ_lit, iI_add, iI_sub, iI_mul, iI_neg, iJ_add, iJ_sub, iJ_mul, iJ_neg, iI_lt, iI_le, iI_eq, iJ_lt, iJ_le, iJ_eq, iI_div, iJ_div, tdiv_tmod, iI_J, iJ_I, iI_ix, iI_toInt, iJ_toInt, cmp_ge, cmp_lt, cmp_eq, cmp_gt, cmp_le, cmp_geI, cmp_ltI, cmp_eqI, cmp_gtI, cmp_leI, bI_0I, bI_1I, pin, if_true, g1, one0, if_false, c3, e]
    · have c4 : ¬ t ≤ 2 := by omega
      simp (disch := first | omega | assumption | decide | (simp (disch := omega) only [iI_lit, iJ_lit, iJ_eq, iI_eq, bI_01, bI_01I] <;> omega)) only [c_Ds_shape, e_Ds_shape_0, e_Ds_shape_1, e_Ds_shape_2, e_Ds_shape_5, e_Ds_shape_8, e_Ds_shape_9, e_Ds_shape_10, e_Ds_shape_13, e_Ds_shape_14, e_Ds_shape_15, e_Ds_shape_18, e_Ds_shape_19, e_Ds_shape_20, e_Ds_shape_23, e_Ds_shape_24, e_Ds_shape_25, e_Ds_shape_28, e_Ds_shape_29, e_Ds_shape_30, e_Ds_shape_33, e_Ds_shape_34, e_Ds_shape_35, e_Ds_shape_38, e_Ds_shape_39, e_Ds_shape_40, e_Ds_shape_41, e_Ds_shape_44, e_Ds_shape_45, e_Ds_shape_46, e_Ds_shape_49, e_Ds_shape_50, e_Ds_shape_51, e_Ds_shape_54, e_Ds_shape_55, e_Ds_shape_56, e_Ds_shape_57, e_Ds_shape_60, e_Ds_shape_61, bd_some, bd_none, Option.toList_some, Option.toList_none, List.nil_append, List.cons_append, px_kill_int, px_kill_long, px_kill_ref, px_kill_null, iI_lit, iJ_lit, iI_add, iI_sub, iI_mul, iI_neg, iJ_add, iJ_sub, iJ_mul, iJ_neg, iI_lt, iI_le, iI_eq, iJ_lt, iJ_le, iJ_eq, iI_div, iJ_div, tdiv_tmod, iI_J, iJ_I, iI_ix, iI_toInt, iJ_toInt, cmp_ge, cmp_lt, cmp_eq, cmp_gt, cmp_le, cmp_geI, cmp_ltI, cmp_eqI, cmp_gtI, cmp_leI, bI_0I, bI_1I, pin, if_true, g1, one0, if_false, c3, c4, e]
  rw [if_pos c2]
  have c3 : ¬ t < 0 := by omega
  have c4 : t ≤ 2 := by omega
  obtain ⟨j, rfl⟩ : ∃ j : Nat, i = (j : Int) := ⟨i.toNat, by omega⟩
  have hj : j < S.1.1 := by have := c1.2; omega
  have ej : ((j : Int)).toNat = j := by omega
  obtain ⟨h4, hp, hs, hI⟩ := cC.at hS.1 h.1 hj
  have hT := hI.1.2.2.2.2.2.1
  have bT := (hS.1.2 j hj).2.1
  rw [ej]
  by_cases c5 : S.1.2 j 4 = t
  · rw [if_pos c5]
    obtain ⟨T', e, hF, hsp⟩ := c_ref2 hS h
    refine ⟨T', ?_, hF, hsp⟩
    simp (disch := first | omega | assumption | decide | (simp (disch := omega) only [iI_lit, iJ_lit, iJ_eq, iI_eq, bI_01, bI_01I] <;> omega)) only [c_Ds_shape, e_Ds_shape_0, e_Ds_shape_1, e_Ds_shape_2, e_Ds_shape_5, e_Ds_shape_8, e_Ds_shape_9, e_Ds_shape_10, e_Ds_shape_13, e_Ds_shape_14, e_Ds_shape_15, e_Ds_shape_18, e_Ds_shape_19, e_Ds_shape_20, e_Ds_shape_23, e_Ds_shape_24, e_Ds_shape_25, e_Ds_shape_28, e_Ds_shape_29, e_Ds_shape_30, e_Ds_shape_33, e_Ds_shape_34, e_Ds_shape_35, e_Ds_shape_38, e_Ds_shape_39, e_Ds_shape_40, e_Ds_shape_41, e_Ds_shape_44, e_Ds_shape_45, e_Ds_shape_46, e_Ds_shape_49, e_Ds_shape_50, e_Ds_shape_51, e_Ds_shape_54, e_Ds_shape_55, e_Ds_shape_56, e_Ds_shape_57, e_Ds_shape_60, e_Ds_shape_61, bd_some, bd_none, Option.toList_some, Option.toList_none, List.nil_append, List.cons_append, px_kill_int, px_kill_long, px_kill_ref, px_kill_null, iI_lit, iJ_lit, iI_add, iI_sub, iI_mul, iI_neg, iJ_add, iJ_sub, iJ_mul, iJ_neg, iI_lt, iI_le, iI_eq, iJ_lt, iJ_le, iJ_eq, iI_div, iJ_div, tdiv_tmod, iI_J, iJ_I, iI_ix, iI_toInt, iJ_toInt, cmp_ge, cmp_lt, cmp_eq, cmp_gt, cmp_le, cmp_geI, cmp_ltI, cmp_eqI, cmp_gtI, cmp_leI, bI_0I, bI_1I, pin, if_true, g1, one0, if_false, c3, c4, sh_n5, ej, hs, hT, c5, e]
  · rw [if_neg c5]
    have ts := s_takeSpot T hs (iI t)
    have fr : FrI (fun q k => q = T.2.2.1 j ∧ (k = 3 ∨ k = 13 ∨ k = 14)) T (sI (sI (sI T (T.2.2.1 j) 3 (iI t)) (T.2.2.1 j) 13 (iI 0)) (T.2.2.1 j) 14 (iI 0)) := (((FrI.rf _ T).wr _ ⟨rfl, by omega⟩).wr _ ⟨rfl, by omega⟩).wr _ ⟨rfl, by omega⟩
    have hu := fC.upd (T' := sI (sI (sI T (T.2.2.1 j) 3 (iI t)) (T.2.2.1 j) 13 (iI 0)) (T.2.2.1 j) 14 (iI 0)) (f := setF (S.1.2 j) 4 t) hS h hj rfl (fun q k hq => fr.1 _ _ (by omega)) (fun q k hq => rfl) (by
      obtain ⟨⟨p1, p2, p3, p4, p5, p6, p7⟩, q2, q3, q4, q5⟩ := hI
      refine ⟨⟨p1, p2, ?_, p4, ?_, ?_, c2⟩, ?_, ?_, ?_, ?_⟩
      · unfold cScr at *
        rw [fr.1 _ _ (by omega), fr.1 _ _ (by omega), fr.1 _ _ (by omega), fr.1 _ _ (by omega)]; exact p3
      · rw [fr.1 _ _ (by omega)]; exact p5
      · show _ = iI t
        simp only [sI_get, sJ_get, sI_2, sJ_1, sJ_22, sR_1, sR_21, Nat.reduceEqDiff, and_true, true_and, and_false, false_and, and_self, if_true, if_false, reduceIte]
      · rw [fr.1 _ _ (by omega)]; exact q2
      · rw [fr.1 _ _ (by omega)]; exact q3
      · rw [fr.1 _ _ (by omega)]; exact q4
      · left
        simp only [sI_get, sJ_get, sI_2, sJ_1, sJ_22, sR_1, sR_21, Nat.reduceEqDiff, and_true, true_and, and_false, false_and, and_self, if_true, if_false, reduceIte]) (by
      left
      simp only [sI_get, sJ_get, sI_2, sJ_1, sJ_22, sR_1, sR_21, Nat.reduceEqDiff, and_true, true_and, and_false, false_and, and_self, if_true, if_false, reduceIte])
    refine ⟨_, ?_, hu.1, hu.2⟩
    simp (disch := first | omega | assumption | decide | (simp (disch := omega) only [iI_lit, iJ_lit, iJ_eq, iI_eq, bI_01, bI_01I] <;> omega)) only [c_Ds_shape, e_Ds_shape_0, e_Ds_shape_1, e_Ds_shape_2, e_Ds_shape_5, e_Ds_shape_8, e_Ds_shape_9, e_Ds_shape_10, e_Ds_shape_13, e_Ds_shape_14, e_Ds_shape_15, e_Ds_shape_18, e_Ds_shape_19, e_Ds_shape_20, e_Ds_shape_23, e_Ds_shape_24, e_Ds_shape_25, e_Ds_shape_28, e_Ds_shape_29, e_Ds_shape_30, e_Ds_shape_33, e_Ds_shape_34, e_Ds_shape_35, e_Ds_shape_38, e_Ds_shape_39, e_Ds_shape_40, e_Ds_shape_41, e_Ds_shape_44, e_Ds_shape_45, e_Ds_shape_46, e_Ds_shape_49, e_Ds_shape_50, e_Ds_shape_51, e_Ds_shape_54, e_Ds_shape_55, e_Ds_shape_56, e_Ds_shape_57, e_Ds_shape_60, e_Ds_shape_61, bd_some, bd_none, Option.toList_some, Option.toList_none, List.nil_append, List.cons_append, px_kill_int, px_kill_long, px_kill_ref, px_kill_null, iI_lit, iJ_lit, iI_add, iI_sub, iI_mul, iI_neg, iJ_add, iJ_sub, iJ_mul, iJ_neg, iI_lt, iI_le, iI_eq, iJ_lt, iJ_le, iJ_eq, iI_div, iJ_div, tdiv_tmod, iI_J, iJ_I, iI_ix, iI_toInt, iJ_toInt, cmp_ge, cmp_lt, cmp_eq, cmp_gt, cmp_le, cmp_geI, cmp_ltI, cmp_eqI, cmp_gtI, cmp_leI, bI_0I, bI_1I, pin, if_true, g1, one0, if_false, c3, c4, sh_n5, ej, hs, hT, c5, ts]
theorem g_within {x M : Int} (hx : inI x) (hM : 0 ≤ M ∧ M ≤ 1000) (g : px_G) : cl k_Ds_isWithin [.int (iI x), .int (iI M)] g = some (some (.int (bI (-M ≤ x ∧ x ≤ M))), g) := by
  have e := s_isWithin (iI x) (iI M) g
  rw [iI_neg, iI_toInt (by omega) (by omega), iI_toInt hx.1 hx.2, iI_toInt (by omega) (by omega)] at e
  exact e
theorem g_isCell {z : Int} (hz : -1000 ≤ z ∧ z ≤ 1000) (g : px_G) : cl k_Ds_isCell [.int (iI z)] g = some (some (.int (bI (z ≠ 0 ∧ -144 ≤ z ∧ z ≤ 144))), g) := by
  have w := g_within (x := z) (M := 144) (by omega) (by omega) g
  by_cases c1 : z = 0
  · rw [bI_fI (c := z ≠ 0 ∧ -144 ≤ z ∧ z ≤ 144) (fun y => y.1 c1)]
    subst c1
    simp (disch := first | omega | assumption | decide | (simp (disch := omega) only [iI_lit, iJ_lit, iJ_eq, iI_eq, bI_01, bI_01I] <;> omega)) only [c_Ds_isCell, e_Ds_isCell_0, e_Ds_isCell_1, e_Ds_isCell_4, e_Ds_isCell_5, e_Ds_isCell_8, e_Ds_isCell_11, e_Ds_isCell_14, e_Ds_isCell_15, e_Ds_isCell_18, e_Ds_isCell_19, bd_some, bd_none, Option.toList_some, Option.toList_none, List.nil_append, List.cons_append, px_kill_int, px_kill_long, px_kill_ref, px_kill_null, iI_lit, iJ_lit, iI_add, iI_sub, iI_mul, iI_neg, iJ_add, iJ_sub, iJ_mul, iJ_neg, iI_lt, iI_le, iI_eq, iJ_lt, iJ_le, iJ_eq, iI_div, iJ_div, tdiv_tmod, iI_J, iJ_I, iI_ix, iI_toInt, iJ_toInt, cmp_ge, cmp_lt, cmp_eq, cmp_gt, cmp_le, cmp_geI, cmp_ltI, cmp_eqI, cmp_gtI, cmp_leI, bI_0I, bI_1I, pin, if_true]
  · by_cases c2 : -144 ≤ z ∧ z ≤ 144
    · rw [bI_tI c2] at w
      rw [bI_tI (c := z ≠ 0 ∧ -144 ≤ z ∧ z ≤ 144) ⟨c1, c2⟩]
      simp (disch := first | omega | assumption | decide | (simp (disch := omega) only [iI_lit, iJ_lit, iJ_eq, iI_eq, bI_01, bI_01I] <;> omega)) only [c_Ds_isCell, e_Ds_isCell_0, e_Ds_isCell_1, e_Ds_isCell_4, e_Ds_isCell_5, e_Ds_isCell_8, e_Ds_isCell_11, e_Ds_isCell_14, e_Ds_isCell_15, e_Ds_isCell_18, e_Ds_isCell_19, bd_some, bd_none, Option.toList_some, Option.toList_none, List.nil_append, List.cons_append, px_kill_int, px_kill_long, px_kill_ref, px_kill_null, iI_lit, iJ_lit, iI_add, iI_sub, iI_mul, iI_neg, iJ_add, iJ_sub, iJ_mul, iJ_neg, iI_lt, iI_le, iI_eq, iJ_lt, iJ_le, iJ_eq, iI_div, iJ_div, tdiv_tmod, iI_J, iJ_I, iI_ix, iI_toInt, iJ_toInt, cmp_ge, cmp_lt, cmp_eq, cmp_gt, cmp_le, cmp_geI, cmp_ltI, cmp_eqI, cmp_gtI, cmp_leI, bI_0I, bI_1I, pin, if_true, c1, if_false, w, one0]
    · rw [bI_fI c2] at w
      rw [bI_fI (c := z ≠ 0 ∧ -144 ≤ z ∧ z ≤ 144) (fun y => c2 y.2)]
      simp (disch := first | omega | assumption | decide | (simp (disch := omega) only [iI_lit, iJ_lit, iJ_eq, iI_eq, bI_01, bI_01I] <;> omega)) only [c_Ds_isCell, e_Ds_isCell_0, e_Ds_isCell_1, e_Ds_isCell_4, e_Ds_isCell_5, e_Ds_isCell_8, e_Ds_isCell_11, e_Ds_isCell_14, e_Ds_isCell_15, e_Ds_isCell_18, e_Ds_isCell_19, bd_some, bd_none, Option.toList_some, Option.toList_none, List.nil_append, List.cons_append, px_kill_int, px_kill_long, px_kill_ref, px_kill_null, iI_lit, iJ_lit, iI_add, iI_sub, iI_mul, iI_neg, iJ_add, iJ_sub, iJ_mul, iJ_neg, iI_lt, iI_le, iI_eq, iJ_lt, iJ_le, iJ_eq, iI_div, iJ_div, tdiv_tmod, iI_J, iJ_I, iI_ix, iI_toInt, iJ_toInt, cmp_ge, cmp_lt, cmp_eq, cmp_gt, cmp_le, cmp_geI, cmp_ltI, cmp_eqI, cmp_gtI, cmp_leI, bI_0I, bI_1I, pin, if_true, c1, if_false, w]
abbrev mvd (f : Nat → Int) (x y : Int) : Int := ((x - f 6).natAbs : Int) + ((y - f 7).natAbs : Int)
def rOffs (S : FS) (i x y : Int) : FS × Int := if isK S.1 i then (if (-99 ≤ x ∧ x ≤ 99) ∧ (-99 ≤ y ∧ y ≤ 99) then (if mvd (S.1.2 i.toNat) x y = 0 then (rfS S 2, -1) else (inS S i.toNat (setF (setF (S.1.2 i.toNat) 6 x) 7 y), mvd (S.1.2 i.toNat) x y)) else (rfS S 1, -1)) else (rfS S 0, -1)
set_option maxHeartbeats 1000000 in
theorem u_Ds_offset {G : GW} (hG : okGW G) {T : TS} {S : FS} (hS : okF S) (h : fC G T S) {i x y : Int} (hi : inI i) (hx : inI x) (hy : inI y) : ∃ T', cl k_Ds_offset [.ref 0, .int (iI i), .int (iI x), .int (iI y)] (enc T) = some (some (.int (iI (rOffs S i x y).2)), enc T') ∧ fC G T' (rOffs S i x y).1 ∧ sepC T T' := by
  have g1 := g_isInk hS.1 h.1 hi
  have g2 := g_within (x := x) (M := 99) hx (by omega) (enc T)
  have g3 := g_within (x := y) (M := 99) hy (by omega) (enc T)
  obtain ⟨i1, i2⟩ := id hi
  unfold rOffs
  by_cases c1 : isK S.1 i
  case neg =>
    rw [bI_fI c1] at g1
    obtain ⟨T', e, hF, hs⟩ := c_ref0 hS h
    rw [if_neg c1]
    refine ⟨T', ?_, hF, hs⟩
    simp (disch := first | omega | assumption | decide | (simp (disch := omega) only [iI_lit, iJ_lit, iJ_eq, iI_eq, bI_01, bI_01I] <;> omega)) only [c_Ds_offset, e_Ds_offset_0, e_Ds_offset_1, e_Ds_offset_2, e_Ds_offset_5, e_Ds_offset_8, e_Ds_offset_9, e_Ds_offset_10, e_Ds_offset_13, e_Ds_offset_14, e_Ds_offset_15, e_Ds_offset_17, e_Ds_offset_20, e_Ds_offset_23, e_Ds_offset_24, e_Ds_offset_26, e_Ds_offset_29, e_Ds_offset_32, e_Ds_offset_33, e_Ds_offset_34, e_Ds_offset_37, e_Ds_offset_38, e_Ds_offset_39, e_Ds_offset_42, e_Ds_offset_43, e_Ds_offset_44, e_Ds_offset_46, e_Ds_offset_47, e_Ds_offset_49, e_Ds_offset_52, e_Ds_offset_53, e_Ds_offset_56, e_Ds_offset_57, e_Ds_offset_59, e_Ds_offset_62, e_Ds_offset_63, e_Ds_offset_66, e_Ds_offset_67, e_Ds_offset_69, e_Ds_offset_71, e_Ds_offset_74, e_Ds_offset_75, e_Ds_offset_76, e_Ds_offset_79, e_Ds_offset_80, e_Ds_offset_82, e_Ds_offset_83, e_Ds_offset_86, e_Ds_offset_88, e_Ds_offset_89, e_Ds_offset_92, e_Ds_offset_94, bd_some, bd_none, Option.toList_some, Option.toList_none, List.nil_append, List.cons_append, px_kill_int, px_kill_long, px_kill_ref, px_kill_null, iI_lit, iJ_lit, iI_add, iI_sub, iI_mul, iI_neg, iJ_add, iJ_sub, iJ_mul, iJ_neg, iI_lt, iI_le, iI_eq, iJ_lt, iJ_le, iJ_eq, iI_div, iJ_div, tdiv_tmod, iI_J, iJ_I, iI_ix, iI_toInt, iJ_toInt, cmp_ge, cmp_lt, cmp_eq, cmp_gt, cmp_le, cmp_geI, cmp_ltI, cmp_eqI, cmp_gtI, cmp_leI, bI_0I, bI_1I, pin, if_true, g1, e]
  rw [bI_tI c1] at g1
  rw [if_pos c1]
  by_cases c2 : -99 ≤ x ∧ x ≤ 99
  case neg =>
    rw [bI_fI c2] at g2
    obtain ⟨T', e, hF, hs⟩ := c_ref1 hS h
    rw [if_neg (fun z => c2 z.1)]
    refine ⟨T', ?_, hF, hs⟩
    simp (disch := first | omega | assumption | decide | (simp (disch := omega) only [iI_lit, iJ_lit, iJ_eq, iI_eq, bI_01, bI_01I] <;> omega)) only [c_Ds_offset, e_Ds_offset_0, e_Ds_offset_1, e_Ds_offset_2, e_Ds_offset_5, e_Ds_offset_8, e_Ds_offset_9, e_Ds_offset_10, e_Ds_offset_13, e_Ds_offset_14, e_Ds_offset_15, e_Ds_offset_17, e_Ds_offset_20, e_Ds_offset_23, e_Ds_offset_24, e_Ds_offset_26, e_Ds_offset_29, e_Ds_offset_32, e_Ds_offset_33, e_Ds_offset_34, e_Ds_offset_37, e_Ds_offset_38, e_Ds_offset_39, e_Ds_offset_42, e_Ds_offset_43, e_Ds_offset_44, e_Ds_offset_46, e_Ds_offset_47, e_Ds_offset_49, e_Ds_offset_52, e_Ds_offset_53, e_Ds_offset_56, e_Ds_offset_57, e_Ds_offset_59, e_Ds_offset_62, e_Ds_offset_63, e_Ds_offset_66, e_Ds_offset_67, e_Ds_offset_69, e_Ds_offset_71, e_Ds_offset_74, e_Ds_offset_75, e_Ds_offset_76, e_Ds_offset_79, e_Ds_offset_80, e_Ds_offset_82, e_Ds_offset_83, e_Ds_offset_86, e_Ds_offset_88, e_Ds_offset_89, e_Ds_offset_92, e_Ds_offset_94, bd_some, bd_none, Option.toList_some, Option.toList_none, List.nil_append, List.cons_append, px_kill_int, px_kill_long, px_kill_ref, px_kill_null, iI_lit, iJ_lit, iI_add, iI_sub, iI_mul, iI_neg, iJ_add, iJ_sub, iJ_mul, iJ_neg, iI_lt, iI_le, iI_eq, iJ_lt, iJ_le, iJ_eq, iI_div, iJ_div, tdiv_tmod, iI_J, iJ_I, iI_ix, iI_toInt, iJ_toInt, cmp_ge, cmp_lt, cmp_eq, cmp_gt, cmp_le, cmp_geI, cmp_ltI, cmp_eqI, cmp_gtI, cmp_leI, bI_0I, bI_1I, pin, if_true, g1, one0, if_false, g2, e]
  rw [bI_tI c2] at g2
  by_cases c3 : -99 ≤ y ∧ y ≤ 99
  case neg =>
    rw [bI_fI c3] at g3
    obtain ⟨T', e, hF, hs⟩ := c_ref1 hS h
    rw [if_neg (fun z => c3 z.2)]
    refine ⟨T', ?_, hF, hs⟩
    simp (disch := first | omega | assumption | decide | (simp (disch := omega) only [iI_lit, iJ_lit, iJ_eq, iI_eq, bI_01, bI_01I] <;> omega)) only [c_Ds_offset, e_Ds_offset_0, e_Ds_offset_1, e_Ds_offset_2, e_Ds_offset_5, e_Ds_offset_8, e_Ds_offset_9, e_Ds_offset_10, e_Ds_offset_13, e_Ds_offset_14, e_Ds_offset_15, e_Ds_offset_17, e_Ds_offset_20, e_Ds_offset_23, e_Ds_offset_24, e_Ds_offset_26, e_Ds_offset_29, e_Ds_offset_32, e_Ds_offset_33, e_Ds_offset_34, e_Ds_offset_37, e_Ds_offset_38, e_Ds_offset_39, e_Ds_offset_42, e_Ds_offset_43, e_Ds_offset_44, e_Ds_offset_46, e_Ds_offset_47, e_Ds_offset_49, e_Ds_offset_52, e_Ds_offset_53, e_Ds_offset_56, e_Ds_offset_57, e_Ds_offset_59, e_Ds_offset_62, e_Ds_offset_63, e_Ds_offset_66, e_Ds_offset_67, e_Ds_offset_69, e_Ds_offset_71, e_Ds_offset_74, e_Ds_offset_75, e_Ds_offset_76, e_Ds_offset_79, e_Ds_offset_80, e_Ds_offset_82, e_Ds_offset_83, e_Ds_offset_86, e_Ds_offset_88, e_Ds_offset_89, e_Ds_offset_92, e_Ds_offset_94, bd_some, bd_none, Option.toList_some, Option.toList_none, List.nil_append, List.cons_append, px_kill_int, px_kill_long, px_kill_ref, px_kill_null, iI_lit, iJ_lit, iI_add, iI_sub, iI_mul, iI_neg, iJ_add, iJ_sub, iJ_mul, iJ_neg, iI_lt, iI_le, iI_eq, iJ_lt, iJ_le, iJ_eq, iI_div, iJ_div, tdiv_tmod, iI_J, iJ_I, iI_ix, iI_toInt, iJ_toInt, cmp_ge, cmp_lt, cmp_eq, cmp_gt, cmp_le, cmp_geI, cmp_ltI, cmp_eqI, cmp_gtI, cmp_leI, bI_0I, bI_1I, pin, if_true, g1, one0, if_false, g2, g3, e]
  rw [bI_tI c3] at g3
  rw [if_pos ⟨c2, c3⟩]
  obtain ⟨j, rfl⟩ : ∃ j : Nat, i = (j : Int) := ⟨i.toNat, by omega⟩
  have hj : j < S.1.1 := by have := c1.2; omega
  have ej : ((j : Int)).toNat = j := by omega
  obtain ⟨h4, hp, hs, hI⟩ := cC.at hS.1 h.1 hj
  have hX := hI.2.2.1
  have hY := hI.2.2.2.1
  have bX := (hS.1.2 j hj).2.2.2.1
  have bY := (hS.1.2 j hj).2.2.2.2
  have a1 := abs_I (a := x - S.1.2 j 6) (by omega) (enc T)
  have a2 := abs_I (a := y - S.1.2 j 7) (by omega) (enc T)
  rw [ej]
  by_cases c5 : mvd (S.1.2 j) x y = 0
  · rw [if_pos c5]
    obtain ⟨T', e, hF, hsp⟩ := c_ref2 hS h
    refine ⟨T', ?_, hF, hsp⟩
    simp (disch := first | omega | assumption | decide | (simp (disch := omega) only [iI_lit, iJ_lit, iJ_eq, iI_eq, bI_01, bI_01I] <;> omega)) only [c_Ds_offset, e_Ds_offset_0, e_Ds_offset_1, e_Ds_offset_2, e_Ds_offset_5, e_Ds_offset_8, e_Ds_offset_9, e_Ds_offset_10, e_Ds_offset_13, e_Ds_offset_14, e_Ds_offset_15, e_Ds_offset_17, e_Ds_offset_20, e_Ds_offset_23, e_Ds_offset_24, e_Ds_offset_26, e_Ds_offset_29, e_Ds_offset_32, e_Ds_offset_33, e_Ds_offset_34, e_Ds_offset_37, e_Ds_offset_38, e_Ds_offset_39, e_Ds_offset_42, e_Ds_offset_43, e_Ds_offset_44, e_Ds_offset_46, e_Ds_offset_47, e_Ds_offset_49, e_Ds_offset_52, e_Ds_offset_53, e_Ds_offset_56, e_Ds_offset_57, e_Ds_offset_59, e_Ds_offset_62, e_Ds_offset_63, e_Ds_offset_66, e_Ds_offset_67, e_Ds_offset_69, e_Ds_offset_71, e_Ds_offset_74, e_Ds_offset_75, e_Ds_offset_76, e_Ds_offset_79, e_Ds_offset_80, e_Ds_offset_82, e_Ds_offset_83, e_Ds_offset_86, e_Ds_offset_88, e_Ds_offset_89, e_Ds_offset_92, e_Ds_offset_94, bd_some, bd_none, Option.toList_some, Option.toList_none, List.nil_append, List.cons_append, px_kill_int, px_kill_long, px_kill_ref, px_kill_null, iI_lit, iJ_lit, iI_add, iI_sub, iI_mul, iI_neg, iJ_add, iJ_sub, iJ_mul, iJ_neg, iI_lt, iI_le, iI_eq, iJ_lt, iJ_le, iJ_eq, iI_div, iJ_div, tdiv_tmod, iI_J, iJ_I, iI_ix, iI_toInt, iJ_toInt, cmp_ge, cmp_lt, cmp_eq, cmp_gt, cmp_le, cmp_geI, cmp_ltI, cmp_eqI, cmp_gtI, cmp_leI, bI_0I, bI_1I, pin, if_true, g1, one0, if_false, g2, g3, sh_n5, ej, hs, hX, hY, a1, a2, c5, e]
  · rw [if_neg c5]
    have fr : FrI (fun q k => q = T.2.2.1 j ∧ (k = 5 ∨ k = 6)) T (sI (sI T (T.2.2.1 j) 5 (iI x)) (T.2.2.1 j) 6 (iI y)) := ((FrI.rf _ T).wr _ ⟨rfl, by omega⟩).wr _ ⟨rfl, by omega⟩
    have hu := fC.upd (T' := sI (sI T (T.2.2.1 j) 5 (iI x)) (T.2.2.1 j) 6 (iI y)) (f := setF (setF (S.1.2 j) 6 x) 7 y) hS h hj rfl (fun q k hq => fr.1 _ _ (by omega)) (fun q k hq => rfl) (by
      obtain ⟨q1, q2, q3, q4, q5⟩ := hI
      refine ⟨q1.fr fr (fun k => by omega) (by omega) (by omega), ?_, ?_, ?_, ?_⟩
      · rw [fr.1 _ _ (by omega)]; exact q2
      · show _ = iI x
        simp only [sI_get, sJ_get, sI_2, sJ_1, sJ_22, sR_1, sR_21, Nat.reduceEqDiff, and_true, true_and, and_false, false_and, and_self, if_true, if_false, reduceIte]
      · show _ = iI y
        simp only [sI_get, sJ_get, sI_2, sJ_1, sJ_22, sR_1, sR_21, Nat.reduceEqDiff, and_true, true_and, and_false, false_and, and_self, if_true, if_false, reduceIte]
      · rcases q5 with q5 | q5
        · left; rw [fr.1 _ _ (by omega)]; exact q5
        · right
          obtain ⟨s1, s2, s3, s4⟩ := q5
          refine ⟨fun r hr => ?_, fun r hr => ?_, fun r hr => ?_, ?_⟩
          · rw [fr.1 _ _ (by omega)]; exact s1 r hr
          · rw [fr.1 _ _ (by omega)]; exact s2 r hr
          · rw [fr.1 _ _ (by omega)]; exact s3 r hr
          · rw [fr.1 _ _ (by omega)]; exact s4) (by
      have hg := h.2.2.2.2 j hj
      have eG : G (setF (setF (S.1.2 j) 6 x) 7 y) = G (S.1.2 j) := hG _ _ (fun k hk => by unfold setF; rw [if_neg (by omega), if_neg (by omega)])
      unfold gOk at *
      rw [eG]
      rcases hg with g | ⟨a1, a2, a3, a4⟩
      · left; rw [fr.1 _ _ (by omega)]; exact g
      · right
        exact ⟨by rw [fr.1 _ _ (by omega)]; exact a1, fun k hk => by rw [fr.1 _ _ (by omega)]; exact a2 k hk, by rw [fr.1 _ _ (by omega)]; exact a3, by rw [fr.1 _ _ (by omega)]; exact a4⟩)
    refine ⟨_, ?_, hu.1, hu.2⟩
    simp (disch := first | omega | assumption | decide | (simp (disch := omega) only [iI_lit, iJ_lit, iJ_eq, iI_eq, bI_01, bI_01I] <;> omega)) only [c_Ds_offset, e_Ds_offset_0, e_Ds_offset_1, e_Ds_offset_2, e_Ds_offset_5, e_Ds_offset_8, e_Ds_offset_9, e_Ds_offset_10, e_Ds_offset_13, e_Ds_offset_14, e_Ds_offset_15, e_Ds_offset_17, e_Ds_offset_20, e_Ds_offset_23, e_Ds_offset_24, e_Ds_offset_26, e_Ds_offset_29, e_Ds_offset_32, e_Ds_offset_33, e_Ds_offset_34, e_Ds_offset_37, e_Ds_offset_38, e_Ds_offset_39, e_Ds_offset_42, e_Ds_offset_43, e_Ds_offset_44, e_Ds_offset_46, e_Ds_offset_47, e_Ds_offset_49, e_Ds_offset_52, e_Ds_offset_53, e_Ds_offset_56, e_Ds_offset_57, e_Ds_offset_59, e_Ds_offset_62, e_Ds_offset_63, e_Ds_offset_66, e_Ds_offset_67, e_Ds_offset_69, e_Ds_offset_71, e_Ds_offset_74, e_Ds_offset_75, e_Ds_offset_76, e_Ds_offset_79, e_Ds_offset_80, e_Ds_offset_82, e_Ds_offset_83, e_Ds_offset_86, e_Ds_offset_88, e_Ds_offset_89, e_Ds_offset_92, e_Ds_offset_94, bd_some, bd_none, Option.toList_some, Option.toList_none, List.nil_append, List.cons_append, px_kill_int, px_kill_long, px_kill_ref, px_kill_null, iI_lit, iJ_lit, iI_add, iI_sub, iI_mul, iI_neg, iJ_add, iJ_sub, iJ_mul, iJ_neg, iI_lt, iI_le, iI_eq, iJ_lt, iJ_le, iJ_eq, iI_div, iJ_div, tdiv_tmod, iI_J, iJ_I, iI_ix, iI_toInt, iJ_toInt, cmp_ge, cmp_lt, cmp_eq, cmp_gt, cmp_le, cmp_geI, cmp_ltI, cmp_eqI, cmp_gtI, cmp_leI, bI_0I, bI_1I, pin, if_true, g1, one0, if_false, g2, g3, sh_n5, ej, hs, hX, hY, a1, a2, c5]
abbrev isSide (a b c d : Int) : Prop := (-12 ≤ a ∧ a ≤ 12) ∧ (-12 ≤ b ∧ b ≤ 12) ∧ (-12 ≤ c ∧ c ≤ 12) ∧ (-12 ≤ d ∧ d ≤ 12)
abbrev isScr (a b c d : Int) : Prop := a * d - b * c ≠ 0 ∧ -144 ≤ a * d - b * c ∧ a * d - b * c ≤ 144
abbrev isSo (f : Nat → Int) (a b c d : Int) : Prop := f 0 = a ∧ f 1 = b ∧ f 2 = c ∧ f 3 = d
def scF (f : Nat → Int) (a b c d : Int) : Nat → Int := fun k => if k = 0 then a else if k = 1 then b else if k = 2 then c else if k = 3 then d else f k
def rScr (S : FS) (i a b c d : Int) : FS × Int := if isK S.1 i then (if isSide a b c d ∧ isScr a b c d then (if isSo (S.1.2 i.toNat) a b c d then (rfS S 2, -1) else (inS S i.toNat (scF (S.1.2 i.toNat) a b c d), celN (S.1.2 i.toNat))) else (rfS S 1, -1)) else (rfS S 0, -1)
theorem okS_of {a b c d : Int} (h : isSide a b c d ∧ isScr a b c d) : okS a b c d := ⟨h.1.1, h.1.2.1, h.1.2.2.1, h.1.2.2.2, h.2.1, h.2.2⟩
set_option maxHeartbeats 1000000 in
theorem s_takeScreen (T : TS) {p : Nat} (hpl : isPl p) {a b c d : Int} (ho : okS a b c d) : ∃ T', cl k_Ink_takeScreen [.ref p, .int (iI a), .int (iI b), .int (iI c), .int (iI d)] (enc T) = some (none, enc T') ∧ FrA (fun q k => q = p + 1 ∨ (q = p ∧ (k = 2 ∨ k = 13 ∨ k = 14))) (fun q _ => q = p + 2) T T' ∧ cScr T' (p + 1) a b c d ∧ cGrd T' (p + 2) (bkW (brk a b c d)) (bkH (brk a b c d)) (bkS (brk a b c d)) ∧ T'.1 p 2 = iI (cel a b c d) ∧ T'.1 p 13 = iI 0 ∧ T'.1 p 14 = iI 0 := by
  have hs := isPl_sh hpl
  have q1 := (pl_s3 hpl).2.2.2.2.1
  have q2 := (pl_s3 hpl).2.2.2.2.2
  have hc0 : cScr (tScr T (p + 1) (iI a) (iI b) (iI c) (iI d)) (p + 1) a b c d := tScr_c T (p + 1) a b c d
  have e1 := s_take T q1 (iI a) (iI b) (iI c) (iI d)
  have e2 := s_gtake (tScr T (p + 1) (iI a) (iI b) (iI c) (iI d)) q2 q1 hc0 ho
  obtain ⟨T2, hT2⟩ : ∃ T2, T2 = tGrd (tScr T (p + 1) (iI a) (iI b) (iI c) (iI d)) (p + 2) (bkW (brk a b c d)) (bkH (brk a b c d)) (bkS (brk a b c d)) := ⟨_, rfl⟩
  rw [← hT2] at e2
  have hc2 : cScr T2 (p + 1) a b c d := by rw [hT2]; exact hc0
  have e3 := s_area T2 q1 hc2
  have bA := ho.2.2.2.2.2
  have e4 := abs_I (a := a * d - b * c) (by omega) (enc T2)
  have ecel : ((a * d - b * c).natAbs : Int) = cel a b c d := rfl
  rw [ecel] at e4
  have bC := cel_bd ho
  have e5 := g_min (a := cel a b c d) (b := 144) (by omega) (by omega) (enc T2)
  have emn : mn2 (cel a b c d) 144 = cel a b c d := if_neg (by omega)
  rw [emn] at e5
  have np1 : ¬ p = p + 1 := by omega
  have np2 : ¬ p + 1 = p := by omega
  refine ⟨sI (sI (sI T2 p 2 (iI (cel a b c d))) p 13 (iI 0)) p 14 (iI 0), ?_, ?_, ?_, ?_, by simp only [sI_get, sJ_get, sI_2, sJ_1, sJ_22, sR_1, sR_21, Nat.reduceEqDiff, and_true, true_and, and_false, false_and, and_self, if_true, if_false, reduceIte], by simp only [sI_get, sJ_get, sI_2, sJ_1, sJ_22, sR_1, sR_21, Nat.reduceEqDiff, and_true, true_and, and_false, false_and, and_self, if_true, if_false, reduceIte], by simp only [sI_get, sJ_get, sI_2, sJ_1, sJ_22, sR_1, sR_21, Nat.reduceEqDiff, and_true, true_and, and_false, false_and, and_self, if_true, if_false, reduceIte]⟩
  · simp (disch := first | omega | assumption | decide | (simp (disch := omega) only [iI_lit, iJ_lit, iJ_eq, iI_eq, bI_01, bI_01I] <;> omega)) only [c_Ink_takeScreen, e_Ink_takeScreen_0, e_Ink_takeScreen_1, e_Ink_takeScreen_4, e_Ink_takeScreen_5, e_Ink_takeScreen_6, e_Ink_takeScreen_7, e_Ink_takeScreen_9, e_Ink_takeScreen_12, e_Ink_takeScreen_13, e_Ink_takeScreen_16, e_Ink_takeScreen_17, e_Ink_takeScreen_20, e_Ink_takeScreen_23, e_Ink_takeScreen_24, e_Ink_takeScreen_25, e_Ink_takeScreen_28, e_Ink_takeScreen_31, e_Ink_takeScreen_34, e_Ink_takeScreen_37, e_Ink_takeScreen_40, e_Ink_takeScreen_43, e_Ink_takeScreen_44, e_Ink_takeScreen_45, e_Ink_takeScreen_48, e_Ink_takeScreen_49, e_Ink_takeScreen_50, e_Ink_takeScreen_53, bd_some, bd_none, Option.toList_some, Option.toList_none, List.nil_append, List.cons_append, px_kill_int, px_kill_long, px_kill_ref, px_kill_null, iI_lit, iJ_lit, iI_add, iI_sub, iI_mul, iI_neg, iJ_add, iJ_sub, iJ_mul, iJ_neg, iI_lt, iI_le, iI_eq, iJ_lt, iJ_le, iJ_eq, iI_div, iJ_div, tdiv_tmod, iI_J, iJ_I, iI_ix, iI_toInt, iJ_toInt, cmp_ge, cmp_lt, cmp_eq, cmp_gt, cmp_le, cmp_geI, cmp_ltI, cmp_eqI, cmp_gtI, cmp_leI, bI_0I, bI_1I, pin, if_true, hs, q1, q2, e1, e2, e3, e4, e5]
  · rw [hT2]
    have f1 : FrA (fun q k => q = p + 1 ∨ (q = p ∧ (k = 2 ∨ k = 13 ∨ k = 14))) (fun q _ => q = p + 2) T (tScr T (p + 1) (iI a) (iI b) (iI c) (iI d)) := ((((FrA.rf _ _ T).wr _ (Or.inl rfl)).wr _ (Or.inl rfl)).wr _ (Or.inl rfl)).wr _ (Or.inl rfl)
    have f2 := ((f1.wrJ (p := p + 2) (k := 0) (iJ (bkW (brk a b c d))) rfl).wrJ (p := p + 2) (k := 1) (iJ (bkH (brk a b c d))) rfl).wrJ (p := p + 2) (k := 2) (iJ (bkS (brk a b c d))) rfl
    exact ((f2.wr _ (Or.inr ⟨rfl, by omega⟩)).wr _ (Or.inr ⟨rfl, by omega⟩)).wr _ (Or.inr ⟨rfl, by omega⟩)
  · unfold cScr at *
    simp only [sI_get, sJ_get, sI_2, sJ_1, sJ_22, sR_1, sR_21, Nat.reduceEqDiff, and_true, true_and, and_false, false_and, and_self, if_true, if_false, reduceIte, np2]
    exact hc2
  · rw [hT2]
    exact tGrd_c _ _ _ _ _
set_option maxHeartbeats 2000000 in
theorem u_Ds_screen {G : GW} {T : TS} {S : FS} (hS : okF S) (h : fC G T S) {i a b c d : Int} (hi : inI i) (ha : inI a) (hb : inI b) (hc : inI c) (hd : inI d) : ∃ T', cl k_Ds_screen [.ref 0, .int (iI i), .int (iI a), .int (iI b), .int (iI c), .int (iI d)] (enc T) = some (some (.int (iI (rScr S i a b c d).2)), enc T') ∧ fC G T' (rScr S i a b c d).1 ∧ sepC T T' := by
  have g1 := g_isInk hS.1 h.1 hi
  have ga := g_within (x := a) (M := 12) ha (by omega) (enc T)
  have gb := g_within (x := b) (M := 12) hb (by omega) (enc T)
  have gc := g_within (x := c) (M := 12) hc (by omega) (enc T)
  have gd := g_within (x := d) (M := 12) hd (by omega) (enc T)
  obtain ⟨i1, i2⟩ := id hi
  unfold rScr
  by_cases c1 : isK S.1 i
  case neg =>
    rw [bI_fI c1] at g1
    obtain ⟨T', e, hF, hs⟩ := c_ref0 hS h
    rw [if_neg c1]
    refine ⟨T', ?_, hF, hs⟩
    simp (disch := first | omega | assumption | decide | (simp (disch := omega) only [iI_lit, iJ_lit, iJ_eq, iI_eq, bI_01, bI_01I] <;> omega)) only [c_Ds_screen, e_Ds_screen_0, e_Ds_screen_1, e_Ds_screen_2, e_Ds_screen_5, e_Ds_screen_8, e_Ds_screen_9, e_Ds_screen_10, e_Ds_screen_13, e_Ds_screen_14, e_Ds_screen_15, e_Ds_screen_17, e_Ds_screen_20, e_Ds_screen_23, e_Ds_screen_24, e_Ds_screen_26, e_Ds_screen_29, e_Ds_screen_32, e_Ds_screen_34, e_Ds_screen_36, e_Ds_screen_39, e_Ds_screen_42, e_Ds_screen_44, e_Ds_screen_46, e_Ds_screen_49, e_Ds_screen_52, e_Ds_screen_53, e_Ds_screen_55, e_Ds_screen_56, e_Ds_screen_57, e_Ds_screen_59, e_Ds_screen_60, e_Ds_screen_61, e_Ds_screen_64, e_Ds_screen_67, e_Ds_screen_68, e_Ds_screen_69, e_Ds_screen_72, e_Ds_screen_73, e_Ds_screen_74, e_Ds_screen_77, e_Ds_screen_78, e_Ds_screen_79, e_Ds_screen_81, e_Ds_screen_83, e_Ds_screen_86, e_Ds_screen_87, e_Ds_screen_88, e_Ds_screen_90, e_Ds_screen_92, e_Ds_screen_95, e_Ds_screen_98, e_Ds_screen_99, e_Ds_screen_100, e_Ds_screen_103, e_Ds_screen_104, e_Ds_screen_106, e_Ds_screen_109, e_Ds_screen_111, e_Ds_screen_113, e_Ds_screen_114, e_Ds_screen_115, e_Ds_screen_117, e_Ds_screen_119, e_Ds_screen_122, e_Ds_screen_124, bd_some, bd_none, Option.toList_some, Option.toList_none, List.nil_append, List.cons_append, px_kill_int, px_kill_long, px_kill_ref, px_kill_null, iI_lit, iJ_lit, iI_add, iI_sub, iI_mul, iI_neg, iJ_add, iJ_sub, iJ_mul, iJ_neg, iI_lt, iI_le, iI_eq, iJ_lt, iJ_le, iJ_eq, iI_div, iJ_div, tdiv_tmod, iI_J, iJ_I, iI_ix, iI_toInt, iJ_toInt, cmp_ge, cmp_lt, cmp_eq, cmp_gt, cmp_le, cmp_geI, cmp_ltI, cmp_eqI, cmp_gtI, cmp_leI, bI_0I, bI_1I, pin, if_true, g1, e]
  rw [bI_tI c1] at g1
  rw [if_pos c1]
  obtain ⟨T1, er, hF1, hs1⟩ := c_ref1 hS h
  by_cases ca : -12 ≤ a ∧ a ≤ 12
  case neg =>
    rw [bI_fI ca] at ga
    rw [if_neg (fun z => ca z.1.1)]
    refine ⟨T1, ?_, hF1, hs1⟩
    simp (disch := first | omega | assumption | decide | (simp (disch := omega) only [iI_lit, iJ_lit, iJ_eq, iI_eq, bI_01, bI_01I] <;> omega)) only [c_Ds_screen, e_Ds_screen_0, e_Ds_screen_1, e_Ds_screen_2, e_Ds_screen_5, e_Ds_screen_8, e_Ds_screen_9, e_Ds_screen_10, e_Ds_screen_13, e_Ds_screen_14, e_Ds_screen_15, e_Ds_screen_17, e_Ds_screen_20, e_Ds_screen_23, e_Ds_screen_24, e_Ds_screen_26, e_Ds_screen_29, e_Ds_screen_32, e_Ds_screen_34, e_Ds_screen_36, e_Ds_screen_39, e_Ds_screen_42, e_Ds_screen_44, e_Ds_screen_46, e_Ds_screen_49, e_Ds_screen_52, e_Ds_screen_53, e_Ds_screen_55, e_Ds_screen_56, e_Ds_screen_57, e_Ds_screen_59, e_Ds_screen_60, e_Ds_screen_61, e_Ds_screen_64, e_Ds_screen_67, e_Ds_screen_68, e_Ds_screen_69, e_Ds_screen_72, e_Ds_screen_73, e_Ds_screen_74, e_Ds_screen_77, e_Ds_screen_78, e_Ds_screen_79, e_Ds_screen_81, e_Ds_screen_83, e_Ds_screen_86, e_Ds_screen_87, e_Ds_screen_88, e_Ds_screen_90, e_Ds_screen_92, e_Ds_screen_95, e_Ds_screen_98, e_Ds_screen_99, e_Ds_screen_100, e_Ds_screen_103, e_Ds_screen_104, e_Ds_screen_106, e_Ds_screen_109, e_Ds_screen_111, e_Ds_screen_113, e_Ds_screen_114, e_Ds_screen_115, e_Ds_screen_117, e_Ds_screen_119, e_Ds_screen_122, e_Ds_screen_124, bd_some, bd_none, Option.toList_some, Option.toList_none, List.nil_append, List.cons_append, px_kill_int, px_kill_long, px_kill_ref, px_kill_null, iI_lit, iJ_lit, iI_add, iI_sub, iI_mul, iI_neg, iJ_add, iJ_sub, iJ_mul, iJ_neg, iI_lt, iI_le, iI_eq, iJ_lt, iJ_le, iJ_eq, iI_div, iJ_div, tdiv_tmod, iI_J, iJ_I, iI_ix, iI_toInt, iJ_toInt, cmp_ge, cmp_lt, cmp_eq, cmp_gt, cmp_le, cmp_geI, cmp_ltI, cmp_eqI, cmp_gtI, cmp_leI, bI_0I, bI_1I, pin, if_true, g1, one0, if_false, ga, er]
  rw [bI_tI ca] at ga
  by_cases cb : -12 ≤ b ∧ b ≤ 12
  case neg =>
    rw [bI_fI cb] at gb
    rw [if_neg (fun z => cb z.1.2.1)]
    refine ⟨T1, ?_, hF1, hs1⟩
    simp (disch := first | omega | assumption | decide | (simp (disch := omega) only [iI_lit, iJ_lit, iJ_eq, iI_eq, bI_01, bI_01I] <;> omega)) only [c_Ds_screen, e_Ds_screen_0, e_Ds_screen_1, e_Ds_screen_2, e_Ds_screen_5, e_Ds_screen_8, e_Ds_screen_9, e_Ds_screen_10, e_Ds_screen_13, e_Ds_screen_14, e_Ds_screen_15, e_Ds_screen_17, e_Ds_screen_20, e_Ds_screen_23, e_Ds_screen_24, e_Ds_screen_26, e_Ds_screen_29, e_Ds_screen_32, e_Ds_screen_34, e_Ds_screen_36, e_Ds_screen_39, e_Ds_screen_42, e_Ds_screen_44, e_Ds_screen_46, e_Ds_screen_49, e_Ds_screen_52, e_Ds_screen_53, e_Ds_screen_55, e_Ds_screen_56, e_Ds_screen_57, e_Ds_screen_59, e_Ds_screen_60, e_Ds_screen_61, e_Ds_screen_64, e_Ds_screen_67, e_Ds_screen_68, e_Ds_screen_69, e_Ds_screen_72, e_Ds_screen_73, e_Ds_screen_74, e_Ds_screen_77, e_Ds_screen_78, e_Ds_screen_79, e_Ds_screen_81, e_Ds_screen_83, e_Ds_screen_86, e_Ds_screen_87, e_Ds_screen_88, e_Ds_screen_90, e_Ds_screen_92, e_Ds_screen_95, e_Ds_screen_98, e_Ds_screen_99, e_Ds_screen_100, e_Ds_screen_103, e_Ds_screen_104, e_Ds_screen_106, e_Ds_screen_109, e_Ds_screen_111, e_Ds_screen_113, e_Ds_screen_114, e_Ds_screen_115, e_Ds_screen_117, e_Ds_screen_119, e_Ds_screen_122, e_Ds_screen_124, bd_some, bd_none, Option.toList_some, Option.toList_none, List.nil_append, List.cons_append, px_kill_int, px_kill_long, px_kill_ref, px_kill_null, iI_lit, iJ_lit, iI_add, iI_sub, iI_mul, iI_neg, iJ_add, iJ_sub, iJ_mul, iJ_neg, iI_lt, iI_le, iI_eq, iJ_lt, iJ_le, iJ_eq, iI_div, iJ_div, tdiv_tmod, iI_J, iJ_I, iI_ix, iI_toInt, iJ_toInt, cmp_ge, cmp_lt, cmp_eq, cmp_gt, cmp_le, cmp_geI, cmp_ltI, cmp_eqI, cmp_gtI, cmp_leI, bI_0I, bI_1I, pin, if_true, g1, one0, if_false, ga, gb, er]
  rw [bI_tI cb] at gb
  by_cases cc : -12 ≤ c ∧ c ≤ 12
  case neg =>
    rw [bI_fI cc] at gc
    rw [if_neg (fun z => cc z.1.2.2.1)]
    refine ⟨T1, ?_, hF1, hs1⟩
    simp (disch := first | omega | assumption | decide | (simp (disch := omega) only [iI_lit, iJ_lit, iJ_eq, iI_eq, bI_01, bI_01I] <;> omega)) only [c_Ds_screen, e_Ds_screen_0, e_Ds_screen_1, e_Ds_screen_2, e_Ds_screen_5, e_Ds_screen_8, e_Ds_screen_9, e_Ds_screen_10, e_Ds_screen_13, e_Ds_screen_14, e_Ds_screen_15, e_Ds_screen_17, e_Ds_screen_20, e_Ds_screen_23, e_Ds_screen_24, e_Ds_screen_26, e_Ds_screen_29, e_Ds_screen_32, e_Ds_screen_34, e_Ds_screen_36, e_Ds_screen_39, e_Ds_screen_42, e_Ds_screen_44, e_Ds_screen_46, e_Ds_screen_49, e_Ds_screen_52, e_Ds_screen_53, e_Ds_screen_55, e_Ds_screen_56, e_Ds_screen_57, e_Ds_screen_59, e_Ds_screen_60, e_Ds_screen_61, e_Ds_screen_64, e_Ds_screen_67, e_Ds_screen_68, e_Ds_screen_69, e_Ds_screen_72, e_Ds_screen_73, e_Ds_screen_74, e_Ds_screen_77, e_Ds_screen_78, e_Ds_screen_79, e_Ds_screen_81, e_Ds_screen_83, e_Ds_screen_86, e_Ds_screen_87, e_Ds_screen_88, e_Ds_screen_90, e_Ds_screen_92, e_Ds_screen_95, e_Ds_screen_98, e_Ds_screen_99, e_Ds_screen_100, e_Ds_screen_103, e_Ds_screen_104, e_Ds_screen_106, e_Ds_screen_109, e_Ds_screen_111, e_Ds_screen_113, e_Ds_screen_114, e_Ds_screen_115, e_Ds_screen_117, e_Ds_screen_119, e_Ds_screen_122, e_Ds_screen_124, bd_some, bd_none, Option.toList_some, Option.toList_none, List.nil_append, List.cons_append, px_kill_int, px_kill_long, px_kill_ref, px_kill_null, iI_lit, iJ_lit, iI_add, iI_sub, iI_mul, iI_neg, iJ_add, iJ_sub, iJ_mul, iJ_neg, iI_lt, iI_le, iI_eq, iJ_lt, iJ_le, iJ_eq, iI_div, iJ_div, tdiv_tmod, iI_J, iJ_I, iI_ix, iI_toInt, iJ_toInt, cmp_ge, cmp_lt, cmp_eq, cmp_gt, cmp_le, cmp_geI, cmp_ltI, cmp_eqI, cmp_gtI, cmp_leI, bI_0I, bI_1I, pin, if_true, g1, one0, if_false, ga, gb, gc, er]
  rw [bI_tI cc] at gc
  by_cases cd : -12 ≤ d ∧ d ≤ 12
  case neg =>
    rw [bI_fI cd] at gd
    rw [if_neg (fun z => cd z.1.2.2.2)]
    refine ⟨T1, ?_, hF1, hs1⟩
    simp (disch := first | omega | assumption | decide | (simp (disch := omega) only [iI_lit, iJ_lit, iJ_eq, iI_eq, bI_01, bI_01I] <;> omega)) only [c_Ds_screen, e_Ds_screen_0, e_Ds_screen_1, e_Ds_screen_2, e_Ds_screen_5, e_Ds_screen_8, e_Ds_screen_9, e_Ds_screen_10, e_Ds_screen_13, e_Ds_screen_14, e_Ds_screen_15, e_Ds_screen_17, e_Ds_screen_20, e_Ds_screen_23, e_Ds_screen_24, e_Ds_screen_26, e_Ds_screen_29, e_Ds_screen_32, e_Ds_screen_34, e_Ds_screen_36, e_Ds_screen_39, e_Ds_screen_42, e_Ds_screen_44, e_Ds_screen_46, e_Ds_screen_49, e_Ds_screen_52, e_Ds_screen_53, e_Ds_screen_55, e_Ds_screen_56, e_Ds_screen_57, e_Ds_screen_59, e_Ds_screen_60, e_Ds_screen_61, e_Ds_screen_64, e_Ds_screen_67, e_Ds_screen_68, e_Ds_screen_69, e_Ds_screen_72, e_Ds_screen_73, e_Ds_screen_74, e_Ds_screen_77, e_Ds_screen_78, e_Ds_screen_79, e_Ds_screen_81, e_Ds_screen_83, e_Ds_screen_86, e_Ds_screen_87, e_Ds_screen_88, e_Ds_screen_90, e_Ds_screen_92, e_Ds_screen_95, e_Ds_screen_98, e_Ds_screen_99, e_Ds_screen_100, e_Ds_screen_103, e_Ds_screen_104, e_Ds_screen_106, e_Ds_screen_109, e_Ds_screen_111, e_Ds_screen_113, e_Ds_screen_114, e_Ds_screen_115, e_Ds_screen_117, e_Ds_screen_119, e_Ds_screen_122, e_Ds_screen_124, bd_some, bd_none, Option.toList_some, Option.toList_none, List.nil_append, List.cons_append, px_kill_int, px_kill_long, px_kill_ref, px_kill_null, iI_lit, iJ_lit, iI_add, iI_sub, iI_mul, iI_neg, iJ_add, iJ_sub, iJ_mul, iJ_neg, iI_lt, iI_le, iI_eq, iJ_lt, iJ_le, iJ_eq, iI_div, iJ_div, tdiv_tmod, iI_J, iJ_I, iI_ix, iI_toInt, iJ_toInt, cmp_ge, cmp_lt, cmp_eq, cmp_gt, cmp_le, cmp_geI, cmp_ltI, cmp_eqI, cmp_gtI, cmp_leI, bI_0I, bI_1I, pin, if_true, g1, one0, if_false, ga, gb, gc, gd, er]
  rw [bI_tI cd] at gd
  have m1 := mul_bd (a := a) (b := d) (M := 12) (N := 12) ca cd
  have m2 := mul_bd (a := b) (b := c) (M := 12) (N := 12) cb cc
  have gz := g_isCell (z := a * d - b * c) (by omega) (enc T)
  by_cases cz : isScr a b c d
  case neg =>
    rw [bI_fI cz] at gz
    rw [if_neg (fun z => cz z.2)]
    refine ⟨T1, ?_, hF1, hs1⟩
    simp (disch := first | omega | assumption | decide | (simp (disch := omega) only [iI_lit, iJ_lit, iJ_eq, iI_eq, bI_01, bI_01I] <;> omega)) only [c_Ds_screen, e_Ds_screen_0, e_Ds_screen_1, e_Ds_screen_2, e_Ds_screen_5, e_Ds_screen_8, e_Ds_screen_9, e_Ds_screen_10, e_Ds_screen_13, e_Ds_screen_14, e_Ds_screen_15, e_Ds_screen_17, e_Ds_screen_20, e_Ds_screen_23, e_Ds_screen_24, e_Ds_screen_26, e_Ds_screen_29, e_Ds_screen_32, e_Ds_screen_34, e_Ds_screen_36, e_Ds_screen_39, e_Ds_screen_42, e_Ds_screen_44, e_Ds_screen_46, e_Ds_screen_49, e_Ds_screen_52, e_Ds_screen_53, e_Ds_screen_55, e_Ds_screen_56, e_Ds_screen_57, e_Ds_screen_59, e_Ds_screen_60, e_Ds_screen_61, e_Ds_screen_64, e_Ds_screen_67, e_Ds_screen_68, e_Ds_screen_69, e_Ds_screen_72, e_Ds_screen_73, e_Ds_screen_74, e_Ds_screen_77, e_Ds_screen_78, e_Ds_screen_79, e_Ds_screen_81, e_Ds_screen_83, e_Ds_screen_86, e_Ds_screen_87, e_Ds_screen_88, e_Ds_screen_90, e_Ds_screen_92, e_Ds_screen_95, e_Ds_screen_98, e_Ds_screen_99, e_Ds_screen_100, e_Ds_screen_103, e_Ds_screen_104, e_Ds_screen_106, e_Ds_screen_109, e_Ds_screen_111, e_Ds_screen_113, e_Ds_screen_114, e_Ds_screen_115, e_Ds_screen_117, e_Ds_screen_119, e_Ds_screen_122, e_Ds_screen_124, bd_some, bd_none, Option.toList_some, Option.toList_none, List.nil_append, List.cons_append, px_kill_int, px_kill_long, px_kill_ref, px_kill_null, iI_lit, iJ_lit, iI_add, iI_sub, iI_mul, iI_neg, iJ_add, iJ_sub, iJ_mul, iJ_neg, iI_lt, iI_le, iI_eq, iJ_lt, iJ_le, iJ_eq, iI_div, iJ_div, tdiv_tmod, iI_J, iJ_I, iI_ix, iI_toInt, iJ_toInt, cmp_ge, cmp_lt, cmp_eq, cmp_gt, cmp_le, cmp_geI, cmp_ltI, cmp_eqI, cmp_gtI, cmp_leI, bI_0I, bI_1I, pin, if_true, g1, one0, if_false, ga, gb, gc, gd, gz, er]
  rw [bI_tI cz] at gz
  have cAll : isSide a b c d ∧ isScr a b c d := ⟨⟨ca, cb, cc, cd⟩, cz⟩
  rw [if_pos cAll]
  obtain ⟨j, rfl⟩ : ∃ j : Nat, i = (j : Int) := ⟨i.toNat, by omega⟩
  have hj : j < S.1.1 := by have := c1.2; omega
  have ej : ((j : Int)).toNat = j := by omega
  obtain ⟨h4, hp, hs, hI⟩ := cC.at hS.1 h.1 hj
  have q1 := (pl_s3 hp).2.2.2.2.1
  have hk := hS.1.2 j hj
  obtain ⟨s0, s1, s2, s3⟩ := hI.1.2.2.1
  have hcl := hI.1.2.2.2.2.1
  have ecl : cel (S.1.2 j 0) (S.1.2 j 1) (S.1.2 j 2) (S.1.2 j 3) = celN (S.1.2 j) := rfl
  rw [ecl] at hcl
  have gt := s_isTold T q1 (iI a) (iI b) (iI c) (iI d)
  rw [s0, s1, s2, s3, bI_iff (q := isSo (S.1.2 j) a b c d) (by
    have k0 := hk.1.1
    have k1 := hk.1.2.1
    have k2 := hk.1.2.2.1
    have k3 := hk.1.2.2.2.1
    rw [iI_eq (by omega) (by omega) (by omega) (by omega), iI_eq (by omega) (by omega) (by omega) (by omega), iI_eq (by omega) (by omega) (by omega) (by omega), iI_eq (by omega) (by omega) (by omega) (by omega)])] at gt
  rw [ej]
  by_cases c5 : isSo (S.1.2 j) a b c d
  · rw [if_pos c5]
    rw [bI_tI c5] at gt
    obtain ⟨T', e, hF, hsp⟩ := c_ref2 hS h
    refine ⟨T', ?_, hF, hsp⟩
    simp (disch := first | omega | assumption | decide | (simp (disch := omega) only [iI_lit, iJ_lit, iJ_eq, iI_eq, bI_01, bI_01I] <;> omega)) only [c_Ds_screen, e_Ds_screen_0, e_Ds_screen_1, e_Ds_screen_2, e_Ds_screen_5, e_Ds_screen_8, e_Ds_screen_9, e_Ds_screen_10, e_Ds_screen_13, e_Ds_screen_14, e_Ds_screen_15, e_Ds_screen_17, e_Ds_screen_20, e_Ds_screen_23, e_Ds_screen_24, e_Ds_screen_26, e_Ds_screen_29, e_Ds_screen_32, e_Ds_screen_34, e_Ds_screen_36, e_Ds_screen_39, e_Ds_screen_42, e_Ds_screen_44, e_Ds_screen_46, e_Ds_screen_49, e_Ds_screen_52, e_Ds_screen_53, e_Ds_screen_55, e_Ds_screen_56, e_Ds_screen_57, e_Ds_screen_59, e_Ds_screen_60, e_Ds_screen_61, e_Ds_screen_64, e_Ds_screen_67, e_Ds_screen_68, e_Ds_screen_69, e_Ds_screen_72, e_Ds_screen_73, e_Ds_screen_74, e_Ds_screen_77, e_Ds_screen_78, e_Ds_screen_79, e_Ds_screen_81, e_Ds_screen_83, e_Ds_screen_86, e_Ds_screen_87, e_Ds_screen_88, e_Ds_screen_90, e_Ds_screen_92, e_Ds_screen_95, e_Ds_screen_98, e_Ds_screen_99, e_Ds_screen_100, e_Ds_screen_103, e_Ds_screen_104, e_Ds_screen_106, e_Ds_screen_109, e_Ds_screen_111, e_Ds_screen_113, e_Ds_screen_114, e_Ds_screen_115, e_Ds_screen_117, e_Ds_screen_119, e_Ds_screen_122, e_Ds_screen_124, bd_some, bd_none, Option.toList_some, Option.toList_none, List.nil_append, List.cons_append, px_kill_int, px_kill_long, px_kill_ref, px_kill_null, iI_lit, iJ_lit, iI_add, iI_sub, iI_mul, iI_neg, iJ_add, iJ_sub, iJ_mul, iJ_neg, iI_lt, iI_le, iI_eq, iJ_lt, iJ_le, iJ_eq, iI_div, iJ_div, tdiv_tmod, iI_J, iJ_I, iI_ix, iI_toInt, iJ_toInt, cmp_ge, cmp_lt, cmp_eq, cmp_gt, cmp_le, cmp_geI, cmp_ltI, cmp_eqI, cmp_gtI, cmp_leI, bI_0I, bI_1I, pin, if_true, g1, one0, if_false, ga, gb, gc, gd, gz, sh_n5, ej, hs, q1, gt, e]
  · rw [if_neg c5]
    rw [bI_fI c5] at gt
    obtain ⟨T2, e2, fr, n1, n2, n3, n4, n5⟩ := s_takeScreen T hp (okS_of cAll)
    have hu := fC.upd (T' := T2) (f := scF (S.1.2 j) a b c d) hS h hj fr.2.2 (fun q k hq => fr.1 _ _ (by omega)) (fun q k hq => fr.2.1 _ _ (by omega)) (by
      obtain ⟨⟨p1, p2, p3, p4, p5, p6, p7⟩, q2, q3, q4, q5⟩ := hI
      refine ⟨⟨p1, okS_of cAll, n1, n2, n3, ?_, p7⟩, ?_, ?_, ?_, Or.inl n4⟩
      · rw [fr.1 _ _ (by omega)]; exact p6
      · rw [fr.1 _ _ (by omega)]; exact q2
      · rw [fr.1 _ _ (by omega)]; exact q3
      · rw [fr.1 _ _ (by omega)]; exact q4) (Or.inl n5)
    refine ⟨T2, ?_, hu.1, hu.2⟩
    simp (disch := first | omega | assumption | decide | (simp (disch := omega) only [iI_lit, iJ_lit, iJ_eq, iI_eq, bI_01, bI_01I] <;> omega)) only [c_Ds_screen, e_Ds_screen_0, e_Ds_screen_1, e_Ds_screen_2, e_Ds_screen_5, e_Ds_screen_8, e_Ds_screen_9, e_Ds_screen_10, e_Ds_screen_13, e_Ds_screen_14, e_Ds_screen_15, e_Ds_screen_17, e_Ds_screen_20, e_Ds_screen_23, e_Ds_screen_24, e_Ds_screen_26, e_Ds_screen_29, e_Ds_screen_32, e_Ds_screen_34, e_Ds_screen_36, e_Ds_screen_39, e_Ds_screen_42, e_Ds_screen_44, e_Ds_screen_46, e_Ds_screen_49, e_Ds_screen_52, e_Ds_screen_53, e_Ds_screen_55, e_Ds_screen_56, e_Ds_screen_57, e_Ds_screen_59, e_Ds_screen_60, e_Ds_screen_61, e_Ds_screen_64, e_Ds_screen_67, e_Ds_screen_68, e_Ds_screen_69, e_Ds_screen_72, e_Ds_screen_73, e_Ds_screen_74, e_Ds_screen_77, e_Ds_screen_78, e_Ds_screen_79, e_Ds_screen_81, e_Ds_screen_83, e_Ds_screen_86, e_Ds_screen_87, e_Ds_screen_88, e_Ds_screen_90, e_Ds_screen_92, e_Ds_screen_95, e_Ds_screen_98, e_Ds_screen_99, e_Ds_screen_100, e_Ds_screen_103, e_Ds_screen_104, e_Ds_screen_106, e_Ds_screen_109, e_Ds_screen_111, e_Ds_screen_113, e_Ds_screen_114, e_Ds_screen_115, e_Ds_screen_117, e_Ds_screen_119, e_Ds_screen_122, e_Ds_screen_124, bd_some, bd_none, Option.toList_some, Option.toList_none, List.nil_append, List.cons_append, px_kill_int, px_kill_long, px_kill_ref, px_kill_null, iI_lit, iJ_lit, iI_add, iI_sub, iI_mul, iI_neg, iJ_add, iJ_sub, iJ_mul, iJ_neg, iI_lt, iI_le, iI_eq, iJ_lt, iJ_le, iJ_eq, iI_div, iJ_div, tdiv_tmod, iI_J, iJ_I, iI_ix, iI_toInt, iJ_toInt, cmp_ge, cmp_lt, cmp_eq, cmp_gt, cmp_le, cmp_geI, cmp_ltI, cmp_eqI, cmp_gtI, cmp_leI, bI_0I, bI_1I, pin, if_true, g1, one0, if_false, ga, gb, gc, gd, gz, sh_n5, ej, hs, q1, gt, hcl, e2]
