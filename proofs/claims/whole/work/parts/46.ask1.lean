/-! ASKING: the reference's frame and gates; brick, home, spot, rank, ranked on both sides. -/
def aRef (q k : Nat) : Prop := (q = 53 ∧ k ≠ 2 ∧ k ≠ 10) ∨ q = 55 ∨ (58 ≤ q ∧ q ≤ 71)
def FrM (T T' : TS) : Prop := (∀ q k, ¬ aRef q k → T'.1 q k = T.1 q k) ∧ (∀ q k, ¬ (q = 53 ∨ (58 ≤ q ∧ q ≤ 71)) → T'.2.1 q k = T.2.1 q k) ∧ T'.2.2 = T.2.2
theorem FrM.rf (T : TS) : FrM T T := ⟨fun _ _ _ => rfl, fun _ _ _ => rfl, rfl⟩
theorem FrM.tr {T T' T'' : TS} (h1 : FrM T T') (h2 : FrM T' T'') : FrM T T'' := ⟨fun q k h => (h2.1 q k h).trans (h1.1 q k h), fun q k h => (h2.2.1 q k h).trans (h1.2.1 q k h), h2.2.2.trans h1.2.2⟩
theorem FrM.wr {T T' : TS} (h : FrM T T') {p k : Nat} (x : Int32) (hA : aRef p k) : FrM T (sI T' p k x) := by
  refine ⟨fun q j hq => ?_, h.2.1, h.2.2⟩
  rw [sI_get]
  split
  · rename_i e
    obtain ⟨rfl, rfl⟩ := e
    exact absurd hA hq
  · exact h.1 q j hq
theorem FrM.wrJ {T T' : TS} (h : FrM T T') {p k : Nat} (x : Int64) (hA : p = 53 ∨ (58 ≤ p ∧ p ≤ 71)) : FrM T (sJ T' p k x) := by
  refine ⟨h.1, fun q j hq => ?_, h.2.2⟩
  rw [sJ_get]
  split
  · rename_i e
    obtain ⟨rfl, rfl⟩ := e
    exact absurd hA hq
  · exact h.2.1 q j hq
theorem FrM.of {A : Nat → Nat → Prop} {T T' : TS} (h : FrI A T T') (hA : ∀ q k, A q k → aRef q k) : FrM T T' := ⟨fun q k hq => h.1 q k (fun z => hq (hA q k z)), fun q k _ => by rw [h.2], by rw [h.2]⟩
theorem aRnk_ref {q k : Nat} (h : aRnk q k) : aRef q k := by unfold aRnk at h; unfold aRef; omega
theorem cM.fr {T T' : TS} {V : VW} (h : cM T V) (hf : FrM T T') : cM T' V := by
  refine ⟨?_, fun j hj k hk => ?_⟩
  · rw [hf.1 _ _ (by unfold aRef; omega)]; exact h.1
  · rw [hf.1 _ _ (by unfold aRef; omega)]; exact h.2 j hj k hk
theorem tBrk_fr (T : TS) (a b c d : Int) : FrM T (tBrk T a b c d) := (((FrM.rf T).wrJ _ (Or.inl rfl)).wrJ _ (Or.inl rfl)).wrJ _ (Or.inl rfl)
theorem cM.ink {T : TS} {V : VW} (hV : okV V) (h : cM T V) {j : Nat} (hj : j < V.1) : inkM T j (V.2 j 0) (V.2 j 1) (V.2 j 2) (V.2 j 3) (V.2 j 4) := by
  have hn := hV.2 j hj
  have := hV.1
  exact ⟨by omega, hn.1, ⟨h.2 j hj 0 (by omega), h.2 j hj 1 (by omega), h.2 j hj 2 (by omega), h.2 j hj 3 (by omega)⟩, h.2 j hj 4 (by omega), hn.2.1⟩
theorem g_inM {T : TS} {V : VW} (hV : okV V) (h : cM T V) {i : Int} (hi : inI i) : cl k_Dm_isInk [.ref 53, .int (iI i)] (enc T) = some (some (.int (bI (isK V i))), enc T) := by
  have h4 := hV.1
  obtain ⟨i1, i2⟩ := hi
  simp (disch := first | omega | assumption | decide | (simp (disch := omega) only [iI_lit, iJ_lit, iJ_eq, iI_eq, bI_01, bI_01I] <;> omega)) only [c_Dm_isInk, e_Dm_isInk_0, e_Dm_isInk_1, e_Dm_isInk_2, e_Dm_isInk_3, e_Dm_isInk_4, e_Dm_isInk_7, e_Dm_isInk_8, e_Dm_isInk_9, e_Dm_isInk_10, e_Dm_isInk_13, bd_some, bd_none, Option.toList_some, Option.toList_none, List.nil_append, List.cons_append, px_kill_int, px_kill_long, px_kill_ref, px_kill_null, iI_lit, iJ_lit, iI_add, iI_sub, iI_mul, iI_neg, iJ_add, iJ_sub, iJ_mul, iJ_neg, iI_lt, iI_le, iI_eq, iJ_lt, iJ_le, iJ_eq, iI_div, iJ_div, tdiv_tmod, iI_J, iJ_I, iI_ix, iI_toInt, iJ_toInt, cmp_ge, cmp_lt, cmp_eq, cmp_gt, cmp_le, cmp_geI, cmp_ltI, cmp_eqI, cmp_gtI, cmp_leI, bI_0I, bI_1I, pin, if_true, h.1, s_in]
  rw [bI_iff (q := isK V i) (by unfold isK; omega)]
theorem g_pxM {x y : Int} (hx : inI x) (hy : inI y) (g : px_G) : cl k_Dm_isPixel [.int (iI x), .int (iI y)] g = some (some (.int (bI (isX x y))), g) := by
  obtain ⟨x1, x2⟩ := hx
  obtain ⟨y1, y2⟩ := hy
  have e9 : (-9999 : Int64) = iJ (-9999) := by decide
  simp (disch := first | omega | assumption | decide | (simp (disch := omega) only [iI_lit, iJ_lit, iJ_eq, iI_eq, bI_01, bI_01I] <;> omega)) only [c_Dm_isPixel, e_Dm_isPixel_0, e_Dm_isPixel_1, e_Dm_isPixel_2, e_Dm_isPixel_5, e_Dm_isPixel_8, e_Dm_isPixel_11, e_Dm_isPixel_14, e_Dm_isPixel_15, e_Dm_isPixel_16, e_Dm_isPixel_19, e_Dm_isPixel_22, e_Dm_isPixel_25, e_Dm_isPixel_28, e_Dm_isPixel_29, e_Dm_isPixel_32, e_Dm_isPixel_33, bd_some, bd_none, Option.toList_some, Option.toList_none, List.nil_append, List.cons_append, px_kill_int, px_kill_long, px_kill_ref, px_kill_null, iI_lit, iJ_lit, iI_add, iI_sub, iI_mul, iI_neg, iJ_add, iJ_sub, iJ_mul, iJ_neg, iI_lt, iI_le, iI_eq, iJ_lt, iJ_le, iJ_eq, iI_div, iJ_div, tdiv_tmod, iI_J, iJ_I, iI_ix, iI_toInt, iJ_toInt, cmp_ge, cmp_lt, cmp_eq, cmp_gt, cmp_le, cmp_geI, cmp_ltI, cmp_eqI, cmp_gtI, cmp_leI, bI_0I, bI_1I, pin, if_true, s_in, e9]
  by_cases h1 : -9999 ≤ x ∧ x ≤ 9999
  · by_cases h2 : -9999 ≤ y ∧ y ≤ 9999
    · rw [bI_t (c := isX x y) ⟨h1, h2⟩, if_neg (by omega), if_neg (by omega)]
      rfl
    · rw [bI_f (c := isX x y) (fun z => h2 z.2), if_neg (by omega), if_pos h2]
      rfl
  · rw [bI_f (c := isX x y) (fun z => h1 z.1), if_pos h1]
    rfl
/-- the reference's first row: nothing thrown -/
abbrev t0 (T : TS) : TS := sI T 53 0 (iI 0)
theorem t0_fr (T : TS) : FrM T (t0 T) := (FrM.rf T).wr _ (by unfold aRef; omega)
theorem one0 : ((1 : Int) = 0) = False := by simp
theorem zer0 : ((0 : Int) = 0) = True := by simp
theorem bI_tI {c : Prop} [Decidable c] (h : c) : bI c = iI 1 := if_pos h
theorem bI_fI {c : Prop} [Decidable c] (h : ¬ c) : bI c = iI 0 := if_neg h
/-! brick -/
def qBrick (V : VW) (i k : Int) : Int := if isK V i ∧ 0 ≤ k ∧ k ≤ 2 then (if k = 0 then bkW (brkN (V.2 i.toNat)) else if k = 1 then bkH (brkN (V.2 i.toNat)) else bkS (brkN (V.2 i.toNat))) else -1000000
set_option maxHeartbeats 1000000 in
theorem q_Dm_brick {T : TS} {V : VW} (hV : okV V) (h : cM T V) {i k : Int} (hi : inI i) (hk : inI k) : ∃ T', cl k_Dm_brick [.ref 53, .int (iI i), .int (iI k)] (enc T) = some (some (.int (iI (qBrick V i k))), enc T') ∧ FrM T T' := by
  have hM : cM (t0 T) V := h.fr (t0_fr T)
  have g1 := g_inM hV hM hi
  obtain ⟨i1, i2⟩ := id hi
  obtain ⟨k1, k2⟩ := hk
  have g2 := s_in (x := k) (l := 0) (h := 2) (enc (t0 T)) (by omega) (by omega) (by omega)
  by_cases c1 : isK V i
  · rw [bI_tI c1] at g1
    by_cases c2 : 0 ≤ k ∧ k ≤ 2
    · rw [bI_tI c2] at g2
      obtain ⟨j, rfl⟩ : ∃ j : Nat, i = (j : Int) := ⟨i.toNat, by omega⟩
      have hj : j < V.1 := by have := c1.2; omega
      have hink := hM.ink hV hj
      have hb : cl k_Dm_laysBrick [.ref 53, .int (iI (j : Int))] (enc (t0 T)) = some (none, enc (tBrk (t0 T) (V.2 j 0) (V.2 j 1) (V.2 j 2) (V.2 j 3))) := s_laysBrick (t0 T) hink.1 hink.2.2.1 hink.2.1
      have hg := tBrk_g (t0 T) (V.2 j 0) (V.2 j 1) (V.2 j 2) (V.2 j 3)
      refine ⟨tBrk (t0 T) (V.2 j 0) (V.2 j 1) (V.2 j 2) (V.2 j 3), ?_, (t0_fr T).tr (tBrk_fr _ _ _ _ _)⟩
      unfold qBrick
      rw [if_pos ⟨c1, c2⟩, show ((j : Int)).toNat = j by omega]
      simp (disch := first | omega | assumption | decide | (simp (disch := omega) only [iI_lit, iJ_lit, iJ_eq, iI_eq, bI_01, bI_01I] <;> omega)) only [c_Dm_brick, e_Dm_brick_0, e_Dm_brick_1, e_Dm_brick_2, e_Dm_brick_5, e_Dm_brick_6, e_Dm_brick_7, e_Dm_brick_10, e_Dm_brick_13, e_Dm_brick_14, e_Dm_brick_15, e_Dm_brick_16, e_Dm_brick_19, e_Dm_brick_22, e_Dm_brick_25, e_Dm_brick_28, e_Dm_brick_29, e_Dm_brick_30, e_Dm_brick_31, e_Dm_brick_34, e_Dm_brick_35, e_Dm_brick_38, e_Dm_brick_39, e_Dm_brick_42, e_Dm_brick_45, e_Dm_brick_46, e_Dm_brick_47, e_Dm_brick_50, e_Dm_brick_51, e_Dm_brick_54, e_Dm_brick_57, e_Dm_brick_58, e_Dm_brick_61, e_Dm_brick_62, bd_some, bd_none, Option.toList_some, Option.toList_none, List.nil_append, List.cons_append, px_kill_int, px_kill_long, px_kill_ref, px_kill_null, iI_lit, iJ_lit, iI_add, iI_sub, iI_mul, iI_neg, iJ_add, iJ_sub, iJ_mul, iJ_neg, iI_lt, iI_le, iI_eq, iJ_lt, iJ_le, iJ_eq, iI_div, iJ_div, tdiv_tmod, iI_J, iJ_I, iI_ix, iI_toInt, iJ_toInt, cmp_ge, cmp_lt, cmp_eq, cmp_gt, cmp_le, cmp_geI, cmp_ltI, cmp_eqI, cmp_gtI, cmp_leI, bI_0I, bI_1I, pin, if_true, g1, g2, one0, if_false, hb, hg.1, hg.2.1, hg.2.2]
      by_cases k0 : k = 0
      · rw [if_pos k0, if_pos k0]
      · rw [if_neg k0, if_neg k0]
        by_cases k1 : k = 1
        · rw [if_pos k1, if_pos k1]
        · rw [if_neg k1, if_neg k1]
    · rw [bI_fI c2] at g2
      refine ⟨t0 T, ?_, t0_fr T⟩
      unfold qBrick
      rw [if_neg (fun z => c2 z.2)]
      simp (disch := first | omega | assumption | decide | (simp (disch := omega) only [iI_lit, iJ_lit, iJ_eq, iI_eq, bI_01, bI_01I] <;> omega)) only [c_Dm_brick, e_Dm_brick_0, e_Dm_brick_1, e_Dm_brick_2, e_Dm_brick_5, e_Dm_brick_6, e_Dm_brick_7, e_Dm_brick_10, e_Dm_brick_13, e_Dm_brick_14, e_Dm_brick_15, e_Dm_brick_16, e_Dm_brick_19, e_Dm_brick_22, e_Dm_brick_25, e_Dm_brick_28, e_Dm_brick_29, e_Dm_brick_30, e_Dm_brick_31, e_Dm_brick_34, e_Dm_brick_35, e_Dm_brick_38, e_Dm_brick_39, e_Dm_brick_42, e_Dm_brick_45, e_Dm_brick_46, e_Dm_brick_47, e_Dm_brick_50, e_Dm_brick_51, e_Dm_brick_54, e_Dm_brick_57, e_Dm_brick_58, e_Dm_brick_61, e_Dm_brick_62, bd_some, bd_none, Option.toList_some, Option.toList_none, List.nil_append, List.cons_append, px_kill_int, px_kill_long, px_kill_ref, px_kill_null, iI_lit, iJ_lit, iI_add, iI_sub, iI_mul, iI_neg, iJ_add, iJ_sub, iJ_mul, iJ_neg, iI_lt, iI_le, iI_eq, iJ_lt, iJ_le, iJ_eq, iI_div, iJ_div, tdiv_tmod, iI_J, iJ_I, iI_ix, iI_toInt, iJ_toInt, cmp_ge, cmp_lt, cmp_eq, cmp_gt, cmp_le, cmp_geI, cmp_ltI, cmp_eqI, cmp_gtI, cmp_leI, bI_0I, bI_1I, pin, if_true, g1, g2, one0, if_false]
  · rw [bI_fI c1] at g1
    refine ⟨t0 T, ?_, t0_fr T⟩
    unfold qBrick
    rw [if_neg (fun z => c1 z.1)]
    simp (disch := first | omega | assumption | decide | (simp (disch := omega) only [iI_lit, iJ_lit, iJ_eq, iI_eq, bI_01, bI_01I] <;> omega)) only [c_Dm_brick, e_Dm_brick_0, e_Dm_brick_1, e_Dm_brick_2, e_Dm_brick_5, e_Dm_brick_6, e_Dm_brick_7, e_Dm_brick_10, e_Dm_brick_13, e_Dm_brick_14, e_Dm_brick_15, e_Dm_brick_16, e_Dm_brick_19, e_Dm_brick_22, e_Dm_brick_25, e_Dm_brick_28, e_Dm_brick_29, e_Dm_brick_30, e_Dm_brick_31, e_Dm_brick_34, e_Dm_brick_35, e_Dm_brick_38, e_Dm_brick_39, e_Dm_brick_42, e_Dm_brick_45, e_Dm_brick_46, e_Dm_brick_47, e_Dm_brick_50, e_Dm_brick_51, e_Dm_brick_54, e_Dm_brick_57, e_Dm_brick_58, e_Dm_brick_61, e_Dm_brick_62, bd_some, bd_none, Option.toList_some, Option.toList_none, List.nil_append, List.cons_append, px_kill_int, px_kill_long, px_kill_ref, px_kill_null, iI_lit, iJ_lit, iI_add, iI_sub, iI_mul, iI_neg, iJ_add, iJ_sub, iJ_mul, iJ_neg, iI_lt, iI_le, iI_eq, iJ_lt, iJ_le, iJ_eq, iI_div, iJ_div, tdiv_tmod, iI_J, iJ_I, iI_ix, iI_toInt, iJ_toInt, cmp_ge, cmp_lt, cmp_eq, cmp_gt, cmp_le, cmp_geI, cmp_ltI, cmp_eqI, cmp_gtI, cmp_leI, bI_0I, bI_1I, pin, if_true, g1]
set_option maxHeartbeats 1000000 in
theorem q_Ds_brick {T : TS} {V : VW} (hV : okV V) (h : cC T V) {i k : Int} (hi : inI i) (hk : inI k) : cl k_Ds_brick [.ref 0, .int (iI i), .int (iI k)] (enc T) = some (some (.int (iI (qBrick V i k))), enc T) := by
  have g1 := g_isInk hV h hi
  obtain ⟨i1, i2⟩ := id hi
  obtain ⟨k1, k2⟩ := hk
  have hV4 := hV.1
  unfold qBrick
  by_cases c1 : isK V i
  · rw [bI_tI c1] at g1
    obtain ⟨j, rfl⟩ : ∃ j : Nat, i = (j : Int) := ⟨i.toNat, by omega⟩
    have hj : j < V.1 := by have := c1.2; omega
    have hp := h.2.1 j (by omega)
    have hs := isPl_sh hp
    obtain ⟨w1, w2, w3⟩ := (h.2.2.2 j hj).1.2.2.2.1
    have ej : ((j : Int)).toNat = j := by omega
    have q2 : sh (T.2.2.1 j + 2) = (102, 3) := by unfold isPl at hp; rcases hp with e | e | e | e <;> rw [e] <;> rfl
    simp (disch := first | omega | assumption | decide | (simp (disch := omega) only [iI_lit, iJ_lit, iJ_eq, iI_eq, bI_01, bI_01I] <;> omega)) only [c_Ds_brick, e_Ds_brick_0, e_Ds_brick_1, e_Ds_brick_2, e_Ds_brick_5, e_Ds_brick_8, e_Ds_brick_10, e_Ds_brick_11, e_Ds_brick_12, e_Ds_brick_15, e_Ds_brick_16, e_Ds_brick_17, e_Ds_brick_20, e_Ds_brick_21, e_Ds_brick_22, e_Ds_brick_48, e_Ds_brick_49, e_Ds_brick_52, e_Ds_brick_53, e_Ds_brick_54, e_Ds_brick_55, e_Ds_brick_58, e_Ds_brick_59, e_Ds_brick_60, e_Ds_brick_61, e_Ds_brick_64, e_Ds_brick_65, e_Ds_brick_66, e_Ds_brick_68, bd_some, bd_none, Option.toList_some, Option.toList_none, List.nil_append, List.cons_append, px_kill_int, px_kill_long, px_kill_ref, px_kill_null, iI_lit, iJ_lit, iI_add, iI_sub, iI_mul, iI_neg, iJ_add, iJ_sub, iJ_mul, iJ_neg, iI_lt, iI_le, iI_eq, iJ_lt, iJ_le, iJ_eq, iI_div, iJ_div, tdiv_tmod, iI_J, iJ_I, iI_ix, iI_toInt, iJ_toInt, cmp_ge, cmp_lt, cmp_eq, cmp_gt, cmp_le, cmp_geI, cmp_ltI, cmp_eqI, cmp_gtI, cmp_leI, bI_0I, bI_1I, pin, if_true, g1, one0, if_false, sh_n5, ej, hs, q2, w1, w2, w3]
    by_cases k0 : k = 0
    · rw [if_pos k0, if_pos k0, if_pos ⟨c1, by omega⟩]
    · rw [if_neg k0, if_neg k0]
      by_cases k1 : k = 1
      · rw [if_pos k1, if_pos k1, if_pos ⟨c1, by omega⟩]
      · rw [if_neg k1, if_neg k1]
        by_cases k2 : k = 2
        · rw [if_pos k2, if_pos ⟨c1, by omega⟩]
        · rw [if_neg k2, if_neg (fun z => by omega)]
  · rw [bI_fI c1] at g1
    rw [if_neg (fun z => c1 z.1)]
    simp (disch := first | omega | assumption | decide | (simp (disch := omega) only [iI_lit, iJ_lit, iJ_eq, iI_eq, bI_01, bI_01I] <;> omega)) only [c_Ds_brick, e_Ds_brick_0, e_Ds_brick_1, e_Ds_brick_2, e_Ds_brick_5, e_Ds_brick_8, e_Ds_brick_10, e_Ds_brick_11, e_Ds_brick_12, e_Ds_brick_15, e_Ds_brick_16, e_Ds_brick_17, e_Ds_brick_20, e_Ds_brick_21, e_Ds_brick_22, e_Ds_brick_48, e_Ds_brick_49, e_Ds_brick_52, e_Ds_brick_53, e_Ds_brick_54, e_Ds_brick_55, e_Ds_brick_58, e_Ds_brick_59, e_Ds_brick_60, e_Ds_brick_61, e_Ds_brick_64, e_Ds_brick_65, e_Ds_brick_66, e_Ds_brick_68, bd_some, bd_none, Option.toList_some, Option.toList_none, List.nil_append, List.cons_append, px_kill_int, px_kill_long, px_kill_ref, px_kill_null, iI_lit, iJ_lit, iI_add, iI_sub, iI_mul, iI_neg, iJ_add, iJ_sub, iJ_mul, iJ_neg, iI_lt, iI_le, iI_eq, iJ_lt, iJ_le, iJ_eq, iI_div, iJ_div, tdiv_tmod, iI_J, iJ_I, iI_ix, iI_toInt, iJ_toInt, cmp_ge, cmp_lt, cmp_eq, cmp_gt, cmp_le, cmp_geI, cmp_ltI, cmp_eqI, cmp_gtI, cmp_leI, bI_0I, bI_1I, pin, if_true, g1]
