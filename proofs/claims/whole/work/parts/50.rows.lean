/-! A ROW OF PIXELS IN THE COMPONENT. -/
def aOwn (p q k : Nat) : Prop := aSort p q k ∨ (q = p ∧ (k = 15 ∨ k = 16 ∨ k = 17))
def aRow (p q k : Nat) : Prop := q = p ∧ (k = 15 ∨ k = 16 ∨ k = 17)
theorem aOwn_own {p q k : Nat} (h : aOwn p q k) : p ≤ q ∧ q < p + 7 := by unfold aOwn aSort at h; omega
theorem aOwn_ask {p q k : Nat} (hp : isPl p) (h : aOwn p q k) : aAsk q k := ⟨p, hp, h⟩
theorem srtN_fr {T T' : TS} {p : Nat} {f : Nat → Int} {A : Nat → Nat → Prop} (h5 : srtN T p f) (hf : FrI A T T') (hA : ∀ q k, p ≤ q → q < p + 7 → (q = p → k < 15) → ¬ A q k) : srtN T' p f := by
  obtain ⟨s1, s2, s3, s4⟩ := h5
  refine ⟨fun r hr => ?_, fun r hr => ?_, fun r hr => ?_, ?_⟩
  · rw [hf.1 _ _ (hA _ _ (by omega) (by omega) (by omega))]; exact s1 r hr
  · rw [hf.1 _ _ (hA _ _ (by omega) (by omega) (by omega))]; exact s2 r hr
  · rw [hf.1 _ _ (hA _ _ (by omega) (by omega) (by omega))]; exact s3 r hr
  · rw [hf.1 _ _ (hA _ _ (by omega) (by omega) (by omega))]; exact s4
theorem inkC.fr2 {T T' : TS} {p : Nat} {f : Nat → Int} {A : Nat → Nat → Prop} (h : inkC T p f) (hf : FrI A T T') (hA : ∀ q k, p ≤ q → q < p + 7 → (q = p → k < 15) → ¬ A q k) : inkC T' p f := by
  obtain ⟨h1, h2, h3, h4, h5⟩ := h
  refine ⟨h1.fr hf (fun k => hA _ _ (by omega) (by omega) (by omega)) (hA _ _ (by omega) (by omega) (by omega)) (hA _ _ (by omega) (by omega) (by omega)), ?_, ?_, ?_, ?_⟩
  · rw [hf.1 _ _ (hA _ _ (by omega) (by omega) (by omega))]; exact h2
  · rw [hf.1 _ _ (hA _ _ (by omega) (by omega) (by omega))]; exact h3
  · rw [hf.1 _ _ (hA _ _ (by omega) (by omega) (by omega))]; exact h4
  · rcases h5 with h5 | h5
    · left; rw [hf.1 _ _ (hA _ _ (by omega) (by omega) (by omega))]; exact h5
    · right; exact srtN_fr h5 hf hA
/-- an ink stands at a pixel of a row -/
def rowC (T : TS) (p : Nat) (f : Nat → Int) (x y : Int) : Prop := T.1 p 15 = iI ((y - f 7) % bkH (brkN f) * bkW (brkN f)) ∧ T.1 p 16 = iI (hmX (bkW (brkN f)) (bkH (brkN f)) (bkS (brkN f)) (x - f 6) (y - f 7)) ∧ T.1 p 17 = iI (lvlN f) ∧ srtN T p f
theorem rowC.fr {T T' : TS} {p : Nat} {f : Nat → Int} {x y : Int} {A : Nat → Nat → Prop} (h : rowC T p f x y) (hf : FrI A T T') (hA : ∀ q k, p ≤ q → q < p + 7 → ¬ A q k) : rowC T' p f x y := by
  refine ⟨?_, ?_, ?_, srtN_fr h.2.2.2 hf (fun q k h1 h2 _ => hA q k h1 h2)⟩
  · rw [hf.1 _ _ (hA _ _ (by omega) (by omega))]; exact h.1
  · rw [hf.1 _ _ (hA _ _ (by omega) (by omega))]; exact h.2.1
  · rw [hf.1 _ _ (hA _ _ (by omega) (by omega))]; exact h.2.2.1
set_option maxHeartbeats 1000000 in
theorem c_start {T : TS} {V : VW} (hV : okV V) (h : cC T V) {j : Nat} (hj : j < V.1) {x y : Int} (hx : -50000 ≤ x ∧ x ≤ 50000) (hy : -50000 ≤ y ∧ y ≤ 50000) : ∃ T', cl k_Ink_startRow [.ref (T.2.2.1 j), .int (iI x), .int (iI y)] (enc T) = some (none, enc T') ∧ FrI (aOwn (T.2.2.1 j)) T T' ∧ cC T' V ∧ rowC T' (T.2.2.1 j) (V.2 j) x y := by
  have hi0 := h.2.2.2 j hj
  have hp := h.2.1 j (by have := hV.1; omega)
  have hs := isPl_sh hp
  obtain ⟨T1, e1, fr1, hS⟩ := s_sort hi0.1 hi0.2.2.2.2
  have hI := hi0.sort fr1 hS
  have ok := hV.2 j hj
  have hG := okG_brk ok.1
  have hpl := s_placeOf T1 hs (x := x) (y := y) hI.1.2.2.2.1 hG hx hy hI.2.2.1 hI.2.2.2.1 ⟨ok.2.2.2.1, ok.2.2.2.2⟩
  have hb := plcN_bd ok x y
  have ha := s_axis0 T1 hs (n := plcN (V.2 j) x y) hI.1.2.2.2.1 hG (by omega)
  have hax := plc_ax hG (x - V.2 j 6) (y - V.2 j 7)
  rw [show plcN (V.2 j) x y % bkW (brk (V.2 j 0) (V.2 j 1) (V.2 j 2) (V.2 j 3)) = hmX (bkW (brkN (V.2 j))) (bkH (brkN (V.2 j))) (bkS (brkN (V.2 j))) (x - V.2 j 6) (y - V.2 j 7) from hax.1] at ha
  have hcb : 0 < celN (V.2 j) ∧ celN (V.2 j) ≤ 144 := cel_bd ok.1
  generalize hp0 : T.2.2.1 j = p at *
  obtain ⟨T2, hT2⟩ : ∃ T2 : TS, T2 = sI (sI T1 p 16 (iI (hmX (bkW (brkN (V.2 j))) (bkH (brkN (V.2 j))) (bkS (brkN (V.2 j))) (x - V.2 j 6) (y - V.2 j 7)))) p 15 (iI ((y - V.2 j 7) % bkH (brkN (V.2 j)) * bkW (brkN (V.2 j)))) := ⟨_, rfl⟩
  have fr2 : FrI (aRow p) T1 T2 := by
    rw [hT2]
    exact ((FrI.rf _ _).wr _ (by unfold aRow; omega)).wr _ (by unfold aRow; omega)
  have hI2 : inkC T2 p (V.2 j) := hI.fr2 fr2 (fun q k h1 h2 h3 h4 => by unfold aRow at h4; omega)
  have hl := s_inklevel T2 hs (c := celN (V.2 j)) (t := V.2 j 5) hI2.1.2.2.2.2.1 hI2.2.1 (by omega) ok.2.2.1
  have fr3 : FrI (aRow p) T1 (sI T2 p 17 (iI (lvlN (V.2 j)))) := fr2.wr _ (by unfold aRow; omega)
  have frA : FrI (aOwn p) T (sI T2 p 17 (iI (lvlN (V.2 j)))) := (fr1.mono (fun q k z => Or.inl z)).tr (fr3.mono (fun q k z => Or.inr z))
  refine ⟨sI T2 p 17 (iI (lvlN (V.2 j))), ?_, frA, ?_, ?_, ?_, ?_, ?_⟩
  · have hT : T2.1 p 16 = iI (hmX (bkW (brkN (V.2 j))) (bkH (brkN (V.2 j))) (bkS (brkN (V.2 j))) (x - V.2 j 6) (y - V.2 j 7)) := by rw [hT2]; simp only [sI_get, sJ_get, sI_2, sJ_1, sJ_22, sR_1, sR_21, Nat.reduceEqDiff, and_true, true_and, and_false, false_and, and_self, if_true, if_false, reduceIte]
    have hsub : plc (bkW (brk (V.2 j 0) (V.2 j 1) (V.2 j 2) (V.2 j 3))) (bkH (brk (V.2 j 0) (V.2 j 1) (V.2 j 2) (V.2 j 3))) (bkS (brk (V.2 j 0) (V.2 j 1) (V.2 j 2) (V.2 j 3))) (x - V.2 j 6) (y - V.2 j 7) - hmX (bkW (brkN (V.2 j))) (bkH (brkN (V.2 j))) (bkS (brkN (V.2 j))) (x - V.2 j 6) (y - V.2 j 7) = (y - V.2 j 7) % bkH (brkN (V.2 j)) * bkW (brkN (V.2 j)) := Int.add_sub_cancel _ _
    simp (disch := first | omega | assumption | decide | (simp (disch := omega) only [iI_lit, iJ_lit, iJ_eq, iI_eq, bI_01, bI_01I] <;> omega)) only [c_Ink_startRow, e_Ink_startRow_0, e_Ink_startRow_1, e_Ink_startRow_4, e_Ink_startRow_5, e_Ink_startRow_6, e_Ink_startRow_7, e_Ink_startRow_10, e_Ink_startRow_11, e_Ink_startRow_12, e_Ink_startRow_13, e_Ink_startRow_14, e_Ink_startRow_15, e_Ink_startRow_18, e_Ink_startRow_21, e_Ink_startRow_22, e_Ink_startRow_23, e_Ink_startRow_24, e_Ink_startRow_27, e_Ink_startRow_28, e_Ink_startRow_31, e_Ink_startRow_32, e_Ink_startRow_33, e_Ink_startRow_36, e_Ink_startRow_39, bd_some, bd_none, Option.toList_some, Option.toList_none, List.nil_append, List.cons_append, px_kill_int, px_kill_long, px_kill_ref, px_kill_null, iI_lit, iJ_lit, iI_add, iI_sub, iI_mul, iI_neg, iJ_add, iJ_sub, iJ_mul, iJ_neg, iI_lt, iI_le, iI_eq, iJ_lt, iJ_le, iJ_eq, iI_div, iJ_div, tdiv_tmod, iI_J, iJ_I, iI_ix, iI_toInt, iJ_toInt, cmp_ge, cmp_lt, cmp_eq, cmp_gt, cmp_le, cmp_geI, cmp_ltI, cmp_eqI, cmp_gtI, cmp_leI, bI_0I, bI_1I, pin, if_true, sI_get, sJ_get, sI_2, sJ_1, sJ_22, sR_1, sR_21, Nat.reduceEqDiff, and_true, true_and, and_false, false_and, and_self, if_true, if_false, reduceIte, e1, hpl, ha, hs, hsub, ← hT2, hl]
  · refine h.one hV.1 hj (A := aOwn p) frA (fun q k z => by rw [hp0]; exact aOwn_own z) ?_
    rw [hp0]
    exact hI.fr2 fr3 (fun q k h1 h2 h3 h4 => by unfold aRow at h4; omega)
  · rw [hT2]; simp only [sI_get, sJ_get, sI_2, sJ_1, sJ_22, sR_1, sR_21, Nat.reduceEqDiff, and_true, true_and, and_false, false_and, and_self, if_true, if_false, reduceIte]
  · rw [hT2]; simp only [sI_get, sJ_get, sI_2, sJ_1, sJ_22, sR_1, sR_21, Nat.reduceEqDiff, and_true, true_and, and_false, false_and, and_self, if_true, if_false, reduceIte]
  · simp only [sI_get, sJ_get, sI_2, sJ_1, sJ_22, sR_1, sR_21, Nat.reduceEqDiff, and_true, true_and, and_false, false_and, and_self, if_true, if_false, reduceIte]
  · exact srtN_fr hS fr3 (fun q k h1 h2 h3 h4 => by unfold aRow at h4; omega)
theorem hm_step {w h s x y : Int} (hw : 0 < w) : hmX w h s (x + 1) y = if w ≤ hmX w h s x y + 1 then 0 else hmX w h s x y + 1 := by
  unfold hmX
  rw [show x + 1 - y / h * s = (x - y / h * s) + 1 by omega]
  generalize x - y / h * s = z
  have h1 := Int.emod_nonneg z (show w ≠ 0 by omega)
  have h2 := Int.emod_lt_of_pos z hw
  have h3 := Int.mul_ediv_add_emod z w
  split
  · have : z + 1 = w * (z / w + 1) := by rw [Int.mul_add]; omega
    rw [this, Int.mul_emod_right]
  · have : z + 1 = (z % w + 1) + w * (z / w) := by omega
    rw [this, Int.add_mul_emod_self_left, Int.emod_eq_of_lt (by omega) (by omega)]
theorem inkd01 (f : Nat → Int) (x y : Int) : iI (isInkd f x y) = 0 ∨ iI (isInkd f x y) = 1 := by
  unfold isInkd
  split
  · right; rfl
  · left; rfl
set_option maxHeartbeats 1000000 in
theorem c_pass {T : TS} {V : VW} (hV : okV V) (h : cC T V) {j : Nat} (hj : j < V.1) {x y : Int} (hr : rowC T (T.2.2.1 j) (V.2 j) x y) : ∃ T', cl k_Ink_passPixel [.ref (T.2.2.1 j)] (enc T) = some (some (.int (iI (isInkd (V.2 j) x y))), enc T') ∧ FrI (aOwn (T.2.2.1 j)) T T' ∧ cC T' V ∧ rowC T' (T.2.2.1 j) (V.2 j) (x + 1) y := by
  have hI := h.2.2.2 j hj
  have hp := h.2.1 j (by have := hV.1; omega)
  have hs := isPl_sh hp
  have ok := hV.2 j hj
  have hG := okG_brk ok.1
  have hw : 0 < bkW (brkN (V.2 j)) ∧ bkW (brkN (V.2 j)) ≤ 144 := hG.1
  have hb := plcN_bd ok x y
  have hb4 := plc_bd4 hG (x - V.2 j 6) (y - V.2 j 7)
  have hrk := rkN_sp ok x y
  obtain ⟨r1, r2, r3, r4⟩ := hr
  have hcb : 0 < celN (V.2 j) ∧ celN (V.2 j) ≤ 144 := cel_bd ok.1
  have hlv := lvlN_bd ok
  have hsum : (y - V.2 j 7) % bkH (brkN (V.2 j)) * bkW (brkN (V.2 j)) + hmX (bkW (brkN (V.2 j))) (bkH (brkN (V.2 j))) (bkS (brkN (V.2 j))) (x - V.2 j 6) (y - V.2 j 7) = plcN (V.2 j) x y := rfl
  have hst := hm_step (w := bkW (brkN (V.2 j))) (h := bkH (brkN (V.2 j))) (s := bkS (brkN (V.2 j))) (x := x - V.2 j 6) (y := y - V.2 j 7) hw.1
  rw [show x - V.2 j 6 + 1 = x + 1 - V.2 j 6 by omega] at hst
  have hq : (0 ≤ hmX (bkW (brkN (V.2 j))) (bkH (brkN (V.2 j))) (bkS (brkN (V.2 j))) (x - V.2 j 6) (y - V.2 j 7) ∧ hmX (bkW (brkN (V.2 j))) (bkH (brkN (V.2 j))) (bkS (brkN (V.2 j))) (x - V.2 j 6) (y - V.2 j 7) < bkW (brkN (V.2 j))) := hb4.1
  have hgr : T.2.1 (T.2.2.1 j + 2) 0 = iJ (bkW (brkN (V.2 j))) := hI.1.2.2.2.1.1
  have e2 := g_at (T := T) (n := plcN (V.2 j) x y) (pl_s3 hp).2.1 (by omega) (by omega)
  have e3 := r4.2.2.1 (rkN (V.2 j) x y) hrk.1
  rw [← hrk.2, show (((ordN (V.2 j) (rkN (V.2 j) x y) : Nat) : Int)).toNat = ordN (V.2 j) (rkN (V.2 j) x y) by omega, e3, hrk.2] at e2
  have q2 := (pl_s3 hp).2.2.2.2.2
  generalize hp0 : T.2.2.1 j = p at *
  unfold rowC
  rw [hst]
  generalize hmX (bkW (brkN (V.2 j))) (bkH (brkN (V.2 j))) (bkS (brkN (V.2 j))) (x - V.2 j 6) (y - V.2 j 7) = u at *
  generalize hw0 : bkW (brkN (V.2 j)) = w at *
  obtain ⟨T', hT'⟩ : ∃ T' : TS, T' = if w ≤ u + 1 then sI (sI T p 16 (iI (u + 1))) p 16 (iI 0) else sI T p 16 (iI (u + 1)) := ⟨_, rfl⟩
  have fr : FrI (aRow p) T T' := by
    rw [hT']
    split
    · exact ((FrI.rf _ _).wr _ (by unfold aRow; omega)).wr _ (by unfold aRow; omega)
    · exact (FrI.rf _ _).wr _ (by unfold aRow; omega)
  have frA : FrI (aOwn p) T T' := fr.mono (fun q k z => Or.inr z)
  have hfin : rn k_Ink_passPixel 29 [.ref p, .int (iI (isInkd (V.2 j) x y))] [] (enc T) = some (some (.int (iI (isInkd (V.2 j) x y))), enc T') := by
    rw [hT']
    have h01 := inkd01 (V.2 j) x y
    by_cases c : w ≤ u + 1
    · have c' : ¬ u + 1 < w := by omega
      simp (disch := first | omega | assumption | decide | (simp (disch := omega) only [iI_lit, iJ_lit, iJ_eq, iI_eq, bI_01, bI_01I] <;> omega)) only [e_Ink_passPixel_29, e_Ink_passPixel_30, e_Ink_passPixel_31, e_Ink_passPixel_34, e_Ink_passPixel_35, e_Ink_passPixel_36, e_Ink_passPixel_39, e_Ink_passPixel_40, e_Ink_passPixel_43, e_Ink_passPixel_44, e_Ink_passPixel_45, e_Ink_passPixel_48, e_Ink_passPixel_51, e_Ink_passPixel_52, e_Ink_passPixel_55, e_Ink_passPixel_56, e_Ink_passPixel_57, e_Ink_passPixel_60, e_Ink_passPixel_61, bd_some, bd_none, Option.toList_some, Option.toList_none, List.nil_append, List.cons_append, px_kill_int, px_kill_long, px_kill_ref, px_kill_null, iI_lit, iJ_lit, iI_add, iI_sub, iI_mul, iI_neg, iJ_add, iJ_sub, iJ_mul, iJ_neg, iI_lt, iI_le, iI_eq, iJ_lt, iJ_le, iJ_eq, iI_div, iJ_div, tdiv_tmod, iI_J, iJ_I, iI_ix, iI_toInt, iJ_toInt, cmp_ge, cmp_lt, cmp_eq, cmp_gt, cmp_le, cmp_geI, cmp_ltI, cmp_eqI, cmp_gtI, cmp_leI, bI_0I, bI_1I, pin, if_true, sI_get, sJ_get, sI_2, sJ_1, sJ_22, sR_1, sR_21, Nat.reduceEqDiff, and_true, true_and, and_false, false_and, and_self, if_true, if_false, reduceIte, hs, r2, hgr, q2, c, c']
    · have c' : u + 1 < w := by omega
      simp (disch := first | omega | assumption | decide | (simp (disch := omega) only [iI_lit, iJ_lit, iJ_eq, iI_eq, bI_01, bI_01I] <;> omega)) only [e_Ink_passPixel_29, e_Ink_passPixel_30, e_Ink_passPixel_31, e_Ink_passPixel_34, e_Ink_passPixel_35, e_Ink_passPixel_36, e_Ink_passPixel_39, e_Ink_passPixel_40, e_Ink_passPixel_43, e_Ink_passPixel_44, e_Ink_passPixel_45, e_Ink_passPixel_48, e_Ink_passPixel_51, e_Ink_passPixel_52, e_Ink_passPixel_55, e_Ink_passPixel_56, e_Ink_passPixel_57, e_Ink_passPixel_60, e_Ink_passPixel_61, bd_some, bd_none, Option.toList_some, Option.toList_none, List.nil_append, List.cons_append, px_kill_int, px_kill_long, px_kill_ref, px_kill_null, iI_lit, iJ_lit, iI_add, iI_sub, iI_mul, iI_neg, iJ_add, iJ_sub, iJ_mul, iJ_neg, iI_lt, iI_le, iI_eq, iJ_lt, iJ_le, iJ_eq, iI_div, iJ_div, tdiv_tmod, iI_J, iJ_I, iI_ix, iI_toInt, iJ_toInt, cmp_ge, cmp_lt, cmp_eq, cmp_gt, cmp_le, cmp_geI, cmp_ltI, cmp_eqI, cmp_gtI, cmp_leI, bI_0I, bI_1I, pin, if_true, sI_get, sJ_get, sI_2, sJ_1, sJ_22, sR_1, sR_21, Nat.reduceEqDiff, and_true, true_and, and_false, false_and, and_self, if_true, if_false, reduceIte, hs, r2, hgr, q2, c, c']
  refine ⟨T', ?_, frA, ?_, ?_, ?_, ?_, ?_⟩
  · rw [← hfin]
    unfold isInkd
    by_cases c : (rkN (V.2 j) x y : Int) < lvlN (V.2 j)
    · have nc : ¬ lvlN (V.2 j) ≤ (rkN (V.2 j) x y : Int) := by omega
      rw [if_pos c]
      simp (disch := first | omega | assumption | decide | (simp (disch := omega) only [iI_lit, iJ_lit, iJ_eq, iI_eq, bI_01, bI_01I] <;> omega)) only [c_Ink_passPixel, e_Ink_passPixel_0, e_Ink_passPixel_1, e_Ink_passPixel_4, e_Ink_passPixel_5, e_Ink_passPixel_8, e_Ink_passPixel_9, e_Ink_passPixel_12, e_Ink_passPixel_13, e_Ink_passPixel_16, e_Ink_passPixel_17, e_Ink_passPixel_20, e_Ink_passPixel_23, e_Ink_passPixel_24, e_Ink_passPixel_27, e_Ink_passPixel_28, bd_some, bd_none, Option.toList_some, Option.toList_none, List.nil_append, List.cons_append, px_kill_int, px_kill_long, px_kill_ref, px_kill_null, iI_lit, iJ_lit, iI_add, iI_sub, iI_mul, iI_neg, iJ_add, iJ_sub, iJ_mul, iJ_neg, iI_lt, iI_le, iI_eq, iJ_lt, iJ_le, iJ_eq, iI_div, iJ_div, tdiv_tmod, iI_J, iJ_I, iI_ix, iI_toInt, iJ_toInt, cmp_ge, cmp_lt, cmp_eq, cmp_gt, cmp_le, cmp_geI, cmp_ltI, cmp_eqI, cmp_gtI, cmp_leI, bI_0I, bI_1I, pin, if_true, hs, r1, r2, r3, hsum, e2, nc, if_false]
    · have nc : lvlN (V.2 j) ≤ (rkN (V.2 j) x y : Int) := by omega
      rw [if_neg c]
      simp (disch := first | omega | assumption | decide | (simp (disch := omega) only [iI_lit, iJ_lit, iJ_eq, iI_eq, bI_01, bI_01I] <;> omega)) only [c_Ink_passPixel, e_Ink_passPixel_0, e_Ink_passPixel_1, e_Ink_passPixel_4, e_Ink_passPixel_5, e_Ink_passPixel_8, e_Ink_passPixel_9, e_Ink_passPixel_12, e_Ink_passPixel_13, e_Ink_passPixel_16, e_Ink_passPixel_17, e_Ink_passPixel_20, e_Ink_passPixel_23, e_Ink_passPixel_24, e_Ink_passPixel_27, e_Ink_passPixel_28, bd_some, bd_none, Option.toList_some, Option.toList_none, List.nil_append, List.cons_append, px_kill_int, px_kill_long, px_kill_ref, px_kill_null, iI_lit, iJ_lit, iI_add, iI_sub, iI_mul, iI_neg, iJ_add, iJ_sub, iJ_mul, iJ_neg, iI_lt, iI_le, iI_eq, iJ_lt, iJ_le, iJ_eq, iI_div, iJ_div, tdiv_tmod, iI_J, iJ_I, iI_ix, iI_toInt, iJ_toInt, cmp_ge, cmp_lt, cmp_eq, cmp_gt, cmp_le, cmp_geI, cmp_ltI, cmp_eqI, cmp_gtI, cmp_leI, bI_0I, bI_1I, pin, if_true, hs, r1, r2, r3, hsum, e2, nc]
  · refine h.one hV.1 hj (A := aOwn p) frA (fun q k z => by rw [hp0]; exact aOwn_own z) ?_
    rw [hp0]
    exact hI.fr2 fr (fun q k h1 h2 h3 h4 => by unfold aRow at h4; omega)
  · rw [hT']; split <;> simp only [sI_get, sJ_get, sI_2, sJ_1, sJ_22, sR_1, sR_21, Nat.reduceEqDiff, and_true, true_and, and_false, false_and, and_self, if_true, if_false, reduceIte, r1, hw0]
  · rw [hT']
    by_cases c : w ≤ u + 1
    · simp only [c, sI_get, sJ_get, sI_2, sJ_1, sJ_22, sR_1, sR_21, Nat.reduceEqDiff, and_true, true_and, and_false, false_and, and_self, if_true, if_false, reduceIte]
    · simp only [c, sI_get, sJ_get, sI_2, sJ_1, sJ_22, sR_1, sR_21, Nat.reduceEqDiff, and_true, true_and, and_false, false_and, and_self, if_true, if_false, reduceIte]
  · rw [hT']; split <;> simp only [sI_get, sJ_get, sI_2, sJ_1, sJ_22, sR_1, sR_21, Nat.reduceEqDiff, and_true, true_and, and_false, false_and, and_self, if_true, if_false, reduceIte, r3]
  · exact srtN_fr r4 fr (fun q k h1 h2 h3 h4 => by unfold aRow at h4; omega)
