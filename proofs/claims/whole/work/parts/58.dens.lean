/-! densest. -/
abbrev mx2 (a b : Int) : Int := if a < b then b else a
theorem g_max {a b : Int} (ha : inI a) (hb : inI b) (g : px_G) : cl k_Math_max_II [.int (iI a), .int (iI b)] g = some (some (.int (iI (mx2 a b))), g) := by
  have e : (iI a < iI b) = (a < b) := iI_lt ha.1 ha.2 hb.1 hb.2
  rw [s_maxI]
  unfold mx2
  by_cases c : a < b
  · rw [if_pos c, if_pos (by rw [e]; exact c)]
  · rw [if_neg c, if_neg (by rw [e]; exact c)]
def mxf (d : Int) (g : Nat → Int) : Nat → Int
  | 0 => d
  | m + 1 => mx2 (mxf d g m) (g m)
theorem mxf_le (d : Int) (g : Nat → Int) (z : Int) : ∀ m, mxf d g m ≤ z ↔ d ≤ z ∧ ∀ i, i < m → g i ≤ z := by
  intro m
  induction m with
  | zero => exact ⟨fun h => ⟨h, fun i hi => by omega⟩, fun h => h.1⟩
  | succ m ih =>
    show mx2 (mxf d g m) (g m) ≤ z ↔ _
    constructor
    · intro h
      have h1 : mxf d g m ≤ z ∧ g m ≤ z := by unfold mx2 at h; split at h <;> omega
      refine ⟨(ih.mp h1.1).1, fun i hi => ?_⟩
      by_cases e : i = m
      · rw [e]; exact h1.2
      · exact (ih.mp h1.1).2 i (by omega)
    · intro h
      have h1 := ih.mpr ⟨h.1, fun i hi => h.2 i (by omega)⟩
      have h2 := h.2 m (by omega)
      unfold mx2
      split <;> omega
noncomputable def denC (V : VW) (x y : Int) (w : Nat) : Nat → Int
  | 0 => 0
  | j + 1 => mxf (denC V x y w j) (fun i => btN (setN V (x + (i : Nat)) (y + (j : Nat)) V.1)) w
noncomputable def denM (c : Nat → Int) : Nat → Int
  | 0 => 0
  | s + 1 => if 0 < c s then mx2 (denM c s) (btN (s : Int)) else denM c s
theorem denC_le (V : VW) (x y : Int) (w : Nat) (z : Int) : ∀ h, denC V x y w h ≤ z ↔ 0 ≤ z ∧ ∀ j, j < h → ∀ i, i < w → btN (setN V (x + (i : Nat)) (y + (j : Nat)) V.1) ≤ z := by
  intro h
  induction h with
  | zero => exact ⟨fun h => ⟨h, fun i hi => by omega⟩, fun h => h.1⟩
  | succ h ih =>
    show mxf (denC V x y w h) _ w ≤ z ↔ _
    rw [mxf_le, ih]
    constructor
    · intro q
      refine ⟨q.1.1, fun j hj => ?_⟩
      by_cases e : j = h
      · rw [e]; exact q.2
      · exact q.1.2 j (by omega)
    · intro q
      exact ⟨⟨q.1, fun j hj => q.2 j (by omega)⟩, q.2 h (by omega)⟩
theorem denM_le (c : Nat → Int) (z : Int) : ∀ N, denM c N ≤ z ↔ 0 ≤ z ∧ ∀ s, s < N → 0 < c s → btN (s : Int) ≤ z := by
  intro N
  induction N with
  | zero => exact ⟨fun h => ⟨h, fun i hi => by omega⟩, fun h => h.1⟩
  | succ N ih =>
    have e : denM c (N + 1) = if 0 < c N then mx2 (denM c N) (btN (N : Int)) else denM c N := rfl
    rw [e]
    by_cases hc : 0 < c N
    · rw [if_pos hc]
      constructor
      · intro h
        have h1 : denM c N ≤ z ∧ btN (N : Int) ≤ z := by unfold mx2 at h; split at h <;> omega
        refine ⟨(ih.mp h1.1).1, fun s hs hp => ?_⟩
        by_cases e : s = N
        · rw [e]; exact h1.2
        · exact (ih.mp h1.1).2 s (by omega) hp
      · intro h
        have h1 := ih.mpr ⟨h.1, fun s hs => h.2 s (by omega)⟩
        have h2 := h.2 N (by omega) hc
        unfold mx2
        split <;> omega
    · rw [if_neg hc, ih]
      constructor
      · intro q
        refine ⟨q.1, fun s hs hp => ?_⟩
        by_cases e : s = N
        · rw [e] at hp; exact absurd hp hc
        · exact q.2 s (by omega) hp
      · intro q
        exact ⟨q.1, fun s hs => q.2 s (by omega)⟩
theorem sm_pos {g : Nat → Int} : ∀ m, (∀ i, i < m → 0 ≤ g i) → (0 < sm g m ↔ ∃ i, i < m ∧ 0 < g i) := by
  intro m
  induction m with
  | zero => intro _; exact ⟨fun h => absurd h (by unfold sm; omega), fun ⟨i, hi, _⟩ => by omega⟩
  | succ m ih =>
    intro h
    have h1 := sm_nn m (fun i hi => h i (by omega))
    have h2 := h m (by omega)
    have ih' := ih (fun i hi => h i (by omega))
    show 0 < sm g m + g m ↔ _
    constructor
    · intro q
      by_cases c : 0 < g m
      · exact ⟨m, by omega, c⟩
      · obtain ⟨i, hi, hp⟩ := ih'.mp (by omega)
        exact ⟨i, by omega, hp⟩
    · intro ⟨i, hi, hp⟩
      by_cases e : i = m
      · rw [e] at hp; omega
      · have := ih'.mpr ⟨i, by omega, hp⟩
        omega
theorem hitN_nn (V : VW) (x y : Int) (s : Nat) : 0 ≤ hitN V x y s := by unfold hitN; split <;> omega
theorem cnt_pos (V : VW) (x y : Int) (w h s : Nat) : 0 < cntN V x y w h s ↔ ∃ j, j < h ∧ ∃ i, i < w ∧ setN V (x + (i : Nat)) (y + (j : Nat)) V.1 = (s : Int) := by
  unfold cntN
  rw [sm_pos _ (fun j _ => sm_nn _ (fun i _ => hitN_nn _ _ _ _))]
  constructor
  · intro ⟨j, hj, hp⟩
    obtain ⟨i, hi, hq⟩ := (sm_pos _ (fun i _ => hitN_nn _ _ _ _)).mp hp
    refine ⟨j, hj, i, hi, ?_⟩
    unfold hitN at hq
    split at hq
    · assumption
    · omega
  · intro ⟨j, hj, i, hi, e⟩
    refine ⟨j, hj, (sm_pos _ (fun i _ => hitN_nn _ _ _ _)).mpr ⟨i, hi, ?_⟩⟩
    unfold hitN
    rw [if_pos e]
    omega
theorem den_eq {V : VW} (hV : okV V) (x y : Int) (w h : Nat) : denM (cntN V x y w h) 16 = denC V x y w h := by
  have a : denM (cntN V x y w h) 16 ≤ denC V x y w h := by
    have q := (denC_le V x y w (denC V x y w h) h).mp (Int.le_refl _)
    refine (denM_le _ _ 16).mpr ⟨q.1, fun s hs hp => ?_⟩
    obtain ⟨j, hj, i, hi, e⟩ := (cnt_pos V x y w h s).mp hp
    have := q.2 j hj i hi
    rw [e] at this
    exact this
  have b : denC V x y w h ≤ denM (cntN V x y w h) 16 := by
    have q := (denM_le (cntN V x y w h) (denM (cntN V x y w h) 16) 16).mp (Int.le_refl _)
    refine (denC_le V x y w _ h).mpr ⟨q.1, fun j hj i hi => ?_⟩
    have hb := setN_16 hV (x + (i : Nat)) (y + (j : Nat))
    have e : (((setN V (x + (i : Nat)) (y + (j : Nat)) V.1).toNat : Nat) : Int) = setN V (x + (i : Nat)) (y + (j : Nat)) V.1 := by omega
    have := q.2 (setN V (x + (i : Nat)) (y + (j : Nat)) V.1).toNat (by omega) ((cnt_pos V x y w h _).mpr ⟨j, hj, i, hi, e.symm⟩)
    rw [e] at this
    exact this
  omega
noncomputable def qDens (V : VW) (x y w h : Int) : Int := if isWn x y w h then denC V x y w.toNat h.toNat else -1
theorem mxf_bd {d : Int} {g : Nat → Int} (hd : 0 ≤ d ∧ d ≤ 4) (hg : ∀ i, 0 ≤ g i ∧ g i ≤ 4) : ∀ m, 0 ≤ mxf d g m ∧ mxf d g m ≤ 4 := by
  intro m
  induction m with
  | zero => exact hd
  | succ m ih =>
    have := hg m
    show 0 ≤ mx2 (mxf d g m) (g m) ∧ mx2 (mxf d g m) (g m) ≤ 4
    unfold mx2
    split <;> omega
theorem denC_bd (V : VW) (x y : Int) (w : Nat) : ∀ h, 0 ≤ denC V x y w h ∧ denC V x y w h ≤ 4 := by
  intro h
  induction h with
  | zero => exact ⟨Int.le_refl 0, by unfold denC; omega⟩
  | succ h ih => exact mxf_bd ih (fun i => btN_bd _) w
theorem denM_bd (c : Nat → Int) : ∀ N, 0 ≤ denM c N ∧ denM c N ≤ 4 := by
  intro N
  induction N with
  | zero => exact ⟨Int.le_refl 0, by unfold denM; omega⟩
  | succ N ih =>
    have hb := btN_bd (N : Int)
    have e : denM c (N + 1) = if 0 < c N then mx2 (denM c N) (btN (N : Int)) else denM c N := rfl
    rw [e]
    unfold mx2
    split
    · split <;> omega
    · exact ih
set_option maxHeartbeats 1000000 in
theorem lp_cden2 {V : VW} (hV : okV V) {w : Nat} (hw : w ≤ 32) {x y : Int} (v1 v2 v4 v6 : Int32) {d : Int} (hd : 0 ≤ d ∧ d ≤ 4) : ∀ (m i : Nat) (T : TS), i + m = w → cC T V → rowsC T V (x + i) y V.1 → ∃ T', rn k_Ds_densest 38 [.ref 0, .int v1, .int v2, .int (iI (w : Int)), .int v4, .int (iI (mxf d (fun i => btN (setN V (x + (i : Nat)) y V.1)) i)), .int v6, .int (iI (i : Int))] [] (enc T) = rn k_Ds_densest 64 [.ref 0, .int v1, .int v2, .int (iI (w : Int)), .int v4, .int (iI (mxf d (fun i => btN (setN V (x + (i : Nat)) y V.1)) w)), .int v6, .int (iI (w : Int))] [] (enc T') ∧ FrI aAsk T T' ∧ cC T' V := by
  intro m
  induction m with
  | zero =>
    intro i T hi h hr
    have hiw : i = w := by omega
    refine ⟨T, ?_, FrI.rf _ _, h⟩
    rw [e_Ds_densest_38, hiw]
    simp (disch := first | omega | assumption | decide | (simp (disch := omega) only [iI_lit, iJ_lit, iJ_eq, iI_eq, bI_01, bI_01I] <;> omega)) only [e_Ds_densest_40, e_Ds_densest_41, e_Ds_densest_44, e_Ds_densest_46, e_Ds_densest_47, e_Ds_densest_50, e_Ds_densest_53, e_Ds_densest_56, e_Ds_densest_58, e_Ds_densest_61, bd_some, bd_none, Option.toList_some, Option.toList_none, List.nil_append, List.cons_append, px_kill_int, px_kill_long, px_kill_ref, px_kill_null, iI_lit, iJ_lit, iI_add, iI_sub, iI_mul, iI_neg, iJ_add, iJ_sub, iJ_mul, iJ_neg, iI_lt, iI_le, iI_eq, iJ_lt, iJ_le, iJ_eq, iI_div, iJ_div, tdiv_tmod, iI_J, iJ_I, iI_ix, iI_toInt, iJ_toInt, cmp_ge, cmp_lt, cmp_eq, cmp_gt, cmp_le, cmp_geI, cmp_ltI, cmp_eqI, cmp_gtI, cmp_leI, bI_0I, bI_1I, pin, if_true, Int.le_refl]
  | succ m ih =>
    intro i T hi h hr
    have nle : ¬ (w : Int) ≤ (i : Int) := by omega
    obtain ⟨T2, e2, fr2, h2, r2⟩ := c_passPixel hV h hr
    rw [show x + (i : Int) + 1 = x + ((i + 1 : Nat) : Int) by omega] at r2
    have hb := setN_16 hV (x + i) y
    obtain ⟨T', e3, fr3, h3⟩ := ih (i + 1) T2 (by omega) h2 r2
    refine ⟨T', ?_, fr2.tr fr3, h3⟩
    rw [e_Ds_densest_38, ← e3]
    have hmb := mxf_bd (g := fun i => btN (setN V (x + (i : Nat)) y V.1)) hd (fun i => btN_bd _) i
    rw [show mxf d (fun i => btN (setN V (x + (i : Nat)) y V.1)) (i + 1) = mx2 (mxf d (fun i => btN (setN V (x + (i : Nat)) y V.1)) i) (btN (setN V (x + (i : Nat)) y V.1)) from rfl]
    have hbt := btN_bd (setN V (x + i) y V.1)
    have hbc := s_bitCount hb (enc T2)
    generalize mxf d (fun i => btN (setN V (x + (i : Nat)) y V.1)) i = u at *
    generalize setN V (x + i) y V.1 = z at *
    have hm := g_max (a := u) (b := btN z) (by omega) (by omega) (enc T2)
    simp (disch := first | omega | assumption | decide | (simp (disch := omega) only [iI_lit, iJ_lit, iJ_eq, iI_eq, bI_01, bI_01I] <;> omega)) only [e_Ds_densest_40, e_Ds_densest_41, e_Ds_densest_44, e_Ds_densest_46, e_Ds_densest_47, e_Ds_densest_50, e_Ds_densest_53, e_Ds_densest_56, e_Ds_densest_58, e_Ds_densest_61, bd_some, bd_none, Option.toList_some, Option.toList_none, List.nil_append, List.cons_append, px_kill_int, px_kill_long, px_kill_ref, px_kill_null, iI_lit, iJ_lit, iI_add, iI_sub, iI_mul, iI_neg, iJ_add, iJ_sub, iJ_mul, iJ_neg, iI_lt, iI_le, iI_eq, iJ_lt, iJ_le, iJ_eq, iI_div, iJ_div, tdiv_tmod, iI_J, iJ_I, iI_ix, iI_toInt, iJ_toInt, cmp_ge, cmp_lt, cmp_eq, cmp_gt, cmp_le, cmp_geI, cmp_ltI, cmp_eqI, cmp_gtI, cmp_leI, bI_0I, bI_1I, pin, if_true, nle, if_false, e2, hbc, hm]
    rw [show (i : Int) + 1 = ((i + 1 : Nat) : Int) by omega]
set_option maxHeartbeats 1000000 in
theorem lp_cden1 {V : VW} (hV : okV V) {w ht : Nat} (hw : w ≤ 32) (hh : ht ≤ 32) {x y : Int} (hx : -999 ≤ x ∧ x ≤ 999) (hy : -999 ≤ y ∧ y ≤ 999) : ∀ (m j : Nat) (T : TS), j + m = ht → cC T V → ∀ (a7 : Value), ∃ T', rn k_Ds_densest 19 [.ref 0, .int (iI x), .int (iI y), .int (iI (w : Int)), .int (iI (ht : Int)), .int (iI (denC V x y w j)), .int (iI (j : Int)), a7] [] (enc T) = some (some (.int (iI (denC V x y w ht))), enc T') ∧ FrI aAsk T T' ∧ cC T' V := by
  intro m
  induction m with
  | zero =>
    intro j T hj h a7
    have hjh : j = ht := by omega
    refine ⟨T, ?_, FrI.rf _ _, h⟩
    rw [e_Ds_densest_19, hjh]
    simp (disch := first | omega | assumption | decide | (simp (disch := omega) only [iI_lit, iJ_lit, iJ_eq, iI_eq, bI_01, bI_01I] <;> omega)) only [e_Ds_densest_21, e_Ds_densest_23, e_Ds_densest_26, e_Ds_densest_27, e_Ds_densest_28, e_Ds_densest_29, e_Ds_densest_31, e_Ds_densest_32, e_Ds_densest_35, e_Ds_densest_36, e_Ds_densest_38, e_Ds_densest_40, e_Ds_densest_41, e_Ds_densest_44, e_Ds_densest_46, e_Ds_densest_47, e_Ds_densest_50, e_Ds_densest_53, e_Ds_densest_56, e_Ds_densest_58, e_Ds_densest_61, e_Ds_densest_64, e_Ds_densest_67, e_Ds_densest_70, e_Ds_densest_72, bd_some, bd_none, Option.toList_some, Option.toList_none, List.nil_append, List.cons_append, px_kill_int, px_kill_long, px_kill_ref, px_kill_null, iI_lit, iJ_lit, iI_add, iI_sub, iI_mul, iI_neg, iJ_add, iJ_sub, iJ_mul, iJ_neg, iI_lt, iI_le, iI_eq, iJ_lt, iJ_le, iJ_eq, iI_div, iJ_div, tdiv_tmod, iI_J, iJ_I, iI_ix, iI_toInt, iJ_toInt, cmp_ge, cmp_lt, cmp_eq, cmp_gt, cmp_le, cmp_geI, cmp_ltI, cmp_eqI, cmp_gtI, cmp_leI, bI_0I, bI_1I, pin, if_true, Int.le_refl]
  | succ m ih =>
    intro j T hj h a7
    have nle : ¬ (ht : Int) ≤ (j : Int) := by omega
    obtain ⟨T2, e2, fr2, h2, r2⟩ := c_startRow hV h (x := x) (y := y + j) (by omega) (by omega)
    obtain ⟨T3, e3, fr3, h3⟩ := lp_cden2 hV hw (x := x) (y := y + j) (iI x) (iI y) (iI (ht : Int)) (iI (j : Int)) (denC_bd V x y w j) w 0 T2 (by omega) h2 (by rw [show x + ((0 : Nat) : Int) = x by omega]; exact r2)
    obtain ⟨T', e4, fr4, h4⟩ := ih (j + 1) T3 (by omega) h3 (.int (iI (w : Int)))
    refine ⟨T', ?_, (fr2.tr fr3).tr fr4, h4⟩
    rw [e_Ds_densest_19]
    simp (disch := first | omega | assumption | decide | (simp (disch := omega) only [iI_lit, iJ_lit, iJ_eq, iI_eq, bI_01, bI_01I] <;> omega)) only [e_Ds_densest_21, e_Ds_densest_23, e_Ds_densest_26, e_Ds_densest_27, e_Ds_densest_28, e_Ds_densest_29, e_Ds_densest_31, e_Ds_densest_32, e_Ds_densest_35, e_Ds_densest_36, bd_some, bd_none, Option.toList_some, Option.toList_none, List.nil_append, List.cons_append, px_kill_int, px_kill_long, px_kill_ref, px_kill_null, iI_lit, iJ_lit, iI_add, iI_sub, iI_mul, iI_neg, iJ_add, iJ_sub, iJ_mul, iJ_neg, iI_lt, iI_le, iI_eq, iJ_lt, iJ_le, iJ_eq, iI_div, iJ_div, tdiv_tmod, iI_J, iJ_I, iI_ix, iI_toInt, iJ_toInt, cmp_ge, cmp_lt, cmp_eq, cmp_gt, cmp_le, cmp_geI, cmp_ltI, cmp_eqI, cmp_gtI, cmp_leI, bI_0I, bI_1I, pin, if_true, nle, if_false, e2]
    refine Eq.trans e3 ?_
    simp (disch := first | omega | assumption | decide | (simp (disch := omega) only [iI_lit, iJ_lit, iJ_eq, iI_eq, bI_01, bI_01I] <;> omega)) only [e_Ds_densest_64, e_Ds_densest_67, bd_some, bd_none, Option.toList_some, Option.toList_none, List.nil_append, List.cons_append, px_kill_int, px_kill_long, px_kill_ref, px_kill_null, iI_lit, iJ_lit, iI_add, iI_sub, iI_mul, iI_neg, iJ_add, iJ_sub, iJ_mul, iJ_neg, iI_lt, iI_le, iI_eq, iJ_lt, iJ_le, iJ_eq, iI_div, iJ_div, tdiv_tmod, iI_J, iJ_I, iI_ix, iI_toInt, iJ_toInt, cmp_ge, cmp_lt, cmp_eq, cmp_gt, cmp_le, cmp_geI, cmp_ltI, cmp_eqI, cmp_gtI, cmp_leI, bI_0I, bI_1I, pin, if_true]
    rw [show (j : Int) + 1 = ((j + 1 : Nat) : Int) by omega]
    exact e4
set_option maxHeartbeats 1000000 in
theorem q_Ds_densest {T : TS} {V : VW} (hV : okV V) (h : cC T V) {x y w ht : Int} (hx : inI x) (hy : inI y) (hw : inI w) (hh : inI ht) : ∃ T', cl k_Ds_densest [.ref 0, .int (iI x), .int (iI y), .int (iI w), .int (iI ht)] (enc T) = some (some (.int (iI (qDens V x y w ht))), enc T') ∧ FrI aAsk T T' ∧ cC T' V := by
  have g1 := g_isWindow hx hy hw hh (enc T)
  unfold qDens
  by_cases c1 : isWn x y w ht
  · rw [bI_tI c1] at g1
    rw [if_pos c1]
    obtain ⟨⟨cx, cy⟩, cw, ch⟩ := id c1
    obtain ⟨T', e, fr, h'⟩ := lp_cden1 hV (w := w.toNat) (ht := ht.toNat) (by omega) (by omega) cx cy ht.toNat 0 T (by omega) h .null
    rw [show ((w.toNat : Nat) : Int) = w by omega, show ((ht.toNat : Nat) : Int) = ht by omega] at e
    refine ⟨T', ?_, fr, h'⟩
    simp (disch := first | omega | assumption | decide | (simp (disch := omega) only [iI_lit, iJ_lit, iJ_eq, iI_eq, bI_01, bI_01I] <;> omega)) only [c_Ds_densest, e_Ds_densest_0, e_Ds_densest_1, e_Ds_densest_2, e_Ds_densest_3, e_Ds_densest_5, e_Ds_densest_8, e_Ds_densest_11, e_Ds_densest_12, e_Ds_densest_13, e_Ds_densest_14, e_Ds_densest_16, e_Ds_densest_17, bd_some, bd_none, Option.toList_some, Option.toList_none, List.nil_append, List.cons_append, px_kill_int, px_kill_long, px_kill_ref, px_kill_null, iI_lit, iJ_lit, iI_add, iI_sub, iI_mul, iI_neg, iJ_add, iJ_sub, iJ_mul, iJ_neg, iI_lt, iI_le, iI_eq, iJ_lt, iJ_le, iJ_eq, iI_div, iJ_div, tdiv_tmod, iI_J, iJ_I, iI_ix, iI_toInt, iJ_toInt, cmp_ge, cmp_lt, cmp_eq, cmp_gt, cmp_le, cmp_geI, cmp_ltI, cmp_eqI, cmp_gtI, cmp_leI, bI_0I, bI_1I, pin, if_true, g1, one0, if_false]
    exact e
  · rw [bI_fI c1] at g1
    rw [if_neg c1]
    refine ⟨T, ?_, FrI.rf _ _, h⟩
    simp (disch := first | omega | assumption | decide | (simp (disch := omega) only [iI_lit, iJ_lit, iJ_eq, iI_eq, bI_01, bI_01I] <;> omega)) only [c_Ds_densest, e_Ds_densest_0, e_Ds_densest_1, e_Ds_densest_2, e_Ds_densest_3, e_Ds_densest_5, e_Ds_densest_8, e_Ds_densest_11, e_Ds_densest_12, e_Ds_densest_13, e_Ds_densest_14, e_Ds_densest_16, e_Ds_densest_17, bd_some, bd_none, Option.toList_some, Option.toList_none, List.nil_append, List.cons_append, px_kill_int, px_kill_long, px_kill_ref, px_kill_null, iI_lit, iJ_lit, iI_add, iI_sub, iI_mul, iI_neg, iJ_add, iJ_sub, iJ_mul, iJ_neg, iI_lt, iI_le, iI_eq, iJ_lt, iJ_le, iJ_eq, iI_div, iJ_div, tdiv_tmod, iI_J, iJ_I, iI_ix, iI_toInt, iJ_toInt, cmp_ge, cmp_lt, cmp_eq, cmp_gt, cmp_le, cmp_geI, cmp_ltI, cmp_eqI, cmp_gtI, cmp_leI, bI_0I, bI_1I, pin, if_true, g1]
theorem cntN_bd (V : VW) (x y : Int) {w h : Nat} (s : Nat) (hw : w ≤ 32) (hh : h ≤ 32) : 0 ≤ cntN V x y w h s ∧ cntN V x y w h s ≤ 1024 := by
  refine ⟨sm_nn _ (fun j _ => sm_nn _ (fun i _ => hitN_nn _ _ _ _)), ?_⟩
  have h1 : ∀ j, sm (fun i => hitN V (x + (i : Nat)) (y + (j : Nat)) s) w ≤ 32 := by
    intro j
    have := sm_le (b := 1) w (fun i _ => show hitN V (x + (i : Nat)) (y + (j : Nat)) s ≤ 1 by unfold hitN; split <;> omega)
    omega
  have := sm_le (b := 32) h (fun j _ => h1 j)
  unfold cntN
  omega
set_option maxHeartbeats 1000000 in
theorem lp_mden {T : TS} (v1 v2 v3 v4 : Int32) {c : Nat → Int} (hcb : ∀ s, 0 ≤ c s ∧ c s ≤ 1024) (hc : ∀ s, s < 16 → T.1 67 s = iI (c s)) : ∀ (m s : Nat), s + m = 16 → rn k_Dm_densest 33 [.ref 53, .int v1, .int v2, .int v3, .int v4, .int (iI (denM c s)), .int (iI (s : Int))] [] (enc T) = some (some (.int (iI (denM c 16))), enc T) := by
  intro m
  induction m with
  | zero =>
    intro s hs
    have h16 : s = 16 := by omega
    rw [e_Dm_densest_33, h16]
    have h16 : ((16 : Nat) : Int) = 16 := rfl
    simp (disch := first | omega | assumption | decide | (simp (disch := omega) only [iI_lit, iJ_lit, iJ_eq, iI_eq, bI_01, bI_01I] <;> omega)) only [e_Dm_densest_35, e_Dm_densest_37, e_Dm_densest_40, e_Dm_densest_41, e_Dm_densest_44, e_Dm_densest_46, e_Dm_densest_47, e_Dm_densest_50, e_Dm_densest_52, e_Dm_densest_54, e_Dm_densest_57, e_Dm_densest_60, e_Dm_densest_63, e_Dm_densest_65, e_Dm_densest_67, e_Dm_densest_70, e_Dm_densest_73, e_Dm_densest_75, bd_some, bd_none, Option.toList_some, Option.toList_none, List.nil_append, List.cons_append, px_kill_int, px_kill_long, px_kill_ref, px_kill_null, h16, iI_lit, iJ_lit, iI_add, iI_sub, iI_mul, iI_neg, iJ_add, iJ_sub, iJ_mul, iJ_neg, iI_lt, iI_le, iI_eq, iJ_lt, iJ_le, iJ_eq, iI_div, iJ_div, tdiv_tmod, iI_J, iJ_I, iI_ix, iI_toInt, iJ_toInt, cmp_ge, cmp_lt, cmp_eq, cmp_gt, cmp_le, cmp_geI, cmp_ltI, cmp_eqI, cmp_gtI, cmp_leI, bI_0I, bI_1I, pin, if_true, Int.le_refl]
  | succ m ih =>
    intro s hs
    have nle : ¬ (16 : Int) ≤ (s : Int) := by omega
    have es : ((s : Int)).toNat = s := by omega
    have hv := hc s (by omega)
    have hb := hcb s
    have hbt := btN_bd (s : Int)
    have hdb := denM_bd c s
    have hbc := s_bits (s := (s : Int)) (by omega) (enc T)
    have hm := g_max (a := denM c s) (b := btN (s : Int)) (by omega) (by omega) (enc T)
    rw [e_Dm_densest_33, ← ih (s + 1) (by omega)]
    rw [show denM c (s + 1) = if 0 < c s then mx2 (denM c s) (btN (s : Int)) else denM c s from rfl]
    by_cases p : 0 < c s
    · rw [if_pos p]
      have np : ¬ c s ≤ 0 := by omega
      simp (disch := first | omega | assumption | decide | (simp (disch := omega) only [iI_lit, iJ_lit, iJ_eq, iI_eq, bI_01, bI_01I] <;> omega)) only [e_Dm_densest_35, e_Dm_densest_37, e_Dm_densest_40, e_Dm_densest_41, e_Dm_densest_44, e_Dm_densest_46, e_Dm_densest_47, e_Dm_densest_50, e_Dm_densest_52, e_Dm_densest_54, e_Dm_densest_57, e_Dm_densest_60, e_Dm_densest_63, e_Dm_densest_65, e_Dm_densest_67, e_Dm_densest_70, e_Dm_densest_73, e_Dm_densest_75, bd_some, bd_none, Option.toList_some, Option.toList_none, List.nil_append, List.cons_append, px_kill_int, px_kill_long, px_kill_ref, px_kill_null, iI_lit, iJ_lit, iI_add, iI_sub, iI_mul, iI_neg, iJ_add, iJ_sub, iJ_mul, iJ_neg, iI_lt, iI_le, iI_eq, iJ_lt, iJ_le, iJ_eq, iI_div, iJ_div, tdiv_tmod, iI_J, iJ_I, iI_ix, iI_toInt, iJ_toInt, cmp_ge, cmp_lt, cmp_eq, cmp_gt, cmp_le, cmp_geI, cmp_ltI, cmp_eqI, cmp_gtI, cmp_leI, bI_0I, bI_1I, pin, if_true, nle, if_false, sh_n67, es, hv, np, hbc, hm]
      rw [show (s : Int) + 1 = ((s + 1 : Nat) : Int) by omega]
    · rw [if_neg p]
      have np : c s ≤ 0 := by omega
      simp (disch := first | omega | assumption | decide | (simp (disch := omega) only [iI_lit, iJ_lit, iJ_eq, iI_eq, bI_01, bI_01I] <;> omega)) only [e_Dm_densest_35, e_Dm_densest_37, e_Dm_densest_40, e_Dm_densest_41, e_Dm_densest_44, e_Dm_densest_46, e_Dm_densest_47, e_Dm_densest_50, e_Dm_densest_52, e_Dm_densest_54, e_Dm_densest_57, e_Dm_densest_60, e_Dm_densest_63, e_Dm_densest_65, e_Dm_densest_67, e_Dm_densest_70, e_Dm_densest_73, e_Dm_densest_75, bd_some, bd_none, Option.toList_some, Option.toList_none, List.nil_append, List.cons_append, px_kill_int, px_kill_long, px_kill_ref, px_kill_null, iI_lit, iJ_lit, iI_add, iI_sub, iI_mul, iI_neg, iJ_add, iJ_sub, iJ_mul, iJ_neg, iI_lt, iI_le, iI_eq, iJ_lt, iJ_le, iJ_eq, iI_div, iJ_div, tdiv_tmod, iI_J, iJ_I, iI_ix, iI_toInt, iJ_toInt, cmp_ge, cmp_lt, cmp_eq, cmp_gt, cmp_le, cmp_geI, cmp_ltI, cmp_eqI, cmp_gtI, cmp_leI, bI_0I, bI_1I, pin, if_true, nle, if_false, sh_n67, es, hv, np]
      rw [show (s : Int) + 1 = ((s + 1 : Nat) : Int) by omega]
set_option maxHeartbeats 1000000 in
theorem q_Dm_densest {T : TS} {V : VW} (hV : okV V) (h : cM T V) {x y w ht : Int} (hx : inI x) (hy : inI y) (hw : inI w) (hh : inI ht) : ∃ T', cl k_Dm_densest [.ref 53, .int (iI x), .int (iI y), .int (iI w), .int (iI ht)] (enc T) = some (some (.int (iI (qDens V x y w ht))), enc T') ∧ FrM T T' := by
  have hM : cM (t0 T) V := h.fr (t0_fr T)
  have g1 := g_wnM hx hy hw hh (enc (t0 T))
  unfold qDens
  by_cases c1 : isWn x y w ht
  · rw [bI_tI c1] at g1
    rw [if_pos c1]
    obtain ⟨⟨cx, cy⟩, cw, ch⟩ := id c1
    obtain ⟨T2, e2, fr2, r2⟩ := m_counts hV hM (w := w.toNat) (h := ht.toNat) (by omega) (by omega) cx cy
    rw [show ((w.toNat : Nat) : Int) = w by omega, show ((ht.toNat : Nat) : Int) = ht by omega] at e2
    have e3 := lp_mden (T := T2) (iI x) (iI y) (iI w) (iI ht) (c := cntN V x y w.toNat ht.toNat) (fun s => cntN_bd V x y s (by omega) (by omega)) r2 16 0 (by omega)
    rw [den_eq hV] at e3
    refine ⟨T2, ?_, (t0_fr T).tr fr2⟩
    simp (disch := first | omega | assumption | decide | (simp (disch := omega) only [iI_lit, iJ_lit, iJ_eq, iI_eq, bI_01, bI_01I] <;> omega)) only [c_Dm_densest, e_Dm_densest_0, e_Dm_densest_1, e_Dm_densest_2, e_Dm_densest_5, e_Dm_densest_6, e_Dm_densest_7, e_Dm_densest_8, e_Dm_densest_10, e_Dm_densest_13, e_Dm_densest_16, e_Dm_densest_17, e_Dm_densest_18, e_Dm_densest_19, e_Dm_densest_20, e_Dm_densest_21, e_Dm_densest_22, e_Dm_densest_24, e_Dm_densest_27, e_Dm_densest_28, e_Dm_densest_30, e_Dm_densest_31, bd_some, bd_none, Option.toList_some, Option.toList_none, List.nil_append, List.cons_append, px_kill_int, px_kill_long, px_kill_ref, px_kill_null, iI_lit, iJ_lit, iI_add, iI_sub, iI_mul, iI_neg, iJ_add, iJ_sub, iJ_mul, iJ_neg, iI_lt, iI_le, iI_eq, iJ_lt, iJ_le, iJ_eq, iI_div, iJ_div, tdiv_tmod, iI_J, iJ_I, iI_ix, iI_toInt, iJ_toInt, cmp_ge, cmp_lt, cmp_eq, cmp_gt, cmp_le, cmp_geI, cmp_ltI, cmp_eqI, cmp_gtI, cmp_leI, bI_0I, bI_1I, pin, if_true, g1, one0, if_false, e2]
    exact e3
  · rw [bI_fI c1] at g1
    rw [if_neg c1]
    refine ⟨t0 T, ?_, t0_fr T⟩
    simp (disch := first | omega | assumption | decide | (simp (disch := omega) only [iI_lit, iJ_lit, iJ_eq, iI_eq, bI_01, bI_01I] <;> omega)) only [c_Dm_densest, e_Dm_densest_0, e_Dm_densest_1, e_Dm_densest_2, e_Dm_densest_5, e_Dm_densest_6, e_Dm_densest_7, e_Dm_densest_8, e_Dm_densest_10, e_Dm_densest_13, e_Dm_densest_16, e_Dm_densest_17, e_Dm_densest_18, e_Dm_densest_19, e_Dm_densest_20, e_Dm_densest_21, e_Dm_densest_22, e_Dm_densest_24, e_Dm_densest_27, e_Dm_densest_28, e_Dm_densest_30, e_Dm_densest_31, bd_some, bd_none, Option.toList_some, Option.toList_none, List.nil_append, List.cons_append, px_kill_int, px_kill_long, px_kill_ref, px_kill_null, iI_lit, iJ_lit, iI_add, iI_sub, iI_mul, iI_neg, iJ_add, iJ_sub, iJ_mul, iJ_neg, iI_lt, iI_le, iI_eq, iJ_lt, iJ_le, iJ_eq, iI_div, iJ_div, tdiv_tmod, iI_J, iJ_I, iI_ix, iI_toInt, iJ_toInt, cmp_ge, cmp_lt, cmp_eq, cmp_gt, cmp_le, cmp_geI, cmp_ltI, cmp_eqI, cmp_gtI, cmp_leI, bI_0I, bI_1I, pin, if_true, g1]
