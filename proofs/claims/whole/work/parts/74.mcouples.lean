/-! most, of couples and cells: the reference. -/
def cuM (V : VW) (b : CP) : Int := match b with
  | none => 0
  | some p => cpU V p
def clM (V : VW) (b : CP) : Int := match b with
  | none => 1
  | some p => cpL V p
theorem frm_bd {V : VW} (hV : okV V) {b : CP} (h : okP V b) : (0 ≤ cuM V b ∧ cuM V b ≤ 429981696) ∧ (0 ≤ clM V b ∧ clM V b ≤ 23887872) := by
  cases b with
  | none => exact ⟨⟨by show (0 : Int) ≤ 0; omega, by show (0 : Int) ≤ 429981696; omega⟩, ⟨by show (0 : Int) ≤ 1; omega, by show (1 : Int) ≤ 23887872; omega⟩⟩
  | some p =>
    obtain ⟨p1, p2⟩ := h p rfl
    have h1 := btU_bd (hV.2 p.1 p1) (hV.2 p.2 p2)
    have h2 := btL_bd (hV.2 p.1 p1) (hV.2 p.2 p2)
    exact ⟨⟨Int.le_of_lt h1.1, h1.2⟩, ⟨Int.le_of_lt h2.1, h2.2⟩⟩
abbrev lCb (V : VW) (m : Int) (b : CP) (i j : Int) (a9 a10 a11 a12 : Value) : List Value := [.ref 53, .int (iI m), .int (iI (cpK b)), .long (iJ (cuM V b)), .null, .long (iJ (clM V b)), .null, .int (iI i), .int (iI j), a9, a10, a11, a12]
set_option maxHeartbeats 4000000 in
theorem st_cb {V : VW} (hV : okV V) {m : Int} (hm : m = 0 ∨ m = 1) {i j : Nat} (hi : i < V.1) (hj : j < V.1) {b : CP} (hb : okP V b) {T : TS} (h : cM T V) (a9 a10 a11 a12 : Value) : ∃ (T' : TS) (b9 b10 b11 b12 : Value), rn k_Dm_coupleBy 25 (lCb V m b (i : Int) (j : Int) a9 a10 a11 a12) [] (enc T) = rn k_Dm_coupleBy 25 (lCb V m (cpS m V b (i, j)) (i : Int) ((j + 1 : Nat) : Int) b9 b10 b11 b12) [] (enc T') ∧ FrM T T' := by
  have h4 := hV.1
  obtain ⟨T', e, fr, hb'⟩ := m_laysBeatOf hV h hi hj
  have hM' := h.fr fr
  have eu := m_upperOf hV hM' hi hj
  have esq := m_beatL (hV.2 i hi) (hV.2 j hj) hb' (enc T')
  have hU := btU_bd (hV.2 i hi) (hV.2 j hj)
  have hL := btL_bd (hV.2 i hi) (hV.2 j hj)
  have hh := h.1
  have nle : ¬ (V.1 : Int) ≤ (j : Int) := by omega
  have bo := frm_bd hV hb
  have bk := cpK_bd hV hb
  have x1 := mul_bd2 bo.1 ⟨Int.le_of_lt hL.1, hL.2⟩
  have x2 := mul_bd2 ⟨Int.le_of_lt hU.1, hU.2⟩ bo.2
  have eu' : cuM V (some (i, j)) = btU (V.2 i) (V.2 j) := rfl
  have elo : clM V (some (i, j)) = btL (V.2 i) (V.2 j) := rfl
  have ek : cpK (some (i, j)) = 10 * (i : Int) + (j : Int) := rfl
  refine ⟨T', .long (iJ (btU (V.2 i) (V.2 j))), .null, .long (iJ (btL (V.2 i) (V.2 j))), .null, ?_, fr⟩
  rw [show ((j + 1 : Nat) : Int) = (j : Int) + 1 by omega]
  have go : rn k_Dm_coupleBy 25 (lCb V m b (i : Int) (j : Int) a9 a10 a11 a12) [] (enc T) = rn k_Dm_coupleBy 65 (lCb V m b (i : Int) (j : Int) (.long (iJ (btU (V.2 i) (V.2 j)))) .null (.long (iJ (btL (V.2 i) (V.2 j)))) .null) [] (enc T') := by
    rw [e_Dm_coupleBy_25]
    simp (disch := first | omega | assumption | decide | (simp (disch := omega) only [iI_lit, iJ_lit, iJ_eq, iI_eq, bI_01, bI_01I] <;> omega)) only [e_Dm_coupleBy_27, e_Dm_coupleBy_28, e_Dm_coupleBy_31, e_Dm_coupleBy_34, e_Dm_coupleBy_35, e_Dm_coupleBy_37, e_Dm_coupleBy_39, e_Dm_coupleBy_42, e_Dm_coupleBy_43, e_Dm_coupleBy_45, e_Dm_coupleBy_47, e_Dm_coupleBy_50, e_Dm_coupleBy_52, e_Dm_coupleBy_53, e_Dm_coupleBy_56, e_Dm_coupleBy_57, e_Dm_coupleBy_60, e_Dm_coupleBy_63, bd_some, bd_none, Option.toList_some, Option.toList_none, List.nil_append, List.cons_append, px_kill_int, px_kill_long, px_kill_ref, px_kill_null, iI_lit, iJ_lit, iI_add, iI_sub, iI_mul, iI_neg, iJ_add, iJ_sub, iJ_mul, iJ_neg, iI_lt, iI_le, iI_eq, iJ_lt, iJ_le, iJ_eq, iI_div, iJ_div, tdiv_tmod, iI_J, iJ_I, iI_ix, iI_toInt, iJ_toInt, cmp_ge, cmp_lt, cmp_eq, cmp_gt, cmp_le, cmp_geI, cmp_ltI, cmp_eqI, cmp_gtI, cmp_leI, bI_0I, bI_1I, pin, if_true, hh, nle, if_false, e, eu, esq]
  have take : rn k_Dm_coupleBy 103 (lCb V m b (i : Int) (j : Int) (.long (iJ (btU (V.2 i) (V.2 j)))) .null (.long (iJ (btL (V.2 i) (V.2 j)))) .null) [] (enc T') = rn k_Dm_coupleBy 25 (lCb V m (some (i, j)) (i : Int) ((j : Int) + 1) (.long (iJ (btU (V.2 i) (V.2 j)))) .null (.long (iJ (btL (V.2 i) (V.2 j)))) .null) [] (enc T') := by
    show _ = rn k_Dm_coupleBy 25 [_, _, .int (iI (cpK (some (i, j)))), .long (iJ (cuM V (some (i, j)))), _, .long (iJ (clM V (some (i, j)))), _, _, _, _, _, _, _] [] (enc T')
    rw [eu', elo, ek]
    simp (disch := first | omega | assumption | decide | (simp (disch := omega) only [iI_lit, iJ_lit, iJ_eq, iI_eq, bI_01, bI_01I] <;> omega)) only [e_Dm_coupleBy_103, e_Dm_coupleBy_105, e_Dm_coupleBy_107, e_Dm_coupleBy_108, e_Dm_coupleBy_110, e_Dm_coupleBy_111, e_Dm_coupleBy_112, e_Dm_coupleBy_114, e_Dm_coupleBy_115, e_Dm_coupleBy_117, e_Dm_coupleBy_119, e_Dm_coupleBy_122, bd_some, bd_none, Option.toList_some, Option.toList_none, List.nil_append, List.cons_append, px_kill_int, px_kill_long, px_kill_ref, px_kill_null, iI_lit, iJ_lit, iI_add, iI_sub, iI_mul, iI_neg, iJ_add, iJ_sub, iJ_mul, iJ_neg, iI_lt, iI_le, iI_eq, iJ_lt, iJ_le, iJ_eq, iI_div, iJ_div, tdiv_tmod, iI_J, iJ_I, iI_ix, iI_toInt, iJ_toInt, cmp_ge, cmp_lt, cmp_eq, cmp_gt, cmp_le, cmp_geI, cmp_ltI, cmp_eqI, cmp_gtI, cmp_leI, bI_0I, bI_1I, pin, if_true]
  refine go.trans ?_
  cases hbc : b with
  | none =>
    subst hbc
    have e1 : cpS m V none (i, j) = some (i, j) := rfl
    have k0 : cpK none = -1 := rfl
    rw [e1]
    refine Eq.trans ?_ take
    simp (disch := first | omega | assumption | decide | (simp (disch := omega) only [iI_lit, iJ_lit, iJ_eq, iI_eq, bI_01, bI_01I] <;> omega)) only [e_Dm_coupleBy_65, e_Dm_coupleBy_66, e_Dm_coupleBy_67, e_Dm_coupleBy_70, e_Dm_coupleBy_71, e_Dm_coupleBy_74, e_Dm_coupleBy_76, e_Dm_coupleBy_78, e_Dm_coupleBy_79, e_Dm_coupleBy_80, e_Dm_coupleBy_82, e_Dm_coupleBy_83, e_Dm_coupleBy_84, e_Dm_coupleBy_87, e_Dm_coupleBy_90, e_Dm_coupleBy_92, e_Dm_coupleBy_94, e_Dm_coupleBy_95, e_Dm_coupleBy_96, e_Dm_coupleBy_98, e_Dm_coupleBy_99, e_Dm_coupleBy_100, bd_some, bd_none, Option.toList_some, Option.toList_none, List.nil_append, List.cons_append, px_kill_int, px_kill_long, px_kill_ref, px_kill_null, k0, iI_lit, iJ_lit, iI_add, iI_sub, iI_mul, iI_neg, iJ_add, iJ_sub, iJ_mul, iJ_neg, iI_lt, iI_le, iI_eq, iJ_lt, iJ_le, iJ_eq, iI_div, iJ_div, tdiv_tmod, iI_J, iJ_I, iI_ix, iI_toInt, iJ_toInt, cmp_ge, cmp_lt, cmp_eq, cmp_gt, cmp_le, cmp_geI, cmp_ltI, cmp_eqI, cmp_gtI, cmp_leI, bI_0I, bI_1I, pin, if_true]
    rfl
  | some p =>
    have k0 : ¬ cpK b = -1 := by subst hbc; unfold cpK; simp only; omega
    have eb1 : cuM V b = cpU V p := by rw [hbc]; rfl
    have eb2 : clM V b = cpL V p := by rw [hbc]; rfl
    by_cases d : isBtr m (cpU V (i, j)) (cpL V (i, j)) (cpU V p) (cpL V p)
    · have e1 : cpS m V (some p) (i, j) = some (i, j) := by unfold cpS; simp only; rw [if_pos d]
      rw [e1, ← hbc]
      refine Eq.trans ?_ take
      rcases d with ⟨d1, d2⟩ | ⟨d1, d2⟩
      · subst d1
        have c : ¬ btU (V.2 i) (V.2 j) * clM V b ≤ cuM V b * btL (V.2 i) (V.2 j) := by rw [eb1, eb2]; exact Int.not_le.mpr d2
        simp (disch := first | omega | assumption | decide | (simp (disch := omega) only [iI_lit, iJ_lit, iJ_eq, iI_eq, bI_01, bI_01I] <;> omega)) only [e_Dm_coupleBy_65, e_Dm_coupleBy_66, e_Dm_coupleBy_67, e_Dm_coupleBy_70, e_Dm_coupleBy_71, e_Dm_coupleBy_74, e_Dm_coupleBy_76, e_Dm_coupleBy_78, e_Dm_coupleBy_79, e_Dm_coupleBy_80, e_Dm_coupleBy_82, e_Dm_coupleBy_83, e_Dm_coupleBy_84, e_Dm_coupleBy_87, e_Dm_coupleBy_90, e_Dm_coupleBy_92, e_Dm_coupleBy_94, e_Dm_coupleBy_95, e_Dm_coupleBy_96, e_Dm_coupleBy_98, e_Dm_coupleBy_99, e_Dm_coupleBy_100, bd_some, bd_none, Option.toList_some, Option.toList_none, List.nil_append, List.cons_append, px_kill_int, px_kill_long, px_kill_ref, px_kill_null, iI_lit, iJ_lit, iI_add, iI_sub, iI_mul, iI_neg, iJ_add, iJ_sub, iJ_mul, iJ_neg, iI_lt, iI_le, iI_eq, iJ_lt, iJ_le, iJ_eq, iI_div, iJ_div, tdiv_tmod, iI_J, iJ_I, iI_ix, iI_toInt, iJ_toInt, cmp_ge, cmp_lt, cmp_eq, cmp_gt, cmp_le, cmp_geI, cmp_ltI, cmp_eqI, cmp_gtI, cmp_leI, bI_0I, bI_1I, pin, if_true, k0, one0, if_false, c]
      · subst d1
        have c : ¬ cuM V b * btL (V.2 i) (V.2 j) ≤ btU (V.2 i) (V.2 j) * clM V b := by rw [eb1, eb2]; exact Int.not_le.mpr d2
        simp (disch := first | omega | assumption | decide | (simp (disch := omega) only [iI_lit, iJ_lit, iJ_eq, iI_eq, bI_01, bI_01I] <;> omega)) only [e_Dm_coupleBy_65, e_Dm_coupleBy_66, e_Dm_coupleBy_67, e_Dm_coupleBy_70, e_Dm_coupleBy_71, e_Dm_coupleBy_74, e_Dm_coupleBy_76, e_Dm_coupleBy_78, e_Dm_coupleBy_79, e_Dm_coupleBy_80, e_Dm_coupleBy_82, e_Dm_coupleBy_83, e_Dm_coupleBy_84, e_Dm_coupleBy_87, e_Dm_coupleBy_90, e_Dm_coupleBy_92, e_Dm_coupleBy_94, e_Dm_coupleBy_95, e_Dm_coupleBy_96, e_Dm_coupleBy_98, e_Dm_coupleBy_99, e_Dm_coupleBy_100, bd_some, bd_none, Option.toList_some, Option.toList_none, List.nil_append, List.cons_append, px_kill_int, px_kill_long, px_kill_ref, px_kill_null, iI_lit, iJ_lit, iI_add, iI_sub, iI_mul, iI_neg, iJ_add, iJ_sub, iJ_mul, iJ_neg, iI_lt, iI_le, iI_eq, iJ_lt, iJ_le, iJ_eq, iI_div, iJ_div, tdiv_tmod, iI_J, iJ_I, iI_ix, iI_toInt, iJ_toInt, cmp_ge, cmp_lt, cmp_eq, cmp_gt, cmp_le, cmp_geI, cmp_ltI, cmp_eqI, cmp_gtI, cmp_leI, bI_0I, bI_1I, pin, if_true, k0, one0, if_false, c]
    · have e1 : cpS m V (some p) (i, j) = some p := by unfold cpS; simp only; rw [if_neg d]
      rw [e1, ← hbc]
      rcases hm with hm | hm
      · subst hm
        have c : cuM V b * btL (V.2 i) (V.2 j) ≤ btU (V.2 i) (V.2 j) * clM V b := by
          rw [eb1, eb2]
          apply Classical.byContradiction
          intro z
          exact d (Or.inr ⟨rfl, Int.not_le.mp z⟩)
        simp (disch := first | omega | assumption | decide | (simp (disch := omega) only [iI_lit, iJ_lit, iJ_eq, iI_eq, bI_01, bI_01I] <;> omega)) only [e_Dm_coupleBy_65, e_Dm_coupleBy_66, e_Dm_coupleBy_67, e_Dm_coupleBy_70, e_Dm_coupleBy_71, e_Dm_coupleBy_74, e_Dm_coupleBy_76, e_Dm_coupleBy_78, e_Dm_coupleBy_79, e_Dm_coupleBy_80, e_Dm_coupleBy_82, e_Dm_coupleBy_83, e_Dm_coupleBy_84, e_Dm_coupleBy_87, e_Dm_coupleBy_90, e_Dm_coupleBy_92, e_Dm_coupleBy_94, e_Dm_coupleBy_95, e_Dm_coupleBy_96, e_Dm_coupleBy_98, e_Dm_coupleBy_99, e_Dm_coupleBy_100, e_Dm_coupleBy_119, e_Dm_coupleBy_122, bd_some, bd_none, Option.toList_some, Option.toList_none, List.nil_append, List.cons_append, px_kill_int, px_kill_long, px_kill_ref, px_kill_null, iI_lit, iJ_lit, iI_add, iI_sub, iI_mul, iI_neg, iJ_add, iJ_sub, iJ_mul, iJ_neg, iI_lt, iI_le, iI_eq, iJ_lt, iJ_le, iJ_eq, iI_div, iJ_div, tdiv_tmod, iI_J, iJ_I, iI_ix, iI_toInt, iJ_toInt, cmp_ge, cmp_lt, cmp_eq, cmp_gt, cmp_le, cmp_geI, cmp_ltI, cmp_eqI, cmp_gtI, cmp_leI, bI_0I, bI_1I, pin, if_true, k0, one0, if_false, c]
      · subst hm
        have c : btU (V.2 i) (V.2 j) * clM V b ≤ cuM V b * btL (V.2 i) (V.2 j) := by
          rw [eb1, eb2]
          apply Classical.byContradiction
          intro z
          exact d (Or.inl ⟨rfl, Int.not_le.mp z⟩)
        simp (disch := first | omega | assumption | decide | (simp (disch := omega) only [iI_lit, iJ_lit, iJ_eq, iI_eq, bI_01, bI_01I] <;> omega)) only [e_Dm_coupleBy_65, e_Dm_coupleBy_66, e_Dm_coupleBy_67, e_Dm_coupleBy_70, e_Dm_coupleBy_71, e_Dm_coupleBy_74, e_Dm_coupleBy_76, e_Dm_coupleBy_78, e_Dm_coupleBy_79, e_Dm_coupleBy_80, e_Dm_coupleBy_82, e_Dm_coupleBy_83, e_Dm_coupleBy_84, e_Dm_coupleBy_87, e_Dm_coupleBy_90, e_Dm_coupleBy_92, e_Dm_coupleBy_94, e_Dm_coupleBy_95, e_Dm_coupleBy_96, e_Dm_coupleBy_98, e_Dm_coupleBy_99, e_Dm_coupleBy_100, e_Dm_coupleBy_119, e_Dm_coupleBy_122, bd_some, bd_none, Option.toList_some, Option.toList_none, List.nil_append, List.cons_append, px_kill_int, px_kill_long, px_kill_ref, px_kill_null, iI_lit, iJ_lit, iI_add, iI_sub, iI_mul, iI_neg, iJ_add, iJ_sub, iJ_mul, iJ_neg, iI_lt, iI_le, iI_eq, iJ_lt, iJ_le, iJ_eq, iI_div, iJ_div, tdiv_tmod, iI_J, iJ_I, iI_ix, iI_toInt, iJ_toInt, cmp_ge, cmp_lt, cmp_eq, cmp_gt, cmp_le, cmp_geI, cmp_ltI, cmp_eqI, cmp_gtI, cmp_leI, bI_0I, bI_1I, pin, if_true, k0, one0, if_false, c]
theorem lp_cb2 {V : VW} (hV : okV V) {m : Int} (hm : m = 0 ∨ m = 1) {i : Nat} (hi : i < V.1) : ∀ (t j : Nat) (b : CP) (T : TS), j + t = V.1 → okP V b → cM T V → ∀ a9 a10 a11 a12 : Value, ∃ (T' : TS) (b9 b10 b11 b12 : Value), rn k_Dm_coupleBy 25 (lCb V m b (i : Int) (j : Int) a9 a10 a11 a12) [] (enc T) = rn k_Dm_coupleBy 125 (lCb V m (cpR m V i b j t) (i : Int) (V.1 : Int) b9 b10 b11 b12) [] (enc T') ∧ FrM T T' := by
  intro t
  induction t with
  | zero =>
    intro j b T hj hb h a9 a10 a11 a12
    have hh := h.1
    have h4 := hV.1
    have ej : (j : Int) = (V.1 : Int) := by omega
    refine ⟨T, a9, a10, a11, a12, ?_, FrM.rf _⟩
    rw [ej, e_Dm_coupleBy_25]
    simp (disch := first | omega | assumption | decide | (simp (disch := omega) only [iI_lit, iJ_lit, iJ_eq, iI_eq, bI_01, bI_01I] <;> omega)) only [e_Dm_coupleBy_27, e_Dm_coupleBy_28, e_Dm_coupleBy_31, bd_some, bd_none, Option.toList_some, Option.toList_none, List.nil_append, List.cons_append, px_kill_int, px_kill_long, px_kill_ref, px_kill_null, iI_lit, iJ_lit, iI_add, iI_sub, iI_mul, iI_neg, iJ_add, iJ_sub, iJ_mul, iJ_neg, iI_lt, iI_le, iI_eq, iJ_lt, iJ_le, iJ_eq, iI_div, iJ_div, tdiv_tmod, iI_J, iJ_I, iI_ix, iI_toInt, iJ_toInt, cmp_ge, cmp_lt, cmp_eq, cmp_gt, cmp_le, cmp_geI, cmp_ltI, cmp_eqI, cmp_gtI, cmp_leI, bI_0I, bI_1I, pin, if_true, hh, Int.le_refl]
    rfl
  | succ t ih =>
    intro j b T hj hb h a9 a10 a11 a12
    obtain ⟨T1, c9, c10, c11, c12, e1, fr1⟩ := st_cb hV hm hi (j := j) (by omega) hb h a9 a10 a11 a12
    obtain ⟨T2, b9, b10, b11, b12, e2, fr2⟩ := ih (j + 1) (cpS m V b (i, j)) T1 (by omega) (cpS_ok hb ⟨hi, by show j < V.1; omega⟩) (h.fr fr1) c9 c10 c11 c12
    exact ⟨T2, b9, b10, b11, b12, e1.trans e2, fr1.tr fr2⟩
set_option maxHeartbeats 1000000 in
theorem lp_cb1 {V : VW} (hV : okV V) {m : Int} (hm : m = 0 ∨ m = 1) : ∀ (t i : Nat) (b : CP) (T : TS), i + t = V.1 → okP V b → cM T V → ∀ a8 a9 a10 a11 a12 : Value, ∃ (T' : TS), rn k_Dm_coupleBy 10 [.ref 53, .int (iI m), .int (iI (cpK b)), .long (iJ (cuM V b)), .null, .long (iJ (clM V b)), .null, .int (iI (i : Int)), a8, a9, a10, a11, a12] [] (enc T) = some (some (.int (iI (cpK (cpA m V b i t)))), enc T') ∧ FrM T T' := by
  intro t
  induction t with
  | zero =>
    intro i b T hi hb h a8 a9 a10 a11 a12
    have hh := h.1
    have h4 := hV.1
    have ei : (i : Int) = (V.1 : Int) := by omega
    refine ⟨T, ?_, FrM.rf _⟩
    rw [ei, e_Dm_coupleBy_10]
    simp (disch := first | omega | assumption | decide | (simp (disch := omega) only [iI_lit, iJ_lit, iJ_eq, iI_eq, bI_01, bI_01I] <;> omega)) only [e_Dm_coupleBy_12, e_Dm_coupleBy_13, e_Dm_coupleBy_16, e_Dm_coupleBy_19, e_Dm_coupleBy_21, e_Dm_coupleBy_22, e_Dm_coupleBy_23, e_Dm_coupleBy_131, e_Dm_coupleBy_132, bd_some, bd_none, Option.toList_some, Option.toList_none, List.nil_append, List.cons_append, px_kill_int, px_kill_long, px_kill_ref, px_kill_null, iI_lit, iJ_lit, iI_add, iI_sub, iI_mul, iI_neg, iJ_add, iJ_sub, iJ_mul, iJ_neg, iI_lt, iI_le, iI_eq, iJ_lt, iJ_le, iJ_eq, iI_div, iJ_div, tdiv_tmod, iI_J, iJ_I, iI_ix, iI_toInt, iJ_toInt, cmp_ge, cmp_lt, cmp_eq, cmp_gt, cmp_le, cmp_geI, cmp_ltI, cmp_eqI, cmp_gtI, cmp_leI, bI_0I, bI_1I, pin, if_true, hh, Int.le_refl]
    rfl
  | succ t ih =>
    intro i b T hi hb h a8 a9 a10 a11 a12
    have hh := h.1
    have h4 := hV.1
    have nle : ¬ (V.1 : Int) ≤ (i : Int) := by omega
    obtain ⟨T1, c9, c10, c11, c12, e1, fr1⟩ := lp_cb2 hV hm (i := i) (by omega) (V.1 - (i + 1)) (i + 1) b T (by omega) hb h a9 a10 a11 a12
    obtain ⟨T2, e2, fr2⟩ := ih (i + 1) (cpR m V i b (i + 1) (V.1 - (i + 1))) T1 (by omega) (cpR_ok (by omega) _ _ _ (by omega) hb) (h.fr fr1) (.int (iI (V.1 : Int))) c9 c10 c11 c12
    refine ⟨T2, ?_, fr1.tr fr2⟩
    rw [e_Dm_coupleBy_10]
    simp (disch := first | omega | assumption | decide | (simp (disch := omega) only [iI_lit, iJ_lit, iJ_eq, iI_eq, bI_01, bI_01I] <;> omega)) only [e_Dm_coupleBy_12, e_Dm_coupleBy_13, e_Dm_coupleBy_16, e_Dm_coupleBy_19, e_Dm_coupleBy_21, e_Dm_coupleBy_22, e_Dm_coupleBy_23, bd_some, bd_none, Option.toList_some, Option.toList_none, List.nil_append, List.cons_append, px_kill_int, px_kill_long, px_kill_ref, px_kill_null, iI_lit, iJ_lit, iI_add, iI_sub, iI_mul, iI_neg, iJ_add, iJ_sub, iJ_mul, iJ_neg, iI_lt, iI_le, iI_eq, iJ_lt, iJ_le, iJ_eq, iI_div, iJ_div, tdiv_tmod, iI_J, iJ_I, iI_ix, iI_toInt, iJ_toInt, cmp_ge, cmp_lt, cmp_eq, cmp_gt, cmp_le, cmp_geI, cmp_ltI, cmp_eqI, cmp_gtI, cmp_leI, bI_0I, bI_1I, pin, if_true, hh, nle, if_false]
    rw [show (i : Int) + 1 = ((i + 1 : Nat) : Int) by omega]
    refine e1.trans ?_
    simp (disch := first | omega | assumption | decide | (simp (disch := omega) only [iI_lit, iJ_lit, iJ_eq, iI_eq, bI_01, bI_01I] <;> omega)) only [e_Dm_coupleBy_125, e_Dm_coupleBy_128, bd_some, bd_none, Option.toList_some, Option.toList_none, List.nil_append, List.cons_append, px_kill_int, px_kill_long, px_kill_ref, px_kill_null, iI_lit, iJ_lit, iI_add, iI_sub, iI_mul, iI_neg, iJ_add, iJ_sub, iJ_mul, iJ_neg, iI_lt, iI_le, iI_eq, iJ_lt, iJ_le, iJ_eq, iI_div, iJ_div, tdiv_tmod, iI_J, iJ_I, iI_ix, iI_toInt, iJ_toInt, cmp_ge, cmp_lt, cmp_eq, cmp_gt, cmp_le, cmp_geI, cmp_ltI, cmp_eqI, cmp_gtI, cmp_leI, bI_0I, bI_1I, pin, if_true]
    rw [show (i : Int) + 1 = ((i + 1 : Nat) : Int) by omega]
    exact e2
theorem m_coupleBy {V : VW} (hV : okV V) {m : Int} (hm : m = 0 ∨ m = 1) {T : TS} (h : cM T V) : ∃ T', cl k_Dm_coupleBy [.ref 53, .int (iI m)] (enc T) = some (some (.int (iI (qCouple V m))), enc T') ∧ FrM T T' := by
  obtain ⟨T', e, fr⟩ := lp_cb1 hV hm V.1 0 none T (by omega) (fun p z => by cases z) h .null .null .null .null .null
  refine ⟨T', ?_, fr⟩
  simp (disch := first | omega | assumption | decide | (simp (disch := omega) only [iI_lit, iJ_lit, iJ_eq, iI_eq, bI_01, bI_01I] <;> omega)) only [c_Dm_coupleBy, e_Dm_coupleBy_0, e_Dm_coupleBy_1, e_Dm_coupleBy_2, e_Dm_coupleBy_3, e_Dm_coupleBy_4, e_Dm_coupleBy_5, e_Dm_coupleBy_7, e_Dm_coupleBy_8, bd_some, bd_none, Option.toList_some, Option.toList_none, List.nil_append, List.cons_append, px_kill_int, px_kill_long, px_kill_ref, px_kill_null, iI_lit, iJ_lit, iI_add, iI_sub, iI_mul, iI_neg, iJ_add, iJ_sub, iJ_mul, iJ_neg, iI_lt, iI_le, iI_eq, iJ_lt, iJ_le, iJ_eq, iI_div, iJ_div, tdiv_tmod, iI_J, iJ_I, iI_ix, iI_toInt, iJ_toInt, cmp_ge, cmp_lt, cmp_eq, cmp_gt, cmp_le, cmp_geI, cmp_ltI, cmp_eqI, cmp_gtI, cmp_leI, bI_0I, bI_1I, pin, if_true]
  exact e
set_option maxHeartbeats 2000000 in
theorem lp_ma2 {V : VW} (hV : okV V) {i : Nat} (hi : i < V.1) : ∀ (t j : Nat) (n : Int) (T : TS), j + t = V.1 → (0 ≤ n ∧ n + t ≤ 100) → cM T V → ∃ (T' : TS), rn k_Dm_alikes 16 [.ref 53, .int (iI n), .int (iI (i : Int)), .int (iI (j : Int))] [] (enc T) = rn k_Dm_alikes 51 [.ref 53, .int (iI (alR V i n j t)), .int (iI (i : Int)), .int (iI (V.1 : Int))] [] (enc T') ∧ FrM T T' := by
  intro t
  induction t with
  | zero =>
    intro j n T hj hn h
    have hh := h.1
    have h4 := hV.1
    have ej : (j : Int) = (V.1 : Int) := by omega
    refine ⟨T, ?_, FrM.rf _⟩
    rw [ej, e_Dm_alikes_16]
    simp (disch := first | omega | assumption | decide | (simp (disch := omega) only [iI_lit, iJ_lit, iJ_eq, iI_eq, bI_01, bI_01I] <;> omega)) only [e_Dm_alikes_17, e_Dm_alikes_18, e_Dm_alikes_21, bd_some, bd_none, Option.toList_some, Option.toList_none, List.nil_append, List.cons_append, px_kill_int, px_kill_long, px_kill_ref, px_kill_null, iI_lit, iJ_lit, iI_add, iI_sub, iI_mul, iI_neg, iJ_add, iJ_sub, iJ_mul, iJ_neg, iI_lt, iI_le, iI_eq, iJ_lt, iJ_le, iJ_eq, iI_div, iJ_div, tdiv_tmod, iI_J, iJ_I, iI_ix, iI_toInt, iJ_toInt, cmp_ge, cmp_lt, cmp_eq, cmp_gt, cmp_le, cmp_geI, cmp_ltI, cmp_eqI, cmp_gtI, cmp_leI, bI_0I, bI_1I, pin, if_true, hh, Int.le_refl]
    rfl
  | succ t ih =>
    intro j n T hj hn h
    have hh := h.1
    have h4 := hV.1
    have hj' : j < V.1 := by omega
    obtain ⟨T1, e, fr, ⟨_, _, _, _, b4⟩⟩ := m_laysBeatOf hV h hi hj'
    have ha := al01 (hV.2 i hi) (hV.2 j hj')
    have nle : ¬ (V.1 : Int) ≤ (j : Int) := by omega
    obtain ⟨T2, e2, fr2⟩ := ih (j + 1) (n + alK V i j) T1 (by omega) (by unfold alK; omega) (h.fr fr)
    refine ⟨T2, ?_, fr.tr fr2⟩
    refine Eq.trans ?_ e2
    rw [show ((j + 1 : Nat) : Int) = (j : Int) + 1 by omega, e_Dm_alikes_16]
    unfold alK
    rcases ha with ha | ha <;> rw [ha] at b4 ⊢
    · simp (disch := first | omega | assumption | decide | (simp (disch := omega) only [iI_lit, iJ_lit, iJ_eq, iI_eq, bI_01, bI_01I] <;> omega)) only [e_Dm_alikes_17, e_Dm_alikes_18, e_Dm_alikes_21, e_Dm_alikes_24, e_Dm_alikes_25, e_Dm_alikes_26, e_Dm_alikes_27, e_Dm_alikes_30, e_Dm_alikes_31, e_Dm_alikes_32, e_Dm_alikes_35, e_Dm_alikes_38, e_Dm_alikes_39, e_Dm_alikes_42, e_Dm_alikes_43, e_Dm_alikes_44, e_Dm_alikes_45, e_Dm_alikes_48, bd_some, bd_none, Option.toList_some, Option.toList_none, List.nil_append, List.cons_append, px_kill_int, px_kill_long, px_kill_ref, px_kill_null, iI_lit, iJ_lit, iI_add, iI_sub, iI_mul, iI_neg, iJ_add, iJ_sub, iJ_mul, iJ_neg, iI_lt, iI_le, iI_eq, iJ_lt, iJ_le, iJ_eq, iI_div, iJ_div, tdiv_tmod, iI_J, iJ_I, iI_ix, iI_toInt, iJ_toInt, cmp_ge, cmp_lt, cmp_eq, cmp_gt, cmp_le, cmp_geI, cmp_ltI, cmp_eqI, cmp_gtI, cmp_leI, bI_0I, bI_1I, pin, if_true, hh, nle, if_false, e, b4]
    · simp (disch := first | omega | assumption | decide | (simp (disch := omega) only [iI_lit, iJ_lit, iJ_eq, iI_eq, bI_01, bI_01I] <;> omega)) only [e_Dm_alikes_17, e_Dm_alikes_18, e_Dm_alikes_21, e_Dm_alikes_24, e_Dm_alikes_25, e_Dm_alikes_26, e_Dm_alikes_27, e_Dm_alikes_30, e_Dm_alikes_31, e_Dm_alikes_32, e_Dm_alikes_35, e_Dm_alikes_38, e_Dm_alikes_39, e_Dm_alikes_42, e_Dm_alikes_43, e_Dm_alikes_44, e_Dm_alikes_45, e_Dm_alikes_48, bd_some, bd_none, Option.toList_some, Option.toList_none, List.nil_append, List.cons_append, px_kill_int, px_kill_long, px_kill_ref, px_kill_null, iI_lit, iJ_lit, iI_add, iI_sub, iI_mul, iI_neg, iJ_add, iJ_sub, iJ_mul, iJ_neg, iI_lt, iI_le, iI_eq, iJ_lt, iJ_le, iJ_eq, iI_div, iJ_div, tdiv_tmod, iI_J, iJ_I, iI_ix, iI_toInt, iJ_toInt, cmp_ge, cmp_lt, cmp_eq, cmp_gt, cmp_le, cmp_geI, cmp_ltI, cmp_eqI, cmp_gtI, cmp_leI, bI_0I, bI_1I, pin, if_true, hh, nle, if_false, e, b4, one0]
set_option maxHeartbeats 1000000 in
theorem lp_ma1 {V : VW} (hV : okV V) : ∀ (t i : Nat) (n : Int) (T : TS), i + t = V.1 → (0 ≤ n ∧ n ≤ 10 * i) → cM T V → ∀ a3 : Value, ∃ (T' : TS), rn k_Dm_alikes 4 [.ref 53, .int (iI n), .int (iI (i : Int)), a3] [] (enc T) = some (some (.int (iI (alA V n i t))), enc T') ∧ FrM T T' := by
  intro t
  induction t with
  | zero =>
    intro i n T hi hn h a3
    have hh := h.1
    have h4 := hV.1
    have ei : (i : Int) = (V.1 : Int) := by omega
    refine ⟨T, ?_, FrM.rf _⟩
    rw [ei, e_Dm_alikes_4]
    simp (disch := first | omega | assumption | decide | (simp (disch := omega) only [iI_lit, iJ_lit, iJ_eq, iI_eq, bI_01, bI_01I] <;> omega)) only [e_Dm_alikes_5, e_Dm_alikes_6, e_Dm_alikes_9, e_Dm_alikes_12, e_Dm_alikes_13, e_Dm_alikes_14, e_Dm_alikes_15, e_Dm_alikes_57, e_Dm_alikes_58, bd_some, bd_none, Option.toList_some, Option.toList_none, List.nil_append, List.cons_append, px_kill_int, px_kill_long, px_kill_ref, px_kill_null, iI_lit, iJ_lit, iI_add, iI_sub, iI_mul, iI_neg, iJ_add, iJ_sub, iJ_mul, iJ_neg, iI_lt, iI_le, iI_eq, iJ_lt, iJ_le, iJ_eq, iI_div, iJ_div, tdiv_tmod, iI_J, iJ_I, iI_ix, iI_toInt, iJ_toInt, cmp_ge, cmp_lt, cmp_eq, cmp_gt, cmp_le, cmp_geI, cmp_ltI, cmp_eqI, cmp_gtI, cmp_leI, bI_0I, bI_1I, pin, if_true, hh, Int.le_refl]
    rfl
  | succ t ih =>
    intro i n T hi hn h a3
    have hh := h.1
    have h4 := hV.1
    have nle : ¬ (V.1 : Int) ≤ (i : Int) := by omega
    have bd := alR_bd hV (i := i) (by omega) (V.1 - (i + 1)) (i + 1) n (by omega) hn.1
    obtain ⟨T1, e1, fr1⟩ := lp_ma2 hV (i := i) (by omega) (V.1 - (i + 1)) (i + 1) n T (by omega) (by omega) h
    obtain ⟨T2, e2, fr2⟩ := ih (i + 1) (alR V i n (i + 1) (V.1 - (i + 1))) T1 (by omega) (by omega) (h.fr fr1) (.int (iI (V.1 : Int)))
    refine ⟨T2, ?_, fr1.tr fr2⟩
    rw [e_Dm_alikes_4]
    simp (disch := first | omega | assumption | decide | (simp (disch := omega) only [iI_lit, iJ_lit, iJ_eq, iI_eq, bI_01, bI_01I] <;> omega)) only [e_Dm_alikes_5, e_Dm_alikes_6, e_Dm_alikes_9, e_Dm_alikes_12, e_Dm_alikes_13, e_Dm_alikes_14, e_Dm_alikes_15, bd_some, bd_none, Option.toList_some, Option.toList_none, List.nil_append, List.cons_append, px_kill_int, px_kill_long, px_kill_ref, px_kill_null, iI_lit, iJ_lit, iI_add, iI_sub, iI_mul, iI_neg, iJ_add, iJ_sub, iJ_mul, iJ_neg, iI_lt, iI_le, iI_eq, iJ_lt, iJ_le, iJ_eq, iI_div, iJ_div, tdiv_tmod, iI_J, iJ_I, iI_ix, iI_toInt, iJ_toInt, cmp_ge, cmp_lt, cmp_eq, cmp_gt, cmp_le, cmp_geI, cmp_ltI, cmp_eqI, cmp_gtI, cmp_leI, bI_0I, bI_1I, pin, if_true, hh, nle, if_false]
    rw [show (i : Int) + 1 = ((i + 1 : Nat) : Int) by omega]
    refine e1.trans ?_
    simp (disch := first | omega | assumption | decide | (simp (disch := omega) only [iI_lit, iJ_lit, iJ_eq, iI_eq, bI_01, bI_01I] <;> omega)) only [e_Dm_alikes_51, e_Dm_alikes_54, bd_some, bd_none, Option.toList_some, Option.toList_none, List.nil_append, List.cons_append, px_kill_int, px_kill_long, px_kill_ref, px_kill_null, iI_lit, iJ_lit, iI_add, iI_sub, iI_mul, iI_neg, iJ_add, iJ_sub, iJ_mul, iJ_neg, iI_lt, iI_le, iI_eq, iJ_lt, iJ_le, iJ_eq, iI_div, iJ_div, tdiv_tmod, iI_J, iJ_I, iI_ix, iI_toInt, iJ_toInt, cmp_ge, cmp_lt, cmp_eq, cmp_gt, cmp_le, cmp_geI, cmp_ltI, cmp_eqI, cmp_gtI, cmp_leI, bI_0I, bI_1I, pin, if_true]
    rw [show (i : Int) + 1 = ((i + 1 : Nat) : Int) by omega]
    exact e2
theorem m_alikes {V : VW} (hV : okV V) {T : TS} (h : cM T V) : ∃ T', cl k_Dm_alikes [.ref 53] (enc T) = some (some (.int (iI (alA V 0 0 V.1))), enc T') ∧ FrM T T' := by
  obtain ⟨T', e, fr⟩ := lp_ma1 hV V.1 0 0 T (by omega) (by omega) h .null
  refine ⟨T', ?_, fr⟩
  simp (disch := first | omega | assumption | decide | (simp (disch := omega) only [iI_lit, iJ_lit, iJ_eq, iI_eq, bI_01, bI_01I] <;> omega)) only [c_Dm_alikes, e_Dm_alikes_0, e_Dm_alikes_1, e_Dm_alikes_2, e_Dm_alikes_3, bd_some, bd_none, Option.toList_some, Option.toList_none, List.nil_append, List.cons_append, px_kill_int, px_kill_long, px_kill_ref, px_kill_null, iI_lit, iJ_lit, iI_add, iI_sub, iI_mul, iI_neg, iJ_add, iJ_sub, iJ_mul, iJ_neg, iI_lt, iI_le, iI_eq, iJ_lt, iJ_le, iJ_eq, iI_div, iJ_div, tdiv_tmod, iI_J, iJ_I, iI_ix, iI_toInt, iJ_toInt, cmp_ge, cmp_lt, cmp_eq, cmp_gt, cmp_le, cmp_geI, cmp_ltI, cmp_eqI, cmp_gtI, cmp_leI, bI_0I, bI_1I, pin, if_true]
  exact e
set_option maxHeartbeats 1000000 in
theorem lp_mc1 {V : VW} (hV : okV V) {T : TS} (h : cM T V) : ∀ (t i : Nat) (n : Int), i + t = V.1 → (0 ≤ n ∧ n ≤ 144) → rn k_Dm_cells 4 [.ref 53, .int (iI 1), .int (iI n), .int (iI (i : Int))] [] (enc T) = some (some (.int (iI (gcA V n i t))), enc T) := by
  intro t
  have hh := h.1
  have h4 := hV.1
  induction t with
  | zero =>
    intro i n hi hn
    have ei : (i : Int) = (V.1 : Int) := by omega
    rw [ei, e_Dm_cells_4]
    simp (disch := first | omega | assumption | decide | (simp (disch := omega) only [iI_lit, iJ_lit, iJ_eq, iI_eq, bI_01, bI_01I] <;> omega)) only [e_Dm_cells_5, e_Dm_cells_6, e_Dm_cells_9, e_Dm_cells_12, e_Dm_cells_13, e_Dm_cells_16, e_Dm_cells_17, e_Dm_cells_18, e_Dm_cells_19, e_Dm_cells_22, e_Dm_cells_25, e_Dm_cells_28, e_Dm_cells_29, e_Dm_cells_30, e_Dm_cells_31, e_Dm_cells_34, e_Dm_cells_35, e_Dm_cells_36, e_Dm_cells_39, e_Dm_cells_42, e_Dm_cells_43, bd_some, bd_none, Option.toList_some, Option.toList_none, List.nil_append, List.cons_append, px_kill_int, px_kill_long, px_kill_ref, px_kill_null, iI_lit, iJ_lit, iI_add, iI_sub, iI_mul, iI_neg, iJ_add, iJ_sub, iJ_mul, iJ_neg, iI_lt, iI_le, iI_eq, iJ_lt, iJ_le, iJ_eq, iI_div, iJ_div, tdiv_tmod, iI_J, iJ_I, iI_ix, iI_toInt, iJ_toInt, cmp_ge, cmp_lt, cmp_eq, cmp_gt, cmp_le, cmp_geI, cmp_ltI, cmp_eqI, cmp_gtI, cmp_leI, bI_0I, bI_1I, pin, if_true, hh, Int.le_refl]
    rfl
  | succ t ih =>
    intro i n hi hn
    have hi' : i < V.1 := by omega
    have bd := celN_bd (hV.2 i hi')
    have nle : ¬ (V.1 : Int) ≤ (i : Int) := by omega
    have mc := m_cell hV h hi'
    have mx := g_max (a := n) (b := celN (V.2 i)) (by omega) (by omega) (enc T)
    have e := ih (i + 1) (mx2 n (celN (V.2 i))) (by omega) (mx2_bd hn (by omega))
    refine Eq.trans ?_ e
    rw [show ((i + 1 : Nat) : Int) = (i : Int) + 1 by omega, e_Dm_cells_4]
    simp (disch := first | omega | assumption | decide | (simp (disch := omega) only [iI_lit, iJ_lit, iJ_eq, iI_eq, bI_01, bI_01I] <;> omega)) only [e_Dm_cells_5, e_Dm_cells_6, e_Dm_cells_9, e_Dm_cells_12, e_Dm_cells_13, e_Dm_cells_16, e_Dm_cells_17, e_Dm_cells_18, e_Dm_cells_19, e_Dm_cells_22, e_Dm_cells_25, e_Dm_cells_28, e_Dm_cells_29, e_Dm_cells_30, e_Dm_cells_31, e_Dm_cells_34, e_Dm_cells_35, e_Dm_cells_36, e_Dm_cells_39, bd_some, bd_none, Option.toList_some, Option.toList_none, List.nil_append, List.cons_append, px_kill_int, px_kill_long, px_kill_ref, px_kill_null, iI_lit, iJ_lit, iI_add, iI_sub, iI_mul, iI_neg, iJ_add, iJ_sub, iJ_mul, iJ_neg, iI_lt, iI_le, iI_eq, iJ_lt, iJ_le, iJ_eq, iI_div, iJ_div, tdiv_tmod, iI_J, iJ_I, iI_ix, iI_toInt, iJ_toInt, cmp_ge, cmp_lt, cmp_eq, cmp_gt, cmp_le, cmp_geI, cmp_ltI, cmp_eqI, cmp_gtI, cmp_leI, bI_0I, bI_1I, pin, if_true, hh, nle, one0, if_false, mc, mx]
set_option maxHeartbeats 1000000 in
theorem lp_mc0 {V : VW} (hV : okV V) {T : TS} (h : cM T V) : ∀ (t i : Nat) (n : Int), i + t = V.1 → (0 ≤ n ∧ n ≤ 144 * i) → rn k_Dm_cells 4 [.ref 53, .int (iI 0), .int (iI n), .int (iI (i : Int))] [] (enc T) = some (some (.int (iI (ipA V n i t))), enc T) := by
  intro t
  have hh := h.1
  have h4 := hV.1
  induction t with
  | zero =>
    intro i n hi hn
    have ei : (i : Int) = (V.1 : Int) := by omega
    rw [ei, e_Dm_cells_4]
    simp (disch := first | omega | assumption | decide | (simp (disch := omega) only [iI_lit, iJ_lit, iJ_eq, iI_eq, bI_01, bI_01I] <;> omega)) only [e_Dm_cells_5, e_Dm_cells_6, e_Dm_cells_9, e_Dm_cells_12, e_Dm_cells_13, e_Dm_cells_16, e_Dm_cells_17, e_Dm_cells_18, e_Dm_cells_19, e_Dm_cells_22, e_Dm_cells_25, e_Dm_cells_28, e_Dm_cells_29, e_Dm_cells_30, e_Dm_cells_31, e_Dm_cells_34, e_Dm_cells_35, e_Dm_cells_36, e_Dm_cells_39, e_Dm_cells_42, e_Dm_cells_43, bd_some, bd_none, Option.toList_some, Option.toList_none, List.nil_append, List.cons_append, px_kill_int, px_kill_long, px_kill_ref, px_kill_null, iI_lit, iJ_lit, iI_add, iI_sub, iI_mul, iI_neg, iJ_add, iJ_sub, iJ_mul, iJ_neg, iI_lt, iI_le, iI_eq, iJ_lt, iJ_le, iJ_eq, iI_div, iJ_div, tdiv_tmod, iI_J, iJ_I, iI_ix, iI_toInt, iJ_toInt, cmp_ge, cmp_lt, cmp_eq, cmp_gt, cmp_le, cmp_geI, cmp_ltI, cmp_eqI, cmp_gtI, cmp_leI, bI_0I, bI_1I, pin, if_true, hh, Int.le_refl]
    rfl
  | succ t ih =>
    intro i n hi hn
    have hi' : i < V.1 := by omega
    have bd := celN_bd (hV.2 i hi')
    have bl := lvlN_bd (hV.2 i hi')
    have nle : ¬ (V.1 : Int) ≤ (i : Int) := by omega
    have mc := m_level hV h hi'
    have e := ih (i + 1) (n + lvlN (V.2 i)) (by omega) (by omega)
    refine Eq.trans ?_ e
    rw [show ((i + 1 : Nat) : Int) = (i : Int) + 1 by omega, e_Dm_cells_4]
    simp (disch := first | omega | assumption | decide | (simp (disch := omega) only [iI_lit, iJ_lit, iJ_eq, iI_eq, bI_01, bI_01I] <;> omega)) only [e_Dm_cells_5, e_Dm_cells_6, e_Dm_cells_9, e_Dm_cells_12, e_Dm_cells_13, e_Dm_cells_16, e_Dm_cells_17, e_Dm_cells_18, e_Dm_cells_19, e_Dm_cells_22, e_Dm_cells_25, e_Dm_cells_28, e_Dm_cells_29, e_Dm_cells_30, e_Dm_cells_31, e_Dm_cells_34, e_Dm_cells_35, e_Dm_cells_36, e_Dm_cells_39, bd_some, bd_none, Option.toList_some, Option.toList_none, List.nil_append, List.cons_append, px_kill_int, px_kill_long, px_kill_ref, px_kill_null, iI_lit, iJ_lit, iI_add, iI_sub, iI_mul, iI_neg, iJ_add, iJ_sub, iJ_mul, iJ_neg, iI_lt, iI_le, iI_eq, iJ_lt, iJ_le, iJ_eq, iI_div, iJ_div, tdiv_tmod, iI_J, iJ_I, iI_ix, iI_toInt, iJ_toInt, cmp_ge, cmp_lt, cmp_eq, cmp_gt, cmp_le, cmp_geI, cmp_ltI, cmp_eqI, cmp_gtI, cmp_leI, bI_0I, bI_1I, pin, if_true, hh, nle, if_false, mc]
theorem m_cells1 {V : VW} (hV : okV V) {T : TS} (h : cM T V) : cl k_Dm_cells [.ref 53, .int (iI 1)] (enc T) = some (some (.int (iI (gcA V 0 0 V.1))), enc T) := by
  have e := lp_mc1 hV h V.1 0 0 (by omega) (by omega)
  simp (disch := first | omega | assumption | decide | (simp (disch := omega) only [iI_lit, iJ_lit, iJ_eq, iI_eq, bI_01, bI_01I] <;> omega)) only [c_Dm_cells, e_Dm_cells_0, e_Dm_cells_1, e_Dm_cells_2, e_Dm_cells_3, bd_some, bd_none, Option.toList_some, Option.toList_none, List.nil_append, List.cons_append, px_kill_int, px_kill_long, px_kill_ref, px_kill_null, iI_lit, iJ_lit, iI_add, iI_sub, iI_mul, iI_neg, iJ_add, iJ_sub, iJ_mul, iJ_neg, iI_lt, iI_le, iI_eq, iJ_lt, iJ_le, iJ_eq, iI_div, iJ_div, tdiv_tmod, iI_J, iJ_I, iI_ix, iI_toInt, iJ_toInt, cmp_ge, cmp_lt, cmp_eq, cmp_gt, cmp_le, cmp_geI, cmp_ltI, cmp_eqI, cmp_gtI, cmp_leI, bI_0I, bI_1I, pin, if_true]
  exact e
theorem m_cells0 {V : VW} (hV : okV V) {T : TS} (h : cM T V) : cl k_Dm_cells [.ref 53, .int (iI 0)] (enc T) = some (some (.int (iI (ipA V 0 0 V.1))), enc T) := by
  have e := lp_mc0 hV h V.1 0 0 (by omega) (by omega)
  simp (disch := first | omega | assumption | decide | (simp (disch := omega) only [iI_lit, iJ_lit, iJ_eq, iI_eq, bI_01, bI_01I] <;> omega)) only [c_Dm_cells, e_Dm_cells_0, e_Dm_cells_1, e_Dm_cells_2, e_Dm_cells_3, bd_some, bd_none, Option.toList_some, Option.toList_none, List.nil_append, List.cons_append, px_kill_int, px_kill_long, px_kill_ref, px_kill_null, iI_lit, iJ_lit, iI_add, iI_sub, iI_mul, iI_neg, iJ_add, iJ_sub, iJ_mul, iJ_neg, iI_lt, iI_le, iI_eq, iJ_lt, iJ_le, iJ_eq, iI_div, iJ_div, tdiv_tmod, iI_J, iJ_I, iI_ix, iI_toInt, iJ_toInt, cmp_ge, cmp_lt, cmp_eq, cmp_gt, cmp_le, cmp_geI, cmp_ltI, cmp_eqI, cmp_gtI, cmp_leI, bI_0I, bI_1I, pin, if_true]
  exact e
