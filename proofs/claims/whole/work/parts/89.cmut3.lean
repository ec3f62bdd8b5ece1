/-! the component's changes by hand: swap, drop; status, count. -/
def swF (V : VW) (i o : Nat) : VW := (V.1, fun k => if k = i then V.2 o else if k = o then V.2 i else V.2 k)
def rSwap (S : FS) (i o : Int) : FS × Int := if isK S.1 i ∧ isK S.1 o then (if i = o then (rfS S 2, 0) else ((swF S.1 i.toNat o.toNat, S.2), 1)) else (rfS S 0, 0)
theorem swF_ok {S : FS} (h : okF S) {i o : Nat} (hi : i < S.1.1) (ho : o < S.1.1) : okF (swF S.1 i o, S.2) := by
  refine ⟨⟨h.1.1, fun k hk => ?_⟩, h.2⟩
  show okN (if k = i then S.1.2 o else if k = o then S.1.2 i else S.1.2 k)
  split
  · exact h.1.2 o ho
  · split
    · exact h.1.2 i hi
    · exact h.1.2 k hk
set_option maxHeartbeats 1000000 in
theorem u_Ds_swap {G : GW} {T : TS} {S : FS} (hS : okF S) (h : fC G T S) {i o : Int} (hi : inI i) (ho : inI o) : ∃ T', cl k_Ds_swap [.ref 0, .int (iI i), .int (iI o)] (enc T) = some (some (.int (iI (rSwap S i o).2)), enc T') ∧ fC G T' (rSwap S i o).1 ∧ sepC T T' := by
  have g1 := g_isInk hS.1 h.1 hi
  have g2 := g_isInk hS.1 h.1 ho
  obtain ⟨i1, i2⟩ := id hi
  obtain ⟨o1, o2⟩ := id ho
  unfold rSwap
  obtain ⟨T0, er, hF0, hs0⟩ := c_ref0 hS h
  by_cases c1 : isK S.1 i
  case neg =>
    rw [bI_fI c1] at g1
    rw [if_neg (fun z => c1 z.1)]
    refine ⟨T0, ?_, hF0, hs0⟩
    simp (disch := first | omega | assumption | decide | (simp (disch := omega) only [iI_lit, iJ_lit, iJ_eq, iI_eq, bI_01, bI_01I] <;> omega)) only [c_Ds_swap, e_Ds_swap_0, e_Ds_swap_1, e_Ds_swap_2, e_Ds_swap_5, e_Ds_swap_8, e_Ds_swap_9, e_Ds_swap_10, e_Ds_swap_13, e_Ds_swap_16, e_Ds_swap_17, e_Ds_swap_18, e_Ds_swap_21, e_Ds_swap_22, e_Ds_swap_23, e_Ds_swap_24, e_Ds_swap_25, e_Ds_swap_26, e_Ds_swap_29, e_Ds_swap_30, e_Ds_swap_31, e_Ds_swap_34, e_Ds_swap_35, e_Ds_swap_36, e_Ds_swap_37, e_Ds_swap_38, e_Ds_swap_41, e_Ds_swap_42, e_Ds_swap_43, e_Ds_swap_44, e_Ds_swap_45, e_Ds_swap_48, e_Ds_swap_49, e_Ds_swap_50, e_Ds_swap_53, e_Ds_swap_54, e_Ds_swap_55, e_Ds_swap_56, e_Ds_swap_57, e_Ds_swap_60, e_Ds_swap_61, e_Ds_swap_62, e_Ds_swap_63, e_Ds_swap_64, bd_some, bd_none, Option.toList_some, Option.toList_none, List.nil_append, List.cons_append, px_kill_int, px_kill_long, px_kill_ref, px_kill_null, iI_lit, iJ_lit, iI_add, iI_sub, iI_mul, iI_neg, iJ_add, iJ_sub, iJ_mul, iJ_neg, iI_lt, iI_le, iI_eq, iJ_lt, iJ_le, iJ_eq, iI_div, iJ_div, tdiv_tmod, iI_J, iJ_I, iI_ix, iI_toInt, iJ_toInt, cmp_ge, cmp_lt, cmp_eq, cmp_gt, cmp_le, cmp_geI, cmp_ltI, cmp_eqI, cmp_gtI, cmp_leI, bI_0I, bI_1I, pin, if_true, g1, er]
  rw [bI_tI c1] at g1
  by_cases c2 : isK S.1 o
  case neg =>
    rw [bI_fI c2] at g2
    rw [if_neg (fun z => c2 z.2)]
    refine ⟨T0, ?_, hF0, hs0⟩
    simp (disch := first | omega | assumption | decide | (simp (disch := omega) only [iI_lit, iJ_lit, iJ_eq, iI_eq, bI_01, bI_01I] <;> omega)) only [c_Ds_swap, e_Ds_swap_0, e_Ds_swap_1, e_Ds_swap_2, e_Ds_swap_5, e_Ds_swap_8, e_Ds_swap_9, e_Ds_swap_10, e_Ds_swap_13, e_Ds_swap_16, e_Ds_swap_17, e_Ds_swap_18, e_Ds_swap_21, e_Ds_swap_22, e_Ds_swap_23, e_Ds_swap_24, e_Ds_swap_25, e_Ds_swap_26, e_Ds_swap_29, e_Ds_swap_30, e_Ds_swap_31, e_Ds_swap_34, e_Ds_swap_35, e_Ds_swap_36, e_Ds_swap_37, e_Ds_swap_38, e_Ds_swap_41, e_Ds_swap_42, e_Ds_swap_43, e_Ds_swap_44, e_Ds_swap_45, e_Ds_swap_48, e_Ds_swap_49, e_Ds_swap_50, e_Ds_swap_53, e_Ds_swap_54, e_Ds_swap_55, e_Ds_swap_56, e_Ds_swap_57, e_Ds_swap_60, e_Ds_swap_61, e_Ds_swap_62, e_Ds_swap_63, e_Ds_swap_64, bd_some, bd_none, Option.toList_some, Option.toList_none, List.nil_append, List.cons_append, px_kill_int, px_kill_long, px_kill_ref, px_kill_null, iI_lit, iJ_lit, iI_add, iI_sub, iI_mul, iI_neg, iJ_add, iJ_sub, iJ_mul, iJ_neg, iI_lt, iI_le, iI_eq, iJ_lt, iJ_le, iJ_eq, iI_div, iJ_div, tdiv_tmod, iI_J, iJ_I, iI_ix, iI_toInt, iJ_toInt, cmp_ge, cmp_lt, cmp_eq, cmp_gt, cmp_le, cmp_geI, cmp_ltI, cmp_eqI, cmp_gtI, cmp_leI, bI_0I, bI_1I, pin, if_true, g1, g2, one0, if_false, er]
  rw [bI_tI c2] at g2
  rw [if_pos ⟨c1, c2⟩]
  by_cases c3 : i = o
  · rw [if_pos c3]
    obtain ⟨T2, e2, hF2, hs2⟩ := c_ref2 hS h
    refine ⟨T2, ?_, hF2, hs2⟩
    simp (disch := first | omega | assumption | decide | (simp (disch := omega) only [iI_lit, iJ_lit, iJ_eq, iI_eq, bI_01, bI_01I] <;> omega)) only [c_Ds_swap, e_Ds_swap_0, e_Ds_swap_1, e_Ds_swap_2, e_Ds_swap_5, e_Ds_swap_8, e_Ds_swap_9, e_Ds_swap_10, e_Ds_swap_13, e_Ds_swap_16, e_Ds_swap_17, e_Ds_swap_18, e_Ds_swap_21, e_Ds_swap_22, e_Ds_swap_23, e_Ds_swap_24, e_Ds_swap_25, e_Ds_swap_26, e_Ds_swap_29, e_Ds_swap_30, e_Ds_swap_31, e_Ds_swap_34, e_Ds_swap_35, e_Ds_swap_36, e_Ds_swap_37, e_Ds_swap_38, e_Ds_swap_41, e_Ds_swap_42, e_Ds_swap_43, e_Ds_swap_44, e_Ds_swap_45, e_Ds_swap_48, e_Ds_swap_49, e_Ds_swap_50, e_Ds_swap_53, e_Ds_swap_54, e_Ds_swap_55, e_Ds_swap_56, e_Ds_swap_57, e_Ds_swap_60, e_Ds_swap_61, e_Ds_swap_62, e_Ds_swap_63, e_Ds_swap_64, bd_some, bd_none, Option.toList_some, Option.toList_none, List.nil_append, List.cons_append, px_kill_int, px_kill_long, px_kill_ref, px_kill_null, iI_lit, iJ_lit, iI_add, iI_sub, iI_mul, iI_neg, iJ_add, iJ_sub, iJ_mul, iJ_neg, iI_lt, iI_le, iI_eq, iJ_lt, iJ_le, iJ_eq, iI_div, iJ_div, tdiv_tmod, iI_J, iJ_I, iI_ix, iI_toInt, iJ_toInt, cmp_ge, cmp_lt, cmp_eq, cmp_gt, cmp_le, cmp_geI, cmp_ltI, cmp_eqI, cmp_gtI, cmp_leI, bI_0I, bI_1I, pin, if_true, g1, g2, one0, if_false, c3, e2]
  · rw [if_neg c3]
    obtain ⟨j, rfl⟩ : ∃ j : Nat, i = (j : Int) := ⟨i.toNat, by omega⟩
    obtain ⟨l, rfl⟩ : ∃ l : Nat, o = (l : Int) := ⟨o.toNat, by omega⟩
    have hj : j < S.1.1 := by have := c1.2; omega
    have hl : l < S.1.1 := by have := c2.2; omega
    have ej : ((j : Int)).toNat = j := by omega
    have el : ((l : Int)).toNat = l := by omega
    have njl : j ≠ l := by omega
    rw [ej, el]
    obtain ⟨h4, hp, hs, hI⟩ := cC.at hS.1 h.1 hj
    obtain ⟨h4', hp', hs', hI'⟩ := cC.at hS.1 h.1 hl
    obtain ⟨⟨d1, d2, d3, d4⟩, d5, d6, d7, d8⟩ := h
    refine ⟨sR (sR T j (T.2.2.1 l)) l (T.2.2.1 j), ?_, ⟨⟨d1, fun k hk => ?_, fun k k' hk hk' he => ?_, fun k hk => ?_⟩, d5, d6, d7, fun k hk => ?_⟩, ⟨fun _ _ _ => rfl, fun _ _ _ => rfl, rfl⟩⟩
    · simp (disch := first | omega | assumption | decide | (simp (disch := omega) only [iI_lit, iJ_lit, iJ_eq, iI_eq, bI_01, bI_01I] <;> omega)) only [c_Ds_swap, e_Ds_swap_0, e_Ds_swap_1, e_Ds_swap_2, e_Ds_swap_5, e_Ds_swap_8, e_Ds_swap_9, e_Ds_swap_10, e_Ds_swap_13, e_Ds_swap_16, e_Ds_swap_17, e_Ds_swap_18, e_Ds_swap_21, e_Ds_swap_22, e_Ds_swap_23, e_Ds_swap_24, e_Ds_swap_25, e_Ds_swap_26, e_Ds_swap_29, e_Ds_swap_30, e_Ds_swap_31, e_Ds_swap_34, e_Ds_swap_35, e_Ds_swap_36, e_Ds_swap_37, e_Ds_swap_38, e_Ds_swap_41, e_Ds_swap_42, e_Ds_swap_43, e_Ds_swap_44, e_Ds_swap_45, e_Ds_swap_48, e_Ds_swap_49, e_Ds_swap_50, e_Ds_swap_53, e_Ds_swap_54, e_Ds_swap_55, e_Ds_swap_56, e_Ds_swap_57, e_Ds_swap_60, e_Ds_swap_61, e_Ds_swap_62, e_Ds_swap_63, e_Ds_swap_64, bd_some, bd_none, Option.toList_some, Option.toList_none, List.nil_append, List.cons_append, px_kill_int, px_kill_long, px_kill_ref, px_kill_null, iI_lit, iJ_lit, iI_add, iI_sub, iI_mul, iI_neg, iJ_add, iJ_sub, iJ_mul, iJ_neg, iI_lt, iI_le, iI_eq, iJ_lt, iJ_le, iJ_eq, iI_div, iJ_div, tdiv_tmod, iI_J, iJ_I, iI_ix, iI_toInt, iJ_toInt, cmp_ge, cmp_lt, cmp_eq, cmp_gt, cmp_le, cmp_geI, cmp_ltI, cmp_eqI, cmp_gtI, cmp_leI, bI_0I, bI_1I, pin, if_true, g1, g2, one0, if_false, c3, sh_n5, ej, el, hs, hs']
    · show isPl (if k = l then T.2.2.1 j else if k = j then T.2.2.1 l else T.2.2.1 k)
      split
      · exact hp
      · split
        · exact hp'
        · exact d2 k hk
    · have he' : (if k = l then T.2.2.1 j else if k = j then T.2.2.1 l else T.2.2.1 k) = (if k' = l then T.2.2.1 j else if k' = j then T.2.2.1 l else T.2.2.1 k') := he
      have hσ : ∀ n, (if n = l then T.2.2.1 j else if n = j then T.2.2.1 l else T.2.2.1 n) = T.2.2.1 (if n = l then j else if n = j then l else n) := by
        intro n
        by_cases q1 : n = l
        · rw [if_pos q1, if_pos q1]
        · rw [if_neg q1, if_neg q1]
          by_cases q2 : n = j
          · rw [if_pos q2, if_pos q2]
          · rw [if_neg q2, if_neg q2]
      rw [hσ, hσ] at he'
      have h1 : (if k = l then j else if k = j then l else k) < 4 := by split; omega; split <;> omega
      have h2 : (if k' = l then j else if k' = j then l else k') < 4 := by split; omega; split <;> omega
      have e := d3 _ _ h1 h2 he'
      revert e
      split
      · split
        · intro; omega
        · split <;> (intro; omega)
      · split
        · split
          · intro; omega
          · split <;> (intro; omega)
        · split
          · intro; omega
          · split <;> (intro; omega)
    · have hk' : k < S.1.1 := hk
      show inkC T (if k = l then T.2.2.1 j else if k = j then T.2.2.1 l else T.2.2.1 k) (if k = j then S.1.2 l else if k = l then S.1.2 j else S.1.2 k)
      by_cases q1 : k = l
      · rw [if_pos q1, if_neg (by omega), if_pos q1]; exact hI
      · rw [if_neg q1]
        by_cases q2 : k = j
        · rw [if_pos q2, if_pos q2]; exact hI'
        · rw [if_neg q2, if_neg q2, if_neg q1]; exact d4 k hk'
    · have hk' : k < S.1.1 := hk
      show gOk G T (if k = l then T.2.2.1 j else if k = j then T.2.2.1 l else T.2.2.1 k) (if k = j then S.1.2 l else if k = l then S.1.2 j else S.1.2 k)
      by_cases q1 : k = l
      · rw [if_pos q1, if_neg (by omega), if_pos q1]; exact d8 j hj
      · rw [if_neg q1]
        by_cases q2 : k = j
        · rw [if_pos q2, if_pos q2]; exact d8 l hl
        · rw [if_neg q2, if_neg q2, if_neg q1]; exact d8 k hk'
/-! drop -/
def dropR (R : Nat → Nat) (i t : Nat) : Nat → Nat := fun k => if i ≤ k ∧ k < t then R (k + 1) else R k
abbrev tR (T : TS) (R : Nat → Nat) : TS := (T.1, T.2.1, R, T.2.2.2)
theorem dropR_s (R : Nat → Nat) {i t : Nat} (hi : i ≤ t) : (fun k => if k = t then dropR R i t (t + 1) else dropR R i t k) = dropR R i (t + 1) := by
  funext k
  unfold dropR
  by_cases e : k = t
  · rw [if_pos e, if_neg (by omega), if_pos (by omega), e]
  · rw [if_neg e]
    by_cases q : i ≤ k ∧ k < t
    · rw [if_pos q, if_pos (by omega)]
    · rw [if_neg q, if_neg (by omega)]
theorem lp_drop {T : TS} {h i : Nat} (hh : T.1 0 3 = iI (h : Int)) (h4 : h ≤ 4) {R : Nat → Nat} (hR : ∀ k, k < 4 → isPl (R k)) (g : Nat) : ∀ (m t : Nat), t + m = h - 1 → 0 < h → i ≤ t → rn k_Ds_drop 23 [.ref 0, .int (iI (i : Int)), .ref g, .int (iI (t : Int))] [] (enc (tR T (dropR R i t))) = rn k_Ds_drop 53 [.ref 0, .int (iI (i : Int)), .ref g, .int (iI ((h - 1 : Nat) : Int))] [] (enc (tR T (dropR R i (h - 1)))) := by
  intro m
  have hh' : ∀ R', (tR T R').1 0 3 = iI (h : Int) := fun R' => hh
  induction m with
  | zero =>
    intro t ht hp hit
    have et : t = h - 1 := by omega
    subst et
    have c : (h : Int) - 1 ≤ ((h - 1 : Nat) : Int) := by omega
    rw [e_Ds_drop_23]
    simp (disch := first | omega | assumption | decide | (simp (disch := omega) only [iI_lit, iJ_lit, iJ_eq, iI_eq, bI_01, bI_01I] <;> omega)) only [e_Ds_drop_24, e_Ds_drop_25, e_Ds_drop_28, e_Ds_drop_29, e_Ds_drop_30, bd_some, bd_none, Option.toList_some, Option.toList_none, List.nil_append, List.cons_append, px_kill_int, px_kill_long, px_kill_ref, px_kill_null, iI_lit, iJ_lit, iI_add, iI_sub, iI_mul, iI_neg, iJ_add, iJ_sub, iJ_mul, iJ_neg, iI_lt, iI_le, iI_eq, iJ_lt, iJ_le, iJ_eq, iI_div, iJ_div, tdiv_tmod, iI_J, iJ_I, iI_ix, iI_toInt, iJ_toInt, cmp_ge, cmp_lt, cmp_eq, cmp_gt, cmp_le, cmp_geI, cmp_ltI, cmp_eqI, cmp_gtI, cmp_leI, bI_0I, bI_1I, pin, if_true, hh, c]
  | succ m ih =>
    intro t ht hp hit
    have c : ¬ (h : Int) - 1 ≤ (t : Int) := by omega
    have et : ((t : Int)).toNat = t := by omega
    have et1 : ((t : Int) + 1).toNat = t + 1 := by omega
    have hs : sh (dropR R i t (t + 1)) = (104, 18) := by
      have : dropR R i t (t + 1) = R (t + 1) := if_neg (by omega)
      rw [this]
      exact isPl_sh (hR _ (by omega))
    have e := ih (t + 1) (by omega) hp (by omega)
    refine Eq.trans ?_ e
    rw [← dropR_s R hit, show ((t + 1 : Nat) : Int) = (t : Int) + 1 by omega, e_Ds_drop_23]
    simp (disch := first | omega | assumption | decide | (simp (disch := omega) only [iI_lit, iJ_lit, iJ_eq, iI_eq, bI_01, bI_01I] <;> omega)) only [e_Ds_drop_24, e_Ds_drop_25, e_Ds_drop_28, e_Ds_drop_29, e_Ds_drop_30, e_Ds_drop_33, e_Ds_drop_34, e_Ds_drop_37, e_Ds_drop_38, e_Ds_drop_39, e_Ds_drop_42, e_Ds_drop_43, e_Ds_drop_44, e_Ds_drop_45, e_Ds_drop_46, e_Ds_drop_47, e_Ds_drop_50, bd_some, bd_none, Option.toList_some, Option.toList_none, List.nil_append, List.cons_append, px_kill_int, px_kill_long, px_kill_ref, px_kill_null, iI_lit, iJ_lit, iI_add, iI_sub, iI_mul, iI_neg, iJ_add, iJ_sub, iJ_mul, iJ_neg, iI_lt, iI_le, iI_eq, iJ_lt, iJ_le, iJ_eq, iI_div, iJ_div, tdiv_tmod, iI_J, iJ_I, iI_ix, iI_toInt, iJ_toInt, cmp_ge, cmp_lt, cmp_eq, cmp_gt, cmp_le, cmp_geI, cmp_ltI, cmp_eqI, cmp_gtI, cmp_leI, bI_0I, bI_1I, pin, if_true, hh, c, if_false, sh_n5, et, et1, hs]
    rfl
def dpF (V : VW) (i : Nat) : VW := (V.1 - 1, fun k => if k < i then V.2 k else V.2 (k + 1))
def rDrop (S : FS) (i : Int) : FS × Int := if isK S.1 i then ((dpF S.1 i.toNat, S.2), (S.1.1 : Int) - 1) else (rfS S 0, -1)
theorem dpF_ok {S : FS} (h : okF S) {i : Nat} (hi : i < S.1.1) : okF (dpF S.1 i, S.2) := by
  refine ⟨⟨Nat.le_trans (Nat.sub_le _ _) h.1.1, fun k hk => ?_⟩, h.2⟩
  have hk' : k < S.1.1 - 1 := hk
  show okN (if k < i then S.1.2 k else S.1.2 (k + 1))
  split
  · exact h.1.2 k (by omega)
  · exact h.1.2 (k + 1) (by omega)
set_option maxHeartbeats 2000000 in
theorem u_Ds_drop {G : GW} {T : TS} {S : FS} (hS : okF S) (h : fC G T S) {i : Int} (hi : inI i) : ∃ T', cl k_Ds_drop [.ref 0, .int (iI i)] (enc T) = some (some (.int (iI (rDrop S i).2)), enc T') ∧ fC G T' (rDrop S i).1 ∧ sepC T T' := by
  have g1 := g_isInk hS.1 h.1 hi
  obtain ⟨i1, i2⟩ := id hi
  unfold rDrop
  by_cases c1 : isK S.1 i
  case neg =>
    rw [bI_fI c1] at g1
    obtain ⟨T', e, hF, hs⟩ := c_ref0 hS h
    rw [if_neg c1]
    refine ⟨T', ?_, hF, hs⟩
    simp (disch := first | omega | assumption | decide | (simp (disch := omega) only [iI_lit, iJ_lit, iJ_eq, iI_eq, bI_01, bI_01I] <;> omega)) only [c_Ds_drop, e_Ds_drop_0, e_Ds_drop_1, e_Ds_drop_2, e_Ds_drop_5, e_Ds_drop_8, e_Ds_drop_9, e_Ds_drop_10, e_Ds_drop_13, e_Ds_drop_14, e_Ds_drop_15, e_Ds_drop_18, e_Ds_drop_19, e_Ds_drop_20, e_Ds_drop_21, e_Ds_drop_22, e_Ds_drop_23, e_Ds_drop_24, e_Ds_drop_25, e_Ds_drop_28, e_Ds_drop_29, e_Ds_drop_30, e_Ds_drop_33, e_Ds_drop_34, e_Ds_drop_37, e_Ds_drop_38, e_Ds_drop_39, e_Ds_drop_42, e_Ds_drop_43, e_Ds_drop_44, e_Ds_drop_45, e_Ds_drop_46, e_Ds_drop_47, e_Ds_drop_50, e_Ds_drop_53, e_Ds_drop_54, e_Ds_drop_55, e_Ds_drop_58, e_Ds_drop_59, e_Ds_drop_60, e_Ds_drop_63, e_Ds_drop_64, e_Ds_drop_67, e_Ds_drop_68, e_Ds_drop_71, e_Ds_drop_72, e_Ds_drop_73, e_Ds_drop_74, e_Ds_drop_77, bd_some, bd_none, Option.toList_some, Option.toList_none, List.nil_append, List.cons_append, px_kill_int, px_kill_long, px_kill_ref, px_kill_null, iI_lit, iJ_lit, iI_add, iI_sub, iI_mul, iI_neg, iJ_add, iJ_sub, iJ_mul, iJ_neg, iI_lt, iI_le, iI_eq, iJ_lt, iJ_le, iJ_eq, iI_div, iJ_div, tdiv_tmod, iI_J, iJ_I, iI_ix, iI_toInt, iJ_toInt, cmp_ge, cmp_lt, cmp_eq, cmp_gt, cmp_le, cmp_geI, cmp_ltI, cmp_eqI, cmp_gtI, cmp_leI, bI_0I, bI_1I, pin, if_true, g1, e]
  rw [bI_tI c1] at g1
  rw [if_pos c1]
  obtain ⟨j, rfl⟩ : ∃ j : Nat, i = (j : Int) := ⟨i.toNat, by omega⟩
  have hj : j < S.1.1 := by have := c1.2; omega
  have ej : ((j : Int)).toNat = j := by omega
  rw [ej]
  obtain ⟨h4, hp, hs, hI⟩ := cC.at hS.1 h.1 hj
  obtain ⟨⟨d1, d2, d3, d4⟩, ⟨d5, d5'⟩, d6, d7, d8⟩ := h
  have hV4 := hS.1.1
  have e0 : dropR T.2.2.1 j j = T.2.2.1 := by
    funext k
    exact if_neg (by omega)
  have lp := lp_drop (T := T) (h := S.1.1) (i := j) d1 hV4 d2 (T.2.2.1 j) (S.1.1 - 1 - j) j (by omega) (by omega) (Nat.le_refl _)
  have eT : tR T (dropR T.2.2.1 j j) = T := by rw [e0]
  rw [eT] at lp
  obtain ⟨T1, hT1⟩ : ∃ T1, T1 = tR T (dropR T.2.2.1 j (S.1.1 - 1)) := ⟨_, rfl⟩
  rw [← hT1] at lp
  have r0 : T1.1 0 3 = iI (S.1.1 : Int) := by rw [hT1]; exact d1
  have em : ((S.1.1 : Int) - 1).toNat = S.1.1 - 1 := by omega
  have e9 : ((S.1.1 - 1 : Nat) : Int) = (S.1.1 : Int) - 1 := by omega
  refine ⟨sR (sI T1 0 3 (iI ((S.1.1 : Int) - 1))) (S.1.1 - 1) (T.2.2.1 j), ?_, ?_, ?_⟩
  · simp (disch := first | omega | assumption | decide | (simp (disch := omega) only [iI_lit, iJ_lit, iJ_eq, iI_eq, bI_01, bI_01I] <;> omega)) only [c_Ds_drop, e_Ds_drop_0, e_Ds_drop_1, e_Ds_drop_2, e_Ds_drop_5, e_Ds_drop_8, e_Ds_drop_9, e_Ds_drop_10, e_Ds_drop_13, e_Ds_drop_14, e_Ds_drop_15, e_Ds_drop_18, e_Ds_drop_19, e_Ds_drop_20, e_Ds_drop_21, e_Ds_drop_22, bd_some, bd_none, Option.toList_some, Option.toList_none, List.nil_append, List.cons_append, px_kill_int, px_kill_long, px_kill_ref, px_kill_null, iI_lit, iJ_lit, iI_add, iI_sub, iI_mul, iI_neg, iJ_add, iJ_sub, iJ_mul, iJ_neg, iI_lt, iI_le, iI_eq, iJ_lt, iJ_le, iJ_eq, iI_div, iJ_div, tdiv_tmod, iI_J, iJ_I, iI_ix, iI_toInt, iJ_toInt, cmp_ge, cmp_lt, cmp_eq, cmp_gt, cmp_le, cmp_geI, cmp_ltI, cmp_eqI, cmp_gtI, cmp_leI, bI_0I, bI_1I, pin, if_true, g1, one0, if_false, sh_n5, ej, hs]
    refine Eq.trans lp ?_
    simp (disch := first | omega | assumption | decide | (simp (disch := omega) only [iI_lit, iJ_lit, iJ_eq, iI_eq, bI_01, bI_01I] <;> omega)) only [e_Ds_drop_53, e_Ds_drop_54, e_Ds_drop_55, e_Ds_drop_58, e_Ds_drop_59, e_Ds_drop_60, e_Ds_drop_63, e_Ds_drop_64, e_Ds_drop_67, e_Ds_drop_68, e_Ds_drop_71, e_Ds_drop_72, e_Ds_drop_73, e_Ds_drop_74, e_Ds_drop_77, bd_some, bd_none, Option.toList_some, Option.toList_none, List.nil_append, List.cons_append, px_kill_int, px_kill_long, px_kill_ref, px_kill_null, iI_lit, iJ_lit, iI_add, iI_sub, iI_mul, iI_neg, iJ_add, iJ_sub, iJ_mul, iJ_neg, iI_lt, iI_le, iI_eq, iJ_lt, iJ_le, iJ_eq, iI_div, iJ_div, tdiv_tmod, iI_J, iJ_I, iI_ix, iI_toInt, iJ_toInt, cmp_ge, cmp_lt, cmp_eq, cmp_gt, cmp_le, cmp_geI, cmp_ltI, cmp_eqI, cmp_gtI, cmp_leI, bI_0I, bI_1I, pin, if_true, r0, sh_n5, hs, sI_get, sJ_get, sI_2, sJ_1, sJ_22, sR_1, sR_21, Nat.reduceEqDiff, and_true, true_and, and_false, false_and, and_self, if_true, if_false, reduceIte, em]
  · have hR : ∀ k, (sR (sI T1 0 3 (iI ((S.1.1 : Int) - 1))) (S.1.1 - 1) (T.2.2.1 j)).2.2.1 k = T.2.2.1 (if k < j then k else if k < S.1.1 - 1 then k + 1 else if k = S.1.1 - 1 then j else k) := by
      intro k
      show (if k = S.1.1 - 1 then T.2.2.1 j else T1.2.2.1 k) = _
      rw [hT1]
      show (if k = S.1.1 - 1 then T.2.2.1 j else if j ≤ k ∧ k < S.1.1 - 1 then T.2.2.1 (k + 1) else T.2.2.1 k) = _
      by_cases q1 : k < j
      · rw [if_neg (by omega), if_neg (by omega), if_pos q1]
      · rw [if_neg q1]
        by_cases q2 : k < S.1.1 - 1
        · rw [if_neg (by omega), if_pos (by omega), if_pos q2]
        · rw [if_neg q2]
          by_cases q3 : k = S.1.1 - 1
          · rw [if_pos q3, if_pos q3]
          · rw [if_neg q3, if_neg (by omega), if_neg q3]
    have hI1 : (sR (sI T1 0 3 (iI ((S.1.1 : Int) - 1))) (S.1.1 - 1) (T.2.2.1 j)).1 = (sI T 0 3 (iI ((S.1.1 : Int) - 1))).1 := by rw [hT1]; rfl
    have hJ1 : (sR (sI T1 0 3 (iI ((S.1.1 : Int) - 1))) (S.1.1 - 1) (T.2.2.1 j)).2.1 = T.2.1 := by rw [hT1]; rfl
    have rd : ∀ q k, ¬ q = 0 → (sI T 0 3 (iI ((S.1.1 : Int) - 1))).1 q k = T.1 q k := fun q k hq => by rw [sI_get, if_neg (by omega)]
    generalize hT2 : sR (sI T1 0 3 (iI ((S.1.1 : Int) - 1))) (S.1.1 - 1) (T.2.2.1 j) = T2 at *
    have rd2 : ∀ q k, ¬ q = 0 → T2.1 q k = T.1 q k := fun q k hq => by rw [hI1]; exact rd q k hq
    refine ⟨⟨?_, fun k hk => ?_, fun k k' hk hk' he => ?_, fun k hk => ?_⟩, ⟨?_, fun k hk => ?_⟩, fun k hk => ?_, ?_, fun k hk => ?_⟩
    · show _ = iI (((S.1.1 - 1 : Nat)) : Int)
      rw [hI1, e9]; simp only [sI_get, sJ_get, sI_2, sJ_1, sJ_22, sR_1, sR_21, Nat.reduceEqDiff, and_true, true_and, and_false, false_and, and_self, if_true, if_false, reduceIte]
    · rw [hR]
      apply d2
      split; omega; split; omega; split <;> omega
    · rw [hR, hR] at he
      have e := d3 _ _ (by split; omega; split; omega; split <;> omega) (by split; omega; split; omega; split <;> omega) he
      revert e
      split
      · split
        · intro; omega
        · split
          · intro; omega
          · split <;> (intro; omega)
      · split
        · split
          · intro; omega
          · split
            · intro; omega
            · split <;> (intro; omega)
        · split
          · split
            · intro; omega
            · split
              · intro; omega
              · split <;> (intro; omega)
          · split
            · intro; omega
            · split
              · intro; omega
              · split <;> (intro; omega)
    · have hk' : k < S.1.1 - 1 := hk
      rw [hR]
      show inkC T2 _ (if k < j then S.1.2 k else S.1.2 (k + 1))
      have key : ∀ n, n < S.1.1 → inkC T2 (T.2.2.1 n) (S.1.2 n) := by
        intro n hn
        have hpn := d2 n (by omega)
        unfold isPl at hpn
        exact (d4 n hn).frA (a := fun q _ => q = 0) (b := fun _ _ => False) (T' := (T2.1, T2.2.1, T.2.2)) ⟨fun q k hq => rd2 q k hq, fun q k _ => by show T2.2.1 q k = T.2.1 q k; rw [hJ1], rfl⟩ (fun q k q1 q2 => by omega) (fun q k q1 q2 z => z)
      by_cases q1 : k < j
      · rw [if_pos q1, if_pos q1]; exact key k (by omega)
      · rw [if_neg q1, if_neg q1, if_pos hk']; exact key (k + 1) (by omega)
    · rw [rd2 _ _ (by omega)]; exact d5
    · rw [rd2 _ _ (by omega)]; exact d5' k hk
    · rw [rd2 _ _ (by omega)]; exact d6 k hk
    · exact d7.same (fun q k q1 q2 => rd2 _ _ (by omega))
    · have hk' : k < S.1.1 - 1 := hk
      rw [hR]
      show gOk G T2 _ (if k < j then S.1.2 k else S.1.2 (k + 1))
      have key : ∀ n, n < S.1.1 → gOk G T2 (T.2.2.1 n) (S.1.2 n) := by
        intro n hn
        have hpn := d2 n (by omega)
        unfold isPl at hpn
        exact (d8 n hn).same (rd2 _ _ (by omega)) (fun k => rd2 _ _ (by omega)) (rd2 _ _ (by omega)) (rd2 _ _ (by omega))
      by_cases q1 : k < j
      · rw [if_pos q1, if_pos q1]; exact key k (by omega)
      · rw [if_neg q1, if_neg q1, if_pos hk']; exact key (k + 1) (by omega)
  · rw [hT1]
    exact ⟨fun q k hq => by show (sI T 0 3 (iI ((S.1.1 : Int) - 1))).1 q k = _; rw [sI_get, if_neg (by omega)], fun _ _ _ => rfl, rfl⟩
/-! status, count -/
def qStat (S : FS) (k : Int) : Int := if 0 ≤ k ∧ k ≤ 2 then S.2.2 k.toNat else -1
theorem q_Ds_status {G : GW} {T : TS} {S : FS} (h : fC G T S) {k : Int} (hk : inI k) : cl k_Ds_status [.ref 0, .int (iI k)] (enc T) = some (some (.int (iI (qStat S k))), enc T) := by
  obtain ⟨k1, k2⟩ := hk
  have e3 : Int32.ofNat 3 = iI 3 := by decide
  unfold qStat
  by_cases c1 : k < 0
  · rw [if_neg (by omega)]
    simp (disch := first | omega | assumption | decide | (simp (disch := omega) only [iI_lit, iJ_lit, iJ_eq, iI_eq, bI_01, bI_01I] <;> omega)) only [c_Ds_status, e_Ds_status_0, e_Ds_status_1, e_Ds_status_4, e_Ds_status_5, e_Ds_status_6, e_Ds_status_9, e_Ds_status_10, e_Ds_status_13, e_Ds_status_14, e_Ds_status_17, e_Ds_status_18, e_Ds_status_21, e_Ds_status_22, e_Ds_status_23, bd_some, bd_none, Option.toList_some, Option.toList_none, List.nil_append, List.cons_append, px_kill_int, px_kill_long, px_kill_ref, px_kill_null, iI_lit, iJ_lit, iI_add, iI_sub, iI_mul, iI_neg, iJ_add, iJ_sub, iJ_mul, iJ_neg, iI_lt, iI_le, iI_eq, iJ_lt, iJ_le, iJ_eq, iI_div, iJ_div, tdiv_tmod, iI_J, iJ_I, iI_ix, iI_toInt, iJ_toInt, cmp_ge, cmp_lt, cmp_eq, cmp_gt, cmp_le, cmp_geI, cmp_ltI, cmp_eqI, cmp_gtI, cmp_leI, bI_0I, bI_1I, pin, if_true, sh_n6, e3, c1]
  · by_cases c2 : k < 3
    · rw [if_pos (by omega)]
      have hr := h.2.2.1 k.toNat (by omega)
      simp (disch := first | omega | assumption | decide | (simp (disch := omega) only [iI_lit, iJ_lit, iJ_eq, iI_eq, bI_01, bI_01I] <;> omega)) only [c_Ds_status, e_Ds_status_0, e_Ds_status_1, e_Ds_status_4, e_Ds_status_5, e_Ds_status_6, e_Ds_status_9, e_Ds_status_10, e_Ds_status_13, e_Ds_status_14, e_Ds_status_17, e_Ds_status_18, e_Ds_status_21, e_Ds_status_22, e_Ds_status_23, bd_some, bd_none, Option.toList_some, Option.toList_none, List.nil_append, List.cons_append, px_kill_int, px_kill_long, px_kill_ref, px_kill_null, iI_lit, iJ_lit, iI_add, iI_sub, iI_mul, iI_neg, iJ_add, iJ_sub, iJ_mul, iJ_neg, iI_lt, iI_le, iI_eq, iJ_lt, iJ_le, iJ_eq, iI_div, iJ_div, tdiv_tmod, iI_J, iJ_I, iI_ix, iI_toInt, iJ_toInt, cmp_ge, cmp_lt, cmp_eq, cmp_gt, cmp_le, cmp_geI, cmp_ltI, cmp_eqI, cmp_gtI, cmp_leI, bI_0I, bI_1I, pin, if_true, sh_n6, e3, c1, c2, if_false, hr]
    · rw [if_neg (by omega)]
      simp (disch := first | omega | assumption | decide | (simp (disch := omega) only [iI_lit, iJ_lit, iJ_eq, iI_eq, bI_01, bI_01I] <;> omega)) only [c_Ds_status, e_Ds_status_0, e_Ds_status_1, e_Ds_status_4, e_Ds_status_5, e_Ds_status_6, e_Ds_status_9, e_Ds_status_10, e_Ds_status_13, e_Ds_status_14, e_Ds_status_17, e_Ds_status_18, e_Ds_status_21, e_Ds_status_22, e_Ds_status_23, bd_some, bd_none, Option.toList_some, Option.toList_none, List.nil_append, List.cons_append, px_kill_int, px_kill_long, px_kill_ref, px_kill_null, iI_lit, iJ_lit, iI_add, iI_sub, iI_mul, iI_neg, iJ_add, iJ_sub, iJ_mul, iJ_neg, iI_lt, iI_le, iI_eq, iJ_lt, iJ_le, iJ_eq, iI_div, iJ_div, tdiv_tmod, iI_J, iJ_I, iI_ix, iI_toInt, iJ_toInt, cmp_ge, cmp_lt, cmp_eq, cmp_gt, cmp_le, cmp_geI, cmp_ltI, cmp_eqI, cmp_gtI, cmp_leI, bI_0I, bI_1I, pin, if_true, sh_n6, e3, c1, c2, if_false]
def qCnt (S : FS) (k : Int) : Int := if k = 0 then (S.1.1 : Int) else if k = 1 then (S.2.1.1 : Int) else -1000000
theorem q_Ds_count {G : GW} {T : TS} {S : FS} (h : fC G T S) {k : Int} (hk : inI k) : cl k_Ds_count [.ref 0, .int (iI k)] (enc T) = some (some (.int (iI (qCnt S k))), enc T) := by
  obtain ⟨k1, k2⟩ := hk
  have h1 := h.1.1
  have h2 := h.2.1.1
  unfold qCnt
  by_cases c1 : k = 0
  · rw [if_pos c1]
    simp (disch := first | omega | assumption | decide | (simp (disch := omega) only [iI_lit, iJ_lit, iJ_eq, iI_eq, bI_01, bI_01I] <;> omega)) only [c_Ds_count, e_Ds_count_0, e_Ds_count_1, e_Ds_count_28, e_Ds_count_29, e_Ds_count_32, e_Ds_count_33, e_Ds_count_34, e_Ds_count_37, e_Ds_count_40, e_Ds_count_41, e_Ds_count_43, bd_some, bd_none, Option.toList_some, Option.toList_none, List.nil_append, List.cons_append, px_kill_int, px_kill_long, px_kill_ref, px_kill_null, iI_lit, iJ_lit, iI_add, iI_sub, iI_mul, iI_neg, iJ_add, iJ_sub, iJ_mul, iJ_neg, iI_lt, iI_le, iI_eq, iJ_lt, iJ_le, iJ_eq, iI_div, iJ_div, tdiv_tmod, iI_J, iJ_I, iI_ix, iI_toInt, iJ_toInt, cmp_ge, cmp_lt, cmp_eq, cmp_gt, cmp_le, cmp_geI, cmp_ltI, cmp_eqI, cmp_gtI, cmp_leI, bI_0I, bI_1I, pin, if_true, c1, h1]
  · rw [if_neg c1]
    by_cases c2 : k = 1
    · rw [if_pos c2]
      subst c2
      simp (disch := first | omega | assumption | decide | (simp (disch := omega) only [iI_lit, iJ_lit, iJ_eq, iI_eq, bI_01, bI_01I] <;> omega)) only [c_Ds_count, e_Ds_count_0, e_Ds_count_1, e_Ds_count_28, e_Ds_count_29, e_Ds_count_32, e_Ds_count_33, e_Ds_count_34, e_Ds_count_37, e_Ds_count_40, e_Ds_count_41, e_Ds_count_43, bd_some, bd_none, Option.toList_some, Option.toList_none, List.nil_append, List.cons_append, px_kill_int, px_kill_long, px_kill_ref, px_kill_null, iI_lit, iJ_lit, iI_add, iI_sub, iI_mul, iI_neg, iJ_add, iJ_sub, iJ_mul, iJ_neg, iI_lt, iI_le, iI_eq, iJ_lt, iJ_le, iJ_eq, iI_div, iJ_div, tdiv_tmod, iI_J, iJ_I, iI_ix, iI_toInt, iJ_toInt, cmp_ge, cmp_lt, cmp_eq, cmp_gt, cmp_le, cmp_geI, cmp_ltI, cmp_eqI, cmp_gtI, cmp_leI, bI_0I, bI_1I, pin, if_true, one0, if_false, h2, sh_n1]
    · rw [if_neg c2]
      simp (disch := first | omega | assumption | decide | (simp (disch := omega) only [iI_lit, iJ_lit, iJ_eq, iI_eq, bI_01, bI_01I] <;> omega)) only [c_Ds_count, e_Ds_count_0, e_Ds_count_1, e_Ds_count_28, e_Ds_count_29, e_Ds_count_32, e_Ds_count_33, e_Ds_count_34, e_Ds_count_37, e_Ds_count_40, e_Ds_count_41, e_Ds_count_43, bd_some, bd_none, Option.toList_some, Option.toList_none, List.nil_append, List.cons_append, px_kill_int, px_kill_long, px_kill_ref, px_kill_null, iI_lit, iJ_lit, iI_add, iI_sub, iI_mul, iI_neg, iJ_add, iJ_sub, iJ_mul, iJ_neg, iI_lt, iI_le, iI_eq, iJ_lt, iJ_le, iJ_eq, iI_div, iJ_div, tdiv_tmod, iI_J, iJ_I, iI_ix, iI_toInt, iJ_toInt, cmp_ge, cmp_lt, cmp_eq, cmp_gt, cmp_le, cmp_geI, cmp_ltI, cmp_eqI, cmp_gtI, cmp_leI, bI_0I, bI_1I, pin, if_true, c1, c2, if_false]
