/-! choose of the reference, whole. -/
theorem pps_ne (m : Int) (l : List (Nat × Nat)) (b : CB) (c : Nat × Nat) (r : Nat × Nat × Nat) : pps m l b c r ≠ none := by
  unfold pps
  split
  · intro h; cases h
  · split <;> (intro h; cases h)
theorem c3T_ne {m : Int} {l : List (Nat × Nat)} {i j : Nat} : ∀ (t k : Nat) (b : CB), (b ≠ none ∨ 0 < t) → c3T m l i j b k t ≠ none := by
  intro t
  induction t with
  | zero => intro k b h; rcases h with h | h
            · exact h
            · omega
  | succ t ih => intro k b _; exact ih (k + 1) _ (Or.inl (pps_ne _ _ _ _ _))
theorem c3S_ne {n m : Int} {l : List (Nat × Nat)} {b : CB} {i j : Nat} (h : b ≠ none ∨ n = 2 ∨ j + 1 < l.length) : c3S n m l b i j ≠ none := by
  unfold c3S
  split
  · exact pps_ne _ _ _ _ _
  · rename_i hn
    refine c3T_ne _ _ _ ?_
    rcases h with h | h | h
    · exact Or.inl h
    · exact absurd h hn
    · exact Or.inr (by omega)
theorem c3R_ne {n m : Int} {l : List (Nat × Nat)} {i : Nat} : ∀ (t j : Nat) (b : CB), (b ≠ none ∨ (0 < t ∧ (n = 2 ∨ j + 1 < l.length))) → c3R n m l i b j t ≠ none := by
  intro t
  induction t with
  | zero => intro k b h; rcases h with h | h
            · exact h
            · omega
  | succ t ih =>
    intro j b h
    refine ih (j + 1) _ (Or.inl (c3S_ne ?_))
    rcases h with h | h
    · exact Or.inl h
    · exact Or.inr h.2
theorem c3A_ne {n m : Int} {l : List (Nat × Nat)} : ∀ (t i : Nat) (b : CB), (b ≠ none ∨ (0 < t ∧ i + 1 < l.length ∧ (n = 2 ∨ i + 2 < l.length))) → c3A n m l b i t ≠ none := by
  intro t
  induction t with
  | zero => intro k b h; rcases h with h | h
            · exact h
            · omega
  | succ t ih =>
    intro i b h
    refine ih (i + 1) _ (Or.inl (c3R_ne _ _ _ ?_))
    rcases h with h | h
    · exact Or.inl h
    · exact Or.inr ⟨by omega, by rcases h.2.2 with z | z
                                 · exact Or.inl z
                                 · exact Or.inr (by omega)⟩
theorem c3R_no {m n : Int} {l : List (Nat × Nat)} {i : Nat} (hn : n ≠ 2) (hl : l.length ≤ 2) : ∀ (t j : Nat), 1 ≤ j → j + t ≤ l.length → c3R n m l i none j t = none := by
  intro t
  induction t with
  | zero => intro j _ _; rfl
  | succ t ih =>
    intro j h1 h2
    have e : c3S n m l none i j = none := by
      unfold c3S
      rw [if_neg hn, show l.length - (j + 1) = 0 by omega]
      rfl
    show c3R n m l i (c3S n m l none i j) (j + 1) t = none
    rw [e]
    exact ih (j + 1) (by omega) (by omega)
theorem c3A_no {m n : Int} {l : List (Nat × Nat)} (hn : n = 2 ∨ n = 3) (hl : (l.length : Int) < n) : ∀ (t i : Nat), i + t ≤ l.length → c3A n m l none i t = none := by
  intro t
  induction t with
  | zero => intro i _; rfl
  | succ t ih =>
    intro i hi
    have e : c3R n m l i none (i + 1) (l.length - (i + 1)) = none := by
      by_cases h2 : n = 2
      · rw [show l.length - (i + 1) = 0 by omega]
        rfl
      · exact c3R_no h2 (by omega) _ _ (by omega) (by omega)
    show c3A n m l (c3R n m l i none (i + 1) (l.length - (i + 1))) (i + 1) t = none
    rw [e]
    exact ih (i + 1) (by omega)
set_option maxHeartbeats 4000000 in
theorem q_Dm_choose {T : TS} {n lo hi m i k : Int} (hn : inI n) (hlo : inI lo) (hhi : inI hi) (hm : m = 0 ∨ m = 1) (hi' : inI i) (hk : inI k) : ∃ T', cl k_Dm_choose [.ref 53, .int (iI n), .int (iI lo), .int (iI hi), .int (iI m), .int (iI i), .int (iI k)] (enc T) = some (some (.int (iI (qChoose n lo hi m i k))), enc T') ∧ FrM T T' := by
  obtain ⟨n1, n2⟩ := hn
  obtain ⟨lo1, lo2⟩ := hlo
  obtain ⟨hi1, hi2⟩ := hhi
  obtain ⟨i1, i2⟩ := hi'
  obtain ⟨k1, k2⟩ := hk
  have g1 := s_in (x := n) (l := 2) (h := 3) (enc (t0 T)) (by omega) (by omega) (by omega)
  have g2 := s_in (x := lo) (l := 1) (h := 144) (enc (t0 T)) (by omega) (by omega) (by omega)
  have g3 := s_in (x := hi) (l := lo) (h := 144) (enc (t0 T)) (by omega) (by omega) (by omega)
  have g5 := s_in (x := k) (l := 0) (h := 1) (enc (t0 T)) (by omega) (by omega) (by omega)
  have bad : ∀ (P : Prop), (qChoose n lo hi m i k = -1) → cl k_Dm_choose [.ref 53, .int (iI n), .int (iI lo), .int (iI hi), .int (iI m), .int (iI i), .int (iI k)] (enc T) = some (some (.int (iI (-1))), enc (t0 T)) → ∃ T', cl k_Dm_choose [.ref 53, .int (iI n), .int (iI lo), .int (iI hi), .int (iI m), .int (iI i), .int (iI k)] (enc T) = some (some (.int (iI (qChoose n lo hi m i k))), enc T') ∧ FrM T T' := by
    intro _ h1 h2
    rw [h1]
    exact ⟨t0 T, h2, t0_fr T⟩
  have no : ¬ isCh n lo hi i k → qChoose n lo hi m i k = -1 := fun z => if_neg z
  by_cases c1 : 2 ≤ n ∧ n ≤ 3
  case neg =>
    rw [bI_fI c1] at g1
    refine bad True (no (fun z => c1 (by have := z.1; omega))) ?_
    simp (disch := first | omega | assumption | decide | (simp (disch := omega) only [iI_lit, iJ_lit, iJ_eq, iI_eq, bI_01, bI_01I] <;> omega)) only [c_Dm_choose, e_Dm_choose_0, e_Dm_choose_1, e_Dm_choose_2, e_Dm_choose_5, e_Dm_choose_6, e_Dm_choose_7, e_Dm_choose_10, e_Dm_choose_13, e_Dm_choose_16, e_Dm_choose_19, e_Dm_choose_20, e_Dm_choose_21, e_Dm_choose_22, e_Dm_choose_25, e_Dm_choose_28, e_Dm_choose_31, e_Dm_choose_32, e_Dm_choose_33, e_Dm_choose_34, e_Dm_choose_35, e_Dm_choose_38, e_Dm_choose_41, e_Dm_choose_44, e_Dm_choose_45, e_Dm_choose_46, e_Dm_choose_47, e_Dm_choose_49, e_Dm_choose_52, e_Dm_choose_54, e_Dm_choose_55, e_Dm_choose_56, e_Dm_choose_57, e_Dm_choose_58, e_Dm_choose_59, e_Dm_choose_60, e_Dm_choose_63, e_Dm_choose_66, e_Dm_choose_68, e_Dm_choose_69, e_Dm_choose_70, e_Dm_choose_71, e_Dm_choose_74, e_Dm_choose_77, e_Dm_choose_78, e_Dm_choose_81, e_Dm_choose_82, e_Dm_choose_84, e_Dm_choose_86, e_Dm_choose_89, e_Dm_choose_90, bd_some, bd_none, Option.toList_some, Option.toList_none, List.nil_append, List.cons_append, px_kill_int, px_kill_long, px_kill_ref, px_kill_null, iI_lit, iJ_lit, iI_add, iI_sub, iI_mul, iI_neg, iJ_add, iJ_sub, iJ_mul, iJ_neg, iI_lt, iI_le, iI_eq, iJ_lt, iJ_le, iJ_eq, iI_div, iJ_div, tdiv_tmod, iI_J, iJ_I, iI_ix, iI_toInt, iJ_toInt, cmp_ge, cmp_lt, cmp_eq, cmp_gt, cmp_le, cmp_geI, cmp_ltI, cmp_eqI, cmp_gtI, cmp_leI, bI_0I, bI_1I, pin, if_true, g1]
  rw [bI_tI c1] at g1
  by_cases c2 : 1 ≤ lo ∧ lo ≤ 144
  case neg =>
    rw [bI_fI c2] at g2
    refine bad True (no (fun z => c2 z.2.2.2.1)) ?_
    simp (disch := first | omega | assumption | decide | (simp (disch := omega) only [iI_lit, iJ_lit, iJ_eq, iI_eq, bI_01, bI_01I] <;> omega)) only [c_Dm_choose, e_Dm_choose_0, e_Dm_choose_1, e_Dm_choose_2, e_Dm_choose_5, e_Dm_choose_6, e_Dm_choose_7, e_Dm_choose_10, e_Dm_choose_13, e_Dm_choose_16, e_Dm_choose_19, e_Dm_choose_20, e_Dm_choose_21, e_Dm_choose_22, e_Dm_choose_25, e_Dm_choose_28, e_Dm_choose_31, e_Dm_choose_32, e_Dm_choose_33, e_Dm_choose_34, e_Dm_choose_35, e_Dm_choose_38, e_Dm_choose_41, e_Dm_choose_44, e_Dm_choose_45, e_Dm_choose_46, e_Dm_choose_47, e_Dm_choose_49, e_Dm_choose_52, e_Dm_choose_54, e_Dm_choose_55, e_Dm_choose_56, e_Dm_choose_57, e_Dm_choose_58, e_Dm_choose_59, e_Dm_choose_60, e_Dm_choose_63, e_Dm_choose_66, e_Dm_choose_68, e_Dm_choose_69, e_Dm_choose_70, e_Dm_choose_71, e_Dm_choose_74, e_Dm_choose_77, e_Dm_choose_78, e_Dm_choose_81, e_Dm_choose_82, e_Dm_choose_84, e_Dm_choose_86, e_Dm_choose_89, e_Dm_choose_90, bd_some, bd_none, Option.toList_some, Option.toList_none, List.nil_append, List.cons_append, px_kill_int, px_kill_long, px_kill_ref, px_kill_null, iI_lit, iJ_lit, iI_add, iI_sub, iI_mul, iI_neg, iJ_add, iJ_sub, iJ_mul, iJ_neg, iI_lt, iI_le, iI_eq, iJ_lt, iJ_le, iJ_eq, iI_div, iJ_div, tdiv_tmod, iI_J, iJ_I, iI_ix, iI_toInt, iJ_toInt, cmp_ge, cmp_lt, cmp_eq, cmp_gt, cmp_le, cmp_geI, cmp_ltI, cmp_eqI, cmp_gtI, cmp_leI, bI_0I, bI_1I, pin, if_true, g1, g2, one0, if_false]
  rw [bI_tI c2] at g2
  by_cases c3 : lo ≤ hi ∧ hi ≤ 144
  case neg =>
    rw [bI_fI c3] at g3
    refine bad True ?_ ?_
    · unfold qChoose
      by_cases c : isCh n lo hi i k
      · rw [if_pos c]
        have e : (hi + 1 - lo).toNat = 0 := by have := c.2.2.2.2.1; omega
        have e2 : chz n m lo hi = none := by unfold chz sqL; rw [e]; rfl
        rw [e2]
        rfl
      · exact if_neg c
    · simp (disch := first | omega | assumption | decide | (simp (disch := omega) only [iI_lit, iJ_lit, iJ_eq, iI_eq, bI_01, bI_01I] <;> omega)) only [c_Dm_choose, e_Dm_choose_0, e_Dm_choose_1, e_Dm_choose_2, e_Dm_choose_5, e_Dm_choose_6, e_Dm_choose_7, e_Dm_choose_10, e_Dm_choose_13, e_Dm_choose_16, e_Dm_choose_19, e_Dm_choose_20, e_Dm_choose_21, e_Dm_choose_22, e_Dm_choose_25, e_Dm_choose_28, e_Dm_choose_31, e_Dm_choose_32, e_Dm_choose_33, e_Dm_choose_34, e_Dm_choose_35, e_Dm_choose_38, e_Dm_choose_41, e_Dm_choose_44, e_Dm_choose_45, e_Dm_choose_46, e_Dm_choose_47, e_Dm_choose_49, e_Dm_choose_52, e_Dm_choose_54, e_Dm_choose_55, e_Dm_choose_56, e_Dm_choose_57, e_Dm_choose_58, e_Dm_choose_59, e_Dm_choose_60, e_Dm_choose_63, e_Dm_choose_66, e_Dm_choose_68, e_Dm_choose_69, e_Dm_choose_70, e_Dm_choose_71, e_Dm_choose_74, e_Dm_choose_77, e_Dm_choose_78, e_Dm_choose_81, e_Dm_choose_82, e_Dm_choose_84, e_Dm_choose_86, e_Dm_choose_89, e_Dm_choose_90, bd_some, bd_none, Option.toList_some, Option.toList_none, List.nil_append, List.cons_append, px_kill_int, px_kill_long, px_kill_ref, px_kill_null, iI_lit, iJ_lit, iI_add, iI_sub, iI_mul, iI_neg, iJ_add, iJ_sub, iJ_mul, iJ_neg, iI_lt, iI_le, iI_eq, iJ_lt, iJ_le, iJ_eq, iI_div, iJ_div, tdiv_tmod, iI_J, iJ_I, iI_ix, iI_toInt, iJ_toInt, cmp_ge, cmp_lt, cmp_eq, cmp_gt, cmp_le, cmp_geI, cmp_ltI, cmp_eqI, cmp_gtI, cmp_leI, bI_0I, bI_1I, pin, if_true, g1, g2, g3, one0, if_false]
  rw [bI_tI c3] at g3
  by_cases c4 : hi - lo ≤ 20
  case neg =>
    have c4' : 20 < hi - lo := by omega
    refine bad True (no (fun z => c4 z.2.2.2.2.2)) ?_
    simp (disch := first | omega | assumption | decide | (simp (disch := omega) only [iI_lit, iJ_lit, iJ_eq, iI_eq, bI_01, bI_01I] <;> omega)) only [c_Dm_choose, e_Dm_choose_0, e_Dm_choose_1, e_Dm_choose_2, e_Dm_choose_5, e_Dm_choose_6, e_Dm_choose_7, e_Dm_choose_10, e_Dm_choose_13, e_Dm_choose_16, e_Dm_choose_19, e_Dm_choose_20, e_Dm_choose_21, e_Dm_choose_22, e_Dm_choose_25, e_Dm_choose_28, e_Dm_choose_31, e_Dm_choose_32, e_Dm_choose_33, e_Dm_choose_34, e_Dm_choose_35, e_Dm_choose_38, e_Dm_choose_41, e_Dm_choose_44, e_Dm_choose_45, e_Dm_choose_46, e_Dm_choose_47, e_Dm_choose_49, e_Dm_choose_52, e_Dm_choose_54, e_Dm_choose_55, e_Dm_choose_56, e_Dm_choose_57, e_Dm_choose_58, e_Dm_choose_59, e_Dm_choose_60, e_Dm_choose_63, e_Dm_choose_66, e_Dm_choose_68, e_Dm_choose_69, e_Dm_choose_70, e_Dm_choose_71, e_Dm_choose_74, e_Dm_choose_77, e_Dm_choose_78, e_Dm_choose_81, e_Dm_choose_82, e_Dm_choose_84, e_Dm_choose_86, e_Dm_choose_89, e_Dm_choose_90, bd_some, bd_none, Option.toList_some, Option.toList_none, List.nil_append, List.cons_append, px_kill_int, px_kill_long, px_kill_ref, px_kill_null, iI_lit, iJ_lit, iI_add, iI_sub, iI_mul, iI_neg, iJ_add, iJ_sub, iJ_mul, iJ_neg, iI_lt, iI_le, iI_eq, iJ_lt, iJ_le, iJ_eq, iI_div, iJ_div, tdiv_tmod, iI_J, iJ_I, iI_ix, iI_toInt, iJ_toInt, cmp_ge, cmp_lt, cmp_eq, cmp_gt, cmp_le, cmp_geI, cmp_ltI, cmp_eqI, cmp_gtI, cmp_leI, bI_0I, bI_1I, pin, if_true, g1, g2, g3, one0, if_false, c4']
  have c4' : ¬ 20 < hi - lo := by omega
  have g4 := s_in (x := i) (l := 0) (h := n - 1) (enc (t0 T)) (by omega) (by omega) (by omega)
  by_cases c5 : 0 ≤ i ∧ i ≤ n - 1
  case neg =>
    rw [bI_fI c5] at g4
    refine bad True (no (fun z => c5 (by have := z.2.1; omega))) ?_
    simp (disch := first | omega | assumption | decide | (simp (disch := omega) only [iI_lit, iJ_lit, iJ_eq, iI_eq, bI_01, bI_01I] <;> omega)) only [c_Dm_choose, e_Dm_choose_0, e_Dm_choose_1, e_Dm_choose_2, e_Dm_choose_5, e_Dm_choose_6, e_Dm_choose_7, e_Dm_choose_10, e_Dm_choose_13, e_Dm_choose_16, e_Dm_choose_19, e_Dm_choose_20, e_Dm_choose_21, e_Dm_choose_22, e_Dm_choose_25, e_Dm_choose_28, e_Dm_choose_31, e_Dm_choose_32, e_Dm_choose_33, e_Dm_choose_34, e_Dm_choose_35, e_Dm_choose_38, e_Dm_choose_41, e_Dm_choose_44, e_Dm_choose_45, e_Dm_choose_46, e_Dm_choose_47, e_Dm_choose_49, e_Dm_choose_52, e_Dm_choose_54, e_Dm_choose_55, e_Dm_choose_56, e_Dm_choose_57, e_Dm_choose_58, e_Dm_choose_59, e_Dm_choose_60, e_Dm_choose_63, e_Dm_choose_66, e_Dm_choose_68, e_Dm_choose_69, e_Dm_choose_70, e_Dm_choose_71, e_Dm_choose_74, e_Dm_choose_77, e_Dm_choose_78, e_Dm_choose_81, e_Dm_choose_82, e_Dm_choose_84, e_Dm_choose_86, e_Dm_choose_89, e_Dm_choose_90, bd_some, bd_none, Option.toList_some, Option.toList_none, List.nil_append, List.cons_append, px_kill_int, px_kill_long, px_kill_ref, px_kill_null, iI_lit, iJ_lit, iI_add, iI_sub, iI_mul, iI_neg, iJ_add, iJ_sub, iJ_mul, iJ_neg, iI_lt, iI_le, iI_eq, iJ_lt, iJ_le, iJ_eq, iI_div, iJ_div, tdiv_tmod, iI_J, iJ_I, iI_ix, iI_toInt, iJ_toInt, cmp_ge, cmp_lt, cmp_eq, cmp_gt, cmp_le, cmp_geI, cmp_ltI, cmp_eqI, cmp_gtI, cmp_leI, bI_0I, bI_1I, pin, if_true, g1, g2, g3, g4, one0, if_false, c4']
  rw [bI_tI c5] at g4
  by_cases c6 : 0 ≤ k ∧ k ≤ 1
  case neg =>
    rw [bI_fI c6] at g5
    refine bad True (no (fun z => c6 z.2.2.1)) ?_
    simp (disch := first | omega | assumption | decide | (simp (disch := omega) only [iI_lit, iJ_lit, iJ_eq, iI_eq, bI_01, bI_01I] <;> omega)) only [c_Dm_choose, e_Dm_choose_0, e_Dm_choose_1, e_Dm_choose_2, e_Dm_choose_5, e_Dm_choose_6, e_Dm_choose_7, e_Dm_choose_10, e_Dm_choose_13, e_Dm_choose_16, e_Dm_choose_19, e_Dm_choose_20, e_Dm_choose_21, e_Dm_choose_22, e_Dm_choose_25, e_Dm_choose_28, e_Dm_choose_31, e_Dm_choose_32, e_Dm_choose_33, e_Dm_choose_34, e_Dm_choose_35, e_Dm_choose_38, e_Dm_choose_41, e_Dm_choose_44, e_Dm_choose_45, e_Dm_choose_46, e_Dm_choose_47, e_Dm_choose_49, e_Dm_choose_52, e_Dm_choose_54, e_Dm_choose_55, e_Dm_choose_56, e_Dm_choose_57, e_Dm_choose_58, e_Dm_choose_59, e_Dm_choose_60, e_Dm_choose_63, e_Dm_choose_66, e_Dm_choose_68, e_Dm_choose_69, e_Dm_choose_70, e_Dm_choose_71, e_Dm_choose_74, e_Dm_choose_77, e_Dm_choose_78, e_Dm_choose_81, e_Dm_choose_82, e_Dm_choose_84, e_Dm_choose_86, e_Dm_choose_89, e_Dm_choose_90, bd_some, bd_none, Option.toList_some, Option.toList_none, List.nil_append, List.cons_append, px_kill_int, px_kill_long, px_kill_ref, px_kill_null, iI_lit, iJ_lit, iI_add, iI_sub, iI_mul, iI_neg, iJ_add, iJ_sub, iJ_mul, iJ_neg, iI_lt, iI_le, iI_eq, iJ_lt, iJ_le, iJ_eq, iI_div, iJ_div, tdiv_tmod, iI_J, iJ_I, iI_ix, iI_toInt, iJ_toInt, cmp_ge, cmp_lt, cmp_eq, cmp_gt, cmp_le, cmp_geI, cmp_ltI, cmp_eqI, cmp_gtI, cmp_leI, bI_0I, bI_1I, pin, if_true, g1, g2, g3, g4, g5, one0, if_false, c4']
  rw [bI_tI c6] at g5
  have cAll : isCh n lo hi i k := ⟨by omega, by omega, c6, c2, by omega, c4⟩
  unfold qChoose
  rw [if_pos cAll]
  have hnn : n = 2 ∨ n = 3 := by omega
  obtain ⟨T1, e1, fr1, hS, hlen1⟩ := m_squares (lo := lo) (hi := hi) c2 (by omega) c4 (t0 T)
  have hlen := sqL_20 (lo := lo) (hi := hi) c2 (by omega) c4
  have hok := sqL_ok (lo := lo) (hi := hi) c2 (by omega)
  have hD := chz_ok n m lo hi
  have ez : chz n m lo hi = c3A n m (sqL lo hi) none 0 (sqL lo hi).length := rfl
  have pre : ∀ Z, rn k_Dm_choose 97 [.ref 53, .int (iI n), .int (iI lo), .int (iI hi), .int (iI m), .int (iI i), .int (iI k), .int (iI 1)] [] (enc T1) = Z → cl k_Dm_choose [.ref 53, .int (iI n), .int (iI lo), .int (iI hi), .int (iI m), .int (iI i), .int (iI k)] (enc T) = Z := by
    intro Z hZ
    simp (disch := first | omega | assumption | decide | (simp (disch := omega) only [iI_lit, iJ_lit, iJ_eq, iI_eq, bI_01, bI_01I] <;> omega)) only [c_Dm_choose, e_Dm_choose_0, e_Dm_choose_1, e_Dm_choose_2, e_Dm_choose_5, e_Dm_choose_6, e_Dm_choose_7, e_Dm_choose_10, e_Dm_choose_13, e_Dm_choose_16, e_Dm_choose_19, e_Dm_choose_20, e_Dm_choose_21, e_Dm_choose_22, e_Dm_choose_25, e_Dm_choose_28, e_Dm_choose_31, e_Dm_choose_32, e_Dm_choose_33, e_Dm_choose_34, e_Dm_choose_35, e_Dm_choose_38, e_Dm_choose_41, e_Dm_choose_44, e_Dm_choose_45, e_Dm_choose_46, e_Dm_choose_47, e_Dm_choose_49, e_Dm_choose_52, e_Dm_choose_54, e_Dm_choose_55, e_Dm_choose_56, e_Dm_choose_57, e_Dm_choose_58, e_Dm_choose_59, e_Dm_choose_60, e_Dm_choose_63, e_Dm_choose_66, e_Dm_choose_68, e_Dm_choose_69, e_Dm_choose_70, e_Dm_choose_71, e_Dm_choose_74, e_Dm_choose_77, e_Dm_choose_78, e_Dm_choose_81, e_Dm_choose_82, e_Dm_choose_84, e_Dm_choose_86, e_Dm_choose_89, e_Dm_choose_90, e_Dm_choose_91, e_Dm_choose_92, e_Dm_choose_93, e_Dm_choose_94, bd_some, bd_none, Option.toList_some, Option.toList_none, List.nil_append, List.cons_append, px_kill_int, px_kill_long, px_kill_ref, px_kill_null, iI_lit, iJ_lit, iI_add, iI_sub, iI_mul, iI_neg, iJ_add, iJ_sub, iJ_mul, iJ_neg, iI_lt, iI_le, iI_eq, iJ_lt, iJ_le, iJ_eq, iI_div, iJ_div, tdiv_tmod, iI_J, iJ_I, iI_ix, iI_toInt, iJ_toInt, cmp_ge, cmp_lt, cmp_eq, cmp_gt, cmp_le, cmp_geI, cmp_ltI, cmp_eqI, cmp_gtI, cmp_leI, bI_0I, bI_1I, pin, if_true, g1, g2, g3, g4, g5, one0, if_false, c4', e1]
    exact hZ
  by_cases c7 : n ≤ ((sqL lo hi).length : Int)
  · obtain ⟨T2, hT2⟩ : ∃ T2, T2 = sI T1 53 50 (iI 0) := ⟨_, rfl⟩
    have hTl2 : hTl T2 (sqL lo hi) := by
      rw [hT2]
      exact ⟨hS.fr (fun k => by simp only [sI_get, sJ_get, sI_2, sJ_1, sJ_22, sR_1, sR_21, Nat.reduceEqDiff, and_true, true_and, and_false, false_and, and_self, if_true, if_false, reduceIte]) (fun k => by simp only [sI_get, sJ_get, sI_2, sJ_1, sJ_22, sR_1, sR_21, Nat.reduceEqDiff, and_true, true_and, and_false, false_and, and_self, if_true, if_false, reduceIte]), by simp only [sI_get, sJ_get, sI_2, sJ_1, sJ_22, sR_1, sR_21, Nat.reduceEqDiff, and_true, true_and, and_false, false_and, and_self, if_true, if_false, reduceIte]; exact hlen1⟩
    have hB2 : hBm T2 n (sqL lo hi) none := by
      rw [hT2]
      show (sI T1 53 50 (iI 0)).1 53 50 = iI 0
      simp only [sI_get, sJ_get, sI_2, sJ_1, sJ_22, sR_1, sR_21, Nat.reduceEqDiff, and_true, true_and, and_false, false_and, and_self, if_true, if_false, reduceIte]
    obtain ⟨T3, e3, fr3, hB3⟩ := lv0 hok hlen hnn hm hTl2 hB2
    have hS3 := (hTl2.tr fr3).1
    rw [← ez] at hB3
    have hne : chz n m lo hi ≠ none := by
      rw [ez]
      exact c3A_ne _ _ _ (Or.inr ⟨by omega, by omega, by omega⟩)
    have fr2 : FrM T1 T2 := by rw [hT2]; exact (FrM.rf T1).wr _ (by unfold aRef; omega)
    refine ⟨T3, ?_, (((t0_fr T).tr fr1).tr fr2).tr (FrM.ofA fr3 (fun q k z => by unfold aTr at z; unfold aRef; omega) (fun q k z => by unfold bTr at z; omega))⟩
    generalize chz n m lo hi = B at *
    cases B with
    | none => exact absurd rfl hne
    | some x =>
      obtain ⟨_, d3, d4, d5⟩ := hD x rfl
      obtain ⟨_, _, _, b1, b2, b3⟩ := hB3
      have hcI : T3.1 70 i.toNat = iI ((chI x i : Nat) : Int) ∧ chI x i < (sqL lo hi).length := by
        unfold chI
        by_cases i0 : i = 0
        · subst i0; rw [if_pos rfl]; exact ⟨b1, d3⟩
        · by_cases i1 : i = 1
          · subst i1; rw [if_neg i0, if_pos rfl]; exact ⟨b2, d4⟩
          · have i2 : i = 2 := by omega
            subst i2; rw [if_neg i0, if_neg i1]; exact ⟨b3 (by omega), d5⟩
      have e : chK (sqL lo hi) (some x) i k = if k = 0 then ((gQ (sqL lo hi) (chI x i)).1 : Int) else ((gQ (sqL lo hi) (chI x i)).2 : Int) := rfl
      rw [e]
      generalize chI x i = w at *
      obtain ⟨s1, s2⟩ := hS3 w hcI.2
      have hcI1 := hcI.1
      have ew : ((w : Int)).toNat = w := by omega
      refine pre _ ?_
      have e9 : (-1 : Int64) = iJ (-1) := by decide
      have st : rn k_Dm_choose 97 [.ref 53, .int (iI n), .int (iI lo), .int (iI hi), .int (iI m), .int (iI i), .int (iI k), .int (iI 1)] [] (enc T1) = rn k_Dm_choose 128 [.ref 53, .int (iI n), .int (iI lo), .int (iI hi), .int (iI m), .int (iI i), .int (iI k), .int (iI 1)] [] (enc T3) := by
        simp (disch := first | omega | assumption | decide | (simp (disch := omega) only [iI_lit, iJ_lit, iJ_eq, iI_eq, bI_01, bI_01I] <;> omega)) only [e_Dm_choose_97, e_Dm_choose_98, e_Dm_choose_101, e_Dm_choose_102, e_Dm_choose_105, e_Dm_choose_106, e_Dm_choose_107, e_Dm_choose_108, e_Dm_choose_109, e_Dm_choose_112, e_Dm_choose_113, e_Dm_choose_114, e_Dm_choose_117, e_Dm_choose_118, e_Dm_choose_119, e_Dm_choose_122, e_Dm_choose_123, e_Dm_choose_125, bd_some, bd_none, Option.toList_some, Option.toList_none, List.nil_append, List.cons_append, px_kill_int, px_kill_long, px_kill_ref, px_kill_null, iI_lit, iJ_lit, iI_add, iI_sub, iI_mul, iI_neg, iJ_add, iJ_sub, iJ_mul, iJ_neg, iI_lt, iI_le, iI_eq, iJ_lt, iJ_le, iJ_eq, iI_div, iJ_div, tdiv_tmod, iI_J, iJ_I, iI_ix, iI_toInt, iJ_toInt, cmp_ge, cmp_lt, cmp_eq, cmp_gt, cmp_le, cmp_geI, cmp_ltI, cmp_eqI, cmp_gtI, cmp_leI, bI_0I, bI_1I, pin, if_true, hlen1, c7, e9]
        rw [← hT2, e3]
        rfl
      rw [st]
      by_cases k0 : k = 0
      · subst k0
        rw [if_pos rfl]
        simp (disch := first | omega | assumption | decide | (simp (disch := omega) only [iI_lit, iJ_lit, iJ_eq, iI_eq, bI_01, bI_01I] <;> omega)) only [e_Dm_choose_128, e_Dm_choose_130, e_Dm_choose_133, e_Dm_choose_134, e_Dm_choose_137, e_Dm_choose_138, e_Dm_choose_141, e_Dm_choose_143, e_Dm_choose_144, e_Dm_choose_145, e_Dm_choose_148, e_Dm_choose_149, e_Dm_choose_152, e_Dm_choose_153, e_Dm_choose_156, e_Dm_choose_158, e_Dm_choose_159, e_Dm_choose_160, bd_some, bd_none, Option.toList_some, Option.toList_none, List.nil_append, List.cons_append, px_kill_int, px_kill_long, px_kill_ref, px_kill_null, iI_lit, iJ_lit, iI_add, iI_sub, iI_mul, iI_neg, iJ_add, iJ_sub, iJ_mul, iJ_neg, iI_lt, iI_le, iI_eq, iJ_lt, iJ_le, iJ_eq, iI_div, iJ_div, tdiv_tmod, iI_J, iJ_I, iI_ix, iI_toInt, iJ_toInt, cmp_ge, cmp_lt, cmp_eq, cmp_gt, cmp_le, cmp_geI, cmp_ltI, cmp_eqI, cmp_gtI, cmp_leI, bI_0I, bI_1I, pin, if_true, sh_n68, sh_n69, sh_n70, hcI1, ew, s1]
      · have k1 : k = 1 := by omega
        subst k1
        rw [if_neg k0]
        simp (disch := first | omega | assumption | decide | (simp (disch := omega) only [iI_lit, iJ_lit, iJ_eq, iI_eq, bI_01, bI_01I] <;> omega)) only [e_Dm_choose_128, e_Dm_choose_130, e_Dm_choose_133, e_Dm_choose_134, e_Dm_choose_137, e_Dm_choose_138, e_Dm_choose_141, e_Dm_choose_143, e_Dm_choose_144, e_Dm_choose_145, e_Dm_choose_148, e_Dm_choose_149, e_Dm_choose_152, e_Dm_choose_153, e_Dm_choose_156, e_Dm_choose_158, e_Dm_choose_159, e_Dm_choose_160, bd_some, bd_none, Option.toList_some, Option.toList_none, List.nil_append, List.cons_append, px_kill_int, px_kill_long, px_kill_ref, px_kill_null, iI_lit, iJ_lit, iI_add, iI_sub, iI_mul, iI_neg, iJ_add, iJ_sub, iJ_mul, iJ_neg, iI_lt, iI_le, iI_eq, iJ_lt, iJ_le, iJ_eq, iI_div, iJ_div, tdiv_tmod, iI_J, iJ_I, iI_ix, iI_toInt, iJ_toInt, cmp_ge, cmp_lt, cmp_eq, cmp_gt, cmp_le, cmp_geI, cmp_ltI, cmp_eqI, cmp_gtI, cmp_leI, bI_0I, bI_1I, pin, if_true, one0, if_false, sh_n68, sh_n69, sh_n70, hcI1, ew, s2]
  · have e2 : chz n m lo hi = none := by
      rw [ez]
      exact c3A_no hnn (by omega) _ _ (by omega)
    rw [e2]
    refine ⟨T1, ?_, (t0_fr T).tr fr1⟩
    refine pre _ ?_
    simp (disch := first | omega | assumption | decide | (simp (disch := omega) only [iI_lit, iJ_lit, iJ_eq, iI_eq, bI_01, bI_01I] <;> omega)) only [e_Dm_choose_97, e_Dm_choose_98, e_Dm_choose_101, e_Dm_choose_102, e_Dm_choose_105, e_Dm_choose_106, e_Dm_choose_107, e_Dm_choose_108, e_Dm_choose_109, e_Dm_choose_112, e_Dm_choose_113, e_Dm_choose_114, e_Dm_choose_117, e_Dm_choose_118, e_Dm_choose_119, e_Dm_choose_122, e_Dm_choose_123, e_Dm_choose_125, bd_some, bd_none, Option.toList_some, Option.toList_none, List.nil_append, List.cons_append, px_kill_int, px_kill_long, px_kill_ref, px_kill_null, iI_lit, iJ_lit, iI_add, iI_sub, iI_mul, iI_neg, iJ_add, iJ_sub, iJ_mul, iJ_neg, iI_lt, iI_le, iI_eq, iJ_lt, iJ_le, iJ_eq, iI_div, iJ_div, tdiv_tmod, iI_J, iJ_I, iI_ix, iI_toInt, iJ_toInt, cmp_ge, cmp_lt, cmp_eq, cmp_gt, cmp_le, cmp_geI, cmp_ltI, cmp_eqI, cmp_gtI, cmp_leI, bI_0I, bI_1I, pin, if_true, hlen1, c7, if_false]
    rfl
