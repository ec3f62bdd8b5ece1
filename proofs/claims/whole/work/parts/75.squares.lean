/-! squares listed: pure, and on both sides. -/
def sqB (c a : Nat) : List (Nat × Nat) → Nat → Nat → List (Nat × Nat)
  | l, _, 0 => l
  | l, b, t + 1 => sqB c a (if a * a + b * b = c then l ++ [(a, b)] else l) (b + 1) t
def sqA (c : Nat) : List (Nat × Nat) → Nat → Nat → List (Nat × Nat)
  | l, _, 0 => l
  | l, a, t + 1 => sqA c (sqB c a l 0 13) (a + 1) t
def sqC : List (Nat × Nat) → Nat → Nat → List (Nat × Nat)
  | l, _, 0 => l
  | l, c, t + 1 => sqC (sqA c l 1 12) (c + 1) t
theorem sqB_s (c a : Nat) (l : List (Nat × Nat)) (b t : Nat) : sqB c a l b (t + 1) = sqB c a (if a * a + b * b = c then l ++ [(a, b)] else l) (b + 1) t := rfl
theorem sqB_mono (c a : Nat) : ∀ (t b : Nat) (l : List (Nat × Nat)), l.length ≤ (sqB c a l b t).length := by
  intro t
  induction t with
  | zero => intro b l; exact Nat.le_refl _
  | succ t ih =>
    intro b l
    rw [sqB_s]
    refine Nat.le_trans ?_ (ih _ _)
    split
    · simp only [List.length_append, List.length_cons, List.length_nil]; omega
    · exact Nat.le_refl _
theorem sqA_mono (c : Nat) : ∀ (t a : Nat) (l : List (Nat × Nat)), l.length ≤ (sqA c l a t).length := by
  intro t
  induction t with
  | zero => intro a l; exact Nat.le_refl _
  | succ t ih => intro a l; exact Nat.le_trans (sqB_mono c a 13 0 l) (ih _ _)
theorem sqC_mono : ∀ (t c : Nat) (l : List (Nat × Nat)), l.length ≤ (sqC l c t).length := by
  intro t
  induction t with
  | zero => intro c l; exact Nat.le_refl _
  | succ t ih => intro c l; exact Nat.le_trans (sqA_mono c 12 1 l) (ih _ _)
/-- what holds of listed squares -/
def okQ (l : List (Nat × Nat)) : Prop := ∀ q, q ∈ l → (1 ≤ q.1 ∧ q.1 ≤ 12) ∧ q.2 ≤ 12 ∧ q.1 * q.1 + q.2 * q.2 ≤ 144
theorem sqB_ok {c a : Nat} (hc : c ≤ 144) (ha : 1 ≤ a ∧ a ≤ 12) : ∀ (t b : Nat) (l : List (Nat × Nat)), b + t ≤ 13 → okQ l → okQ (sqB c a l b t) := by
  intro t
  induction t with
  | zero => intro b l _ h; exact h
  | succ t ih =>
    intro b l hb h
    rw [sqB_s]
    refine ih _ _ (by omega) ?_
    split
    · rename_i e
      intro q hq
      rcases List.mem_append.mp hq with z | z
      · exact h q z
      · have : q = (a, b) := by simpa using z
        subst this
        exact ⟨ha, by show b ≤ 12; omega, by show a * a + b * b ≤ 144; omega⟩
    · exact h
theorem sqA_ok {c : Nat} (hc : c ≤ 144) : ∀ (t a : Nat) (l : List (Nat × Nat)), 1 ≤ a → a + t ≤ 13 → okQ l → okQ (sqA c l a t) := by
  intro t
  induction t with
  | zero => intro a l _ _ h; exact h
  | succ t ih => intro a l h1 ha h; exact ih _ _ (by omega) (by omega) (sqB_ok hc (by omega) 13 0 l (by omega) h)
theorem sqC_ok : ∀ (t c : Nat) (l : List (Nat × Nat)), c + t ≤ 145 → okQ l → okQ (sqC l c t) := by
  intro t
  induction t with
  | zero => intro c l _ h; exact h
  | succ t ih => intro c l hc h; exact ih _ _ (by omega) (sqA_ok (by omega) 12 1 l (by omega) (by omega) h)
theorem sqC_20 : ∀ c : Nat, c < 145 → (sqC [] c (min 21 (145 - c))).length ≤ 20 := by decide +kernel
theorem sqC_le : ∀ (t c : Nat) (l : List (Nat × Nat)) (u : Nat), (sqC l c t).length ≤ (sqC l c (t + u)).length := by
  intro t
  induction t with
  | zero => intro c l u; rw [Nat.zero_add]; exact sqC_mono u c l
  | succ t ih => intro c l u; rw [show t + 1 + u = (t + u) + 1 by omega]; exact ih (c + 1) (sqA c l 1 12) u
theorem sqC_le20 {c t : Nat} (hc : c + t ≤ 145) (ht : t ≤ 21) : (sqC [] c t).length ≤ 20 := by
  by_cases h0 : c < 145
  · have h1 := sqC_20 c h0
    have h2 := sqC_le t c [] (min 21 (145 - c) - t)
    rw [show t + (min 21 (145 - c) - t) = min 21 (145 - c) by omega] at h2
    omega
  · have : t = 0 := by omega
    subst this
    show ([] : List (Nat × Nat)).length ≤ 20
    exact Nat.zero_le _
theorem gD_app {l : List (Nat × Nat)} {q d : Nat × Nat} {k : Nat} (h : k < l.length) : (l ++ [q]).getD k d = l.getD k d := by
  rw [List.getD_eq_getElem?_getD, List.getD_eq_getElem?_getD, List.getElem?_append_left h]
theorem gD_last (l : List (Nat × Nat)) (q d : Nat × Nat) : (l ++ [q]).getD l.length d = q := by
  rw [List.getD_eq_getElem?_getD, List.getElem?_append_right (Nat.le_refl _), Nat.sub_self]
  rfl
theorem gD_mem {l : List (Nat × Nat)} {d : Nat × Nat} {k : Nat} (h : k < l.length) : l.getD k d ∈ l := by
  rw [List.getD_eq_getElem?_getD, List.getElem?_eq_getElem h]
  exact List.getElem_mem h
def hSq (T : TS) (p q : Nat) (l : List (Nat × Nat)) : Prop := ∀ k, k < l.length → T.1 p k = iI ((l.getD k (0, 0)).1 : Int) ∧ T.1 q k = iI ((l.getD k (0, 0)).2 : Int)

def aSqM (q k : Nat) : Prop := q = 68 ∨ q = 69 ∨ (q = 53 ∧ k = 44)
set_option maxHeartbeats 1000000 in
theorem lp_msqB {c a : Nat} (hc : c ≤ 144) (ha : 1 ≤ a ∧ a ≤ 12) (lo hi : Int32) : ∀ (t b : Nat) (l : List (Nat × Nat)) (T : TS), b + t = 13 → hSq T 68 69 l → T.1 53 44 = iI (l.length : Int) → (sqB c a l b t).length ≤ 156 → ∃ T', rn k_Dm_laysSquares 25 [.ref 53, .int lo, .int hi, .int (iI (c : Int)), .int (iI (a : Int)), .int (iI (b : Int))] [] (enc T) = rn k_Dm_laysSquares 85 [.ref 53, .int lo, .int hi, .int (iI (c : Int)), .int (iI (a : Int)), .int (iI 13)] [] (enc T') ∧ FrI aSqM T T' ∧ hSq T' 68 69 (sqB c a l b t) ∧ T'.1 53 44 = iI ((sqB c a l b t).length : Int) := by
  intro t
  induction t with
  | zero =>
    intro b l T hb h1 h2 hN
    have eb : (b : Int) = 13 := by omega
    have n12 : (12 : Int) < 13 := by omega
    refine ⟨T, ?_, FrI.rf _ _, h1, h2⟩
    rw [eb, e_Dm_laysSquares_25]
    simp (disch := first | omega | assumption | decide | (simp (disch := omega) only [iI_lit, iJ_lit, iJ_eq, iI_eq, bI_01, bI_01I] <;> omega)) only [e_Dm_laysSquares_27, e_Dm_laysSquares_29, bd_some, bd_none, Option.toList_some, Option.toList_none, List.nil_append, List.cons_append, px_kill_int, px_kill_long, px_kill_ref, px_kill_null, iI_lit, iJ_lit, iI_add, iI_sub, iI_mul, iI_neg, iJ_add, iJ_sub, iJ_mul, iJ_neg, iI_lt, iI_le, iI_eq, iJ_lt, iJ_le, iJ_eq, iI_div, iJ_div, tdiv_tmod, iI_J, iJ_I, iI_ix, iI_toInt, iJ_toInt, cmp_ge, cmp_lt, cmp_eq, cmp_gt, cmp_le, cmp_geI, cmp_ltI, cmp_eqI, cmp_gtI, cmp_leI, bI_0I, bI_1I, pin, if_true, n12]
  | succ t ih =>
    intro b l T hb h1 h2 hN
    rw [sqB_s] at hN ⊢
    have nlt : ¬ (12 : Int) < (b : Int) := by omega
    have m1 : a * a ≤ 144 := Nat.mul_le_mul ha.2 ha.2
    have m2 : b * b ≤ 144 := Nat.mul_le_mul (show b ≤ 12 by omega) (show b ≤ 12 by omega)
    have ea : (a : Int) * (a : Int) + (b : Int) * (b : Int) = ((a * a + b * b : Nat) : Int) := by rw [Int.natCast_add, Int.natCast_mul, Int.natCast_mul]
    by_cases e : a * a + b * b = c
    · rw [if_pos e] at hN ⊢
      have hlen : (l ++ [(a, b)]).length = l.length + 1 := by simp
      have hlt : l.length < 156 := by
        have := sqB_mono c a t (b + 1) (l ++ [(a, b)])
        omega
      have ec : (a : Int) * (a : Int) + (b : Int) * (b : Int) = (c : Int) := by omega
      have T1e : ∃ T1, rn k_Dm_laysSquares 25 [.ref 53, .int lo, .int hi, .int (iI (c : Int)), .int (iI (a : Int)), .int (iI (b : Int))] [] (enc T) = rn k_Dm_laysSquares 25 [.ref 53, .int lo, .int hi, .int (iI (c : Int)), .int (iI (a : Int)), .int (iI ((b : Int) + 1))] [] (enc T1) ∧ T1 = sI (sI (sI T 68 l.length (iI (a : Int))) 69 l.length (iI (b : Int))) 53 44 (iI ((l.length : Int) + 1)) := by
        refine ⟨_, ?_, rfl⟩
        have el : ((l.length : Int)).toNat = l.length := by omega
        have nl0 : ¬ (l.length : Int) < 0 := by omega
        have n20 : ¬ (156 : Int) ≤ (l.length : Int) := by omega
        rw [e_Dm_laysSquares_25]
        simp (disch := first | omega | assumption | decide | (simp (disch := omega) only [iI_lit, iJ_lit, iJ_eq, iI_eq, bI_01, bI_01I] <;> omega)) only [e_Dm_laysSquares_27, e_Dm_laysSquares_29, e_Dm_laysSquares_32, e_Dm_laysSquares_34, e_Dm_laysSquares_36, e_Dm_laysSquares_37, e_Dm_laysSquares_39, e_Dm_laysSquares_41, e_Dm_laysSquares_42, e_Dm_laysSquares_43, e_Dm_laysSquares_44, e_Dm_laysSquares_47, e_Dm_laysSquares_48, e_Dm_laysSquares_51, e_Dm_laysSquares_52, e_Dm_laysSquares_55, e_Dm_laysSquares_57, e_Dm_laysSquares_58, e_Dm_laysSquares_59, e_Dm_laysSquares_62, e_Dm_laysSquares_63, e_Dm_laysSquares_66, e_Dm_laysSquares_68, e_Dm_laysSquares_69, e_Dm_laysSquares_70, e_Dm_laysSquares_71, e_Dm_laysSquares_74, e_Dm_laysSquares_75, e_Dm_laysSquares_76, e_Dm_laysSquares_79, e_Dm_laysSquares_82, bd_some, bd_none, Option.toList_some, Option.toList_none, List.nil_append, List.cons_append, px_kill_int, px_kill_long, px_kill_ref, px_kill_null, sI_get, sJ_get, sI_2, sJ_1, sJ_22, sR_1, sR_21, Nat.reduceEqDiff, and_true, true_and, and_false, false_and, and_self, if_true, if_false, reduceIte, iI_lit, iJ_lit, iI_add, iI_sub, iI_mul, iI_neg, iJ_add, iJ_sub, iJ_mul, iJ_neg, iI_lt, iI_le, iI_eq, iJ_lt, iJ_le, iJ_eq, iI_div, iJ_div, tdiv_tmod, iI_J, iJ_I, iI_ix, iI_toInt, iJ_toInt, cmp_ge, cmp_lt, cmp_eq, cmp_gt, cmp_le, cmp_geI, cmp_ltI, cmp_eqI, cmp_gtI, cmp_leI, bI_0I, bI_1I, pin, if_true, nlt, if_false, ec, h2, sh_n68, sh_n69, el]
      obtain ⟨T1, e1, eT1⟩ := T1e
      have fr1 : FrI aSqM T T1 := by
        rw [eT1]
        exact (((FrI.rf aSqM T).wr _ (Or.inl rfl)).wr _ (Or.inr (Or.inl rfl))).wr _ (Or.inr (Or.inr ⟨rfl, rfl⟩))
      obtain ⟨T2, e2, fr2, h3, h4⟩ := ih (b + 1) (l ++ [(a, b)]) T1 (by omega) (by
        intro k hk
        rw [hlen] at hk
        rw [eT1]
        by_cases hk2 : k < l.length
        · rw [gD_app hk2]
          have hne : ¬ k = l.length := by omega
          simp only [sI_get, sJ_get, sI_2, sJ_1, sJ_22, sR_1, sR_21, Nat.reduceEqDiff, and_true, true_and, and_false, false_and, and_self, if_true, if_false, reduceIte, hne]
          exact h1 k hk2
        · have hk3 : k = l.length := by omega
          subst hk3
          rw [gD_last]
          simp only [sI_get, sJ_get, sI_2, sJ_1, sJ_22, sR_1, sR_21, Nat.reduceEqDiff, and_true, true_and, and_false, false_and, and_self, if_true, if_false, reduceIte]) (by rw [eT1, hlen, show ((l.length + 1 : Nat) : Int) = (l.length : Int) + 1 by omega]; simp only [sI_get, sJ_get, sI_2, sJ_1, sJ_22, sR_1, sR_21, Nat.reduceEqDiff, and_true, true_and, and_false, false_and, and_self, if_true, if_false, reduceIte]) hN
      refine ⟨T2, ?_, fr1.tr fr2, h3, h4⟩
      rw [e1, show (b : Int) + 1 = ((b + 1 : Nat) : Int) by omega]
      exact e2
    · rw [if_neg e] at hN ⊢
      have ec : ¬ (a : Int) * (a : Int) + (b : Int) * (b : Int) = (c : Int) := by omega
      obtain ⟨T2, e2, fr2, h3, h4⟩ := ih (b + 1) l T (by omega) h1 h2 hN
      refine ⟨T2, ?_, fr2, h3, h4⟩
      rw [show ((b + 1 : Nat) : Int) = (b : Int) + 1 by omega] at e2
      refine Eq.trans ?_ e2
      rw [e_Dm_laysSquares_25]
      simp (disch := first | omega | assumption | decide | (simp (disch := omega) only [iI_lit, iJ_lit, iJ_eq, iI_eq, bI_01, bI_01I] <;> omega)) only [e_Dm_laysSquares_27, e_Dm_laysSquares_29, e_Dm_laysSquares_32, e_Dm_laysSquares_34, e_Dm_laysSquares_36, e_Dm_laysSquares_37, e_Dm_laysSquares_39, e_Dm_laysSquares_41, e_Dm_laysSquares_42, e_Dm_laysSquares_43, e_Dm_laysSquares_44, e_Dm_laysSquares_47, e_Dm_laysSquares_48, e_Dm_laysSquares_51, e_Dm_laysSquares_52, e_Dm_laysSquares_55, e_Dm_laysSquares_57, e_Dm_laysSquares_58, e_Dm_laysSquares_59, e_Dm_laysSquares_62, e_Dm_laysSquares_63, e_Dm_laysSquares_66, e_Dm_laysSquares_68, e_Dm_laysSquares_69, e_Dm_laysSquares_70, e_Dm_laysSquares_71, e_Dm_laysSquares_74, e_Dm_laysSquares_75, e_Dm_laysSquares_76, e_Dm_laysSquares_79, e_Dm_laysSquares_82, bd_some, bd_none, Option.toList_some, Option.toList_none, List.nil_append, List.cons_append, px_kill_int, px_kill_long, px_kill_ref, px_kill_null, iI_lit, iJ_lit, iI_add, iI_sub, iI_mul, iI_neg, iJ_add, iJ_sub, iJ_mul, iJ_neg, iI_lt, iI_le, iI_eq, iJ_lt, iJ_le, iJ_eq, iI_div, iJ_div, tdiv_tmod, iI_J, iJ_I, iI_ix, iI_toInt, iJ_toInt, cmp_ge, cmp_lt, cmp_eq, cmp_gt, cmp_le, cmp_geI, cmp_ltI, cmp_eqI, cmp_gtI, cmp_leI, bI_0I, bI_1I, pin, if_true, nlt, if_false, ec]
set_option maxHeartbeats 1000000 in
theorem lp_msqA {c : Nat} (hc : c ≤ 144) (lo hi : Int32) : ∀ (t a : Nat) (l : List (Nat × Nat)) (T : TS), 1 ≤ a → a + t = 13 → hSq T 68 69 l → T.1 53 44 = iI (l.length : Int) → (sqA c l a t).length ≤ 156 → ∀ a5 : Value, ∃ (T' : TS) (b5 : Value), rn k_Dm_laysSquares 15 [.ref 53, .int lo, .int hi, .int (iI (c : Int)), .int (iI (a : Int)), a5] [] (enc T) = rn k_Dm_laysSquares 91 [.ref 53, .int lo, .int hi, .int (iI (c : Int)), .int (iI 13), b5] [] (enc T') ∧ FrI aSqM T T' ∧ hSq T' 68 69 (sqA c l a t) ∧ T'.1 53 44 = iI ((sqA c l a t).length : Int) := by
  intro t
  induction t with
  | zero =>
    intro a l T h0 hb h1 h2 hN a5
    have eb : (a : Int) = 13 := by omega
    have n12 : (12 : Int) < 13 := by omega
    refine ⟨T, a5, ?_, FrI.rf _ _, h1, h2⟩
    rw [eb, e_Dm_laysSquares_15]
    simp (disch := first | omega | assumption | decide | (simp (disch := omega) only [iI_lit, iJ_lit, iJ_eq, iI_eq, bI_01, bI_01I] <;> omega)) only [e_Dm_laysSquares_17, e_Dm_laysSquares_19, e_Dm_laysSquares_22, e_Dm_laysSquares_23, bd_some, bd_none, Option.toList_some, Option.toList_none, List.nil_append, List.cons_append, px_kill_int, px_kill_long, px_kill_ref, px_kill_null, iI_lit, iJ_lit, iI_add, iI_sub, iI_mul, iI_neg, iJ_add, iJ_sub, iJ_mul, iJ_neg, iI_lt, iI_le, iI_eq, iJ_lt, iJ_le, iJ_eq, iI_div, iJ_div, tdiv_tmod, iI_J, iJ_I, iI_ix, iI_toInt, iJ_toInt, cmp_ge, cmp_lt, cmp_eq, cmp_gt, cmp_le, cmp_geI, cmp_ltI, cmp_eqI, cmp_gtI, cmp_leI, bI_0I, bI_1I, pin, if_true, n12]
  | succ t ih =>
    intro a l T h0 hb h1 h2 hN a5
    have nlt : ¬ (12 : Int) < (a : Int) := by omega
    have hN' : (sqA c (sqB c a l 0 13) (a + 1) t).length ≤ 156 := hN
    obtain ⟨T1, e1, fr1, h3, h4⟩ := lp_msqB hc (a := a) (by omega) lo hi 13 0 l T (by omega) h1 h2 (Nat.le_trans (sqA_mono c t (a + 1) _) hN')
    obtain ⟨T2, b5, e2, fr2, h5, h6⟩ := ih (a + 1) (sqB c a l 0 13) T1 (by omega) (by omega) h3 h4 hN' (.int (iI 13))
    refine ⟨T2, b5, ?_, fr1.tr fr2, h5, h6⟩
    rw [e_Dm_laysSquares_15]
    simp (disch := first | omega | assumption | decide | (simp (disch := omega) only [iI_lit, iJ_lit, iJ_eq, iI_eq, bI_01, bI_01I] <;> omega)) only [e_Dm_laysSquares_17, e_Dm_laysSquares_19, e_Dm_laysSquares_22, e_Dm_laysSquares_23, bd_some, bd_none, Option.toList_some, Option.toList_none, List.nil_append, List.cons_append, px_kill_int, px_kill_long, px_kill_ref, px_kill_null, iI_lit, iJ_lit, iI_add, iI_sub, iI_mul, iI_neg, iJ_add, iJ_sub, iJ_mul, iJ_neg, iI_lt, iI_le, iI_eq, iJ_lt, iJ_le, iJ_eq, iI_div, iJ_div, tdiv_tmod, iI_J, iJ_I, iI_ix, iI_toInt, iJ_toInt, cmp_ge, cmp_lt, cmp_eq, cmp_gt, cmp_le, cmp_geI, cmp_ltI, cmp_eqI, cmp_gtI, cmp_leI, bI_0I, bI_1I, pin, if_true, nlt, if_false]
    refine Eq.trans e1 ?_
    simp (disch := first | omega | assumption | decide | (simp (disch := omega) only [iI_lit, iJ_lit, iJ_eq, iI_eq, bI_01, bI_01I] <;> omega)) only [e_Dm_laysSquares_85, e_Dm_laysSquares_88, bd_some, bd_none, Option.toList_some, Option.toList_none, List.nil_append, List.cons_append, px_kill_int, px_kill_long, px_kill_ref, px_kill_null, iI_lit, iJ_lit, iI_add, iI_sub, iI_mul, iI_neg, iJ_add, iJ_sub, iJ_mul, iJ_neg, iI_lt, iI_le, iI_eq, iJ_lt, iJ_le, iJ_eq, iI_div, iJ_div, tdiv_tmod, iI_J, iJ_I, iI_ix, iI_toInt, iJ_toInt, cmp_ge, cmp_lt, cmp_eq, cmp_gt, cmp_le, cmp_geI, cmp_ltI, cmp_eqI, cmp_gtI, cmp_leI, bI_0I, bI_1I, pin, if_true]
    rw [show (a : Int) + 1 = ((a + 1 : Nat) : Int) by omega]
    exact e2

def aSqC (q k : Nat) : Prop := q = 16 ∨ q = 17 ∨ (q = 15 ∧ k = 2)
set_option maxHeartbeats 1000000 in
theorem lp_csqB {c a : Nat} (hc : c ≤ 144) (ha : 1 ≤ a ∧ a ≤ 12) (lo hi : Int32) : ∀ (t b : Nat) (l : List (Nat × Nat)) (T : TS), b + t = 13 → hSq T 16 17 l → T.1 15 2 = iI (l.length : Int) → (sqB c a l b t).length ≤ 20 → ∃ T', rn k_Chooser_listSquares 32 [.ref 15, .int lo, .int hi, .int (iI (c : Int)), .int (iI (a : Int)), .int (iI (b : Int))] [] (enc T) = rn k_Chooser_listSquares 108 [.ref 15, .int lo, .int hi, .int (iI (c : Int)), .int (iI (a : Int)), .int (iI 13)] [] (enc T') ∧ FrI aSqC T T' ∧ hSq T' 16 17 (sqB c a l b t) ∧ T'.1 15 2 = iI ((sqB c a l b t).length : Int) := by
  intro t
  induction t with
  | zero =>
    intro b l T hb h1 h2 hN
    have eb : (b : Int) = 13 := by omega
    have n12 : (12 : Int) < 13 := by omega
    refine ⟨T, ?_, FrI.rf _ _, h1, h2⟩
    rw [eb, e_Chooser_listSquares_32]
    simp (disch := first | omega | assumption | decide | (simp (disch := omega) only [iI_lit, iJ_lit, iJ_eq, iI_eq, bI_01, bI_01I] <;> omega)) only [e_Chooser_listSquares_34, e_Chooser_listSquares_36, bd_some, bd_none, Option.toList_some, Option.toList_none, List.nil_append, List.cons_append, px_kill_int, px_kill_long, px_kill_ref, px_kill_null, iI_lit, iJ_lit, iI_add, iI_sub, iI_mul, iI_neg, iJ_add, iJ_sub, iJ_mul, iJ_neg, iI_lt, iI_le, iI_eq, iJ_lt, iJ_le, iJ_eq, iI_div, iJ_div, tdiv_tmod, iI_J, iJ_I, iI_ix, iI_toInt, iJ_toInt, cmp_ge, cmp_lt, cmp_eq, cmp_gt, cmp_le, cmp_geI, cmp_ltI, cmp_eqI, cmp_gtI, cmp_leI, bI_0I, bI_1I, pin, if_true, n12]
  | succ t ih =>
    intro b l T hb h1 h2 hN
    rw [sqB_s] at hN ⊢
    have nlt : ¬ (12 : Int) < (b : Int) := by omega
    have m1 : a * a ≤ 144 := Nat.mul_le_mul ha.2 ha.2
    have m2 : b * b ≤ 144 := Nat.mul_le_mul (show b ≤ 12 by omega) (show b ≤ 12 by omega)
    have ea : (a : Int) * (a : Int) + (b : Int) * (b : Int) = ((a * a + b * b : Nat) : Int) := by rw [Int.natCast_add, Int.natCast_mul, Int.natCast_mul]
    by_cases e : a * a + b * b = c
    · rw [if_pos e] at hN ⊢
      have hlen : (l ++ [(a, b)]).length = l.length + 1 := by simp
      have hlt : l.length < 20 := by
        have := sqB_mono c a t (b + 1) (l ++ [(a, b)])
        omega
      have ec : (a : Int) * (a : Int) + (b : Int) * (b : Int) = (c : Int) := by omega
      have T1e : ∃ T1, rn k_Chooser_listSquares 32 [.ref 15, .int lo, .int hi, .int (iI (c : Int)), .int (iI (a : Int)), .int (iI (b : Int))] [] (enc T) = rn k_Chooser_listSquares 32 [.ref 15, .int lo, .int hi, .int (iI (c : Int)), .int (iI (a : Int)), .int (iI ((b : Int) + 1))] [] (enc T1) ∧ T1 = sI (sI (sI T 16 l.length (iI (a : Int))) 17 l.length (iI (b : Int))) 15 2 (iI ((l.length : Int) + 1)) := by
        refine ⟨_, ?_, rfl⟩
        have el : ((l.length : Int)).toNat = l.length := by omega
        have nl0 : ¬ (l.length : Int) < 0 := by omega
        have n20 : ¬ (20 : Int) ≤ (l.length : Int) := by omega
        rw [e_Chooser_listSquares_32]
        simp (disch := first | omega | assumption | decide | (simp (disch := omega) only [iI_lit, iJ_lit, iJ_eq, iI_eq, bI_01, bI_01I] <;> omega)) only [e_Chooser_listSquares_34, e_Chooser_listSquares_36, e_Chooser_listSquares_39, e_Chooser_listSquares_41, e_Chooser_listSquares_43, e_Chooser_listSquares_44, e_Chooser_listSquares_46, e_Chooser_listSquares_48, e_Chooser_listSquares_49, e_Chooser_listSquares_50, e_Chooser_listSquares_51, e_Chooser_listSquares_54, e_Chooser_listSquares_55, e_Chooser_listSquares_58, e_Chooser_listSquares_61, e_Chooser_listSquares_62, e_Chooser_listSquares_65, e_Chooser_listSquares_67, e_Chooser_listSquares_70, e_Chooser_listSquares_71, e_Chooser_listSquares_74, e_Chooser_listSquares_75, e_Chooser_listSquares_78, e_Chooser_listSquares_80, e_Chooser_listSquares_81, e_Chooser_listSquares_82, e_Chooser_listSquares_85, e_Chooser_listSquares_86, e_Chooser_listSquares_89, e_Chooser_listSquares_91, e_Chooser_listSquares_92, e_Chooser_listSquares_93, e_Chooser_listSquares_94, e_Chooser_listSquares_97, e_Chooser_listSquares_98, e_Chooser_listSquares_99, e_Chooser_listSquares_102, e_Chooser_listSquares_105, bd_some, bd_none, Option.toList_some, Option.toList_none, List.nil_append, List.cons_append, px_kill_int, px_kill_long, px_kill_ref, px_kill_null, sI_get, sJ_get, sI_2, sJ_1, sJ_22, sR_1, sR_21, Nat.reduceEqDiff, and_true, true_and, and_false, false_and, and_self, if_true, if_false, reduceIte, iI_lit, iJ_lit, iI_add, iI_sub, iI_mul, iI_neg, iJ_add, iJ_sub, iJ_mul, iJ_neg, iI_lt, iI_le, iI_eq, iJ_lt, iJ_le, iJ_eq, iI_div, iJ_div, tdiv_tmod, iI_J, iJ_I, iI_ix, iI_toInt, iJ_toInt, cmp_ge, cmp_lt, cmp_eq, cmp_gt, cmp_le, cmp_geI, cmp_ltI, cmp_eqI, cmp_gtI, cmp_leI, bI_0I, bI_1I, pin, if_true, nlt, if_false, ec, h2, sh_n16, sh_n17, el, nl0, n20]
      obtain ⟨T1, e1, eT1⟩ := T1e
      have fr1 : FrI aSqC T T1 := by
        rw [eT1]
        exact (((FrI.rf aSqC T).wr _ (Or.inl rfl)).wr _ (Or.inr (Or.inl rfl))).wr _ (Or.inr (Or.inr ⟨rfl, rfl⟩))
      obtain ⟨T2, e2, fr2, h3, h4⟩ := ih (b + 1) (l ++ [(a, b)]) T1 (by omega) (by
        intro k hk
        rw [hlen] at hk
        rw [eT1]
        by_cases hk2 : k < l.length
        · rw [gD_app hk2]
          have hne : ¬ k = l.length := by omega
          simp only [sI_get, sJ_get, sI_2, sJ_1, sJ_22, sR_1, sR_21, Nat.reduceEqDiff, and_true, true_and, and_false, false_and, and_self, if_true, if_false, reduceIte, hne]
          exact h1 k hk2
        · have hk3 : k = l.length := by omega
          subst hk3
          rw [gD_last]
          simp only [sI_get, sJ_get, sI_2, sJ_1, sJ_22, sR_1, sR_21, Nat.reduceEqDiff, and_true, true_and, and_false, false_and, and_self, if_true, if_false, reduceIte]) (by rw [eT1, hlen, show ((l.length + 1 : Nat) : Int) = (l.length : Int) + 1 by omega]; simp only [sI_get, sJ_get, sI_2, sJ_1, sJ_22, sR_1, sR_21, Nat.reduceEqDiff, and_true, true_and, and_false, false_and, and_self, if_true, if_false, reduceIte]) hN
      refine ⟨T2, ?_, fr1.tr fr2, h3, h4⟩
      rw [e1, show (b : Int) + 1 = ((b + 1 : Nat) : Int) by omega]
      exact e2
    · rw [if_neg e] at hN ⊢
      have ec : ¬ (a : Int) * (a : Int) + (b : Int) * (b : Int) = (c : Int) := by omega
      obtain ⟨T2, e2, fr2, h3, h4⟩ := ih (b + 1) l T (by omega) h1 h2 hN
      refine ⟨T2, ?_, fr2, h3, h4⟩
      rw [show ((b + 1 : Nat) : Int) = (b : Int) + 1 by omega] at e2
      refine Eq.trans ?_ e2
      rw [e_Chooser_listSquares_32]
      simp (disch := first | omega | assumption | decide | (simp (disch := omega) only [iI_lit, iJ_lit, iJ_eq, iI_eq, bI_01, bI_01I] <;> omega)) only [e_Chooser_listSquares_34, e_Chooser_listSquares_36, e_Chooser_listSquares_39, e_Chooser_listSquares_41, e_Chooser_listSquares_43, e_Chooser_listSquares_44, e_Chooser_listSquares_46, e_Chooser_listSquares_48, e_Chooser_listSquares_49, e_Chooser_listSquares_50, e_Chooser_listSquares_51, e_Chooser_listSquares_54, e_Chooser_listSquares_55, e_Chooser_listSquares_58, e_Chooser_listSquares_61, e_Chooser_listSquares_62, e_Chooser_listSquares_65, e_Chooser_listSquares_67, e_Chooser_listSquares_70, e_Chooser_listSquares_71, e_Chooser_listSquares_74, e_Chooser_listSquares_75, e_Chooser_listSquares_78, e_Chooser_listSquares_80, e_Chooser_listSquares_81, e_Chooser_listSquares_82, e_Chooser_listSquares_85, e_Chooser_listSquares_86, e_Chooser_listSquares_89, e_Chooser_listSquares_91, e_Chooser_listSquares_92, e_Chooser_listSquares_93, e_Chooser_listSquares_94, e_Chooser_listSquares_97, e_Chooser_listSquares_98, e_Chooser_listSquares_99, e_Chooser_listSquares_102, e_Chooser_listSquares_105, bd_some, bd_none, Option.toList_some, Option.toList_none, List.nil_append, List.cons_append, px_kill_int, px_kill_long, px_kill_ref, px_kill_null, iI_lit, iJ_lit, iI_add, iI_sub, iI_mul, iI_neg, iJ_add, iJ_sub, iJ_mul, iJ_neg, iI_lt, iI_le, iI_eq, iJ_lt, iJ_le, iJ_eq, iI_div, iJ_div, tdiv_tmod, iI_J, iJ_I, iI_ix, iI_toInt, iJ_toInt, cmp_ge, cmp_lt, cmp_eq, cmp_gt, cmp_le, cmp_geI, cmp_ltI, cmp_eqI, cmp_gtI, cmp_leI, bI_0I, bI_1I, pin, if_true, nlt, if_false, ec]
set_option maxHeartbeats 1000000 in
theorem lp_csqA {c : Nat} (hc : c ≤ 144) (lo hi : Int32) : ∀ (t a : Nat) (l : List (Nat × Nat)) (T : TS), 1 ≤ a → a + t = 13 → hSq T 16 17 l → T.1 15 2 = iI (l.length : Int) → (sqA c l a t).length ≤ 20 → ∀ a5 : Value, ∃ (T' : TS) (b5 : Value), rn k_Chooser_listSquares 22 [.ref 15, .int lo, .int hi, .int (iI (c : Int)), .int (iI (a : Int)), a5] [] (enc T) = rn k_Chooser_listSquares 114 [.ref 15, .int lo, .int hi, .int (iI (c : Int)), .int (iI 13), b5] [] (enc T') ∧ FrI aSqC T T' ∧ hSq T' 16 17 (sqA c l a t) ∧ T'.1 15 2 = iI ((sqA c l a t).length : Int) := by
  intro t
  induction t with
  | zero =>
    intro a l T h0 hb h1 h2 hN a5
    have eb : (a : Int) = 13 := by omega
    have n12 : (12 : Int) < 13 := by omega
    refine ⟨T, a5, ?_, FrI.rf _ _, h1, h2⟩
    rw [eb, e_Chooser_listSquares_22]
    simp (disch := first | omega | assumption | decide | (simp (disch := omega) only [iI_lit, iJ_lit, iJ_eq, iI_eq, bI_01, bI_01I] <;> omega)) only [e_Chooser_listSquares_24, e_Chooser_listSquares_26, e_Chooser_listSquares_29, e_Chooser_listSquares_30, bd_some, bd_none, Option.toList_some, Option.toList_none, List.nil_append, List.cons_append, px_kill_int, px_kill_long, px_kill_ref, px_kill_null, iI_lit, iJ_lit, iI_add, iI_sub, iI_mul, iI_neg, iJ_add, iJ_sub, iJ_mul, iJ_neg, iI_lt, iI_le, iI_eq, iJ_lt, iJ_le, iJ_eq, iI_div, iJ_div, tdiv_tmod, iI_J, iJ_I, iI_ix, iI_toInt, iJ_toInt, cmp_ge, cmp_lt, cmp_eq, cmp_gt, cmp_le, cmp_geI, cmp_ltI, cmp_eqI, cmp_gtI, cmp_leI, bI_0I, bI_1I, pin, if_true, n12]
  | succ t ih =>
    intro a l T h0 hb h1 h2 hN a5
    have nlt : ¬ (12 : Int) < (a : Int) := by omega
    have hN' : (sqA c (sqB c a l 0 13) (a + 1) t).length ≤ 20 := hN
    obtain ⟨T1, e1, fr1, h3, h4⟩ := lp_csqB hc (a := a) (by omega) lo hi 13 0 l T (by omega) h1 h2 (Nat.le_trans (sqA_mono c t (a + 1) _) hN')
    obtain ⟨T2, b5, e2, fr2, h5, h6⟩ := ih (a + 1) (sqB c a l 0 13) T1 (by omega) (by omega) h3 h4 hN' (.int (iI 13))
    refine ⟨T2, b5, ?_, fr1.tr fr2, h5, h6⟩
    rw [e_Chooser_listSquares_22]
    simp (disch := first | omega | assumption | decide | (simp (disch := omega) only [iI_lit, iJ_lit, iJ_eq, iI_eq, bI_01, bI_01I] <;> omega)) only [e_Chooser_listSquares_24, e_Chooser_listSquares_26, e_Chooser_listSquares_29, e_Chooser_listSquares_30, bd_some, bd_none, Option.toList_some, Option.toList_none, List.nil_append, List.cons_append, px_kill_int, px_kill_long, px_kill_ref, px_kill_null, iI_lit, iJ_lit, iI_add, iI_sub, iI_mul, iI_neg, iJ_add, iJ_sub, iJ_mul, iJ_neg, iI_lt, iI_le, iI_eq, iJ_lt, iJ_le, iJ_eq, iI_div, iJ_div, tdiv_tmod, iI_J, iJ_I, iI_ix, iI_toInt, iJ_toInt, cmp_ge, cmp_lt, cmp_eq, cmp_gt, cmp_le, cmp_geI, cmp_ltI, cmp_eqI, cmp_gtI, cmp_leI, bI_0I, bI_1I, pin, if_true, nlt, if_false]
    refine Eq.trans e1 ?_
    simp (disch := first | omega | assumption | decide | (simp (disch := omega) only [iI_lit, iJ_lit, iJ_eq, iI_eq, bI_01, bI_01I] <;> omega)) only [e_Chooser_listSquares_108, e_Chooser_listSquares_111, bd_some, bd_none, Option.toList_some, Option.toList_none, List.nil_append, List.cons_append, px_kill_int, px_kill_long, px_kill_ref, px_kill_null, iI_lit, iJ_lit, iI_add, iI_sub, iI_mul, iI_neg, iJ_add, iJ_sub, iJ_mul, iJ_neg, iI_lt, iI_le, iI_eq, iJ_lt, iJ_le, iJ_eq, iI_div, iJ_div, tdiv_tmod, iI_J, iJ_I, iI_ix, iI_toInt, iJ_toInt, cmp_ge, cmp_lt, cmp_eq, cmp_gt, cmp_le, cmp_geI, cmp_ltI, cmp_eqI, cmp_gtI, cmp_leI, bI_0I, bI_1I, pin, if_true]
    rw [show (a : Int) + 1 = ((a + 1 : Nat) : Int) by omega]
    exact e2

set_option maxHeartbeats 1000000 in
theorem lp_msqC {lo hi : Int} (hhi : -1000 ≤ hi ∧ hi ≤ 144) : ∀ (t c : Nat) (l : List (Nat × Nat)) (T : TS), c ≤ 145 → (t = 0 ∧ hi < c ∨ (c : Int) + t = hi + 1) → hSq T 68 69 l → T.1 53 44 = iI (l.length : Int) → (sqC l c t).length ≤ 156 → ∀ a4 a5 : Value, ∃ T', rn k_Dm_laysSquares 7 [.ref 53, .int (iI lo), .int (iI hi), .int (iI (c : Int)), a4, a5] [] (enc T) = some (none, enc T') ∧ FrI aSqM T T' ∧ hSq T' 68 69 (sqC l c t) ∧ T'.1 53 44 = iI ((sqC l c t).length : Int) := by
  intro t
  induction t with
  | zero =>
    intro c l T hc hct h1 h2 hN a4 a5
    have hlt : hi < (c : Int) := by omega
    refine ⟨T, ?_, FrI.rf _ _, h1, h2⟩
    rw [e_Dm_laysSquares_7]
    simp (disch := first | omega | assumption | decide | (simp (disch := omega) only [iI_lit, iJ_lit, iJ_eq, iI_eq, bI_01, bI_01I] <;> omega)) only [e_Dm_laysSquares_8, e_Dm_laysSquares_9, e_Dm_laysSquares_12, e_Dm_laysSquares_13, e_Dm_laysSquares_97, bd_some, bd_none, Option.toList_some, Option.toList_none, List.nil_append, List.cons_append, px_kill_int, px_kill_long, px_kill_ref, px_kill_null, iI_lit, iJ_lit, iI_add, iI_sub, iI_mul, iI_neg, iJ_add, iJ_sub, iJ_mul, iJ_neg, iI_lt, iI_le, iI_eq, iJ_lt, iJ_le, iJ_eq, iI_div, iJ_div, tdiv_tmod, iI_J, iJ_I, iI_ix, iI_toInt, iJ_toInt, cmp_ge, cmp_lt, cmp_eq, cmp_gt, cmp_le, cmp_geI, cmp_ltI, cmp_eqI, cmp_gtI, cmp_leI, bI_0I, bI_1I, pin, if_true, hlt]
  | succ t ih =>
    intro c l T hc hct h1 h2 hN a4 a5
    have hlt : ¬ hi < (c : Int) := by omega
    have hN' : (sqC (sqA c l 1 12) (c + 1) t).length ≤ 156 := hN
    obtain ⟨T1, b5, e1, fr1, h3, h4⟩ := lp_msqA (c := c) (by omega) (iI lo) (iI hi) 12 1 l T (by omega) (by omega) h1 h2 (Nat.le_trans (sqC_mono t (c + 1) _) hN') a5
    obtain ⟨T2, e2, fr2, h5, h6⟩ := ih (c + 1) (sqA c l 1 12) T1 (by omega) (by omega) h3 h4 hN' (.int (iI 13)) b5
    refine ⟨T2, ?_, fr1.tr fr2, h5, h6⟩
    rw [e_Dm_laysSquares_7]
    simp (disch := first | omega | assumption | decide | (simp (disch := omega) only [iI_lit, iJ_lit, iJ_eq, iI_eq, bI_01, bI_01I] <;> omega)) only [e_Dm_laysSquares_8, e_Dm_laysSquares_9, e_Dm_laysSquares_12, e_Dm_laysSquares_13, bd_some, bd_none, Option.toList_some, Option.toList_none, List.nil_append, List.cons_append, px_kill_int, px_kill_long, px_kill_ref, px_kill_null, iI_lit, iJ_lit, iI_add, iI_sub, iI_mul, iI_neg, iJ_add, iJ_sub, iJ_mul, iJ_neg, iI_lt, iI_le, iI_eq, iJ_lt, iJ_le, iJ_eq, iI_div, iJ_div, tdiv_tmod, iI_J, iJ_I, iI_ix, iI_toInt, iJ_toInt, cmp_ge, cmp_lt, cmp_eq, cmp_gt, cmp_le, cmp_geI, cmp_ltI, cmp_eqI, cmp_gtI, cmp_leI, bI_0I, bI_1I, pin, if_true, hlt, if_false]
    refine Eq.trans e1 ?_
    simp (disch := first | omega | assumption | decide | (simp (disch := omega) only [iI_lit, iJ_lit, iJ_eq, iI_eq, bI_01, bI_01I] <;> omega)) only [e_Dm_laysSquares_91, e_Dm_laysSquares_94, bd_some, bd_none, Option.toList_some, Option.toList_none, List.nil_append, List.cons_append, px_kill_int, px_kill_long, px_kill_ref, px_kill_null, iI_lit, iJ_lit, iI_add, iI_sub, iI_mul, iI_neg, iJ_add, iJ_sub, iJ_mul, iJ_neg, iI_lt, iI_le, iI_eq, iJ_lt, iJ_le, iJ_eq, iI_div, iJ_div, tdiv_tmod, iI_J, iJ_I, iI_ix, iI_toInt, iJ_toInt, cmp_ge, cmp_lt, cmp_eq, cmp_gt, cmp_le, cmp_geI, cmp_ltI, cmp_eqI, cmp_gtI, cmp_leI, bI_0I, bI_1I, pin, if_true]
    rw [show (c : Int) + 1 = ((c + 1 : Nat) : Int) by omega]
    exact e2
set_option maxHeartbeats 1000000 in
theorem lp_csqC {lo hi : Int} (hhi : -1000 ≤ hi ∧ hi ≤ 144) : ∀ (t c : Nat) (l : List (Nat × Nat)) (T : TS), c ≤ 145 → (t = 0 ∧ hi < c ∨ (c : Int) + t = hi + 1) → hSq T 16 17 l → T.1 15 2 = iI (l.length : Int) → (sqC l c t).length ≤ 20 → ∀ a4 a5 : Value, ∃ T', rn k_Chooser_listSquares 7 [.ref 15, .int (iI lo), .int (iI hi), .int (iI (c : Int)), a4, a5] [] (enc T) = some (none, enc T') ∧ FrI aSqC T T' ∧ hSq T' 16 17 (sqC l c t) ∧ T'.1 15 2 = iI ((sqC l c t).length : Int) := by
  intro t
  induction t with
  | zero =>
    intro c l T hc hct h1 h2 hN a4 a5
    have hlt : hi < (c : Int) := by omega
    refine ⟨T, ?_, FrI.rf _ _, h1, h2⟩
    rw [e_Chooser_listSquares_7]
    simp (disch := first | omega | assumption | decide | (simp (disch := omega) only [iI_lit, iJ_lit, iJ_eq, iI_eq, bI_01, bI_01I] <;> omega)) only [e_Chooser_listSquares_8, e_Chooser_listSquares_9, e_Chooser_listSquares_12, e_Chooser_listSquares_13, e_Chooser_listSquares_16, e_Chooser_listSquares_19, e_Chooser_listSquares_20, e_Chooser_listSquares_120, bd_some, bd_none, Option.toList_some, Option.toList_none, List.nil_append, List.cons_append, px_kill_int, px_kill_long, px_kill_ref, px_kill_null, iI_lit, iJ_lit, iI_add, iI_sub, iI_mul, iI_neg, iJ_add, iJ_sub, iJ_mul, iJ_neg, iI_lt, iI_le, iI_eq, iJ_lt, iJ_le, iJ_eq, iI_div, iJ_div, tdiv_tmod, iI_J, iJ_I, iI_ix, iI_toInt, iJ_toInt, cmp_ge, cmp_lt, cmp_eq, cmp_gt, cmp_le, cmp_geI, cmp_ltI, cmp_eqI, cmp_gtI, cmp_leI, bI_0I, bI_1I, pin, if_true, hlt]
  | succ t ih =>
    intro c l T hc hct h1 h2 hN a4 a5
    have hlt : ¬ hi < (c : Int) := by omega
    have h144 : ¬ (144 : Int) < (c : Int) := by omega
    have hN' : (sqC (sqA c l 1 12) (c + 1) t).length ≤ 20 := hN
    obtain ⟨T1, b5, e1, fr1, h3, h4⟩ := lp_csqA (c := c) (by omega) (iI lo) (iI hi) 12 1 l T (by omega) (by omega) h1 h2 (Nat.le_trans (sqC_mono t (c + 1) _) hN') a5
    obtain ⟨T2, e2, fr2, h5, h6⟩ := ih (c + 1) (sqA c l 1 12) T1 (by omega) (by omega) h3 h4 hN' (.int (iI 13)) b5
    refine ⟨T2, ?_, fr1.tr fr2, h5, h6⟩
    rw [e_Chooser_listSquares_7]
    simp (disch := first | omega | assumption | decide | (simp (disch := omega) only [iI_lit, iJ_lit, iJ_eq, iI_eq, bI_01, bI_01I] <;> omega)) only [e_Chooser_listSquares_8, e_Chooser_listSquares_9, e_Chooser_listSquares_12, e_Chooser_listSquares_13, e_Chooser_listSquares_16, e_Chooser_listSquares_19, e_Chooser_listSquares_20, bd_some, bd_none, Option.toList_some, Option.toList_none, List.nil_append, List.cons_append, px_kill_int, px_kill_long, px_kill_ref, px_kill_null, iI_lit, iJ_lit, iI_add, iI_sub, iI_mul, iI_neg, iJ_add, iJ_sub, iJ_mul, iJ_neg, iI_lt, iI_le, iI_eq, iJ_lt, iJ_le, iJ_eq, iI_div, iJ_div, tdiv_tmod, iI_J, iJ_I, iI_ix, iI_toInt, iJ_toInt, cmp_ge, cmp_lt, cmp_eq, cmp_gt, cmp_le, cmp_geI, cmp_ltI, cmp_eqI, cmp_gtI, cmp_leI, bI_0I, bI_1I, pin, if_true, hlt, h144, if_false]
    refine Eq.trans e1 ?_
    simp (disch := first | omega | assumption | decide | (simp (disch := omega) only [iI_lit, iJ_lit, iJ_eq, iI_eq, bI_01, bI_01I] <;> omega)) only [e_Chooser_listSquares_114, e_Chooser_listSquares_117, bd_some, bd_none, Option.toList_some, Option.toList_none, List.nil_append, List.cons_append, px_kill_int, px_kill_long, px_kill_ref, px_kill_null, iI_lit, iJ_lit, iI_add, iI_sub, iI_mul, iI_neg, iJ_add, iJ_sub, iJ_mul, iJ_neg, iI_lt, iI_le, iI_eq, iJ_lt, iJ_le, iJ_eq, iI_div, iJ_div, tdiv_tmod, iI_J, iJ_I, iI_ix, iI_toInt, iJ_toInt, cmp_ge, cmp_lt, cmp_eq, cmp_gt, cmp_le, cmp_geI, cmp_ltI, cmp_eqI, cmp_gtI, cmp_leI, bI_0I, bI_1I, pin, if_true]
    rw [show (c : Int) + 1 = ((c + 1 : Nat) : Int) by omega]
    exact e2
/-- the squares of cells lo to hi -/
def sqL (lo hi : Int) : List (Nat × Nat) := sqC [] lo.toNat (hi + 1 - lo).toNat
theorem sqL_20 {lo hi : Int} (h1 : 1 ≤ lo ∧ lo ≤ 144) (h2 : 1 ≤ hi ∧ hi ≤ 144) (h3 : hi - lo ≤ 20) : (sqL lo hi).length ≤ 20 := by
  by_cases c : hi < lo
  · have : (hi + 1 - lo).toNat = 0 := by omega
    unfold sqL
    rw [this]
    exact Nat.zero_le _
  · exact sqC_le20 (by omega) (by omega)
theorem sqL_ok {lo hi : Int} (h1 : 1 ≤ lo ∧ lo ≤ 144) (h2 : 1 ≤ hi ∧ hi ≤ 144) : okQ (sqL lo hi) := by
  unfold sqL
  by_cases c : hi < lo
  · have : (hi + 1 - lo).toNat = 0 := by omega
    rw [this]
    intro q hq
    cases hq
  · exact sqC_ok _ _ _ (by omega) (fun q hq => by cases hq)
theorem m_squares {lo hi : Int} (h1 : 1 ≤ lo ∧ lo ≤ 144) (h2 : 1 ≤ hi ∧ hi ≤ 144) (h3 : hi - lo ≤ 20) (T : TS) : ∃ T', cl k_Dm_laysSquares [.ref 53, .int (iI lo), .int (iI hi)] (enc T) = some (none, enc T') ∧ FrM T T' ∧ hSq T' 68 69 (sqL lo hi) ∧ T'.1 53 44 = iI ((sqL lo hi).length : Int) := by
  have fr0 : FrI aSqM T (sI T 53 44 (iI 0)) := (FrI.rf aSqM T).wr _ (Or.inr (Or.inr ⟨rfl, rfl⟩))
  obtain ⟨T', e, fr, h4, h5⟩ := lp_msqC (lo := lo) (hi := hi) (by omega) (hi + 1 - lo).toNat lo.toNat [] (sI T 53 44 (iI 0)) (by omega) (by omega) (fun k hk => by cases hk) (by simp only [sI_get, sJ_get, sI_2, sJ_1, sJ_22, sR_1, sR_21, Nat.reduceEqDiff, and_true, true_and, and_false, false_and, and_self, if_true, if_false, reduceIte]; rfl) (Nat.le_trans (sqL_20 h1 h2 h3) (by omega)) .null .null
  refine ⟨T', ?_, FrM.of (fr0.tr fr) (fun q k z => by unfold aSqM at z; unfold aRef; omega), h4, h5⟩
  rw [show ((lo.toNat : Nat) : Int) = lo by omega] at e
  simp (disch := first | omega | assumption | decide | (simp (disch := omega) only [iI_lit, iJ_lit, iJ_eq, iI_eq, bI_01, bI_01I] <;> omega)) only [c_Dm_laysSquares, e_Dm_laysSquares_0, e_Dm_laysSquares_1, e_Dm_laysSquares_2, e_Dm_laysSquares_5, e_Dm_laysSquares_6, bd_some, bd_none, Option.toList_some, Option.toList_none, List.nil_append, List.cons_append, px_kill_int, px_kill_long, px_kill_ref, px_kill_null, iI_lit, iJ_lit, iI_add, iI_sub, iI_mul, iI_neg, iJ_add, iJ_sub, iJ_mul, iJ_neg, iI_lt, iI_le, iI_eq, iJ_lt, iJ_le, iJ_eq, iI_div, iJ_div, tdiv_tmod, iI_J, iJ_I, iI_ix, iI_toInt, iJ_toInt, cmp_ge, cmp_lt, cmp_eq, cmp_gt, cmp_le, cmp_geI, cmp_ltI, cmp_eqI, cmp_gtI, cmp_leI, bI_0I, bI_1I, pin, if_true]
  exact e
theorem c_squares {lo hi : Int} (h1 : 1 ≤ lo ∧ lo ≤ 144) (h2 : 1 ≤ hi ∧ hi ≤ 144) (h3 : hi - lo ≤ 20) (T : TS) : ∃ T', cl k_Chooser_listSquares [.ref 15, .int (iI lo), .int (iI hi)] (enc T) = some (none, enc T') ∧ FrI aSqC T T' ∧ hSq T' 16 17 (sqL lo hi) ∧ T'.1 15 2 = iI ((sqL lo hi).length : Int) := by
  have fr0 : FrI aSqC T (sI T 15 2 (iI 0)) := (FrI.rf aSqC T).wr _ (Or.inr (Or.inr ⟨rfl, rfl⟩))
  obtain ⟨T', e, fr, h4, h5⟩ := lp_csqC (lo := lo) (hi := hi) (by omega) (hi + 1 - lo).toNat lo.toNat [] (sI T 15 2 (iI 0)) (by omega) (by omega) (fun k hk => by cases hk) (by simp only [sI_get, sJ_get, sI_2, sJ_1, sJ_22, sR_1, sR_21, Nat.reduceEqDiff, and_true, true_and, and_false, false_and, and_self, if_true, if_false, reduceIte]; rfl) (sqL_20 h1 h2 h3) .null .null
  refine ⟨T', ?_, fr0.tr fr, h4, h5⟩
  rw [show ((lo.toNat : Nat) : Int) = lo by omega] at e
  simp (disch := first | omega | assumption | decide | (simp (disch := omega) only [iI_lit, iJ_lit, iJ_eq, iI_eq, bI_01, bI_01I] <;> omega)) only [c_Chooser_listSquares, e_Chooser_listSquares_0, e_Chooser_listSquares_1, e_Chooser_listSquares_2, e_Chooser_listSquares_5, e_Chooser_listSquares_6, bd_some, bd_none, Option.toList_some, Option.toList_none, List.nil_append, List.cons_append, px_kill_int, px_kill_long, px_kill_ref, px_kill_null, iI_lit, iJ_lit, iI_add, iI_sub, iI_mul, iI_neg, iJ_add, iJ_sub, iJ_mul, iJ_neg, iI_lt, iI_le, iI_eq, iJ_lt, iJ_le, iJ_eq, iI_div, iJ_div, tdiv_tmod, iI_J, iJ_I, iI_ix, iI_toInt, iJ_toInt, cmp_ge, cmp_lt, cmp_eq, cmp_gt, cmp_le, cmp_geI, cmp_ltI, cmp_eqI, cmp_gtI, cmp_leI, bI_0I, bI_1I, pin, if_true]
  exact e
