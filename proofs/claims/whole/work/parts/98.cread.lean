/-! the component's clauses and the whole text read. -/
abbrev CL : Type := Nat → Int
def bas (x : Q4) : CL := fun k => if k = 0 then x.1 else if k = 1 then x.2.1 else if k = 2 then x.2.2.1 else if k = 3 then x.2.2.2 else if k = 5 then 50 else 0
def pcl (t : TP) (k c : Nat) : Nat ⊕ (CL × Nat) := if sg t k = 115 ∧ c < 4 then (match pscr t (SK t (k + 1)) with
  | .inl e => .inl e
  | .inr x => plet t 4 (SK t x.2) 0 (bas x.1)) else .inl k
def pall (t : TP) : Nat → Nat → List CL → Nat ⊕ List CL
  | 0, _, l => .inr l
  | n + 1, k, l => match pcl t k l.length with
    | .inl e => .inl e
    | .inr x => if sg t x.2 = 59 then pall t n (SK t (x.2 + 1)) (l ++ [x.1]) else .inr (l ++ [x.1])
theorem pall_s (t : TP) (n k : Nat) (l : List CL) : pall t (n + 1) k l = match pcl t k l.length with
    | .inl e => .inl e
    | .inr x => if sg t x.2 = 59 then pall t n (SK t (x.2 + 1)) (l ++ [x.1]) else .inr (l ++ [x.1]) := rfl
def prs (t : TP) : Nat ⊕ List CL := if sg t (SK t 0) = -1 then .inr [] else pall t 5 (SK t 0) []
theorem plet_bd {t : TP} (ht : okTp t) : ∀ (n k h : Nat) (f : Nat → Int), 4 ≤ cB h + n → h < 8 → k ≤ t.1 → okL f → (∀ e, plet t n k h f = .inl e → e ≤ t.1) ∧ ∀ x, plet t n k h f = .inr x → x.2 ≤ t.1 ∧ okL x.1 ∧ (sg t x.2 = -1 ∨ sg t x.2 = 59) := by
  intro n
  induction n with
  | zero => intro k h f hn hh; exfalso; unfold cB at hn; omega
  | succ n ih =>
    intro k h f hn hh hk hf
    rw [plet_s]
    by_cases c : sg t k = -1 ∨ sg t k = 59
    · rw [if_pos c]
      refine ⟨fun e he => (by cases he), fun x hx => ?_⟩
      cases hx
      exact ⟨hk, hf, c⟩
    · rw [if_neg c]
      have hlt := sg_lt (t := t) (k := k) (fun z => c (Or.inl z))
      obtain ⟨a1, a2⟩ := plS_bd ht hh hlt hf
      generalize plS t k h f = P at *
      cases P with
      | inl e => exact ⟨fun e' he => by cases he; exact a1 e rfl, fun x hx => by cases hx⟩
      | inr y =>
        obtain ⟨b1, b2, b3, b4, b5⟩ := a2 y rfl
        exact ih y.1 y.2.1 y.2.2 (by omega) b2 b1 b4
theorem bas_ok {x : Q4} (h : okQ4 x) : okL (bas x) := ⟨h, ⟨by show (0 : Int) ≤ 0; omega, by show (0 : Int) ≤ 2; omega⟩, ⟨by show (0 : Int) ≤ 50; omega, by show (50 : Int) ≤ 100; omega⟩, ⟨by show (-99 : Int) ≤ 0; omega, by show (0 : Int) ≤ 99; omega⟩, ⟨by show (-99 : Int) ≤ 0; omega, by show (0 : Int) ≤ 99; omega⟩⟩
theorem pcl_bd {t : TP} (ht : okTp t) {k c : Nat} (hk : k ≤ t.1) : (∀ e, pcl t k c = .inl e → e ≤ t.1) ∧ ∀ x, pcl t k c = .inr x → x.2 ≤ t.1 ∧ okL x.1 ∧ (sg t x.2 = -1 ∨ sg t x.2 = 59) ∧ c < 4 := by
  unfold pcl
  by_cases c0 : sg t k = 115 ∧ c < 4
  · rw [if_pos c0]
    have hlt := sg_lt (t := t) (k := k) (by omega)
    have hs := SK_le ht (k + 1)
    obtain ⟨a1, a2⟩ := pscr_bd ht (k := SK t (k + 1)) (hs.2 (by omega))
    generalize pscr t (SK t (k + 1)) = P at *
    cases P with
    | inl e => exact ⟨fun e' he => by cases he; exact a1 e rfl, fun x hx => by cases hx⟩
    | inr x =>
      obtain ⟨b1, b2, b3⟩ := a2 x rfl
      obtain ⟨d1, d2⟩ := plet_bd ht 4 (SK t x.2) 0 (bas x.1) (by unfold cB; omega) (by omega) ((SK_le ht x.2).2 b2) (bas_ok b3)
      exact ⟨d1, fun y hy => ⟨(d2 y hy).1, (d2 y hy).2.1, (d2 y hy).2.2, c0.2⟩⟩
  · rw [if_neg c0]
    exact ⟨fun e' he => by cases he; exact hk, fun x hx => by cases hx⟩
theorem pall_bd {t : TP} (ht : okTp t) : ∀ (n k : Nat) (l : List CL), n + l.length = 5 → l.length ≤ 4 → k ≤ t.1 → (∀ f, f ∈ l → okL f) → (∀ e, pall t n k l = .inl e → e ≤ t.1) ∧ ∀ l', pall t n k l = .inr l' → l'.length ≤ 4 ∧ ∀ f, f ∈ l' → okL f := by
  intro n
  induction n with
  | zero => intro k l hn hl; omega
  | succ n ih =>
    intro k l hn hl hk hf
    rw [pall_s]
    obtain ⟨a1, a2⟩ := pcl_bd ht (k := k) (c := l.length) hk
    generalize pcl t k l.length = P at *
    cases P with
    | inl e => exact ⟨fun e' he => by cases he; exact a1 e rfl, fun x hx => by cases hx⟩
    | inr x =>
      obtain ⟨b1, b2, b3, b4⟩ := a2 x rfl
      have hlen : (l ++ [x.1]).length = l.length + 1 := by simp
      have hf' : ∀ f, f ∈ l ++ [x.1] → okL f := by
        intro f hm
        rcases List.mem_append.mp hm with z | z
        · exact hf f z
        · have : f = x.1 := by simpa using z
          subst this
          exact b2
      simp only
      by_cases c : sg t x.2 = 59
      · rw [if_pos c]
        have hlt := sg_lt (t := t) (k := x.2) (by omega)
        exact ih (SK t (x.2 + 1)) (l ++ [x.1]) (by omega) (by omega) ((SK_le ht _).2 (by omega)) hf'
      · rw [if_neg c]
        refine ⟨fun e he => (by cases he), fun l' hl' => ?_⟩
        cases hl'
        exact ⟨by omega, hf'⟩
theorem prs_bd {t : TP} (ht : okTp t) : (∀ e, prs t = .inl e → e ≤ t.1) ∧ ∀ l, prs t = .inr l → l.length ≤ 4 ∧ ∀ f, f ∈ l → okL f := by
  unfold prs
  split
  · refine ⟨fun e he => (by cases he), fun l' hl' => ?_⟩
    cases hl'
    exact ⟨Nat.zero_le _, fun f hf => by cases hf⟩
  · exact pall_bd ht 5 (SK t 0) [] rfl (Nat.zero_le _) ((SK_le ht 0).2 (by omega)) (fun f hf => by cases hf)
/-! the component -/
def aCk (c q k : Nat) : Prop := (q = 3 ∧ (k = 2 ∨ k = 3 ∨ k = 4 ∨ k = 6)) ∨ (q = 4 ∧ 8 * c ≤ k ∧ k < 8 * c + 8)
theorem aLt_ck {c q k : Nat} (h : aLt c q k) : aCk c q k := by unfold aLt at h; unfold aCk; omega
set_option maxHeartbeats 2000000 in
theorem lp_lets {t : TP} (ht : okTp t) {c : Nat} (hc : c < 4) : ∀ (n k h i : Nat) (f : Nat → Int) (T : TS), 4 ≤ cB h + n → h < 8 → i + n ≤ 10 → k ≤ t.1 → okL f → hTp T t → pAt T t k → T.1 3 4 = iI (c : Int) → T.1 3 6 = iI (16 * (h : Int)) → hPt T c f → (∀ e, plet t n k h f = .inl e → ∃ T', rn k_Reader_readClause 73 [.ref 3, .int (iI (i : Int))] [] (enc T) = some (some (.int (iI 0)), enc T') ∧ FrI aFl T T' ∧ T'.1 3 5 = iI (e : Int)) ∧ (∀ x, plet t n k h f = .inr x → ∃ T', rn k_Reader_readClause 73 [.ref 3, .int (iI (i : Int))] [] (enc T) = some (some (.int (iI 1)), enc T') ∧ FrI (aCk c) T T' ∧ pAt T' t x.2 ∧ T'.1 3 4 = iI ((c + 1 : Nat) : Int) ∧ hPt T' c x.1) := by
  intro n
  induction n with
  | zero => intro k h i f T hn hh; exfalso; unfold cB at hn; omega
  | succ n ih =>
    intro k h i f T hn hh hi hk hf hT hp hC hH hP
    obtain ⟨r1, r2⟩ := id hp
    have bs := sg_bd ht k
    have c160 : ¬ (160 : Int) ≤ (i : Int) := by omega
    rw [plet_s]
    by_cases cc : sg t k = -1 ∨ sg t k = 59
    · rw [if_pos cc]
      refine ⟨fun e he => (by cases he), fun x hx => ?_⟩
      cases hx
      refine ⟨sI T 3 4 (iI ((c : Int) + 1)), ?_, (FrI.rf _ T).wr _ (Or.inl ⟨rfl, by omega⟩), ?_, ?_, ?_⟩
      · rw [e_Reader_readClause_73]
        rcases cc with cc | cc
        · rw [cc] at r2
          simp (disch := first | omega | assumption | decide | (simp (disch := omega) only [iI_lit, iJ_lit, iJ_eq, iI_eq, bI_01, bI_01I] <;> omega)) only [e_Reader_readClause_74, e_Reader_readClause_77, e_Reader_readClause_80, e_Reader_readClause_81, e_Reader_readClause_84, e_Reader_readClause_85, e_Reader_readClause_88, e_Reader_readClause_89, e_Reader_readClause_92, e_Reader_readClause_94, e_Reader_readClause_97, e_Reader_readClause_98, e_Reader_readClause_101, e_Reader_readClause_104, e_Reader_readClause_105, e_Reader_readClause_106, e_Reader_readClause_109, e_Reader_readClause_112, e_Reader_readClause_113, e_Reader_readClause_114, e_Reader_readClause_117, e_Reader_readClause_118, e_Reader_readClause_119, e_Reader_readClause_122, e_Reader_readClause_123, bd_some, bd_none, Option.toList_some, Option.toList_none, List.nil_append, List.cons_append, px_kill_int, px_kill_long, px_kill_ref, px_kill_null, iI_lit, iJ_lit, iI_add, iI_sub, iI_mul, iI_neg, iJ_add, iJ_sub, iJ_mul, iJ_neg, iI_lt, iI_le, iI_eq, iJ_lt, iJ_le, iJ_eq, iI_div, iJ_div, tdiv_tmod, iI_J, iJ_I, iI_ix, iI_toInt, iJ_toInt, cmp_ge, cmp_lt, cmp_eq, cmp_gt, cmp_le, cmp_geI, cmp_ltI, cmp_eqI, cmp_gtI, cmp_leI, bI_0I, bI_1I, pin, if_true, c160, if_false, sh_n3, r2, hC]
        · rw [cc] at r2
          have n59 : ¬ (59 : Int) = -1 := by omega
          simp (disch := first | omega | assumption | decide | (simp (disch := omega) only [iI_lit, iJ_lit, iJ_eq, iI_eq, bI_01, bI_01I] <;> omega)) only [e_Reader_readClause_74, e_Reader_readClause_77, e_Reader_readClause_80, e_Reader_readClause_81, e_Reader_readClause_84, e_Reader_readClause_85, e_Reader_readClause_88, e_Reader_readClause_89, e_Reader_readClause_92, e_Reader_readClause_94, e_Reader_readClause_97, e_Reader_readClause_98, e_Reader_readClause_101, e_Reader_readClause_104, e_Reader_readClause_105, e_Reader_readClause_106, e_Reader_readClause_109, e_Reader_readClause_112, e_Reader_readClause_113, e_Reader_readClause_114, e_Reader_readClause_117, e_Reader_readClause_118, e_Reader_readClause_119, e_Reader_readClause_122, e_Reader_readClause_123, bd_some, bd_none, Option.toList_some, Option.toList_none, List.nil_append, List.cons_append, px_kill_int, px_kill_long, px_kill_ref, px_kill_null, iI_lit, iJ_lit, iI_add, iI_sub, iI_mul, iI_neg, iJ_add, iJ_sub, iJ_mul, iJ_neg, iI_lt, iI_le, iI_eq, iJ_lt, iJ_le, iJ_eq, iI_div, iJ_div, tdiv_tmod, iI_J, iJ_I, iI_ix, iI_toInt, iJ_toInt, cmp_ge, cmp_lt, cmp_eq, cmp_gt, cmp_le, cmp_geI, cmp_ltI, cmp_eqI, cmp_gtI, cmp_leI, bI_0I, bI_1I, pin, if_true, c160, if_false, sh_n3, r2, n59, hC]
      · exact ⟨by simp only [sI_get, sJ_get, sI_2, sJ_1, sJ_22, sR_1, sR_21, Nat.reduceEqDiff, and_true, true_and, and_false, false_and, and_self, if_true, if_false, reduceIte]; exact r1, by simp only [sI_get, sJ_get, sI_2, sJ_1, sJ_22, sR_1, sR_21, Nat.reduceEqDiff, and_true, true_and, and_false, false_and, and_self, if_true, if_false, reduceIte]; exact r2⟩
      · rw [show ((c + 1 : Nat) : Int) = (c : Int) + 1 by omega]; simp only [sI_get, sJ_get, sI_2, sJ_1, sJ_22, sR_1, sR_21, Nat.reduceEqDiff, and_true, true_and, and_false, false_and, and_self, if_true, if_false, reduceIte]
      · intro q hq; rw [wr_ne _ _ (by omega)]; exact hP q hq
    · rw [if_neg cc]
      have n1 : ¬ sg t k = -1 := fun z => cc (Or.inl z)
      have n59 : ¬ sg t k = 59 := fun z => cc (Or.inr z)
      have hlt := sg_lt (t := t) (k := k) n1
      obtain ⟨a1, a2⟩ := plS_bd ht hh hlt hf
      obtain ⟨l1, l2⟩ := c_letter ht hT hlt hp hc hC hh hH hP
      generalize plS t k h f = P at *
      cases P with
      | inl e =>
        refine ⟨fun e' he => ?_, fun x hx => by cases hx⟩
        cases he
        obtain ⟨T1, e1, f1, g1⟩ := l1 e rfl
        refine ⟨T1, ?_, f1, g1⟩
        rw [e_Reader_readClause_73]
        simp (disch := first | omega | assumption | decide | (simp (disch := omega) only [iI_lit, iJ_lit, iJ_eq, iI_eq, bI_01, bI_01I] <;> omega)) only [e_Reader_readClause_74, e_Reader_readClause_77, e_Reader_readClause_80, e_Reader_readClause_81, e_Reader_readClause_84, e_Reader_readClause_85, e_Reader_readClause_88, e_Reader_readClause_89, e_Reader_readClause_92, e_Reader_readClause_94, e_Reader_readClause_97, e_Reader_readClause_98, e_Reader_readClause_101, e_Reader_readClause_104, e_Reader_readClause_105, e_Reader_readClause_106, e_Reader_readClause_109, bd_some, bd_none, Option.toList_some, Option.toList_none, List.nil_append, List.cons_append, px_kill_int, px_kill_long, px_kill_ref, px_kill_null, iI_lit, iJ_lit, iI_add, iI_sub, iI_mul, iI_neg, iJ_add, iJ_sub, iJ_mul, iJ_neg, iI_lt, iI_le, iI_eq, iJ_lt, iJ_le, iJ_eq, iI_div, iJ_div, tdiv_tmod, iI_J, iJ_I, iI_ix, iI_toInt, iJ_toInt, cmp_ge, cmp_lt, cmp_eq, cmp_gt, cmp_le, cmp_geI, cmp_ltI, cmp_eqI, cmp_gtI, cmp_leI, bI_0I, bI_1I, pin, if_true, c160, if_false, sh_n3, r2, n1, n59, e1]
      | inr y =>
        obtain ⟨b1, b2, b3, b4, b5⟩ := a2 y rfl
        obtain ⟨T1, e1, f1, p1, h1, hP1⟩ := l2 y rfl
        have hC1 : T1.1 3 4 = iI (c : Int) := by rw [f1.1 _ _ (by unfold aLt; omega)]; exact hC
        obtain ⟨i1, i2⟩ := ih y.1 y.2.1 (i + 1) y.2.2 T1 (by omega) b2 (by omega) b1 b4 (hT.fr f1 (fun q k z => aLt_34 z)) p1 hC1 h1 hP1
        have step : rn k_Reader_readClause 73 [.ref 3, .int (iI (i : Int))] [] (enc T) = rn k_Reader_readClause 73 [.ref 3, .int (iI ((i + 1 : Nat) : Int))] [] (enc T1) := by
          rw [show ((i + 1 : Nat) : Int) = (i : Int) + 1 by omega, e_Reader_readClause_73]
          simp (disch := first | omega | assumption | decide | (simp (disch := omega) only [iI_lit, iJ_lit, iJ_eq, iI_eq, bI_01, bI_01I] <;> omega)) only [e_Reader_readClause_74, e_Reader_readClause_77, e_Reader_readClause_80, e_Reader_readClause_81, e_Reader_readClause_84, e_Reader_readClause_85, e_Reader_readClause_88, e_Reader_readClause_89, e_Reader_readClause_92, e_Reader_readClause_94, e_Reader_readClause_97, e_Reader_readClause_98, e_Reader_readClause_101, e_Reader_readClause_104, e_Reader_readClause_105, e_Reader_readClause_106, e_Reader_readClause_109, bd_some, bd_none, Option.toList_some, Option.toList_none, List.nil_append, List.cons_append, px_kill_int, px_kill_long, px_kill_ref, px_kill_null, iI_lit, iJ_lit, iI_add, iI_sub, iI_mul, iI_neg, iJ_add, iJ_sub, iJ_mul, iJ_neg, iI_lt, iI_le, iI_eq, iJ_lt, iJ_le, iJ_eq, iI_div, iJ_div, tdiv_tmod, iI_J, iJ_I, iI_ix, iI_toInt, iJ_toInt, cmp_ge, cmp_lt, cmp_eq, cmp_gt, cmp_le, cmp_geI, cmp_ltI, cmp_eqI, cmp_gtI, cmp_leI, bI_0I, bI_1I, pin, if_true, c160, if_false, sh_n3, r2, n1, n59, e1, one0]
        refine ⟨fun e he => ?_, fun x hx => ?_⟩
        · obtain ⟨T2, e2, f2, g2⟩ := i1 e he
          exact ⟨T2, step.trans e2, (f1.mono (fun q k z => aLt_fl z)).tr f2, g2⟩
        · obtain ⟨T2, e2, f2, p2, g2, g3⟩ := i2 x hx
          exact ⟨T2, step.trans e2, (f1.mono (fun q k z => aLt_ck z)).tr f2, p2, g2, g3⟩
set_option maxHeartbeats 4000000 in
theorem c_clause {T : TS} {t : TP} (ht : okTp t) (hT : hTp T t) {k : Nat} (hk : k ≤ t.1) (hp : pAt T t k) {c : Nat} (hc : c ≤ 4) (hC : T.1 3 4 = iI (c : Int)) : (∀ e, pcl t k c = .inl e → ∃ T', cl k_Reader_readClause [.ref 3] (enc T) = some (some (.int (iI 0)), enc T') ∧ FrI aFl T T' ∧ T'.1 3 5 = iI (e : Int)) ∧ (∀ x, pcl t k c = .inr x → ∃ T', cl k_Reader_readClause [.ref 3] (enc T) = some (some (.int (iI 1)), enc T') ∧ FrI (aCk c) T T' ∧ pAt T' t x.2 ∧ T'.1 3 4 = iI ((c + 1 : Nat) : Int) ∧ hPt T' c x.1) := by
  obtain ⟨r1, r2⟩ := id hp
  have bs := sg_bd ht k
  have hl := ht.1
  unfold pcl
  by_cases c0 : sg t k = 115 ∧ c < 4
  case neg =>
    rw [if_neg c0]
    refine ⟨fun e he => ?_, fun x hx => by cases hx⟩
    cases he
    have ef := c_failAt (T := T) (iI (k : Int))
    refine ⟨sI T 3 5 (iI (k : Int)), ?_, (FrI.rf aFl T).wr _ (by unfold aFl; omega), by simp only [sI_get, sJ_get, sI_2, sJ_1, sJ_22, sR_1, sR_21, Nat.reduceEqDiff, and_true, true_and, and_false, false_and, and_self, if_true, if_false, reduceIte]⟩
    by_cases c1 : sg t k = 115
    · have c2 : ¬ (c : Int) < 4 := by omega
      rw [c1] at r2
      simp (disch := first | omega | assumption | decide | (simp (disch := omega) only [iI_lit, iJ_lit, iJ_eq, iI_eq, bI_01, bI_01I] <;> omega)) only [c_Reader_readClause, e_Reader_readClause_0, e_Reader_readClause_1, e_Reader_readClause_4, e_Reader_readClause_6, e_Reader_readClause_9, e_Reader_readClause_10, e_Reader_readClause_13, e_Reader_readClause_14, e_Reader_readClause_17, e_Reader_readClause_18, e_Reader_readClause_19, e_Reader_readClause_22, e_Reader_readClause_25, e_Reader_readClause_26, e_Reader_readClause_27, e_Reader_readClause_30, e_Reader_readClause_31, e_Reader_readClause_34, e_Reader_readClause_37, e_Reader_readClause_38, e_Reader_readClause_39, e_Reader_readClause_40, e_Reader_readClause_41, e_Reader_readClause_44, e_Reader_readClause_45, e_Reader_readClause_46, e_Reader_readClause_47, e_Reader_readClause_50, e_Reader_readClause_51, e_Reader_readClause_52, e_Reader_readClause_54, e_Reader_readClause_57, e_Reader_readClause_58, e_Reader_readClause_60, e_Reader_readClause_61, e_Reader_readClause_64, e_Reader_readClause_65, e_Reader_readClause_67, e_Reader_readClause_68, e_Reader_readClause_71, e_Reader_readClause_72, bd_some, bd_none, Option.toList_some, Option.toList_none, List.nil_append, List.cons_append, px_kill_int, px_kill_long, px_kill_ref, px_kill_null, iI_lit, iJ_lit, iI_add, iI_sub, iI_mul, iI_neg, iJ_add, iJ_sub, iJ_mul, iJ_neg, iI_lt, iI_le, iI_eq, iJ_lt, iJ_le, iJ_eq, iI_div, iJ_div, tdiv_tmod, iI_J, iJ_I, iI_ix, iI_toInt, iJ_toInt, cmp_ge, cmp_lt, cmp_eq, cmp_gt, cmp_le, cmp_geI, cmp_ltI, cmp_eqI, cmp_gtI, cmp_leI, bI_0I, bI_1I, pin, if_true, sh_n3, r1, r2, hC, c2, if_false, ef]
    · simp (disch := first | omega | assumption | decide | (simp (disch := omega) only [iI_lit, iJ_lit, iJ_eq, iI_eq, bI_01, bI_01I] <;> omega)) only [c_Reader_readClause, e_Reader_readClause_0, e_Reader_readClause_1, e_Reader_readClause_4, e_Reader_readClause_6, e_Reader_readClause_9, e_Reader_readClause_10, e_Reader_readClause_13, e_Reader_readClause_14, e_Reader_readClause_17, e_Reader_readClause_18, e_Reader_readClause_19, e_Reader_readClause_22, e_Reader_readClause_25, e_Reader_readClause_26, e_Reader_readClause_27, e_Reader_readClause_30, e_Reader_readClause_31, e_Reader_readClause_34, e_Reader_readClause_37, e_Reader_readClause_38, e_Reader_readClause_39, e_Reader_readClause_40, e_Reader_readClause_41, e_Reader_readClause_44, e_Reader_readClause_45, e_Reader_readClause_46, e_Reader_readClause_47, e_Reader_readClause_50, e_Reader_readClause_51, e_Reader_readClause_52, e_Reader_readClause_54, e_Reader_readClause_57, e_Reader_readClause_58, e_Reader_readClause_60, e_Reader_readClause_61, e_Reader_readClause_64, e_Reader_readClause_65, e_Reader_readClause_67, e_Reader_readClause_68, e_Reader_readClause_71, e_Reader_readClause_72, bd_some, bd_none, Option.toList_some, Option.toList_none, List.nil_append, List.cons_append, px_kill_int, px_kill_long, px_kill_ref, px_kill_null, iI_lit, iJ_lit, iI_add, iI_sub, iI_mul, iI_neg, iJ_add, iJ_sub, iJ_mul, iJ_neg, iI_lt, iI_le, iI_eq, iJ_lt, iJ_le, iJ_eq, iI_div, iJ_div, tdiv_tmod, iI_J, iJ_I, iI_ix, iI_toInt, iJ_toInt, cmp_ge, cmp_lt, cmp_eq, cmp_gt, cmp_le, cmp_geI, cmp_ltI, cmp_eqI, cmp_gtI, cmp_leI, bI_0I, bI_1I, pin, if_true, sh_n3, r1, r2, c1, if_false, ef]
  rw [if_pos c0]
  obtain ⟨c1, hc4⟩ := c0
  have c2 : (c : Int) < 4 := by omega
  rw [c1] at r2
  have hlt := sg_lt (t := t) (k := k) (by omega)
  have hs := SK_le ht (k + 1)
  obtain ⟨T1, e1, f1, p1⟩ := c_passN ht hT (k := k) (by omega) hp
  have hT1 := hT.fr f1 (fun q k z => Or.inl z.1)
  have hC1 : T1.1 3 4 = iI (c : Int) := by rw [f1.1 _ _ (by unfold aMv; omega)]; exact hC
  obtain ⟨n1, n2⟩ := c_screen ht hT1 (hs.2 (by omega)) p1 hc4 hC1
  obtain ⟨a1, a2⟩ := pscr_bd ht (k := SK t (k + 1)) (hs.2 (by omega))
  generalize pscr t (SK t (k + 1)) = P at *
  cases P with
  | inl e =>
    refine ⟨fun e' he => ?_, fun x hx => by cases hx⟩
    cases he
    obtain ⟨T2, e2, f2, g2⟩ := n1 e rfl
    refine ⟨T2, ?_, (f1.mono (fun q k z => aMv_fl z)).tr f2, g2⟩
    simp (disch := first | omega | assumption | decide | (simp (disch := omega) only [iI_lit, iJ_lit, iJ_eq, iI_eq, bI_01, bI_01I] <;> omega)) only [c_Reader_readClause, e_Reader_readClause_0, e_Reader_readClause_1, e_Reader_readClause_4, e_Reader_readClause_6, e_Reader_readClause_9, e_Reader_readClause_10, e_Reader_readClause_13, e_Reader_readClause_14, e_Reader_readClause_17, e_Reader_readClause_18, e_Reader_readClause_19, e_Reader_readClause_22, e_Reader_readClause_25, e_Reader_readClause_26, e_Reader_readClause_27, e_Reader_readClause_30, e_Reader_readClause_31, e_Reader_readClause_34, e_Reader_readClause_37, e_Reader_readClause_38, e_Reader_readClause_39, e_Reader_readClause_40, e_Reader_readClause_41, e_Reader_readClause_44, e_Reader_readClause_45, e_Reader_readClause_46, e_Reader_readClause_47, e_Reader_readClause_50, e_Reader_readClause_51, e_Reader_readClause_52, e_Reader_readClause_54, e_Reader_readClause_57, e_Reader_readClause_58, e_Reader_readClause_60, e_Reader_readClause_61, e_Reader_readClause_64, e_Reader_readClause_65, e_Reader_readClause_67, e_Reader_readClause_68, e_Reader_readClause_71, e_Reader_readClause_72, bd_some, bd_none, Option.toList_some, Option.toList_none, List.nil_append, List.cons_append, px_kill_int, px_kill_long, px_kill_ref, px_kill_null, iI_lit, iJ_lit, iI_add, iI_sub, iI_mul, iI_neg, iJ_add, iJ_sub, iJ_mul, iJ_neg, iI_lt, iI_le, iI_eq, iJ_lt, iJ_le, iJ_eq, iI_div, iJ_div, tdiv_tmod, iI_J, iJ_I, iI_ix, iI_toInt, iJ_toInt, cmp_ge, cmp_lt, cmp_eq, cmp_gt, cmp_le, cmp_geI, cmp_ltI, cmp_eqI, cmp_gtI, cmp_leI, bI_0I, bI_1I, pin, if_true, sh_n3, r2, hC, c2, e1, e2]
  | inr x =>
    obtain ⟨b1, b2, b3⟩ := a2 x rfl
    obtain ⟨T2, e2, f2, p2, v0, v1, v2, v3⟩ := n2 x rfl
    obtain ⟨T3, hT3⟩ : ∃ T3, T3 = sI T2 3 6 (iI 0) := ⟨_, rfl⟩
    have hC2 : T2.1 3 4 = iI (c : Int) := by rw [f2.1 _ _ (by unfold aSc aMv; omega)]; exact hC1
    have hC3 : T3.1 3 4 = iI (c : Int) := by rw [hT3, wr_ne _ _ (by omega)]; exact hC2
    have w4 : cl k_Reader_tell [.ref 3, .int (iI 4), .int (iI 0)] (enc T3) = some (none, enc (sI T3 4 (8 * c + 4) (iI 0))) := c_tell (T := T3) hc4 (w := 4) (by omega) hC3 (iI 0)
    obtain ⟨T4, hT4⟩ : ∃ T4, T4 = sI T3 4 (8 * c + 4) (iI 0) := ⟨_, rfl⟩
    rw [← hT4] at w4
    have hC4 : T4.1 3 4 = iI (c : Int) := by rw [hT4, wr_ne _ _ (by omega)]; exact hC3
    have w5 : cl k_Reader_tell [.ref 3, .int (iI 5), .int (iI 50)] (enc T4) = some (none, enc (sI T4 4 (8 * c + 5) (iI 50))) := c_tell (T := T4) hc4 (w := 5) (by omega) hC4 (iI 50)
    obtain ⟨T5, hT5⟩ : ∃ T5, T5 = sI T4 4 (8 * c + 5) (iI 50) := ⟨_, rfl⟩
    rw [← hT5] at w5
    have hC5 : T5.1 3 4 = iI (c : Int) := by rw [hT5, wr_ne _ _ (by omega)]; exact hC4
    have w6 : cl k_Reader_tell [.ref 3, .int (iI 6), .int (iI 0)] (enc T5) = some (none, enc (sI T5 4 (8 * c + 6) (iI 0))) := c_tell (T := T5) hc4 (w := 6) (by omega) hC5 (iI 0)
    obtain ⟨T6, hT6⟩ : ∃ T6, T6 = sI T5 4 (8 * c + 6) (iI 0) := ⟨_, rfl⟩
    rw [← hT6] at w6
    have hC6 : T6.1 3 4 = iI (c : Int) := by rw [hT6, wr_ne _ _ (by omega)]; exact hC5
    have w7 : cl k_Reader_tell [.ref 3, .int (iI 7), .int (iI 0)] (enc T6) = some (none, enc (sI T6 4 (8 * c + 7) (iI 0))) := c_tell (T := T6) hc4 (w := 7) (by omega) hC6 (iI 0)
    obtain ⟨T7, hT7⟩ : ∃ T7, T7 = sI T6 4 (8 * c + 7) (iI 0) := ⟨_, rfl⟩
    rw [← hT7] at w7
    have hC7 : T7.1 3 4 = iI (c : Int) := by rw [hT7, wr_ne _ _ (by omega)]; exact hC6
    have f27 : FrI (fun q k => (q = 3 ∧ k = 6) ∨ (q = 4 ∧ 8 * c + 4 ≤ k ∧ k < 8 * c + 8)) T2 T7 := by
      rw [hT7, hT6, hT5, hT4, hT3]
      exact (((((FrI.rf _ T2).wr _ (Or.inl ⟨rfl, rfl⟩)).wr _ (Or.inr ⟨rfl, by omega, by omega⟩)).wr _ (Or.inr ⟨rfl, by omega, by omega⟩)).wr _ (Or.inr ⟨rfl, by omega, by omega⟩)).wr _ (Or.inr ⟨rfl, by omega, by omega⟩)
    have p7 : pAt T7 t (SK t x.2) := ⟨by rw [f27.1 _ _ (by omega)]; exact p2.1, by rw [f27.1 _ _ (by omega)]; exact p2.2⟩
    have h67 : T7.1 3 6 = iI (16 * ((0 : Nat) : Int)) := by
      rw [hT7, wr_ne _ _ (by omega), hT6, wr_ne _ _ (by omega), hT5, wr_ne _ _ (by omega), hT4, wr_ne _ _ (by omega), hT3]
      simp only [sI_get, sJ_get, sI_2, sJ_1, sJ_22, sR_1, sR_21, Nat.reduceEqDiff, and_true, true_and, and_false, false_and, and_self, if_true, if_false, reduceIte]
      rfl
    have hP7 : hPt T7 c (bas x.1) := by
      intro q hq
      have : q = 0 ∨ q = 1 ∨ q = 2 ∨ q = 3 ∨ q = 4 ∨ q = 5 ∨ q = 6 ∨ q = 7 := by omega
      rcases this with h | h | h | h | h | h | h | h <;> subst h
      · rw [f27.1 _ _ (by omega)]; exact v0
      · rw [f27.1 _ _ (by omega)]; exact v1
      · rw [f27.1 _ _ (by omega)]; exact v2
      · rw [f27.1 _ _ (by omega)]; exact v3
      · rw [hT7, wr_ne _ _ (by omega), hT6, wr_ne _ _ (by omega), hT5, wr_ne _ _ (by omega), hT4]; simp only [sI_get, sJ_get, sI_2, sJ_1, sJ_22, sR_1, sR_21, Nat.reduceEqDiff, and_true, true_and, and_false, false_and, and_self, if_true, if_false, reduceIte]; rfl
      · rw [hT7, wr_ne _ _ (by omega), hT6, wr_ne _ _ (by omega), hT5]; simp only [sI_get, sJ_get, sI_2, sJ_1, sJ_22, sR_1, sR_21, Nat.reduceEqDiff, and_true, true_and, and_false, false_and, and_self, if_true, if_false, reduceIte]; rfl
      · rw [hT7, wr_ne _ _ (by omega), hT6]; simp only [sI_get, sJ_get, sI_2, sJ_1, sJ_22, sR_1, sR_21, Nat.reduceEqDiff, and_true, true_and, and_false, false_and, and_self, if_true, if_false, reduceIte]; rfl
      · rw [hT7]; simp only [sI_get, sJ_get, sI_2, sJ_1, sJ_22, sR_1, sR_21, Nat.reduceEqDiff, and_true, true_and, and_false, false_and, and_self, if_true, if_false, reduceIte]; rfl
    have fA : FrI (aCk c) T T7 := ((f1.mono (fun q k z => by unfold aMv at z; unfold aCk; omega)).tr (f2.mono (fun q k z => by unfold aSc aMv at z; unfold aCk; omega))).tr (f27.mono (fun q k z => by unfold aCk; omega))
    have fB : FrI aFl T T7 := ((f1.mono (fun q k z => aMv_fl z)).tr (f2.mono (fun q k z => by unfold aSc aMv at z; unfold aFl; omega))).tr (f27.mono (fun q k z => by unfold aFl; omega))
    have hT7' : hTp T7 t := hT.fr fA (fun q k z => by unfold aCk at z; omega)
    obtain ⟨l1, l2⟩ := lp_lets ht hc4 4 (SK t x.2) 0 0 (bas x.1) T7 (by unfold cB; omega) (by omega) (by omega) ((SK_le ht x.2).2 b2) (bas_ok b3) hT7' p7 hC7 h67 hP7
    have pre : cl k_Reader_readClause [.ref 3] (enc T) = rn k_Reader_readClause 73 [.ref 3, .int (iI ((0 : Nat) : Int))] [] (enc T7) := by
      simp (disch := first | omega | assumption | decide | (simp (disch := omega) only [iI_lit, iJ_lit, iJ_eq, iI_eq, bI_01, bI_01I] <;> omega)) only [c_Reader_readClause, e_Reader_readClause_0, e_Reader_readClause_1, e_Reader_readClause_4, e_Reader_readClause_6, e_Reader_readClause_9, e_Reader_readClause_10, e_Reader_readClause_13, e_Reader_readClause_14, e_Reader_readClause_17, e_Reader_readClause_18, e_Reader_readClause_19, e_Reader_readClause_22, e_Reader_readClause_25, e_Reader_readClause_26, e_Reader_readClause_27, e_Reader_readClause_30, e_Reader_readClause_31, e_Reader_readClause_34, e_Reader_readClause_37, e_Reader_readClause_38, e_Reader_readClause_39, e_Reader_readClause_40, e_Reader_readClause_41, bd_some, bd_none, Option.toList_some, Option.toList_none, List.nil_append, List.cons_append, px_kill_int, px_kill_long, px_kill_ref, px_kill_null, iI_lit, iJ_lit, iI_add, iI_sub, iI_mul, iI_neg, iJ_add, iJ_sub, iJ_mul, iJ_neg, iI_lt, iI_le, iI_eq, iJ_lt, iJ_le, iJ_eq, iI_div, iJ_div, tdiv_tmod, iI_J, iJ_I, iI_ix, iI_toInt, iJ_toInt, cmp_ge, cmp_lt, cmp_eq, cmp_gt, cmp_le, cmp_geI, cmp_ltI, cmp_eqI, cmp_gtI, cmp_leI, bI_0I, bI_1I, pin, if_true, sh_n3, r2, hC, c2, e1, e2, one0, if_false]
      rw [← hT3]
      simp (disch := first | omega | assumption | decide | (simp (disch := omega) only [iI_lit, iJ_lit, iJ_eq, iI_eq, bI_01, bI_01I] <;> omega)) only [e_Reader_readClause_44, e_Reader_readClause_45, e_Reader_readClause_46, e_Reader_readClause_47, e_Reader_readClause_50, e_Reader_readClause_51, e_Reader_readClause_52, e_Reader_readClause_54, e_Reader_readClause_57, e_Reader_readClause_58, e_Reader_readClause_60, e_Reader_readClause_61, e_Reader_readClause_64, e_Reader_readClause_65, e_Reader_readClause_67, e_Reader_readClause_68, e_Reader_readClause_71, e_Reader_readClause_72, bd_some, bd_none, Option.toList_some, Option.toList_none, List.nil_append, List.cons_append, px_kill_int, px_kill_long, px_kill_ref, px_kill_null, iI_lit, iJ_lit, iI_add, iI_sub, iI_mul, iI_neg, iJ_add, iJ_sub, iJ_mul, iJ_neg, iI_lt, iI_le, iI_eq, iJ_lt, iJ_le, iJ_eq, iI_div, iJ_div, tdiv_tmod, iI_J, iJ_I, iI_ix, iI_toInt, iJ_toInt, cmp_ge, cmp_lt, cmp_eq, cmp_gt, cmp_le, cmp_geI, cmp_ltI, cmp_eqI, cmp_gtI, cmp_leI, bI_0I, bI_1I, pin, if_true, sh_n3, w4, w5, w6, w7]
      rfl
    refine ⟨fun e he => ?_, fun y hy => ?_⟩
    · obtain ⟨T8, e8, f8, g8⟩ := l1 e he
      exact ⟨T8, pre.trans e8, fB.tr f8, g8⟩
    · obtain ⟨T8, e8, f8, p8, g8, h8⟩ := l2 y hy
      exact ⟨T8, pre.trans e8, fA.tr f8, p8, g8, h8⟩
def hPs (T : TS) (l : List CL) : Prop := ∀ c, c < l.length → hPt T c (l.getD c (fun _ => 0))
theorem gL_app {l : List CL} {q d : CL} {k : Nat} (h : k < l.length) : (l ++ [q]).getD k d = l.getD k d := by
  rw [List.getD_eq_getElem?_getD, List.getD_eq_getElem?_getD, List.getElem?_append_left h]
theorem gL_last (l : List CL) (q d : CL) : (l ++ [q]).getD l.length d = q := by
  rw [List.getD_eq_getElem?_getD, List.getElem?_append_right (Nat.le_refl _), Nat.sub_self]
  rfl
def aRd (q _k : Nat) : Prop := q = 3 ∨ q = 4
set_option maxHeartbeats 2000000 in
theorem lp_read {t : TP} (ht : okTp t) : ∀ (n k i : Nat) (l : List CL) (T : TS), n + l.length = 5 → l.length ≤ 4 → i = l.length → k ≤ t.1 → (∀ f, f ∈ l → okL f) → hTp T t → pAt T t k → T.1 3 4 = iI (l.length : Int) → T.1 3 5 = iI (-1) → hPs T l → ∃ T', rn k_Reader_read 30 [.ref 3, .int (iI (i : Int))] [] (enc T) = some (none, enc T') ∧ FrI aRd T T' ∧ (∀ e, pall t n k l = .inl e → T'.1 3 5 = iI (e : Int)) ∧ (∀ l', pall t n k l = .inr l' → T'.1 3 5 = iI (-1) ∧ T'.1 3 4 = iI (l'.length : Int) ∧ hPs T' l') := by
  intro n
  induction n with
  | zero => intro k i l T hn hl; omega
  | succ n ih =>
    intro k i l T hn hl hi hk hf hT hp hC hW hPs'
    have c4 : ¬ (4 : Int) < (i : Int) := by omega
    obtain ⟨l1, l2⟩ := c_clause ht hT hk hp (c := l.length) hl hC
    obtain ⟨a1, a2⟩ := pcl_bd ht (k := k) (c := l.length) hk
    rw [pall_s]
    generalize pcl t k l.length = P at *
    cases P with
    | inl e =>
      obtain ⟨T1, e1, f1, g1⟩ := l1 e rfl
      refine ⟨T1, ?_, f1.mono (fun q k z => aFl_34 z), fun e' he => by cases he; exact g1, fun l' hl' => by cases hl'⟩
      rw [e_Reader_read_30]
      simp (disch := first | omega | assumption | decide | (simp (disch := omega) only [iI_lit, iJ_lit, iJ_eq, iI_eq, bI_01, bI_01I] <;> omega)) only [e_Reader_read_31, e_Reader_read_32, e_Reader_read_35, e_Reader_read_36, e_Reader_read_39, e_Reader_read_42, e_Reader_read_43, e_Reader_read_46, e_Reader_read_48, e_Reader_read_51, e_Reader_read_52, e_Reader_read_55, e_Reader_read_58, e_Reader_read_61, bd_some, bd_none, Option.toList_some, Option.toList_none, List.nil_append, List.cons_append, px_kill_int, px_kill_long, px_kill_ref, px_kill_null, iI_lit, iJ_lit, iI_add, iI_sub, iI_mul, iI_neg, iJ_add, iJ_sub, iJ_mul, iJ_neg, iI_lt, iI_le, iI_eq, iJ_lt, iJ_le, iJ_eq, iI_div, iJ_div, tdiv_tmod, iI_J, iJ_I, iI_ix, iI_toInt, iJ_toInt, cmp_ge, cmp_lt, cmp_eq, cmp_gt, cmp_le, cmp_geI, cmp_ltI, cmp_eqI, cmp_gtI, cmp_leI, bI_0I, bI_1I, pin, if_true, c4, if_false, sh_n3, e1]
    | inr x =>
      obtain ⟨b1, b2, b3, b4⟩ := a2 x rfl
      obtain ⟨T1, e1, f1, p1, g1, h1⟩ := l2 x rfl
      have hlen : (l ++ [x.1]).length = l.length + 1 := by simp
      have bs := sg_bd ht x.2
      have hW1 : T1.1 3 5 = iI (-1) := by rw [f1.1 _ _ (by unfold aCk; omega)]; exact hW
      have hPs1 : hPs T1 (l ++ [x.1]) := by
        intro c hc
        by_cases c0 : c < l.length
        · rw [gL_app c0]
          intro q hq
          rw [f1.1 _ _ (by unfold aCk; omega)]
          exact hPs' c c0 q hq
        · have e : c = l.length := by omega
          subst e
          rw [gL_last]
          exact h1
      have hf' : ∀ f, f ∈ l ++ [x.1] → okL f := by
        intro f hm
        rcases List.mem_append.mp hm with z | z
        · exact hf f z
        · have : f = x.1 := by simpa using z
          subst this
          exact b2
      obtain ⟨r1, r2⟩ := id p1
      have f1' : FrI aRd T T1 := f1.mono (fun q k z => by unfold aCk at z; unfold aRd; omega)
      simp only
      by_cases cs : sg t x.2 = 59
      · rw [if_pos cs]
        rw [cs] at r2
        have hl' := ht.1
        have hlt := sg_lt (t := t) (k := x.2) (by omega)
        obtain ⟨T2, e2, f2, p2⟩ := c_passN ht (hT.fr f1' (fun q k z => z)) (k := x.2) (by omega) p1
        have f2' : FrI aRd T1 T2 := f2.mono (fun q k z => Or.inl z.1)
        obtain ⟨T3, e3, f3, g3, g4⟩ := ih (SK t (x.2 + 1)) (i + 1) (l ++ [x.1]) T2 (by omega) (by omega) (by omega) ((SK_le ht _).2 (by omega)) hf' (hT.fr (f1'.tr f2') (fun q k z => z)) p2 (by rw [f2.1 _ _ (by unfold aMv; omega), hlen]; exact g1) (by rw [f2.1 _ _ (by unfold aMv; omega)]; exact hW1) (fun c hc q hq => by rw [f2.1 _ _ (by unfold aMv; omega)]; exact hPs1 c hc q hq)
        refine ⟨T3, ?_, (f1'.tr f2').tr f3, g3, g4⟩
        rw [e_Reader_read_30]
        simp (disch := first | omega | assumption | decide | (simp (disch := omega) only [iI_lit, iJ_lit, iJ_eq, iI_eq, bI_01, bI_01I] <;> omega)) only [e_Reader_read_31, e_Reader_read_32, e_Reader_read_35, e_Reader_read_36, e_Reader_read_39, e_Reader_read_42, e_Reader_read_43, e_Reader_read_46, e_Reader_read_48, e_Reader_read_51, e_Reader_read_52, e_Reader_read_55, e_Reader_read_58, bd_some, bd_none, Option.toList_some, Option.toList_none, List.nil_append, List.cons_append, px_kill_int, px_kill_long, px_kill_ref, px_kill_null, iI_lit, iJ_lit, iI_add, iI_sub, iI_mul, iI_neg, iJ_add, iJ_sub, iJ_mul, iJ_neg, iI_lt, iI_le, iI_eq, iJ_lt, iJ_le, iJ_eq, iI_div, iJ_div, tdiv_tmod, iI_J, iJ_I, iI_ix, iI_toInt, iJ_toInt, cmp_ge, cmp_lt, cmp_eq, cmp_gt, cmp_le, cmp_geI, cmp_ltI, cmp_eqI, cmp_gtI, cmp_leI, bI_0I, bI_1I, pin, if_true, c4, if_false, sh_n3, e1, one0, r2, e2]
        rw [show (i : Int) + 1 = ((i + 1 : Nat) : Int) by omega]
        exact e3
      · rw [if_neg cs]
        refine ⟨T1, ?_, f1', fun e' he => (by cases he), fun l' hl' => ?_⟩
        · rw [e_Reader_read_30]
          simp (disch := first | omega | assumption | decide | (simp (disch := omega) only [iI_lit, iJ_lit, iJ_eq, iI_eq, bI_01, bI_01I] <;> omega)) only [e_Reader_read_31, e_Reader_read_32, e_Reader_read_35, e_Reader_read_36, e_Reader_read_39, e_Reader_read_42, e_Reader_read_43, e_Reader_read_46, e_Reader_read_48, e_Reader_read_51, e_Reader_read_52, e_Reader_read_55, e_Reader_read_58, e_Reader_read_61, bd_some, bd_none, Option.toList_some, Option.toList_none, List.nil_append, List.cons_append, px_kill_int, px_kill_long, px_kill_ref, px_kill_null, iI_lit, iJ_lit, iI_add, iI_sub, iI_mul, iI_neg, iJ_add, iJ_sub, iJ_mul, iJ_neg, iI_lt, iI_le, iI_eq, iJ_lt, iJ_le, iJ_eq, iI_div, iJ_div, tdiv_tmod, iI_J, iJ_I, iI_ix, iI_toInt, iJ_toInt, cmp_ge, cmp_lt, cmp_eq, cmp_gt, cmp_le, cmp_geI, cmp_ltI, cmp_eqI, cmp_gtI, cmp_leI, bI_0I, bI_1I, pin, if_true, c4, if_false, sh_n3, e1, one0, r2, cs]
        · cases hl'
          exact ⟨hW1, by rw [hlen]; exact g1, hPs1⟩
set_option maxHeartbeats 1000000 in
theorem c_read {T : TS} {t : TP} (ht : okTp t) (hT : hTp T t) : ∃ T', cl k_Reader_read [.ref 3] (enc T) = some (none, enc T') ∧ FrI aRd T T' ∧ (∀ e, prs t = .inl e → T'.1 3 5 = iI (e : Int)) ∧ (∀ l', prs t = .inr l' → T'.1 3 5 = iI (-1) ∧ T'.1 3 4 = iI (l'.length : Int) ∧ hPs T' l') := by
  obtain ⟨T0, hT0⟩ : ∃ T0, T0 = sI (sI (sI T 3 2 (iI (-1))) 3 4 (iI 0)) 3 5 (iI (-1)) := ⟨_, rfl⟩
  have f0 : FrI aRd T T0 := by rw [hT0]; exact (((FrI.rf aRd T).wr _ (Or.inl rfl)).wr _ (Or.inl rfl)).wr _ (Or.inl rfl)
  have hT0' := hT.fr f0 (fun q k z => z)
  obtain ⟨T1, e1, f1, p1⟩ := c_pass' ht hT0' (k := 0) (by omega) (by rw [hT0]; simp only [sI_get, sJ_get, sI_2, sJ_1, sJ_22, sR_1, sR_21, Nat.reduceEqDiff, and_true, true_and, and_false, false_and, and_self, if_true, if_false, reduceIte]; rfl)
  have f1' : FrI aRd T0 T1 := f1.mono (fun q k z => Or.inl z.1)
  have hC : T1.1 3 4 = iI 0 := by rw [f1.1 _ _ (by unfold aMv; omega), hT0]; simp only [sI_get, sJ_get, sI_2, sJ_1, sJ_22, sR_1, sR_21, Nat.reduceEqDiff, and_true, true_and, and_false, false_and, and_self, if_true, if_false, reduceIte]
  have hW : T1.1 3 5 = iI (-1) := by rw [f1.1 _ _ (by unfold aMv; omega), hT0]; simp only [sI_get, sJ_get, sI_2, sJ_1, sJ_22, sR_1, sR_21, Nat.reduceEqDiff, and_true, true_and, and_false, false_and, and_self, if_true, if_false, reduceIte]
  obtain ⟨r1, r2⟩ := id p1
  have bs := sg_bd ht (SK t 0)
  have pre : cl k_Reader_read [.ref 3] (enc T) = rn k_Reader_read 19 [.ref 3, .null] [] (enc T1) := by
    simp (disch := first | omega | assumption | decide | (simp (disch := omega) only [iI_lit, iJ_lit, iJ_eq, iI_eq, bI_01, bI_01I] <;> omega)) only [c_Reader_read, e_Reader_read_0, e_Reader_read_1, e_Reader_read_2, e_Reader_read_5, e_Reader_read_6, e_Reader_read_7, e_Reader_read_10, e_Reader_read_11, e_Reader_read_12, bd_some, bd_none, Option.toList_some, Option.toList_none, List.nil_append, List.cons_append, px_kill_int, px_kill_long, px_kill_ref, px_kill_null, iI_lit, iJ_lit, iI_add, iI_sub, iI_mul, iI_neg, iJ_add, iJ_sub, iJ_mul, iJ_neg, iI_lt, iI_le, iI_eq, iJ_lt, iJ_le, iJ_eq, iI_div, iJ_div, tdiv_tmod, iI_J, iJ_I, iI_ix, iI_toInt, iJ_toInt, cmp_ge, cmp_lt, cmp_eq, cmp_gt, cmp_le, cmp_geI, cmp_ltI, cmp_eqI, cmp_gtI, cmp_leI, bI_0I, bI_1I, pin, if_true, sh_n3]
    rw [← hT0]
    simp (disch := first | omega | assumption | decide | (simp (disch := omega) only [iI_lit, iJ_lit, iJ_eq, iI_eq, bI_01, bI_01I] <;> omega)) only [e_Reader_read_15, e_Reader_read_16, bd_some, bd_none, Option.toList_some, Option.toList_none, List.nil_append, List.cons_append, px_kill_int, px_kill_long, px_kill_ref, px_kill_null, iI_lit, iJ_lit, iI_add, iI_sub, iI_mul, iI_neg, iJ_add, iJ_sub, iJ_mul, iJ_neg, iI_lt, iI_le, iI_eq, iJ_lt, iJ_le, iJ_eq, iI_div, iJ_div, tdiv_tmod, iI_J, iJ_I, iI_ix, iI_toInt, iJ_toInt, cmp_ge, cmp_lt, cmp_eq, cmp_gt, cmp_le, cmp_geI, cmp_ltI, cmp_eqI, cmp_gtI, cmp_leI, bI_0I, bI_1I, pin, if_true, sh_n3, e1]
  unfold prs
  by_cases c : sg t (SK t 0) = -1
  · rw [if_pos c]
    rw [c] at r2
    refine ⟨T1, ?_, f0.tr f1', fun e he => (by cases he), fun l' hl' => ?_⟩
    · rw [pre]
      simp (disch := first | omega | assumption | decide | (simp (disch := omega) only [iI_lit, iJ_lit, iJ_eq, iI_eq, bI_01, bI_01I] <;> omega)) only [e_Reader_read_19, e_Reader_read_20, e_Reader_read_23, e_Reader_read_24, e_Reader_read_27, e_Reader_read_28, e_Reader_read_29, bd_some, bd_none, Option.toList_some, Option.toList_none, List.nil_append, List.cons_append, px_kill_int, px_kill_long, px_kill_ref, px_kill_null, iI_lit, iJ_lit, iI_add, iI_sub, iI_mul, iI_neg, iJ_add, iJ_sub, iJ_mul, iJ_neg, iI_lt, iI_le, iI_eq, iJ_lt, iJ_le, iJ_eq, iI_div, iJ_div, tdiv_tmod, iI_J, iJ_I, iI_ix, iI_toInt, iJ_toInt, cmp_ge, cmp_lt, cmp_eq, cmp_gt, cmp_le, cmp_geI, cmp_ltI, cmp_eqI, cmp_gtI, cmp_leI, bI_0I, bI_1I, pin, if_true, sh_n3, r2]
    · cases hl'
      exact ⟨hW, hC, fun c hc => by cases hc⟩
  · rw [if_neg c]
    obtain ⟨T2, e2, f2, g1, g2⟩ := lp_read ht 5 (SK t 0) 0 [] T1 rfl (Nat.zero_le _) rfl ((SK_le ht 0).2 (by omega)) (fun f hf => by cases hf) (hT0'.fr f1' (fun q k z => z)) p1 hC hW (fun c hc => by cases hc)
    refine ⟨T2, ?_, (f0.tr f1').tr f2, g1, g2⟩
    rw [pre]
    simp (disch := first | omega | assumption | decide | (simp (disch := omega) only [iI_lit, iJ_lit, iJ_eq, iI_eq, bI_01, bI_01I] <;> omega)) only [e_Reader_read_19, e_Reader_read_20, e_Reader_read_23, e_Reader_read_24, e_Reader_read_27, e_Reader_read_28, e_Reader_read_29, bd_some, bd_none, Option.toList_some, Option.toList_none, List.nil_append, List.cons_append, px_kill_int, px_kill_long, px_kill_ref, px_kill_null, iI_lit, iJ_lit, iI_add, iI_sub, iI_mul, iI_neg, iJ_add, iJ_sub, iJ_mul, iJ_neg, iI_lt, iI_le, iI_eq, iJ_lt, iJ_le, iJ_eq, iI_div, iJ_div, tdiv_tmod, iI_J, iJ_I, iI_ix, iI_toInt, iJ_toInt, cmp_ge, cmp_lt, cmp_eq, cmp_gt, cmp_le, cmp_geI, cmp_ltI, cmp_eqI, cmp_gtI, cmp_leI, bI_0I, bI_1I, pin, if_true, sh_n3, r2, c, if_false]
    exact e2
