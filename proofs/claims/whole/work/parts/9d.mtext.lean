/-! fault and text of the reference. -/
def aPm (q k : Nat) : Prop := (q = 53 ∧ (k = 3 ∨ k = 4 ∨ k = 8 ∨ k = 9)) ∨ q = 55
def hSt (T : TS) (V : VW) : Prop := ∀ j, j < V.1 → hPm T j (V.2 j)
theorem addV_n (V : VW) (f : CL) : ((addV V f).1 : Int) = (V.1 : Int) + nwS f := by
  unfold addV nwS
  split
  · show ((V.1 + 1 : Nat) : Int) = _; omega
  · omega
def ansP (r : Nat ⊕ List CL) : Int := match r with
  | .inl e => (e : Int)
  | .inr _ => -1
set_option maxHeartbeats 4000000 in
theorem lp_mread {t : TP} (ht : okTp t) {V0 : VW} (h0 : V0.1 = 0) : ∀ (n a : Nat) (l : List CL) (T : TS), n + l.length = 5 → l.length ≤ 4 → (∀ f, f ∈ l → okL f) → hTm T t → hMd T t (.inr a) → T.1 53 8 = iI (l.length : Int) → T.1 53 9 = iI ((txV V0 l).1 : Int) → hSt T (txV V0 l) → ∃ T' : TS, rn k_Dm_readAll 34 [.ref 53, .int (iI 1)] [] (enc T) = some (some (.int (iI (ansP (pall t n (SK t a) l)))), enc T') ∧ FrI aPm T T' ∧ (∀ l', pall t n (SK t a) l = .inr l' → T'.1 53 9 = iI ((txV V0 l').1 : Int) ∧ hSt T' (txV V0 l')) := by
  intro n
  induction n with
  | zero => intro a l T hn hl; omega
  | succ n ih =>
    intro a l T hn hl hf hT hM hC hR hS
    have hlen := (txV_ok V0 h0 l hf).2
    have hl160 := ht.1
    obtain ⟨T1, e1, f1, q1, q2⟩ := m_clause ht hT hM (c := l.length) (r := (txV V0 l).1) hl hlen hC hR
    have hT1 := hT.fr f1 (fun q k z => aCm_p z)
    have f1' : FrI aPm T T1 := f1.mono (fun q k z => aCm_p z)
    obtain ⟨a1, a2⟩ := pcl_bd ht (k := SK t a) (c := l.length) ((SK_le ht a).2 hM.2.1)
    rw [pall_s]
    generalize pcl t (SK t a) l.length = P at *
    cases P with
    | inl e =>
      have be := a1 e rfl
      have ans : ansP (.inl e : Nat ⊕ List CL) = (e : Int) := rfl
      rcases q1 e rfl with g1 | ⟨g1, s1, n1, n59⟩
      · obtain ⟨T2, e2, f2, g2⟩ := m_takes ht hT1 g1 (c := 59) (by omega)
        have e2' : cl k_Dm_takes [.ref 53, .int (iI 59)] (enc T1) = some (some (.int (iI 0)), enc T2) := e2
        have g2' : hMd T2 t (.inl e) := g2
        obtain ⟨w1, w2, _⟩ := id g2'
        have ne : ¬ (e : Int) = -1 := by omega
        refine ⟨T2, ?_, f1'.tr (f2.mono (fun q k z => aAw_p z)), fun l' hl' => by cases hl'⟩
        simp only
        rw [ans, e_Dm_readAll_34]
        simp (disch := first | omega | assumption | decide | (simp (disch := omega) only [iI_lit, iJ_lit, iJ_eq, iI_eq, bI_01, bI_01I] <;> omega)) only [e_Dm_readAll_35, e_Dm_readAll_38, e_Dm_readAll_39, e_Dm_readAll_42, e_Dm_readAll_43, e_Dm_readAll_45, e_Dm_readAll_48, e_Dm_readAll_49, bd_some, bd_none, Option.toList_some, Option.toList_none, List.nil_append, List.cons_append, px_kill_int, px_kill_long, px_kill_ref, px_kill_null, iI_lit, iJ_lit, iI_add, iI_sub, iI_mul, iI_neg, iJ_add, iJ_sub, iJ_mul, iJ_neg, iI_lt, iI_le, iI_eq, iJ_lt, iJ_le, iJ_eq, iI_div, iJ_div, tdiv_tmod, iI_J, iJ_I, iI_ix, iI_toInt, iJ_toInt, cmp_ge, cmp_lt, cmp_eq, cmp_gt, cmp_le, cmp_geI, cmp_ltI, cmp_eqI, cmp_gtI, cmp_leI, bI_0I, bI_1I, pin, if_true, one0, if_false, e1, e2']
        rw [e_Dm_readAll_34]
        simp (disch := first | omega | assumption | decide | (simp (disch := omega) only [iI_lit, iJ_lit, iJ_eq, iI_eq, bI_01, bI_01I] <;> omega)) only [e_Dm_readAll_35, e_Dm_readAll_38, e_Dm_readAll_39, e_Dm_readAll_42, e_Dm_readAll_43, e_Dm_readAll_45, e_Dm_readAll_48, e_Dm_readAll_49, e_Dm_readAll_52, e_Dm_readAll_53, e_Dm_readAll_56, e_Dm_readAll_57, e_Dm_readAll_60, e_Dm_readAll_61, e_Dm_readAll_64, e_Dm_readAll_65, e_Dm_readAll_68, e_Dm_readAll_69, e_Dm_readAll_72, e_Dm_readAll_73, e_Dm_readAll_76, bd_some, bd_none, Option.toList_some, Option.toList_none, List.nil_append, List.cons_append, px_kill_int, px_kill_long, px_kill_ref, px_kill_null, iI_lit, iJ_lit, iI_add, iI_sub, iI_mul, iI_neg, iJ_add, iJ_sub, iJ_mul, iJ_neg, iI_lt, iI_le, iI_eq, iJ_lt, iJ_le, iJ_eq, iI_div, iJ_div, tdiv_tmod, iI_J, iJ_I, iI_ix, iI_toInt, iJ_toInt, cmp_ge, cmp_lt, cmp_eq, cmp_gt, cmp_le, cmp_geI, cmp_ltI, cmp_eqI, cmp_gtI, cmp_leI, bI_0I, bI_1I, pin, if_true, w1, ne, if_false]
      · obtain ⟨T2, e2, f2, g2⟩ := m_takes ht hT1 g1 (c := 59) (by omega)
        have eb : tkB t (.inr e) 59 = 0 := by show (if sg t (SK t e) = 59 then (1 : Int) else 0) = 0; rw [s1]; exact if_neg n59
        have ed : tkD t (.inr e) 59 = .inr e := by show (if sg t (SK t e) = 59 then (.inr (SK t e + 1) : MD) else .inr (SK t e)) = .inr e; rw [s1]; exact if_neg n59
        rw [eb] at e2
        rw [ed] at g2
        obtain ⟨w1, w2, w3⟩ := id g2
        have hT2 := hT1.fr f2 (fun q k z => aAw_p z)
        obtain ⟨T3, e3, f3, g3⟩ := m_ahead ht e T2 hT2 w2 w3
        rw [s1] at e3 g3
        have bs := sg_bd ht e
        have hW3 : T3.1 53 4 = iI (-1) := by rw [f3.1 _ _ (by omega)]; exact w1
        obtain ⟨T4, e4, f4, g4⟩ := m_bad1 (T := T3) (t := t) (a := e) be hl160 hW3 g3
        obtain ⟨y1, y2, _⟩ := id g4
        refine ⟨T4, ?_, ((f1'.tr (f2.mono (fun q k z => aAw_p z))).tr ((f3_aw f3).mono (fun q k z => aAw_p z))).tr (f4.mono (fun q k z => aAw_p z)), fun l' hl' => by cases hl'⟩
        simp only
        rw [ans, e_Dm_readAll_34]
        simp (disch := first | omega | assumption | decide | (simp (disch := omega) only [iI_lit, iJ_lit, iJ_eq, iI_eq, bI_01, bI_01I] <;> omega)) only [e_Dm_readAll_35, e_Dm_readAll_38, e_Dm_readAll_39, e_Dm_readAll_42, e_Dm_readAll_43, e_Dm_readAll_45, e_Dm_readAll_48, e_Dm_readAll_49, bd_some, bd_none, Option.toList_some, Option.toList_none, List.nil_append, List.cons_append, px_kill_int, px_kill_long, px_kill_ref, px_kill_null, iI_lit, iJ_lit, iI_add, iI_sub, iI_mul, iI_neg, iJ_add, iJ_sub, iJ_mul, iJ_neg, iI_lt, iI_le, iI_eq, iJ_lt, iJ_le, iJ_eq, iI_div, iJ_div, tdiv_tmod, iI_J, iJ_I, iI_ix, iI_toInt, iJ_toInt, cmp_ge, cmp_lt, cmp_eq, cmp_gt, cmp_le, cmp_geI, cmp_ltI, cmp_eqI, cmp_gtI, cmp_leI, bI_0I, bI_1I, pin, if_true, one0, if_false, e1, e2]
        rw [e_Dm_readAll_34]
        simp (disch := first | omega | assumption | decide | (simp (disch := omega) only [iI_lit, iJ_lit, iJ_eq, iI_eq, bI_01, bI_01I] <;> omega)) only [e_Dm_readAll_35, e_Dm_readAll_38, e_Dm_readAll_39, e_Dm_readAll_42, e_Dm_readAll_43, e_Dm_readAll_45, e_Dm_readAll_48, e_Dm_readAll_49, e_Dm_readAll_52, e_Dm_readAll_53, e_Dm_readAll_56, e_Dm_readAll_57, e_Dm_readAll_60, e_Dm_readAll_61, e_Dm_readAll_64, e_Dm_readAll_65, e_Dm_readAll_68, e_Dm_readAll_69, e_Dm_readAll_72, e_Dm_readAll_73, e_Dm_readAll_76, bd_some, bd_none, Option.toList_some, Option.toList_none, List.nil_append, List.cons_append, px_kill_int, px_kill_long, px_kill_ref, px_kill_null, iI_lit, iJ_lit, iI_add, iI_sub, iI_mul, iI_neg, iJ_add, iJ_sub, iJ_mul, iJ_neg, iI_lt, iI_le, iI_eq, iJ_lt, iJ_le, iJ_eq, iI_div, iJ_div, tdiv_tmod, iI_J, iJ_I, iI_ix, iI_toInt, iJ_toInt, cmp_ge, cmp_lt, cmp_eq, cmp_gt, cmp_le, cmp_geI, cmp_ltI, cmp_eqI, cmp_gtI, cmp_leI, bI_0I, bI_1I, pin, if_true, w1, e3, n1, if_false, e4, y1]
    | inr x =>
      obtain ⟨b1, b2, b3, b4⟩ := a2 x rfl
      obtain ⟨g1, hP1, hC1, hR1⟩ := q2 x rfl
      have hlen1 : (l ++ [x.1]).length = l.length + 1 := by simp
      have eV : txV V0 (l ++ [x.1]) = addV (txV V0 l) x.1 := txV_app V0 l x.1
      have hR1' : T1.1 53 9 = iI ((txV V0 (l ++ [x.1])).1 : Int) := by rw [eV, addV_n]; exact hR1
      have hS1 : hSt T1 (txV V0 (l ++ [x.1])) := by
        have old : hSt T1 (txV V0 l) := fun j hj q hq => by
          rw [f1.1 _ _ (by unfold aCm aRi aAw; omega)]
          exact hS j hj q hq
        rw [eV]
        unfold addV
        split
        · intro j hj
          have hj' : j < (txV V0 l).1 + 1 := hj
          show hPm T1 j (if j = (txV V0 l).1 then x.1 else (txV V0 l).2 j)
          by_cases ej : j = (txV V0 l).1
          · rw [if_pos ej, ej]; exact hP1
          · rw [if_neg ej]; exact old j (by omega)
        · exact old
      have hsk : SK t x.2 = x.2 := SK_no (by omega)
      have hf' : ∀ f, f ∈ l ++ [x.1] → okL f := by
        intro f hm
        rcases List.mem_append.mp hm with z | z
        · exact hf f z
        · have : f = x.1 := by simpa using z
          subst this
          exact b2
      obtain ⟨T2, e2, f2, g2⟩ := m_takes ht hT1 g1 (c := 59) (by omega)
      have hT2 := hT1.fr f2 (fun q k z => aAw_p z)
      have f2' : FrI aPm T1 T2 := f2.mono (fun q k z => aAw_p z)
      have eb : tkB t (.inr x.2) 59 = if sg t x.2 = 59 then 1 else 0 := by show (if sg t (SK t x.2) = 59 then (1 : Int) else 0) = _; rw [hsk]
      have ed : tkD t (.inr x.2) 59 = if sg t x.2 = 59 then .inr (x.2 + 1) else .inr x.2 := by show (if sg t (SK t x.2) = 59 then (.inr (SK t x.2 + 1) : MD) else .inr (SK t x.2)) = _; rw [hsk]
      have hR2 : T2.1 53 9 = iI ((txV V0 (l ++ [x.1])).1 : Int) := by rw [f2.1 _ _ (by unfold aAw; omega)]; exact hR1'
      have hC2 : T2.1 53 8 = iI ((l ++ [x.1]).length : Int) := by rw [f2.1 _ _ (by unfold aAw; omega), hlen1]; exact hC1
      have hS2 : hSt T2 (txV V0 (l ++ [x.1])) := fun j hj q hq => by rw [f2.1 _ _ (by unfold aAw; omega)]; exact hS1 j hj q hq
      simp only
      by_cases cs : sg t x.2 = 59
      · rw [if_pos cs] at eb ed ⊢
        rw [eb] at e2
        rw [ed] at g2
        obtain ⟨T3, e3, f3, g3⟩ := ih (x.2 + 1) (l ++ [x.1]) T2 (by omega) (by omega) hf' hT2 g2 hC2 hR2 hS2
        refine ⟨T3, ?_, (f1'.tr f2').tr f3, g3⟩
        rw [e_Dm_readAll_34]
        simp (disch := first | omega | assumption | decide | (simp (disch := omega) only [iI_lit, iJ_lit, iJ_eq, iI_eq, bI_01, bI_01I] <;> omega)) only [e_Dm_readAll_35, e_Dm_readAll_38, e_Dm_readAll_39, e_Dm_readAll_42, e_Dm_readAll_43, e_Dm_readAll_45, e_Dm_readAll_48, e_Dm_readAll_49, bd_some, bd_none, Option.toList_some, Option.toList_none, List.nil_append, List.cons_append, px_kill_int, px_kill_long, px_kill_ref, px_kill_null, iI_lit, iJ_lit, iI_add, iI_sub, iI_mul, iI_neg, iJ_add, iJ_sub, iJ_mul, iJ_neg, iI_lt, iI_le, iI_eq, iJ_lt, iJ_le, iJ_eq, iI_div, iJ_div, tdiv_tmod, iI_J, iJ_I, iI_ix, iI_toInt, iJ_toInt, cmp_ge, cmp_lt, cmp_eq, cmp_gt, cmp_le, cmp_geI, cmp_ltI, cmp_eqI, cmp_gtI, cmp_leI, bI_0I, bI_1I, pin, if_true, one0, if_false, e1, e2]
        exact e3
      · rw [if_neg cs] at eb ed ⊢
        rw [eb] at e2
        rw [ed] at g2
        have sm : sg t x.2 = -1 := by omega
        obtain ⟨w1, w2, w3⟩ := id g2
        obtain ⟨T3, e3, f3, g3⟩ := m_ahead ht x.2 T2 hT2 w2 w3
        rw [hsk, sm] at e3
        have hW3 : T3.1 53 4 = iI (-1) := by rw [f3.1 _ _ (by omega)]; exact w1
        have ans : ansP (.inr (l ++ [x.1]) : Nat ⊕ List CL) = -1 := rfl
        refine ⟨T3, ?_, (f1'.tr f2').tr ((f3_aw f3).mono (fun q k z => aAw_p z)), fun l' hl' => ?_⟩
        · rw [ans, e_Dm_readAll_34]
          simp (disch := first | omega | assumption | decide | (simp (disch := omega) only [iI_lit, iJ_lit, iJ_eq, iI_eq, bI_01, bI_01I] <;> omega)) only [e_Dm_readAll_35, e_Dm_readAll_38, e_Dm_readAll_39, e_Dm_readAll_42, e_Dm_readAll_43, e_Dm_readAll_45, e_Dm_readAll_48, e_Dm_readAll_49, bd_some, bd_none, Option.toList_some, Option.toList_none, List.nil_append, List.cons_append, px_kill_int, px_kill_long, px_kill_ref, px_kill_null, iI_lit, iJ_lit, iI_add, iI_sub, iI_mul, iI_neg, iJ_add, iJ_sub, iJ_mul, iJ_neg, iI_lt, iI_le, iI_eq, iJ_lt, iJ_le, iJ_eq, iI_div, iJ_div, tdiv_tmod, iI_J, iJ_I, iI_ix, iI_toInt, iJ_toInt, cmp_ge, cmp_lt, cmp_eq, cmp_gt, cmp_le, cmp_geI, cmp_ltI, cmp_eqI, cmp_gtI, cmp_leI, bI_0I, bI_1I, pin, if_true, one0, if_false, e1, e2]
          rw [e_Dm_readAll_34]
          simp (disch := first | omega | assumption | decide | (simp (disch := omega) only [iI_lit, iJ_lit, iJ_eq, iI_eq, bI_01, bI_01I] <;> omega)) only [e_Dm_readAll_35, e_Dm_readAll_38, e_Dm_readAll_39, e_Dm_readAll_42, e_Dm_readAll_43, e_Dm_readAll_45, e_Dm_readAll_48, e_Dm_readAll_49, e_Dm_readAll_52, e_Dm_readAll_53, e_Dm_readAll_56, e_Dm_readAll_57, e_Dm_readAll_60, e_Dm_readAll_61, e_Dm_readAll_64, e_Dm_readAll_65, e_Dm_readAll_68, e_Dm_readAll_69, e_Dm_readAll_72, e_Dm_readAll_73, e_Dm_readAll_76, bd_some, bd_none, Option.toList_some, Option.toList_none, List.nil_append, List.cons_append, px_kill_int, px_kill_long, px_kill_ref, px_kill_null, iI_lit, iJ_lit, iI_add, iI_sub, iI_mul, iI_neg, iJ_add, iJ_sub, iJ_mul, iJ_neg, iI_lt, iI_le, iI_eq, iJ_lt, iJ_le, iJ_eq, iI_div, iJ_div, tdiv_tmod, iI_J, iJ_I, iI_ix, iI_toInt, iJ_toInt, cmp_ge, cmp_lt, cmp_eq, cmp_gt, cmp_le, cmp_geI, cmp_ltI, cmp_eqI, cmp_gtI, cmp_leI, bI_0I, bI_1I, pin, if_true, w1, e3, hW3]
        · cases hl'
          exact ⟨by rw [f3.1 _ _ (by omega)]; exact hR2, fun j hj q hq => by rw [f3.1 _ _ (by omega)]; exact hS2 j hj q hq⟩
set_option maxHeartbeats 1000000 in
theorem m_readAll {T : TS} {t : TP} (ht : okTp t) (hT : hTm T t) {V0 : VW} (h0 : V0.1 = 0) : ∃ T' : TS, cl k_Dm_readAll [.ref 53] (enc T) = some (some (.int (iI (ansP (prs t)))), enc T') ∧ FrI aPm T T' ∧ (∀ l', prs t = .inr l' → T'.1 53 9 = iI ((txV V0 l').1 : Int) ∧ hSt T' (txV V0 l')) := by
  obtain ⟨T0, hT0⟩ : ∃ T0, T0 = sI (sI (sI (sI T 53 3 (iI 0)) 53 4 (iI (-1))) 53 8 (iI 0)) 53 9 (iI 0) := ⟨_, rfl⟩
  have f0 : FrI aPm T T0 := by rw [hT0]; exact ((((FrI.rf aPm T).wr _ (Or.inl ⟨rfl, by omega⟩)).wr _ (Or.inl ⟨rfl, by omega⟩)).wr _ (Or.inl ⟨rfl, by omega⟩)).wr _ (Or.inl ⟨rfl, by omega⟩)
  have hT0' := hT.fr f0 (fun q k z => z)
  obtain ⟨T1, e1, f1, g1⟩ := m_ahead ht 0 T0 hT0' (by omega) (by rw [hT0]; simp only [sI_get, sJ_get, sI_2, sJ_1, sJ_22, sR_1, sR_21, Nat.reduceEqDiff, and_true, true_and, and_false, false_and, and_self, if_true, if_false, reduceIte]; rfl)
  have hT1 := hT0'.fr f1 (fun q k z => by omega)
  have f1' : FrI aPm T0 T1 := f1.mono (fun q k z => by unfold aPm; omega)
  have hW1 : T1.1 53 4 = iI (-1) := by rw [f1.1 _ _ (by omega), hT0]; simp only [sI_get, sJ_get, sI_2, sJ_1, sJ_22, sR_1, sR_21, Nat.reduceEqDiff, and_true, true_and, and_false, false_and, and_self, if_true, if_false, reduceIte]
  have hC1 : T1.1 53 8 = iI 0 := by rw [f1.1 _ _ (by omega), hT0]; simp only [sI_get, sJ_get, sI_2, sJ_1, sJ_22, sR_1, sR_21, Nat.reduceEqDiff, and_true, true_and, and_false, false_and, and_self, if_true, if_false, reduceIte]
  have hR1 : T1.1 53 9 = iI 0 := by rw [f1.1 _ _ (by omega), hT0]; simp only [sI_get, sJ_get, sI_2, sJ_1, sJ_22, sR_1, sR_21, Nat.reduceEqDiff, and_true, true_and, and_false, false_and, and_self, if_true, if_false, reduceIte]
  have hs := SK_le ht 0
  have bs := sg_bd ht (SK t 0)
  have e0 : txV V0 [] = V0 := rfl
  have pre : cl k_Dm_readAll [.ref 53] (enc T) = rn k_Dm_readAll 24 [.ref 53, .null] [.int (iI (sg t (SK t 0)))] (enc T1) := by
    simp (disch := first | omega | assumption | decide | (simp (disch := omega) only [iI_lit, iJ_lit, iJ_eq, iI_eq, bI_01, bI_01I] <;> omega)) only [c_Dm_readAll, e_Dm_readAll_0, e_Dm_readAll_1, e_Dm_readAll_2, e_Dm_readAll_5, e_Dm_readAll_6, e_Dm_readAll_7, e_Dm_readAll_10, e_Dm_readAll_11, e_Dm_readAll_12, e_Dm_readAll_15, e_Dm_readAll_16, e_Dm_readAll_17, bd_some, bd_none, Option.toList_some, Option.toList_none, List.nil_append, List.cons_append, px_kill_int, px_kill_long, px_kill_ref, px_kill_null, iI_lit, iJ_lit, iI_add, iI_sub, iI_mul, iI_neg, iJ_add, iJ_sub, iJ_mul, iJ_neg, iI_lt, iI_le, iI_eq, iJ_lt, iJ_le, iJ_eq, iI_div, iJ_div, tdiv_tmod, iI_J, iJ_I, iI_ix, iI_toInt, iJ_toInt, cmp_ge, cmp_lt, cmp_eq, cmp_gt, cmp_le, cmp_geI, cmp_ltI, cmp_eqI, cmp_gtI, cmp_leI, bI_0I, bI_1I, pin, if_true]
    rw [← hT0]
    simp (disch := first | omega | assumption | decide | (simp (disch := omega) only [iI_lit, iJ_lit, iJ_eq, iI_eq, bI_01, bI_01I] <;> omega)) only [e_Dm_readAll_20, e_Dm_readAll_21, bd_some, bd_none, Option.toList_some, Option.toList_none, List.nil_append, List.cons_append, px_kill_int, px_kill_long, px_kill_ref, px_kill_null, iI_lit, iJ_lit, iI_add, iI_sub, iI_mul, iI_neg, iJ_add, iJ_sub, iJ_mul, iJ_neg, iI_lt, iI_le, iI_eq, iJ_lt, iJ_le, iJ_eq, iI_div, iJ_div, tdiv_tmod, iI_J, iJ_I, iI_ix, iI_toInt, iJ_toInt, cmp_ge, cmp_lt, cmp_eq, cmp_gt, cmp_le, cmp_geI, cmp_ltI, cmp_eqI, cmp_gtI, cmp_leI, bI_0I, bI_1I, pin, if_true, e1]
  unfold prs
  by_cases c : sg t (SK t 0) = -1
  · rw [if_pos c]
    obtain ⟨T2, e2, f2, g2⟩ := m_ahead ht (SK t 0) T1 hT1 (hs.2 (by omega)) g1
    rw [SK_SK ht, c] at e2
    have hW2 : T2.1 53 4 = iI (-1) := by rw [f2.1 _ _ (by omega)]; exact hW1
    refine ⟨T2, ?_, (f0.tr f1').tr (f2.mono (fun q k z => by unfold aPm; omega)), fun l' hl' => ?_⟩
    · rw [pre, c]
      have ans : ansP (.inr [] : Nat ⊕ List CL) = -1 := rfl
      rw [ans]
      simp (disch := first | omega | assumption | decide | (simp (disch := omega) only [iI_lit, iJ_lit, iJ_eq, iI_eq, bI_01, bI_01I] <;> omega)) only [e_Dm_readAll_24, e_Dm_readAll_25, e_Dm_readAll_28, e_Dm_readAll_29, e_Dm_readAll_32, e_Dm_readAll_33, bd_some, bd_none, Option.toList_some, Option.toList_none, List.nil_append, List.cons_append, px_kill_int, px_kill_long, px_kill_ref, px_kill_null, iI_lit, iJ_lit, iI_add, iI_sub, iI_mul, iI_neg, iJ_add, iJ_sub, iJ_mul, iJ_neg, iI_lt, iI_le, iI_eq, iJ_lt, iJ_le, iJ_eq, iI_div, iJ_div, tdiv_tmod, iI_J, iJ_I, iI_ix, iI_toInt, iJ_toInt, cmp_ge, cmp_lt, cmp_eq, cmp_gt, cmp_le, cmp_geI, cmp_ltI, cmp_eqI, cmp_gtI, cmp_leI, bI_0I, bI_1I, pin, if_true]
      rw [e_Dm_readAll_34]
      simp (disch := first | omega | assumption | decide | (simp (disch := omega) only [iI_lit, iJ_lit, iJ_eq, iI_eq, bI_01, bI_01I] <;> omega)) only [e_Dm_readAll_35, e_Dm_readAll_38, e_Dm_readAll_39, e_Dm_readAll_42, e_Dm_readAll_43, e_Dm_readAll_45, e_Dm_readAll_48, e_Dm_readAll_49, e_Dm_readAll_52, e_Dm_readAll_53, e_Dm_readAll_56, e_Dm_readAll_57, e_Dm_readAll_60, e_Dm_readAll_61, e_Dm_readAll_64, e_Dm_readAll_65, e_Dm_readAll_68, e_Dm_readAll_69, e_Dm_readAll_72, e_Dm_readAll_73, e_Dm_readAll_76, bd_some, bd_none, Option.toList_some, Option.toList_none, List.nil_append, List.cons_append, px_kill_int, px_kill_long, px_kill_ref, px_kill_null, iI_lit, iJ_lit, iI_add, iI_sub, iI_mul, iI_neg, iJ_add, iJ_sub, iJ_mul, iJ_neg, iI_lt, iI_le, iI_eq, iJ_lt, iJ_le, iJ_eq, iI_div, iJ_div, tdiv_tmod, iI_J, iJ_I, iI_ix, iI_toInt, iJ_toInt, cmp_ge, cmp_lt, cmp_eq, cmp_gt, cmp_le, cmp_geI, cmp_ltI, cmp_eqI, cmp_gtI, cmp_leI, bI_0I, bI_1I, pin, if_true, hW1, e2, hW2]
    · cases hl'
      rw [e0, h0]
      refine ⟨by rw [f2.1 _ _ (by omega)]; exact hR1, fun j hj => ?_⟩
      rw [h0] at hj
      omega
  · rw [if_neg c]
    obtain ⟨T2, e2, f2, g2⟩ := lp_mread ht h0 5 (SK t 0) [] T1 rfl (Nat.zero_le _) (fun f hf => by cases hf) hT1 ⟨hW1, hs.2 (by omega), g1⟩ hC1 (by rw [e0, h0]; exact hR1) (fun j hj => by rw [e0, h0] at hj; omega)
    rw [SK_SK ht] at e2 g2
    refine ⟨T2, ?_, (f0.tr f1').tr f2, g2⟩
    rw [pre]
    simp (disch := first | omega | assumption | decide | (simp (disch := omega) only [iI_lit, iJ_lit, iJ_eq, iI_eq, bI_01, bI_01I] <;> omega)) only [e_Dm_readAll_24, e_Dm_readAll_25, e_Dm_readAll_28, e_Dm_readAll_29, e_Dm_readAll_32, e_Dm_readAll_33, bd_some, bd_none, Option.toList_some, Option.toList_none, List.nil_append, List.cons_append, px_kill_int, px_kill_long, px_kill_ref, px_kill_null, iI_lit, iJ_lit, iI_add, iI_sub, iI_mul, iI_neg, iJ_add, iJ_sub, iJ_mul, iJ_neg, iI_lt, iI_le, iI_eq, iJ_lt, iJ_le, iJ_eq, iI_div, iJ_div, tdiv_tmod, iI_J, iJ_I, iI_ix, iI_toInt, iJ_toInt, cmp_ge, cmp_lt, cmp_eq, cmp_gt, cmp_le, cmp_geI, cmp_ltI, cmp_eqI, cmp_gtI, cmp_leI, bI_0I, bI_1I, pin, if_true, c, if_false]
    exact e2
theorem q_Dm_fault {T : TS} {S : FS} (hS : okF S) (h : fM T S) : ∃ T', cl k_Dm_fault [.ref 53] (enc T) = some (some (.int (iI (qFault S))), enc T') ∧ FrM T T' := by
  obtain ⟨h0, s0⟩ := t0_fM h
  obtain ⟨T', e, f, _⟩ := m_readAll hS.tp h0.2.1 (V0 := (0, S.1.2)) rfl
  refine ⟨T', ?_, (t0_fr T).tr (FrM.of f (fun q k z => by unfold aPm at z; unfold aRef; omega))⟩
  have eq : qFault S = ansP (prs S.2.1) := by
    unfold qFault ansP
    rfl
  rw [eq]
  simp (disch := first | omega | assumption | decide | (simp (disch := omega) only [iI_lit, iJ_lit, iJ_eq, iI_eq, bI_01, bI_01I] <;> omega)) only [c_Dm_fault, e_Dm_fault_0, e_Dm_fault_1, e_Dm_fault_2, e_Dm_fault_5, e_Dm_fault_6, e_Dm_fault_9, bd_some, bd_none, Option.toList_some, Option.toList_none, List.nil_append, List.cons_append, px_kill_int, px_kill_long, px_kill_ref, px_kill_null, iI_lit, iJ_lit, iI_add, iI_sub, iI_mul, iI_neg, iJ_add, iJ_sub, iJ_mul, iJ_neg, iI_lt, iI_le, iI_eq, iJ_lt, iJ_le, iJ_eq, iI_div, iJ_div, tdiv_tmod, iI_J, iJ_I, iI_ix, iI_toInt, iJ_toInt, cmp_ge, cmp_lt, cmp_eq, cmp_gt, cmp_le, cmp_geI, cmp_ltI, cmp_eqI, cmp_gtI, cmp_leI, bI_0I, bI_1I, pin, if_true, e]
def cpM (T : TS) (n : Nat) : TS := (fun q k => if q = 56 ∧ k < n then T.1 55 k else T.1 q k, T.2)
theorem cpM_0 (T : TS) : cpM T 0 = T := by
  refine Prod.ext ?_ rfl
  funext q k
  exact if_neg (by omega)
theorem cpM_s (T : TS) (n : Nat) : sI (cpM T n) 56 n (T.1 55 n) = cpM T (n + 1) := by
  refine Prod.ext ?_ rfl
  funext q k
  rw [sI_get]
  unfold cpM
  simp only
  by_cases e : q = 56 ∧ k = n
  · rw [if_pos e, if_pos (show q = 56 ∧ k < n + 1 by omega), e.2]
  · rw [if_neg e]
    by_cases c : q = 56 ∧ k < n
    · rw [if_pos c, if_pos (show q = 56 ∧ k < n + 1 by omega)]
    · rw [if_neg c, if_neg (show ¬ (q = 56 ∧ k < n + 1) by omega)]
theorem cpM_ne (T : TS) (n : Nat) {q : Nat} (k : Nat) (h : q ≠ 56) : (cpM T n).1 q k = T.1 q k := if_neg (fun z => h z.1)
set_option maxHeartbeats 1000000 in
theorem lp_mtext (T : TS) {r : Nat} (hr : r ≤ 4) (hR : T.1 53 10 = iI (r : Int)) : ∀ (m k : Nat), k + m = 8 * r → rn k_Dm_text 30 [.ref 53, .int (iI (k : Int))] [] (enc (cpM T k)) = some (some (.int (iI (r : Int))), enc (cpM T (8 * r))) := by
  intro m
  induction m with
  | zero =>
    intro k hk
    have e : (k : Int) = 8 * (r : Int) := by omega
    have ek : k = 8 * r := by omega
    have h1 : (cpM T (8 * r)).1 53 10 = iI (r : Int) := by rw [cpM_ne _ _ _ (by omega)]; exact hR
    rw [e, ek, e_Dm_text_30]
    simp (disch := first | omega | assumption | decide | (simp (disch := omega) only [iI_lit, iJ_lit, iJ_eq, iI_eq, bI_01, bI_01I] <;> omega)) only [e_Dm_text_31, e_Dm_text_33, e_Dm_text_34, e_Dm_text_37, e_Dm_text_38, e_Dm_text_41, e_Dm_text_42, e_Dm_text_45, e_Dm_text_46, e_Dm_text_47, e_Dm_text_50, e_Dm_text_51, e_Dm_text_52, e_Dm_text_53, e_Dm_text_56, e_Dm_text_59, e_Dm_text_60, e_Dm_text_63, bd_some, bd_none, Option.toList_some, Option.toList_none, List.nil_append, List.cons_append, px_kill_int, px_kill_long, px_kill_ref, px_kill_null, iI_lit, iJ_lit, iI_add, iI_sub, iI_mul, iI_neg, iJ_add, iJ_sub, iJ_mul, iJ_neg, iI_lt, iI_le, iI_eq, iJ_lt, iJ_le, iJ_eq, iI_div, iJ_div, tdiv_tmod, iI_J, iJ_I, iI_ix, iI_toInt, iJ_toInt, cmp_ge, cmp_lt, cmp_eq, cmp_gt, cmp_le, cmp_geI, cmp_ltI, cmp_eqI, cmp_gtI, cmp_leI, bI_0I, bI_1I, pin, if_true, h1, Int.le_refl]
  | succ m ih =>
    intro k hk
    have nle : ¬ 8 * (r : Int) ≤ (k : Int) := by omega
    have h1 : (cpM T k).1 53 10 = iI (r : Int) := by rw [cpM_ne _ _ _ (by omega)]; exact hR
    have h2 : (cpM T k).1 55 k = T.1 55 k := cpM_ne _ _ _ (by omega)
    have ek : ((k : Int)).toNat = k := by omega
    have e := ih (k + 1) (by omega)
    refine Eq.trans ?_ e
    rw [← cpM_s, show ((k + 1 : Nat) : Int) = (k : Int) + 1 by omega, e_Dm_text_30]
    simp (disch := first | omega | assumption | decide | (simp (disch := omega) only [iI_lit, iJ_lit, iJ_eq, iI_eq, bI_01, bI_01I] <;> omega)) only [e_Dm_text_31, e_Dm_text_33, e_Dm_text_34, e_Dm_text_37, e_Dm_text_38, e_Dm_text_41, e_Dm_text_42, e_Dm_text_45, e_Dm_text_46, e_Dm_text_47, e_Dm_text_50, e_Dm_text_51, e_Dm_text_52, e_Dm_text_53, e_Dm_text_56, bd_some, bd_none, Option.toList_some, Option.toList_none, List.nil_append, List.cons_append, px_kill_int, px_kill_long, px_kill_ref, px_kill_null, iI_lit, iJ_lit, iI_add, iI_sub, iI_mul, iI_neg, iJ_add, iJ_sub, iJ_mul, iJ_neg, iI_lt, iI_le, iI_eq, iJ_lt, iJ_le, iJ_eq, iI_div, iJ_div, tdiv_tmod, iI_J, iJ_I, iI_ix, iI_toInt, iJ_toInt, cmp_ge, cmp_lt, cmp_eq, cmp_gt, cmp_le, cmp_geI, cmp_ltI, cmp_eqI, cmp_gtI, cmp_leI, bI_0I, bI_1I, pin, if_true, h1, nle, if_false, sh_n55, sh_n56, ek, h2]
set_option maxHeartbeats 1000000 in
theorem u_Dm_text {T : TS} {S : FS} (hS : okF S) (h : fM T S) : ∃ T', cl k_Dm_text [.ref 53] (enc T) = some (some (.int (iI (rText S).2)), enc T') ∧ fM T' (rText S).1 ∧ sepM T T' := by
  obtain ⟨h0, s0⟩ := t0_fM h
  obtain ⟨T1, e1, f1, g1⟩ := m_readAll hS.tp h0.2.1 (V0 := (0, S.1.2)) rfl
  have fm1 : FrM (t0 T) T1 := FrM.of f1 (fun q k z => by unfold aPm at z; unfold aRef; omega)
  obtain ⟨h1, s1⟩ := h0.ask fm1
  have bd := prs_bd hS.tp
  have hl := hS.2.1
  unfold rText
  generalize prs S.2.1 = P at *
  cases P with
  | inl e =>
    have b := bd.1 e rfl
    have ne : ¬ (e : Int) = -1 := by omega
    have ans : ansP (.inl e : Nat ⊕ List CL) = (e : Int) := rfl
    rw [ans] at e1
    refine ⟨T1, ?_, h1, s0.tr s1⟩
    simp (disch := first | omega | assumption | decide | (simp (disch := omega) only [iI_lit, iJ_lit, iJ_eq, iI_eq, bI_01, bI_01I] <;> omega)) only [c_Dm_text, e_Dm_text_0, e_Dm_text_1, e_Dm_text_2, e_Dm_text_5, e_Dm_text_6, e_Dm_text_9, e_Dm_text_10, e_Dm_text_13, e_Dm_text_14, e_Dm_text_15, e_Dm_text_16, e_Dm_text_17, e_Dm_text_20, e_Dm_text_21, e_Dm_text_22, e_Dm_text_25, e_Dm_text_28, e_Dm_text_29, bd_some, bd_none, Option.toList_some, Option.toList_none, List.nil_append, List.cons_append, px_kill_int, px_kill_long, px_kill_ref, px_kill_null, iI_lit, iJ_lit, iI_add, iI_sub, iI_mul, iI_neg, iJ_add, iJ_sub, iJ_mul, iJ_neg, iI_lt, iI_le, iI_eq, iJ_lt, iJ_le, iJ_eq, iI_div, iJ_div, tdiv_tmod, iI_J, iJ_I, iI_ix, iI_toInt, iJ_toInt, cmp_ge, cmp_lt, cmp_eq, cmp_gt, cmp_le, cmp_geI, cmp_ltI, cmp_eqI, cmp_gtI, cmp_leI, bI_0I, bI_1I, pin, if_true, e1, ne, if_false]
  | inr l =>
    obtain ⟨b1, b2⟩ := bd.2 l rfl
    obtain ⟨gR, gS⟩ := g1 l rfl
    obtain ⟨c1, c2⟩ := txV_ok (0, S.1.2) rfl l b2
    have ans : ansP (.inr l : Nat ⊕ List CL) = -1 := rfl
    rw [ans] at e1
    show ∃ T', cl k_Dm_text [.ref 53] (enc T) = some (some (.int (iI ((txV (0, S.1.2) l).1 : Int))), enc T') ∧ fM T' (txV (0, S.1.2) l, (0, S.2.1.2), S.2.2) ∧ sepM T T'
    generalize txV (0, S.1.2) l = V at *
    obtain ⟨T2, hT2⟩ : ∃ T2, T2 = sI (sI T1 53 2 (iI 0)) 53 10 (iI (V.1 : Int)) := ⟨_, rfl⟩
    have hR2 : T2.1 53 10 = iI (V.1 : Int) := by rw [hT2]; simp only [sI_get, sJ_get, sI_2, sJ_1, sJ_22, sR_1, sR_21, Nat.reduceEqDiff, and_true, true_and, and_false, false_and, and_self, if_true, if_false, reduceIte]
    have lp := lp_mtext T2 (r := V.1) (by omega) hR2 (8 * V.1) 0 (by omega)
    rw [cpM_0] at lp
    refine ⟨cpM T2 (8 * V.1), ?_, ⟨⟨?_, fun j hj k hk => ?_⟩, ⟨?_, fun k hk => ?_⟩, fun k hk => ?_⟩, (s0.tr s1).tr ⟨fun q k hq => ?_, fun q k hq => ?_, ?_⟩⟩
    · simp (disch := first | omega | assumption | decide | (simp (disch := omega) only [iI_lit, iJ_lit, iJ_eq, iI_eq, bI_01, bI_01I] <;> omega)) only [c_Dm_text, e_Dm_text_0, e_Dm_text_1, e_Dm_text_2, e_Dm_text_5, e_Dm_text_6, e_Dm_text_9, e_Dm_text_10, e_Dm_text_13, e_Dm_text_14, e_Dm_text_15, e_Dm_text_16, e_Dm_text_17, e_Dm_text_20, e_Dm_text_21, e_Dm_text_22, e_Dm_text_25, e_Dm_text_28, e_Dm_text_29, bd_some, bd_none, Option.toList_some, Option.toList_none, List.nil_append, List.cons_append, px_kill_int, px_kill_long, px_kill_ref, px_kill_null, iI_lit, iJ_lit, iI_add, iI_sub, iI_mul, iI_neg, iJ_add, iJ_sub, iJ_mul, iJ_neg, iI_lt, iI_le, iI_eq, iJ_lt, iJ_le, iJ_eq, iI_div, iJ_div, tdiv_tmod, iI_J, iJ_I, iI_ix, iI_toInt, iJ_toInt, cmp_ge, cmp_lt, cmp_eq, cmp_gt, cmp_le, cmp_geI, cmp_ltI, cmp_eqI, cmp_gtI, cmp_leI, bI_0I, bI_1I, pin, if_true, e1, sI_get, sJ_get, sI_2, sJ_1, sJ_22, sR_1, sR_21, Nat.reduceEqDiff, and_true, true_and, and_false, false_and, and_self, if_true, if_false, reduceIte, gR]
      rw [← hT2]
      exact lp
    · rw [cpM_ne _ _ _ (by omega)]; exact hR2
    · have hj' : j < V.1 := hj
      show (if 56 = 56 ∧ 8 * j + k < 8 * V.1 then T2.1 55 (8 * j + k) else T2.1 56 (8 * j + k)) = iI (V.2 j k)
      rw [if_pos (by omega), hT2, wr_ne _ _ (by omega), wr_ne _ _ (by omega)]
      exact gS j hj' k hk
    · rw [cpM_ne _ _ _ (by omega), hT2]
      show _ = iI 0
      simp only [sI_get, sJ_get, sI_2, sJ_1, sJ_22, sR_1, sR_21, Nat.reduceEqDiff, and_true, true_and, and_false, false_and, and_self, if_true, if_false, reduceIte]
    · have : k < 0 := hk
      omega
    · rw [cpM_ne _ _ _ (by omega), hT2, wr_ne _ _ (by omega), wr_ne _ _ (by omega)]
      exact h1.2.2 k hk
    · rw [cpM_ne _ _ _ (by omega), hT2, wr_ne _ _ (by omega), wr_ne _ _ (by omega)]
    · rw [hT2]; rfl
    · rw [hT2]; rfl
