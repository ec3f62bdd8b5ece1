/-! choose of the reference. -/
def aTr (d q k : Nat) : Prop := (q = 53 ∧ ((37 ≤ k ∧ k ≤ 39) ∨ k = 50)) ∨ q = 70 ∨ (q = 71 ∧ d ≤ k)
def bTr (q k : Nat) : Prop := q = 53 ∧ ((35 ≤ k ∧ k ≤ 36) ∨ (45 ≤ k ∧ k ≤ 48))
def bLf (q k : Nat) : Prop := q = 53 ∧ ((35 ≤ k ∧ k ≤ 36) ∨ (45 ≤ k ∧ k ≤ 46))
def hTl (T : TS) (l : List (Nat × Nat)) : Prop := hSq T 68 69 l ∧ T.1 53 44 = iI (l.length : Int)
theorem hTl.tr {T T' : TS} {l : List (Nat × Nat)} {d : Nat} {b : Nat → Nat → Prop} (h : hTl T l) (hf : FrA (aTr d) b T T') : hTl T' l := ⟨h.1.frA hf (fun k => by unfold aTr; omega) (fun k => by unfold aTr; omega), by rw [hf.1 _ _ (by unfold aTr; omega)]; exact h.2⟩
theorem s_cellSq {a b : Int} (g : px_G) : cl k_Dm_cellOfSquare [.int (iI a), .int (iI b)] g = some (some (.int (iI (a * a + b * b))), g) := by
  simp (disch := first | omega | assumption | decide | (simp (disch := omega) only [iI_lit, iJ_lit, iJ_eq, iI_eq, bI_01, bI_01I] <;> omega)) only [c_Dm_cellOfSquare, e_Dm_cellOfSquare_0, e_Dm_cellOfSquare_1, e_Dm_cellOfSquare_2, e_Dm_cellOfSquare_3, e_Dm_cellOfSquare_4, e_Dm_cellOfSquare_5, e_Dm_cellOfSquare_6, e_Dm_cellOfSquare_7, bd_some, bd_none, Option.toList_some, Option.toList_none, List.nil_append, List.cons_append, px_kill_int, px_kill_long, px_kill_ref, px_kill_null, iI_lit, iJ_lit, iI_add, iI_sub, iI_mul, iI_neg, iJ_add, iJ_sub, iJ_mul, iJ_neg, iI_lt, iI_le, iI_eq, iJ_lt, iJ_le, iJ_eq, iI_div, iJ_div, tdiv_tmod, iI_J, iJ_I, iI_ix, iI_toInt, iJ_toInt, cmp_ge, cmp_lt, cmp_eq, cmp_gt, cmp_le, cmp_geI, cmp_ltI, cmp_eqI, cmp_gtI, cmp_leI, bI_0I, bI_1I, pin, if_true]
set_option maxHeartbeats 2000000 in
theorem m_laysFar {l : List (Nat × Nat)} (hl : okQ l) (hlen : l.length ≤ 20) {T : TS} (hT : hTl T l) {a b : Nat} (ha : a < l.length) (hb : b < l.length) : ∃ T', cl k_Dm_laysFar [.ref 53, .int (iI (a : Int)), .int (iI (b : Int))] (enc T) = some (none, enc T') ∧ FrA aMb bLf T T' ∧ T'.2.1 53 45 = iJ (zU l (a, b)) ∧ T'.2.1 53 46 = iJ (zL l (a, b)) := by
  have hf := gQ_ok hl ha
  have hg := gQ_ok hl hb
  obtain ⟨a1, a2⟩ := hT.1 a ha
  obtain ⟨b1, b2⟩ := hT.1 b hb
  obtain ⟨T1, e1, fr1, hb1⟩ := m_laysBeatF hf hg T
  have f0 : ∀ q, sqF q 0 = (q.1 : Int) := fun q => rfl
  have f1 : ∀ q, sqF q 1 = (q.2 : Int) := fun q => rfl
  have f2 : ∀ q, sqF q 2 = -(q.2 : Int) := fun q => rfl
  have f3 : ∀ q, sqF q 3 = (q.1 : Int) := fun q => rfl
  rw [f0, f1, f2, f3, f0, f1, f2, f3] at e1
  have hT1 : ∀ q k, q = 68 ∨ q = 69 → T1.1 q k = T.1 q k := fun q k hq => fr1.1 _ _ (by unfold aMb; omega)
  have a1' : T1.1 68 a = _ := (hT1 68 a (Or.inl rfl)).trans a1
  have a2' : T1.1 69 a = _ := (hT1 69 a (Or.inr rfl)).trans a2
  have b1' : T1.1 68 b = _ := (hT1 68 b (Or.inl rfl)).trans b1
  have b2' : T1.1 69 b = _ := (hT1 69 b (Or.inr rfl)).trans b2
  have qa := hl _ (gD_mem (d := (0, 0)) ha)
  have qb := hl _ (gD_mem (d := (0, 0)) hb)
  have ar1 := sqF_area (gQ l a)
  have ar2 := sqF_area (gQ l b)
  have c1 := s_cellSq (a := ((gQ l a).1 : Int)) (b := ((gQ l a).2 : Int)) (enc T1)
  have c2 := s_cellSq (a := ((gQ l b).1 : Int)) (b := ((gQ l b).2 : Int)) (enc T1)
  have w1 : ((gQ l a).1 : Int) * ((gQ l a).1 : Int) + ((gQ l a).2 : Int) * ((gQ l a).2 : Int) = (((gQ l a).1 * (gQ l a).1 + (gQ l a).2 * (gQ l a).2 : Nat) : Int) := by rw [Int.natCast_add, Int.natCast_mul, Int.natCast_mul]
  have w2 : ((gQ l b).1 : Int) * ((gQ l b).1 : Int) + ((gQ l b).2 : Int) * ((gQ l b).2 : Int) = (((gQ l b).1 * (gQ l b).1 + (gQ l b).2 * (gQ l b).2 : Nat) : Int) := by rw [Int.natCast_add, Int.natCast_mul, Int.natCast_mul]
  rw [w1] at c1
  rw [w2] at c2
  have eU : (((gQ l a).1 * (gQ l a).1 + (gQ l a).2 * (gQ l a).2 : Nat) : Int) * (((gQ l b).1 * (gQ l b).1 + (gQ l b).2 * (gQ l b).2 : Nat) : Int) * ((((gQ l a).1 * (gQ l a).1 + (gQ l a).2 * (gQ l a).2 : Nat) : Int) * (((gQ l b).1 * (gQ l b).1 + (gQ l b).2 * (gQ l b).2 : Nat) : Int)) = zU l (a, b) := by
    unfold zU btU
    rw [ar1, ar2]
  have n1 : (gQ l a).1 * (gQ l a).1 + (gQ l a).2 * (gQ l a).2 ≤ 144 := qa.2.2
  have n2 : (gQ l b).1 * (gQ l b).1 + (gQ l b).2 * (gQ l b).2 ≤ 144 := qb.2.2
  have esq := m_beatL hf hg hb1 (enc (sJ T1 53 45 (iJ (zU l (a, b)))))
  have eLL : btL (sqF (gQ l a)) (sqF (gQ l b)) = zL l (a, b) := rfl
  rw [eLL] at esq
  have r35 : (sJ T1 53 45 (iJ (zU l (a, b)))).2.1 53 35 = T1.2.1 53 35 := by simp only [sI_get, sJ_get, sI_2, sJ_1, sJ_22, sR_1, sR_21, Nat.reduceEqDiff, and_true, true_and, and_false, false_and, and_self, if_true, if_false, reduceIte]
  have r36 : (sJ T1 53 45 (iJ (zU l (a, b)))).2.1 53 36 = T1.2.1 53 36 := by simp only [sI_get, sJ_get, sI_2, sJ_1, sJ_22, sR_1, sR_21, Nat.reduceEqDiff, and_true, true_and, and_false, false_and, and_self, if_true, if_false, reduceIte]
  have ea : ((a : Int)).toNat = a := by omega
  have eb : ((b : Int)).toNat = b := by omega
  refine ⟨sJ (sJ T1 53 45 (iJ (zU l (a, b)))) 53 46 (iJ (zL l (a, b))), ?_, ((fr1.mono (fun q k z => z) (fun q k z => by unfold bMb at z; unfold bLf; omega)).wrJ _ (by unfold bLf; omega)).wrJ _ (by unfold bLf; omega), by simp only [sI_get, sJ_get, sI_2, sJ_1, sJ_22, sR_1, sR_21, Nat.reduceEqDiff, and_true, true_and, and_false, false_and, and_self, if_true, if_false, reduceIte], by simp only [sI_get, sJ_get, sI_2, sJ_1, sJ_22, sR_1, sR_21, Nat.reduceEqDiff, and_true, true_and, and_false, false_and, and_self, if_true, if_false, reduceIte]⟩
  simp only [sI_get, sJ_get, sI_2, sJ_1, sJ_22, sR_1, sR_21, Nat.reduceEqDiff, and_true, true_and, and_false, false_and, and_self, if_true, if_false, reduceIte] at r35 r36
  generalize ((gQ l a).1 * (gQ l a).1 + (gQ l a).2 * (gQ l a).2 : Nat) = A at *
  generalize ((gQ l b).1 * (gQ l b).1 + (gQ l b).2 * (gQ l b).2 : Nat) = B at *
  simp (disch := first | omega | assumption | decide | (simp (disch := omega) only [iI_lit, iJ_lit, iJ_eq, iI_eq, bI_01, bI_01I] <;> omega)) only [c_Dm_laysFar, e_Dm_laysFar_0, e_Dm_laysFar_1, e_Dm_laysFar_2, e_Dm_laysFar_5, e_Dm_laysFar_6, e_Dm_laysFar_7, e_Dm_laysFar_8, e_Dm_laysFar_11, e_Dm_laysFar_12, e_Dm_laysFar_13, e_Dm_laysFar_14, e_Dm_laysFar_17, e_Dm_laysFar_18, e_Dm_laysFar_19, e_Dm_laysFar_20, e_Dm_laysFar_21, e_Dm_laysFar_24, e_Dm_laysFar_25, e_Dm_laysFar_26, e_Dm_laysFar_27, e_Dm_laysFar_30, e_Dm_laysFar_31, e_Dm_laysFar_32, e_Dm_laysFar_33, e_Dm_laysFar_36, e_Dm_laysFar_37, e_Dm_laysFar_38, e_Dm_laysFar_39, e_Dm_laysFar_42, e_Dm_laysFar_43, e_Dm_laysFar_44, e_Dm_laysFar_45, e_Dm_laysFar_46, e_Dm_laysFar_49, e_Dm_laysFar_50, e_Dm_laysFar_51, e_Dm_laysFar_54, e_Dm_laysFar_55, e_Dm_laysFar_58, e_Dm_laysFar_59, e_Dm_laysFar_60, e_Dm_laysFar_61, e_Dm_laysFar_64, e_Dm_laysFar_65, e_Dm_laysFar_66, e_Dm_laysFar_69, e_Dm_laysFar_70, e_Dm_laysFar_71, e_Dm_laysFar_74, e_Dm_laysFar_75, e_Dm_laysFar_76, e_Dm_laysFar_77, e_Dm_laysFar_80, e_Dm_laysFar_81, e_Dm_laysFar_82, e_Dm_laysFar_85, e_Dm_laysFar_86, e_Dm_laysFar_87, e_Dm_laysFar_88, e_Dm_laysFar_89, e_Dm_laysFar_90, e_Dm_laysFar_91, e_Dm_laysFar_92, e_Dm_laysFar_95, e_Dm_laysFar_96, e_Dm_laysFar_97, e_Dm_laysFar_100, e_Dm_laysFar_101, e_Dm_laysFar_104, e_Dm_laysFar_107, e_Dm_laysFar_110, bd_some, bd_none, Option.toList_some, Option.toList_none, List.nil_append, List.cons_append, px_kill_int, px_kill_long, px_kill_ref, px_kill_null, iI_lit, iJ_lit, iI_add, iI_sub, iI_mul, iI_neg, iJ_add, iJ_sub, iJ_mul, iJ_neg, iI_lt, iI_le, iI_eq, iJ_lt, iJ_le, iJ_eq, iI_div, iJ_div, tdiv_tmod, iI_J, iJ_I, iI_ix, iI_toInt, iJ_toInt, cmp_ge, cmp_lt, cmp_eq, cmp_gt, cmp_le, cmp_geI, cmp_ltI, cmp_eqI, cmp_gtI, cmp_leI, bI_0I, bI_1I, pin, if_true, sh_n68, sh_n69, ea, eb, a1, a2, b1, b2, a1', a2', b1', b2', e1, c1, c2, eU, sI_get, sJ_get, sI_2, sJ_1, sJ_22, sR_1, sR_21, Nat.reduceEqDiff, and_true, true_and, and_false, false_and, and_self, if_true, if_false, reduceIte, esq]
def hBm (T : TS) (n : Int) (l : List (Nat × Nat)) (b : CB) : Prop := match b with
  | none => T.1 53 50 = iI 0
  | some x => T.1 53 50 = iI 1 ∧ T.2.1 53 47 = iJ (zU l x.1) ∧ T.2.1 53 48 = iJ (zL l x.1) ∧ T.1 70 0 = iI (x.2.1 : Int) ∧ T.1 70 1 = iI (x.2.2.1 : Int) ∧ (n = 3 → T.1 70 2 = iI (x.2.2.2 : Int))
theorem hBm.fr {T T' : TS} {n : Int} {l : List (Nat × Nat)} {b : CB} (h : hBm T n l b) (h1 : T'.1 53 50 = T.1 53 50) (h2 : ∀ k, T'.1 70 k = T.1 70 k) (h3 : T'.2.1 53 47 = T.2.1 53 47) (h4 : T'.2.1 53 48 = T.2.1 53 48) : hBm T' n l b := by
  cases b with
  | none => exact h1.trans h
  | some x => exact ⟨h1.trans h.1, h3.trans h.2.1, h4.trans h.2.2.1, (h2 0).trans h.2.2.2.1, (h2 1).trans h.2.2.2.2.1, fun z => (h2 2).trans (h.2.2.2.2.2 z)⟩
theorem hBm.lf {T T' : TS} {n : Int} {l : List (Nat × Nat)} {b : CB} (h : hBm T n l b) (hf : FrA aMb bLf T T') : hBm T' n l b := h.fr (hf.1 _ _ (by unfold aMb; omega)) (fun k => hf.1 _ _ (by unfold aMb; omega)) (hf.2.1 _ _ (by unfold bLf; omega)) (hf.2.1 _ _ (by unfold bLf; omega))
theorem zz_bd {l : List (Nat × Nat)} (hl : okQ l) {c : Nat × Nat} (hc : isCp l c) : (0 < zU l c ∧ zU l c ≤ 429981696) ∧ (0 < zL l c ∧ zL l c ≤ 23887872) := ⟨btU_bd (gQ_ok hl (by have := hc.1; have := hc.2; omega)) (gQ_ok hl hc.2), btL_bd (gQ_ok hl (by have := hc.1; have := hc.2; omega)) (gQ_ok hl hc.2)⟩

set_option maxHeartbeats 4000000 in
theorem leaf2 {l : List (Nat × Nat)} (hl : okQ l) (hlen : l.length ≤ 20) {m : Int} (hm : m = 0 ∨ m = 1) {T : TS} {b : CB} (hb : okD l b) (hB : hBm T 2 l b) {c : Nat × Nat} (hc : isCp l c) {i j k : Nat} (r0 : T.1 71 0 = iI (i : Int)) (r1 : T.1 71 1 = iI (j : Int)) (r2 : (2 : Int) = 3 → T.1 71 2 = iI (k : Int)) : ∃ T', cl k_Dm_tries2 [.ref 53, .ref 71, .int (iI 2), .int (iI 2), .long (iJ (zU l c)), .long (iJ (zL l c)), .int (iI m)] (enc T) = some (none, enc T') ∧ FrA (aTr 3) bTr T T' ∧ hBm T' 2 l (pps m l b c (i, j, k)) := by
  obtain ⟨T1, hT1⟩ : ∃ T1, T1 = sJ (sJ (sI T 53 50 (iI 1)) 53 47 (iJ (zU l c))) 53 48 (iJ (zL l c)) := ⟨_, rfl⟩
  obtain ⟨T2, hT2⟩ : ∃ T2, T2 = sI (sI T1 70 0 (iI (i : Int))) 70 1 (iI (j : Int)) := ⟨_, rfl⟩
  have n0 : (0 : Int).toNat = 0 := rfl
  have n1 : (1 : Int).toNat = 1 := rfl
  have n2 : (2 : Int).toNat = 2 := rfl
  have v0 : ¬ (2 : Int) ≤ 0 := by omega
  have v1 : ¬ (2 : Int) ≤ 1 := by omega
  have bc := zz_bd hl hc
  have take : ∀ a10 a11 a12 a13 a14 a15 : Value, rn k_Dm_tries2 61 [.ref 53, .ref 71, .int (iI 2), .int (iI 2), .long (iJ (zU l c)), .null, .long (iJ (zL l c)), .null, .int (iI m), .null, a10, a11, a12, a13, a14, a15] [.int (iI 1)] (enc T) = some (none, enc T2) := by
    intro a10 a11 a12 a13 a14 a15
    have q0 : T1.1 71 0 = iI (i : Int) := by rw [hT1]; simp only [sI_get, sJ_get, sI_2, sJ_1, sJ_22, sR_1, sR_21, Nat.reduceEqDiff, and_true, true_and, and_false, false_and, and_self, if_true, if_false, reduceIte]; exact r0
    have q1 : ∀ T' : TS, (∀ k, T'.1 71 k = T1.1 71 k) → T'.1 71 0 = iI (i : Int) ∧ T'.1 71 1 = iI (j : Int) := by
      intro T' h
      refine ⟨(h 0).trans q0, (h 1).trans ?_⟩
      · rw [hT1]; simp only [sI_get, sJ_get, sI_2, sJ_1, sJ_22, sR_1, sR_21, Nat.reduceEqDiff, and_true, true_and, and_false, false_and, and_self, if_true, if_false, reduceIte]; exact r1
    have s1 : rn k_Dm_tries2 61 [.ref 53, .ref 71, .int (iI 2), .int (iI 2), .long (iJ (zU l c)), .null, .long (iJ (zL l c)), .null, .int (iI m), .null, a10, a11, a12, a13, a14, a15] [.int (iI 1)] (enc T) = rn k_Dm_tries2 88 [.ref 53, .ref 71, .int (iI 2), .int (iI 2), .long (iJ (zU l c)), .null, .long (iJ (zL l c)), .null, .int (iI m), .int (iI 1), .int (iI 0), a11, a12, a13, a14, a15] [] (enc T1) := by
      rw [hT1]
      simp (disch := first | omega | assumption | decide | (simp (disch := omega) only [iI_lit, iJ_lit, iJ_eq, iI_eq, bI_01, bI_01I] <;> omega)) only [e_Dm_tries2_61, e_Dm_tries2_63, e_Dm_tries2_65, e_Dm_tries2_68, e_Dm_tries2_69, e_Dm_tries2_70, e_Dm_tries2_73, e_Dm_tries2_74, e_Dm_tries2_76, e_Dm_tries2_79, e_Dm_tries2_80, e_Dm_tries2_82, e_Dm_tries2_85, e_Dm_tries2_86, bd_some, bd_none, Option.toList_some, Option.toList_none, List.nil_append, List.cons_append, px_kill_int, px_kill_long, px_kill_ref, px_kill_null, iI_lit, iJ_lit, iI_add, iI_sub, iI_mul, iI_neg, iJ_add, iJ_sub, iJ_mul, iJ_neg, iI_lt, iI_le, iI_eq, iJ_lt, iJ_le, iJ_eq, iI_div, iJ_div, tdiv_tmod, iI_J, iJ_I, iI_ix, iI_toInt, iJ_toInt, cmp_ge, cmp_lt, cmp_eq, cmp_gt, cmp_le, cmp_geI, cmp_ltI, cmp_eqI, cmp_gtI, cmp_leI, bI_0I, bI_1I, pin, if_true, one0, if_false]
    rw [s1, hT2]
    have p0 := q1 T1 (fun k => rfl)
    have p1 := q1 (sI T1 70 0 (iI (i : Int))) (fun k => by simp only [sI_get, sJ_get, sI_2, sJ_1, sJ_22, sR_1, sR_21, Nat.reduceEqDiff, and_true, true_and, and_false, false_and, and_self, if_true, if_false, reduceIte])
    have p2 := q1 (sI (sI T1 70 0 (iI (i : Int))) 70 1 (iI (j : Int))) (fun k => by simp only [sI_get, sJ_get, sI_2, sJ_1, sJ_22, sR_1, sR_21, Nat.reduceEqDiff, and_true, true_and, and_false, false_and, and_self, if_true, if_false, reduceIte])
    have w0 : rn k_Dm_tries2 88 [.ref 53, .ref 71, .int (iI 2), .int (iI 2), .long (iJ (zU l c)), .null, .long (iJ (zL l c)), .null, .int (iI m), .int (iI 1), .int (iI 0), a11, a12, a13, a14, a15] [] (enc T1) = rn k_Dm_tries2 88 [.ref 53, .ref 71, .int (iI 2), .int (iI 2), .long (iJ (zU l c)), .null, .long (iJ (zL l c)), .null, .int (iI m), .int (iI 1), .int (iI 1), a11, a12, a13, a14, a15] [] (enc (sI T1 70 0 (iI (i : Int)))) := by
      rw [e_Dm_tries2_88]
      simp (disch := first | omega | assumption | decide | (simp (disch := omega) only [iI_lit, iJ_lit, iJ_eq, iI_eq, bI_01, bI_01I] <;> omega)) only [e_Dm_tries2_90, e_Dm_tries2_91, e_Dm_tries2_94, e_Dm_tries2_95, e_Dm_tries2_98, e_Dm_tries2_100, e_Dm_tries2_101, e_Dm_tries2_103, e_Dm_tries2_104, e_Dm_tries2_105, e_Dm_tries2_108, bd_some, bd_none, Option.toList_some, Option.toList_none, List.nil_append, List.cons_append, px_kill_int, px_kill_long, px_kill_ref, px_kill_null, iI_lit, iJ_lit, iI_add, iI_sub, iI_mul, iI_neg, iJ_add, iJ_sub, iJ_mul, iJ_neg, iI_lt, iI_le, iI_eq, iJ_lt, iJ_le, iJ_eq, iI_div, iJ_div, tdiv_tmod, iI_J, iJ_I, iI_ix, iI_toInt, iJ_toInt, cmp_ge, cmp_lt, cmp_eq, cmp_gt, cmp_le, cmp_geI, cmp_ltI, cmp_eqI, cmp_gtI, cmp_leI, bI_0I, bI_1I, pin, if_true, v0, if_false, sh_n70, sh_n71, n0, p0.1, Int.zero_add]
    have w1 : rn k_Dm_tries2 88 [.ref 53, .ref 71, .int (iI 2), .int (iI 2), .long (iJ (zU l c)), .null, .long (iJ (zL l c)), .null, .int (iI m), .int (iI 1), .int (iI 1), a11, a12, a13, a14, a15] [] (enc (sI T1 70 0 (iI (i : Int)))) = rn k_Dm_tries2 88 [.ref 53, .ref 71, .int (iI 2), .int (iI 2), .long (iJ (zU l c)), .null, .long (iJ (zL l c)), .null, .int (iI m), .int (iI 1), .int (iI 2), a11, a12, a13, a14, a15] [] (enc (sI (sI T1 70 0 (iI (i : Int))) 70 1 (iI (j : Int)))) := by
      rw [e_Dm_tries2_88]
      have p11 := p1.2
      simp (disch := first | omega | assumption | decide | (simp (disch := omega) only [iI_lit, iJ_lit, iJ_eq, iI_eq, bI_01, bI_01I] <;> omega)) only [e_Dm_tries2_90, e_Dm_tries2_91, e_Dm_tries2_94, e_Dm_tries2_95, e_Dm_tries2_98, e_Dm_tries2_100, e_Dm_tries2_101, e_Dm_tries2_103, e_Dm_tries2_104, e_Dm_tries2_105, e_Dm_tries2_108, bd_some, bd_none, Option.toList_some, Option.toList_none, List.nil_append, List.cons_append, px_kill_int, px_kill_long, px_kill_ref, px_kill_null, iI_lit, iJ_lit, iI_add, iI_sub, iI_mul, iI_neg, iJ_add, iJ_sub, iJ_mul, iJ_neg, iI_lt, iI_le, iI_eq, iJ_lt, iJ_le, iJ_eq, iI_div, iJ_div, tdiv_tmod, iI_J, iJ_I, iI_ix, iI_toInt, iJ_toInt, cmp_ge, cmp_lt, cmp_eq, cmp_gt, cmp_le, cmp_geI, cmp_ltI, cmp_eqI, cmp_gtI, cmp_leI, bI_0I, bI_1I, pin, if_true, v1, if_false, sh_n70, sh_n71, n1, p11]
      rfl
    rw [w0, w1, e_Dm_tries2_88]
    simp (disch := first | omega | assumption | decide | (simp (disch := omega) only [iI_lit, iJ_lit, iJ_eq, iI_eq, bI_01, bI_01I] <;> omega)) only [e_Dm_tries2_90, e_Dm_tries2_91, e_Dm_tries2_94, e_Dm_tries2_95, e_Dm_tries2_98, e_Dm_tries2_100, e_Dm_tries2_101, e_Dm_tries2_103, e_Dm_tries2_104, e_Dm_tries2_105, e_Dm_tries2_108, e_Dm_tries2_111, bd_some, bd_none, Option.toList_some, Option.toList_none, List.nil_append, List.cons_append, px_kill_int, px_kill_long, px_kill_ref, px_kill_null, iI_lit, iJ_lit, iI_add, iI_sub, iI_mul, iI_neg, iJ_add, iJ_sub, iJ_mul, iJ_neg, iI_lt, iI_le, iI_eq, iJ_lt, iJ_le, iJ_eq, iI_div, iJ_div, tdiv_tmod, iI_J, iJ_I, iI_ix, iI_toInt, iJ_toInt, cmp_ge, cmp_lt, cmp_eq, cmp_gt, cmp_le, cmp_geI, cmp_ltI, cmp_eqI, cmp_gtI, cmp_leI, bI_0I, bI_1I, pin, if_true, Int.le_refl]
  have fr : FrA (aTr 3) bTr T T2 := by
    rw [hT2, hT1]
    exact ((((((FrA.rf (aTr 3) bTr T).wr _ (by unfold aTr; omega)).wrJ _ (by unfold bTr; omega)).wrJ _ (by unfold bTr; omega)).wr _ (by unfold aTr; omega)).wr _ (by unfold aTr; omega))
  have hBt : hBm T2 2 l (some (c, (i, j, k))) := by
    rw [hT2, hT1]
    unfold hBm
    simp only [sI_get, sJ_get, sI_2, sJ_1, sJ_22, sR_1, sR_21, Nat.reduceEqDiff, and_true, true_and, and_false, false_and, and_self, if_true, if_false, reduceIte, true_implies, imp_self, show ¬ (2 : Int) = 3 by omega, false_implies]
  cases b with
  | none =>
    refine ⟨T2, ?_, fr, hBt⟩
    have hB' : T.1 53 50 = iI 0 := hB
    simp (disch := first | omega | assumption | decide | (simp (disch := omega) only [iI_lit, iJ_lit, iJ_eq, iI_eq, bI_01, bI_01I] <;> omega)) only [c_Dm_tries2, e_Dm_tries2_0, e_Dm_tries2_1, e_Dm_tries2_2, e_Dm_tries2_5, e_Dm_tries2_6, e_Dm_tries2_9, e_Dm_tries2_12, e_Dm_tries2_14, e_Dm_tries2_17, e_Dm_tries2_19, e_Dm_tries2_20, e_Dm_tries2_23, e_Dm_tries2_24, e_Dm_tries2_25, e_Dm_tries2_28, e_Dm_tries2_30, e_Dm_tries2_31, e_Dm_tries2_32, e_Dm_tries2_35, e_Dm_tries2_38, e_Dm_tries2_40, e_Dm_tries2_41, e_Dm_tries2_44, e_Dm_tries2_45, e_Dm_tries2_46, e_Dm_tries2_49, e_Dm_tries2_51, e_Dm_tries2_52, e_Dm_tries2_53, e_Dm_tries2_56, e_Dm_tries2_57, e_Dm_tries2_60, bd_some, bd_none, Option.toList_some, Option.toList_none, List.nil_append, List.cons_append, px_kill_int, px_kill_long, px_kill_ref, px_kill_null, iI_lit, iJ_lit, iI_add, iI_sub, iI_mul, iI_neg, iJ_add, iJ_sub, iJ_mul, iJ_neg, iI_lt, iI_le, iI_eq, iJ_lt, iJ_le, iJ_eq, iI_div, iJ_div, tdiv_tmod, iI_J, iJ_I, iI_ix, iI_toInt, iJ_toInt, cmp_ge, cmp_lt, cmp_eq, cmp_gt, cmp_le, cmp_geI, cmp_ltI, cmp_eqI, cmp_gtI, cmp_leI, bI_0I, bI_1I, pin, if_true, hB']
    exact take _ _ _ _ _ _
  | some x =>
    obtain ⟨hB1, hB2, hB3, hB4⟩ := id hB
    obtain ⟨hx, _⟩ := hb x rfl
    have bx := zz_bd hl hx
    have x1 := mul_bd2 ⟨Int.le_of_lt bc.1.1, bc.1.2⟩ ⟨Int.le_of_lt bx.2.1, bx.2.2⟩
    have x2 := mul_bd2 ⟨Int.le_of_lt bx.1.1, bx.1.2⟩ ⟨Int.le_of_lt bc.2.1, bc.2.2⟩
    by_cases d : bhd m l x.1 c
    · have e : pps m l (some x) c (i, j, k) = some (c, (i, j, k)) := if_pos d
      rw [e]
      refine ⟨T2, ?_, fr, hBt⟩
      rcases d with ⟨d1, d2⟩ | ⟨d1, d2⟩
      · subst d1
        have c1 : ¬ zU l c * zL l x.1 ≤ zU l x.1 * zL l c := Int.not_le.mpr d2
        simp (disch := first | omega | assumption | decide | (simp (disch := omega) only [iI_lit, iJ_lit, iJ_eq, iI_eq, bI_01, bI_01I] <;> omega)) only [c_Dm_tries2, e_Dm_tries2_0, e_Dm_tries2_1, e_Dm_tries2_2, e_Dm_tries2_5, e_Dm_tries2_6, e_Dm_tries2_9, e_Dm_tries2_12, e_Dm_tries2_14, e_Dm_tries2_17, e_Dm_tries2_19, e_Dm_tries2_20, e_Dm_tries2_23, e_Dm_tries2_24, e_Dm_tries2_25, e_Dm_tries2_28, e_Dm_tries2_30, e_Dm_tries2_31, e_Dm_tries2_32, e_Dm_tries2_35, e_Dm_tries2_38, e_Dm_tries2_40, e_Dm_tries2_41, e_Dm_tries2_44, e_Dm_tries2_45, e_Dm_tries2_46, e_Dm_tries2_49, e_Dm_tries2_51, e_Dm_tries2_52, e_Dm_tries2_53, e_Dm_tries2_56, e_Dm_tries2_57, e_Dm_tries2_60, bd_some, bd_none, Option.toList_some, Option.toList_none, List.nil_append, List.cons_append, px_kill_int, px_kill_long, px_kill_ref, px_kill_null, iI_lit, iJ_lit, iI_add, iI_sub, iI_mul, iI_neg, iJ_add, iJ_sub, iJ_mul, iJ_neg, iI_lt, iI_le, iI_eq, iJ_lt, iJ_le, iJ_eq, iI_div, iJ_div, tdiv_tmod, iI_J, iJ_I, iI_ix, iI_toInt, iJ_toInt, cmp_ge, cmp_lt, cmp_eq, cmp_gt, cmp_le, cmp_geI, cmp_ltI, cmp_eqI, cmp_gtI, cmp_leI, bI_0I, bI_1I, pin, if_true, hB1, hB2, hB3, one0, if_false, c1]
        exact take _ _ _ _ _ _
      · subst d1
        have c1 : ¬ zU l x.1 * zL l c ≤ zU l c * zL l x.1 := Int.not_le.mpr d2
        simp (disch := first | omega | assumption | decide | (simp (disch := omega) only [iI_lit, iJ_lit, iJ_eq, iI_eq, bI_01, bI_01I] <;> omega)) only [c_Dm_tries2, e_Dm_tries2_0, e_Dm_tries2_1, e_Dm_tries2_2, e_Dm_tries2_5, e_Dm_tries2_6, e_Dm_tries2_9, e_Dm_tries2_12, e_Dm_tries2_14, e_Dm_tries2_17, e_Dm_tries2_19, e_Dm_tries2_20, e_Dm_tries2_23, e_Dm_tries2_24, e_Dm_tries2_25, e_Dm_tries2_28, e_Dm_tries2_30, e_Dm_tries2_31, e_Dm_tries2_32, e_Dm_tries2_35, e_Dm_tries2_38, e_Dm_tries2_40, e_Dm_tries2_41, e_Dm_tries2_44, e_Dm_tries2_45, e_Dm_tries2_46, e_Dm_tries2_49, e_Dm_tries2_51, e_Dm_tries2_52, e_Dm_tries2_53, e_Dm_tries2_56, e_Dm_tries2_57, e_Dm_tries2_60, bd_some, bd_none, Option.toList_some, Option.toList_none, List.nil_append, List.cons_append, px_kill_int, px_kill_long, px_kill_ref, px_kill_null, iI_lit, iJ_lit, iI_add, iI_sub, iI_mul, iI_neg, iJ_add, iJ_sub, iJ_mul, iJ_neg, iI_lt, iI_le, iI_eq, iJ_lt, iJ_le, iJ_eq, iI_div, iJ_div, tdiv_tmod, iI_J, iJ_I, iI_ix, iI_toInt, iJ_toInt, cmp_ge, cmp_lt, cmp_eq, cmp_gt, cmp_le, cmp_geI, cmp_ltI, cmp_eqI, cmp_gtI, cmp_leI, bI_0I, bI_1I, pin, if_true, hB1, hB2, hB3, one0, if_false, c1]
        exact take _ _ _ _ _ _
    · have e : pps m l (some x) c (i, j, k) = some x := if_neg d
      rw [e]
      refine ⟨T, ?_, FrA.rf _ _ _, hB⟩
      rcases hm with hm | hm
      · subst hm
        have c1 : zU l x.1 * zL l c ≤ zU l c * zL l x.1 := Int.not_lt.mp (fun z => d (Or.inr ⟨rfl, z⟩))
        simp (disch := first | omega | assumption | decide | (simp (disch := omega) only [iI_lit, iJ_lit, iJ_eq, iI_eq, bI_01, bI_01I] <;> omega)) only [c_Dm_tries2, e_Dm_tries2_0, e_Dm_tries2_1, e_Dm_tries2_2, e_Dm_tries2_5, e_Dm_tries2_6, e_Dm_tries2_9, e_Dm_tries2_12, e_Dm_tries2_14, e_Dm_tries2_17, e_Dm_tries2_19, e_Dm_tries2_20, e_Dm_tries2_23, e_Dm_tries2_24, e_Dm_tries2_25, e_Dm_tries2_28, e_Dm_tries2_30, e_Dm_tries2_31, e_Dm_tries2_32, e_Dm_tries2_35, e_Dm_tries2_38, e_Dm_tries2_40, e_Dm_tries2_41, e_Dm_tries2_44, e_Dm_tries2_45, e_Dm_tries2_46, e_Dm_tries2_49, e_Dm_tries2_51, e_Dm_tries2_52, e_Dm_tries2_53, e_Dm_tries2_56, e_Dm_tries2_57, e_Dm_tries2_60, e_Dm_tries2_61, e_Dm_tries2_63, e_Dm_tries2_65, e_Dm_tries2_111, bd_some, bd_none, Option.toList_some, Option.toList_none, List.nil_append, List.cons_append, px_kill_int, px_kill_long, px_kill_ref, px_kill_null, iI_lit, iJ_lit, iI_add, iI_sub, iI_mul, iI_neg, iJ_add, iJ_sub, iJ_mul, iJ_neg, iI_lt, iI_le, iI_eq, iJ_lt, iJ_le, iJ_eq, iI_div, iJ_div, tdiv_tmod, iI_J, iJ_I, iI_ix, iI_toInt, iJ_toInt, cmp_ge, cmp_lt, cmp_eq, cmp_gt, cmp_le, cmp_geI, cmp_ltI, cmp_eqI, cmp_gtI, cmp_leI, bI_0I, bI_1I, pin, if_true, hB1, hB2, hB3, one0, if_false, c1]
      · subst hm
        have c1 : zU l c * zL l x.1 ≤ zU l x.1 * zL l c := Int.not_lt.mp (fun z => d (Or.inl ⟨rfl, z⟩))
        simp (disch := first | omega | assumption | decide | (simp (disch := omega) only [iI_lit, iJ_lit, iJ_eq, iI_eq, bI_01, bI_01I] <;> omega)) only [c_Dm_tries2, e_Dm_tries2_0, e_Dm_tries2_1, e_Dm_tries2_2, e_Dm_tries2_5, e_Dm_tries2_6, e_Dm_tries2_9, e_Dm_tries2_12, e_Dm_tries2_14, e_Dm_tries2_17, e_Dm_tries2_19, e_Dm_tries2_20, e_Dm_tries2_23, e_Dm_tries2_24, e_Dm_tries2_25, e_Dm_tries2_28, e_Dm_tries2_30, e_Dm_tries2_31, e_Dm_tries2_32, e_Dm_tries2_35, e_Dm_tries2_38, e_Dm_tries2_40, e_Dm_tries2_41, e_Dm_tries2_44, e_Dm_tries2_45, e_Dm_tries2_46, e_Dm_tries2_49, e_Dm_tries2_51, e_Dm_tries2_52, e_Dm_tries2_53, e_Dm_tries2_56, e_Dm_tries2_57, e_Dm_tries2_60, e_Dm_tries2_61, e_Dm_tries2_63, e_Dm_tries2_65, e_Dm_tries2_111, bd_some, bd_none, Option.toList_some, Option.toList_none, List.nil_append, List.cons_append, px_kill_int, px_kill_long, px_kill_ref, px_kill_null, iI_lit, iJ_lit, iI_add, iI_sub, iI_mul, iI_neg, iJ_add, iJ_sub, iJ_mul, iJ_neg, iI_lt, iI_le, iI_eq, iJ_lt, iJ_le, iJ_eq, iI_div, iJ_div, tdiv_tmod, iI_J, iJ_I, iI_ix, iI_toInt, iJ_toInt, cmp_ge, cmp_lt, cmp_eq, cmp_gt, cmp_le, cmp_geI, cmp_ltI, cmp_eqI, cmp_gtI, cmp_leI, bI_0I, bI_1I, pin, if_true, hB1, hB2, hB3, one0, if_false, c1]

set_option maxHeartbeats 4000000 in
theorem leaf3 {l : List (Nat × Nat)} (hl : okQ l) (hlen : l.length ≤ 20) {m : Int} (hm : m = 0 ∨ m = 1) {T : TS} {b : CB} (hb : okD l b) (hB : hBm T 3 l b) {c : Nat × Nat} (hc : isCp l c) {i j k : Nat} (r0 : T.1 71 0 = iI (i : Int)) (r1 : T.1 71 1 = iI (j : Int)) (r2 : (3 : Int) = 3 → T.1 71 2 = iI (k : Int)) : ∃ T', cl k_Dm_tries3 [.ref 53, .ref 71, .int (iI 3), .int (iI 3), .long (iJ (zU l c)), .long (iJ (zL l c)), .int (iI m)] (enc T) = some (none, enc T') ∧ FrA (aTr 3) bTr T T' ∧ hBm T' 3 l (pps m l b c (i, j, k)) := by
  obtain ⟨T1, hT1⟩ : ∃ T1, T1 = sJ (sJ (sI T 53 50 (iI 1)) 53 47 (iJ (zU l c))) 53 48 (iJ (zL l c)) := ⟨_, rfl⟩
  obtain ⟨T2, hT2⟩ : ∃ T2, T2 = sI (sI (sI T1 70 0 (iI (i : Int))) 70 1 (iI (j : Int))) 70 2 (iI (k : Int)) := ⟨_, rfl⟩
  have n0 : (0 : Int).toNat = 0 := rfl
  have n1 : (1 : Int).toNat = 1 := rfl
  have n2 : (2 : Int).toNat = 2 := rfl
  have v0 : ¬ (3 : Int) ≤ 0 := by omega
  have v1 : ¬ (3 : Int) ≤ 1 := by omega
  have v2 : ¬ (3 : Int) ≤ 2 := by omega
  have bc := zz_bd hl hc
  have take : ∀ a10 a11 a12 a13 a14 a15 : Value, rn k_Dm_tries3 61 [.ref 53, .ref 71, .int (iI 3), .int (iI 3), .long (iJ (zU l c)), .null, .long (iJ (zL l c)), .null, .int (iI m), .null, a10, a11, a12, a13, a14, a15] [.int (iI 1)] (enc T) = some (none, enc T2) := by
    intro a10 a11 a12 a13 a14 a15
    have q0 : T1.1 71 0 = iI (i : Int) := by rw [hT1]; simp only [sI_get, sJ_get, sI_2, sJ_1, sJ_22, sR_1, sR_21, Nat.reduceEqDiff, and_true, true_and, and_false, false_and, and_self, if_true, if_false, reduceIte]; exact r0
    have q1 : ∀ T' : TS, (∀ k, T'.1 71 k = T1.1 71 k) → T'.1 71 0 = iI (i : Int) ∧ T'.1 71 1 = iI (j : Int) ∧ T'.1 71 2 = iI (k : Int) := by
      intro T' h
      refine ⟨(h 0).trans q0, (h 1).trans ?_, (h 2).trans ?_⟩
      · rw [hT1]; simp only [sI_get, sJ_get, sI_2, sJ_1, sJ_22, sR_1, sR_21, Nat.reduceEqDiff, and_true, true_and, and_false, false_and, and_self, if_true, if_false, reduceIte]; exact r1
      · rw [hT1]; simp only [sI_get, sJ_get, sI_2, sJ_1, sJ_22, sR_1, sR_21, Nat.reduceEqDiff, and_true, true_and, and_false, false_and, and_self, if_true, if_false, reduceIte]; exact r2 rfl
    have s1 : rn k_Dm_tries3 61 [.ref 53, .ref 71, .int (iI 3), .int (iI 3), .long (iJ (zU l c)), .null, .long (iJ (zL l c)), .null, .int (iI m), .null, a10, a11, a12, a13, a14, a15] [.int (iI 1)] (enc T) = rn k_Dm_tries3 88 [.ref 53, .ref 71, .int (iI 3), .int (iI 3), .long (iJ (zU l c)), .null, .long (iJ (zL l c)), .null, .int (iI m), .int (iI 1), .int (iI 0), a11, a12, a13, a14, a15] [] (enc T1) := by
      rw [hT1]
      simp (disch := first | omega | assumption | decide | (simp (disch := omega) only [iI_lit, iJ_lit, iJ_eq, iI_eq, bI_01, bI_01I] <;> omega)) only [e_Dm_tries3_61, e_Dm_tries3_63, e_Dm_tries3_65, e_Dm_tries3_68, e_Dm_tries3_69, e_Dm_tries3_70, e_Dm_tries3_73, e_Dm_tries3_74, e_Dm_tries3_76, e_Dm_tries3_79, e_Dm_tries3_80, e_Dm_tries3_82, e_Dm_tries3_85, e_Dm_tries3_86, bd_some, bd_none, Option.toList_some, Option.toList_none, List.nil_append, List.cons_append, px_kill_int, px_kill_long, px_kill_ref, px_kill_null, iI_lit, iJ_lit, iI_add, iI_sub, iI_mul, iI_neg, iJ_add, iJ_sub, iJ_mul, iJ_neg, iI_lt, iI_le, iI_eq, iJ_lt, iJ_le, iJ_eq, iI_div, iJ_div, tdiv_tmod, iI_J, iJ_I, iI_ix, iI_toInt, iJ_toInt, cmp_ge, cmp_lt, cmp_eq, cmp_gt, cmp_le, cmp_geI, cmp_ltI, cmp_eqI, cmp_gtI, cmp_leI, bI_0I, bI_1I, pin, if_true, one0, if_false]
    rw [s1, hT2]
    have p0 := q1 T1 (fun k => rfl)
    have p1 := q1 (sI T1 70 0 (iI (i : Int))) (fun k => by simp only [sI_get, sJ_get, sI_2, sJ_1, sJ_22, sR_1, sR_21, Nat.reduceEqDiff, and_true, true_and, and_false, false_and, and_self, if_true, if_false, reduceIte])
    have p2 := q1 (sI (sI T1 70 0 (iI (i : Int))) 70 1 (iI (j : Int))) (fun k => by simp only [sI_get, sJ_get, sI_2, sJ_1, sJ_22, sR_1, sR_21, Nat.reduceEqDiff, and_true, true_and, and_false, false_and, and_self, if_true, if_false, reduceIte])
    have w0 : rn k_Dm_tries3 88 [.ref 53, .ref 71, .int (iI 3), .int (iI 3), .long (iJ (zU l c)), .null, .long (iJ (zL l c)), .null, .int (iI m), .int (iI 1), .int (iI 0), a11, a12, a13, a14, a15] [] (enc T1) = rn k_Dm_tries3 88 [.ref 53, .ref 71, .int (iI 3), .int (iI 3), .long (iJ (zU l c)), .null, .long (iJ (zL l c)), .null, .int (iI m), .int (iI 1), .int (iI 1), a11, a12, a13, a14, a15] [] (enc (sI T1 70 0 (iI (i : Int)))) := by
      rw [e_Dm_tries3_88]
      simp (disch := first | omega | assumption | decide | (simp (disch := omega) only [iI_lit, iJ_lit, iJ_eq, iI_eq, bI_01, bI_01I] <;> omega)) only [e_Dm_tries3_90, e_Dm_tries3_91, e_Dm_tries3_94, e_Dm_tries3_95, e_Dm_tries3_98, e_Dm_tries3_100, e_Dm_tries3_101, e_Dm_tries3_103, e_Dm_tries3_104, e_Dm_tries3_105, e_Dm_tries3_108, bd_some, bd_none, Option.toList_some, Option.toList_none, List.nil_append, List.cons_append, px_kill_int, px_kill_long, px_kill_ref, px_kill_null, iI_lit, iJ_lit, iI_add, iI_sub, iI_mul, iI_neg, iJ_add, iJ_sub, iJ_mul, iJ_neg, iI_lt, iI_le, iI_eq, iJ_lt, iJ_le, iJ_eq, iI_div, iJ_div, tdiv_tmod, iI_J, iJ_I, iI_ix, iI_toInt, iJ_toInt, cmp_ge, cmp_lt, cmp_eq, cmp_gt, cmp_le, cmp_geI, cmp_ltI, cmp_eqI, cmp_gtI, cmp_leI, bI_0I, bI_1I, pin, if_true, v0, if_false, sh_n70, sh_n71, n0, p0.1, Int.zero_add]
    have w1 : rn k_Dm_tries3 88 [.ref 53, .ref 71, .int (iI 3), .int (iI 3), .long (iJ (zU l c)), .null, .long (iJ (zL l c)), .null, .int (iI m), .int (iI 1), .int (iI 1), a11, a12, a13, a14, a15] [] (enc (sI T1 70 0 (iI (i : Int)))) = rn k_Dm_tries3 88 [.ref 53, .ref 71, .int (iI 3), .int (iI 3), .long (iJ (zU l c)), .null, .long (iJ (zL l c)), .null, .int (iI m), .int (iI 1), .int (iI 2), a11, a12, a13, a14, a15] [] (enc (sI (sI T1 70 0 (iI (i : Int))) 70 1 (iI (j : Int)))) := by
      rw [e_Dm_tries3_88]
      have p11 := p1.2.1
      simp (disch := first | omega | assumption | decide | (simp (disch := omega) only [iI_lit, iJ_lit, iJ_eq, iI_eq, bI_01, bI_01I] <;> omega)) only [e_Dm_tries3_90, e_Dm_tries3_91, e_Dm_tries3_94, e_Dm_tries3_95, e_Dm_tries3_98, e_Dm_tries3_100, e_Dm_tries3_101, e_Dm_tries3_103, e_Dm_tries3_104, e_Dm_tries3_105, e_Dm_tries3_108, bd_some, bd_none, Option.toList_some, Option.toList_none, List.nil_append, List.cons_append, px_kill_int, px_kill_long, px_kill_ref, px_kill_null, iI_lit, iJ_lit, iI_add, iI_sub, iI_mul, iI_neg, iJ_add, iJ_sub, iJ_mul, iJ_neg, iI_lt, iI_le, iI_eq, iJ_lt, iJ_le, iJ_eq, iI_div, iJ_div, tdiv_tmod, iI_J, iJ_I, iI_ix, iI_toInt, iJ_toInt, cmp_ge, cmp_lt, cmp_eq, cmp_gt, cmp_le, cmp_geI, cmp_ltI, cmp_eqI, cmp_gtI, cmp_leI, bI_0I, bI_1I, pin, if_true, v1, if_false, sh_n70, sh_n71, n1, p11]
      rfl
    have w2 : rn k_Dm_tries3 88 [.ref 53, .ref 71, .int (iI 3), .int (iI 3), .long (iJ (zU l c)), .null, .long (iJ (zL l c)), .null, .int (iI m), .int (iI 1), .int (iI 2), a11, a12, a13, a14, a15] [] (enc (sI (sI T1 70 0 (iI (i : Int))) 70 1 (iI (j : Int)))) = rn k_Dm_tries3 88 [.ref 53, .ref 71, .int (iI 3), .int (iI 3), .long (iJ (zU l c)), .null, .long (iJ (zL l c)), .null, .int (iI m), .int (iI 1), .int (iI 3), a11, a12, a13, a14, a15] [] (enc (sI (sI (sI T1 70 0 (iI (i : Int))) 70 1 (iI (j : Int))) 70 2 (iI (k : Int)))) := by
      rw [e_Dm_tries3_88]
      have p22 := p2.2.2
      simp (disch := first | omega | assumption | decide | (simp (disch := omega) only [iI_lit, iJ_lit, iJ_eq, iI_eq, bI_01, bI_01I] <;> omega)) only [e_Dm_tries3_90, e_Dm_tries3_91, e_Dm_tries3_94, e_Dm_tries3_95, e_Dm_tries3_98, e_Dm_tries3_100, e_Dm_tries3_101, e_Dm_tries3_103, e_Dm_tries3_104, e_Dm_tries3_105, e_Dm_tries3_108, bd_some, bd_none, Option.toList_some, Option.toList_none, List.nil_append, List.cons_append, px_kill_int, px_kill_long, px_kill_ref, px_kill_null, iI_lit, iJ_lit, iI_add, iI_sub, iI_mul, iI_neg, iJ_add, iJ_sub, iJ_mul, iJ_neg, iI_lt, iI_le, iI_eq, iJ_lt, iJ_le, iJ_eq, iI_div, iJ_div, tdiv_tmod, iI_J, iJ_I, iI_ix, iI_toInt, iJ_toInt, cmp_ge, cmp_lt, cmp_eq, cmp_gt, cmp_le, cmp_geI, cmp_ltI, cmp_eqI, cmp_gtI, cmp_leI, bI_0I, bI_1I, pin, if_true, v2, if_false, sh_n70, sh_n71, n2, p22]
      rfl
    rw [w0, w1, w2, e_Dm_tries3_88]
    simp (disch := first | omega | assumption | decide | (simp (disch := omega) only [iI_lit, iJ_lit, iJ_eq, iI_eq, bI_01, bI_01I] <;> omega)) only [e_Dm_tries3_90, e_Dm_tries3_91, e_Dm_tries3_94, e_Dm_tries3_95, e_Dm_tries3_98, e_Dm_tries3_100, e_Dm_tries3_101, e_Dm_tries3_103, e_Dm_tries3_104, e_Dm_tries3_105, e_Dm_tries3_108, e_Dm_tries3_111, bd_some, bd_none, Option.toList_some, Option.toList_none, List.nil_append, List.cons_append, px_kill_int, px_kill_long, px_kill_ref, px_kill_null, iI_lit, iJ_lit, iI_add, iI_sub, iI_mul, iI_neg, iJ_add, iJ_sub, iJ_mul, iJ_neg, iI_lt, iI_le, iI_eq, iJ_lt, iJ_le, iJ_eq, iI_div, iJ_div, tdiv_tmod, iI_J, iJ_I, iI_ix, iI_toInt, iJ_toInt, cmp_ge, cmp_lt, cmp_eq, cmp_gt, cmp_le, cmp_geI, cmp_ltI, cmp_eqI, cmp_gtI, cmp_leI, bI_0I, bI_1I, pin, if_true, Int.le_refl]
  have fr : FrA (aTr 3) bTr T T2 := by
    rw [hT2, hT1]
    exact (((((((FrA.rf (aTr 3) bTr T).wr _ (by unfold aTr; omega)).wrJ _ (by unfold bTr; omega)).wrJ _ (by unfold bTr; omega)).wr _ (by unfold aTr; omega)).wr _ (by unfold aTr; omega)).wr _ (by unfold aTr; omega))
  have hBt : hBm T2 3 l (some (c, (i, j, k))) := by
    rw [hT2, hT1]
    unfold hBm
    simp only [sI_get, sJ_get, sI_2, sJ_1, sJ_22, sR_1, sR_21, Nat.reduceEqDiff, and_true, true_and, and_false, false_and, and_self, if_true, if_false, reduceIte, true_implies, imp_self]
  cases b with
  | none =>
    refine ⟨T2, ?_, fr, hBt⟩
    have hB' : T.1 53 50 = iI 0 := hB
    simp (disch := first | omega | assumption | decide | (simp (disch := omega) only [iI_lit, iJ_lit, iJ_eq, iI_eq, bI_01, bI_01I] <;> omega)) only [c_Dm_tries3, e_Dm_tries3_0, e_Dm_tries3_1, e_Dm_tries3_2, e_Dm_tries3_5, e_Dm_tries3_6, e_Dm_tries3_9, e_Dm_tries3_12, e_Dm_tries3_14, e_Dm_tries3_17, e_Dm_tries3_19, e_Dm_tries3_20, e_Dm_tries3_23, e_Dm_tries3_24, e_Dm_tries3_25, e_Dm_tries3_28, e_Dm_tries3_30, e_Dm_tries3_31, e_Dm_tries3_32, e_Dm_tries3_35, e_Dm_tries3_38, e_Dm_tries3_40, e_Dm_tries3_41, e_Dm_tries3_44, e_Dm_tries3_45, e_Dm_tries3_46, e_Dm_tries3_49, e_Dm_tries3_51, e_Dm_tries3_52, e_Dm_tries3_53, e_Dm_tries3_56, e_Dm_tries3_57, e_Dm_tries3_60, bd_some, bd_none, Option.toList_some, Option.toList_none, List.nil_append, List.cons_append, px_kill_int, px_kill_long, px_kill_ref, px_kill_null, iI_lit, iJ_lit, iI_add, iI_sub, iI_mul, iI_neg, iJ_add, iJ_sub, iJ_mul, iJ_neg, iI_lt, iI_le, iI_eq, iJ_lt, iJ_le, iJ_eq, iI_div, iJ_div, tdiv_tmod, iI_J, iJ_I, iI_ix, iI_toInt, iJ_toInt, cmp_ge, cmp_lt, cmp_eq, cmp_gt, cmp_le, cmp_geI, cmp_ltI, cmp_eqI, cmp_gtI, cmp_leI, bI_0I, bI_1I, pin, if_true, hB']
    exact take _ _ _ _ _ _
  | some x =>
    obtain ⟨hB1, hB2, hB3, hB4⟩ := id hB
    obtain ⟨hx, _⟩ := hb x rfl
    have bx := zz_bd hl hx
    have x1 := mul_bd2 ⟨Int.le_of_lt bc.1.1, bc.1.2⟩ ⟨Int.le_of_lt bx.2.1, bx.2.2⟩
    have x2 := mul_bd2 ⟨Int.le_of_lt bx.1.1, bx.1.2⟩ ⟨Int.le_of_lt bc.2.1, bc.2.2⟩
    by_cases d : bhd m l x.1 c
    · have e : pps m l (some x) c (i, j, k) = some (c, (i, j, k)) := if_pos d
      rw [e]
      refine ⟨T2, ?_, fr, hBt⟩
      rcases d with ⟨d1, d2⟩ | ⟨d1, d2⟩
      · subst d1
        have c1 : ¬ zU l c * zL l x.1 ≤ zU l x.1 * zL l c := Int.not_le.mpr d2
        simp (disch := first | omega | assumption | decide | (simp (disch := omega) only [iI_lit, iJ_lit, iJ_eq, iI_eq, bI_01, bI_01I] <;> omega)) only [c_Dm_tries3, e_Dm_tries3_0, e_Dm_tries3_1, e_Dm_tries3_2, e_Dm_tries3_5, e_Dm_tries3_6, e_Dm_tries3_9, e_Dm_tries3_12, e_Dm_tries3_14, e_Dm_tries3_17, e_Dm_tries3_19, e_Dm_tries3_20, e_Dm_tries3_23, e_Dm_tries3_24, e_Dm_tries3_25, e_Dm_tries3_28, e_Dm_tries3_30, e_Dm_tries3_31, e_Dm_tries3_32, e_Dm_tries3_35, e_Dm_tries3_38, e_Dm_tries3_40, e_Dm_tries3_41, e_Dm_tries3_44, e_Dm_tries3_45, e_Dm_tries3_46, e_Dm_tries3_49, e_Dm_tries3_51, e_Dm_tries3_52, e_Dm_tries3_53, e_Dm_tries3_56, e_Dm_tries3_57, e_Dm_tries3_60, bd_some, bd_none, Option.toList_some, Option.toList_none, List.nil_append, List.cons_append, px_kill_int, px_kill_long, px_kill_ref, px_kill_null, iI_lit, iJ_lit, iI_add, iI_sub, iI_mul, iI_neg, iJ_add, iJ_sub, iJ_mul, iJ_neg, iI_lt, iI_le, iI_eq, iJ_lt, iJ_le, iJ_eq, iI_div, iJ_div, tdiv_tmod, iI_J, iJ_I, iI_ix, iI_toInt, iJ_toInt, cmp_ge, cmp_lt, cmp_eq, cmp_gt, cmp_le, cmp_geI, cmp_ltI, cmp_eqI, cmp_gtI, cmp_leI, bI_0I, bI_1I, pin, if_true, hB1, hB2, hB3, one0, if_false, c1]
        exact take _ _ _ _ _ _
      · subst d1
        have c1 : ¬ zU l x.1 * zL l c ≤ zU l c * zL l x.1 := Int.not_le.mpr d2
        simp (disch := first | omega | assumption | decide | (simp (disch := omega) only [iI_lit, iJ_lit, iJ_eq, iI_eq, bI_01, bI_01I] <;> omega)) only [c_Dm_tries3, e_Dm_tries3_0, e_Dm_tries3_1, e_Dm_tries3_2, e_Dm_tries3_5, e_Dm_tries3_6, e_Dm_tries3_9, e_Dm_tries3_12, e_Dm_tries3_14, e_Dm_tries3_17, e_Dm_tries3_19, e_Dm_tries3_20, e_Dm_tries3_23, e_Dm_tries3_24, e_Dm_tries3_25, e_Dm_tries3_28, e_Dm_tries3_30, e_Dm_tries3_31, e_Dm_tries3_32, e_Dm_tries3_35, e_Dm_tries3_38, e_Dm_tries3_40, e_Dm_tries3_41, e_Dm_tries3_44, e_Dm_tries3_45, e_Dm_tries3_46, e_Dm_tries3_49, e_Dm_tries3_51, e_Dm_tries3_52, e_Dm_tries3_53, e_Dm_tries3_56, e_Dm_tries3_57, e_Dm_tries3_60, bd_some, bd_none, Option.toList_some, Option.toList_none, List.nil_append, List.cons_append, px_kill_int, px_kill_long, px_kill_ref, px_kill_null, iI_lit, iJ_lit, iI_add, iI_sub, iI_mul, iI_neg, iJ_add, iJ_sub, iJ_mul, iJ_neg, iI_lt, iI_le, iI_eq, iJ_lt, iJ_le, iJ_eq, iI_div, iJ_div, tdiv_tmod, iI_J, iJ_I, iI_ix, iI_toInt, iJ_toInt, cmp_ge, cmp_lt, cmp_eq, cmp_gt, cmp_le, cmp_geI, cmp_ltI, cmp_eqI, cmp_gtI, cmp_leI, bI_0I, bI_1I, pin, if_true, hB1, hB2, hB3, one0, if_false, c1]
        exact take _ _ _ _ _ _
    · have e : pps m l (some x) c (i, j, k) = some x := if_neg d
      rw [e]
      refine ⟨T, ?_, FrA.rf _ _ _, hB⟩
      rcases hm with hm | hm
      · subst hm
        have c1 : zU l x.1 * zL l c ≤ zU l c * zL l x.1 := Int.not_lt.mp (fun z => d (Or.inr ⟨rfl, z⟩))
        simp (disch := first | omega | assumption | decide | (simp (disch := omega) only [iI_lit, iJ_lit, iJ_eq, iI_eq, bI_01, bI_01I] <;> omega)) only [c_Dm_tries3, e_Dm_tries3_0, e_Dm_tries3_1, e_Dm_tries3_2, e_Dm_tries3_5, e_Dm_tries3_6, e_Dm_tries3_9, e_Dm_tries3_12, e_Dm_tries3_14, e_Dm_tries3_17, e_Dm_tries3_19, e_Dm_tries3_20, e_Dm_tries3_23, e_Dm_tries3_24, e_Dm_tries3_25, e_Dm_tries3_28, e_Dm_tries3_30, e_Dm_tries3_31, e_Dm_tries3_32, e_Dm_tries3_35, e_Dm_tries3_38, e_Dm_tries3_40, e_Dm_tries3_41, e_Dm_tries3_44, e_Dm_tries3_45, e_Dm_tries3_46, e_Dm_tries3_49, e_Dm_tries3_51, e_Dm_tries3_52, e_Dm_tries3_53, e_Dm_tries3_56, e_Dm_tries3_57, e_Dm_tries3_60, e_Dm_tries3_61, e_Dm_tries3_63, e_Dm_tries3_65, e_Dm_tries3_111, bd_some, bd_none, Option.toList_some, Option.toList_none, List.nil_append, List.cons_append, px_kill_int, px_kill_long, px_kill_ref, px_kill_null, iI_lit, iJ_lit, iI_add, iI_sub, iI_mul, iI_neg, iJ_add, iJ_sub, iJ_mul, iJ_neg, iI_lt, iI_le, iI_eq, iJ_lt, iJ_le, iJ_eq, iI_div, iJ_div, tdiv_tmod, iI_J, iJ_I, iI_ix, iI_toInt, iJ_toInt, cmp_ge, cmp_lt, cmp_eq, cmp_gt, cmp_le, cmp_geI, cmp_ltI, cmp_eqI, cmp_gtI, cmp_leI, bI_0I, bI_1I, pin, if_true, hB1, hB2, hB3, one0, if_false, c1]
      · subst hm
        have c1 : zU l c * zL l x.1 ≤ zU l x.1 * zL l c := Int.not_lt.mp (fun z => d (Or.inl ⟨rfl, z⟩))
        simp (disch := first | omega | assumption | decide | (simp (disch := omega) only [iI_lit, iJ_lit, iJ_eq, iI_eq, bI_01, bI_01I] <;> omega)) only [c_Dm_tries3, e_Dm_tries3_0, e_Dm_tries3_1, e_Dm_tries3_2, e_Dm_tries3_5, e_Dm_tries3_6, e_Dm_tries3_9, e_Dm_tries3_12, e_Dm_tries3_14, e_Dm_tries3_17, e_Dm_tries3_19, e_Dm_tries3_20, e_Dm_tries3_23, e_Dm_tries3_24, e_Dm_tries3_25, e_Dm_tries3_28, e_Dm_tries3_30, e_Dm_tries3_31, e_Dm_tries3_32, e_Dm_tries3_35, e_Dm_tries3_38, e_Dm_tries3_40, e_Dm_tries3_41, e_Dm_tries3_44, e_Dm_tries3_45, e_Dm_tries3_46, e_Dm_tries3_49, e_Dm_tries3_51, e_Dm_tries3_52, e_Dm_tries3_53, e_Dm_tries3_56, e_Dm_tries3_57, e_Dm_tries3_60, e_Dm_tries3_61, e_Dm_tries3_63, e_Dm_tries3_65, e_Dm_tries3_111, bd_some, bd_none, Option.toList_some, Option.toList_none, List.nil_append, List.cons_append, px_kill_int, px_kill_long, px_kill_ref, px_kill_null, iI_lit, iJ_lit, iI_add, iI_sub, iI_mul, iI_neg, iJ_add, iJ_sub, iJ_mul, iJ_neg, iI_lt, iI_le, iI_eq, iJ_lt, iJ_le, iJ_eq, iI_div, iJ_div, tdiv_tmod, iI_J, iJ_I, iI_ix, iI_toInt, iJ_toInt, cmp_ge, cmp_lt, cmp_eq, cmp_gt, cmp_le, cmp_geI, cmp_ltI, cmp_eqI, cmp_gtI, cmp_leI, bI_0I, bI_1I, pin, if_true, hB1, hB2, hB3, one0, if_false, c1]
