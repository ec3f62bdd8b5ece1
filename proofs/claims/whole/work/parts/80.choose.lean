/-! choose: pure; the component's couples of squares. -/
abbrev gQ (l : List (Nat × Nat)) (k : Nat) : Nat × Nat := l.getD k (0, 0)
abbrev zU (l : List (Nat × Nat)) (c : Nat × Nat) : Int := btU (sqF (gQ l c.1)) (sqF (gQ l c.2))
abbrev zL (l : List (Nat × Nat)) (c : Nat × Nat) : Int := btL (sqF (gQ l c.1)) (sqF (gQ l c.2))
abbrev zG (l : List (Nat × Nat)) (c : Nat × Nat) : Int := btG (sqF (gQ l c.1)) (sqF (gQ l c.2))
abbrev bhd (m : Int) (l : List (Nat × Nat)) (c t : Nat × Nat) : Prop := isBtr m (zU l t) (zL l t) (zU l c) (zL l c)
abbrev CB : Type := Option ((Nat × Nat) × Nat × Nat × Nat)
def pps (m : Int) (l : List (Nat × Nat)) (b : CB) (c : Nat × Nat) (r : Nat × Nat × Nat) : CB := match b with
  | none => some (c, r)
  | some x => if bhd m l x.1 c then some (c, r) else some x
def cp2 (m : Int) (l : List (Nat × Nat)) (i j k : Nat) : Nat × Nat := if bhd m l (i, k) (i, j) then (i, k) else (i, j)
def cp3 (m : Int) (l : List (Nat × Nat)) (i j k : Nat) : Nat × Nat := if bhd m l (j, k) (cp2 m l i j k) then (j, k) else cp2 m l i j k
def c3T (m : Int) (l : List (Nat × Nat)) (i j : Nat) : CB → Nat → Nat → CB
  | b, _, 0 => b
  | b, k, t + 1 => c3T m l i j (pps m l b (cp3 m l i j k) (i, j, k)) (k + 1) t
def c3S (n : Int) (m : Int) (l : List (Nat × Nat)) (b : CB) (i j : Nat) : CB := if n = 2 then pps m l b (i, j) (i, j, j) else c3T m l i j b (j + 1) (l.length - (j + 1))
def c3R (n : Int) (m : Int) (l : List (Nat × Nat)) (i : Nat) : CB → Nat → Nat → CB
  | b, _, 0 => b
  | b, j, t + 1 => c3R n m l i (c3S n m l b i j) (j + 1) t
def c3A (n : Int) (m : Int) (l : List (Nat × Nat)) : CB → Nat → Nat → CB
  | b, _, 0 => b
  | b, i, t + 1 => c3A n m l (c3R n m l i b (i + 1) (l.length - (i + 1))) (i + 1) t
/-- what is chosen -/
def chz (n m lo hi : Int) : CB := c3A n m (sqL lo hi) none 0 (sqL lo hi).length
def okC (l : List (Nat × Nat)) (b : CB) : Prop := ∀ x, b = some x → (x.1.1 < l.length ∧ x.1.2 < l.length) ∧ x.2.1 < l.length ∧ x.2.2.1 < l.length ∧ x.2.2.2 < l.length
theorem pps_ok {m : Int} {l : List (Nat × Nat)} {b : CB} {c : Nat × Nat} {r : Nat × Nat × Nat} (h : okC l b) (hc : c.1 < l.length ∧ c.2 < l.length) (hr : r.1 < l.length ∧ r.2.1 < l.length ∧ r.2.2 < l.length) : okC l (pps m l b c r) := by
  unfold pps
  intro x hx
  split at hx
  · cases hx; exact ⟨hc, hr⟩
  · split at hx
    · cases hx; exact ⟨hc, hr⟩
    · exact h x hx
theorem cp3_ok {m : Int} {l : List (Nat × Nat)} {i j k : Nat} (hi : i < l.length) (hj : j < l.length) (hk : k < l.length) : (cp2 m l i j k).1 < l.length ∧ (cp2 m l i j k).2 < l.length ∧ (cp3 m l i j k).1 < l.length ∧ (cp3 m l i j k).2 < l.length := by
  have h2 : (cp2 m l i j k).1 < l.length ∧ (cp2 m l i j k).2 < l.length := by
    unfold cp2
    split
    · exact ⟨hi, hk⟩
    · exact ⟨hi, hj⟩
  refine ⟨h2.1, h2.2, ?_⟩
  unfold cp3
  split
  · exact ⟨hj, hk⟩
  · exact h2
/-- couples in order: a couple's two are in a row -/
def isCp (l : List (Nat × Nat)) (c : Nat × Nat) : Prop := c.1 < c.2 ∧ c.2 < l.length
theorem cp_cp {m : Int} {l : List (Nat × Nat)} {i j k : Nat} (hi : i < j) (hj : j < k) (hk : k < l.length) : isCp l (cp2 m l i j k) ∧ isCp l (cp3 m l i j k) := by
  have h2 : isCp l (cp2 m l i j k) := by
    unfold cp2
    split
    · exact ⟨by show i < k; omega, hk⟩
    · exact ⟨hi, by show j < l.length; omega⟩
  refine ⟨h2, ?_⟩
  unfold cp3
  split
  · exact ⟨hj, hk⟩
  · exact h2
def okD (l : List (Nat × Nat)) (b : CB) : Prop := ∀ x, b = some x → isCp l x.1 ∧ x.2.1 < l.length ∧ x.2.2.1 < l.length ∧ x.2.2.2 < l.length
theorem pps_okD {m : Int} {l : List (Nat × Nat)} {b : CB} {c : Nat × Nat} {r : Nat × Nat × Nat} (h : okD l b) (hc : isCp l c) (hr : r.1 < l.length ∧ r.2.1 < l.length ∧ r.2.2 < l.length) : okD l (pps m l b c r) := by
  unfold pps
  intro x hx
  split at hx
  · cases hx; exact ⟨hc, hr⟩
  · split at hx
    · cases hx; exact ⟨hc, hr⟩
    · exact h x hx
theorem c3T_okD {m : Int} {l : List (Nat × Nat)} {i j : Nat} (hi : i < j) : ∀ (t k : Nat) (b : CB), j < k → k + t ≤ l.length → okD l b → okD l (c3T m l i j b k t) := by
  intro t
  induction t with
  | zero => intro k b _ _ h; exact h
  | succ t ih => intro k b hj hk h; exact ih (k + 1) _ (by omega) (by omega) (pps_okD h (cp_cp hi hj (by omega)).2 ⟨by show i < l.length; omega, by show j < l.length; omega, by show k < l.length; omega⟩)
theorem c3S_okD {n m : Int} {l : List (Nat × Nat)} {b : CB} {i j : Nat} (hi : i < j) (hj : j < l.length) (h : okD l b) : okD l (c3S n m l b i j) := by
  unfold c3S
  split
  · exact pps_okD h ⟨hi, hj⟩ ⟨by show i < l.length; omega, hj, hj⟩
  · exact c3T_okD hi _ _ _ (by omega) (by omega) h
theorem c3R_okD {n m : Int} {l : List (Nat × Nat)} {i : Nat} : ∀ (t j : Nat) (b : CB), i < j → j + t ≤ l.length → okD l b → okD l (c3R n m l i b j t) := by
  intro t
  induction t with
  | zero => intro j b _ _ h; exact h
  | succ t ih => intro j b hi hj h; exact ih (j + 1) _ (by omega) (by omega) (c3S_okD hi (by omega) h)
theorem c3A_okD {n m : Int} {l : List (Nat × Nat)} : ∀ (t i : Nat) (b : CB), i + t ≤ l.length → okD l b → okD l (c3A n m l b i t) := by
  intro t
  induction t with
  | zero => intro i b _ h; exact h
  | succ t ih => intro i b hi h; exact ih (i + 1) _ (by omega) (c3R_okD _ _ _ (by omega) (by omega) h)
theorem gQ_ok {l : List (Nat × Nat)} (hl : okQ l) {k : Nat} (hk : k < l.length) : okN (sqF (gQ l k)) := sqF_ok (hl _ (gD_mem hk))
/-! the matrix -/
def hMx (T : TS) (l : List (Nat × Nat)) (P : Nat → Nat → Prop) : Prop := ∀ i j, P i j → i < j → j < l.length → T.2.1 18 (20 * i + j) = iJ (zU l (i, j) / zG l (i, j)) ∧ T.2.1 19 (20 * i + j) = iJ (zL l (i, j) / zG l (i, j))
def aCs (q _k : Nat) : Prop := 20 ≤ q ∧ q ≤ 22
def bCs (q _k : Nat) : Prop := q = 18 ∨ q = 19 ∨ q = 22
theorem s_coupleOf {i j : Int} (hi : 0 ≤ i ∧ i ≤ 20) (hj : 0 ≤ j ∧ j ≤ 20) (g : px_G) : cl k_Chooser_coupleOf [.int (iI i), .int (iI j)] g = some (some (.int (iI (20 * i + j))), g) := by
  simp (disch := first | omega | assumption | decide | (simp (disch := omega) only [iI_lit, iJ_lit, iJ_eq, iI_eq, bI_01, bI_01I] <;> omega)) only [c_Chooser_coupleOf, e_Chooser_coupleOf_0, e_Chooser_coupleOf_1, e_Chooser_coupleOf_3, e_Chooser_coupleOf_4, e_Chooser_coupleOf_5, e_Chooser_coupleOf_6, bd_some, bd_none, Option.toList_some, Option.toList_none, List.nil_append, List.cons_append, px_kill_int, px_kill_long, px_kill_ref, px_kill_null, iI_lit, iJ_lit, iI_add, iI_sub, iI_mul, iI_neg, iJ_add, iJ_sub, iJ_mul, iJ_neg, iI_lt, iI_le, iI_eq, iJ_lt, iJ_le, iJ_eq, iI_div, iJ_div, tdiv_tmod, iI_J, iJ_I, iI_ix, iI_toInt, iJ_toInt, cmp_ge, cmp_lt, cmp_eq, cmp_gt, cmp_le, cmp_geI, cmp_ltI, cmp_eqI, cmp_gtI, cmp_leI, bI_0I, bI_1I, pin, if_true]
  rw [Int.mul_comm]
set_option maxHeartbeats 2000000 in
theorem st_cs {l : List (Nat × Nat)} (hl : okQ l) (hlen : l.length ≤ 20) {i j : Nat} (hij : i < j) (hj : j < l.length) {T : TS} (hS : hSq T 16 17 l) (hn : T.1 15 2 = iI (l.length : Int)) {P : Nat → Nat → Prop} (hM : hMx T l P) : ∃ T', rn k_Chooser_compareSquares 14 [.ref 15, .int (iI (i : Int)), .int (iI (j : Int))] [] (enc T) = rn k_Chooser_compareSquares 14 [.ref 15, .int (iI (i : Int)), .int (iI ((j + 1 : Nat) : Int))] [] (enc T') ∧ FrA aCs bCs T T' ∧ hMx T' l (fun i' j' => P i' j' ∨ (i' = i ∧ j' = j)) := by
  have hi : i < l.length := by omega
  have hf := gQ_ok hl hi
  have hg := gQ_ok hl hj
  obtain ⟨hA, hB⟩ := hS i hi
  obtain ⟨hC, hD⟩ := hS j hj
  have ei : ((i : Int)).toNat = i := by omega
  have ej : ((j : Int)).toNat = j := by omega
  have nle : ¬ (l.length : Int) ≤ (j : Int) := by omega
  obtain ⟨T0, hT0⟩ : ∃ T0, T0 = tScr T 20 (iI ((gQ l i).1 : Int)) (iI ((gQ l i).2 : Int)) (iI (-((gQ l i).2 : Int))) (iI ((gQ l i).1 : Int)) := ⟨_, rfl⟩
  obtain ⟨T1, hT1⟩ : ∃ T1, T1 = tScr T0 21 (iI ((gQ l j).1 : Int)) (iI ((gQ l j).2 : Int)) (iI (-((gQ l j).2 : Int))) (iI ((gQ l j).1 : Int)) := ⟨_, rfl⟩
  have t1 := s_takeSquare T (q := 20) rfl (iI ((gQ l i).1 : Int)) (iI ((gQ l i).2 : Int))
  have t2 := s_takeSquare T0 (q := 21) rfl (iI ((gQ l j).1 : Int)) (iI ((gQ l j).2 : Int))
  rw [iI_neg, ← hT0] at t1
  rw [iI_neg, ← hT1] at t2
  have fr0 : FrA aCs bCs T T0 := by
    rw [hT0]
    exact ((((FrA.rf aCs bCs T).wr _ (by unfold aCs; omega)).wr _ (by unfold aCs; omega)).wr _ (by unfold aCs; omega)).wr _ (by unfold aCs; omega)
  have fr1 : FrA aCs bCs T0 T1 := by
    rw [hT1]
    exact ((((FrA.rf aCs bCs T0).wr _ (by unfold aCs; omega)).wr _ (by unfold aCs; omega)).wr _ (by unfold aCs; omega)).wr _ (by unfold aCs; omega)
  have c1 : cScr T1 20 (sqF (gQ l i) 0) (sqF (gQ l i) 1) (sqF (gQ l i) 2) (sqF (gQ l i) 3) := by
    have : cScr T0 20 (sqF (gQ l i) 0) (sqF (gQ l i) 1) (sqF (gQ l i) 2) (sqF (gQ l i) 3) := by rw [hT0]; exact tScr_c T 20 _ _ _ _
    rw [hT1]
    unfold cScr tScr at *
    simp only [sI_get, sJ_get, sI_2, sJ_1, sJ_22, sR_1, sR_21, Nat.reduceEqDiff, and_true, true_and, and_false, false_and, and_self, if_true, if_false, reduceIte]
    exact this
  have c2 : cScr T1 21 (sqF (gQ l j) 0) (sqF (gQ l j) 1) (sqF (gQ l j) 2) (sqF (gQ l j) 3) := by rw [hT1]; exact tScr_c T0 21 _ _ _ _
  obtain ⟨T2, e2, fr2, _, hu, hlo⟩ := c_compare (T := T1) (p := 22) (q := 20) (r := 21) rfl rfl rfl (by omega) (by omega) hf hg c1 c2
  have fr2' : FrA aCs bCs T1 T2 := fr2.mono (fun q k z => by unfold aCs; omega) (fun q k z => by unfold bCs; omega)
  have hA0 : T0.1 16 j = iI ((gQ l j).1 : Int) := by rw [fr0.1 _ _ (by unfold aCs; omega)]; exact hC
  have hB0 : T0.1 17 j = iI ((gQ l j).2 : Int) := by rw [fr0.1 _ _ (by unfold aCs; omega)]; exact hD
  have k1 := s_coupleOf (i := (i : Int)) (j := (j : Int)) (by omega) (by omega) (enc T2)
  have k2 := s_coupleOf (i := (i : Int)) (j := (j : Int)) (by omega) (by omega) (enc (sJ T2 18 (20 * i + j) (iJ (btU (sqF (gQ l i)) (sqF (gQ l j)) / btG (sqF (gQ l i)) (sqF (gQ l j))))))
  have ek : (20 * (i : Int) + (j : Int)).toNat = 20 * i + j := by omega
  have en : ¬ 22 = 18 := by omega
  refine ⟨sJ (sJ T2 18 (20 * i + j) (iJ (btU (sqF (gQ l i)) (sqF (gQ l j)) / btG (sqF (gQ l i)) (sqF (gQ l j))))) 19 (20 * i + j) (iJ (btL (sqF (gQ l i)) (sqF (gQ l j)) / btG (sqF (gQ l i)) (sqF (gQ l j)))), ?_, (((fr0.tr fr1).tr fr2').wrJ _ (by unfold bCs; omega)).wrJ _ (by unfold bCs; omega), ?_⟩
  · rw [show ((j + 1 : Nat) : Int) = (j : Int) + 1 by omega, e_Chooser_compareSquares_14]
    simp (disch := first | omega | assumption | decide | (simp (disch := omega) only [iI_lit, iJ_lit, iJ_eq, iI_eq, bI_01, bI_01I] <;> omega)) only [e_Chooser_compareSquares_15, e_Chooser_compareSquares_16, e_Chooser_compareSquares_19, e_Chooser_compareSquares_22, e_Chooser_compareSquares_23, e_Chooser_compareSquares_26, e_Chooser_compareSquares_27, e_Chooser_compareSquares_30, e_Chooser_compareSquares_31, e_Chooser_compareSquares_32, e_Chooser_compareSquares_33, e_Chooser_compareSquares_36, e_Chooser_compareSquares_37, e_Chooser_compareSquares_38, e_Chooser_compareSquares_41, e_Chooser_compareSquares_42, e_Chooser_compareSquares_45, e_Chooser_compareSquares_46, e_Chooser_compareSquares_49, e_Chooser_compareSquares_50, e_Chooser_compareSquares_51, e_Chooser_compareSquares_52, e_Chooser_compareSquares_55, e_Chooser_compareSquares_56, e_Chooser_compareSquares_57, e_Chooser_compareSquares_60, e_Chooser_compareSquares_61, e_Chooser_compareSquares_64, e_Chooser_compareSquares_65, e_Chooser_compareSquares_68, e_Chooser_compareSquares_69, e_Chooser_compareSquares_72, e_Chooser_compareSquares_75, e_Chooser_compareSquares_76, e_Chooser_compareSquares_79, e_Chooser_compareSquares_80, e_Chooser_compareSquares_81, e_Chooser_compareSquares_84, e_Chooser_compareSquares_85, e_Chooser_compareSquares_88, e_Chooser_compareSquares_91, e_Chooser_compareSquares_92, e_Chooser_compareSquares_93, e_Chooser_compareSquares_96, e_Chooser_compareSquares_97, e_Chooser_compareSquares_98, e_Chooser_compareSquares_101, e_Chooser_compareSquares_102, e_Chooser_compareSquares_105, e_Chooser_compareSquares_108, e_Chooser_compareSquares_109, e_Chooser_compareSquares_112, bd_some, bd_none, Option.toList_some, Option.toList_none, List.nil_append, List.cons_append, px_kill_int, px_kill_long, px_kill_ref, px_kill_null, iI_lit, iJ_lit, iI_add, iI_sub, iI_mul, iI_neg, iJ_add, iJ_sub, iJ_mul, iJ_neg, iI_lt, iI_le, iI_eq, iJ_lt, iJ_le, iJ_eq, iI_div, iJ_div, tdiv_tmod, iI_J, iJ_I, iI_ix, iI_toInt, iJ_toInt, cmp_ge, cmp_lt, cmp_eq, cmp_gt, cmp_le, cmp_geI, cmp_ltI, cmp_eqI, cmp_gtI, cmp_leI, bI_0I, bI_1I, pin, if_true, sI_get, sJ_get, sI_2, sJ_1, sJ_22, sR_1, sR_21, Nat.reduceEqDiff, and_true, true_and, and_false, false_and, and_self, if_true, if_false, reduceIte, hn, nle, if_false, sh_n15, sh_n16, sh_n17, sh_n18, sh_n19, sh_n20, sh_n21, sh_n22, ei, ej, hA, hB, hA0, hB0, t1, t2, e2, hu, hlo, k1, k2, ek]
  · intro i' j' hP h1 h2
    have e18 : ∀ k, (sJ (sJ T2 18 (20 * i + j) (iJ (btU (sqF (gQ l i)) (sqF (gQ l j)) / btG (sqF (gQ l i)) (sqF (gQ l j))))) 19 (20 * i + j) (iJ (btL (sqF (gQ l i)) (sqF (gQ l j)) / btG (sqF (gQ l i)) (sqF (gQ l j))))).2.1 18 k = if k = 20 * i + j then iJ (btU (sqF (gQ l i)) (sqF (gQ l j)) / btG (sqF (gQ l i)) (sqF (gQ l j))) else T.2.1 18 k := by
      intro k
      simp only [sI_get, sJ_get, sI_2, sJ_1, sJ_22, sR_1, sR_21, Nat.reduceEqDiff, and_true, true_and, and_false, false_and, and_self, if_true, if_false, reduceIte]
      split
      · rfl
      · rw [fr2.2.1 _ _ (by omega), hT1, hT0]; rfl
    have e19 : ∀ k, (sJ (sJ T2 18 (20 * i + j) (iJ (btU (sqF (gQ l i)) (sqF (gQ l j)) / btG (sqF (gQ l i)) (sqF (gQ l j))))) 19 (20 * i + j) (iJ (btL (sqF (gQ l i)) (sqF (gQ l j)) / btG (sqF (gQ l i)) (sqF (gQ l j))))).2.1 19 k = if k = 20 * i + j then iJ (btL (sqF (gQ l i)) (sqF (gQ l j)) / btG (sqF (gQ l i)) (sqF (gQ l j))) else T.2.1 19 k := by
      intro k
      simp only [sI_get, sJ_get, sI_2, sJ_1, sJ_22, sR_1, sR_21, Nat.reduceEqDiff, and_true, true_and, and_false, false_and, and_self, if_true, if_false, reduceIte]
      split
      · rfl
      · rw [fr2.2.1 _ _ (by omega), hT1, hT0]; rfl
    rw [e18, e19]
    by_cases he : i' = i ∧ j' = j
    · obtain ⟨rfl, rfl⟩ := he
      rw [if_pos rfl, if_pos rfl]
      exact ⟨rfl, rfl⟩
    · have hne : ¬ 20 * i' + j' = 20 * i + j := by omega
      rw [if_neg hne, if_neg hne]
      rcases hP with hP | hP
      · exact hM i' j' hP h1 h2
      · exact absurd hP he
theorem hSq.frA {T T' : TS} {p q : Nat} {l : List (Nat × Nat)} {a b : Nat → Nat → Prop} (h : hSq T p q l) (hf : FrA a b T T') (hp : ∀ k, ¬ a p k) (hq : ∀ k, ¬ a q k) : hSq T' p q l := h.fr (fun k => hf.1 _ _ (hp k)) (fun k => hf.1 _ _ (hq k))
theorem lp_cs2 {l : List (Nat × Nat)} (hl : okQ l) (hlen : l.length ≤ 20) {i : Nat} : ∀ (t j : Nat) (T : TS) (P : Nat → Nat → Prop), i < j → j + t = l.length → hSq T 16 17 l → T.1 15 2 = iI (l.length : Int) → hMx T l P → ∃ T', rn k_Chooser_compareSquares 14 [.ref 15, .int (iI (i : Int)), .int (iI (j : Int))] [] (enc T) = rn k_Chooser_compareSquares 115 [.ref 15, .int (iI (i : Int)), .int (iI (l.length : Int))] [] (enc T') ∧ FrA aCs bCs T T' ∧ hMx T' l (fun i' j' => P i' j' ∨ (i' = i ∧ j ≤ j')) := by
  intro t
  induction t with
  | zero =>
    intro j T P hij hj hS hn hM
    have ej : (j : Int) = (l.length : Int) := by omega
    refine ⟨T, ?_, FrA.rf _ _ _, ?_⟩
    · rw [ej, e_Chooser_compareSquares_14]
      simp (disch := first | omega | assumption | decide | (simp (disch := omega) only [iI_lit, iJ_lit, iJ_eq, iI_eq, bI_01, bI_01I] <;> omega)) only [e_Chooser_compareSquares_15, e_Chooser_compareSquares_16, e_Chooser_compareSquares_19, bd_some, bd_none, Option.toList_some, Option.toList_none, List.nil_append, List.cons_append, px_kill_int, px_kill_long, px_kill_ref, px_kill_null, iI_lit, iJ_lit, iI_add, iI_sub, iI_mul, iI_neg, iJ_add, iJ_sub, iJ_mul, iJ_neg, iI_lt, iI_le, iI_eq, iJ_lt, iJ_le, iJ_eq, iI_div, iJ_div, tdiv_tmod, iI_J, iJ_I, iI_ix, iI_toInt, iJ_toInt, cmp_ge, cmp_lt, cmp_eq, cmp_gt, cmp_le, cmp_geI, cmp_ltI, cmp_eqI, cmp_gtI, cmp_leI, bI_0I, bI_1I, pin, if_true, hn, Int.le_refl]
    · intro i' j' hP h1 h2
      rcases hP with hP | hP
      · exact hM i' j' hP h1 h2
      · omega
  | succ t ih =>
    intro j T P hij hj hS hn hM
    obtain ⟨T1, e1, fr1, hM1⟩ := st_cs hl hlen hij (by omega) hS hn hM
    obtain ⟨T2, e2, fr2, hM2⟩ := ih (j + 1) T1 _ (by omega) (by omega) (hS.frA fr1 (fun k => by unfold aCs; omega) (fun k => by unfold aCs; omega)) (by rw [fr1.1 _ _ (by unfold aCs; omega)]; exact hn) hM1
    refine ⟨T2, e1.trans e2, fr1.tr fr2, fun i' j' hP h1 h2 => hM2 i' j' ?_ h1 h2⟩
    rcases hP with hP | ⟨hP, hP2⟩
    · exact Or.inl (Or.inl hP)
    · by_cases e : j' = j
      · exact Or.inl (Or.inr ⟨hP, e⟩)
      · exact Or.inr ⟨hP, by omega⟩
theorem lp_cs1 {l : List (Nat × Nat)} (hl : okQ l) (hlen : l.length ≤ 20) : ∀ (t i : Nat) (T : TS), i + t = l.length → hSq T 16 17 l → T.1 15 2 = iI (l.length : Int) → hMx T l (fun i' _ => i' < i) → ∀ a2 : Value, ∃ T', rn k_Chooser_compareSquares 2 [.ref 15, .int (iI (i : Int)), a2] [] (enc T) = some (none, enc T') ∧ FrA aCs bCs T T' ∧ hMx T' l (fun _ _ => True) := by
  intro t
  induction t with
  | zero =>
    intro i T hi hS hn hM a2
    have ei : (i : Int) = (l.length : Int) := by omega
    refine ⟨T, ?_, FrA.rf _ _ _, fun i' j' _ h1 h2 => hM i' j' (by omega) h1 h2⟩
    rw [ei, e_Chooser_compareSquares_2]
    simp (disch := first | omega | assumption | decide | (simp (disch := omega) only [iI_lit, iJ_lit, iJ_eq, iI_eq, bI_01, bI_01I] <;> omega)) only [e_Chooser_compareSquares_3, e_Chooser_compareSquares_4, e_Chooser_compareSquares_7, e_Chooser_compareSquares_10, e_Chooser_compareSquares_11, e_Chooser_compareSquares_12, e_Chooser_compareSquares_13, e_Chooser_compareSquares_121, bd_some, bd_none, Option.toList_some, Option.toList_none, List.nil_append, List.cons_append, px_kill_int, px_kill_long, px_kill_ref, px_kill_null, iI_lit, iJ_lit, iI_add, iI_sub, iI_mul, iI_neg, iJ_add, iJ_sub, iJ_mul, iJ_neg, iI_lt, iI_le, iI_eq, iJ_lt, iJ_le, iJ_eq, iI_div, iJ_div, tdiv_tmod, iI_J, iJ_I, iI_ix, iI_toInt, iJ_toInt, cmp_ge, cmp_lt, cmp_eq, cmp_gt, cmp_le, cmp_geI, cmp_ltI, cmp_eqI, cmp_gtI, cmp_leI, bI_0I, bI_1I, pin, if_true, hn, Int.le_refl]
  | succ t ih =>
    intro i T hi hS hn hM a2
    have nle : ¬ (l.length : Int) ≤ (i : Int) := by omega
    obtain ⟨T1, e1, fr1, hM1⟩ := lp_cs2 hl hlen (i := i) (l.length - (i + 1)) (i + 1) T _ (by omega) (by omega) hS hn hM
    obtain ⟨T2, e2, fr2, hM2⟩ := ih (i + 1) T1 (by omega) (hS.frA fr1 (fun k => by unfold aCs; omega) (fun k => by unfold aCs; omega)) (by rw [fr1.1 _ _ (by unfold aCs; omega)]; exact hn) (fun i' j' hP h1 h2 => hM1 i' j' (by omega) h1 h2) (.int (iI (l.length : Int)))
    refine ⟨T2, ?_, fr1.tr fr2, hM2⟩
    rw [e_Chooser_compareSquares_2]
    simp (disch := first | omega | assumption | decide | (simp (disch := omega) only [iI_lit, iJ_lit, iJ_eq, iI_eq, bI_01, bI_01I] <;> omega)) only [e_Chooser_compareSquares_3, e_Chooser_compareSquares_4, e_Chooser_compareSquares_7, e_Chooser_compareSquares_10, e_Chooser_compareSquares_11, e_Chooser_compareSquares_12, e_Chooser_compareSquares_13, bd_some, bd_none, Option.toList_some, Option.toList_none, List.nil_append, List.cons_append, px_kill_int, px_kill_long, px_kill_ref, px_kill_null, iI_lit, iJ_lit, iI_add, iI_sub, iI_mul, iI_neg, iJ_add, iJ_sub, iJ_mul, iJ_neg, iI_lt, iI_le, iI_eq, iJ_lt, iJ_le, iJ_eq, iI_div, iJ_div, tdiv_tmod, iI_J, iJ_I, iI_ix, iI_toInt, iJ_toInt, cmp_ge, cmp_lt, cmp_eq, cmp_gt, cmp_le, cmp_geI, cmp_ltI, cmp_eqI, cmp_gtI, cmp_leI, bI_0I, bI_1I, pin, if_true, hn, nle, if_false]
    rw [show (i : Int) + 1 = ((i + 1 : Nat) : Int) by omega]
    refine e1.trans ?_
    simp (disch := first | omega | assumption | decide | (simp (disch := omega) only [iI_lit, iJ_lit, iJ_eq, iI_eq, bI_01, bI_01I] <;> omega)) only [e_Chooser_compareSquares_115, e_Chooser_compareSquares_118, bd_some, bd_none, Option.toList_some, Option.toList_none, List.nil_append, List.cons_append, px_kill_int, px_kill_long, px_kill_ref, px_kill_null, iI_lit, iJ_lit, iI_add, iI_sub, iI_mul, iI_neg, iJ_add, iJ_sub, iJ_mul, iJ_neg, iI_lt, iI_le, iI_eq, iJ_lt, iJ_le, iJ_eq, iI_div, iJ_div, tdiv_tmod, iI_J, iJ_I, iI_ix, iI_toInt, iJ_toInt, cmp_ge, cmp_lt, cmp_eq, cmp_gt, cmp_le, cmp_geI, cmp_ltI, cmp_eqI, cmp_gtI, cmp_leI, bI_0I, bI_1I, pin, if_true]
    rw [show (i : Int) + 1 = ((i + 1 : Nat) : Int) by omega]
    exact e2
theorem c_matrix {l : List (Nat × Nat)} (hl : okQ l) (hlen : l.length ≤ 20) {T : TS} (hS : hSq T 16 17 l) (hn : T.1 15 2 = iI (l.length : Int)) : ∃ T', cl k_Chooser_compareSquares [.ref 15] (enc T) = some (none, enc T') ∧ FrA aCs bCs T T' ∧ hMx T' l (fun _ _ => True) := by
  obtain ⟨T', e, fr, h⟩ := lp_cs1 hl hlen l.length 0 T (by omega) hS hn (fun i' j' hP => by omega) .null
  refine ⟨T', ?_, fr, h⟩
  simp (disch := first | omega | assumption | decide | (simp (disch := omega) only [iI_lit, iJ_lit, iJ_eq, iI_eq, bI_01, bI_01I] <;> omega)) only [c_Chooser_compareSquares, e_Chooser_compareSquares_0, e_Chooser_compareSquares_1, bd_some, bd_none, Option.toList_some, Option.toList_none, List.nil_append, List.cons_append, px_kill_int, px_kill_long, px_kill_ref, px_kill_null, iI_lit, iJ_lit, iI_add, iI_sub, iI_mul, iI_neg, iJ_add, iJ_sub, iJ_mul, iJ_neg, iI_lt, iI_le, iI_eq, iJ_lt, iJ_le, iJ_eq, iI_div, iJ_div, tdiv_tmod, iI_J, iJ_I, iI_ix, iI_toInt, iJ_toInt, cmp_ge, cmp_lt, cmp_eq, cmp_gt, cmp_le, cmp_geI, cmp_ltI, cmp_eqI, cmp_gtI, cmp_leI, bI_0I, bI_1I, pin, if_true]
  exact e
