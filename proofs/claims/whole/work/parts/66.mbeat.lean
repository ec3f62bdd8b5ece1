/-! two folds that begin with nothing found end alike. -/
def eqB (s s' : BS) : Prop := s.1 = s'.1 ∧ s.2.2.2.2.2 = s'.2.2.2.2.2 ∧ (s.1 ≠ 0 → s = s')
theorem eqB.step {s s' : BS} (h : eqB s s') (X Y : Int) (i j : Nat) : eqB (btP s X Y i j) (btP s' X Y i j) := by
  obtain ⟨h1, h2, h3⟩ := h
  unfold btP
  rw [← h1, ← h2]
  by_cases c1 : X * X + Y * Y = 0
  · rw [if_pos c1, if_pos c1]
    exact ⟨rfl, rfl, fun z => by rw [h3 z]⟩
  · rw [if_neg c1, if_neg c1]
    by_cases c2 : s.1 = 0 ∨ X * X + Y * Y < s.1
    · rw [if_pos c2, if_pos c2]
      exact ⟨rfl, rfl, fun _ => rfl⟩
    · rw [if_neg c2, if_neg c2]
      exact ⟨h1, h2, h3⟩
theorem eqB.row {s s' : BS} (h : eqB s s') (f g : Nat → Int) (i : Nat) : ∀ m, eqB (btR f g s i m) (btR f g s' i m) := by
  intro m
  induction m with
  | zero => exact h
  | succ m ih => exact ih.step _ _ _ _
theorem eqB.all {s s' : BS} (h : eqB s s') (f g : Nat → Int) : ∀ i, eqB (btA f g s i) (btA f g s' i) := by
  intro i
  induction i with
  | zero => exact h
  | succ i ih => exact ih.row f g i 4
/-! frames with longs -/
def FrA (a b : Nat → Nat → Prop) (T T' : TS) : Prop := (∀ q k, ¬ a q k → T'.1 q k = T.1 q k) ∧ (∀ q k, ¬ b q k → T'.2.1 q k = T.2.1 q k) ∧ T'.2.2 = T.2.2
theorem FrA.rf (a b : Nat → Nat → Prop) (T : TS) : FrA a b T T := ⟨fun _ _ _ => rfl, fun _ _ _ => rfl, rfl⟩
theorem FrA.tr {a b : Nat → Nat → Prop} {T T' T'' : TS} (h1 : FrA a b T T') (h2 : FrA a b T' T'') : FrA a b T T'' := ⟨fun q k h => (h2.1 q k h).trans (h1.1 q k h), fun q k h => (h2.2.1 q k h).trans (h1.2.1 q k h), h2.2.2.trans h1.2.2⟩
theorem FrA.mono {a b a' b' : Nat → Nat → Prop} {T T' : TS} (h : FrA a b T T') (ha : ∀ q k, a q k → a' q k) (hb : ∀ q k, b q k → b' q k) : FrA a' b' T T' := ⟨fun q k hq => h.1 q k (fun z => hq (ha q k z)), fun q k hq => h.2.1 q k (fun z => hq (hb q k z)), h.2.2⟩
theorem FrA.wr {a b : Nat → Nat → Prop} {T T' : TS} (h : FrA a b T T') {p k : Nat} (x : Int32) (hA : a p k) : FrA a b T (sI T' p k x) := by
  refine ⟨fun q j hq => ?_, h.2.1, h.2.2⟩
  rw [sI_get]
  split
  · rename_i e
    obtain ⟨rfl, rfl⟩ := e
    exact absurd hA hq
  · exact h.1 q j hq
theorem FrA.wrJ {a b : Nat → Nat → Prop} {T T' : TS} (h : FrA a b T T') {p k : Nat} (x : Int64) (hA : b p k) : FrA a b T (sJ T' p k x) := by
  refine ⟨h.1, fun q j hq => ?_, h.2.2⟩
  rw [sJ_get]
  split
  · rename_i e
    obtain ⟨rfl, rfl⟩ := e
    exact absurd hA hq
  · exact h.2.1 q j hq
theorem FrA.of {a b : Nat → Nat → Prop} {T T' : TS} (h : FrI a T T') : FrA a b T T' := ⟨h.1, fun q k _ => by rw [h.2], by rw [h.2]⟩
/-- what the reference's beat writes -/
def aMb (q k : Nat) : Prop := q = 53 ∧ 37 ≤ k ∧ k ≤ 39
def bMb (q k : Nat) : Prop := q = 53 ∧ (k = 35 ∨ k = 36)
theorem FrM.ofA {a b : Nat → Nat → Prop} {T T' : TS} (h : FrA a b T T') (ha : ∀ q k, a q k → aRef q k) (hb : ∀ q k, b q k → q = 53 ∨ (58 ≤ q ∧ q ≤ 71)) : FrM T T' := ⟨fun q k hq => h.1 q k (fun z => hq (ha q k z)), fun q k hq => h.2.1 q k (fun z => hq (hb q k z)), h.2.2⟩
theorem FrM.mb {T T' : TS} (h : FrA aMb bMb T T') : FrM T T' := FrM.ofA h (fun q k z => by unfold aMb at z; unfold aRef; omega) (fun q k z => by unfold bMb at z; omega)
