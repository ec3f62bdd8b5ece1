/-! two folds that begin with nothing found end alike. -/
def eqB (s s' : BS) : Prop := s.1 = s'.1 ∧ s.2.2.2.2.2 = s'.2.2.2.2.2 ∧ (s.1 ≠ 0 → s = s')
theorem eqB.step {s s' : BS} (h : eqB s s') (X Y : Int) (i j : Nat) : eqB (btP s X Y i j) (btP s' X Y i j) := by
  obtain ⟨h1, h2, h3⟩ := h
  unfold btP
  rw [← h1, ← h2]
  by_cases c1 : X * X + Y * Y = 0
  · rw [if_pos c1, if_pos c1]
    exact ⟨rfl, rfl, fun z => by rw [h3 z]⟩
  · rw [if_neg c1, if_neg c1]
    by_cases c2 : s.1 = 0 ∨ X * X + Y * Y < s.1
    · rw [if_pos c2, if_pos c2]
      exact ⟨rfl, rfl, fun _ => rfl⟩
    · rw [if_neg c2, if_neg c2]
      exact ⟨h1, h2, h3⟩
theorem eqB.row {s s' : BS} (h : eqB s s') (f g : Nat → Int) (i : Nat) : ∀ m, eqB (btR f g s i m) (btR f g s' i m) := by
  intro m
  induction m with
  | zero => exact h
  | succ m ih => exact ih.step _ _ _ _
theorem eqB.all {s s' : BS} (h : eqB s s') (f g : Nat → Int) : ∀ i, eqB (btA f g s i) (btA f g s' i) := by
  intro i
  induction i with
  | zero => exact h
  | succ i ih => exact ih.row f g i 4
