/-! beats: the sixteen ways. -/
abbrev BS : Type := Int × Int × Int × Int × Int × Int
/-- one way more: (best, x, y, wave, other, alike) -/
def btP (s : BS) (X Y : Int) (i j : Nat) : BS := if X * X + Y * Y = 0 then (s.1, s.2.1, s.2.2.1, s.2.2.2.1, s.2.2.2.2.1, 1) else if s.1 = 0 ∨ X * X + Y * Y < s.1 then (X * X + Y * Y, X, Y, (i : Int), (j : Int), s.2.2.2.2.2) else s
def wyX (f g : Nat → Int) (i j : Nat) : Int := (g 0 * g 3 - g 1 * g 2) * wvX (f 1) (f 3) i - (f 0 * f 3 - f 1 * f 2) * wvX (g 1) (g 3) j
def wyY (f g : Nat → Int) (i j : Nat) : Int := (g 0 * g 3 - g 1 * g 2) * wvY (f 0) (f 2) i - (f 0 * f 3 - f 1 * f 2) * wvY (g 0) (g 2) j
/-- the ways of row i up to column m -/
def btR (f g : Nat → Int) (s : BS) (i : Nat) : Nat → BS
  | 0 => s
  | m + 1 => btP (btR f g s i m) (wyX f g i m) (wyY f g i m) i m
def btA (f g : Nat → Int) (s : BS) : Nat → BS
  | 0 => s
  | i + 1 => btR f g (btA f g s i) i 4
theorem wv_bd {a b c d : Int} (h : okS a b c d) (i : Nat) : (-12 ≤ wvX b d i ∧ wvX b d i ≤ 12) ∧ (-12 ≤ wvY a c i ∧ wvY a c i ≤ 12) := by
  obtain ⟨o1, o2, o3, o4, o5⟩ := h
  unfold wvX wvY
  refine ⟨?_, ?_⟩ <;> (split; omega; split; omega; split <;> omega)
theorem wy_bd {f g : Nat → Int} (hf : okN f) (hg : okN g) (i j : Nat) : (-3456 ≤ wyX f g i j ∧ wyX f g i j ≤ 3456) ∧ (-3456 ≤ wyY f g i j ∧ wyY f g i j ≤ 3456) := by
  have b1 := wv_bd hf.1 i
  have b2 := wv_bd hg.1 j
  have a1 := hf.1.2.2.2.2.2
  have a2 := hg.1.2.2.2.2.2
  have m1 := mul_bd (M := 144) (N := 12) a2 b1.1
  have m2 := mul_bd (M := 144) (N := 12) a1 b2.1
  have m3 := mul_bd (M := 144) (N := 12) a2 b1.2
  have m4 := mul_bd (M := 144) (N := 12) a1 b2.2
  unfold wyX wyY
  omega
/-- what holds of a state of the ways -/
def okB (s : BS) : Prop := (0 ≤ s.1 ∧ s.1 ≤ 23887872) ∧ (s.1 ≠ 0 → s.1 = s.2.1 * s.2.1 + s.2.2.1 * s.2.2.1 ∧ (-3456 ≤ s.2.1 ∧ s.2.1 ≤ 3456) ∧ (-3456 ≤ s.2.2.1 ∧ s.2.2.1 ≤ 3456)) ∧ (s.2.2.2.2.2 = 0 ∨ s.2.2.2.2.2 = 1)
theorem sq_nn (t : Int) : 0 ≤ t * t := by
  rcases Int.lt_trichotomy t 0 with q | q | q
  · exact Int.le_of_lt (Int.mul_pos_of_neg_of_neg q q)
  · rw [q]; decide
  · exact Int.le_of_lt (Int.mul_pos q q)
theorem len_bd {X Y : Int} (hx : -3456 ≤ X ∧ X ≤ 3456) (hy : -3456 ≤ Y ∧ Y ≤ 3456) : 0 ≤ X * X + Y * Y ∧ X * X + Y * Y ≤ 23887872 := by
  have m1 := mul_bd (M := 3456) (N := 3456) hx hx
  have m2 := mul_bd (M := 3456) (N := 3456) hy hy
  have n1 := sq_nn X
  have n2 := sq_nn Y
  omega
theorem okB.step {s : BS} (h : okB s) {X Y : Int} (hx : -3456 ≤ X ∧ X ≤ 3456) (hy : -3456 ≤ Y ∧ Y ≤ 3456) (i j : Nat) : okB (btP s X Y i j) := by
  have hl := len_bd hx hy
  unfold btP
  split
  · exact ⟨h.1, h.2.1, Or.inr rfl⟩
  · split
    · exact ⟨hl, fun _ => ⟨rfl, hx, hy⟩, h.2.2⟩
    · exact h
