/-! with all homes in, no line is left: pure. -/
theorem full_none {w h s : Int} (ho : okG w h s) {f : Nat → Int} {a b : Int} (h1 : ∀ x y, f (hmN w h s (x + 1) y) = f (hmN w h s x y) + a) (h2 : ∀ x y, f (hmN w h s x (y + 1)) = f (hmN w h s x y) + b) : a = 0 ∧ b = 0 := by
  have s1 : ∀ (n : Nat) (x y : Int), f (hmN w h s (x + (n : Int)) y) = f (hmN w h s x y) + (n : Int) * a := by
    intro n
    induction n with
    | zero => intro x y; rw [show x + ((0 : Nat) : Int) = x by omega, show ((0 : Nat) : Int) = 0 from rfl, Int.zero_mul]; omega
    | succ n ih =>
      intro x y
      rw [show x + ((n + 1 : Nat) : Int) = x + (n : Int) + 1 by omega, h1, ih, show ((n + 1 : Nat) : Int) = (n : Int) + 1 by omega, Int.add_mul, Int.one_mul]
      omega
  have s2 : ∀ (n : Nat) (x y : Int), f (hmN w h s x (y + (n : Int))) = f (hmN w h s x y) + (n : Int) * b := by
    intro n
    induction n with
    | zero => intro x y; rw [show y + ((0 : Nat) : Int) = y by omega, show ((0 : Nat) : Int) = 0 from rfl, Int.zero_mul]; omega
    | succ n ih =>
      intro x y
      rw [show y + ((n + 1 : Nat) : Int) = y + (n : Int) + 1 by omega, h2, ih, show ((n + 1 : Nat) : Int) = (n : Int) + 1 by omega, Int.add_mul, Int.one_mul]
      omega
  obtain ⟨o1, o2, o3, o4⟩ := ho
  have e1 := s1 w.toNat 0 0
  rw [show ((w.toNat : Nat) : Int) = w by omega] at e1
  have p1 : hmN w h s (0 + w) 0 = hmN w h s 0 0 := by
    have := plc_bw (w := w) (h := h) (s := s) (x := 0) (y := 0) (t := 0) (r := 1) o2.1
    rw [Int.zero_mul, Int.zero_mul, Int.one_mul] at this
    unfold hmN
    rw [show (0 : Int) + w = 0 + 0 + w by omega, show plc w h s (0 + 0 + w) 0 = plc w h s (0 + 0 + w) (0 + 0) from rfl, this]
  rw [p1] at e1
  have a0 : a = 0 := by
    rcases Int.mul_eq_zero.mp (show w * a = 0 by omega) with z | z
    · omega
    · exact z
  refine ⟨a0, ?_⟩
  have e2 := s1 s.toNat 0 0
  have e3 := s2 h.toNat (0 + ((s.toNat : Nat) : Int)) 0
  rw [e2, show ((s.toNat : Nat) : Int) = s by omega, show ((h.toNat : Nat) : Int) = h by omega, a0, Int.mul_zero] at e3
  have p2 : hmN w h s (0 + s) (0 + h) = hmN w h s 0 0 := by
    have := plc_bw (w := w) (h := h) (s := s) (x := 0) (y := 0) (t := 1) (r := 0) o2.1
    rw [Int.zero_mul, Int.one_mul, Int.one_mul, Int.add_zero] at this
    unfold hmN
    rw [this]
  rw [p2] at e3
  rcases Int.mul_eq_zero.mp (show h * b = 0 by omega) with z | z
  · omega
  · exact z
