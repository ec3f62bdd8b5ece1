/-! what two grids have in common: pure. -/
theorem bez (a b : Nat) : ∃ x y : Int, ((Nat.gcd a b : Nat) : Int) = (a : Int) * x + (b : Int) * y := by
  induction a, b using Nat.gcd.induction with
  | H0 n => exact ⟨0, 1, by rw [Nat.gcd_zero_left]; omega⟩
  | H1 m n hm ih =>
    obtain ⟨x, y, e⟩ := ih
    refine ⟨y - ((n / m : Nat) : Int) * x, x, ?_⟩
    rw [Nat.gcd_rec, e]
    have d : (n : Int) = (m : Int) * ((n / m : Nat) : Int) + ((n % m : Nat) : Int) := by
      have := Nat.div_add_mod n m
      rw [← Int.natCast_mul, ← Int.natCast_add, this]
    generalize ((n / m : Nat) : Int) = q at *
    generalize ((n % m : Nat) : Int) = r at *
    rw [d]
    grind
theorem bezI {w o : Int} (hw : 0 < w) (ho : 0 < o) : ∃ x y : Int, ((Int.gcd w o : Nat) : Int) = w * x + o * y := by
  obtain ⟨x, y, e⟩ := bez w.toNat o.toNat
  refine ⟨x, y, ?_⟩
  have e1 : ((w.toNat : Nat) : Int) = w := by omega
  have e2 : ((o.toNat : Nat) : Int) = o := by omega
  rw [e1, e2] at e
  have e3 : Int.gcd w o = Nat.gcd w.toNat o.toNat := by
    unfold Int.gcd
    rw [show w.natAbs = w.toNat by omega, show o.natAbs = o.toNat by omega]
  rw [e3]
  exact e
abbrev gc (a b : Int) : Int := ((Int.gcd a b : Nat) : Int)
theorem gc_f {w o : Int} (hw : 0 < w) : 0 < gc w o ∧ gc w o * (w / gc w o) = w ∧ gc w o * (o / gc w o) = o ∧ gc w o ≤ w := by
  have hp : 0 < Int.gcd w o := by rw [Int.gcd_pos_iff]; left; omega
  have e1 := Int.mul_ediv_cancel' (Int.gcd_dvd_left (a := w) (b := o))
  have e2 := Int.mul_ediv_cancel' (Int.gcd_dvd_right (a := w) (b := o))
  refine ⟨by unfold gc; omega, e1, e2, Int.le_of_dvd hw (Int.gcd_dvd_left (a := w) (b := o))⟩
/-- of both rows: where they come together -/
theorem crt {w o d : Int} (hw : 0 < w) (ho : 0 < o) (h1 : w ∣ d) (h2 : o ∣ d) : w / gc w o * o ∣ d := by
  obtain ⟨x, y, e⟩ := bezI hw ho
  obtain ⟨p, hp⟩ := h1
  obtain ⟨q, hq⟩ := h2
  obtain ⟨g0, g1, g2, g3⟩ := gc_f (w := w) (o := o) hw
  have eg : gc w o = w * x + o * y := e
  refine ⟨q * x + p * y, ?_⟩
  have hk : gc w o * d = gc w o * (w / gc w o * o * (q * x + p * y)) := by
    have l : gc w o * d = w * o * (q * x + p * y) := by
      rw [eg, Int.add_mul]
      have a1 : w * x * d = w * x * (o * q) := by rw [← hq]
      have a2 : o * y * d = o * y * (w * p) := by rw [← hp]
      rw [a1, a2]
      grind
    rw [l]
    have r : gc w o * (w / gc w o * o * (q * x + p * y)) = (gc w o * (w / gc w o)) * o * (q * x + p * y) := by grind
    rw [r, g1]
  exact Int.eq_of_mul_eq_mul_left (by omega) hk
theorem meet_ex {w o D : Int} (hw : 0 < w) (ho : 0 < o) (hD : gc w o ∣ D) : ∃ k : Nat, (k : Int) < o / gc w o ∧ o ∣ (k : Int) * w - D := by
  obtain ⟨x, y, e⟩ := bezI hw ho
  obtain ⟨m, hm⟩ := hD
  obtain ⟨g0, g1, g2, g3⟩ := gc_f (w := w) (o := o) hw
  have eg : gc w o = w * x + o * y := e
  have hn : 0 < o / gc w o := by
    rcases Int.lt_trichotomy (o / gc w o) 0 with z | z | z
    · have := Int.mul_neg_of_pos_of_neg g0 z
      omega
    · rw [z] at g2; omega
    · exact z
  generalize hnn : o / gc w o = n at *
  have k0 := Int.emod_nonneg (x * m) (b := n) (by omega)
  have k1 := Int.emod_lt_of_pos (x * m) hn
  have k2 := Int.mul_ediv_add_emod (x * m) n
  refine ⟨((x * m) % n).toNat, by omega, ?_⟩
  rw [show (((x * m) % n).toNat : Int) = (x * m) % n by omega]
  generalize (x * m) % n = k at *
  generalize (x * m) / n = c at *
  refine ⟨-(w / gc w o) * c - y * m, ?_⟩
  have h1 : k = x * m - n * c := by omega
  rw [h1, hm, eg]
  have h2 : n * c * w = o * ((w / gc w o) * c) := by
    have : n * c * w = (gc w o * n) * ((w / gc w o) * c) := by
      have e3 : n * c * w = n * c * (gc w o * (w / gc w o)) := by rw [g1]
      rw [e3]
      grind
    rw [this, g2]
  rw [Int.sub_mul, h2]
  grind
/-- the first place, by steps of w, that is one of the other's -/
def fdK (w o O : Int) : Nat → Int → Int
  | 0, x => x
  | n + 1, x => if (x - O) % o = 0 then x else fdK w o O n (x + w)
theorem fdK_s (w o O : Int) (n : Nat) (x : Int) : fdK w o O (n + 1) x = if (x - O) % o = 0 then x else fdK w o O n (x + w) := rfl
theorem fdK_sp {w o O : Int} : ∀ (n : Nat) (x : Int), (∃ k : Nat, k ≤ n ∧ (x + (k : Int) * w - O) % o = 0) → (fdK w o O n x - O) % o = 0 ∧ ∃ j : Nat, j ≤ n ∧ fdK w o O n x = x + (j : Int) * w := by
  intro n
  induction n with
  | zero =>
    rintro x ⟨k, hk, h⟩
    have : k = 0 := by omega
    subst this
    refine ⟨?_, 0, Nat.le_refl _, ?_⟩
    · show (x - O) % o = 0
      have e : x + ((0 : Nat) : Int) * w - O = x - O := by
        rw [show ((0 : Nat) : Int) = 0 from rfl, Int.zero_mul]; omega
      rw [e] at h
      exact h
    · show x = x + ((0 : Nat) : Int) * w
      rw [show ((0 : Nat) : Int) = 0 from rfl, Int.zero_mul]; omega
  | succ n ih =>
    rintro x ⟨k, hk, h⟩
    rw [fdK_s]
    by_cases c : (x - O) % o = 0
    · rw [if_pos c]
      refine ⟨c, 0, Nat.zero_le _, ?_⟩
      rw [show ((0 : Nat) : Int) = 0 from rfl, Int.zero_mul]; omega
    · rw [if_neg c]
      have hk0 : k ≠ 0 := by
        intro z
        subst z
        apply c
        have e : x + ((0 : Nat) : Int) * w - O = x - O := by
          rw [show ((0 : Nat) : Int) = 0 from rfl, Int.zero_mul]; omega
        rw [e] at h
        exact h
      obtain ⟨k', rfl⟩ : ∃ k', k = k' + 1 := ⟨k - 1, by omega⟩
      obtain ⟨a, j, hj, e⟩ := ih (x + w) ⟨k', by omega, by
        have e : x + w + (k' : Int) * w - O = x + ((k' + 1 : Nat) : Int) * w - O := by
          rw [show ((k' + 1 : Nat) : Int) = (k' : Int) + 1 by omega, Int.add_mul, Int.one_mul]; omega
        rw [e]; exact h⟩
      refine ⟨a, j + 1, by omega, ?_⟩
      rw [e, show ((j + 1 : Nat) : Int) = (j : Int) + 1 by omega, Int.add_mul, Int.one_mul]
      omega
/-- both sides come to the same slant -/
theorem meet_same {w o X O X' O' : Int} (hw : 0 < w) (ho : 0 < o) (hX : w ∣ X - X') (hO : o ∣ O - O') (hg : gc w o ∣ O - X) {n n' : Nat} (hn : o / gc w o ≤ n + 1) (hn' : o / gc w o ≤ n' + 1) : fdK w o O n X % (w / gc w o * o) = fdK w o O' n' X' % (w / gc w o * o) ∧ (∃ j : Nat, j ≤ n ∧ fdK w o O n X = X + (j : Int) * w) ∧ ∃ j : Nat, j ≤ n' ∧ fdK w o O' n' X' = X' + (j : Int) * w := by
  have dw : gc w o ∣ w := Int.gcd_dvd_left (a := w) (b := o)
  have dO : gc w o ∣ o := Int.gcd_dvd_right (a := w) (b := o)
  obtain ⟨g0, g1, g2, g3⟩ := gc_f (w := w) (o := o) hw
  obtain ⟨k, k1, k2⟩ := meet_ex hw ho hg
  have hg' : gc w o ∣ O' - X' := by
    have a := Int.dvd_trans dw hX
    have b := Int.dvd_trans dO hO
    have e : O' - X' = (O - X) + (X - X') - (O - O') := by omega
    rw [e]
    exact Int.dvd_sub (Int.dvd_add hg a) b
  obtain ⟨k', k1', k2'⟩ := meet_ex hw ho hg'
  obtain ⟨a1, j, hj, e1⟩ := fdK_sp (w := w) (o := o) (O := O) n X ⟨k, by omega, Int.emod_eq_zero_of_dvd (by
    have e : X + (k : Int) * w - O = (k : Int) * w - (O - X) := by omega
    rw [e]; exact k2)⟩
  obtain ⟨a2, j', hj', e2⟩ := fdK_sp (w := w) (o := o) (O := O') n' X' ⟨k', by omega, Int.emod_eq_zero_of_dvd (by
    have e : X' + (k' : Int) * w - O' = (k' : Int) * w - (O' - X') := by omega
    rw [e]; exact k2')⟩
  refine ⟨?_, ⟨j, hj, e1⟩, ⟨j', hj', e2⟩⟩
  rw [Int.emod_eq_emod_iff_emod_sub_eq_zero]
  apply Int.emod_eq_zero_of_dvd
  refine crt hw ho ?_ ?_
  · rw [e1, e2]
    obtain ⟨z, hz⟩ := hX
    refine ⟨z + (j : Int) - (j' : Int), ?_⟩
    have : X + (j : Int) * w - (X' + (j' : Int) * w) = (X - X') + (j : Int) * w - (j' : Int) * w := by omega
    rw [this, hz]
    grind
  · have d1 := Int.dvd_of_emod_eq_zero a1
    have d2 := Int.dvd_of_emod_eq_zero a2
    have e : fdK w o O n X - fdK w o O' n' X' = (fdK w o O n X - O) - (fdK w o O' n' X' - O') + (O - O') := by omega
    rw [e]
    exact Int.dvd_add (Int.dvd_sub d1 d2) hO
