/-! two moves turned upon one another: pure. -/
abbrev rU (q : Q4) : Int := q.1 * q.1 + q.2.1 * q.2.1
abbrev rV (q : Q4) : Int := q.2.2.1 * q.2.2.1 + q.2.2.2 * q.2.2.2
abbrev dtU (q : Q4) : Int := q.1 * q.2.2.1 + q.2.1 * q.2.2.2
abbrev ddU (q : Q4) : Int := q.1 * q.2.2.2 - q.2.1 * q.2.2.1
def swp (q : Q4) : Q4 := if rV q < rU q then (q.2.2.1, q.2.2.2, q.1, q.2.1) else q
def tmU (q : Q4) : Int := (2 * dtU q + rU q) / (2 * rU q)
def redU (q : Q4) : Q4 := (q.1, q.2.1, q.2.2.1 - tmU q * q.1, q.2.2.2 - tmU q * q.2.1)
def LR : Nat → Q4 → Q4
  | 0, q => q
  | n + 1, q => if tmU (swp q) = 0 then swp q else LR n (redU (swp q))
def Ter : Nat → Q4 → Prop
  | 0, _ => False
  | n + 1, q => tmU (swp q) = 0 ∨ Ter n (redU (swp q))
theorem LR_s (n : Nat) (q : Q4) : LR (n + 1) q = if tmU (swp q) = 0 then swp q else LR n (redU (swp q)) := rfl
def okR (N : Int) (q : Q4) : Prop := ddU q ≠ 0 ∧ rU q ≤ N ∧ rV q ≤ N
theorem n_pos {x y : Int} (h : x ≠ 0 ∨ y ≠ 0) : 0 < x * x + y * y := by
  have h1 := sq_nn x
  have h2 := sq_nn y
  rcases Int.lt_or_eq_of_le (show 0 ≤ x * x + y * y by omega) with z | z
  · exact z
  · obtain ⟨a, b⟩ := sq_0 z.symm
    rcases h with h | h
    · exact absurd a h
    · exact absurd b h
theorem okR.pos {N : Int} {q : Q4} (h : okR N q) : 0 < rU q ∧ 0 < rV q := by
  refine ⟨n_pos ?_, n_pos ?_⟩
  · apply Classical.byContradiction
    intro z
    have a : q.1 = 0 := Classical.byContradiction fun y => z (Or.inl y)
    have b : q.2.1 = 0 := Classical.byContradiction fun y => z (Or.inr y)
    apply h.1
    show q.1 * q.2.2.2 - q.2.1 * q.2.2.1 = 0
    rw [a, b, Int.zero_mul, Int.zero_mul]
    omega
  · apply Classical.byContradiction
    intro z
    have a : q.2.2.1 = 0 := Classical.byContradiction fun y => z (Or.inl y)
    have b : q.2.2.2 = 0 := Classical.byContradiction fun y => z (Or.inr y)
    apply h.1
    show q.1 * q.2.2.2 - q.2.1 * q.2.2.1 = 0
    rw [a, b, Int.mul_zero, Int.mul_zero]
    omega
theorem swp_ok {N : Int} {q : Q4} (h : okR N q) : okR N (swp q) ∧ rU (swp q) ≤ rV (swp q) ∧ (ddU (swp q) = ddU q ∨ ddU (swp q) = -ddU q) := by
  unfold swp
  split
  · rename_i c
    have e : ddU (q.2.2.1, q.2.2.2, q.1, q.2.1) = -ddU q := by
      show q.2.2.1 * q.2.1 - q.2.2.2 * q.1 = -(q.1 * q.2.2.2 - q.2.1 * q.2.2.1)
      rw [Int.mul_comm q.2.2.1 q.2.1, Int.mul_comm q.2.2.2 q.1]
      omega
    refine ⟨⟨?_, h.2.2, h.2.1⟩, Int.le_of_lt c, Or.inr e⟩
    rw [e]
    have := h.1
    omega
  · exact ⟨h, by omega, Or.inl rfl⟩
theorem nV_red (q : Q4) : rV (redU q) = rV q - 2 * (tmU q * dtU q) + tmU q * (tmU q * rU q) := by
  show (q.2.2.1 - tmU q * q.1) * (q.2.2.1 - tmU q * q.1) + (q.2.2.2 - tmU q * q.2.1) * (q.2.2.2 - tmU q * q.2.1) = (q.2.2.1 * q.2.2.1 + q.2.2.2 * q.2.2.2) - 2 * (tmU q * (q.1 * q.2.2.1 + q.2.1 * q.2.2.2)) + tmU q * (tmU q * (q.1 * q.1 + q.2.1 * q.2.1))
  generalize tmU q = t
  grind
theorem dt_red (q : Q4) : dtU (redU q) = dtU q - tmU q * rU q := by
  show q.1 * (q.2.2.1 - tmU q * q.1) + q.2.1 * (q.2.2.2 - tmU q * q.2.1) = (q.1 * q.2.2.1 + q.2.1 * q.2.2.2) - tmU q * (q.1 * q.1 + q.2.1 * q.2.1)
  generalize tmU q = t
  grind
theorem dd_red (q : Q4) : ddU (redU q) = ddU q := by
  show q.1 * (q.2.2.2 - tmU q * q.2.1) - q.2.1 * (q.2.2.1 - tmU q * q.1) = q.1 * q.2.2.2 - q.2.1 * q.2.2.1
  generalize tmU q = t
  grind
theorem tm_fl {q : Q4} (h : 0 < rU q) : 2 * (tmU q * rU q) ≤ 2 * dtU q + rU q ∧ 2 * dtU q + rU q < 2 * (tmU q * rU q) + 2 * rU q := by
  have e := Int.mul_ediv_add_emod (2 * dtU q + rU q) (2 * rU q)
  have a := Int.emod_nonneg (2 * dtU q + rU q) (b := 2 * rU q) (by omega)
  have b := Int.emod_lt_of_pos (2 * dtU q + rU q) (b := 2 * rU q) (by omega)
  have c : 2 * rU q * ((2 * dtU q + rU q) / (2 * rU q)) = 2 * (tmU q * rU q) := by
    show 2 * rU q * ((2 * dtU q + rU q) / (2 * rU q)) = 2 * ((2 * dtU q + rU q) / (2 * rU q) * rU q)
    generalize (2 * dtU q + rU q) / (2 * rU q) = t
    rw [Int.mul_assoc, Int.mul_comm (rU q) t]
  rw [c] at e
  omega
theorem red_ok {N : Int} {q : Q4} (h : okR N q) : okR N (redU q) ∧ (-(rU (redU q)) ≤ 2 * dtU (redU q) ∧ 2 * dtU (redU q) < rU (redU q)) ∧ ddU (redU q) = ddU q := by
  have hp := h.pos
  have hf := tm_fl hp.1
  have ed := dt_red q
  have eV := nV_red q
  have eU : rU (redU q) = rU q := rfl
  refine ⟨⟨by rw [dd_red]; exact h.1, h.2.1, ?_⟩, ?_, dd_red q⟩
  · have hle : tmU q * (tmU q * rU q) ≤ 2 * (tmU q * dtU q) := by
      have e2 : 2 * (tmU q * dtU q) = tmU q * (2 * dtU q) := by grind
      rw [e2]
      rcases Int.lt_trichotomy (tmU q) 0 with t | t | t
      · have k : tmU q * rU q ≤ -1 * rU q := Int.mul_le_mul_of_nonneg_right (by omega) (by omega)
        exact Int.mul_le_mul_of_nonpos_left (Int.le_of_lt t) (by omega)
      · rw [t, Int.zero_mul, Int.zero_mul]
        omega
      · have k : 1 * rU q ≤ tmU q * rU q := Int.mul_le_mul_of_nonneg_right (by omega) (by omega)
        exact Int.mul_le_mul_of_nonneg_left (by omega) (Int.le_of_lt t)
    have := h.2.2
    omega
  · rw [ed, eU]
    omega
theorem tm_0 {q : Q4} (hp : 0 < rU q) (h : -(rU q) ≤ 2 * dtU q ∧ 2 * dtU q < rU q) : tmU q = 0 := by
  unfold tmU
  exact Int.ediv_eq_zero_of_lt (by omega) (by omega)
theorem pow3 (n : Nat) : (3 : Int) ^ (n + 1) = (3 : Int) ^ n * 3 := Int.pow_succ 3 n
theorem ter_rd {N : Int} : ∀ (n : Nat) (q : Q4), okR N q → (-(rU q) ≤ 2 * dtU q ∧ 2 * dtU q < rU q) → rU q < (3 : Int) ^ n → Ter (n + 2) q := by
  intro n
  induction n with
  | zero => intro q h _ h3; have := h.pos; have e : (3 : Int) ^ 0 = 1 := rfl; omega
  | succ n ih =>
    intro q h hr h3
    have hp := h.pos
    by_cases c : rV q < rU q
    case neg =>
      have es : swp q = q := if_neg c
      left
      rw [es]
      exact tm_0 hp.1 hr
    have es : swp q = (q.2.2.1, q.2.2.2, q.1, q.2.1) := if_pos c
    obtain ⟨ok1, _, _⟩ := swp_ok h
    rw [es] at ok1
    have hp1 := ok1.pos
    have eU : rU (q.2.2.1, q.2.2.2, q.1, q.2.1) = rV q := rfl
    have eV : rV (q.2.2.1, q.2.2.2, q.1, q.2.1) = rU q := rfl
    have eD : dtU (q.2.2.1, q.2.2.2, q.1, q.2.1) = dtU q := by
      show q.2.2.1 * q.1 + q.2.2.2 * q.2.1 = q.1 * q.2.2.1 + q.2.1 * q.2.2.2
      rw [Int.mul_comm q.2.2.1, Int.mul_comm q.2.2.2]
    obtain ⟨ok2, rd2, _⟩ := red_ok ok1
    have fl := tm_fl hp1.1
    have nv2 := nV_red (q.2.2.1, q.2.2.2, q.1, q.2.1)
    have u2 : rU (redU (q.2.2.1, q.2.2.2, q.1, q.2.1)) = rV q := rfl
    rw [eU, eD] at fl
    rw [eU, eV, eD] at nv2
    have hp2 := ok2.pos
    show tmU (swp q) = 0 ∨ Ter (n + 2) (redU (swp q))
    rw [es]
    generalize hq1 : (q.2.2.1, q.2.2.2, q.1, q.2.1) = q1 at *
    by_cases t0 : tmU q1 = 0
    · exact Or.inl t0
    right
    by_cases t1 : tmU q1 = 1 ∨ tmU q1 = -1
    · have hv : rU (redU q1) ≤ rV (redU q1) := by
        rw [u2, nv2]
        rcases t1 with t1 | t1
        · rw [t1, Int.one_mul, Int.one_mul]
          omega
        · rw [t1]
          have e1 : -1 * (-1 * rV q) = rV q := by omega
          rw [e1]
          omega
      have es2 : swp (redU q1) = redU q1 := if_neg (by omega)
      show tmU (swp (redU q1)) = 0 ∨ _
      left
      rw [es2]
      exact tm_0 hp2.1 rd2
    · have h3' : 3 * rV q < rU q := by
        have hc : tmU q1 ≤ -2 ∨ 2 ≤ tmU q1 := by omega
        rcases hc with hc | hc
        · have k : tmU q1 * rV q ≤ -2 * rV q := Int.mul_le_mul_of_nonneg_right hc (by omega)
          omega
        · have k : 2 * rV q ≤ tmU q1 * rV q := Int.mul_le_mul_of_nonneg_right hc (by omega)
          omega
      rw [pow3] at h3
      exact ih (redU q1) ok2 rd2 (by rw [u2]; omega)
theorem ter_mono : ∀ (n : Nat) (q : Q4), Ter n q → ∀ k, Ter (n + k) q := by
  intro n
  induction n with
  | zero => intro q h; exact h.elim
  | succ n ih =>
    intro q h k
    rw [show n + 1 + k = (n + k) + 1 by omega]
    rcases h with h | h
    · exact Or.inl h
    · exact Or.inr (ih _ h k)
theorem ter_all {N : Int} (hN : N ≤ 400000000000000000) {q : Q4} (h : okR N q) : Ter 200 q := by
  obtain ⟨ok1, _, _⟩ := swp_ok h
  obtain ⟨ok2, rd2, _⟩ := red_ok ok1
  have e : (3 : Int) ^ 40 = 12157665459056928801 := by decide
  have t := ter_rd 40 (redU (swp q)) ok2 rd2 (by rw [e]; have := ok2.2.1; omega)
  have t2 : Ter (43 + 157) q := ter_mono 43 q (Or.inr t) 157
  exact t2
/-- what the end is -/
theorem LR_ok {N : Int} : ∀ (n : Nat) (q : Q4), okR N q → okR N (LR n q) ∧ (ddU (LR n q) = ddU q ∨ ddU (LR n q) = -ddU q) := by
  intro n
  induction n with
  | zero => intro q h; exact ⟨h, Or.inl rfl⟩
  | succ n ih =>
    intro q h
    rw [LR_s]
    obtain ⟨ok1, _, d1⟩ := swp_ok h
    split
    · exact ⟨ok1, d1⟩
    · obtain ⟨ok2, _, d2⟩ := red_ok ok1
      obtain ⟨ok3, d3⟩ := ih (redU (swp q)) ok2
      refine ⟨ok3, ?_⟩
      rw [d2] at d3
      omega
