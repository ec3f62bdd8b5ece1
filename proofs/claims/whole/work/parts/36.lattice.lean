/-! THE LATTICE OF A SCREEN. -/
theorem eu_fin : ∀ (k : Nat) (ux uy vx vy : Int), vy.natAbs ≤ k → (eu k ux uy vx vy).2.2.2 = 0 := by
  intro k
  induction k with
  | zero => intro ux uy vx vy h; show vy = 0; omega
  | succ k ih =>
    intro ux uy vx vy h
    unfold eu
    by_cases h0 : vy = 0
    · rw [if_pos h0]; exact h0
    · rw [if_neg h0]
      refine ih _ _ _ _ ?_
      have := tmod_lt (a := uy) h0
      rw [tdiv_tmod]
      omega
theorem det_step (ux uy vx vy t : Int) : vx * (uy - t * vy) - vy * (ux - t * vx) = -(ux * vy - uy * vx) := by
  rw [Int.mul_sub, Int.mul_sub]
  rw [Int.mul_comm vx uy, Int.mul_comm vy ux, show vx * (t * vy) = vy * (t * vx) by rw [Int.mul_left_comm, Int.mul_comm vx vy, ← Int.mul_left_comm]]
  omega
theorem eu_detE : ∀ (k : Nat) (ux uy vx vy : Int), ((eu k ux uy vx vy).1 * (eu k ux uy vx vy).2.2.2 - (eu k ux uy vx vy).2.1 * (eu k ux uy vx vy).2.2.1).natAbs = (ux * vy - uy * vx).natAbs := by
  intro k
  induction k with
  | zero => intro ux uy vx vy; rfl
  | succ k ih =>
    intro ux uy vx vy
    unfold eu
    by_cases h0 : vy = 0
    · rw [if_pos h0]
    · rw [if_neg h0, ih, det_step, Int.natAbs_neg]
/-- sums of whole times of two pairs -/
def span (ux uy vx vy X Y : Int) : Prop := ∃ i j : Int, X = i * ux + j * vx ∧ Y = i * uy + j * vy
theorem span_step (ux uy vx vy t X Y : Int) : span vx vy (ux - t * vx) (uy - t * vy) X Y ↔ span ux uy vx vy X Y := by
  constructor
  · rintro ⟨i, j, rfl, rfl⟩
    refine ⟨j, i - j * t, ?_, ?_⟩
    · rw [Int.mul_sub, Int.sub_mul, Int.mul_assoc]; omega
    · rw [Int.mul_sub, Int.sub_mul, Int.mul_assoc]; omega
  · rintro ⟨i, j, rfl, rfl⟩
    refine ⟨j + i * t, i, ?_, ?_⟩
    · rw [Int.mul_sub, Int.add_mul, Int.mul_assoc]; omega
    · rw [Int.mul_sub, Int.add_mul, Int.mul_assoc]; omega
theorem eu_span : ∀ (k : Nat) (ux uy vx vy X Y : Int), span (eu k ux uy vx vy).1 (eu k ux uy vx vy).2.1 (eu k ux uy vx vy).2.2.1 (eu k ux uy vx vy).2.2.2 X Y ↔ span ux uy vx vy X Y := by
  intro k
  induction k with
  | zero => intro ux uy vx vy X Y; rfl
  | succ k ih =>
    intro ux uy vx vy X Y
    unfold eu
    by_cases h0 : vy = 0
    · rw [if_pos h0]
    · rw [if_neg h0, ih, span_step]
/-- the grid of a brick -/
def inL (w h s X Y : Int) : Prop := ∃ m k : Int, X = m * s + k * w ∧ Y = m * h
theorem brk_facts {a b c d : Int} (ho : okS a b c d) : 0 < bkW (brk a b c d) ∧ 0 < bkH (brk a b c d) ∧ 0 ≤ bkS (brk a b c d) ∧ bkS (brk a b c d) < bkW (brk a b c d) ∧ bkW (brk a b c d) * bkH (brk a b c d) = cel a b c d ∧ ∀ X Y, inL (bkW (brk a b c d)) (bkH (brk a b c d)) (bkS (brk a b c d)) X Y ↔ span a b c d X Y := by
  obtain ⟨o1, o2, o3, o4, o5, o6⟩ := ho
  have hf : (brk a b c d).2.2.2 = 0 := eu_fin 12 a b c d (by omega)
  have hd : ((brk a b c d).1 * (brk a b c d).2.2.2 - (brk a b c d).2.1 * (brk a b c d).2.2.1).natAbs = (a * d - b * c).natAbs := eu_detE 12 a b c d
  have hsp : ∀ X Y : Int, span (brk a b c d).1 (brk a b c d).2.1 (brk a b c d).2.2.1 (brk a b c d).2.2.2 X Y ↔ span a b c d X Y := eu_span 12 a b c d
  revert hf hd hsp
  generalize brk a b c d = t
  obtain ⟨x, y, vx, vy⟩ := t
  intro hf hd hsp
  dsimp only at hf hd hsp
  subst hf
  have hw0 : vx ≠ 0 := by rintro rfl; simp at hd; omega
  have hy0 : y ≠ 0 := by rintro rfl; simp at hd; omega
  have hW : 0 < bkW (x, y, vx, 0) := by show 0 < (vx.natAbs : Int); omega
  have hS := Int.emod_nonneg (if 0 ≤ y then x else -x) (show bkW (x, y, vx, 0) ≠ 0 by omega)
  have hS2 := Int.emod_lt_of_pos (if 0 ≤ y then x else -x) hW
  refine ⟨hW, by show 0 < (y.natAbs : Int); omega, hS, hS2, ?_, ?_⟩
  · show (vx.natAbs : Int) * (y.natAbs : Int) = ((a * d - b * c).natAbs : Int)
    rw [← hd, Int.mul_zero, Int.zero_sub, Int.natAbs_neg, Int.natAbs_mul, Int.natCast_mul, Int.mul_comm]
  · intro X Y
    rw [← hsp]
    have he := Int.mul_ediv_add_emod (if 0 ≤ y then x else -x) (bkW (x, y, vx, 0))
    have hs : bkS (x, y, vx, 0) = (if 0 ≤ y then x else -x) - bkW (x, y, vx, 0) * ((if 0 ≤ y then x else -x) / bkW (x, y, vx, 0)) := by
      show (if 0 ≤ y then x else -x) % bkW (x, y, vx, 0) = _
      omega
    rw [hs]
    generalize (if 0 ≤ y then x else -x) / bkW (x, y, vx, 0) = e
    have hvw : bkW (x, y, vx, 0) = vx ∨ bkW (x, y, vx, 0) = -vx := by show (vx.natAbs : Int) = vx ∨ (vx.natAbs : Int) = -vx; omega
    have hyw : (0 ≤ y ∧ bkH (x, y, vx, 0) = y) ∨ (¬ 0 ≤ y ∧ bkH (x, y, vx, 0) = -y) := by show (0 ≤ y ∧ (y.natAbs : Int) = y) ∨ (¬ 0 ≤ y ∧ (y.natAbs : Int) = -y); omega
    generalize bkW (x, y, vx, 0) = w at hvw ⊢
    generalize bkH (x, y, vx, 0) = h at hyw ⊢
    constructor
    · rintro ⟨m, k, rfl, rfl⟩
      rcases hyw with ⟨hy, rfl⟩ | ⟨hy, rfl⟩
      · rw [if_pos hy]
        rcases hvw with rfl | rfl
        · exact ⟨m, k - m * e, by rw [Int.mul_sub, Int.sub_mul, show m * (w * e) = m * e * w by rw [Int.mul_assoc, Int.mul_comm w e]]; omega, by omega⟩
        · exact ⟨m, m * e - k, by rw [Int.mul_sub, Int.sub_mul, show m * (-vx * e) = -(m * e * vx) by rw [Int.neg_mul, Int.mul_neg, Int.mul_assoc, Int.mul_comm vx e], Int.mul_neg]; omega, by omega⟩
      · rw [if_neg hy]
        rcases hvw with rfl | rfl
        · exact ⟨-m, k - m * e, by rw [Int.mul_sub, Int.sub_mul, Int.mul_neg, Int.neg_mul, show m * (w * e) = m * e * w by rw [Int.mul_assoc, Int.mul_comm w e]]; omega, by rw [Int.mul_neg, Int.neg_mul]; omega⟩
        · exact ⟨-m, m * e - k, by grind, by grind⟩
    · rintro ⟨i, j, rfl, rfl⟩
      rcases hyw with ⟨hy, rfl⟩ | ⟨hy, rfl⟩
      · rw [if_pos hy]
        rcases hvw with rfl | rfl
        · exact ⟨i, j + i * e, by rw [Int.mul_sub, Int.add_mul, show i * (w * e) = i * e * w by rw [Int.mul_assoc, Int.mul_comm w e]]; omega, by omega⟩
        · exact ⟨i, i * e - j, by rw [Int.mul_sub, Int.sub_mul, show i * (-vx * e) = -(i * e * vx) by rw [Int.neg_mul, Int.mul_neg, Int.mul_assoc, Int.mul_comm vx e], Int.mul_neg, Int.mul_neg]; omega, by omega⟩
      · rw [if_neg hy]
        rcases hvw with rfl | rfl
        · exact ⟨-i, j - i * e, by rw [Int.mul_sub, Int.sub_mul, Int.neg_mul, Int.neg_mul, Int.mul_neg, show i * (w * e) = i * e * w by rw [Int.mul_assoc, Int.mul_comm w e]]; omega, by rw [Int.neg_mul, Int.mul_neg]; omega⟩
        · exact ⟨-i, -(j + i * e), by rw [Int.mul_sub, Int.neg_mul, Int.neg_mul, Int.mul_neg, show i * (-vx * e) = -(i * e * vx) by rw [Int.neg_mul, Int.mul_neg, Int.mul_assoc, Int.mul_comm vx e], Int.mul_neg, Int.neg_mul, Int.add_mul]; omega, by rw [Int.neg_mul, Int.mul_neg]; omega⟩
