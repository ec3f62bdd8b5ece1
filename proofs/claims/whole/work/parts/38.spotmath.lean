/-! SPOTS: what is least over the rows. -/
def nearD (r per : Int) : Int := if per - r < r then per - r else r
def rise (h y k : Int) : Int := ((2 * y + 1 - 2 * k * h).natAbs : Int)
def meas (kd u v : Int) : Int := if kd = 1 then u + v else u * u + v * v
def spK (kd w h s x y k : Int) : Int := meas kd (nearD ((2 * x + 1 - 2 * k * s) % (2 * w)) (2 * w)) (rise h y k)
def mnK (f : Int → Int) (lo : Int) : Nat → Int
  | 0 => f lo
  | n + 1 => if f (lo + (n + 1 : Nat)) < mnK f lo n then f (lo + (n + 1 : Nat)) else mnK f lo n
theorem mnK_le (f : Int → Int) (lo : Int) : ∀ (n j : Nat), j ≤ n → mnK f lo n ≤ f (lo + (j : Nat)) := by
  intro n
  induction n with
  | zero => intro j hj; rw [show j = 0 by omega]; show f lo ≤ _; simp
  | succ n ih =>
    intro j hj
    unfold mnK
    rcases Nat.lt_or_ge j (n + 1) with h | h
    · have := ih j (by omega)
      split <;> omega
    · rw [show j = n + 1 by omega]
      split <;> omega
theorem mnK_ex (f : Int → Int) (lo : Int) : ∀ (n : Nat), ∃ k, mnK f lo n = f k := by
  intro n
  induction n with
  | zero => exact ⟨lo, rfl⟩
  | succ n ih =>
    unfold mnK
    split
    · exact ⟨_, rfl⟩
    · exact ih
theorem near_bd {z w : Int} (hw : 0 < w) (k : Int) : 0 ≤ nearD (z % (2 * w)) (2 * w) ∧ nearD (z % (2 * w)) (2 * w) ≤ w ∧ nearD (z % (2 * w)) (2 * w) ≤ ((z - 2 * w * k).natAbs : Int) := by
  have h1 := Int.emod_nonneg z (show 2 * w ≠ 0 by omega)
  have h2 := Int.emod_lt_of_pos z (show 0 < 2 * w by omega)
  have h3 := Int.mul_ediv_add_emod z (2 * w)
  unfold nearD
  generalize z % (2 * w) = r at *
  generalize z / (2 * w) = q at *
  have h4 : z - 2 * w * k = r + 2 * w * (q - k) := by grind
  rw [h4]
  have h5 : q - k ≤ -1 ∨ q - k = 0 ∨ 1 ≤ q - k := by omega
  rcases h5 with h5 | h5 | h5
  · have : 2 * w * (q - k) ≤ 2 * w * (-1) := Int.mul_le_mul_of_nonneg_left h5 (by omega)
    split <;> omega
  · rw [h5, Int.mul_zero]
    split <;> omega
  · have : 2 * w * 1 ≤ 2 * w * (q - k) := Int.mul_le_mul_of_nonneg_left h5 (by omega)
    split <;> omega
theorem meas_mono {kd u v u' v' : Int} (hu : 0 ≤ u ∧ u ≤ u') (hv : 0 ≤ v ∧ v ≤ v') : meas kd u v ≤ meas kd u' v' := by
  unfold meas
  split
  · omega
  · have h1 : u * u ≤ u' * u' := Int.mul_le_mul hu.2 hu.2 hu.1 (by omega)
    have h2 : v * v ≤ v' * v' := Int.mul_le_mul hv.2 hv.2 hv.1 (by omega)
    omega
/-- some point of the grid is near in both ways -/
theorem near24 {a b c d : Int} (ho : okS a b c d) (x y : Int) : ∃ k : Int, nearD ((2 * x + 1 - 2 * k * bkS (brk a b c d)) % (2 * bkW (brk a b c d))) (2 * bkW (brk a b c d)) ≤ 24 ∧ rise (bkH (brk a b c d)) y k ≤ 24 := by
  obtain ⟨f1, f2, f3, f4, f5, f6⟩ := brk_facts ho
  obtain ⟨o1, o2, o3, o4, o5, o6⟩ := ho
  -- round both coordinates
  have key : ∀ (D n : Int), 0 < D → ∃ i r : Int, n = i * (2 * D) + r ∧ -D ≤ r ∧ r < D := by
    intro D n hD
    refine ⟨(n + D) / (2 * D), n - (n + D) / (2 * D) * (2 * D), by omega, ?_, ?_⟩
    · have h1 := Int.emod_add_ediv_mul (n + D) (2 * D)
      have h2 := Int.emod_nonneg (n + D) (show 2 * D ≠ 0 by omega)
      omega
    · have h1 := Int.emod_add_ediv_mul (n + D) (2 * D)
      have h2 := Int.emod_lt_of_pos (n + D) (show 0 < 2 * D by omega)
      omega
  have main : ∀ (D : Int), 0 < D → (a * d - b * c = D ∨ a * d - b * c = -D) → ∃ i j : Int, ((2 * x + 1 - 2 * (i * a + j * c)).natAbs ≤ 24 ∧ (2 * y + 1 - 2 * (i * b + j * d)).natAbs ≤ 24) := by
    intro D hD hdet
    have fin : ∀ (A C r1 r2 dx : Int), (-12 ≤ A ∧ A ≤ 12) → (-12 ≤ C ∧ C ≤ 12) → (-D ≤ r1 ∧ r1 ≤ D) → (-D ≤ r2 ∧ r2 ≤ D) → (D * dx = r1 * A + r2 * C ∨ D * dx = -(r1 * A + r2 * C)) → dx.natAbs ≤ 24 := by
      intro A C r1 r2 dx hA hC h1 h2 he
      have m1 := mul_bd h1 hA
      have m2 := mul_bd h2 hC
      have h3 : -(D * 24) ≤ D * dx ∧ D * dx ≤ D * 24 := by omega
      have h4 : dx ≤ 24 := Int.le_of_mul_le_mul_left h3.2 hD
      have h5 : -24 ≤ dx := by
        apply Int.le_of_mul_le_mul_left (a := D) _ hD
        have : D * -24 = -(D * 24) := by omega
        omega
      omega
    rcases hdet with hdet | hdet
    · obtain ⟨i, r1, e1, b1, b2⟩ := key D ((2 * x + 1) * d - (2 * y + 1) * c) hD
      obtain ⟨j, r2, e2, b3, b4⟩ := key D ((2 * y + 1) * a - (2 * x + 1) * b) hD
      refine ⟨i, j, fin a c r1 r2 _ o1 o3 (by omega) (by omega) (Or.inl ?_), fin b d r1 r2 _ o2 o4 (by omega) (by omega) (Or.inl ?_)⟩
      · have : r1 = (2 * x + 1) * d - (2 * y + 1) * c - i * (2 * D) := by omega
        have : r2 = (2 * y + 1) * a - (2 * x + 1) * b - j * (2 * D) := by omega
        subst r1; subst r2
        rw [← hdet]; grind
      · have : r1 = (2 * x + 1) * d - (2 * y + 1) * c - i * (2 * D) := by omega
        have : r2 = (2 * y + 1) * a - (2 * x + 1) * b - j * (2 * D) := by omega
        subst r1; subst r2
        rw [← hdet]; grind
    · obtain ⟨i, r1, e1, b1, b2⟩ := key D (-((2 * x + 1) * d - (2 * y + 1) * c)) hD
      obtain ⟨j, r2, e2, b3, b4⟩ := key D (-((2 * y + 1) * a - (2 * x + 1) * b)) hD
      refine ⟨i, j, fin a c r1 r2 _ o1 o3 (by omega) (by omega) (Or.inl ?_), fin b d r1 r2 _ o2 o4 (by omega) (by omega) (Or.inl ?_)⟩
      · have h7 : r1 = -((2 * x + 1) * d - (2 * y + 1) * c) - i * (2 * D) := by omega
        have h8 : r2 = -((2 * y + 1) * a - (2 * x + 1) * b) - j * (2 * D) := by omega
        have h9 : D = b * c - a * d := by omega
        rw [h7, h8, h9]; grind
      · have h7 : r1 = -((2 * x + 1) * d - (2 * y + 1) * c) - i * (2 * D) := by omega
        have h8 : r2 = -((2 * y + 1) * a - (2 * x + 1) * b) - j * (2 * D) := by omega
        have h9 : D = b * c - a * d := by omega
        rw [h7, h8, h9]; grind
  obtain ⟨i, j, hx, hy⟩ := main (cel a b c d) (by unfold cel; omega) (by unfold cel; omega)
  obtain ⟨m, k, e1, e2⟩ := (f6 _ _).mpr ⟨i, j, rfl, rfl⟩
  refine ⟨m, ?_, ?_⟩
  · have h := (near_bd (z := 2 * x + 1 - 2 * m * bkS (brk a b c d)) f1 k).2.2
    have e3 : 2 * x + 1 - 2 * m * bkS (brk a b c d) - 2 * bkW (brk a b c d) * k = 2 * x + 1 - 2 * (i * a + j * c) := by rw [e1]; grind
    rw [e3] at h
    omega
  · unfold rise
    have e3 : 2 * y + 1 - 2 * m * bkH (brk a b c d) = 2 * y + 1 - 2 * (i * b + j * d) := by rw [e2]; grind
    rw [e3]
    omega
/-- how many rows the reference looks at -/
def rch (h : Int) : Int := 24 / h + 2
theorem rise_far {h y k : Int} (hh : 0 < h ∧ h ≤ 144) (hy : 0 ≤ y ∧ y < h) (hk : k < -rch h ∨ rch h < k) : 53 ≤ rise h y k := by
  have h1 := Int.emod_add_ediv_mul 24 h
  have h2 := Int.emod_lt_of_pos 24 hh.1
  unfold rch at hk
  unfold rise
  rcases hk with hk | hk
  · have h3 : k * h ≤ (-(24 / h) - 3) * h := Int.mul_le_mul_of_nonneg_right (by omega) (by omega)
    have h4 : (-(24 / h) - 3) * h = -(24 / h * h) - 3 * h := by grind
    have h5 : 2 * k * h = 2 * (k * h) := by grind
    omega
  · have h3 : (24 / h + 3) * h ≤ k * h := Int.mul_le_mul_of_nonneg_right (by omega) (by omega)
    have h4 : (24 / h + 3) * h = 24 / h * h + 3 * h := by grind
    have h5 : 2 * k * h = 2 * (k * h) := by grind
    omega
/-- the least of all rows -/
def spM (kd w h s x y : Int) : Int := mnK (spK kd w h s x y) (-rch h) (2 * rch h).toNat
theorem spM_le {a b c d : Int} (ho : okS a b c d) {x y kd : Int} (hy : 0 ≤ y ∧ y < bkH (brk a b c d)) (k : Int) : spM kd (bkW (brk a b c d)) (bkH (brk a b c d)) (bkS (brk a b c d)) x y ≤ spK kd (bkW (brk a b c d)) (bkH (brk a b c d)) (bkS (brk a b c d)) x y k := by
  have hG := okG_brk ho
  obtain ⟨k1, n1, n2⟩ := near24 ho x y
  generalize bkW (brk a b c d) = w at *
  generalize bkH (brk a b c d) = h at *
  generalize bkS (brk a b c d) = s at *
  obtain ⟨g1, g2, g3, g4⟩ := hG
  have hr : 0 < rch h := by
    have := Int.ediv_nonneg (show (0 : Int) ≤ 24 by decide) (show 0 ≤ h by omega)
    unfold rch; omega
  have inside : ∀ k : Int, -rch h ≤ k → k ≤ rch h → spM kd w h s x y ≤ spK kd w h s x y k := by
    intro k h1 h2
    have := mnK_le (spK kd w h s x y) (-rch h) (2 * rch h).toNat (k + rch h).toNat (by omega)
    rw [show -rch h + (((k + rch h).toNat : Nat) : Int) = k by omega] at this
    exact this
  by_cases hk : -rch h ≤ k ∧ k ≤ rch h
  · exact inside k hk.1 hk.2
  · have far := rise_far (k := k) g2 hy (by omega)
    have k1in : -rch h ≤ k1 ∧ k1 ≤ rch h := by
      by_cases hq : -rch h ≤ k1 ∧ k1 ≤ rch h
      · exact hq
      · have := rise_far (k := k1) g2 hy (by omega)
        omega
    refine Int.le_trans (inside k1 k1in.1 k1in.2) ?_
    have b1 := near_bd (z := 2 * x + 1 - 2 * k1 * s) g1.1 0
    have b2 := near_bd (z := 2 * x + 1 - 2 * k * s) g1.1 0
    have m1 : spK kd w h s x y k1 ≤ meas kd 24 24 := meas_mono ⟨b1.1, n1⟩ ⟨by unfold rise; omega, n2⟩
    have m2 : meas kd 0 53 ≤ spK kd w h s x y k := meas_mono ⟨by omega, b2.1⟩ ⟨by omega, far⟩
    have m3 : meas kd 24 24 ≤ meas kd 0 53 := by unfold meas; split <;> omega
    omega
theorem spM_ex (kd w h s x y : Int) : ∃ k, spM kd w h s x y = spK kd w h s x y k := mnK_ex _ _ _
