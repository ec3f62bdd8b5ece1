/-! homes as classes of pixels: pure. -/
theorem plc_bw {w h s x y t r : Int} (hh : 0 < h) : plc w h s (x + t * s + r * w) (y + t * h) = plc w h s x y := by
  unfold plc hmX
  rw [Int.add_mul_emod_self_right, Int.add_mul_ediv_right _ _ (by omega : h ≠ 0)]
  rw [show x + t * s + r * w - (y / h + t) * s = x - y / h * s + r * w by grind, Int.add_mul_emod_self_right]
theorem plc_fw {w h s x y x' y' : Int} (ho : okG w h s) (e : plc w h s x y = plc w h s x' y') : ∃ t r : Int, y' = y + t * h ∧ x' = x + t * s + r * w := by
  obtain ⟨h1, h2, h3, h4⟩ := ho
  have b1 := hmX_bd (h := h) (s := s) (x := x) (y := y) h1.1
  have b2 := hmX_bd (h := h) (s := s) (x := x') (y := y') h1.1
  unfold plc at e
  have m1 : (y % h * w + hmX w h s x y) % w = hmX w h s x y := by
    rw [Int.add_comm, Int.add_mul_emod_self_right]
    exact Int.emod_eq_of_lt b1.1 b1.2
  have m2 : (y' % h * w + hmX w h s x' y') % w = hmX w h s x' y' := by
    rw [Int.add_comm, Int.add_mul_emod_self_right]
    exact Int.emod_eq_of_lt b2.1 b2.2
  rw [e, m2] at m1
  rw [m1] at e
  have e3 : y % h * w = y' % h * w := by omega
  have e4 : y % h = y' % h := Int.eq_of_mul_eq_mul_right (by omega) e3
  have d1 := Int.emod_add_ediv_mul y h
  have d2 := Int.emod_add_ediv_mul y' h
  unfold hmX at m1
  have d3 := Int.emod_add_ediv_mul (x - y / h * s) w
  have d4 := Int.emod_add_ediv_mul (x' - y' / h * s) w
  refine ⟨y' / h - y / h, (x' - y' / h * s) / w - (x - y / h * s) / w, ?_, ?_⟩
  · rw [Int.sub_mul]; omega
  · rw [Int.sub_mul, Int.sub_mul]; omega
def hmN (w h s x y : Int) : Nat := (plc w h s x y).toNat
theorem hmN_inv {w h s : Int} (ho : okG w h s) : hInv (hmN w h s) := by
  intro x y x' y' a b e
  unfold hmN at *
  have b1 := plc_bd (x := x) (y := y) ho
  have b2 := plc_bd (x := x') (y := y') ho
  obtain ⟨t, r, e1, e2⟩ := plc_fw (x := x) (y := y) (x' := x') (y' := y') ho (by omega)
  rw [e1, e2, show x + t * s + r * w + a = (x + a) + t * s + r * w by omega, show y + t * h + b = (y + b) + t * h by omega, plc_bw ho.2.1.1]
theorem hmN_rep {w h s : Int} (ho : okG w h s) : hRep (hmN w h s) (w * h).toNat (fun k => (k : Int) % w) (fun k => (k : Int) / w) := by
  refine ⟨?_, ?_⟩
  · intro k hk
    have h1 := ho.1.1
    have d := Int.emod_add_ediv_mul (k : Int) w
    have m0 := Int.emod_nonneg (k : Int) (b := w) (by omega)
    have m1 := Int.emod_lt_of_pos (k : Int) h1
    have q0 : 0 ≤ (k : Int) / w := Int.ediv_nonneg (by omega) (by omega)
    have q1 : (k : Int) / w < h := Int.ediv_lt_of_lt_mul h1 (by rw [Int.mul_comm]; omega)
    show (plc w h s ((k : Int) % w) ((k : Int) / w)).toNat = k
    unfold plc hmX
    rw [Int.emod_eq_of_lt q0 q1, Int.ediv_eq_zero_of_lt q0 q1, Int.zero_mul, Int.sub_zero, Int.emod_eq_of_lt m0 m1]
    omega
  · intro x y
    have := plc_bd (x := x) (y := y) ho
    unfold hmN
    omega
