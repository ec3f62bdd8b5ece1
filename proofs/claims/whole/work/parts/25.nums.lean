/-! INTS AND LONGS AS WHOLE NUMBERS. -/
def iI (z : Int) : Int32 := Int32.ofInt z
def iJ (z : Int) : Int64 := Int64.ofInt z
theorem iI_toInt {a : Int} (h1 : -2147483648 ≤ a) (h2 : a ≤ 2147483647) : (iI a).toInt = a := Int32.toInt_ofInt_of_le (by omega) (by omega)
theorem iJ_toInt {a : Int} (h1 : -9223372036854775808 ≤ a) (h2 : a ≤ 9223372036854775807) : (iJ a).toInt = a := Int64.toInt_ofInt_of_le (by omega) (by omega)
theorem iI_of (x : Int32) : iI x.toInt = x := Int32.ofInt_toInt x
theorem iJ_of (x : Int64) : iJ x.toInt = x := Int64.ofInt_toInt x
theorem i32_ge (x : Int32) : -2147483648 ≤ x.toInt := by have := x.le_toInt; omega
theorem i32_le (x : Int32) : x.toInt ≤ 2147483647 := by have := x.toInt_lt; omega
theorem i64_ge (x : Int64) : -9223372036854775808 ≤ x.toInt := by have := x.le_toInt; omega
theorem i64_le (x : Int64) : x.toInt ≤ 9223372036854775807 := by have := x.toInt_lt; omega
theorem iI_add (a b : Int) : iI a + iI b = iI (a + b) := (Int32.ofInt_add a b).symm
theorem iI_sub (a b : Int) : iI a - iI b = iI (a - b) := (Int32.ofInt_sub a b).symm
theorem iI_mul (a b : Int) : iI a * iI b = iI (a * b) := (Int32.ofInt_mul a b).symm
theorem iI_neg (a : Int) : -iI a = iI (-a) := (Int32.ofInt_neg a).symm
theorem iJ_add (a b : Int) : iJ a + iJ b = iJ (a + b) := (Int64.ofInt_add a b).symm
theorem iJ_sub (a b : Int) : iJ a - iJ b = iJ (a - b) := (Int64.ofInt_sub a b).symm
theorem iJ_mul (a b : Int) : iJ a * iJ b = iJ (a * b) := (Int64.ofInt_mul a b).symm
theorem iJ_neg (a : Int) : -iJ a = iJ (-a) := (Int64.ofInt_neg a).symm
theorem iI_nat (n : Nat) : Int32.ofNat n = iI (n : Int) := Int32.ofInt_eq_ofNat.symm
theorem iJ_nat (n : Nat) : Int64.ofNat n = iJ (n : Int) := Int64.ofInt_eq_ofNat.symm
theorem iI_lit (n : Nat) : (OfNat.ofNat n : Int32) = iI (OfNat.ofNat n : Int) := Int32.ofInt_eq_ofNat.symm
theorem iJ_lit (n : Nat) : (OfNat.ofNat n : Int64) = iJ (OfNat.ofNat n : Int) := Int64.ofInt_eq_ofNat.symm
theorem iI_lt {a b : Int} (h1 : -2147483648 ≤ a) (h2 : a ≤ 2147483647) (h3 : -2147483648 ≤ b) (h4 : b ≤ 2147483647) : (iI a < iI b) = (a < b) := by
  rw [Int32.lt_iff_toInt_lt, iI_toInt h1 h2, iI_toInt h3 h4]
theorem iI_le {a b : Int} (h1 : -2147483648 ≤ a) (h2 : a ≤ 2147483647) (h3 : -2147483648 ≤ b) (h4 : b ≤ 2147483647) : (iI a ≤ iI b) = (a ≤ b) := by
  rw [Int32.le_iff_toInt_le, iI_toInt h1 h2, iI_toInt h3 h4]
theorem iI_eq {a b : Int} (h1 : -2147483648 ≤ a) (h2 : a ≤ 2147483647) (h3 : -2147483648 ≤ b) (h4 : b ≤ 2147483647) : (iI a = iI b) = (a = b) := by
  rw [← Int32.toInt_inj, iI_toInt h1 h2, iI_toInt h3 h4]
theorem iJ_lt {a b : Int} (h1 : -9223372036854775808 ≤ a) (h2 : a ≤ 9223372036854775807) (h3 : -9223372036854775808 ≤ b) (h4 : b ≤ 9223372036854775807) : (iJ a < iJ b) = (a < b) := by
  rw [Int64.lt_iff_toInt_lt, iJ_toInt h1 h2, iJ_toInt h3 h4]
theorem iJ_le {a b : Int} (h1 : -9223372036854775808 ≤ a) (h2 : a ≤ 9223372036854775807) (h3 : -9223372036854775808 ≤ b) (h4 : b ≤ 9223372036854775807) : (iJ a ≤ iJ b) = (a ≤ b) := by
  rw [Int64.le_iff_toInt_le, iJ_toInt h1 h2, iJ_toInt h3 h4]
theorem iJ_eq {a b : Int} (h1 : -9223372036854775808 ≤ a) (h2 : a ≤ 9223372036854775807) (h3 : -9223372036854775808 ≤ b) (h4 : b ≤ 9223372036854775807) : (iJ a = iJ b) = (a = b) := by
  rw [← Int64.toInt_inj, iJ_toInt h1 h2, iJ_toInt h3 h4]
theorem iI_div {a b : Int} (h1 : -2147483648 ≤ a) (h2 : a ≤ 2147483647) (h3 : -2147483648 ≤ b) (h4 : b ≤ 2147483647) : iI a / iI b = iI (a.tdiv b) := (Int32.ofInt_tdiv (by show -2147483648 ≤ a; exact h1) (by show a ≤ 2147483647; exact h2) (by show -2147483648 ≤ b; exact h3) (by show b ≤ 2147483647; exact h4)).symm
theorem iJ_div {a b : Int} (h1 : -9223372036854775808 ≤ a) (h2 : a ≤ 9223372036854775807) (h3 : -9223372036854775808 ≤ b) (h4 : b ≤ 9223372036854775807) : iJ a / iJ b = iJ (a.tdiv b) := (Int64.ofInt_tdiv (by show -9223372036854775808 ≤ a; exact h1) (by show a ≤ 9223372036854775807; exact h2) (by show -9223372036854775808 ≤ b; exact h3) (by show b ≤ 9223372036854775807; exact h4)).symm
theorem tdiv_tmod (a b : Int) : a - a.tdiv b * b = a.tmod b := by
  rw [Int.tmod_def, Int.mul_comm]
theorem iI_rem {a b : Int} (h1 : -2147483648 ≤ a) (h2 : a ≤ 2147483647) (h3 : -2147483648 ≤ b) (h4 : b ≤ 2147483647) : iI a - iI a / iI b * iI b = iI (a.tmod b) := by
  rw [iI_div h1 h2 h3 h4, iI_mul, iI_sub, tdiv_tmod]
theorem iJ_rem {a b : Int} (h1 : -9223372036854775808 ≤ a) (h2 : a ≤ 9223372036854775807) (h3 : -9223372036854775808 ≤ b) (h4 : b ≤ 9223372036854775807) : iJ a - iJ a / iJ b * iJ b = iJ (a.tmod b) := by
  rw [iJ_div h1 h2 h3 h4, iJ_mul, iJ_sub, tdiv_tmod]
theorem iI_J {a : Int} (h1 : -2147483648 ≤ a) (h2 : a ≤ 2147483647) : (iI a).toInt64 = iJ a := Int32.toInt64_ofInt (by show -2147483648 ≤ a; exact h1) (by show a ≤ 2147483647; exact h2)
theorem iJ_I (a : Int) : (iJ a).toInt32 = iI a := Int64.toInt32_ofInt
theorem iI_ix {a : Int} (h1 : -2147483648 ≤ a) (h2 : a ≤ 2147483647) : (iI a).toNatClampNeg = a.toNat := Int32.toNatClampNeg_ofInt_of_le (by omega) (by omega)
theorem toJ_toInt (x : Int32) : x.toInt64 = iJ x.toInt := by rw [← Int64.toInt_inj, Int32.toInt_toInt64, iJ_toInt (by have := i32_ge x; omega) (by have := i32_le x; omega)]
theorem ix_toInt (x : Int32) : x.toNatClampNeg = x.toInt.toNat := rfl
theorem cmp_ge (x y : Int64) : (0 ≤ lg_cmp x y) = (y ≤ x) := by
  unfold lg_cmp
  by_cases h1 : x > y
  · have : y ≤ x := by rw [Int64.le_iff_toInt_le]; have := Int64.lt_iff_toInt_lt.mp h1; omega
    simp [h1, this]
  · by_cases h2 : x = y
    · subst h2
      have : x ≤ x := by rw [Int64.le_iff_toInt_le]; omega
      simp [h1, this]
    · have : ¬ y ≤ x := by
        rw [Int64.le_iff_toInt_le]
        intro h
        have h3 : ¬ y.toInt < x.toInt := fun q => h1 (Int64.lt_iff_toInt_lt.mpr q)
        exact h2 (Int64.toInt_inj.mp (by omega))
      simp [h1, h2, this]
theorem cmp_lt (x y : Int64) : (lg_cmp x y < 0) = (x < y) := by
  have h := cmp_ge x y
  have e1 : (lg_cmp x y < 0) = ¬ (0 ≤ lg_cmp x y) := by rw [Int32.lt_iff_toInt_lt, Int32.le_iff_toInt_le]; exact propext ⟨fun a b => by omega, fun a => by omega⟩
  have e2 : (x < y) = ¬ (y ≤ x) := by rw [Int64.lt_iff_toInt_lt, Int64.le_iff_toInt_le]; exact propext ⟨fun a b => by omega, fun a => by omega⟩
  rw [e1, e2, h]
theorem cmp_eq (x y : Int64) : (lg_cmp x y = 0) = (x = y) := by
  unfold lg_cmp
  by_cases h1 : x > y
  · have : ¬ x = y := by rintro rfl; have := Int64.lt_iff_toInt_lt.mp h1; omega
    simp [h1, this]
  · by_cases h2 : x = y
    · subst h2; simp [h1]
    · simp [h1, h2]
theorem cmp_swap (x y : Int64) : lg_cmp x y = - lg_cmp y x := by
  unfold lg_cmp
  by_cases h1 : x > y
  · have h2 : ¬ y > x := fun h => by have := Int64.lt_iff_toInt_lt.mp h1; have := Int64.lt_iff_toInt_lt.mp h; omega
    have h3 : ¬ y = x := by rintro rfl; have := Int64.lt_iff_toInt_lt.mp h1; omega
    simp [h1, h2, h3]
  · by_cases h2 : x = y
    · subst h2; simp [h1]
    · have h3 : y > x := by
        rw [GT.gt, Int64.lt_iff_toInt_lt]
        have a1 : ¬ y.toInt < x.toInt := fun q => h1 (Int64.lt_iff_toInt_lt.mpr q)
        have a2 : ¬ x.toInt = y.toInt := fun q => h2 (Int64.toInt_inj.mp q)
        omega
      simp [h1, h2, h3]
theorem cmp_3 (x y : Int64) : lg_cmp x y = 1 ∨ lg_cmp x y = 0 ∨ lg_cmp x y = -1 := by
  unfold lg_cmp
  split
  · simp
  · split <;> simp
theorem cmp_gt (x y : Int64) : (0 < lg_cmp x y) = (y < x) := by
  have h := cmp_3 y x
  rw [← cmp_lt y x, cmp_swap x y]
  rcases h with h | h | h <;> rw [h] <;> decide
theorem cmp_le (x y : Int64) : (lg_cmp x y ≤ 0) = (x ≤ y) := by
  have h := cmp_3 y x
  rw [← cmp_ge y x, cmp_swap x y]
  rcases h with h | h | h <;> rw [h] <;> decide
theorem cmp_geI (x y : Int64) : (iI 0 ≤ lg_cmp x y) = (y ≤ x) := cmp_ge x y
theorem cmp_ltI (x y : Int64) : (lg_cmp x y < iI 0) = (x < y) := cmp_lt x y
theorem cmp_eqI (x y : Int64) : (lg_cmp x y = iI 0) = (x = y) := cmp_eq x y
theorem cmp_gtI (x y : Int64) : (iI 0 < lg_cmp x y) = (y < x) := cmp_gt x y
theorem cmp_leI (x y : Int64) : (lg_cmp x y ≤ iI 0) = (x ≤ y) := cmp_le x y
/-- a truth as an int -/
def bI (c : Prop) [Decidable c] : Int32 := if c then 1 else 0
theorem bI_0 (c : Prop) [Decidable c] : (bI c = 0) = ¬ c := by
  unfold bI; split <;> simp_all
theorem bI_1 (c : Prop) [Decidable c] : (bI c = 1) = c := by
  unfold bI; split <;> simp_all
theorem bI_01 (c : Prop) [Decidable c] : (bI c = 0 ∨ bI c = 1) = True := by
  unfold bI; split <;> simp
theorem bI_t {c : Prop} [Decidable c] (h : c) : bI c = 1 := if_pos h
theorem bI_f {c : Prop} [Decidable c] (h : ¬ c) : bI c = 0 := if_neg h
theorem bI_0I (c : Prop) [Decidable c] : (bI c = iI 0) = ¬ c := bI_0 c
theorem bI_1I (c : Prop) [Decidable c] : (bI c = iI 1) = c := bI_1 c
theorem bI_01I (c : Prop) [Decidable c] : (bI c = iI 0 ∨ bI c = iI 1) = True := bI_01 c
theorem pin {z : Int} {n : Nat} (h0 : 0 ≤ z) (h1 : z < (n : Int)) (hn : n ≤ 1000) : px_in (iI z) n = True := by
  rw [px_in, iI_toInt (by omega) (by omega)]
  exact eq_true ⟨h0, h1⟩
