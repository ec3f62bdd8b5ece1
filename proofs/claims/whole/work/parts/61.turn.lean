/-! turn. -/
abbrev mn2 (a b : Int) : Int := if b < a then b else a
theorem g_min {a b : Int} (ha : inI a) (hb : inI b) (g : px_G) : cl k_Math_min_II [.int (iI a), .int (iI b)] g = some (some (.int (iI (mn2 a b))), g) := by
  have e : (iI b < iI a) = (b < a) := iI_lt hb.1 hb.2 ha.1 ha.2
  rw [s_minI]
  unfold mn2
  by_cases c : b < a
  · rw [if_pos c, if_pos (by rw [e]; exact c)]
  · rw [if_neg c, if_neg (by rw [e]; exact c)]
theorem g_minJ {a b : Int} (ha : -1000000 ≤ a ∧ a ≤ 1000000) (hb : -1000000 ≤ b ∧ b ≤ 1000000) (g : px_G) : cl k_Math_min_JJ [.long (iJ a), .long (iJ b)] g = some (some (.long (iJ (mn2 a b))), g) := by
  have e : (iJ b < iJ a) = (b < a) := iJ_lt (by omega) (by omega) (by omega) (by omega)
  rw [s_minJ]
  unfold mn2
  by_cases c : b < a
  · rw [if_pos c, if_pos (by rw [e]; exact c)]
  · rw [if_neg c, if_neg (by rw [e]; exact c)]
theorem g_maxJ {a b : Int} (ha : -1000000 ≤ a ∧ a ≤ 1000000) (hb : -1000000 ≤ b ∧ b ≤ 1000000) (g : px_G) : cl k_Math_max_JJ [.long (iJ a), .long (iJ b)] g = some (some (.long (iJ (mx2 a b))), g) := by
  have e : (iJ a < iJ b) = (a < b) := iJ_lt (by omega) (by omega) (by omega) (by omega)
  rw [s_maxJ]
  unfold mx2
  by_cases c : a < b
  · rw [if_pos c, if_pos (by rw [e]; exact c)]
  · rw [if_neg c, if_neg (by rw [e]; exact c)]
abbrev alg (f g : Nat → Int) : Int := f 0 * g 0 + f 1 * g 1
abbrev acr (f g : Nat → Int) : Int := f 0 * g 1 - f 1 * g 0
/-- two ways that are not nothing: along and across are not both nothing -/
theorem alac_ne {a b c d : Int} (h1 : a ≠ 0 ∨ b ≠ 0) (h2 : c ≠ 0 ∨ d ≠ 0) : a * c + b * d ≠ 0 ∨ a * d - b * c ≠ 0 := by
  have key : (a * c + b * d) * (a * c + b * d) + (a * d - b * c) * (a * d - b * c) = (a * a + b * b) * (c * c + d * d) := by grind
  have sq : ∀ t : Int, t ≠ 0 → 0 < t * t := by
    intro t ht
    rcases Int.lt_or_gt_of_ne ht with q | q
    · exact Int.mul_pos_of_neg_of_neg q q
    · exact Int.mul_pos q q
  have nn : ∀ t : Int, 0 ≤ t * t := by
    intro t
    by_cases ht : t = 0
    · rw [ht]; decide
    · exact Int.le_of_lt (sq t ht)
  have p1 : 0 < a * a + b * b := by
    have := nn a
    have := nn b
    rcases h1 with h | h <;> have := sq _ h <;> omega
  have p2 : 0 < c * c + d * d := by
    have := nn c
    have := nn d
    rcases h2 with h | h <;> have := sq _ h <;> omega
  have p3 := Int.mul_pos p1 p2
  by_cases e : a * c + b * d = 0
  · right
    intro e2
    rw [e, e2] at key
    omega
  · left; exact e
theorem mx_div {a b g : Int} (hg : 0 < g) : mx2 (a / g) (b / g) = mx2 a b / g := by
  unfold mx2
  by_cases c : a < b
  · rw [if_pos c]
    have := Int.ediv_le_ediv hg (Int.le_of_lt c)
    split <;> omega
  · rw [if_neg c]
    have := Int.ediv_le_ediv hg (show b ≤ a by omega)
    split <;> omega
theorem mn_div {a b g : Int} (hg : 0 < g) : mn2 (a / g) (b / g) = mn2 a b / g := by
  unfold mn2
  by_cases c : b < a
  · rw [if_pos c]
    have := Int.ediv_le_ediv hg (Int.le_of_lt c)
    split <;> omega
  · rw [if_neg c]
    have := Int.ediv_le_ediv hg (show a ≤ b by omega)
    split <;> omega
def qTurn (V : VW) (i o k : Int) : Int := if isK V i ∧ isK V o ∧ 0 ≤ k ∧ k ≤ 1 then (if k = 0 then mx2 (trX (alg (V.2 i.toNat) (V.2 o.toNat)) (acr (V.2 i.toNat) (V.2 o.toNat))) (trY (alg (V.2 i.toNat) (V.2 o.toNat)) (acr (V.2 i.toNat) (V.2 o.toNat))) else mn2 (trX (alg (V.2 i.toNat) (V.2 o.toNat)) (acr (V.2 i.toNat) (V.2 o.toNat))) (trY (alg (V.2 i.toNat) (V.2 o.toNat)) (acr (V.2 i.toNat) (V.2 o.toNat)))) / ((Int.gcd (alg (V.2 i.toNat) (V.2 o.toNat)) (acr (V.2 i.toNat) (V.2 o.toNat)) : Nat) : Int) else -1000000
theorem ala_bd {f g : Nat → Int} (hf : okN f) (hg : okN g) : (-288 ≤ alg f g ∧ alg f g ≤ 288) ∧ (-288 ≤ acr f g ∧ acr f g ≤ 288) := by
  obtain ⟨o1, o2, o3⟩ := id hf.1
  obtain ⟨p1, p2, p3⟩ := id hg.1
  have m1 := mul_bd (a := f 0) (b := g 0) (M := 12) (N := 12) o1 p1
  have m2 := mul_bd (a := f 1) (b := g 1) (M := 12) (N := 12) o2 p2
  have m3 := mul_bd (a := f 0) (b := g 1) (M := 12) (N := 12) o1 p2
  have m4 := mul_bd (a := f 1) (b := g 0) (M := 12) (N := 12) o2 p1
  unfold alg acr
  omega
