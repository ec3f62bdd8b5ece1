/-! most, of couples: pure, and the component. -/
abbrev CP : Type := Option (Nat × Nat)
abbrev cpU (V : VW) (q : Nat × Nat) : Int := btU (V.2 q.1) (V.2 q.2)
abbrev cpL (V : VW) (q : Nat × Nat) : Int := btL (V.2 q.1) (V.2 q.2)
abbrev cpG (V : VW) (q : Nat × Nat) : Int := btG (V.2 q.1) (V.2 q.2)
abbrev isBtr (m u l u' l' : Int) : Prop := (m = 1 ∧ u' * l < u * l') ∨ (m = 0 ∧ u * l' < u' * l)
def cpS (m : Int) (V : VW) (b : CP) (q : Nat × Nat) : CP := match b with
  | none => some q
  | some p => if isBtr m (cpU V q) (cpL V q) (cpU V p) (cpL V p) then some q else some p
def cpR (m : Int) (V : VW) (i : Nat) : CP → Nat → Nat → CP
  | b, _, 0 => b
  | b, j, t + 1 => cpR m V i (cpS m V b (i, j)) (j + 1) t
def cpA (m : Int) (V : VW) : CP → Nat → Nat → CP
  | b, _, 0 => b
  | b, i, t + 1 => cpA m V (cpR m V i b (i + 1) (V.1 - (i + 1))) (i + 1) t
def cpK (b : CP) : Int := match b with
  | none => -1
  | some p => 10 * (p.1 : Int) + (p.2 : Int)
def cuC (V : VW) (b : CP) : Int := match b with
  | none => 0
  | some p => cpU V p / cpG V p
def clC (V : VW) (b : CP) : Int := match b with
  | none => 0
  | some p => cpL V p / cpG V p
def okP (V : VW) (b : CP) : Prop := ∀ p, b = some p → p.1 < V.1 ∧ p.2 < V.1
theorem cpS_ok {m : Int} {V : VW} {b : CP} {q : Nat × Nat} (h : okP V b) (hq : q.1 < V.1 ∧ q.2 < V.1) : okP V (cpS m V b q) := by
  unfold cpS
  intro p hp
  split at hp
  · cases hp; exact hq
  · split at hp
    · cases hp; exact hq
    · exact h p hp
theorem cpR_ok {m : Int} {V : VW} {i : Nat} (hi : i < V.1) : ∀ (t j : Nat) (b : CP), j + t ≤ V.1 → okP V b → okP V (cpR m V i b j t) := by
  intro t
  induction t with
  | zero => intro j b _ h; exact h
  | succ t ih => intro j b hj h; exact ih (j + 1) _ (by omega) (cpS_ok h ⟨hi, by show j < V.1; omega⟩)
theorem cpK_bd {V : VW} {b : CP} (hV : okV V) (h : okP V b) : -1 ≤ cpK b ∧ cpK b ≤ 100 := by
  have h4 := hV.1
  cases b with
  | none => exact ⟨by show (-1 : Int) ≤ -1; omega, by show (-1 : Int) ≤ 100; omega⟩
  | some p => have := h p rfl; unfold cpK; simp only; omega
/-- fractions in lowest terms compare alike -/
theorem fr_lt {f g f' g' : Nat → Int} (hf : okN f) (hg : okN g) (hf' : okN f') (hg' : okN g') : (btU f g / btG f g) * (btL f' g' / btG f' g') < (btU f' g' / btG f' g') * (btL f g / btG f g) ↔ btU f g * btL f' g' < btU f' g' * btL f g := by
  obtain ⟨g0, g1, g2, g3⟩ := btG_bd hf hg
  obtain ⟨g0', g1', g2', g3'⟩ := btG_bd hf' hg'
  generalize btG f g = G at *
  generalize btG f' g' = G' at *
  generalize btU f g / G = u at *
  generalize btL f g / G = l at *
  generalize btU f' g' / G' = u' at *
  generalize btL f' g' / G' = l' at *
  rw [← g2, ← g3, ← g2', ← g3']
  have e1 : G * u * (G' * l') = (G * G') * (u * l') := by grind
  have e2 : G' * u' * (G * l) = (G * G') * (u' * l) := by grind
  rw [e1, e2]
  have hK : 0 < G * G' := Int.mul_pos g0 g0'
  exact (Int.mul_lt_mul_left hK).symm
theorem s_isFarther {a b c d : Int} (h1 : -4611686018427387904 ≤ a * d ∧ a * d ≤ 4611686018427387904) (h2 : -4611686018427387904 ≤ c * b ∧ c * b ≤ 4611686018427387904) (g : px_G) : cl k_Ds_isFarther [.long (iJ a), .long (iJ b), .long (iJ c), .long (iJ d)] g = some (some (.int (bI (c * b < a * d))), g) := by
  by_cases c1 : c * b < a * d
  · have c2 : ¬ a * d ≤ c * b := by omega
    rw [bI_tI c1]
    simp (disch := first | omega | assumption | decide | (simp (disch := omega) only [iI_lit, iJ_lit, iJ_eq, iI_eq, bI_01, bI_01I] <;> omega)) only [c_Ds_isFarther, e_Ds_isFarther_0, e_Ds_isFarther_1, e_Ds_isFarther_3, e_Ds_isFarther_4, e_Ds_isFarther_6, e_Ds_isFarther_7, e_Ds_isFarther_8, e_Ds_isFarther_9, e_Ds_isFarther_12, e_Ds_isFarther_13, e_Ds_isFarther_16, e_Ds_isFarther_17, bd_some, bd_none, Option.toList_some, Option.toList_none, List.nil_append, List.cons_append, px_kill_int, px_kill_long, px_kill_ref, px_kill_null, iI_lit, iJ_lit, iI_add, iI_sub, iI_mul, iI_neg, iJ_add, iJ_sub, iJ_mul, iJ_neg, iI_lt, iI_le, iI_eq, iJ_lt, iJ_le, iJ_eq, iI_div, iJ_div, tdiv_tmod, iI_J, iJ_I, iI_ix, iI_toInt, iJ_toInt, cmp_ge, cmp_lt, cmp_eq, cmp_gt, cmp_le, cmp_geI, cmp_ltI, cmp_eqI, cmp_gtI, cmp_leI, bI_0I, bI_1I, pin, if_true, c2, if_false]
  · have c2 : a * d ≤ c * b := by omega
    rw [bI_fI c1]
    simp (disch := first | omega | assumption | decide | (simp (disch := omega) only [iI_lit, iJ_lit, iJ_eq, iI_eq, bI_01, bI_01I] <;> omega)) only [c_Ds_isFarther, e_Ds_isFarther_0, e_Ds_isFarther_1, e_Ds_isFarther_3, e_Ds_isFarther_4, e_Ds_isFarther_6, e_Ds_isFarther_7, e_Ds_isFarther_8, e_Ds_isFarther_9, e_Ds_isFarther_12, e_Ds_isFarther_13, e_Ds_isFarther_16, e_Ds_isFarther_17, bd_some, bd_none, Option.toList_some, Option.toList_none, List.nil_append, List.cons_append, px_kill_int, px_kill_long, px_kill_ref, px_kill_null, iI_lit, iJ_lit, iI_add, iI_sub, iI_mul, iI_neg, iJ_add, iJ_sub, iJ_mul, iJ_neg, iI_lt, iI_le, iI_eq, iJ_lt, iJ_le, iJ_eq, iI_div, iJ_div, tdiv_tmod, iI_J, iJ_I, iI_ix, iI_toInt, iJ_toInt, cmp_ge, cmp_lt, cmp_eq, cmp_gt, cmp_le, cmp_geI, cmp_ltI, cmp_eqI, cmp_gtI, cmp_leI, bI_0I, bI_1I, pin, if_true, c2]
theorem frp_bd {V : VW} (hV : okV V) {b : CP} (h : okP V b) : (0 ≤ cuC V b ∧ cuC V b ≤ 429981696) ∧ (0 ≤ clC V b ∧ clC V b ≤ 23887872) := by
  cases b with
  | none => exact ⟨⟨by show (0 : Int) ≤ 0; omega, by show (0 : Int) ≤ 429981696; omega⟩, ⟨by show (0 : Int) ≤ 0; omega, by show (0 : Int) ≤ 23887872; omega⟩⟩
  | some p =>
    obtain ⟨p1, p2⟩ := h p rfl
    have := fr_bd (hV.2 p.1 p1) (hV.2 p.2 p2)
    exact ⟨⟨Int.le_of_lt this.1.1, this.1.2⟩, ⟨Int.le_of_lt this.2.1, this.2.2⟩⟩
theorem mul_bd2 {a b M N : Int} (ha : 0 ≤ a ∧ a ≤ M) (hb : 0 ≤ b ∧ b ≤ N) : 0 ≤ a * b ∧ a * b ≤ M * N := ⟨Int.mul_nonneg ha.1 hb.1, Int.mul_le_mul ha.2 hb.2 hb.1 (by omega)⟩
abbrev lEc (V : VW) (m : Int) (b : CP) (i j : Int) (a9 : Value) : List Value := [.ref 0, .int (iI m), .int (iI (cpK b)), .long (iJ (cuC V b)), .null, .long (iJ (clC V b)), .null, .int (iI i), .int (iI j), a9]
set_option maxHeartbeats 4000000 in
theorem st_ec {V : VW} (hV : okV V) {m : Int} (hm : m = 0 ∨ m = 1) {i j : Nat} (hi : i < V.1) (hj : j < V.1) {b : CP} (hb : okP V b) {T : TS} (h : cC T V) (a9 : Value) : ∃ (T' : TS) (b9 : Value), rn k_Ds_endCouple 25 (lEc V m b (i : Int) (j : Int) a9) [] (enc T) = rn k_Ds_endCouple 25 (lEc V m (cpS m V b (i, j)) (i : Int) ((j + 1 : Nat) : Int) b9) [] (enc T') ∧ FrA aB bB T T' ∧ cC T' V := by
  have h4 := hV.1
  obtain ⟨_, hp, hs, hI⟩ := cC.at hV h hi
  obtain ⟨_, hp', hs', hI'⟩ := cC.at hV h hj
  obtain ⟨T', e, fr, hC, _, hu, hl⟩ := c_beating hV h hi hj
  have hh := h.1
  have ei : ((i : Int)).toNat = i := by omega
  have ej : ((j : Int)).toNat = j := by omega
  have nle : ¬ (V.1 : Int) ≤ (j : Int) := by omega
  have bn := fr_bd (hV.2 i hi) (hV.2 j hj)
  have bo := frp_bd hV hb
  have bk := cpK_bd hV hb
  have eF : ∀ p, b = some p → (cuC V b * (btL (V.2 i) (V.2 j) / btG (V.2 i) (V.2 j)) < (btU (V.2 i) (V.2 j) / btG (V.2 i) (V.2 j)) * clC V b ↔ cpU V p * cpL V (i, j) < cpU V (i, j) * cpL V p) ∧ ((btU (V.2 i) (V.2 j) / btG (V.2 i) (V.2 j)) * clC V b < cuC V b * (btL (V.2 i) (V.2 j) / btG (V.2 i) (V.2 j)) ↔ cpU V (i, j) * cpL V p < cpU V p * cpL V (i, j)) := by
    intro p hp
    subst hp
    obtain ⟨p1, p2⟩ := hb p rfl
    exact ⟨fr_lt (hV.2 p.1 p1) (hV.2 p.2 p2) (hV.2 i hi) (hV.2 j hj), fr_lt (hV.2 i hi) (hV.2 j hj) (hV.2 p.1 p1) (hV.2 p.2 p2)⟩
  have eu : cuC V (some (i, j)) = btU (V.2 i) (V.2 j) / btG (V.2 i) (V.2 j) := rfl
  have elo : clC V (some (i, j)) = btL (V.2 i) (V.2 j) / btG (V.2 i) (V.2 j) := rfl
  have ek : cpK (some (i, j)) = 10 * (i : Int) + (j : Int) := rfl
  have x1 := mul_bd2 bo.1 ⟨Int.le_of_lt bn.2.1, bn.2.2⟩
  have x2 := mul_bd2 ⟨Int.le_of_lt bn.1.1, bn.1.2⟩ bo.2
  have F1 := s_isFarther (a := btU (V.2 i) (V.2 j) / btG (V.2 i) (V.2 j)) (b := btL (V.2 i) (V.2 j) / btG (V.2 i) (V.2 j)) (c := cuC V b) (d := clC V b) (by omega) (by omega) (enc T')
  have F2 := s_isFarther (c := btU (V.2 i) (V.2 j) / btG (V.2 i) (V.2 j)) (d := btL (V.2 i) (V.2 j) / btG (V.2 i) (V.2 j)) (a := cuC V b) (b := clC V b) (by omega) (by omega) (enc T')
  refine ⟨T', ?_⟩
  rw [show ((j + 1 : Nat) : Int) = (j : Int) + 1 by omega]
  have keep : ∀ d : Int, (d = 0 ∨ d = 1) → (b = none ∨ d = 1) → ∃ b9 : Value, rn k_Ds_endCouple 108 (lEc V m b (i : Int) (j : Int) a9) [.int (iI d)] (enc T') = rn k_Ds_endCouple 25 (lEc V m (some (i, j)) (i : Int) ((j : Int) + 1) b9) [] (enc T') := by
    intro d hd hbd
    refine ⟨.int (iI d), ?_⟩
    show rn k_Ds_endCouple 108 [_, _, _, _, _, _, _, _, _, _] [.int (iI d)] (enc T') = rn k_Ds_endCouple 25 [_, _, .int (iI (cpK (some (i, j)))), .long (iJ (cuC V (some (i, j)))), _, .long (iJ (clC V (some (i, j)))), _, _, _, _] [] (enc T')
    rw [eu, elo, ek]
    generalize btU (V.2 i) (V.2 j) / btG (V.2 i) (V.2 j) = u at *
    generalize btL (V.2 i) (V.2 j) / btG (V.2 i) (V.2 j) = l at *
    rcases hbd with hbd | hbd
    · subst hbd
      have k0 : cpK none = -1 := rfl
      rw [k0]
      simp (disch := first | omega | assumption | decide | (simp (disch := omega) only [iI_lit, iJ_lit, iJ_eq, iI_eq, bI_01, bI_01I] <;> omega)) only [e_Ds_endCouple_108, e_Ds_endCouple_110, e_Ds_endCouple_111, e_Ds_endCouple_112, e_Ds_endCouple_115, e_Ds_endCouple_117, e_Ds_endCouple_120, e_Ds_endCouple_122, e_Ds_endCouple_124, e_Ds_endCouple_125, e_Ds_endCouple_127, e_Ds_endCouple_128, e_Ds_endCouple_129, e_Ds_endCouple_130, e_Ds_endCouple_133, e_Ds_endCouple_136, e_Ds_endCouple_137, e_Ds_endCouple_138, e_Ds_endCouple_141, e_Ds_endCouple_144, e_Ds_endCouple_146, e_Ds_endCouple_149, bd_some, bd_none, Option.toList_some, Option.toList_none, List.nil_append, List.cons_append, px_kill_int, px_kill_long, px_kill_ref, px_kill_null, iI_lit, iJ_lit, iI_add, iI_sub, iI_mul, iI_neg, iJ_add, iJ_sub, iJ_mul, iJ_neg, iI_lt, iI_le, iI_eq, iJ_lt, iJ_le, iJ_eq, iI_div, iJ_div, tdiv_tmod, iI_J, iJ_I, iI_ix, iI_toInt, iJ_toInt, cmp_ge, cmp_lt, cmp_eq, cmp_gt, cmp_le, cmp_geI, cmp_ltI, cmp_eqI, cmp_gtI, cmp_leI, bI_0I, bI_1I, pin, if_true, hu, hl, sh_n14]
    · subst hbd
      by_cases k0 : cpK b = -1
      · rw [k0]
        simp (disch := first | omega | assumption | decide | (simp (disch := omega) only [iI_lit, iJ_lit, iJ_eq, iI_eq, bI_01, bI_01I] <;> omega)) only [e_Ds_endCouple_108, e_Ds_endCouple_110, e_Ds_endCouple_111, e_Ds_endCouple_112, e_Ds_endCouple_115, e_Ds_endCouple_117, e_Ds_endCouple_120, e_Ds_endCouple_122, e_Ds_endCouple_124, e_Ds_endCouple_125, e_Ds_endCouple_127, e_Ds_endCouple_128, e_Ds_endCouple_129, e_Ds_endCouple_130, e_Ds_endCouple_133, e_Ds_endCouple_136, e_Ds_endCouple_137, e_Ds_endCouple_138, e_Ds_endCouple_141, e_Ds_endCouple_144, e_Ds_endCouple_146, e_Ds_endCouple_149, bd_some, bd_none, Option.toList_some, Option.toList_none, List.nil_append, List.cons_append, px_kill_int, px_kill_long, px_kill_ref, px_kill_null, iI_lit, iJ_lit, iI_add, iI_sub, iI_mul, iI_neg, iJ_add, iJ_sub, iJ_mul, iJ_neg, iI_lt, iI_le, iI_eq, iJ_lt, iJ_le, iJ_eq, iI_div, iJ_div, tdiv_tmod, iI_J, iJ_I, iI_ix, iI_toInt, iJ_toInt, cmp_ge, cmp_lt, cmp_eq, cmp_gt, cmp_le, cmp_geI, cmp_ltI, cmp_eqI, cmp_gtI, cmp_leI, bI_0I, bI_1I, pin, if_true, hu, hl, sh_n14]
      · simp (disch := first | omega | assumption | decide | (simp (disch := omega) only [iI_lit, iJ_lit, iJ_eq, iI_eq, bI_01, bI_01I] <;> omega)) only [e_Ds_endCouple_108, e_Ds_endCouple_110, e_Ds_endCouple_111, e_Ds_endCouple_112, e_Ds_endCouple_115, e_Ds_endCouple_117, e_Ds_endCouple_120, e_Ds_endCouple_122, e_Ds_endCouple_124, e_Ds_endCouple_125, e_Ds_endCouple_127, e_Ds_endCouple_128, e_Ds_endCouple_129, e_Ds_endCouple_130, e_Ds_endCouple_133, e_Ds_endCouple_136, e_Ds_endCouple_137, e_Ds_endCouple_138, e_Ds_endCouple_141, e_Ds_endCouple_144, e_Ds_endCouple_146, e_Ds_endCouple_149, bd_some, bd_none, Option.toList_some, Option.toList_none, List.nil_append, List.cons_append, px_kill_int, px_kill_long, px_kill_ref, px_kill_null, iI_lit, iJ_lit, iI_add, iI_sub, iI_mul, iI_neg, iJ_add, iJ_sub, iJ_mul, iJ_neg, iI_lt, iI_le, iI_eq, iJ_lt, iJ_le, iJ_eq, iI_div, iJ_div, tdiv_tmod, iI_J, iJ_I, iI_ix, iI_toInt, iJ_toInt, cmp_ge, cmp_lt, cmp_eq, cmp_gt, cmp_le, cmp_geI, cmp_ltI, cmp_eqI, cmp_gtI, cmp_leI, bI_0I, bI_1I, pin, if_true, hu, hl, sh_n14, k0, one0, if_false]
  have leave : ∀ p, b = some p → rn k_Ds_endCouple 108 (lEc V m b (i : Int) (j : Int) a9) [.int (iI 0)] (enc T') = rn k_Ds_endCouple 25 (lEc V m b (i : Int) ((j : Int) + 1) (.int (iI 0))) [] (enc T') := by
    intro p hp
    have k0 : ¬ cpK b = -1 := by subst hp; unfold cpK; simp only; omega
    simp (disch := first | omega | assumption | decide | (simp (disch := omega) only [iI_lit, iJ_lit, iJ_eq, iI_eq, bI_01, bI_01I] <;> omega)) only [e_Ds_endCouple_108, e_Ds_endCouple_110, e_Ds_endCouple_111, e_Ds_endCouple_112, e_Ds_endCouple_115, e_Ds_endCouple_117, e_Ds_endCouple_120, e_Ds_endCouple_122, e_Ds_endCouple_124, e_Ds_endCouple_125, e_Ds_endCouple_127, e_Ds_endCouple_128, e_Ds_endCouple_129, e_Ds_endCouple_130, e_Ds_endCouple_133, e_Ds_endCouple_136, e_Ds_endCouple_137, e_Ds_endCouple_138, e_Ds_endCouple_141, e_Ds_endCouple_144, e_Ds_endCouple_146, e_Ds_endCouple_149, bd_some, bd_none, Option.toList_some, Option.toList_none, List.nil_append, List.cons_append, px_kill_int, px_kill_long, px_kill_ref, px_kill_null, iI_lit, iJ_lit, iI_add, iI_sub, iI_mul, iI_neg, iJ_add, iJ_sub, iJ_mul, iJ_neg, iI_lt, iI_le, iI_eq, iJ_lt, iJ_le, iJ_eq, iI_div, iJ_div, tdiv_tmod, iI_J, iJ_I, iI_ix, iI_toInt, iJ_toInt, cmp_ge, cmp_lt, cmp_eq, cmp_gt, cmp_le, cmp_geI, cmp_ltI, cmp_eqI, cmp_gtI, cmp_leI, bI_0I, bI_1I, pin, if_true, k0, if_false]
  have go : ∀ d : Int, (d = 0 ∨ d = 1) → (m = 1 → bI (cuC V b * (btL (V.2 i) (V.2 j) / btG (V.2 i) (V.2 j)) < (btU (V.2 i) (V.2 j) / btG (V.2 i) (V.2 j)) * clC V b) = iI d) → (m = 0 → bI ((btU (V.2 i) (V.2 j) / btG (V.2 i) (V.2 j)) * clC V b < cuC V b * (btL (V.2 i) (V.2 j) / btG (V.2 i) (V.2 j))) = iI d) → rn k_Ds_endCouple 25 (lEc V m b (i : Int) (j : Int) a9) [] (enc T) = rn k_Ds_endCouple 108 (lEc V m b (i : Int) (j : Int) a9) [.int (iI d)] (enc T') := by
    intro d hd d1 d0
    rcases hm with hm | hm
    · rw [d0 hm] at F2
      subst hm
      rw [e_Ds_endCouple_25]
      simp (disch := first | omega | assumption | decide | (simp (disch := omega) only [iI_lit, iJ_lit, iJ_eq, iI_eq, bI_01, bI_01I] <;> omega)) only [e_Ds_endCouple_27, e_Ds_endCouple_28, e_Ds_endCouple_31, e_Ds_endCouple_34, e_Ds_endCouple_35, e_Ds_endCouple_38, e_Ds_endCouple_39, e_Ds_endCouple_42, e_Ds_endCouple_44, e_Ds_endCouple_45, e_Ds_endCouple_48, e_Ds_endCouple_49, e_Ds_endCouple_52, e_Ds_endCouple_54, e_Ds_endCouple_55, e_Ds_endCouple_58, e_Ds_endCouple_61, e_Ds_endCouple_62, e_Ds_endCouple_65, e_Ds_endCouple_66, e_Ds_endCouple_69, e_Ds_endCouple_72, e_Ds_endCouple_73, e_Ds_endCouple_76, e_Ds_endCouple_79, e_Ds_endCouple_80, e_Ds_endCouple_82, e_Ds_endCouple_85, e_Ds_endCouple_88, e_Ds_endCouple_89, e_Ds_endCouple_91, e_Ds_endCouple_92, e_Ds_endCouple_95, e_Ds_endCouple_98, e_Ds_endCouple_99, e_Ds_endCouple_102, e_Ds_endCouple_105, bd_some, bd_none, Option.toList_some, Option.toList_none, List.nil_append, List.cons_append, px_kill_int, px_kill_long, px_kill_ref, px_kill_null, iI_lit, iJ_lit, iI_add, iI_sub, iI_mul, iI_neg, iJ_add, iJ_sub, iJ_mul, iJ_neg, iI_lt, iI_le, iI_eq, iJ_lt, iJ_le, iJ_eq, iI_div, iJ_div, tdiv_tmod, iI_J, iJ_I, iI_ix, iI_toInt, iJ_toInt, cmp_ge, cmp_lt, cmp_eq, cmp_gt, cmp_le, cmp_geI, cmp_ltI, cmp_eqI, cmp_gtI, cmp_leI, bI_0I, bI_1I, pin, if_true, hh, nle, if_false, sh_n5, sh_n14, ei, ej, hs, hs', e, hu, hl, F2]
    · rw [d1 hm] at F1
      subst hm
      rw [e_Ds_endCouple_25]
      simp (disch := first | omega | assumption | decide | (simp (disch := omega) only [iI_lit, iJ_lit, iJ_eq, iI_eq, bI_01, bI_01I] <;> omega)) only [e_Ds_endCouple_27, e_Ds_endCouple_28, e_Ds_endCouple_31, e_Ds_endCouple_34, e_Ds_endCouple_35, e_Ds_endCouple_38, e_Ds_endCouple_39, e_Ds_endCouple_42, e_Ds_endCouple_44, e_Ds_endCouple_45, e_Ds_endCouple_48, e_Ds_endCouple_49, e_Ds_endCouple_52, e_Ds_endCouple_54, e_Ds_endCouple_55, e_Ds_endCouple_58, e_Ds_endCouple_61, e_Ds_endCouple_62, e_Ds_endCouple_65, e_Ds_endCouple_66, e_Ds_endCouple_69, e_Ds_endCouple_72, e_Ds_endCouple_73, e_Ds_endCouple_76, e_Ds_endCouple_79, e_Ds_endCouple_80, e_Ds_endCouple_82, e_Ds_endCouple_85, e_Ds_endCouple_88, e_Ds_endCouple_89, e_Ds_endCouple_91, e_Ds_endCouple_92, e_Ds_endCouple_95, e_Ds_endCouple_98, e_Ds_endCouple_99, e_Ds_endCouple_102, e_Ds_endCouple_105, bd_some, bd_none, Option.toList_some, Option.toList_none, List.nil_append, List.cons_append, px_kill_int, px_kill_long, px_kill_ref, px_kill_null, iI_lit, iJ_lit, iI_add, iI_sub, iI_mul, iI_neg, iJ_add, iJ_sub, iJ_mul, iJ_neg, iI_lt, iI_le, iI_eq, iJ_lt, iJ_le, iJ_eq, iI_div, iJ_div, tdiv_tmod, iI_J, iJ_I, iI_ix, iI_toInt, iJ_toInt, cmp_ge, cmp_lt, cmp_eq, cmp_gt, cmp_le, cmp_geI, cmp_ltI, cmp_eqI, cmp_gtI, cmp_leI, bI_0I, bI_1I, pin, if_true, hh, nle, if_false, sh_n5, sh_n14, ei, ej, hs, hs', e, hu, hl, F1, one0]
  cases hbc : b with
  | none =>
    subst hbc
    have e1 : cpS m V none (i, j) = some (i, j) := rfl
    rw [e1]
    by_cases d : (m = 1 ∧ cuC V none * (btL (V.2 i) (V.2 j) / btG (V.2 i) (V.2 j)) < (btU (V.2 i) (V.2 j) / btG (V.2 i) (V.2 j)) * clC V none) ∨ (m = 0 ∧ (btU (V.2 i) (V.2 j) / btG (V.2 i) (V.2 j)) * clC V none < cuC V none * (btL (V.2 i) (V.2 j) / btG (V.2 i) (V.2 j)))
    · obtain ⟨b9, e2⟩ := keep 1 (Or.inr rfl) (Or.inl rfl)
      refine ⟨b9, (go 1 (Or.inr rfl) (fun z => bI_tI ?_) (fun z => bI_tI ?_)).trans e2, fr, hC⟩
      · rcases d with d | d
        · exact d.2
        · omega
      · rcases d with d | d
        · omega
        · exact d.2
    · obtain ⟨b9, e2⟩ := keep 0 (Or.inl rfl) (Or.inl rfl)
      exact ⟨b9, (go 0 (Or.inl rfl) (fun z => bI_fI (fun y => d (Or.inl ⟨z, y⟩))) (fun z => bI_fI (fun y => d (Or.inr ⟨z, y⟩)))).trans e2, fr, hC⟩
  | some p =>
    obtain ⟨F3, F4⟩ := eF p hbc
    by_cases d : isBtr m (cpU V (i, j)) (cpL V (i, j)) (cpU V p) (cpL V p)
    · have e1 : cpS m V (some p) (i, j) = some (i, j) := by unfold cpS; simp only; rw [if_pos d]
      rw [e1]
      obtain ⟨b9, e2⟩ := keep 1 (Or.inr rfl) (Or.inr rfl)
      rw [← hbc]
      refine ⟨b9, (go 1 (Or.inr rfl) (fun z => bI_tI ?_) (fun z => bI_tI ?_)).trans e2, fr, hC⟩
      · rcases d with d | d
        · exact F3.mpr d.2
        · omega
      · rcases d with d | d
        · omega
        · exact F4.mpr d.2
    · have e1 : cpS m V (some p) (i, j) = some p := by unfold cpS; simp only; rw [if_neg d]
      rw [e1, ← hbc]
      refine ⟨_, (go 0 (Or.inl rfl) (fun z => bI_fI (fun y => d (Or.inl ⟨z, F3.mp y⟩))) (fun z => bI_fI (fun y => d (Or.inr ⟨z, F4.mp y⟩)))).trans (leave p hbc), fr, hC⟩
