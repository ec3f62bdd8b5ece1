/-! the beat of two screens, without what stood there before; frames with longs. -/
/-- what calls that sort nothing may write: reader, growth, meeting, reduction, beating, square; least in 0 -/
def aB (q _k : Nat) : Prop := q = 3 ∨ q = 4 ∨ (7 ≤ q ∧ q ≤ 14) ∨ q = 24
def bB (q k : Nat) : Prop := (q = 0 ∧ 11 ≤ k) ∨ (7 ≤ q ∧ q ≤ 14) ∨ q = 24
/-- the same with the chooser -/
def aN (q _k : Nat) : Prop := q = 3 ∨ q = 4 ∨ (7 ≤ q ∧ q ≤ 24)
def bN (q k : Nat) : Prop := (q = 0 ∧ 11 ≤ k) ∨ (7 ≤ q ∧ q ≤ 24)
theorem FrA.BN {T T' : TS} (h : FrA aB bB T T') : FrA aN bN T T' := h.mono (fun q k z => by unfold aB at z; unfold aN; omega) (fun q k z => by unfold bB at z; unfold bN; omega)
theorem inkC.frA {T T' : TS} {p : Nat} {f : Nat → Int} {a b : Nat → Nat → Prop} (h : inkC T p f) (hf : FrA a b T T') (hA : ∀ q k, p ≤ q → q < p + 7 → ¬ a q k) (hB : ∀ q k, p ≤ q → q < p + 7 → ¬ b q k) : inkC T' p f := by
  have e1 : ∀ q k, p ≤ q → q < p + 7 → T'.1 q k = T.1 q k := fun q k q1 q2 => hf.1 q k (hA q k q1 q2)
  have e2 : ∀ q k, p ≤ q → q < p + 7 → T'.2.1 q k = T.2.1 q k := fun q k q1 q2 => hf.2.1 q k (hB q k q1 q2)
  obtain ⟨⟨i1, i2, i3, i4, i5, i6, i7⟩, h2, h3, h4, h5⟩ := h
  refine ⟨⟨i1, i2, ?_, ?_, ?_, ?_, i7⟩, ?_, ?_, ?_, ?_⟩
  · unfold cScr at *
    rw [e1 _ _ (by omega) (by omega), e1 _ _ (by omega) (by omega), e1 _ _ (by omega) (by omega), e1 _ _ (by omega) (by omega)]; exact i3
  · unfold cGrd at *
    rw [e2 _ _ (by omega) (by omega), e2 _ _ (by omega) (by omega), e2 _ _ (by omega) (by omega)]; exact i4
  · rw [e1 _ _ (by omega) (by omega)]; exact i5
  · rw [e1 _ _ (by omega) (by omega)]; exact i6
  · rw [e1 _ _ (by omega) (by omega)]; exact h2
  · rw [e1 _ _ (by omega) (by omega)]; exact h3
  · rw [e1 _ _ (by omega) (by omega)]; exact h4
  · rcases h5 with h5 | h5
    · left; rw [e1 _ _ (by omega) (by omega)]; exact h5
    · right
      obtain ⟨s1, s2, s3, s4⟩ := h5
      refine ⟨fun r hr => ?_, fun r hr => ?_, fun r hr => ?_, ?_⟩
      · rw [e1 _ _ (by omega) (by omega)]; exact s1 r hr
      · rw [e1 _ _ (by omega) (by omega)]; exact s2 r hr
      · rw [e1 _ _ (by omega) (by omega)]; exact s3 r hr
      · rw [e1 _ _ (by omega) (by omega)]; exact s4
theorem cC.frN {T T' : TS} {V : VW} (h : cC T V) (hV : okV V) (hf : FrA aN bN T T') : cC T' V := by
  obtain ⟨h1, h2, h3, h4⟩ := h
  have hR : T'.2.2.1 = T.2.2.1 := by rw [hf.2.2]
  have h40 := hV.1
  refine ⟨?_, by rw [hR]; exact h2, by rw [hR]; exact h3, fun i hi => ?_⟩
  · rw [hf.1 _ _ (by unfold aN; omega)]; exact h1
  · rw [hR]
    have hp := h2 i (by omega)
    unfold isPl at hp
    exact (h4 i hi).frA hf (fun q k q1 q2 => by unfold aN; omega) (fun q k q1 q2 => by unfold bN; omega)
theorem cC.frB {T T' : TS} {V : VW} (h : cC T V) (hV : okV V) (hf : FrA aB bB T T') : cC T' V := h.frN hV hf.BN
/-- the beat -/
def bt (f g : Nat → Int) : BS := btA f g (0, 0, 0, 0, 0, 0) 4
theorem btP_ne {s : BS} {X Y : Int} {i j : Nat} (h : s.1 ≠ 0 ∨ X ≠ 0 ∨ Y ≠ 0) : (btP s X Y i j).1 ≠ 0 := by
  unfold btP
  by_cases c : X * X + Y * Y = 0
  · rw [if_pos c]
    obtain ⟨x0, y0⟩ := sq_0 c
    rcases h with h | h | h
    · exact h
    · exact absurd x0 h
    · exact absurd y0 h
  · rw [if_neg c]
    by_cases c2 : s.1 = 0 ∨ X * X + Y * Y < s.1
    · rw [if_pos c2]; exact c
    · rw [if_neg c2]; exact fun z => c2 (Or.inl z)
theorem btR_ne {f g : Nat → Int} {s : BS} {i : Nat} (h : s.1 ≠ 0) : ∀ m, (btR f g s i m).1 ≠ 0 := by
  intro m
  induction m with
  | zero => exact h
  | succ m ih => exact btP_ne (Or.inl ih)
theorem btA_ne {f g : Nat → Int} {s : BS} {i : Nat} (h : (btA f g s i).1 ≠ 0) : ∀ m, (btA f g s (i + m)).1 ≠ 0 := by
  intro m
  induction m with
  | zero => exact h
  | succ m ih => exact btR_ne ih 4
theorem btR_ne1 {f g : Nat → Int} {s : BS} {i : Nat} (h : wyX f g i 0 ≠ 0 ∨ wyY f g i 0 ≠ 0) : (btR f g s i 4).1 ≠ 0 := by
  have h1 : (btR f g s i 1).1 ≠ 0 := btP_ne (Or.inr h)
  exact btP_ne (Or.inl (btP_ne (Or.inl (btP_ne (Or.inl h1)))))
theorem wy_opp {f g : Nat → Int} (hf : okN f) (hg : okN g) : (wyX f g 0 0 ≠ 0 ∨ wyY f g 0 0 ≠ 0) ∨ (wyX f g 2 0 ≠ 0 ∨ wyY f g 2 0 ≠ 0) := by
  apply Classical.byContradiction
  intro hc
  have e1 : wyX f g 0 0 = 0 := Classical.byContradiction fun z => hc (Or.inl (Or.inl z))
  have e2 : wyY f g 0 0 = 0 := Classical.byContradiction fun z => hc (Or.inl (Or.inr z))
  have e3 : wyX f g 2 0 = 0 := Classical.byContradiction fun z => hc (Or.inr (Or.inl z))
  have e4 : wyY f g 2 0 = 0 := Classical.byContradiction fun z => hc (Or.inr (Or.inr z))
  have a1 := hf.1.2.2.2.2.1
  have a2 := hg.1.2.2.2.2.1
  have d1 : wyX f g 0 0 = (g 0 * g 3 - g 1 * g 2) * f 3 - (f 0 * f 3 - f 1 * f 2) * g 3 := rfl
  have d2 : wyY f g 0 0 = (g 0 * g 3 - g 1 * g 2) * (-f 2) - (f 0 * f 3 - f 1 * f 2) * (-g 2) := rfl
  have d3 : wyX f g 2 0 = (g 0 * g 3 - g 1 * g 2) * (-f 3) - (f 0 * f 3 - f 1 * f 2) * g 3 := rfl
  have d4 : wyY f g 2 0 = (g 0 * g 3 - g 1 * g 2) * f 2 - (f 0 * f 3 - f 1 * f 2) * (-g 2) := rfl
  rw [d1] at e1
  rw [d2] at e2
  rw [d3] at e3
  rw [d4] at e4
  have z1 : (f 0 * f 3 - f 1 * f 2) * g 3 = 0 := by
    rw [Int.mul_neg] at e3
    omega
  have z2 : (f 0 * f 3 - f 1 * f 2) * g 2 = 0 := by
    rw [Int.mul_neg, Int.mul_neg] at e2
    rw [Int.mul_neg] at e4
    omega
  have g3 : g 3 = 0 := by
    rcases Int.mul_eq_zero.mp z1 with q | q
    · exact absurd q a1
    · exact q
  have g2 : g 2 = 0 := by
    rcases Int.mul_eq_zero.mp z2 with q | q
    · exact absurd q a1
    · exact q
  rw [g2, g3] at a2
  exact a2 (by omega)
theorem btA_ne4 {f g : Nat → Int} (hf : okN f) (hg : okN g) (s : BS) : (btA f g s 4).1 ≠ 0 := by
  rcases wy_opp hf hg with h | h
  · have h1 : (btA f g s 1).1 ≠ 0 := btR_ne1 h
    exact btA_ne h1 3
  · have h1 : (btA f g s 3).1 ≠ 0 := btR_ne1 h
    exact btA_ne h1 1
theorem bt_eq {f g : Nat → Int} (hf : okN f) (hg : okN g) {s : BS} (h1 : s.1 = 0) (h2 : s.2.2.2.2.2 = 0) : btA f g s 4 = bt f g := by
  have h : eqB s (0, 0, 0, 0, 0, 0) := ⟨h1, h2, fun z => absurd h1 z⟩
  exact (h.all f g 4).2.2 (btA_ne4 hf hg s)
/-- the length of the beat squared, the cells' square -/
abbrev btL (f g : Nat → Int) : Int := (bt f g).1
abbrev btU (f g : Nat → Int) : Int := ((f 0 * f 3 - f 1 * f 2) * (g 0 * g 3 - g 1 * g 2)) * ((f 0 * f 3 - f 1 * f 2) * (g 0 * g 3 - g 1 * g 2))
abbrev btG (f g : Nat → Int) : Int := ((Int.gcd (btU f g) (btL f g) : Nat) : Int)
theorem bt_ok {f g : Nat → Int} (hf : okN f) (hg : okN g) : okB (bt f g) := by
  have : ∀ i, okB (btA f g (0, 0, 0, 0, 0, 0) i) := by
    intro i
    induction i with
    | zero => exact ⟨⟨by show (0 : Int) ≤ 0; omega, by show (0 : Int) ≤ 23887872; omega⟩, fun z => absurd rfl z, Or.inl rfl⟩
    | succ i ih =>
      have : ∀ m, okB (btR f g (btA f g (0, 0, 0, 0, 0, 0) i) i m) := by
        intro m
        induction m with
        | zero => exact ih
        | succ m ihm => exact ihm.step (wy_bd hf hg i m).1 (wy_bd hf hg i m).2 i m
      exact this 4
  exact this 4
theorem btU_bd {f g : Nat → Int} (hf : okN f) (hg : okN g) : 0 < btU f g ∧ btU f g ≤ 429981696 := by
  have hA := hf.1.2.2.2.2
  have hB := hg.1.2.2.2.2
  unfold btU
  generalize f 0 * f 3 - f 1 * f 2 = A at *
  generalize g 0 * g 3 - g 1 * g 2 = B at *
  have m1 := mul_bd (M := 144) (N := 144) hA.2 hB.2
  have hAB : A * B ≠ 0 := Int.mul_ne_zero hA.1 hB.1
  have m2 := mul_bd (M := 20736) (N := 20736) m1 m1
  have n2 := sq_nn (A * B)
  have hSS : A * B * (A * B) ≠ 0 := Int.mul_ne_zero hAB hAB
  omega
theorem btL_bd {f g : Nat → Int} (hf : okN f) (hg : okN g) : 0 < btL f g ∧ btL f g ≤ 23887872 := by
  have h1 := bt_ok hf hg
  have h2 : btL f g ≠ 0 := btA_ne4 hf hg _
  have h3 := h1.1
  unfold btL at *
  omega
theorem btG_bd {f g : Nat → Int} (hf : okN f) (hg : okN g) : 0 < btG f g ∧ btG f g ≤ 23887872 ∧ btG f g * (btU f g / btG f g) = btU f g ∧ btG f g * (btL f g / btG f g) = btL f g := by
  have hu := btU_bd hf hg
  have hl := btL_bd hf hg
  have e1 := Int.mul_ediv_cancel' (Int.gcd_dvd_left (a := btU f g) (b := btL f g))
  have e2 := Int.mul_ediv_cancel' (Int.gcd_dvd_right (a := btU f g) (b := btL f g))
  have hpos : 0 < Int.gcd (btU f g) (btL f g) := by rw [Int.gcd_pos_iff]; left; omega
  have hle := Nat.le_of_dvd (by omega) (Int.natAbs_dvd_natAbs.mpr (Int.gcd_dvd_right (a := btU f g) (b := btL f g)))
  unfold btG
  generalize btU f g = U at *
  generalize btL f g = L at *
  refine ⟨by omega, ?_, e1, e2⟩
  have : ((Int.gcd U L : Nat) : Int).natAbs = Int.gcd U L := by omega
  omega
set_option maxHeartbeats 1000000 in
theorem c_compare {T : TS} {p q r : Nat} (hp : sh p = (100, 7)) (hq : sh q = (107, 4)) (hr : sh r = (107, 4)) (hpq : p ≠ q) (hpr : p ≠ r) {f g : Nat → Int} (hf : okN f) (hg : okN g) (h1 : cScr T q (f 0) (f 1) (f 2) (f 3)) (h2 : cScr T r (g 0) (g 1) (g 2) (g 3)) : ∃ T' : TS, cl k_Beat_compare [.ref p, .ref q, .ref r] (enc T) = some (none, enc T') ∧ FrA (fun q _ => q = p) (fun q _ => q = p) T T' ∧ bAt T' p (bt f g) ∧ T'.2.1 p 5 = iJ (btU f g / btG f g) ∧ T'.2.1 p 6 = iJ (btL f g / btG f g) := by
  obtain ⟨T2, s0, z1, z2, fr, hb, hk, e⟩ := s_compare hp hq hr hpq hpr hf hg h1 h2
  rw [bt_eq hf hg z1 z2] at hb e
  refine ⟨_, e, (((FrA.of (b := fun q _ => q = p) (fr.mono (fun q k z => z.1)))).wrJ _ rfl).wrJ _ rfl, ?_, ?_, ?_⟩
  · exact hb
  · simp only [sI_get, sJ_get, sI_2, sJ_1, sJ_22, sR_1, sR_21, Nat.reduceEqDiff, and_true, true_and, and_false, false_and, and_self, if_true, if_false, reduceIte]
  · simp only [sI_get, sJ_get, sI_2, sJ_1, sJ_22, sR_1, sR_21, Nat.reduceEqDiff, and_true, true_and, and_false, false_and, and_self, if_true, if_false, reduceIte]
theorem m_laysBeatF {f g : Nat → Int} (hf : okN f) (hg : okN g) (T : TS) : ∃ T2 : TS, cl k_Dm_laysBeat [.ref 53, .int (iI (f 0)), .int (iI (f 1)), .int (iI (f 2)), .int (iI (f 3)), .int (iI (g 0)), .int (iI (g 1)), .int (iI (g 2)), .int (iI (g 3))] (enc T) = some (none, enc T2) ∧ FrA aMb bMb T T2 ∧ mBt T2 (bt f g) := by
  obtain ⟨T2, s0, z1, z2, fr, hb, hk, e⟩ := s_laysBeat hf hg T
  rw [bt_eq hf hg z1 z2] at hb
  exact ⟨T2, e, fr, hb⟩
theorem m_laysBeat {f g : Nat → Int} (hf : okN f) (hg : okN g) (T : TS) : ∃ T2 : TS, cl k_Dm_laysBeat [.ref 53, .int (iI (f 0)), .int (iI (f 1)), .int (iI (f 2)), .int (iI (f 3)), .int (iI (g 0)), .int (iI (g 1)), .int (iI (g 2)), .int (iI (g 3))] (enc T) = some (none, enc T2) ∧ FrM T T2 ∧ mBt T2 (bt f g) := by
  obtain ⟨T2, e, fr, hb⟩ := m_laysBeatF hf hg T
  exact ⟨T2, e, FrM.mb fr, hb⟩
