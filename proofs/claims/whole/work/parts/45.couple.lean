/-! WHAT BOTH SIDES HOLD: how many inks, and the eight numbers of each (screen 0..3, kind 4, tone 5, offset 6 and 7). -/
abbrev VW : Type := Nat × (Nat → Nat → Int)
def okN (f : Nat → Int) : Prop := okS (f 0) (f 1) (f 2) (f 3) ∧ (0 ≤ f 4 ∧ f 4 ≤ 2) ∧ (0 ≤ f 5 ∧ f 5 ≤ 100) ∧ (-99 ≤ f 6 ∧ f 6 ≤ 99) ∧ (-99 ≤ f 7 ∧ f 7 ≤ 99)
def okV (V : VW) : Prop := V.1 ≤ 4 ∧ ∀ j, j < V.1 → okN (V.2 j)
/-- the reference holds V -/
def cM (T : TS) (V : VW) : Prop := T.1 53 10 = iI (V.1 : Int) ∧ ∀ j, j < V.1 → ∀ k, k < 8 → T.1 56 (8 * j + k) = iI (V.2 j k)
def isPl (p : Nat) : Prop := p = 25 ∨ p = 32 ∨ p = 39 ∨ p = 46
abbrev srtN (T : TS) (p : Nat) (f : Nat → Int) : Prop := isSrt T p (f 0) (f 1) (f 2) (f 3) (f 4)
abbrev celN (f : Nat → Int) : Int := cel (f 0) (f 1) (f 2) (f 3)
abbrev brkN (f : Nat → Int) : Int × Int × Int × Int := brk (f 0) (f 1) (f 2) (f 3)
abbrev ordN (f : Nat → Int) (r : Nat) : Nat := ordS (fSp (f 0) (f 1) (f 2) (f 3) (f 4)) (celN f).toNat r
abbrev plcN (f : Nat → Int) (x y : Int) : Int := plc (bkW (brkN f)) (bkH (brkN f)) (bkS (brkN f)) (x - f 6) (y - f 7)
def inkC (T : TS) (p : Nat) (f : Nat → Int) : Prop := inkP T p (f 0) (f 1) (f 2) (f 3) (f 4) ∧ T.1 p 4 = iI (f 5) ∧ T.1 p 5 = iI (f 6) ∧ T.1 p 6 = iI (f 7) ∧ (T.1 p 13 = iI 0 ∨ srtN T p f)
/-- the component holds V -/
def cC (T : TS) (V : VW) : Prop := T.1 0 3 = iI (V.1 : Int) ∧ (∀ j, j < 4 → isPl (T.2.2.1 j)) ∧ (∀ j j', j < 4 → j' < 4 → T.2.2.1 j = T.2.2.1 j' → j = j') ∧ ∀ j, j < V.1 → inkC T (T.2.2.1 j) (V.2 j)
/-- what the calls that only ask may write: sorted rows, and where a row stands -/
def aAsk (q k : Nat) : Prop := ∃ p, isPl p ∧ (aSort p q k ∨ (q = p ∧ (k = 15 ∨ k = 16 ∨ k = 17)))
theorem isPl_sh {p : Nat} (h : isPl p) : sh p = (104, 18) := by
  rcases h with h | h | h | h <;> subst h <;> rfl
theorem isPl_sep {p p' : Nat} (h : isPl p) (h' : isPl p') (hne : p ≠ p') : p + 7 ≤ p' ∨ p' + 7 ≤ p := by unfold isPl at *; omega
theorem inkC.fr {T T' : TS} {p : Nat} {f : Nat → Int} {A : Nat → Nat → Prop} (h : inkC T p f) (hf : FrI A T T') (hA : ∀ q k, p ≤ q → q < p + 7 → ¬ A q k) : inkC T' p f := by
  obtain ⟨h1, h2, h3, h4, h5⟩ := h
  refine ⟨h1.fr hf (fun k => hA _ _ (by omega) (by omega)) (hA _ _ (by omega) (by omega)) (hA _ _ (by omega) (by omega)), ?_, ?_, ?_, ?_⟩
  · rw [hf.1 _ _ (hA _ _ (by omega) (by omega))]; exact h2
  · rw [hf.1 _ _ (hA _ _ (by omega) (by omega))]; exact h3
  · rw [hf.1 _ _ (hA _ _ (by omega) (by omega))]; exact h4
  · rcases h5 with h5 | h5
    · left; rw [hf.1 _ _ (hA _ _ (by omega) (by omega))]; exact h5
    · right
      obtain ⟨s1, s2, s3, s4⟩ := h5
      refine ⟨fun r hr => ?_, fun r hr => ?_, fun r hr => ?_, ?_⟩
      · rw [hf.1 _ _ (hA _ _ (by omega) (by omega))]; exact s1 r hr
      · rw [hf.1 _ _ (hA _ _ (by omega) (by omega))]; exact s2 r hr
      · rw [hf.1 _ _ (hA _ _ (by omega) (by omega))]; exact s3 r hr
      · rw [hf.1 _ _ (hA _ _ (by omega) (by omega))]; exact s4
theorem inkC.sort {T T' : TS} {p : Nat} {f : Nat → Int} (h : inkC T p f) (hf : FrI (aSort p) T T') (hs : srtN T' p f) : inkC T' p f := by
  obtain ⟨h1, h2, h3, h4, h5⟩ := h
  refine ⟨h1.fr hf (fun k => by unfold aSort; omega) (by unfold aSort; omega) (by unfold aSort; omega), ?_, ?_, ?_, Or.inr hs⟩
  · rw [hf.1 _ _ (by unfold aSort; omega)]; exact h2
  · rw [hf.1 _ _ (by unfold aSort; omega)]; exact h3
  · rw [hf.1 _ _ (by unfold aSort; omega)]; exact h4
/-- one ink changes within its own seven places, the rest of the component stands -/
theorem cC.one {T T' : TS} {V : VW} {A : Nat → Nat → Prop} (h : cC T V) {j : Nat} (hV : V.1 ≤ 4) (hj : j < V.1) (hf : FrI A T T') (hA : ∀ q k, A q k → T.2.2.1 j ≤ q ∧ q < T.2.2.1 j + 7) (hj' : inkC T' (T.2.2.1 j) (V.2 j)) : cC T' V := by
  obtain ⟨h1, h2, h3, h4⟩ := h
  have hR : T'.2.2.1 = T.2.2.1 := by rw [hf.2]
  have hp := h2 j (by omega)
  refine ⟨?_, by rw [hR]; exact h2, by rw [hR]; exact h3, fun i hi => ?_⟩
  · rw [hf.1 _ _ (fun z => by have := hA _ _ z; unfold isPl at hp; omega)]; exact h1
  · rw [hR]
    by_cases hij : i = j
    · rw [hij]; exact hj'
    · have hne : T.2.2.1 i ≠ T.2.2.1 j := fun e => hij (h3 i j (by omega) (by omega) e)
      have hs := isPl_sep (h2 i (by omega)) hp hne
      exact (h4 i hi).fr hf (fun q k q1 q2 z => by have := hA _ _ z; omega)
theorem aSort_own {p q k : Nat} (h : aSort p q k) : p ≤ q ∧ q < p + 7 := by unfold aSort at h; omega
theorem aSort_ask {p q k : Nat} (hp : isPl p) (h : aSort p q k) : aAsk q k := ⟨p, hp, Or.inl h⟩
/-- sorting the ink j -/
theorem c_sort {T : TS} {V : VW} (hV : okV V) (h : cC T V) {j : Nat} (hj : j < V.1) : ∃ T', cl k_Ink_sort [.ref (T.2.2.1 j)] (enc T) = some (none, enc T') ∧ FrI aAsk T T' ∧ cC T' V ∧ srtN T' (T.2.2.1 j) (V.2 j) ∧ T'.2 = T.2 := by
  have hi := h.2.2.2 j hj
  have hp := h.2.1 j (by have := hV.1; omega)
  obtain ⟨T', e, fr, hs⟩ := s_sort hi.1 hi.2.2.2.2
  exact ⟨T', e, fr.mono (fun q k z => aSort_ask hp z), h.one hV.1 hj fr (fun q k z => aSort_own z) (hi.sort fr hs), hs, fr.2⟩
/-! the gates, in whole numbers -/
abbrev inI (z : Int) : Prop := -2147483648 ≤ z ∧ z ≤ 2147483647
abbrev isK (V : VW) (i : Int) : Prop := 0 ≤ i ∧ i < V.1
abbrev isX (x y : Int) : Prop := (-9999 ≤ x ∧ x ≤ 9999) ∧ (-9999 ≤ y ∧ y ≤ 9999)
theorem bI_iff {p q : Prop} [Decidable p] [Decidable q] (h : p ↔ q) : bI p = bI q := by
  unfold bI; by_cases hq : q
  · rw [if_pos hq, if_pos (h.mpr hq)]
  · rw [if_neg hq, if_neg (fun z => hq (h.mp z))]
theorem g_isInk {T : TS} {V : VW} (hV : okV V) (h : cC T V) {i : Int} (hi : inI i) : cl k_Ds_isInk [.ref 0, .int (iI i)] (enc T) = some (some (.int (bI (isK V i))), enc T) := by
  have h4 := hV.1
  rw [s_isInk, h.1, iI_toInt hi.1 hi.2, iI_toInt (by omega) (by omega)]
  rw [bI_iff (q := isK V i) (by unfold isK; omega)]
theorem g_isPixel {x y : Int} (hx : inI x) (hy : inI y) (g : px_G) : cl k_Ds_isPixel [.int (iI x), .int (iI y)] g = some (some (.int (bI (isX x y))), g) := by
  rw [s_isPixel, iI_toInt hx.1 hx.2, iI_toInt hy.1 hy.2]
theorem s_in {x l h : Int} (g : px_G) (hx : -9223372036854775808 ≤ x ∧ x ≤ 9223372036854775807) (hl : -9223372036854775808 ≤ l ∧ l ≤ 9223372036854775807) (hh : -9223372036854775808 ≤ h ∧ h ≤ 9223372036854775807) : cl k_Dm_in [.long (iJ x), .long (iJ l), .long (iJ h)] g = some (some (.int (bI (l ≤ x ∧ x ≤ h))), g) := by
  simp (disch := first | omega | assumption | decide | (simp (disch := omega) only [iI_lit, iJ_lit, iJ_eq, iI_eq, bI_01, bI_01I] <;> omega)) only [c_Dm_in, e_Dm_in_0, e_Dm_in_1, e_Dm_in_2, e_Dm_in_3, e_Dm_in_6, e_Dm_in_7, e_Dm_in_9, e_Dm_in_10, e_Dm_in_13, e_Dm_in_14, e_Dm_in_17, e_Dm_in_18, bd_some, bd_none, Option.toList_some, Option.toList_none, List.nil_append, List.cons_append, px_kill_int, px_kill_long, px_kill_ref, px_kill_null, iI_lit, iJ_lit, iI_add, iI_sub, iI_mul, iI_neg, iJ_add, iJ_sub, iJ_mul, iJ_neg, iI_lt, iI_le, iI_eq, iJ_lt, iJ_le, iJ_eq, iI_div, iJ_div, tdiv_tmod, iI_J, iJ_I, iI_ix, iI_toInt, iJ_toInt, cmp_ge, cmp_lt, cmp_eq, cmp_gt, cmp_le, cmp_geI, cmp_ltI, cmp_eqI, cmp_gtI, cmp_leI, bI_0I, bI_1I, pin, if_true]
  by_cases h1 : x < l
  · rw [if_pos h1, bI_f (by omega)]
    rfl
  · rw [if_neg h1]
    by_cases h2 : h < x
    · rw [if_pos h2, bI_f (by omega)]
      rfl
    · rw [if_neg h2, bI_t (by omega)]
      rfl
