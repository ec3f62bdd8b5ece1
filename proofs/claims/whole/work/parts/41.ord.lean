/-! THE ORDER OF HOMES BY SPOT: insertion, one after another. -/
def insP (f : Nat → Int) (o : Nat → Nat) (v : Int) : Nat → Nat
  | 0 => 0
  | k + 1 => if v < f (o k) then insP f o v k else k + 1
def insO (o : Nat → Nat) (i k : Nat) : Nat → Nat := fun r => if r < k then o r else if r = k then i else o (r - 1)
def ordS (f : Nat → Int) : Nat → Nat → Nat
  | 0 => fun _ => 0
  | n + 1 => insO (ordS f n) n (insP f (ordS f n) (f n) n)
theorem insP_le (f : Nat → Int) (o : Nat → Nat) (v : Int) : ∀ k, insP f o v k ≤ k := by
  intro k
  induction k with
  | zero => exact Nat.le_refl _
  | succ k ih => unfold insP; split <;> omega
theorem ordS_lt (f : Nat → Int) : ∀ n r, r < n → ordS f n r < n := by
  intro n
  induction n with
  | zero => intro r h; omega
  | succ n ih =>
    intro r h
    show insO (ordS f n) n _ r < n + 1
    have hk := insP_le f (ordS f n) (f n) n
    unfold insO
    split
    · have := ih r (by omega); omega
    · split
      · omega
      · have := ih (r - 1) (by omega); omega
theorem ordS_inj (f : Nat → Int) : ∀ n r r', r < n → r' < n → ordS f n r = ordS f n r' → r = r' := by
  intro n
  induction n with
  | zero => intro r r' h; omega
  | succ n ih =>
    intro r r' h h' e
    have hk := insP_le f (ordS f n) (f n) n
    change insO (ordS f n) n (insP f (ordS f n) (f n) n) r = insO (ordS f n) n (insP f (ordS f n) (f n) n) r' at e
    generalize insP f (ordS f n) (f n) n = k at *
    unfold insO at e
    by_cases h1 : r < k
    · have l1 := ordS_lt f n r (by omega)
      by_cases h2 : r' < k
      · rw [if_pos h1, if_pos h2] at e
        exact ih r r' (by omega) (by omega) e
      · by_cases h3 : r' = k
        · rw [if_pos h1, if_neg h2, if_pos h3] at e; omega
        · rw [if_pos h1, if_neg h2, if_neg h3] at e
          have := ih r (r' - 1) (by omega) (by omega) e
          omega
    · by_cases h1b : r = k
      · by_cases h2 : r' < k
        · have l2 := ordS_lt f n r' (by omega)
          rw [if_neg h1, if_pos h1b, if_pos h2] at e; omega
        · by_cases h3 : r' = k
          · omega
          · have l2 := ordS_lt f n (r' - 1) (by omega)
            rw [if_neg h1, if_pos h1b, if_neg h2, if_neg h3] at e; omega
      · by_cases h2 : r' < k
        · rw [if_neg h1, if_neg h1b, if_pos h2] at e
          have := ih (r - 1) r' (by omega) (by omega) e
          omega
        · by_cases h3 : r' = k
          · have l2 := ordS_lt f n (r - 1) (by omega)
            rw [if_neg h1, if_neg h1b, if_neg h2, if_pos h3] at e; omega
          · rw [if_neg h1, if_neg h1b, if_neg h2, if_neg h3] at e
            have := ih (r - 1) (r' - 1) (by omega) (by omega) e
            omega
theorem ordS_sur (f : Nat → Int) : ∀ n m, m < n → ∃ r, r < n ∧ ordS f n r = m := by
  intro n
  induction n with
  | zero => intro m h; omega
  | succ n ih =>
    intro m h
    have hk := insP_le f (ordS f n) (f n) n
    show ∃ r, r < n + 1 ∧ insO (ordS f n) n (insP f (ordS f n) (f n) n) r = m
    generalize insP f (ordS f n) (f n) n = k at *
    by_cases hm : m = n
    · exact ⟨k, by omega, by unfold insO; rw [if_neg (by omega), if_pos rfl]; omega⟩
    · obtain ⟨r, hr, he⟩ := ih m (by omega)
      by_cases h1 : r < k
      · exact ⟨r, by omega, by unfold insO; rw [if_pos h1]; exact he⟩
      · exact ⟨r + 1, by omega, by unfold insO; rw [if_neg (by omega), if_neg (by omega)]; exact he⟩
/-! frames: what may be another -/
def FrI (A : Nat → Nat → Prop) (T T' : TS) : Prop := (∀ q k, ¬ A q k → T'.1 q k = T.1 q k) ∧ T'.2 = T.2
theorem FrI.rf (A : Nat → Nat → Prop) (T : TS) : FrI A T T := ⟨fun _ _ _ => rfl, rfl⟩
theorem FrI.tr {A : Nat → Nat → Prop} {T T' T'' : TS} (h1 : FrI A T T') (h2 : FrI A T' T'') : FrI A T T'' := ⟨fun q k h => (h2.1 q k h).trans (h1.1 q k h), h2.2.trans h1.2⟩
theorem FrI.wr {A : Nat → Nat → Prop} {T T' : TS} (h : FrI A T T') {p k : Nat} (x : Int32) (hA : A p k) : FrI A T (sI T' p k x) := by
  refine ⟨fun q j hq => ?_, h.2⟩
  rw [sI_get]
  split
  · rename_i e
    obtain ⟨rfl, rfl⟩ := e
    exact absurd hA hq
  · exact h.1 q j hq
theorem FrI.mono {A B : Nat → Nat → Prop} {T T' : TS} (h : FrI A T T') (hAB : ∀ q k, A q k → B q k) : FrI B T T' := ⟨fun q k hq => h.1 q k (fun z => hq (hAB q k z)), h.2⟩
/-- an ink of the component: its screen, brick, cell and kind -/
def inkP (T : TS) (p : Nat) (a b c d kd : Int) : Prop := sh p = (104, 18) ∧ okS a b c d ∧ cScr T (p + 1) a b c d ∧ cGrd T (p + 2) (bkW (brk a b c d)) (bkH (brk a b c d)) (bkS (brk a b c d)) ∧ T.1 p 2 = iI (cel a b c d) ∧ T.1 p 3 = iI kd ∧ (0 ≤ kd ∧ kd ≤ 2)
theorem inkP.fr {T T' : TS} {p : Nat} {a b c d kd : Int} {A : Nat → Nat → Prop} (h : inkP T p a b c d kd) (hf : FrI A T T') (h1 : ∀ k, ¬ A (p + 1) k) (h2 : ¬ A p 2) (h3 : ¬ A p 3) : inkP T' p a b c d kd := by
  obtain ⟨p1, p2, ⟨c1, c2, c3, c4⟩, p4, p5, p6, p7⟩ := h
  refine ⟨p1, p2, ⟨?_, ?_, ?_, ?_⟩, ?_, ?_, ?_, p7⟩
  · rw [hf.1 _ _ (h1 0)]; exact c1
  · rw [hf.1 _ _ (h1 1)]; exact c2
  · rw [hf.1 _ _ (h1 2)]; exact c3
  · rw [hf.1 _ _ (h1 3)]; exact c4
  · unfold cGrd at *; rw [hf.2]; exact p4
  · rw [hf.1 _ _ h2]; exact p5
  · rw [hf.1 _ _ h3]; exact p6
/-- a home's spot by its number -/
def fSp (a b c d kd : Int) (n : Nat) : Int := spt kd a b (cel a b c d) (bkW (brk a b c d)) (bkH (brk a b c d)) (bkS (brk a b c d)) ((n : Int) % bkW (brk a b c d)) ((n : Int) / bkW (brk a b c d))
theorem spt_bd {a b c d kd x y : Int} (ho : okS a b c d) (hy : 0 ≤ y ∧ y < bkH (brk a b c d)) : 0 ≤ spt kd a b (cel a b c d) (bkW (brk a b c d)) (bkH (brk a b c d)) (bkS (brk a b c d)) x y ∧ spt kd a b (cel a b c d) (bkW (brk a b c d)) (bkH (brk a b c d)) (bkS (brk a b c d)) x y ≤ 1800000000 := by
  have hG := okG_brk ho
  have hcb : 0 < cel a b c d ∧ cel a b c d ≤ 144 := by obtain ⟨o1, o2, o3, o4, o5, o6⟩ := ho; unfold cel; omega
  unfold spt
  split
  · have h := near_bd (z := (2 * x + 1) * b - (2 * y + 1) * a) hcb.1 0
    omega
  · have h1 := spM_le (kd := kd) ho (x := x) hy 0
    have h2 := spK_bd (kd := kd) (x := x) hG hy (show -145 ≤ (0 : Int) ∧ (0 : Int) ≤ 145 by omega)
    obtain ⟨k, hk⟩ := spM_ex kd (bkW (brk a b c d)) (bkH (brk a b c d)) (bkS (brk a b c d)) x y
    refine ⟨?_, by omega⟩
    rw [hk]
    have hb2 := near_bd (z := 2 * x + 1 - 2 * k * bkS (brk a b c d)) hG.1.1 0
    have : meas kd 0 0 ≤ spK kd (bkW (brk a b c d)) (bkH (brk a b c d)) (bkS (brk a b c d)) x y k := meas_mono ⟨by omega, hb2.1⟩ ⟨by omega, by unfold rise; omega⟩
    have h00 : meas kd 0 0 = 0 := by unfold meas; split <;> rfl
    omega
theorem home_n {w h : Int} {n : Nat} (hw : 0 < w) (hn : (n : Int) < w * h) : (0 ≤ (n : Int) % w ∧ (n : Int) % w < w) ∧ (0 ≤ (n : Int) / w ∧ (n : Int) / w < h) := by
  refine ⟨⟨Int.emod_nonneg _ (by omega), Int.emod_lt_of_pos _ hw⟩, Int.ediv_nonneg (by omega) (by omega), ?_⟩
  exact Int.ediv_lt_of_lt_mul hw (by rw [Int.mul_comm]; exact hn)
theorem fSp_bd {a b c d kd : Int} (ho : okS a b c d) {n : Nat} (hn : (n : Int) < cel a b c d) : 0 ≤ fSp a b c d kd n ∧ fSp a b c d kd n ≤ 1800000000 := by
  obtain ⟨f1, f2, f3, f4, f5, f6⟩ := brk_facts ho
  exact spt_bd ho (home_n f1 (by rw [f5]; exact hn)).2
