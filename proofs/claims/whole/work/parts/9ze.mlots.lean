/-! the reference: lot by lot. -/
noncomputable def sel (p : Prop) (x y : Nat) : Nat := @ite Nat p (Classical.propDecidable p) x y
theorem sel_t {p : Prop} (h : p) (x y : Nat) : sel p x y = x := by
  unfold sel
  rw [if_pos h]
theorem sel_f {p : Prop} (h : ¬ p) (x y : Nat) : sel p x y = y := by
  unfold sel
  rw [if_neg h]
theorem par3 {ux uy x1 y1 x2 y2 : Int} (hu : ¬ (ux = 0 ∧ uy = 0)) (h1 : ux * y1 = uy * x1) (h2 : ux * y2 = uy * x2) : x1 * y2 = y1 * x2 := by
  have e1 : ux * (x1 * y2 - y1 * x2) = 0 := by grind
  have e2 : uy * (x1 * y2 - y1 * x2) = 0 := by grind
  rcases Int.mul_eq_zero.mp e1 with q | q
  · rcases Int.mul_eq_zero.mp e2 with q2 | q2
    · exact absurd ⟨q, q2⟩ hu
    · omega
  · omega
/-- the lots found so far -/
def mL (H : Int → Int → Nat) (X Y : Nat → Int) (N : Nat) (e fd : Nat → Prop) (S : Nat → Nat) (qx qy : Nat → Int) (tb sb : Nat) : Prop :=
  (∀ k, fd k → e k ∧ fd (S k) ∧ S (S k) = S k ∧ H (qx k) (qy k) = k ∧ Con (eH H e) (qx (S k)) (qy (S k)) (qx k) (qy k)) ∧ (∀ k s, fd k → e (nbH H X Y k s) → fd (nbH H X Y k s) ∧ S (nbH H X Y k s) = S k) ∧ (tb ≤ 1 ∧ sb ≤ 1) ∧ (tb = 1 ↔ ∃ k s, fd k ∧ e (nbH H X Y k s) ∧ ¬ (clX H X Y qx k s = 0 ∧ clY H X Y qy k s = 0)) ∧ (sb = 1 ↔ ∃ k s k' s', (fd k ∧ e (nbH H X Y k s)) ∧ (fd k' ∧ e (nbH H X Y k' s')) ∧ S k = S k' ∧ clX H X Y qx k s * clY H X Y qy k' s' ≠ clY H X Y qy k s * clX H X Y qx k' s')
/-- one lot more -/
theorem mL.step {H : Int → Int → Nat} {X Y : Nat → Int} {N : Nat} {e fd : Nat → Prop} {S : Nat → Nat} {qx0 qy0 : Nat → Int} {tb0 sb0 : Nat} (h : mL H X Y N e fd S qx0 qy0 tb0 sb0) {a n : Nat} {qu : Nat → Nat} {qx qy : Nat → Int} {tb sb t so : Nat} {ux uy : Int} (haN : a < N) (hS : mS H X Y N e fd a n qu qx qy) (hD : ∀ k s', Dq H X Y e qu n 0 k s' → ∃ j, j < n ∧ qu j = nbH H X Y k s') (hb : bits tb sb tb0 sb0 t so ux uy) (hT : tI (clX H X Y qx) (clY H X Y qy) (Dq H X Y e qu n 0) t so ux uy) (h0 : ∀ k, fd k → qx k = qx0 k ∧ qy k = qy0 k) :
    mL H X Y N e (fdQ fd n qu) (fun k => sel (fd k) (S k) a) qx qy tb sb ∧ cnt (fun k => fdQ fd n qu k ∧ sel (fd k) (S k) a = k) N = cnt (fun k => fd k ∧ S k = k) N + 1 := by
  obtain ⟨h1, h2, ⟨h3, h4⟩, h5, h6⟩ := h
  obtain ⟨⟨s1, s2, s3, s4, s5⟩, s6, s7⟩ := hS
  obtain ⟨c1, c2, c3, c4, c5, c6, c7⟩ := hb
  have ha : ¬ fd a := by rw [← s3]; exact (s6 0 (by omega)).2.1
  have hqn : ∀ k, fdQ fd n qu k → ¬ fd k → ∃ i, i < n ∧ qu i = k := fun k z y => z.resolve_left y
  have hDm : ∀ k s, (∃ i, i < n ∧ qu i = k) → e (nbH H X Y k s) → Dq H X Y e qu n 0 k (min s 3) ∧ nbH H X Y k (min s 3) = nbH H X Y k s ∧ clX H X Y qx k (min s 3) = clX H X Y qx k s ∧ clY H X Y qy k (min s 3) = clY H X Y qy k s := by
    rintro k s ⟨i, i1, i2⟩ he
    have d := dX_min s
    have nn : nbH H X Y k (min s 3) = nbH H X Y k s := by unfold nbH; rw [d.1, d.2]
    refine ⟨⟨i, i2, Or.inl i1, by omega, by rw [nn]; exact he⟩, nn, ?_, ?_⟩
    · unfold clX; rw [nn, d.1]
    · unfold clY; rw [nn, d.2]
  have hDq : ∀ k s, Dq H X Y e qu n 0 k s → (∃ i, i < n ∧ qu i = k) ∧ fdQ fd n qu k ∧ ¬ fd k ∧ e (nbH H X Y k s) := by
    rintro k s ⟨i, i1, i2, i3, i4⟩
    have hi : i < n := by omega
    exact ⟨⟨i, hi, i1⟩, Or.inr ⟨i, hi, i1⟩, by rw [← i1]; exact (s6 i hi).2.1, i4⟩
  have hold : ∀ k s, fd k → e (nbH H X Y k s) → clX H X Y qx k s = clX H X Y qx0 k s ∧ clY H X Y qy k s = clY H X Y qy0 k s := by
    intro k s f he
    have fn := (h2 k s f he).1
    unfold clX clY
    rw [(h0 k f).1, (h0 k f).2, (h0 _ fn).1, (h0 _ fn).2]
    exact ⟨rfl, rfl⟩
  have hSa : ∀ k, fd k → S k ≠ a := fun k f z => ha (z ▸ (h1 k f).2.1)
  refine ⟨⟨fun k f => ?_, fun k s f he => ?_, ⟨c3, c4⟩, ?_, ?_⟩, ?_⟩
  · by_cases c : fd k
    · obtain ⟨q1, q2, q3, q4, q5⟩ := h1 k c
      show e k ∧ fdQ fd n qu (sel (fd k) (S k) a) ∧ sel (fd (sel (fd k) (S k) a)) (S (sel (fd k) (S k) a)) a = sel (fd k) (S k) a ∧ H (qx k) (qy k) = k ∧ Con (eH H e) (qx (sel (fd k) (S k) a)) (qy (sel (fd k) (S k) a)) (qx k) (qy k)
      rw [sel_t c, sel_t q2, (h0 k c).1, (h0 k c).2, (h0 _ q2).1, (h0 _ q2).2]
      exact ⟨q1, Or.inl q2, q3, q4, q5⟩
    · obtain ⟨i, i1, rfl⟩ := hqn k f c
      obtain ⟨q1, q2, q3, q4, q5, q6⟩ := s6 i i1
      show e (qu i) ∧ fdQ fd n qu (sel (fd (qu i)) (S (qu i)) a) ∧ sel (fd (sel (fd (qu i)) (S (qu i)) a)) (S (sel (fd (qu i)) (S (qu i)) a)) a = sel (fd (qu i)) (S (qu i)) a ∧ H (qx (qu i)) (qy (qu i)) = qu i ∧ Con (eH H e) (qx (sel (fd (qu i)) (S (qu i)) a)) (qy (sel (fd (qu i)) (S (qu i)) a)) (qx (qu i)) (qy (qu i))
      rw [sel_f c, sel_f ha]
      exact ⟨q1, Or.inr ⟨0, by omega, s3⟩, rfl, q3, q4⟩
  · show fdQ fd n qu (nbH H X Y k s) ∧ sel (fd (nbH H X Y k s)) (S (nbH H X Y k s)) a = sel (fd k) (S k) a
    by_cases c : fd k
    · obtain ⟨q1, q2⟩ := h2 k s c he
      rw [sel_t q1, sel_t c]
      exact ⟨Or.inl q1, q2⟩
    · obtain ⟨d1, d2, -, -⟩ := hDm k s (hqn k f c) he
      obtain ⟨j, j1, j2⟩ := hD k _ d1
      rw [d2] at j2
      have nf : ¬ fd (nbH H X Y k s) := by rw [← j2]; exact (s6 j j1).2.1
      rw [sel_f nf, sel_f c]
      exact ⟨Or.inr ⟨j, j1, j2⟩, rfl⟩
  · rw [c5]
    constructor
    · rintro (z | z)
      · obtain ⟨k, s, q1, q2, q3⟩ := h5.mp z
        refine ⟨k, s, Or.inl q1, q2, ?_⟩
        rw [(hold k s q1 q2).1, (hold k s q1 q2).2]
        exact q3
      · obtain ⟨a1, a2, ⟨k, s, a3, a4, a5⟩, -, -⟩ := hT.2 (by omega)
        obtain ⟨-, q1, -, q2⟩ := hDq k s a3
        exact ⟨k, s, q1, q2, by rw [a4, a5]; exact a1⟩
    · rintro ⟨k, s, q1, q2, q3⟩
      by_cases c : fd k
      · left
        rw [(hold k s c q2).1, (hold k s c q2).2] at q3
        exact h5.mpr ⟨k, s, c, q2, q3⟩
      · right
        obtain ⟨d1, d2, d3, d4⟩ := hDm k s (hqn k q1 c) q2
        by_cases z : t = 0
        · have := (hT.1 z).2 k _ d1
          rw [d3, d4] at this
          exact absurd this q3
        · omega
  · rw [c6]
    constructor
    · rintro (z | z)
      · obtain ⟨k, s, k', s', ⟨q1, q2⟩, ⟨q1', q2'⟩, q3, q4⟩ := h6.mp z
        refine ⟨k, s, k', s', ⟨Or.inl q1, q2⟩, ⟨Or.inl q1', q2'⟩, ?_, ?_⟩
        · show sel (fd k) (S k) a = sel (fd k') (S k') a
          rw [sel_t q1, sel_t q1']; exact q3
        · rw [(hold k s q1 q2).1, (hold k s q1 q2).2, (hold k' s' q1' q2').1, (hold k' s' q1' q2').2]
          exact q4
      · have tz : t ≠ 0 := fun q => by have := (hT.1 q).1; omega
        obtain ⟨a1, a2, ⟨k, s, a3, a4, a5⟩, -, a7⟩ := hT.2 tz
        obtain ⟨k', s', b1, b2⟩ := a7 (by omega)
        obtain ⟨-, q1, n1, q2⟩ := hDq k s a3
        obtain ⟨-, q1', n1', q2'⟩ := hDq k' s' b1
        refine ⟨k, s, k', s', ⟨q1, q2⟩, ⟨q1', q2'⟩, ?_, by rw [a4, a5]; exact b2⟩
        show sel (fd k) (S k) a = sel (fd k') (S k') a
        rw [sel_f n1, sel_f n1']
    · rintro ⟨k, s, k', s', ⟨q1, q2⟩, ⟨q1', q2'⟩, q3, q4⟩
      replace q3 : sel (fd k) (S k) a = sel (fd k') (S k') a := q3
      by_cases c : fd k
      · by_cases c' : fd k'
        · left
          rw [sel_t c, sel_t c'] at q3
          rw [(hold k s c q2).1, (hold k s c q2).2, (hold k' s' c' q2').1, (hold k' s' c' q2').2] at q4
          exact h6.mpr ⟨k, s, k', s', ⟨c, q2⟩, ⟨c', q2'⟩, q3, q4⟩
        · rw [sel_t c, sel_f c'] at q3
          exact absurd q3 (hSa k c)
      · by_cases c' : fd k'
        · rw [sel_f c, sel_t c'] at q3
          exact absurd q3.symm (hSa k' c')
        · right
          obtain ⟨d1, d2, d3, d4⟩ := hDm k s (hqn k q1 c) q2
          obtain ⟨d1', d2', d3', d4'⟩ := hDm k' s' (hqn k' q1' c') q2'
          by_cases z : t = 0
          · have y := (hT.1 z).2 k _ d1
            rw [d3, d4] at y
            rw [y.1, y.2, Int.zero_mul, Int.zero_mul] at q4
            exact absurd rfl q4
          · by_cases z2 : so = 0
            · have y := (hT.2 z).2.2.2.1 z2 k _ d1
              have y' := (hT.2 z).2.2.2.1 z2 k' _ d1'
              rw [d3, d4] at y
              rw [d3', d4'] at y'
              exact absurd (par3 (hT.2 z).1 y y') q4
            · omega
  · have r := cnt_rm (p := fun k => fdQ fd n qu k ∧ sel (fd k) (S k) a = k) (j := a) ⟨Or.inr ⟨0, by omega, s3⟩, sel_f ha _ _⟩ N
    rw [if_pos haN] at r
    rw [← r]
    congr 1
    refine cnt_cg N (fun k _ => ?_)
    constructor
    · rintro ⟨⟨q1, q2⟩, q3⟩
      by_cases c : fd k
      · rw [sel_t c] at q2; exact ⟨c, q2⟩
      · rw [sel_f c] at q2; exact absurd q2.symm q3
    · rintro ⟨q1, q2⟩
      exact ⟨⟨Or.inl q1, by rw [sel_t q1]; exact q2⟩, fun z => ha (z ▸ q1)⟩
/-- all homes of the level found: what the truths say -/
theorem mL.all {H : Int → Int → Nat} (hH : hInv H) {X Y : Nat → Int} {N : Nat} (hr : hRep H N X Y) {e fd : Nat → Prop} {S : Nat → Nat} {qx qy : Nat → Int} {tb sb : Nat} (h : mL H X Y N e fd S qx qy tb sb) (hfe : ∀ k, e k → fd k) : isF H X Y e S qx qy ∧ (tb = 1 ↔ TCH H e) ∧ (sb = 1 ↔ SLD H e) ∧ cnt (fun k => fd k ∧ S k = k) N = cnt (rtS e S) N := by
  obtain ⟨h1, h2, ⟨h3, h4⟩, h5, h6⟩ := h
  have hF : isF H X Y e S qx qy := by
    refine ⟨fun k hk => ?_, fun k s hk hn => (h2 k s (hfe k hk) hn).2⟩
    obtain ⟨q1, q2, q3, q4, q5⟩ := h1 k (hfe k hk)
    exact ⟨(h1 _ q2).1, q3, q4, q5⟩
  refine ⟨hF, ?_, ?_, cnt_cg N (fun k _ => ⟨fun z => ⟨(h1 k z.1).1, z.2⟩, fun z => ⟨hfe k z.1, z.2⟩⟩)⟩
  · constructor
    · intro z
      obtain ⟨k, s, q1, q2, q3⟩ := h5.mp z
      exact hF.tch hH hr (h1 k q1).1 q2 q3
    · intro z
      apply Classical.byContradiction
      intro y
      refine tch_no hH hr (px := qx) (py := qy) (fun k s q1 q2 => ?_) z
      apply Classical.byContradiction
      intro x
      exact y (h5.mpr ⟨k, s, hfe k q1, q2, x⟩)
  · constructor
    · intro z
      obtain ⟨k, s, k', s', ⟨q1, q2⟩, ⟨q1', q2'⟩, q3, q4⟩ := h6.mp z
      exact hF.sld hH hr (h1 k q1).1 q2 (h1 k' q1').1 q2' q4
    · intro z
      apply Classical.byContradiction
      intro y
      refine hF.nosld hH hr (fun k s k' s' q1 q2 q1' q2' q3 => ?_) z
      apply Classical.byContradiction
      intro x
      exact y (h6.mpr ⟨k, s, k', s', ⟨hfe k q1, q2⟩, ⟨hfe k' q1', q2'⟩, q3, x⟩)
