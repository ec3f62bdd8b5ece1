/-! the forest of the component's lots: pure. -/
def upN {α : Type} (f : Nat → α) (c : Nat) (v : α) : Nat → α := fun k => if k = c then v else f k
theorem upN_s {α : Type} (f : Nat → α) (c : Nat) (v : α) : upN f c v c = v := if_pos rfl
theorem upN_o {α : Type} (f : Nat → α) {c k : Nat} (v : α) (h : k ≠ c) : upN f c v k = f k := if_neg h
def frP (N : Nat) (e : Nat → Prop) (rt : Nat → Nat) (mx my sz : Nat → Int) (F : Nat → Nat) (wx wy : Nat → Int) : Prop :=
  ∀ k, e k → (k < N ∧ e (rt k) ∧ e (F k) ∧ rt (F k) = F k ∧ 1 ≤ sz k ∧ sz k ≤ (N : Int)) ∧ (rt k = k → F k = k ∧ wx k = 0 ∧ wy k = 0) ∧ (rt k ≠ k → F (rt k) = F k ∧ wx k = mx k + wx (rt k) ∧ wy k = my k + wy (rt k) ∧ sz k < sz (rt k))
def geo (H : Int → Int → Nat) (X Y : Nat → Int) (e : Nat → Prop) (sz : Nat → Int) (F : Nat → Nat) (wx wy : Nat → Int) : Prop :=
  (∀ k, e k → H (X k + wx k) (Y k + wy k) = k ∧ Con (eH H e) (X (F k)) (Y (F k)) (X k + wx k) (Y k + wy k)) ∧ ∀ j k, e j → e k → F j = F k → X k + wx k - (X j + wx j) ≤ sz (F k) - 1 ∧ Y k + wy k - (Y j + wy j) ≤ sz (F k) - 1
abbrev rtS (e : Nat → Prop) (F : Nat → Nat) : Nat → Prop := fun k => e k ∧ F k = k
noncomputable def szS (e : Nat → Prop) (F : Nat → Nat) (sz : Nat → Int) (N : Nat) : Int := smN (fun k => (tv (rtS e F k) : Int) * sz k) N
def gI (H : Int → Int → Nat) (X Y : Nat → Int) (N : Nat) (e : Nat → Prop) (D : Nat → Nat → Prop) (rt : Nat → Nat) (mx my sz : Nat → Int) (F : Nat → Nat) (wx wy : Nat → Int) : Prop :=
  frP N e rt mx my sz F wx wy ∧ geo H X Y e sz F wx wy ∧ szS e F sz N = (cnt e N : Int) ∧ ∀ k s, D k s → e k ∧ e (nbH H X Y k s) ∧ F (nbH H X Y k s) = F k
theorem frP.FF {N : Nat} {e : Nat → Prop} {rt : Nat → Nat} {mx my sz : Nat → Int} {F : Nat → Nat} {wx wy : Nat → Int} (h : frP N e rt mx my sz F wx wy) {k : Nat} (hk : e k) : F (F k) = F k ∧ wx (F k) = 0 ∧ wy (F k) = 0 := by
  obtain ⟨⟨a1, a2, a3, a4, a5⟩, a6, a7⟩ := h k hk
  exact (h _ a3).2.1 a4
/-! sums -/
theorem smN_le {f g : Nat → Int} : ∀ n : Nat, (∀ k, k < n → f k ≤ g k) → smN f n ≤ smN g n := by
  intro n
  induction n with
  | zero => intro _; exact Int.le_refl _
  | succ n ih =>
    intro h
    simp only [smN]
    have := ih (fun k hk => h k (by omega))
    have := h n (by omega)
    omega
theorem smN_mul (f : Nat → Int) (v : Int) (n : Nat) : smN (fun k => f k * v) n = smN f n * v := by
  induction n with
  | zero => simp only [smN]; omega
  | succ n ih => simp only [smN]; rw [ih, Int.add_mul]
theorem smN_pt {f : Nat → Int} {n j : Nat} (h : ∀ k, k < n → 0 ≤ f k) (hj : j < n) : f j ≤ smN f n := by
  have e := smN_le (f := fun k => eqN j k * f j) (g := f) n (fun k hk => by
    show eqN j k * f j ≤ f k
    unfold eqN
    have := h k hk
    by_cases c : j = k
    · rw [if_pos c, c]; omega
    · rw [if_neg c]; omega)
  rw [smN_mul, smN_one, if_pos hj] at e
  omega
theorem smN_mv {f g : Nat → Int} {n a b : Nat} (v : Int) (ha : a < n) (hb : b < n) (h : ∀ k, k < n → g k = f k + eqN a k * v - eqN b k * v) : smN g n = smN f n := by
  rw [smN_cg (g := fun k => (f k + eqN a k * v) + -(eqN b k * v)) n (fun k hk => by rw [h k hk]; omega), smN_add, smN_add, smN_neg, smN_mul, smN_mul, smN_one, smN_one, if_pos ha, if_pos hb]
  omega
theorem smN_ad {f g : Nat → Int} {n a : Nat} (v : Int) (ha : a < n) (h : ∀ k, k < n → g k = f k + eqN a k * v) : smN g n = smN f n + v := by
  rw [smN_cg (g := fun k => f k + eqN a k * v) n h, smN_add, smN_mul, smN_one, if_pos ha]
  omega
theorem eqN_s (a : Nat) : eqN a a = 1 := if_pos rfl
theorem frP.root_le {N : Nat} {e : Nat → Prop} {rt : Nat → Nat} {mx my sz : Nat → Int} {F : Nat → Nat} {wx wy : Nat → Int} (h0 : ∀ k, e k → k < N ∧ 1 ≤ sz k) (hs : szS e F sz N = (cnt e N : Int)) {k : Nat} (hk : rtS e F k) : sz k ≤ (N : Int) := by
  have p := smN_pt (f := fun k => (tv (rtS e F k) : Int) * sz k) (n := N) (j := k) (fun j hj => by
    show 0 ≤ (tv (rtS e F j) : Int) * sz j
    by_cases c : rtS e F j
    · rw [tv_t c]; have := (h0 j c.1).2; omega
    · rw [tv_f c]; omega) (h0 k hk.1).1
  have q := cnt_le (p := e) N
  unfold szS at hs
  rw [hs] at p
  have r : (tv (rtS e F k) : Int) * sz k = sz k := by rw [tv_t hk]; omega
  omega
/-- one lot is hung to another -/
theorem gI.hang {H : Int → Int → Nat} (hH : hInv H) {X Y : Nat → Int} {N : Nat} (hr : hRep H N X Y) {e : Nat → Prop} {D : Nat → Nat → Prop} {rt : Nat → Nat} {mx my sz : Nat → Int} {F : Nat → Nat} {wx wy : Nat → Int} (h : gI H X Y N e D rt mx my sz F wx wy) {j0 k0 s0 : Nat} (hj : e j0) (hk : e k0) (hn : nbH H X Y k0 s0 = j0) (hne : F j0 ≠ F k0) {x y : Int} (hx : X j0 + wx j0 + x = X k0 + wx k0 + dX s0) (hy : Y j0 + wy j0 + y = Y k0 + wy k0 + dY s0) :
    gI H X Y N e D (upN rt (F j0) (F k0)) (upN mx (F j0) x) (upN my (F j0) y) (upN sz (F k0) (sz (F k0) + sz (F j0))) (fun k => if F k = F j0 then F k0 else F k) (fun k => if F k = F j0 then wx k + x else wx k) (fun k => if F k = F j0 then wy k + y else wy k) ∧ cnt (rtS e (fun k => if F k = F j0 then F k0 else F k)) N + 1 = cnt (rtS e F) N := by
  obtain ⟨hf, ⟨hg1, hg2⟩, hs, hD⟩ := h
  obtain ⟨⟨j1, j2, j3, j4, j5, j6⟩, -, -⟩ := hf j0 hj
  obtain ⟨⟨k1, k2, k3, k4, k5, k6⟩, -, -⟩ := hf k0 hk
  have jF := hf.FF hj
  have kF := hf.FF hk
  have hl := (hf _ j3).1
  have hgg := (hf _ k3).1
  generalize hle : F j0 = l at *
  generalize hge : F k0 = g at *
  -- sums
  have hs' : szS e (fun k => if F k = l then g else F k) (upN sz g (sz g + sz l)) N = (cnt e N : Int) := by
    rw [← hs]
    refine smN_mv (a := g) (b := l) (sz l) hgg.1 hl.1 (fun k hkN => ?_)
    show (tv (e k ∧ (if F k = l then g else F k) = k) : Int) * upN sz g (sz g + sz l) k = (tv (e k ∧ F k = k) : Int) * sz k + eqN g k * sz l - eqN l k * sz l
    by_cases c1 : k = g
    · subst c1
      rw [upN_s, eqN_s, eqN_0 hne, tv_t (p := e k ∧ F k = k) ⟨k3, kF.1⟩, tv_t ⟨k3, by rw [kF.1, if_neg (fun q => hne q.symm)]⟩]
      omega
    · rw [upN_o _ _ c1, eqN_0 (fun q => c1 q.symm)]
      by_cases c2 : k = l
      · subst c2
        rw [eqN_s, tv_t (p := e k ∧ F k = k) ⟨j3, jF.1⟩, tv_f (fun q => by have := q.2; rw [if_pos jF.1] at this; exact hne this.symm)]
        omega
      · rw [eqN_0 (fun q => c2 q.symm)]
        have : (e k ∧ (if F k = l then g else F k) = k) = (e k ∧ F k = k) := by
          apply propext
          constructor
          · rintro ⟨q1, q2⟩
            by_cases c3 : F k = l
            · rw [if_pos c3] at q2; exact absurd q2.symm c1
            · rw [if_neg c3] at q2; exact ⟨q1, q2⟩
          · rintro ⟨q1, q2⟩
            refine ⟨q1, ?_⟩
            rw [if_neg (fun q => c2 (q2.symm.trans q))]; exact q2
        rw [this]
        omega
  have hsz1 : ∀ k, e k → k < N ∧ 1 ≤ upN sz g (sz g + sz l) k := by
    intro k hke
    have q := (hf k hke).1
    refine ⟨q.1, ?_⟩
    by_cases c : k = g
    · rw [c, upN_s]; omega
    · rw [upN_o _ _ c]; exact q.2.2.2.2.1
  have hgl : sz g + sz l ≤ (N : Int) := by
    have := frP.root_le (rt := rt) (mx := mx) (my := my) (wx := wx) (wy := wy) hsz1 hs' (k := g) ⟨k3, by show (if F g = l then g else F g) = g; rw [kF.1, if_neg (fun q => hne q.symm)]⟩
    rw [upN_s] at this
    exact this
  -- a period
  have per : ∀ p q, H (p + x) (q + y) = H p q := by
    intro p q
    have e1 : H (X j0 + wx j0 + x) (Y j0 + wy j0 + y) = H (X j0 + wx j0) (Y j0 + wy j0) := by
      rw [hx, hy, nbH_of hH hr (hg1 k0 hk).1 s0, hn, (hg1 j0 hj).1]
    have := hH _ _ _ _ (p - (X j0 + wx j0)) (q - (Y j0 + wy j0)) e1
    rw [show X j0 + wx j0 + x + (p - (X j0 + wx j0)) = p + x by omega, show Y j0 + wy j0 + y + (q - (Y j0 + wy j0)) = q + y by omega, show X j0 + wx j0 + (p - (X j0 + wx j0)) = p by omega, show Y j0 + wy j0 + (q - (Y j0 + wy j0)) = q by omega] at this
    exact this
  refine ⟨⟨?_, ⟨?_, ?_⟩, hs', ?_⟩, ?_⟩
  · -- the forest
    intro k hke
    obtain ⟨⟨a1, a2, a3, a4, a5, a6⟩, a7, a8⟩ := hf k hke
    refine ⟨⟨a1, ?_, ?_, ?_, (hsz1 k hke).2, ?_⟩, ?_, ?_⟩
    · by_cases c : k = l
      · rw [c, upN_s]; exact k3
      · rw [upN_o _ _ c]; exact a2
    · show e (if F k = l then g else F k)
      by_cases c : F k = l
      · rw [if_pos c]; exact k3
      · rw [if_neg c]; exact a3
    · show upN rt l g (if F k = l then g else F k) = (if F k = l then g else F k)
      by_cases c : F k = l
      · rw [if_pos c, upN_o _ _ (fun q => hne q.symm)]; exact k4
      · rw [if_neg c, upN_o _ _ c]; exact a4
    · by_cases c : k = g
      · rw [c, upN_s]; exact hgl
      · rw [upN_o _ _ c]; exact a6
    · intro q
      by_cases c : k = l
      · rw [c, upN_s] at q; exact absurd q.symm hne
      · rw [upN_o _ _ c] at q
        have w := a7 q
        have : ¬ F k = l := by rw [w.1]; exact c
        show (if F k = l then g else F k) = k ∧ (if F k = l then wx k + x else wx k) = 0 ∧ (if F k = l then wy k + y else wy k) = 0
        rw [if_neg this, if_neg this, if_neg this]
        exact w
    · intro q
      show (if F (upN rt l g k) = l then g else F (upN rt l g k)) = (if F k = l then g else F k) ∧ (if F k = l then wx k + x else wx k) = upN mx l x k + (if F (upN rt l g k) = l then wx (upN rt l g k) + x else wx (upN rt l g k)) ∧ (if F k = l then wy k + y else wy k) = upN my l y k + (if F (upN rt l g k) = l then wy (upN rt l g k) + y else wy (upN rt l g k)) ∧ upN sz g (sz g + sz l) k < upN sz g (sz g + sz l) (upN rt l g k)
      by_cases c : k = l
      · subst c
        rw [upN_s, upN_s, upN_s, if_neg (show ¬ F g = k by rw [kF.1]; exact fun q => hne q.symm), if_pos jF.1, if_pos jF.1, if_pos jF.1, if_neg (show ¬ F g = k by rw [kF.1]; exact fun q => hne q.symm), if_neg (show ¬ F g = k by rw [kF.1]; exact fun q => hne q.symm), upN_s, upN_o _ _ hne]
        refine ⟨kF.1, ?_, ?_, ?_⟩
        · rw [jF.2.1, kF.2.1]; omega
        · rw [jF.2.2, kF.2.2]; omega
        · omega
      · rw [upN_o _ _ c] at q
        rw [upN_o _ _ c, upN_o _ _ c, upN_o _ _ c]
        obtain ⟨b1, b2, b3, b4⟩ := a8 q
        rw [b1]
        have hkg : k ≠ g := by
          intro z
          rw [z] at q
          exact q k4
        have hsz : upN sz g (sz g + sz l) k < upN sz g (sz g + sz l) (rt k) := by
          rw [upN_o _ _ hkg]
          by_cases d : rt k = g
          · rw [d, upN_s]; rw [d] at b4; omega
          · rw [upN_o _ _ d]; exact b4
        by_cases d : F k = l
        · rw [if_pos d, if_pos d, if_pos d, if_pos d, if_pos d]
          exact ⟨rfl, by omega, by omega, hsz⟩
        · rw [if_neg d, if_neg d, if_neg d, if_neg d, if_neg d]
          exact ⟨rfl, b2, b3, hsz⟩
  · -- ways
    intro k hke
    show H (X k + (if F k = l then wx k + x else wx k)) (Y k + (if F k = l then wy k + y else wy k)) = k ∧ Con (eH H e) (X (if F k = l then g else F k)) (Y (if F k = l then g else F k)) (X k + (if F k = l then wx k + x else wx k)) (Y k + (if F k = l then wy k + y else wy k))
    obtain ⟨w1, w2⟩ := hg1 k hke
    by_cases c : F k = l
    · rw [if_pos c, if_pos c, if_pos c, show X k + (wx k + x) = X k + wx k + x by omega, show Y k + (wy k + y) = Y k + wy k + y by omega]
      refine ⟨by rw [per]; exact w1, ?_⟩
      have hsh : ∀ p q, eH H e p q → eH H e (p + x) (q + y) := fun p q z => by show e (H _ _); rw [per]; exact z
      have c1 := (hg1 k0 hk).2
      rw [hge] at c1
      have c2 := c1.snoc s0 (by show e (H _ _); rw [nbH_of hH hr (hg1 k0 hk).1 s0, hn]; exact hj)
      rw [← hx, ← hy] at c2
      have c3 := ((hg1 j0 hj).2.sh hsh).sm
      rw [hle] at c3
      have c4 := w2.sh hsh
      rw [c] at c4
      exact (c2.tr c3).tr c4
    · rw [if_neg c, if_neg c, if_neg c]
      exact ⟨w1, w2⟩
  · -- how wide
    intro j k hje hke
    show (if F j = l then g else F j) = (if F k = l then g else F k) → X k + (if F k = l then wx k + x else wx k) - (X j + (if F j = l then wx j + x else wx j)) ≤ upN sz g (sz g + sz l) (if F k = l then g else F k) - 1 ∧ Y k + (if F k = l then wy k + y else wy k) - (Y j + (if F j = l then wy j + y else wy j)) ≤ upN sz g (sz g + sz l) (if F k = l then g else F k) - 1
    have dxb : -1 ≤ dX s0 ∧ dX s0 ≤ 1 ∧ -1 ≤ dY s0 ∧ dY s0 ≤ 1 := by
      match s0 with
      | 0 => simp only [dX, dY]; omega
      | 1 => simp only [dX, dY]; omega
      | 2 => simp only [dX, dY]; omega
      | n + 3 => simp only [dX, dY]; omega
    by_cases cj : F j = l
    · by_cases ck : F k = l
      · intro _
        rw [if_pos cj, if_pos cj, if_pos ck, if_pos ck, if_pos ck, upN_s]
        have := hg2 j k hje hke (cj.trans ck.symm)
        rw [ck] at this
        omega
      · intro q
        rw [if_pos cj, if_neg ck] at q
        rw [if_pos cj, if_pos cj, if_neg ck, if_neg ck, if_neg ck, ← q, upN_s]
        have b1 := hg2 j j0 hje hj (cj.trans hle.symm)
        have b2 := hg2 k0 k hk hke (hge.trans q)
        rw [hle] at b1
        rw [← q] at b2
        omega
    · by_cases ck : F k = l
      · intro q
        rw [if_neg cj, if_pos ck] at q
        rw [if_neg cj, if_neg cj, if_pos ck, if_pos ck, if_pos ck, upN_s]
        have b1 := hg2 j0 k hj hke (hle.trans ck.symm)
        have b2 := hg2 j k0 hje hk (q.trans hge.symm)
        rw [ck] at b1
        rw [hge] at b2
        omega
      · intro q
        rw [if_neg cj, if_neg ck] at q
        rw [if_neg cj, if_neg cj, if_neg ck, if_neg ck, if_neg ck]
        have b := hg2 j k hje hke q
        by_cases d : F k = g
        · rw [d, upN_s]; rw [d] at b; omega
        · rw [upN_o _ _ d]; exact b
  · intro k s hd
    obtain ⟨q1, q2, q3⟩ := hD k s hd
    refine ⟨q1, q2, ?_⟩
    show (if F (nbH H X Y k s) = l then g else F (nbH H X Y k s)) = (if F k = l then g else F k)
    rw [q3]
  · have r := cnt_rm (p := rtS e F) (j := l) ⟨j3, jF.1⟩ N
    rw [if_pos hl.1] at r
    rw [← r]
    congr 1
    refine cnt_cg N (fun k hkN => ?_)
    show (e k ∧ (if F k = l then g else F k) = k) ↔ ((e k ∧ F k = k) ∧ k ≠ l)
    constructor
    · rintro ⟨q1, q2⟩
      by_cases c : F k = l
      · rw [if_pos c] at q2
        rw [← q2, kF.1] at c
        exact absurd c.symm hne
      · rw [if_neg c] at q2
        exact ⟨⟨q1, q2⟩, fun z => c (q2.trans z)⟩
    · rintro ⟨⟨q1, q2⟩, q3⟩
      refine ⟨q1, ?_⟩
      rw [if_neg (fun z => q3 (q2.symm.trans z))]
      exact q2
