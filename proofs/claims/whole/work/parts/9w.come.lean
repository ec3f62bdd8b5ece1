/-! a home comes in, a step is joined, ways come round: pure. -/
theorem gI.new {H : Int → Int → Nat} {X Y : Nat → Int} {N : Nat} (hr : hRep H N X Y) {e e' : Nat → Prop} {D : Nat → Nat → Prop} {rt : Nat → Nat} {mx my sz : Nat → Int} {F : Nat → Nat} {wx wy : Nat → Int} (h : gI H X Y N e D rt mx my sz F wx wy) {c : Nat} (hc : c < N) (hce : ¬ e c) (he : ∀ k, e' k ↔ (e k ∨ k = c)) :
    gI H X Y N e' D (upN rt c c) (upN mx c 0) (upN my c 0) (upN sz c 1) (upN F c c) (upN wx c 0) (upN wy c 0) ∧ cnt (rtS e' (upN F c c)) N = cnt (rtS e F) N + 1 := by
  obtain ⟨hf, ⟨hg1, hg2⟩, hs, hD⟩ := h
  have hne : ∀ k, e k → k ≠ c := fun k hk q => hce (q ▸ hk)
  have hFc : ∀ k, e k → F k ≠ c := fun k hk => hne _ (hf k hk).1.2.2.1
  have hi : ∀ k, e k → e' k := fun k hk => (he k).mpr (Or.inl hk)
  have hec : e' c := (he c).mpr (Or.inr rfl)
  have e0 : cnt e' N = cnt e N + 1 := by
    have r := cnt_rm (p := e') hec N
    rw [if_pos hc] at r
    rw [← r]
    congr 1
    refine cnt_cg N (fun k _ => ?_)
    constructor
    · rintro ⟨q1, q2⟩
      rcases (he k).mp q1 with q | q
      · exact q
      · exact absurd q q2
    · intro q; exact ⟨hi k q, hne k q⟩
  have hrt : ∀ k, k ≠ c → (rtS e' (upN F c c) k ↔ rtS e F k) := by
    intro k hk
    unfold rtS
    rw [upN_o _ _ hk, he k]
    constructor
    · rintro ⟨q1, q2⟩; exact ⟨q1.resolve_right hk, q2⟩
    · rintro ⟨q1, q2⟩; exact ⟨Or.inl q1, q2⟩
  have hrc : rtS e' (upN F c c) c := ⟨hec, upN_s _ _ _⟩
  have hnc : ¬ rtS e F c := fun q => hce q.1
  refine ⟨⟨?_, ⟨?_, ?_⟩, ?_, ?_⟩, ?_⟩
  · intro k hk
    by_cases q : k = c
    · subst q
      rw [upN_s, upN_s, upN_s, upN_s, upN_s]
      refine ⟨⟨hc, hec, hec, rfl, by omega, by omega⟩, fun _ => ⟨rfl, rfl, upN_s _ _ _⟩, fun z => absurd rfl z⟩
    · have hk' : e k := ((he k).mp hk).resolve_right q
      obtain ⟨⟨a1, a2, a3, a4, a5, a6⟩, a7, a8⟩ := hf k hk'
      rw [upN_o _ _ q, upN_o _ _ q, upN_o _ _ q, upN_o _ _ q, upN_o _ _ q, upN_o _ _ q, upN_o _ _ q]
      refine ⟨⟨a1, hi _ a2, hi _ a3, ?_, a5, a6⟩, a7, fun z => ?_⟩
      · rw [upN_o _ _ (hFc k hk')]; exact a4
      · have hrk := hne _ a2
        rw [upN_o _ _ hrk, upN_o _ _ hrk, upN_o _ _ hrk, upN_o _ _ hrk]
        exact a8 z
  · intro k hk
    by_cases q : k = c
    · subst q
      rw [upN_s, upN_s, upN_s]
      refine ⟨by rw [Int.add_zero, Int.add_zero]; exact hr.1 k hc, ?_⟩
      rw [Int.add_zero, Int.add_zero]
      exact Con.rf (by show e' (H _ _); rw [hr.1 k hc]; exact hec)
    · have hk' : e k := ((he k).mp hk).resolve_right q
      rw [upN_o _ _ q, upN_o _ _ q, upN_o _ _ q]
      exact ⟨(hg1 k hk').1, (hg1 k hk').2.mono (fun x y z => hi _ z)⟩
  · intro j k hj hk
    by_cases q : k = c
    · subst q
      by_cases q2 : j = k
      · subst q2
        intro _
        rw [upN_s, upN_s, upN_s, upN_s]
        omega
      · have hj' : e j := ((he j).mp hj).resolve_right q2
        intro z
        rw [upN_s, upN_o _ _ q2] at z
        exact absurd z (hFc j hj')
    · have hk' : e k := ((he k).mp hk).resolve_right q
      by_cases q2 : j = c
      · subst q2
        intro z
        rw [upN_s, upN_o _ _ q] at z
        exact absurd z.symm (hFc k hk')
      · have hj' : e j := ((he j).mp hj).resolve_right q2
        rw [upN_o _ _ q, upN_o _ _ q, upN_o _ _ q, upN_o _ _ q2, upN_o _ _ q2, upN_o _ _ q2, upN_o _ _ (hFc k hk')]
        exact hg2 j k hj' hk'
  · rw [e0]
    have : szS e' (upN F c c) (upN sz c 1) N = szS e F sz N + 1 := by
      refine smN_ad (a := c) 1 hc (fun k _ => ?_)
      by_cases q : k = c
      · subst q
        rw [tv_t hrc, tv_f hnc, upN_s, eqN_s]
        omega
      · rw [upN_o _ _ q, eqN_0 (fun z => q z.symm), propext (hrt k q)]
        omega
    rw [this, hs]
    omega
  · intro k s hd
    obtain ⟨q1, q2, q3⟩ := hD k s hd
    refine ⟨hi _ q1, hi _ q2, ?_⟩
    rw [upN_o _ _ (hne _ q1), upN_o _ _ (hne _ q2)]
    exact q3
  · have r := cnt_rm (p := rtS e' (upN F c c)) hrc N
    rw [if_pos hc] at r
    rw [← r]
    congr 1
    refine cnt_cg N (fun k _ => ?_)
    constructor
    · rintro ⟨q1, q2⟩; exact (hrt k q2).mp q1
    · intro q; exact ⟨(hrt k (hne _ q.1)).mpr q, hne _ q.1⟩
theorem gI.more {H : Int → Int → Nat} {X Y : Nat → Int} {N : Nat} {e : Nat → Prop} {D D' : Nat → Nat → Prop} {rt : Nat → Nat} {mx my sz : Nat → Int} {F : Nat → Nat} {wx wy : Nat → Int} (h : gI H X Y N e D rt mx my sz F wx wy) (hD : ∀ k s, D' k s → D k s ∨ (e k ∧ e (nbH H X Y k s) ∧ F (nbH H X Y k s) = F k)) : gI H X Y N e D' rt mx my sz F wx wy := by
  obtain ⟨h1, h2, h3, h4⟩ := h
  refine ⟨h1, h2, h3, fun k s hd => ?_⟩
  rcases hD k s hd with q | q
  · exact h4 k s q
  · exact q
/-- how wide a lot is at most -/
theorem gI.wide {H : Int → Int → Nat} {X Y : Nat → Int} {N : Nat} {e : Nat → Prop} {D : Nat → Nat → Prop} {rt : Nat → Nat} {mx my sz : Nat → Int} {F : Nat → Nat} {wx wy : Nat → Int} (h : gI H X Y N e D rt mx my sz F wx wy) {j k : Nat} (hj : e j) (hk : e k) (hF : F j = F k) : (-(N : Int) < X k + wx k - (X j + wx j) ∧ X k + wx k - (X j + wx j) < N) ∧ (-(N : Int) < Y k + wy k - (Y j + wy j) ∧ Y k + wy k - (Y j + wy j) < N) := by
  have a := h.2.1.2 j k hj hk hF
  have b := h.2.1.2 k j hk hj hF.symm
  have c := (h.1 _ (h.1 k hk).1.2.2.1).1.2.2.2.2.2
  rw [hF] at b
  omega
/-! ways that come round -/
def tI (cx cy : Nat → Nat → Int) (D : Nat → Nat → Prop) (t so : Nat) (ux uy : Int) : Prop :=
  (t = 0 → so = 0 ∧ ∀ k s, D k s → cx k s = 0 ∧ cy k s = 0) ∧ (t ≠ 0 → ¬ (ux = 0 ∧ uy = 0) ∧ ((-300 ≤ ux ∧ ux ≤ 300) ∧ (-300 ≤ uy ∧ uy ≤ 300)) ∧ (∃ k s, D k s ∧ cx k s = ux ∧ cy k s = uy) ∧ (so = 0 → ∀ k s, D k s → ux * cy k s = uy * cx k s) ∧ (so ≠ 0 → ∃ k s, D k s ∧ ux * cy k s ≠ uy * cx k s))
theorem tI.cg {cx cy cx' cy' : Nat → Nat → Int} {D : Nat → Nat → Prop} {t so : Nat} {ux uy : Int} (h : tI cx cy D t so ux uy) (hx : ∀ k s, D k s → cx' k s = cx k s) (hy : ∀ k s, D k s → cy' k s = cy k s) : tI cx' cy' D t so ux uy := by
  refine ⟨fun z => ⟨(h.1 z).1, fun k s d => by rw [hx k s d, hy k s d]; exact (h.1 z).2 k s d⟩, fun z => ?_⟩
  obtain ⟨a1, a2, ⟨k, s, a3, a4, a5⟩, a6, a7⟩ := h.2 z
  refine ⟨a1, a2, ⟨k, s, a3, by rw [hx k s a3]; exact a4, by rw [hy k s a3]; exact a5⟩, fun q k s d => by rw [hx k s d, hy k s d]; exact a6 q k s d, fun q => ?_⟩
  obtain ⟨k, s, b1, b2⟩ := a7 q
  exact ⟨k, s, b1, by rw [hx k s b1, hy k s b1]; exact b2⟩
/-- what was found when: never up to here, or first at t -/
def fstL (P : Nat → Prop) (r t : Nat) : Prop := (t = 0 ∧ ¬ P r) ∨ (1 ≤ t ∧ t ≤ r ∧ P t ∧ ∀ t', t' < t → ¬ P t')
/-- the same while level r + 1 is on its way -/
def midL (P : Nat → Prop) (r t : Nat) : Prop := fstL P r t ∨ (t = r + 1 ∧ fstL P r 0)
theorem midL.z {P : Nat → Prop} {r : Nat} (h : midL P r 0) : fstL P r 0 := by
  rcases h with h | h
  · exact h
  · exact h.2
theorem midL.le {P : Nat → Prop} {r t : Nat} (h : midL P r t) : t ≤ r + 1 := by
  rcases h with h | h
  · rcases h with h | h <;> omega
  · omega
theorem midL.fin {P : Nat → Prop} {r t : Nat} (hm : ∀ a b, a ≤ b → P a → P b) (h : midL P r t) (h0 : t = 0 → ¬ P (r + 1)) (h1 : t ≠ 0 → P (r + 1)) : fstL P (r + 1) t := by
  rcases h with (h | h) | h
  · exact Or.inl ⟨h.1, h0 h.1⟩
  · exact Or.inr ⟨h.1, by omega, h.2.2.1, h.2.2.2⟩
  · have hz : ¬ P r := by
      rcases h.2 with q | q
      · exact q.2
      · omega
    refine Or.inr ⟨by omega, by omega, by rw [h.1]; exact h1 (by omega), fun t' ht' q => hz (hm t' r (by omega) q)⟩
abbrev D1 (D : Nat → Nat → Prop) (k s : Nat) : Nat → Nat → Prop := fun k' s' => D k' s' ∨ (k' = k ∧ s' = s)
theorem tI.nil {cx cy : Nat → Nat → Int} {D : Nat → Nat → Prop} {t so : Nat} {ux uy : Int} (h : tI cx cy D t so ux uy) {k s : Nat} (h0 : cx k s = 0) (h1 : cy k s = 0) : tI cx cy (D1 D k s) t so ux uy := by
  refine ⟨fun z => ⟨(h.1 z).1, fun k' s' d => ?_⟩, fun z => ?_⟩
  · rcases d with d | ⟨rfl, rfl⟩
    · exact (h.1 z).2 k' s' d
    · exact ⟨h0, h1⟩
  · obtain ⟨a1, a2, ⟨k', s', a3, a4, a5⟩, a6, a7⟩ := h.2 z
    refine ⟨a1, a2, ⟨k', s', Or.inl a3, a4, a5⟩, fun q k' s' d => ?_, fun q => ?_⟩
    · rcases d with d | ⟨rfl, rfl⟩
      · exact a6 q k' s' d
      · rw [h0, h1, Int.mul_zero, Int.mul_zero]
    · obtain ⟨k, s, b1, b2⟩ := a7 q
      exact ⟨k, s, Or.inl b1, b2⟩
theorem tI.first {cx cy : Nat → Nat → Int} {D : Nat → Nat → Prop} {so r : Nat} {ux uy : Int} (h : tI cx cy D 0 so ux uy) {k s : Nat} (hn : ¬ (cx k s = 0 ∧ cy k s = 0)) (hb : (-300 ≤ cx k s ∧ cx k s ≤ 300) ∧ (-300 ≤ cy k s ∧ cy k s ≤ 300)) : tI cx cy (D1 D k s) (r + 1) so (cx k s) (cy k s) := by
  obtain ⟨z1, z2⟩ := h.1 rfl
  refine ⟨fun z => by omega, fun _ => ⟨hn, hb, ⟨k, s, Or.inr ⟨rfl, rfl⟩, rfl, rfl⟩, fun _ k' s' d => ?_, fun q => absurd z1 q⟩⟩
  rcases d with d | ⟨rfl, rfl⟩
  · rw [(z2 k' s' d).1, (z2 k' s' d).2, Int.mul_zero, Int.mul_zero]
  · exact Int.mul_comm _ _
theorem tI.along {cx cy : Nat → Nat → Int} {D : Nat → Nat → Prop} {t : Nat} {ux uy : Int} (h : tI cx cy D t 0 ux uy) (ht : t ≠ 0) {k s : Nat} (hp : ux * cy k s = uy * cx k s) : tI cx cy (D1 D k s) t 0 ux uy := by
  obtain ⟨a1, a2, ⟨k', s', a3, a4, a5⟩, a6, a7⟩ := h.2 ht
  refine ⟨fun z => absurd z ht, fun _ => ⟨a1, a2, ⟨k', s', Or.inl a3, a4, a5⟩, fun q k' s' d => ?_, fun q => absurd rfl q⟩⟩
  rcases d with d | ⟨rfl, rfl⟩
  · exact a6 rfl k' s' d
  · exact hp
theorem tI.across {cx cy : Nat → Nat → Int} {D : Nat → Nat → Prop} {t r : Nat} {ux uy : Int} (h : tI cx cy D t 0 ux uy) (ht : t ≠ 0) {k s : Nat} (hp : ux * cy k s ≠ uy * cx k s) : tI cx cy (D1 D k s) t (r + 1) ux uy := by
  obtain ⟨a1, a2, ⟨k', s', a3, a4, a5⟩, a6, a7⟩ := h.2 ht
  exact ⟨fun z => absurd z ht, fun _ => ⟨a1, a2, ⟨k', s', Or.inl a3, a4, a5⟩, fun q => by omega, fun _ => ⟨k, s, Or.inr ⟨rfl, rfl⟩, hp⟩⟩⟩
theorem tI.done {cx cy : Nat → Nat → Int} {D : Nat → Nat → Prop} {t so : Nat} {ux uy : Int} (h : tI cx cy D t so ux uy) (ht : t ≠ 0) (hso : so ≠ 0) {k s : Nat} : tI cx cy (D1 D k s) t so ux uy := by
  obtain ⟨a1, a2, ⟨k', s', a3, a4, a5⟩, a6, a7⟩ := h.2 ht
  obtain ⟨k2, s2, b1, b2⟩ := a7 hso
  exact ⟨fun z => absurd z ht, fun _ => ⟨a1, a2, ⟨k', s', Or.inl a3, a4, a5⟩, fun q => absurd q hso, fun _ => ⟨k2, s2, Or.inl b1, b2⟩⟩⟩
/-! all steps of a level -/
theorem dX_min (s : Nat) : dX (min s 3) = dX s ∧ dY (min s 3) = dY s := by
  match s with
  | 0 => exact ⟨rfl, rfl⟩
  | 1 => exact ⟨rfl, rfl⟩
  | 2 => exact ⟨rfl, rfl⟩
  | n + 3 =>
    rw [show min (n + 3) 3 = 3 by omega]
    exact ⟨rfl, rfl⟩
/-- the steps done: those of the level before, and the first i of the newcomer -/
abbrev Dn (H : Int → Int → Nat) (X Y : Nat → Int) (e e' : Nat → Prop) (c i : Nat) : Nat → Nat → Prop := fun k s => (e k ∧ e (nbH H X Y k s)) ∨ (k = c ∧ s < i ∧ e' (nbH H X Y c s))
theorem step_all {H : Int → Int → Nat} (hH : hInv H) {X Y : Nat → Int} {N : Nat} (hr : hRep H N X Y) {e e' : Nat → Prop} {c : Nat} (hN : ∀ k, e' k → k < N) (he : ∀ k, e' k ↔ (e k ∨ k = c)) (px py : Nat → Int) {k s : Nat} (h1 : e' k) (h2 : e' (nbH H X Y k s)) : (∃ s', Dn H X Y e e' c 4 k s' ∧ nbH H X Y k s' = nbH H X Y k s ∧ clX H X Y px k s' = clX H X Y px k s ∧ clY H X Y py k s' = clY H X Y py k s) ∨ (∃ k' s', Dn H X Y e e' c 4 k' s' ∧ nbH H X Y k' s' = k ∧ k' = nbH H X Y k s ∧ clX H X Y px k' s' = -clX H X Y px k s ∧ clY H X Y py k' s' = -clY H X Y py k s) := by
  by_cases q : k = c
  · left
    have d := dX_min s
    have n : nbH H X Y k (min s 3) = nbH H X Y k s := by unfold nbH; rw [d.1, d.2]
    refine ⟨min s 3, Or.inr ⟨q, by omega, by rw [← q, n]; exact h2⟩, n, ?_, ?_⟩
    · unfold clX; rw [n, d.1]
    · unfold clY; rw [n, d.2]
  · have hk : e k := ((he k).mp h1).resolve_right q
    by_cases q2 : nbH H X Y k s = c
    · right
      have o := opS_d s
      have n := nbH_op hH hr (hN k h1) s
      rw [q2] at n
      refine ⟨c, opS s, Or.inr ⟨rfl, opS_lt s, by rw [n]; exact h1⟩, n, q2.symm, ?_, ?_⟩
      · unfold clX; rw [n, q2, o.1]; omega
      · unfold clY; rw [n, q2, o.2]; omega
    · left
      have hn : e (nbH H X Y k s) := ((he _).mp h2).resolve_right q2
      exact ⟨s, Or.inl ⟨hk, hn⟩, rfl, rfl, rfl⟩
/-- at the end of a level the forest tells the lots -/
theorem gI.lots {H : Int → Int → Nat} (hH : hInv H) {X Y : Nat → Int} {N : Nat} (hr : hRep H N X Y) {e e' : Nat → Prop} {c : Nat} {rt : Nat → Nat} {mx my sz : Nat → Int} {F : Nat → Nat} {wx wy : Nat → Int} (he : ∀ k, e' k ↔ (e k ∨ k = c)) (h : gI H X Y N e' (Dn H X Y e e' c 4) rt mx my sz F wx wy) : isF H X Y e' F (fun k => X k + wx k) (fun k => Y k + wy k) ∧ ∀ k s, e' k → e' (nbH H X Y k s) → F (nbH H X Y k s) = F k := by
  have hN : ∀ k, e' k → k < N := fun k hk => (h.1 k hk).1.1
  have hall : ∀ k s, e' k → e' (nbH H X Y k s) → F (nbH H X Y k s) = F k := by
    intro k s h1 h2
    rcases step_all hH hr hN he wx wy h1 h2 with ⟨s', d, n, -, -⟩ | ⟨k', s', d, n, rfl, -, -⟩
    · rw [← n]; exact (h.2.2.2 k s' d).2.2
    · have := (h.2.2.2 _ s' d).2.2
      rw [n] at this
      exact this.symm
  refine ⟨⟨fun k hk => ?_, hall⟩, hall⟩
  have f := h.1.FF hk
  refine ⟨(h.1 k hk).1.2.2.1, f.1, (h.2.1.1 k hk).1, ?_⟩
  have := (h.2.1.1 k hk).2
  show Con (eH H e') (X (F k) + wx (F k)) (Y (F k) + wy (F k)) (X k + wx k) (Y k + wy k)
  rw [f.2.1, f.2.2, Int.add_zero, Int.add_zero]
  exact this
theorem tI.all {H : Int → Int → Nat} (hH : hInv H) {X Y : Nat → Int} {N : Nat} (hr : hRep H N X Y) {e e' : Nat → Prop} {c : Nat} {F : Nat → Nat} {px py : Nat → Int} (he : ∀ k, e' k ↔ (e k ∨ k = c)) (hN : ∀ k, e' k → k < N) (hD : ∀ k s, Dn H X Y e e' c 4 k s → e' k ∧ e' (nbH H X Y k s)) (hF : isF H X Y e' F px py) {t so : Nat} {ux uy : Int} (h : tI (clX H X Y px) (clY H X Y py) (Dn H X Y e e' c 4) t so ux uy) : (t = 0 → ¬ TCH H e') ∧ (t ≠ 0 → TCH H e') ∧ (so = 0 → ¬ SLD H e') ∧ (so ≠ 0 → SLD H e') ∧ tI (clX H X Y px) (clY H X Y py) (fun k s => e' k ∧ e' (nbH H X Y k s)) t so ux uy := by
  have z0 : t = 0 → ∀ k s, e' k → e' (nbH H X Y k s) → clX H X Y px k s = 0 ∧ clY H X Y py k s = 0 := by
    intro z k s h1 h2
    rcases step_all hH hr hN he px py h1 h2 with ⟨s', d, -, c1, c2⟩ | ⟨k', s', d, -, -, c1, c2⟩
    · have := (h.1 z).2 _ _ d
      omega
    · have := (h.1 z).2 _ _ d
      omega
  have z1 : t ≠ 0 → so = 0 → ∀ k s, e' k → e' (nbH H X Y k s) → ux * clY H X Y py k s = uy * clX H X Y px k s := by
    intro z1 z2 k s h1 h2
    rcases step_all hH hr hN he px py h1 h2 with ⟨s', d, -, c1, c2⟩ | ⟨k', s', d, -, -, c1, c2⟩
    · have := (h.2 z1).2.2.2.1 z2 _ _ d
      rw [← c1, ← c2]; exact this
    · have := (h.2 z1).2.2.2.1 z2 _ _ d
      rw [c1, c2, Int.mul_neg, Int.mul_neg] at this
      omega
  refine ⟨fun z => tch_no hH hr (z0 z), fun z => ?_, fun z => ?_, fun z => ?_, fun z => ⟨(h.1 z).1, fun k s d => z0 z k s d.1 d.2⟩, fun z => ?_⟩
  · obtain ⟨a1, a2, ⟨k, s, a3, a4, a5⟩, -, -⟩ := h.2 z
    obtain ⟨b1, b2⟩ := hD k s a3
    exact hF.tch hH hr b1 b2 (by rw [a4, a5]; exact a1)
  · by_cases q : t = 0
    · exact sld_no0 hH hr (z0 q)
    · exact sld_no hH hr (h.2 q).1 (z1 q z)
  · have q : t ≠ 0 := fun q => z (h.1 q).1
    obtain ⟨a1, a2, ⟨k, s, a3, a4, a5⟩, -, a7⟩ := h.2 q
    obtain ⟨k', s', b1, b2⟩ := a7 z
    obtain ⟨c1, c2⟩ := hD k s a3
    obtain ⟨c1', c2'⟩ := hD k' s' b1
    exact hF.sld hH hr c1 c2 c1' c2' (by rw [a4, a5]; exact b2)
  · obtain ⟨a1, a2, ⟨k, s, a3, a4, a5⟩, -, a7⟩ := h.2 z
    refine ⟨a1, a2, ⟨k, s, hD k s a3, a4, a5⟩, fun q k s d => z1 z q k s d.1 d.2, fun q => ?_⟩
    obtain ⟨k', s', b1, b2⟩ := a7 q
    exact ⟨k', s', hD k' s' b1, b2⟩
