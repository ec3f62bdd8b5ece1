/-! lots as classes of homes joined by ways: pure. -/
def Con (E : Int → Int → Prop) (x y x' y' : Int) : Prop := ∃ l : List Nat, allW E l x y ∧ x + sX l = x' ∧ y + sY l = y'
theorem Con.rf {E : Int → Int → Prop} {x y : Int} (h : E x y) : Con E x y x y := ⟨[], h, by simp only [sX]; omega, by simp only [sY]; omega⟩
theorem Con.cons {E : Int → Int → Prop} {x y x' y' : Int} (s : Nat) (h : E x y) (hc : Con E (x + dX s) (y + dY s) x' y') : Con E x y x' y' := by
  obtain ⟨l, h1, h2, h3⟩ := hc
  exact ⟨s :: l, ⟨h, h1⟩, by simp only [sX]; omega, by simp only [sY]; omega⟩
theorem Con.hd {E : Int → Int → Prop} {x y x' y' : Int} (h : Con E x y x' y') : E x y := by
  obtain ⟨l, h1, h2, h3⟩ := h
  exact h1.hd
/-- a property that goes on along every step within E reaches the end -/
theorem Con.ind {E : Int → Int → Prop} {Q : Int → Int → Prop} (hs : ∀ x y s, E x y → E (x + dX s) (y + dY s) → Q x y → Q (x + dX s) (y + dY s)) {x y x' y' : Int} (h : Con E x y x' y') (h0 : Q x y) : Q x' y' ∧ E x' y' := by
  obtain ⟨l, h1, h2, h3⟩ := h
  subst h2
  subst h3
  induction l generalizing x y with
  | nil =>
    simp only [sX, sY, Int.add_zero]
    exact ⟨h0, h1⟩
  | cons s l ih =>
    simp only [sX, sY]
    rw [show x + (dX s + sX l) = x + dX s + sX l by omega, show y + (dY s + sY l) = y + dY s + sY l by omega]
    exact ih (hs x y s h1.1 h1.2.hd h0) h1.2
theorem Con.tl {E : Int → Int → Prop} {x y x' y' : Int} (h : Con E x y x' y') : E x' y' := (Con.ind (Q := fun _ _ => True) (fun _ _ _ _ _ _ => True.intro) h True.intro).2
theorem Con.snoc {E : Int → Int → Prop} {x y x' y' : Int} (h : Con E x y x' y') (s : Nat) (he : E (x' + dX s) (y' + dY s)) : Con E x y (x' + dX s) (y' + dY s) := by
  obtain ⟨l, h1, h2, h3⟩ := h
  subst h2
  subst h3
  induction l generalizing x y with
  | nil =>
    simp only [sX, sY, Int.add_zero] at *
    exact Con.cons s h1 (Con.rf he)
  | cons t l ih =>
    simp only [sX, sY] at *
    rw [show x + (dX t + sX l) = x + dX t + sX l by omega, show y + (dY t + sY l) = y + dY t + sY l by omega] at *
    exact Con.cons t h1.1 (ih h1.2 he)
theorem Con.tr {E : Int → Int → Prop} {x y x' y' x'' y'' : Int} (h : Con E x y x' y') (h' : Con E x' y' x'' y'') : Con E x y x'' y'' :=
  (Con.ind (Q := fun a b => Con E x y a b) (fun a b s _ he hq => hq.snoc s he) h' h).1
def opS : Nat → Nat
  | 0 => 1
  | 1 => 0
  | 2 => 3
  | _ => 2
theorem opS_d (s : Nat) : dX (opS s) = -dX s ∧ dY (opS s) = -dY s := by
  match s with
  | 0 => exact ⟨rfl, rfl⟩
  | 1 => exact ⟨rfl, rfl⟩
  | 2 => exact ⟨rfl, rfl⟩
  | n + 3 => exact ⟨rfl, rfl⟩
theorem opS_lt (s : Nat) : opS s < 4 := by
  match s with
  | 0 => exact (by decide : 1 < 4)
  | 1 => exact (by decide : 0 < 4)
  | 2 => exact (by decide : 3 < 4)
  | n + 3 => exact (by decide : 2 < 4)
theorem Con.sm {E : Int → Int → Prop} {x y x' y' : Int} (h : Con E x y x' y') : Con E x' y' x y := by
  refine (Con.ind (Q := fun a b => Con E a b x y) (fun a b s he he' hq => ?_) h (Con.rf h.hd)).1
  have o := opS_d s
  refine Con.cons (opS s) he' ?_
  rw [o.1, o.2, show a + dX s + -dX s = a by omega, show b + dY s + -dY s = b by omega]
  exact hq
theorem Con.mono {E E' : Int → Int → Prop} (hi : ∀ x y, E x y → E' x y) {x y x' y' : Int} (h : Con E x y x' y') : Con E' x y x' y' := by
  obtain ⟨l, h1, h2⟩ := h
  exact ⟨l, allW.mono hi l x y h1, h2⟩
theorem Con.sh {E : Int → Int → Prop} {a b : Int} (hi : ∀ x y, E x y → E (x + a) (y + b)) {x y x' y' : Int} (h : Con E x y x' y') : Con E (x + a) (y + b) (x' + a) (y' + b) := by
  refine (Con.ind (Q := fun p q => Con E (x + a) (y + b) (p + a) (q + b)) (fun p q s he he' hq => ?_) h (Con.rf (hi _ _ h.hd))).1
  have := hq.snoc s (by rw [show p + a + dX s = p + dX s + a by omega, show q + b + dY s = q + dY s + b by omega]; exact hi _ _ he')
  rw [show p + a + dX s = p + dX s + a by omega, show q + b + dY s = q + dY s + b by omega] at this
  exact this
/-- the whole way keeps to a class that no step leaves -/
theorem allW.cls {E : Int → Int → Prop} {Q : Int → Int → Prop} (hs : ∀ x y s, E x y → E (x + dX s) (y + dY s) → Q x y → Q (x + dX s) (y + dY s)) : ∀ (l : List Nat) (x y : Int), allW E l x y → Q x y → allW (fun x y => E x y ∧ Q x y) l x y := by
  intro l
  induction l with
  | nil => intro x y h q; exact ⟨h, q⟩
  | cons s l ih => intro x y h q; exact ⟨⟨h.1, q⟩, ih _ _ h.2 (hs x y s h.1 h.2.hd q)⟩
/-! homes -/
/-- the home beside -/
def nbH (H : Int → Int → Nat) (X Y : Nat → Int) (k s : Nat) : Nat := H (X k + dX s) (Y k + dY s)
theorem nbH_of {H : Int → Int → Nat} (hH : hInv H) {N : Nat} {X Y : Nat → Int} (hr : hRep H N X Y) {x y : Int} {k : Nat} (h : H x y = k) (s : Nat) : H (x + dX s) (y + dY s) = nbH H X Y k s := by
  have hk : k < N := h ▸ hr.2 x y
  exact hH _ _ _ _ _ _ (h.trans (hr.1 k hk).symm)
theorem nbH_lt {H : Int → Int → Nat} {N : Nat} {X Y : Nat → Int} (hr : hRep H N X Y) (k s : Nat) : nbH H X Y k s < N := hr.2 _ _
theorem nbH_op {H : Int → Int → Nat} (hH : hInv H) {N : Nat} {X Y : Nat → Int} (hr : hRep H N X Y) {k : Nat} (hk : k < N) (s : Nat) : nbH H X Y (nbH H X Y k s) (opS s) = k := by
  have o := opS_d s
  have := nbH_of hH hr (x := X k + dX s) (y := Y k + dY s) (k := nbH H X Y k s) rfl (opS s)
  rw [o.1, o.2, show X k + dX s + -dX s = X k by omega, show Y k + dY s + -dY s = Y k by omega, hr.1 k hk] at this
  exact this.symm
/-- a number for each home that goes on by a and b with every step within e -/
def pot (H : Int → Int → Nat) (e : Nat → Prop) (f : Nat → Int) (a b : Int) : Prop := ∀ x y s, e (H x y) → e (H (x + dX s) (y + dY s)) → f (H (x + dX s) (y + dY s)) = f (H x y) + a * dX s + b * dY s
abbrev eH (H : Int → Int → Nat) (e : Nat → Prop) : Int → Int → Prop := fun x y => e (H x y)
theorem pot.con {H : Int → Int → Nat} {e : Nat → Prop} {f : Nat → Int} {a b : Int} (h : pot H e f a b) {x y x' y' : Int} (hc : Con (eH H e) x y x' y') : f (H x' y') = f (H x y) + a * (x' - x) + b * (y' - y) := by
  refine (Con.ind (Q := fun p q => f (H p q) = f (H x y) + a * (p - x) + b * (q - y)) (fun p q s he he' hq => ?_) hc ?_).1
  · rw [h p q s he he', hq]
    grind
  · grind
theorem pot.mono {H : Int → Int → Nat} {e e' : Nat → Prop} {f : Nat → Int} {a b : Int} (hi : ∀ k, e k → e' k) (h : pot H e' f a b) : pot H e f a b := fun x y s h1 h2 => h x y s (hi _ h1) (hi _ h2)
def TCH (H : Int → Int → Nat) (e : Nat → Prop) : Prop := ¬ ∃ f g : Nat → Int, pot H e f 1 0 ∧ pot H e g 0 1
def SLD (H : Int → Int → Nat) (e : Nat → Prop) : Prop := ¬ ∃ (a b : Int) (f : Nat → Int), ¬ (a = 0 ∧ b = 0) ∧ pot H e f a b
theorem TCH.mono {H : Int → Int → Nat} {e e' : Nat → Prop} (hi : ∀ k, e k → e' k) (h : TCH H e) : TCH H e' := fun ⟨f, g, h1, h2⟩ => h ⟨f, g, h1.mono hi, h2.mono hi⟩
theorem SLD.mono {H : Int → Int → Nat} {e e' : Nat → Prop} (hi : ∀ k, e k → e' k) (h : SLD H e) : SLD H e' := fun ⟨a, b, f, h1, h2⟩ => h ⟨a, b, f, h1, h2.mono hi⟩
/-- closings: how far the step from the pixel of k falls from the pixel of the home that it reaches -/
def clX (H : Int → Int → Nat) (X Y px : Nat → Int) (k s : Nat) : Int := px k + dX s - px (nbH H X Y k s)
def clY (H : Int → Int → Nat) (X Y py : Nat → Int) (k s : Nat) : Int := py k + dY s - py (nbH H X Y k s)
/-- lots: F tells the root, px py a pixel of each home, all joined by ways -/
def isF (H : Int → Int → Nat) (X Y : Nat → Int) (e : Nat → Prop) (F : Nat → Nat) (px py : Nat → Int) : Prop :=
  (∀ k, e k → e (F k) ∧ F (F k) = F k ∧ H (px k) (py k) = k ∧ Con (eH H e) (px (F k)) (py (F k)) (px k) (py k)) ∧ ∀ k s, e k → e (nbH H X Y k s) → F (nbH H X Y k s) = F k
theorem isF.cls {H : Int → Int → Nat} (hH : hInv H) {N : Nat} {X Y : Nat → Int} (hr : hRep H N X Y) {e : Nat → Prop} {F : Nat → Nat} {px py : Nat → Int} (h : isF H X Y e F px py) (x y : Int) (s : Nat) (h1 : e (H x y)) (h2 : e (H (x + dX s) (y + dY s))) : F (H (x + dX s) (y + dY s)) = F (H x y) := by
  have n := nbH_of hH hr (x := x) (y := y) rfl s
  rw [n] at h2 ⊢
  exact h.2 _ s h1 h2
theorem isF.pot0 {H : Int → Int → Nat} (hH : hInv H) {N : Nat} {X Y : Nat → Int} (hr : hRep H N X Y) {e : Nat → Prop} {F : Nat → Nat} {px py : Nat → Int} (h : isF H X Y e F px py) {f : Nat → Int} {a b : Int} (hp : pot H e f a b) {k s : Nat} (h1 : e k) (h2 : e (nbH H X Y k s)) : a * clX H X Y px k s + b * clY H X Y py k s = 0 := by
  obtain ⟨k1, k2, k3, k4⟩ := h.1 k h1
  obtain ⟨n1, n2, n3, n4⟩ := h.1 _ h2
  have hF := h.2 k s h1 h2
  have e1 := hp.con k4
  have e2 := hp.con n4
  have e3 := hp (px k) (py k) s (by rw [k3]; exact h1) (by rw [nbH_of hH hr k3 s]; exact h2)
  rw [nbH_of hH hr k3 s, k3] at e3
  rw [k3] at e1
  rw [n3, hF] at e2
  unfold clX clY
  grind
theorem cl_pot {H : Int → Int → Nat} (hH : hInv H) {N : Nat} {X Y : Nat → Int} (hr : hRep H N X Y) {e : Nat → Prop} {px py : Nat → Int} {a b : Int} (h : ∀ k s, e k → e (nbH H X Y k s) → a * clX H X Y px k s + b * clY H X Y py k s = 0) : pot H e (fun k => a * px k + b * py k) a b := by
  intro x y s h1 h2
  have n := nbH_of hH hr (x := x) (y := y) rfl s
  rw [n] at h2 ⊢
  have := h _ s h1 h2
  unfold clX clY at this
  show a * px (nbH H X Y (H x y) s) + b * py (nbH H X Y (H x y) s) = a * px (H x y) + b * py (H x y) + a * dX s + b * dY s
  grind
theorem tch_no {H : Int → Int → Nat} (hH : hInv H) {N : Nat} {X Y : Nat → Int} (hr : hRep H N X Y) {e : Nat → Prop} {px py : Nat → Int} (h : ∀ k s, e k → e (nbH H X Y k s) → clX H X Y px k s = 0 ∧ clY H X Y py k s = 0) : ¬ TCH H e := by
  intro t
  refine t ⟨_, _, cl_pot hH hr (px := px) (py := py) (a := 1) (b := 0) (fun k s h1 h2 => ?_), cl_pot hH hr (px := px) (py := py) (a := 0) (b := 1) (fun k s h1 h2 => ?_)⟩
  · obtain ⟨z1, z2⟩ := h k s h1 h2
    rw [z1, z2]; rfl
  · obtain ⟨z1, z2⟩ := h k s h1 h2
    rw [z1, z2]; rfl
theorem isF.tch {H : Int → Int → Nat} (hH : hInv H) {N : Nat} {X Y : Nat → Int} (hr : hRep H N X Y) {e : Nat → Prop} {F : Nat → Nat} {px py : Nat → Int} (h : isF H X Y e F px py) {k s : Nat} (h1 : e k) (h2 : e (nbH H X Y k s)) (hn : ¬ (clX H X Y px k s = 0 ∧ clY H X Y py k s = 0)) : TCH H e := by
  rintro ⟨f, g, p1, p2⟩
  have e1 := h.pot0 hH hr p1 h1 h2
  have e2 := h.pot0 hH hr p2 h1 h2
  exact hn ⟨by omega, by omega⟩
theorem sld_no {H : Int → Int → Nat} (hH : hInv H) {N : Nat} {X Y : Nat → Int} (hr : hRep H N X Y) {e : Nat → Prop} {px py : Nat → Int} {ux uy : Int} (hu : ¬ (ux = 0 ∧ uy = 0)) (h : ∀ k s, e k → e (nbH H X Y k s) → ux * clY H X Y py k s = uy * clX H X Y px k s) : ¬ SLD H e := by
  intro t
  refine t ⟨-uy, ux, _, by omega, cl_pot hH hr (px := px) (py := py) (fun k s h1 h2 => ?_)⟩
  have := h k s h1 h2
  grind
theorem sld_no0 {H : Int → Int → Nat} (hH : hInv H) {N : Nat} {X Y : Nat → Int} (hr : hRep H N X Y) {e : Nat → Prop} {px py : Nat → Int} (h : ∀ k s, e k → e (nbH H X Y k s) → clX H X Y px k s = 0 ∧ clY H X Y py k s = 0) : ¬ SLD H e :=
  sld_no hH hr (ux := 1) (uy := 0) (by omega) (fun k s h1 h2 => by rw [(h k s h1 h2).1, (h k s h1 h2).2]; rfl)
theorem two_zero {a b x y z w : Int} (h1 : a * x + b * y = 0) (h2 : a * z + b * w = 0) (hn : x * w ≠ y * z) : a = 0 ∧ b = 0 := by
  have d : x * w - y * z ≠ 0 := by omega
  have e1 : a * (x * w - y * z) = 0 := by grind
  have e2 : b * (x * w - y * z) = 0 := by grind
  constructor
  · rcases Int.mul_eq_zero.mp e1 with q | q
    · exact q
    · exact absurd q d
  · rcases Int.mul_eq_zero.mp e2 with q | q
    · exact q
    · exact absurd q d
theorem isF.sld {H : Int → Int → Nat} (hH : hInv H) {N : Nat} {X Y : Nat → Int} (hr : hRep H N X Y) {e : Nat → Prop} {F : Nat → Nat} {px py : Nat → Int} (h : isF H X Y e F px py) {k s k' s' : Nat} (h1 : e k) (h2 : e (nbH H X Y k s)) (h1' : e k') (h2' : e (nbH H X Y k' s')) (hn : clX H X Y px k s * clY H X Y py k' s' ≠ clY H X Y py k s * clX H X Y px k' s') : SLD H e := by
  rintro ⟨a, b, f, hab, p⟩
  exact hab (two_zero (h.pot0 hH hr p h1 h2) (h.pot0 hH hr p h1' h2') hn)
/-- a closing is a closed way within its lot -/
theorem isF.way {H : Int → Int → Nat} (hH : hInv H) {N : Nat} {X Y : Nat → Int} (hr : hRep H N X Y) {e : Nat → Prop} {F : Nat → Nat} {px py : Nat → Int} (h : isF H X Y e F px py) {k s : Nat} (h1 : e k) (h2 : e (nbH H X Y k s)) : ∃ l : List Nat, allW (fun x y => e (H x y) ∧ F (H x y) = F k) l (px (F k)) (py (F k)) ∧ sX l = clX H X Y px k s ∧ sY l = clY H X Y py k s ∧ H (px (F k) + sX l) (py (F k) + sY l) = H (px (F k)) (py (F k)) := by
  obtain ⟨k1, k2, k3, k4⟩ := h.1 k h1
  obtain ⟨n1, n2, n3, n4⟩ := h.1 _ h2
  have hF := h.2 k s h1 h2
  have hn := nbH_of hH hr k3 s
  have c1 := k4.snoc s (by show e (H _ _); rw [hn]; exact h2)
  have per : ∀ x y, H (x + clX H X Y px k s) (y + clY H X Y py k s) = H x y := by
    intro x y
    have q : H (px k + dX s) (py k + dY s) = H (px (nbH H X Y k s)) (py (nbH H X Y k s)) := by rw [hn, n3]
    have := hH _ _ _ _ (x - px (nbH H X Y k s)) (y - py (nbH H X Y k s)) q
    unfold clX clY
    rw [show px (nbH H X Y k s) + (x - px (nbH H X Y k s)) = x by omega, show py (nbH H X Y k s) + (y - py (nbH H X Y k s)) = y by omega] at this
    rw [← this]
    congr 1 <;> omega
  have c2 := (Con.sh (a := clX H X Y px k s) (b := clY H X Y py k s) (fun x y q => by show e (H _ _); rw [per]; exact q) n4).sm
  rw [hF] at c2
  have e1 : px (nbH H X Y k s) + clX H X Y px k s = px k + dX s := by unfold clX; omega
  have e2 : py (nbH H X Y k s) + clY H X Y py k s = py k + dY s := by unfold clY; omega
  rw [e1, e2] at c2
  obtain ⟨l, l1, l2, l3⟩ := c1.tr c2
  refine ⟨l, ?_, by omega, by omega, ?_⟩
  · refine allW.cls (Q := fun x y => F (H x y) = F k) (fun x y t q1 q2 q3 => ?_) l _ _ l1 ?_
    · rw [h.cls hH hr x y t q1 q2, q3]
    · rw [(h.1 _ k1).2.2.1, k2]
  · rw [show sX l = clX H X Y px k s by omega, show sY l = clY H X Y py k s by omega, per]
/-- lots in each of which all closings lie along one line: then all lie along one -/
theorem isF.nosld {H : Int → Int → Nat} (hH : hInv H) {N : Nat} {X Y : Nat → Int} (hr : hRep H N X Y) {e : Nat → Prop} {F : Nat → Nat} {px py : Nat → Int} (h : isF H X Y e F px py) (hp : ∀ k s k' s', e k → e (nbH H X Y k s) → e k' → e (nbH H X Y k' s') → F k = F k' → clX H X Y px k s * clY H X Y py k' s' = clY H X Y py k s * clX H X Y px k' s') : ¬ SLD H e := by
  by_cases z : ∀ k s, e k → e (nbH H X Y k s) → clX H X Y px k s = 0 ∧ clY H X Y py k s = 0
  · exact sld_no0 hH hr z
  · have : ∃ k s, e k ∧ e (nbH H X Y k s) ∧ ¬ (clX H X Y px k s = 0 ∧ clY H X Y py k s = 0) := by
      apply Classical.byContradiction
      intro q
      refine z (fun k s h1 h2 => ?_)
      apply Classical.byContradiction
      intro q2
      exact q ⟨k, s, h1, h2, q2⟩
    obtain ⟨k0, s0, a1, a2, a3⟩ := this
    refine sld_no hH hr (px := px) (py := py) a3 (fun k s h1 h2 => ?_)
    by_cases c : F k0 = F k
    · exact hp k0 s0 k s a1 a2 h1 h2 c
    · obtain ⟨P, p1, p2, p3, p4⟩ := h.way hH hr a1 a2
      obtain ⟨Q, q1, q2, q3, q4⟩ := h.way hH hr h1 h2
      have hd : allW (fun x y => allW (fun x' y' => H x' y' ≠ H x y) Q (px (F k)) (py (F k))) P (px (F k0)) (py (F k0)) := by
        refine allW.mono (fun x y w => ?_) P _ _ p1
        refine allW.mono (fun x' y' w' => ?_) Q _ _ q1
        intro eq
        exact c (by rw [← w.2, ← w'.2, eq])
      have := two_ways hH hr p4 q4 hd
      rw [p2, p3, q2, q3] at this
      exact this
/-! counting -/
noncomputable def tv (p : Prop) : Nat := @ite Nat p (Classical.propDecidable p) 1 0
theorem tv_t {p : Prop} (h : p) : tv p = 1 := by
  unfold tv
  rw [if_pos h]
theorem tv_f {p : Prop} (h : ¬ p) : tv p = 0 := by
  unfold tv
  rw [if_neg h]
theorem tv_le (p : Prop) : tv p ≤ 1 := by
  by_cases h : p
  · rw [tv_t h]; omega
  · rw [tv_f h]; omega
noncomputable def cnt (p : Nat → Prop) : Nat → Nat
  | 0 => 0
  | n + 1 => cnt p n + tv (p n)
theorem cnt_cg {p q : Nat → Prop} : ∀ n : Nat, (∀ k, k < n → (p k ↔ q k)) → cnt p n = cnt q n := by
  intro n
  induction n with
  | zero => intro _; rfl
  | succ n ih =>
    intro h
    simp only [cnt]
    rw [ih (fun k hk => h k (by omega)), propext (h n (by omega))]
theorem cnt_rm {p : Nat → Prop} {j : Nat} (hj : p j) : ∀ n : Nat, cnt (fun k => p k ∧ k ≠ j) n + (if j < n then 1 else 0) = cnt p n := by
  intro n
  induction n with
  | zero => rfl
  | succ n ih =>
    simp only [cnt]
    by_cases c : n = j
    · subst c
      rw [tv_f (fun q => q.2 rfl), tv_t hj, ← ih, if_neg (Nat.lt_irrefl _), if_pos (Nat.lt_succ_self _)]
    · have : tv (p n ∧ n ≠ j) = tv (p n) := by rw [show (p n ∧ n ≠ j) = p n from propext ⟨fun q => q.1, fun q => ⟨q, c⟩⟩]
      rw [this, ← ih]
      by_cases d : j < n
      · rw [if_pos d, if_pos (by omega)]; omega
      · rw [if_neg d, if_neg (by omega)]; omega
theorem cnt_le {p : Nat → Prop} : ∀ n : Nat, cnt p n ≤ n := by
  intro n
  induction n with
  | zero => exact Nat.le_refl _
  | succ n ih =>
    simp only [cnt]
    have := tv_le (p n)
    omega
theorem cnt_all (n : Nat) : cnt (fun _ => True) n = n := by
  induction n with
  | zero => rfl
  | succ n ih => simp only [cnt]; rw [ih, tv_t True.intro]
theorem cnt_inj (m : Nat) (g : Nat → Nat) (p : Nat → Prop) : ∀ (n : Nat) (q : Nat → Prop), (∀ k, k < n → p k → q (g k) ∧ g k < m) → (∀ k k', k < n → k' < n → p k → p k' → g k = g k' → k = k') → cnt p n ≤ cnt q m := by
  intro n
  induction n with
  | zero => intro q _ _; exact Nat.zero_le _
  | succ n ih =>
    intro q h1 h2
    simp only [cnt]
    by_cases c : p n
    · obtain ⟨a1, a2⟩ := h1 n (by omega) c
      have := ih (fun k => q k ∧ k ≠ g n) (fun k hk hp => ⟨⟨(h1 k (by omega) hp).1, fun eq => by have := h2 k n (by omega) (by omega) hp c eq; omega⟩, (h1 k (by omega) hp).2⟩) (fun k k' hk hk' => h2 k k' (by omega) (by omega))
      have r := cnt_rm (p := q) a1 m
      rw [if_pos a2] at r
      rw [tv_t c]
      omega
    · rw [tv_f c]
      exact ih q (fun k hk => h1 k (by omega)) (fun k k' hk hk' => h2 k k' (by omega) (by omega))
/-- as many lots, however they were found -/
theorem isF.cnt_le {H : Int → Int → Nat} (hH : hInv H) {N : Nat} {X Y : Nat → Int} (hr : hRep H N X Y) {e : Nat → Prop} (he : ∀ k, e k → k < N) {F F' : Nat → Nat} {px py px' py' : Nat → Int} (h : isF H X Y e F px py) (h' : isF H X Y e F' px' py') : cnt (fun k => e k ∧ F k = k) N ≤ cnt (fun k => e k ∧ F' k = k) N := by
  have key : ∀ k, e k → F (F' k) = F k := by
    intro k hk
    obtain ⟨a1, a2, a3, a4⟩ := h'.1 k hk
    have := (Con.ind (Q := fun x y => F (H x y) = F (F' k)) (fun x y s q1 q2 q3 => by rw [h.cls hH hr x y s q1 q2, q3]) a4 (by rw [(h'.1 _ a1).2.2.1])).1
    rw [a3] at this
    exact this.symm
  refine cnt_inj N F' _ N _ (fun k hk hp => ?_) (fun k k' hk hk' hp hp' eq => ?_)
  · obtain ⟨a1, a2, a3, a4⟩ := h'.1 k hp.1
    exact ⟨⟨a1, a2⟩, he _ a1⟩
  · have e1 := key k hp.1
    have e2 := key k' hp'.1
    rw [hp.2] at e1
    rw [hp'.2] at e2
    rw [← e1, ← e2, eq]
theorem isF.cnt_eq {H : Int → Int → Nat} (hH : hInv H) {N : Nat} {X Y : Nat → Int} (hr : hRep H N X Y) {e : Nat → Prop} (he : ∀ k, e k → k < N) {F F' : Nat → Nat} {px py px' py' : Nat → Int} (h : isF H X Y e F px py) (h' : isF H X Y e F' px' py') : cnt (fun k => e k ∧ F k = k) N = cnt (fun k => e k ∧ F' k = k) N :=
  Nat.le_antisymm (h.cnt_le hH hr he h') (h'.cnt_le hH hr he h)
