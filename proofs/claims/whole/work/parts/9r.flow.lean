/-! two closed ways with no home in common lie along one line: pure. -/
abbrev PX := Int × Int
def dX : Nat → Int
  | 0 => 1
  | 1 => -1
  | _ => 0
def dY : Nat → Int
  | 0 => 0
  | 1 => 0
  | 2 => 1
  | _ => -1
def eqN (a b : Nat) : Int := if a = b then 1 else 0
def upT (H : Int → Int → Nat) (s : Nat) (x y : Int) (m : Nat) : Int :=
  match s with
  | 0 => 0
  | 1 => 0
  | 2 => eqN (H x (y + 1)) (m)
  | _ => -eqN (H x y) (m)
def rtT (H : Int → Int → Nat) (s : Nat) (x y : Int) (m : Nat) : Int :=
  match s with
  | 0 => eqN (H (x + 1) y) (m)
  | 1 => -eqN (H x y) (m)
  | _ => 0
def upF (H : Int → Int → Nat) : List Nat → Int → Int → Nat → Int
  | [], _, _, _ => 0
  | s :: l, x, y, m => upT H s x y m + upF H l (x + dX s) (y + dY s) m
def rtF (H : Int → Int → Nat) : List Nat → Int → Int → Nat → Int
  | [], _, _, _ => 0
  | s :: l, x, y, m => rtT H s x y m + rtF H l (x + dX s) (y + dY s) m
def sX : List Nat → Int
  | [] => 0
  | s :: l => dX s + sX l
def sY : List Nat → Int
  | [] => 0
  | s :: l => dY s + sY l
def hInv (H : Int → Int → Nat) : Prop := ∀ x y x' y' a b : Int, H x y = H x' y' → H (x + a) (y + b) = H (x' + a) (y' + b)
theorem eqN_c {a b c d : Nat} (h : a = b ↔ c = d) : eqN a b = eqN c d := by
  unfold eqN
  by_cases p : a = b
  · rw [if_pos p, if_pos (h.mp p)]
  · rw [if_neg p, if_neg (fun q => p (h.mpr q))]
theorem hInv.iff {H : Int → Int → Nat} (hH : hInv H) (x y x' y' a b : Int) : H (x + a) (y + b) = H (x' + a) (y' + b) ↔ H x y = H x' y' := by
  constructor
  · intro h
    have := hH _ _ _ _ (-a) (-b) h
    rw [show x + a + -a = x by omega, show y + b + -b = y by omega, show x' + a + -a = x' by omega, show y' + b + -b = y' by omega] at this
    exact this
  · exact hH x y x' y' a b
/-- what comes in less what goes out -/
theorem flow {H : Int → Int → Nat} (hH : hInv H) (zx zy : Int) : ∀ (l : List Nat) (x y : Int), upF H l x y (H zx zy) + rtF H l x y (H zx zy) - upF H l x y (H zx (zy + 1)) - rtF H l x y (H (zx + 1) zy) = eqN (H (x + sX l) (y + sY l)) (H zx zy) - eqN (H x y) (H zx zy) := by
  intro l
  induction l with
  | nil =>
    intro x y
    simp only [upF, rtF, sX, sY, Int.add_zero]
    omega
  | cons s l ih =>
    intro x y
    have e := ih (x + dX s) (y + dY s)
    simp only [upF, rtF, sX, sY]
    rw [show x + (dX s + sX l) = x + dX s + sX l by omega, show y + (dY s + sY l) = y + dY s + sY l by omega]
    have st : upT H s x y (H zx zy) + rtT H s x y (H zx zy) - upT H s x y (H zx (zy + 1)) - rtT H s x y (H (zx + 1) zy) = eqN (H (x + dX s) (y + dY s)) (H zx zy) - eqN (H x y) (H zx zy) := by
      match s with
      | 0 =>
        have i := eqN_c (hH.iff x y zx zy 1 0)
        rw [Int.add_zero, Int.add_zero] at i
        simp only [upT, rtT, dX, dY, Int.add_zero]
        omega
      | 1 =>
        have i := eqN_c (hH.iff (x + -1) y zx zy 1 0)
        rw [Int.add_zero, Int.add_zero, show x + -1 + 1 = x by omega] at i
        simp only [upT, rtT, dX, dY, Int.add_zero]
        omega
      | 2 =>
        have i := eqN_c (hH.iff x y zx zy 0 1)
        rw [Int.add_zero, Int.add_zero] at i
        simp only [upT, rtT, dX, dY, Int.add_zero]
        omega
      | n + 3 =>
        have i := eqN_c (hH.iff x (y + -1) zx zy 0 1)
        rw [Int.add_zero, Int.add_zero, show y + -1 + 1 = y by omega] at i
        simp only [upT, rtT, dX, dY, Int.add_zero]
        omega
    omega
/-- what the way crosses of the other -/
def crT (U R : Int → Int → Int) (s : Nat) (x y : Int) : Int :=
  match s with
  | 0 => U x y
  | 1 => -U (x + -1) y
  | 2 => -R x y
  | _ => R x (y + -1)
def crF (U R : Int → Int → Int) : List Nat → Int → Int → Int
  | [], _, _ => 0
  | s :: l, x, y => crT U R s x y + crF U R l (x + dX s) (y + dY s)
def clsd (U R : Int → Int → Int) : Prop := ∀ x y : Int, U x y + R x y - U x (y + 1) - R (x + 1) y = 0
theorem cr_e1 {U R : Int → Int → Int} (hc : clsd U R) : ∀ (l : List Nat) (x y : Int), crF U R l (x + 1) y - crF U R l x y = U (x + sX l) (y + sY l) - U x y := by
  intro l
  induction l with
  | nil =>
    intro x y
    simp only [crF, sX, sY, Int.add_zero]
    omega
  | cons s l ih =>
    intro x y
    have e := ih (x + dX s) (y + dY s)
    simp only [crF, sX, sY]
    rw [show x + (dX s + sX l) = x + dX s + sX l by omega, show y + (dY s + sY l) = y + dY s + sY l by omega, show x + 1 + dX s = x + dX s + 1 by omega]
    have st : crT U R s (x + 1) y - crT U R s x y = U (x + dX s) (y + dY s) - U x y := by
      match s with
      | 0 => simp only [crT, dX, dY, Int.add_zero]
      | 1 =>
        simp only [crT, dX, dY, Int.add_zero]
        rw [show x + 1 + -1 = x by omega]
        omega
      | 2 =>
        have := hc x y
        simp only [crT, dX, dY, Int.add_zero]
        omega
      | n + 3 =>
        have := hc x (y + -1)
        rw [show y + -1 + 1 = y by omega] at this
        simp only [crT, dX, dY, Int.add_zero]
        omega
    omega
theorem cr_e2 {U R : Int → Int → Int} (hc : clsd U R) : ∀ (l : List Nat) (x y : Int), crF U R l x (y + 1) - crF U R l x y = R x y - R (x + sX l) (y + sY l) := by
  intro l
  induction l with
  | nil =>
    intro x y
    simp only [crF, sX, sY, Int.add_zero]
    omega
  | cons s l ih =>
    intro x y
    have e := ih (x + dX s) (y + dY s)
    simp only [crF, sX, sY]
    rw [show x + (dX s + sX l) = x + dX s + sX l by omega, show y + (dY s + sY l) = y + dY s + sY l by omega, show y + 1 + dY s = y + dY s + 1 by omega]
    have st : crT U R s x (y + 1) - crT U R s x y = R x y - R (x + dX s) (y + dY s) := by
      match s with
      | 0 =>
        have := hc x y
        simp only [crT, dX, dY, Int.add_zero]
        omega
      | 1 =>
        have := hc (x + -1) y
        rw [show x + -1 + 1 = x by omega] at this
        simp only [crT, dX, dY, Int.add_zero]
        omega
      | 2 =>
        simp only [crT, dX, dY, Int.add_zero]
        omega
      | n + 3 =>
        simp only [crT, dX, dY, Int.add_zero]
        rw [show y + 1 + -1 = y by omega]
    omega
theorem cr_all {U R : Int → Int → Int} (hc : clsd U R) {l : List Nat} (hU : ∀ x y, U (x + sX l) (y + sY l) = U x y) (hR : ∀ x y, R (x + sX l) (y + sY l) = R x y) (x y : Int) : crF U R l x y = crF U R l 0 0 := by
  have s1 : ∀ (n : Nat) (x y : Int), crF U R l (x + (n : Int)) y = crF U R l x y := by
    intro n
    induction n with
    | zero => intro x y; rw [show x + ((0 : Nat) : Int) = x by omega]
    | succ n ih =>
      intro x y
      have e := cr_e1 hc l (x + (n : Int)) y
      rw [hU] at e
      rw [show x + ((n + 1 : Nat) : Int) = x + (n : Int) + 1 by omega, ← ih x y]
      omega
  have s2 : ∀ (n : Nat) (x y : Int), crF U R l x (y + (n : Int)) = crF U R l x y := by
    intro n
    induction n with
    | zero => intro x y; rw [show y + ((0 : Nat) : Int) = y by omega]
    | succ n ih =>
      intro x y
      have e := cr_e2 hc l x (y + (n : Int))
      rw [hR] at e
      rw [show y + ((n + 1 : Nat) : Int) = y + (n : Int) + 1 by omega, ← ih x y]
      omega
  have a1 : crF U R l x y = crF U R l 0 y := by
    by_cases c : 0 ≤ x
    · have := s1 x.toNat 0 y
      rw [show (0 : Int) + (x.toNat : Int) = x by omega] at this
      exact this
    · have := s1 (-x).toNat x y
      rw [show x + ((-x).toNat : Int) = 0 by omega] at this
      exact this.symm
  have a2 : crF U R l 0 y = crF U R l 0 0 := by
    by_cases c : 0 ≤ y
    · have := s2 y.toNat 0 0
      rw [show (0 : Int) + (y.toNat : Int) = y by omega] at this
      exact this
    · have := s2 (-y).toNat 0 y
      rw [show y + ((-y).toNat : Int) = 0 by omega] at this
      exact this.symm
  rw [a1, a2]
def smN (f : Nat → Int) : Nat → Int
  | 0 => 0
  | n + 1 => smN f n + f n
theorem smN_add (f g : Nat → Int) (n : Nat) : smN (fun k => f k + g k) n = smN f n + smN g n := by
  induction n with
  | zero => rfl
  | succ n ih => simp only [smN]; rw [ih]; omega
theorem smN_neg (f : Nat → Int) (n : Nat) : smN (fun k => -f k) n = -smN f n := by
  induction n with
  | zero => rfl
  | succ n ih => simp only [smN]; rw [ih]; omega
theorem smN_con (c : Int) (n : Nat) : smN (fun _ => c) n = (n : Int) * c := by
  induction n with
  | zero => simp only [smN]; rw [show ((0 : Nat) : Int) = 0 from rfl, Int.zero_mul]
  | succ n ih =>
    simp only [smN]
    rw [ih, show ((n + 1 : Nat) : Int) = (n : Int) + 1 by omega, Int.add_mul, Int.one_mul]
theorem cr_sum {U R : Int → Int → Int} {N : Nat} {X Y : Nat → Int} {vx vy : Int} (hU : ∀ a b, smN (fun k => U (X k + a) (Y k + b)) N = vy) (hR : ∀ a b, smN (fun k => R (X k + a) (Y k + b)) N = vx) : ∀ (l : List Nat) (a b : Int), smN (fun k => crF U R l (X k + a) (Y k + b)) N = sX l * vy - sY l * vx := by
  intro l
  induction l with
  | nil =>
    intro a b
    simp only [crF, sX, sY]
    rw [smN_con]
    omega
  | cons s l ih =>
    intro a b
    have e := ih (a + dX s) (b + dY s)
    have st : smN (fun k => crT U R s (X k + a) (Y k + b)) N = dX s * vy - dY s * vx := by
      match s with
      | 0 =>
        simp only [crT, dX, dY]
        rw [hU]
        omega
      | 1 =>
        simp only [crT, dX, dY]
        rw [smN_neg]
        have := hU (a + -1) b
        simp only [← Int.add_assoc] at this
        omega
      | 2 =>
        simp only [crT, dX, dY]
        rw [smN_neg, hR]
        omega
      | n + 3 =>
        simp only [crT, dX, dY]
        have := hR a (b + -1)
        simp only [← Int.add_assoc] at this
        omega
    simp only [crF, sX, sY]
    rw [smN_add, st]
    simp only [Int.add_assoc]
    rw [e, Int.add_mul, Int.add_mul]
    omega
theorem smN_cg {f g : Nat → Int} : ∀ (n : Nat), (∀ k, k < n → f k = g k) → smN f n = smN g n := by
  intro n
  induction n with
  | zero => intro _; rfl
  | succ n ih =>
    intro h
    simp only [smN]
    rw [ih (fun k hk => h k (by omega)), h n (by omega)]
theorem smN_one (k0 : Nat) : ∀ n : Nat, smN (fun k => eqN k0 k) n = if k0 < n then 1 else 0 := by
  intro n
  induction n with
  | zero => rw [if_neg (by omega)]; rfl
  | succ n ih =>
    simp only [smN]
    rw [ih]
    unfold eqN
    by_cases c : k0 < n
    · rw [if_pos c, if_neg (by omega), if_pos (by omega)]; rfl
    · by_cases d : k0 = n
      · rw [if_neg c, if_pos d, if_pos (by omega)]; rfl
      · rw [if_neg c, if_neg d, if_neg (by omega)]; rfl
def hRep (H : Int → Int → Nat) (N : Nat) (X Y : Nat → Int) : Prop := (∀ k, k < N → H (X k) (Y k) = k) ∧ ∀ x y, H x y < N
theorem one_home {H : Int → Int → Nat} (hH : hInv H) {N : Nat} {X Y : Nat → Int} (hr : hRep H N X Y) (p q a b : Int) : smN (fun k => eqN (H p q) (H (X k + a) (Y k + b))) N = 1 := by
  have e : smN (fun k => eqN (H p q) (H (X k + a) (Y k + b))) N = smN (fun k => eqN (H (p - a) (q - b)) k) N := by
    refine smN_cg N (fun k hk => eqN_c ?_)
    have i := hH.iff (p - a) (q - b) (X k) (Y k) a b
    rw [show p - a + a = p by omega, show q - b + b = q by omega, hr.1 k hk] at i
    exact i
  rw [e, smN_one, if_pos (hr.2 _ _)]
theorem up_sum {H : Int → Int → Nat} (hH : hInv H) {N : Nat} {X Y : Nat → Int} (hr : hRep H N X Y) (a b : Int) : ∀ (l : List Nat) (x y : Int), smN (fun k => upF H l x y (H (X k + a) (Y k + b))) N = sY l := by
  intro l
  induction l with
  | nil =>
    intro x y
    simp only [upF, sY]
    rw [smN_con]
    omega
  | cons s l ih =>
    intro x y
    have e := ih (x + dX s) (y + dY s)
    simp only [upF, sY]
    rw [smN_add, e]
    have st : smN (fun k => upT H s x y (H (X k + a) (Y k + b))) N = dY s := by
      match s with
      | 0 => simp only [upT, dY]; rw [smN_con]; omega
      | 1 => simp only [upT, dY]; rw [smN_con]; omega
      | 2 => simp only [upT, dY]; rw [one_home hH hr]
      | n + 3 => simp only [upT, dY]; rw [smN_neg, one_home hH hr]
    rw [st]
theorem rt_sum {H : Int → Int → Nat} (hH : hInv H) {N : Nat} {X Y : Nat → Int} (hr : hRep H N X Y) (a b : Int) : ∀ (l : List Nat) (x y : Int), smN (fun k => rtF H l x y (H (X k + a) (Y k + b))) N = sX l := by
  intro l
  induction l with
  | nil =>
    intro x y
    simp only [rtF, sX]
    rw [smN_con]
    omega
  | cons s l ih =>
    intro x y
    have e := ih (x + dX s) (y + dY s)
    simp only [rtF, sX]
    rw [smN_add, e]
    have st : smN (fun k => rtT H s x y (H (X k + a) (Y k + b))) N = dX s := by
      match s with
      | 0 => simp only [rtT, dX]; rw [one_home hH hr]
      | 1 => simp only [rtT, dX]; rw [smN_neg, one_home hH hr]
      | n + 2 => simp only [rtT, dX]; rw [smN_con]; omega
    rw [st]
def allW (P : Int → Int → Prop) : List Nat → Int → Int → Prop
  | [], x, y => P x y
  | s :: l, x, y => P x y ∧ allW P l (x + dX s) (y + dY s)
theorem allW.hd {P : Int → Int → Prop} {l : List Nat} {x y : Int} (h : allW P l x y) : P x y := by
  cases l with
  | nil => exact h
  | cons s l => exact h.1
theorem allW.mono {P Q : Int → Int → Prop} (hi : ∀ x y, P x y → Q x y) : ∀ (l : List Nat) (x y : Int), allW P l x y → allW Q l x y := by
  intro l
  induction l with
  | nil => intro x y h; exact hi x y h
  | cons s l ih => intro x y h; exact ⟨hi x y h.1, ih _ _ h.2⟩
theorem eqN_0 {a b : Nat} (h : a ≠ b) : eqN a b = 0 := by
  unfold eqN
  rw [if_neg h]
theorem up_zero {H : Int → Int → Nat} {m : Nat} : ∀ (l : List Nat) (x y : Int), allW (fun x y => H x y ≠ m) l x y → upF H l x y m = 0 ∧ rtF H l x y m = 0 := by
  intro l
  induction l with
  | nil => intro x y _; exact ⟨rfl, rfl⟩
  | cons s l ih =>
    intro x y h
    obtain ⟨e1, e2⟩ := ih _ _ h.2
    have h0 : eqN (H x y) m = 0 := eqN_0 h.1
    have h1 : eqN (H (x + dX s) (y + dY s)) m = 0 := eqN_0 h.2.hd
    simp only [upF, rtF]
    rw [e1, e2]
    match s with
    | 0 =>
      simp only [dX, dY, Int.add_zero] at h1
      simp only [upT, rtT]
      omega
    | 1 =>
      simp only [upT, rtT]
      omega
    | 2 =>
      simp only [dX, dY, Int.add_zero] at h1
      simp only [upT, rtT]
      omega
    | n + 3 =>
      simp only [upT, rtT]
      omega
theorem cr_zero {U R : Int → Int → Int} : ∀ (l : List Nat) (x y : Int), allW (fun x y => U x y = 0 ∧ R x y = 0) l x y → crF U R l x y = 0 := by
  intro l
  induction l with
  | nil => intro x y _; rfl
  | cons s l ih =>
    intro x y h
    have e := ih _ _ h.2
    have h0 := h.1
    have h1 := h.2.hd
    simp only [crF]
    rw [e]
    match s with
    | 0 => simp only [crT]; omega
    | 1 =>
      simp only [dX, dY, Int.add_zero] at h1
      simp only [crT]; omega
    | 2 => simp only [crT]; omega
    | n + 3 =>
      simp only [dX, dY, Int.add_zero] at h1
      simp only [crT]; omega
/-- two closed ways with no home in common lie along one line -/
theorem two_ways {H : Int → Int → Nat} (hH : hInv H) {N : Nat} {X Y : Nat → Int} (hr : hRep H N X Y) {P Q : List Nat} {px py qx qy : Int} (hP : H (px + sX P) (py + sY P) = H px py) (hQ : H (qx + sX Q) (qy + sY Q) = H qx qy) (hd : allW (fun x y => allW (fun x' y' => H x' y' ≠ H x y) Q qx qy) P px py) : sX P * sY Q = sY P * sX Q := by
  have per : ∀ x y, H (x + sX P) (y + sY P) = H x y := by
    intro x y
    have := hH _ _ _ _ (x - px) (y - py) hP
    rw [show px + sX P + (x - px) = x + sX P by omega, show py + sY P + (y - py) = y + sY P by omega, show px + (x - px) = x by omega, show py + (y - py) = y by omega] at this
    exact this
  have hc : clsd (fun x y => upF H Q qx qy (H x y)) (fun x y => rtF H Q qx qy (H x y)) := by
    intro x y
    have e := flow hH x y Q qx qy
    rw [hQ] at e
    show upF H Q qx qy (H x y) + rtF H Q qx qy (H x y) - upF H Q qx qy (H x (y + 1)) - rtF H Q qx qy (H (x + 1) y) = 0
    omega
  have al := cr_all hc (l := P) (fun x y => by show upF H Q qx qy (H (x + sX P) (y + sY P)) = _; rw [per]) (fun x y => by show rtF H Q qx qy (H (x + sX P) (y + sY P)) = _; rw [per])
  have z := cr_zero (U := fun x y => upF H Q qx qy (H x y)) (R := fun x y => rtF H Q qx qy (H x y)) P px py (allW.mono (fun x y h => up_zero Q qx qy h) P px py hd)
  rw [al] at z
  have s := cr_sum (U := fun x y => upF H Q qx qy (H x y)) (R := fun x y => rtF H Q qx qy (H x y)) (N := N) (X := X) (Y := Y) (vx := sX Q) (vy := sY Q) (fun a b => up_sum hH hr a b Q qx qy) (fun a b => rt_sum hH hr a b Q qx qy) P 0 0
  rw [smN_cg (g := fun _ => (0 : Int)) N (fun k _ => by rw [al, z]), smN_con] at s
  omega
