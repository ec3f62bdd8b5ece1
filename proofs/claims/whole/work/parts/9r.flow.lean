/-! two closed ways with no home in common lie along one line: pure. -/
abbrev PX := Int × Int
def dX : Nat → Int
  | 0 => 1
  | 1 => -1
  | _ => 0
def dY : Nat → Int
  | 0 => 0
  | 1 => 0
  | 2 => 1
  | _ => -1
def eqN (a b : Nat) : Int := if a = b then 1 else 0
def upT (H : Int → Int → Nat) (s : Nat) (x y : Int) (m : Nat) : Int :=
  match s with
  | 0 => 0
  | 1 => 0
  | 2 => eqN (H x (y + 1)) (m)
  | _ => -eqN (H x y) (m)
def rtT (H : Int → Int → Nat) (s : Nat) (x y : Int) (m : Nat) : Int :=
  match s with
  | 0 => eqN (H (x + 1) y) (m)
  | 1 => -eqN (H x y) (m)
  | _ => 0
def upF (H : Int → Int → Nat) : List Nat → Int → Int → Nat → Int
  | [], _, _, _ => 0
  | s :: l, x, y, m => upT H s x y m + upF H l (x + dX s) (y + dY s) m
def rtF (H : Int → Int → Nat) : List Nat → Int → Int → Nat → Int
  | [], _, _, _ => 0
  | s :: l, x, y, m => rtT H s x y m + rtF H l (x + dX s) (y + dY s) m
def sX : List Nat → Int
  | [] => 0
  | s :: l => dX s + sX l
def sY : List Nat → Int
  | [] => 0
  | s :: l => dY s + sY l
def hInv (H : Int → Int → Nat) : Prop := ∀ x y x' y' a b : Int, H x y = H x' y' → H (x + a) (y + b) = H (x' + a) (y' + b)
theorem eqN_c {a b c d : Nat} (h : a = b ↔ c = d) : eqN a b = eqN c d := by
  unfold eqN
  by_cases p : a = b
  · rw [if_pos p, if_pos (h.mp p)]
  · rw [if_neg p, if_neg (fun q => p (h.mpr q))]
theorem hInv.iff {H : Int → Int → Nat} (hH : hInv H) (x y x' y' a b : Int) : H (x + a) (y + b) = H (x' + a) (y' + b) ↔ H x y = H x' y' := by
  constructor
  · intro h
    have := hH _ _ _ _ (-a) (-b) h
    rw [show x + a + -a = x by omega, show y + b + -b = y by omega, show x' + a + -a = x' by omega, show y' + b + -b = y' by omega] at this
    exact this
  · exact hH x y x' y' a b
/-- what comes in less what goes out -/
theorem flow {H : Int → Int → Nat} (hH : hInv H) (zx zy : Int) : ∀ (l : List Nat) (x y : Int), upF H l x y (H zx zy) + rtF H l x y (H zx zy) - upF H l x y (H zx (zy + 1)) - rtF H l x y (H (zx + 1) zy) = eqN (H (x + sX l) (y + sY l)) (H zx zy) - eqN (H x y) (H zx zy) := by
  intro l
  induction l with
  | nil =>
    intro x y
    simp only [upF, rtF, sX, sY, Int.add_zero]
    omega
  | cons s l ih =>
    intro x y
    have e := ih (x + dX s) (y + dY s)
    simp only [upF, rtF, sX, sY]
    rw [show x + (dX s + sX l) = x + dX s + sX l by omega, show y + (dY s + sY l) = y + dY s + sY l by omega]
    have st : upT H s x y (H zx zy) + rtT H s x y (H zx zy) - upT H s x y (H zx (zy + 1)) - rtT H s x y (H (zx + 1) zy) = eqN (H (x + dX s) (y + dY s)) (H zx zy) - eqN (H x y) (H zx zy) := by
      match s with
      | 0 =>
        have i := eqN_c (hH.iff x y zx zy 1 0)
        rw [Int.add_zero, Int.add_zero] at i
        simp only [upT, rtT, dX, dY, Int.add_zero]
        omega
      | 1 =>
        have i := eqN_c (hH.iff (x + -1) y zx zy 1 0)
        rw [Int.add_zero, Int.add_zero, show x + -1 + 1 = x by omega] at i
        simp only [upT, rtT, dX, dY, Int.add_zero]
        omega
      | 2 =>
        have i := eqN_c (hH.iff x y zx zy 0 1)
        rw [Int.add_zero, Int.add_zero] at i
        simp only [upT, rtT, dX, dY, Int.add_zero]
        omega
      | n + 3 =>
        have i := eqN_c (hH.iff x (y + -1) zx zy 0 1)
        rw [Int.add_zero, Int.add_zero, show y + -1 + 1 = y by omega] at i
        simp only [upT, rtT, dX, dY, Int.add_zero]
        omega
    omega
/-- what the way crosses of the other -/
def crT (U R : Int → Int → Int) (s : Nat) (x y : Int) : Int :=
  match s with
  | 0 => U x y
  | 1 => -U (x + -1) y
  | 2 => -R x y
  | _ => R x (y + -1)
def crF (U R : Int → Int → Int) : List Nat → Int → Int → Int
  | [], _, _ => 0
  | s :: l, x, y => crT U R s x y + crF U R l (x + dX s) (y + dY s)
def clsd (U R : Int → Int → Int) : Prop := ∀ x y : Int, U x y + R x y - U x (y + 1) - R (x + 1) y = 0
theorem cr_e1 {U R : Int → Int → Int} (hc : clsd U R) : ∀ (l : List Nat) (x y : Int), crF U R l (x + 1) y - crF U R l x y = U (x + sX l) (y + sY l) - U x y := by
  intro l
  induction l with
  | nil =>
    intro x y
    simp only [crF, sX, sY, Int.add_zero]
    omega
  | cons s l ih =>
    intro x y
    have e := ih (x + dX s) (y + dY s)
    simp only [crF, sX, sY]
    rw [show x + (dX s + sX l) = x + dX s + sX l by omega, show y + (dY s + sY l) = y + dY s + sY l by omega, show x + 1 + dX s = x + dX s + 1 by omega]
    have st : crT U R s (x + 1) y - crT U R s x y = U (x + dX s) (y + dY s) - U x y := by
      match s with
      | 0 => simp only [crT, dX, dY, Int.add_zero]
      | 1 =>
        simp only [crT, dX, dY, Int.add_zero]
        rw [show x + 1 + -1 = x by omega]
        omega
      | 2 =>
        have := hc x y
        simp only [crT, dX, dY, Int.add_zero]
        omega
      | n + 3 =>
        have := hc x (y + -1)
        rw [show y + -1 + 1 = y by omega] at this
        simp only [crT, dX, dY, Int.add_zero]
        omega
    omega
theorem cr_e2 {U R : Int → Int → Int} (hc : clsd U R) : ∀ (l : List Nat) (x y : Int), crF U R l x (y + 1) - crF U R l x y = R x y - R (x + sX l) (y + sY l) := by
  intro l
  induction l with
  | nil =>
    intro x y
    simp only [crF, sX, sY, Int.add_zero]
    omega
  | cons s l ih =>
    intro x y
    have e := ih (x + dX s) (y + dY s)
    simp only [crF, sX, sY]
    rw [show x + (dX s + sX l) = x + dX s + sX l by omega, show y + (dY s + sY l) = y + dY s + sY l by omega, show y + 1 + dY s = y + dY s + 1 by omega]
    have st : crT U R s x (y + 1) - crT U R s x y = R x y - R (x + dX s) (y + dY s) := by
      match s with
      | 0 =>
        have := hc x y
        simp only [crT, dX, dY, Int.add_zero]
        omega
      | 1 =>
        have := hc (x + -1) y
        rw [show x + -1 + 1 = x by omega] at this
        simp only [crT, dX, dY, Int.add_zero]
        omega
      | 2 =>
        simp only [crT, dX, dY, Int.add_zero]
        omega
      | n + 3 =>
        simp only [crT, dX, dY, Int.add_zero]
        rw [show y + 1 + -1 = y by omega]
    omega
