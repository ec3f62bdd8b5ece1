/-! RUNS WITHOUT FUEL, and the memory as numbers by place. -/
def px_rn (md pc : Nat) (L st : List Value) (g : px_G) (x : Option Value × px_G) : Prop := ∃ n, px_run px_rw n md pc L st g = some x
theorem px_run_mono : ∀ (n md pc : Nat) (L st : List Value) (g : px_G) (x : Option Value × px_G), px_run px_rw n md pc L st g = some x → ∀ k, px_run px_rw (n + k) md pc L st g = some x := by
  intro n
  induction n with
  | zero => intro md pc L st g x h; cases h
  | succ n ih =>
    intro md pc L st g x h k
    rw [show n + 1 + k = (n + k) + 1 by omega]
    unfold px_run at h ⊢
    split at h
    · cases h
    · exact ih _ _ _ _ _ _ h k
    · exact h
    · split at h
      · rename_i hl
        rw [if_pos hl]
        split at h
        · cases h
        · rename_i h1
          rw [ih _ _ _ _ _ _ h1 k]
          exact ih _ _ _ _ _ _ h k
      · cases h
theorem px_run_two {n m md pc : Nat} {L st : List Value} {g : px_G} {x y : Option Value × px_G} (h1 : px_run px_rw n md pc L st g = some x) (h2 : px_run px_rw m md pc L st g = some y) : x = y := by
  have a := px_run_mono _ _ _ _ _ _ _ h1 m
  have b := px_run_mono _ _ _ _ _ _ _ h2 n
  rw [Nat.add_comm m n] at b
  exact Option.some.inj (a.symm.trans b)
noncomputable def rn (md pc : Nat) (L st : List Value) (g : px_G) : Option (Option Value × px_G) := @dite _ (∃ x, px_rn md pc L st g x) (Classical.propDecidable _) (fun h => some (Classical.choose h)) (fun _ => none)
theorem rn_of {md pc : Nat} {L st : List Value} {g : px_G} {x : Option Value × px_G} (h : px_rn md pc L st g x) : rn md pc L st g = some x := by
  have h0 : ∃ x, px_rn md pc L st g x := ⟨x, h⟩
  unfold rn
  rw [dif_pos h0]
  obtain ⟨n, h1⟩ := h
  obtain ⟨m, h2⟩ := Classical.choose_spec h0
  exact congrArg some (px_run_two h2 h1)
theorem rn_to {md pc : Nat} {L st : List Value} {g : px_G} {x : Option Value × px_G} (h : rn md pc L st g = some x) : px_rn md pc L st g x := by
  unfold rn at h
  split at h
  · rename_i h0
    cases h
    exact Classical.choose_spec h0
  · cases h
theorem rn_ext {md pc md' pc' : Nat} {L st L' st' : List Value} {g g' : px_G} (h : ∀ x, px_rn md pc L st g x ↔ px_rn md' pc' L' st' g' x) : rn md pc L st g = rn md' pc' L' st' g' := by
  cases h1 : rn md' pc' L' st' g' with
  | some x => exact rn_of ((h x).mpr (rn_to h1))
  | none =>
    cases h2 : rn md pc L st g with
    | none => rfl
    | some y => rw [rn_of ((h y).mp (rn_to h2))] at h1; cases h1
theorem rn_one {md pc i : Nat} {L st : List Value} {g : px_G} {ig : Instr} (hd : decode (px_rw md).2.1 pc = .ok (ig, i)) : px_one px_rw md pc L st g = px_ex px_rw md ig i pc L st g := by
  unfold px_one; rw [hd]
theorem rn_next {md pc pc' len : Nat} {i : Instr} {L L' st st' : List Value} {g g' : px_G} (hd : decode (px_rw md).2.1 pc = .ok (i, len)) (h : px_ex px_rw md i len pc L st g = some (.inl (pc', L', st', g'))) : rn md pc L st g = rn md pc' L' st' g' := by
  refine rn_ext fun x => ⟨fun ⟨n, hn⟩ => ?_, fun ⟨n, hn⟩ => ⟨n + 1, ?_⟩⟩
  · cases n with
    | zero => cases hn
    | succ n =>
      unfold px_run at hn
      rw [rn_one hd, h] at hn
      exact ⟨n, hn⟩
  · unfold px_run
    rw [rn_one hd, h]
    exact hn
theorem rn_ret {md pc len : Nat} {i : Instr} {L st : List Value} {g : px_G} {r : Option Value} (hd : decode (px_rw md).2.1 pc = .ok (i, len)) (h : px_ex px_rw md i len pc L st g = some (.inr (.inl r))) : rn md pc L st g = some (r, g) := by
  refine rn_of ⟨1, ?_⟩
  unfold px_run
  rw [rn_one hd, h]
/-- a method called -/
noncomputable def cl (md : Nat) (args : List Value) (g : px_G) : Option (Option Value × px_G) := rn md 0 (px_ent (px_rw md).2.2.1 args) [] g
def bd (o : Option (Option Value × px_G)) (f : Option Value → px_G → Option (Option Value × px_G)) : Option (Option Value × px_G) := match o with
  | none => none
  | some x => f x.1 x.2
theorem bd_some (r : Option Value) (g : px_G) (f : Option Value → px_G → Option (Option Value × px_G)) : bd (some (r, g)) f = f r g := rfl
theorem bd_none (f : Option Value → px_G → Option (Option Value × px_G)) : bd none f = none := rfl
theorem rn_call {md pc len me : Nat} {i : Instr} {L st vs rest : List Value} {g : px_G} (hd : decode (px_rw md).2.1 pc = .ok (i, len)) (h : px_ex px_rw md i len pc L st g = some (.inr (.inr (me, vs, rest)))) (hl : (px_e0 vs).length ≤ (px_rw me).2.2.1) :
    rn md pc L st g = bd (cl me vs g) (fun r g' => rn md (pc + 3) L (r.toList ++ rest) g') := by
  cases h1 : cl me vs g with
  | some y =>
    obtain ⟨r, g'⟩ := y
    obtain ⟨n1, hn1⟩ := rn_to h1
    rw [bd_some]
    refine rn_ext fun x => ⟨fun ⟨n, hn⟩ => ?_, fun ⟨n, hn⟩ => ⟨n1 + n + 1, ?_⟩⟩
    · cases n with
      | zero => cases hn
      | succ n =>
        unfold px_run at hn
        rw [rn_one hd, h] at hn
        simp only [if_pos hl] at hn
        split at hn
        · cases hn
        · rename_i r2 g2 h2
          have e := px_run_two h2 hn1
          cases e
          exact ⟨n, hn⟩
    · unfold px_run
      rw [rn_one hd, h]
      simp only [if_pos hl]
      rw [px_run_mono _ _ _ _ _ _ _ hn1 n]
      have := px_run_mono _ _ _ _ _ _ _ hn n1
      rw [Nat.add_comm n n1] at this
      exact this
  | none =>
    rw [bd_none]
    cases h2 : rn md pc L st g with
    | none => rfl
    | some y =>
      obtain ⟨n, hn⟩ := rn_to h2
      cases n with
      | zero => cases hn
      | succ n =>
        unfold px_run at hn
        rw [rn_one hd, h] at hn
        simp only [if_pos hl] at hn
        split at hn
        · cases hn
        · rename_i r2 g2 h3
          have e : cl me vs g = some (r2, g2) := rn_of ⟨n, h3⟩
          rw [e] at h1; cases h1
/-! the memory behind the constructors: ints and longs by place and slot, the inks' places, how long the script is -/
abbrev TS : Type := (Nat → Nat → Int32) × (Nat → Nat → Int64) × (Nat → Nat) × Nat
def shL : List (Nat × Nat) := [(109, 13), (108, 2), (0, 160), (105, 7), (0, 32), (3, 4), (0, 3), (103, 11), (0, 144), (0, 144), (0, 144), (0, 144), (102, 3), (106, 8), (100, 7), (101, 14), (0, 20), (0, 20), (1, 400), (1, 400), (107, 4), (107, 4), (100, 7), (0, 3), (107, 4), (104, 18), (107, 4), (102, 3), (0, 144), (0, 144), (0, 144), (0, 145), (104, 18), (107, 4), (102, 3), (0, 144), (0, 144), (0, 144), (0, 145), (104, 18), (107, 4), (102, 3), (0, 144), (0, 144), (0, 144), (0, 145), (104, 18), (107, 4), (102, 3), (0, 144), (0, 144), (0, 144), (0, 145), (110, 52), (0, 160), (0, 32), (0, 32), (0, 3), (0, 144), (0, 144), (0, 144), (0, 144), (0, 144), (0, 144), (2, 144), (0, 144), (0, 1000), (0, 16), (0, 156), (0, 156), (0, 3), (0, 3), (1, 1)]
def rfL : List (List Nat) := [[1, 3, 5, 0, 6, 7, 12, 13, 14, 15, 24, 0, 0], [2, 0], [], [4, 1, 0, 0, 0, 0, 0], [], [], [], [8, 9, 10, 11, 0, 0, 0, 0, 0, 0, 0], [], [], [], [], [0, 0, 0], [0, 0, 0, 0, 0, 0, 0, 0], [0, 0, 0, 0, 0, 0, 0], [16, 17, 0, 18, 19, 20, 21, 22, 23, 0, 0, 0, 0, 0], [], [], [], [], [0, 0, 0, 0], [0, 0, 0, 0], [0, 0, 0, 0, 0, 0, 0], [], [0, 0, 0, 0], [26, 27, 0, 0, 0, 0, 0, 28, 29, 30, 31, 0, 0, 0, 0, 0, 0, 0], [0, 0, 0, 0], [0, 0, 0], [], [], [], [], [33, 34, 0, 0, 0, 0, 0, 35, 36, 37, 38, 0, 0, 0, 0, 0, 0, 0], [0, 0, 0, 0], [0, 0, 0], [], [], [], [], [40, 41, 0, 0, 0, 0, 0, 42, 43, 44, 45, 0, 0, 0, 0, 0, 0, 0], [0, 0, 0, 0], [0, 0, 0], [], [], [], [], [47, 48, 0, 0, 0, 0, 0, 49, 50, 51, 52, 0, 0, 0, 0, 0, 0, 0], [0, 0, 0, 0], [0, 0, 0], [], [], [], [], [0, 54, 0, 0, 0, 55, 56, 57, 0, 0, 0, 0, 0, 0, 0, 0, 0, 0, 0, 0, 58, 59, 60, 61, 62, 63, 64, 65, 0, 0, 0, 0, 0, 0, 0, 0, 0, 0, 0, 0, 66, 67, 68, 69, 0, 0, 0, 0, 0, 70, 0, 71], [], [], [], [], [], [], [], [], [], [], [], [], [], [], [], [], [], [], []]
def sh (p : Nat) : Nat × Nat := shL.getD p (1099, 0)
def rf (p k : Nat) : Nat := (rfL.getD p []).getD k 0
def stX : Nat → Int32 := fun j => if j = 0 then 1 else if j = 1 then -1 else 0
def stY : Nat → Int32 := fun j => if j = 2 then 1 else if j = 3 then -1 else 0
def fv (T : TS) (p ci k : Nat) : Value := match px_ty ci k with
  | .int => .int (T.1 p k)
  | .boolean => .int (T.1 p k)
  | .long => .long (T.2.1 p k)
  | _ => .ref (rf p k)
def mkc (T : TS) (p : Nat) (s : Nat × Nat) : va_E :=
  if s.1 = 0 then .inl (0, s.2, .inl (T.1 p)) else if s.1 = 1 then .inl (1, s.2, .inr (.inl (T.2.1 p))) else if s.1 = 2 then .inl (2, s.2, .inl (T.1 p))
  else if s.1 = 3 then .inl (3, s.2, .inr (.inr (.inr (.inr (fun j => some (T.2.2.1 j)))))) else .inr (s.1 - 100, (List.range s.2).map (fv T p (s.1 - 100)))
def enc (T : TS) : px_G := (73, fun p => if p = 1000 then .inl (9, 4, .inl stX) else if p = 1001 then .inl (9, 4, .inl stY) else if p = 1002 then .inl (9, T.2.2.2, .inl (T.1 1002)) else mkc T p (sh p))
def sI (T : TS) (p k : Nat) (x : Int32) : TS := (fun q j => if q = p ∧ j = k then x else T.1 q j, T.2)
def sJ (T : TS) (p k : Nat) (x : Int64) : TS := (T.1, fun q j => if q = p ∧ j = k then x else T.2.1 q j, T.2.2)
def sR (T : TS) (k : Nat) (x : Nat) : TS := (T.1, T.2.1, fun j => if j = k then x else T.2.2.1 j, T.2.2.2)
