/-! the start: what the constructors make. -/
def dsc : va_E → Bool × Nat × Nat × List Value
  | .inr (ci, fs) => (true, ci, fs.length, fs)
  | .inl (t, n, .inl f) => (false, t, n, (List.range n).map (fun j => .int (f j)))
  | .inl (t, n, .inr (.inl f)) => (false, t, n, (List.range n).map (fun j => .long (f j)))
  | .inl (t, n, .inr (.inr (.inl f))) => (false, t, n, (List.range n).map (fun j => .float (f j)))
  | .inl (t, n, .inr (.inr (.inr (.inl f)))) => (false, t, n, (List.range n).map (fun j => .double (f j)))
  | .inl (t, n, .inr (.inr (.inr (.inr f)))) => (false, t, n, (List.range n).map (fun j => va_rf (f j)))
theorem arrV_cg {cI : ClassId} {N : Nat} {f g : Nat → Value} (h : ∀ j, j < N → f j = g j) : arrV cI N f = arrV cI N g := by
  unfold arrV
  congr 1
  apply Array.ext
  · simp
  · intro i h1 h2
    simp only [Array.getElem_ofFn]
    exact h i (by simpa using h1)
theorem map_rg {f g : Nat → Value} {n : Nat} (h : (List.range n).map f = (List.range n).map g) {j : Nat} (hj : j < n) : f j = g j := by
  have := congrArg (fun l => l[j]?) h
  simpa [hj] using this
/-- an array's cell by what dsc tells -/
theorem cell_dsc {ad : Nat → Nat} {dA : Nat → ClassId} (t n : Nat) (a : (Nat → Int32) ⊕ (Nat → Int64) ⊕ (Nat → UInt32) ⊕ (Nat → UInt64) ⊕ (Nat → Option Nat)) : ∃ (b : vp_A), px_tr ad dA (.inl (t, n, a)) = .inl (dA t, b) ∧ vp_cell (dA t) b = arrV (dA t) n (fun j => px_v ad ((dsc (.inl (t, n, a))).2.2.2.getD j .null)) := by
  rcases a with f | f | f | f | f
  · refine ⟨(n, .inl f), rfl, ?_⟩
    rw [vp_cell_i]
    refine arrV_cg (fun j hj => ?_)
    simp [dsc, hj, px_v]
  · refine ⟨(n, .inr (.inl f)), rfl, ?_⟩
    rw [vp_cell_l]
    refine arrV_cg (fun j hj => ?_)
    simp [dsc, hj, px_v]
  · refine ⟨(n, .inr (.inr (.inl f))), rfl, ?_⟩
    rw [vp_cell_f]
    refine arrV_cg (fun j hj => ?_)
    simp [dsc, hj, px_v]
  · refine ⟨(n, .inr (.inr (.inr (.inl f)))), rfl, ?_⟩
    rw [vp_cell_d]
    refine arrV_cg (fun j hj => ?_)
    simp [dsc, hj, px_v]
  · refine ⟨(n, .inr (.inr (.inr (.inr (fun j => (f j).map ad))))), rfl, ?_⟩
    rw [vp_cell_q]
    refine arrV_cg (fun j hj => ?_)
    simp only [dsc]
    rw [List.getD, List.getElem?_map, List.getElem?_range hj]
    cases hf : f j with
    | none => simp [va_rf, hf, px_v]
    | some q => simp [va_rf, hf, px_v]
theorem at_dsc {D : va_G} {cl : List vw_C} {H : Heap} {ad : Nat → Nat} {dA : Nat → ClassId} {k : Nat} {e e' : va_E} (h : dsc e = dsc e') (ha : va_at D cl (k, px_tr ad dA e) H) : va_at D cl (k, px_tr ad dA e') H := by
  rcases e with ⟨t, n, a⟩ | ⟨ci, fs⟩
  · rcases e' with ⟨t', n', a'⟩ | ⟨ci', fs'⟩
    · obtain ⟨b, h1, h2⟩ := cell_dsc (ad := ad) (dA := dA) t n a
      obtain ⟨b', h1', h2'⟩ := cell_dsc (ad := ad) (dA := dA) t' n' a'
      rw [h1] at ha
      rw [h1']
      have ht : t = t' ∧ n = n' := by
        have e1 : (dsc (.inl (t, n, a))).2.1 = t ∧ (dsc (.inl (t, n, a))).2.2.1 = n := by rcases a with f | f | f | f | f <;> exact ⟨rfl, rfl⟩
        have e2 : (dsc (.inl (t', n', a'))).2.1 = t' ∧ (dsc (.inl (t', n', a'))).2.2.1 = n' := by rcases a' with f | f | f | f | f <;> exact ⟨rfl, rfl⟩
        rw [h] at e1
        exact ⟨e1.1.symm.trans e2.1, e1.2.symm.trans e2.2⟩
      have ha' : H[k]? = some (vp_cell (dA t) b) := ha
      show H[k]? = some (vp_cell (dA t') b')
      rw [ha', h2, h2', h, ht.1, ht.2]
    · exfalso
      have e1 : (dsc (.inl (t, n, a))).1 = false := by rcases a with f | f | f | f | f <;> rfl
      rw [h] at e1
      cases e1
  · rcases e' with ⟨t', n', a'⟩ | ⟨ci', fs'⟩
    · exfalso
      have e1 : (dsc (.inl (t', n', a'))).1 = false := by rcases a' with f | f | f | f | f <;> rfl
      rw [← h] at e1
      cases e1
    · have h1 : ci = ci' := congrArg (fun z => z.2.1) h
      have h2 : fs = fs' := congrArg (fun z => z.2.2.2) h
      rw [← h1, ← h2]
      exact ha
/-- the numbers at the start -/
def ini (p k : Nat) : Int32 := if (p = 25 ∨ p = 32 ∨ p = 39 ∨ p = 46) ∧ k = 2 then 1 else if (p = 20 ∨ p = 21 ∨ p = 24 ∨ p = 26 ∨ p = 33 ∨ p = 40 ∨ p = 47) ∧ (k = 0 ∨ k = 3) then 1 else 0
def inj (p k : Nat) : Int64 := if (p = 12 ∨ p = 27 ∨ p = 34 ∨ p = 41 ∨ p = 48) ∧ (k = 0 ∨ k = 1) then 1 else 0
def T0 (xs : Nat → Int32) (Ln : Nat) : TS := (fun p k => if p = 1002 then xs k else ini p k, inj, fun j => 25 + 7 * j, Ln)
def T00 : TS := T0 (fun _ => 0) 0
def obN (ci : Nat) : va_E := .inr (ci, (List.range (px_N ci)).map (fun k => defaultValue (px_ty ci k)))
def g00 : px_G := (0, fun p => if p = 1000 then .inl (9, 4, .inl stX) else if p = 1001 then .inl (9, 4, .inl stY) else .inr (999, []))
def g01 : px_G := px_new g00 (obN 9)
def r02 : Option (Option Value × px_G) := px_run px_rw 1000 k_Ds_init 0 (px_ent (px_rw k_Ds_init).2.2.1 [.ref 0]) [] g01
def g02 : px_G := (r02.getD (none, g00)).2
def g03 : px_G := px_new g02 (obN 10)
def r04 : Option (Option Value × px_G) := px_run px_rw 1000 k_Dm_init 0 (px_ent (px_rw k_Dm_init).2.2.1 [.ref 53]) [] g03
def g04 : px_G := (r04.getD (none, g00)).2
def g05 : px_G := px_new g04 (.inl (1, 1, .inr (.inl (fun _ => 0))))
set_option maxRecDepth 100000 in
theorem ck_2 : r02.map (fun x => (x.1, x.2.1)) = some (none, 53) := by decide +kernel
set_option maxRecDepth 100000 in
theorem ck_4 : r04.map (fun x => (x.1, x.2.1)) = some (none, 72) := by decide +kernel
set_option maxRecDepth 100000 in
theorem ck_5 : (List.range 73).map (fun p => dsc (g05.2 p)) = (List.range 73).map (fun p => dsc ((enc T00).2 p)) := by decide +kernel
theorem run_2 : r02 = some (none, g02) ∧ g02.1 = 53 := by
  have h := ck_2
  cases hr : r02 with
  | none => rw [hr] at h; cases h
  | some x =>
    rw [hr] at h
    have h1 : (x.1, x.2.1) = ((none : Option Value), 53) := Option.some.inj h
    have e : g02 = x.2 := by unfold g02; rw [hr]; rfl
    have e1 : x.1 = none := congrArg Prod.fst h1
    have e2 : x.2.1 = 53 := congrArg Prod.snd h1
    rw [e]
    exact ⟨by rw [← e1], e2⟩
theorem run_4 : r04 = some (none, g04) ∧ g04.1 = 72 := by
  have h := ck_4
  cases hr : r04 with
  | none => rw [hr] at h; cases h
  | some x =>
    rw [hr] at h
    have h1 : (x.1, x.2.1) = ((none : Option Value), 72) := Option.some.inj h
    have e : g04 = x.2 := by unfold g04; rw [hr]; rfl
    have e1 : x.1 = none := congrArg Prod.fst h1
    have e2 : x.2.1 = 72 := congrArg Prod.snd h1
    rw [e]
    exact ⟨by rw [← e1], e2⟩
theorem ck_at {p : Nat} (hp : p < 73) (xs : Nat → Int32) (Ln : Nat) : dsc (g05.2 p) = dsc ((enc (T0 xs Ln)).2 p) := by
  have h := congrArg (fun l => l[p]?) ck_5
  have h1 : dsc (g05.2 p) = dsc ((enc T00).2 p) := by simpa [hp] using h
  have e : (enc (T0 xs Ln)).2 p = (enc T00).2 p := by
    show (if p = 1000 then _ else if p = 1001 then _ else if p = 1002 then Sum.inl (9, (T0 xs Ln).2.2.2, Sum.inl ((T0 xs Ln).1 1002)) else mkc (T0 xs Ln) p (sh p)) = (if p = 1000 then _ else if p = 1001 then _ else if p = 1002 then Sum.inl (9, T00.2.2.2, Sum.inl (T00.1 1002)) else mkc T00 p (sh p))
    rw [if_neg (by omega), if_neg (by omega), if_neg (by omega), if_neg (by omega), if_neg (by omega), if_neg (by omega)]
    refine mkc_congr _ ?_ rfl rfl
    funext k
    show (if p = 1002 then xs k else ini p k) = (if p = 1002 then (0 : Int32) else ini p k)
    rw [if_neg (by omega), if_neg (by omega)]
  rw [e]
  exact h1
theorem g05_1 : g05.1 = 73 := by
  show g04.1 + 1 = 73
  rw [run_4.2]
/-- the world as the constructors leave it, in the words of the calls -/
theorem inv_start {ad : Nat → Nat} {base : Nat} {dC : Nat → ClassId} {dI : Nat → Nat → Nat} {dA : Nat → ClassId} {ex : Bool} {s : State} {H : Heap} {locs : List Loc} {xs : Nat → Int32} {Ln : Nat} (hR0 : va_T .int (ad 1000) 4 (fun j => .int (stX j)) (fun q => base ≤ q) s s.heap) (hR1 : va_T .int (ad 1001) 4 (fun j => .int (stY j)) (fun q => base ≤ q) s s.heap) (hR2 : va_T .int (ad 1002) Ln (fun j => .int (xs j)) (fun q => base ≤ q) s s.heap) (I : px_Inv ad base dC dI dA ex s g05 H locs) : px_Inv ad base dC dI dA false s (enc (T0 xs Ln)) H locs := by
  obtain ⟨i1, i2, i3, i4, i5, i6⟩ := I
  refine ⟨enc_WF _, ?_, ?_, i4, by rw [g05_1] at i5; exact i5, fun z => by cases z⟩
  · intro p n f h
    rcases enc_rows h with ⟨rfl, rfl, rfl⟩ | ⟨rfl, rfl, rfl⟩ | ⟨rfl, rfl, rfl⟩
    · exact hR0
    · exact hR1
    · exact hR2
  · intro k q hk
    obtain ⟨h1, h2⟩ := px_w_some hk
    have h1 : k < 73 := h1
    have h3 := i3 k (ad k, px_tr ad dA (g05.2 k)) (px_w_at (by rw [g05_1]; exact h1))
    rw [h2]
    exact at_dsc (ck_at h1 xs Ln) h3
/-- nothing is held at the start -/
def S0 : FS := ((0, fun _ _ => 0), (0, fun _ => 0), fun _ => 0)
theorem lwI_0 (xs : Nat → Int32) (Ln : Nat) : lwI xs Ln S0 (T0 xs Ln) := by
  refine ⟨⟨⟨by decide, fun j hj => absurd hj (Nat.not_lt_zero j)⟩, by decide, fun k hk => absurd hk (Nat.not_lt_zero k)⟩, ⟨⟨rfl, ?_, ?_, fun j hj => absurd hj (Nat.not_lt_zero j)⟩, ⟨rfl, fun k hk => absurd hk (Nat.not_lt_zero k)⟩, ?_, Or.inl rfl, fun j hj => absurd hj (Nat.not_lt_zero j)⟩, ⟨⟨rfl, fun j hj => absurd hj (Nat.not_lt_zero j)⟩, ⟨rfl, fun k hk => absurd hk (Nat.not_lt_zero k)⟩, ?_⟩, ?_, rfl⟩
  · intro j hj
    show isPl (25 + 7 * j)
    unfold isPl
    omega
  · intro j j' hj hj' h
    have h : 25 + 7 * j = 25 + 7 * j' := h
    omega
  · intro k hk
    match k with
    | 0 => rfl
    | 1 => rfl
    | 2 => rfl
    | n + 3 => omega
  · intro k hk
    match k with
    | 0 => rfl
    | 1 => rfl
    | 2 => rfl
    | n + 3 => omega
  · intro k
    show (if 1002 = 1002 then xs k else ini 1002 k) = xs k
    rw [if_pos rfl]
