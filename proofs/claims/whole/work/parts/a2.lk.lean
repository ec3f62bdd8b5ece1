/-! W from an instruction of a frame, in the words of the pure machine. -/
section
variable {p : Program} {l : Launch} {e : Env} {R : Room} {s : State} {m : MethodId} {args : Array Value} {below : List Frame} {meth : Method} {c : Code} {ad : Nat → Nat} {base : Nat} {dC : Nat → ClassId} {dI : Nat → Nat → Nat} {dA : Nat → ClassId} {ex : Bool} {rw : Nat → px_R} {md : Nat} {cells slots : Nat} {Q : State → Prop}
def lk (p : Program) (l : Launch) (e : Env) (R : Room) (s : State) (m : MethodId) (args : Array Value) (below : List Frame) (meth : Method) (c : Code) (ad : Nat → Nat) (base : Nat) (dC : Nat → ClassId) (dI : Nat → Nat → Nat) (dA : Nat → ClassId) (nL : Nat) (ex : Bool) (cells slots : Nat) (Q : State → Prop) (pc : Nat) (L st : List Value) (g : px_G) : Prop :=
  ∀ (H : Heap) (locs : List Loc) (ls : Array Slot), px_Inv ad base dC dI dA ex s g H locs → px_L ad ls nL L → W p l e R s m args below meth c H locs cells slots Q (F0 m pc ls (st.map (px_v ad)))
/-- what holds of the frame all along -/
def okFr (rw : Nat → px_R) (md : Nat) (p : Program) (l : Launch) (R : Room) (s : State) (m : MethodId) (args : Array Value) (meth : Method) (c : Code) (ad : Nat → Nat) (base : Nat) (dC : Nat → ClassId) (dI : Nat → Nat → Nat) (dA : Nat → ClassId) : Prop :=
  px_Ctx rw md p s m args meth c ∧ (∀ q ∈ (rw md).2.2.2.2.2.2, px_LK rw (rw md) q) ∧ px_Wd ad base dC dI dA s ∧ base ≤ s.heap.size ∧ ((rw md).2.2.2.2.2.1 + 1 ≤ R.frames ∧ 100 * ((rw md).2.2.2.2.2.1 + 1) ≤ R.locals) ∧ ∀ me, (rw me).2.2.2.2.2.1 < (rw md).2.2.2.2.2.1 → px_Snd l rw me
theorem lk_step (ho : okFr rw md p l R s m args meth c ad base dC dI dA) {pc pc' : Nat} {L L' st st' : List Value} {g g' : px_G} (h : px_one rw md pc L st g = some (.inl (pc', L', st', g'))) (hex : g.1 < g'.1 → ex = true) (hc : cells + (g'.1 - g.1) ≤ R.cells) (hs : slots + 1000 * (g'.1 - g.1) ≤ R.slots) (k : lk p l e R s m args below meth c ad base dC dI dA (rw md).2.2.1 ex (cells + (g'.1 - g.1)) (slots + 1000 * (g'.1 - g.1)) Q pc' L' st' g') : lk p l e R s m args below meth c ad base dC dI dA (rw md).2.2.1 ex cells slots Q pc L st g := by
  intro H locs ls I hl
  obtain ⟨C, hLk, V, hbs, ⟨hf, hlo⟩, hsn⟩ := ho
  exact px_step_W C hLk V px_wz_ok (by omega) (by omega) h I hl hbs hex hc hs k
theorem lk_next (ho : okFr rw md p l R s m args meth c ad base dC dI dA) (hc : cells ≤ R.cells) (hs : slots ≤ R.slots) {pc pc' len : Nat} {i : Instr} {L L' st st' : List Value} {g g' : px_G} (hd : decode (rw md).2.1 pc = .ok (i, len)) (h : px_ex rw md i len pc L st g = some (.inl (pc', L', st', g'))) (hg : g'.1 = g.1) (k : lk p l e R s m args below meth c ad base dC dI dA (rw md).2.2.1 ex cells slots Q pc' L' st' g') : lk p l e R s m args below meth c ad base dC dI dA (rw md).2.2.1 ex cells slots Q pc L st g := by
  have h1 : px_one rw md pc L st g = some (.inl (pc', L', st', g')) := by unfold px_one; rw [hd]; exact h
  refine lk_step ho h1 (fun z => by omega) (by omega) (by omega) ?_
  rw [hg, Nat.sub_self, Nat.mul_zero, Nat.add_zero, Nat.add_zero]
  exact k
theorem lk_call (ho : okFr rw md p l R s m args meth c ad base dC dI dA) {pc me n : Nat} {i : Instr} {L st vs rest : List Value} {g g' : px_G} {r : Option Value} (hd : decode (rw md).2.1 pc = .ok (i, px_len i)) (h : px_cl rw (rw md).2.2.2.2.2.2 i st g = some (me, vs, rest)) (hlen : (px_e0 vs).length ≤ (rw me).2.2.1) (hrun : px_run rw n me 0 (px_ent (rw me).2.2.1 vs) [] g = some (r, g')) (hex : g.1 < g'.1 → ex = true) (hc : cells + (g'.1 - g.1) ≤ R.cells) (hs : slots + 1000 * (g'.1 - g.1) ≤ R.slots) (k : lk p l e R s m args below meth c ad base dC dI dA (rw md).2.2.1 ex (cells + (g'.1 - g.1)) (slots + 1000 * (g'.1 - g.1)) Q (pc + 3) L (r.toList ++ rest) g') : lk p l e R s m args below meth c ad base dC dI dA (rw md).2.2.1 ex cells slots Q pc L st g := by
  intro H locs ls I hl
  obtain ⟨C, hLk, V, hbs, ⟨hf, hlo⟩, hsn⟩ := ho
  exact px_call_W (nL := 0) C hLk V hsn hf hlo hd h hlen hrun I hl hex hc hs (fun H1 l1 I1 => k H1 l1 ls I1 hl)
theorem lk_call0 (ho : okFr rw md p l R s m args meth c ad base dC dI dA) (hc : cells ≤ R.cells) (hs : slots ≤ R.slots) {pc me n : Nat} {i : Instr} {L st vs rest : List Value} {g g' : px_G} {r : Option Value} (hd : decode (rw md).2.1 pc = .ok (i, px_len i)) (h : px_cl rw (rw md).2.2.2.2.2.2 i st g = some (me, vs, rest)) (hlen : (px_e0 vs).length ≤ (rw me).2.2.1) (hrun : px_run rw n me 0 (px_ent (rw me).2.2.1 vs) [] g = some (r, g')) (hg : g'.1 = g.1) (k : lk p l e R s m args below meth c ad base dC dI dA (rw md).2.2.1 ex cells slots Q (pc + 3) L (r.toList ++ rest) g') : lk p l e R s m args below meth c ad base dC dI dA (rw md).2.2.1 ex cells slots Q pc L st g := by
  refine lk_call ho hd h hlen hrun (fun z => by omega) (by omega) (by omega) ?_
  rw [hg, Nat.sub_self, Nat.mul_zero, Nat.add_zero, Nat.add_zero]
  exact k
end
/-- an object's method in the call's form -/
theorem cl_V {rw : Nat → px_R} {ks : List (Nat × px_K)} {idx kd me ci p : Nat} {z : Int} {As rest st : List Value} {fs : List Value} {g : px_G} (hlk : px_lk ks idx = (kd, me, ci, z)) (hkd : kd = 5 ∨ kd = 6) (hst : st = As.reverse ++ .ref p :: rest) (hna : (rw me).2.2.2.2.1 = As.length + 1) (hcs : px_cs rest ≤ 8) (hp : g.2 p = .inr (ci, fs)) : px_cl rw ks (.invokevirtual idx) st g = some (me, .ref p :: As, rest) := by
  have e1 : st.take (As.length + 1) = As.reverse ++ [.ref p] := by
    rw [hst, show As.reverse ++ Value.ref p :: rest = (As.reverse ++ [.ref p]) ++ rest by simp]
    rw [List.take_left' (by simp)]
  have e2 : st.drop (As.length + 1) = rest := by
    rw [hst, show As.reverse ++ Value.ref p :: rest = (As.reverse ++ [.ref p]) ++ rest by simp]
    rw [List.drop_left' (by simp)]
  have e3 : As.length + 1 ≤ st.length := by rw [hst]; simp
  unfold px_cl
  simp only [hlk, hna, e1, e2]
  rw [if_pos ⟨hkd, e3, hcs⟩]
  simp only [List.reverse_append, List.reverse_cons, List.reverse_nil, List.nil_append, List.reverse_reverse, List.cons_append, hp, if_true]
