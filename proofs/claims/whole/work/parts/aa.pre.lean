/-! the start: the world that the claim gives. -/
theorem mkG {rw : Nat → px_R} {md pc : Nat} {L st st' : List Value} {g g' : px_G} {i : Instr} {len : Nat} (h0 : px_sw i st = none) (hl : len = px_len i) (h1 : px_pure i st = none) (h2 : px_loc i L st = none) (h3 : px_br i st = none) (h4 : px_mem (rw md).2.2.2.2.2.2 i st g = none) (h : px_mk (rw md).2.2.2.2.2.2 i st g = some (st', g')) : px_ex rw md i len pc L st g = some (.inl (pc + len, L, st', g')) := by
  unfold px_ex
  rw [h0]
  simp only [if_pos hl, h1, h2, h3, h4, h]
theorem ex_new {pc idx ci a n : Nat} {z : Int} {L st : List Value} {g : px_G} (hlk : px_lk (px_rw k_Law_law).2.2.2.2.2.2 idx = (12, ci, a, z)) (hn : g.1 = n) (hg : n < 1000) : px_ex px_rw k_Law_law (.new idx) 3 pc L st g = some (.inl (pc + 3, L, .ref n :: st, px_new g (obN ci))) := by
  refine mkG (i := .new idx) rfl rfl rfl rfl rfl rfl ?_
  show (match px_lk (px_rw k_Law_law).2.2.2.2.2.2 idx with | (kd, ci, _, _) => if kd = 12 ∧ g.1 < 1000 then some (Value.ref g.1 :: st, px_new g (.inr (ci, (List.range (px_N ci)).map (fun k => defaultValue (px_ty ci k))))) else none) = _
  rw [hlk]
  show (if 12 = 12 ∧ g.1 < 1000 then some (Value.ref g.1 :: st, px_new g (obN ci)) else none) = _
  rw [if_pos ⟨rfl, by omega⟩, hn]
theorem ex_newL {pc n : Nat} {L st : List Value} {g : px_G} (hn : g.1 = n) (hg : n < 1000) : px_ex px_rw k_Law_law (.newarray .long) 2 pc L (.int (Int32.ofInt 1) :: st) g = some (.inl (pc + 2, L, .ref n :: st, px_new g (.inl (1, 1, .inr (.inl (fun _ => 0)))))) := by
  refine mkG (i := .newarray .long) rfl rfl rfl rfl rfl rfl ?_
  show (if ¬ Int32.ofInt 1 < 0 ∧ (Int32.ofInt 1).toNatClampNeg ≤ 1000 ∧ g.1 < 1000 then some (Value.ref g.1 :: st, px_new g (.inl (1, (Int32.ofInt 1).toNatClampNeg, .inr (.inl (fun _ => 0))))) else none) = _
  rw [if_pos ⟨by decide, by decide, by omega⟩, hn]
  rfl
section
variable {p : Program} {l : Launch} {e : Env} {R : Room} {s : State} {m : MethodId} {args : Array Value} {below : List Frame} {meth : Method} {c : Code} {ad : Nat → Nat} {sa base : Nat} {dC : Nat → ClassId} {dI : Nat → Nat → Nat} {dA : Nat → ClassId} {rw : Nat → px_R} {md : Nat} {cells slots : Nat} {Q : State → Prop}
theorem lk_make (ho : okFr rw md p l R s m args meth c ad base dC dI dA) (hc : cells + 1 ≤ R.cells) (hs : slots + 1000 ≤ R.slots) {pc pc' len : Nat} {i : Instr} {L L' st st' : List Value} {g g' : px_G} (hd : decode (rw md).2.1 pc = .ok (i, len)) (h : px_ex rw md i len pc L st g = some (.inl (pc', L', st', g'))) (hg : g'.1 = g.1 + 1) (k : lk p l e R s m args below meth c ad base dC dI dA (rw md).2.2.1 true (cells + 1) (slots + 1000) Q pc' L' st' g') : lk p l e R s m args below meth c ad base dC dI dA (rw md).2.2.1 true cells slots Q pc L st g := by
  have h1 : px_one rw md pc L st g = some (.inl (pc', L', st', g')) := by unfold px_one; rw [hd]; exact h
  have e1 : g'.1 - g.1 = 1 := by omega
  refine lk_step ho h1 (fun z => rfl) (by rw [e1]; exact hc) (by rw [e1]; exact hs) ?_
  rw [e1]
  exact k
theorem lk_callN (d : Nat) (ho : okFr rw md p l R s m args meth c ad base dC dI dA) (hc : cells + d ≤ R.cells) (hs : slots + 1000 * d ≤ R.slots) {pc me n : Nat} {i : Instr} {L st vs rest : List Value} {g g' : px_G} {r : Option Value} (hd : decode (rw md).2.1 pc = .ok (i, px_len i)) (h : px_cl rw (rw md).2.2.2.2.2.2 i st g = some (me, vs, rest)) (hlen : (px_e0 vs).length ≤ (rw me).2.2.1) (hrun : px_run rw n me 0 (px_ent (rw me).2.2.1 vs) [] g = some (r, g')) (hg : g'.1 = g.1 + d) (k : lk p l e R s m args below meth c ad base dC dI dA (rw md).2.2.1 true (cells + d) (slots + 1000 * d) Q (pc + 3) L (r.toList ++ rest) g') : lk p l e R s m args below meth c ad base dC dI dA (rw md).2.2.1 true cells slots Q pc L st g := by
  have e1 : g'.1 - g.1 = d := by omega
  refine lk_call ho hd h hlen hrun (fun z => rfl) (by rw [e1]; exact hc) (by rw [e1]; exact hs) ?_
  rw [e1]
  exact k
set_option maxHeartbeats 1000000 in
theorem lw_prefix (ho : okFr px_rw k_Law_law p l room_1 s m args meth c ad base dC dI dA) {g0 g2 g4 : px_G} {n2 n4 : Nat} (h0 : g0.1 = 0) (hr2 : px_run px_rw n2 k_Ds_init 0 (px_ent (px_rw k_Ds_init).2.2.1 [.ref 0]) [] (px_new g0 (obN 9)) = some (none, g2)) (h2 : g2.1 = 53)
    (hr4 : px_run px_rw n4 k_Dm_init 0 (px_ent (px_rw k_Dm_init).2.2.1 [.ref 53]) [] (px_new g2 (obN 10)) = some (none, g4)) (h4 : g4.1 = 72)
    (k : lk p l e room_1 s m args below meth c ad base dC dI dA 7 true 73 73000 Q 23 (LL 0 .null .null) [] (px_new g4 (.inl (1, 1, .inr (.inl (fun _ => 0)))))) : lk p l e room_1 s m args below meth c ad base dC dI dA 7 true 0 0 Q 0 [.ref 1002, .null, .null, .null, .null, .null, .null] [] g0 := by
  refine lk_make (rw := px_rw) (md := k_Law_law) ho (by decide) (by decide) dd_Law_law_0 (ex_new (ci := 9) (a := 0) (z := 0) (n := 0) rfl h0 (by decide)) rfl ?_
  refine lk_next (rw := px_rw) (md := k_Law_law) ho (by decide) (by decide) dd_Law_law_3 rfl rfl ?_
  refine lk_callN 52 (rw := px_rw) (md := k_Law_law) (me := k_Ds_init) (vs := [.ref 0]) (rest := [.ref 0]) (i := .invokespecial 15) ho (by decide) (by decide) dd_Law_law_4 rfl (Nat.le_of_ble_eq_true rfl) hr2 (by rw [h2]; show 53 = g0.1 + 1 + 52; omega) ?_
  refine lk_next (rw := px_rw) (md := k_Law_law) (L' := [.ref 1002, .ref 0, .null, .null, .null, .null, .null]) (st' := []) ho (by decide) (by decide) dd_Law_law_7 rfl rfl ?_
  refine lk_make (rw := px_rw) (md := k_Law_law) ho (by decide) (by decide) dd_Law_law_8 (ex_new (ci := 10) (a := 0) (z := 0) (n := 53) rfl h2 (by decide)) rfl ?_
  refine lk_next (rw := px_rw) (md := k_Law_law) ho (by decide) (by decide) dd_Law_law_11 rfl rfl ?_
  refine lk_callN 18 (rw := px_rw) (md := k_Law_law) (me := k_Dm_init) (vs := [.ref 53]) (rest := [.ref 53]) (i := .invokespecial 18) ho (by decide) (by decide) dd_Law_law_12 rfl (Nat.le_of_ble_eq_true rfl) hr4 (by rw [h4]; show 72 = g2.1 + 1 + 18; omega) ?_
  refine lk_next (rw := px_rw) (md := k_Law_law) (L' := [.ref 1002, .ref 0, .ref 53, .null, .null, .null, .null]) (st' := []) ho (by decide) (by decide) dd_Law_law_15 rfl rfl ?_
  refine lk_next (rw := px_rw) (md := k_Law_law) (st' := [.int (Int32.ofInt 1)]) ho (by decide) (by decide) dd_Law_law_16 rfl rfl ?_
  refine lk_make (rw := px_rw) (md := k_Law_law) ho (by decide) (by decide) dd_Law_law_17 (ex_newL (n := 72) h4 (by decide)) rfl ?_
  refine lk_next (rw := px_rw) (md := k_Law_law) (L' := [.ref 1002, .ref 0, .ref 53, .ref 72, .null, .null, .null]) (st' := []) ho (by decide) (by decide) dd_Law_law_19 rfl rfl ?_
  refine lk_next (rw := px_rw) (md := k_Law_law) (st' := [.int (Int32.ofInt 0)]) ho (by decide) (by decide) dd_Law_law_20 rfl rfl ?_
  exact lk_next (rw := px_rw) (md := k_Law_law) (L' := LL 0 .null .null) (st' := []) ho (by decide) (by decide) dd_Law_law_21 rfl rfl k
end
