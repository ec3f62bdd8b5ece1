/-! THE PURE MACHINE IS SOUND. -/
section
variable {p : Program} {l : Launch} {e : Env} {R : Room} {s : State} {m : MethodId} {args : Array Value} {below : List Frame} {meth : Method} {c : Code} {ad : Nat → Nat} {base : Nat} {dC : Nat → ClassId} {dI : Nat → Nat → Nat} {dA : Nat → ClassId} {ex : Bool} {rw : Nat → px_R} {md : Nat}
set_option maxHeartbeats 4000000 in
theorem px_ret_W {H : Heap} {locs : List Loc} {cells slots pc : Nat} {ls : Array Slot} (C : px_Ctx rw md p s m args meth c) {i : Instr} {st : List Value} {r : Option Value} {g : px_G} (hr : meth.sig.returnType = (rw md).2.2.2.1) (hlocks : meth.locks = false) (hbs : base ≤ s.heap.size)
    (hdg : decode (rw md).2.1 pc = .ok (i, px_len i)) (h : px_rr (rw md).2.2.2.1 i st = some r) (I : px_Inv ad base dC dI dA ex s g H locs) :
    W p l e R s m args below meth c H locs cells slots (MQ below (px_Po ad base dC dI dA ex r g) args s cells slots (fun q => base ≤ q)) (F0 m pc ls (st.map (px_v ad))) := by
  obtain ⟨hx, hb, hml, hown, hts, hnm⟩ := C
  obtain ⟨i1, i2, i3, i4, i5, i6⟩ := I
  have po : ∀ (t : State), t.heap = H → px_Po ad base dC dI dA ex r g args s (.returned (r.map (px_v ad))) t := by
    intro t ht
    exact ⟨rfl, by rw [ht]; exact i3, by rw [ht]; exact i5, fun hh => by rw [ht]; exact i6 hh, by rw [ht]; exact i4.1, fun q hq => by
      rw [ht]
      rcases Nat.lt_or_ge q s.heap.size with z | z
      · exact i4.2.1 q z (Nat.not_le.mpr hq)
      · exact absurd hq (by omega)⟩
  unfold px_rr at h
  split at h
  · split at h
    · rename_i hn
      cases h
      exact W.vret hx hb (hr.trans hn) (fun t ht _ => po t ht) i4.2.2 hdg hlocks
    · cases h
  · split at h
    · rename_i ty hty
      split at h
      · rename_i hc
        cases h
        exact W.zret hx hb (hr.trans hty) hc.2 (fun t ht _ => po t ht) i4.2.2 hdg hlocks
      · cases h
    · cases h
  · split at h
    · rename_i hn
      cases h
      exact W.lret hx hb (hr.trans hn) (fun t ht _ => po t ht) i4.2.2 hdg hlocks
    · cases h
  · cases h
set_option maxHeartbeats 4000000 in
/-- a method's body, from any of its instructions on -/
theorem px_body (C : px_Ctx rw md p s m args meth c) (hLk : ∀ q ∈ (rw md).2.2.2.2.2.2, px_LK rw (rw md) q) (V : px_Wd ad base dC dI dA s) (hwz : px_wz) (hr : meth.sig.returnType = (rw md).2.2.2.1) (hlocks : meth.locks = false)
    (hsnd : ∀ me, (rw me).2.2.2.2.2.1 < (rw md).2.2.2.2.2.1 → px_Snd l rw me) (hRf : (rw md).2.2.2.2.2.1 + 1 ≤ R.frames) (hRl : 100 * ((rw md).2.2.2.2.2.1 + 1) ≤ R.locals) (hbs : base ≤ s.heap.size) {r : Option Value} {g' : px_G} {n0 : Nat} (hn0 : n0 < g'.1 → ex = true) (hc : g'.1 - n0 ≤ R.cells) (hs : 1000 * (g'.1 - n0) ≤ R.slots) :
    ∀ (n pc : Nat) (L st : List Value) (g : px_G) (H : Heap) (locs : List Loc) (ls : Array Slot), px_run rw n md pc L st g = some (r, g') → n0 ≤ g.1 → px_Inv ad base dC dI dA ex s g H locs → px_L ad ls (rw md).2.2.1 L →
      W p l e R s m args below meth c H locs (g.1 - n0) (1000 * (g.1 - n0)) (MQ below (px_Po ad base dC dI dA ex r g') args s (g'.1 - n0) (1000 * (g'.1 - n0)) (fun q => base ≤ q)) (F0 m pc ls (st.map (px_v ad))) := by
  intro n
  induction n with
  | zero => intro pc L st g H locs ls h; cases h
  | succ n ih =>
    intro pc L st g H locs ls h hg I hl
    have hext := px_run_ext _ _ _ _ _ _ _ _ h I.1
    unfold px_run at h
    split at h
    · cases h
    · rename_i pc1 L1 st1 g1 h1
      have x1 := px_one_ext h1 I.1
      have x2 := px_run_ext _ _ _ _ _ _ _ _ h x1.1
      have e1 : g.1 - n0 + (g1.1 - g.1) = g1.1 - n0 := by have := x1.2.1; omega
      have e2 : 1000 * (g.1 - n0) + 1000 * (g1.1 - g.1) = 1000 * (g1.1 - n0) := by have := x1.2.1; omega
      refine px_step_W C hLk V hwz (by omega) (by omega) h1 I hl hbs (fun q => hn0 (by have := x2.2.1; omega)) (by have := x1.2.1; have := x2.2.1; omega) (by have := x1.2.1; have := x2.2.1; omega) ?_
      intro H1 l1 s1 I1 hl1
      rw [e1, e2]
      exact ih pc1 L1 st1 g1 H1 l1 s1 h (by have := x1.2.1; omega) I1 hl1
    · rename_i r1 h1
      cases h
      unfold px_one at h1
      split at h1
      · rename_i i len hdg
        unfold px_ex at h1
        split at h1
        · split at h1
          · cases h1
          · cases h1
        · split at h1
          · rename_i hln
            subst hln
            split at h1
            · cases h1
            · split at h1
              · cases h1
              · split at h1
                · split at h1
                  · cases h1
                  · cases h1
                · split at h1
                  · cases h1
                  · split at h1
                    · cases h1
                    · split at h1
                      · cases h1
                      · split at h1
                        · rename_i hrr
                          cases h1
                          exact px_ret_W C hr hlocks hbs hdg hrr I
                        · split at h1
                          · cases h1
                          · cases h1
          · cases h1
      · cases h1
    · rename_i me vs rest h1
      split at h
      · rename_i hlen
        split at h
        · cases h
        · rename_i r1 g1 hrun
          have x1 := px_run_ext _ _ _ _ _ _ _ _ hrun I.1
          have x2 := px_run_ext _ _ _ _ _ _ _ _ h x1.1
          have e1 : g.1 - n0 + (g1.1 - g.1) = g1.1 - n0 := by have := x1.2.1; omega
          have e2 : 1000 * (g.1 - n0) + 1000 * (g1.1 - g.1) = 1000 * (g1.1 - n0) := by have := x1.2.1; omega
          unfold px_one at h1
          split at h1
          · rename_i i len hdg
            unfold px_ex at h1
            split at h1
            · split at h1
              · cases h1
              · cases h1
            · split at h1
              · rename_i hln
                subst hln
                split at h1
                · cases h1
                · split at h1
                  · cases h1
                  · split at h1
                    · split at h1
                      · cases h1
                      · cases h1
                    · split at h1
                      · cases h1
                      · split at h1
                        · cases h1
                        · split at h1
                          · cases h1
                          · split at h1
                            · cases h1
                            · split at h1
                              · rename_i hcl
                                cases h1
                                refine px_call_W (nL := 0) C hLk V hsnd hRf hRl hdg hcl hlen hrun I hl (fun q => hn0 (by have := x2.2.1; omega)) (by have := x1.2.1; have := x2.2.1; omega) (by have := x1.2.1; have := x2.2.1; omega) ?_
                                intro H1 l1 I1
                                rw [e1, e2]
                                exact ih (pc + 3) L _ g1 H1 l1 ls h (by have := x1.2.1; omega) I1 hl
                              · cases h1
              · cases h1
          · cases h1
      · cases h
end
theorem px_ofW {l : Launch} {y : MethodName} {ws ws' : List Jvm.Cond} {rm : Room} {Pc : Array Value → State → Prop} {Qc : Array Value → State → Outcome → State → Prop} {mc ms : Nat} {free : Addr → Prop} {cc : ByteArray} {maxL : Nat} {ret : Option FieldType}
    (hy : plainFor y = true) (hw : ws = Jvm.Cond.code y cc maxL ret :: ws')
    (body : ∀ p e s m args below meth c s₁, BodyLoose p l y (headSpec ws rm) cc maxL ret e s m args below meth c s₁ → c.maxLocals = maxL → Pc args s →
      W p l e (headSpec ws rm).room s m args below meth c s.heap [] 0 0 (MQ below Qc args s mc ms free) (entryFrame m args maxL)) : Met l y ws rm Pc Qc mc ms free := by
  refine MetFree.of_bodySF (code := cc) (maxLocals := maxL) (ret := ret) hy ?_ ?_
  · intro args s m h hn
    obtain ⟨meth, c, h1, h2, h3, h4, h5, h6, -, -⟩ := Cond.code_spec hn (atoms_spec (ws := ws) h _ (by rw [hw]; exact List.mem_cons_self))
    exact ⟨meth, c, h1, h2, h3, h4, h5, h6⟩
  · intro p e s m args below meth c s₁ B hml hP _
    have hh0 : s₁.heap = s.heap := by rw [B.state]; rfl
    obtain ⟨t, a1, o, b1, b2, b3⟩ := body p e s m args below meth c s₁ B hml hP s₁ hh0 (Stand.of_body B)
    exact ⟨t, o, a1, b1, b2, ⟨b3.1, b3.2⟩⟩
/-- a method of the system: its class has a plain name, its links hold -/
def px_RK (rw : Nat → px_R) (md : Nat) : Prop := plainFor (rw md).1 = true ∧ ∀ q ∈ (rw md).2.2.2.2.2.2, px_LK rw (rw md) q
set_option maxHeartbeats 4000000 in
theorem px_sound (l : Launch) (rw : Nat → px_R) (hrk : ∀ md, px_RK rw md) (hwz : px_wz) : ∀ (lv md : Nat), (rw md).2.2.2.2.2.1 ≤ lv → px_Snd l rw md := by
  have key : ∀ md, (∀ me, (rw me).2.2.2.2.2.1 < (rw md).2.2.2.2.2.1 → px_Snd l rw me) → px_Snd l rw md := by
    intro md hsnd n args0 g r g' ad base dC dI dA ex mc hrun hlen had hmc hex
    subst hmc
    refine px_ofW (cc := (rw md).2.1) (maxL := (rw md).2.2.1) (ret := (rw md).2.2.2.1) (hrk md).1 rfl ?_
    intro p e s m args below meth c s₁ B hml hv
    obtain ⟨rfl, h1, h2, h3, h4, h5, h8, h6, h7⟩ := hv
    have hts := atoms_spec (ws := px_ws (rw md)) B.pre
    have C : px_Ctx rw md p s m ((args0.map (px_v ad)).toArray) meth c := ⟨B.exec, B.bytes, hml, findClass_of_methodNamed B.named, fun w hw => hts w (List.mem_cons_of_mem _ hw), (name_of_methodNamed B.named B.method).1⟩
    have V : px_Wd ad base dC dI dA s := ⟨had, h4, h5, h8⟩
    have I : px_Inv ad base dC dI dA ex s g s.heap [] := ⟨h1, h2, h3, va_S.rf, h6, h7⟩
    have hl := px_entL (ad := ad) hlen
    rw [lg_entry_eq]
    generalize (lg_sl (args0.map (px_v ad)) ++ List.replicate ((rw md).2.2.1 - (lg_sl (args0.map (px_v ad))).length) Slot.unset).toArray = ls at hl ⊢
    have hb := px_body (R := px_rm (rw md).2.2.2.2.2.1 (g'.1 - g.1)) (e := e) (below := below) (ex := ex) C (hrk md).2 V hwz B.returns B.notSynchronized hsnd (Nat.le_refl _) (Nat.le_refl _) (by omega) (n0 := g.1) hex (Nat.le_refl _) (Nat.le_refl _) n 0 (px_ent (rw md).2.2.1 args0) [] g s.heap [] ls hrun (Nat.le_refl _) I hl
    rw [Nat.sub_self, Nat.mul_zero] at hb
    exact hb
  intro lv
  induction lv with
  | zero =>
    intro md h
    exact key md (fun me hm => absurd hm (by omega))
  | succ lv ih =>
    intro md h
    exact key md (fun me hm => ih me (by omega))
