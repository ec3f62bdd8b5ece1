/-! THE PURE MACHINE IS SOUND: a method's run gives its contract. -/
section
variable {p : Program} {l : Launch} {e : Env} {R : Room} {s : State} {m : MethodId} {args : Array Value} {below : List Frame} {meth : Method} {c : Code} {H : Heap} {locs : List Loc} {cells slots : Nat} {Q : State → Prop} {pc : Nat} {ls : Array Slot} {ad : Nat → Nat} {base : Nat} {dC : Nat → ClassId} {dI : Nat → Nat → Nat} {dA : Nat → ClassId} {ex : Bool} {rw : Nat → px_R} {md : Nat}
/-- behind a call -/
theorem px_go {mc ms : Nat} {st0 rest : List Value} {r : Option Value} {g g' : px_G} {a : Array Value}
    (hr : va_Run p l e R s m args below meth c H locs cells slots mc ms (F0 m pc ls st0) rest (px_Po ad base dC dI dA ex r g' a) (fun q => base ≤ q)) (I : px_Inv ad base dC dI dA ex s g H locs) (hext : px_Ext g g')
    (kk : ∀ (H1 : Heap) (locs1 : List Loc), px_Inv ad base dC dI dA ex s g' H1 locs1 → W p l e R s m args below meth c H1 locs1 (cells + mc) (slots + ms) Q (F0 m (pc + 3) ls ((r.map (px_v ad)).toList ++ rest))) : W p l e R s m args below meth c H locs cells slots Q (F0 m pc ls st0) := by
  intro T hT X
  obtain ⟨v, st₀, t, T', L, h0, X', hL, e1, e2, ⟨hv, hP, hsz, hex, hle, hk⟩, st⟩ := hr T hT X
  cases hv
  obtain ⟨i1, i2, i3, i4, i5, i6⟩ := I
  obtain ⟨x1, x2, x3⟩ := hext i1
  rw [h0] at hle hk
  obtain ⟨t2, a1, b1⟩ := kk T'.heap (locs ++ L) ⟨x1, fun q n f hq => i2 q n f (x3 q n f hq), by rw [e1]; exact hP, ⟨by rw [e1]; exact Nat.le_trans i4.1 hle, fun q h1 h2 => by rw [e1, hk q (Nat.not_le.mp h2)]; exact i4.2.1 q h1 h2, fun q hq => by
    rcases List.mem_append.mp hq with h | h
    · exact i4.2.2 q h
    · exact hL q h⟩, by rw [e1]; exact hsz, fun hh => by rw [e1]; exact hex hh⟩ T' rfl X'
  exact ⟨t2, st t2 a1, b1⟩
theorem px_blind (g : px_G) (vs : List Value) : FrameBlind (va_Pc vs (px_Pre ad base dC dI dA ex g)) := by
  intro a U gf mk h
  obtain ⟨h0, h1, h2, h3, h4, h5, h8, h6, h7⟩ := h
  have hvm : U.vm.Alike (U.calling gf mk a).vm := Vm.Alike.refl U.vm
  exact ⟨h0, h1, fun q n f hq => (h2 q n f hq).moved hvm, h3, h4.moved hvm, ⟨h5.1.moved hvm, h5.2.moved hvm⟩, px_Nw.same (s := U) (U := U.calling gf mk a) rfl h8, h6, h7⟩
theorem px_preU {g : px_G} (V : px_Wd ad base dC dI dA s) (I : px_Inv ad base dC dI dA ex s g H locs) {U : State} (hU : U.heap = H) (hW : s.WarmedH U.vm) : px_Pre ad base dC dI dA ex g U := by
  obtain ⟨had, hK, hZ, hN⟩ := V
  obtain ⟨i1, i2, i3, i4, i5, i6⟩ := I
  have hq : ∀ a : Nat, a < s.heap.size → ¬ base ≤ a → U.heap[a]? = s.heap[a]? := fun a h1 h2 => by rw [hU]; exact i4.2.1 a h1 h2
  exact ⟨i1, fun q n f hf => ((i2 q n f hf).kept hq).moved hW.alike, by rw [hU]; exact i3, hK.moved hW.alike, ⟨(hZ.1.kept hq).moved hW.alike, (hZ.2.kept hq).moved hW.alike⟩, hN.warm hW, by rw [hU]; exact i5, fun hh => by rw [hU]; exact i6 hh⟩
theorem px_goodws {me : Nat} (h : Jvm.Cond.code (rw me).1 (rw me).2.1 (rw me).2.2.1 (rw me).2.2.2.1 ∈ px_T) : GoodIn px_T (px_ws (rw me)) := by
  intro w hw
  have h1 : w ∈ px_T := by
    rcases List.mem_cons.mp hw with q | q
    · rw [q]; exact h
    · exact q
  exact ⟨h1, px_T_good w h1⟩
theorem px_room {lv me mc nL : Nat} (hlv : me < lv) (hnL : nL ≤ 60) (hRf : lv + 1 ≤ R.frames) (hRl : 100 * (lv + 1) ≤ R.locals) : (px_rm me mc).frames + 1 ≤ R.frames ∧ 8 + (nL + 11) + (px_rm me mc).locals ≤ R.locals := by
  constructor
  · show me + 1 + 1 ≤ R.frames
    omega
  · show 8 + (nL + 11) + 100 * (me + 1) ≤ R.locals
    omega
theorem px_rvst {vs rest st : List Value} {n : Nat} (ht : (st.take n).reverse = vs) (hr : st.drop n = rest) : st = vs.reverse ++ rest := by
  subst ht; subst hr; simp
theorem px_mapsum (vs : List Value) : ((vs.map (px_v ad)).map fun v => v.category).sum = px_cs vs := by
  unfold px_cs
  rw [List.map_map]
  congr 1
  apply List.map_congr_left
  intro v _
  exact px_v_cat ad v
set_option maxHeartbeats 4000000 in
theorem px_call_W (C : px_Ctx rw md p s m args meth c) (hLk : ∀ q ∈ (rw md).2.2.2.2.2.2, px_LK rw (rw md) q) (V : px_Wd ad base dC dI dA s) {i : Instr} {me n nL : Nat} {vs st rest L : List Value} {r : Option Value} {g g' : px_G}
    (hsnd : ∀ me, (rw me).2.2.2.2.2.1 < (rw md).2.2.2.2.2.1 → px_Snd l rw me) (hRf : (rw md).2.2.2.2.2.1 + 1 ≤ R.frames) (hRl : 100 * ((rw md).2.2.2.2.2.1 + 1) ≤ R.locals)
    (hdg : decode (rw md).2.1 pc = .ok (i, px_len i)) (h : px_cl rw (rw md).2.2.2.2.2.2 i st g = some (me, vs, rest)) (hlen : (px_e0 vs).length ≤ (rw me).2.2.1)
    (hrun : px_run rw n me 0 (px_ent (rw me).2.2.1 vs) [] g = some (r, g')) (I : px_Inv ad base dC dI dA ex s g H locs) (hl : px_L ad ls (rw md).2.2.1 L) (hex : g.1 < g'.1 → ex = true) (hc : cells + (g'.1 - g.1) ≤ R.cells) (hs : slots + 1000 * (g'.1 - g.1) ≤ R.slots)
    (kk : ∀ (H1 : Heap) (locs1 : List Loc), px_Inv ad base dC dI dA ex s g' H1 locs1 → W p l e R s m args below meth c H1 locs1 (cells + (g'.1 - g.1)) (slots + 1000 * (g'.1 - g.1)) Q (F0 m (pc + 3) ls ((r.toList ++ rest).map (px_v ad)))) : W p l e R s m args below meth c H locs cells slots Q (F0 m pc ls (st.map (px_v ad))) := by
  have C0 := C
  obtain ⟨hx, hb, hml, hown, hts, hnm⟩ := C
  have hext := px_run_ext _ _ _ _ _ _ _ _ hrun
  have hfix : CallFix p m c (rw md).2.1 (rw md).2.2.1 s args px_T (rw md).1.cls := ⟨hx, hb, hml, hown, hts⟩
  have hsum : ∀ rest : List Value, px_cs rest ≤ 8 → 2 * (F0 m pc ls (st.map (px_v ad))).monitorRoom + ((rest.map (px_v ad)).map fun v => v.category).sum ≤ 8 := by
    intro rest hr
    exact lv_room (by rw [px_mapsum]; exact hr)
  have goon : va_Run p l e R s m args below meth c H locs cells slots (g'.1 - g.1) (1000 * (g'.1 - g.1)) (F0 m pc ls (st.map (px_v ad))) (rest.map (px_v ad)) (px_Po ad base dC dI dA ex r g' (vs.map (px_v ad)).toArray) (fun q => base ≤ q) → W p l e R s m args below meth c H locs cells slots Q (F0 m pc ls (st.map (px_v ad))) := by
    intro hrn
    refine px_go hrn I hext fun H1 l1 I1 => ?_
    have := kk H1 l1 I1
    rw [List.map_append] at this
    have e : (r.map (px_v ad)).toList = r.toList.map (px_v ad) := by cases r <;> rfl
    rw [e]
    exact this
  unfold px_cl at h
  split at h
  · -- invokevirtual
    rename_i idx st0 g0
    split at h
    rename_i kd me0 ci z hlk
    split at h
    · rename_i hc1
      obtain ⟨hkd, hst, hcs⟩ := hc1
      split at h
      · rename_i q As htk
        split at h
        · rename_i cj fs hq
          split at h
          · rename_i hcj
            subst hcj
            cases h
            have hst2 := px_rvst htk rfl
            have hkd99 : kd ≠ 99 := by omega
            have hm := hLk _ (px_lk_mem hlk hkd99)
            have hAl : ∀ n, (rw me).2.2.2.2.1 = n + 1 → (As.map (px_v ad)).length = n := by
              intro n hn
              have := congrArg List.length htk
              rw [List.length_reverse, List.length_take, List.length_cons] at this
              rw [List.length_map]
              omega
            have hstk : (st.map (px_v ad)) = (As.map (px_v ad)).reverse ++ .ref (ad q) :: ((st.drop (rw me).2.2.2.2.1).map (px_v ad)) := by
              have := congrArg (List.map (px_v ad)) hst2
              rw [this]
              simp [px_v]
            have key : ∀ (r0 : vw_C), vwCl[cj]? = some r0 → r0.1 = (rw me).1.cls → cj ≠ 999 → PreV s H (rw me).1.cls (ad q) (va_Pc ((Value.ref q :: As).map (px_v ad)) (px_Pre ad base dC dI dA ex g)) (As.map (px_v ad)) := by
              intro r0 hr0 hr1 h999
              have hqn := I.1.obj hq h999
              have he : (px_w ad dA g)[q]? = some (ad q, .inr (cj, fs.map (px_v ad))) := by rw [px_w_at hqn, hq]; rfl
              have hrc := va_recv V.2.1 I.2.2.1 hr0 he
              rw [hr1] at hrc
              exact ⟨px_blind g _, hrc, fun U hU hW => ⟨rfl, px_preU V I hU hW⟩⟩
            have hcj9 : ∀ r0 : vw_C, vwCl[cj]? = some r0 → cj ≠ 999 := by
              intro r0 hr0 h9
              subst h9
              cases hr0
            rcases hkd with rfl | rfl
            · obtain ⟨r0, n0, ⟨m1, m2, m3, m4, m5⟩, hna, hr0, hr1, g1, g2, g3⟩ := hm
              have hM := hsnd me m5 n (Value.ref q :: As) g r g' ad base dC dI dA ex _ hrun hlen V.1 rfl hex
              exact goon (va_runV (As := As.map (px_v ad)) hfix hM ⟨callB_of n0 hts (px_goodws m1) rfl rfl rfl (hts _ m2) (hts _ g1) m3 (px_room m5 m4 hRf hRl), hts _ g2, hts _ g3⟩ (key r0 hr0 hr1 (hcj9 r0 hr0)) rfl (hAl n0 hna) hl.1 hstk (hsum _ hcs) hdg ⟨hc, hs⟩)
            · obtain ⟨r0, n0, ⟨m1, m2, m3, m4, m5⟩, hna, hr0, hr1, g1, g2, g3⟩ := hm
              have hM := hsnd me m5 n (Value.ref q :: As) g r g' ad base dC dI dA ex _ hrun hlen V.1 rfl hex
              exact goon (va_runVN (As := As.map (px_v ad)) hfix hM ⟨va_cnB n0 hts (px_goodws m1) rfl rfl rfl (V.2.2.2.1 _ g1) (hts _ m2) m3 (px_room m5 m4 hRf hRl), hts _ g2, hts _ g3⟩ (key r0 hr0 hr1 (hcj9 r0 hr0)) rfl (hAl n0 hna) hl.1 hstk (hsum _ hcs) hdg ⟨hc, hs⟩)
          · cases h
        · cases h
      · cases h
    · cases h
  · -- invokestatic
    rename_i idx st0 g0
    split at h
    rename_i kd me0 ci z hlk
    split at h
    · rename_i hc1
      obtain ⟨hkd, hst, hcs⟩ := hc1
      cases h
      have hkd99 : kd ≠ 99 := by omega
      have hm := hLk _ (px_lk_mem hlk hkd99)
      have hst2 := px_rvst (st := st) (n := (rw me).2.2.2.2.1) rfl rfl
      have hAl : (((st.take (rw me).2.2.2.2.1).reverse).map (px_v ad)).length = (rw me).2.2.2.2.1 := by simp; omega
      have hstk : (st.map (px_v ad)) = (((st.take (rw me).2.2.2.2.1).reverse).map (px_v ad)).reverse ++ ((st.drop (rw me).2.2.2.2.1).map (px_v ad)) := by
        have := congrArg (List.map (px_v ad)) hst2
        rw [List.map_append, List.map_reverse] at this
        exact this
      have hpre : PreS s H (va_Pc (((st.take (rw me).2.2.2.2.1).reverse).map (px_v ad)) (px_Pre ad base dC dI dA ex g)) (((st.take (rw me).2.2.2.2.1).reverse).map (px_v ad)) := ⟨px_blind g _, fun U hU hW => ⟨rfl, px_preU V I hU hW⟩⟩
      rcases hkd with rfl | rfl
      · obtain ⟨⟨m1, m2, m3, m4, m5⟩, g1, g2⟩ := hm
        have hM := hsnd me m5 n _ g r g' ad base dC dI dA ex _ hrun hlen V.1 rfl hex
        exact goon (va_runS (As := ((st.take (rw me).2.2.2.2.1).reverse).map (px_v ad)) hfix hM ⟨callB_of _ hts (px_goodws m1) rfl rfl rfl (hts _ m2) (hts _ g1) m3 (px_room m5 m4 hRf hRl), hts _ g2⟩ hpre rfl hAl hl.1 hstk (hsum _ hcs) hdg ⟨hc, hs⟩)
      · obtain ⟨⟨m1, m2, m3, m4, m5⟩, g1, g2⟩ := hm
        have hM := hsnd me m5 n _ g r g' ad base dC dI dA ex _ hrun hlen V.1 rfl hex
        exact goon (va_runSN (As := ((st.take (rw me).2.2.2.2.1).reverse).map (px_v ad)) hfix hM ⟨va_cnB _ hts (px_goodws m1) rfl rfl rfl (V.2.2.2.1 _ g1) (hts _ m2) m3 (px_room m5 m4 hRf hRl), hts _ g2, trivial⟩ hpre rfl hAl hl.1 hstk (hsum _ hcs) hdg ⟨hc, hs⟩)
    · cases h
  · -- invokespecial
    rename_i idx st0 g0
    split at h
    rename_i kd me0 ci z hlk
    split at h
    · rename_i hc1
      obtain ⟨hkd, hst, hcs⟩ := hc1
      split at h
      · rename_i q As htk
        cases h
        have hst2 := px_rvst htk rfl
        have hkd99 : kd ≠ 99 := by omega
        have hm := hLk _ (px_lk_mem hlk hkd99)
        have hAl : ∀ n, (rw me).2.2.2.2.1 = n + 1 → (As.map (px_v ad)).length = n := by
          intro n hn
          have := congrArg List.length htk
          rw [List.length_reverse, List.length_take, List.length_cons] at this
          rw [List.length_map]
          omega
        have hstk : (st.map (px_v ad)) = (As.map (px_v ad)).reverse ++ .ref (ad q) :: ((st.drop (rw me).2.2.2.2.1).map (px_v ad)) := by
          have := congrArg (List.map (px_v ad)) hst2
          rw [this]
          simp [px_v]
        have hpre : PreS s H (va_Pc ((Value.ref q :: As).map (px_v ad)) (px_Pre ad base dC dI dA ex g)) (.ref (ad q) :: As.map (px_v ad)) := ⟨px_blind g _, fun U hU hW => ⟨rfl, px_preU V I hU hW⟩⟩
        rcases hkd with rfl | rfl
        · obtain ⟨n0, ⟨m1, m2, m3, m4, m5⟩, hna, hrt, g1, g2, g3⟩ := hm
          have hM := hsnd me m5 n (Value.ref q :: As) g r g' ad base dC dI dA ex _ hrun hlen V.1 rfl hex
          have hcb := callB_of (R := R) (own := (rw md).1.cls) (rm := px_rm (rw me).2.2.2.2.2.1 (g'.1 - g.1)) (mc := g'.1 - g.1) (ms := 1000 * (g'.1 - g.1)) n0 hts (px_goodws m1) rfl rfl rfl (hts _ m2) (hts _ g1) m3 (px_room m5 m4 hRf hRl)
          rw [hrt] at hcb
          exact goon (va_runI (As := As.map (px_v ad)) hfix hM ⟨hcb, g2, hts _ g3⟩ hpre rfl (hAl n0 hna) hl.1 hstk (hsum _ hcs) hdg ⟨hc, hs⟩)
        · obtain ⟨n0, ⟨m1, m2, m3, m4, m5⟩, hna, hrt, g1, g2, g3⟩ := hm
          have hM := hsnd me m5 n (Value.ref q :: As) g r g' ad base dC dI dA ex _ hrun hlen V.1 rfl hex
          have hcb := va_cnB (R := R) (own := (rw md).1.cls) (rm := px_rm (rw me).2.2.2.2.2.1 (g'.1 - g.1)) (mc := g'.1 - g.1) (ms := 1000 * (g'.1 - g.1)) n0 hts (px_goodws m1) rfl rfl rfl (V.2.2.2.1 _ g1) (hts _ m2) m3 (px_room m5 m4 hRf hRl)
          rw [hrt] at hcb
          exact goon (va_runIN (As := As.map (px_v ad)) hfix hM ⟨hcb, g2, hts _ g3⟩ hpre rfl (hAl n0 hna) hl.1 hstk (hsum _ hcs) hdg ⟨hc, hs⟩)
      · cases h
    · cases h
  · cases h
end
section
variable {p : Program} {l : Launch} {e : Env} {R : Room} {s : State} {m : MethodId} {args : Array Value} {below : List Frame} {meth : Method} {c : Code} {H : Heap} {locs : List Loc} {cells slots : Nat} {Q : State → Prop} {pc : Nat} {ls : Array Slot} {ad : Nat → Nat} {base : Nat} {dC : Nat → ClassId} {dI : Nat → Nat → Nat} {dA : Nat → ClassId} {ex : Bool} {rw : Nat → px_R} {md : Nat}
/-- the array classes that the tables tell -/
def px_wz : Prop := Jvm.Cond.arrayClass .int ∈ px_T ∧ Jvm.Cond.arrayClass .long ∈ px_T ∧ Jvm.Cond.arrayClass .boolean ∈ px_T
set_option maxHeartbeats 4000000 in
/-- one instruction that goes on in its method -/
theorem px_step_W (C : px_Ctx rw md p s m args meth c) (hLk : ∀ q ∈ (rw md).2.2.2.2.2.2, px_LK rw (rw md) q) (V : px_Wd ad base dC dI dA s) (hwz : px_wz) {L L' st st' : List Value} {g g' : px_G} {pc' : Nat} (hRf : 1 ≤ R.frames) (hRl : 100 ≤ R.locals)
    (h : px_one rw md pc L st g = some (.inl (pc', L', st', g'))) (I : px_Inv ad base dC dI dA ex s g H locs) (hl : px_L ad ls (rw md).2.2.1 L) (hbs : base ≤ s.heap.size) (hex : g.1 < g'.1 → ex = true) (hc : cells + (g'.1 - g.1) ≤ R.cells) (hs : slots + 1000 * (g'.1 - g.1) ≤ R.slots)
    (kk : ∀ (H1 : Heap) (locs1 : List Loc) (ls1 : Array Slot), px_Inv ad base dC dI dA ex s g' H1 locs1 → px_L ad ls1 (rw md).2.2.1 L' → W p l e R s m args below meth c H1 locs1 (cells + (g'.1 - g.1)) (slots + 1000 * (g'.1 - g.1)) Q (F0 m pc' ls1 (st'.map (px_v ad)))) : W p l e R s m args below meth c H locs cells slots Q (F0 m pc ls (st.map (px_v ad))) := by
  have C0 := C
  obtain ⟨hx, hb, hml, hown, hts, hnm⟩ := C
  have same : g'.1 = g.1 → ∀ (H1 : Heap) (locs1 : List Loc) (ls1 : Array Slot), px_Inv ad base dC dI dA ex s g' H1 locs1 → px_L ad ls1 (rw md).2.2.1 L' → W p l e R s m args below meth c H1 locs1 cells slots Q (F0 m pc' ls1 (st'.map (px_v ad))) := by
    intro e1 H1 l1 s1 I1 hl1
    have := kk H1 l1 s1 I1 hl1
    rw [e1, Nat.sub_self, Nat.mul_zero, Nat.add_zero, Nat.add_zero] at this
    exact this
  unfold px_one at h
  split at h
  · rename_i i len hdg
    unfold px_ex at h
    split at h
    · rename_i off st1 hsw
      split at h
      · rename_i h0
        cases h
        exact px_sw_W hx hb hdg hsw h0 (same rfl H locs ls I hl)
      · cases h
    · split at h
      · rename_i hln
        subst hln
        split at h
        · rename_i hp; cases h; exact px_pure_W hx hb hdg hp (same rfl H locs ls I hl)
        · split at h
          · rename_i hp; cases h; exact px_loc_W hx hb hdg hp hl (fun ls1 hl1 => same rfl H locs ls1 I hl1)
          · split at h
            · rename_i hp
              split at h
              · rename_i h0; cases h; exact px_br_W hx hb hdg hp h0 (same rfl H locs ls I hl)
              · cases h
            · split at h
              · rename_i hp; cases h
                exact px_mem_W C0 hLk V hdg hp I (fun H1 l1 I1 => same (px_mem_n hp) H1 l1 ls I1 hl)
              · split at h
                · rename_i hp; cases h
                  have hn := px_mk_n hp
                  have e1 : g'.1 - g.1 = 1 := by omega
                  rw [e1] at hc hs kk
                  exact px_mk_W C0 hLk V hwz hdg hp I hbs (hex (by omega)) hc (by omega) (fun H1 I1 => kk H1 locs ls I1 hl)
                · split at h
                  · rename_i hp; cases h
                    unfold px_oi at hp
                    split at hp
                    · split at hp
                      rename_i kd y w z hlk
                      split at hp
                      · rename_i hc1
                        obtain ⟨rfl, hcs⟩ := hc1
                        cases hp
                        have hm := hLk _ (px_lk_mem hlk (by simp))
                        obtain ⟨m1, m2, m3⟩ := hm
                        refine W.objInit hx hb hown (hts _ m1) (hts _ m2) (hts _ m3) rfl (hl.1.trans hml.symm) rfl hdg hRf ?_ (same rfl H locs ls I hl)
                        exact Nat.le_trans (Nat.add_le_add_right (lv_room (by rw [px_mapsum]; exact hcs)) 12) (by omega)
                      · cases hp
                    · cases hp
                  · split at h
                    · cases h
                    · split at h
                      · cases h
                      · cases h
      · cases h
  · cases h
end
