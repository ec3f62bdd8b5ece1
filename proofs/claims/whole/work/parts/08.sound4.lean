/-! THE PURE MACHINE IS SOUND: memory as a whole, what is made. -/
section
variable {p : Program} {l : Launch} {e : Env} {R : Room} {s : State} {m : MethodId} {args : Array Value} {below : List Frame} {meth : Method} {c : Code} {H : Heap} {locs : List Loc} {cells slots : Nat} {Q : State → Prop} {pc : Nat} {ls : Array Slot} {ad : Nat → Nat} {base : Nat} {dC : Nat → ClassId} {dI : Nat → Nat → Nat} {dA : Nat → ClassId} {ex : Bool} {rw : Nat → px_R} {md : Nat}
set_option maxHeartbeats 4000000 in
theorem px_mem_W (C : px_Ctx rw md p s m args meth c) (hLk : ∀ q ∈ (rw md).2.2.2.2.2.2, px_LK rw (rw md) q) (V : px_Wd ad base dC dI dA s) {i : Instr} {st st' : List Value} {g g' : px_G}
    (hdg : decode (rw md).2.1 pc = .ok (i, px_len i)) (h : px_mem (rw md).2.2.2.2.2.2 i st g = some (st', g')) (I : px_Inv ad base dC dI dA ex s g H locs)
    (kk : ∀ (H1 : Heap) (locs1 : List Loc), px_Inv ad base dC dI dA ex s g' H1 locs1 → W p l e R s m args below meth c H1 locs1 cells slots Q (F0 m (pc + px_len i) ls (st'.map (px_v ad)))) : W p l e R s m args below meth c H locs cells slots Q (F0 m pc ls (st.map (px_v ad))) := by
  have C0 := C
  have V0 := V
  obtain ⟨hx, hb, hml, hown, hts, hnm⟩ := C
  obtain ⟨had, hK, hZ, hN⟩ := V
  unfold px_mem at h
  split at h
  · -- getfield
    split at h
    rename_i kd ci k z hlk
    split at h
    · rename_i hkd
      cases hv : px_gf (g.2 _) ci k with
      | none => rw [hv] at h; cases h
      | some v =>
        rw [hv] at h; cases h
        exact px_getf_W C0 hLk V0 hdg hlk hkd hv I (kk H locs I)
    · cases h
  · -- putfield
    split at h
    rename_i kd ci k z hlk
    split at h
    · rename_i hkd
      cases hv : px_pf (g.2 _) ci k _ with
      | none => rw [hv] at h; cases h
      | some v =>
        rw [hv] at h; cases h
        exact px_putf_W C0 hLk V0 hdg hlk hkd.1 hkd.2 hv I (fun H1 l1 I1 => kk H1 l1 I1)
    · cases h
  · -- getstatic
    split at h
    rename_i kd a y z hlk
    split at h
    · rename_i hkd
      subst hkd
      cases h
      have hm := hLk _ (px_lk_mem hlk (by simp))
      rcases hm with ⟨rfl, hm⟩ | ⟨rfl, hm⟩
      · exact va_gets hx hb hZ.1 I.2.2.2.1 hown (hts _ hm) (fun _ h => h) hdg (kk H locs I)
      · exact va_gets hx hb hZ.2 I.2.2.2.1 hown (hts _ hm) (fun _ h => h) hdg (kk H locs I)
    · cases h
  · -- ldc
    split at h
    rename_i kd a y z hlk
    split at h
    · rename_i hkd
      subst hkd
      cases h
      have hm := hLk _ (px_lk_mem hlk (by simp))
      exact lv_ldc hx hb hown (hts _ hm) hdg (kk H locs I)
    · cases h
  · -- ldc_w
    split at h
    rename_i kd a y z hlk
    split at h
    · rename_i hkd
      subst hkd
      cases h
      have hm := hLk _ (px_lk_mem hlk (by simp))
      exact lv_ldcw hx hb hown (hts _ hm) hdg (kk H locs I)
    · cases h
  · -- ldc2_w
    split at h
    rename_i kd a y z hlk
    split at h
    · rename_i hkd
      subst hkd
      cases h
      have hm := hLk _ (px_lk_mem hlk (by simp))
      exact lv_ldc2 hx hb hown (hts _ hm) hdg (kk H locs I)
    · cases h
  · -- iaload
    split at h
    · rename_i t n f hq
      split at h
      · rename_i hc
        cases h
        obtain ⟨ht | ht, hin⟩ := hc
        · subst ht
          have hqn := I.1.arr hq (by decide)
          have ha := px_w_at (ad := ad) (dA := dA) hqn
          rw [hq] at ha
          exact va_iald hx hb hK I.2.2.1 _ 0 ha rfl (px_vin hin) hdg (kk H locs I)
        · subst ht
          exact va_ti hx hb (I.2.1 _ _ _ hq) I.2.2.2.1 (px_vin hin) rfl hdg (kk H locs I)
      · cases h
    · cases h
  · -- baload
    split at h
    · rename_i t n f hq
      split at h
      · rename_i hc
        cases h
        obtain ⟨ht, hin⟩ := hc
        subst ht
        have hqn := I.1.arr hq (by decide)
        have ha := px_w_at (ad := ad) (dA := dA) hqn
        rw [hq] at ha
        exact va_zald hx hb hK I.2.2.1 _ 2 ha rfl (px_vin hin) hdg (kk H locs I)
      · cases h
    · cases h
  · -- laload
    split at h
    · rename_i t n f hq
      split at h
      · rename_i hc
        cases h
        obtain ⟨ht, hin⟩ := hc
        subst ht
        have hqn := I.1.arr hq (by decide)
        have ha := px_w_at (ad := ad) (dA := dA) hqn
        rw [hq] at ha
        exact va_lald hx hb hK I.2.2.1 _ 1 ha rfl (px_vin hin) hdg (kk H locs I)
      · cases h
    · cases h
  · -- aaload
    split at h
    · rename_i t n f hq
      split at h
      · rename_i hc
        obtain ⟨ht, hin⟩ := hc
        subst ht
        have hqn := I.1.arr hq (by decide)
        have ha := px_w_at (ad := ad) (dA := dA) hqn
        rw [hq] at ha
        cases hf : f (Int32.toNatClampNeg _) with
        | none => rw [hf] at h; cases h
        | some v =>
          rw [hf] at h; cases h
          refine va_aldq hx hb hK I.2.2.1 _ 3 ha rfl (px_vin hin) hdg ?_
          rw [hf]
          exact kk H locs I
      · cases h
    · cases h
  · -- arraylength
    split at h
    · rename_i t n f hq
      split at h
      · rename_i hc
        cases h
        by_cases ht9 : t = 9
        · subst ht9
          exact va_tlen hx hb (I.2.1 _ _ _ hq) I.2.2.2.1 rfl hdg (kk H locs I)
        · have hqn := I.1.arr hq ht9
          have ha := px_w_at (ad := ad) (dA := dA) hqn
          rw [hq] at ha
          rcases hc with rfl | rfl | rfl
          · exact va_alen hx hb hK I.2.2.1 _ 0 ha rfl rfl hdg (kk H locs I)
          · exact va_alen hx hb hK I.2.2.1 _ 2 ha rfl rfl hdg (kk H locs I)
          · exact absurd rfl ht9
      · cases h
    · rename_i t n f hq
      split at h
      · rename_i hc
        subst hc
        cases h
        have hqn := I.1.arr hq (by decide)
        have ha := px_w_at (ad := ad) (dA := dA) hqn
        rw [hq] at ha
        exact va_alen hx hb hK I.2.2.1 _ 1 ha rfl rfl hdg (kk H locs I)
      · cases h
    · rename_i t n f hq
      split at h
      · rename_i hc
        subst hc
        cases h
        have hqn := I.1.arr hq (by decide)
        have ha := px_w_at (ad := ad) (dA := dA) hqn
        rw [hq] at ha
        exact va_alen hx hb hK I.2.2.1 _ 3 ha rfl rfl hdg (kk H locs I)
      · cases h
    · cases h
  · -- iastore
    split at h
    · rename_i t n f hq
      split at h
      · rename_i hc
        obtain ⟨ht, hin⟩ := hc
        subst ht
        cases h
        exact px_iast_W C0 V0 hdg hq hin I (fun H1 l1 I1 => kk H1 l1 I1)
      · cases h
    · cases h
  · -- bastore
    split at h
    · rename_i t n f hq
      split at h
      · rename_i hc
        obtain ⟨ht, hin⟩ := hc
        subst ht
        cases h
        exact px_zast_W C0 V0 hdg hq hin I (fun H1 l1 I1 => kk H1 l1 I1)
      · cases h
    · cases h
  · -- lastore
    split at h
    · rename_i t n f hq
      split at h
      · rename_i hc
        obtain ⟨ht, hin⟩ := hc
        subst ht
        cases h
        exact px_last_W C0 V0 hdg hq hin I (fun H1 l1 I1 => kk H1 l1 I1)
      · cases h
    · cases h
  · -- aastore
    split at h
    · rename_i t n f cj vs hq hv
      split at h
      · rename_i hc
        obtain ⟨ht, hc4, hin⟩ := hc
        subst ht; subst hc4
        cases h
        exact px_aast_W C0 V0 hdg hq hv hin I (fun H1 l1 I1 => kk H1 l1 I1)
      · cases h
    · cases h
  · cases h
/-- a cell is made: the world behind it -/
theorem px_Inv.mk {g : px_G} {cl : va_E} (had : px_Ad base ad) (I : px_Inv ad base dC dI dA ex s g H locs) (hb : base ≤ s.heap.size) (hn : g.1 < 1000) (hro : px_ro cl = false) (hex : ex = true) {H1 : Heap}
    (he : va_at (dC, dI) vwCl (H.size, px_tr ad dA cl) H1) (hz : H1.size = H.size + 1) (oq : ∀ x : Nat, x < H.size → H1[x]? = H[x]?) : H.size = ad g.1 ∧ px_Inv ad base dC dI dA ex s (px_new g cl) H1 locs := by
  obtain ⟨h1, h2, h3, h4, h5, h6⟩ := I
  have e1 : H.size = ad g.1 := by rw [had.1 g.1 hn]; exact h6 hex
  refine ⟨e1, h1.new hn, h2.up rfl hro, ?_, ?_, ?_, fun _ => ?_⟩
  · rw [← px_w_new]
    refine va_P.app (h3.kept fun k q hk => oq q.1 (h3 k q hk).lt) ?_
    intro k q hk
    have hz : k < 1 := (List.getElem?_eq_some_iff.mp hk).1
    rw [show k = 0 by omega] at hk
    cases hk
    rw [← e1]
    exact he
  · exact ⟨by rw [hz]; exact Nat.le_trans h4.1 (by omega), fun q hq hA => (oq q (Nat.lt_of_lt_of_le hq h4.1)).trans (h4.2.1 q hq hA), h4.2.2⟩
  · show base + (g.1 + 1) ≤ H1.size
    omega
  · show H1.size = base + (g.1 + 1)
    have := h6 hex
    omega
theorem px_mk_n {ks : List (Nat × px_K)} {i : Instr} {st st' : List Value} {g g' : px_G} (h : px_mk ks i st g = some (st', g')) : g'.1 = g.1 + 1 := by
  unfold px_mk at h
  split at h
  · split at h; split at h
    · cases h; rfl
    · cases h
  · split at h
    · cases h; rfl
    · cases h
  · split at h
    · cases h; rfl
    · cases h
  · split at h
    · cases h; rfl
    · cases h
  · split at h; split at h
    · cases h; rfl
    · cases h
  · cases h
set_option maxHeartbeats 4000000 in
theorem px_mk_W (C : px_Ctx rw md p s m args meth c) (hLk : ∀ q ∈ (rw md).2.2.2.2.2.2, px_LK rw (rw md) q) (V : px_Wd ad base dC dI dA s) {i : Instr} {st st' : List Value} {g g' : px_G} (hwz : Jvm.Cond.arrayClass .int ∈ px_T ∧ Jvm.Cond.arrayClass .long ∈ px_T ∧ Jvm.Cond.arrayClass .boolean ∈ px_T)
    (hdg : decode (rw md).2.1 pc = .ok (i, px_len i)) (h : px_mk (rw md).2.2.2.2.2.2 i st g = some (st', g')) (I : px_Inv ad base dC dI dA ex s g H locs) (hbs : base ≤ s.heap.size) (hex : ex = true) (hcells : cells + 1 ≤ R.cells) (hslots : slots + 1000 ≤ R.slots)
    (kk : ∀ (H1 : Heap), px_Inv ad base dC dI dA ex s g' H1 locs → W p l e R s m args below meth c H1 locs (cells + 1) (slots + 1000) Q (F0 m (pc + px_len i) ls (st'.map (px_v ad)))) : W p l e R s m args below meth c H locs cells slots Q (F0 m pc ls (st.map (px_v ad))) := by
  obtain ⟨hx, hb, hml, hown, hts, hnm⟩ := C
  obtain ⟨had, hK, hZ, hN⟩ := V
  unfold px_mk at h
  split at h
  · -- new
    split at h
    rename_i kd ci y z hlk
    split at h
    · rename_i hkd
      obtain ⟨rfl, hn⟩ := hkd
      cases h
      have hm := hLk _ (px_lk_mem hlk (by simp))
      obtain ⟨⟨C, T, N⟩, ⟨r1, r2, r3, r4, r5, r6⟩, g1, g2, g3⟩ := hm
      dsimp only at r1 r2 r3 r4 r5 g1 g2 g3
      have hKn := hK.1 ci _ r1
      have hN : px_N ci = N := by simp [px_N, r1]
      refine W.newcK hx hb hown (hts _ g1) (hts _ g2) (hts _ g3) rfl hdg hcells (by omega) hKn.2.1 rfl fun H1 kC hkC e1 z1 o1 => ?_
      refine W.widen (k := cells + 1) (n := slots + 1000) (Nat.le_refl _) (by omega) ?_
      have hmk := I.mk (cl := .inr (ci, (List.range (px_N ci)).map (fun k => defaultValue (px_ty ci k)))) had hbs hn rfl hex (H1 := H1) ?_ z1 o1
      · rw [hmk.1]
        exact kk H1 hmk.2
      · refine ⟨_, r1, (u_born (px_ty ci) hts r4 hKn hkC e1 r2).to ?_⟩
        intro j hj
        have hjl : j < N := hj
        have e9 : px_v ad (defaultValue (px_ty ci j)) = defaultValue (px_ty ci j) := by cases px_ty ci j <;> rfl
        simp [vp_V, hN, hjl, e9]
    · cases h
  · split at h
    · rename_i hc
      obtain ⟨h1, h2, hn⟩ := hc
      cases h
      refine va_newaK (atype := .int) hx hb (hts _ hwz.1) rfl hdg rfl h1 rfl (by show _ * 4 ≤ _; omega) hcells (by omega) rfl fun H1 cA e1 z1 o1 hAr hNm => ?_
      refine W.widen (k := cells + 1) (n := slots + 1000) (Nat.le_refl _) (by omega) ?_
      have hcA : cA = dA 0 := Option.some.inj (hNm.symm.trans (hK.2 0 _ rfl).2)
      subst hcA
      have hmk := I.mk (cl := .inl (0, _, .inl (fun _ => 0))) had hbs hn rfl hex (H1 := H1) e1 z1 o1
      show W p l e R s m args below meth c H1 locs _ _ Q (F0 m (pc + 2) ls (.ref H.size :: _))
      rw [hmk.1]
      exact kk H1 hmk.2
    · cases h
  · split at h
    · rename_i hc
      obtain ⟨h1, h2, hn⟩ := hc
      cases h
      refine va_newaK (atype := .long) hx hb (hts _ hwz.2.1) rfl hdg rfl h1 rfl (by show _ * 8 ≤ _; omega) hcells (by omega) rfl fun H1 cA e1 z1 o1 hAr hNm => ?_
      refine W.widen (k := cells + 1) (n := slots + 1000) (Nat.le_refl _) (by omega) ?_
      have hcA : cA = dA 1 := Option.some.inj (hNm.symm.trans (hK.2 1 _ rfl).2)
      subst hcA
      have hmk := I.mk (cl := .inl (1, _, .inr (.inl (fun _ => 0)))) had hbs hn rfl hex (H1 := H1) e1 z1 o1
      show W p l e R s m args below meth c H1 locs _ _ Q (F0 m (pc + 2) ls (.ref H.size :: _))
      rw [hmk.1]
      exact kk H1 hmk.2
    · cases h
  · split at h
    · rename_i hc
      obtain ⟨h1, h2, hn⟩ := hc
      cases h
      refine va_newaK (atype := .boolean) hx hb (hts _ hwz.2.2) rfl hdg rfl h1 rfl (by show _ * 1 ≤ _; omega) hcells (by omega) rfl fun H1 cA e1 z1 o1 hAr hNm => ?_
      refine W.widen (k := cells + 1) (n := slots + 1000) (Nat.le_refl _) (by omega) ?_
      have hcA : cA = dA 2 := Option.some.inj (hNm.symm.trans (hK.2 2 _ rfl).2)
      subst hcA
      have hmk := I.mk (cl := .inl (2, _, .inl (fun _ => 0))) had hbs hn rfl hex (H1 := H1) e1 z1 o1
      show W p l e R s m args below meth c H1 locs _ _ Q (F0 m (pc + 2) ls (.ref H.size :: _))
      rw [hmk.1]
      exact kk H1 hmk.2
    · cases h
  · rename_i i0 n0 st0
    split at h
    rename_i kd y w z hlk
    split at h
    · rename_i hc
      obtain ⟨⟨rfl, rfl⟩, h1, h2, hn⟩ := hc
      cases h
      have hm := hLk _ (px_lk_mem hlk (by simp))
      obtain ⟨r, ⟨r1, -⟩, g1, -⟩ := hm
      cases r1
      refine W.anew (C := "DotScreens$Ink") hx hb hown (hts _ g1) (va_AO.use hN.2) rfl hdg rfl h1 (by omega) hcells (by omega) fun cA kA comp f1 f2 f3 f4 => ?_
      refine W.widen (k := cells + 1) (n := slots + 1000) (Nat.le_refl _) (by omega) ?_
      have hcA : cA = dA 3 := by
        obtain ⟨kA2, comp2, k1, k2, k3, k4⟩ := (hK.2 3 _ rfl).2
        first | exact Option.some.inj (f1.symm.trans k4) | exact Option.some.inj (f4.symm.trans k4)
      subst hcA
      generalize hH1 : H.push _ = H1
      have z1 : H1.size = H.size + 1 := by rw [← hH1, Array.size_push]
      have e1 : H1[H.size]? = some (arrV (dA 3) (Int32.toNatClampNeg n0) (fun _ => .null)) := by rw [← hH1, Array.getElem?_push_size, ← arrV_new]
      have o1 : ∀ q : Nat, q < H.size → H1[q]? = H[q]? := fun q hq => by rw [← hH1, Array.getElem?_push, if_neg (Nat.ne_of_lt hq)]
      have hmk := I.mk (cl := .inl (3, _, .inr (.inr (.inr (.inr (fun _ => none)))))) had hbs hn rfl hex (H1 := H1) e1 z1 o1
      show W p l e R s m args below meth c H1 locs _ _ Q (F0 m (pc + 3) ls (.ref H.size :: _))
      rw [hmk.1]
      exact kk H1 hmk.2
    · cases h
  · cases h
end
