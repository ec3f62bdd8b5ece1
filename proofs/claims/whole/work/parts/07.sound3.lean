/-! THE PURE MACHINE IS SOUND: what is written. -/
section
variable {p : Program} {l : Launch} {e : Env} {R : Room} {s : State} {m : MethodId} {args : Array Value} {below : List Frame} {meth : Method} {c : Code} {H : Heap} {locs : List Loc} {cells slots : Nat} {Q : State → Prop} {pc : Nat} {ls : Array Slot} {ad : Nat → Nat} {base : Nat} {dC : Nat → ClassId} {dI : Nat → Nat → Nat} {dA : Nat → ClassId} {ex : Bool} {rw : Nat → px_R} {md : Nat}
/-- a cell has another content: the world behind it -/
theorem px_Inv.up {g : px_G} {q k : Nat} {cl : va_E} (had : px_Ad base ad) (I : px_Inv ad base dC dI dA ex s g H locs) (hq : q < g.1) (hro : px_ro cl = false) {H1 : Heap}
    (he : va_at (dC, dI) vwCl (ad q, px_tr ad dA cl) H1) (hz : H1.size = H.size) (oq : ∀ x : Nat, x ≠ ad q → H1[x]? = H[x]?) : px_Inv ad base dC dI dA ex s (px_set g q cl) H1 (locs ++ [⟨ad q, k⟩]) := by
  have hg : g.1 ≤ 1000 := I.1.1
  have hb : base ≤ ad q := by rw [had.1 q (by omega)]; omega
  have hD := px_D (dA := dA) had hg
  have hP := I.2.2.1
  have hS := I.2.2.2.1
  exact I.put hq hro hz (hP.set hD (px_w_at hq) he oq) (hS.put hz oq hb)
set_option maxHeartbeats 4000000 in
theorem px_putf_W (C : px_Ctx rw md p s m args meth c) (hLk : ∀ q ∈ (rw md).2.2.2.2.2.2, px_LK rw (rw md) q) (V : px_Wd ad base dC dI dA s) {i q kd ci k : Nat} {z : Int} {v : Value} {cl : va_E} {st : List Value} {g : px_G}
    (hdg : decode (rw md).2.1 pc = .ok (.putfield i, 3)) (hlk : px_lk (rw md).2.2.2.2.2.2 i = (kd, ci, k, z)) (hkd : kd < 3) (hft : px_fit (px_ty ci k) v = true) (hv : px_pf (g.2 q) ci k v = some cl) (I : px_Inv ad base dC dI dA ex s g H locs)
    (kk : ∀ (H1 : Heap) (locs1 : List Loc), px_Inv ad base dC dI dA ex s (px_set g q cl) H1 locs1 → W p l e R s m args below meth c H1 locs1 cells slots Q (F0 m (pc + 3) ls st)) : W p l e R s m args below meth c H locs cells slots Q (F0 m pc ls (px_v ad v :: .ref (ad q) :: st)) := by
  obtain ⟨hx, hb, hml, hown, hts, hnm⟩ := C
  obtain ⟨had, hK, hZ, hN⟩ := V
  have I0 := I
  obtain ⟨hWF, hRO, hP, hS0, hsz, hex⟩ := I
  have hm := hLk _ (px_lk_mem hlk (by show kd ≠ 99; omega))
  unfold px_pf at hv
  split at hv
  · rename_i cj fs hq
    split at hv
    · rename_i hcj
      obtain ⟨hcj, hl⟩ := hcj
      subst hcj
      cases hv
      obtain ⟨hn, hfit⟩ := px_fit_v hft ad
      have hl2 : k < (fs.map (px_v ad)).length := by rw [List.length_map]; exact hl
      have hset : (fs.set k v).map (px_v ad) = (fs.map (px_v ad)).set k (px_v ad v) := by rw [List.map_set]
      have h5 : kd = 0 ∨ kd = 1 ∨ kd = 2 := by omega
      have hCO : ∃ r : vw_C, px_CO cj r ∧ k < r.2.2 := by
        rcases h5 with rfl | rfl | rfl
        · obtain ⟨r, h1, h2, -⟩ := hm; exact ⟨r, h1, h2⟩
        · obtain ⟨r, h1, h2, -⟩ := hm; exact ⟨r, h1, h2⟩
        · obtain ⟨r, h1, h2, -⟩ := hm; exact ⟨r, h1, h2⟩
      obtain ⟨⟨C, T, N⟩, ⟨r1, r2, r3, r4, r5, r6⟩, hk⟩ := hCO
      dsimp only at r1 r2 r3 r4 r5 hk
      have hqn : q < g.1 := hWF.obj hq r6
      have he : (px_w ad dA g)[q]? = some (ad q, .inr (cj, fs.map (px_v ad))) := by rw [px_w_at hqn, hq]; rfl
      have hap := va_apart (own := (rw md).1.cls) hts r4 (px_ty cj) r2 r3 hK r1
      obtain ⟨r', h1, cell, q1, q2, q3, q4⟩ := hP q _ he
      have hr : r' = (C, T, N) := Option.some.inj (h1.symm.trans r1)
      subst hr
      obtain ⟨hS, hfc, kC, hkC, hkind⟩ := hK.1 cj _ r1
      obtain ⟨cf, kf, fi, f, hi, hsl⟩ := hS k hk
      have hlay := hts _ (r4 _ (u_in_lay hk))
      have hst := (u_facts hfc hkC (u_lays hts r4 hk) hi).1
      have fin : ∀ (H' : Heap), H'[ad q]? = some (cell.setSlot ((dI cj) k) (px_v ad v)) → H'.size = H.size → (∀ x, x ≠ ad q → H'[x]? = H[x]?) → W p l e R s m args below meth c H' (locs ++ [⟨ad q, (dI cj) k⟩]) cells slots Q (F0 m (pc + 3) ls st) := by
        intro H' e1 e2 e3
        refine kk H' _ (I0.up had hqn rfl ?_ e2 e3)
        show ∃ r : vw_C, vwCl[cj]? = some r ∧ t_OB (ad q) (dC cj) r.2.2 (dI cj) H' (vp_V ((fs.set k v).map (px_v ad)))
        rw [hset]
        exact ⟨_, r1, t_OB.to (V := updV (vp_V (fs.map (px_v ad))) k (px_v ad v)) ⟨_, e1, q2, q3, t_set q4 hap hk (px_v ad v)⟩ (fun j _ => vp_updV_set hl2 (px_v ad v) j)⟩
      unfold u_lay at hlay
      rcases h5 with rfl | rfl | rfl
      · obtain ⟨r, g1, g2, g3, g4⟩ := hm
        have hr : r = (C, T, N) := Option.some.inj (g1.1.symm.trans r1)
        subst hr
        rw [if_neg (by rw [g4]; decide)] at hlay
        have h6 := u_store hfc hkC hkind hlay hi (r2 k hk) hn hfit
        refine W.putK hx hb (f := f) ⟨hown, hts _ g3, ⟨_, _, _, hi⟩, hst⟩ (by rw [q2]; exact h6) q1 q3 (by rw [hsl]; exact k2_hasslot (q4 k hk)) rfl rfl hdg fun H' e1 e2 e3 => ?_
        rw [hsl] at e1 ⊢
        exact fin H' e1 e2 e3
      · obtain ⟨r, g1, g2, g3, g4⟩ := hm
        have hr : r = (C, T, N) := Option.some.inj (g1.1.symm.trans r1)
        subst hr
        rw [if_neg (by rw [g4]; decide)] at hlay
        have h6 := u_store hfc hkC hkind hlay hi (r2 k hk) hn hfit
        refine va_WputK hx hb (f := f) hown (va_Nw.use rfl (hN.1 _ g3)) hi hst (by rw [q2]; exact h6) q1 q3 (by rw [hsl]; exact k2_hasslot (q4 k hk)) rfl rfl hdg fun H' e1 e2 e3 => ?_
        rw [hsl] at e1 ⊢
        exact fin H' e1 e2 e3
      · obtain ⟨r, g1, g2, g3, g4, g5, g6⟩ := hm
        have hr : r = (C, T, N) := Option.some.inj (g1.1.symm.trans r1)
        subst hr
        rw [if_pos g4] at hlay
        have hcf : m.cls = cf := by
          obtain ⟨_, _, c', _, _, _, -, -, hf', -, -, -, hown2, -⟩ := Cond.laysFinal_spec hlay
          have e1 : c' = cf := by have := hi.symm.trans hf'; simp at this; exact this.1.symm
          rw [g5] at hown2
          rw [← e1]; exact Option.some.inj (hown.symm.trans hown2)
        have h6 := u_fits hfc hkC hkind (Or.inr hlay) hi (r2 k hk) hn hfit
        refine W.putFinK hx hb hown (hts _ g3) hi hst hcf (hnm.trans g6) (by rw [q2]; exact h6) q1 q3 (by rw [hsl]; exact k2_hasslot (q4 k hk)) rfl rfl hdg fun H' e1 e2 e3 => ?_
        rw [hsl] at e1 ⊢
        exact fin H' e1 e2 e3
    · cases hv
  · cases hv
set_option maxHeartbeats 4000000 in
theorem px_iast_W (C : px_Ctx rw md p s m args meth c) (V : px_Wd ad base dC dI dA s) {q n : Nat} {f : Nat → Int32} {i x : Int32} {st : List Value} {g : px_G}
    (hdg : decode (rw md).2.1 pc = .ok (.iastore, 1)) (hq : g.2 q = .inl (0, n, .inl f)) (hin : px_in i n) (I : px_Inv ad base dC dI dA ex s g H locs)
    (kk : ∀ (H1 : Heap) (locs1 : List Loc), px_Inv ad base dC dI dA ex s (px_set g q (.inl (0, n, .inl (upd f i.toNatClampNeg x)))) H1 locs1 → W p l e R s m args below meth c H1 locs1 cells slots Q (F0 m (pc + 1) ls st)) : W p l e R s m args below meth c H locs cells slots Q (F0 m pc ls (.int x :: .int i :: .ref (ad q) :: st)) := by
  obtain ⟨hx, hb, hml, hown, hts, hnm⟩ := C
  obtain ⟨had, hK, hZ, hN⟩ := V
  have hqn : q < g.1 := I.1.arr hq (by decide)
  have ha : (px_w ad dA g)[q]? = some (ad q, .inl (dA 0, n, .inl f)) := by rw [px_w_at hqn, hq]; rfl
  refine W.iast hx hb (I.2.2.1 q _ ha) ((hK.2 0 _ rfl).1 n (fun j => .int (f j))) (fun q => by cases q) (by show ¬ (i < 0 ∨ (arrV _ _ _).slots.size ≤ _); rw [arrV_size]; exact px_vin hin) rfl rfl hdg fun H1 e z oq => ?_
  refine kk H1 _ (I.up had hqn rfl ?_ z oq)
  show H1[ad q]? = some (vp_cell _ _)
  rw [e, vp_cell_i, vp_cell_i, arrV_store]
  congr 2
  funext y
  by_cases hy : y = i.toNatClampNeg
  · subst hy; simp [updV, upd]
  · simp [updV, upd, hy]
set_option maxHeartbeats 4000000 in
theorem px_zast_W (C : px_Ctx rw md p s m args meth c) (V : px_Wd ad base dC dI dA s) {q n : Nat} {f : Nat → Int32} {i x : Int32} {st : List Value} {g : px_G}
    (hdg : decode (rw md).2.1 pc = .ok (.bastore, 1)) (hq : g.2 q = .inl (2, n, .inl f)) (hin : px_in i n) (I : px_Inv ad base dC dI dA ex s g H locs)
    (kk : ∀ (H1 : Heap) (locs1 : List Loc), px_Inv ad base dC dI dA ex s (px_set g q (.inl (2, n, .inl (upd f i.toNatClampNeg (vp_nar .boolean x))))) H1 locs1 → W p l e R s m args below meth c H1 locs1 cells slots Q (F0 m (pc + 1) ls st)) : W p l e R s m args below meth c H locs cells slots Q (F0 m pc ls (.int x :: .int i :: .ref (ad q) :: st)) := by
  obtain ⟨hx, hb, hml, hown, hts, hnm⟩ := C
  obtain ⟨had, hK, hZ, hN⟩ := V
  have hqn : q < g.1 := I.1.arr hq (by decide)
  have ha : (px_w ad dA g)[q]? = some (ad q, .inl (dA 2, n, .inl f)) := by rw [px_w_at hqn, hq]; rfl
  refine W.zast hx hb (I.2.2.1 q _ ha) ((hK.2 2 _ rfl).1 n (fun j => .int (f j))) (fun q => by cases q) (by show ¬ (i < 0 ∨ (arrV _ _ _).slots.size ≤ _); rw [arrV_size]; exact px_vin hin) rfl rfl hdg fun H1 e z oq => ?_
  refine kk H1 _ (I.up had hqn rfl ?_ z oq)
  show H1[ad q]? = some (vp_cell _ _)
  rw [e, vp_cell_i, vp_cell_i, arrV_store]
  congr 2
  funext y
  by_cases hy : y = i.toNatClampNeg
  · subst hy; simp [updV, upd, vp_nar, narrow]
  · simp [updV, upd, hy]
set_option maxHeartbeats 4000000 in
theorem px_last_W (C : px_Ctx rw md p s m args meth c) (V : px_Wd ad base dC dI dA s) {q n : Nat} {f : Nat → Int64} {i : Int32} {x : Int64} {st : List Value} {g : px_G}
    (hdg : decode (rw md).2.1 pc = .ok (.lastore, 1)) (hq : g.2 q = .inl (1, n, .inr (.inl f))) (hin : px_in i n) (I : px_Inv ad base dC dI dA ex s g H locs)
    (kk : ∀ (H1 : Heap) (locs1 : List Loc), px_Inv ad base dC dI dA ex s (px_set g q (.inl (1, n, .inr (.inl (vp_updL f i.toNatClampNeg x))))) H1 locs1 → W p l e R s m args below meth c H1 locs1 cells slots Q (F0 m (pc + 1) ls st)) : W p l e R s m args below meth c H locs cells slots Q (F0 m pc ls (.long x :: .int i :: .ref (ad q) :: st)) := by
  obtain ⟨hx, hb, hml, hown, hts, hnm⟩ := C
  obtain ⟨had, hK, hZ, hN⟩ := V
  have hqn : q < g.1 := I.1.arr hq (by decide)
  have ha : (px_w ad dA g)[q]? = some (ad q, .inl (dA 1, n, .inr (.inl f))) := by rw [px_w_at hqn, hq]; rfl
  refine W.last hx hb (I.2.2.1 q _ ha) ((hK.2 1 _ rfl).1 n (fun j => .long (f j))) (fun q => by cases q) (by show ¬ (i < 0 ∨ (arrV _ _ _).slots.size ≤ _); rw [arrV_size]; exact px_vin hin) rfl rfl hdg fun H1 e z oq => ?_
  refine kk H1 _ (I.up had hqn rfl ?_ z oq)
  show H1[ad q]? = some (vp_cell _ _)
  rw [e, vp_cell_l, vp_cell_l, arrV_store]
  congr 2
  funext y
  by_cases hy : y = i.toNatClampNeg
  · subst hy; simp [updV, vp_updL]
  · simp [updV, vp_updL, hy]
set_option maxHeartbeats 4000000 in
theorem px_aast_W (C : px_Ctx rw md p s m args meth c) (V : px_Wd ad base dC dI dA s) {q n v : Nat} {vs : List Value} {f : Nat → Option Nat} {i : Int32} {st : List Value} {g : px_G}
    (hdg : decode (rw md).2.1 pc = .ok (.aastore, 1)) (hq : g.2 q = .inl (3, n, .inr (.inr (.inr (.inr f))))) (hv : g.2 v = .inr (4, vs)) (hin : px_in i n) (I : px_Inv ad base dC dI dA ex s g H locs)
    (kk : ∀ (H1 : Heap) (locs1 : List Loc), px_Inv ad base dC dI dA ex s (px_set g q (.inl (3, n, .inr (.inr (.inr (.inr (va_up f i.toNatClampNeg (some v)))))))) H1 locs1 → W p l e R s m args below meth c H1 locs1 cells slots Q (F0 m (pc + 1) ls st)) : W p l e R s m args below meth c H locs cells slots Q (F0 m pc ls (.ref (ad v) :: .int i :: .ref (ad q) :: st)) := by
  obtain ⟨hx, hb, hml, hown, hts, hnm⟩ := C
  obtain ⟨had, hK, hZ, hN⟩ := V
  have hqn : q < g.1 := I.1.arr hq (by decide)
  have hvn : v < g.1 := I.1.obj hv (by decide)
  have ha : (px_w ad dA g)[q]? = some (ad q, .inl (dA 3, n, .inr (.inr (.inr (.inr (fun j => (f j).map ad)))))) := by rw [px_w_at hqn, hq]; rfl
  have hv2 : (px_w ad dA g)[v]? = some (ad v, .inr (4, vs.map (px_v ad))) := by rw [px_w_at hvn, hv]; rfl
  have hi := px_vin hin
  have hlt : i.toNatClampNeg < n := Nat.not_le.mp fun q => hi (Or.inr q)
  have h0 : ¬ i < 0 := fun q => hi (Or.inl q)
  obtain ⟨r', hr', cellV, g1, g2, g3, -⟩ := I.2.2.1 v _ hv2
  have hcls := (hK.1 4 _ rfl).2
  obtain ⟨kA, comp, k1, k2, k3, -⟩ := (hK.2 3 _ rfl).2
  have hcomp : comp = dC 4 := Option.some.inj (k3.symm.trans hcls.1)
  subst hcomp
  obtain ⟨kC, hkC, -⟩ := hcls.2
  refine W.aast hx hb (I.2.2.1 q _ ha) (fun q h => by cases h) (fun h => by cases h) k1 k2 rfl hkC ⟨h0, by show _ < (arrV _ _ _).slots.size; rw [arrV_size]; exact hlt⟩ g1 (fun q h => by rw [g3] at h; cases h) (by rw [g2]; exact hkC) (by rw [g2]; exact va_assign hcls) rfl rfl hdg fun H1 e z oq => ?_
  refine kk H1 _ (I.up had hqn rfl ?_ z oq)
  show H1[ad q]? = some (vp_cell _ _)
  rw [e, vp_cell_q, vp_cell_q, arrV_store]
  congr 2
  funext y
  by_cases hy : y = i.toNatClampNeg
  · subst hy; simp [updV, va_up, va_rf]
  · simp [updV, va_up, hy]
end
