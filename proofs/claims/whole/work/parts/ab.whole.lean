def R_law : String := "DotScreensLaw"
def lw_P (b : Addr) (xs : List Int32) (args : Array Value) (s : State) : Prop := args = #[.ref b] ∧ s.IntsAt b xs ∧ xs.length ≤ 3584 ∧ (Jvm.Cond.and given_1 narrow_1).before args s = true
def lw_Q (_ : Array Value) (s : State) (o : Outcome) (t : State) : Prop := o = .returned (some (.int 1)) ∧ Framed s o t [] 601024 7293033
def lw_Z (below : List Frame) (a : Array Value) (s : State) : State → Prop := fun t => ∃ o, t.status = .running ∧ Ended t below o ∧ lw_Q a s o t
/-- the law's own end, with 1 on the stack, nothing written that was there before, its room as the claim has it -/
theorem lw_ret {p : Program} {l : Launch} {e : Env} {s : State} {m : MethodId} {below : List Frame} {meth : Method} {c : Code} {b : Nat} (hx : p.tables.exec = Jvm.exec) (hb : c.code = code) (hr : meth.sig.returnType = ret) (hlocks : meth.locks = false) {pc : Nat} {H : Heap} {ls : Array Slot} (hdg : decode code pc = .ok (.ireturn, 1)) : W p l e room_1 s m #[Value.ref b] below meth c H [] 601024 7293033 (lw_Z below #[Value.ref b] s) (F0 m pc ls [.int 1]) := by
  intro T hT X
  obtain ⟨fs, hret, hrun, hended, hW, hframe⟩ := X.leave (v := some (.int 1)) (hlocks := hlocks) (fun h => by rw [hr] at h; cases h)
  have hmeth' : T.vm.method? m = some meth := X.method'
  refine ⟨T.setFrames fs, ?_, .returned (some (.int 1)), hrun, hended, rfl, ⟨_, rfl⟩, hW, hframe⟩
  jvm_step X.here [X.here.top, hx, hb, hdg, hmeth', hr, ret, narrow_b1]
  (try refine ⟨rfl, ?_⟩); (try refine ⟨rfl, ?_⟩)
  first | (intro acts; rw [hret _ acts rfl rfl rfl]) | rw [hret _ _ rfl rfl rfl]
  exact Steps.refl _
/-- what holds at the law's entry: the machine, the code, the tables' words (any of lw_tbl by 'hts w (by decide +kernel)'), the script of L ints xs at the cell b, what the Statement gives of the start (any of its parts by flat_of_before) -/
def lw_At (p : Program) (s : State) (m : MethodId) (meth : Method) (c : Code) (b L : Nat) (xs : Nat → Int32) : Prop :=
  p.tables.exec = Jvm.exec ∧ c.code = code ∧ meth.sig.returnType = ret ∧ c.maxLocals = 7 ∧ s.vm.findClass R_law = some m.cls ∧ (∀ w ∈ lw_tbl, w.before #[Value.ref b] s = true) ∧ va_X b L xs s s.heap ∧ b < s.heap.size ∧ meth.locks = false ∧ (Jvm.Cond.and given_1 narrow_1).before #[Value.ref b] s = true
theorem wi_0 : Jvm.Cond.instantiable RX0 7 ∈ lw_tbl := by decide +kernel
theorem wi_1 : Jvm.Cond.instantiable RX1 14 ∈ lw_tbl := by decide +kernel
theorem wi_2 : Jvm.Cond.instantiable RX2 3 ∈ lw_tbl := by decide +kernel
theorem wi_3 : Jvm.Cond.instantiable RX3 11 ∈ lw_tbl := by decide +kernel
theorem wi_4 : Jvm.Cond.instantiable RX4 18 ∈ lw_tbl := by decide +kernel
theorem wi_5 : Jvm.Cond.instantiable RX5 7 ∈ lw_tbl := by decide +kernel
theorem wi_6 : Jvm.Cond.instantiable RX6 8 ∈ lw_tbl := by decide +kernel
theorem wi_7 : Jvm.Cond.instantiable RX7 4 ∈ lw_tbl := by decide +kernel
theorem wi_8 : Jvm.Cond.instantiable RX8 2 ∈ lw_tbl := by decide +kernel
theorem wi_9 : Jvm.Cond.instantiable RX9 13 ∈ lw_tbl := by decide +kernel
theorem wi_10 : Jvm.Cond.instantiable RX10 52 ∈ lw_tbl := by decide +kernel

theorem wz_x : Jvm.Cond.laysStatic "DotScreensModel" "STEPX" "[I" ∈ lw_tbl := by decide +kernel
theorem wz_y : Jvm.Cond.laysStatic "DotScreensModel" "STEPY" "[I" ∈ lw_tbl := by decide +kernel
theorem wz_i : Jvm.Cond.initialized "DotScreensModel" ∈ lw_tbl := by decide +kernel
theorem wz_o : Jvm.Cond.arrayOver (.object "DotScreens$Ink") ∈ lw_tbl := by decide +kernel
theorem wz_s : Jvm.Cond.stringRef "DotScreens" 134 nsT ∈ lw_tbl := by decide +kernel
theorem wz_u : Jvm.Cond.laysStatic Bundle.tN "UNASSIGNED_STACK" Bundle.steD ∈ lw_tbl := by decide +kernel
theorem wz_n : Jvm.Cond.laysStatic Bundle.tN "SUPPRESSED_SENTINEL" Bundle.listD ∈ lw_tbl := by decide +kernel
theorem wz_t : Jvm.Cond.initialized Bundle.tN ∈ lw_tbl := by decide +kernel
theorem wz_c : Jvm.Cond.castable nsE nsE ∈ lw_tbl := by decide +kernel
theorem wz_1 : Jvm.Cond.declares (nsI "java/lang/RuntimeException") ∈ lw_tbl := by decide +kernel
theorem wz_2 : Jvm.Cond.declares (nsI "java/lang/Exception") ∈ lw_tbl := by decide +kernel
theorem wz_3 : Jvm.Cond.declares (nsI "java/lang/Throwable") ∈ lw_tbl := by decide +kernel
abbrev tX : Term := .static "DotScreensModel" "STEPX" "[I"
abbrev tY : Term := .static "DotScreensModel" "STEPY" "[I"
/-- the rows of the steps -/
theorem st_rows {args : Array Value} {s : State} (h : (Jvm.Cond.and given_1 narrow_1).before args s = true) : (∃ t : Nat, tX.eval args s none [] s = some (.ref t) ∧ va_T .int t 4 (fun j => .int (stX j)) (fun q => s.heap.size ≤ q) s s.heap) ∧ ∃ t : Nat, tY.eval args s none [] s = some (.ref t) ∧ va_T .int t 4 (fun j => .int (stY j)) (fun q => s.heap.size ≤ q) s s.heap := by
  have hs := flat_of_before _ h
  have hA : ∀ a : Nat, a < s.heap.size → ¬ s.heap.size ≤ a := fun a h => Nat.not_le.mpr h
  constructor
  · refine va_Tof (N := 4) (by decide) (hs _ (by decide +kernel)) (va_eqt (z := 4) (hs _ (by decide +kernel))) (fun j hj => ?_) hA
    match j, hj with
    | 0, _ => exact va_eqt (z := 1) (t := .elem tX (.int 0)) (hs _ (by decide +kernel))
    | 1, _ => exact va_eqt (z := -1) (t := .elem tX (.int 1)) (hs _ (by decide +kernel))
    | 2, _ => exact va_eqt (z := 0) (t := .elem tX (.int 2)) (hs _ (by decide +kernel))
    | 3, _ => exact va_eqt (z := 0) (t := .elem tX (.int 3)) (hs _ (by decide +kernel))
    | n + 4, h => omega
  · refine va_Tof (N := 4) (by decide) (hs _ (by decide +kernel)) (va_eqt (z := 4) (hs _ (by decide +kernel))) (fun j hj => ?_) hA
    match j, hj with
    | 0, _ => exact va_eqt (z := 0) (t := .elem tY (.int 0)) (hs _ (by decide +kernel))
    | 1, _ => exact va_eqt (z := 0) (t := .elem tY (.int 1)) (hs _ (by decide +kernel))
    | 2, _ => exact va_eqt (z := 1) (t := .elem tY (.int 2)) (hs _ (by decide +kernel))
    | 3, _ => exact va_eqt (z := -1) (t := .elem tY (.int 3)) (hs _ (by decide +kernel))
    | n + 4, h => omega
/-- what a throw needs, at the entry -/
theorem xW_0 {args : Array Value} {s : State} (hts : ∀ w ∈ lw_tbl, w.before args s = true) (h : (Jvm.Cond.and given_1 narrow_1).before args s = true) : ∃ sa : Nat, xW sa s.heap.size s := by
  have hs := flat_of_before _ h
  have hA : ∀ a : Nat, a < s.heap.size → ¬ s.heap.size ≤ a := fun a h => Nat.not_le.mpr h
  have h1 : (Cond.exactly (.string "DotScreens" 134) "java/lang/String").before args s = true := hs _ (by decide +kernel)
  obtain ⟨a, cc, cell, kk, he, -⟩ := Cond.exactly_spec h1
  exact ⟨a, vk_R.of (hts _ wz_s) he, vx_Zqof (hts _ wz_u) (hts _ wz_t) (hs _ (by decide +kernel)) hA, vx_Zqof (hts _ wz_n) (hts _ wz_t) (hs _ (by decide +kernel)) hA, va_Nw.of rfl (hts _ wz_c), va_Nw.of rfl (hts _ wz_1), va_Nw.of rfl (hts _ wz_2), va_Nw.of rfl (hts _ wz_3)⟩
theorem Nw_0 {args : Array Value} {s : State} (hts : ∀ w ∈ lw_tbl, w.before args s = true) : px_Nw s := by
  refine ⟨fun w hw => ?_, va_AO.of (hts _ wz_o)⟩
  have h2 := (List.mem_filter.mp hw).2
  have h1 := hts w (List.mem_filter.mp hw).1
  unfold px_nest at h2
  split at h2
  · exact va_Nw.of rfl h1
  · exact va_Nw.of rfl h1
  · cases h2
theorem K_0 {args : Array Value} {s : State} (hts : ∀ w ∈ lw_tbl, w.before args s = true) : ∃ (dC : Nat → ClassId) (dI : Nat → Nat → Nat) (dA : Nat → ClassId), va_K (dC, dI) vwCl (px_tys dA) s := by
  have htsT : ∀ w ∈ px_T, w.before args s = true := fun w hw => hts w (List.mem_filter.mp hw).1
  have hk : ∀ k : Nat, ∃ z : ClassId × (Nat → Nat), ∀ q, vwCl[k]? = some q → u_Kn s q.1 q.2.1 q.2.2 z.1 z.2 := by
    intro k
    match k with
    | 0 => obtain ⟨cC, iS, h⟩ := u_known htsT px_co_0.2.2.2.1 (hts _ wi_0); exact ⟨(cC, iS), fun q hq => by cases hq; exact h⟩
    | 1 => obtain ⟨cC, iS, h⟩ := u_known htsT px_co_1.2.2.2.1 (hts _ wi_1); exact ⟨(cC, iS), fun q hq => by cases hq; exact h⟩
    | 2 => obtain ⟨cC, iS, h⟩ := u_known htsT px_co_2.2.2.2.1 (hts _ wi_2); exact ⟨(cC, iS), fun q hq => by cases hq; exact h⟩
    | 3 => obtain ⟨cC, iS, h⟩ := u_known htsT px_co_3.2.2.2.1 (hts _ wi_3); exact ⟨(cC, iS), fun q hq => by cases hq; exact h⟩
    | 4 => obtain ⟨cC, iS, h⟩ := u_known htsT px_co_4.2.2.2.1 (hts _ wi_4); exact ⟨(cC, iS), fun q hq => by cases hq; exact h⟩
    | 5 => obtain ⟨cC, iS, h⟩ := u_known htsT px_co_5.2.2.2.1 (hts _ wi_5); exact ⟨(cC, iS), fun q hq => by cases hq; exact h⟩
    | 6 => obtain ⟨cC, iS, h⟩ := u_known htsT px_co_6.2.2.2.1 (hts _ wi_6); exact ⟨(cC, iS), fun q hq => by cases hq; exact h⟩
    | 7 => obtain ⟨cC, iS, h⟩ := u_known htsT px_co_7.2.2.2.1 (hts _ wi_7); exact ⟨(cC, iS), fun q hq => by cases hq; exact h⟩
    | 8 => obtain ⟨cC, iS, h⟩ := u_known htsT px_co_8.2.2.2.1 (hts _ wi_8); exact ⟨(cC, iS), fun q hq => by cases hq; exact h⟩
    | 9 => obtain ⟨cC, iS, h⟩ := u_known htsT px_co_9.2.2.2.1 (hts _ wi_9); exact ⟨(cC, iS), fun q hq => by cases hq; exact h⟩
    | 10 => obtain ⟨cC, iS, h⟩ := u_known htsT px_co_10.2.2.2.1 (hts _ wi_10); exact ⟨(cC, iS), fun q hq => by cases hq; exact h⟩

    | k + 11 => exact ⟨(0, fun _ => 0), fun q hq => by cases hq⟩
  obtain ⟨f, hf⟩ := Classical.axiomOfChoice hk
  obtain ⟨cI, kI, pI, i1, i2, i3⟩ := Cond.arrayClass_spec (htsT _ px_wz_ok.1)
  obtain ⟨cL, kL, pL, l1, l2, l3⟩ := Cond.arrayClass_spec (htsT _ px_wz_ok.2.1)
  obtain ⟨cB, kB, pB, b1, b2, b3⟩ := Cond.arrayClass_spec (htsT _ px_wz_ok.2.2)
  obtain ⟨pO, cO, kO, o1, o2, o3, o4, o5⟩ := Cond.arrayOver_spec (hts _ wz_o)
  refine ⟨fun k => (f k).1, fun k => (f k).2, fun t => if t = 0 then cI else if t = 1 then cL else if t = 2 then cB else cO, fun k q hq => hf k q hq, fun k q hq => ?_⟩
  match k with
  | 0 => cases hq; exact ⟨fun n z => ⟨fun k h => (by cases h), kI, i2, pI, i3⟩, i1⟩
  | 1 => cases hq; exact ⟨fun n z => ⟨fun k h => (by cases h), kL, l2, pL, l3⟩, l1⟩
  | 2 => cases hq; exact ⟨fun n z => ⟨fun k h => (by cases h), kB, b2, pB, b3⟩, b1⟩
  | 3 => cases hq; exact ⟨fun n z => ⟨fun k h => (by cases h), kO, o3, pO, o4⟩, kO, pO, o3, o4, o1, o5⟩
  | k + 4 => cases hq
set_option maxHeartbeats 4000000 in
/-- from the entry, for every script of at most 3584 ints, the law comes to its end with true -/
theorem whole_start {p : Program} {e : Env} {s : State} {m : MethodId} {below : List Frame} {meth : Method} {c : Code} (l : Launch) (hflags : l.flags = flags0) {b L : Nat} {xs : Nat → Int32} (hL : L ≤ 3584) (hnm : meth.name = "law") (C0 : lw_At p s m meth c b L xs) : W p l e room_1 s m #[Value.ref b] below meth c s.heap [] 0 0 (lw_Z below #[Value.ref b] s) (entryFrame m ([Value.ref b] : List Value).toArray 7) := by
  obtain ⟨hx, hb, hr, hml, hown, hts, hX, hbl, hlocks, hgv⟩ := C0
  have hl : l.stackTraces = false := by
    unfold Launch.stackTraces
    rw [hflags]
    decide +kernel
  obtain ⟨⟨t0, ev0, r0⟩, t1, ev1, r1⟩ := st_rows hgv
  obtain ⟨sa, hxW⟩ := xW_0 hts hgv
  obtain ⟨dC, dI, dA, hK⟩ := K_0 hts
  have hA : ∀ a : Nat, a < s.heap.size → ¬ s.heap.size ≤ a := fun a h => Nat.not_le.mpr h
  obtain ⟨ad, had, e0, e1, e2⟩ : ∃ ad : Nat → Nat, px_Ad s.heap.size ad ∧ ad 1000 = t0 ∧ ad 1001 = t1 ∧ ad 1002 = b := by
    refine ⟨fun k => if k < 1000 then s.heap.size + k else if k = 1000 then t0 else if k = 1001 then t1 else b, ⟨fun k hk => if_pos hk, fun k hk => ?_⟩, rfl, rfl, rfl⟩
    have q0 := Nat.not_le.mp r0.out
    have q1 := Nat.not_le.mp r1.out
    show (if k < 1000 then s.heap.size + k else if k = 1000 then t0 else if k = 1001 then t1 else b) < s.heap.size
    rw [if_neg (by omega)]
    split
    · exact q0
    · split
      · exact q1
      · exact hbl
  subst e0
  subst e1
  subst e2
  have hZ : px_Zs ad s.heap.size s := ⟨va_Zof (hts _ wz_x) (hts _ wz_i) ev0 hA, va_Zof (hts _ wz_y) (hts _ wz_i) ev1 hA⟩
  have V : px_Wd ad s.heap.size dC dI dA s := ⟨had, hK, hZ, Nw_0 hts⟩
  have C : px_Ctx px_rw k_Law_law p s m #[Value.ref (ad 1002)] meth c := ⟨hx, hb, hml, hown, fun w hw => hts w (List.mem_filter.mp hw).1, hnm⟩
  have ho : okFr px_rw k_Law_law p l room_1 s m #[Value.ref (ad 1002)] meth c ad s.heap.size dC dI dA := ⟨C, (px_rk k_Law_law).2, V, Nat.le_refl _, ⟨by decide, by decide⟩, fun me _ => px_snd l me⟩
  have r2 : va_T .int (ad 1002) L (fun j => .int (xs j)) (fun q => s.heap.size ≤ q) s s.heap := by
    obtain ⟨scr, h1, h2, h3, h4, h5⟩ := hX
    exact ⟨scr, h1, h2, h3, by omega, (by rw [h4]), h5, hA _ hbl⟩
  have I : px_Inv ad s.heap.size dC dI dA true s g00 s.heap [] := by
    refine ⟨⟨show (0 : Nat) ≤ 1000 by decide, fun q _ => ?_⟩, fun q n f hq => ?_, fun k q hk => ?_, va_S.rf, Nat.le_refl _, fun _ => rfl⟩
    · by_cases c0 : q = 1000
      · right; exact ⟨4, stX, by show (if q = 1000 then _ else _) = _; rw [if_pos c0]⟩
      · by_cases c1 : q = 1001
        · right; exact ⟨4, stY, by show (if q = 1000 then _ else if q = 1001 then _ else _) = _; rw [if_neg c0, if_pos c1]⟩
        · left
          show (if q = 1000 then _ else if q = 1001 then _ else _) = _
          rw [if_neg c0, if_neg c1]
    · have hq : (if q = 1000 then (Sum.inl (9, 4, Sum.inl stX) : va_E) else if q = 1001 then Sum.inl (9, 4, Sum.inl stY) else Sum.inr (999, [])) = Sum.inl (9, n, Sum.inl f) := hq
      by_cases c0 : q = 1000
      · rw [if_pos c0] at hq; cases hq; subst c0; exact r0
      · by_cases c1 : q = 1001
        · rw [if_neg c0, if_pos c1] at hq; cases hq; subst c1; exact r1
        · rw [if_neg c0, if_neg c1] at hq; cases hq
    · obtain ⟨h1, -⟩ := px_w_some hk
      exact absurd h1 (Nat.not_lt_zero _)
  have hend : ∀ (T : TS) (cells slots i : Nat) (a5 a6 : Value), cells ≤ 601024 → slots ≤ 7293033 → lk p l e room_1 s m #[Value.ref (ad 1002)] below meth c ad s.heap.size dC dI dA 7 false cells slots (lw_Z below #[Value.ref (ad 1002)] s) 1767 (LL i a5 a6) [] (enc T) := by
    intro T cells slots i a5 a6 hc hs
    refine lk_next (rw := px_rw) (md := k_Law_law) (st' := [.int 1]) ho hc hs dd_Law_law_1767 rfl rfl ?_
    intro H locs ls I2 _
    refine va_forget I2.2.2.2.1.2.2 (W.widen hc hs ?_)
    exact lw_ret hx hb hr hlocks dd_Law_law_1768
  have K := lw_prefix (e := e) (below := below) (Q := lw_Z below #[Value.ref (ad 1002)] s) ho (g0 := g00) (g2 := g02) (g4 := g04) rfl run_2.1 run_2.2 run_4.1 run_4.2 (by
    intro H locs ls I2 hl2
    exact lw_loop hl hxW ho hL hend 512 0 73 73000 (T0 xs L) S0 .null .null (lwI_0 xs L) (by omega) (by omega) (by omega) (by omega) H locs ls (inv_start r0 r1 r2 I2) hl2)
  have hlE := px_entL (ad := ad) (vs := [Value.ref 1002]) (n := 7) (Nat.le_of_ble_eq_true rfl)
  show W p l e room_1 s m #[Value.ref (ad 1002)] below meth c s.heap [] 0 0 (lw_Z below #[Value.ref (ad 1002)] s) (entryFrame m (([Value.ref 1002].map (px_v ad)).toArray) 7)
  rw [lg_entry_eq]
  exact K s.heap [] _ I hlE

set_option maxHeartbeats 4000000 in
theorem lw_walk (l : Launch) (hflags : l.flags = flags0) (b : Addr) (xs : List Int32) : MetFree l x (headSpec (Jvm.Cond.code x code maxLocals ret :: tables_1) room_1) (lw_P b xs) (fun _ _ _ _ _ => True) lw_Q := by
  refine MetFree.of_bodyS (code := code) (maxLocals := maxLocals) (ret := ret) (by decide) ?_ ?_
  · intro args s m h hn
    obtain ⟨meth, c, h1, h2, h3, h4, h5, h6, -, -⟩ := Cond.code_spec hn (atoms_spec (ws := Jvm.Cond.code x code maxLocals ret :: tables_1) h _ List.mem_cons_self)
    exact ⟨meth, c, h1, h2, h3, h4, h5, h6⟩
  · intro p e s m args below meth c s₁ B hml0 hP _
    obtain ⟨rfl, hx, hbd, hgv⟩ := hP
    obtain ⟨scr, harrAt, hlist, hof, hsmall⟩ := hx
    obtain ⟨hcb, hkn, -, -⟩ := State.arrayAt?_spec harrAt
    have hown : s.vm.findClass R_law = some m.cls := findClass_of_methodNamed B.named
    have hts0 : ∀ c ∈ (Jvm.Cond.code x code maxLocals ret :: tables_1), c.before #[Value.ref b] s = true := atoms_spec (ws := Jvm.Cond.code x code maxLocals ret :: tables_1) B.pre
    have hts : ∀ w ∈ lw_tbl, w.before #[Value.ref b] s = true := k2_hts_sels lw_privs (fun w hw => hts0 w (List.mem_cons_of_mem _ hw)) lw_privs_ok
    have hml : c.maxLocals = 7 := B.maxLocals_eq (hts0 _ List.mem_cons_self)
    have X₀ : Stand p l e room_1 s m #[Value.ref b] below meth c s₁ [] 0 0 := Stand.of_body B
    have hh0 : s₁.heap = s.heap := by rw [B.state]; rfl
    have hsz : scr.slots.size = xs.length := by rw [← Array.length_toList, hlist, List.length_map]
    have hval : ∀ j : Nat, j < xs.length → scr.slots[j]? = some (.int (xs.getD j 0)) := fun j hj => by
      rw [← Array.getElem?_toList, hlist]
      simp [hj]
    have hbl : b < s.heap.size := (Array.getElem?_eq_some_iff.mp hcb).1
    have hX : va_X b xs.length (fun j => xs.getD j 0) s s.heap := ⟨scr, hcb, hof, hkn, hsz, hval⟩
    have K : W p l e room_1 s m #[Value.ref b] below meth c s₁.heap [] 0 0 (lw_Z below #[Value.ref b] s) (entryFrame m ([Value.ref b] : List Value).toArray 7) := by
      rw [hh0]
      exact whole_start l hflags hbd (name_of_methodNamed B.named B.method).1 ⟨B.exec, B.bytes, B.returns, hml, hown, hts, hX, hbl, B.notSynchronized, hgv⟩
    obtain ⟨t, a1, o, b1, b2, b3⟩ := K s₁ rfl X₀
    exact ⟨t, o, a1, b1, b2, b3⟩
theorem lw_pre_spec {args : Array Value} {s : State} (h : (Jvm.Cond.and given_1 narrow_1).before args s = true) (hr : rest_1_c.before args s = true) : ∃ (b : Addr) (xs : List Int32), lw_P b xs args s := by
  have hs := flat_of_before _ h
  have hq := flat_of_before _ hr
  have hc : (Cond.count 1).before args s = true := hs _ (by decide +kernel)
  have harr : (Cond.arrayOf (.arg 0) .int).before args s = true := hs _ (by decide +kernel)
  have hle : (Cond.le (.length (.arg 0)) (.int 3584)).before args s = true := hs _ (by decide +kernel)
  have hlen : (Cond.isInt (.length (.arg 0))).before args s = true := hq _ (by decide +kernel)
  have hall : (Cond.all (.arg 0) (.isInt (.elem (.arg 0) (.index 0)))).before args s = true := hq _ (by decide +kernel)
  obtain ⟨b, xs, hb, hx⟩ := State.ints_of_pre rfl harr hlen hall
  have hsm : xs.length < 2 ^ 31 := hx.choose_spec.2.2.2
  have hev : (Term.length (.arg 0)).eval args s none [] s = some (.int xs.length.toInt32) := hx.length_eval hb
  have hv := Cond.le_ints hev (show (Term.int 3584).eval args s none [] s = some (.int 3584) from rfl)
  have hd : xs.length.toInt32 ≤ 3584 := by
    simpa [Cond.before, Cond.holds, hv] using hle
  have hN : xs.length ≤ 3584 := (Int32.ofNat_le_ofNat hsm (by decide)).mp (show Int32.ofNat xs.length ≤ Int32.ofNat 3584 from hd)
  exact ⟨b, xs, Cond.one_arg hc (show args[0]? = some (.ref b) from hb), hx, hN, h⟩
theorem lw_comes (l : Launch) (hflags : l.flags = flags0) : Comes l x (Jvm.Cond.code x code maxLocals ret :: tables_1) room_1 (fun tb e args s => Calls_1 tb e args s ∧ rest_1 tb e args s ∧ Pre_1 tb e args s)
    (fun _ _ args s o t => lw_Q args s o t) := by
  intro p e ha hc hk s m args below hf hfit hheap happ hpre
  obtain ⟨b, xs, hP⟩ := lw_pre_spec hpre.2.2 hpre.2.1
  obtain ⟨k, o, h1, h2, h3, hQ⟩ := lw_walk l hflags b xs p e ha hc hk s m args below hf ((Spec.applies_iff_loose hf).mp happ).1 hP trivial
  exact ⟨k, o, h1, h2, h3, hQ⟩
theorem lw_frame {s t : State} {o : Outcome} {args : Array Value} (h : Framed s o t [] 601024 7293033) :
    Framed s o t (fieldLocs frame_1_writes args s ++ arrayLocs frame_1_arrays args s ++ staticLocs frame_1_statics s) 601024 7293033 := h
theorem lw_limb (L : Cond) (hL : ∀ (args : Array Value) (s t : State), L.after args s (.returned (some (.int 1))) t = true) :
    ArmFor flags0 classFile x code maxLocals ret World_1 tables_1 room_1 Calls_1 rest_1 Pre_1
      (fun tb e a s o t => postC L tb e a s o t ∧ Framed s o t (fieldLocs frame_1_writes a s ++ arrayLocs frame_1_arrays a s ++ staticLocs frame_1_statics s) 601024 7293033) := by
  intro l hflags _ _ p e ha hc hk s m args below hf hfit hheap happ hpre
  obtain ⟨k, o, h1, h2, h3, rfl, hF⟩ := lw_comes l hflags p e ha hc hk s m args below hf hfit hheap happ hpre
  exact ⟨k, _, h1, h2, h3, hL args s _, lw_frame hF⟩
theorem i_vc : Claimed_1_1 ∧ Claimed_1_2 := ⟨lw_limb limb_1_1 (fun args s t => by simp [limb_1_1, Cond.after, Cond.holds, Cond.value]), lw_limb limb_1_2 (fun args s t => Cond.after_iff.mpr (by
  first | (rw [show limb_1_2 = Cond.eq .result (.int 1) from rfl, Cond.eq_ints (x := 1) (y := 1) rfl rfl]; simp; done) | (simp [limb_1_2, Cond.value, Term.eval]; done)))⟩
