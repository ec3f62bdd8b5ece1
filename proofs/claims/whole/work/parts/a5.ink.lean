/-! ink: what is thrown, and who catches it. -/
def nsE : String := "java/util/NoSuchElementException"
def nsN : List String := ["java/lang/Exception"]
def nsU : String := "java/lang/RuntimeException"
def nsT : String := "no such ink, or nothing of that kind is told of it"
def nsW : List Cond := mxS "DotScreens" 136 nsE nsU 13 prog_20_method_4_code nsN
def nsI (X : String) : MethodName := ⟨X, "<init>", "(Ljava/lang/String;)V"⟩
def nsB : List Cond := [.castable nsE nsE, .declares (nsI "java/lang/RuntimeException"), .declares (nsI "java/lang/Exception"), .declares (nsI "java/lang/Throwable")]
theorem ns_good : ∀ w ∈ Cond.classLink "DotScreens" 132 nsE :: Cond.initialized nsE :: nsW, vx_ot w = true := by decide +kernel
theorem ns_x0 : ∀ w ∈ nsW.filter goodWord, w ∈ lw_tbl := by decide +kernel
theorem ns_in : ∀ w ∈ nsW.filter goodWord, w ∈ px_T := fun w h => px_inT (ns_x0 w h) (List.mem_filter.mp h).2
theorem ns_bad : ∀ w ∈ nsW.filter (fun w => !goodWord w), w ∈ nsB := by decide +kernel
theorem ns_fit : Bundle.fit nsE = true ∧ Bundle.fit nsU = true ∧ ∀ n ∈ nsN, Bundle.fit n = true := by decide +kernel
theorem ns_b : decode prog_20_method_4_code 0 = .ok (.aload_n 0, 1) ∧ decode prog_20_method_4_code 1 = .ok (.aload_n 1, 1) ∧ decode prog_20_method_4_code 2 = .ok (.invokespecial 13, 3) ∧ decode prog_20_method_4_code 5 = .ok (.return_, 1) := by decide +kernel
theorem ns_l1 : Cond.classLink "DotScreens" 132 nsE ∈ px_T := by decide +kernel
theorem ns_l2 : Cond.initialized nsE ∈ px_T := by decide +kernel
theorem ki_18 : decode prog_1_method_7_code 18 = .ok (.new 132, 3) := by decide +kernel
theorem ki_22 : decode prog_1_method_7_code 22 = .ok (.ldc 134, 2) := by decide +kernel
theorem ki_24 : decode prog_1_method_7_code 24 = .ok (.invokespecial 136, 3) := by decide +kernel
theorem ki_27 : decode prog_1_method_7_code 27 = .ok (.athrow, 1) := by decide +kernel
/-- what a throw needs of the world, all along -/
def xW (sa base : Nat) (U : State) : Prop := vk_R "DotScreens" 134 nsT sa U ∧ vx_Zq Bundle.tN "UNASSIGNED_STACK" Bundle.steD (fun q => base ≤ q) U U.heap ∧ vx_Zq Bundle.tN "SUPPRESSED_SENTINEL" Bundle.listD (fun q => base ≤ q) U U.heap ∧ va_Nw (.castable nsE nsE) U ∧ va_Nw (.declares (nsI "java/lang/RuntimeException")) U ∧ va_Nw (.declares (nsI "java/lang/Exception")) U ∧ va_Nw (.declares (nsI "java/lang/Throwable")) U
theorem xW.call {sa base : Nat} {U : State} {gf : JFrame} {mk : MethodId} {a : Array Value} (h : xW sa base U) : xW sa base (U.calling gf mk a) := by
  obtain ⟨h1, h2, h3, h4, h5, h6, h7⟩ := h
  have hvm : U.vm.Alike (U.calling gf mk a).vm := Vm.Alike.refl U.vm
  exact ⟨vk_R.same (u := U) (U := U.calling gf mk a) rfl h1, vx_Zq.moved hvm h2, vx_Zq.moved hvm h3, va_Nw.same rfl (u := U) (U := U.calling gf mk a) rfl h4, va_Nw.same rfl (u := U) (U := U.calling gf mk a) rfl h5, va_Nw.same rfl (u := U) (U := U.calling gf mk a) rfl h6, va_Nw.same rfl (u := U) (U := U.calling gf mk a) rfl h7⟩
theorem xW.up {sa base : Nat} {s U : State} {H : Heap} {locs : List Loc} (h : xW sa base s) (hS : va_S (fun q => base ≤ q) s.heap H locs) (hU : U.heap = H) (hW : s.WarmedH U.vm) : xW sa base U := by
  obtain ⟨h1, h2, h3, h4, h5, h6, h7⟩ := h
  have hq : ∀ a : Nat, a < s.heap.size → ¬ base ≤ a → U.heap[a]? = s.heap[a]? := fun a q1 q2 => by rw [hU]; exact hS.2.1 a q1 q2
  exact ⟨vk_R.warm hW h1, vx_Zq.moved hW.alike (h2.kept hq), vx_Zq.moved hW.alike (h3.kept hq), va_Nw.warmC hW h4, va_Nw.warmD hW h5, va_Nw.warmD hW h6, va_Nw.warmD hW h7⟩
def xPre (ad : Nat → Nat) (sa base : Nat) (dC : Nat → ClassId) (dI : Nat → Nat → Nat) (dA : Nat → ClassId) (g : px_G) (U : State) : Prop := px_Pre ad base dC dI dA false g U ∧ xW sa base U
theorem xPre_blind {ad : Nat → Nat} {sa base : Nat} {dC : Nat → ClassId} {dI : Nat → Nat → Nat} {dA : Nat → ClassId} (g : px_G) (vs : List Value) : FrameBlind (va_Pc vs (xPre ad sa base dC dI dA g)) := by
  intro a U gf mk h
  have h1 := px_blind (ad := ad) (base := base) (dC := dC) (dI := dI) (dA := dA) (ex := false) g vs a U gf mk ⟨h.1, h.2.1⟩
  exact ⟨h1.1, h1.2, h.2.2.call⟩
/-- the world behind a throw: as before, and a thing more -/
def xB (ad : Nat → Nat) (base : Nat) (dC : Nat → ClassId) (dI : Nat → Nat → Nat) (dA : Nat → ClassId) (g : px_G) : String → Unit → State → Prop := fun E _ t => E = nsE ∧ va_P (dC, dI) vwCl (px_w ad dA g) t.heap ∧ base + g.1 ≤ t.heap.size
def xRm : Room := { frames := 8, cells := 1, slots := 6, locals := 300 }
def noI (i w : Int32) (T : TS) : Prop := ¬ (0 ≤ i.toInt ∧ i.toInt < (T.1 0 3).toInt ∧ i.toInt < 4) ∨ w.toInt < 0 ∨ 9 < w.toInt
theorem ink_ent (i w : Int32) : px_ent 4 [.ref 0, .int i, .int w] = [.ref 0, .int i, .int w, .null] := rfl
theorem enc_o0 (T : TS) : (enc T).2 0 = .inr (9, (List.range 13).map (fv T 0 9)) := enc_obj T (p := 0) (ci := 9) (n := 13) rfl (by decide)
set_option maxHeartbeats 4000000 in
theorem ink_X (l : Launch) (hl : l.stackTraces = false) {T : TS} {i w : Int32} (hn : noI i w T) {ad : Nat → Nat} {sa base : Nat} {dC : Nat → ClassId} {dI : Nat → Nat → Nat} {dA : Nat → ClassId} (had : px_Ad base ad) :
    vx_Met l (px_rw k_Ds_ink).1 (px_ws (px_rw k_Ds_ink)) xRm (va_Pc ([Value.ref 0, .int i, .int w].map (px_v ad)) (xPre ad sa base dC dI dA (enc T))) (va_Qi (fun (_ : Int32) (_ : Unit) => False) (fun _ _ => False) (fun q => base ≤ q)) (vx_X (fun (_ : Unit) => True) (xB ad base dC dI dA (enc T)) (fun q => base ≤ q)) 1 6 (fun q => base ≤ q) := by
  refine vx_ofW (cc := (px_rw k_Ds_ink).2.1) (maxL := 4) (ret := some .int) (by decide +kernel) rfl ?_
  intro p e s m args below meth c s₁ B hml ht hP
  obtain ⟨rfl, ⟨h1, h2, h3, h4, h5, h8, h6, h7⟩, hx⟩ := hP
  have hts := atoms_spec (ws := px_ws (px_rw k_Ds_ink)) B.pre
  have hown := findClass_of_methodNamed B.named
  have C : px_Ctx px_rw k_Ds_ink p s m (([Value.ref 0, .int i, .int w].map (px_v ad)).toArray) meth c := ⟨B.exec, B.bytes, hml, hown, fun w hw => hts w (List.mem_cons_of_mem _ hw), (name_of_methodNamed B.named B.method).1⟩
  have V : px_Wd ad base dC dI dA s := ⟨had, h4, h5, h8⟩
  have I : px_Inv ad base dC dI dA false s (enc T) s.heap [] := ⟨h1, h2, h3, va_S.rf, h6, h7⟩
  have ho : okFr px_rw k_Ds_ink p l xRm s m (([Value.ref 0, .int i, .int w].map (px_v ad)).toArray) meth c ad base dC dI dA := ⟨C, (px_rk k_Ds_ink).2, V, by omega, ⟨by decide, by decide⟩, fun me _ => px_snd l me⟩
  have hlE := px_entL (ad := ad) (vs := [Value.ref 0, .int i, .int w]) (n := 4) (Nat.le_of_ble_eq_true rfl)
  rw [lg_entry_eq]
  generalize (lg_sl ([Value.ref 0, .int i, .int w].map (px_v ad)) ++ List.replicate (4 - (lg_sl ([Value.ref 0, .int i, .int w].map (px_v ad))).length) Slot.unset).toArray = ls at hlE ⊢
  rw [ink_ent] at hlE
  -- the throw itself
  have thr : ∀ L : List Value, lk p l e xRm s m (([Value.ref 0, .int i, .int w].map (px_v ad)).toArray) below meth c ad base dC dI dA 4 false 0 0 (vx_MQ below (va_Qi (fun (_ : Int32) (_ : Unit) => False) (fun _ _ => False) (fun q => base ≤ q)) (vx_X (fun (_ : Unit) => True) (xB ad base dC dI dA (enc T)) (fun q => base ≤ q)) (([Value.ref 0, .int i, .int w].map (px_v ad)).toArray) s 1 6 (fun q => base ≤ q)) 18 L [] (enc T) := by
    intro L H locs ls1 I1 hl1
    obtain ⟨x1, x2, x3, x4, x5, x6, x7⟩ := hx
    refine mx_make (cc := prog_1_method_7_code) (pc := 18) (own := "DotScreens") (cls := nsE) (up := nsU) (text := nsT) (names := nsN) (ik := 132) (is := 134) (ic := 136) (ix := 13) (sa := sa) (bytes := prog_20_method_4_code) (A := fun q => base ≤ q) (rest := []) B.exec B.bytes hl hown ns_fit.1 ns_fit.2.1 ns_b.1 ns_b.2.1 ns_b.2.2.1 ns_b.2.2.2 ns_fit.2.2 (C.2.2.2.2.1 _ ns_l1) (C.2.2.2.2.1 _ ns_l2) x1 ?_ ns_good x2 x3 I1.2.2.2.1 (hl1.1.trans hml.symm) ki_18 dd_Ds_ink_21 ki_22 ki_24 (by decide) (by decide) (by decide) (by decide) ?_
    · refine vx_hat (B := nsB) (fun w hw => C.2.2.2.2.1 _ (ns_in w hw)) ns_bad ?_
      exact vx_c (va_Nw.use rfl x4) (vx_c (va_Nw.use rfl x5) (vx_c (va_Nw.use rfl x6) (vx_c (va_Nw.use rfl x7) vx_n)))
    · intro q H1 ce hsz hk hcell hvm hcid
      refine vx_athrow B.exec B.bytes ki_27 (vx_out (E := nsE) (fun x hx => (ht x hx).elim) B.notSynchronized hcell hvm hcid ?_ I1.2.2.2.1.2.2 (by decide) (by decide))
      intro t hth hal
      subst hth
      refine ⟨(), True.intro, ⟨rfl, I1.2.2.1.kept (fun k q hq => hk _ ((I1.2.2.1 k q hq).lt)), Nat.le_trans I1.2.2.2.2.1 hsz⟩, Nat.le_trans I1.2.2.2.1.1 hsz, fun q q1 q2 => ?_⟩
      rw [hk q (Nat.lt_of_lt_of_le q1 I1.2.2.2.1.1)]
      exact I1.2.2.2.1.2.1 q q1 q2
  have K : lk p l e xRm s m (([Value.ref 0, .int i, .int w].map (px_v ad)).toArray) below meth c ad base dC dI dA 4 false 0 0 (vx_MQ below (va_Qi (fun (_ : Int32) (_ : Unit) => False) (fun _ _ => False) (fun q => base ≤ q)) (vx_X (fun (_ : Unit) => True) (xB ad base dC dI dA (enc T)) (fun q => base ≤ q)) (([Value.ref 0, .int i, .int w].map (px_v ad)).toArray) s 1 6 (fun q => base ≤ q)) 0 [.ref 0, .int i, .int w, .null] [] (enc T) := by
    refine lk_next (rw := px_rw) (md := k_Ds_ink) ho (Nat.zero_le _) (Nat.zero_le _) dd_Ds_ink_0 rfl rfl ?_
    refine lk_next (rw := px_rw) (md := k_Ds_ink) ho (Nat.zero_le _) (Nat.zero_le _) dd_Ds_ink_1 rfl rfl ?_
    have ei := s_isInk i T
    obtain ⟨n1, hrun⟩ := rn_to ei
    refine lk_call0 (rw := px_rw) (md := k_Ds_ink) (me := k_Ds_isInk) (vs := [.ref 0, .int i]) (rest := []) (i := .invokevirtual 129) ho (Nat.zero_le _) (Nat.zero_le _) dd_Ds_ink_2 (cl_V (kd := 5) (ci := 9) (z := 0) (As := [.int i]) rfl (by decide) rfl rfl (by decide) (enc_o0 T)) (Nat.le_of_ble_eq_true rfl) hrun rfl ?_
    by_cases c1 : 0 ≤ i.toInt ∧ i.toInt < (T.1 0 3).toInt ∧ i.toInt < 4
    · rw [bI_t c1]
      refine lk_next (rw := px_rw) (md := k_Ds_ink) ho (Nat.zero_le _) (Nat.zero_le _) dd_Ds_ink_5 rfl rfl ?_
      refine lk_next (rw := px_rw) (md := k_Ds_ink) ho (Nat.zero_le _) (Nat.zero_le _) dd_Ds_ink_8 rfl rfl ?_
      by_cases c2 : w.toInt < 0
      · have e9 : px_ex px_rw k_Ds_ink (.ifCond .lt 9) 3 9 [.ref 0, .int i, .int w, .null] [.int w] (enc T) = some (.inl (18, [.ref 0, .int i, .int w, .null], [], enc T)) := by
          have : px_c .lt w 0 = true := by
            show decide (w < 0) = true
            rw [decide_eq_true_iff, Int32.lt_iff_toInt_lt]
            exact c2
          show (if 0 ≤ ((9 : Nat) : Int) + 9 then some (Sum.inl (if px_c .lt w 0 = true then (((9 : Nat) : Int) + 9).toNat else 9 + 3, [Value.ref 0, Value.int i, Value.int w, Value.null], ([] : List Value), enc T)) else none) = _
          rw [this]
          rfl
        exact lk_next (rw := px_rw) (md := k_Ds_ink) ho (Nat.zero_le _) (Nat.zero_le _) dd_Ds_ink_9 e9 rfl (thr _)
      · have e9 : px_ex px_rw k_Ds_ink (.ifCond .lt 9) 3 9 [.ref 0, .int i, .int w, .null] [.int w] (enc T) = some (.inl (12, [.ref 0, .int i, .int w, .null], [], enc T)) := by
          have : px_c .lt w 0 = false := by
            show decide (w < 0) = false
            rw [decide_eq_false_iff_not, Int32.lt_iff_toInt_lt]
            exact c2
          show (if 0 ≤ ((9 : Nat) : Int) + 9 then some (Sum.inl (if px_c .lt w 0 = true then (((9 : Nat) : Int) + 9).toNat else 9 + 3, [Value.ref 0, Value.int i, Value.int w, Value.null], ([] : List Value), enc T)) else none) = _
          rw [this]
          rfl
        refine lk_next (rw := px_rw) (md := k_Ds_ink) ho (Nat.zero_le _) (Nat.zero_le _) dd_Ds_ink_9 e9 rfl ?_
        refine lk_next (rw := px_rw) (md := k_Ds_ink) ho (Nat.zero_le _) (Nat.zero_le _) dd_Ds_ink_12 rfl rfl ?_
        refine lk_next (rw := px_rw) (md := k_Ds_ink) ho (Nat.zero_le _) (Nat.zero_le _) dd_Ds_ink_13 rfl rfl ?_
        have c3 : 9 < w.toInt := by
          rcases hn with q | q | q
          · exact absurd c1 q
          · exact absurd q c2
          · exact q
        have e15 : px_ex px_rw k_Ds_ink (.if_icmp .le 13) 3 15 [.ref 0, .int i, .int w, .null] [.int 9, .int w] (enc T) = some (.inl (18, [.ref 0, .int i, .int w, .null], [], enc T)) := by
          have : px_c .le w 9 = false := by
            show decide (w ≤ 9) = false
            rw [decide_eq_false_iff_not, Int32.le_iff_toInt_le]
            show ¬ w.toInt ≤ 9
            omega
          show (if 0 ≤ ((15 : Nat) : Int) + 13 then some (Sum.inl (if px_c .le w 9 = true then (((15 : Nat) : Int) + 13).toNat else 15 + 3, [Value.ref 0, Value.int i, Value.int w, Value.null], ([] : List Value), enc T)) else none) = _
          rw [this]
          rfl
        exact lk_next (rw := px_rw) (md := k_Ds_ink) ho (Nat.zero_le _) (Nat.zero_le _) dd_Ds_ink_15 e15 rfl (thr _)
    · rw [bI_f c1]
      exact lk_next (rw := px_rw) (md := k_Ds_ink) ho (Nat.zero_le _) (Nat.zero_le _) dd_Ds_ink_5 rfl rfl (thr _)
  exact K s.heap [] ls I hlE
