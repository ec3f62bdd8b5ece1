/-! the law's ink case, and its loop. -/
theorem dd_Law_law_0 : decode (px_rw k_Law_law).2.1 0 = .ok (.new 8, 3) := (by decide +kernel : decode code 0 = .ok (.new 8, 3))
theorem dd_Law_law_4 : decode (px_rw k_Law_law).2.1 4 = .ok (.invokespecial 15, 3) := (by decide +kernel : decode code 4 = .ok (.invokespecial 15, 3))
theorem dd_Law_law_8 : decode (px_rw k_Law_law).2.1 8 = .ok (.new 16, 3) := (by decide +kernel : decode code 8 = .ok (.new 16, 3))
theorem dd_Law_law_12 : decode (px_rw k_Law_law).2.1 12 = .ok (.invokespecial 18, 3) := (by decide +kernel : decode code 12 = .ok (.invokespecial 18, 3))
theorem dd_Law_law_17 : decode (px_rw k_Law_law).2.1 17 = .ok (.newarray .long, 2) := (by decide +kernel : decode code 17 = .ok (.newarray .long, 2))
def swO : Array Int := #[156, 229, 254, 267, 280, 348, 385, 446, 483, 532, 581, 630, 679, 716, 753, 790, 839, 888, 938, 976, 1014, 1051, 1138, 1199, 1248, 1351, 1388, 1461, 1498, 1535, 1584, 1621, 1646, 1671, 1696]
theorem dd_Law_law_40 : decode (px_rw k_Law_law).2.1 40 = .ok (.tableswitch 1721 0 34 swO, 156) := (by decide +kernel : decode code 40 = .ok (.tableswitch 1721 0 34 swO, 156))
theorem dd_Law_law_334 : decode code 334 = .ok (.invokestatic 38, 3) := by decide +kernel
theorem ex_sw {x : Int32} {L : List Value} {g : px_G} {k t : Nat} (hx : x.toInt = (k : Int)) (hk : k < 35) (ht : swO[k]? = some ((t : Int) - 40)) : px_ex px_rw k_Law_law (.tableswitch 1721 0 34 swO) 156 40 L [.int x] g = some (.inl (t, L, [], g)) := by
  have h : px_sw (.tableswitch 1721 0 34 swO) [.int x] = some ((t : Int) - 40, []) := by
    show (if x.toInt < 0 ∨ 34 < x.toInt then some ((1721 : Int), ([] : List Value)) else (swO[(x.toInt - 0).toNat]?).map (fun off => (off, ([] : List Value)))) = _
    rw [if_neg (by omega), hx, show ((k : Int) - 0).toNat = k by omega, ht]
    rfl
  unfold px_ex
  rw [h]
  show (if 0 ≤ ((40 : Nat) : Int) + ((t : Int) - 40) then some (Sum.inl ((((40 : Nat) : Int) + ((t : Int) - 40)).toNat, L, ([] : List Value), g)) else none) = _
  rw [if_pos (by omega), show (((40 : Nat) : Int) + ((t : Int) - 40)).toNat = t by omega]
theorem ex_swd {x : Int32} {L : List Value} {g : px_G} (hx : x.toInt < 0 ∨ 34 < x.toInt) : px_ex px_rw k_Law_law (.tableswitch 1721 0 34 swO) 156 40 L [.int x] g = some (.inl (1761, L, [], g)) := by
  have h : px_sw (.tableswitch 1721 0 34 swO) [.int x] = some ((1721 : Int), []) := by
    show (if x.toInt < 0 ∨ 34 < x.toInt then some ((1721 : Int), ([] : List Value)) else (swO[(x.toInt - 0).toNat]?).map (fun off => (off, ([] : List Value)))) = _
    rw [if_pos hx]
  unfold px_ex
  rw [h]
  rfl
theorem ex_lal {pc : Nat} {L st : List Value} {T : TS} : px_ex px_rw k_Law_law .laload 1 pc L (.int 0 :: .ref 72 :: st) (enc T) = some (.inl (pc + 1, L, .long (T.2.1 72 0) :: st, enc T)) := by
  have hp : sh 72 = (1, 1) := rfl
  have hin : px_in 0 1 := by decide
  refine memG (i := .laload) rfl rfl rfl rfl rfl ?_
  show (match (enc T).2 72 with | .inl (t, n, .inr (.inl f)) => if t = 1 ∧ px_in 0 n then some (Value.long (f (0 : Int32).toNatClampNeg) :: st, enc T) else none | _ => none) = _
  rw [enc_1 T hp]
  show (if 1 = 1 ∧ px_in 0 1 then some (Value.long (T.2.1 72 (0 : Int32).toNatClampNeg) :: st, enc T) else none) = _
  rw [if_pos ⟨rfl, hin⟩]
  rfl
theorem ex_len {pc i : Nat} {L : List Value} {T : TS} {Ln : Nat} (hn : T.2.2.2 = Ln) : px_ex px_rw k_Law_law .arraylength 1 pc L [.ref 1002, .int (iI (i : Int))] (enc T) = some (.inl (pc + 1, L, [.int (Int32.ofNat Ln), .int (iI (i : Int))], enc T)) := by
  rw [← hn]
  rfl
theorem lt_gt {i Ln : Nat} (hL : Ln ≤ 3584) (hi : i ≤ 100000) : (Int32.ofNat Ln - Int32.ofInt 7 < iI (i : Int)) = (((Ln : Int) - 7) < (i : Int)) := by
  rw [iI_nat, show Int32.ofInt 7 = iI 7 from rfl, iI_sub, iI_lt (by omega) (by omega) (by omega) (by omega)]
theorem ex_gt_t {i Ln : Nat} {L : List Value} {g : px_G} (hL : Ln ≤ 3584) (hi : i ≤ 100000) (h : Ln < i + 7) : px_ex px_rw k_Law_law (.if_icmp .gt 1737) 3 30 L [.int (Int32.ofNat Ln - Int32.ofInt 7), .int (iI (i : Int))] g = some (.inl (1767, L, [], g)) := by
  show (if 0 ≤ ((30 : Nat) : Int) + 1737 then some (Sum.inl (if px_c .gt (iI (i : Int)) (Int32.ofNat Ln - Int32.ofInt 7) = true then (((30 : Nat) : Int) + 1737).toNat else 30 + 3, L, ([] : List Value), g)) else none) = _
  have : px_c .gt (iI (i : Int)) (Int32.ofNat Ln - Int32.ofInt 7) = true := by
    show decide (Int32.ofNat Ln - Int32.ofInt 7 < iI (i : Int)) = true
    rw [decide_eq_true_iff, lt_gt hL hi]
    omega
  rw [this]
  rfl
theorem ex_gt_f {i Ln : Nat} {L : List Value} {g : px_G} (hL : Ln ≤ 3584) (hi : i ≤ 100000) (h : ¬ Ln < i + 7) : px_ex px_rw k_Law_law (.if_icmp .gt 1737) 3 30 L [.int (Int32.ofNat Ln - Int32.ofInt 7), .int (iI (i : Int))] g = some (.inl (33, L, [], g)) := by
  show (if 0 ≤ ((30 : Nat) : Int) + 1737 then some (Sum.inl (if px_c .gt (iI (i : Int)) (Int32.ofNat Ln - Int32.ofInt 7) = true then (((30 : Nat) : Int) + 1737).toNat else 30 + 3, L, ([] : List Value), g)) else none) = _
  have : px_c .gt (iI (i : Int)) (Int32.ofNat Ln - Int32.ofInt 7) = false := by
    show decide (Int32.ofNat Ln - Int32.ofInt 7 < iI (i : Int)) = false
    rw [decide_eq_false_iff_not, lt_gt hL hi]
    omega
  rw [this]
  rfl
theorem ex_ia0 {pc i : Nat} {L st : List Value} {T : TS} {xs : Nat → Int32} {Ln : Nat} (hx : ∀ k, T.1 1002 k = xs k) (hn : T.2.2.2 = Ln) (hi : i < Ln) (hL : Ln ≤ 3584) : px_ex px_rw k_Law_law .iaload 1 pc L (.int (iI (i : Int)) :: .ref 1002 :: st) (enc T) = some (.inl (pc + 1, L, .int (xs i) :: st, enc T)) := by
  have h := ex_iaS (pc := pc) (i := i) (j := 0) (jj := 0) (L := L) (st := st) hx hn rfl (by omega) hL
  have e0 : iI (i : Int) + Int32.ofInt 0 = iI (i : Int) := by rw [show Int32.ofInt 0 = iI 0 from rfl, iI_add, Int.add_zero]
  rw [e0] at h
  exact h
theorem ex_inc7 {i : Nat} {a5 a6 : Value} {g : px_G} : px_ex px_rw k_Law_law (.iinc 4 7) 3 1761 (LL i a5 a6) [] g = some (.inl (1764, LL (i + 7) a5 a6, [], g)) := by
  have e : LL (i + 7) a5 a6 = [.ref 1002, .ref 0, .ref 53, .ref 72, .int (iI (i : Int) + Int32.ofInt 7), a5, a6] := by
    unfold LL
    rw [show Int32.ofInt 7 = iI 7 from rfl, iI_add]
    rfl
  rw [e]
  rfl
theorem fC_sJ {G : GW} {T : TS} {S : FS} (hS : okF S) (h : fC G T S) (x : Int64) : fC G (sJ T 72 0 x) S := by
  obtain ⟨⟨c1, c2, c3, c4⟩, h2, h4, h5, h6⟩ := h
  refine ⟨⟨c1, c2, c3, fun i hi => ?_⟩, h2, h4, h5.same (fun q k q1 q2 => rfl), h6⟩
  by_cases hi4 : i < 4
  · have hp := c2 i hi4
    unfold isPl at hp
    refine (c4 i hi).frA (a := fun _ _ => False) (b := fun q _ => q = 72) ⟨fun q k hq => rfl, fun q k hq => ?_, rfl⟩ (fun q k q1 q2 z => z) (fun q k q1 q2 => by show ¬ q = 72; have : (sJ T 72 0 x).2.2.1 i = T.2.2.1 i := rfl; omega)
    rw [sJ_get, if_neg (fun z => hq z.1)]
  · exact absurd hi (by have := hS.1.1; omega)
section
variable {p : Program} {l : Launch} {e : Env} {s : State} {m : MethodId} {args : Array Value} {below : List Frame} {meth : Method} {c : Code} {ad : Nat → Nat} {sa base : Nat} {dC : Nat → ClassId} {dI : Nat → Nat → Nat} {dA : Nat → ClassId} {cells slots : Nat} {Q : State → Prop}
theorem lk_widen {R : Room} {nL : Nat} {ex : Bool} {c1 s1 pc : Nat} {L st : List Value} {g : px_G} (h1 : cells ≤ c1) (h2 : slots ≤ s1) (k : lk p l e R s m args below meth c ad base dC dI dA nL ex c1 s1 Q pc L st g) : lk p l e R s m args below meth c ad base dC dI dA nL ex cells slots Q pc L st g := fun H locs ls I hl => W.widen h1 h2 (k H locs ls I hl)
/-- both sides of ink, in the words of the calls -/
theorem v_ink {xs : Nat → Int32} {Ln : Nat} {S : FS} {T : TS} (hI : lwI xs Ln S T) (a b : Int32) : ∃ (r y : Int32) (T1 T2 : TS),
    ((∃ v : Int32, cl k_Ds_ink [.ref 0, .int a, .int b] (enc T) = some (some (.int v), enc T) ∧ r = 0 ∧ T1 = sJ T 72 0 v.toInt64) ∨ (noI a b T ∧ r = 1 ∧ T1 = T)) ∧
    cl k_Dm_ink [.ref 53, .int a, .int b] (enc T1) = some (some (.int y), enc T2) ∧ lwI xs Ln S T2 ∧ T1.1 1002 = T.1 1002 ∧ T1.2.2.2 = T.2.2.2 ∧ T2.1 53 0 = r ∧ (r = 1 ∨ (r = 0 ∧ T2.2.1 72 0 = y.toInt64)) := by
  obtain ⟨hS, hC, hM, hx, hn⟩ := id hI
  by_cases hP : isK S.1 a.toInt ∧ 0 ≤ b.toInt ∧ b.toInt ≤ 9
  · have e1 := q_Ds_ink hS.1 hC.1 (in_I a) hP.1 hP.2
    simp only [iI_of] at e1
    obtain ⟨v, hv⟩ : ∃ v, v = iI (qInk S.1 a.toInt b.toInt) := ⟨_, rfl⟩
    rw [← hv] at e1
    have hM1 : fM (sJ T 72 0 v.toInt64) S := hM
    have hC1 : fC GG (sJ T 72 0 v.toInt64) S := fC_sJ hS hC _
    obtain ⟨T2, e2, fr2, ht⟩ := q_Dm_ink hS.1 hM1.1 (in_I a) (in_I b)
    simp only [iI_of] at e2
    rw [if_pos hP] at e2 ht
    rw [← hv] at e2
    have k2 := hM1.ask fr2
    refine ⟨0, v, sJ T 72 0 v.toInt64, T2, Or.inl ⟨v, e1, rfl, rfl⟩, e2, ⟨hS, hC1.sep hS k2.2, k2.1, fun k => ?_, ?_⟩, rfl, rfl, ht, Or.inr ⟨rfl, ?_⟩⟩
    · rw [k2.2.1 _ _ (by omega)]; exact hx k
    · rw [k2.2.2.2]; exact hn
    · rw [k2.2.2.1 _ _ (by omega), sJ_get, if_pos ⟨rfl, rfl⟩]
  · obtain ⟨T2, e2, fr2, ht⟩ := q_Dm_ink hS.1 hM.1 (in_I a) (in_I b)
    simp only [iI_of] at e2
    rw [if_neg hP] at e2 ht
    have k2 := hM.ask fr2
    have h4 := hS.1.1
    have h03 : (T.1 0 3).toInt = (S.1.1 : Int) := by rw [hC.1.1, iI_toInt (by omega) (by omega)]
    refine ⟨1, iI 0, T, T2, Or.inr ⟨?_, rfl, rfl⟩, e2, ⟨hS, hC.sep hS k2.2, k2.1, fun k => ?_, ?_⟩, rfl, rfl, ht, Or.inl rfl⟩
    · unfold noI
      rw [h03]
      by_cases q1 : 0 ≤ b.toInt ∧ b.toInt ≤ 9
      · left
        intro z
        exact hP ⟨⟨z.1, z.2.1⟩, q1⟩
      · right
        omega
    · rw [k2.2.1 _ _ (by omega)]; exact hx k
    · rw [k2.2.2.2]; exact hn
theorem law_good : GoodIn px_T (va_wsS "DotScreensLaw" 38 rLk.1 (Jvm.Cond.codeWith rLk.1 method_3_code 5 (some .int) hdL :: px_T)) := by
  intro w hw
  have h1 : w ∈ px_T := by
    unfold va_wsS at hw
    rcases List.mem_append.mp hw with q | q
    · simp only [List.mem_cons, List.not_mem_nil, or_false] at q
      rcases q with rfl | rfl | rfl
      · exact lq_38
      · exact lq_st
      · exact lq_n0
    · rcases List.mem_cons.mp q with rfl | q
      · exact lq_w
      · exact q
  exact ⟨h1, px_T_good w h1⟩
set_option maxHeartbeats 4000000 in
theorem lc_ink (hl : l.stackTraces = false) (hxW : xW sa base s) (ho : okFr px_rw k_Law_law p l room_1 s m args meth c ad base dC dI dA) (hc : cells + 1 ≤ room_1.cells) (hs : slots + 6 ≤ room_1.slots) {T : TS} {S : FS} {xs : Nat → Int32} {Ln : Nat} (hI : lwI xs Ln S T) (hL : Ln ≤ 3584) {i : Nat} (hi : i + 7 ≤ Ln) {a5 a6 : Value} (K : ∀ T' S' a5 a6, lwI xs Ln S' T' → lk p l e room_1 s m args below meth c ad base dC dI dA 7 false (cells + 1) (slots + 6) Q 1761 (LL i a5 a6) [] (enc T')) : lk p l e room_1 s m args below meth c ad base dC dI dA 7 false cells slots Q 320 (LL i a5 a6) [] (enc T) := by
  obtain ⟨r, y, T1, T2, h1, e2, hI2, q1, q2, ht, hr⟩ := v_ink hI (xs (i + 1)) (xs (i + 2))
  have hx := hI.2.2.2.1
  have hn := hI.2.2.2.2
  have hx1 : ∀ k, T1.1 1002 k = xs k := fun k => by rw [q1]; exact hx k
  have hn1 : T1.2.2.2 = Ln := q2.trans hn
  have hc0 : cells ≤ room_1.cells := by omega
  have hs0 : slots ≤ room_1.slots := by omega
  refine lk_next (rw := px_rw) (md := k_Law_law) ho hc0 hs0 dd_Law_law_320 rfl rfl ?_
  refine lk_arg (j := 1) ho hc0 hs0 hx hn hL rfl (by omega) dd_Law_law_321 dd_Law_law_322 dd_Law_law_324 dd_Law_law_325 dd_Law_law_326 ?_
  refine lk_arg (j := 2) ho hc0 hs0 hx hn hL rfl (by omega) dd_Law_law_327 dd_Law_law_328 dd_Law_law_330 dd_Law_law_331 dd_Law_law_332 ?_
  refine lk_next (rw := px_rw) (md := k_Law_law) ho hc0 hs0 dd_Law_law_333 rfl rfl ?_
  intro H locs ls I hl1
  obtain ⟨C, hLk, V, hbs, hroom, hsn⟩ := id ho
  have hfix : CallFix p m c code 7 s args px_T "DotScreensLaw" := ⟨C.1, C.2.1, C.2.2.1, C.2.2.2.1, C.2.2.2.2.1⟩
  have hstk : ([Value.ref 72, .int (xs (i + 2)), .int (xs (i + 1)), .ref 0].map (px_v ad)) = ([Value.ref 0, .int (xs (i + 1)), .int (xs (i + 2)), .ref 72].map (px_v ad)).reverse ++ [] := rfl
  have hR := vx_runSW (As := [Value.ref 0, .int (xs (i + 1)), .int (xs (i + 2)), .ref 72].map (px_v ad)) (rest := []) (cells := cells) (slots := slots) (locs := locs) (H := H) (g := F0 m 334 ls ([Value.ref 72, .int (xs (i + 2)), .int (xs (i + 1)), .ref 0].map (px_v ad))) (R := room_1) (e := e) (below := below) (meth := meth) (index := 38) (n := 4) (y := rLk.1) (bytes := method_3_code) (maxL := 5) (ret := some .int) (hh := hdL) hfix (law_ink (sa := sa) l hl V.1 h1) (vx_cwSW 4 C.2.2.2.2.1 law_good rfl rfl rfl ⟨by decide +kernel, by decide +kernel, by decide +kernel⟩ ⟨by decide, by decide⟩) ⟨xPre_blind _ _, fun U hU hW => ⟨rfl, px_preU V I hU hW, hxW.up I.2.2.2.1 hU hW⟩⟩ rfl rfl hl1.1 hstk (lv_room (Nat.le_of_ble_eq_true rfl)) dd_Law_law_334 ⟨hc, hs⟩
  refine px_go (g := enc T) (g' := enc T1) hR I (enc_Ext q1 q2) (fun H1 l1 I2 => ?_)
  have K2 : lk p l e room_1 s m args below meth c ad base dC dI dA 7 false (cells + 1) (slots + 6) Q 337 (LL i a5 a6) [.int r] (enc T1) := by
    refine lk_next (rw := px_rw) (md := k_Law_law) (L' := LL i (.int r) a6) ho hc hs dd_Law_law_337 rfl rfl ?_
    refine lk_next (rw := px_rw) (md := k_Law_law) ho hc hs dd_Law_law_339 rfl rfl ?_
    refine lk_arg (j := 1) ho hc hs hx1 hn1 hL rfl (by omega) dd_Law_law_340 dd_Law_law_341 dd_Law_law_343 dd_Law_law_344 dd_Law_law_345 ?_
    refine lk_arg (j := 2) ho hc hs hx1 hn1 hL rfl (by omega) dd_Law_law_346 dd_Law_law_347 dd_Law_law_349 dd_Law_law_350 dd_Law_law_351 ?_
    obtain ⟨n2, hr2⟩ := rn_to e2
    refine lk_call0 (rw := px_rw) (md := k_Law_law) (me := k_Dm_ink) (vs := [.ref 53, .int (xs (i + 1)), .int (xs (i + 2))]) (rest := []) (i := .invokevirtual 43) ho hc hs dd_Law_law_352 (cl_V (ci := 10) (z := 0) (As := [.int (xs (i + 1)), .int (xs (i + 2))]) rfl (by decide) rfl rfl (Nat.le_of_ble_eq_true rfl) (enc_53 T1)) (Nat.le_of_ble_eq_true rfl) hr2 rfl ?_
    refine lk_next (rw := px_rw) (md := k_Law_law) (L' := LL i (.int r) (.int y)) ho hc hs dd_Law_law_355 rfl rfl ?_
    refine lk_next (rw := px_rw) (md := k_Law_law) ho hc hs dd_Law_law_357 rfl rfl ?_
    obtain ⟨n3, hr3⟩ := rn_to (q_Dm_thrown T2)
    refine lk_call0 (rw := px_rw) (md := k_Law_law) (me := k_Dm_thrown) (vs := [.ref 53]) (rest := []) (i := .invokevirtual 44) ho hc hs dd_Law_law_358 (cl_V (ci := 10) (z := 0) (As := []) rfl (by decide) rfl rfl (Nat.le_of_ble_eq_true rfl) (enc_53 T2)) (Nat.le_of_ble_eq_true rfl) hr3 rfl ?_
    rw [ht]
    refine lk_next (rw := px_rw) (md := k_Law_law) ho hc hs dd_Law_law_361 rfl rfl ?_
    refine lk_next (rw := px_rw) (md := k_Law_law) ho hc hs dd_Law_law_363 (ex_iceq (t := 368) rfl) rfl ?_
    refine lk_next (rw := px_rw) (md := k_Law_law) ho hc hs dd_Law_law_368 rfl rfl ?_
    have K3 : lk p l e room_1 s m args below meth c ad base dC dI dA 7 false (cells + 1) (slots + 6) Q 385 (LL i (.int r) (.int y)) [] (enc T2) := lk_next (rw := px_rw) (md := k_Law_law) ho hc hs dd_Law_law_385 rfl rfl (K T2 S _ _ hI2)
    rcases hr with rfl | ⟨rfl, hv⟩
    · exact lk_next (rw := px_rw) (md := k_Law_law) (pc' := 385) ho hc hs dd_Law_law_370 rfl rfl K3
    · refine lk_next (rw := px_rw) (md := k_Law_law) (pc' := 373) ho hc hs dd_Law_law_370 rfl rfl ?_
      refine lk_next (rw := px_rw) (md := k_Law_law) ho hc hs dd_Law_law_373 rfl rfl ?_
      refine lk_next (rw := px_rw) (md := k_Law_law) ho hc hs dd_Law_law_374 rfl rfl ?_
      refine lk_next (rw := px_rw) (md := k_Law_law) ho hc hs dd_Law_law_375 ex_lal rfl ?_
      rw [hv]
      refine lk_next (rw := px_rw) (md := k_Law_law) ho hc hs dd_Law_law_376 rfl rfl ?_
      refine lk_next (rw := px_rw) (md := k_Law_law) (st' := [.long y.toInt64, .long y.toInt64]) ho hc hs dd_Law_law_378 rfl rfl ?_
      refine lk_next (rw := px_rw) (md := k_Law_law) ho hc hs dd_Law_law_379 ex_lcmp rfl ?_
      exact lk_next (rw := px_rw) (md := k_Law_law) ho hc hs dd_Law_law_380 (ex_ifeq0 (t := 385) rfl) rfl K3
  exact K2 H1 l1 ls I2 hl1
set_option maxHeartbeats 4000000 in
/-- the loop -/
theorem lw_loop (hl : l.stackTraces = false) (hxW : xW sa base s) (ho : okFr px_rw k_Law_law p l room_1 s m args meth c ad base dC dI dA) {xs : Nat → Int32} {Ln : Nat} (hL : Ln ≤ 3584)
    (hend : ∀ (T : TS) (cells slots i : Nat) (a5 a6 : Value), cells ≤ 601024 → slots ≤ 7293033 → lk p l e room_1 s m args below meth c ad base dC dI dA 7 false cells slots Q 1767 (LL i a5 a6) [] (enc T)) :
    ∀ (n i cells slots : Nat) (T : TS) (S : FS) (a5 a6 : Value), lwI xs Ln S T → Ln < i + 7 + 7 * n → i ≤ 100000 → cells + n ≤ 601024 → slots + 6 * n ≤ 7293033 → lk p l e room_1 s m args below meth c ad base dC dI dA 7 false cells slots Q 23 (LL i a5 a6) [] (enc T) := by
  intro n
  induction n with
  | zero =>
    intro i cells slots T S a5 a6 hI hn hi hc1 hs1
    have hc : cells ≤ room_1.cells := hc1
    have hs : slots ≤ room_1.slots := hs1
    refine lk_next (rw := px_rw) (md := k_Law_law) ho hc hs dd_Law_law_23 rfl rfl ?_
    refine lk_next (rw := px_rw) (md := k_Law_law) ho hc hs dd_Law_law_25 rfl rfl ?_
    refine lk_next (rw := px_rw) (md := k_Law_law) ho hc hs dd_Law_law_26 (ex_len (hI.2.2.2.2)) rfl ?_
    refine lk_next (rw := px_rw) (md := k_Law_law) ho hc hs dd_Law_law_27 rfl rfl ?_
    refine lk_next (rw := px_rw) (md := k_Law_law) ho hc hs dd_Law_law_29 rfl rfl ?_
    exact lk_next (rw := px_rw) (md := k_Law_law) ho hc hs dd_Law_law_30 (ex_gt_t hL hi (by omega)) rfl (hend T cells slots i a5 a6 hc hs)
  | succ n ih =>
    intro i cells slots T S a5 a6 hI hn hi hc1 hs1
    have hc : cells ≤ room_1.cells := by show cells ≤ 601024; omega
    have hs : slots ≤ room_1.slots := by show slots ≤ 7293033; omega
    have hc2 : cells + 1 ≤ room_1.cells := by show cells + 1 ≤ 601024; omega
    have hs2 : slots + 6 ≤ room_1.slots := by show slots + 6 ≤ 7293033; omega
    refine lk_next (rw := px_rw) (md := k_Law_law) ho hc hs dd_Law_law_23 rfl rfl ?_
    refine lk_next (rw := px_rw) (md := k_Law_law) ho hc hs dd_Law_law_25 rfl rfl ?_
    refine lk_next (rw := px_rw) (md := k_Law_law) ho hc hs dd_Law_law_26 (ex_len (hI.2.2.2.2)) rfl ?_
    refine lk_next (rw := px_rw) (md := k_Law_law) ho hc hs dd_Law_law_27 rfl rfl ?_
    refine lk_next (rw := px_rw) (md := k_Law_law) ho hc hs dd_Law_law_29 rfl rfl ?_
    by_cases hq : Ln < i + 7
    · exact lk_next (rw := px_rw) (md := k_Law_law) ho hc hs dd_Law_law_30 (ex_gt_t hL hi hq) rfl (hend T cells slots i a5 a6 hc hs)
    · refine lk_next (rw := px_rw) (md := k_Law_law) ho hc hs dd_Law_law_30 (ex_gt_f hL hi hq) rfl ?_
      have hi7 : i + 7 ≤ Ln := by omega
      refine lk_next (rw := px_rw) (md := k_Law_law) ho hc hs dd_Law_law_33 rfl rfl ?_
      refine lk_next (rw := px_rw) (md := k_Law_law) ho hc hs dd_Law_law_34 rfl rfl ?_
      refine lk_next (rw := px_rw) (md := k_Law_law) ho hc hs dd_Law_law_36 (ex_ia0 hI.2.2.2.1 hI.2.2.2.2 (by omega) hL) rfl ?_
      refine lk_next (rw := px_rw) (md := k_Law_law) ho hc hs dd_Law_law_37 rfl rfl ?_
      refine lk_next (rw := px_rw) (md := k_Law_law) ho hc hs dd_Law_law_39 rfl rfl ?_
      -- behind a case
      have K : ∀ T' S' a5 a6, lwI xs Ln S' T' → lk p l e room_1 s m args below meth c ad base dC dI dA 7 false (cells + 1) (slots + 6) Q 1761 (LL i a5 a6) [] (enc T') := by
        intro T' S' b5 b6 hI'
        refine lk_next (rw := px_rw) (md := k_Law_law) (L' := LL (i + 7) b5 b6) ho hc2 hs2 dd_Law_law_1761 ex_inc7 rfl ?_
        refine lk_next (rw := px_rw) (md := k_Law_law) (pc' := 23) ho hc2 hs2 dd_Law_law_1764 rfl rfl ?_
        exact ih (i + 7) (cells + 1) (slots + 6) T' S' b5 b6 hI' (by omega) (by omega) (by omega) (by omega)
      have K0 : ∀ T' S', lwI xs Ln S' T' → lk p l e room_1 s m args below meth c ad base dC dI dA 7 false cells slots Q 1761 (LL i a5 a6) [] (enc T') := fun T' S' h => lk_widen (by omega) (by omega) (K T' S' a5 a6 h)
      generalize (xs i &&& (Int8.ofInt 63).toInt32) = x
      by_cases hd : x.toInt < 0 ∨ 34 < x.toInt
      · exact lk_next (rw := px_rw) (md := k_Law_law) ho hc hs dd_Law_law_40 (ex_swd hd) rfl (K0 T S hI)
      · obtain ⟨k, hk⟩ : ∃ k : Nat, x.toInt = (k : Int) := ⟨x.toInt.toNat, by omega⟩
        have hk35 : k < 35 := by omega
        match k, hk, hk35 with
        | 0, hk, h35 => exact lk_next (rw := px_rw) (md := k_Law_law) ho hc hs dd_Law_law_40 (ex_sw (t := 196) hk h35 rfl) rfl (lc_feed ho hc hs hI hL hi7 K0)
        | 1, hk, h35 => exact lk_next (rw := px_rw) (md := k_Law_law) ho hc hs dd_Law_law_40 (ex_sw (t := 269) hk h35 rfl) rfl (lc_end ho hc hs hI hL hi7 K0)
        | 2, hk, h35 => exact lk_next (rw := px_rw) (md := k_Law_law) ho hc hs dd_Law_law_40 (ex_sw (t := 294) hk h35 rfl) rfl (lc_fault ho hc hs hI hL hi7 K0)
        | 3, hk, h35 => exact lk_next (rw := px_rw) (md := k_Law_law) ho hc hs dd_Law_law_40 (ex_sw (t := 307) hk h35 rfl) rfl (lc_text ho hc hs hI hL hi7 K0)
        | 4, hk, h35 => exact lk_next (rw := px_rw) (md := k_Law_law) ho hc hs dd_Law_law_40 (ex_sw (t := 320) hk h35 rfl) rfl (lc_ink hl hxW ho hc2 hs2 hI hL hi7 K)
        | 5, hk, h35 => exact lk_next (rw := px_rw) (md := k_Law_law) ho hc hs dd_Law_law_40 (ex_sw (t := 388) hk h35 rfl) rfl (lc_brick ho hc hs hI hL hi7 K0)
        | 6, hk, h35 => exact lk_next (rw := px_rw) (md := k_Law_law) ho hc hs dd_Law_law_40 (ex_sw (t := 425) hk h35 rfl) rfl (lc_home ho hc hs hI hL hi7 K0)
        | 7, hk, h35 => exact lk_next (rw := px_rw) (md := k_Law_law) ho hc hs dd_Law_law_40 (ex_sw (t := 486) hk h35 rfl) rfl (lc_reduced ho hc hs hI hL hi7 K0)
        | 8, hk, h35 => exact lk_next (rw := px_rw) (md := k_Law_law) ho hc hs dd_Law_law_40 (ex_sw (t := 523) hk h35 rfl) rfl (lc_spot ho hc hs hI hL hi7 K0)
        | 9, hk, h35 => exact lk_next (rw := px_rw) (md := k_Law_law) ho hc hs dd_Law_law_40 (ex_sw (t := 572) hk h35 rfl) rfl (lc_rank ho hc hs hI hL hi7 K0)
        | 10, hk, h35 => exact lk_next (rw := px_rw) (md := k_Law_law) ho hc hs dd_Law_law_40 (ex_sw (t := 621) hk h35 rfl) rfl (lc_ranked ho hc hs hI hL hi7 K0)
        | 11, hk, h35 => exact lk_next (rw := px_rw) (md := k_Law_law) ho hc hs dd_Law_law_40 (ex_sw (t := 670) hk h35 rfl) rfl (lc_inked ho hc hs hI hL hi7 K0)
        | 12, hk, h35 => exact lk_next (rw := px_rw) (md := k_Law_law) ho hc hs dd_Law_law_40 (ex_sw (t := 719) hk h35 rfl) rfl (lc_dots ho hc hs hI hL hi7 K0)
        | 13, hk, h35 => exact lk_next (rw := px_rw) (md := k_Law_law) ho hc hs dd_Law_law_40 (ex_sw (t := 756) hk h35 rfl) rfl (lc_grown ho hc hs hI hL hi7 K0)
        | 14, hk, h35 => exact lk_next (rw := px_rw) (md := k_Law_law) ho hc hs dd_Law_law_40 (ex_sw (t := 793) hk h35 rfl) rfl (lc_slope ho hc hs hI hL hi7 K0)
        | 15, hk, h35 => exact lk_next (rw := px_rw) (md := k_Law_law) ho hc hs dd_Law_law_40 (ex_sw (t := 830) hk h35 rfl) rfl (lc_turn ho hc hs hI hL hi7 K0)
        | 16, hk, h35 => exact lk_next (rw := px_rw) (md := k_Law_law) ho hc hs dd_Law_law_40 (ex_sw (t := 879) hk h35 rfl) rfl (lc_beat ho hc hs hI hL hi7 K0)
        | 17, hk, h35 => exact lk_next (rw := px_rw) (md := k_Law_law) ho hc hs dd_Law_law_40 (ex_sw (t := 928) hk h35 rfl) rfl (lc_far ho hc hs hI hL hi7 K0)
        | 18, hk, h35 => exact lk_next (rw := px_rw) (md := k_Law_law) ho hc hs dd_Law_law_40 (ex_sw (t := 978) hk h35 rfl) rfl (lc_common ho hc hs hI hL hi7 K0)
        | 19, hk, h35 => exact lk_next (rw := px_rw) (md := k_Law_law) ho hc hs dd_Law_law_40 (ex_sw (t := 1016) hk h35 rfl) rfl (lc_inCell ho hc hs hI hL hi7 K0)
        | 20, hk, h35 => exact lk_next (rw := px_rw) (md := k_Law_law) ho hc hs dd_Law_law_40 (ex_sw (t := 1054) hk h35 rfl) rfl (lc_overlay ho hc hs hI hL hi7 K0)
        | 21, hk, h35 => exact lk_next (rw := px_rw) (md := k_Law_law) ho hc hs dd_Law_law_40 (ex_sw (t := 1091) hk h35 rfl) rfl (lc_window ho hc hs hI hL hi7 K0)
        | 22, hk, h35 => exact lk_next (rw := px_rw) (md := k_Law_law) ho hc hs dd_Law_law_40 (ex_sw (t := 1178) hk h35 rfl) rfl (lc_densest ho hc hs hI hL hi7 K0)
        | 23, hk, h35 => exact lk_next (rw := px_rw) (md := k_Law_law) ho hc hs dd_Law_law_40 (ex_sw (t := 1239) hk h35 rfl) rfl (lc_next ho hc hs hI hL hi7 K0)
        | 24, hk, h35 => exact lk_next (rw := px_rw) (md := k_Law_law) ho hc hs dd_Law_law_40 (ex_sw (t := 1288) hk h35 rfl) rfl (lc_choose ho hc hs hI hL hi7 K0)
        | 25, hk, h35 => exact lk_next (rw := px_rw) (md := k_Law_law) ho hc hs dd_Law_law_40 (ex_sw (t := 1391) hk h35 rfl) rfl (lc_bestTurn ho hc hs hI hL hi7 K0)
        | 26, hk, h35 => exact lk_next (rw := px_rw) (md := k_Law_law) ho hc hs dd_Law_law_40 (ex_sw (t := 1428) hk h35 rfl) rfl (lc_screen ho hc hs hI hL hi7 K0)
        | 27, hk, h35 => exact lk_next (rw := px_rw) (md := k_Law_law) ho hc hs dd_Law_law_40 (ex_sw (t := 1501) hk h35 rfl) rfl (lc_shape ho hc hs hI hL hi7 K0)
        | 28, hk, h35 => exact lk_next (rw := px_rw) (md := k_Law_law) ho hc hs dd_Law_law_40 (ex_sw (t := 1538) hk h35 rfl) rfl (lc_tone ho hc hs hI hL hi7 K0)
        | 29, hk, h35 => exact lk_next (rw := px_rw) (md := k_Law_law) ho hc hs dd_Law_law_40 (ex_sw (t := 1575) hk h35 rfl) rfl (lc_offset ho hc hs hI hL hi7 K0)
        | 30, hk, h35 => exact lk_next (rw := px_rw) (md := k_Law_law) ho hc hs dd_Law_law_40 (ex_sw (t := 1624) hk h35 rfl) rfl (lc_swap ho hc hs hI hL hi7 K0)
        | 31, hk, h35 => exact lk_next (rw := px_rw) (md := k_Law_law) ho hc hs dd_Law_law_40 (ex_sw (t := 1661) hk h35 rfl) rfl (lc_drop ho hc hs hI hL hi7 K0)
        | 32, hk, h35 => exact lk_next (rw := px_rw) (md := k_Law_law) ho hc hs dd_Law_law_40 (ex_sw (t := 1686) hk h35 rfl) rfl (lc_status ho hc hs hI hL hi7 K0)
        | 33, hk, h35 => exact lk_next (rw := px_rw) (md := k_Law_law) ho hc hs dd_Law_law_40 (ex_sw (t := 1711) hk h35 rfl) rfl (lc_most ho hc hs hI hL hi7 K0)
        | 34, hk, h35 => exact lk_next (rw := px_rw) (md := k_Law_law) ho hc hs dd_Law_law_40 (ex_sw (t := 1736) hk h35 rfl) rfl (lc_count ho hc hs hI hL hi7 K0)
        | k + 35, hk, h35 => omega
end
