/-! THE LAW'S CASES. -/
section
variable {p : Program} {l : Launch} {e : Env} {s : State} {m : MethodId} {args : Array Value} {below : List Frame} {meth : Method} {c : Code} {ad : Nat → Nat} {base : Nat} {dC : Nat → ClassId} {dI : Nat → Nat → Nat} {dA : Nat → ClassId} {cells slots : Nat} {Q : State → Prop}
abbrev LL (i : Nat) (a5 a6 : Value) : List Value := [.ref 1002, .ref 0, .ref 53, .ref 72, .int (iI (i : Int)), a5, a6]
theorem ex_iaS {pc i j : Nat} {jj : Int} {L st : List Value} {T : TS} {xs : Nat → Int32} {Ln : Nat} (hx : ∀ k, T.1 1002 k = xs k) (hn : T.2.2.2 = Ln) (hj : jj = (j : Int)) (hi : i + j < Ln) (hL : Ln ≤ 3584) : px_ex px_rw k_Law_law .iaload 1 pc L (.int (iI (i : Int) + Int32.ofInt jj) :: .ref 1002 :: st) (enc T) = some (.inl (pc + 1, L, .int (xs (i + j)) :: st, enc T)) := by
  have ea : iI (i : Int) + Int32.ofInt jj = iI ((i + j : Nat) : Int) := by
    rw [hj, show Int32.ofInt (j : Int) = iI (j : Int) from rfl, iI_add]
    congr 1
  have hin : px_in (iI ((i + j : Nat) : Int)) T.2.2.2 := by
    rw [px_in, iI_toInt (by omega) (by omega), hn]
    omega
  refine memG (i := .iaload) rfl rfl rfl rfl rfl ?_
  rw [ea]
  show (if ((9 : Nat) = 0 ∨ (9 : Nat) = 9) ∧ px_in (iI ((i + j : Nat) : Int)) T.2.2.2 then some (Value.int (T.1 1002 (iI ((i + j : Nat) : Int)).toNatClampNeg) :: st, enc T) else none) = _
  rw [if_pos ⟨Or.inr rfl, hin⟩, iI_ix (by omega) (by omega), show (((i + j : Nat) : Int)).toNat = i + j by omega, hx]
theorem lk_arg (ho : okFr px_rw k_Law_law p l room_1 s m args meth c ad base dC dI dA) (hc : cells ≤ room_1.cells) (hs : slots ≤ room_1.slots) {T : TS} {xs : Nat → Int32} {Ln : Nat} (hx : ∀ k, T.1 1002 k = xs k) (hn : T.2.2.2 = Ln) (hL : Ln ≤ 3584) {pc i j : Nat} {jj : Int} (hj : jj = (j : Int)) (hi : i + j < Ln) {a5 a6 : Value} {st : List Value} (d1 : decode (px_rw k_Law_law).2.1 pc = .ok (.aload_n 0, 1)) (d2 : decode (px_rw k_Law_law).2.1 (pc + 1) = .ok (.iload 4, 2)) (d3 : decode (px_rw k_Law_law).2.1 (pc + 3) = .ok (.iconst jj, 1)) (d4 : decode (px_rw k_Law_law).2.1 (pc + 4) = .ok (.iadd, 1)) (d5 : decode (px_rw k_Law_law).2.1 (pc + 5) = .ok (.iaload, 1))
    (k : lk p l e room_1 s m args below meth c ad base dC dI dA 7 false cells slots Q (pc + 6) (LL i a5 a6) (.int (xs (i + j)) :: st) (enc T)) : lk p l e room_1 s m args below meth c ad base dC dI dA 7 false cells slots Q pc (LL i a5 a6) st (enc T) := by
  refine lk_next (rw := px_rw) (md := k_Law_law) ho hc hs d1 rfl rfl ?_
  refine lk_next (rw := px_rw) (md := k_Law_law) ho hc hs d2 rfl rfl ?_
  refine lk_next (rw := px_rw) (md := k_Law_law) ho hc hs d3 rfl rfl ?_
  refine lk_next (rw := px_rw) (md := k_Law_law) ho hc hs d4 rfl rfl ?_
  exact lk_next (rw := px_rw) (md := k_Law_law) ho hc hs d5 (ex_iaS hx hn hj hi hL) rfl k
theorem lk_argB (ho : okFr px_rw k_Law_law p l room_1 s m args meth c ad base dC dI dA) (hc : cells ≤ room_1.cells) (hs : slots ≤ room_1.slots) {T : TS} {xs : Nat → Int32} {Ln : Nat} (hx : ∀ k, T.1 1002 k = xs k) (hn : T.2.2.2 = Ln) (hL : Ln ≤ 3584) {pc i : Nat} (hi : i + 6 < Ln) {a5 a6 : Value} {st : List Value} (d1 : decode (px_rw k_Law_law).2.1 pc = .ok (.aload_n 0, 1)) (d2 : decode (px_rw k_Law_law).2.1 (pc + 1) = .ok (.iload 4, 2)) (d3 : decode (px_rw k_Law_law).2.1 (pc + 3) = .ok (.bipush 6, 2)) (d4 : decode (px_rw k_Law_law).2.1 (pc + 5) = .ok (.iadd, 1)) (d5 : decode (px_rw k_Law_law).2.1 (pc + 6) = .ok (.iaload, 1))
    (k : lk p l e room_1 s m args below meth c ad base dC dI dA 7 false cells slots Q (pc + 7) (LL i a5 a6) (.int (xs (i + 6)) :: st) (enc T)) : lk p l e room_1 s m args below meth c ad base dC dI dA 7 false cells slots Q pc (LL i a5 a6) st (enc T) := by
  refine lk_next (rw := px_rw) (md := k_Law_law) ho hc hs d1 rfl rfl ?_
  refine lk_next (rw := px_rw) (md := k_Law_law) ho hc hs d2 rfl rfl ?_
  refine lk_next (rw := px_rw) (md := k_Law_law) (L' := LL i a5 a6) (st' := .int (Int32.ofInt 6) :: .int (iI (i : Int)) :: .ref 1002 :: st) ho hc hs d3 rfl rfl ?_
  refine lk_next (rw := px_rw) (md := k_Law_law) ho hc hs d4 rfl rfl ?_
  exact lk_next (rw := px_rw) (md := k_Law_law) ho hc hs d5 (ex_iaS (j := 6) hx hn rfl hi hL) rfl k
theorem enc_53 (T : TS) : (enc T).2 53 = .inr (10, (List.range 52).map (fv T 53 10)) := enc_obj T (p := 53) (ci := 10) (n := 52) rfl (by decide)
theorem ex_iceq {pc : Nat} {off : Int} {L : List Value} {g : px_G} {x : Int32} {t : Nat} (ht : (pc : Int) + off = (t : Int)) : px_ex px_rw k_Law_law (.if_icmp .eq off) 3 pc L [.int x, .int x] g = some (.inl (t, L, [], g)) := by
  show (if 0 ≤ (pc : Int) + off then some (Sum.inl (if px_c .eq x x = true then ((pc : Int) + off).toNat else pc + 3, L, [], g)) else none) = _
  have : px_c .eq x x = true := by
    show decide (x = x) = true
    simp
  rw [this, if_pos (by omega), if_pos rfl, ht]
  rfl
theorem ex_ifeq0 {pc : Nat} {off : Int} {L : List Value} {g : px_G} {t : Nat} (ht : (pc : Int) + off = (t : Int)) : px_ex px_rw k_Law_law (.ifCond .eq off) 3 pc L [.int 0] g = some (.inl (t, L, [], g)) := by
  show (if 0 ≤ (pc : Int) + off then some (Sum.inl (if px_c .eq 0 0 = true then ((pc : Int) + off).toNat else pc + 3, L, [], g)) else none) = _
  have : px_c .eq 0 0 = true := rfl
  rw [this, if_pos (by omega), if_pos rfl, ht]
  rfl
theorem ex_lcmp {pc : Nat} {L : List Value} {g : px_G} {x : Int64} : px_ex px_rw k_Law_law .lcmp 1 pc L [.long x, .long x] g = some (.inl (pc + 1, L, [.int 0], g)) := by
  have : lg_cmp x x = 0 := by rw [cmp_eq]
  show some (Sum.inl (pc + 1, L, [Value.int (lg_cmp x x)], g)) = _
  rw [this]
theorem lk_bool (ho : okFr px_rw k_Law_law p l room_1 s m args meth c ad base dC dI dA) (hc : cells ≤ room_1.cells) (hs : slots ≤ room_1.slots) {g : px_G} {pc : Nat} {L st : List Value} {x : Int32} (d1 : decode (px_rw k_Law_law).2.1 pc = .ok (.ifCond .eq 7, 3)) (d2 : decode (px_rw k_Law_law).2.1 (pc + 3) = .ok (.iconst 1, 1)) (d3 : decode (px_rw k_Law_law).2.1 (pc + 4) = .ok (.goto 4, 3)) (d4 : decode (px_rw k_Law_law).2.1 (pc + 7) = .ok (.iconst 0, 1))
    (k : lk p l e room_1 s m args below meth c ad base dC dI dA 7 false cells slots Q (pc + 8) L (.int (iI (if x = 0 then 0 else 1)) :: st) g) : lk p l e room_1 s m args below meth c ad base dC dI dA 7 false cells slots Q pc L (.int x :: st) g := by
  by_cases h : x = 0
  · rw [if_pos h] at k
    have e1 : px_ex px_rw k_Law_law (.ifCond .eq 7) 3 pc L (.int x :: st) g = some (.inl (pc + 7, L, st, g)) := by
      show (if 0 ≤ (pc : Int) + 7 then some (Sum.inl (if px_c .eq x 0 = true then ((pc : Int) + 7).toNat else pc + 3, L, st, g)) else none) = _
      have : px_c .eq x 0 = true := by
        show decide (x = 0) = true
        simp [h]
      rw [this, if_pos (by omega), if_pos rfl, show ((pc : Int) + 7).toNat = pc + 7 by omega]
    refine lk_next (rw := px_rw) (md := k_Law_law) ho hc hs d1 e1 rfl ?_
    exact lk_next (rw := px_rw) (md := k_Law_law) ho hc hs d4 rfl rfl k
  · rw [if_neg h] at k
    have e1 : px_ex px_rw k_Law_law (.ifCond .eq 7) 3 pc L (.int x :: st) g = some (.inl (pc + 3, L, st, g)) := by
      show (if 0 ≤ (pc : Int) + 7 then some (Sum.inl (if px_c .eq x 0 = true then ((pc : Int) + 7).toNat else pc + 3, L, st, g)) else none) = _
      have : px_c .eq x 0 = false := by
        show decide (x = 0) = false
        simp [h]
      rw [this, if_pos (by omega), if_neg (by decide)]
    have e3 : px_ex px_rw k_Law_law (.goto 4) 3 (pc + 4) L (.int (Int32.ofInt 1) :: st) g = some (.inl (pc + 8, L, .int (Int32.ofInt 1) :: st, g)) := by
      show (if 0 ≤ ((pc + 4 : Nat) : Int) + 4 then some (Sum.inl (if true = true then (((pc + 4 : Nat) : Int) + 4).toNat else pc + 4 + 3, L, Value.int (Int32.ofInt 1) :: st, g)) else none) = _
      rw [if_pos (by omega), if_pos rfl, show (((pc + 4 : Nat) : Int) + 4).toNat = pc + 8 by omega]
    refine lk_next (rw := px_rw) (md := k_Law_law) ho hc hs d1 e1 rfl ?_
    refine lk_next (rw := px_rw) (md := k_Law_law) ho hc hs d2 rfl rfl ?_
    exact lk_next (rw := px_rw) (md := k_Law_law) ho hc hs d3 e3 rfl k
set_option maxHeartbeats 1000000 in
theorem lc_feed (ho : okFr px_rw k_Law_law p l room_1 s m args meth c ad base dC dI dA) (hc : cells ≤ room_1.cells) (hs : slots ≤ room_1.slots) {T : TS} {S : FS} {xs : Nat → Int32} {Ln : Nat} (hI : lwI xs Ln S T) (hL : Ln ≤ 3584) {i : Nat} (hi : i + 7 ≤ Ln) {a5 a6 : Value} (K : ∀ T' S', lwI xs Ln S' T' → lk p l e room_1 s m args below meth c ad base dC dI dA 7 false cells slots Q 1761 (LL i a5 a6) [] (enc T')) : lk p l e room_1 s m args below meth c ad base dC dI dA 7 false cells slots Q 196 (LL i a5 a6) [] (enc T) := by
  obtain ⟨x, T1, T2, S2, e1, e2, hI2, q1, q2⟩ := v_feed hI (xs (i + 1)) (xs (i + 2)) (xs (i + 3)) (xs (i + 4)) (xs (i + 5))
  have hx := hI.2.2.2.1
  have hn := hI.2.2.2.2
  have hx1 : ∀ k, T1.1 1002 k = xs k := fun k => by rw [q1]; exact hx k
  have hn1 : T1.2.2.2 = Ln := q2.trans hn
  refine lk_next (rw := px_rw) (md := k_Law_law) ho hc hs dd_Law_law_196 rfl rfl ?_
  refine lk_arg (j := 1) ho hc hs hx hn hL rfl (by omega) dd_Law_law_197 dd_Law_law_198 dd_Law_law_200 dd_Law_law_201 dd_Law_law_202 ?_
  refine lk_arg (j := 2) ho hc hs hx hn hL rfl (by omega) dd_Law_law_203 dd_Law_law_204 dd_Law_law_206 dd_Law_law_207 dd_Law_law_208 ?_
  refine lk_arg (j := 3) ho hc hs hx hn hL rfl (by omega) dd_Law_law_209 dd_Law_law_210 dd_Law_law_212 dd_Law_law_213 dd_Law_law_214 ?_
  refine lk_arg (j := 4) ho hc hs hx hn hL rfl (by omega) dd_Law_law_215 dd_Law_law_216 dd_Law_law_218 dd_Law_law_219 dd_Law_law_220 ?_
  refine lk_arg (j := 5) ho hc hs hx hn hL rfl (by omega) dd_Law_law_221 dd_Law_law_222 dd_Law_law_224 dd_Law_law_225 dd_Law_law_226 ?_
  obtain ⟨n1, hr1⟩ := rn_to e1
  refine lk_call0 (rw := px_rw) (md := k_Law_law) (me := k_Ds_feed) (vs := [.ref 0, .int (xs (i + 1)), .int (xs (i + 2)), .int (xs (i + 3)), .int (xs (i + 4)), .int (xs (i + 5))]) (rest := []) (i := .invokevirtual 19) ho hc hs dd_Law_law_227 (cl_V (ci := 9) (z := 0) (As := [.int (xs (i + 1)), .int (xs (i + 2)), .int (xs (i + 3)), .int (xs (i + 4)), .int (xs (i + 5))]) rfl (by decide) rfl rfl (Nat.le_of_ble_eq_true rfl) (enc_o0 T)) (Nat.le_of_ble_eq_true rfl) hr1 rfl ?_
  refine lk_next (rw := px_rw) (md := k_Law_law) ho hc hs dd_Law_law_230 rfl rfl ?_
  refine lk_arg (j := 1) ho hc hs hx1 hn1 hL rfl (by omega) dd_Law_law_231 dd_Law_law_232 dd_Law_law_234 dd_Law_law_235 dd_Law_law_236 ?_
  refine lk_arg (j := 2) ho hc hs hx1 hn1 hL rfl (by omega) dd_Law_law_237 dd_Law_law_238 dd_Law_law_240 dd_Law_law_241 dd_Law_law_242 ?_
  refine lk_arg (j := 3) ho hc hs hx1 hn1 hL rfl (by omega) dd_Law_law_243 dd_Law_law_244 dd_Law_law_246 dd_Law_law_247 dd_Law_law_248 ?_
  refine lk_arg (j := 4) ho hc hs hx1 hn1 hL rfl (by omega) dd_Law_law_249 dd_Law_law_250 dd_Law_law_252 dd_Law_law_253 dd_Law_law_254 ?_
  refine lk_arg (j := 5) ho hc hs hx1 hn1 hL rfl (by omega) dd_Law_law_255 dd_Law_law_256 dd_Law_law_258 dd_Law_law_259 dd_Law_law_260 ?_
  obtain ⟨n2, hr2⟩ := rn_to e2
  refine lk_call0 (rw := px_rw) (md := k_Law_law) (me := k_Dm_feed) (vs := [.ref 53, .int (xs (i + 1)), .int (xs (i + 2)), .int (xs (i + 3)), .int (xs (i + 4)), .int (xs (i + 5))]) (rest := [.int x]) (i := .invokevirtual 23) ho hc hs dd_Law_law_261 (cl_V (ci := 10) (z := 0) (As := [.int (xs (i + 1)), .int (xs (i + 2)), .int (xs (i + 3)), .int (xs (i + 4)), .int (xs (i + 5))]) rfl (by decide) rfl rfl (Nat.le_of_ble_eq_true rfl) (enc_53 T1)) (Nat.le_of_ble_eq_true rfl) hr2 rfl ?_
  exact lk_next (rw := px_rw) (md := k_Law_law) ho hc hs dd_Law_law_264 (ex_iceq (t := 1761) rfl) rfl (K T2 S2 hI2)
set_option maxHeartbeats 1000000 in
theorem lc_end (ho : okFr px_rw k_Law_law p l room_1 s m args meth c ad base dC dI dA) (hc : cells ≤ room_1.cells) (hs : slots ≤ room_1.slots) {T : TS} {S : FS} {xs : Nat → Int32} {Ln : Nat} (hI : lwI xs Ln S T) (hL : Ln ≤ 3584) {i : Nat} (hi : i + 7 ≤ Ln) {a5 a6 : Value} (K : ∀ T' S', lwI xs Ln S' T' → lk p l e room_1 s m args below meth c ad base dC dI dA 7 false cells slots Q 1761 (LL i a5 a6) [] (enc T')) : lk p l e room_1 s m args below meth c ad base dC dI dA 7 false cells slots Q 269 (LL i a5 a6) [] (enc T) := by
  obtain ⟨x, T1, T2, S2, e1, e2, hI2, q1, q2⟩ := v_end hI (xs (i + 1))
  have hx := hI.2.2.2.1
  have hn := hI.2.2.2.2
  have hx1 : ∀ k, T1.1 1002 k = xs k := fun k => by rw [q1]; exact hx k
  have hn1 : T1.2.2.2 = Ln := q2.trans hn
  refine lk_next (rw := px_rw) (md := k_Law_law) ho hc hs dd_Law_law_269 rfl rfl ?_
  refine lk_arg (j := 1) ho hc hs hx hn hL rfl (by omega) dd_Law_law_270 dd_Law_law_271 dd_Law_law_273 dd_Law_law_274 dd_Law_law_275 ?_
  obtain ⟨n1, hr1⟩ := rn_to e1
  refine lk_call0 (rw := px_rw) (md := k_Law_law) (me := k_Ds_end) (vs := [.ref 0, .int (xs (i + 1))]) (rest := []) (i := .invokevirtual 24) ho hc hs dd_Law_law_276 (cl_V (ci := 9) (z := 0) (As := [.int (xs (i + 1))]) rfl (by decide) rfl rfl (Nat.le_of_ble_eq_true rfl) (enc_o0 T)) (Nat.le_of_ble_eq_true rfl) hr1 rfl ?_
  refine lk_next (rw := px_rw) (md := k_Law_law) ho hc hs dd_Law_law_279 rfl rfl ?_
  refine lk_arg (j := 1) ho hc hs hx1 hn1 hL rfl (by omega) dd_Law_law_280 dd_Law_law_281 dd_Law_law_283 dd_Law_law_284 dd_Law_law_285 ?_
  obtain ⟨n2, hr2⟩ := rn_to e2
  refine lk_call0 (rw := px_rw) (md := k_Law_law) (me := k_Dm_end) (vs := [.ref 53, .int (xs (i + 1))]) (rest := [.int x]) (i := .invokevirtual 28) ho hc hs dd_Law_law_286 (cl_V (ci := 10) (z := 0) (As := [.int (xs (i + 1))]) rfl (by decide) rfl rfl (Nat.le_of_ble_eq_true rfl) (enc_53 T1)) (Nat.le_of_ble_eq_true rfl) hr2 rfl ?_
  exact lk_next (rw := px_rw) (md := k_Law_law) ho hc hs dd_Law_law_289 (ex_iceq (t := 1761) rfl) rfl (K T2 S2 hI2)
set_option maxHeartbeats 1000000 in
theorem lc_fault (ho : okFr px_rw k_Law_law p l room_1 s m args meth c ad base dC dI dA) (hc : cells ≤ room_1.cells) (hs : slots ≤ room_1.slots) {T : TS} {S : FS} {xs : Nat → Int32} {Ln : Nat} (hI : lwI xs Ln S T) (hL : Ln ≤ 3584) {i : Nat} (hi : i + 7 ≤ Ln) {a5 a6 : Value} (K : ∀ T' S', lwI xs Ln S' T' → lk p l e room_1 s m args below meth c ad base dC dI dA 7 false cells slots Q 1761 (LL i a5 a6) [] (enc T')) : lk p l e room_1 s m args below meth c ad base dC dI dA 7 false cells slots Q 294 (LL i a5 a6) [] (enc T) := by
  obtain ⟨x, T1, T2, S2, e1, e2, hI2, q1, q2⟩ := v_fault hI 
  have hx := hI.2.2.2.1
  have hn := hI.2.2.2.2
  have hx1 : ∀ k, T1.1 1002 k = xs k := fun k => by rw [q1]; exact hx k
  have hn1 : T1.2.2.2 = Ln := q2.trans hn
  refine lk_next (rw := px_rw) (md := k_Law_law) ho hc hs dd_Law_law_294 rfl rfl ?_
  obtain ⟨n1, hr1⟩ := rn_to e1
  refine lk_call0 (rw := px_rw) (md := k_Law_law) (me := k_Ds_fault) (vs := [.ref 0]) (rest := []) (i := .invokevirtual 29) ho hc hs dd_Law_law_295 (cl_V (ci := 9) (z := 0) (As := []) rfl (by decide) rfl rfl (Nat.le_of_ble_eq_true rfl) (enc_o0 T)) (Nat.le_of_ble_eq_true rfl) hr1 rfl ?_
  refine lk_next (rw := px_rw) (md := k_Law_law) ho hc hs dd_Law_law_298 rfl rfl ?_
  obtain ⟨n2, hr2⟩ := rn_to e2
  refine lk_call0 (rw := px_rw) (md := k_Law_law) (me := k_Dm_fault) (vs := [.ref 53]) (rest := [.int x]) (i := .invokevirtual 33) ho hc hs dd_Law_law_299 (cl_V (ci := 10) (z := 0) (As := []) rfl (by decide) rfl rfl (Nat.le_of_ble_eq_true rfl) (enc_53 T1)) (Nat.le_of_ble_eq_true rfl) hr2 rfl ?_
  exact lk_next (rw := px_rw) (md := k_Law_law) ho hc hs dd_Law_law_302 (ex_iceq (t := 1761) rfl) rfl (K T2 S2 hI2)
set_option maxHeartbeats 1000000 in
theorem lc_text (ho : okFr px_rw k_Law_law p l room_1 s m args meth c ad base dC dI dA) (hc : cells ≤ room_1.cells) (hs : slots ≤ room_1.slots) {T : TS} {S : FS} {xs : Nat → Int32} {Ln : Nat} (hI : lwI xs Ln S T) (hL : Ln ≤ 3584) {i : Nat} (hi : i + 7 ≤ Ln) {a5 a6 : Value} (K : ∀ T' S', lwI xs Ln S' T' → lk p l e room_1 s m args below meth c ad base dC dI dA 7 false cells slots Q 1761 (LL i a5 a6) [] (enc T')) : lk p l e room_1 s m args below meth c ad base dC dI dA 7 false cells slots Q 307 (LL i a5 a6) [] (enc T) := by
  obtain ⟨x, T1, T2, S2, e1, e2, hI2, q1, q2⟩ := v_text hI 
  have hx := hI.2.2.2.1
  have hn := hI.2.2.2.2
  have hx1 : ∀ k, T1.1 1002 k = xs k := fun k => by rw [q1]; exact hx k
  have hn1 : T1.2.2.2 = Ln := q2.trans hn
  refine lk_next (rw := px_rw) (md := k_Law_law) ho hc hs dd_Law_law_307 rfl rfl ?_
  obtain ⟨n1, hr1⟩ := rn_to e1
  refine lk_call0 (rw := px_rw) (md := k_Law_law) (me := k_Ds_text) (vs := [.ref 0]) (rest := []) (i := .invokevirtual 34) ho hc hs dd_Law_law_308 (cl_V (ci := 9) (z := 0) (As := []) rfl (by decide) rfl rfl (Nat.le_of_ble_eq_true rfl) (enc_o0 T)) (Nat.le_of_ble_eq_true rfl) hr1 rfl ?_
  refine lk_next (rw := px_rw) (md := k_Law_law) ho hc hs dd_Law_law_311 rfl rfl ?_
  obtain ⟨n2, hr2⟩ := rn_to e2
  refine lk_call0 (rw := px_rw) (md := k_Law_law) (me := k_Dm_text) (vs := [.ref 53]) (rest := [.int x]) (i := .invokevirtual 37) ho hc hs dd_Law_law_312 (cl_V (ci := 10) (z := 0) (As := []) rfl (by decide) rfl rfl (Nat.le_of_ble_eq_true rfl) (enc_53 T1)) (Nat.le_of_ble_eq_true rfl) hr2 rfl ?_
  exact lk_next (rw := px_rw) (md := k_Law_law) ho hc hs dd_Law_law_315 (ex_iceq (t := 1761) rfl) rfl (K T2 S2 hI2)
set_option maxHeartbeats 1000000 in
theorem lc_brick (ho : okFr px_rw k_Law_law p l room_1 s m args meth c ad base dC dI dA) (hc : cells ≤ room_1.cells) (hs : slots ≤ room_1.slots) {T : TS} {S : FS} {xs : Nat → Int32} {Ln : Nat} (hI : lwI xs Ln S T) (hL : Ln ≤ 3584) {i : Nat} (hi : i + 7 ≤ Ln) {a5 a6 : Value} (K : ∀ T' S', lwI xs Ln S' T' → lk p l e room_1 s m args below meth c ad base dC dI dA 7 false cells slots Q 1761 (LL i a5 a6) [] (enc T')) : lk p l e room_1 s m args below meth c ad base dC dI dA 7 false cells slots Q 388 (LL i a5 a6) [] (enc T) := by
  obtain ⟨x, T1, T2, S2, e1, e2, hI2, q1, q2⟩ := v_brick hI (xs (i + 1)) (xs (i + 2))
  have hx := hI.2.2.2.1
  have hn := hI.2.2.2.2
  have hx1 : ∀ k, T1.1 1002 k = xs k := fun k => by rw [q1]; exact hx k
  have hn1 : T1.2.2.2 = Ln := q2.trans hn
  refine lk_next (rw := px_rw) (md := k_Law_law) ho hc hs dd_Law_law_388 rfl rfl ?_
  refine lk_arg (j := 1) ho hc hs hx hn hL rfl (by omega) dd_Law_law_389 dd_Law_law_390 dd_Law_law_392 dd_Law_law_393 dd_Law_law_394 ?_
  refine lk_arg (j := 2) ho hc hs hx hn hL rfl (by omega) dd_Law_law_395 dd_Law_law_396 dd_Law_law_398 dd_Law_law_399 dd_Law_law_400 ?_
  obtain ⟨n1, hr1⟩ := rn_to e1
  refine lk_call0 (rw := px_rw) (md := k_Law_law) (me := k_Ds_brick) (vs := [.ref 0, .int (xs (i + 1)), .int (xs (i + 2))]) (rest := []) (i := .invokevirtual 47) ho hc hs dd_Law_law_401 (cl_V (ci := 9) (z := 0) (As := [.int (xs (i + 1)), .int (xs (i + 2))]) rfl (by decide) rfl rfl (Nat.le_of_ble_eq_true rfl) (enc_o0 T)) (Nat.le_of_ble_eq_true rfl) hr1 rfl ?_
  refine lk_next (rw := px_rw) (md := k_Law_law) ho hc hs dd_Law_law_404 rfl rfl ?_
  refine lk_arg (j := 1) ho hc hs hx1 hn1 hL rfl (by omega) dd_Law_law_405 dd_Law_law_406 dd_Law_law_408 dd_Law_law_409 dd_Law_law_410 ?_
  refine lk_arg (j := 2) ho hc hs hx1 hn1 hL rfl (by omega) dd_Law_law_411 dd_Law_law_412 dd_Law_law_414 dd_Law_law_415 dd_Law_law_416 ?_
  obtain ⟨n2, hr2⟩ := rn_to e2
  refine lk_call0 (rw := px_rw) (md := k_Law_law) (me := k_Dm_brick) (vs := [.ref 53, .int (xs (i + 1)), .int (xs (i + 2))]) (rest := [.int x]) (i := .invokevirtual 50) ho hc hs dd_Law_law_417 (cl_V (ci := 10) (z := 0) (As := [.int (xs (i + 1)), .int (xs (i + 2))]) rfl (by decide) rfl rfl (Nat.le_of_ble_eq_true rfl) (enc_53 T1)) (Nat.le_of_ble_eq_true rfl) hr2 rfl ?_
  exact lk_next (rw := px_rw) (md := k_Law_law) ho hc hs dd_Law_law_420 (ex_iceq (t := 1761) rfl) rfl (K T2 S2 hI2)
set_option maxHeartbeats 1000000 in
theorem lc_home (ho : okFr px_rw k_Law_law p l room_1 s m args meth c ad base dC dI dA) (hc : cells ≤ room_1.cells) (hs : slots ≤ room_1.slots) {T : TS} {S : FS} {xs : Nat → Int32} {Ln : Nat} (hI : lwI xs Ln S T) (hL : Ln ≤ 3584) {i : Nat} (hi : i + 7 ≤ Ln) {a5 a6 : Value} (K : ∀ T' S', lwI xs Ln S' T' → lk p l e room_1 s m args below meth c ad base dC dI dA 7 false cells slots Q 1761 (LL i a5 a6) [] (enc T')) : lk p l e room_1 s m args below meth c ad base dC dI dA 7 false cells slots Q 425 (LL i a5 a6) [] (enc T) := by
  obtain ⟨x, T1, T2, S2, e1, e2, hI2, q1, q2⟩ := v_home hI (xs (i + 1)) (xs (i + 2)) (xs (i + 3)) (xs (i + 4))
  have hx := hI.2.2.2.1
  have hn := hI.2.2.2.2
  have hx1 : ∀ k, T1.1 1002 k = xs k := fun k => by rw [q1]; exact hx k
  have hn1 : T1.2.2.2 = Ln := q2.trans hn
  refine lk_next (rw := px_rw) (md := k_Law_law) ho hc hs dd_Law_law_425 rfl rfl ?_
  refine lk_arg (j := 1) ho hc hs hx hn hL rfl (by omega) dd_Law_law_426 dd_Law_law_427 dd_Law_law_429 dd_Law_law_430 dd_Law_law_431 ?_
  refine lk_arg (j := 2) ho hc hs hx hn hL rfl (by omega) dd_Law_law_432 dd_Law_law_433 dd_Law_law_435 dd_Law_law_436 dd_Law_law_437 ?_
  refine lk_arg (j := 3) ho hc hs hx hn hL rfl (by omega) dd_Law_law_438 dd_Law_law_439 dd_Law_law_441 dd_Law_law_442 dd_Law_law_443 ?_
  refine lk_arg (j := 4) ho hc hs hx hn hL rfl (by omega) dd_Law_law_444 dd_Law_law_445 dd_Law_law_447 dd_Law_law_448 dd_Law_law_449 ?_
  obtain ⟨n1, hr1⟩ := rn_to e1
  refine lk_call0 (rw := px_rw) (md := k_Law_law) (me := k_Ds_home) (vs := [.ref 0, .int (xs (i + 1)), .int (xs (i + 2)), .int (xs (i + 3)), .int (xs (i + 4))]) (rest := []) (i := .invokevirtual 51) ho hc hs dd_Law_law_450 (cl_V (ci := 9) (z := 0) (As := [.int (xs (i + 1)), .int (xs (i + 2)), .int (xs (i + 3)), .int (xs (i + 4))]) rfl (by decide) rfl rfl (Nat.le_of_ble_eq_true rfl) (enc_o0 T)) (Nat.le_of_ble_eq_true rfl) hr1 rfl ?_
  refine lk_next (rw := px_rw) (md := k_Law_law) ho hc hs dd_Law_law_453 rfl rfl ?_
  refine lk_arg (j := 1) ho hc hs hx1 hn1 hL rfl (by omega) dd_Law_law_454 dd_Law_law_455 dd_Law_law_457 dd_Law_law_458 dd_Law_law_459 ?_
  refine lk_arg (j := 2) ho hc hs hx1 hn1 hL rfl (by omega) dd_Law_law_460 dd_Law_law_461 dd_Law_law_463 dd_Law_law_464 dd_Law_law_465 ?_
  refine lk_arg (j := 3) ho hc hs hx1 hn1 hL rfl (by omega) dd_Law_law_466 dd_Law_law_467 dd_Law_law_469 dd_Law_law_470 dd_Law_law_471 ?_
  refine lk_arg (j := 4) ho hc hs hx1 hn1 hL rfl (by omega) dd_Law_law_472 dd_Law_law_473 dd_Law_law_475 dd_Law_law_476 dd_Law_law_477 ?_
  obtain ⟨n2, hr2⟩ := rn_to e2
  refine lk_call0 (rw := px_rw) (md := k_Law_law) (me := k_Dm_home) (vs := [.ref 53, .int (xs (i + 1)), .int (xs (i + 2)), .int (xs (i + 3)), .int (xs (i + 4))]) (rest := [.int x]) (i := .invokevirtual 55) ho hc hs dd_Law_law_478 (cl_V (ci := 10) (z := 0) (As := [.int (xs (i + 1)), .int (xs (i + 2)), .int (xs (i + 3)), .int (xs (i + 4))]) rfl (by decide) rfl rfl (Nat.le_of_ble_eq_true rfl) (enc_53 T1)) (Nat.le_of_ble_eq_true rfl) hr2 rfl ?_
  exact lk_next (rw := px_rw) (md := k_Law_law) ho hc hs dd_Law_law_481 (ex_iceq (t := 1761) rfl) rfl (K T2 S2 hI2)
set_option maxHeartbeats 1000000 in
theorem lc_reduced (ho : okFr px_rw k_Law_law p l room_1 s m args meth c ad base dC dI dA) (hc : cells ≤ room_1.cells) (hs : slots ≤ room_1.slots) {T : TS} {S : FS} {xs : Nat → Int32} {Ln : Nat} (hI : lwI xs Ln S T) (hL : Ln ≤ 3584) {i : Nat} (hi : i + 7 ≤ Ln) {a5 a6 : Value} (K : ∀ T' S', lwI xs Ln S' T' → lk p l e room_1 s m args below meth c ad base dC dI dA 7 false cells slots Q 1761 (LL i a5 a6) [] (enc T')) : lk p l e room_1 s m args below meth c ad base dC dI dA 7 false cells slots Q 486 (LL i a5 a6) [] (enc T) := by
  obtain ⟨x, T1, T2, S2, e1, e2, hI2, q1, q2⟩ := v_reduced hI (xs (i + 1)) (xs (i + 2))
  have hx := hI.2.2.2.1
  have hn := hI.2.2.2.2
  have hx1 : ∀ k, T1.1 1002 k = xs k := fun k => by rw [q1]; exact hx k
  have hn1 : T1.2.2.2 = Ln := q2.trans hn
  refine lk_next (rw := px_rw) (md := k_Law_law) ho hc hs dd_Law_law_486 rfl rfl ?_
  refine lk_arg (j := 1) ho hc hs hx hn hL rfl (by omega) dd_Law_law_487 dd_Law_law_488 dd_Law_law_490 dd_Law_law_491 dd_Law_law_492 ?_
  refine lk_arg (j := 2) ho hc hs hx hn hL rfl (by omega) dd_Law_law_493 dd_Law_law_494 dd_Law_law_496 dd_Law_law_497 dd_Law_law_498 ?_
  obtain ⟨n1, hr1⟩ := rn_to e1
  refine lk_call0 (rw := px_rw) (md := k_Law_law) (me := k_Ds_reduced) (vs := [.ref 0, .int (xs (i + 1)), .int (xs (i + 2))]) (rest := []) (i := .invokevirtual 56) ho hc hs dd_Law_law_499 (cl_V (ci := 9) (z := 0) (As := [.int (xs (i + 1)), .int (xs (i + 2))]) rfl (by decide) rfl rfl (Nat.le_of_ble_eq_true rfl) (enc_o0 T)) (Nat.le_of_ble_eq_true rfl) hr1 rfl ?_
  refine lk_next (rw := px_rw) (md := k_Law_law) ho hc hs dd_Law_law_502 rfl rfl ?_
  refine lk_arg (j := 1) ho hc hs hx1 hn1 hL rfl (by omega) dd_Law_law_503 dd_Law_law_504 dd_Law_law_506 dd_Law_law_507 dd_Law_law_508 ?_
  refine lk_arg (j := 2) ho hc hs hx1 hn1 hL rfl (by omega) dd_Law_law_509 dd_Law_law_510 dd_Law_law_512 dd_Law_law_513 dd_Law_law_514 ?_
  obtain ⟨n2, hr2⟩ := rn_to e2
  refine lk_call0 (rw := px_rw) (md := k_Law_law) (me := k_Dm_reduced) (vs := [.ref 53, .int (xs (i + 1)), .int (xs (i + 2))]) (rest := [.int x]) (i := .invokevirtual 59) ho hc hs dd_Law_law_515 (cl_V (ci := 10) (z := 0) (As := [.int (xs (i + 1)), .int (xs (i + 2))]) rfl (by decide) rfl rfl (Nat.le_of_ble_eq_true rfl) (enc_53 T1)) (Nat.le_of_ble_eq_true rfl) hr2 rfl ?_
  exact lk_next (rw := px_rw) (md := k_Law_law) ho hc hs dd_Law_law_518 (ex_iceq (t := 1761) rfl) rfl (K T2 S2 hI2)
set_option maxHeartbeats 1000000 in
theorem lc_spot (ho : okFr px_rw k_Law_law p l room_1 s m args meth c ad base dC dI dA) (hc : cells ≤ room_1.cells) (hs : slots ≤ room_1.slots) {T : TS} {S : FS} {xs : Nat → Int32} {Ln : Nat} (hI : lwI xs Ln S T) (hL : Ln ≤ 3584) {i : Nat} (hi : i + 7 ≤ Ln) {a5 a6 : Value} (K : ∀ T' S', lwI xs Ln S' T' → lk p l e room_1 s m args below meth c ad base dC dI dA 7 false cells slots Q 1761 (LL i a5 a6) [] (enc T')) : lk p l e room_1 s m args below meth c ad base dC dI dA 7 false cells slots Q 523 (LL i a5 a6) [] (enc T) := by
  obtain ⟨x, T1, T2, S2, e1, e2, hI2, q1, q2⟩ := v_spot hI (xs (i + 1)) (xs (i + 2)) (xs (i + 3))
  have hx := hI.2.2.2.1
  have hn := hI.2.2.2.2
  have hx1 : ∀ k, T1.1 1002 k = xs k := fun k => by rw [q1]; exact hx k
  have hn1 : T1.2.2.2 = Ln := q2.trans hn
  refine lk_next (rw := px_rw) (md := k_Law_law) ho hc hs dd_Law_law_523 rfl rfl ?_
  refine lk_arg (j := 1) ho hc hs hx hn hL rfl (by omega) dd_Law_law_524 dd_Law_law_525 dd_Law_law_527 dd_Law_law_528 dd_Law_law_529 ?_
  refine lk_arg (j := 2) ho hc hs hx hn hL rfl (by omega) dd_Law_law_530 dd_Law_law_531 dd_Law_law_533 dd_Law_law_534 dd_Law_law_535 ?_
  refine lk_arg (j := 3) ho hc hs hx hn hL rfl (by omega) dd_Law_law_536 dd_Law_law_537 dd_Law_law_539 dd_Law_law_540 dd_Law_law_541 ?_
  obtain ⟨n1, hr1⟩ := rn_to e1
  refine lk_call0 (rw := px_rw) (md := k_Law_law) (me := k_Ds_spot) (vs := [.ref 0, .int (xs (i + 1)), .int (xs (i + 2)), .int (xs (i + 3))]) (rest := []) (i := .invokevirtual 60) ho hc hs dd_Law_law_542 (cl_V (ci := 9) (z := 0) (As := [.int (xs (i + 1)), .int (xs (i + 2)), .int (xs (i + 3))]) rfl (by decide) rfl rfl (Nat.le_of_ble_eq_true rfl) (enc_o0 T)) (Nat.le_of_ble_eq_true rfl) hr1 rfl ?_
  refine lk_next (rw := px_rw) (md := k_Law_law) ho hc hs dd_Law_law_545 rfl rfl ?_
  refine lk_arg (j := 1) ho hc hs hx1 hn1 hL rfl (by omega) dd_Law_law_546 dd_Law_law_547 dd_Law_law_549 dd_Law_law_550 dd_Law_law_551 ?_
  refine lk_arg (j := 2) ho hc hs hx1 hn1 hL rfl (by omega) dd_Law_law_552 dd_Law_law_553 dd_Law_law_555 dd_Law_law_556 dd_Law_law_557 ?_
  refine lk_arg (j := 3) ho hc hs hx1 hn1 hL rfl (by omega) dd_Law_law_558 dd_Law_law_559 dd_Law_law_561 dd_Law_law_562 dd_Law_law_563 ?_
  obtain ⟨n2, hr2⟩ := rn_to e2
  refine lk_call0 (rw := px_rw) (md := k_Law_law) (me := k_Dm_spot) (vs := [.ref 53, .int (xs (i + 1)), .int (xs (i + 2)), .int (xs (i + 3))]) (rest := [.int x]) (i := .invokevirtual 64) ho hc hs dd_Law_law_564 (cl_V (ci := 10) (z := 0) (As := [.int (xs (i + 1)), .int (xs (i + 2)), .int (xs (i + 3))]) rfl (by decide) rfl rfl (Nat.le_of_ble_eq_true rfl) (enc_53 T1)) (Nat.le_of_ble_eq_true rfl) hr2 rfl ?_
  exact lk_next (rw := px_rw) (md := k_Law_law) ho hc hs dd_Law_law_567 (ex_iceq (t := 1761) rfl) rfl (K T2 S2 hI2)
set_option maxHeartbeats 1000000 in
theorem lc_rank (ho : okFr px_rw k_Law_law p l room_1 s m args meth c ad base dC dI dA) (hc : cells ≤ room_1.cells) (hs : slots ≤ room_1.slots) {T : TS} {S : FS} {xs : Nat → Int32} {Ln : Nat} (hI : lwI xs Ln S T) (hL : Ln ≤ 3584) {i : Nat} (hi : i + 7 ≤ Ln) {a5 a6 : Value} (K : ∀ T' S', lwI xs Ln S' T' → lk p l e room_1 s m args below meth c ad base dC dI dA 7 false cells slots Q 1761 (LL i a5 a6) [] (enc T')) : lk p l e room_1 s m args below meth c ad base dC dI dA 7 false cells slots Q 572 (LL i a5 a6) [] (enc T) := by
  obtain ⟨x, T1, T2, S2, e1, e2, hI2, q1, q2⟩ := v_rank hI (xs (i + 1)) (xs (i + 2)) (xs (i + 3))
  have hx := hI.2.2.2.1
  have hn := hI.2.2.2.2
  have hx1 : ∀ k, T1.1 1002 k = xs k := fun k => by rw [q1]; exact hx k
  have hn1 : T1.2.2.2 = Ln := q2.trans hn
  refine lk_next (rw := px_rw) (md := k_Law_law) ho hc hs dd_Law_law_572 rfl rfl ?_
  refine lk_arg (j := 1) ho hc hs hx hn hL rfl (by omega) dd_Law_law_573 dd_Law_law_574 dd_Law_law_576 dd_Law_law_577 dd_Law_law_578 ?_
  refine lk_arg (j := 2) ho hc hs hx hn hL rfl (by omega) dd_Law_law_579 dd_Law_law_580 dd_Law_law_582 dd_Law_law_583 dd_Law_law_584 ?_
  refine lk_arg (j := 3) ho hc hs hx hn hL rfl (by omega) dd_Law_law_585 dd_Law_law_586 dd_Law_law_588 dd_Law_law_589 dd_Law_law_590 ?_
  obtain ⟨n1, hr1⟩ := rn_to e1
  refine lk_call0 (rw := px_rw) (md := k_Law_law) (me := k_Ds_rank) (vs := [.ref 0, .int (xs (i + 1)), .int (xs (i + 2)), .int (xs (i + 3))]) (rest := []) (i := .invokevirtual 65) ho hc hs dd_Law_law_591 (cl_V (ci := 9) (z := 0) (As := [.int (xs (i + 1)), .int (xs (i + 2)), .int (xs (i + 3))]) rfl (by decide) rfl rfl (Nat.le_of_ble_eq_true rfl) (enc_o0 T)) (Nat.le_of_ble_eq_true rfl) hr1 rfl ?_
  refine lk_next (rw := px_rw) (md := k_Law_law) ho hc hs dd_Law_law_594 rfl rfl ?_
  refine lk_arg (j := 1) ho hc hs hx1 hn1 hL rfl (by omega) dd_Law_law_595 dd_Law_law_596 dd_Law_law_598 dd_Law_law_599 dd_Law_law_600 ?_
  refine lk_arg (j := 2) ho hc hs hx1 hn1 hL rfl (by omega) dd_Law_law_601 dd_Law_law_602 dd_Law_law_604 dd_Law_law_605 dd_Law_law_606 ?_
  refine lk_arg (j := 3) ho hc hs hx1 hn1 hL rfl (by omega) dd_Law_law_607 dd_Law_law_608 dd_Law_law_610 dd_Law_law_611 dd_Law_law_612 ?_
  obtain ⟨n2, hr2⟩ := rn_to e2
  refine lk_call0 (rw := px_rw) (md := k_Law_law) (me := k_Dm_rank) (vs := [.ref 53, .int (xs (i + 1)), .int (xs (i + 2)), .int (xs (i + 3))]) (rest := [.int x]) (i := .invokevirtual 68) ho hc hs dd_Law_law_613 (cl_V (ci := 10) (z := 0) (As := [.int (xs (i + 1)), .int (xs (i + 2)), .int (xs (i + 3))]) rfl (by decide) rfl rfl (Nat.le_of_ble_eq_true rfl) (enc_53 T1)) (Nat.le_of_ble_eq_true rfl) hr2 rfl ?_
  exact lk_next (rw := px_rw) (md := k_Law_law) ho hc hs dd_Law_law_616 (ex_iceq (t := 1761) rfl) rfl (K T2 S2 hI2)
set_option maxHeartbeats 1000000 in
theorem lc_ranked (ho : okFr px_rw k_Law_law p l room_1 s m args meth c ad base dC dI dA) (hc : cells ≤ room_1.cells) (hs : slots ≤ room_1.slots) {T : TS} {S : FS} {xs : Nat → Int32} {Ln : Nat} (hI : lwI xs Ln S T) (hL : Ln ≤ 3584) {i : Nat} (hi : i + 7 ≤ Ln) {a5 a6 : Value} (K : ∀ T' S', lwI xs Ln S' T' → lk p l e room_1 s m args below meth c ad base dC dI dA 7 false cells slots Q 1761 (LL i a5 a6) [] (enc T')) : lk p l e room_1 s m args below meth c ad base dC dI dA 7 false cells slots Q 621 (LL i a5 a6) [] (enc T) := by
  obtain ⟨x, T1, T2, S2, e1, e2, hI2, q1, q2⟩ := v_ranked hI (xs (i + 1)) (xs (i + 2)) (xs (i + 3))
  have hx := hI.2.2.2.1
  have hn := hI.2.2.2.2
  have hx1 : ∀ k, T1.1 1002 k = xs k := fun k => by rw [q1]; exact hx k
  have hn1 : T1.2.2.2 = Ln := q2.trans hn
  refine lk_next (rw := px_rw) (md := k_Law_law) ho hc hs dd_Law_law_621 rfl rfl ?_
  refine lk_arg (j := 1) ho hc hs hx hn hL rfl (by omega) dd_Law_law_622 dd_Law_law_623 dd_Law_law_625 dd_Law_law_626 dd_Law_law_627 ?_
  refine lk_arg (j := 2) ho hc hs hx hn hL rfl (by omega) dd_Law_law_628 dd_Law_law_629 dd_Law_law_631 dd_Law_law_632 dd_Law_law_633 ?_
  refine lk_arg (j := 3) ho hc hs hx hn hL rfl (by omega) dd_Law_law_634 dd_Law_law_635 dd_Law_law_637 dd_Law_law_638 dd_Law_law_639 ?_
  obtain ⟨n1, hr1⟩ := rn_to e1
  refine lk_call0 (rw := px_rw) (md := k_Law_law) (me := k_Ds_ranked) (vs := [.ref 0, .int (xs (i + 1)), .int (xs (i + 2)), .int (xs (i + 3))]) (rest := []) (i := .invokevirtual 69) ho hc hs dd_Law_law_640 (cl_V (ci := 9) (z := 0) (As := [.int (xs (i + 1)), .int (xs (i + 2)), .int (xs (i + 3))]) rfl (by decide) rfl rfl (Nat.le_of_ble_eq_true rfl) (enc_o0 T)) (Nat.le_of_ble_eq_true rfl) hr1 rfl ?_
  refine lk_next (rw := px_rw) (md := k_Law_law) ho hc hs dd_Law_law_643 rfl rfl ?_
  refine lk_arg (j := 1) ho hc hs hx1 hn1 hL rfl (by omega) dd_Law_law_644 dd_Law_law_645 dd_Law_law_647 dd_Law_law_648 dd_Law_law_649 ?_
  refine lk_arg (j := 2) ho hc hs hx1 hn1 hL rfl (by omega) dd_Law_law_650 dd_Law_law_651 dd_Law_law_653 dd_Law_law_654 dd_Law_law_655 ?_
  refine lk_arg (j := 3) ho hc hs hx1 hn1 hL rfl (by omega) dd_Law_law_656 dd_Law_law_657 dd_Law_law_659 dd_Law_law_660 dd_Law_law_661 ?_
  obtain ⟨n2, hr2⟩ := rn_to e2
  refine lk_call0 (rw := px_rw) (md := k_Law_law) (me := k_Dm_ranked) (vs := [.ref 53, .int (xs (i + 1)), .int (xs (i + 2)), .int (xs (i + 3))]) (rest := [.int x]) (i := .invokevirtual 72) ho hc hs dd_Law_law_662 (cl_V (ci := 10) (z := 0) (As := [.int (xs (i + 1)), .int (xs (i + 2)), .int (xs (i + 3))]) rfl (by decide) rfl rfl (Nat.le_of_ble_eq_true rfl) (enc_53 T1)) (Nat.le_of_ble_eq_true rfl) hr2 rfl ?_
  exact lk_next (rw := px_rw) (md := k_Law_law) ho hc hs dd_Law_law_665 (ex_iceq (t := 1761) rfl) rfl (K T2 S2 hI2)
set_option maxHeartbeats 1000000 in
theorem lc_inked (ho : okFr px_rw k_Law_law p l room_1 s m args meth c ad base dC dI dA) (hc : cells ≤ room_1.cells) (hs : slots ≤ room_1.slots) {T : TS} {S : FS} {xs : Nat → Int32} {Ln : Nat} (hI : lwI xs Ln S T) (hL : Ln ≤ 3584) {i : Nat} (hi : i + 7 ≤ Ln) {a5 a6 : Value} (K : ∀ T' S', lwI xs Ln S' T' → lk p l e room_1 s m args below meth c ad base dC dI dA 7 false cells slots Q 1761 (LL i a5 a6) [] (enc T')) : lk p l e room_1 s m args below meth c ad base dC dI dA 7 false cells slots Q 670 (LL i a5 a6) [] (enc T) := by
  obtain ⟨x, T1, T2, S2, e1, e2, hI2, q1, q2⟩ := v_inked hI (xs (i + 1)) (xs (i + 2)) (xs (i + 3))
  have hx := hI.2.2.2.1
  have hn := hI.2.2.2.2
  have hx1 : ∀ k, T1.1 1002 k = xs k := fun k => by rw [q1]; exact hx k
  have hn1 : T1.2.2.2 = Ln := q2.trans hn
  refine lk_next (rw := px_rw) (md := k_Law_law) ho hc hs dd_Law_law_670 rfl rfl ?_
  refine lk_arg (j := 1) ho hc hs hx hn hL rfl (by omega) dd_Law_law_671 dd_Law_law_672 dd_Law_law_674 dd_Law_law_675 dd_Law_law_676 ?_
  refine lk_arg (j := 2) ho hc hs hx hn hL rfl (by omega) dd_Law_law_677 dd_Law_law_678 dd_Law_law_680 dd_Law_law_681 dd_Law_law_682 ?_
  refine lk_arg (j := 3) ho hc hs hx hn hL rfl (by omega) dd_Law_law_683 dd_Law_law_684 dd_Law_law_686 dd_Law_law_687 dd_Law_law_688 ?_
  obtain ⟨n1, hr1⟩ := rn_to e1
  refine lk_call0 (rw := px_rw) (md := k_Law_law) (me := k_Ds_inked) (vs := [.ref 0, .int (xs (i + 1)), .int (xs (i + 2)), .int (xs (i + 3))]) (rest := []) (i := .invokevirtual 73) ho hc hs dd_Law_law_689 (cl_V (ci := 9) (z := 0) (As := [.int (xs (i + 1)), .int (xs (i + 2)), .int (xs (i + 3))]) rfl (by decide) rfl rfl (Nat.le_of_ble_eq_true rfl) (enc_o0 T)) (Nat.le_of_ble_eq_true rfl) hr1 rfl ?_
  refine lk_next (rw := px_rw) (md := k_Law_law) ho hc hs dd_Law_law_692 rfl rfl ?_
  refine lk_arg (j := 1) ho hc hs hx1 hn1 hL rfl (by omega) dd_Law_law_693 dd_Law_law_694 dd_Law_law_696 dd_Law_law_697 dd_Law_law_698 ?_
  refine lk_arg (j := 2) ho hc hs hx1 hn1 hL rfl (by omega) dd_Law_law_699 dd_Law_law_700 dd_Law_law_702 dd_Law_law_703 dd_Law_law_704 ?_
  refine lk_arg (j := 3) ho hc hs hx1 hn1 hL rfl (by omega) dd_Law_law_705 dd_Law_law_706 dd_Law_law_708 dd_Law_law_709 dd_Law_law_710 ?_
  obtain ⟨n2, hr2⟩ := rn_to e2
  refine lk_call0 (rw := px_rw) (md := k_Law_law) (me := k_Dm_inked) (vs := [.ref 53, .int (xs (i + 1)), .int (xs (i + 2)), .int (xs (i + 3))]) (rest := [.int x]) (i := .invokevirtual 77) ho hc hs dd_Law_law_711 (cl_V (ci := 10) (z := 0) (As := [.int (xs (i + 1)), .int (xs (i + 2)), .int (xs (i + 3))]) rfl (by decide) rfl rfl (Nat.le_of_ble_eq_true rfl) (enc_53 T1)) (Nat.le_of_ble_eq_true rfl) hr2 rfl ?_
  exact lk_next (rw := px_rw) (md := k_Law_law) ho hc hs dd_Law_law_714 (ex_iceq (t := 1761) rfl) rfl (K T2 S2 hI2)
set_option maxHeartbeats 1000000 in
theorem lc_dots (ho : okFr px_rw k_Law_law p l room_1 s m args meth c ad base dC dI dA) (hc : cells ≤ room_1.cells) (hs : slots ≤ room_1.slots) {T : TS} {S : FS} {xs : Nat → Int32} {Ln : Nat} (hI : lwI xs Ln S T) (hL : Ln ≤ 3584) {i : Nat} (hi : i + 7 ≤ Ln) {a5 a6 : Value} (K : ∀ T' S', lwI xs Ln S' T' → lk p l e room_1 s m args below meth c ad base dC dI dA 7 false cells slots Q 1761 (LL i a5 a6) [] (enc T')) : lk p l e room_1 s m args below meth c ad base dC dI dA 7 false cells slots Q 719 (LL i a5 a6) [] (enc T) := by
  obtain ⟨x, T1, T2, S2, e1, e2, hI2, q1, q2⟩ := v_dots hI (xs (i + 1)) (xs (i + 2))
  have hx := hI.2.2.2.1
  have hn := hI.2.2.2.2
  have hx1 : ∀ k, T1.1 1002 k = xs k := fun k => by rw [q1]; exact hx k
  have hn1 : T1.2.2.2 = Ln := q2.trans hn
  refine lk_next (rw := px_rw) (md := k_Law_law) ho hc hs dd_Law_law_719 rfl rfl ?_
  refine lk_arg (j := 1) ho hc hs hx hn hL rfl (by omega) dd_Law_law_720 dd_Law_law_721 dd_Law_law_723 dd_Law_law_724 dd_Law_law_725 ?_
  refine lk_arg (j := 2) ho hc hs hx hn hL rfl (by omega) dd_Law_law_726 dd_Law_law_727 dd_Law_law_729 dd_Law_law_730 dd_Law_law_731 ?_
  obtain ⟨n1, hr1⟩ := rn_to e1
  refine lk_call0 (rw := px_rw) (md := k_Law_law) (me := k_Ds_dots) (vs := [.ref 0, .int (xs (i + 1)), .int (xs (i + 2))]) (rest := []) (i := .invokevirtual 78) ho hc hs dd_Law_law_732 (cl_V (ci := 9) (z := 0) (As := [.int (xs (i + 1)), .int (xs (i + 2))]) rfl (by decide) rfl rfl (Nat.le_of_ble_eq_true rfl) (enc_o0 T)) (Nat.le_of_ble_eq_true rfl) hr1 rfl ?_
  refine lk_next (rw := px_rw) (md := k_Law_law) ho hc hs dd_Law_law_735 rfl rfl ?_
  refine lk_arg (j := 1) ho hc hs hx1 hn1 hL rfl (by omega) dd_Law_law_736 dd_Law_law_737 dd_Law_law_739 dd_Law_law_740 dd_Law_law_741 ?_
  refine lk_arg (j := 2) ho hc hs hx1 hn1 hL rfl (by omega) dd_Law_law_742 dd_Law_law_743 dd_Law_law_745 dd_Law_law_746 dd_Law_law_747 ?_
  obtain ⟨n2, hr2⟩ := rn_to e2
  refine lk_call0 (rw := px_rw) (md := k_Law_law) (me := k_Dm_dots) (vs := [.ref 53, .int (xs (i + 1)), .int (xs (i + 2))]) (rest := [.int x]) (i := .invokevirtual 81) ho hc hs dd_Law_law_748 (cl_V (ci := 10) (z := 0) (As := [.int (xs (i + 1)), .int (xs (i + 2))]) rfl (by decide) rfl rfl (Nat.le_of_ble_eq_true rfl) (enc_53 T1)) (Nat.le_of_ble_eq_true rfl) hr2 rfl ?_
  exact lk_next (rw := px_rw) (md := k_Law_law) ho hc hs dd_Law_law_751 (ex_iceq (t := 1761) rfl) rfl (K T2 S2 hI2)
set_option maxHeartbeats 1000000 in
theorem lc_grown (ho : okFr px_rw k_Law_law p l room_1 s m args meth c ad base dC dI dA) (hc : cells ≤ room_1.cells) (hs : slots ≤ room_1.slots) {T : TS} {S : FS} {xs : Nat → Int32} {Ln : Nat} (hI : lwI xs Ln S T) (hL : Ln ≤ 3584) {i : Nat} (hi : i + 7 ≤ Ln) {a5 a6 : Value} (K : ∀ T' S', lwI xs Ln S' T' → lk p l e room_1 s m args below meth c ad base dC dI dA 7 false cells slots Q 1761 (LL i a5 a6) [] (enc T')) : lk p l e room_1 s m args below meth c ad base dC dI dA 7 false cells slots Q 756 (LL i a5 a6) [] (enc T) := by
  obtain ⟨x, T1, T2, S2, e1, e2, hI2, q1, q2⟩ := v_grown hI (xs (i + 1)) (xs (i + 2))
  have hx := hI.2.2.2.1
  have hn := hI.2.2.2.2
  have hx1 : ∀ k, T1.1 1002 k = xs k := fun k => by rw [q1]; exact hx k
  have hn1 : T1.2.2.2 = Ln := q2.trans hn
  refine lk_next (rw := px_rw) (md := k_Law_law) ho hc hs dd_Law_law_756 rfl rfl ?_
  refine lk_arg (j := 1) ho hc hs hx hn hL rfl (by omega) dd_Law_law_757 dd_Law_law_758 dd_Law_law_760 dd_Law_law_761 dd_Law_law_762 ?_
  refine lk_arg (j := 2) ho hc hs hx hn hL rfl (by omega) dd_Law_law_763 dd_Law_law_764 dd_Law_law_766 dd_Law_law_767 dd_Law_law_768 ?_
  obtain ⟨n1, hr1⟩ := rn_to e1
  refine lk_call0 (rw := px_rw) (md := k_Law_law) (me := k_Ds_grown) (vs := [.ref 0, .int (xs (i + 1)), .int (xs (i + 2))]) (rest := []) (i := .invokevirtual 82) ho hc hs dd_Law_law_769 (cl_V (ci := 9) (z := 0) (As := [.int (xs (i + 1)), .int (xs (i + 2))]) rfl (by decide) rfl rfl (Nat.le_of_ble_eq_true rfl) (enc_o0 T)) (Nat.le_of_ble_eq_true rfl) hr1 rfl ?_
  refine lk_next (rw := px_rw) (md := k_Law_law) ho hc hs dd_Law_law_772 rfl rfl ?_
  refine lk_arg (j := 1) ho hc hs hx1 hn1 hL rfl (by omega) dd_Law_law_773 dd_Law_law_774 dd_Law_law_776 dd_Law_law_777 dd_Law_law_778 ?_
  refine lk_arg (j := 2) ho hc hs hx1 hn1 hL rfl (by omega) dd_Law_law_779 dd_Law_law_780 dd_Law_law_782 dd_Law_law_783 dd_Law_law_784 ?_
  obtain ⟨n2, hr2⟩ := rn_to e2
  refine lk_call0 (rw := px_rw) (md := k_Law_law) (me := k_Dm_grown) (vs := [.ref 53, .int (xs (i + 1)), .int (xs (i + 2))]) (rest := [.int x]) (i := .invokevirtual 85) ho hc hs dd_Law_law_785 (cl_V (ci := 10) (z := 0) (As := [.int (xs (i + 1)), .int (xs (i + 2))]) rfl (by decide) rfl rfl (Nat.le_of_ble_eq_true rfl) (enc_53 T1)) (Nat.le_of_ble_eq_true rfl) hr2 rfl ?_
  exact lk_next (rw := px_rw) (md := k_Law_law) ho hc hs dd_Law_law_788 (ex_iceq (t := 1761) rfl) rfl (K T2 S2 hI2)
set_option maxHeartbeats 1000000 in
theorem lc_slope (ho : okFr px_rw k_Law_law p l room_1 s m args meth c ad base dC dI dA) (hc : cells ≤ room_1.cells) (hs : slots ≤ room_1.slots) {T : TS} {S : FS} {xs : Nat → Int32} {Ln : Nat} (hI : lwI xs Ln S T) (hL : Ln ≤ 3584) {i : Nat} (hi : i + 7 ≤ Ln) {a5 a6 : Value} (K : ∀ T' S', lwI xs Ln S' T' → lk p l e room_1 s m args below meth c ad base dC dI dA 7 false cells slots Q 1761 (LL i a5 a6) [] (enc T')) : lk p l e room_1 s m args below meth c ad base dC dI dA 7 false cells slots Q 793 (LL i a5 a6) [] (enc T) := by
  obtain ⟨x, T1, T2, S2, e1, e2, hI2, q1, q2⟩ := v_slope hI (xs (i + 1)) (xs (i + 2))
  have hx := hI.2.2.2.1
  have hn := hI.2.2.2.2
  have hx1 : ∀ k, T1.1 1002 k = xs k := fun k => by rw [q1]; exact hx k
  have hn1 : T1.2.2.2 = Ln := q2.trans hn
  refine lk_next (rw := px_rw) (md := k_Law_law) ho hc hs dd_Law_law_793 rfl rfl ?_
  refine lk_arg (j := 1) ho hc hs hx hn hL rfl (by omega) dd_Law_law_794 dd_Law_law_795 dd_Law_law_797 dd_Law_law_798 dd_Law_law_799 ?_
  refine lk_arg (j := 2) ho hc hs hx hn hL rfl (by omega) dd_Law_law_800 dd_Law_law_801 dd_Law_law_803 dd_Law_law_804 dd_Law_law_805 ?_
  obtain ⟨n1, hr1⟩ := rn_to e1
  refine lk_call0 (rw := px_rw) (md := k_Law_law) (me := k_Ds_slope) (vs := [.ref 0, .int (xs (i + 1)), .int (xs (i + 2))]) (rest := []) (i := .invokevirtual 86) ho hc hs dd_Law_law_806 (cl_V (ci := 9) (z := 0) (As := [.int (xs (i + 1)), .int (xs (i + 2))]) rfl (by decide) rfl rfl (Nat.le_of_ble_eq_true rfl) (enc_o0 T)) (Nat.le_of_ble_eq_true rfl) hr1 rfl ?_
  refine lk_next (rw := px_rw) (md := k_Law_law) ho hc hs dd_Law_law_809 rfl rfl ?_
  refine lk_arg (j := 1) ho hc hs hx1 hn1 hL rfl (by omega) dd_Law_law_810 dd_Law_law_811 dd_Law_law_813 dd_Law_law_814 dd_Law_law_815 ?_
  refine lk_arg (j := 2) ho hc hs hx1 hn1 hL rfl (by omega) dd_Law_law_816 dd_Law_law_817 dd_Law_law_819 dd_Law_law_820 dd_Law_law_821 ?_
  obtain ⟨n2, hr2⟩ := rn_to e2
  refine lk_call0 (rw := px_rw) (md := k_Law_law) (me := k_Dm_slope) (vs := [.ref 53, .int (xs (i + 1)), .int (xs (i + 2))]) (rest := [.int x]) (i := .invokevirtual 89) ho hc hs dd_Law_law_822 (cl_V (ci := 10) (z := 0) (As := [.int (xs (i + 1)), .int (xs (i + 2))]) rfl (by decide) rfl rfl (Nat.le_of_ble_eq_true rfl) (enc_53 T1)) (Nat.le_of_ble_eq_true rfl) hr2 rfl ?_
  exact lk_next (rw := px_rw) (md := k_Law_law) ho hc hs dd_Law_law_825 (ex_iceq (t := 1761) rfl) rfl (K T2 S2 hI2)
set_option maxHeartbeats 1000000 in
theorem lc_turn (ho : okFr px_rw k_Law_law p l room_1 s m args meth c ad base dC dI dA) (hc : cells ≤ room_1.cells) (hs : slots ≤ room_1.slots) {T : TS} {S : FS} {xs : Nat → Int32} {Ln : Nat} (hI : lwI xs Ln S T) (hL : Ln ≤ 3584) {i : Nat} (hi : i + 7 ≤ Ln) {a5 a6 : Value} (K : ∀ T' S', lwI xs Ln S' T' → lk p l e room_1 s m args below meth c ad base dC dI dA 7 false cells slots Q 1761 (LL i a5 a6) [] (enc T')) : lk p l e room_1 s m args below meth c ad base dC dI dA 7 false cells slots Q 830 (LL i a5 a6) [] (enc T) := by
  obtain ⟨x, T1, T2, S2, e1, e2, hI2, q1, q2⟩ := v_turn hI (xs (i + 1)) (xs (i + 2)) (xs (i + 3))
  have hx := hI.2.2.2.1
  have hn := hI.2.2.2.2
  have hx1 : ∀ k, T1.1 1002 k = xs k := fun k => by rw [q1]; exact hx k
  have hn1 : T1.2.2.2 = Ln := q2.trans hn
  refine lk_next (rw := px_rw) (md := k_Law_law) ho hc hs dd_Law_law_830 rfl rfl ?_
  refine lk_arg (j := 1) ho hc hs hx hn hL rfl (by omega) dd_Law_law_831 dd_Law_law_832 dd_Law_law_834 dd_Law_law_835 dd_Law_law_836 ?_
  refine lk_arg (j := 2) ho hc hs hx hn hL rfl (by omega) dd_Law_law_837 dd_Law_law_838 dd_Law_law_840 dd_Law_law_841 dd_Law_law_842 ?_
  refine lk_arg (j := 3) ho hc hs hx hn hL rfl (by omega) dd_Law_law_843 dd_Law_law_844 dd_Law_law_846 dd_Law_law_847 dd_Law_law_848 ?_
  obtain ⟨n1, hr1⟩ := rn_to e1
  refine lk_call0 (rw := px_rw) (md := k_Law_law) (me := k_Ds_turn) (vs := [.ref 0, .int (xs (i + 1)), .int (xs (i + 2)), .int (xs (i + 3))]) (rest := []) (i := .invokevirtual 90) ho hc hs dd_Law_law_849 (cl_V (ci := 9) (z := 0) (As := [.int (xs (i + 1)), .int (xs (i + 2)), .int (xs (i + 3))]) rfl (by decide) rfl rfl (Nat.le_of_ble_eq_true rfl) (enc_o0 T)) (Nat.le_of_ble_eq_true rfl) hr1 rfl ?_
  refine lk_next (rw := px_rw) (md := k_Law_law) ho hc hs dd_Law_law_852 rfl rfl ?_
  refine lk_arg (j := 1) ho hc hs hx1 hn1 hL rfl (by omega) dd_Law_law_853 dd_Law_law_854 dd_Law_law_856 dd_Law_law_857 dd_Law_law_858 ?_
  refine lk_arg (j := 2) ho hc hs hx1 hn1 hL rfl (by omega) dd_Law_law_859 dd_Law_law_860 dd_Law_law_862 dd_Law_law_863 dd_Law_law_864 ?_
  refine lk_arg (j := 3) ho hc hs hx1 hn1 hL rfl (by omega) dd_Law_law_865 dd_Law_law_866 dd_Law_law_868 dd_Law_law_869 dd_Law_law_870 ?_
  obtain ⟨n2, hr2⟩ := rn_to e2
  refine lk_call0 (rw := px_rw) (md := k_Law_law) (me := k_Dm_turn) (vs := [.ref 53, .int (xs (i + 1)), .int (xs (i + 2)), .int (xs (i + 3))]) (rest := [.int x]) (i := .invokevirtual 93) ho hc hs dd_Law_law_871 (cl_V (ci := 10) (z := 0) (As := [.int (xs (i + 1)), .int (xs (i + 2)), .int (xs (i + 3))]) rfl (by decide) rfl rfl (Nat.le_of_ble_eq_true rfl) (enc_53 T1)) (Nat.le_of_ble_eq_true rfl) hr2 rfl ?_
  exact lk_next (rw := px_rw) (md := k_Law_law) ho hc hs dd_Law_law_874 (ex_iceq (t := 1761) rfl) rfl (K T2 S2 hI2)
set_option maxHeartbeats 1000000 in
theorem lc_beat (ho : okFr px_rw k_Law_law p l room_1 s m args meth c ad base dC dI dA) (hc : cells ≤ room_1.cells) (hs : slots ≤ room_1.slots) {T : TS} {S : FS} {xs : Nat → Int32} {Ln : Nat} (hI : lwI xs Ln S T) (hL : Ln ≤ 3584) {i : Nat} (hi : i + 7 ≤ Ln) {a5 a6 : Value} (K : ∀ T' S', lwI xs Ln S' T' → lk p l e room_1 s m args below meth c ad base dC dI dA 7 false cells slots Q 1761 (LL i a5 a6) [] (enc T')) : lk p l e room_1 s m args below meth c ad base dC dI dA 7 false cells slots Q 879 (LL i a5 a6) [] (enc T) := by
  obtain ⟨x, T1, T2, S2, e1, e2, hI2, q1, q2⟩ := v_beat hI (xs (i + 1)) (xs (i + 2)) (xs (i + 3))
  have hx := hI.2.2.2.1
  have hn := hI.2.2.2.2
  have hx1 : ∀ k, T1.1 1002 k = xs k := fun k => by rw [q1]; exact hx k
  have hn1 : T1.2.2.2 = Ln := q2.trans hn
  refine lk_next (rw := px_rw) (md := k_Law_law) ho hc hs dd_Law_law_879 rfl rfl ?_
  refine lk_arg (j := 1) ho hc hs hx hn hL rfl (by omega) dd_Law_law_880 dd_Law_law_881 dd_Law_law_883 dd_Law_law_884 dd_Law_law_885 ?_
  refine lk_arg (j := 2) ho hc hs hx hn hL rfl (by omega) dd_Law_law_886 dd_Law_law_887 dd_Law_law_889 dd_Law_law_890 dd_Law_law_891 ?_
  refine lk_arg (j := 3) ho hc hs hx hn hL rfl (by omega) dd_Law_law_892 dd_Law_law_893 dd_Law_law_895 dd_Law_law_896 dd_Law_law_897 ?_
  obtain ⟨n1, hr1⟩ := rn_to e1
  refine lk_call0 (rw := px_rw) (md := k_Law_law) (me := k_Ds_beat) (vs := [.ref 0, .int (xs (i + 1)), .int (xs (i + 2)), .int (xs (i + 3))]) (rest := []) (i := .invokevirtual 94) ho hc hs dd_Law_law_898 (cl_V (ci := 9) (z := 0) (As := [.int (xs (i + 1)), .int (xs (i + 2)), .int (xs (i + 3))]) rfl (by decide) rfl rfl (Nat.le_of_ble_eq_true rfl) (enc_o0 T)) (Nat.le_of_ble_eq_true rfl) hr1 rfl ?_
  refine lk_next (rw := px_rw) (md := k_Law_law) ho hc hs dd_Law_law_901 rfl rfl ?_
  refine lk_arg (j := 1) ho hc hs hx1 hn1 hL rfl (by omega) dd_Law_law_902 dd_Law_law_903 dd_Law_law_905 dd_Law_law_906 dd_Law_law_907 ?_
  refine lk_arg (j := 2) ho hc hs hx1 hn1 hL rfl (by omega) dd_Law_law_908 dd_Law_law_909 dd_Law_law_911 dd_Law_law_912 dd_Law_law_913 ?_
  refine lk_arg (j := 3) ho hc hs hx1 hn1 hL rfl (by omega) dd_Law_law_914 dd_Law_law_915 dd_Law_law_917 dd_Law_law_918 dd_Law_law_919 ?_
  obtain ⟨n2, hr2⟩ := rn_to e2
  refine lk_call0 (rw := px_rw) (md := k_Law_law) (me := k_Dm_beat) (vs := [.ref 53, .int (xs (i + 1)), .int (xs (i + 2)), .int (xs (i + 3))]) (rest := [.int x]) (i := .invokevirtual 97) ho hc hs dd_Law_law_920 (cl_V (ci := 10) (z := 0) (As := [.int (xs (i + 1)), .int (xs (i + 2)), .int (xs (i + 3))]) rfl (by decide) rfl rfl (Nat.le_of_ble_eq_true rfl) (enc_53 T1)) (Nat.le_of_ble_eq_true rfl) hr2 rfl ?_
  exact lk_next (rw := px_rw) (md := k_Law_law) ho hc hs dd_Law_law_923 (ex_iceq (t := 1761) rfl) rfl (K T2 S2 hI2)
set_option maxHeartbeats 1000000 in
theorem lc_far (ho : okFr px_rw k_Law_law p l room_1 s m args meth c ad base dC dI dA) (hc : cells ≤ room_1.cells) (hs : slots ≤ room_1.slots) {T : TS} {S : FS} {xs : Nat → Int32} {Ln : Nat} (hI : lwI xs Ln S T) (hL : Ln ≤ 3584) {i : Nat} (hi : i + 7 ≤ Ln) {a5 a6 : Value} (K : ∀ T' S', lwI xs Ln S' T' → lk p l e room_1 s m args below meth c ad base dC dI dA 7 false cells slots Q 1761 (LL i a5 a6) [] (enc T')) : lk p l e room_1 s m args below meth c ad base dC dI dA 7 false cells slots Q 928 (LL i a5 a6) [] (enc T) := by
  obtain ⟨x, T1, T2, S2, e1, e2, hI2, q1, q2⟩ := v_far hI (xs (i + 1)) (xs (i + 2)) (xs (i + 3))
  have hx := hI.2.2.2.1
  have hn := hI.2.2.2.2
  have hx1 : ∀ k, T1.1 1002 k = xs k := fun k => by rw [q1]; exact hx k
  have hn1 : T1.2.2.2 = Ln := q2.trans hn
  refine lk_next (rw := px_rw) (md := k_Law_law) ho hc hs dd_Law_law_928 rfl rfl ?_
  refine lk_arg (j := 1) ho hc hs hx hn hL rfl (by omega) dd_Law_law_929 dd_Law_law_930 dd_Law_law_932 dd_Law_law_933 dd_Law_law_934 ?_
  refine lk_arg (j := 2) ho hc hs hx hn hL rfl (by omega) dd_Law_law_935 dd_Law_law_936 dd_Law_law_938 dd_Law_law_939 dd_Law_law_940 ?_
  refine lk_arg (j := 3) ho hc hs hx hn hL rfl (by omega) dd_Law_law_941 dd_Law_law_942 dd_Law_law_944 dd_Law_law_945 dd_Law_law_946 ?_
  obtain ⟨n1, hr1⟩ := rn_to e1
  refine lk_call0 (rw := px_rw) (md := k_Law_law) (me := k_Ds_far) (vs := [.ref 0, .int (xs (i + 1)), .int (xs (i + 2)), .int (xs (i + 3))]) (rest := []) (i := .invokevirtual 98) ho hc hs dd_Law_law_947 (cl_V (ci := 9) (z := 0) (As := [.int (xs (i + 1)), .int (xs (i + 2)), .int (xs (i + 3))]) rfl (by decide) rfl rfl (Nat.le_of_ble_eq_true rfl) (enc_o0 T)) (Nat.le_of_ble_eq_true rfl) hr1 rfl ?_
  refine lk_next (rw := px_rw) (md := k_Law_law) ho hc hs dd_Law_law_950 rfl rfl ?_
  refine lk_arg (j := 1) ho hc hs hx1 hn1 hL rfl (by omega) dd_Law_law_951 dd_Law_law_952 dd_Law_law_954 dd_Law_law_955 dd_Law_law_956 ?_
  refine lk_arg (j := 2) ho hc hs hx1 hn1 hL rfl (by omega) dd_Law_law_957 dd_Law_law_958 dd_Law_law_960 dd_Law_law_961 dd_Law_law_962 ?_
  refine lk_arg (j := 3) ho hc hs hx1 hn1 hL rfl (by omega) dd_Law_law_963 dd_Law_law_964 dd_Law_law_966 dd_Law_law_967 dd_Law_law_968 ?_
  obtain ⟨n2, hr2⟩ := rn_to e2
  refine lk_call0 (rw := px_rw) (md := k_Law_law) (me := k_Dm_far_III) (vs := [.ref 53, .int (xs (i + 1)), .int (xs (i + 2)), .int (xs (i + 3))]) (rest := [.long x]) (i := .invokevirtual 102) ho hc hs dd_Law_law_969 (cl_V (ci := 10) (z := 0) (As := [.int (xs (i + 1)), .int (xs (i + 2)), .int (xs (i + 3))]) rfl (by decide) rfl rfl (Nat.le_of_ble_eq_true rfl) (enc_53 T1)) (Nat.le_of_ble_eq_true rfl) hr2 rfl ?_
  refine lk_next (rw := px_rw) (md := k_Law_law) ho hc hs dd_Law_law_972 ex_lcmp rfl ?_
  exact lk_next (rw := px_rw) (md := k_Law_law) ho hc hs dd_Law_law_973 (ex_ifeq0 (t := 1761) rfl) rfl (K T2 S2 hI2)
set_option maxHeartbeats 1000000 in
theorem lc_common (ho : okFr px_rw k_Law_law p l room_1 s m args meth c ad base dC dI dA) (hc : cells ≤ room_1.cells) (hs : slots ≤ room_1.slots) {T : TS} {S : FS} {xs : Nat → Int32} {Ln : Nat} (hI : lwI xs Ln S T) (hL : Ln ≤ 3584) {i : Nat} (hi : i + 7 ≤ Ln) {a5 a6 : Value} (K : ∀ T' S', lwI xs Ln S' T' → lk p l e room_1 s m args below meth c ad base dC dI dA 7 false cells slots Q 1761 (LL i a5 a6) [] (enc T')) : lk p l e room_1 s m args below meth c ad base dC dI dA 7 false cells slots Q 978 (LL i a5 a6) [] (enc T) := by
  obtain ⟨x, T1, T2, S2, e1, e2, hI2, q1, q2⟩ := v_common hI (xs (i + 1)) (xs (i + 2))
  have hx := hI.2.2.2.1
  have hn := hI.2.2.2.2
  have hx1 : ∀ k, T1.1 1002 k = xs k := fun k => by rw [q1]; exact hx k
  have hn1 : T1.2.2.2 = Ln := q2.trans hn
  refine lk_next (rw := px_rw) (md := k_Law_law) ho hc hs dd_Law_law_978 rfl rfl ?_
  refine lk_arg (j := 1) ho hc hs hx hn hL rfl (by omega) dd_Law_law_979 dd_Law_law_980 dd_Law_law_982 dd_Law_law_983 dd_Law_law_984 ?_
  refine lk_arg (j := 2) ho hc hs hx hn hL rfl (by omega) dd_Law_law_985 dd_Law_law_986 dd_Law_law_988 dd_Law_law_989 dd_Law_law_990 ?_
  obtain ⟨n1, hr1⟩ := rn_to e1
  refine lk_call0 (rw := px_rw) (md := k_Law_law) (me := k_Ds_common) (vs := [.ref 0, .int (xs (i + 1)), .int (xs (i + 2))]) (rest := []) (i := .invokevirtual 103) ho hc hs dd_Law_law_991 (cl_V (ci := 9) (z := 0) (As := [.int (xs (i + 1)), .int (xs (i + 2))]) rfl (by decide) rfl rfl (Nat.le_of_ble_eq_true rfl) (enc_o0 T)) (Nat.le_of_ble_eq_true rfl) hr1 rfl ?_
  refine lk_next (rw := px_rw) (md := k_Law_law) ho hc hs dd_Law_law_994 rfl rfl ?_
  refine lk_arg (j := 1) ho hc hs hx1 hn1 hL rfl (by omega) dd_Law_law_995 dd_Law_law_996 dd_Law_law_998 dd_Law_law_999 dd_Law_law_1000 ?_
  refine lk_arg (j := 2) ho hc hs hx1 hn1 hL rfl (by omega) dd_Law_law_1001 dd_Law_law_1002 dd_Law_law_1004 dd_Law_law_1005 dd_Law_law_1006 ?_
  obtain ⟨n2, hr2⟩ := rn_to e2
  refine lk_call0 (rw := px_rw) (md := k_Law_law) (me := k_Dm_common) (vs := [.ref 53, .int (xs (i + 1)), .int (xs (i + 2))]) (rest := [.long x]) (i := .invokevirtual 107) ho hc hs dd_Law_law_1007 (cl_V (ci := 10) (z := 0) (As := [.int (xs (i + 1)), .int (xs (i + 2))]) rfl (by decide) rfl rfl (Nat.le_of_ble_eq_true rfl) (enc_53 T1)) (Nat.le_of_ble_eq_true rfl) hr2 rfl ?_
  refine lk_next (rw := px_rw) (md := k_Law_law) ho hc hs dd_Law_law_1010 ex_lcmp rfl ?_
  exact lk_next (rw := px_rw) (md := k_Law_law) ho hc hs dd_Law_law_1011 (ex_ifeq0 (t := 1761) rfl) rfl (K T2 S2 hI2)
set_option maxHeartbeats 1000000 in
theorem lc_inCell (ho : okFr px_rw k_Law_law p l room_1 s m args meth c ad base dC dI dA) (hc : cells ≤ room_1.cells) (hs : slots ≤ room_1.slots) {T : TS} {S : FS} {xs : Nat → Int32} {Ln : Nat} (hI : lwI xs Ln S T) (hL : Ln ≤ 3584) {i : Nat} (hi : i + 7 ≤ Ln) {a5 a6 : Value} (K : ∀ T' S', lwI xs Ln S' T' → lk p l e room_1 s m args below meth c ad base dC dI dA 7 false cells slots Q 1761 (LL i a5 a6) [] (enc T')) : lk p l e room_1 s m args below meth c ad base dC dI dA 7 false cells slots Q 1016 (LL i a5 a6) [] (enc T) := by
  obtain ⟨x, T1, T2, S2, e1, e2, hI2, q1, q2⟩ := v_inCell hI (xs (i + 1)) (xs (i + 2))
  have hx := hI.2.2.2.1
  have hn := hI.2.2.2.2
  have hx1 : ∀ k, T1.1 1002 k = xs k := fun k => by rw [q1]; exact hx k
  have hn1 : T1.2.2.2 = Ln := q2.trans hn
  refine lk_next (rw := px_rw) (md := k_Law_law) ho hc hs dd_Law_law_1016 rfl rfl ?_
  refine lk_arg (j := 1) ho hc hs hx hn hL rfl (by omega) dd_Law_law_1017 dd_Law_law_1018 dd_Law_law_1020 dd_Law_law_1021 dd_Law_law_1022 ?_
  refine lk_arg (j := 2) ho hc hs hx hn hL rfl (by omega) dd_Law_law_1023 dd_Law_law_1024 dd_Law_law_1026 dd_Law_law_1027 dd_Law_law_1028 ?_
  obtain ⟨n1, hr1⟩ := rn_to e1
  refine lk_call0 (rw := px_rw) (md := k_Law_law) (me := k_Ds_inCell) (vs := [.ref 0, .int (xs (i + 1)), .int (xs (i + 2))]) (rest := []) (i := .invokevirtual 108) ho hc hs dd_Law_law_1029 (cl_V (ci := 9) (z := 0) (As := [.int (xs (i + 1)), .int (xs (i + 2))]) rfl (by decide) rfl rfl (Nat.le_of_ble_eq_true rfl) (enc_o0 T)) (Nat.le_of_ble_eq_true rfl) hr1 rfl ?_
  refine lk_next (rw := px_rw) (md := k_Law_law) ho hc hs dd_Law_law_1032 rfl rfl ?_
  refine lk_arg (j := 1) ho hc hs hx1 hn1 hL rfl (by omega) dd_Law_law_1033 dd_Law_law_1034 dd_Law_law_1036 dd_Law_law_1037 dd_Law_law_1038 ?_
  refine lk_arg (j := 2) ho hc hs hx1 hn1 hL rfl (by omega) dd_Law_law_1039 dd_Law_law_1040 dd_Law_law_1042 dd_Law_law_1043 dd_Law_law_1044 ?_
  obtain ⟨n2, hr2⟩ := rn_to e2
  refine lk_call0 (rw := px_rw) (md := k_Law_law) (me := k_Dm_inCell) (vs := [.ref 53, .int (xs (i + 1)), .int (xs (i + 2))]) (rest := [.long x]) (i := .invokevirtual 111) ho hc hs dd_Law_law_1045 (cl_V (ci := 10) (z := 0) (As := [.int (xs (i + 1)), .int (xs (i + 2))]) rfl (by decide) rfl rfl (Nat.le_of_ble_eq_true rfl) (enc_53 T1)) (Nat.le_of_ble_eq_true rfl) hr2 rfl ?_
  refine lk_next (rw := px_rw) (md := k_Law_law) ho hc hs dd_Law_law_1048 ex_lcmp rfl ?_
  exact lk_next (rw := px_rw) (md := k_Law_law) ho hc hs dd_Law_law_1049 (ex_ifeq0 (t := 1761) rfl) rfl (K T2 S2 hI2)
set_option maxHeartbeats 1000000 in
theorem lc_overlay (ho : okFr px_rw k_Law_law p l room_1 s m args meth c ad base dC dI dA) (hc : cells ≤ room_1.cells) (hs : slots ≤ room_1.slots) {T : TS} {S : FS} {xs : Nat → Int32} {Ln : Nat} (hI : lwI xs Ln S T) (hL : Ln ≤ 3584) {i : Nat} (hi : i + 7 ≤ Ln) {a5 a6 : Value} (K : ∀ T' S', lwI xs Ln S' T' → lk p l e room_1 s m args below meth c ad base dC dI dA 7 false cells slots Q 1761 (LL i a5 a6) [] (enc T')) : lk p l e room_1 s m args below meth c ad base dC dI dA 7 false cells slots Q 1054 (LL i a5 a6) [] (enc T) := by
  obtain ⟨x, T1, T2, S2, e1, e2, hI2, q1, q2⟩ := v_overlay hI (xs (i + 1)) (xs (i + 2))
  have hx := hI.2.2.2.1
  have hn := hI.2.2.2.2
  have hx1 : ∀ k, T1.1 1002 k = xs k := fun k => by rw [q1]; exact hx k
  have hn1 : T1.2.2.2 = Ln := q2.trans hn
  refine lk_next (rw := px_rw) (md := k_Law_law) ho hc hs dd_Law_law_1054 rfl rfl ?_
  refine lk_arg (j := 1) ho hc hs hx hn hL rfl (by omega) dd_Law_law_1055 dd_Law_law_1056 dd_Law_law_1058 dd_Law_law_1059 dd_Law_law_1060 ?_
  refine lk_arg (j := 2) ho hc hs hx hn hL rfl (by omega) dd_Law_law_1061 dd_Law_law_1062 dd_Law_law_1064 dd_Law_law_1065 dd_Law_law_1066 ?_
  obtain ⟨n1, hr1⟩ := rn_to e1
  refine lk_call0 (rw := px_rw) (md := k_Law_law) (me := k_Ds_overlay) (vs := [.ref 0, .int (xs (i + 1)), .int (xs (i + 2))]) (rest := []) (i := .invokevirtual 112) ho hc hs dd_Law_law_1067 (cl_V (ci := 9) (z := 0) (As := [.int (xs (i + 1)), .int (xs (i + 2))]) rfl (by decide) rfl rfl (Nat.le_of_ble_eq_true rfl) (enc_o0 T)) (Nat.le_of_ble_eq_true rfl) hr1 rfl ?_
  refine lk_next (rw := px_rw) (md := k_Law_law) ho hc hs dd_Law_law_1070 rfl rfl ?_
  refine lk_arg (j := 1) ho hc hs hx1 hn1 hL rfl (by omega) dd_Law_law_1071 dd_Law_law_1072 dd_Law_law_1074 dd_Law_law_1075 dd_Law_law_1076 ?_
  refine lk_arg (j := 2) ho hc hs hx1 hn1 hL rfl (by omega) dd_Law_law_1077 dd_Law_law_1078 dd_Law_law_1080 dd_Law_law_1081 dd_Law_law_1082 ?_
  obtain ⟨n2, hr2⟩ := rn_to e2
  refine lk_call0 (rw := px_rw) (md := k_Law_law) (me := k_Dm_overlay) (vs := [.ref 53, .int (xs (i + 1)), .int (xs (i + 2))]) (rest := [.int x]) (i := .invokevirtual 115) ho hc hs dd_Law_law_1083 (cl_V (ci := 10) (z := 0) (As := [.int (xs (i + 1)), .int (xs (i + 2))]) rfl (by decide) rfl rfl (Nat.le_of_ble_eq_true rfl) (enc_53 T1)) (Nat.le_of_ble_eq_true rfl) hr2 rfl ?_
  exact lk_next (rw := px_rw) (md := k_Law_law) ho hc hs dd_Law_law_1086 (ex_iceq (t := 1761) rfl) rfl (K T2 S2 hI2)
set_option maxHeartbeats 1000000 in
theorem lc_window (ho : okFr px_rw k_Law_law p l room_1 s m args meth c ad base dC dI dA) (hc : cells ≤ room_1.cells) (hs : slots ≤ room_1.slots) {T : TS} {S : FS} {xs : Nat → Int32} {Ln : Nat} (hI : lwI xs Ln S T) (hL : Ln ≤ 3584) {i : Nat} (hi : i + 7 ≤ Ln) {a5 a6 : Value} (K : ∀ T' S', lwI xs Ln S' T' → lk p l e room_1 s m args below meth c ad base dC dI dA 7 false cells slots Q 1761 (LL i a5 a6) [] (enc T')) : lk p l e room_1 s m args below meth c ad base dC dI dA 7 false cells slots Q 1091 (LL i a5 a6) [] (enc T) := by
  obtain ⟨x, T1, T2, S2, e1, e2, hI2, q1, q2⟩ := v_window hI (xs (i + 1)) (xs (i + 2)) (xs (i + 3)) (xs (i + 4)) (xs (i + 5)) (xs (i + 6))
  have hx := hI.2.2.2.1
  have hn := hI.2.2.2.2
  have hx1 : ∀ k, T1.1 1002 k = xs k := fun k => by rw [q1]; exact hx k
  have hn1 : T1.2.2.2 = Ln := q2.trans hn
  refine lk_next (rw := px_rw) (md := k_Law_law) ho hc hs dd_Law_law_1091 rfl rfl ?_
  refine lk_arg (j := 1) ho hc hs hx hn hL rfl (by omega) dd_Law_law_1092 dd_Law_law_1093 dd_Law_law_1095 dd_Law_law_1096 dd_Law_law_1097 ?_
  refine lk_arg (j := 2) ho hc hs hx hn hL rfl (by omega) dd_Law_law_1098 dd_Law_law_1099 dd_Law_law_1101 dd_Law_law_1102 dd_Law_law_1103 ?_
  refine lk_arg (j := 3) ho hc hs hx hn hL rfl (by omega) dd_Law_law_1104 dd_Law_law_1105 dd_Law_law_1107 dd_Law_law_1108 dd_Law_law_1109 ?_
  refine lk_arg (j := 4) ho hc hs hx hn hL rfl (by omega) dd_Law_law_1110 dd_Law_law_1111 dd_Law_law_1113 dd_Law_law_1114 dd_Law_law_1115 ?_
  refine lk_arg (j := 5) ho hc hs hx hn hL rfl (by omega) dd_Law_law_1116 dd_Law_law_1117 dd_Law_law_1119 dd_Law_law_1120 dd_Law_law_1121 ?_
  refine lk_argB ho hc hs hx hn hL (by omega) dd_Law_law_1122 dd_Law_law_1123 dd_Law_law_1125 dd_Law_law_1127 dd_Law_law_1128 ?_
  obtain ⟨n1, hr1⟩ := rn_to e1
  refine lk_call0 (rw := px_rw) (md := k_Law_law) (me := k_Ds_window) (vs := [.ref 0, .int (xs (i + 1)), .int (xs (i + 2)), .int (xs (i + 3)), .int (xs (i + 4)), .int (xs (i + 5)), .int (xs (i + 6))]) (rest := []) (i := .invokevirtual 116) ho hc hs dd_Law_law_1129 (cl_V (ci := 9) (z := 0) (As := [.int (xs (i + 1)), .int (xs (i + 2)), .int (xs (i + 3)), .int (xs (i + 4)), .int (xs (i + 5)), .int (xs (i + 6))]) rfl (by decide) rfl rfl (Nat.le_of_ble_eq_true rfl) (enc_o0 T)) (Nat.le_of_ble_eq_true rfl) hr1 rfl ?_
  refine lk_next (rw := px_rw) (md := k_Law_law) ho hc hs dd_Law_law_1132 rfl rfl ?_
  refine lk_arg (j := 1) ho hc hs hx1 hn1 hL rfl (by omega) dd_Law_law_1133 dd_Law_law_1134 dd_Law_law_1136 dd_Law_law_1137 dd_Law_law_1138 ?_
  refine lk_arg (j := 2) ho hc hs hx1 hn1 hL rfl (by omega) dd_Law_law_1139 dd_Law_law_1140 dd_Law_law_1142 dd_Law_law_1143 dd_Law_law_1144 ?_
  refine lk_arg (j := 3) ho hc hs hx1 hn1 hL rfl (by omega) dd_Law_law_1145 dd_Law_law_1146 dd_Law_law_1148 dd_Law_law_1149 dd_Law_law_1150 ?_
  refine lk_arg (j := 4) ho hc hs hx1 hn1 hL rfl (by omega) dd_Law_law_1151 dd_Law_law_1152 dd_Law_law_1154 dd_Law_law_1155 dd_Law_law_1156 ?_
  refine lk_arg (j := 5) ho hc hs hx1 hn1 hL rfl (by omega) dd_Law_law_1157 dd_Law_law_1158 dd_Law_law_1160 dd_Law_law_1161 dd_Law_law_1162 ?_
  refine lk_argB ho hc hs hx1 hn1 hL (by omega) dd_Law_law_1163 dd_Law_law_1164 dd_Law_law_1166 dd_Law_law_1168 dd_Law_law_1169 ?_
  obtain ⟨n2, hr2⟩ := rn_to e2
  refine lk_call0 (rw := px_rw) (md := k_Law_law) (me := k_Dm_window) (vs := [.ref 53, .int (xs (i + 1)), .int (xs (i + 2)), .int (xs (i + 3)), .int (xs (i + 4)), .int (xs (i + 5)), .int (xs (i + 6))]) (rest := [.int x]) (i := .invokevirtual 120) ho hc hs dd_Law_law_1170 (cl_V (ci := 10) (z := 0) (As := [.int (xs (i + 1)), .int (xs (i + 2)), .int (xs (i + 3)), .int (xs (i + 4)), .int (xs (i + 5)), .int (xs (i + 6))]) rfl (by decide) rfl rfl (Nat.le_of_ble_eq_true rfl) (enc_53 T1)) (Nat.le_of_ble_eq_true rfl) hr2 rfl ?_
  exact lk_next (rw := px_rw) (md := k_Law_law) ho hc hs dd_Law_law_1173 (ex_iceq (t := 1761) rfl) rfl (K T2 S2 hI2)
set_option maxHeartbeats 1000000 in
theorem lc_densest (ho : okFr px_rw k_Law_law p l room_1 s m args meth c ad base dC dI dA) (hc : cells ≤ room_1.cells) (hs : slots ≤ room_1.slots) {T : TS} {S : FS} {xs : Nat → Int32} {Ln : Nat} (hI : lwI xs Ln S T) (hL : Ln ≤ 3584) {i : Nat} (hi : i + 7 ≤ Ln) {a5 a6 : Value} (K : ∀ T' S', lwI xs Ln S' T' → lk p l e room_1 s m args below meth c ad base dC dI dA 7 false cells slots Q 1761 (LL i a5 a6) [] (enc T')) : lk p l e room_1 s m args below meth c ad base dC dI dA 7 false cells slots Q 1178 (LL i a5 a6) [] (enc T) := by
  obtain ⟨x, T1, T2, S2, e1, e2, hI2, q1, q2⟩ := v_densest hI (xs (i + 1)) (xs (i + 2)) (xs (i + 3)) (xs (i + 4))
  have hx := hI.2.2.2.1
  have hn := hI.2.2.2.2
  have hx1 : ∀ k, T1.1 1002 k = xs k := fun k => by rw [q1]; exact hx k
  have hn1 : T1.2.2.2 = Ln := q2.trans hn
  refine lk_next (rw := px_rw) (md := k_Law_law) ho hc hs dd_Law_law_1178 rfl rfl ?_
  refine lk_arg (j := 1) ho hc hs hx hn hL rfl (by omega) dd_Law_law_1179 dd_Law_law_1180 dd_Law_law_1182 dd_Law_law_1183 dd_Law_law_1184 ?_
  refine lk_arg (j := 2) ho hc hs hx hn hL rfl (by omega) dd_Law_law_1185 dd_Law_law_1186 dd_Law_law_1188 dd_Law_law_1189 dd_Law_law_1190 ?_
  refine lk_arg (j := 3) ho hc hs hx hn hL rfl (by omega) dd_Law_law_1191 dd_Law_law_1192 dd_Law_law_1194 dd_Law_law_1195 dd_Law_law_1196 ?_
  refine lk_arg (j := 4) ho hc hs hx hn hL rfl (by omega) dd_Law_law_1197 dd_Law_law_1198 dd_Law_law_1200 dd_Law_law_1201 dd_Law_law_1202 ?_
  obtain ⟨n1, hr1⟩ := rn_to e1
  refine lk_call0 (rw := px_rw) (md := k_Law_law) (me := k_Ds_densest) (vs := [.ref 0, .int (xs (i + 1)), .int (xs (i + 2)), .int (xs (i + 3)), .int (xs (i + 4))]) (rest := []) (i := .invokevirtual 121) ho hc hs dd_Law_law_1203 (cl_V (ci := 9) (z := 0) (As := [.int (xs (i + 1)), .int (xs (i + 2)), .int (xs (i + 3)), .int (xs (i + 4))]) rfl (by decide) rfl rfl (Nat.le_of_ble_eq_true rfl) (enc_o0 T)) (Nat.le_of_ble_eq_true rfl) hr1 rfl ?_
  refine lk_next (rw := px_rw) (md := k_Law_law) ho hc hs dd_Law_law_1206 rfl rfl ?_
  refine lk_arg (j := 1) ho hc hs hx1 hn1 hL rfl (by omega) dd_Law_law_1207 dd_Law_law_1208 dd_Law_law_1210 dd_Law_law_1211 dd_Law_law_1212 ?_
  refine lk_arg (j := 2) ho hc hs hx1 hn1 hL rfl (by omega) dd_Law_law_1213 dd_Law_law_1214 dd_Law_law_1216 dd_Law_law_1217 dd_Law_law_1218 ?_
  refine lk_arg (j := 3) ho hc hs hx1 hn1 hL rfl (by omega) dd_Law_law_1219 dd_Law_law_1220 dd_Law_law_1222 dd_Law_law_1223 dd_Law_law_1224 ?_
  refine lk_arg (j := 4) ho hc hs hx1 hn1 hL rfl (by omega) dd_Law_law_1225 dd_Law_law_1226 dd_Law_law_1228 dd_Law_law_1229 dd_Law_law_1230 ?_
  obtain ⟨n2, hr2⟩ := rn_to e2
  refine lk_call0 (rw := px_rw) (md := k_Law_law) (me := k_Dm_densest) (vs := [.ref 53, .int (xs (i + 1)), .int (xs (i + 2)), .int (xs (i + 3)), .int (xs (i + 4))]) (rest := [.int x]) (i := .invokevirtual 124) ho hc hs dd_Law_law_1231 (cl_V (ci := 10) (z := 0) (As := [.int (xs (i + 1)), .int (xs (i + 2)), .int (xs (i + 3)), .int (xs (i + 4))]) rfl (by decide) rfl rfl (Nat.le_of_ble_eq_true rfl) (enc_53 T1)) (Nat.le_of_ble_eq_true rfl) hr2 rfl ?_
  exact lk_next (rw := px_rw) (md := k_Law_law) ho hc hs dd_Law_law_1234 (ex_iceq (t := 1761) rfl) rfl (K T2 S2 hI2)
set_option maxHeartbeats 1000000 in
theorem lc_next (ho : okFr px_rw k_Law_law p l room_1 s m args meth c ad base dC dI dA) (hc : cells ≤ room_1.cells) (hs : slots ≤ room_1.slots) {T : TS} {S : FS} {xs : Nat → Int32} {Ln : Nat} (hI : lwI xs Ln S T) (hL : Ln ≤ 3584) {i : Nat} (hi : i + 7 ≤ Ln) {a5 a6 : Value} (K : ∀ T' S', lwI xs Ln S' T' → lk p l e room_1 s m args below meth c ad base dC dI dA 7 false cells slots Q 1761 (LL i a5 a6) [] (enc T')) : lk p l e room_1 s m args below meth c ad base dC dI dA 7 false cells slots Q 1239 (LL i a5 a6) [] (enc T) := by
  obtain ⟨x, T1, T2, S2, e1, e2, hI2, q1, q2⟩ := v_next hI (xs (i + 1)) (xs (i + 2)) (xs (i + 3))
  have hx := hI.2.2.2.1
  have hn := hI.2.2.2.2
  have hx1 : ∀ k, T1.1 1002 k = xs k := fun k => by rw [q1]; exact hx k
  have hn1 : T1.2.2.2 = Ln := q2.trans hn
  refine lk_next (rw := px_rw) (md := k_Law_law) ho hc hs dd_Law_law_1239 rfl rfl ?_
  refine lk_arg (j := 1) ho hc hs hx hn hL rfl (by omega) dd_Law_law_1240 dd_Law_law_1241 dd_Law_law_1243 dd_Law_law_1244 dd_Law_law_1245 ?_
  refine lk_arg (j := 2) ho hc hs hx hn hL rfl (by omega) dd_Law_law_1246 dd_Law_law_1247 dd_Law_law_1249 dd_Law_law_1250 dd_Law_law_1251 ?_
  refine lk_arg (j := 3) ho hc hs hx hn hL rfl (by omega) dd_Law_law_1252 dd_Law_law_1253 dd_Law_law_1255 dd_Law_law_1256 dd_Law_law_1257 ?_
  obtain ⟨n1, hr1⟩ := rn_to e1
  refine lk_call0 (rw := px_rw) (md := k_Law_law) (me := k_Ds_next) (vs := [.ref 0, .int (xs (i + 1)), .int (xs (i + 2)), .int (xs (i + 3))]) (rest := []) (i := .invokevirtual 125) ho hc hs dd_Law_law_1258 (cl_V (ci := 9) (z := 0) (As := [.int (xs (i + 1)), .int (xs (i + 2)), .int (xs (i + 3))]) rfl (by decide) rfl rfl (Nat.le_of_ble_eq_true rfl) (enc_o0 T)) (Nat.le_of_ble_eq_true rfl) hr1 rfl ?_
  refine lk_next (rw := px_rw) (md := k_Law_law) ho hc hs dd_Law_law_1261 rfl rfl ?_
  refine lk_arg (j := 1) ho hc hs hx1 hn1 hL rfl (by omega) dd_Law_law_1262 dd_Law_law_1263 dd_Law_law_1265 dd_Law_law_1266 dd_Law_law_1267 ?_
  refine lk_arg (j := 2) ho hc hs hx1 hn1 hL rfl (by omega) dd_Law_law_1268 dd_Law_law_1269 dd_Law_law_1271 dd_Law_law_1272 dd_Law_law_1273 ?_
  refine lk_arg (j := 3) ho hc hs hx1 hn1 hL rfl (by omega) dd_Law_law_1274 dd_Law_law_1275 dd_Law_law_1277 dd_Law_law_1278 dd_Law_law_1279 ?_
  obtain ⟨n2, hr2⟩ := rn_to e2
  refine lk_call0 (rw := px_rw) (md := k_Law_law) (me := k_Dm_next) (vs := [.ref 53, .int (xs (i + 1)), .int (xs (i + 2)), .int (xs (i + 3))]) (rest := [.int x]) (i := .invokevirtual 128) ho hc hs dd_Law_law_1280 (cl_V (ci := 10) (z := 0) (As := [.int (xs (i + 1)), .int (xs (i + 2)), .int (xs (i + 3))]) rfl (by decide) rfl rfl (Nat.le_of_ble_eq_true rfl) (enc_53 T1)) (Nat.le_of_ble_eq_true rfl) hr2 rfl ?_
  exact lk_next (rw := px_rw) (md := k_Law_law) ho hc hs dd_Law_law_1283 (ex_iceq (t := 1761) rfl) rfl (K T2 S2 hI2)
set_option maxHeartbeats 1000000 in
theorem lc_choose (ho : okFr px_rw k_Law_law p l room_1 s m args meth c ad base dC dI dA) (hc : cells ≤ room_1.cells) (hs : slots ≤ room_1.slots) {T : TS} {S : FS} {xs : Nat → Int32} {Ln : Nat} (hI : lwI xs Ln S T) (hL : Ln ≤ 3584) {i : Nat} (hi : i + 7 ≤ Ln) {a5 a6 : Value} (K : ∀ T' S', lwI xs Ln S' T' → lk p l e room_1 s m args below meth c ad base dC dI dA 7 false cells slots Q 1761 (LL i a5 a6) [] (enc T')) : lk p l e room_1 s m args below meth c ad base dC dI dA 7 false cells slots Q 1288 (LL i a5 a6) [] (enc T) := by
  obtain ⟨x, T1, T2, S2, e1, e2, hI2, q1, q2⟩ := v_choose hI (xs (i + 1)) (xs (i + 2)) (xs (i + 3)) (m := if xs (i + 4) = 0 then 0 else 1) (by split; exact Or.inl rfl; exact Or.inr rfl) (xs (i + 5)) (xs (i + 6))
  have hx := hI.2.2.2.1
  have hn := hI.2.2.2.2
  have hx1 : ∀ k, T1.1 1002 k = xs k := fun k => by rw [q1]; exact hx k
  have hn1 : T1.2.2.2 = Ln := q2.trans hn
  refine lk_next (rw := px_rw) (md := k_Law_law) ho hc hs dd_Law_law_1288 rfl rfl ?_
  refine lk_arg (j := 1) ho hc hs hx hn hL rfl (by omega) dd_Law_law_1289 dd_Law_law_1290 dd_Law_law_1292 dd_Law_law_1293 dd_Law_law_1294 ?_
  refine lk_arg (j := 2) ho hc hs hx hn hL rfl (by omega) dd_Law_law_1295 dd_Law_law_1296 dd_Law_law_1298 dd_Law_law_1299 dd_Law_law_1300 ?_
  refine lk_arg (j := 3) ho hc hs hx hn hL rfl (by omega) dd_Law_law_1301 dd_Law_law_1302 dd_Law_law_1304 dd_Law_law_1305 dd_Law_law_1306 ?_
  refine lk_arg (j := 4) ho hc hs hx hn hL rfl (by omega) dd_Law_law_1307 dd_Law_law_1308 dd_Law_law_1310 dd_Law_law_1311 dd_Law_law_1312 ?_
  refine lk_bool ho hc hs (pc := 1313) dd_Law_law_1313 dd_Law_law_1316 dd_Law_law_1317 dd_Law_law_1320 ?_
  refine lk_arg (j := 5) ho hc hs hx hn hL rfl (by omega) dd_Law_law_1321 dd_Law_law_1322 dd_Law_law_1324 dd_Law_law_1325 dd_Law_law_1326 ?_
  refine lk_argB ho hc hs hx hn hL (by omega) dd_Law_law_1327 dd_Law_law_1328 dd_Law_law_1330 dd_Law_law_1332 dd_Law_law_1333 ?_
  obtain ⟨n1, hr1⟩ := rn_to e1
  refine lk_call0 (rw := px_rw) (md := k_Law_law) (me := k_Ds_choose) (vs := [.ref 0, .int (xs (i + 1)), .int (xs (i + 2)), .int (xs (i + 3)), .int (iI (if xs (i + 4) = 0 then 0 else 1)), .int (xs (i + 5)), .int (xs (i + 6))]) (rest := []) (i := .invokevirtual 129) ho hc hs dd_Law_law_1334 (cl_V (ci := 9) (z := 0) (As := [.int (xs (i + 1)), .int (xs (i + 2)), .int (xs (i + 3)), .int (iI (if xs (i + 4) = 0 then 0 else 1)), .int (xs (i + 5)), .int (xs (i + 6))]) rfl (by decide) rfl rfl (Nat.le_of_ble_eq_true rfl) (enc_o0 T)) (Nat.le_of_ble_eq_true rfl) hr1 rfl ?_
  refine lk_next (rw := px_rw) (md := k_Law_law) ho hc hs dd_Law_law_1337 rfl rfl ?_
  refine lk_arg (j := 1) ho hc hs hx1 hn1 hL rfl (by omega) dd_Law_law_1338 dd_Law_law_1339 dd_Law_law_1341 dd_Law_law_1342 dd_Law_law_1343 ?_
  refine lk_arg (j := 2) ho hc hs hx1 hn1 hL rfl (by omega) dd_Law_law_1344 dd_Law_law_1345 dd_Law_law_1347 dd_Law_law_1348 dd_Law_law_1349 ?_
  refine lk_arg (j := 3) ho hc hs hx1 hn1 hL rfl (by omega) dd_Law_law_1350 dd_Law_law_1351 dd_Law_law_1353 dd_Law_law_1354 dd_Law_law_1355 ?_
  refine lk_arg (j := 4) ho hc hs hx1 hn1 hL rfl (by omega) dd_Law_law_1356 dd_Law_law_1357 dd_Law_law_1359 dd_Law_law_1360 dd_Law_law_1361 ?_
  refine lk_bool ho hc hs (pc := 1362) dd_Law_law_1362 dd_Law_law_1365 dd_Law_law_1366 dd_Law_law_1369 ?_
  refine lk_arg (j := 5) ho hc hs hx1 hn1 hL rfl (by omega) dd_Law_law_1370 dd_Law_law_1371 dd_Law_law_1373 dd_Law_law_1374 dd_Law_law_1375 ?_
  refine lk_argB ho hc hs hx1 hn1 hL (by omega) dd_Law_law_1376 dd_Law_law_1377 dd_Law_law_1379 dd_Law_law_1381 dd_Law_law_1382 ?_
  obtain ⟨n2, hr2⟩ := rn_to e2
  refine lk_call0 (rw := px_rw) (md := k_Law_law) (me := k_Dm_choose) (vs := [.ref 53, .int (xs (i + 1)), .int (xs (i + 2)), .int (xs (i + 3)), .int (iI (if xs (i + 4) = 0 then 0 else 1)), .int (xs (i + 5)), .int (xs (i + 6))]) (rest := [.int x]) (i := .invokevirtual 133) ho hc hs dd_Law_law_1383 (cl_V (ci := 10) (z := 0) (As := [.int (xs (i + 1)), .int (xs (i + 2)), .int (xs (i + 3)), .int (iI (if xs (i + 4) = 0 then 0 else 1)), .int (xs (i + 5)), .int (xs (i + 6))]) rfl (by decide) rfl rfl (Nat.le_of_ble_eq_true rfl) (enc_53 T1)) (Nat.le_of_ble_eq_true rfl) hr2 rfl ?_
  exact lk_next (rw := px_rw) (md := k_Law_law) ho hc hs dd_Law_law_1386 (ex_iceq (t := 1761) rfl) rfl (K T2 S2 hI2)
set_option maxHeartbeats 1000000 in
theorem lc_bestTurn (ho : okFr px_rw k_Law_law p l room_1 s m args meth c ad base dC dI dA) (hc : cells ≤ room_1.cells) (hs : slots ≤ room_1.slots) {T : TS} {S : FS} {xs : Nat → Int32} {Ln : Nat} (hI : lwI xs Ln S T) (hL : Ln ≤ 3584) {i : Nat} (hi : i + 7 ≤ Ln) {a5 a6 : Value} (K : ∀ T' S', lwI xs Ln S' T' → lk p l e room_1 s m args below meth c ad base dC dI dA 7 false cells slots Q 1761 (LL i a5 a6) [] (enc T')) : lk p l e room_1 s m args below meth c ad base dC dI dA 7 false cells slots Q 1391 (LL i a5 a6) [] (enc T) := by
  obtain ⟨x, T1, T2, S2, e1, e2, hI2, q1, q2⟩ := v_bestTurn hI (xs (i + 1)) (xs (i + 2))
  have hx := hI.2.2.2.1
  have hn := hI.2.2.2.2
  have hx1 : ∀ k, T1.1 1002 k = xs k := fun k => by rw [q1]; exact hx k
  have hn1 : T1.2.2.2 = Ln := q2.trans hn
  refine lk_next (rw := px_rw) (md := k_Law_law) ho hc hs dd_Law_law_1391 rfl rfl ?_
  refine lk_arg (j := 1) ho hc hs hx hn hL rfl (by omega) dd_Law_law_1392 dd_Law_law_1393 dd_Law_law_1395 dd_Law_law_1396 dd_Law_law_1397 ?_
  refine lk_arg (j := 2) ho hc hs hx hn hL rfl (by omega) dd_Law_law_1398 dd_Law_law_1399 dd_Law_law_1401 dd_Law_law_1402 dd_Law_law_1403 ?_
  obtain ⟨n1, hr1⟩ := rn_to e1
  refine lk_call0 (rw := px_rw) (md := k_Law_law) (me := k_Ds_bestTurn) (vs := [.ref 0, .int (xs (i + 1)), .int (xs (i + 2))]) (rest := []) (i := .invokevirtual 134) ho hc hs dd_Law_law_1404 (cl_V (ci := 9) (z := 0) (As := [.int (xs (i + 1)), .int (xs (i + 2))]) rfl (by decide) rfl rfl (Nat.le_of_ble_eq_true rfl) (enc_o0 T)) (Nat.le_of_ble_eq_true rfl) hr1 rfl ?_
  refine lk_next (rw := px_rw) (md := k_Law_law) ho hc hs dd_Law_law_1407 rfl rfl ?_
  refine lk_arg (j := 1) ho hc hs hx1 hn1 hL rfl (by omega) dd_Law_law_1408 dd_Law_law_1409 dd_Law_law_1411 dd_Law_law_1412 dd_Law_law_1413 ?_
  refine lk_arg (j := 2) ho hc hs hx1 hn1 hL rfl (by omega) dd_Law_law_1414 dd_Law_law_1415 dd_Law_law_1417 dd_Law_law_1418 dd_Law_law_1419 ?_
  obtain ⟨n2, hr2⟩ := rn_to e2
  refine lk_call0 (rw := px_rw) (md := k_Law_law) (me := k_Dm_bestTurn) (vs := [.ref 53, .int (xs (i + 1)), .int (xs (i + 2))]) (rest := [.int x]) (i := .invokevirtual 137) ho hc hs dd_Law_law_1420 (cl_V (ci := 10) (z := 0) (As := [.int (xs (i + 1)), .int (xs (i + 2))]) rfl (by decide) rfl rfl (Nat.le_of_ble_eq_true rfl) (enc_53 T1)) (Nat.le_of_ble_eq_true rfl) hr2 rfl ?_
  exact lk_next (rw := px_rw) (md := k_Law_law) ho hc hs dd_Law_law_1423 (ex_iceq (t := 1761) rfl) rfl (K T2 S2 hI2)
set_option maxHeartbeats 1000000 in
theorem lc_screen (ho : okFr px_rw k_Law_law p l room_1 s m args meth c ad base dC dI dA) (hc : cells ≤ room_1.cells) (hs : slots ≤ room_1.slots) {T : TS} {S : FS} {xs : Nat → Int32} {Ln : Nat} (hI : lwI xs Ln S T) (hL : Ln ≤ 3584) {i : Nat} (hi : i + 7 ≤ Ln) {a5 a6 : Value} (K : ∀ T' S', lwI xs Ln S' T' → lk p l e room_1 s m args below meth c ad base dC dI dA 7 false cells slots Q 1761 (LL i a5 a6) [] (enc T')) : lk p l e room_1 s m args below meth c ad base dC dI dA 7 false cells slots Q 1428 (LL i a5 a6) [] (enc T) := by
  obtain ⟨x, T1, T2, S2, e1, e2, hI2, q1, q2⟩ := v_screen hI (xs (i + 1)) (xs (i + 2)) (xs (i + 3)) (xs (i + 4)) (xs (i + 5))
  have hx := hI.2.2.2.1
  have hn := hI.2.2.2.2
  have hx1 : ∀ k, T1.1 1002 k = xs k := fun k => by rw [q1]; exact hx k
  have hn1 : T1.2.2.2 = Ln := q2.trans hn
  refine lk_next (rw := px_rw) (md := k_Law_law) ho hc hs dd_Law_law_1428 rfl rfl ?_
  refine lk_arg (j := 1) ho hc hs hx hn hL rfl (by omega) dd_Law_law_1429 dd_Law_law_1430 dd_Law_law_1432 dd_Law_law_1433 dd_Law_law_1434 ?_
  refine lk_arg (j := 2) ho hc hs hx hn hL rfl (by omega) dd_Law_law_1435 dd_Law_law_1436 dd_Law_law_1438 dd_Law_law_1439 dd_Law_law_1440 ?_
  refine lk_arg (j := 3) ho hc hs hx hn hL rfl (by omega) dd_Law_law_1441 dd_Law_law_1442 dd_Law_law_1444 dd_Law_law_1445 dd_Law_law_1446 ?_
  refine lk_arg (j := 4) ho hc hs hx hn hL rfl (by omega) dd_Law_law_1447 dd_Law_law_1448 dd_Law_law_1450 dd_Law_law_1451 dd_Law_law_1452 ?_
  refine lk_arg (j := 5) ho hc hs hx hn hL rfl (by omega) dd_Law_law_1453 dd_Law_law_1454 dd_Law_law_1456 dd_Law_law_1457 dd_Law_law_1458 ?_
  obtain ⟨n1, hr1⟩ := rn_to e1
  refine lk_call0 (rw := px_rw) (md := k_Law_law) (me := k_Ds_screen) (vs := [.ref 0, .int (xs (i + 1)), .int (xs (i + 2)), .int (xs (i + 3)), .int (xs (i + 4)), .int (xs (i + 5))]) (rest := []) (i := .invokevirtual 138) ho hc hs dd_Law_law_1459 (cl_V (ci := 9) (z := 0) (As := [.int (xs (i + 1)), .int (xs (i + 2)), .int (xs (i + 3)), .int (xs (i + 4)), .int (xs (i + 5))]) rfl (by decide) rfl rfl (Nat.le_of_ble_eq_true rfl) (enc_o0 T)) (Nat.le_of_ble_eq_true rfl) hr1 rfl ?_
  refine lk_next (rw := px_rw) (md := k_Law_law) ho hc hs dd_Law_law_1462 rfl rfl ?_
  refine lk_arg (j := 1) ho hc hs hx1 hn1 hL rfl (by omega) dd_Law_law_1463 dd_Law_law_1464 dd_Law_law_1466 dd_Law_law_1467 dd_Law_law_1468 ?_
  refine lk_arg (j := 2) ho hc hs hx1 hn1 hL rfl (by omega) dd_Law_law_1469 dd_Law_law_1470 dd_Law_law_1472 dd_Law_law_1473 dd_Law_law_1474 ?_
  refine lk_arg (j := 3) ho hc hs hx1 hn1 hL rfl (by omega) dd_Law_law_1475 dd_Law_law_1476 dd_Law_law_1478 dd_Law_law_1479 dd_Law_law_1480 ?_
  refine lk_arg (j := 4) ho hc hs hx1 hn1 hL rfl (by omega) dd_Law_law_1481 dd_Law_law_1482 dd_Law_law_1484 dd_Law_law_1485 dd_Law_law_1486 ?_
  refine lk_arg (j := 5) ho hc hs hx1 hn1 hL rfl (by omega) dd_Law_law_1487 dd_Law_law_1488 dd_Law_law_1490 dd_Law_law_1491 dd_Law_law_1492 ?_
  obtain ⟨n2, hr2⟩ := rn_to e2
  refine lk_call0 (rw := px_rw) (md := k_Law_law) (me := k_Dm_screen) (vs := [.ref 53, .int (xs (i + 1)), .int (xs (i + 2)), .int (xs (i + 3)), .int (xs (i + 4)), .int (xs (i + 5))]) (rest := [.int x]) (i := .invokevirtual 141) ho hc hs dd_Law_law_1493 (cl_V (ci := 10) (z := 0) (As := [.int (xs (i + 1)), .int (xs (i + 2)), .int (xs (i + 3)), .int (xs (i + 4)), .int (xs (i + 5))]) rfl (by decide) rfl rfl (Nat.le_of_ble_eq_true rfl) (enc_53 T1)) (Nat.le_of_ble_eq_true rfl) hr2 rfl ?_
  exact lk_next (rw := px_rw) (md := k_Law_law) ho hc hs dd_Law_law_1496 (ex_iceq (t := 1761) rfl) rfl (K T2 S2 hI2)
set_option maxHeartbeats 1000000 in
theorem lc_shape (ho : okFr px_rw k_Law_law p l room_1 s m args meth c ad base dC dI dA) (hc : cells ≤ room_1.cells) (hs : slots ≤ room_1.slots) {T : TS} {S : FS} {xs : Nat → Int32} {Ln : Nat} (hI : lwI xs Ln S T) (hL : Ln ≤ 3584) {i : Nat} (hi : i + 7 ≤ Ln) {a5 a6 : Value} (K : ∀ T' S', lwI xs Ln S' T' → lk p l e room_1 s m args below meth c ad base dC dI dA 7 false cells slots Q 1761 (LL i a5 a6) [] (enc T')) : lk p l e room_1 s m args below meth c ad base dC dI dA 7 false cells slots Q 1501 (LL i a5 a6) [] (enc T) := by
  obtain ⟨x, T1, T2, S2, e1, e2, hI2, q1, q2⟩ := v_shape hI (xs (i + 1)) (xs (i + 2))
  have hx := hI.2.2.2.1
  have hn := hI.2.2.2.2
  have hx1 : ∀ k, T1.1 1002 k = xs k := fun k => by rw [q1]; exact hx k
  have hn1 : T1.2.2.2 = Ln := q2.trans hn
  refine lk_next (rw := px_rw) (md := k_Law_law) ho hc hs dd_Law_law_1501 rfl rfl ?_
  refine lk_arg (j := 1) ho hc hs hx hn hL rfl (by omega) dd_Law_law_1502 dd_Law_law_1503 dd_Law_law_1505 dd_Law_law_1506 dd_Law_law_1507 ?_
  refine lk_arg (j := 2) ho hc hs hx hn hL rfl (by omega) dd_Law_law_1508 dd_Law_law_1509 dd_Law_law_1511 dd_Law_law_1512 dd_Law_law_1513 ?_
  obtain ⟨n1, hr1⟩ := rn_to e1
  refine lk_call0 (rw := px_rw) (md := k_Law_law) (me := k_Ds_shape) (vs := [.ref 0, .int (xs (i + 1)), .int (xs (i + 2))]) (rest := []) (i := .invokevirtual 142) ho hc hs dd_Law_law_1514 (cl_V (ci := 9) (z := 0) (As := [.int (xs (i + 1)), .int (xs (i + 2))]) rfl (by decide) rfl rfl (Nat.le_of_ble_eq_true rfl) (enc_o0 T)) (Nat.le_of_ble_eq_true rfl) hr1 rfl ?_
  refine lk_next (rw := px_rw) (md := k_Law_law) ho hc hs dd_Law_law_1517 rfl rfl ?_
  refine lk_arg (j := 1) ho hc hs hx1 hn1 hL rfl (by omega) dd_Law_law_1518 dd_Law_law_1519 dd_Law_law_1521 dd_Law_law_1522 dd_Law_law_1523 ?_
  refine lk_arg (j := 2) ho hc hs hx1 hn1 hL rfl (by omega) dd_Law_law_1524 dd_Law_law_1525 dd_Law_law_1527 dd_Law_law_1528 dd_Law_law_1529 ?_
  obtain ⟨n2, hr2⟩ := rn_to e2
  refine lk_call0 (rw := px_rw) (md := k_Law_law) (me := k_Dm_shape) (vs := [.ref 53, .int (xs (i + 1)), .int (xs (i + 2))]) (rest := [.int x]) (i := .invokevirtual 145) ho hc hs dd_Law_law_1530 (cl_V (ci := 10) (z := 0) (As := [.int (xs (i + 1)), .int (xs (i + 2))]) rfl (by decide) rfl rfl (Nat.le_of_ble_eq_true rfl) (enc_53 T1)) (Nat.le_of_ble_eq_true rfl) hr2 rfl ?_
  exact lk_next (rw := px_rw) (md := k_Law_law) ho hc hs dd_Law_law_1533 (ex_iceq (t := 1761) rfl) rfl (K T2 S2 hI2)
set_option maxHeartbeats 1000000 in
theorem lc_tone (ho : okFr px_rw k_Law_law p l room_1 s m args meth c ad base dC dI dA) (hc : cells ≤ room_1.cells) (hs : slots ≤ room_1.slots) {T : TS} {S : FS} {xs : Nat → Int32} {Ln : Nat} (hI : lwI xs Ln S T) (hL : Ln ≤ 3584) {i : Nat} (hi : i + 7 ≤ Ln) {a5 a6 : Value} (K : ∀ T' S', lwI xs Ln S' T' → lk p l e room_1 s m args below meth c ad base dC dI dA 7 false cells slots Q 1761 (LL i a5 a6) [] (enc T')) : lk p l e room_1 s m args below meth c ad base dC dI dA 7 false cells slots Q 1538 (LL i a5 a6) [] (enc T) := by
  obtain ⟨x, T1, T2, S2, e1, e2, hI2, q1, q2⟩ := v_tone hI (xs (i + 1)) (xs (i + 2))
  have hx := hI.2.2.2.1
  have hn := hI.2.2.2.2
  have hx1 : ∀ k, T1.1 1002 k = xs k := fun k => by rw [q1]; exact hx k
  have hn1 : T1.2.2.2 = Ln := q2.trans hn
  refine lk_next (rw := px_rw) (md := k_Law_law) ho hc hs dd_Law_law_1538 rfl rfl ?_
  refine lk_arg (j := 1) ho hc hs hx hn hL rfl (by omega) dd_Law_law_1539 dd_Law_law_1540 dd_Law_law_1542 dd_Law_law_1543 dd_Law_law_1544 ?_
  refine lk_arg (j := 2) ho hc hs hx hn hL rfl (by omega) dd_Law_law_1545 dd_Law_law_1546 dd_Law_law_1548 dd_Law_law_1549 dd_Law_law_1550 ?_
  obtain ⟨n1, hr1⟩ := rn_to e1
  refine lk_call0 (rw := px_rw) (md := k_Law_law) (me := k_Ds_tone) (vs := [.ref 0, .int (xs (i + 1)), .int (xs (i + 2))]) (rest := []) (i := .invokevirtual 146) ho hc hs dd_Law_law_1551 (cl_V (ci := 9) (z := 0) (As := [.int (xs (i + 1)), .int (xs (i + 2))]) rfl (by decide) rfl rfl (Nat.le_of_ble_eq_true rfl) (enc_o0 T)) (Nat.le_of_ble_eq_true rfl) hr1 rfl ?_
  refine lk_next (rw := px_rw) (md := k_Law_law) ho hc hs dd_Law_law_1554 rfl rfl ?_
  refine lk_arg (j := 1) ho hc hs hx1 hn1 hL rfl (by omega) dd_Law_law_1555 dd_Law_law_1556 dd_Law_law_1558 dd_Law_law_1559 dd_Law_law_1560 ?_
  refine lk_arg (j := 2) ho hc hs hx1 hn1 hL rfl (by omega) dd_Law_law_1561 dd_Law_law_1562 dd_Law_law_1564 dd_Law_law_1565 dd_Law_law_1566 ?_
  obtain ⟨n2, hr2⟩ := rn_to e2
  refine lk_call0 (rw := px_rw) (md := k_Law_law) (me := k_Dm_tone) (vs := [.ref 53, .int (xs (i + 1)), .int (xs (i + 2))]) (rest := [.int x]) (i := .invokevirtual 149) ho hc hs dd_Law_law_1567 (cl_V (ci := 10) (z := 0) (As := [.int (xs (i + 1)), .int (xs (i + 2))]) rfl (by decide) rfl rfl (Nat.le_of_ble_eq_true rfl) (enc_53 T1)) (Nat.le_of_ble_eq_true rfl) hr2 rfl ?_
  exact lk_next (rw := px_rw) (md := k_Law_law) ho hc hs dd_Law_law_1570 (ex_iceq (t := 1761) rfl) rfl (K T2 S2 hI2)
set_option maxHeartbeats 1000000 in
theorem lc_offset (ho : okFr px_rw k_Law_law p l room_1 s m args meth c ad base dC dI dA) (hc : cells ≤ room_1.cells) (hs : slots ≤ room_1.slots) {T : TS} {S : FS} {xs : Nat → Int32} {Ln : Nat} (hI : lwI xs Ln S T) (hL : Ln ≤ 3584) {i : Nat} (hi : i + 7 ≤ Ln) {a5 a6 : Value} (K : ∀ T' S', lwI xs Ln S' T' → lk p l e room_1 s m args below meth c ad base dC dI dA 7 false cells slots Q 1761 (LL i a5 a6) [] (enc T')) : lk p l e room_1 s m args below meth c ad base dC dI dA 7 false cells slots Q 1575 (LL i a5 a6) [] (enc T) := by
  obtain ⟨x, T1, T2, S2, e1, e2, hI2, q1, q2⟩ := v_offset hI (xs (i + 1)) (xs (i + 2)) (xs (i + 3))
  have hx := hI.2.2.2.1
  have hn := hI.2.2.2.2
  have hx1 : ∀ k, T1.1 1002 k = xs k := fun k => by rw [q1]; exact hx k
  have hn1 : T1.2.2.2 = Ln := q2.trans hn
  refine lk_next (rw := px_rw) (md := k_Law_law) ho hc hs dd_Law_law_1575 rfl rfl ?_
  refine lk_arg (j := 1) ho hc hs hx hn hL rfl (by omega) dd_Law_law_1576 dd_Law_law_1577 dd_Law_law_1579 dd_Law_law_1580 dd_Law_law_1581 ?_
  refine lk_arg (j := 2) ho hc hs hx hn hL rfl (by omega) dd_Law_law_1582 dd_Law_law_1583 dd_Law_law_1585 dd_Law_law_1586 dd_Law_law_1587 ?_
  refine lk_arg (j := 3) ho hc hs hx hn hL rfl (by omega) dd_Law_law_1588 dd_Law_law_1589 dd_Law_law_1591 dd_Law_law_1592 dd_Law_law_1593 ?_
  obtain ⟨n1, hr1⟩ := rn_to e1
  refine lk_call0 (rw := px_rw) (md := k_Law_law) (me := k_Ds_offset) (vs := [.ref 0, .int (xs (i + 1)), .int (xs (i + 2)), .int (xs (i + 3))]) (rest := []) (i := .invokevirtual 150) ho hc hs dd_Law_law_1594 (cl_V (ci := 9) (z := 0) (As := [.int (xs (i + 1)), .int (xs (i + 2)), .int (xs (i + 3))]) rfl (by decide) rfl rfl (Nat.le_of_ble_eq_true rfl) (enc_o0 T)) (Nat.le_of_ble_eq_true rfl) hr1 rfl ?_
  refine lk_next (rw := px_rw) (md := k_Law_law) ho hc hs dd_Law_law_1597 rfl rfl ?_
  refine lk_arg (j := 1) ho hc hs hx1 hn1 hL rfl (by omega) dd_Law_law_1598 dd_Law_law_1599 dd_Law_law_1601 dd_Law_law_1602 dd_Law_law_1603 ?_
  refine lk_arg (j := 2) ho hc hs hx1 hn1 hL rfl (by omega) dd_Law_law_1604 dd_Law_law_1605 dd_Law_law_1607 dd_Law_law_1608 dd_Law_law_1609 ?_
  refine lk_arg (j := 3) ho hc hs hx1 hn1 hL rfl (by omega) dd_Law_law_1610 dd_Law_law_1611 dd_Law_law_1613 dd_Law_law_1614 dd_Law_law_1615 ?_
  obtain ⟨n2, hr2⟩ := rn_to e2
  refine lk_call0 (rw := px_rw) (md := k_Law_law) (me := k_Dm_offset) (vs := [.ref 53, .int (xs (i + 1)), .int (xs (i + 2)), .int (xs (i + 3))]) (rest := [.int x]) (i := .invokevirtual 153) ho hc hs dd_Law_law_1616 (cl_V (ci := 10) (z := 0) (As := [.int (xs (i + 1)), .int (xs (i + 2)), .int (xs (i + 3))]) rfl (by decide) rfl rfl (Nat.le_of_ble_eq_true rfl) (enc_53 T1)) (Nat.le_of_ble_eq_true rfl) hr2 rfl ?_
  exact lk_next (rw := px_rw) (md := k_Law_law) ho hc hs dd_Law_law_1619 (ex_iceq (t := 1761) rfl) rfl (K T2 S2 hI2)
set_option maxHeartbeats 1000000 in
theorem lc_swap (ho : okFr px_rw k_Law_law p l room_1 s m args meth c ad base dC dI dA) (hc : cells ≤ room_1.cells) (hs : slots ≤ room_1.slots) {T : TS} {S : FS} {xs : Nat → Int32} {Ln : Nat} (hI : lwI xs Ln S T) (hL : Ln ≤ 3584) {i : Nat} (hi : i + 7 ≤ Ln) {a5 a6 : Value} (K : ∀ T' S', lwI xs Ln S' T' → lk p l e room_1 s m args below meth c ad base dC dI dA 7 false cells slots Q 1761 (LL i a5 a6) [] (enc T')) : lk p l e room_1 s m args below meth c ad base dC dI dA 7 false cells slots Q 1624 (LL i a5 a6) [] (enc T) := by
  obtain ⟨x, T1, T2, S2, e1, e2, hI2, q1, q2⟩ := v_swap hI (xs (i + 1)) (xs (i + 2))
  have hx := hI.2.2.2.1
  have hn := hI.2.2.2.2
  have hx1 : ∀ k, T1.1 1002 k = xs k := fun k => by rw [q1]; exact hx k
  have hn1 : T1.2.2.2 = Ln := q2.trans hn
  refine lk_next (rw := px_rw) (md := k_Law_law) ho hc hs dd_Law_law_1624 rfl rfl ?_
  refine lk_arg (j := 1) ho hc hs hx hn hL rfl (by omega) dd_Law_law_1625 dd_Law_law_1626 dd_Law_law_1628 dd_Law_law_1629 dd_Law_law_1630 ?_
  refine lk_arg (j := 2) ho hc hs hx hn hL rfl (by omega) dd_Law_law_1631 dd_Law_law_1632 dd_Law_law_1634 dd_Law_law_1635 dd_Law_law_1636 ?_
  obtain ⟨n1, hr1⟩ := rn_to e1
  refine lk_call0 (rw := px_rw) (md := k_Law_law) (me := k_Ds_swap) (vs := [.ref 0, .int (xs (i + 1)), .int (xs (i + 2))]) (rest := []) (i := .invokevirtual 154) ho hc hs dd_Law_law_1637 (cl_V (ci := 9) (z := 0) (As := [.int (xs (i + 1)), .int (xs (i + 2))]) rfl (by decide) rfl rfl (Nat.le_of_ble_eq_true rfl) (enc_o0 T)) (Nat.le_of_ble_eq_true rfl) hr1 rfl ?_
  refine lk_next (rw := px_rw) (md := k_Law_law) ho hc hs dd_Law_law_1640 rfl rfl ?_
  refine lk_arg (j := 1) ho hc hs hx1 hn1 hL rfl (by omega) dd_Law_law_1641 dd_Law_law_1642 dd_Law_law_1644 dd_Law_law_1645 dd_Law_law_1646 ?_
  refine lk_arg (j := 2) ho hc hs hx1 hn1 hL rfl (by omega) dd_Law_law_1647 dd_Law_law_1648 dd_Law_law_1650 dd_Law_law_1651 dd_Law_law_1652 ?_
  obtain ⟨n2, hr2⟩ := rn_to e2
  refine lk_call0 (rw := px_rw) (md := k_Law_law) (me := k_Dm_swap) (vs := [.ref 53, .int (xs (i + 1)), .int (xs (i + 2))]) (rest := [.int x]) (i := .invokevirtual 158) ho hc hs dd_Law_law_1653 (cl_V (ci := 10) (z := 0) (As := [.int (xs (i + 1)), .int (xs (i + 2))]) rfl (by decide) rfl rfl (Nat.le_of_ble_eq_true rfl) (enc_53 T1)) (Nat.le_of_ble_eq_true rfl) hr2 rfl ?_
  exact lk_next (rw := px_rw) (md := k_Law_law) ho hc hs dd_Law_law_1656 (ex_iceq (t := 1761) rfl) rfl (K T2 S2 hI2)
set_option maxHeartbeats 1000000 in
theorem lc_drop (ho : okFr px_rw k_Law_law p l room_1 s m args meth c ad base dC dI dA) (hc : cells ≤ room_1.cells) (hs : slots ≤ room_1.slots) {T : TS} {S : FS} {xs : Nat → Int32} {Ln : Nat} (hI : lwI xs Ln S T) (hL : Ln ≤ 3584) {i : Nat} (hi : i + 7 ≤ Ln) {a5 a6 : Value} (K : ∀ T' S', lwI xs Ln S' T' → lk p l e room_1 s m args below meth c ad base dC dI dA 7 false cells slots Q 1761 (LL i a5 a6) [] (enc T')) : lk p l e room_1 s m args below meth c ad base dC dI dA 7 false cells slots Q 1661 (LL i a5 a6) [] (enc T) := by
  obtain ⟨x, T1, T2, S2, e1, e2, hI2, q1, q2⟩ := v_drop hI (xs (i + 1))
  have hx := hI.2.2.2.1
  have hn := hI.2.2.2.2
  have hx1 : ∀ k, T1.1 1002 k = xs k := fun k => by rw [q1]; exact hx k
  have hn1 : T1.2.2.2 = Ln := q2.trans hn
  refine lk_next (rw := px_rw) (md := k_Law_law) ho hc hs dd_Law_law_1661 rfl rfl ?_
  refine lk_arg (j := 1) ho hc hs hx hn hL rfl (by omega) dd_Law_law_1662 dd_Law_law_1663 dd_Law_law_1665 dd_Law_law_1666 dd_Law_law_1667 ?_
  obtain ⟨n1, hr1⟩ := rn_to e1
  refine lk_call0 (rw := px_rw) (md := k_Law_law) (me := k_Ds_drop) (vs := [.ref 0, .int (xs (i + 1))]) (rest := []) (i := .invokevirtual 159) ho hc hs dd_Law_law_1668 (cl_V (ci := 9) (z := 0) (As := [.int (xs (i + 1))]) rfl (by decide) rfl rfl (Nat.le_of_ble_eq_true rfl) (enc_o0 T)) (Nat.le_of_ble_eq_true rfl) hr1 rfl ?_
  refine lk_next (rw := px_rw) (md := k_Law_law) ho hc hs dd_Law_law_1671 rfl rfl ?_
  refine lk_arg (j := 1) ho hc hs hx1 hn1 hL rfl (by omega) dd_Law_law_1672 dd_Law_law_1673 dd_Law_law_1675 dd_Law_law_1676 dd_Law_law_1677 ?_
  obtain ⟨n2, hr2⟩ := rn_to e2
  refine lk_call0 (rw := px_rw) (md := k_Law_law) (me := k_Dm_drop) (vs := [.ref 53, .int (xs (i + 1))]) (rest := [.int x]) (i := .invokevirtual 163) ho hc hs dd_Law_law_1678 (cl_V (ci := 10) (z := 0) (As := [.int (xs (i + 1))]) rfl (by decide) rfl rfl (Nat.le_of_ble_eq_true rfl) (enc_53 T1)) (Nat.le_of_ble_eq_true rfl) hr2 rfl ?_
  exact lk_next (rw := px_rw) (md := k_Law_law) ho hc hs dd_Law_law_1681 (ex_iceq (t := 1761) rfl) rfl (K T2 S2 hI2)
set_option maxHeartbeats 1000000 in
theorem lc_status (ho : okFr px_rw k_Law_law p l room_1 s m args meth c ad base dC dI dA) (hc : cells ≤ room_1.cells) (hs : slots ≤ room_1.slots) {T : TS} {S : FS} {xs : Nat → Int32} {Ln : Nat} (hI : lwI xs Ln S T) (hL : Ln ≤ 3584) {i : Nat} (hi : i + 7 ≤ Ln) {a5 a6 : Value} (K : ∀ T' S', lwI xs Ln S' T' → lk p l e room_1 s m args below meth c ad base dC dI dA 7 false cells slots Q 1761 (LL i a5 a6) [] (enc T')) : lk p l e room_1 s m args below meth c ad base dC dI dA 7 false cells slots Q 1686 (LL i a5 a6) [] (enc T) := by
  obtain ⟨x, T1, T2, S2, e1, e2, hI2, q1, q2⟩ := v_status hI (xs (i + 1))
  have hx := hI.2.2.2.1
  have hn := hI.2.2.2.2
  have hx1 : ∀ k, T1.1 1002 k = xs k := fun k => by rw [q1]; exact hx k
  have hn1 : T1.2.2.2 = Ln := q2.trans hn
  refine lk_next (rw := px_rw) (md := k_Law_law) ho hc hs dd_Law_law_1686 rfl rfl ?_
  refine lk_arg (j := 1) ho hc hs hx hn hL rfl (by omega) dd_Law_law_1687 dd_Law_law_1688 dd_Law_law_1690 dd_Law_law_1691 dd_Law_law_1692 ?_
  obtain ⟨n1, hr1⟩ := rn_to e1
  refine lk_call0 (rw := px_rw) (md := k_Law_law) (me := k_Ds_status) (vs := [.ref 0, .int (xs (i + 1))]) (rest := []) (i := .invokevirtual 164) ho hc hs dd_Law_law_1693 (cl_V (ci := 9) (z := 0) (As := [.int (xs (i + 1))]) rfl (by decide) rfl rfl (Nat.le_of_ble_eq_true rfl) (enc_o0 T)) (Nat.le_of_ble_eq_true rfl) hr1 rfl ?_
  refine lk_next (rw := px_rw) (md := k_Law_law) ho hc hs dd_Law_law_1696 rfl rfl ?_
  refine lk_arg (j := 1) ho hc hs hx1 hn1 hL rfl (by omega) dd_Law_law_1697 dd_Law_law_1698 dd_Law_law_1700 dd_Law_law_1701 dd_Law_law_1702 ?_
  obtain ⟨n2, hr2⟩ := rn_to e2
  refine lk_call0 (rw := px_rw) (md := k_Law_law) (me := k_Dm_status) (vs := [.ref 53, .int (xs (i + 1))]) (rest := [.int x]) (i := .invokevirtual 167) ho hc hs dd_Law_law_1703 (cl_V (ci := 10) (z := 0) (As := [.int (xs (i + 1))]) rfl (by decide) rfl rfl (Nat.le_of_ble_eq_true rfl) (enc_53 T1)) (Nat.le_of_ble_eq_true rfl) hr2 rfl ?_
  exact lk_next (rw := px_rw) (md := k_Law_law) ho hc hs dd_Law_law_1706 (ex_iceq (t := 1761) rfl) rfl (K T2 S2 hI2)
set_option maxHeartbeats 1000000 in
theorem lc_most (ho : okFr px_rw k_Law_law p l room_1 s m args meth c ad base dC dI dA) (hc : cells ≤ room_1.cells) (hs : slots ≤ room_1.slots) {T : TS} {S : FS} {xs : Nat → Int32} {Ln : Nat} (hI : lwI xs Ln S T) (hL : Ln ≤ 3584) {i : Nat} (hi : i + 7 ≤ Ln) {a5 a6 : Value} (K : ∀ T' S', lwI xs Ln S' T' → lk p l e room_1 s m args below meth c ad base dC dI dA 7 false cells slots Q 1761 (LL i a5 a6) [] (enc T')) : lk p l e room_1 s m args below meth c ad base dC dI dA 7 false cells slots Q 1711 (LL i a5 a6) [] (enc T) := by
  obtain ⟨x, T1, T2, S2, e1, e2, hI2, q1, q2⟩ := v_most hI (xs (i + 1))
  have hx := hI.2.2.2.1
  have hn := hI.2.2.2.2
  have hx1 : ∀ k, T1.1 1002 k = xs k := fun k => by rw [q1]; exact hx k
  have hn1 : T1.2.2.2 = Ln := q2.trans hn
  refine lk_next (rw := px_rw) (md := k_Law_law) ho hc hs dd_Law_law_1711 rfl rfl ?_
  refine lk_arg (j := 1) ho hc hs hx hn hL rfl (by omega) dd_Law_law_1712 dd_Law_law_1713 dd_Law_law_1715 dd_Law_law_1716 dd_Law_law_1717 ?_
  obtain ⟨n1, hr1⟩ := rn_to e1
  refine lk_call0 (rw := px_rw) (md := k_Law_law) (me := k_Ds_most) (vs := [.ref 0, .int (xs (i + 1))]) (rest := []) (i := .invokevirtual 168) ho hc hs dd_Law_law_1718 (cl_V (ci := 9) (z := 0) (As := [.int (xs (i + 1))]) rfl (by decide) rfl rfl (Nat.le_of_ble_eq_true rfl) (enc_o0 T)) (Nat.le_of_ble_eq_true rfl) hr1 rfl ?_
  refine lk_next (rw := px_rw) (md := k_Law_law) ho hc hs dd_Law_law_1721 rfl rfl ?_
  refine lk_arg (j := 1) ho hc hs hx1 hn1 hL rfl (by omega) dd_Law_law_1722 dd_Law_law_1723 dd_Law_law_1725 dd_Law_law_1726 dd_Law_law_1727 ?_
  obtain ⟨n2, hr2⟩ := rn_to e2
  refine lk_call0 (rw := px_rw) (md := k_Law_law) (me := k_Dm_most) (vs := [.ref 53, .int (xs (i + 1))]) (rest := [.int x]) (i := .invokevirtual 171) ho hc hs dd_Law_law_1728 (cl_V (ci := 10) (z := 0) (As := [.int (xs (i + 1))]) rfl (by decide) rfl rfl (Nat.le_of_ble_eq_true rfl) (enc_53 T1)) (Nat.le_of_ble_eq_true rfl) hr2 rfl ?_
  exact lk_next (rw := px_rw) (md := k_Law_law) ho hc hs dd_Law_law_1731 (ex_iceq (t := 1761) rfl) rfl (K T2 S2 hI2)
set_option maxHeartbeats 1000000 in
theorem lc_count (ho : okFr px_rw k_Law_law p l room_1 s m args meth c ad base dC dI dA) (hc : cells ≤ room_1.cells) (hs : slots ≤ room_1.slots) {T : TS} {S : FS} {xs : Nat → Int32} {Ln : Nat} (hI : lwI xs Ln S T) (hL : Ln ≤ 3584) {i : Nat} (hi : i + 7 ≤ Ln) {a5 a6 : Value} (K : ∀ T' S', lwI xs Ln S' T' → lk p l e room_1 s m args below meth c ad base dC dI dA 7 false cells slots Q 1761 (LL i a5 a6) [] (enc T')) : lk p l e room_1 s m args below meth c ad base dC dI dA 7 false cells slots Q 1736 (LL i a5 a6) [] (enc T) := by
  obtain ⟨x, T1, T2, S2, e1, e2, hI2, q1, q2⟩ := v_count hI (xs (i + 1))
  have hx := hI.2.2.2.1
  have hn := hI.2.2.2.2
  have hx1 : ∀ k, T1.1 1002 k = xs k := fun k => by rw [q1]; exact hx k
  have hn1 : T1.2.2.2 = Ln := q2.trans hn
  refine lk_next (rw := px_rw) (md := k_Law_law) ho hc hs dd_Law_law_1736 rfl rfl ?_
  refine lk_arg (j := 1) ho hc hs hx hn hL rfl (by omega) dd_Law_law_1737 dd_Law_law_1738 dd_Law_law_1740 dd_Law_law_1741 dd_Law_law_1742 ?_
  obtain ⟨n1, hr1⟩ := rn_to e1
  refine lk_call0 (rw := px_rw) (md := k_Law_law) (me := k_Ds_count) (vs := [.ref 0, .int (xs (i + 1))]) (rest := []) (i := .invokevirtual 172) ho hc hs dd_Law_law_1743 (cl_V (ci := 9) (z := 0) (As := [.int (xs (i + 1))]) rfl (by decide) rfl rfl (Nat.le_of_ble_eq_true rfl) (enc_o0 T)) (Nat.le_of_ble_eq_true rfl) hr1 rfl ?_
  refine lk_next (rw := px_rw) (md := k_Law_law) ho hc hs dd_Law_law_1746 rfl rfl ?_
  refine lk_arg (j := 1) ho hc hs hx1 hn1 hL rfl (by omega) dd_Law_law_1747 dd_Law_law_1748 dd_Law_law_1750 dd_Law_law_1751 dd_Law_law_1752 ?_
  obtain ⟨n2, hr2⟩ := rn_to e2
  refine lk_call0 (rw := px_rw) (md := k_Law_law) (me := k_Dm_count) (vs := [.ref 53, .int (xs (i + 1))]) (rest := [.int x]) (i := .invokevirtual 175) ho hc hs dd_Law_law_1753 (cl_V (ci := 10) (z := 0) (As := [.int (xs (i + 1))]) rfl (by decide) rfl rfl (Nat.le_of_ble_eq_true rfl) (enc_53 T1)) (Nat.le_of_ble_eq_true rfl) hr2 rfl ?_
  exact lk_next (rw := px_rw) (md := k_Law_law) ho hc hs dd_Law_law_1756 (ex_iceq (t := 1761) rfl) rfl (K T2 S2 hI2)
end
