/-! THE INSTRUCTIONS AS EQUATIONS: branches, calls, answers. -/
section
variable {md pc : Nat} {L st : List Value} {g : px_G} {T : TS}
theorem rn_br {i : Instr} {tk : Bool} {off : Int} {tgt : Nat} {st' : List Value} (hd : decode (px_rw md).2.1 pc = .ok (i, px_len i)) (h0 : px_sw i st = none) (h1 : px_pure i st = none) (h2 : px_loc i L st = none) (h : px_br i st = some (tk, off, st')) (ht : (pc : Int) + off = (tgt : Int)) : rn md pc L st g = if tk = true then rn md tgt L st' g else rn md (pc + px_len i) L st' g := by
  have h00 : 0 ≤ (pc : Int) + off := by omega
  have e1 : ((pc : Int) + off).toNat = tgt := by omega
  have e : px_ex px_rw md i (px_len i) pc L st g = some (.inl (if tk = true then tgt else pc + px_len i, L, st', g)) := by
    unfold px_ex
    rw [h0]
    simp only [if_true, h1, h2, h, if_pos h00, e1]
  rw [rn_next hd e]
  split <;> rfl
theorem rn_goto {off : Int} {tgt : Nat} (hd : decode (px_rw md).2.1 pc = .ok (.goto off, 3)) (ht : (pc : Int) + off = (tgt : Int)) : rn md pc L st g = rn md tgt L st g := by
  rw [rn_br (i := .goto off) hd rfl rfl rfl rfl ht, if_pos rfl]
section
variable {x y : Int32} {off : Int} {tgt : Nat} (ht : (pc : Int) + off = (tgt : Int))
theorem rn_ifeq (hd : decode (px_rw md).2.1 pc = .ok (.ifCond .eq off, 3)) (ht : (pc : Int) + off = (tgt : Int)) : rn md pc L (.int x :: st) g = if x = 0 then rn md tgt L st g else rn md (pc + 3) L st g := by
  rw [rn_br (i := .ifCond .eq off) hd rfl rfl rfl rfl ht]; simp only [px_c, decide_eq_true_eq]; rfl
theorem rn_ifne (hd : decode (px_rw md).2.1 pc = .ok (.ifCond .ne off, 3)) (ht : (pc : Int) + off = (tgt : Int)) : rn md pc L (.int x :: st) g = if x = 0 then rn md (pc + 3) L st g else rn md tgt L st g := by
  rw [rn_br (i := .ifCond .ne off) hd rfl rfl rfl rfl ht]; simp only [px_c, decide_eq_true_eq, ite_not]; rfl
theorem rn_iflt (hd : decode (px_rw md).2.1 pc = .ok (.ifCond .lt off, 3)) (ht : (pc : Int) + off = (tgt : Int)) : rn md pc L (.int x :: st) g = if x < 0 then rn md tgt L st g else rn md (pc + 3) L st g := by
  rw [rn_br (i := .ifCond .lt off) hd rfl rfl rfl rfl ht]; simp only [px_c, decide_eq_true_eq]; rfl
theorem rn_ifge (hd : decode (px_rw md).2.1 pc = .ok (.ifCond .ge off, 3)) (ht : (pc : Int) + off = (tgt : Int)) : rn md pc L (.int x :: st) g = if 0 ≤ x then rn md tgt L st g else rn md (pc + 3) L st g := by
  rw [rn_br (i := .ifCond .ge off) hd rfl rfl rfl rfl ht]; simp only [px_c, decide_eq_true_eq]; rfl
theorem rn_ifgt (hd : decode (px_rw md).2.1 pc = .ok (.ifCond .gt off, 3)) (ht : (pc : Int) + off = (tgt : Int)) : rn md pc L (.int x :: st) g = if 0 < x then rn md tgt L st g else rn md (pc + 3) L st g := by
  rw [rn_br (i := .ifCond .gt off) hd rfl rfl rfl rfl ht]; simp only [px_c, decide_eq_true_eq]; rfl
theorem rn_ifle (hd : decode (px_rw md).2.1 pc = .ok (.ifCond .le off, 3)) (ht : (pc : Int) + off = (tgt : Int)) : rn md pc L (.int x :: st) g = if x ≤ 0 then rn md tgt L st g else rn md (pc + 3) L st g := by
  rw [rn_br (i := .ifCond .le off) hd rfl rfl rfl rfl ht]; simp only [px_c, decide_eq_true_eq]; rfl
theorem rn_iceq (hd : decode (px_rw md).2.1 pc = .ok (.if_icmp .eq off, 3)) (ht : (pc : Int) + off = (tgt : Int)) : rn md pc L (.int y :: .int x :: st) g = if x = y then rn md tgt L st g else rn md (pc + 3) L st g := by
  rw [rn_br (i := .if_icmp .eq off) hd rfl rfl rfl rfl ht]; simp only [px_c, decide_eq_true_eq]; rfl
theorem rn_icne (hd : decode (px_rw md).2.1 pc = .ok (.if_icmp .ne off, 3)) (ht : (pc : Int) + off = (tgt : Int)) : rn md pc L (.int y :: .int x :: st) g = if x = y then rn md (pc + 3) L st g else rn md tgt L st g := by
  rw [rn_br (i := .if_icmp .ne off) hd rfl rfl rfl rfl ht]; simp only [px_c, decide_eq_true_eq, ite_not]; rfl
theorem rn_iclt (hd : decode (px_rw md).2.1 pc = .ok (.if_icmp .lt off, 3)) (ht : (pc : Int) + off = (tgt : Int)) : rn md pc L (.int y :: .int x :: st) g = if x < y then rn md tgt L st g else rn md (pc + 3) L st g := by
  rw [rn_br (i := .if_icmp .lt off) hd rfl rfl rfl rfl ht]; simp only [px_c, decide_eq_true_eq]; rfl
theorem rn_icge (hd : decode (px_rw md).2.1 pc = .ok (.if_icmp .ge off, 3)) (ht : (pc : Int) + off = (tgt : Int)) : rn md pc L (.int y :: .int x :: st) g = if y ≤ x then rn md tgt L st g else rn md (pc + 3) L st g := by
  rw [rn_br (i := .if_icmp .ge off) hd rfl rfl rfl rfl ht]; simp only [px_c, decide_eq_true_eq]; rfl
theorem rn_icgt (hd : decode (px_rw md).2.1 pc = .ok (.if_icmp .gt off, 3)) (ht : (pc : Int) + off = (tgt : Int)) : rn md pc L (.int y :: .int x :: st) g = if y < x then rn md tgt L st g else rn md (pc + 3) L st g := by
  rw [rn_br (i := .if_icmp .gt off) hd rfl rfl rfl rfl ht]; simp only [px_c, decide_eq_true_eq]; rfl
theorem rn_icle (hd : decode (px_rw md).2.1 pc = .ok (.if_icmp .le off, 3)) (ht : (pc : Int) + off = (tgt : Int)) : rn md pc L (.int y :: .int x :: st) g = if x ≤ y then rn md tgt L st g else rn md (pc + 3) L st g := by
  rw [rn_br (i := .if_icmp .le off) hd rfl rfl rfl rfl ht]; simp only [px_c, decide_eq_true_eq]; rfl
end
theorem rn_sw {i : Instr} {len : Nat} {off : Int} {tgt : Nat} {st' : List Value} (hd : decode (px_rw md).2.1 pc = .ok (i, len)) (h : px_sw i st = some (off, st')) (ht : (pc : Int) + off = (tgt : Int)) : rn md pc L st g = rn md tgt L st' g := by
  have h00 : 0 ≤ (pc : Int) + off := by omega
  have e1 : ((pc : Int) + off).toNat = tgt := by omega
  refine rn_next hd ?_
  unfold px_ex
  rw [h]
  simp only [if_pos h00, e1]
/-- quotients and what is left: the divisor isn't 0 -/
theorem rn_dv {i : Instr} {st' : List Value} {c : Prop} [Decidable c] (hd : decode (px_rw md).2.1 pc = .ok (i, px_len i)) (h0 : px_sw i st = none) (h : px_pure i st = if c then none else some st') (hc : ¬ c) : rn md pc L st g = rn md (pc + px_len i) L st' g := by
  refine rn_next hd ?_
  unfold px_ex
  rw [h0]
  simp only [if_true, h, if_neg hc]
theorem rn_iret {v : Int32} (hd : decode (px_rw md).2.1 pc = .ok (.ireturn, 1)) (hr : (px_rw md).2.2.2.1 = some .int) : rn md pc L [.int v] g = some (some (.int v), g) := by
  refine rn_ret hd ?_
  have h : px_rr (px_rw md).2.2.2.1 .ireturn [.int v] = some (some (.int v)) := by
    rw [hr]; simp [px_rr, narrow]
  show (match px_rr (px_rw md).2.2.2.1 .ireturn [.int v] with | some r => some (Sum.inr (Sum.inl r)) | none => _) = _
  rw [h]
theorem rn_zret {v : Int32} (hd : decode (px_rw md).2.1 pc = .ok (.ireturn, 1)) (hr : (px_rw md).2.2.2.1 = some .boolean) (hv : v = 0 ∨ v = 1) : rn md pc L [.int v] g = some (some (.int v), g) := by
  refine rn_ret hd ?_
  have h : px_rr (px_rw md).2.2.2.1 .ireturn [.int v] = some (some (.int v)) := by
    rw [hr]; rcases hv with rfl | rfl <;> decide
  show (match px_rr (px_rw md).2.2.2.1 .ireturn [.int v] with | some r => some (Sum.inr (Sum.inl r)) | none => _) = _
  rw [h]
theorem rn_lret {v : Int64} (hd : decode (px_rw md).2.1 pc = .ok (.lreturn, 1)) (hr : (px_rw md).2.2.2.1 = some .long) : rn md pc L [.long v] g = some (some (.long v), g) := by
  refine rn_ret hd ?_
  have h : px_rr (px_rw md).2.2.2.1 .lreturn [.long v] = some (some (.long v)) := by
    rw [hr]; simp [px_rr]
  show (match px_rr (px_rw md).2.2.2.1 .lreturn [.long v] with | some r => some (Sum.inr (Sum.inl r)) | none => _) = _
  rw [h]
theorem rn_vret (hd : decode (px_rw md).2.1 pc = .ok (.return_, 1)) (hr : (px_rw md).2.2.2.1 = none) : rn md pc L [] g = some (none, g) := by
  refine rn_ret hd ?_
  have h : px_rr (px_rw md).2.2.2.1 .return_ [] = some none := by rw [hr]; rfl
  show (match px_rr (px_rw md).2.2.2.1 .return_ [] with | some r => some (Sum.inr (Sum.inl r)) | none => _) = _
  rw [h]
theorem rn_callV {idx kd me ci n p : Nat} {z : Int} {As rest : List Value} (hd : decode (px_rw md).2.1 pc = .ok (.invokevirtual idx, 3)) (hlk : px_lk (px_rw md).2.2.2.2.2.2 idx = (kd, me, ci, z)) (hkd : kd = 5 ∨ kd = 6) (hc : ci < 99) (hst : st = As.reverse ++ .ref p :: rest) (hna : (px_rw me).2.2.2.2.1 = As.length + 1) (hcs : px_cs rest ≤ 8) (hl : (px_e0 (.ref p :: As)).length ≤ (px_rw me).2.2.1) (hp : sh p = (100 + ci, n)) :
    rn md pc L st (enc T) = bd (cl me (.ref p :: As) (enc T)) (fun r g' => rn md (pc + 3) L (r.toList ++ rest) g') := by
  refine rn_call hd ?_ hl
  have e1 : st.take (As.length + 1) = As.reverse ++ [.ref p] := by
    rw [hst, show As.reverse ++ Value.ref p :: rest = (As.reverse ++ [.ref p]) ++ rest by simp]
    rw [List.take_left' (by simp)]
  have e2 : st.drop (As.length + 1) = rest := by
    rw [hst, show As.reverse ++ Value.ref p :: rest = (As.reverse ++ [.ref p]) ++ rest by simp]
    rw [List.drop_left' (by simp)]
  have e3 : As.length + 1 ≤ st.length := by rw [hst]; simp
  have h : px_cl px_rw (px_rw md).2.2.2.2.2.2 (.invokevirtual idx) st (enc T) = some (me, .ref p :: As, rest) := by
    simp only [px_cl, hlk, hna, e1, e2, e3, hkd, hcs, and_self, if_true, List.reverse_append, List.reverse_cons, List.reverse_nil, List.nil_append, List.reverse_reverse, List.singleton_append, enc_obj T hp hc]
  show (match px_cl px_rw (px_rw md).2.2.2.2.2.2 (.invokevirtual idx) st (enc T) with | some q => some (Sum.inr (Sum.inr q)) | none => none) = _
  rw [h]
theorem rn_callS {idx kd me ci : Nat} {z : Int} {As rest : List Value} (hd : decode (px_rw md).2.1 pc = .ok (.invokestatic idx, 3)) (hlk : px_lk (px_rw md).2.2.2.2.2.2 idx = (kd, me, ci, z)) (hkd : kd = 7 ∨ kd = 8) (hst : st = As.reverse ++ rest) (hna : (px_rw me).2.2.2.2.1 = As.length) (hcs : px_cs rest ≤ 8) (hl : (px_e0 As).length ≤ (px_rw me).2.2.1) :
    rn md pc L st g = bd (cl me As g) (fun r g' => rn md (pc + 3) L (r.toList ++ rest) g') := by
  refine rn_call hd ?_ hl
  have e1 : st.take As.length = As.reverse := by rw [hst, List.take_left' (by simp)]
  have e2 : st.drop As.length = rest := by rw [hst, List.drop_left' (by simp)]
  have e3 : As.length ≤ st.length := by rw [hst]; simp
  have h : px_cl px_rw (px_rw md).2.2.2.2.2.2 (.invokestatic idx) st g = some (me, As, rest) := by
    simp only [px_cl, hlk, hna, e1, e2, e3, hkd, hcs, and_self, if_true, List.reverse_reverse]
  show (match px_cl px_rw (px_rw md).2.2.2.2.2.2 (.invokestatic idx) st g with | some q => some (Sum.inr (Sum.inr q)) | none => none) = _
  rw [h]
theorem rn_alen {p n t : Nat} {v : Int32} (hd : decode (px_rw md).2.1 pc = .ok (.arraylength, 1)) (ht : t < 4) (hv : Int32.ofNat n = v) (hp : sh p = (t, n)) : rn md pc L (.ref p :: st) (enc T) = rn md (pc + 1) L (.int v :: st) (enc T) := by
  refine rn_next hd (mem_ex rfl rfl rfl rfl rfl ?_)
  subst hv
  have h4 : t = 0 ∨ t = 1 ∨ t = 2 ∨ t = 3 := by omega
  rcases h4 with rfl | rfl | rfl | rfl
  · show (match (enc T).2 p with | .inl (t, n, .inl _) => if t = 0 ∨ t = 2 ∨ t = 9 then some (Value.int (Int32.ofNat n) :: st, enc T) else none | .inl (t, n, .inr (.inl _)) => if t = 1 then some (Value.int (Int32.ofNat n) :: st, enc T) else none | .inl (t, n, .inr (.inr (.inr (.inr _)))) => if t = 3 then some (Value.int (Int32.ofNat n) :: st, enc T) else none | _ => none) = _
    rw [enc_0 T hp]; rfl
  · show (match (enc T).2 p with | .inl (t, n, .inl _) => if t = 0 ∨ t = 2 ∨ t = 9 then some (Value.int (Int32.ofNat n) :: st, enc T) else none | .inl (t, n, .inr (.inl _)) => if t = 1 then some (Value.int (Int32.ofNat n) :: st, enc T) else none | .inl (t, n, .inr (.inr (.inr (.inr _)))) => if t = 3 then some (Value.int (Int32.ofNat n) :: st, enc T) else none | _ => none) = _
    rw [enc_1 T hp]; rfl
  · show (match (enc T).2 p with | .inl (t, n, .inl _) => if t = 0 ∨ t = 2 ∨ t = 9 then some (Value.int (Int32.ofNat n) :: st, enc T) else none | .inl (t, n, .inr (.inl _)) => if t = 1 then some (Value.int (Int32.ofNat n) :: st, enc T) else none | .inl (t, n, .inr (.inr (.inr (.inr _)))) => if t = 3 then some (Value.int (Int32.ofNat n) :: st, enc T) else none | _ => none) = _
    rw [enc_2 T hp]; rfl
  · show (match (enc T).2 p with | .inl (t, n, .inl _) => if t = 0 ∨ t = 2 ∨ t = 9 then some (Value.int (Int32.ofNat n) :: st, enc T) else none | .inl (t, n, .inr (.inl _)) => if t = 1 then some (Value.int (Int32.ofNat n) :: st, enc T) else none | .inl (t, n, .inr (.inr (.inr (.inr _)))) => if t = 3 then some (Value.int (Int32.ofNat n) :: st, enc T) else none | _ => none) = _
    rw [enc_3 T hp]; rfl
theorem rn_alenS (hd : decode (px_rw md).2.1 pc = .ok (.arraylength, 1)) : rn md pc L (.ref 1002 :: st) (enc T) = rn md (pc + 1) L (.int (Int32.ofNat T.2.2.2) :: st) (enc T) := rn_next hd (mem_ex rfl rfl rfl rfl rfl rfl)
theorem rn_ipush {i : Instr} {v w : Int32} (hd : decode (px_rw md).2.1 pc = .ok (i, px_len i)) (h0 : px_sw i st = none) (h : px_pure i st = some (.int w :: st)) (hv : w = v) : rn md pc L st g = rn md (pc + px_len i) L (.int v :: st) g := by
  subst hv
  refine rn_next hd ?_
  unfold px_ex
  rw [h0]
  simp only [if_true, h]
theorem rn_ldc {i : Instr} {v w : Value} (hd : decode (px_rw md).2.1 pc = .ok (i, px_len i)) (h0 : px_sw i st = none) (h1 : px_pure i st = none) (h2 : px_loc i L st = none) (h3 : px_br i st = none) (h : px_mem (px_rw md).2.2.2.2.2.2 i st g = some (w :: st, g)) (hv : w = v) : rn md pc L st g = rn md (pc + px_len i) L (v :: st) g := by
  subst hv
  exact rn_next hd (mem_ex h0 rfl h1 h2 h3 h)
end
theorem px_kill_int (x : Int32) : px_kill (.int x) = .int x := rfl
theorem px_kill_long (x : Int64) : px_kill (.long x) = .null := rfl
theorem px_kill_ref (x : Nat) : px_kill (.ref x) = .ref x := rfl
theorem px_kill_null : px_kill .null = .null := rfl
