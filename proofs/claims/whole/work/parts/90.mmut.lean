/-! the reference's changes by hand. -/
theorem s_put {T : TS} {i k : Nat} (hi : i < 4) (hk : k < 8) (x : Int32) : cl k_Dm_put [.ref 53, .int (iI (i : Int)), .int (iI (k : Int)), .int x] (enc T) = some (none, enc (sI T 56 (8 * i + k) x)) := by
  have e : (8 * (i : Int) + (k : Int)).toNat = 8 * i + k := by omega
  simp (disch := first | omega | assumption | decide | (simp (disch := omega) only [iI_lit, iJ_lit, iJ_eq, iI_eq, bI_01, bI_01I] <;> omega)) only [c_Dm_put, e_Dm_put_0, e_Dm_put_1, e_Dm_put_4, e_Dm_put_6, e_Dm_put_7, e_Dm_put_8, e_Dm_put_9, e_Dm_put_10, e_Dm_put_11, e_Dm_put_12, bd_some, bd_none, Option.toList_some, Option.toList_none, List.nil_append, List.cons_append, px_kill_int, px_kill_long, px_kill_ref, px_kill_null, iI_lit, iJ_lit, iI_add, iI_sub, iI_mul, iI_neg, iJ_add, iJ_sub, iJ_mul, iJ_neg, iI_lt, iI_le, iI_eq, iJ_lt, iJ_le, iJ_eq, iI_div, iJ_div, tdiv_tmod, iI_J, iJ_I, iI_ix, iI_toInt, iJ_toInt, cmp_ge, cmp_lt, cmp_eq, cmp_gt, cmp_le, cmp_geI, cmp_ltI, cmp_eqI, cmp_gtI, cmp_leI, bI_0I, bI_1I, pin, if_true, sh_n56, e]
theorem fM.put {T : TS} {S : FS} (hS : okF S) (h : fM T S) {j k : Nat} (_hj : j < S.1.1) (hk : k < 8) (v : Int) : fM (sI T 56 (8 * j + k) (iI v)) (inS S j (setF (S.1.2 j) k v)) ∧ sepM T (sI T 56 (8 * j + k) (iI v)) := by
  obtain ⟨⟨h1, h2⟩, ⟨h3, h4⟩, h5⟩ := h
  refine ⟨⟨⟨?_, fun i hi q hq => ?_⟩, ⟨?_, fun q hq => ?_⟩, fun q hq => ?_⟩, (sepM.rf T).wr _ (by omega)⟩
  · simp only [sI_get, sJ_get, sI_2, sJ_1, sJ_22, sR_1, sR_21, Nat.reduceEqDiff, and_true, true_and, and_false, false_and, and_self, if_true, if_false, reduceIte]; exact h1
  · have hi' : i < S.1.1 := hi
    show (sI T 56 (8 * j + k) (iI v)).1 56 (8 * i + q) = iI ((if i = j then setF (S.1.2 j) k v else S.1.2 i) q)
    rw [sI_get]
    by_cases e : i = j
    · rw [if_pos e]
      unfold setF
      by_cases e2 : q = k
      · rw [if_pos ⟨rfl, by omega⟩, if_pos e2]
      · rw [if_neg (fun z => e2 (by omega)), if_neg e2, e]
        exact h2 j (by omega) q hq
    · rw [if_neg e, if_neg (fun z => e (by omega))]
      exact h2 i hi' q hq
  · simp only [sI_get, sJ_get, sI_2, sJ_1, sJ_22, sR_1, sR_21, Nat.reduceEqDiff, and_true, true_and, and_false, false_and, and_self, if_true, if_false, reduceIte]; exact h3
  · simp only [sI_get, sJ_get, sI_2, sJ_1, sJ_22, sR_1, sR_21, Nat.reduceEqDiff, and_true, true_and, and_false, false_and, and_self, if_true, if_false, reduceIte]; exact h4 q hq
  · simp only [sI_get, sJ_get, sI_2, sJ_1, sJ_22, sR_1, sR_21, Nat.reduceEqDiff, and_true, true_and, and_false, false_and, and_self, if_true, if_false, reduceIte]; exact h5 q hq
theorem inS_inS (S : FS) (j : Nat) (f g : Nat → Int) : inS (inS S j f) j g = inS S j g := by
  unfold inS
  simp only
  congr 2
  funext i
  split <;> rfl
theorem inS_at (S : FS) (j : Nat) (f : Nat → Int) : (inS S j f).1.2 j = f := if_pos rfl
theorem fM.put2 {T : TS} {S : FS} (hS : okF S) {j k : Nat} {f : Nat → Int} (h : fM T (inS S j f)) (hf : okN f) (hj : j < S.1.1) (hk : k < 8) (v : Int) : fM (sI T 56 (8 * j + k) (iI v)) (inS S j (setF f k v)) ∧ sepM T (sI T 56 (8 * j + k) (iI v)) := by
  have := fM.put (inS_ok hS j hf) h (j := j) (k := k) hj hk v
  rw [inS_at, inS_inS] at this
  exact this
theorem t0_fM {T : TS} {S : FS} (h : fM T S) : fM (t0 T) S ∧ sepM T (t0 T) := h.ask (t0_fr T)
theorem fM.ofk {T : TS} {S : FS} (hS : okF S) (h : fM T S) {j k : Nat} (hj : j < S.1.1) (hk : k < 8) : cl k_Dm_of [.ref 53, .int (iI (j : Int)), .int (iI (k : Int))] (enc T) = some (some (.int (iI (S.1.2 j k))), enc T) := by
  rw [s_of T (by have := hS.1.1; omega) hk, h.1.2 j hj k hk]
set_option maxHeartbeats 1000000 in
theorem m_tells {T : TS} {S : FS} (hS : okF S) (h : fM T S) {w : Nat} (hw : w < 8) {mx : Int} (hmx : 0 ≤ mx ∧ mx ≤ 100) (hb : ∀ j, j < S.1.1 → 0 ≤ S.1.2 j w ∧ S.1.2 j w ≤ 100) {i t : Int} (hi : inI i) (ht : inI t) : ∃ T', cl k_Dm_tells [.ref 53, .int (iI i), .int (iI (w : Int)), .int (iI t), .int (iI mx)] (enc T) = some (some (.int (iI (if isK S.1 i then (if 0 ≤ t ∧ t ≤ mx then (if S.1.2 i.toNat w = t then (rfS S 2, -1) else (inS S i.toNat (setF (S.1.2 i.toNat) w t), S.1.2 i.toNat w)) else (rfS S 1, -1)) else (rfS S 0, -1)).2)), enc T') ∧ fM T' (if isK S.1 i then (if 0 ≤ t ∧ t ≤ mx then (if S.1.2 i.toNat w = t then (rfS S 2, -1) else (inS S i.toNat (setF (S.1.2 i.toNat) w t), S.1.2 i.toNat w)) else (rfS S 1, -1)) else (rfS S 0, (-1 : Int))).1 ∧ sepM T T' := by
  have g1 := g_inM hS.1 h.1 hi
  obtain ⟨i1, i2⟩ := id hi
  obtain ⟨t1, t2⟩ := id ht
  have g2 := s_in (x := t) (l := 0) (h := mx) (enc T) (by omega) (by omega) (by omega)
  by_cases c1 : isK S.1 i
  case neg =>
    rw [bI_fI c1] at g1
    obtain ⟨T', e, hF, hs⟩ := m_ref0 h
    rw [if_neg c1]
    refine ⟨T', ?_, hF, hs⟩
    simp (disch := first | omega | assumption | decide | (simp (disch := omega) only [iI_lit, iJ_lit, iJ_eq, iI_eq, bI_01, bI_01I] <;> omega)) only [c_Dm_tells, e_Dm_tells_0, e_Dm_tells_1, e_Dm_tells_2, e_Dm_tells_5, e_Dm_tells_8, e_Dm_tells_9, e_Dm_tells_10, e_Dm_tells_13, e_Dm_tells_14, e_Dm_tells_15, e_Dm_tells_16, e_Dm_tells_17, e_Dm_tells_19, e_Dm_tells_20, e_Dm_tells_23, e_Dm_tells_26, e_Dm_tells_27, e_Dm_tells_28, e_Dm_tells_31, e_Dm_tells_32, e_Dm_tells_33, e_Dm_tells_34, e_Dm_tells_35, e_Dm_tells_38, e_Dm_tells_40, e_Dm_tells_42, e_Dm_tells_43, e_Dm_tells_46, e_Dm_tells_47, e_Dm_tells_48, e_Dm_tells_51, e_Dm_tells_52, e_Dm_tells_53, e_Dm_tells_54, e_Dm_tells_55, e_Dm_tells_56, e_Dm_tells_59, e_Dm_tells_61, bd_some, bd_none, Option.toList_some, Option.toList_none, List.nil_append, List.cons_append, px_kill_int, px_kill_long, px_kill_ref, px_kill_null, iI_lit, iJ_lit, iI_add, iI_sub, iI_mul, iI_neg, iJ_add, iJ_sub, iJ_mul, iJ_neg, iI_lt, iI_le, iI_eq, iJ_lt, iJ_le, iJ_eq, iI_div, iJ_div, tdiv_tmod, iI_J, iJ_I, iI_ix, iI_toInt, iJ_toInt, cmp_ge, cmp_lt, cmp_eq, cmp_gt, cmp_le, cmp_geI, cmp_ltI, cmp_eqI, cmp_gtI, cmp_leI, bI_0I, bI_1I, pin, if_true, g1, e]
  rw [bI_tI c1] at g1
  rw [if_pos c1]
  by_cases c2 : 0 ≤ t ∧ t ≤ mx
  case neg =>
    rw [bI_fI c2] at g2
    obtain ⟨T', e, hF, hs⟩ := m_ref1 h
    rw [if_neg c2]
    refine ⟨T', ?_, hF, hs⟩
    simp (disch := first | omega | assumption | decide | (simp (disch := omega) only [iI_lit, iJ_lit, iJ_eq, iI_eq, bI_01, bI_01I] <;> omega)) only [c_Dm_tells, e_Dm_tells_0, e_Dm_tells_1, e_Dm_tells_2, e_Dm_tells_5, e_Dm_tells_8, e_Dm_tells_9, e_Dm_tells_10, e_Dm_tells_13, e_Dm_tells_14, e_Dm_tells_15, e_Dm_tells_16, e_Dm_tells_17, e_Dm_tells_19, e_Dm_tells_20, e_Dm_tells_23, e_Dm_tells_26, e_Dm_tells_27, e_Dm_tells_28, e_Dm_tells_31, e_Dm_tells_32, e_Dm_tells_33, e_Dm_tells_34, e_Dm_tells_35, e_Dm_tells_38, e_Dm_tells_40, e_Dm_tells_42, e_Dm_tells_43, e_Dm_tells_46, e_Dm_tells_47, e_Dm_tells_48, e_Dm_tells_51, e_Dm_tells_52, e_Dm_tells_53, e_Dm_tells_54, e_Dm_tells_55, e_Dm_tells_56, e_Dm_tells_59, e_Dm_tells_61, bd_some, bd_none, Option.toList_some, Option.toList_none, List.nil_append, List.cons_append, px_kill_int, px_kill_long, px_kill_ref, px_kill_null, iI_lit, iJ_lit, iI_add, iI_sub, iI_mul, iI_neg, iJ_add, iJ_sub, iJ_mul, iJ_neg, iI_lt, iI_le, iI_eq, iJ_lt, iJ_le, iJ_eq, iI_div, iJ_div, tdiv_tmod, iI_J, iJ_I, iI_ix, iI_toInt, iJ_toInt, cmp_ge, cmp_lt, cmp_eq, cmp_gt, cmp_le, cmp_geI, cmp_ltI, cmp_eqI, cmp_gtI, cmp_leI, bI_0I, bI_1I, pin, if_true, g1, one0, if_false, g2, e]
  rw [bI_tI c2] at g2
  rw [if_pos c2]
  obtain ⟨j, rfl⟩ : ∃ j : Nat, i = (j : Int) := ⟨i.toNat, by omega⟩
  have hj : j < S.1.1 := by have := c1.2; omega
  have ej : ((j : Int)).toNat = j := by omega
  have h4 := hS.1.1
  have hbj := hb j hj
  have eo := h.ofk hS hj hw
  rw [ej]
  by_cases c5 : S.1.2 j w = t
  · rw [if_pos c5]
    obtain ⟨T', e, hF, hsp⟩ := m_ref2 h
    refine ⟨T', ?_, hF, hsp⟩
    simp (disch := first | omega | assumption | decide | (simp (disch := omega) only [iI_lit, iJ_lit, iJ_eq, iI_eq, bI_01, bI_01I] <;> omega)) only [c_Dm_tells, e_Dm_tells_0, e_Dm_tells_1, e_Dm_tells_2, e_Dm_tells_5, e_Dm_tells_8, e_Dm_tells_9, e_Dm_tells_10, e_Dm_tells_13, e_Dm_tells_14, e_Dm_tells_15, e_Dm_tells_16, e_Dm_tells_17, e_Dm_tells_19, e_Dm_tells_20, e_Dm_tells_23, e_Dm_tells_26, e_Dm_tells_27, e_Dm_tells_28, e_Dm_tells_31, e_Dm_tells_32, e_Dm_tells_33, e_Dm_tells_34, e_Dm_tells_35, e_Dm_tells_38, e_Dm_tells_40, e_Dm_tells_42, e_Dm_tells_43, e_Dm_tells_46, e_Dm_tells_47, e_Dm_tells_48, e_Dm_tells_51, e_Dm_tells_52, e_Dm_tells_53, e_Dm_tells_54, e_Dm_tells_55, e_Dm_tells_56, e_Dm_tells_59, e_Dm_tells_61, bd_some, bd_none, Option.toList_some, Option.toList_none, List.nil_append, List.cons_append, px_kill_int, px_kill_long, px_kill_ref, px_kill_null, iI_lit, iJ_lit, iI_add, iI_sub, iI_mul, iI_neg, iJ_add, iJ_sub, iJ_mul, iJ_neg, iI_lt, iI_le, iI_eq, iJ_lt, iJ_le, iJ_eq, iI_div, iJ_div, tdiv_tmod, iI_J, iJ_I, iI_ix, iI_toInt, iJ_toInt, cmp_ge, cmp_lt, cmp_eq, cmp_gt, cmp_le, cmp_geI, cmp_ltI, cmp_eqI, cmp_gtI, cmp_leI, bI_0I, bI_1I, pin, if_true, g1, g2, one0, if_false, eo, c5, e]
  · rw [if_neg c5]
    have ep := s_put (T := T) (i := j) (k := w) (by omega) hw (iI t)
    obtain ⟨hF, hsp⟩ := h.put hS hj hw t
    refine ⟨_, ?_, hF, hsp⟩
    simp (disch := first | omega | assumption | decide | (simp (disch := omega) only [iI_lit, iJ_lit, iJ_eq, iI_eq, bI_01, bI_01I] <;> omega)) only [c_Dm_tells, e_Dm_tells_0, e_Dm_tells_1, e_Dm_tells_2, e_Dm_tells_5, e_Dm_tells_8, e_Dm_tells_9, e_Dm_tells_10, e_Dm_tells_13, e_Dm_tells_14, e_Dm_tells_15, e_Dm_tells_16, e_Dm_tells_17, e_Dm_tells_19, e_Dm_tells_20, e_Dm_tells_23, e_Dm_tells_26, e_Dm_tells_27, e_Dm_tells_28, e_Dm_tells_31, e_Dm_tells_32, e_Dm_tells_33, e_Dm_tells_34, e_Dm_tells_35, e_Dm_tells_38, e_Dm_tells_40, e_Dm_tells_42, e_Dm_tells_43, e_Dm_tells_46, e_Dm_tells_47, e_Dm_tells_48, e_Dm_tells_51, e_Dm_tells_52, e_Dm_tells_53, e_Dm_tells_54, e_Dm_tells_55, e_Dm_tells_56, e_Dm_tells_59, e_Dm_tells_61, bd_some, bd_none, Option.toList_some, Option.toList_none, List.nil_append, List.cons_append, px_kill_int, px_kill_long, px_kill_ref, px_kill_null, iI_lit, iJ_lit, iI_add, iI_sub, iI_mul, iI_neg, iJ_add, iJ_sub, iJ_mul, iJ_neg, iI_lt, iI_le, iI_eq, iJ_lt, iJ_le, iJ_eq, iI_div, iJ_div, tdiv_tmod, iI_J, iJ_I, iI_ix, iI_toInt, iJ_toInt, cmp_ge, cmp_lt, cmp_eq, cmp_gt, cmp_le, cmp_geI, cmp_ltI, cmp_eqI, cmp_gtI, cmp_leI, bI_0I, bI_1I, pin, if_true, g1, g2, one0, if_false, eo, c5, ep]
theorem u_Dm_shape {T : TS} {S : FS} (hS : okF S) (h : fM T S) {i t : Int} (hi : inI i) (ht : inI t) : ∃ T', cl k_Dm_shape [.ref 53, .int (iI i), .int (iI t)] (enc T) = some (some (.int (iI (rShape S i t).2)), enc T') ∧ fM T' (rShape S i t).1 ∧ sepM T T' := by
  obtain ⟨h0, s0⟩ := t0_fM h
  obtain ⟨T', e, hF, hs⟩ := m_tells hS h0 (w := 4) (by omega) (mx := 2) (by omega) (fun j hj => by have := (hS.1.2 j hj).2.1; omega) hi ht
  refine ⟨T', ?_, hF, s0.tr hs⟩
  have e' : cl k_Dm_tells [.ref 53, .int (iI i), .int (iI 4), .int (iI t), .int (iI 2)] (enc (t0 T)) = some (some (.int (iI (rShape S i t).2)), enc T') := e
  simp (disch := first | omega | assumption | decide | (simp (disch := omega) only [iI_lit, iJ_lit, iJ_eq, iI_eq, bI_01, bI_01I] <;> omega)) only [c_Dm_shape, e_Dm_shape_0, e_Dm_shape_1, e_Dm_shape_2, e_Dm_shape_5, e_Dm_shape_6, e_Dm_shape_7, e_Dm_shape_8, e_Dm_shape_9, e_Dm_shape_10, e_Dm_shape_13, bd_some, bd_none, Option.toList_some, Option.toList_none, List.nil_append, List.cons_append, px_kill_int, px_kill_long, px_kill_ref, px_kill_null, iI_lit, iJ_lit, iI_add, iI_sub, iI_mul, iI_neg, iJ_add, iJ_sub, iJ_mul, iJ_neg, iI_lt, iI_le, iI_eq, iJ_lt, iJ_le, iJ_eq, iI_div, iJ_div, tdiv_tmod, iI_J, iJ_I, iI_ix, iI_toInt, iJ_toInt, cmp_ge, cmp_lt, cmp_eq, cmp_gt, cmp_le, cmp_geI, cmp_ltI, cmp_eqI, cmp_gtI, cmp_leI, bI_0I, bI_1I, pin, if_true, e']
theorem u_Dm_tone {T : TS} {S : FS} (hS : okF S) (h : fM T S) {i t : Int} (hi : inI i) (ht : inI t) : ∃ T', cl k_Dm_tone [.ref 53, .int (iI i), .int (iI t)] (enc T) = some (some (.int (iI (rTone S i t).2)), enc T') ∧ fM T' (rTone S i t).1 ∧ sepM T T' := by
  obtain ⟨h0, s0⟩ := t0_fM h
  obtain ⟨T', e, hF, hs⟩ := m_tells hS h0 (w := 5) (by omega) (mx := 100) (by omega) (fun j hj => by have := (hS.1.2 j hj).2.2.1; omega) hi ht
  refine ⟨T', ?_, hF, s0.tr hs⟩
  have e' : cl k_Dm_tells [.ref 53, .int (iI i), .int (iI 5), .int (iI t), .int (iI 100)] (enc (t0 T)) = some (some (.int (iI (rTone S i t).2)), enc T') := e
  simp (disch := first | omega | assumption | decide | (simp (disch := omega) only [iI_lit, iJ_lit, iJ_eq, iI_eq, bI_01, bI_01I] <;> omega)) only [c_Dm_tone, e_Dm_tone_0, e_Dm_tone_1, e_Dm_tone_2, e_Dm_tone_5, e_Dm_tone_6, e_Dm_tone_7, e_Dm_tone_8, e_Dm_tone_9, e_Dm_tone_11, e_Dm_tone_14, bd_some, bd_none, Option.toList_some, Option.toList_none, List.nil_append, List.cons_append, px_kill_int, px_kill_long, px_kill_ref, px_kill_null, iI_lit, iJ_lit, iI_add, iI_sub, iI_mul, iI_neg, iJ_add, iJ_sub, iJ_mul, iJ_neg, iI_lt, iI_le, iI_eq, iJ_lt, iJ_le, iJ_eq, iI_div, iJ_div, tdiv_tmod, iI_J, iJ_I, iI_ix, iI_toInt, iJ_toInt, cmp_ge, cmp_lt, cmp_eq, cmp_gt, cmp_le, cmp_geI, cmp_ltI, cmp_eqI, cmp_gtI, cmp_leI, bI_0I, bI_1I, pin, if_true, e']
set_option maxHeartbeats 1000000 in
theorem u_Dm_offset {T : TS} {S : FS} (hS : okF S) (h : fM T S) {i x y : Int} (hi : inI i) (hx : inI x) (hy : inI y) : ∃ T', cl k_Dm_offset [.ref 53, .int (iI i), .int (iI x), .int (iI y)] (enc T) = some (some (.int (iI (rOffs S i x y).2)), enc T') ∧ fM T' (rOffs S i x y).1 ∧ sepM T T' := by
  obtain ⟨h0, s0⟩ := t0_fM h
  have g1 := g_inM hS.1 h0.1 hi
  obtain ⟨i1, i2⟩ := id hi
  obtain ⟨x1, x2⟩ := id hx
  obtain ⟨y1, y2⟩ := id hy
  have e99 : (-99 : Int64) = iJ (-99) := by decide
  have g2 := s_in (x := x) (l := -99) (h := 99) (enc (t0 T)) (by omega) (by omega) (by omega)
  have g3 := s_in (x := y) (l := -99) (h := 99) (enc (t0 T)) (by omega) (by omega) (by omega)
  unfold rOffs
  by_cases c1 : isK S.1 i
  case neg =>
    rw [bI_fI c1] at g1
    obtain ⟨T', e, hF, hs⟩ := m_ref0 h0
    rw [if_neg c1]
    refine ⟨T', ?_, hF, s0.tr hs⟩
    simp (disch := first | omega | assumption | decide | (simp (disch := omega) only [iI_lit, iJ_lit, iJ_eq, iI_eq, bI_01, bI_01I] <;> omega)) only [c_Dm_offset, e_Dm_offset_0, e_Dm_offset_1, e_Dm_offset_2, e_Dm_offset_5, e_Dm_offset_6, e_Dm_offset_7, e_Dm_offset_10, e_Dm_offset_13, e_Dm_offset_14, e_Dm_offset_15, e_Dm_offset_18, e_Dm_offset_19, e_Dm_offset_20, e_Dm_offset_21, e_Dm_offset_24, e_Dm_offset_27, e_Dm_offset_30, e_Dm_offset_33, e_Dm_offset_34, e_Dm_offset_35, e_Dm_offset_38, e_Dm_offset_41, e_Dm_offset_44, e_Dm_offset_47, e_Dm_offset_48, e_Dm_offset_49, e_Dm_offset_52, e_Dm_offset_53, e_Dm_offset_54, e_Dm_offset_55, e_Dm_offset_56, e_Dm_offset_58, e_Dm_offset_61, e_Dm_offset_62, e_Dm_offset_63, e_Dm_offset_66, e_Dm_offset_67, e_Dm_offset_68, e_Dm_offset_69, e_Dm_offset_71, e_Dm_offset_74, e_Dm_offset_75, e_Dm_offset_76, e_Dm_offset_79, e_Dm_offset_80, e_Dm_offset_81, e_Dm_offset_83, e_Dm_offset_85, e_Dm_offset_88, e_Dm_offset_89, e_Dm_offset_90, e_Dm_offset_93, e_Dm_offset_94, e_Dm_offset_95, e_Dm_offset_96, e_Dm_offset_98, e_Dm_offset_99, e_Dm_offset_102, e_Dm_offset_103, e_Dm_offset_104, e_Dm_offset_106, e_Dm_offset_107, e_Dm_offset_110, e_Dm_offset_112, bd_some, bd_none, Option.toList_some, Option.toList_none, List.nil_append, List.cons_append, px_kill_int, px_kill_long, px_kill_ref, px_kill_null, iI_lit, iJ_lit, iI_add, iI_sub, iI_mul, iI_neg, iJ_add, iJ_sub, iJ_mul, iJ_neg, iI_lt, iI_le, iI_eq, iJ_lt, iJ_le, iJ_eq, iI_div, iJ_div, tdiv_tmod, iI_J, iJ_I, iI_ix, iI_toInt, iJ_toInt, cmp_ge, cmp_lt, cmp_eq, cmp_gt, cmp_le, cmp_geI, cmp_ltI, cmp_eqI, cmp_gtI, cmp_leI, bI_0I, bI_1I, pin, if_true, g1, e]
  rw [bI_tI c1] at g1
  rw [if_pos c1]
  obtain ⟨T1, e1, hF1, hs1⟩ := m_ref1 h0
  by_cases c2 : -99 ≤ x ∧ x ≤ 99
  case neg =>
    rw [bI_fI c2] at g2
    rw [if_neg (fun z => c2 z.1)]
    refine ⟨T1, ?_, hF1, s0.tr hs1⟩
    simp (disch := first | omega | assumption | decide | (simp (disch := omega) only [iI_lit, iJ_lit, iJ_eq, iI_eq, bI_01, bI_01I] <;> omega)) only [c_Dm_offset, e_Dm_offset_0, e_Dm_offset_1, e_Dm_offset_2, e_Dm_offset_5, e_Dm_offset_6, e_Dm_offset_7, e_Dm_offset_10, e_Dm_offset_13, e_Dm_offset_14, e_Dm_offset_15, e_Dm_offset_18, e_Dm_offset_19, e_Dm_offset_20, e_Dm_offset_21, e_Dm_offset_24, e_Dm_offset_27, e_Dm_offset_30, e_Dm_offset_33, e_Dm_offset_34, e_Dm_offset_35, e_Dm_offset_38, e_Dm_offset_41, e_Dm_offset_44, e_Dm_offset_47, e_Dm_offset_48, e_Dm_offset_49, e_Dm_offset_52, e_Dm_offset_53, e_Dm_offset_54, e_Dm_offset_55, e_Dm_offset_56, e_Dm_offset_58, e_Dm_offset_61, e_Dm_offset_62, e_Dm_offset_63, e_Dm_offset_66, e_Dm_offset_67, e_Dm_offset_68, e_Dm_offset_69, e_Dm_offset_71, e_Dm_offset_74, e_Dm_offset_75, e_Dm_offset_76, e_Dm_offset_79, e_Dm_offset_80, e_Dm_offset_81, e_Dm_offset_83, e_Dm_offset_85, e_Dm_offset_88, e_Dm_offset_89, e_Dm_offset_90, e_Dm_offset_93, e_Dm_offset_94, e_Dm_offset_95, e_Dm_offset_96, e_Dm_offset_98, e_Dm_offset_99, e_Dm_offset_102, e_Dm_offset_103, e_Dm_offset_104, e_Dm_offset_106, e_Dm_offset_107, e_Dm_offset_110, e_Dm_offset_112, bd_some, bd_none, Option.toList_some, Option.toList_none, List.nil_append, List.cons_append, px_kill_int, px_kill_long, px_kill_ref, px_kill_null, iI_lit, iJ_lit, iI_add, iI_sub, iI_mul, iI_neg, iJ_add, iJ_sub, iJ_mul, iJ_neg, iI_lt, iI_le, iI_eq, iJ_lt, iJ_le, iJ_eq, iI_div, iJ_div, tdiv_tmod, iI_J, iJ_I, iI_ix, iI_toInt, iJ_toInt, cmp_ge, cmp_lt, cmp_eq, cmp_gt, cmp_le, cmp_geI, cmp_ltI, cmp_eqI, cmp_gtI, cmp_leI, bI_0I, bI_1I, pin, if_true, g1, one0, if_false, e99, g2, e1]
  rw [bI_tI c2] at g2
  by_cases c3 : -99 ≤ y ∧ y ≤ 99
  case neg =>
    rw [bI_fI c3] at g3
    rw [if_neg (fun z => c3 z.2)]
    refine ⟨T1, ?_, hF1, s0.tr hs1⟩
    simp (disch := first | omega | assumption | decide | (simp (disch := omega) only [iI_lit, iJ_lit, iJ_eq, iI_eq, bI_01, bI_01I] <;> omega)) only [c_Dm_offset, e_Dm_offset_0, e_Dm_offset_1, e_Dm_offset_2, e_Dm_offset_5, e_Dm_offset_6, e_Dm_offset_7, e_Dm_offset_10, e_Dm_offset_13, e_Dm_offset_14, e_Dm_offset_15, e_Dm_offset_18, e_Dm_offset_19, e_Dm_offset_20, e_Dm_offset_21, e_Dm_offset_24, e_Dm_offset_27, e_Dm_offset_30, e_Dm_offset_33, e_Dm_offset_34, e_Dm_offset_35, e_Dm_offset_38, e_Dm_offset_41, e_Dm_offset_44, e_Dm_offset_47, e_Dm_offset_48, e_Dm_offset_49, e_Dm_offset_52, e_Dm_offset_53, e_Dm_offset_54, e_Dm_offset_55, e_Dm_offset_56, e_Dm_offset_58, e_Dm_offset_61, e_Dm_offset_62, e_Dm_offset_63, e_Dm_offset_66, e_Dm_offset_67, e_Dm_offset_68, e_Dm_offset_69, e_Dm_offset_71, e_Dm_offset_74, e_Dm_offset_75, e_Dm_offset_76, e_Dm_offset_79, e_Dm_offset_80, e_Dm_offset_81, e_Dm_offset_83, e_Dm_offset_85, e_Dm_offset_88, e_Dm_offset_89, e_Dm_offset_90, e_Dm_offset_93, e_Dm_offset_94, e_Dm_offset_95, e_Dm_offset_96, e_Dm_offset_98, e_Dm_offset_99, e_Dm_offset_102, e_Dm_offset_103, e_Dm_offset_104, e_Dm_offset_106, e_Dm_offset_107, e_Dm_offset_110, e_Dm_offset_112, bd_some, bd_none, Option.toList_some, Option.toList_none, List.nil_append, List.cons_append, px_kill_int, px_kill_long, px_kill_ref, px_kill_null, iI_lit, iJ_lit, iI_add, iI_sub, iI_mul, iI_neg, iJ_add, iJ_sub, iJ_mul, iJ_neg, iI_lt, iI_le, iI_eq, iJ_lt, iJ_le, iJ_eq, iI_div, iJ_div, tdiv_tmod, iI_J, iJ_I, iI_ix, iI_toInt, iJ_toInt, cmp_ge, cmp_lt, cmp_eq, cmp_gt, cmp_le, cmp_geI, cmp_ltI, cmp_eqI, cmp_gtI, cmp_leI, bI_0I, bI_1I, pin, if_true, g1, one0, if_false, e99, g2, g3, e1]
  rw [bI_tI c3] at g3
  rw [if_pos ⟨c2, c3⟩]
  obtain ⟨j, rfl⟩ : ∃ j : Nat, i = (j : Int) := ⟨i.toNat, by omega⟩
  have hj : j < S.1.1 := by have := c1.2; omega
  have ej : ((j : Int)).toNat = j := by omega
  have h4 := hS.1.1
  have bX := (hS.1.2 j hj).2.2.2.1
  have bY := (hS.1.2 j hj).2.2.2.2
  have o6 : cl k_Dm_of [.ref 53, .int (iI (j : Int)), .int (iI 6)] (enc (t0 T)) = some (some (.int (iI (S.1.2 j 6))), enc (t0 T)) := h0.ofk hS hj (k := 6) (by omega)
  have o7 : cl k_Dm_of [.ref 53, .int (iI (j : Int)), .int (iI 7)] (enc (t0 T)) = some (some (.int (iI (S.1.2 j 7))), enc (t0 T)) := h0.ofk hS hj (k := 7) (by omega)
  have a1 := s_farJ (a := x - S.1.2 j 6) (by omega) (enc (t0 T))
  have a2 := s_farJ (a := y - S.1.2 j 7) (by omega) (enc (t0 T))
  rw [ej]
  by_cases c5 : mvd (S.1.2 j) x y = 0
  · rw [if_pos c5]
    obtain ⟨T', e, hF, hsp⟩ := m_ref2 h0
    refine ⟨T', ?_, hF, s0.tr hsp⟩
    simp (disch := first | omega | assumption | decide | (simp (disch := omega) only [iI_lit, iJ_lit, iJ_eq, iI_eq, bI_01, bI_01I] <;> omega)) only [c_Dm_offset, e_Dm_offset_0, e_Dm_offset_1, e_Dm_offset_2, e_Dm_offset_5, e_Dm_offset_6, e_Dm_offset_7, e_Dm_offset_10, e_Dm_offset_13, e_Dm_offset_14, e_Dm_offset_15, e_Dm_offset_18, e_Dm_offset_19, e_Dm_offset_20, e_Dm_offset_21, e_Dm_offset_24, e_Dm_offset_27, e_Dm_offset_30, e_Dm_offset_33, e_Dm_offset_34, e_Dm_offset_35, e_Dm_offset_38, e_Dm_offset_41, e_Dm_offset_44, e_Dm_offset_47, e_Dm_offset_48, e_Dm_offset_49, e_Dm_offset_52, e_Dm_offset_53, e_Dm_offset_54, e_Dm_offset_55, e_Dm_offset_56, e_Dm_offset_58, e_Dm_offset_61, e_Dm_offset_62, e_Dm_offset_63, e_Dm_offset_66, e_Dm_offset_67, e_Dm_offset_68, e_Dm_offset_69, e_Dm_offset_71, e_Dm_offset_74, e_Dm_offset_75, e_Dm_offset_76, e_Dm_offset_79, e_Dm_offset_80, e_Dm_offset_81, e_Dm_offset_83, e_Dm_offset_85, e_Dm_offset_88, e_Dm_offset_89, e_Dm_offset_90, e_Dm_offset_93, e_Dm_offset_94, e_Dm_offset_95, e_Dm_offset_96, e_Dm_offset_98, e_Dm_offset_99, e_Dm_offset_102, e_Dm_offset_103, e_Dm_offset_104, e_Dm_offset_106, e_Dm_offset_107, e_Dm_offset_110, e_Dm_offset_112, bd_some, bd_none, Option.toList_some, Option.toList_none, List.nil_append, List.cons_append, px_kill_int, px_kill_long, px_kill_ref, px_kill_null, iI_lit, iJ_lit, iI_add, iI_sub, iI_mul, iI_neg, iJ_add, iJ_sub, iJ_mul, iJ_neg, iI_lt, iI_le, iI_eq, iJ_lt, iJ_le, iJ_eq, iI_div, iJ_div, tdiv_tmod, iI_J, iJ_I, iI_ix, iI_toInt, iJ_toInt, cmp_ge, cmp_lt, cmp_eq, cmp_gt, cmp_le, cmp_geI, cmp_ltI, cmp_eqI, cmp_gtI, cmp_leI, bI_0I, bI_1I, pin, if_true, g1, one0, if_false, e99, g2, g3, o6, o7, a1, a2, c5, e]
  · rw [if_neg c5]
    have p6 : cl k_Dm_put [.ref 53, .int (iI (j : Int)), .int (iI 6), .int (iI x)] (enc (t0 T)) = some (none, enc (sI (t0 T) 56 (8 * j + 6) (iI x))) := s_put (T := t0 T) (i := j) (k := 6) (by omega) (by omega) (iI x)
    obtain ⟨hF6, s6⟩ := h0.put hS hj (k := 6) (by omega) x
    have ok6 : okN (setF (S.1.2 j) 6 x) := by
      obtain ⟨q1, q2, q3, q4, q5⟩ := hS.1.2 j hj
      exact ⟨q1, q2, q3, c2, q5⟩
    have p7 : cl k_Dm_put [.ref 53, .int (iI (j : Int)), .int (iI 7), .int (iI y)] (enc (sI (t0 T) 56 (8 * j + 6) (iI x))) = some (none, enc (sI (sI (t0 T) 56 (8 * j + 6) (iI x)) 56 (8 * j + 7) (iI y))) := s_put (T := sI (t0 T) 56 (8 * j + 6) (iI x)) (i := j) (k := 7) (by omega) (by omega) (iI y)
    obtain ⟨hF7, s7⟩ := fM.put2 hS hF6 ok6 hj (k := 7) (by omega) y
    refine ⟨_, ?_, hF7, (s0.tr s6).tr s7⟩
    simp (disch := first | omega | assumption | decide | (simp (disch := omega) only [iI_lit, iJ_lit, iJ_eq, iI_eq, bI_01, bI_01I] <;> omega)) only [c_Dm_offset, e_Dm_offset_0, e_Dm_offset_1, e_Dm_offset_2, e_Dm_offset_5, e_Dm_offset_6, e_Dm_offset_7, e_Dm_offset_10, e_Dm_offset_13, e_Dm_offset_14, e_Dm_offset_15, e_Dm_offset_18, e_Dm_offset_19, e_Dm_offset_20, e_Dm_offset_21, e_Dm_offset_24, e_Dm_offset_27, e_Dm_offset_30, e_Dm_offset_33, e_Dm_offset_34, e_Dm_offset_35, e_Dm_offset_38, e_Dm_offset_41, e_Dm_offset_44, e_Dm_offset_47, e_Dm_offset_48, e_Dm_offset_49, e_Dm_offset_52, e_Dm_offset_53, e_Dm_offset_54, e_Dm_offset_55, e_Dm_offset_56, e_Dm_offset_58, e_Dm_offset_61, e_Dm_offset_62, e_Dm_offset_63, e_Dm_offset_66, e_Dm_offset_67, e_Dm_offset_68, e_Dm_offset_69, e_Dm_offset_71, e_Dm_offset_74, e_Dm_offset_75, e_Dm_offset_76, e_Dm_offset_79, e_Dm_offset_80, e_Dm_offset_81, e_Dm_offset_83, e_Dm_offset_85, e_Dm_offset_88, e_Dm_offset_89, e_Dm_offset_90, e_Dm_offset_93, e_Dm_offset_94, e_Dm_offset_95, e_Dm_offset_96, e_Dm_offset_98, e_Dm_offset_99, e_Dm_offset_102, e_Dm_offset_103, e_Dm_offset_104, e_Dm_offset_106, e_Dm_offset_107, e_Dm_offset_110, e_Dm_offset_112, bd_some, bd_none, Option.toList_some, Option.toList_none, List.nil_append, List.cons_append, px_kill_int, px_kill_long, px_kill_ref, px_kill_null, iI_lit, iJ_lit, iI_add, iI_sub, iI_mul, iI_neg, iJ_add, iJ_sub, iJ_mul, iJ_neg, iI_lt, iI_le, iI_eq, iJ_lt, iJ_le, iJ_eq, iI_div, iJ_div, tdiv_tmod, iI_J, iJ_I, iI_ix, iI_toInt, iJ_toInt, cmp_ge, cmp_lt, cmp_eq, cmp_gt, cmp_le, cmp_geI, cmp_ltI, cmp_eqI, cmp_gtI, cmp_leI, bI_0I, bI_1I, pin, if_true, g1, one0, if_false, e99, g2, g3, o6, o7, a1, a2, c5, p6, p7]
theorem scF_set (f : Nat → Int) (a b c d : Int) : setF (setF (setF (setF f 0 a) 1 b) 2 c) 3 d = scF f a b c d := by
  funext k
  unfold setF scF
  by_cases k0 : k = 0
  · subst k0; rfl
  · by_cases k1 : k = 1
    · subst k1; rfl
    · by_cases k2 : k = 2
      · subst k2; rfl
      · by_cases k3 : k = 3
        · subst k3; rfl
        · rw [if_neg k3, if_neg k2, if_neg k1, if_neg k0, if_neg k0, if_neg k1, if_neg k2, if_neg k3]
theorem g_side {x : Int} (hx : inI x) (g : px_G) : cl k_Dm_isSide [.int (iI x)] g = some (some (.int (bI (-12 ≤ x ∧ x ≤ 12))), g) := by
  obtain ⟨x1, x2⟩ := hx
  have e12 : (-12 : Int64) = iJ (-12) := by decide
  have ob : bI (-12 ≤ x ∧ x ≤ 12) = 0 ∨ bI (-12 ≤ x ∧ x ≤ 12) = 1 := by rw [bI_01]; trivial
  simp (disch := first | omega | assumption | decide | (simp (disch := omega) only [iI_lit, iJ_lit, iJ_eq, iI_eq, bI_01, bI_01I] <;> omega)) only [c_Dm_isSide, e_Dm_isSide_0, e_Dm_isSide_1, e_Dm_isSide_2, e_Dm_isSide_5, e_Dm_isSide_8, e_Dm_isSide_11, bd_some, bd_none, Option.toList_some, Option.toList_none, List.nil_append, List.cons_append, px_kill_int, px_kill_long, px_kill_ref, px_kill_null, iI_lit, iJ_lit, iI_add, iI_sub, iI_mul, iI_neg, iJ_add, iJ_sub, iJ_mul, iJ_neg, iI_lt, iI_le, iI_eq, iJ_lt, iJ_le, iJ_eq, iI_div, iJ_div, tdiv_tmod, iI_J, iJ_I, iI_ix, iI_toInt, iJ_toInt, cmp_ge, cmp_lt, cmp_eq, cmp_gt, cmp_le, cmp_geI, cmp_ltI, cmp_eqI, cmp_gtI, cmp_leI, bI_0I, bI_1I, pin, if_true, s_in, e12]
theorem g_cellBy {a b c d : Int} (h : isSide a b c d) (g : px_G) : cl k_Dm_cellBy [.int (iI a), .int (iI b), .int (iI c), .int (iI d)] g = some (some (.int (iI (cel a b c d))), g) := by
  obtain ⟨ca, cb, cc, cd⟩ := h
  have m1 := mul_bd (a := a) (b := d) (M := 12) (N := 12) ca cd
  have m2 := mul_bd (a := b) (b := c) (M := 12) (N := 12) cb cc
  have e := s_farJ (a := a * d - b * c) (by omega) g
  simp (disch := first | omega | assumption | decide | (simp (disch := omega) only [iI_lit, iJ_lit, iJ_eq, iI_eq, bI_01, bI_01I] <;> omega)) only [c_Dm_cellBy, e_Dm_cellBy_0, e_Dm_cellBy_1, e_Dm_cellBy_2, e_Dm_cellBy_3, e_Dm_cellBy_4, e_Dm_cellBy_5, e_Dm_cellBy_6, e_Dm_cellBy_7, e_Dm_cellBy_8, e_Dm_cellBy_11, e_Dm_cellBy_12, bd_some, bd_none, Option.toList_some, Option.toList_none, List.nil_append, List.cons_append, px_kill_int, px_kill_long, px_kill_ref, px_kill_null, iI_lit, iJ_lit, iI_add, iI_sub, iI_mul, iI_neg, iJ_add, iJ_sub, iJ_mul, iJ_neg, iI_lt, iI_le, iI_eq, iJ_lt, iJ_le, iJ_eq, iI_div, iJ_div, tdiv_tmod, iI_J, iJ_I, iI_ix, iI_toInt, iJ_toInt, cmp_ge, cmp_lt, cmp_eq, cmp_gt, cmp_le, cmp_geI, cmp_ltI, cmp_eqI, cmp_gtI, cmp_leI, bI_0I, bI_1I, pin, if_true, e]
  rfl
/-- a put that leaves the screen whole: the numbers between may be none of a screen -/
theorem fM.put4 {T : TS} {S : FS} (h : fM T S) {j : Nat} (_hj : j < S.1.1) (a b c d : Int) : fM (sI (sI (sI (sI T 56 (8 * j) (iI a)) 56 (8 * j + 1) (iI b)) 56 (8 * j + 2) (iI c)) 56 (8 * j + 3) (iI d)) (inS S j (scF (S.1.2 j) a b c d)) ∧ sepM T (sI (sI (sI (sI T 56 (8 * j) (iI a)) 56 (8 * j + 1) (iI b)) 56 (8 * j + 2) (iI c)) 56 (8 * j + 3) (iI d)) := by
  obtain ⟨⟨h1, h2⟩, ⟨h3, h4⟩, h5⟩ := h
  refine ⟨⟨⟨?_, fun i hi q hq => ?_⟩, ⟨?_, fun q hq => ?_⟩, fun q hq => ?_⟩, ((((sepM.rf T).wr _ (by omega)).wr _ (by omega)).wr _ (by omega)).wr _ (by omega)⟩
  · simp only [sI_get, sJ_get, sI_2, sJ_1, sJ_22, sR_1, sR_21, Nat.reduceEqDiff, and_true, true_and, and_false, false_and, and_self, if_true, if_false, reduceIte]; exact h1
  · have hi' : i < S.1.1 := hi
    show _ = iI ((if i = j then scF (S.1.2 j) a b c d else S.1.2 i) q)
    rw [sI_get, sI_get, sI_get, sI_get]
    by_cases e : i = j
    · rw [if_pos e]
      unfold scF
      by_cases q0 : q = 0
      · rw [if_neg (by omega), if_neg (by omega), if_neg (by omega), if_pos (by omega), if_pos q0]
      · by_cases q1 : q = 1
        · rw [if_neg (by omega), if_neg (by omega), if_pos (by omega), if_neg q0, if_pos q1]
        · by_cases q2 : q = 2
          · rw [if_neg (by omega), if_pos (by omega), if_neg q0, if_neg q1, if_pos q2]
          · by_cases q3 : q = 3
            · rw [if_pos (by omega), if_neg q0, if_neg q1, if_neg q2, if_pos q3]
            · rw [if_neg (by omega), if_neg (by omega), if_neg (by omega), if_neg (by omega), if_neg q0, if_neg q1, if_neg q2, if_neg q3, e]
              exact h2 j (by omega) q hq
    · rw [if_neg e, if_neg (by omega), if_neg (by omega), if_neg (by omega), if_neg (by omega)]
      exact h2 i hi' q hq
  · simp only [sI_get, sJ_get, sI_2, sJ_1, sJ_22, sR_1, sR_21, Nat.reduceEqDiff, and_true, true_and, and_false, false_and, and_self, if_true, if_false, reduceIte]; exact h3
  · simp only [sI_get, sJ_get, sI_2, sJ_1, sJ_22, sR_1, sR_21, Nat.reduceEqDiff, and_true, true_and, and_false, false_and, and_self, if_true, if_false, reduceIte]; exact h4 q hq
  · simp only [sI_get, sJ_get, sI_2, sJ_1, sJ_22, sR_1, sR_21, Nat.reduceEqDiff, and_true, true_and, and_false, false_and, and_self, if_true, if_false, reduceIte]; exact h5 q hq
set_option maxHeartbeats 2000000 in
theorem u_Dm_screen {T : TS} {S : FS} (hS : okF S) (h : fM T S) {i a b c d : Int} (hi : inI i) (ha : inI a) (hb : inI b) (hc : inI c) (hd : inI d) : ∃ T', cl k_Dm_screen [.ref 53, .int (iI i), .int (iI a), .int (iI b), .int (iI c), .int (iI d)] (enc T) = some (some (.int (iI (rScr S i a b c d).2)), enc T') ∧ fM T' (rScr S i a b c d).1 ∧ sepM T T' := by
  obtain ⟨h0, s0⟩ := t0_fM h
  have g1 := g_inM hS.1 h0.1 hi
  have ga := g_side ha (enc (t0 T))
  have gb := g_side hb (enc (t0 T))
  have gc := g_side hc (enc (t0 T))
  have gd := g_side hd (enc (t0 T))
  obtain ⟨i1, i2⟩ := id hi
  unfold rScr
  by_cases c1 : isK S.1 i
  case neg =>
    rw [bI_fI c1] at g1
    obtain ⟨T', e, hF, hs⟩ := m_ref0 h0
    rw [if_neg c1]
    refine ⟨T', ?_, hF, s0.tr hs⟩
    simp (disch := first | omega | assumption | decide | (simp (disch := omega) only [iI_lit, iJ_lit, iJ_eq, iI_eq, bI_01, bI_01I] <;> omega)) only [c_Dm_screen, e_Dm_screen_0, e_Dm_screen_1, e_Dm_screen_2, e_Dm_screen_5, e_Dm_screen_6, e_Dm_screen_7, e_Dm_screen_10, e_Dm_screen_13, e_Dm_screen_14, e_Dm_screen_15, e_Dm_screen_18, e_Dm_screen_19, e_Dm_screen_20, e_Dm_screen_23, e_Dm_screen_26, e_Dm_screen_27, e_Dm_screen_30, e_Dm_screen_33, e_Dm_screen_35, e_Dm_screen_38, e_Dm_screen_41, e_Dm_screen_43, e_Dm_screen_46, e_Dm_screen_49, e_Dm_screen_50, e_Dm_screen_51, e_Dm_screen_53, e_Dm_screen_55, e_Dm_screen_58, e_Dm_screen_59, e_Dm_screen_60, e_Dm_screen_63, e_Dm_screen_66, e_Dm_screen_69, e_Dm_screen_70, e_Dm_screen_71, e_Dm_screen_74, e_Dm_screen_75, e_Dm_screen_76, e_Dm_screen_77, e_Dm_screen_78, e_Dm_screen_81, e_Dm_screen_82, e_Dm_screen_85, e_Dm_screen_86, e_Dm_screen_87, e_Dm_screen_88, e_Dm_screen_91, e_Dm_screen_92, e_Dm_screen_95, e_Dm_screen_96, e_Dm_screen_97, e_Dm_screen_98, e_Dm_screen_101, e_Dm_screen_103, e_Dm_screen_106, e_Dm_screen_107, e_Dm_screen_108, e_Dm_screen_109, e_Dm_screen_112, e_Dm_screen_114, e_Dm_screen_117, e_Dm_screen_118, e_Dm_screen_119, e_Dm_screen_122, e_Dm_screen_123, e_Dm_screen_124, e_Dm_screen_125, e_Dm_screen_128, e_Dm_screen_130, e_Dm_screen_131, e_Dm_screen_132, e_Dm_screen_133, e_Dm_screen_134, e_Dm_screen_137, e_Dm_screen_138, e_Dm_screen_139, e_Dm_screen_140, e_Dm_screen_141, e_Dm_screen_144, e_Dm_screen_145, e_Dm_screen_146, e_Dm_screen_147, e_Dm_screen_149, e_Dm_screen_152, e_Dm_screen_153, e_Dm_screen_154, e_Dm_screen_155, e_Dm_screen_157, e_Dm_screen_160, e_Dm_screen_162, bd_some, bd_none, Option.toList_some, Option.toList_none, List.nil_append, List.cons_append, px_kill_int, px_kill_long, px_kill_ref, px_kill_null, iI_lit, iJ_lit, iI_add, iI_sub, iI_mul, iI_neg, iJ_add, iJ_sub, iJ_mul, iJ_neg, iI_lt, iI_le, iI_eq, iJ_lt, iJ_le, iJ_eq, iI_div, iJ_div, tdiv_tmod, iI_J, iJ_I, iI_ix, iI_toInt, iJ_toInt, cmp_ge, cmp_lt, cmp_eq, cmp_gt, cmp_le, cmp_geI, cmp_ltI, cmp_eqI, cmp_gtI, cmp_leI, bI_0I, bI_1I, pin, if_true, g1, e]
  rw [bI_tI c1] at g1
  rw [if_pos c1]
  obtain ⟨T1, er, hF1, hs1⟩ := m_ref1 h0
  have hs1 := s0.tr hs1
  by_cases ca : -12 ≤ a ∧ a ≤ 12
  case neg =>
    rw [bI_fI ca] at ga
    rw [if_neg (fun z => ca z.1.1)]
    refine ⟨T1, ?_, hF1, hs1⟩
    simp (disch := first | omega | assumption | decide | (simp (disch := omega) only [iI_lit, iJ_lit, iJ_eq, iI_eq, bI_01, bI_01I] <;> omega)) only [c_Dm_screen, e_Dm_screen_0, e_Dm_screen_1, e_Dm_screen_2, e_Dm_screen_5, e_Dm_screen_6, e_Dm_screen_7, e_Dm_screen_10, e_Dm_screen_13, e_Dm_screen_14, e_Dm_screen_15, e_Dm_screen_18, e_Dm_screen_19, e_Dm_screen_20, e_Dm_screen_23, e_Dm_screen_26, e_Dm_screen_27, e_Dm_screen_30, e_Dm_screen_33, e_Dm_screen_35, e_Dm_screen_38, e_Dm_screen_41, e_Dm_screen_43, e_Dm_screen_46, e_Dm_screen_49, e_Dm_screen_50, e_Dm_screen_51, e_Dm_screen_53, e_Dm_screen_55, e_Dm_screen_58, e_Dm_screen_59, e_Dm_screen_60, e_Dm_screen_63, e_Dm_screen_66, e_Dm_screen_69, e_Dm_screen_70, e_Dm_screen_71, e_Dm_screen_74, e_Dm_screen_75, e_Dm_screen_76, e_Dm_screen_77, e_Dm_screen_78, e_Dm_screen_81, e_Dm_screen_82, e_Dm_screen_85, e_Dm_screen_86, e_Dm_screen_87, e_Dm_screen_88, e_Dm_screen_91, e_Dm_screen_92, e_Dm_screen_95, e_Dm_screen_96, e_Dm_screen_97, e_Dm_screen_98, e_Dm_screen_101, e_Dm_screen_103, e_Dm_screen_106, e_Dm_screen_107, e_Dm_screen_108, e_Dm_screen_109, e_Dm_screen_112, e_Dm_screen_114, e_Dm_screen_117, e_Dm_screen_118, e_Dm_screen_119, e_Dm_screen_122, e_Dm_screen_123, e_Dm_screen_124, e_Dm_screen_125, e_Dm_screen_128, e_Dm_screen_130, e_Dm_screen_131, e_Dm_screen_132, e_Dm_screen_133, e_Dm_screen_134, e_Dm_screen_137, e_Dm_screen_138, e_Dm_screen_139, e_Dm_screen_140, e_Dm_screen_141, e_Dm_screen_144, e_Dm_screen_145, e_Dm_screen_146, e_Dm_screen_147, e_Dm_screen_149, e_Dm_screen_152, e_Dm_screen_153, e_Dm_screen_154, e_Dm_screen_155, e_Dm_screen_157, e_Dm_screen_160, e_Dm_screen_162, bd_some, bd_none, Option.toList_some, Option.toList_none, List.nil_append, List.cons_append, px_kill_int, px_kill_long, px_kill_ref, px_kill_null, iI_lit, iJ_lit, iI_add, iI_sub, iI_mul, iI_neg, iJ_add, iJ_sub, iJ_mul, iJ_neg, iI_lt, iI_le, iI_eq, iJ_lt, iJ_le, iJ_eq, iI_div, iJ_div, tdiv_tmod, iI_J, iJ_I, iI_ix, iI_toInt, iJ_toInt, cmp_ge, cmp_lt, cmp_eq, cmp_gt, cmp_le, cmp_geI, cmp_ltI, cmp_eqI, cmp_gtI, cmp_leI, bI_0I, bI_1I, pin, if_true, g1, one0, if_false, ga, er]
  rw [bI_tI ca] at ga
  by_cases cb : -12 ≤ b ∧ b ≤ 12
  case neg =>
    rw [bI_fI cb] at gb
    rw [if_neg (fun z => cb z.1.2.1)]
    refine ⟨T1, ?_, hF1, hs1⟩
    simp (disch := first | omega | assumption | decide | (simp (disch := omega) only [iI_lit, iJ_lit, iJ_eq, iI_eq, bI_01, bI_01I] <;> omega)) only [c_Dm_screen, e_Dm_screen_0, e_Dm_screen_1, e_Dm_screen_2, e_Dm_screen_5, e_Dm_screen_6, e_Dm_screen_7, e_Dm_screen_10, e_Dm_screen_13, e_Dm_screen_14, e_Dm_screen_15, e_Dm_screen_18, e_Dm_screen_19, e_Dm_screen_20, e_Dm_screen_23, e_Dm_screen_26, e_Dm_screen_27, e_Dm_screen_30, e_Dm_screen_33, e_Dm_screen_35, e_Dm_screen_38, e_Dm_screen_41, e_Dm_screen_43, e_Dm_screen_46, e_Dm_screen_49, e_Dm_screen_50, e_Dm_screen_51, e_Dm_screen_53, e_Dm_screen_55, e_Dm_screen_58, e_Dm_screen_59, e_Dm_screen_60, e_Dm_screen_63, e_Dm_screen_66, e_Dm_screen_69, e_Dm_screen_70, e_Dm_screen_71, e_Dm_screen_74, e_Dm_screen_75, e_Dm_screen_76, e_Dm_screen_77, e_Dm_screen_78, e_Dm_screen_81, e_Dm_screen_82, e_Dm_screen_85, e_Dm_screen_86, e_Dm_screen_87, e_Dm_screen_88, e_Dm_screen_91, e_Dm_screen_92, e_Dm_screen_95, e_Dm_screen_96, e_Dm_screen_97, e_Dm_screen_98, e_Dm_screen_101, e_Dm_screen_103, e_Dm_screen_106, e_Dm_screen_107, e_Dm_screen_108, e_Dm_screen_109, e_Dm_screen_112, e_Dm_screen_114, e_Dm_screen_117, e_Dm_screen_118, e_Dm_screen_119, e_Dm_screen_122, e_Dm_screen_123, e_Dm_screen_124, e_Dm_screen_125, e_Dm_screen_128, e_Dm_screen_130, e_Dm_screen_131, e_Dm_screen_132, e_Dm_screen_133, e_Dm_screen_134, e_Dm_screen_137, e_Dm_screen_138, e_Dm_screen_139, e_Dm_screen_140, e_Dm_screen_141, e_Dm_screen_144, e_Dm_screen_145, e_Dm_screen_146, e_Dm_screen_147, e_Dm_screen_149, e_Dm_screen_152, e_Dm_screen_153, e_Dm_screen_154, e_Dm_screen_155, e_Dm_screen_157, e_Dm_screen_160, e_Dm_screen_162, bd_some, bd_none, Option.toList_some, Option.toList_none, List.nil_append, List.cons_append, px_kill_int, px_kill_long, px_kill_ref, px_kill_null, iI_lit, iJ_lit, iI_add, iI_sub, iI_mul, iI_neg, iJ_add, iJ_sub, iJ_mul, iJ_neg, iI_lt, iI_le, iI_eq, iJ_lt, iJ_le, iJ_eq, iI_div, iJ_div, tdiv_tmod, iI_J, iJ_I, iI_ix, iI_toInt, iJ_toInt, cmp_ge, cmp_lt, cmp_eq, cmp_gt, cmp_le, cmp_geI, cmp_ltI, cmp_eqI, cmp_gtI, cmp_leI, bI_0I, bI_1I, pin, if_true, g1, one0, if_false, ga, gb, er]
  rw [bI_tI cb] at gb
  by_cases cc : -12 ≤ c ∧ c ≤ 12
  case neg =>
    rw [bI_fI cc] at gc
    rw [if_neg (fun z => cc z.1.2.2.1)]
    refine ⟨T1, ?_, hF1, hs1⟩
    simp (disch := first | omega | assumption | decide | (simp (disch := omega) only [iI_lit, iJ_lit, iJ_eq, iI_eq, bI_01, bI_01I] <;> omega)) only [c_Dm_screen, e_Dm_screen_0, e_Dm_screen_1, e_Dm_screen_2, e_Dm_screen_5, e_Dm_screen_6, e_Dm_screen_7, e_Dm_screen_10, e_Dm_screen_13, e_Dm_screen_14, e_Dm_screen_15, e_Dm_screen_18, e_Dm_screen_19, e_Dm_screen_20, e_Dm_screen_23, e_Dm_screen_26, e_Dm_screen_27, e_Dm_screen_30, e_Dm_screen_33, e_Dm_screen_35, e_Dm_screen_38, e_Dm_screen_41, e_Dm_screen_43, e_Dm_screen_46, e_Dm_screen_49, e_Dm_screen_50, e_Dm_screen_51, e_Dm_screen_53, e_Dm_screen_55, e_Dm_screen_58, e_Dm_screen_59, e_Dm_screen_60, e_Dm_screen_63, e_Dm_screen_66, e_Dm_screen_69, e_Dm_screen_70, e_Dm_screen_71, e_Dm_screen_74, e_Dm_screen_75, e_Dm_screen_76, e_Dm_screen_77, e_Dm_screen_78, e_Dm_screen_81, e_Dm_screen_82, e_Dm_screen_85, e_Dm_screen_86, e_Dm_screen_87, e_Dm_screen_88, e_Dm_screen_91, e_Dm_screen_92, e_Dm_screen_95, e_Dm_screen_96, e_Dm_screen_97, e_Dm_screen_98, e_Dm_screen_101, e_Dm_screen_103, e_Dm_screen_106, e_Dm_screen_107, e_Dm_screen_108, e_Dm_screen_109, e_Dm_screen_112, e_Dm_screen_114, e_Dm_screen_117, e_Dm_screen_118, e_Dm_screen_119, e_Dm_screen_122, e_Dm_screen_123, e_Dm_screen_124, e_Dm_screen_125, e_Dm_screen_128, e_Dm_screen_130, e_Dm_screen_131, e_Dm_screen_132, e_Dm_screen_133, e_Dm_screen_134, e_Dm_screen_137, e_Dm_screen_138, e_Dm_screen_139, e_Dm_screen_140, e_Dm_screen_141, e_Dm_screen_144, e_Dm_screen_145, e_Dm_screen_146, e_Dm_screen_147, e_Dm_screen_149, e_Dm_screen_152, e_Dm_screen_153, e_Dm_screen_154, e_Dm_screen_155, e_Dm_screen_157, e_Dm_screen_160, e_Dm_screen_162, bd_some, bd_none, Option.toList_some, Option.toList_none, List.nil_append, List.cons_append, px_kill_int, px_kill_long, px_kill_ref, px_kill_null, iI_lit, iJ_lit, iI_add, iI_sub, iI_mul, iI_neg, iJ_add, iJ_sub, iJ_mul, iJ_neg, iI_lt, iI_le, iI_eq, iJ_lt, iJ_le, iJ_eq, iI_div, iJ_div, tdiv_tmod, iI_J, iJ_I, iI_ix, iI_toInt, iJ_toInt, cmp_ge, cmp_lt, cmp_eq, cmp_gt, cmp_le, cmp_geI, cmp_ltI, cmp_eqI, cmp_gtI, cmp_leI, bI_0I, bI_1I, pin, if_true, g1, one0, if_false, ga, gb, gc, er]
  rw [bI_tI cc] at gc
  by_cases cd : -12 ≤ d ∧ d ≤ 12
  case neg =>
    rw [bI_fI cd] at gd
    rw [if_neg (fun z => cd z.1.2.2.2)]
    refine ⟨T1, ?_, hF1, hs1⟩
    simp (disch := first | omega | assumption | decide | (simp (disch := omega) only [iI_lit, iJ_lit, iJ_eq, iI_eq, bI_01, bI_01I] <;> omega)) only [c_Dm_screen, e_Dm_screen_0, e_Dm_screen_1, e_Dm_screen_2, e_Dm_screen_5, e_Dm_screen_6, e_Dm_screen_7, e_Dm_screen_10, e_Dm_screen_13, e_Dm_screen_14, e_Dm_screen_15, e_Dm_screen_18, e_Dm_screen_19, e_Dm_screen_20, e_Dm_screen_23, e_Dm_screen_26, e_Dm_screen_27, e_Dm_screen_30, e_Dm_screen_33, e_Dm_screen_35, e_Dm_screen_38, e_Dm_screen_41, e_Dm_screen_43, e_Dm_screen_46, e_Dm_screen_49, e_Dm_screen_50, e_Dm_screen_51, e_Dm_screen_53, e_Dm_screen_55, e_Dm_screen_58, e_Dm_screen_59, e_Dm_screen_60, e_Dm_screen_63, e_Dm_screen_66, e_Dm_screen_69, e_Dm_screen_70, e_Dm_screen_71, e_Dm_screen_74, e_Dm_screen_75, e_Dm_screen_76, e_Dm_screen_77, e_Dm_screen_78, e_Dm_screen_81, e_Dm_screen_82, e_Dm_screen_85, e_Dm_screen_86, e_Dm_screen_87, e_Dm_screen_88, e_Dm_screen_91, e_Dm_screen_92, e_Dm_screen_95, e_Dm_screen_96, e_Dm_screen_97, e_Dm_screen_98, e_Dm_screen_101, e_Dm_screen_103, e_Dm_screen_106, e_Dm_screen_107, e_Dm_screen_108, e_Dm_screen_109, e_Dm_screen_112, e_Dm_screen_114, e_Dm_screen_117, e_Dm_screen_118, e_Dm_screen_119, e_Dm_screen_122, e_Dm_screen_123, e_Dm_screen_124, e_Dm_screen_125, e_Dm_screen_128, e_Dm_screen_130, e_Dm_screen_131, e_Dm_screen_132, e_Dm_screen_133, e_Dm_screen_134, e_Dm_screen_137, e_Dm_screen_138, e_Dm_screen_139, e_Dm_screen_140, e_Dm_screen_141, e_Dm_screen_144, e_Dm_screen_145, e_Dm_screen_146, e_Dm_screen_147, e_Dm_screen_149, e_Dm_screen_152, e_Dm_screen_153, e_Dm_screen_154, e_Dm_screen_155, e_Dm_screen_157, e_Dm_screen_160, e_Dm_screen_162, bd_some, bd_none, Option.toList_some, Option.toList_none, List.nil_append, List.cons_append, px_kill_int, px_kill_long, px_kill_ref, px_kill_null, iI_lit, iJ_lit, iI_add, iI_sub, iI_mul, iI_neg, iJ_add, iJ_sub, iJ_mul, iJ_neg, iI_lt, iI_le, iI_eq, iJ_lt, iJ_le, iJ_eq, iI_div, iJ_div, tdiv_tmod, iI_J, iJ_I, iI_ix, iI_toInt, iJ_toInt, cmp_ge, cmp_lt, cmp_eq, cmp_gt, cmp_le, cmp_geI, cmp_ltI, cmp_eqI, cmp_gtI, cmp_leI, bI_0I, bI_1I, pin, if_true, g1, one0, if_false, ga, gb, gc, gd, er]
  rw [bI_tI cd] at gd
  have m1 := mul_bd (a := a) (b := d) (M := 12) (N := 12) ca cd
  have m2 := mul_bd (a := b) (b := c) (M := 12) (N := 12) cb cc
  have gw := g_cellBy (a := a) (b := b) (c := c) (d := d) ⟨ca, cb, cc, cd⟩ (enc (t0 T))
  have bz : 0 ≤ cel a b c d ∧ cel a b c d ≤ 288 := by unfold cel; omega
  have gz := s_in (x := cel a b c d) (l := 1) (h := 144) (enc (t0 T)) (by omega) (by omega) (by omega)
  rw [bI_iff (q := isScr a b c d) (by unfold cel isScr; omega)] at gz
  by_cases cz : isScr a b c d
  case neg =>
    rw [bI_fI cz] at gz
    rw [if_neg (fun z => cz z.2)]
    refine ⟨T1, ?_, hF1, hs1⟩
    simp (disch := first | omega | assumption | decide | (simp (disch := omega) only [iI_lit, iJ_lit, iJ_eq, iI_eq, bI_01, bI_01I] <;> omega)) only [c_Dm_screen, e_Dm_screen_0, e_Dm_screen_1, e_Dm_screen_2, e_Dm_screen_5, e_Dm_screen_6, e_Dm_screen_7, e_Dm_screen_10, e_Dm_screen_13, e_Dm_screen_14, e_Dm_screen_15, e_Dm_screen_18, e_Dm_screen_19, e_Dm_screen_20, e_Dm_screen_23, e_Dm_screen_26, e_Dm_screen_27, e_Dm_screen_30, e_Dm_screen_33, e_Dm_screen_35, e_Dm_screen_38, e_Dm_screen_41, e_Dm_screen_43, e_Dm_screen_46, e_Dm_screen_49, e_Dm_screen_50, e_Dm_screen_51, e_Dm_screen_53, e_Dm_screen_55, e_Dm_screen_58, e_Dm_screen_59, e_Dm_screen_60, e_Dm_screen_63, e_Dm_screen_66, e_Dm_screen_69, e_Dm_screen_70, e_Dm_screen_71, e_Dm_screen_74, e_Dm_screen_75, e_Dm_screen_76, e_Dm_screen_77, e_Dm_screen_78, e_Dm_screen_81, e_Dm_screen_82, e_Dm_screen_85, e_Dm_screen_86, e_Dm_screen_87, e_Dm_screen_88, e_Dm_screen_91, e_Dm_screen_92, e_Dm_screen_95, e_Dm_screen_96, e_Dm_screen_97, e_Dm_screen_98, e_Dm_screen_101, e_Dm_screen_103, e_Dm_screen_106, e_Dm_screen_107, e_Dm_screen_108, e_Dm_screen_109, e_Dm_screen_112, e_Dm_screen_114, e_Dm_screen_117, e_Dm_screen_118, e_Dm_screen_119, e_Dm_screen_122, e_Dm_screen_123, e_Dm_screen_124, e_Dm_screen_125, e_Dm_screen_128, e_Dm_screen_130, e_Dm_screen_131, e_Dm_screen_132, e_Dm_screen_133, e_Dm_screen_134, e_Dm_screen_137, e_Dm_screen_138, e_Dm_screen_139, e_Dm_screen_140, e_Dm_screen_141, e_Dm_screen_144, e_Dm_screen_145, e_Dm_screen_146, e_Dm_screen_147, e_Dm_screen_149, e_Dm_screen_152, e_Dm_screen_153, e_Dm_screen_154, e_Dm_screen_155, e_Dm_screen_157, e_Dm_screen_160, e_Dm_screen_162, bd_some, bd_none, Option.toList_some, Option.toList_none, List.nil_append, List.cons_append, px_kill_int, px_kill_long, px_kill_ref, px_kill_null, iI_lit, iJ_lit, iI_add, iI_sub, iI_mul, iI_neg, iJ_add, iJ_sub, iJ_mul, iJ_neg, iI_lt, iI_le, iI_eq, iJ_lt, iJ_le, iJ_eq, iI_div, iJ_div, tdiv_tmod, iI_J, iJ_I, iI_ix, iI_toInt, iJ_toInt, cmp_ge, cmp_lt, cmp_eq, cmp_gt, cmp_le, cmp_geI, cmp_ltI, cmp_eqI, cmp_gtI, cmp_leI, bI_0I, bI_1I, pin, if_true, g1, one0, if_false, ga, gb, gc, gd, gw, gz, er]
  rw [bI_tI cz] at gz
  have cAll : isSide a b c d ∧ isScr a b c d := ⟨⟨ca, cb, cc, cd⟩, cz⟩
  rw [if_pos cAll]
  obtain ⟨j, rfl⟩ : ∃ j : Nat, i = (j : Int) := ⟨i.toNat, by omega⟩
  have hj : j < S.1.1 := by have := c1.2; omega
  have ej : ((j : Int)).toNat = j := by omega
  have h4 := hS.1.1
  have hk := hS.1.2 j hj
  have k0 := hk.1.1
  have k1 := hk.1.2.1
  have k2 := hk.1.2.2.1
  have k3 := hk.1.2.2.2.1
  obtain ⟨o0, o1, o2, o3⟩ := h0.1.of4 hS.1 hj
  rw [ej]
  by_cases c5 : isSo (S.1.2 j) a b c d
  · rw [if_pos c5]
    obtain ⟨z0, z1, z2, z3⟩ := c5
    obtain ⟨T', e, hF, hsp⟩ := m_ref2 h0
    refine ⟨T', ?_, hF, s0.tr hsp⟩
    simp (disch := first | omega | assumption | decide | (simp (disch := omega) only [iI_lit, iJ_lit, iJ_eq, iI_eq, bI_01, bI_01I] <;> omega)) only [c_Dm_screen, e_Dm_screen_0, e_Dm_screen_1, e_Dm_screen_2, e_Dm_screen_5, e_Dm_screen_6, e_Dm_screen_7, e_Dm_screen_10, e_Dm_screen_13, e_Dm_screen_14, e_Dm_screen_15, e_Dm_screen_18, e_Dm_screen_19, e_Dm_screen_20, e_Dm_screen_23, e_Dm_screen_26, e_Dm_screen_27, e_Dm_screen_30, e_Dm_screen_33, e_Dm_screen_35, e_Dm_screen_38, e_Dm_screen_41, e_Dm_screen_43, e_Dm_screen_46, e_Dm_screen_49, e_Dm_screen_50, e_Dm_screen_51, e_Dm_screen_53, e_Dm_screen_55, e_Dm_screen_58, e_Dm_screen_59, e_Dm_screen_60, e_Dm_screen_63, e_Dm_screen_66, e_Dm_screen_69, e_Dm_screen_70, e_Dm_screen_71, e_Dm_screen_74, e_Dm_screen_75, e_Dm_screen_76, e_Dm_screen_77, e_Dm_screen_78, e_Dm_screen_81, e_Dm_screen_82, e_Dm_screen_85, e_Dm_screen_86, e_Dm_screen_87, e_Dm_screen_88, e_Dm_screen_91, e_Dm_screen_92, e_Dm_screen_95, e_Dm_screen_96, e_Dm_screen_97, e_Dm_screen_98, e_Dm_screen_101, e_Dm_screen_103, e_Dm_screen_106, e_Dm_screen_107, e_Dm_screen_108, e_Dm_screen_109, e_Dm_screen_112, e_Dm_screen_114, e_Dm_screen_117, e_Dm_screen_118, e_Dm_screen_119, e_Dm_screen_122, e_Dm_screen_123, e_Dm_screen_124, e_Dm_screen_125, e_Dm_screen_128, e_Dm_screen_130, e_Dm_screen_131, e_Dm_screen_132, e_Dm_screen_133, e_Dm_screen_134, e_Dm_screen_137, e_Dm_screen_138, e_Dm_screen_139, e_Dm_screen_140, e_Dm_screen_141, e_Dm_screen_144, e_Dm_screen_145, e_Dm_screen_146, e_Dm_screen_147, e_Dm_screen_149, e_Dm_screen_152, e_Dm_screen_153, e_Dm_screen_154, e_Dm_screen_155, e_Dm_screen_157, e_Dm_screen_160, e_Dm_screen_162, bd_some, bd_none, Option.toList_some, Option.toList_none, List.nil_append, List.cons_append, px_kill_int, px_kill_long, px_kill_ref, px_kill_null, iI_lit, iJ_lit, iI_add, iI_sub, iI_mul, iI_neg, iJ_add, iJ_sub, iJ_mul, iJ_neg, iI_lt, iI_le, iI_eq, iJ_lt, iJ_le, iJ_eq, iI_div, iJ_div, tdiv_tmod, iI_J, iJ_I, iI_ix, iI_toInt, iJ_toInt, cmp_ge, cmp_lt, cmp_eq, cmp_gt, cmp_le, cmp_geI, cmp_ltI, cmp_eqI, cmp_gtI, cmp_leI, bI_0I, bI_1I, pin, if_true, g1, one0, if_false, ga, gb, gc, gd, gw, gz, o0, o1, o2, o3, z0, z1, z2, z3, e]
  · rw [if_neg c5]
    have mc := m_cell hS.1 h0.1 hj
    have p0 : cl k_Dm_put [.ref 53, .int (iI (j : Int)), .int (iI 0), .int (iI a)] (enc (t0 T)) = some (none, enc (sI (t0 T) 56 (8 * j) (iI a))) := s_put (T := t0 T) (i := j) (k := 0) (by omega) (by omega) (iI a)
    have p1 : cl k_Dm_put [.ref 53, .int (iI (j : Int)), .int (iI 1), .int (iI b)] (enc (sI (t0 T) 56 (8 * j) (iI a))) = some (none, enc (sI (sI (t0 T) 56 (8 * j) (iI a)) 56 (8 * j + 1) (iI b))) := s_put (i := j) (k := 1) (by omega) (by omega) (iI b)
    have p2 : cl k_Dm_put [.ref 53, .int (iI (j : Int)), .int (iI 2), .int (iI c)] (enc (sI (sI (t0 T) 56 (8 * j) (iI a)) 56 (8 * j + 1) (iI b))) = some (none, enc (sI (sI (sI (t0 T) 56 (8 * j) (iI a)) 56 (8 * j + 1) (iI b)) 56 (8 * j + 2) (iI c))) := s_put (i := j) (k := 2) (by omega) (by omega) (iI c)
    have p3 : cl k_Dm_put [.ref 53, .int (iI (j : Int)), .int (iI 3), .int (iI d)] (enc (sI (sI (sI (t0 T) 56 (8 * j) (iI a)) 56 (8 * j + 1) (iI b)) 56 (8 * j + 2) (iI c))) = some (none, enc (sI (sI (sI (sI (t0 T) 56 (8 * j) (iI a)) 56 (8 * j + 1) (iI b)) 56 (8 * j + 2) (iI c)) 56 (8 * j + 3) (iI d))) := s_put (i := j) (k := 3) (by omega) (by omega) (iI d)
    obtain ⟨hF, hsp⟩ := h0.put4 hj a b c d
    refine ⟨_, ?_, hF, s0.tr hsp⟩
    by_cases z0 : S.1.2 j 0 = a
    · by_cases z1 : S.1.2 j 1 = b
      · by_cases z2 : S.1.2 j 2 = c
        · have z3 : ¬ S.1.2 j 3 = d := fun z => c5 ⟨z0, z1, z2, z⟩
          simp (disch := first | omega | assumption | decide | (simp (disch := omega) only [iI_lit, iJ_lit, iJ_eq, iI_eq, bI_01, bI_01I] <;> omega)) only [c_Dm_screen, e_Dm_screen_0, e_Dm_screen_1, e_Dm_screen_2, e_Dm_screen_5, e_Dm_screen_6, e_Dm_screen_7, e_Dm_screen_10, e_Dm_screen_13, e_Dm_screen_14, e_Dm_screen_15, e_Dm_screen_18, e_Dm_screen_19, e_Dm_screen_20, e_Dm_screen_23, e_Dm_screen_26, e_Dm_screen_27, e_Dm_screen_30, e_Dm_screen_33, e_Dm_screen_35, e_Dm_screen_38, e_Dm_screen_41, e_Dm_screen_43, e_Dm_screen_46, e_Dm_screen_49, e_Dm_screen_50, e_Dm_screen_51, e_Dm_screen_53, e_Dm_screen_55, e_Dm_screen_58, e_Dm_screen_59, e_Dm_screen_60, e_Dm_screen_63, e_Dm_screen_66, e_Dm_screen_69, e_Dm_screen_70, e_Dm_screen_71, e_Dm_screen_74, e_Dm_screen_75, e_Dm_screen_76, e_Dm_screen_77, e_Dm_screen_78, e_Dm_screen_81, e_Dm_screen_82, e_Dm_screen_85, e_Dm_screen_86, e_Dm_screen_87, e_Dm_screen_88, e_Dm_screen_91, e_Dm_screen_92, e_Dm_screen_95, e_Dm_screen_96, e_Dm_screen_97, e_Dm_screen_98, e_Dm_screen_101, e_Dm_screen_103, e_Dm_screen_106, e_Dm_screen_107, e_Dm_screen_108, e_Dm_screen_109, e_Dm_screen_112, e_Dm_screen_114, e_Dm_screen_117, e_Dm_screen_118, e_Dm_screen_119, e_Dm_screen_122, e_Dm_screen_123, e_Dm_screen_124, e_Dm_screen_125, e_Dm_screen_128, e_Dm_screen_130, e_Dm_screen_131, e_Dm_screen_132, e_Dm_screen_133, e_Dm_screen_134, e_Dm_screen_137, e_Dm_screen_138, e_Dm_screen_139, e_Dm_screen_140, e_Dm_screen_141, e_Dm_screen_144, e_Dm_screen_145, e_Dm_screen_146, e_Dm_screen_147, e_Dm_screen_149, e_Dm_screen_152, e_Dm_screen_153, e_Dm_screen_154, e_Dm_screen_155, e_Dm_screen_157, e_Dm_screen_160, e_Dm_screen_162, bd_some, bd_none, Option.toList_some, Option.toList_none, List.nil_append, List.cons_append, px_kill_int, px_kill_long, px_kill_ref, px_kill_null, iI_lit, iJ_lit, iI_add, iI_sub, iI_mul, iI_neg, iJ_add, iJ_sub, iJ_mul, iJ_neg, iI_lt, iI_le, iI_eq, iJ_lt, iJ_le, iJ_eq, iI_div, iJ_div, tdiv_tmod, iI_J, iJ_I, iI_ix, iI_toInt, iJ_toInt, cmp_ge, cmp_lt, cmp_eq, cmp_gt, cmp_le, cmp_geI, cmp_ltI, cmp_eqI, cmp_gtI, cmp_leI, bI_0I, bI_1I, pin, if_true, g1, one0, if_false, ga, gb, gc, gd, gw, gz, o0, o1, o2, o3, z0, z1, z2, z3, mc, p0, p1, p2, p3]
        · simp (disch := first | omega | assumption | decide | (simp (disch := omega) only [iI_lit, iJ_lit, iJ_eq, iI_eq, bI_01, bI_01I] <;> omega)) only [c_Dm_screen, e_Dm_screen_0, e_Dm_screen_1, e_Dm_screen_2, e_Dm_screen_5, e_Dm_screen_6, e_Dm_screen_7, e_Dm_screen_10, e_Dm_screen_13, e_Dm_screen_14, e_Dm_screen_15, e_Dm_screen_18, e_Dm_screen_19, e_Dm_screen_20, e_Dm_screen_23, e_Dm_screen_26, e_Dm_screen_27, e_Dm_screen_30, e_Dm_screen_33, e_Dm_screen_35, e_Dm_screen_38, e_Dm_screen_41, e_Dm_screen_43, e_Dm_screen_46, e_Dm_screen_49, e_Dm_screen_50, e_Dm_screen_51, e_Dm_screen_53, e_Dm_screen_55, e_Dm_screen_58, e_Dm_screen_59, e_Dm_screen_60, e_Dm_screen_63, e_Dm_screen_66, e_Dm_screen_69, e_Dm_screen_70, e_Dm_screen_71, e_Dm_screen_74, e_Dm_screen_75, e_Dm_screen_76, e_Dm_screen_77, e_Dm_screen_78, e_Dm_screen_81, e_Dm_screen_82, e_Dm_screen_85, e_Dm_screen_86, e_Dm_screen_87, e_Dm_screen_88, e_Dm_screen_91, e_Dm_screen_92, e_Dm_screen_95, e_Dm_screen_96, e_Dm_screen_97, e_Dm_screen_98, e_Dm_screen_101, e_Dm_screen_103, e_Dm_screen_106, e_Dm_screen_107, e_Dm_screen_108, e_Dm_screen_109, e_Dm_screen_112, e_Dm_screen_114, e_Dm_screen_117, e_Dm_screen_118, e_Dm_screen_119, e_Dm_screen_122, e_Dm_screen_123, e_Dm_screen_124, e_Dm_screen_125, e_Dm_screen_128, e_Dm_screen_130, e_Dm_screen_131, e_Dm_screen_132, e_Dm_screen_133, e_Dm_screen_134, e_Dm_screen_137, e_Dm_screen_138, e_Dm_screen_139, e_Dm_screen_140, e_Dm_screen_141, e_Dm_screen_144, e_Dm_screen_145, e_Dm_screen_146, e_Dm_screen_147, e_Dm_screen_149, e_Dm_screen_152, e_Dm_screen_153, e_Dm_screen_154, e_Dm_screen_155, e_Dm_screen_157, e_Dm_screen_160, e_Dm_screen_162, bd_some, bd_none, Option.toList_some, Option.toList_none, List.nil_append, List.cons_append, px_kill_int, px_kill_long, px_kill_ref, px_kill_null, iI_lit, iJ_lit, iI_add, iI_sub, iI_mul, iI_neg, iJ_add, iJ_sub, iJ_mul, iJ_neg, iI_lt, iI_le, iI_eq, iJ_lt, iJ_le, iJ_eq, iI_div, iJ_div, tdiv_tmod, iI_J, iJ_I, iI_ix, iI_toInt, iJ_toInt, cmp_ge, cmp_lt, cmp_eq, cmp_gt, cmp_le, cmp_geI, cmp_ltI, cmp_eqI, cmp_gtI, cmp_leI, bI_0I, bI_1I, pin, if_true, g1, one0, if_false, ga, gb, gc, gd, gw, gz, o0, o1, o2, o3, z0, z1, z2, mc, p0, p1, p2, p3]
      · simp (disch := first | omega | assumption | decide | (simp (disch := omega) only [iI_lit, iJ_lit, iJ_eq, iI_eq, bI_01, bI_01I] <;> omega)) only [c_Dm_screen, e_Dm_screen_0, e_Dm_screen_1, e_Dm_screen_2, e_Dm_screen_5, e_Dm_screen_6, e_Dm_screen_7, e_Dm_screen_10, e_Dm_screen_13, e_Dm_screen_14, e_Dm_screen_15, e_Dm_screen_18, e_Dm_screen_19, e_Dm_screen_20, e_Dm_screen_23, e_Dm_screen_26, e_Dm_screen_27, e_Dm_screen_30, e_Dm_screen_33, e_Dm_screen_35, e_Dm_screen_38, e_Dm_screen_41, e_Dm_screen_43, e_Dm_screen_46, e_Dm_screen_49, e_Dm_screen_50, e_Dm_screen_51, e_Dm_screen_53, e_Dm_screen_55, e_Dm_screen_58, e_Dm_screen_59, e_Dm_screen_60, e_Dm_screen_63, e_Dm_screen_66, e_Dm_screen_69, e_Dm_screen_70, e_Dm_screen_71, e_Dm_screen_74, e_Dm_screen_75, e_Dm_screen_76, e_Dm_screen_77, e_Dm_screen_78, e_Dm_screen_81, e_Dm_screen_82, e_Dm_screen_85, e_Dm_screen_86, e_Dm_screen_87, e_Dm_screen_88, e_Dm_screen_91, e_Dm_screen_92, e_Dm_screen_95, e_Dm_screen_96, e_Dm_screen_97, e_Dm_screen_98, e_Dm_screen_101, e_Dm_screen_103, e_Dm_screen_106, e_Dm_screen_107, e_Dm_screen_108, e_Dm_screen_109, e_Dm_screen_112, e_Dm_screen_114, e_Dm_screen_117, e_Dm_screen_118, e_Dm_screen_119, e_Dm_screen_122, e_Dm_screen_123, e_Dm_screen_124, e_Dm_screen_125, e_Dm_screen_128, e_Dm_screen_130, e_Dm_screen_131, e_Dm_screen_132, e_Dm_screen_133, e_Dm_screen_134, e_Dm_screen_137, e_Dm_screen_138, e_Dm_screen_139, e_Dm_screen_140, e_Dm_screen_141, e_Dm_screen_144, e_Dm_screen_145, e_Dm_screen_146, e_Dm_screen_147, e_Dm_screen_149, e_Dm_screen_152, e_Dm_screen_153, e_Dm_screen_154, e_Dm_screen_155, e_Dm_screen_157, e_Dm_screen_160, e_Dm_screen_162, bd_some, bd_none, Option.toList_some, Option.toList_none, List.nil_append, List.cons_append, px_kill_int, px_kill_long, px_kill_ref, px_kill_null, iI_lit, iJ_lit, iI_add, iI_sub, iI_mul, iI_neg, iJ_add, iJ_sub, iJ_mul, iJ_neg, iI_lt, iI_le, iI_eq, iJ_lt, iJ_le, iJ_eq, iI_div, iJ_div, tdiv_tmod, iI_J, iJ_I, iI_ix, iI_toInt, iJ_toInt, cmp_ge, cmp_lt, cmp_eq, cmp_gt, cmp_le, cmp_geI, cmp_ltI, cmp_eqI, cmp_gtI, cmp_leI, bI_0I, bI_1I, pin, if_true, g1, one0, if_false, ga, gb, gc, gd, gw, gz, o0, o1, o2, o3, z0, z1, mc, p0, p1, p2, p3]
    · simp (disch := first | omega | assumption | decide | (simp (disch := omega) only [iI_lit, iJ_lit, iJ_eq, iI_eq, bI_01, bI_01I] <;> omega)) only [c_Dm_screen, e_Dm_screen_0, e_Dm_screen_1, e_Dm_screen_2, e_Dm_screen_5, e_Dm_screen_6, e_Dm_screen_7, e_Dm_screen_10, e_Dm_screen_13, e_Dm_screen_14, e_Dm_screen_15, e_Dm_screen_18, e_Dm_screen_19, e_Dm_screen_20, e_Dm_screen_23, e_Dm_screen_26, e_Dm_screen_27, e_Dm_screen_30, e_Dm_screen_33, e_Dm_screen_35, e_Dm_screen_38, e_Dm_screen_41, e_Dm_screen_43, e_Dm_screen_46, e_Dm_screen_49, e_Dm_screen_50, e_Dm_screen_51, e_Dm_screen_53, e_Dm_screen_55, e_Dm_screen_58, e_Dm_screen_59, e_Dm_screen_60, e_Dm_screen_63, e_Dm_screen_66, e_Dm_screen_69, e_Dm_screen_70, e_Dm_screen_71, e_Dm_screen_74, e_Dm_screen_75, e_Dm_screen_76, e_Dm_screen_77, e_Dm_screen_78, e_Dm_screen_81, e_Dm_screen_82, e_Dm_screen_85, e_Dm_screen_86, e_Dm_screen_87, e_Dm_screen_88, e_Dm_screen_91, e_Dm_screen_92, e_Dm_screen_95, e_Dm_screen_96, e_Dm_screen_97, e_Dm_screen_98, e_Dm_screen_101, e_Dm_screen_103, e_Dm_screen_106, e_Dm_screen_107, e_Dm_screen_108, e_Dm_screen_109, e_Dm_screen_112, e_Dm_screen_114, e_Dm_screen_117, e_Dm_screen_118, e_Dm_screen_119, e_Dm_screen_122, e_Dm_screen_123, e_Dm_screen_124, e_Dm_screen_125, e_Dm_screen_128, e_Dm_screen_130, e_Dm_screen_131, e_Dm_screen_132, e_Dm_screen_133, e_Dm_screen_134, e_Dm_screen_137, e_Dm_screen_138, e_Dm_screen_139, e_Dm_screen_140, e_Dm_screen_141, e_Dm_screen_144, e_Dm_screen_145, e_Dm_screen_146, e_Dm_screen_147, e_Dm_screen_149, e_Dm_screen_152, e_Dm_screen_153, e_Dm_screen_154, e_Dm_screen_155, e_Dm_screen_157, e_Dm_screen_160, e_Dm_screen_162, bd_some, bd_none, Option.toList_some, Option.toList_none, List.nil_append, List.cons_append, px_kill_int, px_kill_long, px_kill_ref, px_kill_null, iI_lit, iJ_lit, iI_add, iI_sub, iI_mul, iI_neg, iJ_add, iJ_sub, iJ_mul, iJ_neg, iI_lt, iI_le, iI_eq, iJ_lt, iJ_le, iJ_eq, iI_div, iJ_div, tdiv_tmod, iI_J, iJ_I, iI_ix, iI_toInt, iJ_toInt, cmp_ge, cmp_lt, cmp_eq, cmp_gt, cmp_le, cmp_geI, cmp_ltI, cmp_eqI, cmp_gtI, cmp_leI, bI_0I, bI_1I, pin, if_true, g1, one0, if_false, ga, gb, gc, gd, gw, gz, o0, o1, o2, o3, z0, mc, p0, p1, p2, p3]
