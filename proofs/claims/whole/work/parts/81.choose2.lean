/-! choose: the component's proposals. -/
abbrev cpN (c : Nat × Nat) : Int := 20 * (c.1 : Int) + (c.2 : Int)
theorem hMx.at {T : TS} {l : List (Nat × Nat)} (h : hMx T l (fun _ _ => True)) {c : Nat × Nat} (hc : isCp l c) : T.2.1 18 (20 * c.1 + c.2) = iJ (zU l c / zG l c) ∧ T.2.1 19 (20 * c.1 + c.2) = iJ (zL l c / zG l c) := h c.1 c.2 trivial hc.1 hc.2
theorem z_bd {l : List (Nat × Nat)} (hl : okQ l) {c : Nat × Nat} (hc : isCp l c) : (0 < zU l c / zG l c ∧ zU l c / zG l c ≤ 429981696) ∧ (0 < zL l c / zG l c ∧ zL l c / zG l c ≤ 23887872) := fr_bd (gQ_ok hl (by have := hc.1; have := hc.2; omega)) (gQ_ok hl hc.2)
theorem z_lt {l : List (Nat × Nat)} (hl : okQ l) {c t : Nat × Nat} (hc : isCp l c) (ht : isCp l t) : (zU l c / zG l c) * (zL l t / zG l t) < (zU l t / zG l t) * (zL l c / zG l c) ↔ zU l c * zL l t < zU l t * zL l c := fr_lt (gQ_ok hl (by have := hc.1; have := hc.2; omega)) (gQ_ok hl hc.2) (gQ_ok hl (by have := ht.1; have := ht.2; omega)) (gQ_ok hl ht.2)
set_option maxHeartbeats 2000000 in
theorem s_isBehind {l : List (Nat × Nat)} (hl : okQ l) (hlen : l.length ≤ 20) {m : Int} (hm : m = 0 ∨ m = 1) {T : TS} (hf : T.1 15 13 = iI m) (hM : hMx T l (fun _ _ => True)) {c t : Nat × Nat} (hc : isCp l c) (ht : isCp l t) : cl k_Chooser_isBehind [.ref 15, .int (iI (cpN c)), .int (iI (cpN t))] (enc T) = some (some (.int (bI (bhd m l c t))), enc T) := by
  obtain ⟨u1, l1⟩ := hM.at hc
  obtain ⟨u2, l2⟩ := hM.at ht
  have b1 := z_bd hl hc
  have b2 := z_bd hl ht
  have z1 := z_lt hl hc ht
  have z2 := z_lt hl ht hc
  have hc1 := hc.1
  have hc2 := hc.2
  have ht1 := ht.1
  have ht2 := ht.2
  have e400 : Int32.ofNat 400 = iI 400 := by decide
  have ec : (cpN c).toNat = 20 * c.1 + c.2 := by unfold cpN; omega
  have et : (cpN t).toNat = 20 * t.1 + t.2 := by unfold cpN; omega
  have bc : 0 ≤ cpN c ∧ cpN c < 400 := by unfold cpN; omega
  have bt' : 0 ≤ cpN t ∧ cpN t < 400 := by unfold cpN; omega
  have nc0 : ¬ cpN c < 0 := by omega
  have nt0 : ¬ cpN t < 0 := by omega
  have nc4 : ¬ 400 ≤ cpN c := by omega
  have nt4 : ¬ 400 ≤ cpN t := by omega
  have x1 := mul_bd2 ⟨Int.le_of_lt b1.1.1, b1.1.2⟩ ⟨Int.le_of_lt b2.2.1, b2.2.2⟩
  have x2 := mul_bd2 ⟨Int.le_of_lt b2.1.1, b2.1.2⟩ ⟨Int.le_of_lt b1.2.1, b1.2.2⟩
  have F1 := s_isFarther (a := zU l t / zG l t) (b := zL l t / zG l t) (c := zU l c / zG l c) (d := zL l c / zG l c) (by omega) (by omega) (enc T)
  have F0 := s_isFarther (a := zU l c / zG l c) (b := zL l c / zG l c) (c := zU l t / zG l t) (d := zL l t / zG l t) (by omega) (by omega) (enc T)
  rcases hm with hm | hm
  · subst hm
    rw [bI_iff (q := bhd 0 l c t) ⟨fun z => Or.inr ⟨rfl, z2.mp z⟩, fun z => by
      rcases z with z | z
      · exact absurd z.1 (by omega)
      · exact z2.mpr z.2⟩] at F0
    generalize cpN c = C at *
    generalize cpN t = D at *
    have ob : bI (bhd 0 l c t) = 0 ∨ bI (bhd 0 l c t) = 1 := by have := bI_01 (bhd 0 l c t); rw [this]; trivial
    simp (disch := first | omega | assumption | decide | (simp (disch := omega) only [iI_lit, iJ_lit, iJ_eq, iI_eq, bI_01, bI_01I] <;> omega)) only [c_Chooser_isBehind, e_Chooser_isBehind_0, e_Chooser_isBehind_1, e_Chooser_isBehind_4, e_Chooser_isBehind_7, e_Chooser_isBehind_8, e_Chooser_isBehind_11, e_Chooser_isBehind_12, e_Chooser_isBehind_13, e_Chooser_isBehind_14, e_Chooser_isBehind_17, e_Chooser_isBehind_20, e_Chooser_isBehind_21, e_Chooser_isBehind_24, e_Chooser_isBehind_25, e_Chooser_isBehind_27, e_Chooser_isBehind_28, e_Chooser_isBehind_31, e_Chooser_isBehind_32, e_Chooser_isBehind_33, e_Chooser_isBehind_36, e_Chooser_isBehind_37, e_Chooser_isBehind_40, e_Chooser_isBehind_42, e_Chooser_isBehind_45, e_Chooser_isBehind_47, e_Chooser_isBehind_48, e_Chooser_isBehind_51, e_Chooser_isBehind_52, e_Chooser_isBehind_55, e_Chooser_isBehind_56, e_Chooser_isBehind_57, e_Chooser_isBehind_58, e_Chooser_isBehind_61, e_Chooser_isBehind_63, e_Chooser_isBehind_64, e_Chooser_isBehind_65, e_Chooser_isBehind_68, e_Chooser_isBehind_70, e_Chooser_isBehind_71, e_Chooser_isBehind_72, e_Chooser_isBehind_75, e_Chooser_isBehind_76, e_Chooser_isBehind_77, e_Chooser_isBehind_78, e_Chooser_isBehind_81, e_Chooser_isBehind_82, e_Chooser_isBehind_83, e_Chooser_isBehind_86, bd_some, bd_none, Option.toList_some, Option.toList_none, List.nil_append, List.cons_append, px_kill_int, px_kill_long, px_kill_ref, px_kill_null, iI_lit, iJ_lit, iI_add, iI_sub, iI_mul, iI_neg, iJ_add, iJ_sub, iJ_mul, iJ_neg, iI_lt, iI_le, iI_eq, iJ_lt, iJ_le, iJ_eq, iI_div, iJ_div, tdiv_tmod, iI_J, iJ_I, iI_ix, iI_toInt, iJ_toInt, cmp_ge, cmp_lt, cmp_eq, cmp_gt, cmp_le, cmp_geI, cmp_ltI, cmp_eqI, cmp_gtI, cmp_leI, bI_0I, bI_1I, pin, if_true, hf, sh_n15, sh_n18, sh_n19, e400, nc0, nt0, nc4, nt4, if_false, ec, et, u1, l1, u2, l2, F0]
    rw [if_pos bc.2]
  · subst hm
    rw [bI_iff (q := bhd 1 l c t) ⟨fun z => Or.inl ⟨rfl, z1.mp z⟩, fun z => by
      rcases z with z | z
      · exact z1.mpr z.2
      · exact absurd z.1 (by omega)⟩] at F1
    generalize cpN c = C at *
    generalize cpN t = D at *
    have ob : bI (bhd 1 l c t) = 0 ∨ bI (bhd 1 l c t) = 1 := by have := bI_01 (bhd 1 l c t); rw [this]; trivial
    simp (disch := first | omega | assumption | decide | (simp (disch := omega) only [iI_lit, iJ_lit, iJ_eq, iI_eq, bI_01, bI_01I] <;> omega)) only [c_Chooser_isBehind, e_Chooser_isBehind_0, e_Chooser_isBehind_1, e_Chooser_isBehind_4, e_Chooser_isBehind_7, e_Chooser_isBehind_8, e_Chooser_isBehind_11, e_Chooser_isBehind_12, e_Chooser_isBehind_13, e_Chooser_isBehind_14, e_Chooser_isBehind_17, e_Chooser_isBehind_20, e_Chooser_isBehind_21, e_Chooser_isBehind_24, e_Chooser_isBehind_25, e_Chooser_isBehind_27, e_Chooser_isBehind_28, e_Chooser_isBehind_31, e_Chooser_isBehind_32, e_Chooser_isBehind_33, e_Chooser_isBehind_36, e_Chooser_isBehind_37, e_Chooser_isBehind_40, e_Chooser_isBehind_42, e_Chooser_isBehind_45, e_Chooser_isBehind_47, e_Chooser_isBehind_48, e_Chooser_isBehind_51, e_Chooser_isBehind_52, e_Chooser_isBehind_55, e_Chooser_isBehind_56, e_Chooser_isBehind_57, e_Chooser_isBehind_58, e_Chooser_isBehind_61, e_Chooser_isBehind_63, e_Chooser_isBehind_64, e_Chooser_isBehind_65, e_Chooser_isBehind_68, e_Chooser_isBehind_70, e_Chooser_isBehind_71, e_Chooser_isBehind_72, e_Chooser_isBehind_75, e_Chooser_isBehind_76, e_Chooser_isBehind_77, e_Chooser_isBehind_78, e_Chooser_isBehind_81, e_Chooser_isBehind_82, e_Chooser_isBehind_83, e_Chooser_isBehind_86, bd_some, bd_none, Option.toList_some, Option.toList_none, List.nil_append, List.cons_append, px_kill_int, px_kill_long, px_kill_ref, px_kill_null, iI_lit, iJ_lit, iI_add, iI_sub, iI_mul, iI_neg, iJ_add, iJ_sub, iJ_mul, iJ_neg, iI_lt, iI_le, iI_eq, iJ_lt, iJ_le, iJ_eq, iI_div, iJ_div, tdiv_tmod, iI_J, iJ_I, iI_ix, iI_toInt, iJ_toInt, cmp_ge, cmp_lt, cmp_eq, cmp_gt, cmp_le, cmp_geI, cmp_ltI, cmp_eqI, cmp_gtI, cmp_leI, bI_0I, bI_1I, pin, if_true, hf, sh_n15, sh_n18, sh_n19, e400, nc0, nt0, nc4, nt4, if_false, ec, et, u1, l1, u2, l2, F1, one0]
    rw [if_pos bt'.2]
def hBc (T : TS) (b : CB) : Prop := match b with
  | none => T.1 15 9 = iI (-1)
  | some x => T.1 15 9 = iI (cpN x.1) ∧ T.1 23 0 = iI (x.2.1 : Int) ∧ T.1 23 1 = iI (x.2.2.1 : Int) ∧ T.1 23 2 = iI (x.2.2.2 : Int)
def aPp (q k : Nat) : Prop := (q = 15 ∧ k = 9) ∨ q = 23
set_option maxHeartbeats 2000000 in
theorem s_propose {l : List (Nat × Nat)} (hl : okQ l) (hlen : l.length ≤ 20) {m : Int} (hm : m = 0 ∨ m = 1) {T : TS} (hf : T.1 15 13 = iI m) (hM : hMx T l (fun _ _ => True)) {b : CB} (hb : okD l b) (hB : hBc T b) {c : Nat × Nat} (hc : isCp l c) (i j k : Nat) : ∃ T', cl k_Chooser_propose [.ref 15, .int (iI (cpN c)), .int (iI (i : Int)), .int (iI (j : Int)), .int (iI (k : Int))] (enc T) = some (none, enc T') ∧ FrI aPp T T' ∧ hBc T' (pps m l b c (i, j, k)) := by
  have hc1 := hc.1
  have hc2 := hc.2
  have take : rn k_Chooser_propose 20 [.ref 15, .int (iI (cpN c)), .int (iI (i : Int)), .int (iI (j : Int)), .int (iI (k : Int))] [] (enc T) = some (none, enc (sI (sI (sI (sI T 15 9 (iI (cpN c))) 23 0 (iI (i : Int))) 23 1 (iI (j : Int))) 23 2 (iI (k : Int)))) := by
    have n0 : (0 : Int).toNat = 0 := rfl
    have n1 : (1 : Int).toNat = 1 := rfl
    have n2 : (2 : Int).toNat = 2 := rfl
    simp (disch := first | omega | assumption | decide | (simp (disch := omega) only [iI_lit, iJ_lit, iJ_eq, iI_eq, bI_01, bI_01I] <;> omega)) only [e_Chooser_propose_20, e_Chooser_propose_21, e_Chooser_propose_22, e_Chooser_propose_25, e_Chooser_propose_26, e_Chooser_propose_29, e_Chooser_propose_30, e_Chooser_propose_31, e_Chooser_propose_32, e_Chooser_propose_33, e_Chooser_propose_36, e_Chooser_propose_37, e_Chooser_propose_38, e_Chooser_propose_39, e_Chooser_propose_40, e_Chooser_propose_43, e_Chooser_propose_44, e_Chooser_propose_46, e_Chooser_propose_47, bd_some, bd_none, Option.toList_some, Option.toList_none, List.nil_append, List.cons_append, px_kill_int, px_kill_long, px_kill_ref, px_kill_null, iI_lit, iJ_lit, iI_add, iI_sub, iI_mul, iI_neg, iJ_add, iJ_sub, iJ_mul, iJ_neg, iI_lt, iI_le, iI_eq, iJ_lt, iJ_le, iJ_eq, iI_div, iJ_div, tdiv_tmod, iI_J, iJ_I, iI_ix, iI_toInt, iJ_toInt, cmp_ge, cmp_lt, cmp_eq, cmp_gt, cmp_le, cmp_geI, cmp_ltI, cmp_eqI, cmp_gtI, cmp_leI, bI_0I, bI_1I, pin, if_true, sh_n15, sh_n23, n0, n1, n2]
  have frt : FrI aPp T (sI (sI (sI (sI T 15 9 (iI (cpN c))) 23 0 (iI (i : Int))) 23 1 (iI (j : Int))) 23 2 (iI (k : Int))) := ((((FrI.rf aPp T).wr _ (Or.inl ⟨rfl, rfl⟩)).wr _ (Or.inr rfl)).wr _ (Or.inr rfl)).wr _ (Or.inr rfl)
  have hBt : hBc (sI (sI (sI (sI T 15 9 (iI (cpN c))) 23 0 (iI (i : Int))) 23 1 (iI (j : Int))) 23 2 (iI (k : Int))) (some (c, (i, j, k))) := by
    unfold hBc
    simp only [sI_get, sJ_get, sI_2, sJ_1, sJ_22, sR_1, sR_21, Nat.reduceEqDiff, and_true, true_and, and_false, false_and, and_self, if_true, if_false, reduceIte]
  cases b with
  | none =>
    refine ⟨_, ?_, frt, hBt⟩
    have hB' : T.1 15 9 = iI (-1) := hB
    simp (disch := first | omega | assumption | decide | (simp (disch := omega) only [iI_lit, iJ_lit, iJ_eq, iI_eq, bI_01, bI_01I] <;> omega)) only [c_Chooser_propose, e_Chooser_propose_0, e_Chooser_propose_1, e_Chooser_propose_4, e_Chooser_propose_5, e_Chooser_propose_8, e_Chooser_propose_9, e_Chooser_propose_10, e_Chooser_propose_13, e_Chooser_propose_14, e_Chooser_propose_17, bd_some, bd_none, Option.toList_some, Option.toList_none, List.nil_append, List.cons_append, px_kill_int, px_kill_long, px_kill_ref, px_kill_null, iI_lit, iJ_lit, iI_add, iI_sub, iI_mul, iI_neg, iJ_add, iJ_sub, iJ_mul, iJ_neg, iI_lt, iI_le, iI_eq, iJ_lt, iJ_le, iJ_eq, iI_div, iJ_div, tdiv_tmod, iI_J, iJ_I, iI_ix, iI_toInt, iJ_toInt, cmp_ge, cmp_lt, cmp_eq, cmp_gt, cmp_le, cmp_geI, cmp_ltI, cmp_eqI, cmp_gtI, cmp_leI, bI_0I, bI_1I, pin, if_true, hB', sh_n15]
    exact take
  | some x =>
    obtain ⟨hx, _⟩ := hb x rfl
    have hx1 := hx.1
    have hx2 := hx.2
    have hB1 : T.1 15 9 = iI (cpN x.1) := hB.1
    have g := s_isBehind hl hlen hm hf hM hx hc
    have nx : ¬ cpN x.1 = -1 := by unfold cpN; omega
    have bx : 0 ≤ cpN x.1 ∧ cpN x.1 < 400 := by unfold cpN; omega
    by_cases d : bhd m l x.1 c
    · rw [bI_tI d] at g
      have e : pps m l (some x) c (i, j, k) = some (c, (i, j, k)) := if_pos d
      rw [e]
      refine ⟨_, ?_, frt, hBt⟩
      simp (disch := first | omega | assumption | decide | (simp (disch := omega) only [iI_lit, iJ_lit, iJ_eq, iI_eq, bI_01, bI_01I] <;> omega)) only [c_Chooser_propose, e_Chooser_propose_0, e_Chooser_propose_1, e_Chooser_propose_4, e_Chooser_propose_5, e_Chooser_propose_8, e_Chooser_propose_9, e_Chooser_propose_10, e_Chooser_propose_13, e_Chooser_propose_14, e_Chooser_propose_17, bd_some, bd_none, Option.toList_some, Option.toList_none, List.nil_append, List.cons_append, px_kill_int, px_kill_long, px_kill_ref, px_kill_null, iI_lit, iJ_lit, iI_add, iI_sub, iI_mul, iI_neg, iJ_add, iJ_sub, iJ_mul, iJ_neg, iI_lt, iI_le, iI_eq, iJ_lt, iJ_le, iJ_eq, iI_div, iJ_div, tdiv_tmod, iI_J, iJ_I, iI_ix, iI_toInt, iJ_toInt, cmp_ge, cmp_lt, cmp_eq, cmp_gt, cmp_le, cmp_geI, cmp_ltI, cmp_eqI, cmp_gtI, cmp_leI, bI_0I, bI_1I, pin, if_true, hB1, sh_n15, nx, if_false, g, one0]
      exact take
    · rw [bI_fI d] at g
      have e : pps m l (some x) c (i, j, k) = some x := if_neg d
      rw [e]
      refine ⟨T, ?_, FrI.rf _ _, hB⟩
      simp (disch := first | omega | assumption | decide | (simp (disch := omega) only [iI_lit, iJ_lit, iJ_eq, iI_eq, bI_01, bI_01I] <;> omega)) only [c_Chooser_propose, e_Chooser_propose_0, e_Chooser_propose_1, e_Chooser_propose_4, e_Chooser_propose_5, e_Chooser_propose_8, e_Chooser_propose_9, e_Chooser_propose_10, e_Chooser_propose_13, e_Chooser_propose_14, e_Chooser_propose_17, e_Chooser_propose_20, e_Chooser_propose_21, e_Chooser_propose_22, e_Chooser_propose_25, e_Chooser_propose_26, e_Chooser_propose_29, e_Chooser_propose_30, e_Chooser_propose_31, e_Chooser_propose_32, e_Chooser_propose_33, e_Chooser_propose_36, e_Chooser_propose_37, e_Chooser_propose_38, e_Chooser_propose_39, e_Chooser_propose_40, e_Chooser_propose_43, e_Chooser_propose_44, e_Chooser_propose_46, e_Chooser_propose_47, bd_some, bd_none, Option.toList_some, Option.toList_none, List.nil_append, List.cons_append, px_kill_int, px_kill_long, px_kill_ref, px_kill_null, iI_lit, iJ_lit, iI_add, iI_sub, iI_mul, iI_neg, iJ_add, iJ_sub, iJ_mul, iJ_neg, iI_lt, iI_le, iI_eq, iJ_lt, iJ_le, iJ_eq, iI_div, iJ_div, tdiv_tmod, iI_J, iJ_I, iI_ix, iI_toInt, iJ_toInt, cmp_ge, cmp_lt, cmp_eq, cmp_gt, cmp_le, cmp_geI, cmp_ltI, cmp_eqI, cmp_gtI, cmp_leI, bI_0I, bI_1I, pin, if_true, hB1, sh_n15, nx, if_false, g]
/-- what stays in a choice -/
def hCh (T : TS) (m : Int) (l : List (Nat × Nat)) : Prop := T.1 15 13 = iI m ∧ T.1 15 2 = iI (l.length : Int) ∧ hMx T l (fun _ _ => True)
theorem hCh.pp {T T' : TS} {m : Int} {l : List (Nat × Nat)} (h : hCh T m l) (hf : FrI aPp T T') : hCh T' m l := by
  obtain ⟨h1, h2, h3⟩ := h
  refine ⟨by rw [hf.1 _ _ (by unfold aPp; omega)]; exact h1, by rw [hf.1 _ _ (by unfold aPp; omega)]; exact h2, ?_⟩
  intro i j hp h4 h5
  rw [hf.2]
  exact h3 i j hp h4 h5
set_option maxHeartbeats 2000000 in
theorem lp_thirds {l : List (Nat × Nat)} (hl : okQ l) (hlen : l.length ≤ 20) {m : Int} (hm : m = 0 ∨ m = 1) {i j : Nat} (hij : i < j) : ∀ (t k : Nat) (b : CB) (T : TS), j < k → k + t = l.length → hCh T m l → okD l b → hBc T b → ∀ a4 : Value, ∃ T', rn k_Chooser_proposeThirds 4 [.ref 15, .int (iI (i : Int)), .int (iI (j : Int)), .int (iI (k : Int)), a4] [] (enc T) = some (none, enc T') ∧ FrI aPp T T' ∧ hBc T' (c3T m l i j b k t) := by
  intro t
  induction t with
  | zero =>
    intro k b T hjk hk hC hb hB a4
    have ek : (k : Int) = (l.length : Int) := by omega
    have hn := hC.2.1
    refine ⟨T, ?_, FrI.rf _ _, hB⟩
    rw [ek, e_Chooser_proposeThirds_4]
    simp (disch := first | omega | assumption | decide | (simp (disch := omega) only [iI_lit, iJ_lit, iJ_eq, iI_eq, bI_01, bI_01I] <;> omega)) only [e_Chooser_proposeThirds_5, e_Chooser_proposeThirds_6, e_Chooser_proposeThirds_9, e_Chooser_proposeThirds_86, bd_some, bd_none, Option.toList_some, Option.toList_none, List.nil_append, List.cons_append, px_kill_int, px_kill_long, px_kill_ref, px_kill_null, iI_lit, iJ_lit, iI_add, iI_sub, iI_mul, iI_neg, iJ_add, iJ_sub, iJ_mul, iJ_neg, iI_lt, iI_le, iI_eq, iJ_lt, iJ_le, iJ_eq, iI_div, iJ_div, tdiv_tmod, iI_J, iJ_I, iI_ix, iI_toInt, iJ_toInt, cmp_ge, cmp_lt, cmp_eq, cmp_gt, cmp_le, cmp_geI, cmp_ltI, cmp_eqI, cmp_gtI, cmp_leI, bI_0I, bI_1I, pin, if_true, hn, sh_n15, Int.le_refl]
  | succ t ih =>
    intro k b T hjk hk hC hb hB a4
    obtain ⟨hf, hn, hM⟩ := id hC
    have nle : ¬ (l.length : Int) ≤ (k : Int) := by omega
    have cij : isCp l (i, j) := ⟨hij, by show j < l.length; omega⟩
    have cik : isCp l (i, k) := ⟨by show i < k; omega, by show k < l.length; omega⟩
    have cjk : isCp l (j, k) := ⟨hjk, by show k < l.length; omega⟩
    obtain ⟨c2, c3⟩ := cp_cp (m := m) hij hjk (show k < l.length by omega)
    have k1 := s_coupleOf (i := (i : Int)) (j := (j : Int)) (by omega) (by omega) (enc T)
    have k2 := s_coupleOf (i := (i : Int)) (j := (k : Int)) (by omega) (by omega) (enc T)
    have k3 := s_coupleOf (i := (j : Int)) (j := (k : Int)) (by omega) (by omega) (enc T)
    have e1 : 20 * (i : Int) + (j : Int) = cpN (i, j) := rfl
    have e2 : 20 * (i : Int) + (k : Int) = cpN (i, k) := rfl
    have e3 : 20 * (j : Int) + (k : Int) = cpN (j, k) := rfl
    rw [e1] at k1
    rw [e2] at k2
    rw [e3] at k3
    have g1 := s_isBehind hl hlen hm hf hM cik cij
    have g2 := s_isBehind hl hlen hm hf hM cjk c2
    obtain ⟨T1, e4, fr1, hB1⟩ := s_propose hl hlen hm hf hM hb hB c3 i j k
    have s1 : rn k_Chooser_proposeThirds 4 [.ref 15, .int (iI (i : Int)), .int (iI (j : Int)), .int (iI (k : Int)), a4] [] (enc T) = rn k_Chooser_proposeThirds 45 [.ref 15, .int (iI (i : Int)), .int (iI (j : Int)), .int (iI (k : Int)), .int (iI (cpN (cp2 m l i j k)))] [] (enc T) := by
      rw [e_Chooser_proposeThirds_4]
      by_cases d : bhd m l (i, k) (i, j)
      · rw [bI_tI d] at g1
        have ed : cp2 m l i j k = (i, k) := if_pos d
        rw [ed]
        simp (disch := first | omega | assumption | decide | (simp (disch := omega) only [iI_lit, iJ_lit, iJ_eq, iI_eq, bI_01, bI_01I] <;> omega)) only [e_Chooser_proposeThirds_5, e_Chooser_proposeThirds_6, e_Chooser_proposeThirds_9, e_Chooser_proposeThirds_12, e_Chooser_proposeThirds_13, e_Chooser_proposeThirds_14, e_Chooser_proposeThirds_17, e_Chooser_proposeThirds_19, e_Chooser_proposeThirds_20, e_Chooser_proposeThirds_21, e_Chooser_proposeThirds_22, e_Chooser_proposeThirds_25, e_Chooser_proposeThirds_27, e_Chooser_proposeThirds_30, e_Chooser_proposeThirds_33, e_Chooser_proposeThirds_34, e_Chooser_proposeThirds_35, e_Chooser_proposeThirds_38, e_Chooser_proposeThirds_41, e_Chooser_proposeThirds_43, bd_some, bd_none, Option.toList_some, Option.toList_none, List.nil_append, List.cons_append, px_kill_int, px_kill_long, px_kill_ref, px_kill_null, iI_lit, iJ_lit, iI_add, iI_sub, iI_mul, iI_neg, iJ_add, iJ_sub, iJ_mul, iJ_neg, iI_lt, iI_le, iI_eq, iJ_lt, iJ_le, iJ_eq, iI_div, iJ_div, tdiv_tmod, iI_J, iJ_I, iI_ix, iI_toInt, iJ_toInt, cmp_ge, cmp_lt, cmp_eq, cmp_gt, cmp_le, cmp_geI, cmp_ltI, cmp_eqI, cmp_gtI, cmp_leI, bI_0I, bI_1I, pin, if_true, hn, sh_n15, nle, if_false, k1, k2, g1, one0]
      · rw [bI_fI d] at g1
        have ed : cp2 m l i j k = (i, j) := if_neg d
        rw [ed]
        simp (disch := first | omega | assumption | decide | (simp (disch := omega) only [iI_lit, iJ_lit, iJ_eq, iI_eq, bI_01, bI_01I] <;> omega)) only [e_Chooser_proposeThirds_5, e_Chooser_proposeThirds_6, e_Chooser_proposeThirds_9, e_Chooser_proposeThirds_12, e_Chooser_proposeThirds_13, e_Chooser_proposeThirds_14, e_Chooser_proposeThirds_17, e_Chooser_proposeThirds_19, e_Chooser_proposeThirds_20, e_Chooser_proposeThirds_21, e_Chooser_proposeThirds_22, e_Chooser_proposeThirds_25, e_Chooser_proposeThirds_27, e_Chooser_proposeThirds_30, e_Chooser_proposeThirds_33, e_Chooser_proposeThirds_34, e_Chooser_proposeThirds_35, e_Chooser_proposeThirds_38, e_Chooser_proposeThirds_41, e_Chooser_proposeThirds_43, bd_some, bd_none, Option.toList_some, Option.toList_none, List.nil_append, List.cons_append, px_kill_int, px_kill_long, px_kill_ref, px_kill_null, iI_lit, iJ_lit, iI_add, iI_sub, iI_mul, iI_neg, iJ_add, iJ_sub, iJ_mul, iJ_neg, iI_lt, iI_le, iI_eq, iJ_lt, iJ_le, iJ_eq, iI_div, iJ_div, tdiv_tmod, iI_J, iJ_I, iI_ix, iI_toInt, iJ_toInt, cmp_ge, cmp_lt, cmp_eq, cmp_gt, cmp_le, cmp_geI, cmp_ltI, cmp_eqI, cmp_gtI, cmp_leI, bI_0I, bI_1I, pin, if_true, hn, sh_n15, nle, if_false, k1, k2, g1]
    have s2 : rn k_Chooser_proposeThirds 45 [.ref 15, .int (iI (i : Int)), .int (iI (j : Int)), .int (iI (k : Int)), .int (iI (cpN (cp2 m l i j k)))] [] (enc T) = rn k_Chooser_proposeThirds 71 [.ref 15, .int (iI (i : Int)), .int (iI (j : Int)), .int (iI (k : Int)), .int (iI (cpN (cp3 m l i j k)))] [] (enc T) := by
      by_cases d : bhd m l (j, k) (cp2 m l i j k)
      · rw [bI_tI d] at g2
        have ed : cp3 m l i j k = (j, k) := if_pos d
        rw [ed]
        simp (disch := first | omega | assumption | decide | (simp (disch := omega) only [iI_lit, iJ_lit, iJ_eq, iI_eq, bI_01, bI_01I] <;> omega)) only [e_Chooser_proposeThirds_45, e_Chooser_proposeThirds_46, e_Chooser_proposeThirds_47, e_Chooser_proposeThirds_48, e_Chooser_proposeThirds_51, e_Chooser_proposeThirds_53, e_Chooser_proposeThirds_56, e_Chooser_proposeThirds_59, e_Chooser_proposeThirds_60, e_Chooser_proposeThirds_61, e_Chooser_proposeThirds_64, e_Chooser_proposeThirds_67, e_Chooser_proposeThirds_69, bd_some, bd_none, Option.toList_some, Option.toList_none, List.nil_append, List.cons_append, px_kill_int, px_kill_long, px_kill_ref, px_kill_null, iI_lit, iJ_lit, iI_add, iI_sub, iI_mul, iI_neg, iJ_add, iJ_sub, iJ_mul, iJ_neg, iI_lt, iI_le, iI_eq, iJ_lt, iJ_le, iJ_eq, iI_div, iJ_div, tdiv_tmod, iI_J, iJ_I, iI_ix, iI_toInt, iJ_toInt, cmp_ge, cmp_lt, cmp_eq, cmp_gt, cmp_le, cmp_geI, cmp_ltI, cmp_eqI, cmp_gtI, cmp_leI, bI_0I, bI_1I, pin, if_true, sh_n15, if_false, k3, g2, one0]
      · rw [bI_fI d] at g2
        have ed : cp3 m l i j k = cp2 m l i j k := if_neg d
        rw [ed]
        simp (disch := first | omega | assumption | decide | (simp (disch := omega) only [iI_lit, iJ_lit, iJ_eq, iI_eq, bI_01, bI_01I] <;> omega)) only [e_Chooser_proposeThirds_45, e_Chooser_proposeThirds_46, e_Chooser_proposeThirds_47, e_Chooser_proposeThirds_48, e_Chooser_proposeThirds_51, e_Chooser_proposeThirds_53, e_Chooser_proposeThirds_56, e_Chooser_proposeThirds_59, e_Chooser_proposeThirds_60, e_Chooser_proposeThirds_61, e_Chooser_proposeThirds_64, e_Chooser_proposeThirds_67, e_Chooser_proposeThirds_69, bd_some, bd_none, Option.toList_some, Option.toList_none, List.nil_append, List.cons_append, px_kill_int, px_kill_long, px_kill_ref, px_kill_null, iI_lit, iJ_lit, iI_add, iI_sub, iI_mul, iI_neg, iJ_add, iJ_sub, iJ_mul, iJ_neg, iI_lt, iI_le, iI_eq, iJ_lt, iJ_le, iJ_eq, iI_div, iJ_div, tdiv_tmod, iI_J, iJ_I, iI_ix, iI_toInt, iJ_toInt, cmp_ge, cmp_lt, cmp_eq, cmp_gt, cmp_le, cmp_geI, cmp_ltI, cmp_eqI, cmp_gtI, cmp_leI, bI_0I, bI_1I, pin, if_true, sh_n15, k3, g2]
    obtain ⟨T2, e5, fr2, hB2⟩ := ih (k + 1) (pps m l b (cp3 m l i j k) (i, j, k)) T1 (by omega) (by omega) (hC.pp fr1) (pps_okD hb c3 ⟨by show i < l.length; omega, by show j < l.length; omega, by show k < l.length; omega⟩) hB1 (.int (iI (cpN (cp3 m l i j k))))
    refine ⟨T2, ?_, fr1.tr fr2, hB2⟩
    rw [s1, s2]
    simp (disch := first | omega | assumption | decide | (simp (disch := omega) only [iI_lit, iJ_lit, iJ_eq, iI_eq, bI_01, bI_01I] <;> omega)) only [e_Chooser_proposeThirds_71, e_Chooser_proposeThirds_72, e_Chooser_proposeThirds_74, e_Chooser_proposeThirds_75, e_Chooser_proposeThirds_76, e_Chooser_proposeThirds_77, e_Chooser_proposeThirds_80, e_Chooser_proposeThirds_83, bd_some, bd_none, Option.toList_some, Option.toList_none, List.nil_append, List.cons_append, px_kill_int, px_kill_long, px_kill_ref, px_kill_null, iI_lit, iJ_lit, iI_add, iI_sub, iI_mul, iI_neg, iJ_add, iJ_sub, iJ_mul, iJ_neg, iI_lt, iI_le, iI_eq, iJ_lt, iJ_le, iJ_eq, iI_div, iJ_div, tdiv_tmod, iI_J, iJ_I, iI_ix, iI_toInt, iJ_toInt, cmp_ge, cmp_lt, cmp_eq, cmp_gt, cmp_le, cmp_geI, cmp_ltI, cmp_eqI, cmp_gtI, cmp_leI, bI_0I, bI_1I, pin, if_true, sh_n15, e4]
    rw [show (k : Int) + 1 = ((k + 1 : Nat) : Int) by omega]
    exact e5
theorem s_thirds {l : List (Nat × Nat)} (hl : okQ l) (hlen : l.length ≤ 20) {m : Int} (hm : m = 0 ∨ m = 1) {i j : Nat} (hij : i < j) (hj : j < l.length) {b : CB} {T : TS} (hC : hCh T m l) (hb : okD l b) (hB : hBc T b) : ∃ T', cl k_Chooser_proposeThirds [.ref 15, .int (iI (i : Int)), .int (iI (j : Int))] (enc T) = some (none, enc T') ∧ FrI aPp T T' ∧ hBc T' (c3T m l i j b (j + 1) (l.length - (j + 1))) := by
  obtain ⟨T', e, fr, h⟩ := lp_thirds hl hlen hm hij (l.length - (j + 1)) (j + 1) b T (by omega) (by omega) hC hb hB .null
  refine ⟨T', ?_, fr, h⟩
  simp (disch := first | omega | assumption | decide | (simp (disch := omega) only [iI_lit, iJ_lit, iJ_eq, iI_eq, bI_01, bI_01I] <;> omega)) only [c_Chooser_proposeThirds, e_Chooser_proposeThirds_0, e_Chooser_proposeThirds_1, e_Chooser_proposeThirds_2, e_Chooser_proposeThirds_3, bd_some, bd_none, Option.toList_some, Option.toList_none, List.nil_append, List.cons_append, px_kill_int, px_kill_long, px_kill_ref, px_kill_null, iI_lit, iJ_lit, iI_add, iI_sub, iI_mul, iI_neg, iJ_add, iJ_sub, iJ_mul, iJ_neg, iI_lt, iI_le, iI_eq, iJ_lt, iJ_le, iJ_eq, iI_div, iJ_div, tdiv_tmod, iI_J, iJ_I, iI_ix, iI_toInt, iJ_toInt, cmp_ge, cmp_lt, cmp_eq, cmp_gt, cmp_le, cmp_geI, cmp_ltI, cmp_eqI, cmp_gtI, cmp_leI, bI_0I, bI_1I, pin, if_true]
  rw [show (j : Int) + 1 = ((j + 1 : Nat) : Int) by omega]
  exact e
