/-! the text: pure, and how the component moves over it. -/
abbrev sg (t : TP) (k : Nat) : Int := if k < t.1 then t.2 k else -1
def okTp (t : TP) : Prop := t.1 ≤ 160 ∧ ∀ k, k < t.1 → 1 ≤ t.2 k ∧ t.2 k ≤ 255
theorem sg_bd {t : TP} (h : okTp t) (k : Nat) : -1 ≤ sg t k ∧ sg t k ≤ 255 := by
  unfold sg
  split
  · rename_i hk
    have := h.2 k hk
    omega
  · omega
theorem sg_lt {t : TP} {k : Nat} (h : sg t k ≠ -1) : k < t.1 := by
  unfold sg at h
  split at h
  · assumption
  · exact absurd rfl h
def sk (t : TP) : Nat → Nat → Nat
  | 0, k => k
  | n + 1, k => if sg t k = 32 then sk t n (k + 1) else k
theorem sk_s (t : TP) (n k : Nat) : sk t (n + 1) k = if sg t k = 32 then sk t n (k + 1) else k := rfl
theorem sk_fuel (t : TP) : ∀ n k, t.1 < k + n → sk t (n + 1) k = sk t n k := by
  intro n
  induction n with
  | zero =>
    intro k h
    rw [sk_s, if_neg (fun z => by have := sg_lt (t := t) (k := k) (by omega); omega)]
    rfl
  | succ n ih =>
    intro k h
    rw [sk_s, sk_s t n k]
    split
    · exact ih (k + 1) (by omega)
    · rfl
/-- behind blanks -/
def SK (t : TP) (k : Nat) : Nat := sk t 161 k
theorem SK_no {t : TP} {k : Nat} (h : sg t k ≠ 32) : SK t k = k := by unfold SK; rw [sk_s, if_neg h]
theorem SK_bl {t : TP} (ht : okTp t) {k : Nat} (h : sg t k = 32) : SK t k = SK t (k + 1) := by
  unfold SK
  rw [sk_s, if_pos h, sk_fuel t 160 (k + 1) (by have := ht.1; omega)]
theorem SK_ind {t : TP} (ht : okTp t) (P : Nat → Prop) (h1 : ∀ k, sg t k ≠ 32 → P k) (h2 : ∀ k, k < t.1 → sg t k = 32 → P (k + 1) → P k) : ∀ k, P k := by
  have : ∀ n k, t.1 ≤ k + n → P k := by
    intro n
    induction n with
    | zero => intro k hk; exact h1 k (fun z => by have := sg_lt (t := t) (k := k) (by omega); omega)
    | succ n ih =>
      intro k hk
      by_cases c : sg t k = 32
      · exact h2 k (sg_lt (by omega)) c (ih (k + 1) (by omega))
      · exact h1 k c
  exact fun k => this t.1 k (by omega)
theorem SK_ne {t : TP} (ht : okTp t) : ∀ k, sg t (SK t k) ≠ 32 := by
  apply SK_ind ht
  · intro k h; rw [SK_no h]; exact h
  · intro k _ h ih; rw [SK_bl ht h]; exact ih
theorem SK_SK {t : TP} (ht : okTp t) (k : Nat) : SK t (SK t k) = SK t k := SK_no (SK_ne ht k)
theorem SK_le {t : TP} (ht : okTp t) : ∀ k, k ≤ SK t k ∧ (k ≤ t.1 → SK t k ≤ t.1) := by
  apply SK_ind ht
  · intro k h; rw [SK_no h]; exact ⟨Nat.le_refl _, fun z => z⟩
  · intro k hk h ih; rw [SK_bl ht h]; exact ⟨by omega, fun _ => ih.2 (by omega)⟩
abbrev dg (c : Int) : Prop := 48 ≤ c ∧ c ≤ 57
def pD (t : TP) : Nat → Nat → Int → Nat ⊕ (Int × Nat)
  | 0, k, v => if dg (sg t k) then .inl k else .inr (v, k)
  | n + 1, k, v => if dg (sg t k) then pD t n (k + 1) (10 * v + sg t k - 48) else .inr (v, k)
theorem pD_0 (t : TP) (k : Nat) (v : Int) : pD t 0 k v = if dg (sg t k) then .inl k else .inr (v, k) := rfl
theorem pD_s (t : TP) (n k : Nat) (v : Int) : pD t (n + 1) k v = if dg (sg t k) then pD t n (k + 1) (10 * v + sg t k - 48) else .inr (v, k) := rfl
abbrev k1N (t : TP) (k : Nat) (tone : Bool) : Nat := if sg t k = 45 ∧ tone = false then k + 1 else k
abbrev sgN (t : TP) (k : Nat) (tone : Bool) (v : Int) : Int := if sg t k = 45 ∧ tone = false then -v else v
/-- a number that stands at k -/
def pnum (t : TP) (k : Nat) (tone : Bool) (most : Int) (dm : Nat) : Nat ⊕ (Int × Nat) :=
  if dg (sg t (k1N t k tone)) then (match pD t dm (k1N t k tone) 0 with
    | .inl e => .inl e
    | .inr x => if most < x.1 then .inl (x.2 - 1) else .inr (sgN t k tone x.1, x.2)) else .inl (k1N t k tone)
theorem pD_bd {t : TP} (ht : okTp t) : ∀ (n k : Nat) (v : Int), 0 ≤ v → (∀ e, pD t n k v = .inl e → e < t.1) ∧ ∀ x, pD t n k v = .inr x → k ≤ x.2 ∧ (k ≤ t.1 → x.2 ≤ t.1) ∧ 0 ≤ x.1 ∧ (dg (sg t k) → 0 < n → k < x.2) := by
  intro n
  induction n with
  | zero =>
    intro k v hv
    rw [pD_0]
    split
    · rename_i hd
      refine ⟨fun e he => ?_, fun x hx => by cases hx⟩
      cases he
      exact sg_lt (by omega)
    · refine ⟨fun e he => (by cases he), fun x hx => ?_⟩
      cases hx
      exact ⟨Nat.le_refl _, fun z => z, hv, fun _ z => by omega⟩
  | succ n ih =>
    intro k v hv
    rw [pD_s]
    split
    · rename_i hd
      obtain ⟨i1, i2⟩ := ih (k + 1) (10 * v + sg t k - 48) (by omega)
      have hk := sg_lt (t := t) (k := k) (by omega)
      refine ⟨i1, fun x hx => ?_⟩
      obtain ⟨j1, j2, j3, _⟩ := i2 x hx
      exact ⟨by omega, fun _ => j2 (by omega), j3, fun _ _ => by omega⟩
    · rename_i hd
      refine ⟨fun e he => (by cases he), fun x hx => ?_⟩
      cases hx
      exact ⟨Nat.le_refl _, fun z => z, hv, fun z => absurd z hd⟩
/-- what the component's reader shows -/
def pAt (T : TS) (t : TP) (k : Nat) : Prop := T.1 3 2 = iI (k : Int) ∧ T.1 3 3 = iI (sg t k)
def aMv (q k : Nat) : Prop := q = 3 ∧ (k = 2 ∨ k = 3)
theorem hTp.fr {T T' : TS} {t : TP} {A : Nat → Nat → Prop} (h : hTp T t) (hf : FrI A T T') (hA : ∀ q k, A q k → q = 3 ∨ q = 4) : hTp T' t := by
  refine ⟨?_, fun k hk => ?_⟩
  · rw [hf.1 _ _ (fun z => by have := hA _ _ z; omega)]; exact h.1
  · rw [hf.1 _ _ (fun z => by have := hA _ _ z; omega)]; exact h.2 k hk
set_option maxHeartbeats 1000000 in
theorem c_move {T : TS} {t : TP} (ht : okTp t) (hT : hTp T t) {k : Nat} (hk : k ≤ 161) (hp : T.1 3 2 = iI ((k : Int) - 1)) : ∃ T', cl k_Reader_move [.ref 3] (enc T) = some (none, enc T') ∧ FrI aMv T T' ∧ pAt T' t k := by
  have h1 := hT.1
  have hl := ht.1
  have ek : (k : Int) - 1 + 1 = (k : Int) := by omega
  have n0 : ¬ (k : Int) < 0 := by omega
  have ekn : ((k : Int)).toNat = k := by omega
  refine ⟨sI (sI T 3 2 (iI (k : Int))) 3 3 (iI (sg t k)), ?_, ((FrI.rf aMv T).wr _ ⟨rfl, by omega⟩).wr _ ⟨rfl, by omega⟩, ?_, ?_⟩
  · by_cases c : k < t.1
    · have c1 : ¬ (t.1 : Int) ≤ (k : Int) := by omega
      have c2 : ¬ (160 : Int) ≤ (k : Int) := by omega
      have hb := hT.2 k c
      have es : sg t k = t.2 k := if_pos c
      rw [es]
      simp (disch := first | omega | assumption | decide | (simp (disch := omega) only [iI_lit, iJ_lit, iJ_eq, iI_eq, bI_01, bI_01I] <;> omega)) only [c_Reader_move, e_Reader_move_0, e_Reader_move_1, e_Reader_move_2, e_Reader_move_5, e_Reader_move_6, e_Reader_move_7, e_Reader_move_10, e_Reader_move_11, e_Reader_move_12, e_Reader_move_15, e_Reader_move_18, e_Reader_move_19, e_Reader_move_22, e_Reader_move_23, e_Reader_move_26, e_Reader_move_29, e_Reader_move_32, e_Reader_move_33, e_Reader_move_36, e_Reader_move_39, e_Reader_move_42, e_Reader_move_43, e_Reader_move_46, e_Reader_move_49, e_Reader_move_50, e_Reader_move_53, e_Reader_move_54, e_Reader_move_57, e_Reader_move_58, e_Reader_move_61, bd_some, bd_none, Option.toList_some, Option.toList_none, List.nil_append, List.cons_append, px_kill_int, px_kill_long, px_kill_ref, px_kill_null, iI_lit, iJ_lit, iI_add, iI_sub, iI_mul, iI_neg, iJ_add, iJ_sub, iJ_mul, iJ_neg, iI_lt, iI_le, iI_eq, iJ_lt, iJ_le, iJ_eq, iI_div, iJ_div, tdiv_tmod, iI_J, iJ_I, iI_ix, iI_toInt, iJ_toInt, cmp_ge, cmp_lt, cmp_eq, cmp_gt, cmp_le, cmp_geI, cmp_ltI, cmp_eqI, cmp_gtI, cmp_leI, bI_0I, bI_1I, pin, if_true, sI_get, sJ_get, sI_2, sJ_1, sJ_22, sR_1, sR_21, Nat.reduceEqDiff, and_true, true_and, and_false, false_and, and_self, if_true, if_false, reduceIte, sh_n3, sh_n1, sh_n2, hp, h1, ek, n0, c1, c2, if_false, ekn, hb]
    · have c1 : (t.1 : Int) ≤ (k : Int) := by omega
      have es : sg t k = -1 := if_neg c
      rw [es]
      simp (disch := first | omega | assumption | decide | (simp (disch := omega) only [iI_lit, iJ_lit, iJ_eq, iI_eq, bI_01, bI_01I] <;> omega)) only [c_Reader_move, e_Reader_move_0, e_Reader_move_1, e_Reader_move_2, e_Reader_move_5, e_Reader_move_6, e_Reader_move_7, e_Reader_move_10, e_Reader_move_11, e_Reader_move_12, e_Reader_move_15, e_Reader_move_18, e_Reader_move_19, e_Reader_move_22, e_Reader_move_23, e_Reader_move_26, e_Reader_move_29, e_Reader_move_32, e_Reader_move_33, e_Reader_move_36, e_Reader_move_39, e_Reader_move_42, e_Reader_move_43, e_Reader_move_46, e_Reader_move_49, e_Reader_move_50, e_Reader_move_53, e_Reader_move_54, e_Reader_move_57, e_Reader_move_58, e_Reader_move_61, bd_some, bd_none, Option.toList_some, Option.toList_none, List.nil_append, List.cons_append, px_kill_int, px_kill_long, px_kill_ref, px_kill_null, iI_lit, iJ_lit, iI_add, iI_sub, iI_mul, iI_neg, iJ_add, iJ_sub, iJ_mul, iJ_neg, iI_lt, iI_le, iI_eq, iJ_lt, iJ_le, iJ_eq, iI_div, iJ_div, tdiv_tmod, iI_J, iJ_I, iI_ix, iI_toInt, iJ_toInt, cmp_ge, cmp_lt, cmp_eq, cmp_gt, cmp_le, cmp_geI, cmp_ltI, cmp_eqI, cmp_gtI, cmp_leI, bI_0I, bI_1I, pin, if_true, sI_get, sJ_get, sI_2, sJ_1, sJ_22, sR_1, sR_21, Nat.reduceEqDiff, and_true, true_and, and_false, false_and, and_self, if_true, if_false, reduceIte, sh_n3, sh_n1, sh_n2, hp, h1, ek, n0, c1, if_false]
  · simp only [sI_get, sJ_get, sI_2, sJ_1, sJ_22, sR_1, sR_21, Nat.reduceEqDiff, and_true, true_and, and_false, false_and, and_self, if_true, if_false, reduceIte]
  · simp only [sI_get, sJ_get, sI_2, sJ_1, sJ_22, sR_1, sR_21, Nat.reduceEqDiff, and_true, true_and, and_false, false_and, and_self, if_true, if_false, reduceIte]
set_option maxHeartbeats 1000000 in
theorem lp_rpass {t : TP} (ht : okTp t) : ∀ k, ∀ (i : Nat) (T : TS), k ≤ 160 → i ≤ k → hTp T t → pAt T t k → ∃ T', rn k_Reader_pass 6 [.ref 3, .int (iI (i : Int))] [] (enc T) = some (none, enc T') ∧ FrI aMv T T' ∧ pAt T' t (SK t k) := by
  apply SK_ind ht
  · intro k hs i T hk hi hT hp
    rw [SK_no hs]
    obtain ⟨_, h2⟩ := id hp
    have bs := sg_bd ht k
    refine ⟨T, ?_, FrI.rf _ _, hp⟩
    rw [e_Reader_pass_6]
    by_cases c : (160 : Int) ≤ (i : Int)
    · simp (disch := first | omega | assumption | decide | (simp (disch := omega) only [iI_lit, iJ_lit, iJ_eq, iI_eq, bI_01, bI_01I] <;> omega)) only [e_Reader_pass_7, e_Reader_pass_10, e_Reader_pass_13, e_Reader_pass_14, e_Reader_pass_17, e_Reader_pass_19, e_Reader_pass_22, e_Reader_pass_23, e_Reader_pass_26, e_Reader_pass_29, e_Reader_pass_32, bd_some, bd_none, Option.toList_some, Option.toList_none, List.nil_append, List.cons_append, px_kill_int, px_kill_long, px_kill_ref, px_kill_null, iI_lit, iJ_lit, iI_add, iI_sub, iI_mul, iI_neg, iJ_add, iJ_sub, iJ_mul, iJ_neg, iI_lt, iI_le, iI_eq, iJ_lt, iJ_le, iJ_eq, iI_div, iJ_div, tdiv_tmod, iI_J, iJ_I, iI_ix, iI_toInt, iJ_toInt, cmp_ge, cmp_lt, cmp_eq, cmp_gt, cmp_le, cmp_geI, cmp_ltI, cmp_eqI, cmp_gtI, cmp_leI, bI_0I, bI_1I, pin, if_true, c]
    · simp (disch := first | omega | assumption | decide | (simp (disch := omega) only [iI_lit, iJ_lit, iJ_eq, iI_eq, bI_01, bI_01I] <;> omega)) only [e_Reader_pass_7, e_Reader_pass_10, e_Reader_pass_13, e_Reader_pass_14, e_Reader_pass_17, e_Reader_pass_19, e_Reader_pass_22, e_Reader_pass_23, e_Reader_pass_26, e_Reader_pass_29, e_Reader_pass_32, bd_some, bd_none, Option.toList_some, Option.toList_none, List.nil_append, List.cons_append, px_kill_int, px_kill_long, px_kill_ref, px_kill_null, iI_lit, iJ_lit, iI_add, iI_sub, iI_mul, iI_neg, iJ_add, iJ_sub, iJ_mul, iJ_neg, iI_lt, iI_le, iI_eq, iJ_lt, iJ_le, iJ_eq, iI_div, iJ_div, tdiv_tmod, iI_J, iJ_I, iI_ix, iI_toInt, iJ_toInt, cmp_ge, cmp_lt, cmp_eq, cmp_gt, cmp_le, cmp_geI, cmp_ltI, cmp_eqI, cmp_gtI, cmp_leI, bI_0I, bI_1I, pin, if_true, c, if_false, sh_n3, h2, hs]
  · intro k hkt hs ih i T hk hi hT hp
    rw [SK_bl ht hs]
    obtain ⟨h1, h2⟩ := id hp
    have hl := ht.1
    have c : ¬ (160 : Int) ≤ (i : Int) := by omega
    obtain ⟨T1, e1, f1, p1⟩ := c_move ht hT (k := k + 1) (by omega) (by rw [h1, show ((k + 1 : Nat) : Int) - 1 = (k : Int) by omega])
    obtain ⟨T2, e2, f2, p2⟩ := ih (i + 1) T1 (by omega) (by omega) (hT.fr f1 (fun q k z => Or.inl z.1)) p1
    refine ⟨T2, ?_, f1.tr f2, p2⟩
    rw [e_Reader_pass_6]
    rw [hs] at h2
    simp (disch := first | omega | assumption | decide | (simp (disch := omega) only [iI_lit, iJ_lit, iJ_eq, iI_eq, bI_01, bI_01I] <;> omega)) only [e_Reader_pass_7, e_Reader_pass_10, e_Reader_pass_13, e_Reader_pass_14, e_Reader_pass_17, e_Reader_pass_19, e_Reader_pass_22, e_Reader_pass_23, e_Reader_pass_26, e_Reader_pass_29, bd_some, bd_none, Option.toList_some, Option.toList_none, List.nil_append, List.cons_append, px_kill_int, px_kill_long, px_kill_ref, px_kill_null, iI_lit, iJ_lit, iI_add, iI_sub, iI_mul, iI_neg, iJ_add, iJ_sub, iJ_mul, iJ_neg, iI_lt, iI_le, iI_eq, iJ_lt, iJ_le, iJ_eq, iI_div, iJ_div, tdiv_tmod, iI_J, iJ_I, iI_ix, iI_toInt, iJ_toInt, cmp_ge, cmp_lt, cmp_eq, cmp_gt, cmp_le, cmp_geI, cmp_ltI, cmp_eqI, cmp_gtI, cmp_leI, bI_0I, bI_1I, pin, if_true, c, if_false, sh_n3, h2, e1]
    rw [show (i : Int) + 1 = ((i + 1 : Nat) : Int) by omega]
    exact e2
/-- on to k, and over blanks -/
theorem c_pass' {T : TS} {t : TP} (ht : okTp t) (hT : hTp T t) {k : Nat} (hk : k ≤ 160) (hp : T.1 3 2 = iI ((k : Int) - 1)) : ∃ T', cl k_Reader_pass [.ref 3] (enc T) = some (none, enc T') ∧ FrI aMv T T' ∧ pAt T' t (SK t k) := by
  obtain ⟨T1, e1, f1, p1⟩ := c_move ht hT (k := k) (by omega) hp
  obtain ⟨T2, e2, f2, p2⟩ := lp_rpass ht k 0 T1 hk (by omega) (hT.fr f1 (fun q k z => Or.inl z.1)) p1
  refine ⟨T2, ?_, f1.tr f2, p2⟩
  simp (disch := first | omega | assumption | decide | (simp (disch := omega) only [iI_lit, iJ_lit, iJ_eq, iI_eq, bI_01, bI_01I] <;> omega)) only [c_Reader_pass, e_Reader_pass_0, e_Reader_pass_1, e_Reader_pass_4, e_Reader_pass_5, bd_some, bd_none, Option.toList_some, Option.toList_none, List.nil_append, List.cons_append, px_kill_int, px_kill_long, px_kill_ref, px_kill_null, iI_lit, iJ_lit, iI_add, iI_sub, iI_mul, iI_neg, iJ_add, iJ_sub, iJ_mul, iJ_neg, iI_lt, iI_le, iI_eq, iJ_lt, iJ_le, iJ_eq, iI_div, iJ_div, tdiv_tmod, iI_J, iJ_I, iI_ix, iI_toInt, iJ_toInt, cmp_ge, cmp_lt, cmp_eq, cmp_gt, cmp_le, cmp_geI, cmp_ltI, cmp_eqI, cmp_gtI, cmp_leI, bI_0I, bI_1I, pin, if_true, sh_n3, e1]
  exact e2
theorem c_passN {T : TS} {t : TP} (ht : okTp t) (hT : hTp T t) {k : Nat} (hk : k + 1 ≤ 160) (hp : pAt T t k) : ∃ T', cl k_Reader_pass [.ref 3] (enc T) = some (none, enc T') ∧ FrI aMv T T' ∧ pAt T' t (SK t (k + 1)) := c_pass' ht hT hk (by rw [hp.1, show ((k + 1 : Nat) : Int) - 1 = (k : Int) by omega])
theorem c_failAt {T : TS} (e : Int32) : cl k_Reader_failAt [.ref 3, .int e] (enc T) = some (some (.int (iI 0)), enc (sI T 3 5 e)) := by
  simp (disch := first | omega | assumption | decide | (simp (disch := omega) only [iI_lit, iJ_lit, iJ_eq, iI_eq, bI_01, bI_01I] <;> omega)) only [c_Reader_failAt, e_Reader_failAt_0, e_Reader_failAt_1, e_Reader_failAt_2, e_Reader_failAt_5, e_Reader_failAt_6, bd_some, bd_none, Option.toList_some, Option.toList_none, List.nil_append, List.cons_append, px_kill_int, px_kill_long, px_kill_ref, px_kill_null, iI_lit, iJ_lit, iI_add, iI_sub, iI_mul, iI_neg, iJ_add, iJ_sub, iJ_mul, iJ_neg, iI_lt, iI_le, iI_eq, iJ_lt, iJ_le, iJ_eq, iI_div, iJ_div, tdiv_tmod, iI_J, iJ_I, iI_ix, iI_toInt, iJ_toInt, cmp_ge, cmp_lt, cmp_eq, cmp_gt, cmp_le, cmp_geI, cmp_ltI, cmp_eqI, cmp_gtI, cmp_leI, bI_0I, bI_1I, pin, if_true, sh_n3]
theorem c_tell {T : TS} {c w : Nat} (hc : c < 4) (hw : w < 8) (hC : T.1 3 4 = iI (c : Int)) (v : Int32) : cl k_Reader_tell [.ref 3, .int (iI (w : Int)), .int v] (enc T) = some (none, enc (sI T 4 (8 * c + w) v)) := by
  have e32 : Int32.ofNat 32 = iI 32 := by decide
  have e1 : (c : Int) * 8 + (w : Int) = ((8 * c + w : Nat) : Int) := by omega
  have n0 : ¬ ((8 * c + w : Nat) : Int) < 0 := by omega
  have n1 : ¬ 32 ≤ ((8 * c + w : Nat) : Int) := by omega
  have e2 : (((8 * c + w : Nat) : Int)).toNat = 8 * c + w := by omega
  simp (disch := first | omega | assumption | decide | (simp (disch := omega) only [iI_lit, iJ_lit, iJ_eq, iI_eq, bI_01, bI_01I] <;> omega)) only [c_Reader_tell, e_Reader_tell_0, e_Reader_tell_1, e_Reader_tell_4, e_Reader_tell_6, e_Reader_tell_7, e_Reader_tell_8, e_Reader_tell_9, e_Reader_tell_10, e_Reader_tell_11, e_Reader_tell_14, e_Reader_tell_15, e_Reader_tell_16, e_Reader_tell_19, e_Reader_tell_20, e_Reader_tell_23, e_Reader_tell_24, e_Reader_tell_27, e_Reader_tell_28, e_Reader_tell_29, e_Reader_tell_30, bd_some, bd_none, Option.toList_some, Option.toList_none, List.nil_append, List.cons_append, px_kill_int, px_kill_long, px_kill_ref, px_kill_null, iI_lit, iJ_lit, iI_add, iI_sub, iI_mul, iI_neg, iJ_add, iJ_sub, iJ_mul, iJ_neg, iI_lt, iI_le, iI_eq, iJ_lt, iJ_le, iJ_eq, iI_div, iJ_div, tdiv_tmod, iI_J, iJ_I, iI_ix, iI_toInt, iJ_toInt, cmp_ge, cmp_lt, cmp_eq, cmp_gt, cmp_le, cmp_geI, cmp_ltI, cmp_eqI, cmp_gtI, cmp_leI, bI_0I, bI_1I, pin, if_true, sh_n3, sh_n4, hC, e32, e1, n0, n1, if_false, e2]
