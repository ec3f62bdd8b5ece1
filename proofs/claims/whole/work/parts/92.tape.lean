/-! the tape: feed and end on both sides. -/
theorem and255 (x : Int32) : 0 ≤ (x &&& iI 255).toInt ∧ (x &&& iI 255).toInt ≤ 255 := by
  have e : (x &&& iI 255).toInt = (x.toBitVec &&& (iI 255).toBitVec).toInt := rfl
  have h : (x.toBitVec &&& (iI 255).toBitVec).toNat ≤ 255 := by
    rw [BitVec.toNat_and]
    exact Nat.le_trans Nat.and_le_right (by decide)
  rw [e, BitVec.toInt_eq_toNat_of_lt (by omega)]
  omega
abbrev TP : Type := Nat × (Nat → Int)
def byk (w : Int32) (r : Nat) : Int := ((w >>> (iI (24 - 8 * (r : Int)) &&& iI 31)) &&& iI 255).toInt
theorem byk_bd (w : Int32) (r : Nat) : 0 ≤ byk w r ∧ byk w r ≤ 255 := and255 _
theorem byk_eq (w : Int32) (r : Nat) : (w >>> (iI (24 - 8 * (r : Int)) &&& iI 31)) &&& iI 255 = iI (byk w r) := (iI_of _).symm
theorem byk_0 (w : Int32) : (w >>> (iI 24 &&& iI 31)) &&& iI 255 = iI (byk w 0) := byk_eq w 0
theorem byk_1 (w : Int32) : (w >>> (iI 16 &&& iI 31)) &&& iI 255 = iI (byk w 1) := byk_eq w 1
theorem byk_2 (w : Int32) : (w >>> (iI 8 &&& iI 31)) &&& iI 255 = iI (byk w 2) := byk_eq w 2
theorem byk_3 (w : Int32) : (w >>> (iI 0 &&& iI 31)) &&& iI 255 = iI (byk w 3) := byk_eq w 3
def psh (t : TP) (b : Int) : TP := if b = 0 then t else (t.1 + 1, fun i => if i = t.1 then b else t.2 i)
def psN (t : TP) (b : Nat → Int) : Nat → TP
  | 0 => t
  | n + 1 => psh (psN t b n) (b n)
def nz (b : Int) : Int := if b = 0 then 0 else 1
def cnN (b : Nat → Int) : Nat → Int
  | 0 => 0
  | n + 1 => cnN b n + nz (b n)
theorem nz_bd (b : Int) : 0 ≤ nz b ∧ nz b ≤ 1 := by unfold nz; split <;> omega
theorem cnN_bd (b : Nat → Int) : ∀ n, 0 ≤ cnN b n ∧ cnN b n ≤ n := by
  intro n
  induction n with
  | zero => exact ⟨Int.le_refl 0, Int.le_refl 0⟩
  | succ n ih => have := nz_bd (b n); unfold cnN; omega
theorem psh_len (t : TP) (b : Int) : ((psh t b).1 : Int) = t.1 + nz b := by
  unfold psh nz
  split
  · omega
  · show ((t.1 + 1 : Nat) : Int) = _; omega
theorem psN_len (t : TP) (b : Nat → Int) : ∀ n, ((psN t b n).1 : Int) = t.1 + cnN b n := by
  intro n
  induction n with
  | zero => show (t.1 : Int) = t.1 + 0; omega
  | succ n ih => show ((psh (psN t b n) (b n)).1 : Int) = t.1 + (cnN b n + nz (b n)); rw [psh_len, ih]; omega
theorem psN_add (t : TP) (b : Nat → Int) (m : Nat) : ∀ n, psN t b (m + n) = psN (psN t b m) (fun i => b (m + i)) n := by
  intro n
  induction n with
  | zero => rfl
  | succ n ih => show psh (psN t b (m + n)) (b (m + n)) = psh _ _; rw [ih]
theorem cnN_add (b : Nat → Int) (m : Nat) : ∀ n, cnN b (m + n) = cnN b m + cnN (fun i => b (m + i)) n := by
  intro n
  induction n with
  | zero => show cnN b m = cnN b m + 0; omega
  | succ n ih => show cnN b (m + n) + nz (b (m + n)) = cnN b m + (cnN (fun i => b (m + i)) n + nz (b (m + n))); omega
theorem psN_cong {t : TP} {b b' : Nat → Int} : ∀ n, (∀ i, i < n → b i = b' i) → psN t b n = psN t b' n := by
  intro n
  induction n with
  | zero => intro _; rfl
  | succ n ih => intro h; show psh _ _ = psh _ _; rw [ih (fun i hi => h i (by omega)), h n (by omega)]
theorem cnN_cong {b b' : Nat → Int} : ∀ n, (∀ i, i < n → b i = b' i) → cnN b n = cnN b' n := by
  intro n
  induction n with
  | zero => intro _; rfl
  | succ n ih => intro h; show _ + _ = _ + _; rw [ih (fun i hi => h i (by omega)), h n (by omega)]
/-- the bytes of five words -/
def bF (a b c d e : Int32) (k : Nat) : Int := byk (if k < 4 then a else if k < 8 then b else if k < 12 then c else if k < 16 then d else e) (k % 4)
theorem bF_w0 (a b c d e : Int32) : ∀ i, i < 4 → bF a b c d e i = byk a i := by
  intro i hi
  unfold bF
  rw [if_pos hi, Nat.mod_eq_of_lt hi]
theorem bF_w1 (a b c d e : Int32) : ∀ i, i < 4 → bF a b c d e (4 + i) = byk b i := by
  intro i hi
  unfold bF
  rw [if_neg (by omega), if_pos (by omega), show (4 + i) % 4 = i by omega]
theorem bF_w2 (a b c d e : Int32) : ∀ i, i < 4 → bF a b c d e (4 + (4 + i)) = byk c i := by
  intro i hi
  unfold bF
  rw [if_neg (by omega), if_neg (by omega), if_pos (by omega), show (4 + (4 + i)) % 4 = i by omega]
theorem bF_w3 (a b c d e : Int32) : ∀ i, i < 4 → bF a b c d e (4 + (4 + (4 + i))) = byk d i := by
  intro i hi
  unfold bF
  rw [if_neg (by omega), if_neg (by omega), if_neg (by omega), if_pos (by omega), show (4 + (4 + (4 + i))) % 4 = i by omega]
theorem bF_w4 (a b c d e : Int32) : ∀ i, i < 4 → bF a b c d e (4 + (4 + (4 + (4 + i)))) = byk e i := by
  intro i hi
  unfold bF
  rw [if_neg (by omega), if_neg (by omega), if_neg (by omega), if_neg (by omega), show (4 + (4 + (4 + (4 + i)))) % 4 = i by omega]
theorem bF_cnt (a b c d e : Int32) : cnN (bF a b c d e) 20 = cnN (byk a) 4 + cnN (byk b) 4 + cnN (byk c) 4 + cnN (byk d) 4 + cnN (byk e) 4 := by
  have h1 := cnN_add (bF a b c d e) 4 16
  have h2 := cnN_add (fun i => bF a b c d e (4 + i)) 4 12
  have h3 := cnN_add (fun i => bF a b c d e (4 + (4 + i))) 4 8
  have h4 := cnN_add (fun i => bF a b c d e (4 + (4 + (4 + i)))) 4 4
  rw [h1, h2, h3, h4, cnN_cong 4 (bF_w0 a b c d e), cnN_cong (b' := byk b) 4 (bF_w1 a b c d e), cnN_cong (b' := byk c) 4 (bF_w2 a b c d e), cnN_cong (b' := byk d) 4 (bF_w3 a b c d e), cnN_cong (b' := byk e) 4 (bF_w4 a b c d e)]
  omega
theorem bF_psh (t : TP) (a b c d e : Int32) : psN t (bF a b c d e) 20 = psN (psN (psN (psN (psN t (byk a) 4) (byk b) 4) (byk c) 4) (byk d) 4) (byk e) 4 := by
  have h1 := psN_add t (bF a b c d e) 4 16
  have h2 := psN_add (psN t (bF a b c d e) 4) (fun i => bF a b c d e (4 + i)) 4 12
  have h3 := psN_add (psN (psN t (bF a b c d e) 4) (fun i => bF a b c d e (4 + i)) 4) (fun i => bF a b c d e (4 + (4 + i))) 4 8
  have h4 := psN_add (psN (psN (psN t (bF a b c d e) 4) (fun i => bF a b c d e (4 + i)) 4) (fun i => bF a b c d e (4 + (4 + i))) 4) (fun i => bF a b c d e (4 + (4 + (4 + i)))) 4 4
  rw [h1, h2, h3, h4, psN_cong 4 (bF_w0 a b c d e), psN_cong (b' := byk b) 4 (bF_w1 a b c d e), psN_cong (b' := byk c) 4 (bF_w2 a b c d e), psN_cong (b' := byk d) 4 (bF_w3 a b c d e), psN_cong (b' := byk e) 4 (bF_w4 a b c d e)]
def rFeed (S : FS) (a b c d e : Int32) : FS × Int := if 160 < (S.2.1.1 : Int) + cnN (bF a b c d e) 20 then (S, -1) else ((S.1, psN S.2.1 (bF a b c d e) 20, S.2.2), ((psN S.2.1 (bF a b c d e) 20).1 : Int))
theorem psN_ok {t : TP} {b : Nat → Int} (hb : ∀ i, 0 ≤ b i ∧ b i ≤ 255) (h : ∀ k, k < t.1 → 1 ≤ t.2 k ∧ t.2 k ≤ 255) : ∀ n k, k < (psN t b n).1 → 1 ≤ (psN t b n).2 k ∧ (psN t b n).2 k ≤ 255 := by
  intro n
  induction n with
  | zero => exact h
  | succ n ih =>
    intro k hk
    have hs : psN t b (n + 1) = psh (psN t b n) (b n) := rfl
    rw [hs] at hk ⊢
    unfold psh at hk ⊢
    by_cases c : b n = 0
    · rw [if_pos c] at hk ⊢; exact ih k hk
    · rw [if_neg c] at hk ⊢
      simp only at hk ⊢
      by_cases e : k = (psN t b n).1
      · rw [if_pos e]; have := hb n; omega
      · rw [if_neg e]; exact ih k (by omega)
theorem rFeed_ok {S : FS} (h : okF S) (a b c d e : Int32) : okF (rFeed S a b c d e).1 := by
  unfold rFeed
  split
  · exact h
  · rename_i hc
    have hl := psN_len S.2.1 (bF a b c d e) 20
    refine ⟨h.1, ?_, psN_ok (fun i => byk_bd _ _) h.2.2 20⟩
    show (psN S.2.1 (bF a b c d e) 20).1 ≤ 160
    omega
/-! the component -/
set_option maxHeartbeats 1000000 in
theorem st_bin (w : Int32) (n s : Int) (hs : 0 ≤ s ∧ s ≤ 24) {b : Int} (hb : 0 ≤ b ∧ b ≤ 255) (e : (w >>> (iI s &&& iI 31)) &&& iI 255 = iI b) (g : px_G) : rn k_Ds_bytesIn 5 [.int w, .int (iI n), .int (iI s)] [] g = rn k_Ds_bytesIn 5 [.int w, .int (iI (n + nz b)), .int (iI (s - 8))] [] g := by
  have c0 : ¬ s < 0 := by omega
  have e8 : s + -8 = s - 8 := by omega
  unfold nz
  rw [e_Ds_bytesIn_5]
  by_cases c : b = 0
  · subst c
    rw [if_pos rfl]
    simp (disch := first | omega | assumption | decide | (simp (disch := omega) only [iI_lit, iJ_lit, iJ_eq, iI_eq, bI_01, bI_01I] <;> omega)) only [e_Ds_bytesIn_6, e_Ds_bytesIn_9, e_Ds_bytesIn_10, e_Ds_bytesIn_11, e_Ds_bytesIn_12, e_Ds_bytesIn_15, e_Ds_bytesIn_16, e_Ds_bytesIn_19, e_Ds_bytesIn_22, e_Ds_bytesIn_25, bd_some, bd_none, Option.toList_some, Option.toList_none, List.nil_append, List.cons_append, px_kill_int, px_kill_long, px_kill_ref, px_kill_null, iI_lit, iJ_lit, iI_add, iI_sub, iI_mul, iI_neg, iJ_add, iJ_sub, iJ_mul, iJ_neg, iI_lt, iI_le, iI_eq, iJ_lt, iJ_le, iJ_eq, iI_div, iJ_div, tdiv_tmod, iI_J, iJ_I, iI_ix, iI_toInt, iJ_toInt, cmp_ge, cmp_lt, cmp_eq, cmp_gt, cmp_le, cmp_geI, cmp_ltI, cmp_eqI, cmp_gtI, cmp_leI, bI_0I, bI_1I, pin, if_true, c0, if_false, e, Int.add_zero, e8]
  · rw [if_neg c]
    simp (disch := first | omega | assumption | decide | (simp (disch := omega) only [iI_lit, iJ_lit, iJ_eq, iI_eq, bI_01, bI_01I] <;> omega)) only [e_Ds_bytesIn_6, e_Ds_bytesIn_9, e_Ds_bytesIn_10, e_Ds_bytesIn_11, e_Ds_bytesIn_12, e_Ds_bytesIn_15, e_Ds_bytesIn_16, e_Ds_bytesIn_19, e_Ds_bytesIn_22, e_Ds_bytesIn_25, bd_some, bd_none, Option.toList_some, Option.toList_none, List.nil_append, List.cons_append, px_kill_int, px_kill_long, px_kill_ref, px_kill_null, iI_lit, iJ_lit, iI_add, iI_sub, iI_mul, iI_neg, iJ_add, iJ_sub, iJ_mul, iJ_neg, iI_lt, iI_le, iI_eq, iJ_lt, iJ_le, iJ_eq, iI_div, iJ_div, tdiv_tmod, iI_J, iJ_I, iI_ix, iI_toInt, iJ_toInt, cmp_ge, cmp_lt, cmp_eq, cmp_gt, cmp_le, cmp_geI, cmp_ltI, cmp_eqI, cmp_gtI, cmp_leI, bI_0I, bI_1I, pin, if_true, c0, if_false, e, c, e8]
theorem s_bytesIn (w : Int32) (g : px_G) : cl k_Ds_bytesIn [.int w] g = some (some (.int (iI (cnN (byk w) 4))), g) := by
  have h1 := st_bin w 0 24 (by omega) (byk_bd w 0) (byk_0 w) g
  have h2 := st_bin w (0 + nz (byk w 0)) 16 (by omega) (byk_bd w 1) (byk_1 w) g
  have h3 := st_bin w (0 + nz (byk w 0) + nz (byk w 1)) 8 (by omega) (byk_bd w 2) (byk_2 w) g
  have h4 := st_bin w (0 + nz (byk w 0) + nz (byk w 1) + nz (byk w 2)) 0 (by omega) (byk_bd w 3) (byk_3 w) g
  simp (disch := first | omega | assumption | decide | (simp (disch := omega) only [iI_lit, iJ_lit, iJ_eq, iI_eq, bI_01, bI_01I] <;> omega)) only [c_Ds_bytesIn, e_Ds_bytesIn_0, e_Ds_bytesIn_1, e_Ds_bytesIn_2, e_Ds_bytesIn_4, bd_some, bd_none, Option.toList_some, Option.toList_none, List.nil_append, List.cons_append, px_kill_int, px_kill_long, px_kill_ref, px_kill_null, iI_lit, iJ_lit, iI_add, iI_sub, iI_mul, iI_neg, iJ_add, iJ_sub, iJ_mul, iJ_neg, iI_lt, iI_le, iI_eq, iJ_lt, iJ_le, iJ_eq, iI_div, iJ_div, tdiv_tmod, iI_J, iJ_I, iI_ix, iI_toInt, iJ_toInt, cmp_ge, cmp_lt, cmp_eq, cmp_gt, cmp_le, cmp_geI, cmp_ltI, cmp_eqI, cmp_gtI, cmp_leI, bI_0I, bI_1I, pin, if_true]
  refine h1.trans (Eq.trans ?_ (h2.trans (Eq.trans ?_ (h3.trans (Eq.trans ?_ (h4.trans ?_))))))
  · rfl
  · rfl
  · rfl
  · have c0 : (0 : Int) - 8 < 0 := by omega
    rw [e_Ds_bytesIn_5]
    simp (disch := first | omega | assumption | decide | (simp (disch := omega) only [iI_lit, iJ_lit, iJ_eq, iI_eq, bI_01, bI_01I] <;> omega)) only [e_Ds_bytesIn_6, e_Ds_bytesIn_9, e_Ds_bytesIn_10, e_Ds_bytesIn_11, e_Ds_bytesIn_12, e_Ds_bytesIn_15, e_Ds_bytesIn_16, e_Ds_bytesIn_19, e_Ds_bytesIn_22, e_Ds_bytesIn_25, e_Ds_bytesIn_28, e_Ds_bytesIn_29, bd_some, bd_none, Option.toList_some, Option.toList_none, List.nil_append, List.cons_append, px_kill_int, px_kill_long, px_kill_ref, px_kill_null, iI_lit, iJ_lit, iI_add, iI_sub, iI_mul, iI_neg, iJ_add, iJ_sub, iJ_mul, iJ_neg, iI_lt, iI_le, iI_eq, iJ_lt, iJ_le, iJ_eq, iI_div, iJ_div, tdiv_tmod, iI_J, iJ_I, iI_ix, iI_toInt, iJ_toInt, cmp_ge, cmp_lt, cmp_eq, cmp_gt, cmp_le, cmp_geI, cmp_ltI, cmp_eqI, cmp_gtI, cmp_leI, bI_0I, bI_1I, pin, if_true, c0]
    rfl
def hTp (T : TS) (t : TP) : Prop := T.1 1 1 = iI (t.1 : Int) ∧ ∀ k, k < t.1 → T.1 2 k = iI (t.2 k)
def aTp (q k : Nat) : Prop := (q = 1 ∧ k = 1) ∨ q = 2
set_option maxHeartbeats 1000000 in
theorem st_tput (w : Int32) (s : Int) (hs : 0 ≤ s ∧ s ≤ 24) {b : Int} (hb : 0 ≤ b ∧ b ≤ 255) (e : (w >>> (iI s &&& iI 31)) &&& iI 255 = iI b) {T : TS} {t : TP} (ht : hTp T t) (hl : (t.1 : Int) + nz b ≤ 160) (a3 : Value) : ∃ T', rn k_Tape_put 3 [.ref 1, .int w, .int (iI s), a3] [] (enc T) = rn k_Tape_put 3 [.ref 1, .int w, .int (iI (s - 8)), .int (iI b)] [] (enc T') ∧ FrI aTp T T' ∧ hTp T' (psh t b) := by
  have c0 : ¬ s < 0 := by omega
  have e8 : s + -8 = s - 8 := by omega
  have hlen := ht.1
  have e160 : Int32.ofNat 160 = iI 160 := by decide
  unfold nz at hl
  unfold psh
  by_cases c : b = 0
  · subst c
    rw [if_pos rfl]
    refine ⟨T, ?_, FrI.rf _ _, ht⟩
    rw [e_Tape_put_3]
    simp (disch := first | omega | assumption | decide | (simp (disch := omega) only [iI_lit, iJ_lit, iJ_eq, iI_eq, bI_01, bI_01I] <;> omega)) only [e_Tape_put_4, e_Tape_put_7, e_Tape_put_8, e_Tape_put_9, e_Tape_put_10, e_Tape_put_13, e_Tape_put_14, e_Tape_put_15, e_Tape_put_16, e_Tape_put_19, e_Tape_put_20, e_Tape_put_23, e_Tape_put_26, e_Tape_put_27, e_Tape_put_30, e_Tape_put_31, e_Tape_put_34, e_Tape_put_35, e_Tape_put_38, e_Tape_put_39, e_Tape_put_42, e_Tape_put_43, e_Tape_put_46, e_Tape_put_47, e_Tape_put_48, e_Tape_put_49, e_Tape_put_50, e_Tape_put_53, e_Tape_put_54, e_Tape_put_55, e_Tape_put_58, e_Tape_put_61, bd_some, bd_none, Option.toList_some, Option.toList_none, List.nil_append, List.cons_append, px_kill_int, px_kill_long, px_kill_ref, px_kill_null, iI_lit, iJ_lit, iI_add, iI_sub, iI_mul, iI_neg, iJ_add, iJ_sub, iJ_mul, iJ_neg, iI_lt, iI_le, iI_eq, iJ_lt, iJ_le, iJ_eq, iI_div, iJ_div, tdiv_tmod, iI_J, iJ_I, iI_ix, iI_toInt, iJ_toInt, cmp_ge, cmp_lt, cmp_eq, cmp_gt, cmp_le, cmp_geI, cmp_ltI, cmp_eqI, cmp_gtI, cmp_leI, bI_0I, bI_1I, pin, if_true, c0, if_false, e, e8]
  · rw [if_neg c] at hl ⊢
    have n0 : ¬ (t.1 : Int) < 0 := by omega
    have n1 : ¬ 160 ≤ (t.1 : Int) := by omega
    have et : ((t.1 : Int)).toNat = t.1 := by omega
    refine ⟨sI (sI T 2 t.1 (iI b)) 1 1 (iI ((t.1 : Int) + 1)), ?_, ((FrI.rf aTp T).wr _ (Or.inr rfl)).wr _ (Or.inl ⟨rfl, rfl⟩), ?_, fun k hk => ?_⟩
    · rw [e_Tape_put_3]
      simp (disch := first | omega | assumption | decide | (simp (disch := omega) only [iI_lit, iJ_lit, iJ_eq, iI_eq, bI_01, bI_01I] <;> omega)) only [e_Tape_put_4, e_Tape_put_7, e_Tape_put_8, e_Tape_put_9, e_Tape_put_10, e_Tape_put_13, e_Tape_put_14, e_Tape_put_15, e_Tape_put_16, e_Tape_put_19, e_Tape_put_20, e_Tape_put_23, e_Tape_put_26, e_Tape_put_27, e_Tape_put_30, e_Tape_put_31, e_Tape_put_34, e_Tape_put_35, e_Tape_put_38, e_Tape_put_39, e_Tape_put_42, e_Tape_put_43, e_Tape_put_46, e_Tape_put_47, e_Tape_put_48, e_Tape_put_49, e_Tape_put_50, e_Tape_put_53, e_Tape_put_54, e_Tape_put_55, e_Tape_put_58, e_Tape_put_61, bd_some, bd_none, Option.toList_some, Option.toList_none, List.nil_append, List.cons_append, px_kill_int, px_kill_long, px_kill_ref, px_kill_null, iI_lit, iJ_lit, iI_add, iI_sub, iI_mul, iI_neg, iJ_add, iJ_sub, iJ_mul, iJ_neg, iI_lt, iI_le, iI_eq, iJ_lt, iJ_le, iJ_eq, iI_div, iJ_div, tdiv_tmod, iI_J, iJ_I, iI_ix, iI_toInt, iJ_toInt, cmp_ge, cmp_lt, cmp_eq, cmp_gt, cmp_le, cmp_geI, cmp_ltI, cmp_eqI, cmp_gtI, cmp_leI, bI_0I, bI_1I, pin, if_true, sI_get, sJ_get, sI_2, sJ_1, sJ_22, sR_1, sR_21, Nat.reduceEqDiff, and_true, true_and, and_false, false_and, and_self, if_true, if_false, reduceIte, c0, if_false, e, e8, c, hlen, n0, n1, sh_n1, sh_n2, e160, et]
    · show _ = iI ((t.1 + 1 : Nat) : Int)
      rw [show ((t.1 + 1 : Nat) : Int) = (t.1 : Int) + 1 by omega]
      simp only [sI_get, sJ_get, sI_2, sJ_1, sJ_22, sR_1, sR_21, Nat.reduceEqDiff, and_true, true_and, and_false, false_and, and_self, if_true, if_false, reduceIte]
    · have hk' : k < t.1 + 1 := hk
      show _ = iI (if k = t.1 then b else t.2 k)
      by_cases ek : k = t.1
      · rw [if_pos ek, ek]; simp only [sI_get, sJ_get, sI_2, sJ_1, sJ_22, sR_1, sR_21, Nat.reduceEqDiff, and_true, true_and, and_false, false_and, and_self, if_true, if_false, reduceIte]
      · rw [if_neg ek, sI_get, if_neg (by omega), sI_get, if_neg (fun z => ek z.2)]
        exact ht.2 k (by omega)
theorem s_tput (w : Int32) {T : TS} {t : TP} (ht : hTp T t) (hl : (t.1 : Int) + cnN (byk w) 4 ≤ 160) : ∃ T', cl k_Tape_put [.ref 1, .int w] (enc T) = some (none, enc T') ∧ FrI aTp T T' ∧ hTp T' (psN t (byk w) 4) := by
  have l1 := psN_len t (byk w) 1
  have l2 := psN_len t (byk w) 2
  have l3 := psN_len t (byk w) 3
  have z0 := nz_bd (byk w 0)
  have z1 := nz_bd (byk w 1)
  have z2 := nz_bd (byk w 2)
  have z3 := nz_bd (byk w 3)
  have ec : cnN (byk w) 4 = 0 + nz (byk w 0) + nz (byk w 1) + nz (byk w 2) + nz (byk w 3) := rfl
  have ec1 : cnN (byk w) 1 = 0 + nz (byk w 0) := rfl
  have ec2 : cnN (byk w) 2 = 0 + nz (byk w 0) + nz (byk w 1) := rfl
  have ec3 : cnN (byk w) 3 = 0 + nz (byk w 0) + nz (byk w 1) + nz (byk w 2) := rfl
  obtain ⟨T1, e1, f1, h1⟩ := st_tput w 24 (by omega) (byk_bd w 0) (byk_0 w) ht (by omega) .null
  obtain ⟨T2, e2, f2, h2⟩ := st_tput w 16 (by omega) (byk_bd w 1) (byk_1 w) h1 (by show ((psN t (byk w) 1).1 : Int) + _ ≤ 160; omega) (.int (iI (byk w 0)))
  obtain ⟨T3, e3, f3, h3⟩ := st_tput w 8 (by omega) (byk_bd w 2) (byk_2 w) h2 (by show ((psN t (byk w) 2).1 : Int) + _ ≤ 160; omega) (.int (iI (byk w 1)))
  obtain ⟨T4, e4, f4, h4⟩ := st_tput w 0 (by omega) (byk_bd w 3) (byk_3 w) h3 (by show ((psN t (byk w) 3).1 : Int) + _ ≤ 160; omega) (.int (iI (byk w 2)))
  refine ⟨T4, ?_, ((f1.tr f2).tr f3).tr f4, h4⟩
  simp (disch := first | omega | assumption | decide | (simp (disch := omega) only [iI_lit, iJ_lit, iJ_eq, iI_eq, bI_01, bI_01I] <;> omega)) only [c_Tape_put, e_Tape_put_0, e_Tape_put_2, bd_some, bd_none, Option.toList_some, Option.toList_none, List.nil_append, List.cons_append, px_kill_int, px_kill_long, px_kill_ref, px_kill_null, iI_lit, iJ_lit, iI_add, iI_sub, iI_mul, iI_neg, iJ_add, iJ_sub, iJ_mul, iJ_neg, iI_lt, iI_le, iI_eq, iJ_lt, iJ_le, iJ_eq, iI_div, iJ_div, tdiv_tmod, iI_J, iJ_I, iI_ix, iI_toInt, iJ_toInt, cmp_ge, cmp_lt, cmp_eq, cmp_gt, cmp_le, cmp_geI, cmp_ltI, cmp_eqI, cmp_gtI, cmp_leI, bI_0I, bI_1I, pin, if_true]
  refine e1.trans (e2.trans (e3.trans (e4.trans ?_)))
  have c0 : (0 : Int) - 8 < 0 := by omega
  rw [e_Tape_put_3]
  simp (disch := first | omega | assumption | decide | (simp (disch := omega) only [iI_lit, iJ_lit, iJ_eq, iI_eq, bI_01, bI_01I] <;> omega)) only [e_Tape_put_4, e_Tape_put_64, bd_some, bd_none, Option.toList_some, Option.toList_none, List.nil_append, List.cons_append, px_kill_int, px_kill_long, px_kill_ref, px_kill_null, iI_lit, iJ_lit, iI_add, iI_sub, iI_mul, iI_neg, iJ_add, iJ_sub, iJ_mul, iJ_neg, iI_lt, iI_le, iI_eq, iJ_lt, iJ_le, iJ_eq, iI_div, iJ_div, tdiv_tmod, iI_J, iJ_I, iI_ix, iI_toInt, iJ_toInt, cmp_ge, cmp_lt, cmp_eq, cmp_gt, cmp_le, cmp_geI, cmp_ltI, cmp_eqI, cmp_gtI, cmp_leI, bI_0I, bI_1I, pin, if_true, c0]
/-- the tape of the component changes -/
theorem fC.tape {G : GW} {T T' : TS} {S : FS} (hS : okF S) (h : fC G T S) {t : TP} (hf : FrI aTp T T') (ht : hTp T' t) : fC G T' (S.1, t, S.2.2) ∧ sepC T T' := by
  obtain ⟨h1, _, h4, h5, h6⟩ := h
  have hR : T'.2.2.1 = T.2.2.1 := by rw [hf.2]
  have hV := hS.1.1
  refine ⟨⟨?_, ht, fun k hk => ?_, ?_, fun j hj => ?_⟩, sepC.ofA (FrA.of (b := fun _ _ => False) hf) (fun q k z => by unfold aTp at z; omega) (fun q k z => z.elim)⟩
  · exact h1.out hS.1 hR (hf.1 _ _ (by unfold aTp; omega)) (fun q k q1 q2 => hf.1 _ _ (by unfold aTp; omega)) (fun q k q1 q2 => by rw [hf.2])
  · rw [hf.1 _ _ (by unfold aTp; omega)]; exact h4 k hk
  · exact h5.same (fun q k q1 q2 => hf.1 _ _ (by unfold aTp; omega))
  · have hj' : j < S.1.1 := hj
    rw [hR]
    have hp := h1.2.1 j (by omega)
    unfold isPl at hp
    exact (h6 j hj').same (hf.1 _ _ (by unfold aTp; omega)) (fun k => hf.1 _ _ (by unfold aTp; omega)) (hf.1 _ _ (by unfold aTp; omega)) (hf.1 _ _ (by unfold aTp; omega))
set_option maxHeartbeats 2000000 in
theorem u_Ds_feed {G : GW} {T : TS} {S : FS} (hS : okF S) (h : fC G T S) (a b c d e : Int32) : ∃ T', cl k_Ds_feed [.ref 0, .int a, .int b, .int c, .int d, .int e] (enc T) = some (some (.int (iI (rFeed S a b c d e).2)), enc T') ∧ fC G T' (rFeed S a b c d e).1 ∧ sepC T T' := by
  have ca := cnN_bd (byk a) 4
  have cb := cnN_bd (byk b) 4
  have cc := cnN_bd (byk c) 4
  have cd := cnN_bd (byk d) 4
  have ce := cnN_bd (byk e) 4
  have hl := hS.2.1
  have hlen := h.2.1.1
  have eb := bF_cnt a b c d e
  have g1 := s_bytesIn a (enc T)
  have g2 := s_bytesIn b (enc T)
  have g3 := s_bytesIn c (enc T)
  have g4 := s_bytesIn d (enc T)
  have g5 := s_bytesIn e (enc T)
  unfold rFeed
  rw [eb, bF_psh]
  have pre : cl k_Ds_feed [.ref 0, .int a, .int b, .int c, .int d, .int e] (enc T) = if 160 < (S.2.1.1 : Int) + (cnN (byk a) 4 + cnN (byk b) 4 + cnN (byk c) 4 + cnN (byk d) 4 + cnN (byk e) 4) then some (some (.int (iI (-1))), enc T) else rn k_Ds_feed 46 [.ref 0, .int a, .int b, .int c, .int d, .int e, .int (iI (cnN (byk a) 4 + cnN (byk b) 4 + cnN (byk c) 4 + cnN (byk d) 4 + cnN (byk e) 4))] [] (enc T) := by
    by_cases c0 : 160 < (S.2.1.1 : Int) + (cnN (byk a) 4 + cnN (byk b) 4 + cnN (byk c) 4 + cnN (byk d) 4 + cnN (byk e) 4)
    · rw [if_pos c0]
      have c1 : ¬ (S.2.1.1 : Int) + (cnN (byk a) 4 + cnN (byk b) 4 + cnN (byk c) 4 + cnN (byk d) 4 + cnN (byk e) 4) ≤ 160 := by omega
      simp (disch := first | omega | assumption | decide | (simp (disch := omega) only [iI_lit, iJ_lit, iJ_eq, iI_eq, bI_01, bI_01I] <;> omega)) only [c_Ds_feed, e_Ds_feed_0, e_Ds_feed_1, e_Ds_feed_4, e_Ds_feed_5, e_Ds_feed_8, e_Ds_feed_9, e_Ds_feed_10, e_Ds_feed_13, e_Ds_feed_14, e_Ds_feed_16, e_Ds_feed_19, e_Ds_feed_20, e_Ds_feed_22, e_Ds_feed_25, e_Ds_feed_26, e_Ds_feed_28, e_Ds_feed_29, e_Ds_feed_32, e_Ds_feed_35, e_Ds_feed_37, e_Ds_feed_38, e_Ds_feed_41, e_Ds_feed_44, e_Ds_feed_45, bd_some, bd_none, Option.toList_some, Option.toList_none, List.nil_append, List.cons_append, px_kill_int, px_kill_long, px_kill_ref, px_kill_null, iI_lit, iJ_lit, iI_add, iI_sub, iI_mul, iI_neg, iJ_add, iJ_sub, iJ_mul, iJ_neg, iI_lt, iI_le, iI_eq, iJ_lt, iJ_le, iJ_eq, iI_div, iJ_div, tdiv_tmod, iI_J, iJ_I, iI_ix, iI_toInt, iJ_toInt, cmp_ge, cmp_lt, cmp_eq, cmp_gt, cmp_le, cmp_geI, cmp_ltI, cmp_eqI, cmp_gtI, cmp_leI, bI_0I, bI_1I, pin, if_true, g1, g2, g3, g4, g5, hlen, sh_n1, c1, if_false]
    · rw [if_neg c0]
      have c1 : (S.2.1.1 : Int) + (cnN (byk a) 4 + cnN (byk b) 4 + cnN (byk c) 4 + cnN (byk d) 4 + cnN (byk e) 4) ≤ 160 := by omega
      simp (disch := first | omega | assumption | decide | (simp (disch := omega) only [iI_lit, iJ_lit, iJ_eq, iI_eq, bI_01, bI_01I] <;> omega)) only [c_Ds_feed, e_Ds_feed_0, e_Ds_feed_1, e_Ds_feed_4, e_Ds_feed_5, e_Ds_feed_8, e_Ds_feed_9, e_Ds_feed_10, e_Ds_feed_13, e_Ds_feed_14, e_Ds_feed_16, e_Ds_feed_19, e_Ds_feed_20, e_Ds_feed_22, e_Ds_feed_25, e_Ds_feed_26, e_Ds_feed_28, e_Ds_feed_29, e_Ds_feed_32, e_Ds_feed_35, e_Ds_feed_37, e_Ds_feed_38, e_Ds_feed_41, e_Ds_feed_44, e_Ds_feed_45, bd_some, bd_none, Option.toList_some, Option.toList_none, List.nil_append, List.cons_append, px_kill_int, px_kill_long, px_kill_ref, px_kill_null, iI_lit, iJ_lit, iI_add, iI_sub, iI_mul, iI_neg, iJ_add, iJ_sub, iJ_mul, iJ_neg, iI_lt, iI_le, iI_eq, iJ_lt, iJ_le, iJ_eq, iI_div, iJ_div, tdiv_tmod, iI_J, iJ_I, iI_ix, iI_toInt, iJ_toInt, cmp_ge, cmp_lt, cmp_eq, cmp_gt, cmp_le, cmp_geI, cmp_ltI, cmp_eqI, cmp_gtI, cmp_leI, bI_0I, bI_1I, pin, if_true, g1, g2, g3, g4, g5, hlen, sh_n1, c1]
  by_cases c0 : 160 < (S.2.1.1 : Int) + (cnN (byk a) 4 + cnN (byk b) 4 + cnN (byk c) 4 + cnN (byk d) 4 + cnN (byk e) 4)
  · rw [if_pos c0]
    refine ⟨T, ?_, h, sepC.rf T⟩
    rw [pre, if_pos c0]
  · rw [if_neg c0]
    have ht : hTp T S.2.1 := h.2.1
    have p1 := psN_len S.2.1 (byk a) 4
    have p2 := psN_len (psN S.2.1 (byk a) 4) (byk b) 4
    have p3 := psN_len (psN (psN S.2.1 (byk a) 4) (byk b) 4) (byk c) 4
    have p4 := psN_len (psN (psN (psN S.2.1 (byk a) 4) (byk b) 4) (byk c) 4) (byk d) 4
    have p5 := psN_len (psN (psN (psN (psN S.2.1 (byk a) 4) (byk b) 4) (byk c) 4) (byk d) 4) (byk e) 4
    obtain ⟨T1, e1, f1, h1⟩ := s_tput a ht (by omega)
    obtain ⟨T2, e2, f2, h2⟩ := s_tput b h1 (by omega)
    obtain ⟨T3, e3, f3, h3⟩ := s_tput c h2 (by omega)
    obtain ⟨T4, e4, f4, h4⟩ := s_tput d h3 (by omega)
    obtain ⟨T5, e5, f5, h5⟩ := s_tput e h4 (by omega)
    have hF := h.tape hS ((((f1.tr f2).tr f3).tr f4).tr f5) h5
    refine ⟨T5, ?_, hF.1, hF.2⟩
    have h51 := h5.1
    rw [pre, if_neg c0]
    simp (disch := first | omega | assumption | decide | (simp (disch := omega) only [iI_lit, iJ_lit, iJ_eq, iI_eq, bI_01, bI_01I] <;> omega)) only [e_Ds_feed_46, e_Ds_feed_47, e_Ds_feed_50, e_Ds_feed_51, e_Ds_feed_54, e_Ds_feed_55, e_Ds_feed_58, e_Ds_feed_59, e_Ds_feed_62, e_Ds_feed_63, e_Ds_feed_66, e_Ds_feed_67, e_Ds_feed_70, e_Ds_feed_71, e_Ds_feed_74, e_Ds_feed_76, e_Ds_feed_79, e_Ds_feed_80, e_Ds_feed_83, e_Ds_feed_85, e_Ds_feed_88, e_Ds_feed_89, e_Ds_feed_92, e_Ds_feed_95, bd_some, bd_none, Option.toList_some, Option.toList_none, List.nil_append, List.cons_append, px_kill_int, px_kill_long, px_kill_ref, px_kill_null, iI_lit, iJ_lit, iI_add, iI_sub, iI_mul, iI_neg, iJ_add, iJ_sub, iJ_mul, iJ_neg, iI_lt, iI_le, iI_eq, iJ_lt, iJ_le, iJ_eq, iI_div, iJ_div, tdiv_tmod, iI_J, iJ_I, iI_ix, iI_toInt, iJ_toInt, cmp_ge, cmp_lt, cmp_eq, cmp_gt, cmp_le, cmp_geI, cmp_ltI, cmp_eqI, cmp_gtI, cmp_leI, bI_0I, bI_1I, pin, if_true, sh_n1, e1, e2, e3, e4, e5, h51]
def rEnd (S : FS) (n : Int) : FS × Int := if 0 ≤ n ∧ n ≤ (S.2.1.1 : Int) then ((S.1, (n.toNat, S.2.1.2), S.2.2), 1) else (S, 0)
theorem rEnd_ok {S : FS} (h : okF S) (n : Int) : okF (rEnd S n).1 := by
  unfold rEnd
  split
  · rename_i hc
    refine ⟨h.1, ?_, fun k hk => h.2.2 k ?_⟩
    · show n.toNat ≤ 160
      have := h.2.1
      omega
    · have : k < n.toNat := hk
      omega
  · exact h
theorem u_Ds_end {G : GW} {T : TS} {S : FS} (hS : okF S) (h : fC G T S) {n : Int} (hn : inI n) : ∃ T', cl k_Ds_end [.ref 0, .int (iI n)] (enc T) = some (some (.int (iI (rEnd S n).2)), enc T') ∧ fC G T' (rEnd S n).1 ∧ sepC T T' := by
  obtain ⟨n1, n2⟩ := hn
  have hlen := h.2.1.1
  have hl := hS.2.1
  unfold rEnd
  by_cases c1 : n < 0
  · rw [if_neg (by omega)]
    refine ⟨T, ?_, h, sepC.rf T⟩
    simp (disch := first | omega | assumption | decide | (simp (disch := omega) only [iI_lit, iJ_lit, iJ_eq, iI_eq, bI_01, bI_01I] <;> omega)) only [c_Ds_end, e_Ds_end_0, e_Ds_end_1, e_Ds_end_4, e_Ds_end_5, e_Ds_end_6, e_Ds_end_9, e_Ds_end_12, e_Ds_end_15, e_Ds_end_16, e_Ds_end_17, e_Ds_end_18, e_Ds_end_21, e_Ds_end_22, e_Ds_end_25, e_Ds_end_26, bd_some, bd_none, Option.toList_some, Option.toList_none, List.nil_append, List.cons_append, px_kill_int, px_kill_long, px_kill_ref, px_kill_null, iI_lit, iJ_lit, iI_add, iI_sub, iI_mul, iI_neg, iJ_add, iJ_sub, iJ_mul, iJ_neg, iI_lt, iI_le, iI_eq, iJ_lt, iJ_le, iJ_eq, iI_div, iJ_div, tdiv_tmod, iI_J, iJ_I, iI_ix, iI_toInt, iJ_toInt, cmp_ge, cmp_lt, cmp_eq, cmp_gt, cmp_le, cmp_geI, cmp_ltI, cmp_eqI, cmp_gtI, cmp_leI, bI_0I, bI_1I, pin, if_true, c1]
  · by_cases c2 : n ≤ (S.2.1.1 : Int)
    · rw [if_pos (by omega)]
      have hF := h.tape hS (T' := sI T 1 1 (iI n)) (t := (n.toNat, S.2.1.2)) ((FrI.rf aTp T).wr _ (Or.inl ⟨rfl, rfl⟩)) ⟨by
        show _ = iI ((n.toNat : Nat) : Int)
        rw [show ((n.toNat : Nat) : Int) = n by omega]
        simp only [sI_get, sJ_get, sI_2, sJ_1, sJ_22, sR_1, sR_21, Nat.reduceEqDiff, and_true, true_and, and_false, false_and, and_self, if_true, if_false, reduceIte], fun k hk => by
        have hk' : k < n.toNat := hk
        rw [sI_get, if_neg (by omega)]
        exact h.2.1.2 k (by omega)⟩
      refine ⟨_, ?_, hF.1, hF.2⟩
      simp (disch := first | omega | assumption | decide | (simp (disch := omega) only [iI_lit, iJ_lit, iJ_eq, iI_eq, bI_01, bI_01I] <;> omega)) only [c_Ds_end, e_Ds_end_0, e_Ds_end_1, e_Ds_end_4, e_Ds_end_5, e_Ds_end_6, e_Ds_end_9, e_Ds_end_12, e_Ds_end_15, e_Ds_end_16, e_Ds_end_17, e_Ds_end_18, e_Ds_end_21, e_Ds_end_22, e_Ds_end_25, e_Ds_end_26, bd_some, bd_none, Option.toList_some, Option.toList_none, List.nil_append, List.cons_append, px_kill_int, px_kill_long, px_kill_ref, px_kill_null, iI_lit, iJ_lit, iI_add, iI_sub, iI_mul, iI_neg, iJ_add, iJ_sub, iJ_mul, iJ_neg, iI_lt, iI_le, iI_eq, iJ_lt, iJ_le, iJ_eq, iI_div, iJ_div, tdiv_tmod, iI_J, iJ_I, iI_ix, iI_toInt, iJ_toInt, cmp_ge, cmp_lt, cmp_eq, cmp_gt, cmp_le, cmp_geI, cmp_ltI, cmp_eqI, cmp_gtI, cmp_leI, bI_0I, bI_1I, pin, if_true, c1, c2, if_false, hlen, sh_n1]
    · rw [if_neg (by omega)]
      refine ⟨T, ?_, h, sepC.rf T⟩
      simp (disch := first | omega | assumption | decide | (simp (disch := omega) only [iI_lit, iJ_lit, iJ_eq, iI_eq, bI_01, bI_01I] <;> omega)) only [c_Ds_end, e_Ds_end_0, e_Ds_end_1, e_Ds_end_4, e_Ds_end_5, e_Ds_end_6, e_Ds_end_9, e_Ds_end_12, e_Ds_end_15, e_Ds_end_16, e_Ds_end_17, e_Ds_end_18, e_Ds_end_21, e_Ds_end_22, e_Ds_end_25, e_Ds_end_26, bd_some, bd_none, Option.toList_some, Option.toList_none, List.nil_append, List.cons_append, px_kill_int, px_kill_long, px_kill_ref, px_kill_null, iI_lit, iJ_lit, iI_add, iI_sub, iI_mul, iI_neg, iJ_add, iJ_sub, iJ_mul, iJ_neg, iI_lt, iI_le, iI_eq, iJ_lt, iJ_le, iJ_eq, iI_div, iJ_div, tdiv_tmod, iI_J, iJ_I, iI_ix, iI_toInt, iJ_toInt, cmp_ge, cmp_lt, cmp_eq, cmp_gt, cmp_le, cmp_geI, cmp_ltI, cmp_eqI, cmp_gtI, cmp_leI, bI_0I, bI_1I, pin, if_true, c1, c2, if_false, hlen, sh_n1]
