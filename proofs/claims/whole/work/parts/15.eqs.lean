/-! THE INSTRUCTIONS AS EQUATIONS. -/
theorem sh_lt {p k n : Nat} (h : sh p = (k, n)) (hk : k ≠ 1099) : p < 1000 := by
  unfold sh at h
  rcases Nat.lt_or_ge p shL.length with q | q
  · exact Nat.lt_trans q (by decide)
  · have e : shL.getD p (1099, 0) = (1099, 0) := by rw [List.getD, List.getElem?_eq_none q]; rfl
    rw [e] at h
    cases h
    exact absurd rfl hk
theorem enc_at (T : TS) {p k n : Nat} (h : sh p = (k, n)) (hk : k ≠ 1099) : (enc T).2 p = mkc T p (k, n) := by
  have hl := sh_lt h hk
  show (if p = 1000 then _ else if p = 1001 then _ else if p = 1002 then _ else mkc T p (sh p)) = _
  rw [if_neg (by omega), if_neg (by omega), if_neg (by omega), h]
theorem enc_obj (T : TS) {p ci n : Nat} (h : sh p = (100 + ci, n)) (hc : ci < 99) : (enc T).2 p = .inr (ci, (List.range n).map (fv T p ci)) := by
  rw [enc_at T h (by omega)]
  unfold mkc
  rw [if_neg (by show ¬ 100 + ci = 0; omega), if_neg (by show ¬ 100 + ci = 1; omega), if_neg (by show ¬ 100 + ci = 2; omega), if_neg (by show ¬ 100 + ci = 3; omega)]
  show Sum.inr (100 + ci - 100, _) = _
  rw [Nat.add_sub_cancel_left]
theorem enc_ext {T T' : TS} {p : Nat} {c : va_E} (hp : p < 1000) (h1 : c = mkc T' p (sh p)) (h2 : ∀ q, q ≠ p → mkc T q (sh q) = mkc T' q (sh q)) (h3 : T.2.2.2 = T'.2.2.2) (h4 : T.1 1002 = T'.1 1002) : px_set (enc T) p c = enc T' := by
  refine Prod.ext rfl (funext fun q => ?_)
  show px_up (enc T).2 p c q = (enc T').2 q
  by_cases e : q = p
  · subst e
    rw [px_up_same]
    show _ = (if q = 1000 then _ else if q = 1001 then _ else if q = 1002 then _ else mkc T' q (sh q))
    rw [if_neg (by omega), if_neg (by omega), if_neg (by omega)]
    exact h1
  · rw [px_up_ne _ _ e]
    show (if q = 1000 then _ else if q = 1001 then _ else if q = 1002 then Sum.inl (9, T.2.2.2, Sum.inl (T.1 1002)) else mkc T q (sh q)) = (if q = 1000 then _ else if q = 1001 then _ else if q = 1002 then Sum.inl (9, T'.2.2.2, Sum.inl (T'.1 1002)) else mkc T' q (sh q))
    rw [h2 q e, h3, h4]
theorem sI_ne (T : TS) {p q : Nat} (k : Nat) (x : Int32) (h : q ≠ p) : (sI T p k x).1 q = T.1 q := by funext j; simp [sI, h]
theorem sJ_ne (T : TS) {p q : Nat} (k : Nat) (x : Int64) (h : q ≠ p) : (sJ T p k x).2.1 q = T.2.1 q := by funext j; simp [sJ, h]
theorem mkc_congr {T T' : TS} {p : Nat} (s : Nat × Nat) (h1 : T.1 p = T'.1 p) (h2 : T.2.1 p = T'.2.1 p) (h3 : T.2.2.1 = T'.2.2.1) : mkc T p s = mkc T' p s := by
  have e : fv T p = fv T' p := by funext ci k; simp only [fv, h1, h2]
  simp only [mkc, h1, h2, h3, e]
theorem fv_set {T T' : TS} {p ci n f : Nat} {v : Value} (hv : fv T' p ci f = v) (ho : ∀ k, k ≠ f → fv T' p ci k = fv T p ci k) : ((List.range n).map (fv T p ci)).set f v = (List.range n).map (fv T' p ci) := by
  apply List.ext_getElem?
  intro i
  rw [List.getElem?_set]
  by_cases e : f = i
  · subst e
    rw [if_pos rfl]
    by_cases hl : f < n
    · simp [hl, hv]
    · simp [hl]
  · rw [if_neg e]
    by_cases hl : i < n
    · simp [hl, ho i (Ne.symm e)]
    · simp [hl]
theorem gf_enc (T : TS) {p ci n f : Nat} (hp : sh p = (100 + ci, n)) (hc : ci < 99) (hf : f < n) : px_gf ((enc T).2 p) ci f = some (fv T p ci f) := by
  rw [enc_obj T hp hc]
  simp [px_gf, hf]
section
variable {md pc idx kd ci f n p : Nat} {z : Int} {L st : List Value} {T : TS}
theorem ex_getf {g : px_G} {v : Value} (hlk : px_lk (px_rw md).2.2.2.2.2.2 idx = (kd, ci, f, z)) (hkd : kd < 5) (hv : px_gf (g.2 p) ci f = some v) : px_ex px_rw md (.getfield idx) 3 pc L (.ref p :: st) g = some (.inl (pc + 3, L, v :: st, g)) := by
  have h : px_mem (px_rw md).2.2.2.2.2.2 (.getfield idx) (.ref p :: st) g = some (v :: st, g) := by
    show (match px_lk (px_rw md).2.2.2.2.2.2 idx with | (kd, ci, k, _) => if kd < 5 then (px_gf (g.2 p) ci k).map (fun v => (v :: st, g)) else none) = _
    rw [hlk]
    show (if kd < 5 then (px_gf (g.2 p) ci f).map (fun v => (v :: st, g)) else none) = _
    rw [if_pos hkd, hv]; rfl
  show (match px_mem (px_rw md).2.2.2.2.2.2 (.getfield idx) (.ref p :: st) g with | some (st', g') => some (Sum.inl (pc + 3, L, st', g')) | none => _) = _
  rw [h]
theorem rn_getI (hd : decode (px_rw md).2.1 pc = .ok (.getfield idx, 3)) (hlk : px_lk (px_rw md).2.2.2.2.2.2 idx = (kd, ci, f, z)) (hkd : kd < 5) (hc : ci < 99) (hf : f < n) (hty : px_ty ci f = .int) (hp : sh p = (100 + ci, n)) : rn md pc L (.ref p :: st) (enc T) = rn md (pc + 3) L (.int (T.1 p f) :: st) (enc T) :=
  rn_next hd (ex_getf hlk hkd (by rw [gf_enc T hp hc hf]; simp only [fv, hty]))
theorem rn_getZ (hd : decode (px_rw md).2.1 pc = .ok (.getfield idx, 3)) (hlk : px_lk (px_rw md).2.2.2.2.2.2 idx = (kd, ci, f, z)) (hkd : kd < 5) (hc : ci < 99) (hf : f < n) (hty : px_ty ci f = .boolean) (hp : sh p = (100 + ci, n)) : rn md pc L (.ref p :: st) (enc T) = rn md (pc + 3) L (.int (T.1 p f) :: st) (enc T) :=
  rn_next hd (ex_getf hlk hkd (by rw [gf_enc T hp hc hf]; simp only [fv, hty]))
theorem rn_getJ (hd : decode (px_rw md).2.1 pc = .ok (.getfield idx, 3)) (hlk : px_lk (px_rw md).2.2.2.2.2.2 idx = (kd, ci, f, z)) (hkd : kd < 5) (hc : ci < 99) (hf : f < n) (hty : px_ty ci f = .long) (hp : sh p = (100 + ci, n)) : rn md pc L (.ref p :: st) (enc T) = rn md (pc + 3) L (.long (T.2.1 p f) :: st) (enc T) :=
  rn_next hd (ex_getf hlk hkd (by rw [gf_enc T hp hc hf]; simp only [fv, hty]))
theorem rn_getO {t : String} (hd : decode (px_rw md).2.1 pc = .ok (.getfield idx, 3)) (hlk : px_lk (px_rw md).2.2.2.2.2.2 idx = (kd, ci, f, z)) (hkd : kd < 5) (hc : ci < 99) (hf : f < n) (hty : px_ty ci f = .object t) (hp : sh p = (100 + ci, n)) : rn md pc L (.ref p :: st) (enc T) = rn md (pc + 3) L (.ref (rf p f) :: st) (enc T) :=
  rn_next hd (ex_getf hlk hkd (by rw [gf_enc T hp hc hf]; simp only [fv, hty]))
theorem rn_getA {t : FieldType} (hd : decode (px_rw md).2.1 pc = .ok (.getfield idx, 3)) (hlk : px_lk (px_rw md).2.2.2.2.2.2 idx = (kd, ci, f, z)) (hkd : kd < 5) (hc : ci < 99) (hf : f < n) (hty : px_ty ci f = .array t) (hp : sh p = (100 + ci, n)) : rn md pc L (.ref p :: st) (enc T) = rn md (pc + 3) L (.ref (rf p f) :: st) (enc T) :=
  rn_next hd (ex_getf hlk hkd (by rw [gf_enc T hp hc hf]; simp only [fv, hty]))
theorem ex_putf {g : px_G} {v : Value} {c : va_E} (hlk : px_lk (px_rw md).2.2.2.2.2.2 idx = (kd, ci, f, z)) (hkd : kd < 3) (hfit : px_fit (px_ty ci f) v = true) (hv : px_pf (g.2 p) ci f v = some c) : px_ex px_rw md (.putfield idx) 3 pc L (v :: .ref p :: st) g = some (.inl (pc + 3, L, st, px_set g p c)) := by
  have h : px_mem (px_rw md).2.2.2.2.2.2 (.putfield idx) (v :: .ref p :: st) g = some (st, px_set g p c) := by
    show (match px_lk (px_rw md).2.2.2.2.2.2 idx with | (kd, ci, k, _) => if kd < 3 ∧ px_fit (px_ty ci k) v = true then (px_pf (g.2 p) ci k v).map (fun c => (st, px_set g p c)) else none) = _
    rw [hlk]
    show (if kd < 3 ∧ px_fit (px_ty ci f) v = true then (px_pf (g.2 p) ci f v).map (fun c => (st, px_set g p c)) else none) = _
    rw [if_pos ⟨hkd, hfit⟩, hv]; rfl
  show (match px_mem (px_rw md).2.2.2.2.2.2 (.putfield idx) (v :: .ref p :: st) g with | some (st', g') => some (Sum.inl (pc + 3, L, st', g')) | none => _) = _
  rw [h]
theorem pf_enc (T : TS) {v : Value} (hp : sh p = (100 + ci, n)) (hc : ci < 99) (hf : f < n) : px_pf ((enc T).2 p) ci f v = some (.inr (ci, ((List.range n).map (fv T p ci)).set f v)) := by
  rw [enc_obj T hp hc]
  simp [px_pf, hf]
theorem px_putI {x : Int32} (hp : sh p = (100 + ci, n)) (hc : ci < 99) (hty : px_ty ci f = .int ∨ px_ty ci f = .boolean) : px_set (enc T) p (.inr (ci, ((List.range n).map (fv T p ci)).set f (.int x))) = enc (sI T p f x) := by
  have hl := sh_lt hp (by omega)
  refine enc_ext hl ?_ (fun q hq => mkc_congr _ (sI_ne T f x hq).symm rfl rfl) rfl (sI_ne T f x (by omega)).symm
  have e := enc_obj (sI T p f x) hp hc
  rw [enc_at _ hp (by omega)] at e
  rw [hp, e]
  refine congrArg _ (congrArg _ (fv_set ?_ ?_))
  · rcases hty with h | h <;> simp [fv, h, sI]
  · intro k hk
    simp only [fv, sI, hk, and_false, if_false]
theorem px_putJ {x : Int64} (hp : sh p = (100 + ci, n)) (hc : ci < 99) (hty : px_ty ci f = .long) : px_set (enc T) p (.inr (ci, ((List.range n).map (fv T p ci)).set f (.long x))) = enc (sJ T p f x) := by
  have hl := sh_lt hp (by omega)
  refine enc_ext hl ?_ (fun q hq => mkc_congr _ rfl (sJ_ne T f x hq).symm rfl) rfl rfl
  have e := enc_obj (sJ T p f x) hp hc
  rw [enc_at _ hp (by omega)] at e
  rw [hp, e]
  refine congrArg _ (congrArg _ (fv_set ?_ ?_))
  · simp [fv, hty, sJ]
  · intro k hk
    simp only [fv, sJ, hk, and_false, if_false]
theorem rn_putI {x : Int32} (hd : decode (px_rw md).2.1 pc = .ok (.putfield idx, 3)) (hlk : px_lk (px_rw md).2.2.2.2.2.2 idx = (kd, ci, f, z)) (hkd : kd < 3) (hc : ci < 99) (hf : f < n) (hty : px_ty ci f = .int) (hp : sh p = (100 + ci, n)) : rn md pc L (.int x :: .ref p :: st) (enc T) = rn md (pc + 3) L st (enc (sI T p f x)) := by
  have h := rn_next hd (ex_putf (pc := pc) (L := L) (st := st) (g := enc T) hlk hkd (by rw [hty]; simp [px_fit, narrow, fits]) (pf_enc T (v := .int x) hp hc hf))
  rw [px_putI hp hc (Or.inl hty)] at h
  exact h
theorem rn_putZ {x : Int32} (hd : decode (px_rw md).2.1 pc = .ok (.putfield idx, 3)) (hlk : px_lk (px_rw md).2.2.2.2.2.2 idx = (kd, ci, f, z)) (hkd : kd < 3) (hc : ci < 99) (hf : f < n) (hty : px_ty ci f = .boolean) (hp : sh p = (100 + ci, n)) (hx : x = 0 ∨ x = 1) : rn md pc L (.int x :: .ref p :: st) (enc T) = rn md (pc + 3) L st (enc (sI T p f x)) := by
  have h := rn_next hd (ex_putf (pc := pc) (L := L) (st := st) (g := enc T) hlk hkd (by rw [hty]; rcases hx with rfl | rfl <;> decide) (pf_enc T (v := .int x) hp hc hf))
  rw [px_putI hp hc (Or.inr hty)] at h
  exact h
theorem rn_putJ {x : Int64} (hd : decode (px_rw md).2.1 pc = .ok (.putfield idx, 3)) (hlk : px_lk (px_rw md).2.2.2.2.2.2 idx = (kd, ci, f, z)) (hkd : kd < 3) (hc : ci < 99) (hf : f < n) (hty : px_ty ci f = .long) (hp : sh p = (100 + ci, n)) : rn md pc L (.long x :: .ref p :: st) (enc T) = rn md (pc + 3) L st (enc (sJ T p f x)) := by
  have h := rn_next hd (ex_putf (pc := pc) (L := L) (st := st) (g := enc T) hlk hkd (by rw [hty]; simp [px_fit, narrow, fits]) (pf_enc T (v := .long x) hp hc hf))
  rw [px_putJ hp hc hty] at h
  exact h
end

section
variable {md pc idx n p : Nat} {L st : List Value} {T : TS}
theorem mem_ex {i : Instr} {len : Nat} {st' : List Value} {g g' : px_G} (h0 : px_sw i st = none) (hl : len = px_len i) (h1 : px_pure i st = none) (h2 : px_loc i L st = none) (h3 : px_br i st = none) (h : px_mem (px_rw md).2.2.2.2.2.2 i st g = some (st', g')) : px_ex px_rw md i len pc L st g = some (.inl (pc + len, L, st', g')) := by
  unfold px_ex
  rw [h0]
  simp only [if_pos hl, h1, h2, h3, h]
theorem mem_no {i : Instr} {len : Nat} {g : px_G} (h0 : px_sw i st = none) (hl : len = px_len i) (h1 : px_pure i st = none) (h2 : px_loc i L st = none) (h3 : px_br i st = none) (h : px_mem (px_rw md).2.2.2.2.2.2 i st g = none) (h4 : px_mk (px_rw md).2.2.2.2.2.2 i st g = none) (h5 : px_oi (px_rw md).2.2.2.2.2.2 i st = none) (h6 : px_rr (px_rw md).2.2.2.1 i st = none) (h7 : px_cl px_rw (px_rw md).2.2.2.2.2.2 i st g = none) : px_ex px_rw md i len pc L st g = none := by
  unfold px_ex
  rw [h0]
  simp only [if_pos hl, h1, h2, h3, h, h4, h5, h6, h7]
theorem rn_no {len : Nat} {i : Instr} {g : px_G} (hd : decode (px_rw md).2.1 pc = .ok (i, len)) (h : px_ex px_rw md i len pc L st g = none) : rn md pc L st g = none := by
  cases h2 : rn md pc L st g with
  | none => rfl
  | some y =>
    obtain ⟨k, hk⟩ := rn_to h2
    cases k with
    | zero => cases hk
    | succ k =>
      unfold px_run at hk
      rw [rn_one hd, h] at hk
      cases hk
theorem enc_0 (T : TS) (hp : sh p = (0, n)) : (enc T).2 p = .inl (0, n, .inl (T.1 p)) := by rw [enc_at T hp (by decide)]; rfl
theorem enc_1 (T : TS) (hp : sh p = (1, n)) : (enc T).2 p = .inl (1, n, .inr (.inl (T.2.1 p))) := by rw [enc_at T hp (by decide)]; rfl
theorem enc_2 (T : TS) (hp : sh p = (2, n)) : (enc T).2 p = .inl (2, n, .inl (T.1 p)) := by rw [enc_at T hp (by decide)]; rfl
theorem enc_3 (T : TS) (hp : sh p = (3, n)) : (enc T).2 p = .inl (3, n, .inr (.inr (.inr (.inr (fun j => some (T.2.2.1 j)))))) := by rw [enc_at T hp (by decide)]; rfl
theorem iald_mem {ks : List (Nat × px_K)} {g : px_G} {t : Nat} {f : Nat → Int32} {i : Int32} (h : g.2 p = .inl (t, n, .inl f)) (ht : t = 0 ∨ t = 9) : px_mem ks .iaload (.int i :: .ref p :: st) g = if px_in i n then some (.int (f i.toNatClampNeg) :: st, g) else none := by
  show (match g.2 p with | .inl (t, n, .inl f) => if (t = 0 ∨ t = 9) ∧ px_in i n then some (Value.int (f i.toNatClampNeg) :: st, g) else none | _ => none) = _
  rw [h]
  show (if (t = 0 ∨ t = 9) ∧ px_in i n then some (Value.int (f i.toNatClampNeg) :: st, g) else none) = _
  simp only [ht, true_and]
theorem rn_iald0 {g : px_G} {t : Nat} {f : Nat → Int32} {i : Int32} (hd : decode (px_rw md).2.1 pc = .ok (.iaload, 1)) (h : g.2 p = .inl (t, n, .inl f)) (ht : t = 0 ∨ t = 9) : rn md pc L (.int i :: .ref p :: st) g = if px_in i n then rn md (pc + 1) L (.int (f i.toNatClampNeg) :: st) g else none := by
  by_cases hin : px_in i n
  · rw [if_pos hin]
    exact rn_next hd (mem_ex rfl rfl rfl rfl rfl (by rw [iald_mem h ht, if_pos hin]))
  · rw [if_neg hin]
    exact rn_no hd (mem_no rfl rfl rfl rfl rfl (by rw [iald_mem h ht, if_neg hin]) rfl rfl rfl rfl)
theorem rn_iald {i : Int32} (hd : decode (px_rw md).2.1 pc = .ok (.iaload, 1)) (hp : sh p = (0, n)) : rn md pc L (.int i :: .ref p :: st) (enc T) = if px_in i n then rn md (pc + 1) L (.int (T.1 p i.toNatClampNeg) :: st) (enc T) else none := rn_iald0 hd (enc_0 T hp) (Or.inl rfl)
theorem rn_iaX {i : Int32} (hd : decode (px_rw md).2.1 pc = .ok (.iaload, 1)) : rn md pc L (.int i :: .ref 1000 :: st) (enc T) = if px_in i 4 then rn md (pc + 1) L (.int (stX i.toNatClampNeg) :: st) (enc T) else none := rn_iald0 hd rfl (Or.inr rfl)
theorem rn_iaY {i : Int32} (hd : decode (px_rw md).2.1 pc = .ok (.iaload, 1)) : rn md pc L (.int i :: .ref 1001 :: st) (enc T) = if px_in i 4 then rn md (pc + 1) L (.int (stY i.toNatClampNeg) :: st) (enc T) else none := rn_iald0 hd rfl (Or.inr rfl)
theorem rn_iaS {i : Int32} (hd : decode (px_rw md).2.1 pc = .ok (.iaload, 1)) : rn md pc L (.int i :: .ref 1002 :: st) (enc T) = if px_in i T.2.2.2 then rn md (pc + 1) L (.int (T.1 1002 i.toNatClampNeg) :: st) (enc T) else none := rn_iald0 hd rfl (Or.inr rfl)
theorem rn_bald {i : Int32} (hd : decode (px_rw md).2.1 pc = .ok (.baload, 1)) (hp : sh p = (2, n)) : rn md pc L (.int i :: .ref p :: st) (enc T) = if px_in i n then rn md (pc + 1) L (.int (T.1 p i.toNatClampNeg) :: st) (enc T) else none := by
  have hm : px_mem (px_rw md).2.2.2.2.2.2 .baload (.int i :: .ref p :: st) (enc T) = if px_in i n then some (.int (T.1 p i.toNatClampNeg) :: st, enc T) else none := by
    show (match (enc T).2 p with | .inl (t, n, .inl f) => if t = 2 ∧ px_in i n then some (Value.int (f i.toNatClampNeg) :: st, enc T) else none | _ => none) = _
    rw [enc_2 T hp]
    show (if 2 = 2 ∧ px_in i n then some (Value.int (T.1 p i.toNatClampNeg) :: st, enc T) else none) = _
    simp only [true_and]
  by_cases hin : px_in i n
  · rw [if_pos hin]
    exact rn_next hd (mem_ex rfl rfl rfl rfl rfl (by rw [hm, if_pos hin]))
  · rw [if_neg hin]
    exact rn_no hd (mem_no rfl rfl rfl rfl rfl (by rw [hm, if_neg hin]) rfl rfl rfl rfl)
theorem rn_lald {i : Int32} (hd : decode (px_rw md).2.1 pc = .ok (.laload, 1)) (hp : sh p = (1, n)) : rn md pc L (.int i :: .ref p :: st) (enc T) = if px_in i n then rn md (pc + 1) L (.long (T.2.1 p i.toNatClampNeg) :: st) (enc T) else none := by
  have hm : px_mem (px_rw md).2.2.2.2.2.2 .laload (.int i :: .ref p :: st) (enc T) = if px_in i n then some (.long (T.2.1 p i.toNatClampNeg) :: st, enc T) else none := by
    show (match (enc T).2 p with | .inl (t, n, .inr (.inl f)) => if t = 1 ∧ px_in i n then some (Value.long (f i.toNatClampNeg) :: st, enc T) else none | _ => none) = _
    rw [enc_1 T hp]
    show (if 1 = 1 ∧ px_in i n then some (Value.long (T.2.1 p i.toNatClampNeg) :: st, enc T) else none) = _
    simp only [true_and]
  by_cases hin : px_in i n
  · rw [if_pos hin]
    exact rn_next hd (mem_ex rfl rfl rfl rfl rfl (by rw [hm, if_pos hin]))
  · rw [if_neg hin]
    exact rn_no hd (mem_no rfl rfl rfl rfl rfl (by rw [hm, if_neg hin]) rfl rfl rfl rfl)
theorem rn_aald {i : Int32} (hd : decode (px_rw md).2.1 pc = .ok (.aaload, 1)) (hp : sh p = (3, n)) : rn md pc L (.int i :: .ref p :: st) (enc T) = if px_in i n then rn md (pc + 1) L (.ref (T.2.2.1 i.toNatClampNeg) :: st) (enc T) else none := by
  have hm : px_mem (px_rw md).2.2.2.2.2.2 .aaload (.int i :: .ref p :: st) (enc T) = if px_in i n then some (.ref (T.2.2.1 i.toNatClampNeg) :: st, enc T) else none := by
    show (match (enc T).2 p with | .inl (t, n, .inr (.inr (.inr (.inr f)))) => if t = 3 ∧ px_in i n then (f i.toNatClampNeg).map (fun q => (Value.ref q :: st, enc T)) else none | _ => none) = _
    rw [enc_3 T hp]
    show (if 3 = 3 ∧ px_in i n then some (Value.ref (T.2.2.1 i.toNatClampNeg) :: st, enc T) else none) = _
    simp only [true_and]
  by_cases hin : px_in i n
  · rw [if_pos hin]
    exact rn_next hd (mem_ex rfl rfl rfl rfl rfl (by rw [hm, if_pos hin]))
  · rw [if_neg hin]
    exact rn_no hd (mem_no rfl rfl rfl rfl rfl (by rw [hm, if_neg hin]) rfl rfl rfl rfl)
theorem sI_at (T : TS) (p k : Nat) (x : Int32) : (sI T p k x).1 p = upd (T.1 p) k x := by
  funext j; simp [sI, upd]
theorem sJ_at (T : TS) (p k : Nat) (x : Int64) : (sJ T p k x).2.1 p = vp_updL (T.2.1 p) k x := by
  funext j; simp [sJ, vp_updL]
theorem rn_iast {i x : Int32} (hd : decode (px_rw md).2.1 pc = .ok (.iastore, 1)) (hp : sh p = (0, n)) : rn md pc L (.int x :: .int i :: .ref p :: st) (enc T) = if px_in i n then rn md (pc + 1) L st (enc (sI T p i.toNatClampNeg x)) else none := by
  have hm : px_mem (px_rw md).2.2.2.2.2.2 .iastore (.int x :: .int i :: .ref p :: st) (enc T) = if px_in i n then some (st, enc (sI T p i.toNatClampNeg x)) else none := by
    show (match (enc T).2 p with | .inl (t, n, .inl f) => if t = 0 ∧ px_in i n then some (st, px_set (enc T) p (.inl (t, n, .inl (upd f i.toNatClampNeg x)))) else none | _ => none) = _
    rw [enc_0 T hp]
    show (if 0 = 0 ∧ px_in i n then some (st, px_set (enc T) p (.inl (0, n, .inl (upd (T.1 p) i.toNatClampNeg x)))) else none) = _
    rw [enc_ext (T := T) (T' := sI T p i.toNatClampNeg x) (sh_lt hp (by decide)) (by rw [hp]; simp [mkc, sI_at]) (fun q hq => mkc_congr _ (sI_ne T _ x hq).symm rfl rfl) rfl (sI_ne T _ x (by have := sh_lt hp (by decide); omega)).symm]
    simp only [true_and]
  by_cases hin : px_in i n
  · rw [if_pos hin]
    exact rn_next hd (mem_ex rfl rfl rfl rfl rfl (by rw [hm, if_pos hin]))
  · rw [if_neg hin]
    exact rn_no hd (mem_no rfl rfl rfl rfl rfl (by rw [hm, if_neg hin]) rfl rfl rfl rfl)
theorem rn_bast {i x : Int32} (hd : decode (px_rw md).2.1 pc = .ok (.bastore, 1)) (hp : sh p = (2, n)) (hx : x = 0 ∨ x = 1) : rn md pc L (.int x :: .int i :: .ref p :: st) (enc T) = if px_in i n then rn md (pc + 1) L st (enc (sI T p i.toNatClampNeg x)) else none := by
  have hn : vp_nar .boolean x = x := by rcases hx with rfl | rfl <;> decide
  have hm : px_mem (px_rw md).2.2.2.2.2.2 .bastore (.int x :: .int i :: .ref p :: st) (enc T) = if px_in i n then some (st, enc (sI T p i.toNatClampNeg x)) else none := by
    show (match (enc T).2 p with | .inl (t, n, .inl f) => if t = 2 ∧ px_in i n then some (st, px_set (enc T) p (.inl (t, n, .inl (upd f i.toNatClampNeg (vp_nar .boolean x))))) else none | _ => none) = _
    rw [enc_2 T hp, hn]
    show (if 2 = 2 ∧ px_in i n then some (st, px_set (enc T) p (.inl (2, n, .inl (upd (T.1 p) i.toNatClampNeg x)))) else none) = _
    rw [enc_ext (T := T) (T' := sI T p i.toNatClampNeg x) (sh_lt hp (by decide)) (by rw [hp]; simp [mkc, sI_at]) (fun q hq => mkc_congr _ (sI_ne T _ x hq).symm rfl rfl) rfl (sI_ne T _ x (by have := sh_lt hp (by decide); omega)).symm]
    simp only [true_and]
  by_cases hin : px_in i n
  · rw [if_pos hin]
    exact rn_next hd (mem_ex rfl rfl rfl rfl rfl (by rw [hm, if_pos hin]))
  · rw [if_neg hin]
    exact rn_no hd (mem_no rfl rfl rfl rfl rfl (by rw [hm, if_neg hin]) rfl rfl rfl rfl)
theorem rn_last {i : Int32} {x : Int64} (hd : decode (px_rw md).2.1 pc = .ok (.lastore, 1)) (hp : sh p = (1, n)) : rn md pc L (.long x :: .int i :: .ref p :: st) (enc T) = if px_in i n then rn md (pc + 1) L st (enc (sJ T p i.toNatClampNeg x)) else none := by
  have hm : px_mem (px_rw md).2.2.2.2.2.2 .lastore (.long x :: .int i :: .ref p :: st) (enc T) = if px_in i n then some (st, enc (sJ T p i.toNatClampNeg x)) else none := by
    show (match (enc T).2 p with | .inl (t, n, .inr (.inl f)) => if t = 1 ∧ px_in i n then some (st, px_set (enc T) p (.inl (t, n, .inr (.inl (vp_updL f i.toNatClampNeg x))))) else none | _ => none) = _
    rw [enc_1 T hp]
    show (if 1 = 1 ∧ px_in i n then some (st, px_set (enc T) p (.inl (1, n, .inr (.inl (vp_updL (T.2.1 p) i.toNatClampNeg x))))) else none) = _
    rw [enc_ext (T := T) (c := .inl (1, n, .inr (.inl (vp_updL (T.2.1 p) i.toNatClampNeg x)))) (T' := sJ T p i.toNatClampNeg x) (sh_lt hp (by decide)) (by rw [hp]; simp [mkc, sJ_at]) (fun q hq => mkc_congr _ rfl (sJ_ne T _ x hq).symm rfl) rfl rfl]
    simp only [true_and]
  by_cases hin : px_in i n
  · rw [if_pos hin]
    exact rn_next hd (mem_ex rfl rfl rfl rfl rfl (by rw [hm, if_pos hin]))
  · rw [if_neg hin]
    exact rn_no hd (mem_no rfl rfl rfl rfl rfl (by rw [hm, if_neg hin]) rfl rfl rfl rfl)
/-- the row of inks is place 5 -/
theorem sh_5 (h : sh p = (3, n)) : p = 5 := by
  have hl := sh_lt h (by decide)
  have : ∀ q, q < 1000 → (sh q).1 = 3 → q = 5 := by decide +kernel
  exact this p hl (by rw [h])
theorem rn_aast {i : Int32} {v : Nat} (hd : decode (px_rw md).2.1 pc = .ok (.aastore, 1)) (hp : sh p = (3, n)) (hv : sh v = (104, 18)) : rn md pc L (.ref v :: .int i :: .ref p :: st) (enc T) = if px_in i n then rn md (pc + 1) L st (enc (sR T i.toNatClampNeg v)) else none := by
  have hm : px_mem (px_rw md).2.2.2.2.2.2 .aastore (.ref v :: .int i :: .ref p :: st) (enc T) = if px_in i n then some (st, enc (sR T i.toNatClampNeg v)) else none := by
    show (match (enc T).2 p, (enc T).2 v with | .inl (t, n, .inr (.inr (.inr (.inr f)))), .inr (cj, _) => if t = 3 ∧ cj = 4 ∧ px_in i n then some (st, px_set (enc T) p (.inl (t, n, .inr (.inr (.inr (.inr (va_up f i.toNatClampNeg (some v)))))))) else none | _, _ => none) = _
    rw [enc_3 T hp, enc_obj T (ci := 4) hv (by decide)]
    show (if 3 = 3 ∧ 4 = 4 ∧ px_in i n then some (st, px_set (enc T) p (.inl (3, n, .inr (.inr (.inr (.inr (va_up (fun j => some (T.2.2.1 j)) i.toNatClampNeg (some v)))))))) else none) = _
    have e : va_up (fun j => some (T.2.2.1 j)) i.toNatClampNeg (some v) = fun j => some ((sR T i.toNatClampNeg v).2.2.1 j) := by
      funext j
      by_cases hj : j = i.toNatClampNeg
      · simp [va_up, sR, hj]
      · simp [va_up, sR, hj]
    rw [enc_ext (T := T) (c := .inl (3, n, .inr (.inr (.inr (.inr (va_up (fun j => some (T.2.2.1 j)) i.toNatClampNeg (some v))))))) (T' := sR T i.toNatClampNeg v) (sh_lt hp (by decide)) (by rw [hp, e]; rfl) (fun q hq => ?_) rfl rfl]
    · simp only [true_and]
    · have h5 := sh_5 hp
      have hne : ¬ (sh q).1 = 3 := fun h => hq (by rw [h5]; exact sh_5 (n := (sh q).2) (by rw [← h]))
      have e2 : fv T q = fv (sR T i.toNatClampNeg v) q := by funext ci k; rfl
      simp only [mkc, if_neg hne, e2]
      rfl
  by_cases hin : px_in i n
  · rw [if_pos hin]
    exact rn_next hd (mem_ex rfl rfl rfl rfl rfl (by rw [hm, if_pos hin]))
  · rw [if_neg hin]
    exact rn_no hd (mem_no rfl rfl rfl rfl rfl (by rw [hm, if_neg hin]) rfl rfl rfl rfl)
end
