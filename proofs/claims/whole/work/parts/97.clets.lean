/-! the component's letters, clauses, the whole text. -/
def ltr (c : Int) : Nat := if c = 114 ∨ c = 100 ∨ c = 108 then 0 else if c = 116 then 1 else if c = 111 then 2 else 3
theorem ltr_le (c : Int) : ltr c ≤ 3 := by unfold ltr; split; omega; split; omega; split <;> omega
theorem ltr_1 {c : Int} (h : ltr c = 1) : c = 116 := by
  unfold ltr at h
  split at h
  · omega
  · split at h
    · assumption
    · split at h <;> omega
theorem ltr_2 {c : Int} (h : ltr c = 2) : c = 111 := by
  unfold ltr at h
  split at h
  · omega
  · split at h
    · omega
    · split at h
      · assumption
      · omega
def knd (c : Int) : Int := if c = 114 then 0 else if c = 100 then 1 else 2
theorem knd_bd (c : Int) : 0 ≤ knd c ∧ knd c ≤ 2 := by unfold knd; split; omega; split <;> omega
abbrev hasB (h j : Nat) : Prop := h / 2 ^ j % 2 = 1
/-- one letter at k -/
def plS (t : TP) (k h : Nat) (f : Nat → Int) : Nat ⊕ (Nat × Nat × (Nat → Int)) :=
  if ltr (sg t k) = 3 ∨ hasB h (ltr (sg t k)) then .inl k
  else if ltr (sg t k) = 0 then .inr (SK t (k + 1), h + 1, setF f 4 (knd (sg t k)))
  else if ltr (sg t k) = 1 then (match pnum t (SK t (k + 1)) true 100 3 with
    | .inl e => .inl e
    | .inr x => .inr (SK t x.2, h + 2, setF f 5 x.1))
  else (match pcpl t (SK t (k + 1)) 99 with
    | .inl e => .inl e
    | .inr x => .inr (SK t x.2, h + 4, setF (setF f 6 x.1.1) 7 x.1.2))
def plet (t : TP) : Nat → Nat → Nat → (Nat → Int) → Nat ⊕ ((Nat → Int) × Nat)
  | 0, k, _, f => .inr (f, k)
  | n + 1, k, h, f => if sg t k = -1 ∨ sg t k = 59 then .inr (f, k) else match plS t k h f with
    | .inl e => .inl e
    | .inr y => plet t n y.1 y.2.1 y.2.2
theorem plet_s (t : TP) (n k h : Nat) (f : Nat → Int) : plet t (n + 1) k h f = if sg t k = -1 ∨ sg t k = 59 then .inr (f, k) else match plS t k h f with
    | .inl e => .inl e
    | .inr y => plet t n y.1 y.2.1 y.2.2 := rfl
def cB (h : Nat) : Nat := h % 2 + h / 2 % 2 + h / 4 % 2
/-- numbers behind the screen within bounds -/
def okL (f : Nat → Int) : Prop := ((-12 ≤ f 0 ∧ f 0 ≤ 12) ∧ (-12 ≤ f 1 ∧ f 1 ≤ 12) ∧ (-12 ≤ f 2 ∧ f 2 ≤ 12) ∧ (-12 ≤ f 3 ∧ f 3 ≤ 12)) ∧ (0 ≤ f 4 ∧ f 4 ≤ 2) ∧ (0 ≤ f 5 ∧ f 5 ≤ 100) ∧ (-99 ≤ f 6 ∧ f 6 ≤ 99) ∧ (-99 ≤ f 7 ∧ f 7 ≤ 99)
theorem plS_bd {t : TP} (ht : okTp t) {k h : Nat} (hh : h < 8) (hk : k < t.1) {f : Nat → Int} (hf : okL f) : (∀ e, plS t k h f = .inl e → e ≤ t.1) ∧ ∀ y, plS t k h f = .inr y → y.1 ≤ t.1 ∧ y.2.1 < 8 ∧ cB y.2.1 = cB h + 1 ∧ okL y.2.2 ∧ SK t y.1 = y.1 := by
  unfold plS
  obtain ⟨f1, f2, f3, f4, f5⟩ := hf
  by_cases c : ltr (sg t k) = 3 ∨ hasB h (ltr (sg t k))
  · rw [if_pos c]
    exact ⟨fun e he => by cases he; omega, fun y hy => by cases hy⟩
  · rw [if_neg c]
    have hs := SK_le ht (k + 1)
    have hb : ¬ h / 2 ^ ltr (sg t k) % 2 = 1 := fun z => c (Or.inr z)
    by_cases c0 : ltr (sg t k) = 0
    · rw [if_pos c0]
      rw [c0] at hb
      refine ⟨fun e he => (by cases he), fun y hy => ?_⟩
      cases hy
      refine ⟨hs.2 (by omega), ?_, ?_, ⟨f1, ?_, f3, f4, f5⟩, SK_SK ht _⟩
      · show h + 1 < 8
        omega
      · show cB (h + 1) = cB h + 1
        unfold cB
        omega
      · show 0 ≤ knd (sg t k) ∧ knd (sg t k) ≤ 2
        exact knd_bd _
    · rw [if_neg c0]
      by_cases c1 : ltr (sg t k) = 1
      · rw [if_pos c1]
        rw [c1] at hb
        obtain ⟨a1, a2⟩ := pnum_bd ht (k := SK t (k + 1)) (tone := true) (most := 100) (dm := 3) (by omega) (by omega) (hs.2 (by omega))
        generalize pnum t (SK t (k + 1)) true 100 3 = P at *
        cases P with
        | inl e => exact ⟨fun e' he => by cases he; exact a1 e rfl, fun y hy => by cases hy⟩
        | inr x =>
          obtain ⟨b1, b2, b3, b4⟩ := a2 x rfl
          refine ⟨fun e he => (by cases he), fun y hy => ?_⟩
          cases hy
          refine ⟨(SK_le ht x.2).2 b2, ?_, ?_, ⟨f1, f2, ⟨b4 rfl, b3.2⟩, f4, f5⟩, SK_SK ht _⟩
          · show h + 2 < 8
            omega
          · show cB (h + 2) = cB h + 1
            unfold cB
            omega
      · rw [if_neg c1]
        have c2 : ltr (sg t k) = 2 := by
          have := ltr_le (sg t k)
          omega
        rw [c2] at hb
        obtain ⟨a1, a2⟩ := pcpl_bd ht (k := SK t (k + 1)) (most := 99) (by omega) (hs.2 (by omega))
        generalize pcpl t (SK t (k + 1)) 99 = P at *
        cases P with
        | inl e => exact ⟨fun e' he => by cases he; exact a1 e rfl, fun y hy => by cases hy⟩
        | inr x =>
          obtain ⟨b1, b2, b3, b4⟩ := a2 x rfl
          refine ⟨fun e he => (by cases he), fun y hy => ?_⟩
          cases hy
          refine ⟨(SK_le ht x.2).2 b2, ?_, ?_, ⟨f1, f2, f3, b3, b4⟩, SK_SK ht _⟩
          · show h + 4 < 8
            omega
          · show cB (h + 4) = cB h + 1
            unfold cB
            omega
def hPt (T : TS) (c : Nat) (f : Nat → Int) : Prop := ∀ k, k < 8 → T.1 4 (8 * c + k) = iI (f k)
def aLt (c q k : Nat) : Prop := (q = 3 ∧ (k = 2 ∨ k = 3 ∨ k = 6)) ∨ (q = 4 ∧ 8 * c ≤ k ∧ k < 8 * c + 8)
theorem aLt_34 {c q k : Nat} (h : aLt c q k) : q = 3 ∨ q = 4 := by unfold aLt at h; omega
theorem aLt_fl {c q k : Nat} (h : aLt c q k) : aFl q k := by unfold aLt at h; unfold aFl; omega
theorem aMv_lt {c q k : Nat} (h : aMv q k) : aLt c q k := by unfold aMv at h; unfold aLt; omega
theorem bit_has : ∀ h : Nat, h < 8 → ∀ j : Nat, j < 3 → (iI (16 * (h : Int)) >>> (iI (4 + (j : Int)) &&& iI 31)) &&& iI 1 = iI ((h / 2 ^ j % 2 : Nat) : Int) := by decide +kernel
theorem bit_set : ∀ h : Nat, h < 8 → ∀ j : Nat, j < 3 → h / 2 ^ j % 2 = 0 → iI (16 * (h : Int)) ||| (iI 1 <<< (iI (4 + (j : Int)) &&& iI 31)) = iI (16 * ((h + 2 ^ j : Nat) : Int)) := by decide +kernel
theorem s_partOf {c : Int} (hc : -1 ≤ c ∧ c ≤ 255) (g : px_G) : cl k_Reader_partOf [.int (iI c)] g = some (some (.int (iI (if ltr c = 3 then -1 else 4 + (ltr c : Int)))), g) := by
  by_cases c1 : c = 100
  · subst c1; simp (disch := first | omega | assumption | decide | (simp (disch := omega) only [iI_lit, iJ_lit, iJ_eq, iI_eq, bI_01, bI_01I] <;> omega)) only [c_Reader_partOf, e_Reader_partOf_0, e_Reader_partOf_1, e_Reader_partOf_52, e_Reader_partOf_53, e_Reader_partOf_54, e_Reader_partOf_55, e_Reader_partOf_56, e_Reader_partOf_58, e_Reader_partOf_59, e_Reader_partOf_60, bd_some, bd_none, Option.toList_some, Option.toList_none, List.nil_append, List.cons_append, px_kill_int, px_kill_long, px_kill_ref, px_kill_null, iI_lit, iJ_lit, iI_add, iI_sub, iI_mul, iI_neg, iJ_add, iJ_sub, iJ_mul, iJ_neg, iI_lt, iI_le, iI_eq, iJ_lt, iJ_le, iJ_eq, iI_div, iJ_div, tdiv_tmod, iI_J, iJ_I, iI_ix, iI_toInt, iJ_toInt, cmp_ge, cmp_lt, cmp_eq, cmp_gt, cmp_le, cmp_geI, cmp_ltI, cmp_eqI, cmp_gtI, cmp_leI, bI_0I, bI_1I, pin, if_true]; rfl
  by_cases c2 : c = 108
  · subst c2
    have : ¬ (108 : Int) = 100 := by omega
    simp (disch := first | omega | assumption | decide | (simp (disch := omega) only [iI_lit, iJ_lit, iJ_eq, iI_eq, bI_01, bI_01I] <;> omega)) only [c_Reader_partOf, e_Reader_partOf_0, e_Reader_partOf_1, e_Reader_partOf_52, e_Reader_partOf_53, e_Reader_partOf_54, e_Reader_partOf_55, e_Reader_partOf_56, e_Reader_partOf_58, e_Reader_partOf_59, e_Reader_partOf_60, bd_some, bd_none, Option.toList_some, Option.toList_none, List.nil_append, List.cons_append, px_kill_int, px_kill_long, px_kill_ref, px_kill_null, iI_lit, iJ_lit, iI_add, iI_sub, iI_mul, iI_neg, iJ_add, iJ_sub, iJ_mul, iJ_neg, iI_lt, iI_le, iI_eq, iJ_lt, iJ_le, iJ_eq, iI_div, iJ_div, tdiv_tmod, iI_J, iJ_I, iI_ix, iI_toInt, iJ_toInt, cmp_ge, cmp_lt, cmp_eq, cmp_gt, cmp_le, cmp_geI, cmp_ltI, cmp_eqI, cmp_gtI, cmp_leI, bI_0I, bI_1I, pin, if_true, this, if_false]; rfl
  by_cases c3 : c = 111
  · subst c3
    simp (disch := first | omega | assumption | decide | (simp (disch := omega) only [iI_lit, iJ_lit, iJ_eq, iI_eq, bI_01, bI_01I] <;> omega)) only [c_Reader_partOf, e_Reader_partOf_0, e_Reader_partOf_1, e_Reader_partOf_52, e_Reader_partOf_53, e_Reader_partOf_54, e_Reader_partOf_55, e_Reader_partOf_56, e_Reader_partOf_58, e_Reader_partOf_59, e_Reader_partOf_60, bd_some, bd_none, Option.toList_some, Option.toList_none, List.nil_append, List.cons_append, px_kill_int, px_kill_long, px_kill_ref, px_kill_null, iI_lit, iJ_lit, iI_add, iI_sub, iI_mul, iI_neg, iJ_add, iJ_sub, iJ_mul, iJ_neg, iI_lt, iI_le, iI_eq, iJ_lt, iJ_le, iJ_eq, iI_div, iJ_div, tdiv_tmod, iI_J, iJ_I, iI_ix, iI_toInt, iJ_toInt, cmp_ge, cmp_lt, cmp_eq, cmp_gt, cmp_le, cmp_geI, cmp_ltI, cmp_eqI, cmp_gtI, cmp_leI, bI_0I, bI_1I, pin, if_true, c1, c2, if_false]; rfl
  by_cases c4 : c = 114
  · subst c4
    simp (disch := first | omega | assumption | decide | (simp (disch := omega) only [iI_lit, iJ_lit, iJ_eq, iI_eq, bI_01, bI_01I] <;> omega)) only [c_Reader_partOf, e_Reader_partOf_0, e_Reader_partOf_1, e_Reader_partOf_52, e_Reader_partOf_53, e_Reader_partOf_54, e_Reader_partOf_55, e_Reader_partOf_56, e_Reader_partOf_58, e_Reader_partOf_59, e_Reader_partOf_60, bd_some, bd_none, Option.toList_some, Option.toList_none, List.nil_append, List.cons_append, px_kill_int, px_kill_long, px_kill_ref, px_kill_null, iI_lit, iJ_lit, iI_add, iI_sub, iI_mul, iI_neg, iJ_add, iJ_sub, iJ_mul, iJ_neg, iI_lt, iI_le, iI_eq, iJ_lt, iJ_le, iJ_eq, iI_div, iJ_div, tdiv_tmod, iI_J, iJ_I, iI_ix, iI_toInt, iJ_toInt, cmp_ge, cmp_lt, cmp_eq, cmp_gt, cmp_le, cmp_geI, cmp_ltI, cmp_eqI, cmp_gtI, cmp_leI, bI_0I, bI_1I, pin, if_true, c1, c2, c3, if_false]; rfl
  by_cases c5 : c = 116
  · subst c5
    simp (disch := first | omega | assumption | decide | (simp (disch := omega) only [iI_lit, iJ_lit, iJ_eq, iI_eq, bI_01, bI_01I] <;> omega)) only [c_Reader_partOf, e_Reader_partOf_0, e_Reader_partOf_1, e_Reader_partOf_52, e_Reader_partOf_53, e_Reader_partOf_54, e_Reader_partOf_55, e_Reader_partOf_56, e_Reader_partOf_58, e_Reader_partOf_59, e_Reader_partOf_60, bd_some, bd_none, Option.toList_some, Option.toList_none, List.nil_append, List.cons_append, px_kill_int, px_kill_long, px_kill_ref, px_kill_null, iI_lit, iJ_lit, iI_add, iI_sub, iI_mul, iI_neg, iJ_add, iJ_sub, iJ_mul, iJ_neg, iI_lt, iI_le, iI_eq, iJ_lt, iJ_le, iJ_eq, iI_div, iJ_div, tdiv_tmod, iI_J, iJ_I, iI_ix, iI_toInt, iJ_toInt, cmp_ge, cmp_lt, cmp_eq, cmp_gt, cmp_le, cmp_geI, cmp_ltI, cmp_eqI, cmp_gtI, cmp_leI, bI_0I, bI_1I, pin, if_true, c1, c2, c3, c4, if_false]; rfl
  · have e3 : ltr c = 3 := by unfold ltr; rw [if_neg (by omega), if_neg c5, if_neg c3]
    rw [if_pos e3]
    simp (disch := first | omega | assumption | decide | (simp (disch := omega) only [iI_lit, iJ_lit, iJ_eq, iI_eq, bI_01, bI_01I] <;> omega)) only [c_Reader_partOf, e_Reader_partOf_0, e_Reader_partOf_1, e_Reader_partOf_52, e_Reader_partOf_53, e_Reader_partOf_54, e_Reader_partOf_55, e_Reader_partOf_56, e_Reader_partOf_58, e_Reader_partOf_59, e_Reader_partOf_60, bd_some, bd_none, Option.toList_some, Option.toList_none, List.nil_append, List.cons_append, px_kill_int, px_kill_long, px_kill_ref, px_kill_null, iI_lit, iJ_lit, iI_add, iI_sub, iI_mul, iI_neg, iJ_add, iJ_sub, iJ_mul, iJ_neg, iI_lt, iI_le, iI_eq, iJ_lt, iJ_le, iJ_eq, iI_div, iJ_div, tdiv_tmod, iI_J, iJ_I, iI_ix, iI_toInt, iJ_toInt, cmp_ge, cmp_lt, cmp_eq, cmp_gt, cmp_le, cmp_geI, cmp_ltI, cmp_eqI, cmp_gtI, cmp_leI, bI_0I, bI_1I, pin, if_true, c1, c2, c3, c4, c5, if_false]
set_option maxHeartbeats 4000000 in
theorem c_letter {T : TS} {t : TP} (ht : okTp t) (hT : hTp T t) {k : Nat} (hk : k < t.1) (hp : pAt T t k) {c : Nat} (hc : c < 4) (hC : T.1 3 4 = iI (c : Int)) {h : Nat} (hh : h < 8) (hH : T.1 3 6 = iI (16 * (h : Int))) {f : Nat → Int} (hP : hPt T c f) : (∀ e, plS t k h f = .inl e → ∃ T', cl k_Reader_readLetter [.ref 3] (enc T) = some (some (.int (iI 0)), enc T') ∧ FrI aFl T T' ∧ T'.1 3 5 = iI (e : Int)) ∧ (∀ y, plS t k h f = .inr y → ∃ T', cl k_Reader_readLetter [.ref 3] (enc T) = some (some (.int (iI 1)), enc T') ∧ FrI (aLt c) T T' ∧ pAt T' t y.1 ∧ T'.1 3 6 = iI (16 * (y.2.1 : Int)) ∧ hPt T' c y.2.2) := by
  obtain ⟨r1, r2⟩ := id hp
  have bs := sg_bd ht k
  have hl := ht.1
  have ep := s_partOf bs (enc T)
  have hs := SK_le ht (k + 1)
  have lt3 := ltr_le (sg t k)
  unfold plS
  by_cases c3 : ltr (sg t k) = 3
  · rw [if_pos (Or.inl c3)]
    rw [if_pos c3] at ep
    refine ⟨fun e he => ?_, fun y hy => by cases hy⟩
    cases he
    have ef := c_failAt (T := T) (iI (k : Int))
    refine ⟨sI T 3 5 (iI (k : Int)), ?_, (FrI.rf aFl T).wr _ (by unfold aFl; omega), by simp only [sI_get, sJ_get, sI_2, sJ_1, sJ_22, sR_1, sR_21, Nat.reduceEqDiff, and_true, true_and, and_false, false_and, and_self, if_true, if_false, reduceIte]⟩
    simp (disch := first | omega | assumption | decide | (simp (disch := omega) only [iI_lit, iJ_lit, iJ_eq, iI_eq, bI_01, bI_01I] <;> omega)) only [c_Reader_readLetter, e_Reader_readLetter_0, e_Reader_readLetter_1, e_Reader_readLetter_4, e_Reader_readLetter_5, e_Reader_readLetter_6, e_Reader_readLetter_9, e_Reader_readLetter_10, e_Reader_readLetter_11, e_Reader_readLetter_12, e_Reader_readLetter_15, e_Reader_readLetter_16, e_Reader_readLetter_19, e_Reader_readLetter_20, e_Reader_readLetter_21, e_Reader_readLetter_22, e_Reader_readLetter_23, e_Reader_readLetter_24, e_Reader_readLetter_27, e_Reader_readLetter_28, e_Reader_readLetter_29, e_Reader_readLetter_32, e_Reader_readLetter_35, e_Reader_readLetter_36, e_Reader_readLetter_37, e_Reader_readLetter_38, e_Reader_readLetter_41, e_Reader_readLetter_42, e_Reader_readLetter_43, e_Reader_readLetter_44, e_Reader_readLetter_45, e_Reader_readLetter_48, e_Reader_readLetter_49, e_Reader_readLetter_52, bd_some, bd_none, Option.toList_some, Option.toList_none, List.nil_append, List.cons_append, px_kill_int, px_kill_long, px_kill_ref, px_kill_null, iI_lit, iJ_lit, iI_add, iI_sub, iI_mul, iI_neg, iJ_add, iJ_sub, iJ_mul, iJ_neg, iI_lt, iI_le, iI_eq, iJ_lt, iJ_le, iJ_eq, iI_div, iJ_div, tdiv_tmod, iI_J, iJ_I, iI_ix, iI_toInt, iJ_toInt, cmp_ge, cmp_lt, cmp_eq, cmp_gt, cmp_le, cmp_geI, cmp_ltI, cmp_eqI, cmp_gtI, cmp_leI, bI_0I, bI_1I, pin, if_true, sh_n3, r1, r2, ep, ef]
  · rw [if_neg c3] at ep
    have bh := bit_has h hh (ltr (sg t k)) (by omega)
    have nm1 : ¬ 4 + (ltr (sg t k) : Int) = -1 := by omega
    by_cases cb : hasB h (ltr (sg t k))
    · rw [if_pos (Or.inr cb)]
      have cb' : h / 2 ^ ltr (sg t k) % 2 = 1 := cb
      rw [cb', show ((1 : Nat) : Int) = 1 from rfl] at bh
      refine ⟨fun e he => ?_, fun y hy => by cases hy⟩
      cases he
      have ef := c_failAt (T := T) (iI (k : Int))
      refine ⟨sI T 3 5 (iI (k : Int)), ?_, (FrI.rf aFl T).wr _ (by unfold aFl; omega), by simp only [sI_get, sJ_get, sI_2, sJ_1, sJ_22, sR_1, sR_21, Nat.reduceEqDiff, and_true, true_and, and_false, false_and, and_self, if_true, if_false, reduceIte]⟩
      simp (disch := first | omega | assumption | decide | (simp (disch := omega) only [iI_lit, iJ_lit, iJ_eq, iI_eq, bI_01, bI_01I] <;> omega)) only [c_Reader_readLetter, e_Reader_readLetter_0, e_Reader_readLetter_1, e_Reader_readLetter_4, e_Reader_readLetter_5, e_Reader_readLetter_6, e_Reader_readLetter_9, e_Reader_readLetter_10, e_Reader_readLetter_11, e_Reader_readLetter_12, e_Reader_readLetter_15, e_Reader_readLetter_16, e_Reader_readLetter_19, e_Reader_readLetter_20, e_Reader_readLetter_21, e_Reader_readLetter_22, e_Reader_readLetter_23, e_Reader_readLetter_24, e_Reader_readLetter_27, e_Reader_readLetter_28, e_Reader_readLetter_29, e_Reader_readLetter_32, e_Reader_readLetter_35, e_Reader_readLetter_36, e_Reader_readLetter_37, e_Reader_readLetter_38, e_Reader_readLetter_41, e_Reader_readLetter_42, e_Reader_readLetter_43, e_Reader_readLetter_44, e_Reader_readLetter_45, e_Reader_readLetter_48, e_Reader_readLetter_49, e_Reader_readLetter_52, bd_some, bd_none, Option.toList_some, Option.toList_none, List.nil_append, List.cons_append, px_kill_int, px_kill_long, px_kill_ref, px_kill_null, iI_lit, iJ_lit, iI_add, iI_sub, iI_mul, iI_neg, iJ_add, iJ_sub, iJ_mul, iJ_neg, iI_lt, iI_le, iI_eq, iJ_lt, iJ_le, iJ_eq, iI_div, iJ_div, tdiv_tmod, iI_J, iJ_I, iI_ix, iI_toInt, iJ_toInt, cmp_ge, cmp_lt, cmp_eq, cmp_gt, cmp_le, cmp_geI, cmp_ltI, cmp_eqI, cmp_gtI, cmp_leI, bI_0I, bI_1I, pin, if_true, sh_n3, r1, r2, ep, nm1, if_false, hH, bh, ef]
    · rw [if_neg (fun z => z.elim c3 cb)]
      have cb' : h / 2 ^ ltr (sg t k) % 2 = 0 := by
        have : ¬ h / 2 ^ ltr (sg t k) % 2 = 1 := cb
        omega
      rw [cb', show ((0 : Nat) : Int) = 0 from rfl] at bh
      have bset := bit_set h hh (ltr (sg t k)) (by omega) cb'
      have n01 : ¬ (0 : Int) = 1 := by omega
      obtain ⟨T1, hT1⟩ : ∃ T1, T1 = sI T 3 6 (iI (16 * ((h + 2 ^ ltr (sg t k) : Nat) : Int))) := ⟨_, rfl⟩
      have f1 : FrI (aLt c) T T1 := by rw [hT1]; exact (FrI.rf _ T).wr _ (Or.inl ⟨rfl, by omega⟩)
      have hp1 : pAt T1 t k := by rw [hT1]; exact ⟨by simp only [sI_get, sJ_get, sI_2, sJ_1, sJ_22, sR_1, sR_21, Nat.reduceEqDiff, and_true, true_and, and_false, false_and, and_self, if_true, if_false, reduceIte]; exact r1, by simp only [sI_get, sJ_get, sI_2, sJ_1, sJ_22, sR_1, sR_21, Nat.reduceEqDiff, and_true, true_and, and_false, false_and, and_self, if_true, if_false, reduceIte]; exact r2⟩
      obtain ⟨T2, e2, f2, p2⟩ := c_passN ht (hT.fr f1 (fun q k z => aLt_34 z)) (k := k) (by omega) hp1
      have f12 : FrI (aLt c) T T2 := f1.tr (f2.mono (fun q k z => aMv_lt z))
      have hC2 : T2.1 3 4 = iI (c : Int) := by rw [f12.1 _ _ (by unfold aLt; omega)]; exact hC
      have hH2 : T2.1 3 6 = iI (16 * ((h + 2 ^ ltr (sg t k) : Nat) : Int)) := by rw [f2.1 _ _ (by unfold aMv; omega), hT1]; simp only [sI_get, sJ_get, sI_2, sJ_1, sJ_22, sR_1, sR_21, Nat.reduceEqDiff, and_true, true_and, and_false, false_and, and_self, if_true, if_false, reduceIte]
      have hP2 : hPt T2 c f := fun q hq => by rw [f2.1 _ _ (by unfold aMv; omega), hT1, wr_ne _ _ (by omega)]; exact hP q hq
      have hT2 := hT.fr f12 (fun q k z => aLt_34 z)
      have pre : cl k_Reader_readLetter [.ref 3] (enc T) = rn k_Reader_readLetter 53 [.ref 3, .int (iI (sg t k)), .int (iI (4 + (ltr (sg t k) : Int)))] [.int (iI (sg t k))] (enc T2) := by
        simp (disch := first | omega | assumption | decide | (simp (disch := omega) only [iI_lit, iJ_lit, iJ_eq, iI_eq, bI_01, bI_01I] <;> omega)) only [c_Reader_readLetter, e_Reader_readLetter_0, e_Reader_readLetter_1, e_Reader_readLetter_4, e_Reader_readLetter_5, e_Reader_readLetter_6, e_Reader_readLetter_9, e_Reader_readLetter_10, e_Reader_readLetter_11, e_Reader_readLetter_12, e_Reader_readLetter_15, e_Reader_readLetter_16, e_Reader_readLetter_19, e_Reader_readLetter_20, e_Reader_readLetter_21, e_Reader_readLetter_22, e_Reader_readLetter_23, e_Reader_readLetter_24, e_Reader_readLetter_27, e_Reader_readLetter_28, e_Reader_readLetter_29, e_Reader_readLetter_32, e_Reader_readLetter_35, e_Reader_readLetter_36, e_Reader_readLetter_37, e_Reader_readLetter_38, e_Reader_readLetter_41, e_Reader_readLetter_42, e_Reader_readLetter_43, e_Reader_readLetter_44, e_Reader_readLetter_45, e_Reader_readLetter_48, e_Reader_readLetter_49, e_Reader_readLetter_52, bd_some, bd_none, Option.toList_some, Option.toList_none, List.nil_append, List.cons_append, px_kill_int, px_kill_long, px_kill_ref, px_kill_null, iI_lit, iJ_lit, iI_add, iI_sub, iI_mul, iI_neg, iJ_add, iJ_sub, iJ_mul, iJ_neg, iI_lt, iI_le, iI_eq, iJ_lt, iJ_le, iJ_eq, iI_div, iJ_div, tdiv_tmod, iI_J, iJ_I, iI_ix, iI_toInt, iJ_toInt, cmp_ge, cmp_lt, cmp_eq, cmp_gt, cmp_le, cmp_geI, cmp_ltI, cmp_eqI, cmp_gtI, cmp_leI, bI_0I, bI_1I, pin, if_true, sh_n3, r1, r2, ep, nm1, if_false, hH, bh, n01, bset]
        rw [← hT1, e2]
        simp (disch := first | omega | assumption | decide | (simp (disch := omega) only [iI_lit, iJ_lit, iJ_eq, iI_eq, bI_01, bI_01I] <;> omega)) only [e_Reader_readLetter_48, e_Reader_readLetter_49, e_Reader_readLetter_52, bd_some, bd_none, Option.toList_some, Option.toList_none, List.nil_append, List.cons_append, px_kill_int, px_kill_long, px_kill_ref, px_kill_null, iI_lit, iJ_lit, iI_add, iI_sub, iI_mul, iI_neg, iJ_add, iJ_sub, iJ_mul, iJ_neg, iI_lt, iI_le, iI_eq, iJ_lt, iJ_le, iJ_eq, iI_div, iJ_div, tdiv_tmod, iI_J, iJ_I, iI_ix, iI_toInt, iJ_toInt, cmp_ge, cmp_lt, cmp_eq, cmp_gt, cmp_le, cmp_geI, cmp_ltI, cmp_eqI, cmp_gtI, cmp_leI, bI_0I, bI_1I, pin, if_true]
      by_cases c0 : ltr (sg t k) = 0
      · rw [if_pos c0]
        refine ⟨fun e he => (by cases he), fun y hy => ?_⟩
        cases hy
        have et := c_tell (T := T2) hc (w := 4) (by omega) hC2 (iI (knd (sg t k)))
        have e44 : ((4 : Nat) : Int) = 4 := rfl
        rw [e44] at et
        rw [c0] at hH2
        refine ⟨sI T2 4 (8 * c + 4) (iI (knd (sg t k))), ?_, f12.wr _ (Or.inr ⟨rfl, by omega⟩), ?_, ?_, ?_⟩
        · rw [pre]
          have d1 : ¬ sg t k = 111 := by intro z; rw [z] at c0; cases c0
          have d2 : ¬ sg t k = 116 := by intro z; rw [z] at c0; cases c0
          generalize iI (4 + (ltr (sg t k) : Int)) = I2
          by_cases k1 : sg t k = 114
          · have ek : knd (sg t k) = 0 := by rw [k1]; rfl
            rw [ek] at et ⊢
            have d1' : ¬ (114 : Int) = 111 := by omega
            have d2' : ¬ (114 : Int) = 116 := by omega
            simp (disch := first | omega | assumption | decide | (simp (disch := omega) only [iI_lit, iJ_lit, iJ_eq, iI_eq, bI_01, bI_01I] <;> omega)) only [e_Reader_readLetter_53, e_Reader_readLetter_80, e_Reader_readLetter_81, e_Reader_readLetter_82, e_Reader_readLetter_84, e_Reader_readLetter_85, e_Reader_readLetter_88, e_Reader_readLetter_89, e_Reader_readLetter_90, e_Reader_readLetter_92, e_Reader_readLetter_94, e_Reader_readLetter_97, e_Reader_readLetter_98, e_Reader_readLetter_99, e_Reader_readLetter_100, e_Reader_readLetter_101, e_Reader_readLetter_103, e_Reader_readLetter_106, e_Reader_readLetter_107, e_Reader_readLetter_110, e_Reader_readLetter_111, e_Reader_readLetter_113, e_Reader_readLetter_116, e_Reader_readLetter_117, e_Reader_readLetter_120, e_Reader_readLetter_121, e_Reader_readLetter_124, e_Reader_readLetter_125, bd_some, bd_none, Option.toList_some, Option.toList_none, List.nil_append, List.cons_append, px_kill_int, px_kill_long, px_kill_ref, px_kill_null, iI_lit, iJ_lit, iI_add, iI_sub, iI_mul, iI_neg, iJ_add, iJ_sub, iJ_mul, iJ_neg, iI_lt, iI_le, iI_eq, iJ_lt, iJ_le, iJ_eq, iI_div, iJ_div, tdiv_tmod, iI_J, iJ_I, iI_ix, iI_toInt, iJ_toInt, cmp_ge, cmp_lt, cmp_eq, cmp_gt, cmp_le, cmp_geI, cmp_ltI, cmp_eqI, cmp_gtI, cmp_leI, bI_0I, bI_1I, pin, if_true, sh_n3, k1, d1', d2', if_false, et]
          · by_cases k2 : sg t k = 100
            · have ek : knd (sg t k) = 1 := by rw [k2]; rfl
              rw [ek] at et ⊢
              have d1' : ¬ (100 : Int) = 111 := by omega
              have d2' : ¬ (100 : Int) = 116 := by omega
              have d3' : ¬ (100 : Int) = 114 := by omega
              simp (disch := first | omega | assumption | decide | (simp (disch := omega) only [iI_lit, iJ_lit, iJ_eq, iI_eq, bI_01, bI_01I] <;> omega)) only [e_Reader_readLetter_53, e_Reader_readLetter_80, e_Reader_readLetter_81, e_Reader_readLetter_82, e_Reader_readLetter_84, e_Reader_readLetter_85, e_Reader_readLetter_88, e_Reader_readLetter_89, e_Reader_readLetter_90, e_Reader_readLetter_92, e_Reader_readLetter_94, e_Reader_readLetter_97, e_Reader_readLetter_98, e_Reader_readLetter_99, e_Reader_readLetter_100, e_Reader_readLetter_101, e_Reader_readLetter_103, e_Reader_readLetter_106, e_Reader_readLetter_107, e_Reader_readLetter_110, e_Reader_readLetter_111, e_Reader_readLetter_113, e_Reader_readLetter_116, e_Reader_readLetter_117, e_Reader_readLetter_120, e_Reader_readLetter_121, e_Reader_readLetter_124, e_Reader_readLetter_125, bd_some, bd_none, Option.toList_some, Option.toList_none, List.nil_append, List.cons_append, px_kill_int, px_kill_long, px_kill_ref, px_kill_null, iI_lit, iJ_lit, iI_add, iI_sub, iI_mul, iI_neg, iJ_add, iJ_sub, iJ_mul, iJ_neg, iI_lt, iI_le, iI_eq, iJ_lt, iJ_le, iJ_eq, iI_div, iJ_div, tdiv_tmod, iI_J, iJ_I, iI_ix, iI_toInt, iJ_toInt, cmp_ge, cmp_lt, cmp_eq, cmp_gt, cmp_le, cmp_geI, cmp_ltI, cmp_eqI, cmp_gtI, cmp_leI, bI_0I, bI_1I, pin, if_true, sh_n3, k2, d1', d2', d3', if_false, et]
            · have ek : knd (sg t k) = 2 := by unfold knd; rw [if_neg k1, if_neg k2]
              rw [ek] at et ⊢
              simp (disch := first | omega | assumption | decide | (simp (disch := omega) only [iI_lit, iJ_lit, iJ_eq, iI_eq, bI_01, bI_01I] <;> omega)) only [e_Reader_readLetter_53, e_Reader_readLetter_80, e_Reader_readLetter_81, e_Reader_readLetter_82, e_Reader_readLetter_84, e_Reader_readLetter_85, e_Reader_readLetter_88, e_Reader_readLetter_89, e_Reader_readLetter_90, e_Reader_readLetter_92, e_Reader_readLetter_94, e_Reader_readLetter_97, e_Reader_readLetter_98, e_Reader_readLetter_99, e_Reader_readLetter_100, e_Reader_readLetter_101, e_Reader_readLetter_103, e_Reader_readLetter_106, e_Reader_readLetter_107, e_Reader_readLetter_110, e_Reader_readLetter_111, e_Reader_readLetter_113, e_Reader_readLetter_116, e_Reader_readLetter_117, e_Reader_readLetter_120, e_Reader_readLetter_121, e_Reader_readLetter_124, e_Reader_readLetter_125, bd_some, bd_none, Option.toList_some, Option.toList_none, List.nil_append, List.cons_append, px_kill_int, px_kill_long, px_kill_ref, px_kill_null, iI_lit, iJ_lit, iI_add, iI_sub, iI_mul, iI_neg, iJ_add, iJ_sub, iJ_mul, iJ_neg, iI_lt, iI_le, iI_eq, iJ_lt, iJ_le, iJ_eq, iI_div, iJ_div, tdiv_tmod, iI_J, iJ_I, iI_ix, iI_toInt, iJ_toInt, cmp_ge, cmp_lt, cmp_eq, cmp_gt, cmp_le, cmp_geI, cmp_ltI, cmp_eqI, cmp_gtI, cmp_leI, bI_0I, bI_1I, pin, if_true, sh_n3, d1, d2, k1, k2, if_false, et]
        · exact ⟨by simp only [sI_get, sJ_get, sI_2, sJ_1, sJ_22, sR_1, sR_21, Nat.reduceEqDiff, and_true, true_and, and_false, false_and, and_self, if_true, if_false, reduceIte]; exact p2.1, by simp only [sI_get, sJ_get, sI_2, sJ_1, sJ_22, sR_1, sR_21, Nat.reduceEqDiff, and_true, true_and, and_false, false_and, and_self, if_true, if_false, reduceIte]; exact p2.2⟩
        · rw [wr_ne _ _ (by omega)]; exact hH2
        · intro q hq
          show _ = iI (setF f 4 (knd (sg t k)) q)
          unfold setF
          by_cases q4 : q = 4
          · rw [if_pos q4, q4]; simp only [sI_get, sJ_get, sI_2, sJ_1, sJ_22, sR_1, sR_21, Nat.reduceEqDiff, and_true, true_and, and_false, false_and, and_self, if_true, if_false, reduceIte]
          · rw [if_neg q4, wr_ne _ _ (by omega)]; exact hP2 q hq
      · rw [if_neg c0]
        by_cases c1 : ltr (sg t k) = 1
        · rw [if_pos c1]
          have k1 : sg t k = 116 := ltr_1 c1
          rw [c1] at hH2
          obtain ⟨n1, n2⟩ := c_number ht hT2 (hs.2 (by omega)) p2 hc (w := 5) (by omega) hC2 (tone := true) ⟨fun _ => rfl, fun _ => rfl⟩ (most := 100) (by omega) (dm := 3) (by omega)
          have e55 : ((5 : Nat) : Int) = 5 := rfl
          have e33 : ((3 : Nat) : Int) = 3 := rfl
          rw [e55, e33] at n1 n2
          have d1 : ¬ (116 : Int) = 111 := by omega
          generalize iI (4 + (ltr (sg t k) : Int)) = I2 at pre
          generalize pnum t (SK t (k + 1)) true 100 3 = P at *
          cases P with
          | inl e =>
            refine ⟨fun e' he => ?_, fun y hy => by cases hy⟩
            cases he
            obtain ⟨T3, e3, f3, g3⟩ := n1 e rfl
            refine ⟨T3, ?_, (f12.mono (fun q k z => aLt_fl z)).tr f3, g3⟩
            rw [pre, k1]
            simp (disch := first | omega | assumption | decide | (simp (disch := omega) only [iI_lit, iJ_lit, iJ_eq, iI_eq, bI_01, bI_01I] <;> omega)) only [e_Reader_readLetter_53, e_Reader_readLetter_80, e_Reader_readLetter_81, e_Reader_readLetter_82, e_Reader_readLetter_84, e_Reader_readLetter_85, e_Reader_readLetter_88, e_Reader_readLetter_89, e_Reader_readLetter_90, e_Reader_readLetter_92, e_Reader_readLetter_94, e_Reader_readLetter_97, bd_some, bd_none, Option.toList_some, Option.toList_none, List.nil_append, List.cons_append, px_kill_int, px_kill_long, px_kill_ref, px_kill_null, iI_lit, iJ_lit, iI_add, iI_sub, iI_mul, iI_neg, iJ_add, iJ_sub, iJ_mul, iJ_neg, iI_lt, iI_le, iI_eq, iJ_lt, iJ_le, iJ_eq, iI_div, iJ_div, tdiv_tmod, iI_J, iJ_I, iI_ix, iI_toInt, iJ_toInt, cmp_ge, cmp_lt, cmp_eq, cmp_gt, cmp_le, cmp_geI, cmp_ltI, cmp_eqI, cmp_gtI, cmp_leI, bI_0I, bI_1I, pin, if_true, sh_n3, d1, if_false, e3]
          | inr x =>
            refine ⟨fun e' he => (by cases he), fun y hy => ?_⟩
            cases hy
            obtain ⟨T3, e3, f3, p3, v3⟩ := n2 x rfl
            have f3' : FrI (aLt c) T2 T3 := f3.mono (fun q k z => by unfold aNs aMv at z; unfold aLt; omega)
            refine ⟨T3, ?_, f12.tr f3', p3, ?_, ?_⟩
            · rw [pre, k1]
              simp (disch := first | omega | assumption | decide | (simp (disch := omega) only [iI_lit, iJ_lit, iJ_eq, iI_eq, bI_01, bI_01I] <;> omega)) only [e_Reader_readLetter_53, e_Reader_readLetter_80, e_Reader_readLetter_81, e_Reader_readLetter_82, e_Reader_readLetter_84, e_Reader_readLetter_85, e_Reader_readLetter_88, e_Reader_readLetter_89, e_Reader_readLetter_90, e_Reader_readLetter_92, e_Reader_readLetter_94, e_Reader_readLetter_97, bd_some, bd_none, Option.toList_some, Option.toList_none, List.nil_append, List.cons_append, px_kill_int, px_kill_long, px_kill_ref, px_kill_null, iI_lit, iJ_lit, iI_add, iI_sub, iI_mul, iI_neg, iJ_add, iJ_sub, iJ_mul, iJ_neg, iI_lt, iI_le, iI_eq, iJ_lt, iJ_le, iJ_eq, iI_div, iJ_div, tdiv_tmod, iI_J, iJ_I, iI_ix, iI_toInt, iJ_toInt, cmp_ge, cmp_lt, cmp_eq, cmp_gt, cmp_le, cmp_geI, cmp_ltI, cmp_eqI, cmp_gtI, cmp_leI, bI_0I, bI_1I, pin, if_true, sh_n3, d1, if_false, e3]
            · rw [f3.1 _ _ (by unfold aNs aMv; omega)]; exact hH2
            · intro q hq
              show _ = iI (setF f 5 x.1 q)
              unfold setF
              by_cases q5 : q = 5
              · rw [if_pos q5, q5]; exact v3
              · rw [if_neg q5, f3.1 _ _ (by unfold aNs aMv; omega)]; exact hP2 q hq
        · rw [if_neg c1]
          have k1 : sg t k = 111 := ltr_2 (by omega)
          have c2 : ltr (sg t k) = 2 := by omega
          rw [c2] at hH2
          obtain ⟨n1, n2⟩ := c_couple ht hT2 (hs.2 (by omega)) p2 hc (w := 6) (by omega) hC2 (most := 99) (by omega)
          have e66 : ((6 : Nat) : Int) = 6 := rfl
          rw [e66] at n1 n2
          generalize iI (4 + (ltr (sg t k) : Int)) = I2 at pre
          generalize pcpl t (SK t (k + 1)) 99 = P at *
          cases P with
          | inl e =>
            refine ⟨fun e' he => ?_, fun y hy => by cases hy⟩
            cases he
            obtain ⟨T3, e3, f3, g3⟩ := n1 e rfl
            refine ⟨T3, ?_, (f12.mono (fun q k z => aLt_fl z)).tr f3, g3⟩
            rw [pre, k1]
            simp (disch := first | omega | assumption | decide | (simp (disch := omega) only [iI_lit, iJ_lit, iJ_eq, iI_eq, bI_01, bI_01I] <;> omega)) only [e_Reader_readLetter_53, e_Reader_readLetter_80, e_Reader_readLetter_81, e_Reader_readLetter_82, e_Reader_readLetter_84, e_Reader_readLetter_85, e_Reader_readLetter_88, e_Reader_readLetter_89, e_Reader_readLetter_90, e_Reader_readLetter_92, e_Reader_readLetter_94, e_Reader_readLetter_97, bd_some, bd_none, Option.toList_some, Option.toList_none, List.nil_append, List.cons_append, px_kill_int, px_kill_long, px_kill_ref, px_kill_null, iI_lit, iJ_lit, iI_add, iI_sub, iI_mul, iI_neg, iJ_add, iJ_sub, iJ_mul, iJ_neg, iI_lt, iI_le, iI_eq, iJ_lt, iJ_le, iJ_eq, iI_div, iJ_div, tdiv_tmod, iI_J, iJ_I, iI_ix, iI_toInt, iJ_toInt, cmp_ge, cmp_lt, cmp_eq, cmp_gt, cmp_le, cmp_geI, cmp_ltI, cmp_eqI, cmp_gtI, cmp_leI, bI_0I, bI_1I, pin, if_true, sh_n3, e3]
          | inr x =>
            refine ⟨fun e' he => (by cases he), fun y hy => ?_⟩
            cases hy
            obtain ⟨T3, e3, f3, p3, v3, v4⟩ := n2 x rfl
            have f3' : FrI (aLt c) T2 T3 := f3.mono (fun q k z => by unfold aC2 aMv at z; unfold aLt; omega)
            refine ⟨T3, ?_, f12.tr f3', p3, ?_, ?_⟩
            · rw [pre, k1]
              simp (disch := first | omega | assumption | decide | (simp (disch := omega) only [iI_lit, iJ_lit, iJ_eq, iI_eq, bI_01, bI_01I] <;> omega)) only [e_Reader_readLetter_53, e_Reader_readLetter_80, e_Reader_readLetter_81, e_Reader_readLetter_82, e_Reader_readLetter_84, e_Reader_readLetter_85, e_Reader_readLetter_88, e_Reader_readLetter_89, e_Reader_readLetter_90, e_Reader_readLetter_92, e_Reader_readLetter_94, e_Reader_readLetter_97, bd_some, bd_none, Option.toList_some, Option.toList_none, List.nil_append, List.cons_append, px_kill_int, px_kill_long, px_kill_ref, px_kill_null, iI_lit, iJ_lit, iI_add, iI_sub, iI_mul, iI_neg, iJ_add, iJ_sub, iJ_mul, iJ_neg, iI_lt, iI_le, iI_eq, iJ_lt, iJ_le, iJ_eq, iI_div, iJ_div, tdiv_tmod, iI_J, iJ_I, iI_ix, iI_toInt, iJ_toInt, cmp_ge, cmp_lt, cmp_eq, cmp_gt, cmp_le, cmp_geI, cmp_ltI, cmp_eqI, cmp_gtI, cmp_leI, bI_0I, bI_1I, pin, if_true, sh_n3, e3]
            · rw [f3.1 _ _ (by unfold aC2 aMv; omega)]; exact hH2
            · intro q hq
              show _ = iI (setF (setF f 6 x.1.1) 7 x.1.2 q)
              unfold setF
              by_cases q7 : q = 7
              · rw [if_pos q7, q7]; exact v4
              · rw [if_neg q7]
                by_cases q6 : q = 6
                · rw [if_pos q6, q6]; exact v3
                · rw [if_neg q6, f3.1 _ _ (by unfold aC2 aMv; omega)]; exact hP2 q hq
