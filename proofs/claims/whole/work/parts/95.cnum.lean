/-! the component's numbers. -/
theorem pow10 {d : Nat} (h : d ≤ 3) : (1 : Int) ≤ (10 : Int) ^ d ∧ (10 : Int) ^ d ≤ 1000 := by
  have : d = 0 ∨ d = 1 ∨ d = 2 ∨ d = 3 := by omega
  rcases this with h | h | h | h <;> subst h <;> decide
def aFl (q k : Nat) : Prop := (q = 3 ∧ (k = 2 ∨ k = 3 ∨ k = 5 ∨ k = 6)) ∨ q = 4
def aNs (c w q k : Nat) : Prop := aMv q k ∨ (q = 4 ∧ k = 8 * c + w)
theorem aMv_fl {q k : Nat} (h : aMv q k) : aFl q k := by unfold aMv at h; unfold aFl; omega
theorem aFl_34 {q k : Nat} (h : aFl q k) : q = 3 ∨ q = 4 := by unfold aFl at h; omega
theorem aNs_34 {c w q k : Nat} (h : aNs c w q k) : q = 3 ∨ q = 4 := by unfold aNs aMv at h; omega
theorem aNs_fl {c w q k : Nat} (h : aNs c w q k) : aFl q k := by unfold aNs aMv at h; unfold aFl; omega
theorem pAt.fl {T : TS} {t : TP} {k : Nat} (h : pAt T t k) : T.1 3 2 = iI (k : Int) := h.1
set_option maxHeartbeats 2000000 in
theorem lp_num {t : TP} (ht : okTp t) {dm : Nat} (hdm : dm ≤ 3) (w b : Int32) (most : Int32) : ∀ (n k d : Nat) (v : Int) (T : TS), d + n = dm → hTp T t → pAt T t k → k ≤ 160 → 0 ≤ v → v + 1 ≤ (10 : Int) ^ d → (∀ e, pD t n k v = .inl e → ∃ T', rn k_Reader_readNumber 39 [.ref 3, .int w, .int most, .int (iI (dm : Int)), .int b, .int (iI v), .int (iI (d : Int)), .int (iI (d : Int))] [] (enc T) = some (some (.int (iI 0)), enc T') ∧ FrI aFl T T' ∧ T'.1 3 5 = iI (e : Int)) ∧ (∀ x, pD t n k v = .inr x → ∃ (T' : TS) (d' : Nat), rn k_Reader_readNumber 39 [.ref 3, .int w, .int most, .int (iI (dm : Int)), .int b, .int (iI v), .int (iI (d : Int)), .int (iI (d : Int))] [] (enc T) = rn k_Reader_readNumber 108 [.ref 3, .int w, .int most, .int (iI (dm : Int)), .int b, .int (iI x.1), .int (iI (d' : Int)), .int (iI (d' : Int))] [] (enc T') ∧ FrI aMv T T' ∧ pAt T' t x.2 ∧ d ≤ d' ∧ d' ≤ dm ∧ (dg (sg t k) → 0 < n → d < d') ∧ 0 ≤ x.1 ∧ x.1 + 1 ≤ (10 : Int) ^ d') := by
  intro n
  induction n with
  | zero =>
    intro k d v T hd hT hp hk h0 h1
    obtain ⟨p1, p2⟩ := id hp
    have bs := sg_bd ht k
    have ed : (d : Int) = (dm : Int) := by omega
    have c160 : ¬ (160 : Int) ≤ (dm : Int) := by omega
    rw [pD_0]
    by_cases c : dg (sg t k)
    · rw [if_pos c]
      have c1 : ¬ sg t k < 48 := by omega
      have c2 : ¬ 57 < sg t k := by omega
      refine ⟨fun e he => ?_, fun x hx => by cases hx⟩
      cases he
      refine ⟨sI T 3 5 (iI (k : Int)), ?_, (FrI.rf aFl T).wr _ (by unfold aFl; omega), by simp only [sI_get, sJ_get, sI_2, sJ_1, sJ_22, sR_1, sR_21, Nat.reduceEqDiff, and_true, true_and, and_false, false_and, and_self, if_true, if_false, reduceIte]⟩
      have ef := c_failAt (T := T) (iI (k : Int))
      rw [e_Reader_readNumber_39, ed]
      simp (disch := first | omega | assumption | decide | (simp (disch := omega) only [iI_lit, iJ_lit, iJ_eq, iI_eq, bI_01, bI_01I] <;> omega)) only [e_Reader_readNumber_41, e_Reader_readNumber_44, e_Reader_readNumber_47, e_Reader_readNumber_48, e_Reader_readNumber_51, e_Reader_readNumber_53, e_Reader_readNumber_56, e_Reader_readNumber_57, e_Reader_readNumber_60, e_Reader_readNumber_62, e_Reader_readNumber_65, e_Reader_readNumber_67, e_Reader_readNumber_68, e_Reader_readNumber_71, e_Reader_readNumber_72, e_Reader_readNumber_73, e_Reader_readNumber_76, e_Reader_readNumber_79, e_Reader_readNumber_80, e_Reader_readNumber_82, e_Reader_readNumber_84, e_Reader_readNumber_85, e_Reader_readNumber_86, e_Reader_readNumber_89, e_Reader_readNumber_90, e_Reader_readNumber_92, e_Reader_readNumber_93, e_Reader_readNumber_95, e_Reader_readNumber_98, e_Reader_readNumber_99, e_Reader_readNumber_102, e_Reader_readNumber_105, bd_some, bd_none, Option.toList_some, Option.toList_none, List.nil_append, List.cons_append, px_kill_int, px_kill_long, px_kill_ref, px_kill_null, iI_lit, iJ_lit, iI_add, iI_sub, iI_mul, iI_neg, iJ_add, iJ_sub, iJ_mul, iJ_neg, iI_lt, iI_le, iI_eq, iJ_lt, iJ_le, iJ_eq, iI_div, iJ_div, tdiv_tmod, iI_J, iJ_I, iI_ix, iI_toInt, iJ_toInt, cmp_ge, cmp_lt, cmp_eq, cmp_gt, cmp_le, cmp_geI, cmp_ltI, cmp_eqI, cmp_gtI, cmp_leI, bI_0I, bI_1I, pin, if_true, c160, if_false, sh_n3, p2, c1, c2, p1, ef]
    · rw [if_neg c]
      refine ⟨fun e he => (by cases he), fun x hx => ?_⟩
      cases hx
      refine ⟨T, d, ?_, FrI.rf _ _, hp, Nat.le_refl _, by omega, fun z => absurd z c, h0, h1⟩
      rw [e_Reader_readNumber_39, ed]
      by_cases c1 : sg t k < 48
      · simp (disch := first | omega | assumption | decide | (simp (disch := omega) only [iI_lit, iJ_lit, iJ_eq, iI_eq, bI_01, bI_01I] <;> omega)) only [e_Reader_readNumber_41, e_Reader_readNumber_44, e_Reader_readNumber_47, e_Reader_readNumber_48, e_Reader_readNumber_51, e_Reader_readNumber_53, e_Reader_readNumber_56, e_Reader_readNumber_57, e_Reader_readNumber_60, e_Reader_readNumber_62, e_Reader_readNumber_65, e_Reader_readNumber_67, e_Reader_readNumber_68, e_Reader_readNumber_71, e_Reader_readNumber_72, e_Reader_readNumber_73, e_Reader_readNumber_76, e_Reader_readNumber_79, e_Reader_readNumber_80, e_Reader_readNumber_82, e_Reader_readNumber_84, e_Reader_readNumber_85, e_Reader_readNumber_86, e_Reader_readNumber_89, e_Reader_readNumber_90, e_Reader_readNumber_92, e_Reader_readNumber_93, e_Reader_readNumber_95, e_Reader_readNumber_98, e_Reader_readNumber_99, e_Reader_readNumber_102, e_Reader_readNumber_105, bd_some, bd_none, Option.toList_some, Option.toList_none, List.nil_append, List.cons_append, px_kill_int, px_kill_long, px_kill_ref, px_kill_null, iI_lit, iJ_lit, iI_add, iI_sub, iI_mul, iI_neg, iJ_add, iJ_sub, iJ_mul, iJ_neg, iI_lt, iI_le, iI_eq, iJ_lt, iJ_le, iJ_eq, iI_div, iJ_div, tdiv_tmod, iI_J, iJ_I, iI_ix, iI_toInt, iJ_toInt, cmp_ge, cmp_lt, cmp_eq, cmp_gt, cmp_le, cmp_geI, cmp_ltI, cmp_eqI, cmp_gtI, cmp_leI, bI_0I, bI_1I, pin, if_true, c160, if_false, sh_n3, p2, c1]
      · have c2 : 57 < sg t k := by omega
        simp (disch := first | omega | assumption | decide | (simp (disch := omega) only [iI_lit, iJ_lit, iJ_eq, iI_eq, bI_01, bI_01I] <;> omega)) only [e_Reader_readNumber_41, e_Reader_readNumber_44, e_Reader_readNumber_47, e_Reader_readNumber_48, e_Reader_readNumber_51, e_Reader_readNumber_53, e_Reader_readNumber_56, e_Reader_readNumber_57, e_Reader_readNumber_60, e_Reader_readNumber_62, e_Reader_readNumber_65, e_Reader_readNumber_67, e_Reader_readNumber_68, e_Reader_readNumber_71, e_Reader_readNumber_72, e_Reader_readNumber_73, e_Reader_readNumber_76, e_Reader_readNumber_79, e_Reader_readNumber_80, e_Reader_readNumber_82, e_Reader_readNumber_84, e_Reader_readNumber_85, e_Reader_readNumber_86, e_Reader_readNumber_89, e_Reader_readNumber_90, e_Reader_readNumber_92, e_Reader_readNumber_93, e_Reader_readNumber_95, e_Reader_readNumber_98, e_Reader_readNumber_99, e_Reader_readNumber_102, e_Reader_readNumber_105, bd_some, bd_none, Option.toList_some, Option.toList_none, List.nil_append, List.cons_append, px_kill_int, px_kill_long, px_kill_ref, px_kill_null, iI_lit, iJ_lit, iI_add, iI_sub, iI_mul, iI_neg, iJ_add, iJ_sub, iJ_mul, iJ_neg, iI_lt, iI_le, iI_eq, iJ_lt, iJ_le, iJ_eq, iI_div, iJ_div, tdiv_tmod, iI_J, iJ_I, iI_ix, iI_toInt, iJ_toInt, cmp_ge, cmp_lt, cmp_eq, cmp_gt, cmp_le, cmp_geI, cmp_ltI, cmp_eqI, cmp_gtI, cmp_leI, bI_0I, bI_1I, pin, if_true, c160, if_false, sh_n3, p2, c1, c2]
  | succ n ih =>
    intro k d v T hd hT hp hk h0 h1
    obtain ⟨p1, p2⟩ := id hp
    have bs := sg_bd ht k
    have c160 : ¬ (160 : Int) ≤ (d : Int) := by omega
    have hdd : ¬ (d : Int) = (dm : Int) := by omega
    have p10 := pow10 (d := d) (by omega)
    have p11 : (10 : Int) ^ (d + 1) = (10 : Int) ^ d * 10 := by rw [Int.pow_succ]
    rw [pD_s]
    by_cases c : dg (sg t k)
    · rw [if_pos c]
      have c1 : ¬ sg t k < 48 := by omega
      have c2 : ¬ 57 < sg t k := by omega
      have hkt := sg_lt (t := t) (k := k) (by omega)
      have hl := ht.1
      obtain ⟨T1, e1, f1, q1⟩ := c_move ht hT (k := k + 1) (by omega) (by rw [p1, show ((k + 1 : Nat) : Int) - 1 = (k : Int) by omega])
      obtain ⟨i1, i2⟩ := ih (k + 1) (d + 1) (10 * v + sg t k - 48) T1 (by omega) (hT.fr f1 (fun q k z => Or.inl z.1)) q1 (by omega) (by omega) (by rw [p11]; omega)
      have step : rn k_Reader_readNumber 39 [.ref 3, .int w, .int most, .int (iI (dm : Int)), .int b, .int (iI v), .int (iI (d : Int)), .int (iI (d : Int))] [] (enc T) = rn k_Reader_readNumber 39 [.ref 3, .int w, .int most, .int (iI (dm : Int)), .int b, .int (iI (10 * v + sg t k - 48)), .int (iI ((d + 1 : Nat) : Int)), .int (iI ((d + 1 : Nat) : Int))] [] (enc T1) := by
        have ev : v * 10 + sg t k - 48 = 10 * v + sg t k - 48 := by omega
        rw [show ((d + 1 : Nat) : Int) = (d : Int) + 1 by omega, e_Reader_readNumber_39]
        simp (disch := first | omega | assumption | decide | (simp (disch := omega) only [iI_lit, iJ_lit, iJ_eq, iI_eq, bI_01, bI_01I] <;> omega)) only [e_Reader_readNumber_41, e_Reader_readNumber_44, e_Reader_readNumber_47, e_Reader_readNumber_48, e_Reader_readNumber_51, e_Reader_readNumber_53, e_Reader_readNumber_56, e_Reader_readNumber_57, e_Reader_readNumber_60, e_Reader_readNumber_62, e_Reader_readNumber_65, e_Reader_readNumber_67, e_Reader_readNumber_68, e_Reader_readNumber_71, e_Reader_readNumber_72, e_Reader_readNumber_73, e_Reader_readNumber_76, e_Reader_readNumber_79, e_Reader_readNumber_80, e_Reader_readNumber_82, e_Reader_readNumber_84, e_Reader_readNumber_85, e_Reader_readNumber_86, e_Reader_readNumber_89, e_Reader_readNumber_90, e_Reader_readNumber_92, e_Reader_readNumber_93, e_Reader_readNumber_95, e_Reader_readNumber_98, e_Reader_readNumber_99, e_Reader_readNumber_102, e_Reader_readNumber_105, bd_some, bd_none, Option.toList_some, Option.toList_none, List.nil_append, List.cons_append, px_kill_int, px_kill_long, px_kill_ref, px_kill_null, iI_lit, iJ_lit, iI_add, iI_sub, iI_mul, iI_neg, iJ_add, iJ_sub, iJ_mul, iJ_neg, iI_lt, iI_le, iI_eq, iJ_lt, iJ_le, iJ_eq, iI_div, iJ_div, tdiv_tmod, iI_J, iJ_I, iI_ix, iI_toInt, iJ_toInt, cmp_ge, cmp_lt, cmp_eq, cmp_gt, cmp_le, cmp_geI, cmp_ltI, cmp_eqI, cmp_gtI, cmp_leI, bI_0I, bI_1I, pin, if_true, c160, if_false, sh_n3, p2, c1, c2, hdd, ev, e1]
      refine ⟨fun e he => ?_, fun x hx => ?_⟩
      · obtain ⟨T', e2, f2, g2⟩ := i1 e he
        exact ⟨T', step.trans e2, (f1.mono (fun q k z => aMv_fl z)).tr f2, g2⟩
      · obtain ⟨T', d', e2, f2, g2, g3, g4, _, g5, g6⟩ := i2 x hx
        exact ⟨T', d', step.trans e2, f1.tr f2, g2, by omega, g4, fun _ _ => by omega, g5, g6⟩
    · rw [if_neg c]
      refine ⟨fun e he => (by cases he), fun x hx => ?_⟩
      cases hx
      refine ⟨T, d, ?_, FrI.rf _ _, hp, Nat.le_refl _, by omega, fun z => absurd z c, h0, h1⟩
      rw [e_Reader_readNumber_39]
      by_cases c1 : sg t k < 48
      · simp (disch := first | omega | assumption | decide | (simp (disch := omega) only [iI_lit, iJ_lit, iJ_eq, iI_eq, bI_01, bI_01I] <;> omega)) only [e_Reader_readNumber_41, e_Reader_readNumber_44, e_Reader_readNumber_47, e_Reader_readNumber_48, e_Reader_readNumber_51, e_Reader_readNumber_53, e_Reader_readNumber_56, e_Reader_readNumber_57, e_Reader_readNumber_60, e_Reader_readNumber_62, e_Reader_readNumber_65, e_Reader_readNumber_67, e_Reader_readNumber_68, e_Reader_readNumber_71, e_Reader_readNumber_72, e_Reader_readNumber_73, e_Reader_readNumber_76, e_Reader_readNumber_79, e_Reader_readNumber_80, e_Reader_readNumber_82, e_Reader_readNumber_84, e_Reader_readNumber_85, e_Reader_readNumber_86, e_Reader_readNumber_89, e_Reader_readNumber_90, e_Reader_readNumber_92, e_Reader_readNumber_93, e_Reader_readNumber_95, e_Reader_readNumber_98, e_Reader_readNumber_99, e_Reader_readNumber_102, e_Reader_readNumber_105, bd_some, bd_none, Option.toList_some, Option.toList_none, List.nil_append, List.cons_append, px_kill_int, px_kill_long, px_kill_ref, px_kill_null, iI_lit, iJ_lit, iI_add, iI_sub, iI_mul, iI_neg, iJ_add, iJ_sub, iJ_mul, iJ_neg, iI_lt, iI_le, iI_eq, iJ_lt, iJ_le, iJ_eq, iI_div, iJ_div, tdiv_tmod, iI_J, iJ_I, iI_ix, iI_toInt, iJ_toInt, cmp_ge, cmp_lt, cmp_eq, cmp_gt, cmp_le, cmp_geI, cmp_ltI, cmp_eqI, cmp_gtI, cmp_leI, bI_0I, bI_1I, pin, if_true, c160, if_false, sh_n3, p2, c1]
      · have c2 : 57 < sg t k := by omega
        simp (disch := first | omega | assumption | decide | (simp (disch := omega) only [iI_lit, iJ_lit, iJ_eq, iI_eq, bI_01, bI_01I] <;> omega)) only [e_Reader_readNumber_41, e_Reader_readNumber_44, e_Reader_readNumber_47, e_Reader_readNumber_48, e_Reader_readNumber_51, e_Reader_readNumber_53, e_Reader_readNumber_56, e_Reader_readNumber_57, e_Reader_readNumber_60, e_Reader_readNumber_62, e_Reader_readNumber_65, e_Reader_readNumber_67, e_Reader_readNumber_68, e_Reader_readNumber_71, e_Reader_readNumber_72, e_Reader_readNumber_73, e_Reader_readNumber_76, e_Reader_readNumber_79, e_Reader_readNumber_80, e_Reader_readNumber_82, e_Reader_readNumber_84, e_Reader_readNumber_85, e_Reader_readNumber_86, e_Reader_readNumber_89, e_Reader_readNumber_90, e_Reader_readNumber_92, e_Reader_readNumber_93, e_Reader_readNumber_95, e_Reader_readNumber_98, e_Reader_readNumber_99, e_Reader_readNumber_102, e_Reader_readNumber_105, bd_some, bd_none, Option.toList_some, Option.toList_none, List.nil_append, List.cons_append, px_kill_int, px_kill_long, px_kill_ref, px_kill_null, iI_lit, iJ_lit, iI_add, iI_sub, iI_mul, iI_neg, iJ_add, iJ_sub, iJ_mul, iJ_neg, iI_lt, iI_le, iI_eq, iJ_lt, iJ_le, iJ_eq, iI_div, iJ_div, tdiv_tmod, iI_J, iJ_I, iI_ix, iI_toInt, iJ_toInt, cmp_ge, cmp_lt, cmp_eq, cmp_gt, cmp_le, cmp_geI, cmp_ltI, cmp_eqI, cmp_gtI, cmp_leI, bI_0I, bI_1I, pin, if_true, c160, if_false, sh_n3, p2, c1, c2]
theorem pnum_bd {t : TP} (ht : okTp t) {k : Nat} {tone : Bool} {most : Int} {dm : Nat} (hdm : 0 < dm) (hm : 0 ≤ most) (hk : k ≤ t.1) : (∀ e, pnum t k tone most dm = .inl e → e ≤ t.1) ∧ ∀ x, pnum t k tone most dm = .inr x → k < x.2 ∧ x.2 ≤ t.1 ∧ (-most ≤ x.1 ∧ x.1 ≤ most) ∧ (tone = true → 0 ≤ x.1) := by
  have hk1 : k1N t k tone ≤ t.1 ∧ k ≤ k1N t k tone := by
    unfold k1N
    split
    · rename_i h
      have := sg_lt (t := t) (k := k) (by omega)
      omega
    · omega
  unfold pnum
  by_cases c : dg (sg t (k1N t k tone))
  · rw [if_pos c]
    obtain ⟨b1, b2⟩ := pD_bd ht dm (k1N t k tone) 0 (by omega)
    generalize pD t dm (k1N t k tone) 0 = P at *
    cases P with
    | inl e =>
      refine ⟨fun e' he => ?_, fun x hx => by cases hx⟩
      cases he
      have := b1 e rfl
      omega
    | inr x =>
      obtain ⟨q1, q2, q3, q4⟩ := b2 x rfl
      have q5 := q4 c hdm
      have q6 := q2 hk1.1
      show (∀ e, (if most < x.1 then Sum.inl (x.2 - 1) else Sum.inr (sgN t k tone x.1, x.2)) = Sum.inl e → e ≤ t.1) ∧ _
      by_cases c2 : most < x.1
      · simp only [if_pos c2]
        refine ⟨fun e he => ?_, fun y hy => by cases hy⟩
        cases he
        omega
      · simp only [if_neg c2]
        refine ⟨fun e he => (by cases he), fun y hy => ?_⟩
        cases hy
        refine ⟨by show k < x.2; omega, by show x.2 ≤ t.1; omega, ?_, fun htn => ?_⟩
        · show -most ≤ sgN t k tone x.1 ∧ sgN t k tone x.1 ≤ most
          unfold sgN
          split <;> omega
        · show 0 ≤ sgN t k tone x.1
          unfold sgN
          rw [if_neg (by rw [htn]; simp)]
          exact q3
  · rw [if_neg c]
    refine ⟨fun e he => ?_, fun x hx => by cases hx⟩
    cases he
    exact hk1.1
set_option maxHeartbeats 4000000 in
theorem c_number {T : TS} {t : TP} (ht : okTp t) (hT : hTp T t) {k : Nat} (hk : k ≤ t.1) (hp : pAt T t k) {c w : Nat} (hc : c < 4) (hw : w < 8) (hC : T.1 3 4 = iI (c : Int)) {tone : Bool} (htone : tone = true ↔ w = 5) {most : Int} (hm : 0 ≤ most ∧ most ≤ 100) {dm : Nat} (hdm : 0 < dm ∧ dm ≤ 3) : (∀ e, pnum t k tone most dm = .inl e → ∃ T', cl k_Reader_readNumber [.ref 3, .int (iI (w : Int)), .int (iI most), .int (iI (dm : Int))] (enc T) = some (some (.int (iI 0)), enc T') ∧ FrI aFl T T' ∧ T'.1 3 5 = iI (e : Int)) ∧ (∀ x, pnum t k tone most dm = .inr x → ∃ T', cl k_Reader_readNumber [.ref 3, .int (iI (w : Int)), .int (iI most), .int (iI (dm : Int))] (enc T) = some (some (.int (iI 1)), enc T') ∧ FrI (aNs c w) T T' ∧ pAt T' t (SK t x.2) ∧ T'.1 4 (8 * c + w) = iI x.1) := by
  have hl := ht.1
  obtain ⟨p1, p2⟩ := id hp
  have bs := sg_bd ht k
  -- to the first digit
  have pre : ∃ (T1 : TS) (b : Int), (b = if sg t k = 45 ∧ tone = false then 1 else 0) ∧ cl k_Reader_readNumber [.ref 3, .int (iI (w : Int)), .int (iI most), .int (iI (dm : Int))] (enc T) = rn k_Reader_readNumber 39 [.ref 3, .int (iI (w : Int)), .int (iI most), .int (iI (dm : Int)), .int (iI b), .int (iI 0), .int (iI ((0 : Nat) : Int)), .int (iI ((0 : Nat) : Int))] [] (enc T1) ∧ FrI aMv T T1 ∧ pAt T1 t (k1N t k tone) := by
    by_cases c1 : sg t k = 45
    · rw [c1] at p2
      by_cases c2 : w = 5
      · have tt : tone = true := htone.mpr c2
        have nt : ¬ (sg t k = 45 ∧ tone = false) := by rw [tt]; simp
        have c2' : (w : Int) = 5 := by omega
        refine ⟨T, 0, (if_neg nt).symm, ?_, FrI.rf _ _, ?_⟩
        · simp (disch := first | omega | assumption | decide | (simp (disch := omega) only [iI_lit, iJ_lit, iJ_eq, iI_eq, bI_01, bI_01I] <;> omega)) only [c_Reader_readNumber, e_Reader_readNumber_0, e_Reader_readNumber_1, e_Reader_readNumber_4, e_Reader_readNumber_6, e_Reader_readNumber_9, e_Reader_readNumber_10, e_Reader_readNumber_11, e_Reader_readNumber_14, e_Reader_readNumber_15, e_Reader_readNumber_18, e_Reader_readNumber_19, e_Reader_readNumber_21, e_Reader_readNumber_23, e_Reader_readNumber_26, e_Reader_readNumber_27, e_Reader_readNumber_30, e_Reader_readNumber_31, e_Reader_readNumber_33, e_Reader_readNumber_34, e_Reader_readNumber_36, e_Reader_readNumber_37, bd_some, bd_none, Option.toList_some, Option.toList_none, List.nil_append, List.cons_append, px_kill_int, px_kill_long, px_kill_ref, px_kill_null, iI_lit, iJ_lit, iI_add, iI_sub, iI_mul, iI_neg, iJ_add, iJ_sub, iJ_mul, iJ_neg, iI_lt, iI_le, iI_eq, iJ_lt, iJ_le, iJ_eq, iI_div, iJ_div, tdiv_tmod, iI_J, iJ_I, iI_ix, iI_toInt, iJ_toInt, cmp_ge, cmp_lt, cmp_eq, cmp_gt, cmp_le, cmp_geI, cmp_ltI, cmp_eqI, cmp_gtI, cmp_leI, bI_0I, bI_1I, pin, if_true, sh_n3, p2, c2']
          rfl
        · unfold k1N; rw [if_neg nt]; exact hp
      · have tt : tone = false := by
          cases tone with
          | true => exact absurd (htone.mp rfl) c2
          | false => rfl
        have nt : sg t k = 45 ∧ tone = false := ⟨c1, tt⟩
        have c2' : ¬ (w : Int) = 5 := by omega
        have hkt := sg_lt (t := t) (k := k) (by omega)
        obtain ⟨T1, e1, f1, q1⟩ := c_move ht hT (k := k + 1) (by omega) (by rw [p1, show ((k + 1 : Nat) : Int) - 1 = (k : Int) by omega])
        refine ⟨T1, 1, (if_pos nt).symm, ?_, f1, ?_⟩
        · simp (disch := first | omega | assumption | decide | (simp (disch := omega) only [iI_lit, iJ_lit, iJ_eq, iI_eq, bI_01, bI_01I] <;> omega)) only [c_Reader_readNumber, e_Reader_readNumber_0, e_Reader_readNumber_1, e_Reader_readNumber_4, e_Reader_readNumber_6, e_Reader_readNumber_9, e_Reader_readNumber_10, e_Reader_readNumber_11, e_Reader_readNumber_14, e_Reader_readNumber_15, e_Reader_readNumber_18, e_Reader_readNumber_19, e_Reader_readNumber_21, e_Reader_readNumber_23, e_Reader_readNumber_26, e_Reader_readNumber_27, e_Reader_readNumber_30, e_Reader_readNumber_31, e_Reader_readNumber_33, e_Reader_readNumber_34, e_Reader_readNumber_36, e_Reader_readNumber_37, bd_some, bd_none, Option.toList_some, Option.toList_none, List.nil_append, List.cons_append, px_kill_int, px_kill_long, px_kill_ref, px_kill_null, iI_lit, iJ_lit, iI_add, iI_sub, iI_mul, iI_neg, iJ_add, iJ_sub, iJ_mul, iJ_neg, iI_lt, iI_le, iI_eq, iJ_lt, iJ_le, iJ_eq, iI_div, iJ_div, tdiv_tmod, iI_J, iJ_I, iI_ix, iI_toInt, iJ_toInt, cmp_ge, cmp_lt, cmp_eq, cmp_gt, cmp_le, cmp_geI, cmp_ltI, cmp_eqI, cmp_gtI, cmp_leI, bI_0I, bI_1I, pin, if_true, sh_n3, p2, c2', one0, if_false, e1]
          rfl
        · unfold k1N; rw [if_pos nt]; exact q1
    · have nt : ¬ (sg t k = 45 ∧ tone = false) := fun z => c1 z.1
      refine ⟨T, 0, (if_neg nt).symm, ?_, FrI.rf _ _, ?_⟩
      · simp (disch := first | omega | assumption | decide | (simp (disch := omega) only [iI_lit, iJ_lit, iJ_eq, iI_eq, bI_01, bI_01I] <;> omega)) only [c_Reader_readNumber, e_Reader_readNumber_0, e_Reader_readNumber_1, e_Reader_readNumber_4, e_Reader_readNumber_6, e_Reader_readNumber_9, e_Reader_readNumber_10, e_Reader_readNumber_11, e_Reader_readNumber_14, e_Reader_readNumber_15, e_Reader_readNumber_18, e_Reader_readNumber_19, e_Reader_readNumber_21, e_Reader_readNumber_23, e_Reader_readNumber_26, e_Reader_readNumber_27, e_Reader_readNumber_30, e_Reader_readNumber_31, e_Reader_readNumber_33, e_Reader_readNumber_34, e_Reader_readNumber_36, e_Reader_readNumber_37, bd_some, bd_none, Option.toList_some, Option.toList_none, List.nil_append, List.cons_append, px_kill_int, px_kill_long, px_kill_ref, px_kill_null, iI_lit, iJ_lit, iI_add, iI_sub, iI_mul, iI_neg, iJ_add, iJ_sub, iJ_mul, iJ_neg, iI_lt, iI_le, iI_eq, iJ_lt, iJ_le, iJ_eq, iI_div, iJ_div, tdiv_tmod, iI_J, iJ_I, iI_ix, iI_toInt, iJ_toInt, cmp_ge, cmp_lt, cmp_eq, cmp_gt, cmp_le, cmp_geI, cmp_ltI, cmp_eqI, cmp_gtI, cmp_leI, bI_0I, bI_1I, pin, if_true, sh_n3, p2, c1, if_false]
        rfl
      · unfold k1N; rw [if_neg nt]; exact hp
  obtain ⟨T1, b, hb, e1, f1, q1⟩ := pre
  have hk1 : k1N t k tone ≤ t.1 := by
    unfold k1N
    split
    · rename_i h
      have := sg_lt (t := t) (k := k) (by omega)
      omega
    · exact hk
  have hT1 := hT.fr f1 (fun q k z => Or.inl z.1)
  obtain ⟨i1, i2⟩ := lp_num ht hdm.2 (iI (w : Int)) (iI b) (iI most) dm (k1N t k tone) 0 0 T1 (by omega) hT1 q1 (by omega) (by omega) (by show (0 : Int) + 1 ≤ 1; omega)
  have b01 : b = 0 ∨ b = 1 := by rw [hb]; split <;> omega
  have hC1 : T1.1 3 4 = iI (c : Int) := by rw [f1.1 _ _ (by unfold aMv; omega)]; exact hC
  unfold pnum
  by_cases cd : dg (sg t (k1N t k tone))
  · rw [if_pos cd]
    obtain ⟨b1, b2⟩ := pD_bd ht dm (k1N t k tone) 0 (by omega)
    generalize pD t dm (k1N t k tone) 0 = P at *
    cases P with
    | inl e =>
      refine ⟨fun e' he => ?_, fun x hx => by cases hx⟩
      cases he
      obtain ⟨T2, e2, f2, g2⟩ := i1 e rfl
      exact ⟨T2, e1.trans e2, (f1.mono (fun q k z => aMv_fl z)).tr f2, g2⟩
    | inr x =>
      obtain ⟨T2, d', e2, f2, g2, g3, g4, g5, g6, g7⟩ := i2 x rfl
      have hd' : 0 < d' := g5 cd hdm.1
      have p10 := pow10 (d := d') (by omega)
      obtain ⟨q3, q4, q5, q6⟩ := b2 x rfl
      have q7 := q6 cd hdm.1
      have q8 := q4 hk1
      have nd : ¬ (d' : Int) = 0 := by omega
      obtain ⟨r1, r2⟩ := id g2
      have f12 := f1.tr f2
      show (∀ e, (if most < x.1 then Sum.inl (x.2 - 1) else Sum.inr (sgN t k tone x.1, x.2)) = Sum.inl e → _) ∧ ∀ y, (if most < x.1 then Sum.inl (x.2 - 1) else Sum.inr (sgN t k tone x.1, x.2)) = Sum.inr y → _
      by_cases cm : most < x.1
      · simp only [if_pos cm]
        refine ⟨fun e he => ?_, fun y hy => by cases hy⟩
        cases he
        have cm' : ¬ x.1 ≤ most := by omega
        have ex : (x.2 : Int) - 1 = ((x.2 - 1 : Nat) : Int) := by omega
        have ef := c_failAt (T := T2) (iI ((x.2 - 1 : Nat) : Int))
        refine ⟨sI T2 3 5 (iI ((x.2 - 1 : Nat) : Int)), ?_, (f12.mono (fun q k z => aMv_fl z)).wr _ (by unfold aFl; omega), by simp only [sI_get, sJ_get, sI_2, sJ_1, sJ_22, sR_1, sR_21, Nat.reduceEqDiff, and_true, true_and, and_false, false_and, and_self, if_true, if_false, reduceIte]⟩
        rw [e1, e2]
        simp (disch := first | omega | assumption | decide | (simp (disch := omega) only [iI_lit, iJ_lit, iJ_eq, iI_eq, bI_01, bI_01I] <;> omega)) only [e_Reader_readNumber_108, e_Reader_readNumber_110, e_Reader_readNumber_113, e_Reader_readNumber_114, e_Reader_readNumber_115, e_Reader_readNumber_118, e_Reader_readNumber_121, e_Reader_readNumber_122, e_Reader_readNumber_124, e_Reader_readNumber_125, e_Reader_readNumber_128, e_Reader_readNumber_129, e_Reader_readNumber_130, e_Reader_readNumber_133, e_Reader_readNumber_134, e_Reader_readNumber_135, e_Reader_readNumber_138, e_Reader_readNumber_139, e_Reader_readNumber_140, e_Reader_readNumber_141, e_Reader_readNumber_143, e_Reader_readNumber_146, e_Reader_readNumber_148, e_Reader_readNumber_149, e_Reader_readNumber_152, e_Reader_readNumber_154, e_Reader_readNumber_157, e_Reader_readNumber_158, e_Reader_readNumber_161, e_Reader_readNumber_163, e_Reader_readNumber_166, e_Reader_readNumber_167, e_Reader_readNumber_170, e_Reader_readNumber_171, bd_some, bd_none, Option.toList_some, Option.toList_none, List.nil_append, List.cons_append, px_kill_int, px_kill_long, px_kill_ref, px_kill_null, iI_lit, iJ_lit, iI_add, iI_sub, iI_mul, iI_neg, iJ_add, iJ_sub, iJ_mul, iJ_neg, iI_lt, iI_le, iI_eq, iJ_lt, iJ_le, iJ_eq, iI_div, iJ_div, tdiv_tmod, iI_J, iJ_I, iI_ix, iI_toInt, iJ_toInt, cmp_ge, cmp_lt, cmp_eq, cmp_gt, cmp_le, cmp_geI, cmp_ltI, cmp_eqI, cmp_gtI, cmp_leI, bI_0I, bI_1I, pin, if_true, nd, cm', if_false, sh_n3, r1, ex, ef]
      · simp only [if_neg cm]
        refine ⟨fun e he => (by cases he), fun y hy => ?_⟩
        cases hy
        have cm' : x.1 ≤ most := by omega
        have hC2 : T2.1 3 4 = iI (c : Int) := by rw [f2.1 _ _ (by unfold aMv; omega)]; exact hC1
        have et := c_tell (T := T2) hc hw hC2 (iI (sgN t k tone x.1))
        obtain ⟨T3, hT3⟩ : ∃ T3, T3 = sI T2 4 (8 * c + w) (iI (sgN t k tone x.1)) := ⟨_, rfl⟩
        rw [← hT3] at et
        have f3 : FrI (aNs c w) T T3 := by rw [hT3]; exact (f12.mono (fun q k z => Or.inl z)).wr _ (Or.inr ⟨rfl, rfl⟩)
        have r1' : T3.1 3 2 = iI (x.2 : Int) := by rw [hT3]; simp only [sI_get, sJ_get, sI_2, sJ_1, sJ_22, sR_1, sR_21, Nat.reduceEqDiff, and_true, true_and, and_false, false_and, and_self, if_true, if_false, reduceIte]; exact r1
        have r2' : T3.1 3 3 = iI (sg t x.2) := by rw [hT3]; simp only [sI_get, sJ_get, sI_2, sJ_1, sJ_22, sR_1, sR_21, Nat.reduceEqDiff, and_true, true_and, and_false, false_and, and_self, if_true, if_false, reduceIte]; exact r2
        have bs2 := sg_bd ht x.2
        have tail : rn k_Reader_readNumber 108 [.ref 3, .int (iI (w : Int)), .int (iI most), .int (iI (dm : Int)), .int (iI b), .int (iI x.1), .int (iI (d' : Int)), .int (iI (d' : Int))] [] (enc T2) = rn k_Reader_readNumber 157 [.ref 3, .int (iI (w : Int)), .int (iI most), .int (iI (dm : Int)), .int (iI b), .int (iI x.1), .int (iI (d' : Int)), .int (iI (d' : Int))] [] (enc T3) := by
          rcases b01 with hb0 | hb1
          · have es : sgN t k tone x.1 = x.1 := by
              unfold sgN
              rw [if_neg]
              intro z
              rw [if_pos z] at hb
              omega
            rw [es] at et
            subst hb0
            simp (disch := first | omega | assumption | decide | (simp (disch := omega) only [iI_lit, iJ_lit, iJ_eq, iI_eq, bI_01, bI_01I] <;> omega)) only [e_Reader_readNumber_108, e_Reader_readNumber_110, e_Reader_readNumber_113, e_Reader_readNumber_114, e_Reader_readNumber_115, e_Reader_readNumber_118, e_Reader_readNumber_121, e_Reader_readNumber_122, e_Reader_readNumber_124, e_Reader_readNumber_125, e_Reader_readNumber_128, e_Reader_readNumber_129, e_Reader_readNumber_130, e_Reader_readNumber_133, e_Reader_readNumber_134, e_Reader_readNumber_135, e_Reader_readNumber_138, e_Reader_readNumber_139, e_Reader_readNumber_140, e_Reader_readNumber_141, e_Reader_readNumber_143, e_Reader_readNumber_146, e_Reader_readNumber_148, e_Reader_readNumber_149, e_Reader_readNumber_152, e_Reader_readNumber_154, bd_some, bd_none, Option.toList_some, Option.toList_none, List.nil_append, List.cons_append, px_kill_int, px_kill_long, px_kill_ref, px_kill_null, iI_lit, iJ_lit, iI_add, iI_sub, iI_mul, iI_neg, iJ_add, iJ_sub, iJ_mul, iJ_neg, iI_lt, iI_le, iI_eq, iJ_lt, iJ_le, iJ_eq, iI_div, iJ_div, tdiv_tmod, iI_J, iJ_I, iI_ix, iI_toInt, iJ_toInt, cmp_ge, cmp_lt, cmp_eq, cmp_gt, cmp_le, cmp_geI, cmp_ltI, cmp_eqI, cmp_gtI, cmp_leI, bI_0I, bI_1I, pin, if_true, nd, cm', if_false, sh_n3, et]
          · have es : sgN t k tone x.1 = -x.1 := by
              unfold sgN
              rw [if_pos]
              apply Classical.byContradiction
              intro z
              rw [if_neg z] at hb
              omega
            rw [es] at et
            subst hb1
            simp (disch := first | omega | assumption | decide | (simp (disch := omega) only [iI_lit, iJ_lit, iJ_eq, iI_eq, bI_01, bI_01I] <;> omega)) only [e_Reader_readNumber_108, e_Reader_readNumber_110, e_Reader_readNumber_113, e_Reader_readNumber_114, e_Reader_readNumber_115, e_Reader_readNumber_118, e_Reader_readNumber_121, e_Reader_readNumber_122, e_Reader_readNumber_124, e_Reader_readNumber_125, e_Reader_readNumber_128, e_Reader_readNumber_129, e_Reader_readNumber_130, e_Reader_readNumber_133, e_Reader_readNumber_134, e_Reader_readNumber_135, e_Reader_readNumber_138, e_Reader_readNumber_139, e_Reader_readNumber_140, e_Reader_readNumber_141, e_Reader_readNumber_143, e_Reader_readNumber_146, e_Reader_readNumber_148, e_Reader_readNumber_149, e_Reader_readNumber_152, e_Reader_readNumber_154, bd_some, bd_none, Option.toList_some, Option.toList_none, List.nil_append, List.cons_append, px_kill_int, px_kill_long, px_kill_ref, px_kill_null, iI_lit, iJ_lit, iI_add, iI_sub, iI_mul, iI_neg, iJ_add, iJ_sub, iJ_mul, iJ_neg, iI_lt, iI_le, iI_eq, iJ_lt, iJ_le, iJ_eq, iI_div, iJ_div, tdiv_tmod, iI_J, iJ_I, iI_ix, iI_toInt, iJ_toInt, cmp_ge, cmp_lt, cmp_eq, cmp_gt, cmp_le, cmp_geI, cmp_ltI, cmp_eqI, cmp_gtI, cmp_leI, bI_0I, bI_1I, pin, if_true, nd, cm', one0, if_false, sh_n3, et]
        have hv : T3.1 4 (8 * c + w) = iI (sgN t k tone x.1) := by rw [hT3]; simp only [sI_get, sJ_get, sI_2, sJ_1, sJ_22, sR_1, sR_21, Nat.reduceEqDiff, and_true, true_and, and_false, false_and, and_self, if_true, if_false, reduceIte]
        by_cases cb : sg t x.2 = 32
        · have hkt := sg_lt (t := t) (k := x.2) (by omega)
          obtain ⟨T4, e4, f4, q9⟩ := c_passN ht (hT.fr f3 (fun q k z => aNs_34 z)) (k := x.2) (by omega) ⟨r1', r2'⟩
          refine ⟨T4, ?_, f3.tr (f4.mono (fun q k z => Or.inl z)), ?_, ?_⟩
          · rw [e1, e2, tail]
            rw [cb] at r2'
            simp (disch := first | omega | assumption | decide | (simp (disch := omega) only [iI_lit, iJ_lit, iJ_eq, iI_eq, bI_01, bI_01I] <;> omega)) only [e_Reader_readNumber_157, e_Reader_readNumber_158, e_Reader_readNumber_161, e_Reader_readNumber_163, e_Reader_readNumber_166, e_Reader_readNumber_167, e_Reader_readNumber_170, e_Reader_readNumber_171, bd_some, bd_none, Option.toList_some, Option.toList_none, List.nil_append, List.cons_append, px_kill_int, px_kill_long, px_kill_ref, px_kill_null, iI_lit, iJ_lit, iI_add, iI_sub, iI_mul, iI_neg, iJ_add, iJ_sub, iJ_mul, iJ_neg, iI_lt, iI_le, iI_eq, iJ_lt, iJ_le, iJ_eq, iI_div, iJ_div, tdiv_tmod, iI_J, iJ_I, iI_ix, iI_toInt, iJ_toInt, cmp_ge, cmp_lt, cmp_eq, cmp_gt, cmp_le, cmp_geI, cmp_ltI, cmp_eqI, cmp_gtI, cmp_leI, bI_0I, bI_1I, pin, if_true, sh_n3, r2', e4]
          · show pAt T4 t (SK t x.2)
            rw [SK_bl ht cb]; exact q9
          · rw [f4.1 _ _ (by unfold aMv; omega)]; exact hv
        · refine ⟨T3, ?_, f3, ?_, hv⟩
          · rw [e1, e2, tail]
            simp (disch := first | omega | assumption | decide | (simp (disch := omega) only [iI_lit, iJ_lit, iJ_eq, iI_eq, bI_01, bI_01I] <;> omega)) only [e_Reader_readNumber_157, e_Reader_readNumber_158, e_Reader_readNumber_161, e_Reader_readNumber_163, e_Reader_readNumber_166, e_Reader_readNumber_167, e_Reader_readNumber_170, e_Reader_readNumber_171, bd_some, bd_none, Option.toList_some, Option.toList_none, List.nil_append, List.cons_append, px_kill_int, px_kill_long, px_kill_ref, px_kill_null, iI_lit, iJ_lit, iI_add, iI_sub, iI_mul, iI_neg, iJ_add, iJ_sub, iJ_mul, iJ_neg, iI_lt, iI_le, iI_eq, iJ_lt, iJ_le, iJ_eq, iI_div, iJ_div, tdiv_tmod, iI_J, iJ_I, iI_ix, iI_toInt, iJ_toInt, cmp_ge, cmp_lt, cmp_eq, cmp_gt, cmp_le, cmp_geI, cmp_ltI, cmp_eqI, cmp_gtI, cmp_leI, bI_0I, bI_1I, pin, if_true, sh_n3, r2', cb, if_false]
          · show pAt T3 t (SK t x.2)
            rw [SK_no cb]; exact ⟨r1', r2'⟩
  · rw [if_neg cd]
    refine ⟨fun e he => ?_, fun x hx => by cases hx⟩
    cases he
    have hpd : pD t dm (k1N t k tone) 0 = .inr (0, k1N t k tone) := by
      obtain ⟨d0, hd0⟩ : ∃ d0, dm = d0 + 1 := ⟨dm - 1, by omega⟩
      rw [hd0, pD_s, if_neg cd]
    obtain ⟨r1, r2⟩ := id q1
    have bs2 := sg_bd ht (k1N t k tone)
    have ef := c_failAt (T := T1) (iI ((k1N t k tone : Nat) : Int))
    have c160 : ¬ (160 : Int) ≤ 0 := by omega
    have e00 : ((0 : Nat) : Int) = 0 := rfl
    refine ⟨sI T1 3 5 (iI ((k1N t k tone : Nat) : Int)), ?_, (f1.mono (fun q k z => aMv_fl z)).wr _ (by unfold aFl; omega), by simp only [sI_get, sJ_get, sI_2, sJ_1, sJ_22, sR_1, sR_21, Nat.reduceEqDiff, and_true, true_and, and_false, false_and, and_self, if_true, if_false, reduceIte]⟩
    rw [e1, e_Reader_readNumber_39, e00]
    generalize k1N t k tone = K at *
    by_cases c1 : sg t K < 48
    · simp (disch := first | omega | assumption | decide | (simp (disch := omega) only [iI_lit, iJ_lit, iJ_eq, iI_eq, bI_01, bI_01I] <;> omega)) only [e_Reader_readNumber_41, e_Reader_readNumber_44, e_Reader_readNumber_47, e_Reader_readNumber_48, e_Reader_readNumber_51, e_Reader_readNumber_53, e_Reader_readNumber_56, e_Reader_readNumber_57, e_Reader_readNumber_60, e_Reader_readNumber_62, e_Reader_readNumber_65, e_Reader_readNumber_67, e_Reader_readNumber_68, e_Reader_readNumber_71, e_Reader_readNumber_72, e_Reader_readNumber_73, e_Reader_readNumber_76, e_Reader_readNumber_79, e_Reader_readNumber_80, e_Reader_readNumber_82, e_Reader_readNumber_84, e_Reader_readNumber_85, e_Reader_readNumber_86, e_Reader_readNumber_89, e_Reader_readNumber_90, e_Reader_readNumber_92, e_Reader_readNumber_93, e_Reader_readNumber_95, e_Reader_readNumber_98, e_Reader_readNumber_99, e_Reader_readNumber_102, e_Reader_readNumber_105, e_Reader_readNumber_108, e_Reader_readNumber_110, e_Reader_readNumber_113, e_Reader_readNumber_114, e_Reader_readNumber_115, e_Reader_readNumber_118, e_Reader_readNumber_121, bd_some, bd_none, Option.toList_some, Option.toList_none, List.nil_append, List.cons_append, px_kill_int, px_kill_long, px_kill_ref, px_kill_null, iI_lit, iJ_lit, iI_add, iI_sub, iI_mul, iI_neg, iJ_add, iJ_sub, iJ_mul, iJ_neg, iI_lt, iI_le, iI_eq, iJ_lt, iJ_le, iJ_eq, iI_div, iJ_div, tdiv_tmod, iI_J, iJ_I, iI_ix, iI_toInt, iJ_toInt, cmp_ge, cmp_lt, cmp_eq, cmp_gt, cmp_le, cmp_geI, cmp_ltI, cmp_eqI, cmp_gtI, cmp_leI, bI_0I, bI_1I, pin, if_true, c160, if_false, sh_n3, r1, r2, c1, ef]
    · have c2 : 57 < sg t K := by omega
      simp (disch := first | omega | assumption | decide | (simp (disch := omega) only [iI_lit, iJ_lit, iJ_eq, iI_eq, bI_01, bI_01I] <;> omega)) only [e_Reader_readNumber_41, e_Reader_readNumber_44, e_Reader_readNumber_47, e_Reader_readNumber_48, e_Reader_readNumber_51, e_Reader_readNumber_53, e_Reader_readNumber_56, e_Reader_readNumber_57, e_Reader_readNumber_60, e_Reader_readNumber_62, e_Reader_readNumber_65, e_Reader_readNumber_67, e_Reader_readNumber_68, e_Reader_readNumber_71, e_Reader_readNumber_72, e_Reader_readNumber_73, e_Reader_readNumber_76, e_Reader_readNumber_79, e_Reader_readNumber_80, e_Reader_readNumber_82, e_Reader_readNumber_84, e_Reader_readNumber_85, e_Reader_readNumber_86, e_Reader_readNumber_89, e_Reader_readNumber_90, e_Reader_readNumber_92, e_Reader_readNumber_93, e_Reader_readNumber_95, e_Reader_readNumber_98, e_Reader_readNumber_99, e_Reader_readNumber_102, e_Reader_readNumber_105, e_Reader_readNumber_108, e_Reader_readNumber_110, e_Reader_readNumber_113, e_Reader_readNumber_114, e_Reader_readNumber_115, e_Reader_readNumber_118, e_Reader_readNumber_121, bd_some, bd_none, Option.toList_some, Option.toList_none, List.nil_append, List.cons_append, px_kill_int, px_kill_long, px_kill_ref, px_kill_null, iI_lit, iJ_lit, iI_add, iI_sub, iI_mul, iI_neg, iJ_add, iJ_sub, iJ_mul, iJ_neg, iI_lt, iI_le, iI_eq, iJ_lt, iJ_le, iJ_eq, iI_div, iJ_div, tdiv_tmod, iI_J, iJ_I, iI_ix, iI_toInt, iJ_toInt, cmp_ge, cmp_lt, cmp_eq, cmp_gt, cmp_le, cmp_geI, cmp_ltI, cmp_eqI, cmp_gtI, cmp_leI, bI_0I, bI_1I, pin, if_true, c160, if_false, sh_n3, r1, r2, c1, c2, ef]
