/-! the reference reads a clause. -/
theorem hMd.w9 {T : TS} {t : TP} {md : MD} (h : hMd T t md) {k : Nat} (hk : k = 8 ∨ k = 9) (x : Int32) : hMd (sI T 53 k x) t md := by
  cases md with
  | inl e =>
    obtain ⟨h1, h2, a, h3, h4⟩ := h
    exact ⟨by rw [wr_ne _ _ (by omega)]; exact h1, h2, a, h3, by rw [wr_ne _ _ (by omega)]; exact h4⟩
  | inr a =>
    obtain ⟨h1, h2, h3⟩ := h
    exact ⟨by rw [wr_ne _ _ (by omega)]; exact h1, h2, by rw [wr_ne _ _ (by omega)]; exact h3⟩
theorem g_cellAny (a b c d : Int32) (g : px_G) : ∃ z : Int32, cl k_Dm_cellBy [.int a, .int b, .int c, .int d] g = some (some (.int z), g) := by
  have b1 := i32_ge (a * d - b * c)
  have b2 := i32_le (a * d - b * c)
  have e := s_farJ (a := (a * d - b * c).toInt) (by omega) g
  rw [← toJ_toInt] at e
  refine ⟨(iJ ((a * d - b * c).toInt.natAbs : Int)).toInt32, ?_⟩
  simp (disch := first | omega | assumption | decide | (simp (disch := omega) only [iI_lit, iJ_lit, iJ_eq, iI_eq, bI_01, bI_01I] <;> omega)) only [c_Dm_cellBy, e_Dm_cellBy_0, e_Dm_cellBy_1, e_Dm_cellBy_2, e_Dm_cellBy_3, e_Dm_cellBy_4, e_Dm_cellBy_5, e_Dm_cellBy_6, e_Dm_cellBy_7, e_Dm_cellBy_8, e_Dm_cellBy_11, e_Dm_cellBy_12, bd_some, bd_none, Option.toList_some, Option.toList_none, List.nil_append, List.cons_append, px_kill_int, px_kill_long, px_kill_ref, px_kill_null, e]
def nwS (f : Nat → Int) : Int := if isScr (f 0) (f 1) (f 2) (f 3) then 1 else 0
theorem bit_hasM : ∀ h : Nat, h < 8 → ∀ j : Nat, j < 3 → (iI (h : Int) >>> (iI (j : Int) &&& iI 31)) &&& iI 1 = iI ((h / 2 ^ j % 2 : Nat) : Int) := by decide +kernel
theorem bit_setM : ∀ h : Nat, h < 8 → ∀ j : Nat, j < 3 → h / 2 ^ j % 2 = 0 → iI (h : Int) ||| (iI 1 <<< (iI (j : Int) &&& iI 31)) = iI ((h + 2 ^ j : Nat) : Int) := by decide +kernel
theorem g_has {h j : Nat} (hh : h < 8) (hj : j < 3) (g : px_G) : cl k_Dm_has [.int (iI (h : Int)), .int (iI (j : Int))] g = some (some (.int (bI (hasB h j))), g) := by
  have b := bit_hasM h hh j hj
  by_cases c : hasB h j
  · have c' : h / 2 ^ j % 2 = 1 := c
    rw [c', show ((1 : Nat) : Int) = 1 from rfl] at b
    rw [bI_tI c]
    simp (disch := first | omega | assumption | decide | (simp (disch := omega) only [iI_lit, iJ_lit, iJ_eq, iI_eq, bI_01, bI_01I] <;> omega)) only [c_Dm_has, e_Dm_has_0, e_Dm_has_1, e_Dm_has_2, e_Dm_has_3, e_Dm_has_4, e_Dm_has_5, e_Dm_has_6, e_Dm_has_9, e_Dm_has_10, e_Dm_has_13, e_Dm_has_14, bd_some, bd_none, Option.toList_some, Option.toList_none, List.nil_append, List.cons_append, px_kill_int, px_kill_long, px_kill_ref, px_kill_null, iI_lit, iJ_lit, iI_add, iI_sub, iI_mul, iI_neg, iJ_add, iJ_sub, iJ_mul, iJ_neg, iI_lt, iI_le, iI_eq, iJ_lt, iJ_le, iJ_eq, iI_div, iJ_div, tdiv_tmod, iI_J, iJ_I, iI_ix, iI_toInt, iJ_toInt, cmp_ge, cmp_lt, cmp_eq, cmp_gt, cmp_le, cmp_geI, cmp_ltI, cmp_eqI, cmp_gtI, cmp_leI, bI_0I, bI_1I, pin, if_true, b]
  · have c' : h / 2 ^ j % 2 = 0 := by have : ¬ h / 2 ^ j % 2 = 1 := c; omega
    rw [c', show ((0 : Nat) : Int) = 0 from rfl] at b
    have n01 : ¬ (0 : Int) = 1 := by omega
    rw [bI_fI c]
    simp (disch := first | omega | assumption | decide | (simp (disch := omega) only [iI_lit, iJ_lit, iJ_eq, iI_eq, bI_01, bI_01I] <;> omega)) only [c_Dm_has, e_Dm_has_0, e_Dm_has_1, e_Dm_has_2, e_Dm_has_3, e_Dm_has_4, e_Dm_has_5, e_Dm_has_6, e_Dm_has_9, e_Dm_has_10, e_Dm_has_13, e_Dm_has_14, bd_some, bd_none, Option.toList_some, Option.toList_none, List.nil_append, List.cons_append, px_kill_int, px_kill_long, px_kill_ref, px_kill_null, iI_lit, iJ_lit, iI_add, iI_sub, iI_mul, iI_neg, iJ_add, iJ_sub, iJ_mul, iJ_neg, iI_lt, iI_le, iI_eq, iJ_lt, iJ_le, iJ_eq, iI_div, iJ_div, tdiv_tmod, iI_J, iJ_I, iI_ix, iI_toInt, iJ_toInt, cmp_ge, cmp_lt, cmp_eq, cmp_gt, cmp_le, cmp_geI, cmp_ltI, cmp_eqI, cmp_gtI, cmp_leI, bI_0I, bI_1I, pin, if_true, b, n01, if_false]
/-- an error, or one that is seen when the clause is over -/
def pend (T : TS) (t : TP) (e : Nat) : Prop := hMd T t (.inl e) ∨ (hMd T t (.inr e) ∧ SK t e = e ∧ sg t e ≠ -1 ∧ sg t e ≠ 59)
set_option maxHeartbeats 4000000 in
theorem lp_mlet {t : TP} (ht : okTp t) {r : Nat} (hr : r < 4) (a4 : Value) : ∀ (n k h : Nat) (f : Nat → Int) (T : TS), 4 ≤ cB h + n → h < 8 → SK t k = k → okL f → hTm T t → hMd T t (.inr k) → hPm T r f → ∃ (T' : TS) (b2 b3 : Value), rn k_Dm_clause 101 [.ref 53, .int (iI ((8 * r : Nat) : Int)), .int (iI (h : Int)), .int (iI (lhI (sg t k))), a4] [] (enc T) = rn k_Dm_clause 142 [.ref 53, .int (iI ((8 * r : Nat) : Int)), b2, b3, a4] [] (enc T') ∧ FrI (aRi r) T T' ∧ (∀ e, plet t n k h f = .inl e → pend T' t e) ∧ (∀ x, plet t n k h f = .inr x → hMd T' t (.inr x.2) ∧ hPm T' r x.1) := by
  intro n
  induction n with
  | zero => intro k h f T hn hh; exfalso; unfold cB at hn; omega
  | succ n ih =>
    intro k h f T hn hh hsk hf hT hM hP
    obtain ⟨h1, h2, h3⟩ := id hM
    have bs := sg_bd ht k
    have hl := ht.1
    have lt3 := ltr_le (sg t k)
    rw [plet_s]
    by_cases c3 : ltr (sg t k) = 3
    · have el : lhI (sg t k) = -1 := if_pos c3
      rw [el]
      refine ⟨T, .int (iI (h : Int)), .int (iI (-1)), ?_, FrI.rf _ _, ?_⟩
      · rw [e_Dm_clause_101]
        simp (disch := first | omega | assumption | decide | (simp (disch := omega) only [iI_lit, iJ_lit, iJ_eq, iI_eq, bI_01, bI_01I] <;> omega)) only [e_Dm_clause_102, e_Dm_clause_105, e_Dm_clause_106, e_Dm_clause_109, e_Dm_clause_110, e_Dm_clause_111, e_Dm_clause_114, e_Dm_clause_115, e_Dm_clause_116, e_Dm_clause_119, e_Dm_clause_122, e_Dm_clause_123, e_Dm_clause_124, e_Dm_clause_125, e_Dm_clause_126, e_Dm_clause_127, e_Dm_clause_128, e_Dm_clause_129, e_Dm_clause_130, e_Dm_clause_131, e_Dm_clause_134, e_Dm_clause_135, e_Dm_clause_138, e_Dm_clause_139, bd_some, bd_none, Option.toList_some, Option.toList_none, List.nil_append, List.cons_append, px_kill_int, px_kill_long, px_kill_ref, px_kill_null, iI_lit, iJ_lit, iI_add, iI_sub, iI_mul, iI_neg, iJ_add, iJ_sub, iJ_mul, iJ_neg, iI_lt, iI_le, iI_eq, iJ_lt, iJ_le, iJ_eq, iI_div, iJ_div, tdiv_tmod, iI_J, iJ_I, iI_ix, iI_toInt, iJ_toInt, cmp_ge, cmp_lt, cmp_eq, cmp_gt, cmp_le, cmp_geI, cmp_ltI, cmp_eqI, cmp_gtI, cmp_leI, bI_0I, bI_1I, pin, if_true, h1]
      · by_cases cc : sg t k = -1 ∨ sg t k = 59
        · rw [if_pos cc]
          refine ⟨fun e he => (by cases he), fun x hx => ?_⟩
          cases hx
          exact ⟨hM, hP⟩
        · rw [if_neg cc]
          have eS : plS t k h f = .inl k := if_pos (Or.inl c3)
          rw [eS]
          refine ⟨fun e he => ?_, fun x hx => by cases hx⟩
          cases he
          exact Or.inr ⟨hM, hsk, fun z => cc (Or.inl z), fun z => cc (Or.inr z)⟩
    · have el : lhI (sg t k) = (ltr (sg t k) : Int) := if_neg c3
      rw [el]
      have cc : ¬ (sg t k = -1 ∨ sg t k = 59) := by
        rintro (z | z) <;> rw [z] at c3 <;> exact c3 rfl
      rw [if_neg cc]
      have hlt := sg_lt (t := t) (k := k) (fun z => cc (Or.inl z))
      have nm1 : ¬ (ltr (sg t k) : Int) = -1 := by omega
      have gh := g_has hh (j := ltr (sg t k)) (by omega) (enc T)
      by_cases cb : hasB h (ltr (sg t k))
      · rw [bI_tI cb] at gh
        refine ⟨T, .int (iI (h : Int)), .int (iI (ltr (sg t k) : Int)), ?_, FrI.rf _ _, ?_⟩
        · rw [e_Dm_clause_101]
          simp (disch := first | omega | assumption | decide | (simp (disch := omega) only [iI_lit, iJ_lit, iJ_eq, iI_eq, bI_01, bI_01I] <;> omega)) only [e_Dm_clause_102, e_Dm_clause_105, e_Dm_clause_106, e_Dm_clause_109, e_Dm_clause_110, e_Dm_clause_111, e_Dm_clause_114, e_Dm_clause_115, e_Dm_clause_116, e_Dm_clause_119, e_Dm_clause_122, e_Dm_clause_123, e_Dm_clause_124, e_Dm_clause_125, e_Dm_clause_126, e_Dm_clause_127, e_Dm_clause_128, e_Dm_clause_129, e_Dm_clause_130, e_Dm_clause_131, e_Dm_clause_134, e_Dm_clause_135, e_Dm_clause_138, e_Dm_clause_139, bd_some, bd_none, Option.toList_some, Option.toList_none, List.nil_append, List.cons_append, px_kill_int, px_kill_long, px_kill_ref, px_kill_null, iI_lit, iJ_lit, iI_add, iI_sub, iI_mul, iI_neg, iJ_add, iJ_sub, iJ_mul, iJ_neg, iI_lt, iI_le, iI_eq, iJ_lt, iJ_le, iJ_eq, iI_div, iJ_div, tdiv_tmod, iI_J, iJ_I, iI_ix, iI_toInt, iJ_toInt, cmp_ge, cmp_lt, cmp_eq, cmp_gt, cmp_le, cmp_geI, cmp_ltI, cmp_eqI, cmp_gtI, cmp_leI, bI_0I, bI_1I, pin, if_true, h1, nm1, if_false, gh, one0]
        · have eS : plS t k h f = .inl k := if_pos (Or.inr cb)
          rw [eS]
          refine ⟨fun e he => ?_, fun x hx => by cases hx⟩
          cases he
          exact Or.inr ⟨hM, hsk, fun z => cc (Or.inl z), fun z => cc (Or.inr z)⟩
      · rw [bI_fI cb] at gh
        have cb' : h / 2 ^ ltr (sg t k) % 2 = 0 := by have : ¬ h / 2 ^ ltr (sg t k) % 2 = 1 := cb; omega
        have bset := bit_setM h hh (ltr (sg t k)) (by omega) cb'
        obtain ⟨a1, a2⟩ := plS_bd ht hh hlt hf
        obtain ⟨T1, e1, f1, q1, q2⟩ := m_readLetter ht hT hM hr (hb := h) hP c3 cb
        have hT1 := hT.fr f1 (fun q k z => aRi_p z)
        have step : ∀ (T2 : TS) (v : Int), (-1 ≤ v ∧ v ≤ 2) → cl k_Dm_letterHere [.ref 53] (enc T1) = some (some (.int (iI v)), enc T2) → rn k_Dm_clause 101 [.ref 53, .int (iI ((8 * r : Nat) : Int)), .int (iI (h : Int)), .int (iI (ltr (sg t k) : Int)), a4] [] (enc T) = rn k_Dm_clause 101 [.ref 53, .int (iI ((8 * r : Nat) : Int)), .int (iI ((h + 2 ^ ltr (sg t k) : Nat) : Int)), .int (iI v), a4] [] (enc T2) := by
          intro T2 v hv e2
          rw [e_Dm_clause_101]
          simp (disch := first | omega | assumption | decide | (simp (disch := omega) only [iI_lit, iJ_lit, iJ_eq, iI_eq, bI_01, bI_01I] <;> omega)) only [e_Dm_clause_102, e_Dm_clause_105, e_Dm_clause_106, e_Dm_clause_109, e_Dm_clause_110, e_Dm_clause_111, e_Dm_clause_114, e_Dm_clause_115, e_Dm_clause_116, e_Dm_clause_119, e_Dm_clause_122, e_Dm_clause_123, e_Dm_clause_124, e_Dm_clause_125, e_Dm_clause_126, e_Dm_clause_127, e_Dm_clause_128, e_Dm_clause_129, e_Dm_clause_130, e_Dm_clause_131, e_Dm_clause_134, e_Dm_clause_135, e_Dm_clause_138, e_Dm_clause_139, bd_some, bd_none, Option.toList_some, Option.toList_none, List.nil_append, List.cons_append, px_kill_int, px_kill_long, px_kill_ref, px_kill_null, iI_lit, iJ_lit, iI_add, iI_sub, iI_mul, iI_neg, iJ_add, iJ_sub, iJ_mul, iJ_neg, iI_lt, iI_le, iI_eq, iJ_lt, iJ_le, iJ_eq, iI_div, iJ_div, tdiv_tmod, iI_J, iJ_I, iI_ix, iI_toInt, iJ_toInt, cmp_ge, cmp_lt, cmp_eq, cmp_gt, cmp_le, cmp_geI, cmp_ltI, cmp_eqI, cmp_gtI, cmp_leI, bI_0I, bI_1I, pin, if_true, h1, nm1, if_false, gh, bset, e1, e2]
        have hp2 : ∀ y, plS t k h f = .inr y → y.2.1 = h + 2 ^ ltr (sg t k) := by
          intro y hy
          unfold plS at hy
          rw [if_neg (fun z => z.elim c3 cb)] at hy
          by_cases c0 : ltr (sg t k) = 0
          · rw [if_pos c0] at hy
            cases hy
            rw [c0]
          · rw [if_neg c0] at hy
            by_cases c1 : ltr (sg t k) = 1
            · rw [if_pos c1] at hy
              generalize pnum t (SK t (k + 1)) true 100 3 = P at hy
              cases P with
              | inl e => cases hy
              | inr x => cases hy; rw [c1]
            · rw [if_neg c1] at hy
              have c2 : ltr (sg t k) = 2 := by omega
              generalize pcpl t (SK t (k + 1)) 99 = P at hy
              cases P with
              | inl e => cases hy
              | inr x => cases hy; rw [c2]
        generalize plS t k h f = P at *
        cases P with
        | inl e =>
          have g1 := q1 e rfl
          obtain ⟨T2, v, e2, bv, f2, g2, _⟩ := m_letterHere ht hT1 g1
          have g3 := g2 e rfl
          obtain ⟨w1, w2, _⟩ := id g3
          have ne : ¬ (e : Int) = -1 := by omega
          refine ⟨T2, .int (iI ((h + 2 ^ ltr (sg t k) : Nat) : Int)), .int (iI v), ?_, f1.tr f2.ri, fun e' he => ?_, fun x hx => by cases hx⟩
          · rw [step T2 v bv e2, e_Dm_clause_101]
            simp (disch := first | omega | assumption | decide | (simp (disch := omega) only [iI_lit, iJ_lit, iJ_eq, iI_eq, bI_01, bI_01I] <;> omega)) only [e_Dm_clause_102, e_Dm_clause_105, e_Dm_clause_106, e_Dm_clause_109, e_Dm_clause_110, e_Dm_clause_111, e_Dm_clause_114, e_Dm_clause_115, e_Dm_clause_116, e_Dm_clause_119, e_Dm_clause_122, e_Dm_clause_123, e_Dm_clause_124, e_Dm_clause_125, e_Dm_clause_126, e_Dm_clause_127, e_Dm_clause_128, e_Dm_clause_129, e_Dm_clause_130, e_Dm_clause_131, e_Dm_clause_134, e_Dm_clause_135, e_Dm_clause_138, e_Dm_clause_139, bd_some, bd_none, Option.toList_some, Option.toList_none, List.nil_append, List.cons_append, px_kill_int, px_kill_long, px_kill_ref, px_kill_null, iI_lit, iJ_lit, iI_add, iI_sub, iI_mul, iI_neg, iJ_add, iJ_sub, iJ_mul, iJ_neg, iI_lt, iI_le, iI_eq, iJ_lt, iJ_le, iJ_eq, iI_div, iJ_div, tdiv_tmod, iI_J, iJ_I, iI_ix, iI_toInt, iJ_toInt, cmp_ge, cmp_lt, cmp_eq, cmp_gt, cmp_le, cmp_geI, cmp_ltI, cmp_eqI, cmp_gtI, cmp_leI, bI_0I, bI_1I, pin, if_true, w1, ne, if_false]
          · cases he
            exact Or.inl g3
        | inr y =>
          obtain ⟨b1, b2, b3, b4, b5⟩ := a2 y rfl
          obtain ⟨a', g1, s1, hP1⟩ := q2 y rfl
          obtain ⟨T2, v, e2, bv, f2, _, g2⟩ := m_letterHere ht hT1 g1
          obtain ⟨g3, g4⟩ := g2 a' rfl
          rw [s1] at g3 g4
          have hP2 : hPm T2 r y.2.2 := fun q hq => by rw [f2.1 _ _ (by unfold aAw; omega)]; exact hP1 q hq
          obtain ⟨T3, c2', c3', e3, f3, i1, i2⟩ := ih y.1 y.2.1 y.2.2 T2 (by omega) b2 b5 b4 (hT1.fr f2 (fun q k z => aAw_p z)) g3 hP2
          refine ⟨T3, c2', c3', ?_, (f1.tr f2.ri).tr f3, i1, i2⟩
          rw [step T2 v bv e2, ← hp2 y rfl, g4]
          exact e3
set_option maxHeartbeats 4000000 in
theorem m_tail {T : TS} {t : TP} (ht : okTp t) {md : MD} (h : hMd T t md) {r : Nat} (hr : r < 4) (hR : T.1 53 9 = iI (r : Int)) (b2 b3 b4 : Value) : ∃ r' : Int, (r' = 0 ∨ r' = 1) ∧ rn k_Dm_clause 142 [.ref 53, .int (iI ((8 * r : Nat) : Int)), b2, b3, b4] [] (enc T) = some (none, enc (sI T 53 9 (iI ((r : Int) + r')))) ∧ ∀ f, hPm T r f → okL f → (∃ a, md = .inr a) → r' = nwS f := by
  have i0 : (((8 * r : Nat) : Int) + 0).toNat = 8 * r := by omega
  have i1 : (((8 * r : Nat) : Int) + 1).toNat = 8 * r + 1 := by omega
  have i2 : (((8 * r : Nat) : Int) + 2).toNat = 8 * r + 2 := by omega
  have i3 : (((8 * r : Nat) : Int) + 3).toNat = 8 * r + 3 := by omega
  have hl := ht.1
  obtain ⟨z, ez⟩ := g_cellAny (T.1 55 (8 * r)) (T.1 55 (8 * r + 1)) (T.1 55 (8 * r + 2)) (T.1 55 (8 * r + 3)) (enc T)
  cases md with
  | inl e =>
    obtain ⟨h1, h2, _⟩ := h
    have ne : ¬ (e : Int) = -1 := by omega
    refine ⟨0, Or.inl rfl, ?_, fun f _ _ ⟨a, ha⟩ => by cases ha⟩
    simp (disch := first | omega | assumption | decide | (simp (disch := omega) only [iI_lit, iJ_lit, iJ_eq, iI_eq, bI_01, bI_01I] <;> omega)) only [e_Dm_clause_142, e_Dm_clause_143, e_Dm_clause_146, e_Dm_clause_147, e_Dm_clause_148, e_Dm_clause_149, e_Dm_clause_150, e_Dm_clause_151, e_Dm_clause_154, e_Dm_clause_155, e_Dm_clause_156, e_Dm_clause_157, e_Dm_clause_158, e_Dm_clause_159, e_Dm_clause_162, e_Dm_clause_163, e_Dm_clause_164, e_Dm_clause_165, e_Dm_clause_166, e_Dm_clause_167, e_Dm_clause_170, e_Dm_clause_171, e_Dm_clause_172, e_Dm_clause_173, e_Dm_clause_174, e_Dm_clause_177, e_Dm_clause_179, e_Dm_clause_180, e_Dm_clause_181, e_Dm_clause_184, e_Dm_clause_185, e_Dm_clause_188, e_Dm_clause_189, e_Dm_clause_192, e_Dm_clause_194, e_Dm_clause_195, e_Dm_clause_196, e_Dm_clause_199, e_Dm_clause_202, e_Dm_clause_205, e_Dm_clause_206, e_Dm_clause_209, e_Dm_clause_210, e_Dm_clause_211, e_Dm_clause_214, bd_some, bd_none, Option.toList_some, Option.toList_none, List.nil_append, List.cons_append, px_kill_int, px_kill_long, px_kill_ref, px_kill_null, iI_lit, iJ_lit, iI_add, iI_sub, iI_mul, iI_neg, iJ_add, iJ_sub, iJ_mul, iJ_neg, iI_lt, iI_le, iI_eq, iJ_lt, iJ_le, iJ_eq, iI_div, iJ_div, tdiv_tmod, iI_J, iJ_I, iI_ix, iI_toInt, iJ_toInt, cmp_ge, cmp_lt, cmp_eq, cmp_gt, cmp_le, cmp_geI, cmp_ltI, cmp_eqI, cmp_gtI, cmp_leI, bI_0I, bI_1I, pin, if_true, sh_n55, i0, i1, i2, i3, ez, hR, h1, ne, if_false]
  | inr a =>
    obtain ⟨h1, h2, h3⟩ := h
    have bz1 := i32_ge z
    have bz2 := i32_le z
    have gi := s_in (x := z.toInt) (l := 1) (h := 144) (enc T) (by omega) (by omega) (by omega)
    have hv : ∀ f, hPm T r f → okL f → ((1 ≤ z.toInt ∧ z.toInt ≤ 144) ↔ isScr (f 0) (f 1) (f 2) (f 3)) := by
      intro f hP hf
      have v0 : T.1 55 (8 * r) = iI (f 0) := hP 0 (by omega)
      have v1 := hP 1 (by omega)
      have v2 := hP 2 (by omega)
      have v3 := hP 3 (by omega)
      rw [v0, v1, v2, v3, g_cellBy hf.1] at ez
      have e := Option.some.inj ez
      have e2 : Value.int (iI (cel (f 0) (f 1) (f 2) (f 3))) = Value.int z := Option.some.inj (Prod.mk.inj e).1
      have e3 : iI (cel (f 0) (f 1) (f 2) (f 3)) = z := Value.int.inj e2
      obtain ⟨⟨o0, o1, o2, o3⟩, _⟩ := hf
      have m1 := mul_bd (a := f 0) (b := f 3) (M := 12) (N := 12) o0 o3
      have m2 := mul_bd (a := f 1) (b := f 2) (M := 12) (N := 12) o1 o2
      have bz : 0 ≤ cel (f 0) (f 1) (f 2) (f 3) ∧ cel (f 0) (f 1) (f 2) (f 3) ≤ 288 := by unfold cel; omega
      rw [← e3, iI_toInt (by omega) (by omega)]
      unfold cel isScr
      omega
    by_cases c : 1 ≤ z.toInt ∧ z.toInt ≤ 144
    · rw [bI_tI c] at gi
      refine ⟨1, Or.inr rfl, ?_, fun f hP hf _ => ?_⟩
      · rw [← toJ_toInt] at gi
        simp (disch := first | omega | assumption | decide | (simp (disch := omega) only [iI_lit, iJ_lit, iJ_eq, iI_eq, bI_01, bI_01I] <;> omega)) only [e_Dm_clause_142, e_Dm_clause_143, e_Dm_clause_146, e_Dm_clause_147, e_Dm_clause_148, e_Dm_clause_149, e_Dm_clause_150, e_Dm_clause_151, e_Dm_clause_154, e_Dm_clause_155, e_Dm_clause_156, e_Dm_clause_157, e_Dm_clause_158, e_Dm_clause_159, e_Dm_clause_162, e_Dm_clause_163, e_Dm_clause_164, e_Dm_clause_165, e_Dm_clause_166, e_Dm_clause_167, e_Dm_clause_170, e_Dm_clause_171, e_Dm_clause_172, e_Dm_clause_173, e_Dm_clause_174, e_Dm_clause_177, e_Dm_clause_179, e_Dm_clause_180, e_Dm_clause_181, e_Dm_clause_184, e_Dm_clause_185, e_Dm_clause_188, e_Dm_clause_189, e_Dm_clause_192, e_Dm_clause_194, e_Dm_clause_195, e_Dm_clause_196, e_Dm_clause_199, e_Dm_clause_202, e_Dm_clause_205, e_Dm_clause_206, e_Dm_clause_209, e_Dm_clause_210, e_Dm_clause_211, e_Dm_clause_214, bd_some, bd_none, Option.toList_some, Option.toList_none, List.nil_append, List.cons_append, px_kill_int, px_kill_long, px_kill_ref, px_kill_null, iI_lit, iJ_lit, iI_add, iI_sub, iI_mul, iI_neg, iJ_add, iJ_sub, iJ_mul, iJ_neg, iI_lt, iI_le, iI_eq, iJ_lt, iJ_le, iJ_eq, iI_div, iJ_div, tdiv_tmod, iI_J, iJ_I, iI_ix, iI_toInt, iJ_toInt, cmp_ge, cmp_lt, cmp_eq, cmp_gt, cmp_le, cmp_geI, cmp_ltI, cmp_eqI, cmp_gtI, cmp_leI, bI_0I, bI_1I, pin, if_true, sh_n55, i0, i1, i2, i3, ez, hR, h1, gi, one0, if_false]
      · unfold nwS
        rw [if_pos ((hv f hP hf).mp c)]
    · rw [bI_fI c] at gi
      refine ⟨0, Or.inl rfl, ?_, fun f hP hf _ => ?_⟩
      · rw [← toJ_toInt] at gi
        simp (disch := first | omega | assumption | decide | (simp (disch := omega) only [iI_lit, iJ_lit, iJ_eq, iI_eq, bI_01, bI_01I] <;> omega)) only [e_Dm_clause_142, e_Dm_clause_143, e_Dm_clause_146, e_Dm_clause_147, e_Dm_clause_148, e_Dm_clause_149, e_Dm_clause_150, e_Dm_clause_151, e_Dm_clause_154, e_Dm_clause_155, e_Dm_clause_156, e_Dm_clause_157, e_Dm_clause_158, e_Dm_clause_159, e_Dm_clause_162, e_Dm_clause_163, e_Dm_clause_164, e_Dm_clause_165, e_Dm_clause_166, e_Dm_clause_167, e_Dm_clause_170, e_Dm_clause_171, e_Dm_clause_172, e_Dm_clause_173, e_Dm_clause_174, e_Dm_clause_177, e_Dm_clause_179, e_Dm_clause_180, e_Dm_clause_181, e_Dm_clause_184, e_Dm_clause_185, e_Dm_clause_188, e_Dm_clause_189, e_Dm_clause_192, e_Dm_clause_194, e_Dm_clause_195, e_Dm_clause_196, e_Dm_clause_199, e_Dm_clause_202, e_Dm_clause_205, e_Dm_clause_206, e_Dm_clause_209, e_Dm_clause_210, e_Dm_clause_211, e_Dm_clause_214, bd_some, bd_none, Option.toList_some, Option.toList_none, List.nil_append, List.cons_append, px_kill_int, px_kill_long, px_kill_ref, px_kill_null, iI_lit, iJ_lit, iI_add, iI_sub, iI_mul, iI_neg, iJ_add, iJ_sub, iJ_mul, iJ_neg, iI_lt, iI_le, iI_eq, iJ_lt, iJ_le, iJ_eq, iI_div, iJ_div, tdiv_tmod, iI_J, iJ_I, iI_ix, iI_toInt, iJ_toInt, cmp_ge, cmp_lt, cmp_eq, cmp_gt, cmp_le, cmp_geI, cmp_ltI, cmp_eqI, cmp_gtI, cmp_leI, bI_0I, bI_1I, pin, if_true, sh_n55, i0, i1, i2, i3, ez, hR, h1, gi]
      · unfold nwS
        rw [if_neg (fun w => c ((hv f hP hf).mpr w))]
def aCm (r q k : Nat) : Prop := aRi r q k ∨ (q = 53 ∧ (k = 8 ∨ k = 9))
theorem aCm_p {r q k : Nat} (h : aCm r q k) : (q = 53 ∧ (k = 3 ∨ k = 4 ∨ k = 8 ∨ k = 9)) ∨ q = 55 := by unfold aCm aRi aAw at h; omega
set_option maxHeartbeats 4000000 in
theorem m_clause {T : TS} {t : TP} (ht : okTp t) (hT : hTm T t) {a : Nat} (h : hMd T t (.inr a)) {c r : Nat} (hc : c ≤ 4) (hr : r ≤ c) (hC : T.1 53 8 = iI (c : Int)) (hR : T.1 53 9 = iI (r : Int)) : ∃ T' : TS, cl k_Dm_clause [.ref 53] (enc T) = some (none, enc T') ∧ FrI (aCm r) T T' ∧ (∀ e, pcl t (SK t a) c = .inl e → pend T' t e) ∧ (∀ x, pcl t (SK t a) c = .inr x → hMd T' t (.inr x.2) ∧ hPm T' r x.1 ∧ T'.1 53 8 = iI ((c + 1 : Nat) : Int) ∧ T'.1 53 9 = iI ((r : Int) + nwS x.1)) := by
  obtain ⟨h1, h2, h3⟩ := id h
  have hl := ht.1
  have hs := SK_le ht a
  have bs := sg_bd ht (SK t a)
  unfold pcl
  by_cases c4 : c = 4
  · rw [if_neg (by omega)]
    obtain ⟨T1, e1, f1, g1⟩ := m_ahead ht a T hT h2 h3
    have hW1 : T1.1 53 4 = iI (-1) := by rw [f1.1 _ _ (by omega)]; exact h1
    obtain ⟨T2, e2, f2, g2⟩ := m_bad1 (T := T1) (t := t) (a := SK t a) (hs.2 h2) hl hW1 g1
    have f12 := (f3_aw f1).tr f2
    obtain ⟨T3, e3, f3, g3⟩ := m_must ht (hT.fr f12 (fun q k z => aAw_p z)) g2 (c := 115) (by omega)
    have f13 := f12.tr f3
    have hC3 : T3.1 53 8 = iI (c : Int) := by rw [f13.1 _ _ (by unfold aAw; omega)]; exact hC
    have g3' : hMd T3 t (.inl (SK t a)) := g3
    obtain ⟨w1, w2, _⟩ := id g3'
    have ne : ¬ ((SK t a : Nat) : Int) = -1 := by omega
    have c4' : (c : Int) = 4 := by omega
    refine ⟨sI T3 53 8 (iI ((c : Int) + 1)), ?_, (f13.mono (fun q k z => Or.inl (Or.inl z))).wr _ (Or.inr ⟨rfl, by omega⟩), fun e he => ?_, fun x hx => by cases hx⟩
    · rw [c4'] at hC hC3 ⊢
      simp (disch := first | omega | assumption | decide | (simp (disch := omega) only [iI_lit, iJ_lit, iJ_eq, iI_eq, bI_01, bI_01I] <;> omega)) only [c_Dm_clause, e_Dm_clause_0, e_Dm_clause_1, e_Dm_clause_4, e_Dm_clause_5, e_Dm_clause_8, e_Dm_clause_9, e_Dm_clause_12, e_Dm_clause_13, e_Dm_clause_14, e_Dm_clause_17, e_Dm_clause_18, e_Dm_clause_20, e_Dm_clause_23, e_Dm_clause_24, e_Dm_clause_25, e_Dm_clause_28, e_Dm_clause_29, e_Dm_clause_30, e_Dm_clause_33, e_Dm_clause_34, e_Dm_clause_37, e_Dm_clause_38, e_Dm_clause_41, bd_some, bd_none, Option.toList_some, Option.toList_none, List.nil_append, List.cons_append, px_kill_int, px_kill_long, px_kill_ref, px_kill_null, iI_lit, iJ_lit, iI_add, iI_sub, iI_mul, iI_neg, iJ_add, iJ_sub, iJ_mul, iJ_neg, iI_lt, iI_le, iI_eq, iJ_lt, iJ_le, iJ_eq, iI_div, iJ_div, tdiv_tmod, iI_J, iJ_I, iI_ix, iI_toInt, iJ_toInt, cmp_ge, cmp_lt, cmp_eq, cmp_gt, cmp_le, cmp_geI, cmp_ltI, cmp_eqI, cmp_gtI, cmp_leI, bI_0I, bI_1I, pin, if_true, hC, e1, e2, e3, hC3, sI_get, sJ_get, sI_2, sJ_1, sJ_22, sR_1, sR_21, Nat.reduceEqDiff, and_true, true_and, and_false, false_and, and_self, if_true, if_false, reduceIte, w1, ne, if_false]
    · cases he
      exact Or.inl (g3'.w9 (Or.inl rfl) _)
  · have c4' : ¬ (c : Int) = 4 := by omega
    obtain ⟨T1, e1, f1, g1⟩ := m_must ht hT h (c := 115) (by omega)
    have hC1 : T1.1 53 8 = iI (c : Int) := by rw [f1.1 _ _ (by unfold aAw; omega)]; exact hC
    have hR1 : T1.1 53 9 = iI (r : Int) := by rw [f1.1 _ _ (by unfold aAw; omega)]; exact hR
    have em : muD t (.inr a) 115 = if sg t (SK t a) = 115 then .inr (SK t a + 1) else .inl (SK t a) := rfl
    rw [em] at g1
    obtain ⟨T2, hT2⟩ : ∃ T2, T2 = sI T1 53 8 (iI ((c : Int) + 1)) := ⟨_, rfl⟩
    have f2 : FrI (aCm r) T T2 := by rw [hT2]; exact (f1.mono (fun q k z => Or.inl (Or.inl z))).wr _ (Or.inr ⟨rfl, by omega⟩)
    have pre : cl k_Dm_clause [.ref 53] (enc T) = rn k_Dm_clause 33 [.ref 53, .null, .null, .null, .null] [] (enc T2) := by
      rw [hT2]
      simp (disch := first | omega | assumption | decide | (simp (disch := omega) only [iI_lit, iJ_lit, iJ_eq, iI_eq, bI_01, bI_01I] <;> omega)) only [c_Dm_clause, e_Dm_clause_0, e_Dm_clause_1, e_Dm_clause_4, e_Dm_clause_5, e_Dm_clause_8, e_Dm_clause_9, e_Dm_clause_12, e_Dm_clause_13, e_Dm_clause_14, e_Dm_clause_17, e_Dm_clause_18, e_Dm_clause_20, e_Dm_clause_23, e_Dm_clause_24, e_Dm_clause_25, e_Dm_clause_28, e_Dm_clause_29, e_Dm_clause_30, bd_some, bd_none, Option.toList_some, Option.toList_none, List.nil_append, List.cons_append, px_kill_int, px_kill_long, px_kill_ref, px_kill_null, iI_lit, iJ_lit, iI_add, iI_sub, iI_mul, iI_neg, iJ_add, iJ_sub, iJ_mul, iJ_neg, iI_lt, iI_le, iI_eq, iJ_lt, iJ_le, iJ_eq, iI_div, iJ_div, tdiv_tmod, iI_J, iJ_I, iI_ix, iI_toInt, iJ_toInt, cmp_ge, cmp_lt, cmp_eq, cmp_gt, cmp_le, cmp_geI, cmp_ltI, cmp_eqI, cmp_gtI, cmp_leI, bI_0I, bI_1I, pin, if_true, hC, c4', if_false, e1, hC1]
    by_cases cs : sg t (SK t a) = 115
    case neg =>
      rw [if_neg (fun z => cs z.1)]
      rw [if_neg cs] at g1
      have g2 : hMd T2 t (.inl (SK t a)) := by rw [hT2]; exact g1.w9 (Or.inl rfl) _
      obtain ⟨w1, w2, _⟩ := id g2
      have ne : ¬ ((SK t a : Nat) : Int) = -1 := by omega
      refine ⟨T2, ?_, f2, fun e he => ?_, fun x hx => by cases hx⟩
      · rw [pre]
        simp (disch := first | omega | assumption | decide | (simp (disch := omega) only [iI_lit, iJ_lit, iJ_eq, iI_eq, bI_01, bI_01I] <;> omega)) only [e_Dm_clause_33, e_Dm_clause_34, e_Dm_clause_37, e_Dm_clause_38, e_Dm_clause_41, bd_some, bd_none, Option.toList_some, Option.toList_none, List.nil_append, List.cons_append, px_kill_int, px_kill_long, px_kill_ref, px_kill_null, iI_lit, iJ_lit, iI_add, iI_sub, iI_mul, iI_neg, iJ_add, iJ_sub, iJ_mul, iJ_neg, iI_lt, iI_le, iI_eq, iJ_lt, iJ_le, iJ_eq, iI_div, iJ_div, tdiv_tmod, iI_J, iJ_I, iI_ix, iI_toInt, iJ_toInt, cmp_ge, cmp_lt, cmp_eq, cmp_gt, cmp_le, cmp_geI, cmp_ltI, cmp_eqI, cmp_gtI, cmp_leI, bI_0I, bI_1I, pin, if_true, w1, ne, if_false]
      · cases he
        exact Or.inl g2
    rw [if_pos ⟨cs, by omega⟩]
    rw [if_pos cs] at g1
    have hlt := sg_lt (t := t) (k := SK t a) (by omega)
    have hs1 := SK_le ht (SK t a + 1)
    have g2 : hMd T2 t (.inr (SK t a + 1)) := by rw [hT2]; exact g1.w9 (Or.inl rfl) _
    have hTT2 := hT.fr f2 (fun q k z => aCm_p z)
    have hR2 : T2.1 53 9 = iI (r : Int) := by rw [hT2, wr_ne _ _ (by omega)]; exact hR1
    have hC2 : T2.1 53 8 = iI ((c : Int) + 1) := by rw [hT2]; simp only [sI_get, sJ_get, sI_2, sJ_1, sJ_22, sR_1, sR_21, Nat.reduceEqDiff, and_true, true_and, and_false, false_and, and_self, if_true, if_false, reduceIte]
    obtain ⟨T3, e3, f3, q1, q2⟩ := m_readScreen ht hTT2 g2 (r := r) (by omega)
    have hr4 : r < 4 := by omega
    have i4 : (((8 * r : Nat) : Int) + 4).toNat = 8 * r + 4 := by omega
    have i5 : (((8 * r : Nat) : Int) + 5).toNat = 8 * r + 5 := by omega
    have i6 : (((8 * r : Nat) : Int) + 6).toNat = 8 * r + 6 := by omega
    have i7 : (((8 * r : Nat) : Int) + 7).toNat = 8 * r + 7 := by omega
    obtain ⟨T4, hT4⟩ : ∃ T4, T4 = sI (sI (sI (sI T3 55 (8 * r + 4) (iI 0)) 55 (8 * r + 5) (iI 50)) 55 (8 * r + 6) (iI 0)) 55 (8 * r + 7) (iI 0) := ⟨_, rfl⟩
    have f4 : FrI (aRi r) T2 T4 := by rw [hT4]; exact (((f3.wr _ (Or.inr ⟨rfl, by omega, by omega⟩)).wr _ (Or.inr ⟨rfl, by omega, by omega⟩)).wr _ (Or.inr ⟨rfl, by omega, by omega⟩)).wr _ (Or.inr ⟨rfl, by omega, by omega⟩)
    have f4' : FrI (aCm r) T T4 := f2.tr (f4.mono (fun q k z => Or.inl z))
    have hTT4 := hT.fr f4' (fun q k z => aCm_p z)
    have e8 : 8 * (r : Int) = ((8 * r : Nat) : Int) := by omega
    have pre2 : ∀ (T5 : TS) (v : Int), cl k_Dm_letterHere [.ref 53] (enc T4) = some (some (.int (iI v)), enc T5) → cl k_Dm_clause [.ref 53] (enc T) = rn k_Dm_clause 101 [.ref 53, .int (iI ((8 * r : Nat) : Int)), .int (iI ((0 : Nat) : Int)), .int (iI v), .null] [] (enc T5) := by
      intro T5 v e5
      have g21 := g2.1
      rw [pre]
      simp (disch := first | omega | assumption | decide | (simp (disch := omega) only [iI_lit, iJ_lit, iJ_eq, iI_eq, bI_01, bI_01I] <;> omega)) only [e_Dm_clause_33, e_Dm_clause_34, e_Dm_clause_37, e_Dm_clause_38, e_Dm_clause_41, e_Dm_clause_42, e_Dm_clause_44, e_Dm_clause_45, e_Dm_clause_48, e_Dm_clause_49, e_Dm_clause_50, e_Dm_clause_51, e_Dm_clause_52, bd_some, bd_none, Option.toList_some, Option.toList_none, List.nil_append, List.cons_append, px_kill_int, px_kill_long, px_kill_ref, px_kill_null, iI_lit, iJ_lit, iI_add, iI_sub, iI_mul, iI_neg, iJ_add, iJ_sub, iJ_mul, iJ_neg, iI_lt, iI_le, iI_eq, iJ_lt, iJ_le, iJ_eq, iI_div, iJ_div, tdiv_tmod, iI_J, iJ_I, iI_ix, iI_toInt, iJ_toInt, cmp_ge, cmp_lt, cmp_eq, cmp_gt, cmp_le, cmp_geI, cmp_ltI, cmp_eqI, cmp_gtI, cmp_leI, bI_0I, bI_1I, pin, if_true, g21, hR2, e8, e3]
      simp (disch := first | omega | assumption | decide | (simp (disch := omega) only [iI_lit, iJ_lit, iJ_eq, iI_eq, bI_01, bI_01I] <;> omega)) only [e_Dm_clause_55, e_Dm_clause_56, e_Dm_clause_59, e_Dm_clause_60, e_Dm_clause_61, e_Dm_clause_62, e_Dm_clause_63, e_Dm_clause_64, e_Dm_clause_65, e_Dm_clause_68, e_Dm_clause_69, e_Dm_clause_70, e_Dm_clause_71, e_Dm_clause_73, e_Dm_clause_74, e_Dm_clause_75, e_Dm_clause_78, e_Dm_clause_79, e_Dm_clause_81, e_Dm_clause_82, e_Dm_clause_83, e_Dm_clause_84, e_Dm_clause_85, e_Dm_clause_88, e_Dm_clause_89, e_Dm_clause_91, e_Dm_clause_92, e_Dm_clause_93, bd_some, bd_none, Option.toList_some, Option.toList_none, List.nil_append, List.cons_append, px_kill_int, px_kill_long, px_kill_ref, px_kill_null, iI_lit, iJ_lit, iI_add, iI_sub, iI_mul, iI_neg, iJ_add, iJ_sub, iJ_mul, iJ_neg, iI_lt, iI_le, iI_eq, iJ_lt, iJ_le, iJ_eq, iI_div, iJ_div, tdiv_tmod, iI_J, iJ_I, iI_ix, iI_toInt, iJ_toInt, cmp_ge, cmp_lt, cmp_eq, cmp_gt, cmp_le, cmp_geI, cmp_ltI, cmp_eqI, cmp_gtI, cmp_leI, bI_0I, bI_1I, pin, if_true, sh_n55, i4, i5, i6, i7]
      rw [← hT4]
      simp (disch := first | omega | assumption | decide | (simp (disch := omega) only [iI_lit, iJ_lit, iJ_eq, iI_eq, bI_01, bI_01I] <;> omega)) only [e_Dm_clause_94, e_Dm_clause_95, e_Dm_clause_96, e_Dm_clause_97, e_Dm_clause_100, bd_some, bd_none, Option.toList_some, Option.toList_none, List.nil_append, List.cons_append, px_kill_int, px_kill_long, px_kill_ref, px_kill_null, iI_lit, iJ_lit, iI_add, iI_sub, iI_mul, iI_neg, iJ_add, iJ_sub, iJ_mul, iJ_neg, iI_lt, iI_le, iI_eq, iJ_lt, iJ_le, iJ_eq, iI_div, iJ_div, tdiv_tmod, iI_J, iJ_I, iI_ix, iI_toInt, iJ_toInt, cmp_ge, cmp_lt, cmp_eq, cmp_gt, cmp_le, cmp_geI, cmp_ltI, cmp_eqI, cmp_gtI, cmp_leI, bI_0I, bI_1I, pin, if_true, e5]
      rfl
    have w55 : ∀ md, hMd T3 t md → hMd T4 t md := fun md z => by rw [hT4]; exact (((z.w55 _ _).w55 _ _).w55 _ _).w55 _ _
    have hR4 : T4.1 53 9 = iI (r : Int) := by rw [f4.1 _ _ (by unfold aRi aAw; omega)]; exact hR2
    have hC4 : T4.1 53 8 = iI ((c : Int) + 1) := by rw [f4.1 _ _ (by unfold aRi aAw; omega)]; exact hC2
    obtain ⟨a1, a2⟩ := pscr_bd ht (k := SK t (SK t a + 1)) (hs1.2 (by omega))
    generalize pscr t (SK t (SK t a + 1)) = P at *
    cases P with
    | inl e =>
      have g4 := w55 _ (q1 e rfl)
      obtain ⟨T5, v, e5, bv, f5, g5, _⟩ := m_letterHere ht hTT4 g4
      have g6 := g5 e rfl
      obtain ⟨w1, w2, _⟩ := id g6
      have ne : ¬ (e : Int) = -1 := by omega
      obtain ⟨r', hr', e6, _⟩ := m_tail ht g6 hr4 (by rw [f5.1 _ _ (by unfold aAw; omega)]; exact hR4) (.int (iI ((0 : Nat) : Int))) (.int (iI v)) .null
      refine ⟨sI T5 53 9 (iI ((r : Int) + r')), ?_, (f4'.tr (f5.mono (fun q k z => Or.inl (Or.inl z)))).wr _ (Or.inr ⟨rfl, by omega⟩), fun e' he => ?_, fun x hx => by cases hx⟩
      · rw [pre2 T5 v e5]
        refine Eq.trans ?_ e6
        rw [e_Dm_clause_101]
        simp (disch := first | omega | assumption | decide | (simp (disch := omega) only [iI_lit, iJ_lit, iJ_eq, iI_eq, bI_01, bI_01I] <;> omega)) only [e_Dm_clause_102, e_Dm_clause_105, e_Dm_clause_106, e_Dm_clause_109, e_Dm_clause_110, e_Dm_clause_111, e_Dm_clause_114, e_Dm_clause_115, e_Dm_clause_116, e_Dm_clause_119, e_Dm_clause_122, e_Dm_clause_123, e_Dm_clause_124, e_Dm_clause_125, e_Dm_clause_126, e_Dm_clause_127, e_Dm_clause_128, e_Dm_clause_129, e_Dm_clause_130, e_Dm_clause_131, e_Dm_clause_134, e_Dm_clause_135, e_Dm_clause_138, e_Dm_clause_139, bd_some, bd_none, Option.toList_some, Option.toList_none, List.nil_append, List.cons_append, px_kill_int, px_kill_long, px_kill_ref, px_kill_null, iI_lit, iJ_lit, iI_add, iI_sub, iI_mul, iI_neg, iJ_add, iJ_sub, iJ_mul, iJ_neg, iI_lt, iI_le, iI_eq, iJ_lt, iJ_le, iJ_eq, iI_div, iJ_div, tdiv_tmod, iI_J, iJ_I, iI_ix, iI_toInt, iJ_toInt, cmp_ge, cmp_lt, cmp_eq, cmp_gt, cmp_le, cmp_geI, cmp_ltI, cmp_eqI, cmp_gtI, cmp_leI, bI_0I, bI_1I, pin, if_true, w1, ne, if_false]
      · cases he
        exact Or.inl (g6.w9 (Or.inr rfl) _)
    | inr x =>
      obtain ⟨b1, b2, b3⟩ := a2 x rfl
      obtain ⟨a', g3, s3, v0, v1, v2, v3⟩ := q2 x rfl
      have g4 := w55 _ g3
      obtain ⟨T5, v, e5, bv, f5, _, g5⟩ := m_letterHere ht hTT4 g4
      obtain ⟨g6, ev⟩ := g5 a' rfl
      rw [s3] at g6 ev
      have hP5 : hPm T5 r (bas x.1) := by
        intro q hq
        rw [f5.1 _ _ (by unfold aAw; omega), hT4]
        have : q = 0 ∨ q = 1 ∨ q = 2 ∨ q = 3 ∨ q = 4 ∨ q = 5 ∨ q = 6 ∨ q = 7 := by omega
        rcases this with h | h | h | h | h | h | h | h <;> subst h
        · rw [wr_ne _ _ (by omega), wr_ne _ _ (by omega), wr_ne _ _ (by omega), wr_ne _ _ (by omega)]; exact v0
        · rw [wr_ne _ _ (by omega), wr_ne _ _ (by omega), wr_ne _ _ (by omega), wr_ne _ _ (by omega)]; exact v1
        · rw [wr_ne _ _ (by omega), wr_ne _ _ (by omega), wr_ne _ _ (by omega), wr_ne _ _ (by omega)]; exact v2
        · rw [wr_ne _ _ (by omega), wr_ne _ _ (by omega), wr_ne _ _ (by omega), wr_ne _ _ (by omega)]; exact v3
        · rw [wr_ne _ _ (by omega), wr_ne _ _ (by omega), wr_ne _ _ (by omega)]; simp only [sI_get, sJ_get, sI_2, sJ_1, sJ_22, sR_1, sR_21, Nat.reduceEqDiff, and_true, true_and, and_false, false_and, and_self, if_true, if_false, reduceIte]; rfl
        · rw [wr_ne _ _ (by omega), wr_ne _ _ (by omega)]; simp only [sI_get, sJ_get, sI_2, sJ_1, sJ_22, sR_1, sR_21, Nat.reduceEqDiff, and_true, true_and, and_false, false_and, and_self, if_true, if_false, reduceIte]; rfl
        · rw [wr_ne _ _ (by omega)]; simp only [sI_get, sJ_get, sI_2, sJ_1, sJ_22, sR_1, sR_21, Nat.reduceEqDiff, and_true, true_and, and_false, false_and, and_self, if_true, if_false, reduceIte]; rfl
        · simp only [sI_get, sJ_get, sI_2, sJ_1, sJ_22, sR_1, sR_21, Nat.reduceEqDiff, and_true, true_and, and_false, false_and, and_self, if_true, if_false, reduceIte]; rfl
      have f5' : FrI (aCm r) T T5 := f4'.tr (f5.mono (fun q k z => Or.inl (Or.inl z)))
      obtain ⟨l1, l2⟩ := plet_bd ht 4 (SK t x.2) 0 (bas x.1) (by unfold cB; omega) (by omega) ((SK_le ht x.2).2 b2) (bas_ok b3)
      obtain ⟨T6, b2', b3', e6, f6, i1, i2⟩ := lp_mlet ht hr4 .null 4 (SK t x.2) 0 (bas x.1) T5 (by unfold cB; omega) (by omega) (SK_SK ht _) (bas_ok b3) (hT.fr f5' (fun q k z => aCm_p z)) g6 hP5
      have f6' : FrI (aCm r) T T6 := f5'.tr (f6.mono (fun q k z => Or.inl z))
      have hR6 : T6.1 53 9 = iI (r : Int) := by rw [f6.1 _ _ (by unfold aRi aAw; omega), f5.1 _ _ (by unfold aAw; omega)]; exact hR4
      have hC6 : T6.1 53 8 = iI ((c : Int) + 1) := by rw [f6.1 _ _ (by unfold aRi aAw; omega), f5.1 _ _ (by unfold aAw; omega)]; exact hC4
      have go : ∀ r' : Int, rn k_Dm_clause 142 [.ref 53, .int (iI ((8 * r : Nat) : Int)), b2', b3', .null] [] (enc T6) = some (none, enc (sI T6 53 9 (iI ((r : Int) + r')))) → cl k_Dm_clause [.ref 53] (enc T) = some (none, enc (sI T6 53 9 (iI ((r : Int) + r')))) := by
        intro r' e7
        rw [pre2 T5 v e5, ev, e6, e7]
      simp only
      generalize plet t 4 (SK t x.2) 0 (bas x.1) = P2 at *
      cases P2 with
      | inl e =>
        have pe := i1 e rfl
        have hmd : ∃ md, hMd T6 t md ∧ (md = .inl e ∨ md = .inr e) := by
          rcases pe with z | z
          · exact ⟨_, z, Or.inl rfl⟩
          · exact ⟨_, z.1, Or.inr rfl⟩
        obtain ⟨md, hmd1, _⟩ := hmd
        obtain ⟨r', hr', e7, _⟩ := m_tail ht hmd1 hr4 hR6 b2' b3' .null
        refine ⟨_, go r' e7, f6'.wr _ (Or.inr ⟨rfl, by omega⟩), fun e' he => ?_, fun y hy => by cases hy⟩
        cases he
        rcases pe with z | z
        · exact Or.inl (z.w9 (Or.inr rfl) _)
        · exact Or.inr ⟨z.1.w9 (Or.inr rfl) _, z.2⟩
      | inr y =>
        obtain ⟨g7, hP7⟩ := i2 y rfl
        obtain ⟨r', hr', e7, hv⟩ := m_tail ht g7 hr4 hR6 b2' b3' .null
        have hv' := hv y.1 hP7 (l2 y rfl).2.1 ⟨_, rfl⟩
        refine ⟨_, go r' e7, f6'.wr _ (Or.inr ⟨rfl, by omega⟩), fun e' he => (by cases he), fun z hz => ?_⟩
        cases hz
        refine ⟨g7.w9 (Or.inr rfl) _, fun q hq => ?_, ?_, ?_⟩
        · rw [wr_ne _ _ (by omega)]; exact hP7 q hq
        · rw [wr_ne _ _ (by omega), show ((c + 1 : Nat) : Int) = (c : Int) + 1 by omega]; exact hC6
        · simp only [sI_get, sJ_get, sI_2, sJ_1, sJ_22, sR_1, sR_21, Nat.reduceEqDiff, and_true, true_and, and_false, false_and, and_self, if_true, if_false, reduceIte]; rw [hv']
