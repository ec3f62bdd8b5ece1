/-! the reference reduces. -/
theorem tdiv_fl {a b : Int} (hb : 0 < b) : a / b = if a.tmod b < 0 then a.tdiv b - 1 else a.tdiv b := by
  have e := Int.mul_tdiv_add_tmod a b
  have hl : (a.tmod b).natAbs < b.natAbs := tmod_lt (by omega)
  split
  · rename_i h
    refine ((Int.ediv_emod_unique (a := a) (b := b) (r := a.tmod b + b) (q := a.tdiv b - 1) hb).mpr ⟨?_, by omega, by omega⟩).1
    rw [Int.mul_sub, Int.mul_one]
    omega
  · rename_i h
    refine ((Int.ediv_emod_unique (a := a) (b := b) (r := a.tmod b) (q := a.tdiv b) hb).mpr ⟨by omega, by omega, by omega⟩).1
theorem s_nearest {v b : Int} (hv : -1000000000000000000 ≤ 2 * v + b ∧ 2 * v + b ≤ 2000000000000000000) (hb : 0 < b ∧ b ≤ 1000000000000000000) (g : px_G) : cl k_Dm_nearest [.long (iJ v), .long (iJ b)] g = some (some (.long (iJ ((2 * v + b) / (2 * b)))), g) := by
  have hf := tdiv_fl (a := 2 * v + b) (b := 2 * b) (by omega)
  have hl : ((2 * v + b).tmod (2 * b)).natAbs < (2 * b).natAbs := tmod_lt (by omega)
  have nb : ¬ 2 * b = 0 := by omega
  rw [hf]
  generalize hA : 2 * v + b = A at *
  by_cases c : A.tmod (2 * b) < 0
  · have c' : ¬ 0 ≤ A.tmod (2 * b) := by omega
    rw [if_pos c]
    simp (disch := first | omega | assumption | decide | (simp (disch := omega) only [iI_lit, iJ_lit, iJ_eq, iI_eq, bI_01, bI_01I] <;> omega)) only [c_Dm_nearest, e_Dm_nearest_0, e_Dm_nearest_3, e_Dm_nearest_4, e_Dm_nearest_5, e_Dm_nearest_6, e_Dm_nearest_7, e_Dm_nearest_9, e_Dm_nearest_11, e_Dm_nearest_14, e_Dm_nearest_15, e_Dm_nearest_16, e_Dm_nearest_17, e_Dm_nearest_19, e_Dm_nearest_21, e_Dm_nearest_24, e_Dm_nearest_25, e_Dm_nearest_26, e_Dm_nearest_27, e_Dm_nearest_28, e_Dm_nearest_29, e_Dm_nearest_32, e_Dm_nearest_34, e_Dm_nearest_35, e_Dm_nearest_36, e_Dm_nearest_39, e_Dm_nearest_41, bd_some, bd_none, Option.toList_some, Option.toList_none, List.nil_append, List.cons_append, px_kill_int, px_kill_long, px_kill_ref, px_kill_null, iI_lit, iJ_lit, iI_add, iI_sub, iI_mul, iI_neg, iJ_add, iJ_sub, iJ_mul, iJ_neg, iI_lt, iI_le, iI_eq, iJ_lt, iJ_le, iJ_eq, iI_div, iJ_div, tdiv_tmod, iI_J, iJ_I, iI_ix, iI_toInt, iJ_toInt, cmp_ge, cmp_lt, cmp_eq, cmp_gt, cmp_le, cmp_geI, cmp_ltI, cmp_eqI, cmp_gtI, cmp_leI, bI_0I, bI_1I, pin, if_true, hA, nb, c', if_false]
  · have c' : 0 ≤ A.tmod (2 * b) := by omega
    rw [if_neg c]
    simp (disch := first | omega | assumption | decide | (simp (disch := omega) only [iI_lit, iJ_lit, iJ_eq, iI_eq, bI_01, bI_01I] <;> omega)) only [c_Dm_nearest, e_Dm_nearest_0, e_Dm_nearest_3, e_Dm_nearest_4, e_Dm_nearest_5, e_Dm_nearest_6, e_Dm_nearest_7, e_Dm_nearest_9, e_Dm_nearest_11, e_Dm_nearest_14, e_Dm_nearest_15, e_Dm_nearest_16, e_Dm_nearest_17, e_Dm_nearest_19, e_Dm_nearest_21, e_Dm_nearest_24, e_Dm_nearest_25, e_Dm_nearest_26, e_Dm_nearest_27, e_Dm_nearest_28, e_Dm_nearest_29, e_Dm_nearest_32, e_Dm_nearest_34, e_Dm_nearest_35, e_Dm_nearest_36, e_Dm_nearest_39, e_Dm_nearest_41, bd_some, bd_none, Option.toList_some, Option.toList_none, List.nil_append, List.cons_append, px_kill_int, px_kill_long, px_kill_ref, px_kill_null, iI_lit, iJ_lit, iI_add, iI_sub, iI_mul, iI_neg, iJ_add, iJ_sub, iJ_mul, iJ_neg, iI_lt, iI_le, iI_eq, iJ_lt, iJ_le, iJ_eq, iI_div, iJ_div, tdiv_tmod, iI_J, iJ_I, iI_ix, iI_toInt, iJ_toInt, cmp_ge, cmp_lt, cmp_eq, cmp_gt, cmp_le, cmp_geI, cmp_ltI, cmp_eqI, cmp_gtI, cmp_leI, bI_0I, bI_1I, pin, if_true, hA, nb, c', if_false]
abbrev lMr (q : Q4) (more : Int) (a10 a11 a12 a13 a14 a15 : Value) : List Value := [.ref 53, .long (iJ q.1), .null, .long (iJ q.2.1), .null, .long (iJ q.2.2.1), .null, .long (iJ q.2.2.2), .null, .int (iI more), a10, a11, a12, a13, a14, a15]
set_option maxHeartbeats 4000000 in
theorem lp_mred {N : Int} (hN : bNn N) (T : TS) : ∀ (n : Nat) (q : Q4), okR N q → Ter n q → ∀ a10 a11 a12 a13 a14 a15 : Value, ∃ b10 b11 b12 b13 b14 b15 : Value, rn k_Dm_laysReduced 22 (lMr q 1 a10 a11 a12 a13 a14 a15) [] (enc T) = rn k_Dm_laysReduced 126 (lMr (LR n q) 0 b10 b11 b12 b13 b14 b15) [] (enc T) := by
  intro n
  induction n with
  | zero => intro q _ h; exact h.elim
  | succ n ih =>
    intro q ho ht a10 a11 a12 a13 a14 a15
    have hp := ho.pos
    have hu := ho.2.1
    have hv := ho.2.2
    have e1 := s_squared (X := q.2.2.1) (Y := q.2.2.2) (enc T)
    have e2 := s_squared (X := q.1) (Y := q.2.1) (enc T)
    have eV : q.2.2.1 * q.2.2.1 + q.2.2.2 * q.2.2.2 = rV q := rfl
    have eU : q.1 * q.1 + q.2.1 * q.2.1 = rU q := rfl
    rw [eV] at e1
    rw [eU] at e2
    have sw : ∃ c10 c11 c12 c13 : Value, rn k_Dm_laysReduced 22 (lMr q 1 a10 a11 a12 a13 a14 a15) [] (enc T) = rn k_Dm_laysReduced 63 (lMr (swp q) 1 c10 c11 c12 c13 a14 a15) [] (enc T) := by
      unfold swp
      generalize rU q = U at *
      generalize rV q = V at *
      by_cases c : V < U
      · have c' : ¬ U ≤ V := by omega
        rw [if_pos c]
        refine ⟨.long (iJ q.1), .null, .long (iJ q.2.1), .null, ?_⟩
        rw [e_Dm_laysReduced_22]
        simp (disch := first | omega | assumption | decide | (simp (disch := omega) only [iI_lit, iJ_lit, iJ_eq, iI_eq, bI_01, bI_01I] <;> omega)) only [e_Dm_laysReduced_24, e_Dm_laysReduced_27, e_Dm_laysReduced_29, e_Dm_laysReduced_31, e_Dm_laysReduced_34, e_Dm_laysReduced_35, e_Dm_laysReduced_36, e_Dm_laysReduced_39, e_Dm_laysReduced_40, e_Dm_laysReduced_43, e_Dm_laysReduced_44, e_Dm_laysReduced_46, e_Dm_laysReduced_47, e_Dm_laysReduced_49, e_Dm_laysReduced_51, e_Dm_laysReduced_52, e_Dm_laysReduced_54, e_Dm_laysReduced_55, e_Dm_laysReduced_57, e_Dm_laysReduced_59, e_Dm_laysReduced_61, bd_some, bd_none, Option.toList_some, Option.toList_none, List.nil_append, List.cons_append, px_kill_int, px_kill_long, px_kill_ref, px_kill_null, iI_lit, iJ_lit, iI_add, iI_sub, iI_mul, iI_neg, iJ_add, iJ_sub, iJ_mul, iJ_neg, iI_lt, iI_le, iI_eq, iJ_lt, iJ_le, iJ_eq, iI_div, iJ_div, tdiv_tmod, iI_J, iJ_I, iI_ix, iI_toInt, iJ_toInt, cmp_ge, cmp_lt, cmp_eq, cmp_gt, cmp_le, cmp_geI, cmp_ltI, cmp_eqI, cmp_gtI, cmp_leI, bI_0I, bI_1I, pin, if_true, one0, if_false, e1, e2, c']
      · have c' : U ≤ V := by omega
        rw [if_neg c]
        refine ⟨a10, a11, a12, a13, ?_⟩
        rw [e_Dm_laysReduced_22]
        simp (disch := first | omega | assumption | decide | (simp (disch := omega) only [iI_lit, iJ_lit, iJ_eq, iI_eq, bI_01, bI_01I] <;> omega)) only [e_Dm_laysReduced_24, e_Dm_laysReduced_27, e_Dm_laysReduced_29, e_Dm_laysReduced_31, e_Dm_laysReduced_34, e_Dm_laysReduced_35, e_Dm_laysReduced_36, e_Dm_laysReduced_39, e_Dm_laysReduced_40, e_Dm_laysReduced_43, e_Dm_laysReduced_44, e_Dm_laysReduced_46, e_Dm_laysReduced_47, e_Dm_laysReduced_49, e_Dm_laysReduced_51, e_Dm_laysReduced_52, e_Dm_laysReduced_54, e_Dm_laysReduced_55, e_Dm_laysReduced_57, e_Dm_laysReduced_59, e_Dm_laysReduced_61, bd_some, bd_none, Option.toList_some, Option.toList_none, List.nil_append, List.cons_append, px_kill_int, px_kill_long, px_kill_ref, px_kill_null, iI_lit, iJ_lit, iI_add, iI_sub, iI_mul, iI_neg, iJ_add, iJ_sub, iJ_mul, iJ_neg, iI_lt, iI_le, iI_eq, iJ_lt, iJ_le, iJ_eq, iI_div, iJ_div, tdiv_tmod, iI_J, iJ_I, iI_ix, iI_toInt, iJ_toInt, cmp_ge, cmp_lt, cmp_eq, cmp_gt, cmp_le, cmp_geI, cmp_ltI, cmp_eqI, cmp_gtI, cmp_leI, bI_0I, bI_1I, pin, if_true, one0, if_false, e1, e2, c']
    obtain ⟨c10, c11, c12, c13, sw⟩ := sw
    obtain ⟨ok1, le1, _⟩ := swp_ok ho
    have ht' : tmU (swp q) = 0 ∨ Ter n (redU (swp q)) := ht
    rw [LR_s]
    clear e1 e2 eV eU hu hv hp
    generalize swp q = q1 at *
    have hp1 := ok1.pos
    have hu1 := ok1.2.1
    have hv1 := ok1.2.2
    have db := dt_bd q1
    obtain ⟨ok2, rd2, _⟩ := red_ok ok1
    have hp2 := ok2.pos
    have hv2 := ok2.2.2
    have eU1 := s_squared (X := q1.1) (Y := q1.2.1) (enc T)
    have eU' : q1.1 * q1.1 + q1.2.1 * q1.2.1 = rU q1 := rfl
    rw [eU'] at eU1
    have eD : q1.2.2.1 * q1.1 + q1.2.2.2 * q1.2.1 = dtU q1 := by
      show q1.2.2.1 * q1.1 + q1.2.2.2 * q1.2.1 = q1.1 * q1.2.2.1 + q1.2.1 * q1.2.2.2
      rw [Int.mul_comm q1.2.2.1, Int.mul_comm q1.2.2.2]
    have en := s_nearest (v := dtU q1) (b := rU q1) (by omega) (by omega) (enc T)
    have et : (2 * dtU q1 + rU q1) / (2 * rU q1) = tmU q1 := rfl
    rw [et] at en
    have e3 := s_squared (X := q1.2.2.1 - tmU q1 * q1.1) (Y := q1.2.2.2 - tmU q1 * q1.2.1) (enc T)
    have eV2 : (q1.2.2.1 - tmU q1 * q1.1) * (q1.2.2.1 - tmU q1 * q1.1) + (q1.2.2.2 - tmU q1 * q1.2.1) * (q1.2.2.2 - tmU q1 * q1.2.1) = rV (redU q1) := rfl
    rw [eV2] at e3
    have eU2 : rU (redU q1) = rU q1 := rfl
    have step : rn k_Dm_laysReduced 63 (lMr q1 1 c10 c11 c12 c13 a14 a15) [] (enc T) = rn k_Dm_laysReduced 22 (lMr (redU q1) (if rV (redU q1) < rU q1 then 1 else 0) (.long (iJ (tmU q1))) .null c12 c13 a14 a15) [] (enc T) := by
      show _ = rn k_Dm_laysReduced 22 [_, .long (iJ q1.1), _, .long (iJ q1.2.1), _, .long (iJ (q1.2.2.1 - tmU q1 * q1.1)), _, .long (iJ (q1.2.2.2 - tmU q1 * q1.2.1)), _, _, _, _, _, _, _, _] [] (enc T)
      generalize rV (redU q1) = V2 at *
      generalize rU q1 = U at *
      generalize tmU q1 = t at *
      by_cases c : V2 < U
      · have c' : ¬ U ≤ V2 := by omega
        rw [if_pos c]
        simp (disch := first | omega | assumption | decide | (simp (disch := omega) only [iI_lit, iJ_lit, iJ_eq, iI_eq, bI_01, bI_01I] <;> omega)) only [e_Dm_laysReduced_63, e_Dm_laysReduced_65, e_Dm_laysReduced_66, e_Dm_laysReduced_67, e_Dm_laysReduced_69, e_Dm_laysReduced_70, e_Dm_laysReduced_71, e_Dm_laysReduced_72, e_Dm_laysReduced_73, e_Dm_laysReduced_74, e_Dm_laysReduced_77, e_Dm_laysReduced_80, e_Dm_laysReduced_82, e_Dm_laysReduced_84, e_Dm_laysReduced_86, e_Dm_laysReduced_87, e_Dm_laysReduced_88, e_Dm_laysReduced_89, e_Dm_laysReduced_91, e_Dm_laysReduced_93, e_Dm_laysReduced_95, e_Dm_laysReduced_96, e_Dm_laysReduced_97, e_Dm_laysReduced_98, e_Dm_laysReduced_100, e_Dm_laysReduced_102, e_Dm_laysReduced_104, e_Dm_laysReduced_107, e_Dm_laysReduced_108, e_Dm_laysReduced_109, e_Dm_laysReduced_112, e_Dm_laysReduced_113, e_Dm_laysReduced_116, e_Dm_laysReduced_117, e_Dm_laysReduced_120, e_Dm_laysReduced_121, e_Dm_laysReduced_123, bd_some, bd_none, Option.toList_some, Option.toList_none, List.nil_append, List.cons_append, px_kill_int, px_kill_long, px_kill_ref, px_kill_null, iI_lit, iJ_lit, iI_add, iI_sub, iI_mul, iI_neg, iJ_add, iJ_sub, iJ_mul, iJ_neg, iI_lt, iI_le, iI_eq, iJ_lt, iJ_le, iJ_eq, iI_div, iJ_div, tdiv_tmod, iI_J, iJ_I, iI_ix, iI_toInt, iJ_toInt, cmp_ge, cmp_lt, cmp_eq, cmp_gt, cmp_le, cmp_geI, cmp_ltI, cmp_eqI, cmp_gtI, cmp_leI, bI_0I, bI_1I, pin, if_true, eU1, eD, en, e3, c', if_false]
      · have c' : U ≤ V2 := by omega
        rw [if_neg c]
        simp (disch := first | omega | assumption | decide | (simp (disch := omega) only [iI_lit, iJ_lit, iJ_eq, iI_eq, bI_01, bI_01I] <;> omega)) only [e_Dm_laysReduced_63, e_Dm_laysReduced_65, e_Dm_laysReduced_66, e_Dm_laysReduced_67, e_Dm_laysReduced_69, e_Dm_laysReduced_70, e_Dm_laysReduced_71, e_Dm_laysReduced_72, e_Dm_laysReduced_73, e_Dm_laysReduced_74, e_Dm_laysReduced_77, e_Dm_laysReduced_80, e_Dm_laysReduced_82, e_Dm_laysReduced_84, e_Dm_laysReduced_86, e_Dm_laysReduced_87, e_Dm_laysReduced_88, e_Dm_laysReduced_89, e_Dm_laysReduced_91, e_Dm_laysReduced_93, e_Dm_laysReduced_95, e_Dm_laysReduced_96, e_Dm_laysReduced_97, e_Dm_laysReduced_98, e_Dm_laysReduced_100, e_Dm_laysReduced_102, e_Dm_laysReduced_104, e_Dm_laysReduced_107, e_Dm_laysReduced_108, e_Dm_laysReduced_109, e_Dm_laysReduced_112, e_Dm_laysReduced_113, e_Dm_laysReduced_116, e_Dm_laysReduced_117, e_Dm_laysReduced_120, e_Dm_laysReduced_121, e_Dm_laysReduced_123, bd_some, bd_none, Option.toList_some, Option.toList_none, List.nil_append, List.cons_append, px_kill_int, px_kill_long, px_kill_ref, px_kill_null, iI_lit, iJ_lit, iI_add, iI_sub, iI_mul, iI_neg, iJ_add, iJ_sub, iJ_mul, iJ_neg, iI_lt, iI_le, iI_eq, iJ_lt, iJ_le, iJ_eq, iI_div, iJ_div, tdiv_tmod, iI_J, iJ_I, iI_ix, iI_toInt, iJ_toInt, cmp_ge, cmp_lt, cmp_eq, cmp_gt, cmp_le, cmp_geI, cmp_ltI, cmp_eqI, cmp_gtI, cmp_leI, bI_0I, bI_1I, pin, if_true, eU1, eD, en, e3, c', if_false]
    rw [sw, step]
    by_cases cc : rV (redU q1) < rU q1
    · rw [if_pos cc]
      have t0 : ¬ tmU q1 = 0 := by
        intro z
        have er : redU q1 = q1 := by
          unfold redU
          rw [z, Int.zero_mul, Int.zero_mul, Int.sub_zero, Int.sub_zero]
        rw [er] at cc
        omega
      rw [if_neg t0]
      have ht2 : Ter n (redU q1) := by
        rcases ht' with z | z
        · exact absurd z t0
        · exact z
      exact ih (redU q1) ok2 ht2 _ _ _ _ _ _
    · rw [if_neg cc]
      have eL : (if tmU q1 = 0 then q1 else LR n (redU q1)) = redU q1 := by
        by_cases t0 : tmU q1 = 0
        · rw [if_pos t0]
          unfold redU
          rw [t0, Int.zero_mul, Int.zero_mul, Int.sub_zero, Int.sub_zero]
        · rw [if_neg t0]
          have ht2 : Ter n (redU q1) := by
            rcases ht' with z | z
            · exact absurd z t0
            · exact z
          cases n with
          | zero => exact ht2.elim
          | succ m =>
            have es : swp (redU q1) = redU q1 := if_neg (by omega)
            rw [LR_s, es, if_pos (tm_0 hp2.1 rd2)]
      rw [eL]
      refine ⟨.long (iJ (tmU q1)), .null, c12, c13, a14, a15, ?_⟩
      rw [e_Dm_laysReduced_22]
      simp (disch := first | omega | assumption | decide | (simp (disch := omega) only [iI_lit, iJ_lit, iJ_eq, iI_eq, bI_01, bI_01I] <;> omega)) only [e_Dm_laysReduced_24, bd_some, bd_none, Option.toList_some, Option.toList_none, List.nil_append, List.cons_append, px_kill_int, px_kill_long, px_kill_ref, px_kill_null, iI_lit, iJ_lit, iI_add, iI_sub, iI_mul, iI_neg, iJ_add, iJ_sub, iJ_mul, iJ_neg, iI_lt, iI_le, iI_eq, iJ_lt, iJ_le, iJ_eq, iI_div, iJ_div, tdiv_tmod, iI_J, iJ_I, iI_ix, iI_toInt, iJ_toInt, cmp_ge, cmp_lt, cmp_eq, cmp_gt, cmp_le, cmp_geI, cmp_ltI, cmp_eqI, cmp_gtI, cmp_leI, bI_0I, bI_1I, pin, if_true]
def fHm (T : TS) (s : Int × Int) : Prop := T.2.1 53 14 = iJ s.1 ∧ T.2.1 53 15 = iJ s.2
def bRm (q k : Nat) : Prop := q = 53 ∧ 14 ≤ k ∧ k ≤ 17
set_option maxHeartbeats 2000000 in
theorem lp_mf2 {N : Int} (hN : bNn N) {q : Q4} (ho : okR N q) {i : Int} (hi : -1 ≤ i ∧ i ≤ 1) (z9 : Int32) : ∀ (t : Nat) (j : Int) (s : Int × Int) (T : TS), -1 ≤ j → j + t = 2 → isC1 q s → fHm T s → ∀ a12 a13 a14 a15 : Value, ∃ (T' : TS) (b12 b13 b14 b15 : Value), rn k_Dm_laysReduced 148 [.ref 53, .long (iJ q.1), .null, .long (iJ q.2.1), .null, .long (iJ q.2.2.1), .null, .long (iJ q.2.2.2), .null, .int z9, .int (iI i), .int (iI j), a12, a13, a14, a15] [] (enc T) = rn k_Dm_laysReduced 228 [.ref 53, .long (iJ q.1), .null, .long (iJ q.2.1), .null, .long (iJ q.2.2.1), .null, .long (iJ q.2.2.2), .null, .int z9, .int (iI i), .int (iI 2), b12, b13, b14, b15] [] (enc T') ∧ FrA aNo bRm T T' ∧ fHm T' (fR q i s j t) := by
  intro t
  induction t with
  | zero =>
    intro j s T h1 h2 hs hf a12 a13 a14 a15
    have e : j = 2 := by omega
    have l12 : (1 : Int) < 2 := by omega
    refine ⟨T, a12, a13, a14, a15, ?_, FrA.rf _ _ _, hf⟩
    rw [e, e_Dm_laysReduced_148]
    simp (disch := first | omega | assumption | decide | (simp (disch := omega) only [iI_lit, iJ_lit, iJ_eq, iI_eq, bI_01, bI_01I] <;> omega)) only [e_Dm_laysReduced_150, e_Dm_laysReduced_151, bd_some, bd_none, Option.toList_some, Option.toList_none, List.nil_append, List.cons_append, px_kill_int, px_kill_long, px_kill_ref, px_kill_null, iI_lit, iJ_lit, iI_add, iI_sub, iI_mul, iI_neg, iJ_add, iJ_sub, iJ_mul, iJ_neg, iI_lt, iI_le, iI_eq, iJ_lt, iJ_le, iJ_eq, iI_div, iJ_div, tdiv_tmod, iI_J, iJ_I, iI_ix, iI_toInt, iJ_toInt, cmp_ge, cmp_lt, cmp_eq, cmp_gt, cmp_le, cmp_geI, cmp_ltI, cmp_eqI, cmp_gtI, cmp_leI, bI_0I, bI_1I, pin, if_true, l12]
  | succ t ih =>
    intro j s T h1 h2 hs hf a12 a13 a14 a15
    have nlt : ¬ (1 : Int) < j := by omega
    obtain ⟨f0, f1⟩ := id hf
    have cz : okZ (cbX q i j) (cbY q i j) := (cb_bd hN ho (i := i) (j := j) (by omega) (by omega)).2
    have ea := s_mahead cz (hs.z hN ho) (enc T)
    have ex : i * q.1 + j * q.2.2.1 = cbX q i j := rfl
    have ey : i * q.2.1 + j * q.2.2.2 = cbY q i j := rfl
    have fold : fR q i s j (t + 1) = fR q i (fS q i j s) (j + 1) t := rfl
    rw [fold]
    have pre : rn k_Dm_laysReduced 148 [.ref 53, .long (iJ q.1), .null, .long (iJ q.2.1), .null, .long (iJ q.2.2.1), .null, .long (iJ q.2.2.2), .null, .int z9, .int (iI i), .int (iI j), a12, a13, a14, a15] [] (enc T) = rn k_Dm_laysReduced 182 [.ref 53, .long (iJ q.1), .null, .long (iJ q.2.1), .null, .long (iJ q.2.2.1), .null, .long (iJ q.2.2.2), .null, .int z9, .int (iI i), .int (iI j), .long (iJ (cbX q i j)), .null, .long (iJ (cbY q i j)), .null] [] (enc T) := by
      rw [e_Dm_laysReduced_148]
      simp (disch := first | omega | assumption | decide | (simp (disch := omega) only [iI_lit, iJ_lit, iJ_eq, iI_eq, bI_01, bI_01I] <;> omega)) only [e_Dm_laysReduced_150, e_Dm_laysReduced_151, e_Dm_laysReduced_154, e_Dm_laysReduced_156, e_Dm_laysReduced_157, e_Dm_laysReduced_158, e_Dm_laysReduced_159, e_Dm_laysReduced_161, e_Dm_laysReduced_162, e_Dm_laysReduced_164, e_Dm_laysReduced_165, e_Dm_laysReduced_166, e_Dm_laysReduced_168, e_Dm_laysReduced_170, e_Dm_laysReduced_171, e_Dm_laysReduced_172, e_Dm_laysReduced_173, e_Dm_laysReduced_175, e_Dm_laysReduced_176, e_Dm_laysReduced_178, e_Dm_laysReduced_179, e_Dm_laysReduced_180, bd_some, bd_none, Option.toList_some, Option.toList_none, List.nil_append, List.cons_append, px_kill_int, px_kill_long, px_kill_ref, px_kill_null, iI_lit, iJ_lit, iI_add, iI_sub, iI_mul, iI_neg, iJ_add, iJ_sub, iJ_mul, iJ_neg, iI_lt, iI_le, iI_eq, iJ_lt, iJ_le, iJ_eq, iI_div, iJ_div, tdiv_tmod, iI_J, iJ_I, iI_ix, iI_toInt, iJ_toInt, cmp_ge, cmp_lt, cmp_eq, cmp_gt, cmp_le, cmp_geI, cmp_ltI, cmp_eqI, cmp_gtI, cmp_leI, bI_0I, bI_1I, pin, if_true, nlt, if_false, ex, ey]
    by_cases c : (i ≠ 0 ∨ j ≠ 0) ∧ isAh (cbX q i j) (cbY q i j) s.1 s.2
    · have eS : fS q i j s = (cbX q i j, cbY q i j) := if_pos c
      rw [eS]
      rw [bI_tI c.2] at ea
      have f' : FrA aNo bRm T (sJ (sJ T 53 14 (iJ (cbX q i j))) 53 15 (iJ (cbY q i j))) := ((FrA.rf _ _ T).wrJ _ ⟨rfl, by omega⟩).wrJ _ ⟨rfl, by omega⟩
      obtain ⟨T2, b12, b13, b14, b15, e2, f2, g2⟩ := ih (j + 1) (cbX q i j, cbY q i j) (sJ (sJ T 53 14 (iJ (cbX q i j))) 53 15 (iJ (cbY q i j))) (by omega) (by omega) ⟨i, j, hi, by omega, c.1, rfl⟩ (by unfold fHm; simp only [sI_get, sJ_get, sI_2, sJ_1, sJ_22, sR_1, sR_21, Nat.reduceEqDiff, and_true, true_and, and_false, false_and, and_self, if_true, if_false, reduceIte]) (.long (iJ (cbX q i j))) .null (.long (iJ (cbY q i j))) .null
      refine ⟨T2, b12, b13, b14, b15, ?_, f'.tr f2, g2⟩
      rw [pre]
      refine Eq.trans ?_ e2
      generalize cbX q i j = X at *
      generalize cbY q i j = Y at *
      by_cases i0 : i = 0
      · have j0 : ¬ j = 0 := by have := c.1; omega
        rw [i0]
        simp (disch := first | omega | assumption | decide | (simp (disch := omega) only [iI_lit, iJ_lit, iJ_eq, iI_eq, bI_01, bI_01I] <;> omega)) only [e_Dm_laysReduced_182, e_Dm_laysReduced_184, e_Dm_laysReduced_187, e_Dm_laysReduced_189, e_Dm_laysReduced_192, e_Dm_laysReduced_194, e_Dm_laysReduced_196, e_Dm_laysReduced_197, e_Dm_laysReduced_200, e_Dm_laysReduced_201, e_Dm_laysReduced_204, e_Dm_laysReduced_207, e_Dm_laysReduced_210, e_Dm_laysReduced_211, e_Dm_laysReduced_213, e_Dm_laysReduced_216, e_Dm_laysReduced_217, e_Dm_laysReduced_219, e_Dm_laysReduced_222, e_Dm_laysReduced_225, bd_some, bd_none, Option.toList_some, Option.toList_none, List.nil_append, List.cons_append, px_kill_int, px_kill_long, px_kill_ref, px_kill_null, iI_lit, iJ_lit, iI_add, iI_sub, iI_mul, iI_neg, iJ_add, iJ_sub, iJ_mul, iJ_neg, iI_lt, iI_le, iI_eq, iJ_lt, iJ_le, iJ_eq, iI_div, iJ_div, tdiv_tmod, iI_J, iJ_I, iI_ix, iI_toInt, iJ_toInt, cmp_ge, cmp_lt, cmp_eq, cmp_gt, cmp_le, cmp_geI, cmp_ltI, cmp_eqI, cmp_gtI, cmp_leI, bI_0I, bI_1I, pin, if_true, j0, if_false, f0, f1, ea, one0]
      · simp (disch := first | omega | assumption | decide | (simp (disch := omega) only [iI_lit, iJ_lit, iJ_eq, iI_eq, bI_01, bI_01I] <;> omega)) only [e_Dm_laysReduced_182, e_Dm_laysReduced_184, e_Dm_laysReduced_187, e_Dm_laysReduced_189, e_Dm_laysReduced_192, e_Dm_laysReduced_194, e_Dm_laysReduced_196, e_Dm_laysReduced_197, e_Dm_laysReduced_200, e_Dm_laysReduced_201, e_Dm_laysReduced_204, e_Dm_laysReduced_207, e_Dm_laysReduced_210, e_Dm_laysReduced_211, e_Dm_laysReduced_213, e_Dm_laysReduced_216, e_Dm_laysReduced_217, e_Dm_laysReduced_219, e_Dm_laysReduced_222, e_Dm_laysReduced_225, bd_some, bd_none, Option.toList_some, Option.toList_none, List.nil_append, List.cons_append, px_kill_int, px_kill_long, px_kill_ref, px_kill_null, iI_lit, iJ_lit, iI_add, iI_sub, iI_mul, iI_neg, iJ_add, iJ_sub, iJ_mul, iJ_neg, iI_lt, iI_le, iI_eq, iJ_lt, iJ_le, iJ_eq, iI_div, iJ_div, tdiv_tmod, iI_J, iJ_I, iI_ix, iI_toInt, iJ_toInt, cmp_ge, cmp_lt, cmp_eq, cmp_gt, cmp_le, cmp_geI, cmp_ltI, cmp_eqI, cmp_gtI, cmp_leI, bI_0I, bI_1I, pin, if_true, i0, if_false, f0, f1, ea, one0]
    · have eS : fS q i j s = s := if_neg c
      rw [eS]
      obtain ⟨T2, b12, b13, b14, b15, e2, f2, g2⟩ := ih (j + 1) s T (by omega) (by omega) hs hf (.long (iJ (cbX q i j))) .null (.long (iJ (cbY q i j))) .null
      refine ⟨T2, b12, b13, b14, b15, ?_, f2, g2⟩
      rw [pre]
      refine Eq.trans ?_ e2
      by_cases z : i = 0 ∧ j = 0
      · rw [z.1, z.2]
        simp (disch := first | omega | assumption | decide | (simp (disch := omega) only [iI_lit, iJ_lit, iJ_eq, iI_eq, bI_01, bI_01I] <;> omega)) only [e_Dm_laysReduced_182, e_Dm_laysReduced_184, e_Dm_laysReduced_187, e_Dm_laysReduced_189, e_Dm_laysReduced_192, e_Dm_laysReduced_194, e_Dm_laysReduced_196, e_Dm_laysReduced_197, e_Dm_laysReduced_200, e_Dm_laysReduced_201, e_Dm_laysReduced_204, e_Dm_laysReduced_207, e_Dm_laysReduced_210, e_Dm_laysReduced_211, e_Dm_laysReduced_213, e_Dm_laysReduced_216, e_Dm_laysReduced_217, e_Dm_laysReduced_219, e_Dm_laysReduced_222, e_Dm_laysReduced_225, bd_some, bd_none, Option.toList_some, Option.toList_none, List.nil_append, List.cons_append, px_kill_int, px_kill_long, px_kill_ref, px_kill_null, iI_lit, iJ_lit, iI_add, iI_sub, iI_mul, iI_neg, iJ_add, iJ_sub, iJ_mul, iJ_neg, iI_lt, iI_le, iI_eq, iJ_lt, iJ_le, iJ_eq, iI_div, iJ_div, tdiv_tmod, iI_J, iJ_I, iI_ix, iI_toInt, iJ_toInt, cmp_ge, cmp_lt, cmp_eq, cmp_gt, cmp_le, cmp_geI, cmp_ltI, cmp_eqI, cmp_gtI, cmp_leI, bI_0I, bI_1I, pin, if_true]
      · have na : ¬ isAh (cbX q i j) (cbY q i j) s.1 s.2 := fun y => c ⟨by omega, y⟩
        rw [bI_fI na] at ea
        generalize cbX q i j = X at *
        generalize cbY q i j = Y at *
        by_cases i0 : i = 0
        · have j0 : ¬ j = 0 := by omega
          rw [i0]
          simp (disch := first | omega | assumption | decide | (simp (disch := omega) only [iI_lit, iJ_lit, iJ_eq, iI_eq, bI_01, bI_01I] <;> omega)) only [e_Dm_laysReduced_182, e_Dm_laysReduced_184, e_Dm_laysReduced_187, e_Dm_laysReduced_189, e_Dm_laysReduced_192, e_Dm_laysReduced_194, e_Dm_laysReduced_196, e_Dm_laysReduced_197, e_Dm_laysReduced_200, e_Dm_laysReduced_201, e_Dm_laysReduced_204, e_Dm_laysReduced_207, e_Dm_laysReduced_210, e_Dm_laysReduced_211, e_Dm_laysReduced_213, e_Dm_laysReduced_216, e_Dm_laysReduced_217, e_Dm_laysReduced_219, e_Dm_laysReduced_222, e_Dm_laysReduced_225, bd_some, bd_none, Option.toList_some, Option.toList_none, List.nil_append, List.cons_append, px_kill_int, px_kill_long, px_kill_ref, px_kill_null, iI_lit, iJ_lit, iI_add, iI_sub, iI_mul, iI_neg, iJ_add, iJ_sub, iJ_mul, iJ_neg, iI_lt, iI_le, iI_eq, iJ_lt, iJ_le, iJ_eq, iI_div, iJ_div, tdiv_tmod, iI_J, iJ_I, iI_ix, iI_toInt, iJ_toInt, cmp_ge, cmp_lt, cmp_eq, cmp_gt, cmp_le, cmp_geI, cmp_ltI, cmp_eqI, cmp_gtI, cmp_leI, bI_0I, bI_1I, pin, if_true, j0, if_false, f0, f1, ea]
        · simp (disch := first | omega | assumption | decide | (simp (disch := omega) only [iI_lit, iJ_lit, iJ_eq, iI_eq, bI_01, bI_01I] <;> omega)) only [e_Dm_laysReduced_182, e_Dm_laysReduced_184, e_Dm_laysReduced_187, e_Dm_laysReduced_189, e_Dm_laysReduced_192, e_Dm_laysReduced_194, e_Dm_laysReduced_196, e_Dm_laysReduced_197, e_Dm_laysReduced_200, e_Dm_laysReduced_201, e_Dm_laysReduced_204, e_Dm_laysReduced_207, e_Dm_laysReduced_210, e_Dm_laysReduced_211, e_Dm_laysReduced_213, e_Dm_laysReduced_216, e_Dm_laysReduced_217, e_Dm_laysReduced_219, e_Dm_laysReduced_222, e_Dm_laysReduced_225, bd_some, bd_none, Option.toList_some, Option.toList_none, List.nil_append, List.cons_append, px_kill_int, px_kill_long, px_kill_ref, px_kill_null, iI_lit, iJ_lit, iI_add, iI_sub, iI_mul, iI_neg, iJ_add, iJ_sub, iJ_mul, iJ_neg, iI_lt, iI_le, iI_eq, iJ_lt, iJ_le, iJ_eq, iI_div, iJ_div, tdiv_tmod, iI_J, iJ_I, iI_ix, iI_toInt, iJ_toInt, cmp_ge, cmp_lt, cmp_eq, cmp_gt, cmp_le, cmp_geI, cmp_ltI, cmp_eqI, cmp_gtI, cmp_leI, bI_0I, bI_1I, pin, if_true, i0, if_false, f0, f1, ea]
theorem lp_mf1 {N : Int} (hN : bNn N) {q : Q4} (ho : okR N q) (z9 : Int32) : ∀ (t : Nat) (i : Int) (s : Int × Int) (T : TS), -1 ≤ i → i + t = 2 → isC1 q s → fHm T s → ∀ a11 a12 a13 a14 a15 : Value, ∃ (T' : TS) (b11 b12 b13 b14 b15 : Value), rn k_Dm_laysReduced 139 [.ref 53, .long (iJ q.1), .null, .long (iJ q.2.1), .null, .long (iJ q.2.2.1), .null, .long (iJ q.2.2.2), .null, .int z9, .int (iI i), a11, a12, a13, a14, a15] [] (enc T) = rn k_Dm_laysReduced 234 [.ref 53, .long (iJ q.1), .null, .long (iJ q.2.1), .null, .long (iJ q.2.2.1), .null, .long (iJ q.2.2.2), .null, .int z9, .int (iI 2), b11, b12, b13, b14, b15] [] (enc T') ∧ FrA aNo bRm T T' ∧ fHm T' (fA q s i t) := by
  intro t
  induction t with
  | zero =>
    intro i s T h1 h2 hs hf a11 a12 a13 a14 a15
    have e : i = 2 := by omega
    have l12 : (1 : Int) < 2 := by omega
    refine ⟨T, a11, a12, a13, a14, a15, ?_, FrA.rf _ _ _, hf⟩
    rw [e, e_Dm_laysReduced_139]
    simp (disch := first | omega | assumption | decide | (simp (disch := omega) only [iI_lit, iJ_lit, iJ_eq, iI_eq, bI_01, bI_01I] <;> omega)) only [e_Dm_laysReduced_141, e_Dm_laysReduced_142, e_Dm_laysReduced_145, e_Dm_laysReduced_146, bd_some, bd_none, Option.toList_some, Option.toList_none, List.nil_append, List.cons_append, px_kill_int, px_kill_long, px_kill_ref, px_kill_null, iI_lit, iJ_lit, iI_add, iI_sub, iI_mul, iI_neg, iJ_add, iJ_sub, iJ_mul, iJ_neg, iI_lt, iI_le, iI_eq, iJ_lt, iJ_le, iJ_eq, iI_div, iJ_div, tdiv_tmod, iI_J, iJ_I, iI_ix, iI_toInt, iJ_toInt, cmp_ge, cmp_lt, cmp_eq, cmp_gt, cmp_le, cmp_geI, cmp_ltI, cmp_eqI, cmp_gtI, cmp_leI, bI_0I, bI_1I, pin, if_true, l12]
  | succ t ih =>
    intro i s T h1 h2 hs hf a11 a12 a13 a14 a15
    have nlt : ¬ (1 : Int) < i := by omega
    obtain ⟨T1, b12, b13, b14, b15, e1, f1, g1⟩ := lp_mf2 hN ho (i := i) (by omega) z9 3 (-1) s T (by omega) (by omega) hs hf a12 a13 a14 a15
    obtain ⟨T2, d11, d12, d13, d14, d15, e2, f2, g2⟩ := ih (i + 1) (fR q i s (-1) 3) T1 (by omega) (by omega) (fR_c1 (by omega) 3 (-1) s (by omega) (by omega) hs) g1 (.int (iI 2)) b12 b13 b14 b15
    refine ⟨T2, d11, d12, d13, d14, d15, ?_, f1.tr f2, g2⟩
    rw [e_Dm_laysReduced_139]
    simp (disch := first | omega | assumption | decide | (simp (disch := omega) only [iI_lit, iJ_lit, iJ_eq, iI_eq, bI_01, bI_01I] <;> omega)) only [e_Dm_laysReduced_141, e_Dm_laysReduced_142, e_Dm_laysReduced_145, e_Dm_laysReduced_146, bd_some, bd_none, Option.toList_some, Option.toList_none, List.nil_append, List.cons_append, px_kill_int, px_kill_long, px_kill_ref, px_kill_null, iI_lit, iJ_lit, iI_add, iI_sub, iI_mul, iI_neg, iJ_add, iJ_sub, iJ_mul, iJ_neg, iI_lt, iI_le, iI_eq, iJ_lt, iJ_le, iJ_eq, iI_div, iJ_div, tdiv_tmod, iI_J, iJ_I, iI_ix, iI_toInt, iJ_toInt, cmp_ge, cmp_lt, cmp_eq, cmp_gt, cmp_le, cmp_geI, cmp_ltI, cmp_eqI, cmp_gtI, cmp_leI, bI_0I, bI_1I, pin, if_true, nlt, if_false]
    refine Eq.trans e1 ?_
    simp (disch := first | omega | assumption | decide | (simp (disch := omega) only [iI_lit, iJ_lit, iJ_eq, iI_eq, bI_01, bI_01I] <;> omega)) only [e_Dm_laysReduced_228, e_Dm_laysReduced_231, bd_some, bd_none, Option.toList_some, Option.toList_none, List.nil_append, List.cons_append, px_kill_int, px_kill_long, px_kill_ref, px_kill_null, iI_lit, iJ_lit, iI_add, iI_sub, iI_mul, iI_neg, iJ_add, iJ_sub, iJ_mul, iJ_neg, iI_lt, iI_le, iI_eq, iJ_lt, iJ_le, iJ_eq, iI_div, iJ_div, tdiv_tmod, iI_J, iJ_I, iI_ix, iI_toInt, iJ_toInt, cmp_ge, cmp_lt, cmp_eq, cmp_gt, cmp_le, cmp_geI, cmp_ltI, cmp_eqI, cmp_gtI, cmp_leI, bI_0I, bI_1I, pin, if_true]
    exact e2
