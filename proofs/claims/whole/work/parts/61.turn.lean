/-! turn. -/
abbrev mn2 (a b : Int) : Int := if b < a then b else a
theorem g_min {a b : Int} (ha : inI a) (hb : inI b) (g : px_G) : cl k_Math_min_II [.int (iI a), .int (iI b)] g = some (some (.int (iI (mn2 a b))), g) := by
  have e : (iI b < iI a) = (b < a) := iI_lt hb.1 hb.2 ha.1 ha.2
  rw [s_minI]
  unfold mn2
  by_cases c : b < a
  · rw [if_pos c, if_pos (by rw [e]; exact c)]
  · rw [if_neg c, if_neg (by rw [e]; exact c)]
theorem g_minJ {a b : Int} (ha : -1000000 ≤ a ∧ a ≤ 1000000) (hb : -1000000 ≤ b ∧ b ≤ 1000000) (g : px_G) : cl k_Math_min_JJ [.long (iJ a), .long (iJ b)] g = some (some (.long (iJ (mn2 a b))), g) := by
  have e : (iJ b < iJ a) = (b < a) := iJ_lt (by omega) (by omega) (by omega) (by omega)
  rw [s_minJ]
  unfold mn2
  by_cases c : b < a
  · rw [if_pos c, if_pos (by rw [e]; exact c)]
  · rw [if_neg c, if_neg (by rw [e]; exact c)]
theorem g_maxJ {a b : Int} (ha : -1000000 ≤ a ∧ a ≤ 1000000) (hb : -1000000 ≤ b ∧ b ≤ 1000000) (g : px_G) : cl k_Math_max_JJ [.long (iJ a), .long (iJ b)] g = some (some (.long (iJ (mx2 a b))), g) := by
  have e : (iJ a < iJ b) = (a < b) := iJ_lt (by omega) (by omega) (by omega) (by omega)
  rw [s_maxJ]
  unfold mx2
  by_cases c : a < b
  · rw [if_pos c, if_pos (by rw [e]; exact c)]
  · rw [if_neg c, if_neg (by rw [e]; exact c)]
abbrev alg (f g : Nat → Int) : Int := f 0 * g 0 + f 1 * g 1
abbrev acr (f g : Nat → Int) : Int := f 0 * g 1 - f 1 * g 0
/-- two ways that are not nothing: along and across are not both nothing -/
theorem alac_ne {a b c d : Int} (h1 : a ≠ 0 ∨ b ≠ 0) (h2 : c ≠ 0 ∨ d ≠ 0) : a * c + b * d ≠ 0 ∨ a * d - b * c ≠ 0 := by
  have key : (a * c + b * d) * (a * c + b * d) + (a * d - b * c) * (a * d - b * c) = (a * a + b * b) * (c * c + d * d) := by grind
  have sq : ∀ t : Int, t ≠ 0 → 0 < t * t := by
    intro t ht
    rcases Int.lt_or_gt_of_ne ht with q | q
    · exact Int.mul_pos_of_neg_of_neg q q
    · exact Int.mul_pos q q
  have nn : ∀ t : Int, 0 ≤ t * t := by
    intro t
    by_cases ht : t = 0
    · rw [ht]; decide
    · exact Int.le_of_lt (sq t ht)
  have p1 : 0 < a * a + b * b := by
    have := nn a
    have := nn b
    rcases h1 with h | h <;> have := sq _ h <;> omega
  have p2 : 0 < c * c + d * d := by
    have := nn c
    have := nn d
    rcases h2 with h | h <;> have := sq _ h <;> omega
  have p3 := Int.mul_pos p1 p2
  by_cases e : a * c + b * d = 0
  · right
    intro e2
    rw [e, e2] at key
    omega
  · left; exact e
theorem mx_div {a b g : Int} (hg : 0 < g) : mx2 (a / g) (b / g) = mx2 a b / g := by
  unfold mx2
  by_cases c : a < b
  · rw [if_pos c]
    have := Int.ediv_le_ediv hg (Int.le_of_lt c)
    split <;> omega
  · rw [if_neg c]
    have := Int.ediv_le_ediv hg (show b ≤ a by omega)
    split <;> omega
theorem mn_div {a b g : Int} (hg : 0 < g) : mn2 (a / g) (b / g) = mn2 a b / g := by
  unfold mn2
  by_cases c : b < a
  · rw [if_pos c]
    have := Int.ediv_le_ediv hg (Int.le_of_lt c)
    split <;> omega
  · rw [if_neg c]
    have := Int.ediv_le_ediv hg (show a ≤ b by omega)
    split <;> omega
def qTurn (V : VW) (i o k : Int) : Int := if isK V i ∧ isK V o ∧ 0 ≤ k ∧ k ≤ 1 then (if k = 0 then mx2 (trX (alg (V.2 i.toNat) (V.2 o.toNat)) (acr (V.2 i.toNat) (V.2 o.toNat))) (trY (alg (V.2 i.toNat) (V.2 o.toNat)) (acr (V.2 i.toNat) (V.2 o.toNat))) else mn2 (trX (alg (V.2 i.toNat) (V.2 o.toNat)) (acr (V.2 i.toNat) (V.2 o.toNat))) (trY (alg (V.2 i.toNat) (V.2 o.toNat)) (acr (V.2 i.toNat) (V.2 o.toNat)))) / ((Int.gcd (alg (V.2 i.toNat) (V.2 o.toNat)) (acr (V.2 i.toNat) (V.2 o.toNat)) : Nat) : Int) else -1000000
theorem ala_bd {f g : Nat → Int} (hf : okN f) (hg : okN g) : (-288 ≤ alg f g ∧ alg f g ≤ 288) ∧ (-288 ≤ acr f g ∧ acr f g ≤ 288) := by
  obtain ⟨o1, o2, o3⟩ := id hf.1
  obtain ⟨p1, p2, p3⟩ := id hg.1
  have m1 := mul_bd (a := f 0) (b := g 0) (M := 12) (N := 12) o1 p1
  have m2 := mul_bd (a := f 1) (b := g 1) (M := 12) (N := 12) o2 p2
  have m3 := mul_bd (a := f 0) (b := g 1) (M := 12) (N := 12) o1 p2
  have m4 := mul_bd (a := f 1) (b := g 0) (M := 12) (N := 12) o2 p1
  unfold alg acr
  omega
set_option maxHeartbeats 1000000 in
theorem q_Ds_turn {T : TS} {V : VW} (hV : okV V) (h : cC T V) {i o k : Int} (hi : inI i) (ho : inI o) (hk : inI k) : cl k_Ds_turn [.ref 0, .int (iI i), .int (iI o), .int (iI k)] (enc T) = some (some (.int (iI (qTurn V i o k))), enc T) := by
  have g1 := g_isInk hV h hi
  have g2 := g_isInk hV h ho
  have g3 := g_isAxis hk (enc T)
  obtain ⟨i1, i2⟩ := id hi
  obtain ⟨o1', o2'⟩ := id ho
  obtain ⟨k1, k2⟩ := hk
  unfold qTurn
  by_cases c1 : isK V i
  · rw [bI_tI c1] at g1
    by_cases c2 : isK V o
    · rw [bI_tI c2] at g2
      by_cases c3 : 0 ≤ k ∧ k ≤ 1
      · rw [bI_tI c3] at g3
        rw [if_pos ⟨c1, c2, c3⟩]
        obtain ⟨j, rfl⟩ : ∃ j : Nat, i = (j : Int) := ⟨i.toNat, by omega⟩
        obtain ⟨l, rfl⟩ : ∃ l : Nat, o = (l : Int) := ⟨o.toNat, by omega⟩
        obtain ⟨h4, hp, hs, hI⟩ := cC.at hV h (j := j) (by have := c1.2; omega)
        obtain ⟨h4', hp', hs', hI'⟩ := cC.at hV h (j := l) (by have := c2.2; omega)
        have ok := hV.2 j (by have := c1.2; omega)
        have ok' := hV.2 l (by have := c2.2; omega)
        obtain ⟨s0, s1, s2, s3⟩ := hI.1.2.2.1
        obtain ⟨t0', t1', t2', t3'⟩ := hI'.1.2.2.1
        have q1 := (pl_s3 hp).2.2.2.2.1
        have q1' := (pl_s3 hp').2.2.2.2.1
        have ej : ((j : Int)).toNat = j := by omega
        have el : ((l : Int)).toNat = l := by omega
        have hbd := ala_bd ok ok'
        have hne0 : alg (V.2 j) (V.2 l) ≠ 0 ∨ acr (V.2 j) (V.2 l) ≠ 0 := alac_ne (okS_ne ok.1) (okS_ne ok'.1)
        have ea : V.2 j 0 * V.2 l 0 + V.2 j 1 * V.2 l 1 = alg (V.2 j) (V.2 l) := rfl
        have ec : V.2 j 0 * V.2 l 1 - V.2 j 1 * V.2 l 0 = acr (V.2 j) (V.2 l) := rfl
        rw [ej, el]
        generalize alg (V.2 j) (V.2 l) = P at *
        generalize acr (V.2 j) (V.2 l) = Q at *
        have t1 := s_turnedX (a := P) (b := Q) (by omega) (by omega) (enc T)
        have t2 := s_turnedY (a := P) (b := Q) (by omega) (by omega) (enc T)
        have hb := tr_bd (a := P) (b := Q) (M := 288) hbd.1 hbd.2
        have hne := tr_ne hne0
        have hgc := tr_gcd P Q
        rw [← hgc]
        generalize trX P Q = X at *
        generalize trY P Q = Y at *
        have mxx := g_max (a := X) (b := Y) (by omega) (by omega) (enc T)
        have mnn := g_min (a := X) (b := Y) (by omega) (by omega) (enc T)
        have hmx : 0 ≤ mx2 X Y ∧ mx2 X Y ≤ 288 := by unfold mx2; split <;> omega
        have hmn : 0 ≤ mn2 X Y ∧ mn2 X Y ≤ 288 := by unfold mn2; split <;> omega
        have l1 := s_lowest (p := mx2 X Y) (x := X) (y := Y) (by omega) (by omega) (by omega) hne (enc T)
        have l2 := s_lowest (p := mn2 X Y) (x := X) (y := Y) (by omega) (by omega) (by omega) hne (enc T)
        by_cases k0 : k = 0
        · subst k0
          simp (disch := first | omega | assumption | decide | (simp (disch := omega) only [iI_lit, iJ_lit, iJ_eq, iI_eq, bI_01, bI_01I] <;> omega)) only [c_Ds_turn, e_Ds_turn_0, e_Ds_turn_1, e_Ds_turn_2, e_Ds_turn_5, e_Ds_turn_8, e_Ds_turn_9, e_Ds_turn_10, e_Ds_turn_13, e_Ds_turn_16, e_Ds_turn_17, e_Ds_turn_20, e_Ds_turn_23, e_Ds_turn_25, e_Ds_turn_26, e_Ds_turn_27, e_Ds_turn_30, e_Ds_turn_31, e_Ds_turn_32, e_Ds_turn_35, e_Ds_turn_37, e_Ds_turn_38, e_Ds_turn_41, e_Ds_turn_42, e_Ds_turn_43, e_Ds_turn_46, e_Ds_turn_48, e_Ds_turn_50, e_Ds_turn_53, e_Ds_turn_55, e_Ds_turn_58, e_Ds_turn_59, e_Ds_turn_61, e_Ds_turn_64, e_Ds_turn_66, e_Ds_turn_69, e_Ds_turn_70, e_Ds_turn_71, e_Ds_turn_73, e_Ds_turn_75, e_Ds_turn_78, e_Ds_turn_80, e_Ds_turn_83, e_Ds_turn_84, e_Ds_turn_86, e_Ds_turn_89, e_Ds_turn_91, e_Ds_turn_94, e_Ds_turn_95, e_Ds_turn_96, e_Ds_turn_98, e_Ds_turn_100, e_Ds_turn_102, e_Ds_turn_105, e_Ds_turn_107, e_Ds_turn_109, e_Ds_turn_111, e_Ds_turn_114, e_Ds_turn_116, e_Ds_turn_117, e_Ds_turn_120, e_Ds_turn_122, e_Ds_turn_124, e_Ds_turn_127, e_Ds_turn_130, e_Ds_turn_132, e_Ds_turn_134, e_Ds_turn_137, e_Ds_turn_139, e_Ds_turn_141, e_Ds_turn_143, e_Ds_turn_145, e_Ds_turn_148, bd_some, bd_none, Option.toList_some, Option.toList_none, List.nil_append, List.cons_append, px_kill_int, px_kill_long, px_kill_ref, px_kill_null, iI_lit, iJ_lit, iI_add, iI_sub, iI_mul, iI_neg, iJ_add, iJ_sub, iJ_mul, iJ_neg, iI_lt, iI_le, iI_eq, iJ_lt, iJ_le, iJ_eq, iI_div, iJ_div, tdiv_tmod, iI_J, iJ_I, iI_ix, iI_toInt, iJ_toInt, cmp_ge, cmp_lt, cmp_eq, cmp_gt, cmp_le, cmp_geI, cmp_ltI, cmp_eqI, cmp_gtI, cmp_leI, bI_0I, bI_1I, pin, if_true, g1, g2, g3, one0, if_false, sh_n5, ej, el, hs, hs', q1, q1', s0, s1, t0', t1', ea, ec, t1, t2, mxx, l1]
        · have k1 : k = 1 := by omega
          subst k1
          simp (disch := first | omega | assumption | decide | (simp (disch := omega) only [iI_lit, iJ_lit, iJ_eq, iI_eq, bI_01, bI_01I] <;> omega)) only [c_Ds_turn, e_Ds_turn_0, e_Ds_turn_1, e_Ds_turn_2, e_Ds_turn_5, e_Ds_turn_8, e_Ds_turn_9, e_Ds_turn_10, e_Ds_turn_13, e_Ds_turn_16, e_Ds_turn_17, e_Ds_turn_20, e_Ds_turn_23, e_Ds_turn_25, e_Ds_turn_26, e_Ds_turn_27, e_Ds_turn_30, e_Ds_turn_31, e_Ds_turn_32, e_Ds_turn_35, e_Ds_turn_37, e_Ds_turn_38, e_Ds_turn_41, e_Ds_turn_42, e_Ds_turn_43, e_Ds_turn_46, e_Ds_turn_48, e_Ds_turn_50, e_Ds_turn_53, e_Ds_turn_55, e_Ds_turn_58, e_Ds_turn_59, e_Ds_turn_61, e_Ds_turn_64, e_Ds_turn_66, e_Ds_turn_69, e_Ds_turn_70, e_Ds_turn_71, e_Ds_turn_73, e_Ds_turn_75, e_Ds_turn_78, e_Ds_turn_80, e_Ds_turn_83, e_Ds_turn_84, e_Ds_turn_86, e_Ds_turn_89, e_Ds_turn_91, e_Ds_turn_94, e_Ds_turn_95, e_Ds_turn_96, e_Ds_turn_98, e_Ds_turn_100, e_Ds_turn_102, e_Ds_turn_105, e_Ds_turn_107, e_Ds_turn_109, e_Ds_turn_111, e_Ds_turn_114, e_Ds_turn_116, e_Ds_turn_117, e_Ds_turn_120, e_Ds_turn_122, e_Ds_turn_124, e_Ds_turn_127, e_Ds_turn_130, e_Ds_turn_132, e_Ds_turn_134, e_Ds_turn_137, e_Ds_turn_139, e_Ds_turn_141, e_Ds_turn_143, e_Ds_turn_145, e_Ds_turn_148, bd_some, bd_none, Option.toList_some, Option.toList_none, List.nil_append, List.cons_append, px_kill_int, px_kill_long, px_kill_ref, px_kill_null, iI_lit, iJ_lit, iI_add, iI_sub, iI_mul, iI_neg, iJ_add, iJ_sub, iJ_mul, iJ_neg, iI_lt, iI_le, iI_eq, iJ_lt, iJ_le, iJ_eq, iI_div, iJ_div, tdiv_tmod, iI_J, iJ_I, iI_ix, iI_toInt, iJ_toInt, cmp_ge, cmp_lt, cmp_eq, cmp_gt, cmp_le, cmp_geI, cmp_ltI, cmp_eqI, cmp_gtI, cmp_leI, bI_0I, bI_1I, pin, if_true, g1, g2, g3, one0, if_false, sh_n5, ej, el, hs, hs', q1, q1', s0, s1, t0', t1', ea, ec, t1, t2, mnn, l2]
      · rw [bI_fI c3] at g3
        rw [if_neg (fun z => c3 z.2.2)]
        simp (disch := first | omega | assumption | decide | (simp (disch := omega) only [iI_lit, iJ_lit, iJ_eq, iI_eq, bI_01, bI_01I] <;> omega)) only [c_Ds_turn, e_Ds_turn_0, e_Ds_turn_1, e_Ds_turn_2, e_Ds_turn_5, e_Ds_turn_8, e_Ds_turn_9, e_Ds_turn_10, e_Ds_turn_13, e_Ds_turn_16, e_Ds_turn_17, e_Ds_turn_20, e_Ds_turn_23, e_Ds_turn_25, e_Ds_turn_26, e_Ds_turn_27, e_Ds_turn_30, e_Ds_turn_31, e_Ds_turn_32, e_Ds_turn_35, e_Ds_turn_37, e_Ds_turn_38, e_Ds_turn_41, e_Ds_turn_42, e_Ds_turn_43, e_Ds_turn_46, e_Ds_turn_48, e_Ds_turn_50, e_Ds_turn_53, e_Ds_turn_55, e_Ds_turn_58, e_Ds_turn_59, e_Ds_turn_61, e_Ds_turn_64, e_Ds_turn_66, e_Ds_turn_69, e_Ds_turn_70, e_Ds_turn_71, e_Ds_turn_73, e_Ds_turn_75, e_Ds_turn_78, e_Ds_turn_80, e_Ds_turn_83, e_Ds_turn_84, e_Ds_turn_86, e_Ds_turn_89, e_Ds_turn_91, e_Ds_turn_94, e_Ds_turn_95, e_Ds_turn_96, e_Ds_turn_98, e_Ds_turn_100, e_Ds_turn_102, e_Ds_turn_105, e_Ds_turn_107, e_Ds_turn_109, e_Ds_turn_111, e_Ds_turn_114, e_Ds_turn_116, e_Ds_turn_117, e_Ds_turn_120, e_Ds_turn_122, e_Ds_turn_124, e_Ds_turn_127, e_Ds_turn_130, e_Ds_turn_132, e_Ds_turn_134, e_Ds_turn_137, e_Ds_turn_139, e_Ds_turn_141, e_Ds_turn_143, e_Ds_turn_145, e_Ds_turn_148, bd_some, bd_none, Option.toList_some, Option.toList_none, List.nil_append, List.cons_append, px_kill_int, px_kill_long, px_kill_ref, px_kill_null, iI_lit, iJ_lit, iI_add, iI_sub, iI_mul, iI_neg, iJ_add, iJ_sub, iJ_mul, iJ_neg, iI_lt, iI_le, iI_eq, iJ_lt, iJ_le, iJ_eq, iI_div, iJ_div, tdiv_tmod, iI_J, iJ_I, iI_ix, iI_toInt, iJ_toInt, cmp_ge, cmp_lt, cmp_eq, cmp_gt, cmp_le, cmp_geI, cmp_ltI, cmp_eqI, cmp_gtI, cmp_leI, bI_0I, bI_1I, pin, if_true, g1, g2, g3, one0, if_false]
    · rw [bI_fI c2] at g2
      rw [if_neg (fun z => c2 z.2.1)]
      simp (disch := first | omega | assumption | decide | (simp (disch := omega) only [iI_lit, iJ_lit, iJ_eq, iI_eq, bI_01, bI_01I] <;> omega)) only [c_Ds_turn, e_Ds_turn_0, e_Ds_turn_1, e_Ds_turn_2, e_Ds_turn_5, e_Ds_turn_8, e_Ds_turn_9, e_Ds_turn_10, e_Ds_turn_13, e_Ds_turn_16, e_Ds_turn_17, e_Ds_turn_20, e_Ds_turn_23, e_Ds_turn_25, e_Ds_turn_26, e_Ds_turn_27, e_Ds_turn_30, e_Ds_turn_31, e_Ds_turn_32, e_Ds_turn_35, e_Ds_turn_37, e_Ds_turn_38, e_Ds_turn_41, e_Ds_turn_42, e_Ds_turn_43, e_Ds_turn_46, e_Ds_turn_48, e_Ds_turn_50, e_Ds_turn_53, e_Ds_turn_55, e_Ds_turn_58, e_Ds_turn_59, e_Ds_turn_61, e_Ds_turn_64, e_Ds_turn_66, e_Ds_turn_69, e_Ds_turn_70, e_Ds_turn_71, e_Ds_turn_73, e_Ds_turn_75, e_Ds_turn_78, e_Ds_turn_80, e_Ds_turn_83, e_Ds_turn_84, e_Ds_turn_86, e_Ds_turn_89, e_Ds_turn_91, e_Ds_turn_94, e_Ds_turn_95, e_Ds_turn_96, e_Ds_turn_98, e_Ds_turn_100, e_Ds_turn_102, e_Ds_turn_105, e_Ds_turn_107, e_Ds_turn_109, e_Ds_turn_111, e_Ds_turn_114, e_Ds_turn_116, e_Ds_turn_117, e_Ds_turn_120, e_Ds_turn_122, e_Ds_turn_124, e_Ds_turn_127, e_Ds_turn_130, e_Ds_turn_132, e_Ds_turn_134, e_Ds_turn_137, e_Ds_turn_139, e_Ds_turn_141, e_Ds_turn_143, e_Ds_turn_145, e_Ds_turn_148, bd_some, bd_none, Option.toList_some, Option.toList_none, List.nil_append, List.cons_append, px_kill_int, px_kill_long, px_kill_ref, px_kill_null, iI_lit, iJ_lit, iI_add, iI_sub, iI_mul, iI_neg, iJ_add, iJ_sub, iJ_mul, iJ_neg, iI_lt, iI_le, iI_eq, iJ_lt, iJ_le, iJ_eq, iI_div, iJ_div, tdiv_tmod, iI_J, iJ_I, iI_ix, iI_toInt, iJ_toInt, cmp_ge, cmp_lt, cmp_eq, cmp_gt, cmp_le, cmp_geI, cmp_ltI, cmp_eqI, cmp_gtI, cmp_leI, bI_0I, bI_1I, pin, if_true, g1, g2, one0, if_false]
  · rw [bI_fI c1] at g1
    rw [if_neg (fun z => c1 z.1)]
    simp (disch := first | omega | assumption | decide | (simp (disch := omega) only [iI_lit, iJ_lit, iJ_eq, iI_eq, bI_01, bI_01I] <;> omega)) only [c_Ds_turn, e_Ds_turn_0, e_Ds_turn_1, e_Ds_turn_2, e_Ds_turn_5, e_Ds_turn_8, e_Ds_turn_9, e_Ds_turn_10, e_Ds_turn_13, e_Ds_turn_16, e_Ds_turn_17, e_Ds_turn_20, e_Ds_turn_23, e_Ds_turn_25, e_Ds_turn_26, e_Ds_turn_27, e_Ds_turn_30, e_Ds_turn_31, e_Ds_turn_32, e_Ds_turn_35, e_Ds_turn_37, e_Ds_turn_38, e_Ds_turn_41, e_Ds_turn_42, e_Ds_turn_43, e_Ds_turn_46, e_Ds_turn_48, e_Ds_turn_50, e_Ds_turn_53, e_Ds_turn_55, e_Ds_turn_58, e_Ds_turn_59, e_Ds_turn_61, e_Ds_turn_64, e_Ds_turn_66, e_Ds_turn_69, e_Ds_turn_70, e_Ds_turn_71, e_Ds_turn_73, e_Ds_turn_75, e_Ds_turn_78, e_Ds_turn_80, e_Ds_turn_83, e_Ds_turn_84, e_Ds_turn_86, e_Ds_turn_89, e_Ds_turn_91, e_Ds_turn_94, e_Ds_turn_95, e_Ds_turn_96, e_Ds_turn_98, e_Ds_turn_100, e_Ds_turn_102, e_Ds_turn_105, e_Ds_turn_107, e_Ds_turn_109, e_Ds_turn_111, e_Ds_turn_114, e_Ds_turn_116, e_Ds_turn_117, e_Ds_turn_120, e_Ds_turn_122, e_Ds_turn_124, e_Ds_turn_127, e_Ds_turn_130, e_Ds_turn_132, e_Ds_turn_134, e_Ds_turn_137, e_Ds_turn_139, e_Ds_turn_141, e_Ds_turn_143, e_Ds_turn_145, e_Ds_turn_148, bd_some, bd_none, Option.toList_some, Option.toList_none, List.nil_append, List.cons_append, px_kill_int, px_kill_long, px_kill_ref, px_kill_null, iI_lit, iJ_lit, iI_add, iI_sub, iI_mul, iI_neg, iJ_add, iJ_sub, iJ_mul, iJ_neg, iI_lt, iI_le, iI_eq, iJ_lt, iJ_le, iJ_eq, iI_div, iJ_div, tdiv_tmod, iI_J, iJ_I, iI_ix, iI_toInt, iJ_toInt, cmp_ge, cmp_lt, cmp_eq, cmp_gt, cmp_le, cmp_geI, cmp_ltI, cmp_eqI, cmp_gtI, cmp_leI, bI_0I, bI_1I, pin, if_true, g1]
set_option maxHeartbeats 1000000 in
theorem q_Dm_turn {T : TS} {V : VW} (hV : okV V) (h : cM T V) {i o k : Int} (hi : inI i) (ho : inI o) (hk : inI k) : ∃ T', cl k_Dm_turn [.ref 53, .int (iI i), .int (iI o), .int (iI k)] (enc T) = some (some (.int (iI (qTurn V i o k))), enc T') ∧ FrM T T' := by
  have hM : cM (t0 T) V := h.fr (t0_fr T)
  have g1 := g_inM hV hM hi
  have g2 := g_inM hV hM ho
  obtain ⟨i1, i2⟩ := id hi
  obtain ⟨o1', o2'⟩ := id ho
  obtain ⟨k1, k2⟩ := hk
  have g3 := s_in (x := k) (l := 0) (h := 1) (enc (t0 T)) (by omega) (by omega) (by omega)
  unfold qTurn
  by_cases c1 : isK V i
  · rw [bI_tI c1] at g1
    by_cases c2 : isK V o
    · rw [bI_tI c2] at g2
      by_cases c3 : 0 ≤ k ∧ k ≤ 1
      · rw [bI_tI c3] at g3
        rw [if_pos ⟨c1, c2, c3⟩]
        obtain ⟨j, rfl⟩ : ∃ j : Nat, i = (j : Int) := ⟨i.toNat, by omega⟩
        obtain ⟨l, rfl⟩ : ∃ l : Nat, o = (l : Int) := ⟨o.toNat, by omega⟩
        have hj : j < V.1 := by have := c1.2; omega
        have hl : l < V.1 := by have := c2.2; omega
        have ok := hV.2 j hj
        have ok' := hV.2 l hl
        have h4 := hV.1
        have m0 : (t0 T).1 56 (8 * j) = iI (V.2 j 0) := hM.2 j hj 0 (by omega)
        have m1 := hM.2 j hj 1 (by omega)
        have n0 : (t0 T).1 56 (8 * l) = iI (V.2 l 0) := hM.2 l hl 0 (by omega)
        have n1 := hM.2 l hl 1 (by omega)
        have f0 := s_of0 (t0 T) (i := j) (by omega)
        have f1 := s_of1 (t0 T) (i := j) (by omega)
        have f0' := s_of0 (t0 T) (i := l) (by omega)
        have f1' := s_of1 (t0 T) (i := l) (by omega)
        have ej : ((j : Int)).toNat = j := by omega
        have el : ((l : Int)).toNat = l := by omega
        have hbd := ala_bd ok ok'
        have hne0 : alg (V.2 j) (V.2 l) ≠ 0 ∨ acr (V.2 j) (V.2 l) ≠ 0 := alac_ne (okS_ne ok.1) (okS_ne ok'.1)
        have ea : V.2 j 0 * V.2 l 0 + V.2 j 1 * V.2 l 1 = alg (V.2 j) (V.2 l) := rfl
        have ec : V.2 j 0 * V.2 l 1 - V.2 j 1 * V.2 l 0 = acr (V.2 j) (V.2 l) := rfl
        rw [ej, el]
        generalize alg (V.2 j) (V.2 l) = P at *
        generalize acr (V.2 j) (V.2 l) = Q at *
        obtain ⟨T2, e2, fr2, ii, x2, y2⟩ := s_laysPair (T := t0 T) (a := P) (b := Q) (by omega) (by omega) hne0
        have hb := tr_bd (a := P) (b := Q) (M := 288) hbd.1 hbd.2
        have hpos : 0 < Int.gcd P Q := by rw [Int.gcd_pos_iff]; exact hne0
        generalize trX P Q = X at *
        generalize trY P Q = Y at *
        generalize hg : ((Int.gcd P Q : Nat) : Int) = G at *
        have hG : 0 < G := by omega
        have bX : 0 ≤ X / G ∧ X / G ≤ 288 := ⟨Int.ediv_nonneg (by omega) (by omega), by have := Int.ediv_le_self (a := X) G (by omega); omega⟩
        have bY : 0 ≤ Y / G ∧ Y / G ≤ 288 := ⟨Int.ediv_nonneg (by omega) (by omega), by have := Int.ediv_le_self (a := Y) G (by omega); omega⟩
        have mxx := g_maxJ (a := X / G) (b := Y / G) (by omega) (by omega) (enc T2)
        have mnn := g_minJ (a := X / G) (b := Y / G) (by omega) (by omega) (enc T2)
        rw [mx_div hG] at mxx
        rw [mn_div hG] at mnn
        refine ⟨T2, ?_, (t0_fr T).tr fr2⟩
        by_cases k0 : k = 0
        · subst k0
          simp (disch := first | omega | assumption | decide | (simp (disch := omega) only [iI_lit, iJ_lit, iJ_eq, iI_eq, bI_01, bI_01I] <;> omega)) only [c_Dm_turn, e_Dm_turn_0, e_Dm_turn_1, e_Dm_turn_2, e_Dm_turn_5, e_Dm_turn_6, e_Dm_turn_7, e_Dm_turn_10, e_Dm_turn_13, e_Dm_turn_14, e_Dm_turn_15, e_Dm_turn_18, e_Dm_turn_21, e_Dm_turn_22, e_Dm_turn_23, e_Dm_turn_24, e_Dm_turn_25, e_Dm_turn_28, e_Dm_turn_31, e_Dm_turn_34, e_Dm_turn_35, e_Dm_turn_36, e_Dm_turn_37, e_Dm_turn_38, e_Dm_turn_39, e_Dm_turn_42, e_Dm_turn_43, e_Dm_turn_44, e_Dm_turn_45, e_Dm_turn_48, e_Dm_turn_49, e_Dm_turn_50, e_Dm_turn_51, e_Dm_turn_52, e_Dm_turn_55, e_Dm_turn_56, e_Dm_turn_57, e_Dm_turn_58, e_Dm_turn_61, e_Dm_turn_62, e_Dm_turn_63, e_Dm_turn_64, e_Dm_turn_65, e_Dm_turn_66, e_Dm_turn_67, e_Dm_turn_70, e_Dm_turn_71, e_Dm_turn_72, e_Dm_turn_73, e_Dm_turn_76, e_Dm_turn_77, e_Dm_turn_78, e_Dm_turn_79, e_Dm_turn_80, e_Dm_turn_83, e_Dm_turn_84, e_Dm_turn_85, e_Dm_turn_86, e_Dm_turn_89, e_Dm_turn_90, e_Dm_turn_91, e_Dm_turn_92, e_Dm_turn_95, e_Dm_turn_96, e_Dm_turn_99, e_Dm_turn_100, e_Dm_turn_103, e_Dm_turn_104, e_Dm_turn_107, e_Dm_turn_110, e_Dm_turn_113, e_Dm_turn_114, e_Dm_turn_117, e_Dm_turn_118, e_Dm_turn_121, e_Dm_turn_124, e_Dm_turn_125, bd_some, bd_none, Option.toList_some, Option.toList_none, List.nil_append, List.cons_append, px_kill_int, px_kill_long, px_kill_ref, px_kill_null, iI_lit, iJ_lit, iI_add, iI_sub, iI_mul, iI_neg, iJ_add, iJ_sub, iJ_mul, iJ_neg, iI_lt, iI_le, iI_eq, iJ_lt, iJ_le, iJ_eq, iI_div, iJ_div, tdiv_tmod, iI_J, iJ_I, iI_ix, iI_toInt, iJ_toInt, cmp_ge, cmp_lt, cmp_eq, cmp_gt, cmp_le, cmp_geI, cmp_ltI, cmp_eqI, cmp_gtI, cmp_leI, bI_0I, bI_1I, pin, if_true, g1, g2, g3, one0, if_false, f0, f1, f0', f1', m0, m1, n0, n1, ea, ec, e2, x2, y2, mxx]
        · have k1 : k = 1 := by omega
          subst k1
          simp (disch := first | omega | assumption | decide | (simp (disch := omega) only [iI_lit, iJ_lit, iJ_eq, iI_eq, bI_01, bI_01I] <;> omega)) only [c_Dm_turn, e_Dm_turn_0, e_Dm_turn_1, e_Dm_turn_2, e_Dm_turn_5, e_Dm_turn_6, e_Dm_turn_7, e_Dm_turn_10, e_Dm_turn_13, e_Dm_turn_14, e_Dm_turn_15, e_Dm_turn_18, e_Dm_turn_21, e_Dm_turn_22, e_Dm_turn_23, e_Dm_turn_24, e_Dm_turn_25, e_Dm_turn_28, e_Dm_turn_31, e_Dm_turn_34, e_Dm_turn_35, e_Dm_turn_36, e_Dm_turn_37, e_Dm_turn_38, e_Dm_turn_39, e_Dm_turn_42, e_Dm_turn_43, e_Dm_turn_44, e_Dm_turn_45, e_Dm_turn_48, e_Dm_turn_49, e_Dm_turn_50, e_Dm_turn_51, e_Dm_turn_52, e_Dm_turn_55, e_Dm_turn_56, e_Dm_turn_57, e_Dm_turn_58, e_Dm_turn_61, e_Dm_turn_62, e_Dm_turn_63, e_Dm_turn_64, e_Dm_turn_65, e_Dm_turn_66, e_Dm_turn_67, e_Dm_turn_70, e_Dm_turn_71, e_Dm_turn_72, e_Dm_turn_73, e_Dm_turn_76, e_Dm_turn_77, e_Dm_turn_78, e_Dm_turn_79, e_Dm_turn_80, e_Dm_turn_83, e_Dm_turn_84, e_Dm_turn_85, e_Dm_turn_86, e_Dm_turn_89, e_Dm_turn_90, e_Dm_turn_91, e_Dm_turn_92, e_Dm_turn_95, e_Dm_turn_96, e_Dm_turn_99, e_Dm_turn_100, e_Dm_turn_103, e_Dm_turn_104, e_Dm_turn_107, e_Dm_turn_110, e_Dm_turn_113, e_Dm_turn_114, e_Dm_turn_117, e_Dm_turn_118, e_Dm_turn_121, e_Dm_turn_124, e_Dm_turn_125, bd_some, bd_none, Option.toList_some, Option.toList_none, List.nil_append, List.cons_append, px_kill_int, px_kill_long, px_kill_ref, px_kill_null, iI_lit, iJ_lit, iI_add, iI_sub, iI_mul, iI_neg, iJ_add, iJ_sub, iJ_mul, iJ_neg, iI_lt, iI_le, iI_eq, iJ_lt, iJ_le, iJ_eq, iI_div, iJ_div, tdiv_tmod, iI_J, iJ_I, iI_ix, iI_toInt, iJ_toInt, cmp_ge, cmp_lt, cmp_eq, cmp_gt, cmp_le, cmp_geI, cmp_ltI, cmp_eqI, cmp_gtI, cmp_leI, bI_0I, bI_1I, pin, if_true, g1, g2, g3, one0, if_false, f0, f1, f0', f1', m0, m1, n0, n1, ea, ec, e2, x2, y2, mnn]
      · rw [bI_fI c3] at g3
        rw [if_neg (fun z => c3 z.2.2)]
        refine ⟨t0 T, ?_, t0_fr T⟩
        simp (disch := first | omega | assumption | decide | (simp (disch := omega) only [iI_lit, iJ_lit, iJ_eq, iI_eq, bI_01, bI_01I] <;> omega)) only [c_Dm_turn, e_Dm_turn_0, e_Dm_turn_1, e_Dm_turn_2, e_Dm_turn_5, e_Dm_turn_6, e_Dm_turn_7, e_Dm_turn_10, e_Dm_turn_13, e_Dm_turn_14, e_Dm_turn_15, e_Dm_turn_18, e_Dm_turn_21, e_Dm_turn_22, e_Dm_turn_23, e_Dm_turn_24, e_Dm_turn_25, e_Dm_turn_28, e_Dm_turn_31, e_Dm_turn_34, e_Dm_turn_35, e_Dm_turn_36, e_Dm_turn_37, e_Dm_turn_38, e_Dm_turn_39, e_Dm_turn_42, e_Dm_turn_43, e_Dm_turn_44, e_Dm_turn_45, e_Dm_turn_48, e_Dm_turn_49, e_Dm_turn_50, e_Dm_turn_51, e_Dm_turn_52, e_Dm_turn_55, e_Dm_turn_56, e_Dm_turn_57, e_Dm_turn_58, e_Dm_turn_61, e_Dm_turn_62, e_Dm_turn_63, e_Dm_turn_64, e_Dm_turn_65, e_Dm_turn_66, e_Dm_turn_67, e_Dm_turn_70, e_Dm_turn_71, e_Dm_turn_72, e_Dm_turn_73, e_Dm_turn_76, e_Dm_turn_77, e_Dm_turn_78, e_Dm_turn_79, e_Dm_turn_80, e_Dm_turn_83, e_Dm_turn_84, e_Dm_turn_85, e_Dm_turn_86, e_Dm_turn_89, e_Dm_turn_90, e_Dm_turn_91, e_Dm_turn_92, e_Dm_turn_95, e_Dm_turn_96, e_Dm_turn_99, e_Dm_turn_100, e_Dm_turn_103, e_Dm_turn_104, e_Dm_turn_107, e_Dm_turn_110, e_Dm_turn_113, e_Dm_turn_114, e_Dm_turn_117, e_Dm_turn_118, e_Dm_turn_121, e_Dm_turn_124, e_Dm_turn_125, bd_some, bd_none, Option.toList_some, Option.toList_none, List.nil_append, List.cons_append, px_kill_int, px_kill_long, px_kill_ref, px_kill_null, iI_lit, iJ_lit, iI_add, iI_sub, iI_mul, iI_neg, iJ_add, iJ_sub, iJ_mul, iJ_neg, iI_lt, iI_le, iI_eq, iJ_lt, iJ_le, iJ_eq, iI_div, iJ_div, tdiv_tmod, iI_J, iJ_I, iI_ix, iI_toInt, iJ_toInt, cmp_ge, cmp_lt, cmp_eq, cmp_gt, cmp_le, cmp_geI, cmp_ltI, cmp_eqI, cmp_gtI, cmp_leI, bI_0I, bI_1I, pin, if_true, g1, g2, g3, one0, if_false]
    · rw [bI_fI c2] at g2
      rw [if_neg (fun z => c2 z.2.1)]
      refine ⟨t0 T, ?_, t0_fr T⟩
      simp (disch := first | omega | assumption | decide | (simp (disch := omega) only [iI_lit, iJ_lit, iJ_eq, iI_eq, bI_01, bI_01I] <;> omega)) only [c_Dm_turn, e_Dm_turn_0, e_Dm_turn_1, e_Dm_turn_2, e_Dm_turn_5, e_Dm_turn_6, e_Dm_turn_7, e_Dm_turn_10, e_Dm_turn_13, e_Dm_turn_14, e_Dm_turn_15, e_Dm_turn_18, e_Dm_turn_21, e_Dm_turn_22, e_Dm_turn_23, e_Dm_turn_24, e_Dm_turn_25, e_Dm_turn_28, e_Dm_turn_31, e_Dm_turn_34, e_Dm_turn_35, e_Dm_turn_36, e_Dm_turn_37, e_Dm_turn_38, e_Dm_turn_39, e_Dm_turn_42, e_Dm_turn_43, e_Dm_turn_44, e_Dm_turn_45, e_Dm_turn_48, e_Dm_turn_49, e_Dm_turn_50, e_Dm_turn_51, e_Dm_turn_52, e_Dm_turn_55, e_Dm_turn_56, e_Dm_turn_57, e_Dm_turn_58, e_Dm_turn_61, e_Dm_turn_62, e_Dm_turn_63, e_Dm_turn_64, e_Dm_turn_65, e_Dm_turn_66, e_Dm_turn_67, e_Dm_turn_70, e_Dm_turn_71, e_Dm_turn_72, e_Dm_turn_73, e_Dm_turn_76, e_Dm_turn_77, e_Dm_turn_78, e_Dm_turn_79, e_Dm_turn_80, e_Dm_turn_83, e_Dm_turn_84, e_Dm_turn_85, e_Dm_turn_86, e_Dm_turn_89, e_Dm_turn_90, e_Dm_turn_91, e_Dm_turn_92, e_Dm_turn_95, e_Dm_turn_96, e_Dm_turn_99, e_Dm_turn_100, e_Dm_turn_103, e_Dm_turn_104, e_Dm_turn_107, e_Dm_turn_110, e_Dm_turn_113, e_Dm_turn_114, e_Dm_turn_117, e_Dm_turn_118, e_Dm_turn_121, e_Dm_turn_124, e_Dm_turn_125, bd_some, bd_none, Option.toList_some, Option.toList_none, List.nil_append, List.cons_append, px_kill_int, px_kill_long, px_kill_ref, px_kill_null, iI_lit, iJ_lit, iI_add, iI_sub, iI_mul, iI_neg, iJ_add, iJ_sub, iJ_mul, iJ_neg, iI_lt, iI_le, iI_eq, iJ_lt, iJ_le, iJ_eq, iI_div, iJ_div, tdiv_tmod, iI_J, iJ_I, iI_ix, iI_toInt, iJ_toInt, cmp_ge, cmp_lt, cmp_eq, cmp_gt, cmp_le, cmp_geI, cmp_ltI, cmp_eqI, cmp_gtI, cmp_leI, bI_0I, bI_1I, pin, if_true, g1, g2, one0, if_false]
  · rw [bI_fI c1] at g1
    rw [if_neg (fun z => c1 z.1)]
    refine ⟨t0 T, ?_, t0_fr T⟩
    simp (disch := first | omega | assumption | decide | (simp (disch := omega) only [iI_lit, iJ_lit, iJ_eq, iI_eq, bI_01, bI_01I] <;> omega)) only [c_Dm_turn, e_Dm_turn_0, e_Dm_turn_1, e_Dm_turn_2, e_Dm_turn_5, e_Dm_turn_6, e_Dm_turn_7, e_Dm_turn_10, e_Dm_turn_13, e_Dm_turn_14, e_Dm_turn_15, e_Dm_turn_18, e_Dm_turn_21, e_Dm_turn_22, e_Dm_turn_23, e_Dm_turn_24, e_Dm_turn_25, e_Dm_turn_28, e_Dm_turn_31, e_Dm_turn_34, e_Dm_turn_35, e_Dm_turn_36, e_Dm_turn_37, e_Dm_turn_38, e_Dm_turn_39, e_Dm_turn_42, e_Dm_turn_43, e_Dm_turn_44, e_Dm_turn_45, e_Dm_turn_48, e_Dm_turn_49, e_Dm_turn_50, e_Dm_turn_51, e_Dm_turn_52, e_Dm_turn_55, e_Dm_turn_56, e_Dm_turn_57, e_Dm_turn_58, e_Dm_turn_61, e_Dm_turn_62, e_Dm_turn_63, e_Dm_turn_64, e_Dm_turn_65, e_Dm_turn_66, e_Dm_turn_67, e_Dm_turn_70, e_Dm_turn_71, e_Dm_turn_72, e_Dm_turn_73, e_Dm_turn_76, e_Dm_turn_77, e_Dm_turn_78, e_Dm_turn_79, e_Dm_turn_80, e_Dm_turn_83, e_Dm_turn_84, e_Dm_turn_85, e_Dm_turn_86, e_Dm_turn_89, e_Dm_turn_90, e_Dm_turn_91, e_Dm_turn_92, e_Dm_turn_95, e_Dm_turn_96, e_Dm_turn_99, e_Dm_turn_100, e_Dm_turn_103, e_Dm_turn_104, e_Dm_turn_107, e_Dm_turn_110, e_Dm_turn_113, e_Dm_turn_114, e_Dm_turn_117, e_Dm_turn_118, e_Dm_turn_121, e_Dm_turn_124, e_Dm_turn_125, bd_some, bd_none, Option.toList_some, Option.toList_none, List.nil_append, List.cons_append, px_kill_int, px_kill_long, px_kill_ref, px_kill_null, iI_lit, iJ_lit, iI_add, iI_sub, iI_mul, iI_neg, iJ_add, iJ_sub, iJ_mul, iJ_neg, iI_lt, iI_le, iI_eq, iJ_lt, iJ_le, iJ_eq, iI_div, iJ_div, tdiv_tmod, iI_J, iJ_I, iI_ix, iI_toInt, iJ_toInt, cmp_ge, cmp_lt, cmp_eq, cmp_gt, cmp_le, cmp_geI, cmp_ltI, cmp_eqI, cmp_gtI, cmp_leI, bI_0I, bI_1I, pin, if_true, g1]
