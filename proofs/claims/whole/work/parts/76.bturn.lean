/-! bestTurn: pure, and the component. -/
def sqF (q : Nat × Nat) : Nat → Int := fun k => if k = 0 then (q.1 : Int) else if k = 1 then (q.2 : Int) else if k = 2 then -(q.2 : Int) else if k = 3 then (q.1 : Int) else 0
abbrev isQd (q : Nat × Nat) : Prop := (1 ≤ q.1 ∧ q.1 ≤ 12) ∧ q.2 ≤ 12 ∧ q.1 * q.1 + q.2 * q.2 ≤ 144
theorem sqF_area (q : Nat × Nat) : sqF q 0 * sqF q 3 - sqF q 1 * sqF q 2 = ((q.1 * q.1 + q.2 * q.2 : Nat) : Int) := by
  show (q.1 : Int) * (q.1 : Int) - (q.2 : Int) * (-(q.2 : Int)) = _
  rw [Int.mul_neg, Int.natCast_add, Int.natCast_mul, Int.natCast_mul]
  omega
theorem sqF_ok {q : Nat × Nat} (h : isQd q) : okN (sqF q) := by
  have ha := sqF_area q
  have hp : 0 < q.1 * q.1 := Nat.mul_pos h.1.1 h.1.1
  have e0 : sqF q 0 = (q.1 : Int) := rfl
  have e1 : sqF q 1 = (q.2 : Int) := rfl
  have e2 : sqF q 2 = -(q.2 : Int) := rfl
  have e3 : sqF q 3 = (q.1 : Int) := rfl
  refine ⟨⟨?_, ?_, ?_, ?_, ?_, ?_⟩, ⟨by show (0 : Int) ≤ 0; omega, by show (0 : Int) ≤ 2; omega⟩, ⟨by show (0 : Int) ≤ 0; omega, by show (0 : Int) ≤ 100; omega⟩, ⟨by show (-99 : Int) ≤ 0; omega, by show (0 : Int) ≤ 99; omega⟩, ⟨by show (-99 : Int) ≤ 0; omega, by show (0 : Int) ≤ 99; omega⟩⟩
  · rw [e0]; omega
  · rw [e1]; omega
  · rw [e2]; omega
  · rw [e3]; omega
  · rw [ha]; omega
  · rw [ha]; omega
abbrev alS (V : VW) (q : Nat × Nat) (o : Nat) : Int := (bt (sqF q) (V.2 o)).2.2.2.2.2
abbrev sU (V : VW) (q : Nat × Nat) (o : Nat) : Int := btU (sqF q) (V.2 o)
abbrev sL (V : VW) (q : Nat × Nat) (o : Nat) : Int := btL (sqF q) (V.2 o)
abbrev sG (V : VW) (q : Nat × Nat) (o : Nat) : Int := btG (sqF q) (V.2 o)
def lfT (V : VW) (q : Nat × Nat) (b : Option Nat) (o : Nat) : Option Nat := match b with
  | none => some o
  | some p => if sU V q o * sL V q p < sU V q p * sL V q o then some o else some p
def lfA (V : VW) (i : Nat) (q : Nat × Nat) : Option Nat → Nat → Nat → Option Nat
  | b, _, 0 => b
  | b, o, t + 1 => lfA V i q (if o = i then b else if alS V q o = 1 then b else lfT V q b o) (o + 1) t
/-- its parts in lowest terms, and as they come -/
def luC (V : VW) (q : Nat × Nat) (b : Option Nat) : Int := match b with
  | none => 1
  | some p => sU V q p / sG V q p
def llC (V : VW) (q : Nat × Nat) (b : Option Nat) : Int := match b with
  | none => 0
  | some p => sL V q p / sG V q p
def luM (V : VW) (q : Nat × Nat) (b : Option Nat) : Int := match b with
  | none => 1
  | some p => sU V q p
def llM (V : VW) (q : Nat × Nat) (b : Option Nat) : Int := match b with
  | none => 0
  | some p => sL V q p
def lgG (V : VW) (q : Nat × Nat) (b : Option Nat) : Int := match b with
  | none => 1
  | some p => sG V q p
def okO (V : VW) (b : Option Nat) : Prop := ∀ p, b = some p → p < V.1
theorem lf_facts {V : VW} (hV : okV V) {q : Nat × Nat} (hq : isQd q) {b : Option Nat} (hb : okO V b) : (0 < luC V q b ∧ luC V q b ≤ 429981696) ∧ (0 ≤ llC V q b ∧ llC V q b ≤ 23887872) ∧ (0 < luM V q b ∧ luM V q b ≤ 429981696) ∧ (0 ≤ llM V q b ∧ llM V q b ≤ 23887872) ∧ 0 < lgG V q b ∧ lgG V q b * luC V q b = luM V q b ∧ lgG V q b * llC V q b = llM V q b := by
  cases b with
  | none => exact ⟨⟨by show (0 : Int) < 1; omega, by show (1 : Int) ≤ 429981696; omega⟩, ⟨by show (0 : Int) ≤ 0; omega, by show (0 : Int) ≤ 23887872; omega⟩, ⟨by show (0 : Int) < 1; omega, by show (1 : Int) ≤ 429981696; omega⟩, ⟨by show (0 : Int) ≤ 0; omega, by show (0 : Int) ≤ 23887872; omega⟩, by show (0 : Int) < 1; omega, rfl, rfl⟩
  | some p =>
    have hf := sqF_ok hq
    have hg := hV.2 p (hb p rfl)
    have h1 := fr_bd hf hg
    have h2 := btU_bd hf hg
    have h3 := btL_bd hf hg
    have h4 := btG_bd hf hg
    exact ⟨h1.1, ⟨Int.le_of_lt h1.2.1, h1.2.2⟩, h2, ⟨Int.le_of_lt h3.1, h3.2⟩, h4.1, h4.2.2.1, h4.2.2.2⟩
theorem sc_lt {G u l G' u' l' : Int} (g0 : 0 < G) (g0' : 0 < G') : (G * u) * (G' * l') < (G' * u') * (G * l) ↔ u * l' < u' * l := by
  have e1 : G * u * (G' * l') = (G * G') * (u * l') := by grind
  have e2 : G' * u' * (G * l) = (G * G') * (u' * l) := by grind
  rw [e1, e2]
  exact Int.mul_lt_mul_left (Int.mul_pos g0 g0')
theorem lfT_ok {V : VW} {q : Nat × Nat} {b : Option Nat} {o : Nat} (hb : okO V b) (ho : o < V.1) : okO V (lfT V q b o) := by
  unfold lfT
  intro p hp
  split at hp
  · cases hp; exact ho
  · split at hp
    · cases hp; exact ho
    · exact hb p hp
theorem lfA_ok {V : VW} {i : Nat} {q : Nat × Nat} : ∀ (t o : Nat) (b : Option Nat), o + t ≤ V.1 → okO V b → okO V (lfA V i q b o t) := by
  intro t
  induction t with
  | zero => intro o b _ h; exact h
  | succ t ih =>
    intro o b ho h
    refine ih (o + 1) _ (by omega) ?_
    split
    · exact h
    · split
      · exact h
      · exact lfT_ok h (by omega)
/-- 24 holds the square -/
abbrev sqT (T : TS) (q : Nat × Nat) : Prop := cScr T 24 (sqF q 0) (sqF q 1) (sqF q 2) (sqF q 3)
abbrev lfH (T : TS) (V : VW) (q : Nat × Nat) (b : Option Nat) : Prop := T.2.1 0 11 = iJ (luC V q b) ∧ T.2.1 0 12 = iJ (llC V q b)
set_option maxHeartbeats 2000000 in
theorem lp_lf {V : VW} (hV : okV V) {q : Nat × Nat} (hq : isQd q) {i : Nat} (hi : i < V.1) : ∀ (t o : Nat) (b : Option Nat) (T : TS), o + t = V.1 → okO V b → cC T V → sqT T q → lfH T V q b → ∃ T', rn k_Ds_leastFarBeside 12 [.ref 0, .int (iI (i : Int)), .int (iI (o : Int))] [] (enc T) = some (none, enc T') ∧ FrA aB bB T T' ∧ cC T' V ∧ sqT T' q ∧ lfH T' V q (lfA V i q b o t) := by
  intro t
  induction t with
  | zero =>
    intro o b T ho hb h hs hl
    have hh := h.1
    have h4 := hV.1
    have eo : (o : Int) = (V.1 : Int) := by omega
    refine ⟨T, ?_, FrA.rf _ _ _, h, hs, hl⟩
    rw [eo, e_Ds_leastFarBeside_12]
    simp (disch := first | omega | assumption | decide | (simp (disch := omega) only [iI_lit, iJ_lit, iJ_eq, iI_eq, bI_01, bI_01I] <;> omega)) only [e_Ds_leastFarBeside_13, e_Ds_leastFarBeside_14, e_Ds_leastFarBeside_17, e_Ds_leastFarBeside_114, bd_some, bd_none, Option.toList_some, Option.toList_none, List.nil_append, List.cons_append, px_kill_int, px_kill_long, px_kill_ref, px_kill_null, iI_lit, iJ_lit, iI_add, iI_sub, iI_mul, iI_neg, iJ_add, iJ_sub, iJ_mul, iJ_neg, iI_lt, iI_le, iI_eq, iJ_lt, iJ_le, iJ_eq, iI_div, iJ_div, tdiv_tmod, iI_J, iJ_I, iI_ix, iI_toInt, iJ_toInt, cmp_ge, cmp_lt, cmp_eq, cmp_gt, cmp_le, cmp_geI, cmp_ltI, cmp_eqI, cmp_gtI, cmp_leI, bI_0I, bI_1I, pin, if_true, hh, Int.le_refl]
  | succ t ih =>
    intro o b T ho hb h hs hl
    have hh := h.1
    have h4 := hV.1
    have ho' : o < V.1 := by omega
    have nle : ¬ (V.1 : Int) ≤ (o : Int) := by omega
    have fold : lfA V i q b o (t + 1) = lfA V i q (if o = i then b else if alS V q o = 1 then b else lfT V q b o) (o + 1) t := rfl
    rw [fold]
    by_cases eoi : o = i
    · rw [if_pos eoi]
      obtain ⟨T', e, fr, h1, h2, h3⟩ := ih (o + 1) b T (by omega) hb h hs hl
      refine ⟨T', ?_, fr, h1, h2, h3⟩
      rw [show ((o + 1 : Nat) : Int) = (o : Int) + 1 by omega] at e
      refine Eq.trans ?_ e
      subst eoi
      rw [e_Ds_leastFarBeside_12]
      simp (disch := first | omega | assumption | decide | (simp (disch := omega) only [iI_lit, iJ_lit, iJ_eq, iI_eq, bI_01, bI_01I] <;> omega)) only [e_Ds_leastFarBeside_13, e_Ds_leastFarBeside_14, e_Ds_leastFarBeside_17, e_Ds_leastFarBeside_20, e_Ds_leastFarBeside_21, e_Ds_leastFarBeside_22, e_Ds_leastFarBeside_25, e_Ds_leastFarBeside_28, e_Ds_leastFarBeside_29, e_Ds_leastFarBeside_32, e_Ds_leastFarBeside_33, e_Ds_leastFarBeside_36, e_Ds_leastFarBeside_37, e_Ds_leastFarBeside_40, e_Ds_leastFarBeside_41, e_Ds_leastFarBeside_42, e_Ds_leastFarBeside_45, e_Ds_leastFarBeside_48, e_Ds_leastFarBeside_49, e_Ds_leastFarBeside_52, e_Ds_leastFarBeside_55, e_Ds_leastFarBeside_58, e_Ds_leastFarBeside_59, e_Ds_leastFarBeside_62, e_Ds_leastFarBeside_63, e_Ds_leastFarBeside_66, e_Ds_leastFarBeside_67, e_Ds_leastFarBeside_70, e_Ds_leastFarBeside_73, e_Ds_leastFarBeside_74, e_Ds_leastFarBeside_77, e_Ds_leastFarBeside_80, e_Ds_leastFarBeside_83, e_Ds_leastFarBeside_86, e_Ds_leastFarBeside_87, e_Ds_leastFarBeside_88, e_Ds_leastFarBeside_91, e_Ds_leastFarBeside_94, e_Ds_leastFarBeside_97, e_Ds_leastFarBeside_98, e_Ds_leastFarBeside_99, e_Ds_leastFarBeside_102, e_Ds_leastFarBeside_105, e_Ds_leastFarBeside_108, e_Ds_leastFarBeside_111, bd_some, bd_none, Option.toList_some, Option.toList_none, List.nil_append, List.cons_append, px_kill_int, px_kill_long, px_kill_ref, px_kill_null, iI_lit, iJ_lit, iI_add, iI_sub, iI_mul, iI_neg, iJ_add, iJ_sub, iJ_mul, iJ_neg, iI_lt, iI_le, iI_eq, iJ_lt, iJ_le, iJ_eq, iI_div, iJ_div, tdiv_tmod, iI_J, iJ_I, iI_ix, iI_toInt, iJ_toInt, cmp_ge, cmp_lt, cmp_eq, cmp_gt, cmp_le, cmp_geI, cmp_ltI, cmp_eqI, cmp_gtI, cmp_leI, bI_0I, bI_1I, pin, if_true, hh, nle, if_false]
    · rw [if_neg eoi]
      have noi : ¬ (o : Int) = (i : Int) := by omega
      obtain ⟨_, hp, hsh, hI⟩ := cC.at hV h ho'
      have q1 := (pl_s3 hp).2.2.2.2.1
      have hf := sqF_ok hq
      have hg := hV.2 o ho'
      obtain ⟨T1, e1, fr1, ⟨_, _, _, _, b4⟩, hu1, hl1⟩ := c_compare (T := T) (p := 14) (q := 24) rfl rfl q1 (by omega) (by unfold isPl at hp; omega) hf hg hs hI.1.2.2.1
      have fr1' : FrA aB bB T T1 := fr1.mono (fun q k z => by unfold aB; omega) (fun q k z => by unfold bB; omega)
      have hC1 := h.frB hV fr1'
      have hs1 : sqT T1 q := by
        unfold sqT cScr at *
        rw [fr1.1 _ _ (by omega), fr1.1 _ _ (by omega), fr1.1 _ _ (by omega), fr1.1 _ _ (by omega)]
        exact hs
      have hl1' : lfH T1 V q b := by
        unfold lfH at *
        rw [fr1.2.1 _ _ (by omega), fr1.2.1 _ _ (by omega)]
        exact hl
      have eoN : ((o : Int)).toNat = o := by omega
      rcases (bt_ok hf hg).2.2 with ha | ha
      · rw [ha] at b4
        have ha' : ¬ alS V q o = 1 := by unfold alS; omega
        rw [if_neg ha']
        have F := lf_facts hV hq hb
        have bn := fr_bd hf hg
        have x1 := mul_bd2 ⟨Int.le_of_lt F.1.1, F.1.2⟩ ⟨Int.le_of_lt bn.2.1, bn.2.2⟩
        have x2 := mul_bd2 ⟨Int.le_of_lt bn.1.1, bn.1.2⟩ F.2.1
        have gF := s_isFarther (a := luC V q b) (b := llC V q b) (c := btU (sqF q) (V.2 o) / btG (sqF q) (V.2 o)) (d := btL (sqF q) (V.2 o) / btG (sqF q) (V.2 o)) (by omega) (by omega) (enc T1)
        have gG := btG_bd hf hg
        have key := sc_lt (G := btG (sqF q) (V.2 o)) (u := btU (sqF q) (V.2 o) / btG (sqF q) (V.2 o)) (l := btL (sqF q) (V.2 o) / btG (sqF q) (V.2 o)) (G' := lgG V q b) (u' := luC V q b) (l' := llC V q b) gG.1 F.2.2.2.2.1
        rw [gG.2.2.1, gG.2.2.2, F.2.2.2.2.2.1, F.2.2.2.2.2.2] at key
        by_cases c : btU (sqF q) (V.2 o) * llM V q b < luM V q b * btL (sqF q) (V.2 o)
        · rw [bI_tI (key.mp c)] at gF
          have eT : lfT V q b o = some o := by
            cases b with
            | none => rfl
            | some p => exact if_pos c
          rw [eT]
          have fr2 : FrA aB bB T (sJ (sJ T1 0 11 (iJ (btU (sqF q) (V.2 o) / btG (sqF q) (V.2 o)))) 0 12 (iJ (btL (sqF q) (V.2 o) / btG (sqF q) (V.2 o)))) := (fr1'.wrJ _ (by unfold bB; omega)).wrJ _ (by unfold bB; omega)
          obtain ⟨T', e, fr, h1, h2, h3⟩ := ih (o + 1) (some o) (sJ (sJ T1 0 11 (iJ (btU (sqF q) (V.2 o) / btG (sqF q) (V.2 o)))) 0 12 (iJ (btL (sqF q) (V.2 o) / btG (sqF q) (V.2 o)))) (by omega) (fun p z => by cases z; exact ho') (h.frB hV fr2) hs1 (by
            constructor
            · simp only [sI_get, sJ_get, sI_2, sJ_1, sJ_22, sR_1, sR_21, Nat.reduceEqDiff, and_true, true_and, and_false, false_and, and_self, if_true, if_false, reduceIte]; rfl
            · simp only [sI_get, sJ_get, sI_2, sJ_1, sJ_22, sR_1, sR_21, Nat.reduceEqDiff, and_true, true_and, and_false, false_and, and_self, if_true, if_false, reduceIte]; rfl)
          refine ⟨T', ?_, fr2.tr fr, h1, h2, h3⟩
          rw [show ((o + 1 : Nat) : Int) = (o : Int) + 1 by omega] at e
          refine Eq.trans ?_ e
          rw [e_Ds_leastFarBeside_12]
          simp (disch := first | omega | assumption | decide | (simp (disch := omega) only [iI_lit, iJ_lit, iJ_eq, iI_eq, bI_01, bI_01I] <;> omega)) only [e_Ds_leastFarBeside_13, e_Ds_leastFarBeside_14, e_Ds_leastFarBeside_17, e_Ds_leastFarBeside_20, e_Ds_leastFarBeside_21, e_Ds_leastFarBeside_22, e_Ds_leastFarBeside_25, e_Ds_leastFarBeside_28, e_Ds_leastFarBeside_29, e_Ds_leastFarBeside_32, e_Ds_leastFarBeside_33, e_Ds_leastFarBeside_36, e_Ds_leastFarBeside_37, e_Ds_leastFarBeside_40, e_Ds_leastFarBeside_41, e_Ds_leastFarBeside_42, e_Ds_leastFarBeside_45, e_Ds_leastFarBeside_48, e_Ds_leastFarBeside_49, e_Ds_leastFarBeside_52, e_Ds_leastFarBeside_55, e_Ds_leastFarBeside_58, e_Ds_leastFarBeside_59, e_Ds_leastFarBeside_62, e_Ds_leastFarBeside_63, e_Ds_leastFarBeside_66, e_Ds_leastFarBeside_67, e_Ds_leastFarBeside_70, e_Ds_leastFarBeside_73, e_Ds_leastFarBeside_74, e_Ds_leastFarBeside_77, e_Ds_leastFarBeside_80, e_Ds_leastFarBeside_83, e_Ds_leastFarBeside_86, e_Ds_leastFarBeside_87, e_Ds_leastFarBeside_88, e_Ds_leastFarBeside_91, e_Ds_leastFarBeside_94, e_Ds_leastFarBeside_97, e_Ds_leastFarBeside_98, e_Ds_leastFarBeside_99, e_Ds_leastFarBeside_102, e_Ds_leastFarBeside_105, e_Ds_leastFarBeside_108, e_Ds_leastFarBeside_111, bd_some, bd_none, Option.toList_some, Option.toList_none, List.nil_append, List.cons_append, px_kill_int, px_kill_long, px_kill_ref, px_kill_null, iI_lit, iJ_lit, iI_add, iI_sub, iI_mul, iI_neg, iJ_add, iJ_sub, iJ_mul, iJ_neg, iI_lt, iI_le, iI_eq, iJ_lt, iJ_le, iJ_eq, iI_div, iJ_div, tdiv_tmod, iI_J, iJ_I, iI_ix, iI_toInt, iJ_toInt, cmp_ge, cmp_lt, cmp_eq, cmp_gt, cmp_le, cmp_geI, cmp_ltI, cmp_eqI, cmp_gtI, cmp_leI, bI_0I, bI_1I, pin, if_true, sI_get, sJ_get, sI_2, sJ_1, sJ_22, sR_1, sR_21, Nat.reduceEqDiff, and_true, true_and, and_false, false_and, and_self, if_true, if_false, reduceIte, hh, nle, noi, if_false, sh_n5, sh_n14, sh_n24, eoN, hsh, e1, b4, hl1'.1, hl1'.2, hu1, hl1, gF, one0]
        · rw [bI_fI (fun z => c (key.mpr z))] at gF
          have eT : lfT V q b o = b := by
            cases b with
            | none =>
              exfalso
              apply c
              have := (btL_bd hf hg).1
              show btU (sqF q) (V.2 o) * 0 < 1 * btL (sqF q) (V.2 o)
              rw [Int.mul_zero, Int.one_mul]
              exact this
            | some p => exact if_neg c
          rw [eT]
          obtain ⟨T', e, fr, h1, h2, h3⟩ := ih (o + 1) b T1 (by omega) hb hC1 hs1 hl1'
          refine ⟨T', ?_, fr1'.tr fr, h1, h2, h3⟩
          rw [show ((o + 1 : Nat) : Int) = (o : Int) + 1 by omega] at e
          refine Eq.trans ?_ e
          rw [e_Ds_leastFarBeside_12]
          simp (disch := first | omega | assumption | decide | (simp (disch := omega) only [iI_lit, iJ_lit, iJ_eq, iI_eq, bI_01, bI_01I] <;> omega)) only [e_Ds_leastFarBeside_13, e_Ds_leastFarBeside_14, e_Ds_leastFarBeside_17, e_Ds_leastFarBeside_20, e_Ds_leastFarBeside_21, e_Ds_leastFarBeside_22, e_Ds_leastFarBeside_25, e_Ds_leastFarBeside_28, e_Ds_leastFarBeside_29, e_Ds_leastFarBeside_32, e_Ds_leastFarBeside_33, e_Ds_leastFarBeside_36, e_Ds_leastFarBeside_37, e_Ds_leastFarBeside_40, e_Ds_leastFarBeside_41, e_Ds_leastFarBeside_42, e_Ds_leastFarBeside_45, e_Ds_leastFarBeside_48, e_Ds_leastFarBeside_49, e_Ds_leastFarBeside_52, e_Ds_leastFarBeside_55, e_Ds_leastFarBeside_58, e_Ds_leastFarBeside_59, e_Ds_leastFarBeside_62, e_Ds_leastFarBeside_63, e_Ds_leastFarBeside_66, e_Ds_leastFarBeside_67, e_Ds_leastFarBeside_70, e_Ds_leastFarBeside_73, e_Ds_leastFarBeside_74, e_Ds_leastFarBeside_77, e_Ds_leastFarBeside_80, e_Ds_leastFarBeside_83, e_Ds_leastFarBeside_86, e_Ds_leastFarBeside_87, e_Ds_leastFarBeside_88, e_Ds_leastFarBeside_91, e_Ds_leastFarBeside_94, e_Ds_leastFarBeside_97, e_Ds_leastFarBeside_98, e_Ds_leastFarBeside_99, e_Ds_leastFarBeside_102, e_Ds_leastFarBeside_105, e_Ds_leastFarBeside_108, e_Ds_leastFarBeside_111, bd_some, bd_none, Option.toList_some, Option.toList_none, List.nil_append, List.cons_append, px_kill_int, px_kill_long, px_kill_ref, px_kill_null, iI_lit, iJ_lit, iI_add, iI_sub, iI_mul, iI_neg, iJ_add, iJ_sub, iJ_mul, iJ_neg, iI_lt, iI_le, iI_eq, iJ_lt, iJ_le, iJ_eq, iI_div, iJ_div, tdiv_tmod, iI_J, iJ_I, iI_ix, iI_toInt, iJ_toInt, cmp_ge, cmp_lt, cmp_eq, cmp_gt, cmp_le, cmp_geI, cmp_ltI, cmp_eqI, cmp_gtI, cmp_leI, bI_0I, bI_1I, pin, if_true, hh, nle, noi, if_false, sh_n5, sh_n14, sh_n24, eoN, hsh, e1, b4, hl1'.1, hl1'.2, hu1, hl1, gF]
      · rw [ha] at b4
        have ha' : alS V q o = 1 := ha
        rw [if_pos ha']
        obtain ⟨T', e, fr, h1, h2, h3⟩ := ih (o + 1) b T1 (by omega) hb hC1 hs1 hl1'
        refine ⟨T', ?_, fr1'.tr fr, h1, h2, h3⟩
        rw [show ((o + 1 : Nat) : Int) = (o : Int) + 1 by omega] at e
        refine Eq.trans ?_ e
        rw [e_Ds_leastFarBeside_12]
        simp (disch := first | omega | assumption | decide | (simp (disch := omega) only [iI_lit, iJ_lit, iJ_eq, iI_eq, bI_01, bI_01I] <;> omega)) only [e_Ds_leastFarBeside_13, e_Ds_leastFarBeside_14, e_Ds_leastFarBeside_17, e_Ds_leastFarBeside_20, e_Ds_leastFarBeside_21, e_Ds_leastFarBeside_22, e_Ds_leastFarBeside_25, e_Ds_leastFarBeside_28, e_Ds_leastFarBeside_29, e_Ds_leastFarBeside_32, e_Ds_leastFarBeside_33, e_Ds_leastFarBeside_36, e_Ds_leastFarBeside_37, e_Ds_leastFarBeside_40, e_Ds_leastFarBeside_41, e_Ds_leastFarBeside_42, e_Ds_leastFarBeside_45, e_Ds_leastFarBeside_48, e_Ds_leastFarBeside_49, e_Ds_leastFarBeside_52, e_Ds_leastFarBeside_55, e_Ds_leastFarBeside_58, e_Ds_leastFarBeside_59, e_Ds_leastFarBeside_62, e_Ds_leastFarBeside_63, e_Ds_leastFarBeside_66, e_Ds_leastFarBeside_67, e_Ds_leastFarBeside_70, e_Ds_leastFarBeside_73, e_Ds_leastFarBeside_74, e_Ds_leastFarBeside_77, e_Ds_leastFarBeside_80, e_Ds_leastFarBeside_83, e_Ds_leastFarBeside_86, e_Ds_leastFarBeside_87, e_Ds_leastFarBeside_88, e_Ds_leastFarBeside_91, e_Ds_leastFarBeside_94, e_Ds_leastFarBeside_97, e_Ds_leastFarBeside_98, e_Ds_leastFarBeside_99, e_Ds_leastFarBeside_102, e_Ds_leastFarBeside_105, e_Ds_leastFarBeside_108, e_Ds_leastFarBeside_111, bd_some, bd_none, Option.toList_some, Option.toList_none, List.nil_append, List.cons_append, px_kill_int, px_kill_long, px_kill_ref, px_kill_null, iI_lit, iJ_lit, iI_add, iI_sub, iI_mul, iI_neg, iJ_add, iJ_sub, iJ_mul, iJ_neg, iI_lt, iI_le, iI_eq, iJ_lt, iJ_le, iJ_eq, iI_div, iJ_div, tdiv_tmod, iI_J, iJ_I, iI_ix, iI_toInt, iJ_toInt, cmp_ge, cmp_lt, cmp_eq, cmp_gt, cmp_le, cmp_geI, cmp_ltI, cmp_eqI, cmp_gtI, cmp_leI, bI_0I, bI_1I, pin, if_true, hh, nle, noi, if_false, sh_n5, sh_n14, sh_n24, eoN, hsh, e1, b4, one0]
abbrev lfO (V : VW) (i : Nat) (q : Nat × Nat) : Option Nat := lfA V i q none 0 V.1
theorem c_lf {V : VW} (hV : okV V) {q : Nat × Nat} (hq : isQd q) {i : Nat} (hi : i < V.1) {T : TS} (h : cC T V) (hs : sqT T q) : ∃ T', cl k_Ds_leastFarBeside [.ref 0, .int (iI (i : Int))] (enc T) = some (none, enc T') ∧ FrA aB bB T T' ∧ cC T' V ∧ lfH T' V q (lfO V i q) := by
  have fr0 : FrA aB bB T (sJ (sJ T 0 11 (iJ 1)) 0 12 (iJ 0)) := ((FrA.rf aB bB T).wrJ _ (by unfold bB; omega)).wrJ _ (by unfold bB; omega)
  obtain ⟨T', e, fr, h1, h2, h3⟩ := lp_lf hV hq hi V.1 0 none (sJ (sJ T 0 11 (iJ 1)) 0 12 (iJ 0)) (by omega) (fun p z => by cases z) (h.frB hV fr0) hs (by
    constructor
    · simp only [sI_get, sJ_get, sI_2, sJ_1, sJ_22, sR_1, sR_21, Nat.reduceEqDiff, and_true, true_and, and_false, false_and, and_self, if_true, if_false, reduceIte]; rfl
    · simp only [sI_get, sJ_get, sI_2, sJ_1, sJ_22, sR_1, sR_21, Nat.reduceEqDiff, and_true, true_and, and_false, false_and, and_self, if_true, if_false, reduceIte]; rfl)
  refine ⟨T', ?_, fr0.tr fr, h1, h3⟩
  simp (disch := first | omega | assumption | decide | (simp (disch := omega) only [iI_lit, iJ_lit, iJ_eq, iI_eq, bI_01, bI_01I] <;> omega)) only [c_Ds_leastFarBeside, e_Ds_leastFarBeside_0, e_Ds_leastFarBeside_1, e_Ds_leastFarBeside_2, e_Ds_leastFarBeside_5, e_Ds_leastFarBeside_6, e_Ds_leastFarBeside_7, e_Ds_leastFarBeside_10, e_Ds_leastFarBeside_11, bd_some, bd_none, Option.toList_some, Option.toList_none, List.nil_append, List.cons_append, px_kill_int, px_kill_long, px_kill_ref, px_kill_null, iI_lit, iJ_lit, iI_add, iI_sub, iI_mul, iI_neg, iJ_add, iJ_sub, iJ_mul, iJ_neg, iI_lt, iI_le, iI_eq, iJ_lt, iJ_le, iJ_eq, iI_div, iJ_div, tdiv_tmod, iI_J, iJ_I, iI_ix, iI_toInt, iJ_toInt, cmp_ge, cmp_lt, cmp_eq, cmp_gt, cmp_le, cmp_geI, cmp_ltI, cmp_eqI, cmp_gtI, cmp_leI, bI_0I, bI_1I, pin, if_true]
  exact e
