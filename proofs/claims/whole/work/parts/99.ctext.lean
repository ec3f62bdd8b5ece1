/-! fault and text of the component. -/
theorem okF.tp {S : FS} (h : okF S) : okTp S.2.1 := ⟨h.2.1, h.2.2⟩
def qFault (S : FS) : Int := match prs S.2.1 with
  | .inl e => (e : Int)
  | .inr _ => -1
theorem q_Ds_fault {G : GW} {T : TS} {S : FS} (hS : okF S) (h : fC G T S) : ∃ T', cl k_Ds_fault [.ref 0] (enc T) = some (some (.int (iI (qFault S))), enc T') ∧ FrA aB bB T T' := by
  obtain ⟨T', e, f, g1, g2⟩ := c_read hS.tp h.2.1
  have f' : FrA aB bB T T' := (FrA.of (b := bB) f).mono (fun q k z => by unfold aRd at z; unfold aB; omega) (fun q k z => z)
  refine ⟨T', ?_, f'⟩
  have bd := prs_bd hS.tp
  unfold qFault
  generalize prs S.2.1 = P at *
  cases P with
  | inl e' =>
    have g := g1 e' rfl
    simp (disch := first | omega | assumption | decide | (simp (disch := omega) only [iI_lit, iJ_lit, iJ_eq, iI_eq, bI_01, bI_01I] <;> omega)) only [c_Ds_fault, e_Ds_fault_0, e_Ds_fault_1, e_Ds_fault_4, e_Ds_fault_7, e_Ds_fault_8, e_Ds_fault_11, e_Ds_fault_14, bd_some, bd_none, Option.toList_some, Option.toList_none, List.nil_append, List.cons_append, px_kill_int, px_kill_long, px_kill_ref, px_kill_null, iI_lit, iJ_lit, iI_add, iI_sub, iI_mul, iI_neg, iJ_add, iJ_sub, iJ_mul, iJ_neg, iI_lt, iI_le, iI_eq, iJ_lt, iJ_le, iJ_eq, iI_div, iJ_div, tdiv_tmod, iI_J, iJ_I, iI_ix, iI_toInt, iJ_toInt, cmp_ge, cmp_lt, cmp_eq, cmp_gt, cmp_le, cmp_geI, cmp_ltI, cmp_eqI, cmp_gtI, cmp_leI, bI_0I, bI_1I, pin, if_true, sh_n3, e, g]
  | inr l =>
    have g := (g2 l rfl).1
    simp (disch := first | omega | assumption | decide | (simp (disch := omega) only [iI_lit, iJ_lit, iJ_eq, iI_eq, bI_01, bI_01I] <;> omega)) only [c_Ds_fault, e_Ds_fault_0, e_Ds_fault_1, e_Ds_fault_4, e_Ds_fault_7, e_Ds_fault_8, e_Ds_fault_11, e_Ds_fault_14, bd_some, bd_none, Option.toList_some, Option.toList_none, List.nil_append, List.cons_append, px_kill_int, px_kill_long, px_kill_ref, px_kill_null, iI_lit, iJ_lit, iI_add, iI_sub, iI_mul, iI_neg, iJ_add, iJ_sub, iJ_mul, iJ_neg, iI_lt, iI_le, iI_eq, iJ_lt, iJ_le, iJ_eq, iI_div, iJ_div, tdiv_tmod, iI_J, iJ_I, iI_ix, iI_toInt, iJ_toInt, cmp_ge, cmp_lt, cmp_eq, cmp_gt, cmp_le, cmp_geI, cmp_ltI, cmp_eqI, cmp_gtI, cmp_leI, bI_0I, bI_1I, pin, if_true, sh_n3, e, g]
def addV (V : VW) (f : CL) : VW := if isScr (f 0) (f 1) (f 2) (f 3) then (V.1 + 1, fun i => if i = V.1 then f else V.2 i) else V
def txV (V : VW) (l : List CL) : VW := l.foldl addV V
theorem txV_app (V : VW) (l : List CL) (f : CL) : txV V (l ++ [f]) = addV (txV V l) f := by
  unfold txV
  rw [List.foldl_append]
  rfl
theorem addV_ok {V : VW} {f : CL} (hV : ∀ j, j < V.1 → okN (V.2 j)) (hf : okL f) : (∀ j, j < (addV V f).1 → okN ((addV V f).2 j)) ∧ (addV V f).1 ≤ V.1 + 1 := by
  unfold addV
  split
  · rename_i hs
    refine ⟨fun j hj => ?_, Nat.le_refl _⟩
    have hj' : j < V.1 + 1 := hj
    show okN (if j = V.1 then f else V.2 j)
    split
    · exact ⟨okS_of ⟨hf.1, hs⟩, hf.2⟩
    · exact hV j (by omega)
  · exact ⟨hV, by omega⟩
theorem txV_ok (V0 : VW) (h0 : V0.1 = 0) : ∀ l : List CL, (∀ f, f ∈ l → okL f) → (∀ j, j < (txV V0 l).1 → okN ((txV V0 l).2 j)) ∧ (txV V0 l).1 ≤ l.length := by
  have key : ∀ (l : List CL) (V : VW), (∀ j, j < V.1 → okN (V.2 j)) → (∀ f, f ∈ l → okL f) → (∀ j, j < (txV V l).1 → okN ((txV V l).2 j)) ∧ (txV V l).1 ≤ V.1 + l.length := by
    intro l
    induction l with
    | nil => intro V hV _; exact ⟨hV, by show V.1 ≤ V.1 + 0; omega⟩
    | cons f l ih =>
      intro V hV hl
      obtain ⟨a1, a2⟩ := addV_ok hV (hl f (List.mem_cons_self ..))
      obtain ⟨b1, b2⟩ := ih (addV V f) a1 (fun g hg => hl g (List.mem_cons_of_mem _ hg))
      refine ⟨b1, ?_⟩
      show (txV (addV V f) l).1 ≤ V.1 + (l.length + 1)
      omega
  intro l hl
  have := key l V0 (fun j hj => by omega) hl
  rw [h0] at this
  exact ⟨this.1, by omega⟩
def rText (S : FS) : FS × Int := match prs S.2.1 with
  | .inl _ => (S, -1)
  | .inr l => ((txV (0, S.1.2) l, (0, S.2.1.2), S.2.2), ((txV (0, S.1.2) l).1 : Int))
theorem rText_ok {S : FS} (h : okF S) : okF (rText S).1 := by
  unfold rText
  have bd := prs_bd h.tp
  generalize prs S.2.1 = P at *
  cases P with
  | inl e => exact h
  | inr l =>
    obtain ⟨b1, b2⟩ := bd.2 l rfl
    obtain ⟨c1, c2⟩ := txV_ok (0, S.1.2) rfl l b2
    refine ⟨⟨?_, c1⟩, Nat.zero_le _, fun k hk => ?_⟩
    · show (txV (0, S.1.2) l).1 ≤ 4
      omega
    · have : k < 0 := hk
      omega
/-- one ink more -/
theorem fC.add {G : GW} {T T' : TS} {S : FS} (h4 : S.1.1 < 4) (h : fC G T S) {f : Nat → Int} (hR : T'.2.2 = T.2.2) (h0 : T'.1 0 3 = iI ((S.1.1 + 1 : Nat) : Int)) (h1 : ∀ q k, ¬ (T.2.2.1 S.1.1 ≤ q ∧ q < T.2.2.1 S.1.1 + 7) → ¬ (q = 0 ∧ k = 3) → T'.1 q k = T.1 q k) (h2 : ∀ q k, ¬ (T.2.2.1 S.1.1 ≤ q ∧ q < T.2.2.1 S.1.1 + 7) → T'.2.1 q k = T.2.1 q k) (hin : inkC T' (T.2.2.1 S.1.1) f) (hg : gOk G T' (T.2.2.1 S.1.1) f) : fC G T' ((S.1.1 + 1, fun i => if i = S.1.1 then f else S.1.2 i), S.2) ∧ sepC T T' := by
  obtain ⟨⟨c1, c2, c3, c4⟩, ⟨d2, d3⟩, d4, d5, d6⟩ := id h
  have hR' : T'.2.2.1 = T.2.2.1 := by rw [hR]
  have hp := c2 S.1.1 h4
  have hp' := hp
  unfold isPl at hp'
  have sep : ∀ i, i < S.1.1 → T.2.2.1 i + 7 ≤ T.2.2.1 S.1.1 ∨ T.2.2.1 S.1.1 + 7 ≤ T.2.2.1 i := fun i hi => isPl_sep (c2 i (by omega)) hp (fun e => by have := c3 i S.1.1 (by omega) h4 e; omega)
  refine ⟨⟨⟨h0, by rw [hR']; exact c2, by rw [hR']; exact c3, fun i hi => ?_⟩, ⟨?_, fun k hk => ?_⟩, fun k hk => ?_, ?_, fun i hi => ?_⟩, ?_⟩
  · have hi' : i < S.1.1 + 1 := hi
    rw [hR']
    show inkC T' (T.2.2.1 i) (if i = S.1.1 then f else S.1.2 i)
    by_cases e : i = S.1.1
    · rw [if_pos e, e]; exact hin
    · rw [if_neg e]
      have hs := sep i (by omega)
      have hpi := c2 i (by omega)
      unfold isPl at hpi
      exact (c4 i (by omega)).frA (a := fun q k => (T.2.2.1 S.1.1 ≤ q ∧ q < T.2.2.1 S.1.1 + 7) ∨ (q = 0 ∧ k = 3)) (b := fun q _ => T.2.2.1 S.1.1 ≤ q ∧ q < T.2.2.1 S.1.1 + 7) ⟨fun q k hq => h1 q k (fun z => hq (Or.inl z)) (fun z => hq (Or.inr z)), h2, hR⟩ (fun q k q1 q2 => by omega) (fun q k q1 q2 => by omega)
  · rw [h1 _ _ (by omega) (by omega)]; exact d2
  · rw [h1 _ _ (by omega) (by omega)]; exact d3 k hk
  · rw [h1 _ _ (by omega) (by omega)]; exact d4 k hk
  · exact d5.same (fun q k q1 q2 => h1 _ _ (by omega) (by omega))
  · have hi' : i < S.1.1 + 1 := hi
    rw [hR']
    show gOk G T' (T.2.2.1 i) (if i = S.1.1 then f else S.1.2 i)
    by_cases e : i = S.1.1
    · rw [if_pos e, e]; exact hg
    · rw [if_neg e]
      have hs := sep i (by omega)
      have hpi := c2 i (by omega)
      unfold isPl at hpi
      exact (d6 i (by omega)).same (h1 _ _ (by omega) (by omega)) (fun k => h1 _ _ (by omega) (by omega)) (h1 _ _ (by omega) (by omega)) (h1 _ _ (by omega) (by omega))
  · exact ⟨fun q k hq => h1 _ _ (by omega) (by omega), fun q k hq => h2 _ _ (by omega), by rw [hR]⟩
set_option maxHeartbeats 4000000 in
theorem c_takeClause {G : GW} {T : TS} {S : FS} {l : List CL} (h : fC G T S) (hl4 : l.length ≤ 4) (hl : ∀ f, f ∈ l → okL f) (hP : hPs T l) {i : Nat} (hi : i < l.length) (h4 : S.1.1 ≤ i) : ∃ T', cl k_Ds_takeClause [.ref 0, .int (iI (i : Int))] (enc T) = some (none, enc T') ∧ fC G T' (addV S.1 (l.getD i (fun _ => 0)), S.2) ∧ sepC T T' ∧ hPs T' l ∧ T'.1 3 4 = T.1 3 4 := by
  obtain ⟨f, hfe⟩ : ∃ f, l.getD i (fun _ => 0) = f := ⟨_, rfl⟩
  have hf : okL f := by
    rw [← hfe, List.getD_eq_getElem?_getD, List.getElem?_eq_getElem hi]
    exact hl _ (List.getElem_mem hi)
  have hPi := hP i hi
  rw [hfe] at hPi
  rw [hfe]
  obtain ⟨⟨o0, o1, o2, o3⟩, o4, o5, o6, o7⟩ := id hf
  have t0' : cl k_Reader_told [.ref 3, .int (iI (i : Int)), .int (iI 0)] (enc T) = some (some (.int (iI (f 0))), enc T) := by
    have := c_told (T := T) (c := i) (w := 0) (by omega) (by omega)
    rw [hPi 0 (by omega)] at this; exact this
  have t1' : cl k_Reader_told [.ref 3, .int (iI (i : Int)), .int (iI 1)] (enc T) = some (some (.int (iI (f 1))), enc T) := by
    have := c_told (T := T) (c := i) (w := 1) (by omega) (by omega)
    rw [hPi 1 (by omega)] at this; exact this
  have t2' : cl k_Reader_told [.ref 3, .int (iI (i : Int)), .int (iI 2)] (enc T) = some (some (.int (iI (f 2))), enc T) := by
    have := c_told (T := T) (c := i) (w := 2) (by omega) (by omega)
    rw [hPi 2 (by omega)] at this; exact this
  have t3' : cl k_Reader_told [.ref 3, .int (iI (i : Int)), .int (iI 3)] (enc T) = some (some (.int (iI (f 3))), enc T) := by
    have := c_told (T := T) (c := i) (w := 3) (by omega) (by omega)
    rw [hPi 3 (by omega)] at this; exact this
  have m1 := mul_bd (a := f 0) (b := f 3) (M := 12) (N := 12) o0 o3
  have m2 := mul_bd (a := f 1) (b := f 2) (M := 12) (N := 12) o1 o2
  have gz := g_isCell (z := f 0 * f 3 - f 1 * f 2) (by omega) (enc T)
  have hh := h.1.1
  have e4 : Int32.ofNat 4 = iI 4 := by decide
  unfold addV
  by_cases cz : isScr (f 0) (f 1) (f 2) (f 3)
  case neg =>
    rw [bI_fI cz] at gz
    rw [if_neg cz]
    refine ⟨T, ?_, h, sepC.rf T, hP, rfl⟩
    simp (disch := first | omega | assumption | decide | (simp (disch := omega) only [iI_lit, iJ_lit, iJ_eq, iI_eq, bI_01, bI_01I] <;> omega)) only [c_Ds_takeClause, e_Ds_takeClause_0, e_Ds_takeClause_1, e_Ds_takeClause_4, e_Ds_takeClause_5, e_Ds_takeClause_6, e_Ds_takeClause_9, e_Ds_takeClause_10, e_Ds_takeClause_11, e_Ds_takeClause_14, e_Ds_takeClause_15, e_Ds_takeClause_16, e_Ds_takeClause_19, e_Ds_takeClause_20, e_Ds_takeClause_21, e_Ds_takeClause_24, e_Ds_takeClause_25, e_Ds_takeClause_26, e_Ds_takeClause_29, e_Ds_takeClause_31, e_Ds_takeClause_32, e_Ds_takeClause_35, e_Ds_takeClause_36, e_Ds_takeClause_37, e_Ds_takeClause_40, e_Ds_takeClause_42, e_Ds_takeClause_43, e_Ds_takeClause_45, e_Ds_takeClause_46, e_Ds_takeClause_47, e_Ds_takeClause_49, e_Ds_takeClause_50, e_Ds_takeClause_51, e_Ds_takeClause_54, e_Ds_takeClause_57, e_Ds_takeClause_58, e_Ds_takeClause_61, e_Ds_takeClause_62, e_Ds_takeClause_65, e_Ds_takeClause_66, e_Ds_takeClause_69, e_Ds_takeClause_70, e_Ds_takeClause_71, e_Ds_takeClause_74, e_Ds_takeClause_75, e_Ds_takeClause_78, e_Ds_takeClause_79, e_Ds_takeClause_81, e_Ds_takeClause_82, e_Ds_takeClause_83, e_Ds_takeClause_86, e_Ds_takeClause_87, e_Ds_takeClause_88, e_Ds_takeClause_91, e_Ds_takeClause_93, e_Ds_takeClause_94, e_Ds_takeClause_95, e_Ds_takeClause_97, e_Ds_takeClause_99, e_Ds_takeClause_102, e_Ds_takeClause_104, e_Ds_takeClause_105, e_Ds_takeClause_108, e_Ds_takeClause_109, e_Ds_takeClause_110, e_Ds_takeClause_113, e_Ds_takeClause_116, e_Ds_takeClause_118, e_Ds_takeClause_119, e_Ds_takeClause_122, e_Ds_takeClause_123, e_Ds_takeClause_124, e_Ds_takeClause_127, e_Ds_takeClause_130, e_Ds_takeClause_132, e_Ds_takeClause_133, e_Ds_takeClause_136, e_Ds_takeClause_137, e_Ds_takeClause_139, e_Ds_takeClause_142, e_Ds_takeClause_145, e_Ds_takeClause_147, e_Ds_takeClause_148, e_Ds_takeClause_151, e_Ds_takeClause_152, e_Ds_takeClause_154, e_Ds_takeClause_157, e_Ds_takeClause_160, bd_some, bd_none, Option.toList_some, Option.toList_none, List.nil_append, List.cons_append, px_kill_int, px_kill_long, px_kill_ref, px_kill_null, iI_lit, iJ_lit, iI_add, iI_sub, iI_mul, iI_neg, iJ_add, iJ_sub, iJ_mul, iJ_neg, iI_lt, iI_le, iI_eq, iJ_lt, iJ_le, iJ_eq, iI_div, iJ_div, tdiv_tmod, iI_J, iJ_I, iI_ix, iI_toInt, iJ_toInt, cmp_ge, cmp_lt, cmp_eq, cmp_gt, cmp_le, cmp_geI, cmp_ltI, cmp_eqI, cmp_gtI, cmp_leI, bI_0I, bI_1I, pin, if_true, sh_n3, t0', t1', t2', t3', gz]
  rw [bI_tI cz] at gz
  rw [if_pos cz]
  have hp := h.1.2.1 S.1.1 (by omega)
  have hs := isPl_sh hp
  obtain ⟨p, hpe⟩ : ∃ p, T.2.2.1 S.1.1 = p := ⟨_, rfl⟩
  rw [hpe] at hp hs
  have c4 : (S.1.1 : Int) < 4 := by omega
  have eh : ((S.1.1 : Int)).toNat = S.1.1 := by omega
  obtain ⟨T1, hT1⟩ : ∃ T1, T1 = sI T 0 3 (iI ((S.1.1 : Int) + 1)) := ⟨_, rfl⟩
  obtain ⟨T2, e2, fr2, n1, n2, n3, n4, n5⟩ := s_takeScreen T1 hp (okS_of ⟨hf.1, cz⟩)
  have hp' := hp
  unfold isPl at hp'
  have k2 : ∀ k, T2.1 4 k = T.1 4 k := fun k => by rw [fr2.1 _ _ (by omega), hT1, wr_ne _ _ (by omega)]
  have t4' : cl k_Reader_told [.ref 3, .int (iI (i : Int)), .int (iI 4)] (enc T2) = some (some (.int (iI (f 4))), enc T2) := by
    have := c_told (T := T2) (c := i) (w := 4) (by omega) (by omega)
    rw [k2, hPi 4 (by omega)] at this; exact this
  have e3 := s_takeSpot T2 hs (iI (f 4))
  obtain ⟨T3, hT3⟩ : ∃ T3, T3 = sI (sI (sI T2 p 3 (iI (f 4))) p 13 (iI 0)) p 14 (iI 0) := ⟨_, rfl⟩
  rw [← hT3] at e3
  have k3 : ∀ k, T3.1 4 k = T.1 4 k := fun k => by rw [hT3, wr_ne _ _ (by omega), wr_ne _ _ (by omega), wr_ne _ _ (by omega)]; exact k2 k
  have t5' : cl k_Reader_told [.ref 3, .int (iI (i : Int)), .int (iI 5)] (enc T3) = some (some (.int (iI (f 5))), enc T3) := by
    have := c_told (T := T3) (c := i) (w := 5) (by omega) (by omega)
    rw [k3, hPi 5 (by omega)] at this; exact this
  obtain ⟨T4, hT4⟩ : ∃ T4, T4 = sI T3 p 4 (iI (f 5)) := ⟨_, rfl⟩
  have k4 : ∀ k, T4.1 4 k = T.1 4 k := fun k => by rw [hT4, wr_ne _ _ (by omega)]; exact k3 k
  have t6' : cl k_Reader_told [.ref 3, .int (iI (i : Int)), .int (iI 6)] (enc T4) = some (some (.int (iI (f 6))), enc T4) := by
    have := c_told (T := T4) (c := i) (w := 6) (by omega) (by omega)
    rw [k4, hPi 6 (by omega)] at this; exact this
  obtain ⟨T5, hT5⟩ : ∃ T5, T5 = sI T4 p 5 (iI (f 6)) := ⟨_, rfl⟩
  have k5 : ∀ k, T5.1 4 k = T.1 4 k := fun k => by rw [hT5, wr_ne _ _ (by omega)]; exact k4 k
  have t7' : cl k_Reader_told [.ref 3, .int (iI (i : Int)), .int (iI 7)] (enc T5) = some (some (.int (iI (f 7))), enc T5) := by
    have := c_told (T := T5) (c := i) (w := 7) (by omega) (by omega)
    rw [k5, hPi 7 (by omega)] at this; exact this
  obtain ⟨T6, hT6⟩ : ∃ T6, T6 = sI T5 p 6 (iI (f 7)) := ⟨_, rfl⟩
  have fr26 : FrI (fun q k => q = p ∧ (k = 3 ∨ k = 4 ∨ k = 5 ∨ k = 6 ∨ k = 13 ∨ k = 14)) T2 T6 := by
    rw [hT6, hT5, hT4, hT3]
    exact ((((((FrI.rf _ T2).wr _ ⟨rfl, by omega⟩).wr _ ⟨rfl, by omega⟩).wr _ ⟨rfl, by omega⟩).wr _ ⟨rfl, by omega⟩).wr _ ⟨rfl, by omega⟩).wr _ ⟨rfl, by omega⟩
  have out : ∀ q k, ¬ (p ≤ q ∧ q < p + 7) → T6.1 q k = T1.1 q k := fun q k hq => by rw [fr26.1 _ _ (by omega), fr2.1 _ _ (by omega)]
  have g13 : T6.1 p 13 = iI 0 := by rw [hT6, wr_ne _ _ (by omega), hT5, wr_ne _ _ (by omega), hT4, wr_ne _ _ (by omega), hT3]; simp only [sI_get, sJ_get, sI_2, sJ_1, sJ_22, sR_1, sR_21, Nat.reduceEqDiff, and_true, true_and, and_false, false_and, and_self, if_true, if_false, reduceIte]
  have g14 : T6.1 p 14 = iI 0 := by rw [hT6, wr_ne _ _ (by omega), hT5, wr_ne _ _ (by omega), hT4, wr_ne _ _ (by omega), hT3]; simp only [sI_get, sJ_get, sI_2, sJ_1, sJ_22, sR_1, sR_21, Nat.reduceEqDiff, and_true, true_and, and_false, false_and, and_self, if_true, if_false, reduceIte]
  have hu := fC.add (T' := T6) (f := f) (by omega) h (by rw [fr26.2, fr2.2.2, hT1]; rfl) (by
    rw [out _ _ (by omega), hT1, show ((S.1.1 + 1 : Nat) : Int) = (S.1.1 : Int) + 1 by omega]
    simp only [sI_get, sJ_get, sI_2, sJ_1, sJ_22, sR_1, sR_21, Nat.reduceEqDiff, and_true, true_and, and_false, false_and, and_self, if_true, if_false, reduceIte]) (fun q k hq hq2 => by
    rw [hpe] at hq
    rw [out _ _ hq, hT1, wr_ne _ _ hq2]) (fun q k hq => by
    rw [hpe] at hq
    rw [fr26.2, fr2.2.1 _ _ (by omega), hT1]; rfl) (by
    rw [hpe]
    refine ⟨⟨hs, okS_of ⟨hf.1, cz⟩, ?_, ?_, ?_, ?_, o4⟩, ?_, ?_, ?_, Or.inl g13⟩
    · unfold cScr at *
      rw [fr26.1 _ _ (by omega), fr26.1 _ _ (by omega), fr26.1 _ _ (by omega), fr26.1 _ _ (by omega)]; exact n1
    · unfold cGrd at *
      rw [fr26.2]; exact n2
    · rw [fr26.1 _ _ (by omega)]; exact n3
    · rw [hT6, wr_ne _ _ (by omega), hT5, wr_ne _ _ (by omega), hT4, wr_ne _ _ (by omega), hT3]; simp only [sI_get, sJ_get, sI_2, sJ_1, sJ_22, sR_1, sR_21, Nat.reduceEqDiff, and_true, true_and, and_false, false_and, and_self, if_true, if_false, reduceIte]
    · rw [hT6, wr_ne _ _ (by omega), hT5, wr_ne _ _ (by omega), hT4]; simp only [sI_get, sJ_get, sI_2, sJ_1, sJ_22, sR_1, sR_21, Nat.reduceEqDiff, and_true, true_and, and_false, false_and, and_self, if_true, if_false, reduceIte]
    · rw [hT6, wr_ne _ _ (by omega), hT5]; simp only [sI_get, sJ_get, sI_2, sJ_1, sJ_22, sR_1, sR_21, Nat.reduceEqDiff, and_true, true_and, and_false, false_and, and_self, if_true, if_false, reduceIte]
    · rw [hT6]; simp only [sI_get, sJ_get, sI_2, sJ_1, sJ_22, sR_1, sR_21, Nat.reduceEqDiff, and_true, true_and, and_false, false_and, and_self, if_true, if_false, reduceIte]) (by rw [hpe]; exact Or.inl g14)
  refine ⟨T6, ?_, hu.1, hu.2, ?_, ?_⟩
  · simp (disch := first | omega | assumption | decide | (simp (disch := omega) only [iI_lit, iJ_lit, iJ_eq, iI_eq, bI_01, bI_01I] <;> omega)) only [c_Ds_takeClause, e_Ds_takeClause_0, e_Ds_takeClause_1, e_Ds_takeClause_4, e_Ds_takeClause_5, e_Ds_takeClause_6, e_Ds_takeClause_9, e_Ds_takeClause_10, e_Ds_takeClause_11, e_Ds_takeClause_14, e_Ds_takeClause_15, e_Ds_takeClause_16, e_Ds_takeClause_19, e_Ds_takeClause_20, e_Ds_takeClause_21, e_Ds_takeClause_24, e_Ds_takeClause_25, e_Ds_takeClause_26, e_Ds_takeClause_29, e_Ds_takeClause_31, e_Ds_takeClause_32, e_Ds_takeClause_35, e_Ds_takeClause_36, e_Ds_takeClause_37, e_Ds_takeClause_40, e_Ds_takeClause_42, e_Ds_takeClause_43, e_Ds_takeClause_45, e_Ds_takeClause_46, e_Ds_takeClause_47, e_Ds_takeClause_49, e_Ds_takeClause_50, e_Ds_takeClause_51, e_Ds_takeClause_54, e_Ds_takeClause_57, e_Ds_takeClause_58, e_Ds_takeClause_61, e_Ds_takeClause_62, e_Ds_takeClause_65, e_Ds_takeClause_66, e_Ds_takeClause_69, e_Ds_takeClause_70, e_Ds_takeClause_71, e_Ds_takeClause_74, e_Ds_takeClause_75, e_Ds_takeClause_78, e_Ds_takeClause_79, e_Ds_takeClause_81, e_Ds_takeClause_82, e_Ds_takeClause_83, e_Ds_takeClause_86, e_Ds_takeClause_87, e_Ds_takeClause_88, bd_some, bd_none, Option.toList_some, Option.toList_none, List.nil_append, List.cons_append, px_kill_int, px_kill_long, px_kill_ref, px_kill_null, iI_lit, iJ_lit, iI_add, iI_sub, iI_mul, iI_neg, iJ_add, iJ_sub, iJ_mul, iJ_neg, iI_lt, iI_le, iI_eq, iJ_lt, iJ_le, iJ_eq, iI_div, iJ_div, tdiv_tmod, iI_J, iJ_I, iI_ix, iI_toInt, iJ_toInt, cmp_ge, cmp_lt, cmp_eq, cmp_gt, cmp_le, cmp_geI, cmp_ltI, cmp_eqI, cmp_gtI, cmp_leI, bI_0I, bI_1I, pin, if_true, sh_n3, sh_n5, t0', t1', t2', t3', gz, one0, if_false, hh, e4, c4, eh, hpe]
    rw [← hT1]
    simp (disch := first | omega | assumption | decide | (simp (disch := omega) only [iI_lit, iJ_lit, iJ_eq, iI_eq, bI_01, bI_01I] <;> omega)) only [e_Ds_takeClause_91, e_Ds_takeClause_93, e_Ds_takeClause_94, e_Ds_takeClause_95, e_Ds_takeClause_97, e_Ds_takeClause_99, e_Ds_takeClause_102, e_Ds_takeClause_104, e_Ds_takeClause_105, e_Ds_takeClause_108, e_Ds_takeClause_109, e_Ds_takeClause_110, e_Ds_takeClause_113, e_Ds_takeClause_116, e_Ds_takeClause_118, e_Ds_takeClause_119, e_Ds_takeClause_122, e_Ds_takeClause_123, e_Ds_takeClause_124, e_Ds_takeClause_127, bd_some, bd_none, Option.toList_some, Option.toList_none, List.nil_append, List.cons_append, px_kill_int, px_kill_long, px_kill_ref, px_kill_null, iI_lit, iJ_lit, iI_add, iI_sub, iI_mul, iI_neg, iJ_add, iJ_sub, iJ_mul, iJ_neg, iI_lt, iI_le, iI_eq, iJ_lt, iJ_le, iJ_eq, iI_div, iJ_div, tdiv_tmod, iI_J, iJ_I, iI_ix, iI_toInt, iJ_toInt, cmp_ge, cmp_lt, cmp_eq, cmp_gt, cmp_le, cmp_geI, cmp_ltI, cmp_eqI, cmp_gtI, cmp_leI, bI_0I, bI_1I, pin, if_true, sh_n3, hs, e2, t4', e3, t5']
    rw [← hT4]
    simp (disch := first | omega | assumption | decide | (simp (disch := omega) only [iI_lit, iJ_lit, iJ_eq, iI_eq, bI_01, bI_01I] <;> omega)) only [e_Ds_takeClause_130, e_Ds_takeClause_132, e_Ds_takeClause_133, e_Ds_takeClause_136, e_Ds_takeClause_137, e_Ds_takeClause_139, e_Ds_takeClause_142, bd_some, bd_none, Option.toList_some, Option.toList_none, List.nil_append, List.cons_append, px_kill_int, px_kill_long, px_kill_ref, px_kill_null, iI_lit, iJ_lit, iI_add, iI_sub, iI_mul, iI_neg, iJ_add, iJ_sub, iJ_mul, iJ_neg, iI_lt, iI_le, iI_eq, iJ_lt, iJ_le, iJ_eq, iI_div, iJ_div, tdiv_tmod, iI_J, iJ_I, iI_ix, iI_toInt, iJ_toInt, cmp_ge, cmp_lt, cmp_eq, cmp_gt, cmp_le, cmp_geI, cmp_ltI, cmp_eqI, cmp_gtI, cmp_leI, bI_0I, bI_1I, pin, if_true, sh_n3, hs, t6']
    rw [← hT5]
    simp (disch := first | omega | assumption | decide | (simp (disch := omega) only [iI_lit, iJ_lit, iJ_eq, iI_eq, bI_01, bI_01I] <;> omega)) only [e_Ds_takeClause_145, e_Ds_takeClause_147, e_Ds_takeClause_148, e_Ds_takeClause_151, e_Ds_takeClause_152, e_Ds_takeClause_154, e_Ds_takeClause_157, e_Ds_takeClause_160, bd_some, bd_none, Option.toList_some, Option.toList_none, List.nil_append, List.cons_append, px_kill_int, px_kill_long, px_kill_ref, px_kill_null, iI_lit, iJ_lit, iI_add, iI_sub, iI_mul, iI_neg, iJ_add, iJ_sub, iJ_mul, iJ_neg, iI_lt, iI_le, iI_eq, iJ_lt, iJ_le, iJ_eq, iI_div, iJ_div, tdiv_tmod, iI_J, iJ_I, iI_ix, iI_toInt, iJ_toInt, cmp_ge, cmp_lt, cmp_eq, cmp_gt, cmp_le, cmp_geI, cmp_ltI, cmp_eqI, cmp_gtI, cmp_leI, bI_0I, bI_1I, pin, if_true, sh_n3, hs, t7']
    rw [← hT6]
  · intro c hc q hq
    rw [out _ _ (by omega), hT1, wr_ne _ _ (by omega)]
    exact hP c hc q hq
  · rw [out _ _ (by omega), hT1, wr_ne _ _ (by omega)]
theorem takeL_s {l : List CL} {s : Nat} (h : s < l.length) : l.take (s + 1) = l.take s ++ [l.getD s (fun _ => 0)] := by
  have e : l[s]? = some (l.getD s (fun _ => 0)) := by
    rw [List.getD_eq_getElem?_getD, List.getElem?_eq_getElem h]
    rfl
  rw [List.take_succ, e]
  rfl
set_option maxHeartbeats 1000000 in
theorem lp_text {G : GW} {S : FS} {l : List CL} (hl4 : l.length ≤ 4) (hl : ∀ f, f ∈ l → okL f) : ∀ (n i : Nat) (T : TS), i + n = l.length → fC G T (txV (0, S.1.2) (l.take i), S.2) → hPs T l → T.1 3 4 = iI (l.length : Int) → ∃ T', rn k_Ds_text 27 [.ref 0, .int (iI (i : Int))] [] (enc T) = rn k_Ds_text 49 [.ref 0, .int (iI (l.length : Int))] [] (enc T') ∧ fC G T' (txV (0, S.1.2) l, S.2) ∧ sepC T T' := by
  intro n
  induction n with
  | zero =>
    intro i T hi h hP hC
    have ei : (i : Int) = (l.length : Int) := by omega
    have ei' : i = l.length := by omega
    rw [ei', List.take_length] at h
    refine ⟨T, ?_, h, sepC.rf T⟩
    rw [ei, e_Ds_text_27]
    simp (disch := first | omega | assumption | decide | (simp (disch := omega) only [iI_lit, iJ_lit, iJ_eq, iI_eq, bI_01, bI_01I] <;> omega)) only [e_Ds_text_28, e_Ds_text_29, e_Ds_text_32, e_Ds_text_35, bd_some, bd_none, Option.toList_some, Option.toList_none, List.nil_append, List.cons_append, px_kill_int, px_kill_long, px_kill_ref, px_kill_null, iI_lit, iJ_lit, iI_add, iI_sub, iI_mul, iI_neg, iJ_add, iJ_sub, iJ_mul, iJ_neg, iI_lt, iI_le, iI_eq, iJ_lt, iJ_le, iJ_eq, iI_div, iJ_div, tdiv_tmod, iI_J, iJ_I, iI_ix, iI_toInt, iJ_toInt, cmp_ge, cmp_lt, cmp_eq, cmp_gt, cmp_le, cmp_geI, cmp_ltI, cmp_eqI, cmp_gtI, cmp_leI, bI_0I, bI_1I, pin, if_true, sh_n3, hC, Int.le_refl]
  | succ n ih =>
    intro i T hi h hP hC
    have nle : ¬ (l.length : Int) ≤ (i : Int) := by omega
    have hlt : i < l.length := by omega
    have hlen := (txV_ok (0, S.1.2) rfl (l.take i) (fun f hf => hl f (List.mem_of_mem_take hf))).2
    rw [List.length_take] at hlen
    obtain ⟨T1, e1, h1, s1, P1, C1⟩ := c_takeClause h hl4 hl hP hlt (by show (txV (0, S.1.2) (l.take i)).1 ≤ i; omega)
    have eV : addV (txV (0, S.1.2) (l.take i)) (l.getD i (fun _ => 0)) = txV (0, S.1.2) (l.take (i + 1)) := by rw [takeL_s hlt, txV_app]
    have h1' : fC G T1 (txV (0, S.1.2) (l.take (i + 1)), S.2) := by rw [← eV]; exact h1
    obtain ⟨T2, e2, h2, s2⟩ := ih (i + 1) T1 (by omega) h1' P1 (by rw [C1]; exact hC)
    refine ⟨T2, ?_, h2, s1.tr s2⟩
    refine Eq.trans ?_ e2
    rw [show ((i + 1 : Nat) : Int) = (i : Int) + 1 by omega, e_Ds_text_27]
    simp (disch := first | omega | assumption | decide | (simp (disch := omega) only [iI_lit, iJ_lit, iJ_eq, iI_eq, bI_01, bI_01I] <;> omega)) only [e_Ds_text_28, e_Ds_text_29, e_Ds_text_32, e_Ds_text_35, e_Ds_text_38, e_Ds_text_39, e_Ds_text_40, e_Ds_text_43, e_Ds_text_46, bd_some, bd_none, Option.toList_some, Option.toList_none, List.nil_append, List.cons_append, px_kill_int, px_kill_long, px_kill_ref, px_kill_null, iI_lit, iJ_lit, iI_add, iI_sub, iI_mul, iI_neg, iJ_add, iJ_sub, iJ_mul, iJ_neg, iI_lt, iI_le, iI_eq, iJ_lt, iJ_le, iJ_eq, iI_div, iJ_div, tdiv_tmod, iI_J, iJ_I, iI_ix, iI_toInt, iJ_toInt, cmp_ge, cmp_lt, cmp_eq, cmp_gt, cmp_le, cmp_geI, cmp_ltI, cmp_eqI, cmp_gtI, cmp_leI, bI_0I, bI_1I, pin, if_true, sh_n3, hC, nle, if_false, e1]
set_option maxHeartbeats 1000000 in
theorem u_Ds_text {G : GW} {T : TS} {S : FS} (hS : okF S) (h : fC G T S) : ∃ T', cl k_Ds_text [.ref 0] (enc T) = some (some (.int (iI (rText S).2)), enc T') ∧ fC G T' (rText S).1 ∧ sepC T T' := by
  obtain ⟨T1, e1, f1, g1, g2⟩ := c_read hS.tp h.2.1
  have f1' : FrA aB bB T T1 := (FrA.of (b := bB) f1).mono (fun q k z => by unfold aRd at z; unfold aB; omega) (fun q k z => z)
  obtain ⟨h1, s1⟩ := h.askN hS f1'
  have bd := prs_bd hS.tp
  unfold rText
  generalize prs S.2.1 = P at *
  cases P with
  | inl e =>
    have g := g1 e rfl
    have b := bd.1 e rfl
    have hl := hS.2.1
    have ne : ¬ (e : Int) = -1 := by omega
    refine ⟨T1, ?_, h1, s1⟩
    simp (disch := first | omega | assumption | decide | (simp (disch := omega) only [iI_lit, iJ_lit, iJ_eq, iI_eq, bI_01, bI_01I] <;> omega)) only [c_Ds_text, e_Ds_text_0, e_Ds_text_1, e_Ds_text_4, e_Ds_text_7, e_Ds_text_8, e_Ds_text_11, e_Ds_text_14, e_Ds_text_15, e_Ds_text_18, e_Ds_text_19, e_Ds_text_20, e_Ds_text_21, e_Ds_text_22, e_Ds_text_25, e_Ds_text_26, bd_some, bd_none, Option.toList_some, Option.toList_none, List.nil_append, List.cons_append, px_kill_int, px_kill_long, px_kill_ref, px_kill_null, iI_lit, iJ_lit, iI_add, iI_sub, iI_mul, iI_neg, iJ_add, iJ_sub, iJ_mul, iJ_neg, iI_lt, iI_le, iI_eq, iJ_lt, iJ_le, iJ_eq, iI_div, iJ_div, tdiv_tmod, iI_J, iJ_I, iI_ix, iI_toInt, iJ_toInt, cmp_ge, cmp_lt, cmp_eq, cmp_gt, cmp_le, cmp_geI, cmp_ltI, cmp_eqI, cmp_gtI, cmp_leI, bI_0I, bI_1I, pin, if_true, sh_n3, e1, g, ne, if_false]
  | inr l =>
    obtain ⟨gW, gC, gP⟩ := g2 l rfl
    obtain ⟨b1, b2⟩ := bd.2 l rfl
    obtain ⟨T2, hT2⟩ : ∃ T2, T2 = sI T1 0 3 (iI 0) := ⟨_, rfl⟩
    have h2 : fC G T2 ((0, S.1.2), S.2) := by
      obtain ⟨⟨c1, c2, c3, c4⟩, ⟨d2, d3⟩, d4, d5, d6⟩ := h1
      rw [hT2]
      refine ⟨⟨?_, c2, c3, fun i hi => ?_⟩, ⟨?_, fun k hk => ?_⟩, fun k hk => ?_, ?_, fun i hi => ?_⟩
      · show (sI T1 0 3 (iI 0)).1 0 3 = iI 0
        simp only [sI_get, sJ_get, sI_2, sJ_1, sJ_22, sR_1, sR_21, Nat.reduceEqDiff, and_true, true_and, and_false, false_and, and_self, if_true, if_false, reduceIte]
      · have : i < 0 := hi
        omega
      · rw [wr_ne _ _ (by omega)]; exact d2
      · rw [wr_ne _ _ (by omega)]; exact d3 k hk
      · rw [wr_ne _ _ (by omega)]; exact d4 k hk
      · exact d5.same (fun q k q1 q2 => wr_ne _ _ (by omega))
      · have : i < 0 := hi
        omega
    have s2 : sepC T1 T2 := by rw [hT2]; exact (sepC.rf T1).wr _ (by omega)
    obtain ⟨T3, e3, h3, s3⟩ := lp_text (G := G) (S := S) b1 b2 l.length 0 T2 (by omega) h2 (fun c hc q hq => by rw [hT2, wr_ne _ _ (by omega)]; exact gP c hc q hq) (by rw [hT2, wr_ne _ _ (by omega)]; exact gC)
    obtain ⟨c1, c2⟩ := txV_ok (0, S.1.2) rfl l b2
    have okS3 : okF (txV (0, S.1.2) l, S.2) := ⟨⟨by show (txV (0, S.1.2) l).1 ≤ 4; omega, c1⟩, hS.2⟩
    have hF := h3.tape okS3 (T' := sI T3 1 1 (iI 0)) (t := (0, S.2.1.2)) ((FrI.rf aTp T3).wr _ (Or.inl ⟨rfl, rfl⟩)) ⟨by show (sI T3 1 1 (iI 0)).1 1 1 = iI 0; simp only [sI_get, sJ_get, sI_2, sJ_1, sJ_22, sR_1, sR_21, Nat.reduceEqDiff, and_true, true_and, and_false, false_and, and_self, if_true, if_false, reduceIte], fun k hk => by have : k < 0 := hk; omega⟩
    have hh := h3.1.1
    refine ⟨sI T3 1 1 (iI 0), ?_, hF.1, ((s1.tr s2).tr s3).tr hF.2⟩
    simp (disch := first | omega | assumption | decide | (simp (disch := omega) only [iI_lit, iJ_lit, iJ_eq, iI_eq, bI_01, bI_01I] <;> omega)) only [c_Ds_text, e_Ds_text_0, e_Ds_text_1, e_Ds_text_4, e_Ds_text_7, e_Ds_text_8, e_Ds_text_11, e_Ds_text_14, e_Ds_text_15, e_Ds_text_18, e_Ds_text_19, e_Ds_text_20, e_Ds_text_21, e_Ds_text_22, e_Ds_text_25, e_Ds_text_26, bd_some, bd_none, Option.toList_some, Option.toList_none, List.nil_append, List.cons_append, px_kill_int, px_kill_long, px_kill_ref, px_kill_null, iI_lit, iJ_lit, iI_add, iI_sub, iI_mul, iI_neg, iJ_add, iJ_sub, iJ_mul, iJ_neg, iI_lt, iI_le, iI_eq, iJ_lt, iJ_le, iJ_eq, iI_div, iJ_div, tdiv_tmod, iI_J, iJ_I, iI_ix, iI_toInt, iJ_toInt, cmp_ge, cmp_lt, cmp_eq, cmp_gt, cmp_le, cmp_geI, cmp_ltI, cmp_eqI, cmp_gtI, cmp_leI, bI_0I, bI_1I, pin, if_true, sh_n3, e1, gW]
    rw [← hT2]
    refine Eq.trans e3 ?_
    simp (disch := first | omega | assumption | decide | (simp (disch := omega) only [iI_lit, iJ_lit, iJ_eq, iI_eq, bI_01, bI_01I] <;> omega)) only [e_Ds_text_49, e_Ds_text_50, e_Ds_text_53, e_Ds_text_54, e_Ds_text_57, e_Ds_text_58, e_Ds_text_61, bd_some, bd_none, Option.toList_some, Option.toList_none, List.nil_append, List.cons_append, px_kill_int, px_kill_long, px_kill_ref, px_kill_null, iI_lit, iJ_lit, iI_add, iI_sub, iI_mul, iI_neg, iJ_add, iJ_sub, iJ_mul, iJ_neg, iI_lt, iI_le, iI_eq, iJ_lt, iJ_le, iJ_eq, iI_div, iJ_div, tdiv_tmod, iI_J, iJ_I, iI_ix, iI_toInt, iJ_toInt, cmp_ge, cmp_lt, cmp_eq, cmp_gt, cmp_le, cmp_geI, cmp_ltI, cmp_eqI, cmp_gtI, cmp_leI, bI_0I, bI_1I, pin, if_true, sh_n1, sI_get, sJ_get, sI_2, sJ_1, sJ_22, sR_1, sR_21, Nat.reduceEqDiff, and_true, true_and, and_false, false_and, and_self, if_true, if_false, reduceIte, hh]
