/-! dots and grown of the reference. -/
theorem fst_ex {P : Nat → Prop} (h0 : ¬ P 0) : ∀ n, P n → ∃ t, (1 ≤ t ∧ t ≤ n) ∧ fstF P t := by
  intro n
  induction n with
  | zero => intro h; exact absurd h h0
  | succ n ih =>
    intro h
    by_cases c : ∃ m, m ≤ n ∧ P m
    · have : ∀ m, m ≤ n → P m → ∃ t, (1 ≤ t ∧ t ≤ n + 1) ∧ fstF P t := by
        intro m
        induction m using Nat.strongRecOn with
        | _ m im =>
          intro hm hp
          by_cases d : ∃ m', m' < m ∧ P m'
          · obtain ⟨m', d1, d2⟩ := d
            exact im m' d1 (by omega) d2
          · refine ⟨m, ⟨?_, by omega⟩, hp, fun t' ht' q => d ⟨t', ht', q⟩⟩
            rcases Nat.eq_zero_or_pos m with z | z
            · rw [z] at hp; exact absurd hp h0
            · exact z
      obtain ⟨m, m1, m2⟩ := c
      exact this m m1 m2
    · exact ⟨n + 1, ⟨by omega, by omega⟩, h, fun t' ht' q => c ⟨t', by omega, q⟩⟩
def gP (a b c d kd : Int) (m : Int) (r : Nat) : Prop := (m = 1 ∧ SLD (hmB a b c d) (entE (oB a b c d kd) r)) ∨ (m = 0 ∧ TCH (hmB a b c d) (entE (oB a b c d kd) r))
def gK (m : Int) : Nat := if m = 1 then 201 else 200
theorem gK0 : gK 0 = 200 := by decide
theorem gK1 : gK 1 = 201 := by decide
theorem gP_ex {a b c d kd : Int} (ho : okS a b c d) {m : Int} (hm : m = 0 ∨ m = 1) : ∃ t : Nat, (1 ≤ t ∧ (t : Int) ≤ cel a b c d) ∧ fstF (gP a b c d kd m) t ∧ gG a b c d kd (gK m) = (t : Int) := by
  have hcb := cel_bd ho
  have ne : ∀ k, ¬ entE (oB a b c d kd) 0 k := fun k ⟨j, h, _⟩ => by omega
  have hfull := full_in (kd := kd) ho
  have h0 : ¬ gP a b c d kd m 0 := by
    rintro (⟨-, q⟩ | ⟨-, q⟩)
    · exact q ⟨1, 0, fun _ => 0, by omega, fun x y s h => absurd h (ne _)⟩
    · exact q ⟨fun _ => 0, fun _ => 0, fun x y s h => absurd h (ne _), fun x y s h => absurd h (ne _)⟩
  obtain ⟨t, ⟨t1, t2⟩, tf⟩ := fst_ex h0 (cel a b c d).toNat (by
    rcases hm with z | z
    · exact Or.inr ⟨z, hfull.2⟩
    · exact Or.inl ⟨z, hfull.1⟩)
  refine ⟨t, ⟨t1, by omega⟩, tf, ?_⟩
  rcases hm with z | z
  · subst z
    rw [gK0]
    unfold gG
    rw [if_pos rfl]
    have e : (fun r => TCH (hmB a b c d) (entE (oB a b c d kd) r)) = gP a b c d kd 0 := funext fun r => propext ⟨fun q => Or.inr ⟨rfl, q⟩, fun q => q.elim (fun y => by omega) (fun y => y.2)⟩
    rw [e]
    exact lvF_eq tf
  · subst z
    rw [gK1]
    unfold gG
    rw [if_neg (by omega), if_pos rfl]
    have e : (fun r => SLD (hmB a b c d) (entE (oB a b c d kd) r)) = gP a b c d kd 1 := funext fun r => propext ⟨fun q => Or.inl ⟨rfl, q⟩, fun q => q.elim (fun y => y.2) (fun y => by omega)⟩
    rw [e]
    exact lvF_eq tf
theorem isRnk.fr {T T' : TS} {a b c d kd : Int} (h : isRnk T a b c d kd) (rd : ∀ q k, 58 ≤ q → q ≤ 61 → T'.1 q k = T.1 q k) : isRnk T' a b c d kd :=
  ⟨fun r hr => (h.1 r hr).fr (rd _ _ (by omega) (by omega)) (rd _ _ (by omega) (by omega)) (rd _ _ (by omega) (by omega)), fun r hr => by rw [rd _ _ (by omega) (by omega)]; exact h.2 r hr⟩
set_option maxHeartbeats 1000000 in
theorem lp_gro {a b c d kd : Int} (ho : okS a b c d) {m : Int} (hm : m = 0 ∨ m = 1) {t : Nat} (ht : (t : Int) ≤ cel a b c d) (hf : fstF (gP a b c d kd m) t) (i : Int32) : ∀ (n lev : Nat) (T : TS), lev + n = t → 1 ≤ n → mBrk T a b c d → isRnk T a b c d kd →
    ∃ T', rn k_Dm_grownOf 17 [.ref 53, .int i, .int (iI m), .int (iI (cel a b c d)), .int (iI (lev : Int)), .int (iI 0)] [] (enc T) = some (some (.int (iI (t : Int))), enc T') ∧ FrA aSg bSe T T' := by
  have hcb := cel_bd ho
  intro n
  induction n with
  | zero => intro lev T h1 h2; omega
  | succ n ih =>
    intro lev T hl _ hg hR
    obtain ⟨T1, tb, sb, e1, fr1, k28, k29, k30, kb, kt, ks⟩ := s_laysLots ho hg hR (r := lev + 1) (by omega)
    rw [show ((lev + 1 : Nat) : Int) = (lev : Int) + 1 by omega] at e1
    have hg1 : mBrk T1 a b c d := by unfold mBrk mGrd at *; rw [fr1.2.1 _ _ (by unfold bSe; omega), fr1.2.1 _ _ (by unfold bSe; omega), fr1.2.1 _ _ (by unfold bSe; omega)]; exact hg
    have hR1 : isRnk T1 a b c d kd := hR.fr (fun q k q1 q2 => fr1.1 q k (by unfold aSg aSe; omega))
    by_cases n0 : n = 0
    · have e : lev + 1 = t := by omega
      rw [e] at kt ks
      refine ⟨T1, ?_, fr1⟩
      rw [show (t : Int) = (lev : Int) + 1 by omega, e_Dm_grownOf_17]
      rcases hm with z | z
      · subst z
        have b1 : tb = 1 := kt.mpr (hf.1.elim (fun y => by omega) (fun y => y.2))
        subst b1
        have o1 : ((1 : Nat) : Int) = 1 := rfl
        simp (disch := first | omega | assumption | decide | (simp (disch := omega) only [iI_lit, iJ_lit, iJ_eq, iI_eq, bI_01, bI_01I] <;> omega)) only [e_Dm_grownOf_19, e_Dm_grownOf_22, e_Dm_grownOf_25, e_Dm_grownOf_26, e_Dm_grownOf_27, e_Dm_grownOf_29, e_Dm_grownOf_32, e_Dm_grownOf_33, e_Dm_grownOf_36, e_Dm_grownOf_37, e_Dm_grownOf_40, e_Dm_grownOf_43, e_Dm_grownOf_44, e_Dm_grownOf_47, e_Dm_grownOf_49, e_Dm_grownOf_52, e_Dm_grownOf_54, e_Dm_grownOf_17, bd_some, bd_none, Option.toList_some, Option.toList_none, List.nil_append, List.cons_append, px_kill_int, px_kill_long, px_kill_ref, px_kill_null, iI_lit, iJ_lit, iI_add, iI_sub, iI_mul, iI_neg, iJ_add, iJ_sub, iJ_mul, iJ_neg, iI_lt, iI_le, iI_eq, iJ_lt, iJ_le, iJ_eq, iI_div, iJ_div, tdiv_tmod, iI_J, iJ_I, iI_ix, iI_toInt, iJ_toInt, cmp_ge, cmp_lt, cmp_eq, cmp_gt, cmp_le, cmp_geI, cmp_ltI, cmp_eqI, cmp_gtI, cmp_leI, bI_0I, bI_1I, pin, if_true, e1, k29, o1, one0, if_false]
      · subst z
        have b1 : sb = 1 := ks.mpr (hf.1.elim (fun y => y.2) (fun y => by omega))
        subst b1
        have o1 : ((1 : Nat) : Int) = 1 := rfl
        simp (disch := first | omega | assumption | decide | (simp (disch := omega) only [iI_lit, iJ_lit, iJ_eq, iI_eq, bI_01, bI_01I] <;> omega)) only [e_Dm_grownOf_19, e_Dm_grownOf_22, e_Dm_grownOf_25, e_Dm_grownOf_26, e_Dm_grownOf_27, e_Dm_grownOf_29, e_Dm_grownOf_32, e_Dm_grownOf_33, e_Dm_grownOf_36, e_Dm_grownOf_37, e_Dm_grownOf_40, e_Dm_grownOf_43, e_Dm_grownOf_44, e_Dm_grownOf_47, e_Dm_grownOf_49, e_Dm_grownOf_52, e_Dm_grownOf_54, e_Dm_grownOf_17, bd_some, bd_none, Option.toList_some, Option.toList_none, List.nil_append, List.cons_append, px_kill_int, px_kill_long, px_kill_ref, px_kill_null, iI_lit, iJ_lit, iI_add, iI_sub, iI_mul, iI_neg, iJ_add, iJ_sub, iJ_mul, iJ_neg, iI_lt, iI_le, iI_eq, iJ_lt, iJ_le, iJ_eq, iI_div, iJ_div, tdiv_tmod, iI_J, iJ_I, iI_ix, iI_toInt, iJ_toInt, cmp_ge, cmp_lt, cmp_eq, cmp_gt, cmp_le, cmp_geI, cmp_ltI, cmp_eqI, cmp_gtI, cmp_leI, bI_0I, bI_1I, pin, if_true, e1, k30, o1, one0, if_false]
    · have hn := hf.2 (lev + 1) (by omega)
      obtain ⟨T', e2, fr2⟩ := ih (lev + 1) T1 (by omega) (by omega) hg1 hR1
      refine ⟨T', ?_, fr1.tr fr2⟩
      rw [← e2, e_Dm_grownOf_17, show ((lev + 1 : Nat) : Int) = (lev : Int) + 1 by omega]
      rcases hm with z | z
      · subst z
        have b1 : tb = 0 := by
          have : ¬ tb = 1 := fun q => hn (Or.inr ⟨rfl, kt.mp q⟩)
          omega
        subst b1
        have o1 : ((0 : Nat) : Int) = 0 := rfl
        simp (disch := first | omega | assumption | decide | (simp (disch := omega) only [iI_lit, iJ_lit, iJ_eq, iI_eq, bI_01, bI_01I] <;> omega)) only [e_Dm_grownOf_19, e_Dm_grownOf_22, e_Dm_grownOf_25, e_Dm_grownOf_26, e_Dm_grownOf_27, e_Dm_grownOf_29, e_Dm_grownOf_32, e_Dm_grownOf_33, e_Dm_grownOf_36, e_Dm_grownOf_37, e_Dm_grownOf_40, e_Dm_grownOf_43, e_Dm_grownOf_44, e_Dm_grownOf_47, e_Dm_grownOf_49, bd_some, bd_none, Option.toList_some, Option.toList_none, List.nil_append, List.cons_append, px_kill_int, px_kill_long, px_kill_ref, px_kill_null, iI_lit, iJ_lit, iI_add, iI_sub, iI_mul, iI_neg, iJ_add, iJ_sub, iJ_mul, iJ_neg, iI_lt, iI_le, iI_eq, iJ_lt, iJ_le, iJ_eq, iI_div, iJ_div, tdiv_tmod, iI_J, iJ_I, iI_ix, iI_toInt, iJ_toInt, cmp_ge, cmp_lt, cmp_eq, cmp_gt, cmp_le, cmp_geI, cmp_ltI, cmp_eqI, cmp_gtI, cmp_leI, bI_0I, bI_1I, pin, if_true, e1, k29, o1, one0, if_false]
      · subst z
        have b1 : sb = 0 := by
          have : ¬ sb = 1 := fun q => hn (Or.inl ⟨rfl, ks.mp q⟩)
          omega
        subst b1
        have o1 : ((0 : Nat) : Int) = 0 := rfl
        simp (disch := first | omega | assumption | decide | (simp (disch := omega) only [iI_lit, iJ_lit, iJ_eq, iI_eq, bI_01, bI_01I] <;> omega)) only [e_Dm_grownOf_19, e_Dm_grownOf_22, e_Dm_grownOf_25, e_Dm_grownOf_26, e_Dm_grownOf_27, e_Dm_grownOf_29, e_Dm_grownOf_32, e_Dm_grownOf_33, e_Dm_grownOf_36, e_Dm_grownOf_37, e_Dm_grownOf_40, e_Dm_grownOf_43, e_Dm_grownOf_44, e_Dm_grownOf_47, e_Dm_grownOf_49, bd_some, bd_none, Option.toList_some, Option.toList_none, List.nil_append, List.cons_append, px_kill_int, px_kill_long, px_kill_ref, px_kill_null, iI_lit, iJ_lit, iI_add, iI_sub, iI_mul, iI_neg, iJ_add, iJ_sub, iJ_mul, iJ_neg, iI_lt, iI_le, iI_eq, iJ_lt, iJ_le, iJ_eq, iI_div, iJ_div, tdiv_tmod, iI_J, iJ_I, iI_ix, iI_toInt, iJ_toInt, cmp_ge, cmp_lt, cmp_eq, cmp_gt, cmp_le, cmp_geI, cmp_ltI, cmp_eqI, cmp_gtI, cmp_leI, bI_0I, bI_1I, pin, if_true, e1, k30, o1, one0, if_false]
theorem FrM.ofS {T T' : TS} (h : FrA aSg bSe T T') : FrM T T' := ⟨fun q k z => h.1 q k (fun y => z (by unfold aSg aSe at y; unfold aRef; omega)), fun q k z => h.2.1 q k (fun y => z (by unfold bSe at y; omega)), h.2.2⟩
noncomputable abbrev gN (f : Nat → Int) (k : Nat) : Int := gG (f 0) (f 1) (f 2) (f 3) (f 4) k
set_option maxHeartbeats 1000000 in
theorem m_grownOf {T : TS} {V : VW} (hV : okV V) (h : cM T V) {j : Nat} (hj : j < V.1) {m : Int} (hm : m = 0 ∨ m = 1) : ∃ T', cl k_Dm_grownOf [.ref 53, .int (iI (j : Int)), .int (iI m)] (enc T) = some (some (.int (iI (gN (V.2 j) (gK m)))), enc T') ∧ FrM T T' := by
  obtain ⟨T1, e1, fr1, hM1, hB1, hR1⟩ := m_ranks hV h hj
  have ec := m_cell hV hM1 hj
  have ok := hV.2 j hj
  obtain ⟨t, ⟨t1, t2⟩, tf, tg⟩ := gP_ex (kd := V.2 j 4) ok.1 hm
  obtain ⟨T', e2, fr2⟩ := lp_gro ok.1 hm t2 tf (iI (j : Int)) t 0 T1 (by omega) (by omega) hB1 hR1
  refine ⟨T', ?_, fr1.tr (FrM.ofS fr2)⟩
  rw [show gN (V.2 j) (gK m) = (t : Int) from tg, ← e2]
  simp (disch := first | omega | assumption | decide | (simp (disch := omega) only [iI_lit, iJ_lit, iJ_eq, iI_eq, bI_01, bI_01I] <;> omega)) only [c_Dm_grownOf, e_Dm_grownOf_0, e_Dm_grownOf_1, e_Dm_grownOf_2, e_Dm_grownOf_5, e_Dm_grownOf_6, e_Dm_grownOf_7, e_Dm_grownOf_10, e_Dm_grownOf_11, e_Dm_grownOf_12, e_Dm_grownOf_14, e_Dm_grownOf_15, bd_some, bd_none, Option.toList_some, Option.toList_none, List.nil_append, List.cons_append, px_kill_int, px_kill_long, px_kill_ref, px_kill_null, iI_lit, iJ_lit, iI_add, iI_sub, iI_mul, iI_neg, iJ_add, iJ_sub, iJ_mul, iJ_neg, iI_lt, iI_le, iI_eq, iJ_lt, iJ_le, iJ_eq, iI_div, iJ_div, tdiv_tmod, iI_J, iJ_I, iI_ix, iI_toInt, iJ_toInt, cmp_ge, cmp_lt, cmp_eq, cmp_gt, cmp_le, cmp_geI, cmp_ltI, cmp_eqI, cmp_gtI, cmp_leI, bI_0I, bI_1I, pin, if_true, e1, ec]
  rfl
noncomputable def qDots (V : VW) (i l : Int) : Int := if isK V i ∧ 0 ≤ l ∧ l ≤ celN (V.2 i.toNat) then gN (V.2 i.toNat) l.toNat else -1
noncomputable def qGrown (V : VW) (i k : Int) : Int := if isK V i ∧ 0 ≤ k ∧ k ≤ 1 then gN (V.2 i.toNat) (gK k) else -1
set_option maxHeartbeats 1000000 in
theorem q_Dm_dots {T : TS} {V : VW} (hV : okV V) (h : cM T V) {i l : Int} (hi : inI i) (hl : inI l) : ∃ T', cl k_Dm_dots [.ref 53, .int (iI i), .int (iI l)] (enc T) = some (some (.int (iI (qDots V i l))), enc T') ∧ FrM T T' := by
  have hM : cM (t0 T) V := h.fr (t0_fr T)
  have g1 := g_inM hV hM hi
  obtain ⟨i1, i2⟩ := id hi
  obtain ⟨l1, l2⟩ := id hl
  unfold qDots
  by_cases c1 : isK V i
  · rw [bI_tI c1] at g1
    obtain ⟨j, rfl⟩ : ∃ j : Nat, i = (j : Int) := ⟨i.toNat, by omega⟩
    have hj : j < V.1 := by have := c1.2; omega
    have ej : ((j : Int)).toNat = j := by omega
    have ok := hV.2 j hj
    have hcb : 0 < celN (V.2 j) ∧ celN (V.2 j) ≤ 144 := cel_bd ok.1
    have ec := m_cell hV hM hj
    have g2 := s_in (x := l) (l := 0) (h := celN (V.2 j)) (enc (t0 T)) (by omega) (by omega) (by omega)
    rw [ej]
    by_cases c2 : 0 ≤ l ∧ l ≤ celN (V.2 j)
    · rw [bI_tI c2] at g2
      rw [if_pos ⟨c1, c2⟩]
      obtain ⟨r, rfl⟩ : ∃ r : Nat, l = (r : Int) := ⟨l.toNat, by omega⟩
      have er : ((r : Int)).toNat = r := by omega
      obtain ⟨T2, e2, fr2, hM2, hB2, hR2⟩ := m_ranks hV hM hj
      have ec2 := m_cell hV hM2 hj
      obtain ⟨T3, tb, sb, e3, fr3, k28, -⟩ := s_laysLots ok.1 hB2 hR2 (r := r) c2.2
      refine ⟨T3, ?_, ((t0_fr T).tr fr2).tr (FrM.ofS fr3)⟩
      rw [er]
      simp (disch := first | omega | assumption | decide | (simp (disch := omega) only [iI_lit, iJ_lit, iJ_eq, iI_eq, bI_01, bI_01I] <;> omega)) only [c_Dm_dots, e_Dm_dots_0, e_Dm_dots_1, e_Dm_dots_2, e_Dm_dots_5, e_Dm_dots_6, e_Dm_dots_7, e_Dm_dots_10, e_Dm_dots_13, e_Dm_dots_14, e_Dm_dots_15, e_Dm_dots_16, e_Dm_dots_17, e_Dm_dots_18, e_Dm_dots_21, e_Dm_dots_22, e_Dm_dots_25, e_Dm_dots_28, e_Dm_dots_29, e_Dm_dots_30, e_Dm_dots_31, e_Dm_dots_32, e_Dm_dots_35, e_Dm_dots_36, e_Dm_dots_37, e_Dm_dots_38, e_Dm_dots_41, e_Dm_dots_42, e_Dm_dots_45, e_Dm_dots_46, e_Dm_dots_49, bd_some, bd_none, Option.toList_some, Option.toList_none, List.nil_append, List.cons_append, px_kill_int, px_kill_long, px_kill_ref, px_kill_null, iI_lit, iJ_lit, iI_add, iI_sub, iI_mul, iI_neg, iJ_add, iJ_sub, iJ_mul, iJ_neg, iI_lt, iI_le, iI_eq, iJ_lt, iJ_le, iJ_eq, iI_div, iJ_div, tdiv_tmod, iI_J, iJ_I, iI_ix, iI_toInt, iJ_toInt, cmp_ge, cmp_lt, cmp_eq, cmp_gt, cmp_le, cmp_geI, cmp_ltI, cmp_eqI, cmp_gtI, cmp_leI, bI_0I, bI_1I, pin, if_true, g1, ec, g2, one0, if_false, e2, ec2, e3, k28]
    · rw [bI_fI c2] at g2
      rw [if_neg (fun z => c2 z.2)]
      refine ⟨t0 T, ?_, t0_fr T⟩
      simp (disch := first | omega | assumption | decide | (simp (disch := omega) only [iI_lit, iJ_lit, iJ_eq, iI_eq, bI_01, bI_01I] <;> omega)) only [c_Dm_dots, e_Dm_dots_0, e_Dm_dots_1, e_Dm_dots_2, e_Dm_dots_5, e_Dm_dots_6, e_Dm_dots_7, e_Dm_dots_10, e_Dm_dots_13, e_Dm_dots_14, e_Dm_dots_15, e_Dm_dots_16, e_Dm_dots_17, e_Dm_dots_18, e_Dm_dots_21, e_Dm_dots_22, e_Dm_dots_25, e_Dm_dots_28, e_Dm_dots_29, e_Dm_dots_30, e_Dm_dots_31, e_Dm_dots_32, e_Dm_dots_35, e_Dm_dots_36, e_Dm_dots_37, e_Dm_dots_38, e_Dm_dots_41, e_Dm_dots_42, e_Dm_dots_45, e_Dm_dots_46, e_Dm_dots_49, bd_some, bd_none, Option.toList_some, Option.toList_none, List.nil_append, List.cons_append, px_kill_int, px_kill_long, px_kill_ref, px_kill_null, iI_lit, iJ_lit, iI_add, iI_sub, iI_mul, iI_neg, iJ_add, iJ_sub, iJ_mul, iJ_neg, iI_lt, iI_le, iI_eq, iJ_lt, iJ_le, iJ_eq, iI_div, iJ_div, tdiv_tmod, iI_J, iJ_I, iI_ix, iI_toInt, iJ_toInt, cmp_ge, cmp_lt, cmp_eq, cmp_gt, cmp_le, cmp_geI, cmp_ltI, cmp_eqI, cmp_gtI, cmp_leI, bI_0I, bI_1I, pin, if_true, g1, ec, g2, one0, if_false]
  · rw [bI_fI c1] at g1
    rw [if_neg (fun z => c1 z.1)]
    refine ⟨t0 T, ?_, t0_fr T⟩
    simp (disch := first | omega | assumption | decide | (simp (disch := omega) only [iI_lit, iJ_lit, iJ_eq, iI_eq, bI_01, bI_01I] <;> omega)) only [c_Dm_dots, e_Dm_dots_0, e_Dm_dots_1, e_Dm_dots_2, e_Dm_dots_5, e_Dm_dots_6, e_Dm_dots_7, e_Dm_dots_10, e_Dm_dots_13, e_Dm_dots_14, e_Dm_dots_15, e_Dm_dots_16, e_Dm_dots_17, e_Dm_dots_18, e_Dm_dots_21, e_Dm_dots_22, e_Dm_dots_25, e_Dm_dots_28, e_Dm_dots_29, e_Dm_dots_30, e_Dm_dots_31, e_Dm_dots_32, e_Dm_dots_35, e_Dm_dots_36, e_Dm_dots_37, e_Dm_dots_38, e_Dm_dots_41, e_Dm_dots_42, e_Dm_dots_45, e_Dm_dots_46, e_Dm_dots_49, bd_some, bd_none, Option.toList_some, Option.toList_none, List.nil_append, List.cons_append, px_kill_int, px_kill_long, px_kill_ref, px_kill_null, iI_lit, iJ_lit, iI_add, iI_sub, iI_mul, iI_neg, iJ_add, iJ_sub, iJ_mul, iJ_neg, iI_lt, iI_le, iI_eq, iJ_lt, iJ_le, iJ_eq, iI_div, iJ_div, tdiv_tmod, iI_J, iJ_I, iI_ix, iI_toInt, iJ_toInt, cmp_ge, cmp_lt, cmp_eq, cmp_gt, cmp_le, cmp_geI, cmp_ltI, cmp_eqI, cmp_gtI, cmp_leI, bI_0I, bI_1I, pin, if_true, g1]
set_option maxHeartbeats 1000000 in
theorem q_Dm_grown {T : TS} {V : VW} (hV : okV V) (h : cM T V) {i k : Int} (hi : inI i) (hk : inI k) : ∃ T', cl k_Dm_grown [.ref 53, .int (iI i), .int (iI k)] (enc T) = some (some (.int (iI (qGrown V i k))), enc T') ∧ FrM T T' := by
  have hM : cM (t0 T) V := h.fr (t0_fr T)
  have g1 := g_inM hV hM hi
  obtain ⟨i1, i2⟩ := id hi
  obtain ⟨k1, k2⟩ := id hk
  have g2 := s_in (x := k) (l := 0) (h := 1) (enc (t0 T)) (by omega) (by omega) (by omega)
  unfold qGrown
  by_cases c1 : isK V i
  · rw [bI_tI c1] at g1
    obtain ⟨j, rfl⟩ : ∃ j : Nat, i = (j : Int) := ⟨i.toNat, by omega⟩
    have hj : j < V.1 := by have := c1.2; omega
    have ej : ((j : Int)).toNat = j := by omega
    rw [ej]
    by_cases c2 : 0 ≤ k ∧ k ≤ 1
    · rw [bI_tI c2] at g2
      rw [if_pos ⟨c1, c2⟩]
      obtain ⟨T2, e2, fr2⟩ := m_grownOf hV hM hj (m := k) (by omega)
      refine ⟨T2, ?_, (t0_fr T).tr fr2⟩
      by_cases k0 : k = 0
      · subst k0
        have z01 : ¬ (0 : Int) = 1 := by omega
        simp (disch := first | omega | assumption | decide | (simp (disch := omega) only [iI_lit, iJ_lit, iJ_eq, iI_eq, bI_01, bI_01I] <;> omega)) only [c_Dm_grown, e_Dm_grown_0, e_Dm_grown_1, e_Dm_grown_2, e_Dm_grown_5, e_Dm_grown_6, e_Dm_grown_7, e_Dm_grown_10, e_Dm_grown_13, e_Dm_grown_14, e_Dm_grown_15, e_Dm_grown_16, e_Dm_grown_17, e_Dm_grown_20, e_Dm_grown_23, e_Dm_grown_24, e_Dm_grown_25, e_Dm_grown_26, e_Dm_grown_27, e_Dm_grown_30, e_Dm_grown_31, e_Dm_grown_34, e_Dm_grown_35, e_Dm_grown_38, e_Dm_grown_41, e_Dm_grown_42, bd_some, bd_none, Option.toList_some, Option.toList_none, List.nil_append, List.cons_append, px_kill_int, px_kill_long, px_kill_ref, px_kill_null, iI_lit, iJ_lit, iI_add, iI_sub, iI_mul, iI_neg, iJ_add, iJ_sub, iJ_mul, iJ_neg, iI_lt, iI_le, iI_eq, iJ_lt, iJ_le, iJ_eq, iI_div, iJ_div, tdiv_tmod, iI_J, iJ_I, iI_ix, iI_toInt, iJ_toInt, cmp_ge, cmp_lt, cmp_eq, cmp_gt, cmp_le, cmp_geI, cmp_ltI, cmp_eqI, cmp_gtI, cmp_leI, bI_0I, bI_1I, pin, if_true, g1, g2, one0, if_false, z01, e2]
      · have k1 : k = 1 := by omega
        subst k1
        simp (disch := first | omega | assumption | decide | (simp (disch := omega) only [iI_lit, iJ_lit, iJ_eq, iI_eq, bI_01, bI_01I] <;> omega)) only [c_Dm_grown, e_Dm_grown_0, e_Dm_grown_1, e_Dm_grown_2, e_Dm_grown_5, e_Dm_grown_6, e_Dm_grown_7, e_Dm_grown_10, e_Dm_grown_13, e_Dm_grown_14, e_Dm_grown_15, e_Dm_grown_16, e_Dm_grown_17, e_Dm_grown_20, e_Dm_grown_23, e_Dm_grown_24, e_Dm_grown_25, e_Dm_grown_26, e_Dm_grown_27, e_Dm_grown_30, e_Dm_grown_31, e_Dm_grown_34, e_Dm_grown_35, e_Dm_grown_38, e_Dm_grown_41, e_Dm_grown_42, bd_some, bd_none, Option.toList_some, Option.toList_none, List.nil_append, List.cons_append, px_kill_int, px_kill_long, px_kill_ref, px_kill_null, iI_lit, iJ_lit, iI_add, iI_sub, iI_mul, iI_neg, iJ_add, iJ_sub, iJ_mul, iJ_neg, iI_lt, iI_le, iI_eq, iJ_lt, iJ_le, iJ_eq, iI_div, iJ_div, tdiv_tmod, iI_J, iJ_I, iI_ix, iI_toInt, iJ_toInt, cmp_ge, cmp_lt, cmp_eq, cmp_gt, cmp_le, cmp_geI, cmp_ltI, cmp_eqI, cmp_gtI, cmp_leI, bI_0I, bI_1I, pin, if_true, g1, g2, one0, if_false, e2]
    · rw [bI_fI c2] at g2
      rw [if_neg (fun z => c2 z.2)]
      refine ⟨t0 T, ?_, t0_fr T⟩
      simp (disch := first | omega | assumption | decide | (simp (disch := omega) only [iI_lit, iJ_lit, iJ_eq, iI_eq, bI_01, bI_01I] <;> omega)) only [c_Dm_grown, e_Dm_grown_0, e_Dm_grown_1, e_Dm_grown_2, e_Dm_grown_5, e_Dm_grown_6, e_Dm_grown_7, e_Dm_grown_10, e_Dm_grown_13, e_Dm_grown_14, e_Dm_grown_15, e_Dm_grown_16, e_Dm_grown_17, e_Dm_grown_20, e_Dm_grown_23, e_Dm_grown_24, e_Dm_grown_25, e_Dm_grown_26, e_Dm_grown_27, e_Dm_grown_30, e_Dm_grown_31, e_Dm_grown_34, e_Dm_grown_35, e_Dm_grown_38, e_Dm_grown_41, e_Dm_grown_42, bd_some, bd_none, Option.toList_some, Option.toList_none, List.nil_append, List.cons_append, px_kill_int, px_kill_long, px_kill_ref, px_kill_null, iI_lit, iJ_lit, iI_add, iI_sub, iI_mul, iI_neg, iJ_add, iJ_sub, iJ_mul, iJ_neg, iI_lt, iI_le, iI_eq, iJ_lt, iJ_le, iJ_eq, iI_div, iJ_div, tdiv_tmod, iI_J, iJ_I, iI_ix, iI_toInt, iJ_toInt, cmp_ge, cmp_lt, cmp_eq, cmp_gt, cmp_le, cmp_geI, cmp_ltI, cmp_eqI, cmp_gtI, cmp_leI, bI_0I, bI_1I, pin, if_true, g1, g2, one0, if_false]
  · rw [bI_fI c1] at g1
    rw [if_neg (fun z => c1 z.1)]
    refine ⟨t0 T, ?_, t0_fr T⟩
    simp (disch := first | omega | assumption | decide | (simp (disch := omega) only [iI_lit, iJ_lit, iJ_eq, iI_eq, bI_01, bI_01I] <;> omega)) only [c_Dm_grown, e_Dm_grown_0, e_Dm_grown_1, e_Dm_grown_2, e_Dm_grown_5, e_Dm_grown_6, e_Dm_grown_7, e_Dm_grown_10, e_Dm_grown_13, e_Dm_grown_14, e_Dm_grown_15, e_Dm_grown_16, e_Dm_grown_17, e_Dm_grown_20, e_Dm_grown_23, e_Dm_grown_24, e_Dm_grown_25, e_Dm_grown_26, e_Dm_grown_27, e_Dm_grown_30, e_Dm_grown_31, e_Dm_grown_34, e_Dm_grown_35, e_Dm_grown_38, e_Dm_grown_41, e_Dm_grown_42, bd_some, bd_none, Option.toList_some, Option.toList_none, List.nil_append, List.cons_append, px_kill_int, px_kill_long, px_kill_ref, px_kill_null, iI_lit, iJ_lit, iI_add, iI_sub, iI_mul, iI_neg, iJ_add, iJ_sub, iJ_mul, iJ_neg, iI_lt, iI_le, iI_eq, iJ_lt, iJ_le, iJ_eq, iI_div, iJ_div, tdiv_tmod, iI_J, iJ_I, iI_ix, iI_toInt, iJ_toInt, cmp_ge, cmp_lt, cmp_eq, cmp_gt, cmp_le, cmp_geI, cmp_ltI, cmp_eqI, cmp_gtI, cmp_leI, bI_0I, bI_1I, pin, if_true, g1]
