/-! THE COMPONENT SORTS ITS HOMES. -/
/-- what sort may write -/
def aSort (p q k : Nat) : Prop := q = p + 3 ∨ q = p + 4 ∨ q = p + 5 ∨ (q = p ∧ k = 13)
theorem inkP.sort {T T' : TS} {p : Nat} {a b c d kd : Int} (h : inkP T p a b c d kd) (hf : FrI (aSort p) T T') : inkP T' p a b c d kd :=
  h.fr hf (fun k => by unfold aSort; omega) (by unfold aSort; omega) (by unfold aSort; omega)
theorem cel_bd {a b c d : Int} (ho : okS a b c d) : 0 < cel a b c d ∧ cel a b c d ≤ 144 := by obtain ⟨o1, o2, o3, o4, o5, o6⟩ := ho; unfold cel; omega
set_option maxHeartbeats 1000000 in
/-- the inner loop: greater ones go one on -/
theorem lp_csort1 {p : Nat} {a b c d kd : Int} (f : Nat → Int) (o : Nat → Nat) (i : Nat) (v : Int) (hi : i < 144) (hv : 0 ≤ v ∧ v ≤ 1800000000) (ho : ∀ r, r < i → o r < i) (hfb : ∀ r, r < i → 0 ≤ f r ∧ f r ≤ 1800000000) : ∀ (k : Nat) (T : TS), k ≤ i → inkP T p a b c d kd → (∀ r, r < i → T.1 (p + 3) r = iI (f r)) → (∀ r, r < k → T.1 (p + 5) r = iI (o r : Int)) → (∀ r, k < r → r ≤ i → T.1 (p + 5) r = iI (o (r - 1) : Int)) →
    ∃ T', rn k_Ink_sort 44 [.ref p, .int (iI (i : Int)), .int (iI v), .int (iI (k : Int))] [] (enc T) = rn k_Ink_sort 87 [.ref p, .int (iI (i : Int)), .int (iI v), .int (iI ((insP f o v k : Nat) : Int))] [] (enc T') ∧ FrI (fun q _ => q = p + 5) T T' ∧ (∀ r, r < insP f o v k → T'.1 (p + 5) r = iI (o r : Int)) ∧ (∀ r, insP f o v k < r → r ≤ i → T'.1 (p + 5) r = iI (o (r - 1) : Int)) := by
  intro k
  induction k with
  | zero =>
    intro T hk hI hsp h1 h2
    refine ⟨T, ?_, FrI.rf _ _, h1, h2⟩
    rw [e_Ink_sort_44]
    have h00 : ((0 : Nat) : Int) ≤ 0 := by omega
    simp (disch := first | omega | assumption | decide | (simp (disch := omega) only [iI_lit, iJ_lit, iJ_eq, iI_eq, bI_01, bI_01I] <;> omega)) only [e_Ink_sort_45, e_Ink_sort_48, e_Ink_sort_49, e_Ink_sort_52, e_Ink_sort_53, e_Ink_sort_56, e_Ink_sort_57, e_Ink_sort_58, e_Ink_sort_59, e_Ink_sort_60, e_Ink_sort_63, e_Ink_sort_64, e_Ink_sort_67, e_Ink_sort_68, e_Ink_sort_71, e_Ink_sort_72, e_Ink_sort_73, e_Ink_sort_76, e_Ink_sort_77, e_Ink_sort_78, e_Ink_sort_79, e_Ink_sort_80, e_Ink_sort_81, e_Ink_sort_84, bd_some, bd_none, Option.toList_some, Option.toList_none, List.nil_append, List.cons_append, px_kill_int, px_kill_long, px_kill_ref, px_kill_null, iI_lit, iJ_lit, iI_add, iI_sub, iI_mul, iI_neg, iJ_add, iJ_sub, iJ_mul, iJ_neg, iI_lt, iI_le, iI_eq, iJ_lt, iJ_le, iJ_eq, iI_div, iJ_div, tdiv_tmod, iI_J, iJ_I, iI_ix, iI_toInt, iJ_toInt, cmp_ge, cmp_lt, cmp_eq, cmp_gt, cmp_le, cmp_geI, cmp_ltI, cmp_eqI, cmp_gtI, cmp_leI, bI_0I, bI_1I, pin, if_true, insP, h00]
  | succ k ih =>
    intro T hk hI hsp h1 h2
    have hp := hI.1
    have q3 := ink_s3 hp
    have q5 := ink_s5 hp
    have q3' : (sh (p + 3)).1 = 0 := by rw [q3]
    have q5' : (sh (p + 5)).1 = 0 := by rw [q5]
    have hok := h1 k (by omega)
    have holt := ho k (by omega)
    have hspk := hsp (o k) holt
    have hfk := hfb (o k) holt
    have hneg : ¬ ((k + 1 : Nat) : Int) ≤ 0 := by omega
    have e1 : (((k + 1 : Nat) : Int) - 1).toNat = k := by omega
    have e2 : ((o k : Nat) : Int).toNat = o k := by omega
    have hat : cl k_Ds_at [.ref (p + 3), .int (iI ((o k : Nat) : Int))] (enc T) = some (some (.int (iI (f (o k)))), enc T) := by
      rw [s_at (p + 3) _ T q3', q3, if_pos (by rw [px_in, iI_toInt (by omega) (by omega)]; omega), iI_ix (by omega) (by omega), e2, hspk]
    by_cases hc : f (o k) ≤ v
    · refine ⟨T, ?_, FrI.rf _ _, ?_, ?_⟩
      · rw [e_Ink_sort_44]
        simp (disch := first | omega | assumption | decide | (simp (disch := omega) only [iI_lit, iJ_lit, iJ_eq, iI_eq, bI_01, bI_01I] <;> omega)) only [e_Ink_sort_45, e_Ink_sort_48, e_Ink_sort_49, e_Ink_sort_52, e_Ink_sort_53, e_Ink_sort_56, e_Ink_sort_57, e_Ink_sort_58, e_Ink_sort_59, e_Ink_sort_60, e_Ink_sort_63, e_Ink_sort_64, e_Ink_sort_67, e_Ink_sort_68, e_Ink_sort_71, e_Ink_sort_72, e_Ink_sort_73, e_Ink_sort_76, e_Ink_sort_77, e_Ink_sort_78, e_Ink_sort_79, e_Ink_sort_80, e_Ink_sort_81, e_Ink_sort_84, bd_some, bd_none, Option.toList_some, Option.toList_none, List.nil_append, List.cons_append, px_kill_int, px_kill_long, px_kill_ref, px_kill_null, iI_lit, iJ_lit, iI_add, iI_sub, iI_mul, iI_neg, iJ_add, iJ_sub, iJ_mul, iJ_neg, iI_lt, iI_le, iI_eq, iJ_lt, iJ_le, iJ_eq, iI_div, iJ_div, tdiv_tmod, iI_J, iJ_I, iI_ix, iI_toInt, iJ_toInt, cmp_ge, cmp_lt, cmp_eq, cmp_gt, cmp_le, cmp_geI, cmp_ltI, cmp_eqI, cmp_gtI, cmp_leI, bI_0I, bI_1I, pin, if_true, hneg, if_false, q5, e1, hok, hat, hc]
        rw [insP, if_neg (by omega)]
      · rw [insP, if_neg (by omega)]; exact h1
      · rw [insP, if_neg (by omega)]; exact h2
    · have step : rn k_Ink_sort 44 [.ref p, .int (iI (i : Int)), .int (iI v), .int (iI ((k + 1 : Nat) : Int))] [] (enc T) = rn k_Ink_sort 44 [.ref p, .int (iI (i : Int)), .int (iI v), .int (iI ((k : Nat) : Int))] [] (enc (sI T (p + 5) (k + 1) (iI (o k : Int)))) := by
        rw [e_Ink_sort_44]
        simp (disch := first | omega | assumption | decide | (simp (disch := omega) only [iI_lit, iJ_lit, iJ_eq, iI_eq, bI_01, bI_01I] <;> omega)) only [e_Ink_sort_45, e_Ink_sort_48, e_Ink_sort_49, e_Ink_sort_52, e_Ink_sort_53, e_Ink_sort_56, e_Ink_sort_57, e_Ink_sort_58, e_Ink_sort_59, e_Ink_sort_60, e_Ink_sort_63, e_Ink_sort_64, e_Ink_sort_67, e_Ink_sort_68, e_Ink_sort_71, e_Ink_sort_72, e_Ink_sort_73, e_Ink_sort_76, e_Ink_sort_77, e_Ink_sort_78, e_Ink_sort_79, e_Ink_sort_80, e_Ink_sort_81, e_Ink_sort_84, bd_some, bd_none, Option.toList_some, Option.toList_none, List.nil_append, List.cons_append, px_kill_int, px_kill_long, px_kill_ref, px_kill_null, iI_lit, iJ_lit, iI_add, iI_sub, iI_mul, iI_neg, iJ_add, iJ_sub, iJ_mul, iJ_neg, iI_lt, iI_le, iI_eq, iJ_lt, iJ_le, iJ_eq, iI_div, iJ_div, tdiv_tmod, iI_J, iJ_I, iI_ix, iI_toInt, iJ_toInt, cmp_ge, cmp_lt, cmp_eq, cmp_gt, cmp_le, cmp_geI, cmp_ltI, cmp_eqI, cmp_gtI, cmp_leI, bI_0I, bI_1I, pin, if_true, hneg, if_false, q5, e1, hok, hat, hc]
        rw [show ((k + 1 : Nat) : Int) + -1 = (k : Int) by omega, show ((k + 1 : Nat) : Int).toNat = k + 1 by omega]
      have fr1 : FrI (fun q _ => q = p + 5) T (sI T (p + 5) (k + 1) (iI (o k : Int))) := (FrI.rf _ _).wr _ rfl
      obtain ⟨T', e, fr, g1, g2⟩ := ih (sI T (p + 5) (k + 1) (iI (o k : Int))) (by omega) (hI.sort (fr1.mono (fun q j h => by unfold aSort; omega))) (fun r hr => by
        rw [sI_get, if_neg (by omega)]; exact hsp r hr) (fun r hr => by
        rw [sI_get, if_neg (by omega)]; exact h1 r (by omega)) (fun r hr hri => by
        rw [sI_get]
        by_cases hrk : r = k + 1
        · rw [if_pos ⟨rfl, hrk⟩, hrk]; rfl
        · rw [if_neg (by omega)]; exact h2 r (by omega) hri)
      refine ⟨T', ?_, fr1.tr fr, ?_, ?_⟩
      · rw [step, e, insP, if_pos (by omega)]
      · rw [insP, if_pos (by omega)]; exact g1
      · rw [insP, if_pos (by omega)]; exact g2
set_option maxHeartbeats 1000000 in
/-- the outer loop -/
theorem lp_csort2 {p : Nat} {a b c d kd : Int} : ∀ (n i : Nat) (T : TS), (i : Int) + n = cel a b c d → inkP T p a b c d kd → (∀ r, r < i → T.1 (p + 3) r = iI (fSp a b c d kd r)) → (∀ r, r < i → T.1 (p + 5) r = iI ((ordS (fSp a b c d kd) i r : Nat) : Int)) → ∀ (a2 a3 : Value), (a2 = .null ∨ ∃ z, a2 = .int z) →
    ∃ T' x2 x3, rn k_Ink_sort 10 [.ref p, .int (iI (i : Int)), a2, a3] [] (enc T) = rn k_Ink_sort 100 [.ref p, .int (iI (cel a b c d)), x2, x3] [] (enc T') ∧ FrI (aSort p) T T' ∧ (∀ r : Nat, (r : Int) < cel a b c d → T'.1 (p + 3) r = iI (fSp a b c d kd r)) ∧ (∀ r : Nat, (r : Int) < cel a b c d → T'.1 (p + 5) r = iI ((ordS (fSp a b c d kd) (cel a b c d).toNat r : Nat) : Int)) ∧ (x2 = .null ∨ ∃ z, x2 = .int z) := by
  intro n
  induction n with
  | zero =>
    intro i T hin hI hsp hor a2 a3 ha2
    have hie : (i : Int) = cel a b c d := by omega
    have hcb := cel_bd hI.2.1
    refine ⟨T, a2, a3, ?_, FrI.rf _ _, fun r hr => hsp r (by omega), fun r hr => by rw [show (cel a b c d).toNat = i by omega]; exact hor r (by omega), ha2⟩
    have hp := hI.1
    have hc := hI.2.2.2.2.1
    rw [e_Ink_sort_10, hie]
    simp (disch := first | omega | assumption | decide | (simp (disch := omega) only [iI_lit, iJ_lit, iJ_eq, iI_eq, bI_01, bI_01I] <;> omega)) only [e_Ink_sort_11, e_Ink_sort_12, e_Ink_sort_15, bd_some, bd_none, Option.toList_some, Option.toList_none, List.nil_append, List.cons_append, px_kill_int, px_kill_long, px_kill_ref, px_kill_null, iI_lit, iJ_lit, iI_add, iI_sub, iI_mul, iI_neg, iJ_add, iJ_sub, iJ_mul, iJ_neg, iI_lt, iI_le, iI_eq, iJ_lt, iJ_le, iJ_eq, iI_div, iJ_div, tdiv_tmod, iI_J, iJ_I, iI_ix, iI_toInt, iJ_toInt, cmp_ge, cmp_lt, cmp_eq, cmp_gt, cmp_le, cmp_geI, cmp_ltI, cmp_eqI, cmp_gtI, cmp_leI, bI_0I, bI_1I, pin, if_true, hc, Int.le_refl]
  | succ n ih =>
    intro i T hin hI hsp hor a2 a3 ha2
    have hcb := cel_bd hI.2.1
    obtain ⟨hp, hok, hscr, hgrd, hc, hkd, hkb⟩ := id hI
    obtain ⟨f1, f2, f3, f4, f5, f6⟩ := brk_facts hok
    have hG := okG_brk hok
    have hnge : ¬ cel a b c d ≤ (i : Int) := by omega
    have q3 := ink_s3 hp
    have q5 := ink_s5 hp
    have q3' : (sh (p + 3)).1 = 0 := by rw [q3]
    have q5' : (sh (p + 5)).1 = 0 := by rw [q5]
    have hm := home_n (w := bkW (brk a b c d)) (h := bkH (brk a b c d)) (n := i) f1 (by rw [f5]; omega)
    have hfb := fSp_bd (kd := kd) hok (n := i) (by omega)
    have s1 : rn k_Ink_sort 10 [.ref p, .int (iI (i : Int)), a2, a3] [] (enc T) = rn k_Ink_sort 44 [.ref p, .int (iI (i : Int)), .int (iI (fSp a b c d kd i)), .int (iI (i : Int))] [] (enc (sI T (p + 3) i (iI (fSp a b c d kd i)))) := by
      rw [e_Ink_sort_10]
      have h9 := s_spotOf hp hok hgrd hscr hc hkd hkb hm.1 hm.2
      simp (disch := first | omega | assumption | decide | (simp (disch := omega) only [iI_lit, iJ_lit, iJ_eq, iI_eq, bI_01, bI_01I] <;> omega)) only [e_Ink_sort_11, e_Ink_sort_12, e_Ink_sort_15, e_Ink_sort_18, e_Ink_sort_19, e_Ink_sort_20, e_Ink_sort_21, e_Ink_sort_22, e_Ink_sort_25, e_Ink_sort_26, e_Ink_sort_27, e_Ink_sort_28, e_Ink_sort_31, e_Ink_sort_34, e_Ink_sort_35, e_Ink_sort_36, e_Ink_sort_39, e_Ink_sort_40, e_Ink_sort_41, e_Ink_sort_42, e_Ink_sort_43, bd_some, bd_none, Option.toList_some, Option.toList_none, List.nil_append, List.cons_append, px_kill_int, px_kill_long, px_kill_ref, px_kill_null, iI_lit, iJ_lit, iI_add, iI_sub, iI_mul, iI_neg, iJ_add, iJ_sub, iJ_mul, iJ_neg, iI_lt, iI_le, iI_eq, iJ_lt, iJ_le, iJ_eq, iI_div, iJ_div, tdiv_tmod, iI_J, iJ_I, iI_ix, iI_toInt, iJ_toInt, cmp_ge, cmp_lt, cmp_eq, cmp_gt, cmp_le, cmp_geI, cmp_ltI, cmp_eqI, cmp_gtI, cmp_leI, bI_0I, bI_1I, pin, if_true, hc, hnge, if_false, s_axis0 T hp hgrd hG (n := (i : Int)) (by omega), s_axis1 T hp hgrd hG (n := (i : Int)) (by omega), h9, q3]
      rw [show ((i : Nat) : Int).toNat = i by omega]
      rcases ha2 with rfl | ⟨z, rfl⟩ <;> rfl
    have fr1 : FrI (aSort p) T (sI T (p + 3) i (iI (fSp a b c d kd i))) := (FrI.rf _ _).wr _ (Or.inl rfl)
    obtain ⟨T2, e2, fr2, g1, g2⟩ := lp_csort1 (p := p) (fSp a b c d kd) (ordS (fSp a b c d kd) i) i (fSp a b c d kd i) (by omega) hfb (fun r hr => ordS_lt _ i r hr) (fun r hr => fSp_bd hok (by omega)) i (sI T (p + 3) i (iI (fSp a b c d kd i))) (Nat.le_refl _) (hI.sort fr1) (fun r hr => by rw [sI_get, if_neg (by omega)]; exact hsp r hr) (fun r hr => by rw [sI_get, if_neg (by omega)]; exact hor r hr) (fun r h1 h2 => by omega)
    have hpos := insP_le (fSp a b c d kd) (ordS (fSp a b c d kd) i) (fSp a b c d kd i) i
    have hstep : ordS (fSp a b c d kd) (i + 1) = insO (ordS (fSp a b c d kd) i) i (insP (fSp a b c d kd) (ordS (fSp a b c d kd) i) (fSp a b c d kd i) i) := rfl
    generalize insP (fSp a b c d kd) (ordS (fSp a b c d kd) i) (fSp a b c d kd i) i = k at *
    have fr3 : FrI (aSort p) T (sI T2 (p + 5) k (iI (i : Int))) := (fr1.tr (fr2.mono (fun q j h => by unfold aSort; omega))).wr _ (Or.inr (Or.inr (Or.inl rfl)))
    have s3 : rn k_Ink_sort 87 [.ref p, .int (iI (i : Int)), .int (iI (fSp a b c d kd i)), .int (iI (k : Int))] [] (enc T2) = rn k_Ink_sort 10 [.ref p, .int (iI ((i + 1 : Nat) : Int)), .int (iI (fSp a b c d kd i)), .int (iI (k : Int))] [] (enc (sI T2 (p + 5) k (iI (i : Int)))) := by
      simp (disch := first | omega | assumption | decide | (simp (disch := omega) only [iI_lit, iJ_lit, iJ_eq, iI_eq, bI_01, bI_01I] <;> omega)) only [e_Ink_sort_87, e_Ink_sort_88, e_Ink_sort_91, e_Ink_sort_92, e_Ink_sort_93, e_Ink_sort_94, e_Ink_sort_97, bd_some, bd_none, Option.toList_some, Option.toList_none, List.nil_append, List.cons_append, px_kill_int, px_kill_long, px_kill_ref, px_kill_null, iI_lit, iJ_lit, iI_add, iI_sub, iI_mul, iI_neg, iJ_add, iJ_sub, iJ_mul, iJ_neg, iI_lt, iI_le, iI_eq, iJ_lt, iJ_le, iJ_eq, iI_div, iJ_div, tdiv_tmod, iI_J, iJ_I, iI_ix, iI_toInt, iJ_toInt, cmp_ge, cmp_lt, cmp_eq, cmp_gt, cmp_le, cmp_geI, cmp_ltI, cmp_eqI, cmp_gtI, cmp_leI, bI_0I, bI_1I, pin, if_true, q5]
      rw [show ((k : Nat) : Int).toNat = k by omega, show ((i + 1 : Nat) : Int) = (i : Int) + 1 by omega]
    obtain ⟨T', x2, x3, e4, fr4, r1, r2, hx2⟩ := ih (i + 1) (sI T2 (p + 5) k (iI (i : Int))) (by omega) (hI.sort fr3) (fun r hr => by
      rw [sI_get, if_neg (by omega), fr2.1 _ _ (by omega), sI_get]
      by_cases hri : r = i
      · rw [if_pos ⟨rfl, hri⟩, hri]
      · rw [if_neg (by omega)]; exact hsp r (by omega)) (fun r hr => by
      rw [sI_get, hstep]
      unfold insO
      by_cases hrk : r = k
      · rw [if_pos ⟨rfl, hrk⟩, if_neg (by omega), if_pos hrk]
      · rw [if_neg (by omega)]
        by_cases hlt : r < k
        · rw [if_pos hlt]; exact g1 r hlt
        · rw [if_neg hlt, if_neg hrk]; exact g2 r (by omega) (by omega)) (.int (iI (fSp a b c d kd i))) (.int (iI (k : Int))) (Or.inr ⟨_, rfl⟩)
    exact ⟨T', x2, x3, by rw [s1, e2, s3, e4], fr3.tr fr4, r1, r2, hx2⟩
set_option maxHeartbeats 1000000 in
/-- the ranks -/
theorem lp_csort3 {p : Nat} {a b c d kd : Int} (o : Nat → Nat) (holt : ∀ r : Nat, (r : Int) < cel a b c d → (o r : Int) < cel a b c d) (hinj : ∀ r r' : Nat, (r : Int) < cel a b c d → (r' : Int) < cel a b c d → o r = o r' → r = r') : ∀ (n i : Nat) (T : TS), (i : Int) + n = cel a b c d → inkP T p a b c d kd → (∀ r : Nat, (r : Int) < cel a b c d → T.1 (p + 5) r = iI (o r : Int)) → (∀ r, r < i → T.1 (p + 4) (o r) = iI (r : Int)) → ∀ (a2 a3 : Value), (a2 = .null ∨ ∃ z, a2 = .int z) →
    ∃ T', rn k_Ink_sort 102 [.ref p, .int (iI (i : Int)), a2, a3] [] (enc T) = some (none, enc T') ∧ FrI (fun q k => q = p + 4 ∨ (q = p ∧ k = 13)) T T' ∧ (∀ r : Nat, (r : Int) < cel a b c d → T'.1 (p + 4) (o r) = iI (r : Int)) ∧ T'.1 p 13 = iI 1 := by
  intro n
  induction n with
  | zero =>
    intro i T hin hI hor hrk a2 a3 ha2
    have hie : (i : Int) = cel a b c d := by omega
    have hcb := cel_bd hI.2.1
    have hp := hI.1
    have hc := hI.2.2.2.2.1
    refine ⟨sI T p 13 (iI 1), ?_, (FrI.rf _ _).wr _ (Or.inr ⟨rfl, rfl⟩), fun r hr => by rw [sI_get, if_neg (by omega)]; exact hrk r (by omega), by rw [sI_get, if_pos ⟨rfl, rfl⟩]⟩
    rw [e_Ink_sort_102, hie]
    simp (disch := first | omega | assumption | decide | (simp (disch := omega) only [iI_lit, iJ_lit, iJ_eq, iI_eq, bI_01, bI_01I] <;> omega)) only [e_Ink_sort_103, e_Ink_sort_104, e_Ink_sort_107, e_Ink_sort_110, e_Ink_sort_111, e_Ink_sort_114, e_Ink_sort_115, e_Ink_sort_116, e_Ink_sort_117, e_Ink_sort_118, e_Ink_sort_121, e_Ink_sort_122, e_Ink_sort_123, e_Ink_sort_126, e_Ink_sort_127, e_Ink_sort_130, e_Ink_sort_131, e_Ink_sort_134, e_Ink_sort_135, e_Ink_sort_136, e_Ink_sort_137, e_Ink_sort_140, e_Ink_sort_143, e_Ink_sort_144, e_Ink_sort_145, e_Ink_sort_148, bd_some, bd_none, Option.toList_some, Option.toList_none, List.nil_append, List.cons_append, px_kill_int, px_kill_long, px_kill_ref, px_kill_null, iI_lit, iJ_lit, iI_add, iI_sub, iI_mul, iI_neg, iJ_add, iJ_sub, iJ_mul, iJ_neg, iI_lt, iI_le, iI_eq, iJ_lt, iJ_le, iJ_eq, iI_div, iJ_div, tdiv_tmod, iI_J, iJ_I, iI_ix, iI_toInt, iJ_toInt, cmp_ge, cmp_lt, cmp_eq, cmp_gt, cmp_le, cmp_geI, cmp_ltI, cmp_eqI, cmp_gtI, cmp_leI, bI_0I, bI_1I, pin, if_true, hc, Int.le_refl]
  | succ n ih =>
    intro i T hin hI hor hrk a2 a3 ha2
    have hcb := cel_bd hI.2.1
    obtain ⟨hp, hok, hscr, hgrd, hc, hkd, hkb⟩ := id hI
    have hnge : ¬ cel a b c d ≤ (i : Int) := by omega
    have q4 := ink_s4 hp
    have q5 := ink_s5 hp
    have q4' : (sh (p + 4)).1 = 0 := by rw [q4]
    have q4l : (sh (p + 4)).1 < 4 := by rw [q4]; decide
    have q5' : (sh (p + 5)).1 = 0 := by rw [q5]
    have hoi := hor i (by omega)
    have hol := holt i (by omega)
    have e1 : ((i : Nat) : Int).toNat = i := by omega
    have e2 : ((o i : Nat) : Int).toNat = o i := by omega
    have hn1 : ¬ ((o i : Nat) : Int) < 0 := by omega
    have hn2 : ¬ (144 : Int) ≤ ((o i : Nat) : Int) := by omega
    have hA : ¬ (144 : Nat) = 0 := by decide
    have s1 : rn k_Ink_sort 102 [.ref p, .int (iI (i : Int)), a2, a3] [] (enc T) = rn k_Ink_sort 102 [.ref p, .int (iI ((i + 1 : Nat) : Int)), .int (iI (o i : Int)), a3] [] (enc (sI T (p + 4) (o i) (iI (i : Int)))) := by
      rw [e_Ink_sort_102]
      simp (disch := first | omega | assumption | decide | (simp (disch := omega) only [iI_lit, iJ_lit, iJ_eq, iI_eq, bI_01, bI_01I] <;> omega)) only [e_Ink_sort_103, e_Ink_sort_104, e_Ink_sort_107, e_Ink_sort_110, e_Ink_sort_111, e_Ink_sort_114, e_Ink_sort_115, e_Ink_sort_116, e_Ink_sort_117, e_Ink_sort_118, e_Ink_sort_121, e_Ink_sort_122, e_Ink_sort_123, e_Ink_sort_126, e_Ink_sort_127, e_Ink_sort_130, e_Ink_sort_131, e_Ink_sort_134, e_Ink_sort_135, e_Ink_sort_136, e_Ink_sort_137, e_Ink_sort_140, bd_some, bd_none, Option.toList_some, Option.toList_none, List.nil_append, List.cons_append, px_kill_int, px_kill_long, px_kill_ref, px_kill_null, iI_lit, iJ_lit, iI_add, iI_sub, iI_mul, iI_neg, iJ_add, iJ_sub, iJ_mul, iJ_neg, iI_lt, iI_le, iI_eq, iJ_lt, iJ_le, iJ_eq, iI_div, iJ_div, tdiv_tmod, iI_J, iJ_I, iI_ix, iI_toInt, iJ_toInt, cmp_ge, cmp_lt, cmp_eq, cmp_gt, cmp_le, cmp_geI, cmp_ltI, cmp_eqI, cmp_gtI, cmp_leI, bI_0I, bI_1I, pin, if_true, hc, hnge, if_false, q5, q4, e1, e2, hoi, hn1, hn2, iI_nat, Int.cast_ofNat_Int]
      rw [show ((i + 1 : Nat) : Int) = (i : Int) + 1 by omega]
    have fr1 : FrI (fun q k => q = p + 4 ∨ (q = p ∧ k = 13)) T (sI T (p + 4) (o i) (iI (i : Int))) := (FrI.rf _ _).wr _ (Or.inl rfl)
    obtain ⟨T', e4, fr4, r1, r2⟩ := ih (i + 1) (sI T (p + 4) (o i) (iI (i : Int))) (by omega) (hI.sort (fr1.mono (fun q j h => by unfold aSort; omega))) (fun r hr => by rw [sI_get, if_neg (by omega)]; exact hor r hr) (fun r hr => by
      rw [sI_get]
      by_cases hri : r = i
      · rw [if_pos ⟨rfl, by rw [hri]⟩, hri]
      · rw [if_neg (fun h => hri (hinj r i (by omega) (by omega) h.2))]
        exact hrk r (by omega)) _ a3 (Or.inr ⟨_, rfl⟩)
    exact ⟨T', by rw [s1, e4], fr1.tr fr4, r1, r2⟩
/-- an ink is sorted: spots, order and ranks are those of its screen and kind -/
def isSrt (T : TS) (p : Nat) (a b c d kd : Int) : Prop := (∀ r : Nat, (r : Int) < cel a b c d → T.1 (p + 3) r = iI (fSp a b c d kd r)) ∧ (∀ r : Nat, (r : Int) < cel a b c d → T.1 (p + 5) r = iI ((ordS (fSp a b c d kd) (cel a b c d).toNat r : Nat) : Int)) ∧ (∀ r : Nat, (r : Int) < cel a b c d → T.1 (p + 4) (ordS (fSp a b c d kd) (cel a b c d).toNat r) = iI (r : Int)) ∧ T.1 p 13 = iI 1
theorem s_sort {T : TS} {p : Nat} {a b c d kd : Int} (hI : inkP T p a b c d kd) (hs : T.1 p 13 = iI 0 ∨ isSrt T p a b c d kd) : ∃ T', cl k_Ink_sort [.ref p] (enc T) = some (none, enc T') ∧ FrI (aSort p) T T' ∧ isSrt T' p a b c d kd := by
  have hp := hI.1
  rcases hs with hs | hs
  · have hcb := cel_bd hI.2.1
    obtain ⟨T1, x2, x3, e1, fr1, g1, g2, hx2⟩ := lp_csort2 (p := p) (a := a) (b := b) (c := c) (d := d) (kd := kd) (cel a b c d).toNat 0 T (by omega) hI (fun r hr => by omega) (fun r hr => by omega) .null .null (Or.inl rfl)
    obtain ⟨T2, e2, fr2, g3, g4⟩ := lp_csort3 (p := p) (kd := kd) (ordS (fSp a b c d kd) (cel a b c d).toNat) (fun r hr => by have := ordS_lt (fSp a b c d kd) (cel a b c d).toNat r (by omega); omega) (fun r r' h1 h2 h3 => ordS_inj _ _ r r' (by omega) (by omega) h3) (cel a b c d).toNat 0 T1 (by omega) (hI.sort fr1) g2 (fun r hr => by omega) x2 x3 hx2
    have e0 : cl k_Ink_sort [.ref p] (enc T) = rn k_Ink_sort 10 [.ref p, .int (iI ((0 : Nat) : Int)), .null, .null] [] (enc T) := by
      simp (disch := first | omega | assumption | decide | (simp (disch := omega) only [iI_lit, iJ_lit, iJ_eq, iI_eq, bI_01, bI_01I] <;> omega)) only [c_Ink_sort, e_Ink_sort_0, e_Ink_sort_1, e_Ink_sort_4, e_Ink_sort_7, e_Ink_sort_8, e_Ink_sort_9, bd_some, bd_none, Option.toList_some, Option.toList_none, List.nil_append, List.cons_append, px_kill_int, px_kill_long, px_kill_ref, px_kill_null, iI_lit, iJ_lit, iI_add, iI_sub, iI_mul, iI_neg, iJ_add, iJ_sub, iJ_mul, iJ_neg, iI_lt, iI_le, iI_eq, iJ_lt, iJ_le, iJ_eq, iI_div, iJ_div, tdiv_tmod, iI_J, iJ_I, iI_ix, iI_toInt, iJ_toInt, cmp_ge, cmp_lt, cmp_eq, cmp_gt, cmp_le, cmp_geI, cmp_ltI, cmp_eqI, cmp_gtI, cmp_leI, bI_0I, bI_1I, pin, if_true, hs]
      rfl
    have e3 : rn k_Ink_sort 100 [.ref p, .int (iI (cel a b c d)), x2, x3] [] (enc T1) = rn k_Ink_sort 102 [.ref p, .int (iI ((0 : Nat) : Int)), x2, x3] [] (enc T1) := by
      simp (disch := first | omega | assumption | decide | (simp (disch := omega) only [iI_lit, iJ_lit, iJ_eq, iI_eq, bI_01, bI_01I] <;> omega)) only [e_Ink_sort_100, e_Ink_sort_101, bd_some, bd_none, Option.toList_some, Option.toList_none, List.nil_append, List.cons_append, px_kill_int, px_kill_long, px_kill_ref, px_kill_null, iI_lit, iJ_lit, iI_add, iI_sub, iI_mul, iI_neg, iJ_add, iJ_sub, iJ_mul, iJ_neg, iI_lt, iI_le, iI_eq, iJ_lt, iJ_le, iJ_eq, iI_div, iJ_div, tdiv_tmod, iI_J, iJ_I, iI_ix, iI_toInt, iJ_toInt, cmp_ge, cmp_lt, cmp_eq, cmp_gt, cmp_le, cmp_geI, cmp_ltI, cmp_eqI, cmp_gtI, cmp_leI, bI_0I, bI_1I, pin, if_true]
      rfl
    refine ⟨T2, by rw [e0, e1, e3, e2], fr1.tr (fr2.mono (fun q k h => by unfold aSort; omega)), ?_, ?_, g3, g4⟩
    · intro r hr; rw [fr2.1 _ _ (by omega)]; exact g1 r hr
    · intro r hr; rw [fr2.1 _ _ (by omega)]; exact g2 r hr
  · refine ⟨T, ?_, FrI.rf _ _, hs⟩
    have h10 : ¬ (1 : Int) = 0 := by omega
    simp (disch := first | omega | assumption | decide | (simp (disch := omega) only [iI_lit, iJ_lit, iJ_eq, iI_eq, bI_01, bI_01I] <;> omega)) only [c_Ink_sort, e_Ink_sort_0, e_Ink_sort_1, e_Ink_sort_4, e_Ink_sort_7, e_Ink_sort_8, e_Ink_sort_9, bd_some, bd_none, Option.toList_some, Option.toList_none, List.nil_append, List.cons_append, px_kill_int, px_kill_long, px_kill_ref, px_kill_null, iI_lit, iJ_lit, iI_add, iI_sub, iI_mul, iI_neg, iJ_add, iJ_sub, iJ_mul, iJ_neg, iI_lt, iI_le, iI_eq, iJ_lt, iJ_le, iJ_eq, iI_div, iJ_div, tdiv_tmod, iI_J, iJ_I, iI_ix, iI_toInt, iJ_toInt, cmp_ge, cmp_lt, cmp_eq, cmp_gt, cmp_le, cmp_geI, cmp_ltI, cmp_eqI, cmp_gtI, cmp_leI, bI_0I, bI_1I, pin, if_true, hs.2.2.2, h10, if_false]
