/-! THE REFERENCE LAYS RANKS. -/
/-- what laysRanks may write (ints) -/
def aRnk (q k : Nat) : Prop := q = 58 ∨ q = 59 ∨ q = 60 ∨ q = 61 ∨ (q = 53 ∧ (k = 18 ∨ k = 19))
/-- an ink of the reference, its brick laid -/
def inkM (T : TS) (i : Nat) (a b c d kd : Int) : Prop := i < 4 ∧ okS a b c d ∧ mScr T i a b c d ∧ T.1 56 (8 * i + 4) = iI kd ∧ (0 ≤ kd ∧ kd ≤ 2)
abbrev mBrk (T : TS) (a b c d : Int) : Prop := mGrd T (bkW (brk a b c d)) (bkH (brk a b c d)) (bkS (brk a b c d))
theorem inkM.fr {T T' : TS} {i : Nat} {a b c d kd : Int} {A : Nat → Nat → Prop} (h : inkM T i a b c d kd) (hf : FrI A T T') (hA : ∀ k, ¬ A 56 k) : inkM T' i a b c d kd := by
  obtain ⟨p1, p2, ⟨c1, c2, c3, c4⟩, p5, p6⟩ := h
  exact ⟨p1, p2, ⟨by rw [hf.1 _ _ (hA _)]; exact c1, by rw [hf.1 _ _ (hA _)]; exact c2, by rw [hf.1 _ _ (hA _)]; exact c3, by rw [hf.1 _ _ (hA _)]; exact c4⟩, by rw [hf.1 _ _ (hA _)]; exact p5, p6⟩
theorem mGrd.fr {T T' : TS} {w h s : Int} {A : Nat → Nat → Prop} (hg : mGrd T w h s) (hf : FrI A T T') : mGrd T' w h s := by
  unfold mGrd at *; rw [hf.2]; exact hg
/-- row r of the three arrays holds home m -/
def rowM (T : TS) (w : Int) (f : Nat → Int) (r m : Nat) : Prop := T.1 60 r = iI (f m) ∧ T.1 58 r = iI ((m : Int) % w) ∧ T.1 59 r = iI ((m : Int) / w)
theorem rowM.fr {T T' : TS} {w : Int} {f : Nat → Int} {r m : Nat} (h : rowM T w f r m) (h0 : T'.1 60 r = T.1 60 r) (h1 : T'.1 58 r = T.1 58 r) (h2 : T'.1 59 r = T.1 59 r) : rowM T' w f r m := ⟨h0.trans h.1, h1.trans h.2.1, h2.trans h.2.2⟩
set_option maxHeartbeats 1000000 in
theorem lp_mrk1 {w : Int} (f : Nat → Int) (o : Nat → Nat) (i n : Nat) (v : Int) (y x : Int32) (hn : n < 144) (hv : 0 ≤ v ∧ v ≤ 1800000000) (hfb : ∀ r, r < n → 0 ≤ f (o r) ∧ f (o r) ≤ 1800000000) : ∀ (k : Nat) (T : TS), k ≤ n → (∀ r, r < k → rowM T w f r (o r)) → (∀ r, k < r → r ≤ n → rowM T w f r (o (r - 1))) →
    ∃ T', rn k_Dm_laysRanks 46 [.ref 53, .int (iI (i : Int)), .int (iI (n : Int)), .int y, .int x, .int (iI v), .int (iI (k : Int))] [] (enc T) = rn k_Dm_laysRanks 119 [.ref 53, .int (iI (i : Int)), .int (iI (n : Int)), .int y, .int x, .int (iI v), .int (iI ((insP f o v k : Nat) : Int))] [] (enc T') ∧ FrI aRnk T T' ∧ (∀ r, r < insP f o v k → rowM T' w f r (o r)) ∧ (∀ r, insP f o v k < r → r ≤ n → rowM T' w f r (o (r - 1))) := by
  intro k
  induction k with
  | zero =>
    intro T hk h1 h2
    refine ⟨T, ?_, FrI.rf _ _, h1, h2⟩
    rw [e_Dm_laysRanks_46]
    have h00 : ((0 : Nat) : Int) ≤ 0 := by omega
    simp (disch := first | omega | assumption | decide | (simp (disch := omega) only [iI_lit, iJ_lit, iJ_eq, iI_eq, bI_01, bI_01I] <;> omega)) only [e_Dm_laysRanks_48, e_Dm_laysRanks_51, e_Dm_laysRanks_52, e_Dm_laysRanks_55, e_Dm_laysRanks_57, e_Dm_laysRanks_58, e_Dm_laysRanks_59, e_Dm_laysRanks_60, e_Dm_laysRanks_62, e_Dm_laysRanks_65, e_Dm_laysRanks_66, e_Dm_laysRanks_69, e_Dm_laysRanks_71, e_Dm_laysRanks_72, e_Dm_laysRanks_75, e_Dm_laysRanks_77, e_Dm_laysRanks_78, e_Dm_laysRanks_79, e_Dm_laysRanks_80, e_Dm_laysRanks_81, e_Dm_laysRanks_82, e_Dm_laysRanks_85, e_Dm_laysRanks_87, e_Dm_laysRanks_88, e_Dm_laysRanks_91, e_Dm_laysRanks_93, e_Dm_laysRanks_94, e_Dm_laysRanks_95, e_Dm_laysRanks_96, e_Dm_laysRanks_97, e_Dm_laysRanks_98, e_Dm_laysRanks_101, e_Dm_laysRanks_103, e_Dm_laysRanks_104, e_Dm_laysRanks_107, e_Dm_laysRanks_109, e_Dm_laysRanks_110, e_Dm_laysRanks_111, e_Dm_laysRanks_112, e_Dm_laysRanks_113, e_Dm_laysRanks_116, bd_some, bd_none, Option.toList_some, Option.toList_none, List.nil_append, List.cons_append, px_kill_int, px_kill_long, px_kill_ref, px_kill_null, iI_lit, iJ_lit, iI_add, iI_sub, iI_mul, iI_neg, iJ_add, iJ_sub, iJ_mul, iJ_neg, iI_lt, iI_le, iI_eq, iJ_lt, iJ_le, iJ_eq, iI_div, iJ_div, tdiv_tmod, iI_J, iJ_I, iI_ix, iI_toInt, iJ_toInt, cmp_ge, cmp_lt, cmp_eq, cmp_gt, cmp_le, cmp_geI, cmp_ltI, cmp_eqI, cmp_gtI, cmp_leI, bI_0I, bI_1I, pin, if_true, insP, h00]
  | succ k ih =>
    intro T hk h1 h2
    obtain ⟨r60, r58, r59⟩ := h1 k (by omega)
    have hfk := hfb k (by omega)
    have hneg : ¬ ((k + 1 : Nat) : Int) ≤ 0 := by omega
    have e1 : (((k + 1 : Nat) : Int) - 1).toNat = k := by omega
    have e2 : ((k + 1 : Nat) : Int).toNat = k + 1 := by omega
    by_cases hc : f (o k) ≤ v
    · refine ⟨T, ?_, FrI.rf _ _, ?_, ?_⟩
      · rw [e_Dm_laysRanks_46]
        simp (disch := first | omega | assumption | decide | (simp (disch := omega) only [iI_lit, iJ_lit, iJ_eq, iI_eq, bI_01, bI_01I] <;> omega)) only [e_Dm_laysRanks_48, e_Dm_laysRanks_51, e_Dm_laysRanks_52, e_Dm_laysRanks_55, e_Dm_laysRanks_57, e_Dm_laysRanks_58, e_Dm_laysRanks_59, e_Dm_laysRanks_60, e_Dm_laysRanks_62, e_Dm_laysRanks_65, e_Dm_laysRanks_66, e_Dm_laysRanks_69, e_Dm_laysRanks_71, e_Dm_laysRanks_72, e_Dm_laysRanks_75, e_Dm_laysRanks_77, e_Dm_laysRanks_78, e_Dm_laysRanks_79, e_Dm_laysRanks_80, e_Dm_laysRanks_81, e_Dm_laysRanks_82, e_Dm_laysRanks_85, e_Dm_laysRanks_87, e_Dm_laysRanks_88, e_Dm_laysRanks_91, e_Dm_laysRanks_93, e_Dm_laysRanks_94, e_Dm_laysRanks_95, e_Dm_laysRanks_96, e_Dm_laysRanks_97, e_Dm_laysRanks_98, e_Dm_laysRanks_101, e_Dm_laysRanks_103, e_Dm_laysRanks_104, e_Dm_laysRanks_107, e_Dm_laysRanks_109, e_Dm_laysRanks_110, e_Dm_laysRanks_111, e_Dm_laysRanks_112, e_Dm_laysRanks_113, e_Dm_laysRanks_116, bd_some, bd_none, Option.toList_some, Option.toList_none, List.nil_append, List.cons_append, px_kill_int, px_kill_long, px_kill_ref, px_kill_null, iI_lit, iJ_lit, iI_add, iI_sub, iI_mul, iI_neg, iJ_add, iJ_sub, iJ_mul, iJ_neg, iI_lt, iI_le, iI_eq, iJ_lt, iJ_le, iJ_eq, iI_div, iJ_div, tdiv_tmod, iI_J, iJ_I, iI_ix, iI_toInt, iJ_toInt, cmp_ge, cmp_lt, cmp_eq, cmp_gt, cmp_le, cmp_geI, cmp_ltI, cmp_eqI, cmp_gtI, cmp_leI, bI_0I, bI_1I, pin, if_true, hneg, if_false, sh_n60, e1, r60, hc]
        rw [insP, if_neg (by omega)]
      · rw [insP, if_neg (by omega)]; exact h1
      · rw [insP, if_neg (by omega)]; exact h2
    · have hstep : ∃ T2 : TS, T2 = sI (sI (sI T 60 (k + 1) (iI (f (o k)))) 58 (k + 1) (iI ((o k : Int) % w))) 59 (k + 1) (iI ((o k : Int) / w)) := ⟨_, rfl⟩
      obtain ⟨T2, hT2⟩ := hstep
      have step : rn k_Dm_laysRanks 46 [.ref 53, .int (iI (i : Int)), .int (iI (n : Int)), .int y, .int x, .int (iI v), .int (iI ((k + 1 : Nat) : Int))] [] (enc T) = rn k_Dm_laysRanks 46 [.ref 53, .int (iI (i : Int)), .int (iI (n : Int)), .int y, .int x, .int (iI v), .int (iI (k : Int))] [] (enc T2) := by
        rw [e_Dm_laysRanks_46, hT2]
        simp (disch := first | omega | assumption | decide | (simp (disch := omega) only [iI_lit, iJ_lit, iJ_eq, iI_eq, bI_01, bI_01I] <;> omega)) only [e_Dm_laysRanks_48, e_Dm_laysRanks_51, e_Dm_laysRanks_52, e_Dm_laysRanks_55, e_Dm_laysRanks_57, e_Dm_laysRanks_58, e_Dm_laysRanks_59, e_Dm_laysRanks_60, e_Dm_laysRanks_62, e_Dm_laysRanks_65, e_Dm_laysRanks_66, e_Dm_laysRanks_69, e_Dm_laysRanks_71, e_Dm_laysRanks_72, e_Dm_laysRanks_75, e_Dm_laysRanks_77, e_Dm_laysRanks_78, e_Dm_laysRanks_79, e_Dm_laysRanks_80, e_Dm_laysRanks_81, e_Dm_laysRanks_82, e_Dm_laysRanks_85, e_Dm_laysRanks_87, e_Dm_laysRanks_88, e_Dm_laysRanks_91, e_Dm_laysRanks_93, e_Dm_laysRanks_94, e_Dm_laysRanks_95, e_Dm_laysRanks_96, e_Dm_laysRanks_97, e_Dm_laysRanks_98, e_Dm_laysRanks_101, e_Dm_laysRanks_103, e_Dm_laysRanks_104, e_Dm_laysRanks_107, e_Dm_laysRanks_109, e_Dm_laysRanks_110, e_Dm_laysRanks_111, e_Dm_laysRanks_112, e_Dm_laysRanks_113, e_Dm_laysRanks_116, bd_some, bd_none, Option.toList_some, Option.toList_none, List.nil_append, List.cons_append, px_kill_int, px_kill_long, px_kill_ref, px_kill_null, iI_lit, iJ_lit, iI_add, iI_sub, iI_mul, iI_neg, iJ_add, iJ_sub, iJ_mul, iJ_neg, iI_lt, iI_le, iI_eq, iJ_lt, iJ_le, iJ_eq, iI_div, iJ_div, tdiv_tmod, iI_J, iJ_I, iI_ix, iI_toInt, iJ_toInt, cmp_ge, cmp_lt, cmp_eq, cmp_gt, cmp_le, cmp_geI, cmp_ltI, cmp_eqI, cmp_gtI, cmp_leI, bI_0I, bI_1I, pin, if_true, sI_get, sJ_get, sI_2, sJ_1, sJ_22, sR_1, sR_21, Nat.reduceEqDiff, and_true, true_and, and_false, false_and, and_self, if_true, if_false, reduceIte, hneg, sh_n60, sh_n58, sh_n59, e1, e2, r60, r58, r59, hc]
        rw [show ((k + 1 : Nat) : Int) + -1 = (k : Int) by omega]
      have fr1 : FrI aRnk T T2 := by
        rw [hT2]
        exact (((FrI.rf _ _).wr _ (by unfold aRnk; omega)).wr _ (by unfold aRnk; omega)).wr _ (by unfold aRnk; omega)
      have hrd : ∀ r, r ≠ k + 1 → T2.1 60 r = T.1 60 r ∧ T2.1 58 r = T.1 58 r ∧ T2.1 59 r = T.1 59 r := by
        intro r hr
        rw [hT2]
        simp only [sI_get, sJ_get, sI_2, sJ_1, sJ_22, sR_1, sR_21, Nat.reduceEqDiff, and_true, true_and, and_false, false_and, and_self, if_true, if_false, reduceIte, hr]
      obtain ⟨T', e, fr, g1, g2⟩ := ih T2 (by omega) (fun r hr => by
        have := hrd r (by omega)
        exact (h1 r (by omega)).fr this.1 this.2.1 this.2.2) (fun r hr hrn => by
        by_cases hrk : r = k + 1
        · rw [hrk, hT2]
          simp only [rowM, sI_get, sJ_get, sI_2, sJ_1, sJ_22, sR_1, sR_21, Nat.reduceEqDiff, and_true, true_and, and_false, false_and, and_self, if_true, if_false, reduceIte]
          exact ⟨rfl, rfl, rfl⟩
        · have := hrd r hrk
          exact (h2 r (by omega) hrn).fr this.1 this.2.1 this.2.2)
      refine ⟨T', ?_, fr1.tr fr, ?_, ?_⟩
      · rw [step, e, insP, if_pos (by omega)]
      · rw [insP, if_pos (by omega)]; exact g1
      · rw [insP, if_pos (by omega)]; exact g2
theorem home_self {w h s x y : Int} (hx : 0 ≤ x ∧ x < w) (hy : 0 ≤ y ∧ y < h) : hmX w h s x y = x ∧ y % h = y := by
  have h1 : y / h = 0 := Int.ediv_eq_zero_of_lt hy.1 hy.2
  refine ⟨?_, Int.emod_eq_of_lt hy.1 hy.2⟩
  unfold hmX
  rw [h1, Int.zero_mul, Int.sub_zero]
  exact Int.emod_eq_of_lt hx.1 hx.2
theorem num_home {w x y : Int} (hx : 0 ≤ x ∧ x < w) : (y * w + x) % w = x ∧ (y * w + x) / w = y := by
  constructor
  · rw [Int.add_comm, Int.add_mul_emod_self_right]
    exact Int.emod_eq_of_lt hx.1 hx.2
  · rw [Int.add_comm, Int.add_mul_ediv_right _ _ (by omega), Int.ediv_eq_zero_of_lt hx.1 hx.2]
    omega
theorem mHome_fr (T : TS) (kd x y : Int) : FrI aRnk T (mHome T kd x y) := by
  unfold mHome
  split
  · exact FrI.rf _ _
  · exact ((FrI.rf _ _).wr _ (by unfold aRnk; omega)).wr _ (by unfold aRnk; omega)
theorem mHome_row (T : TS) (kd x y : Int) (q r : Nat) (h : q ≠ 53) : (mHome T kd x y).1 q r = T.1 q r := by
  unfold mHome
  split
  · rfl
  · simp only [sI_get, sJ_get, sI_2, sJ_1, sJ_22, sR_1, sR_21, Nat.reduceEqDiff, and_true, true_and, and_false, false_and, and_self, if_true, if_false, reduceIte, h]
set_option maxHeartbeats 1000000 in
theorem lp_mrk2 {i : Nat} {a b c d kd : Int} {y : Int} (hy : 0 ≤ y ∧ y < bkH (brk a b c d)) : ∀ (m n : Nat) (x : Int) (T : TS), x + m = bkW (brk a b c d) → 0 ≤ x → (n : Int) = y * bkW (brk a b c d) + x → inkM T i a b c d kd → mBrk T a b c d → (∀ r, r < n → rowM T (bkW (brk a b c d)) (fSp a b c d kd) r (ordS (fSp a b c d kd) n r)) → ∀ (a5 a6 : Value),
    ∃ (T' : TS) (n' : Nat) (x5 x6 : Value), (n' : Int) = (y + 1) * bkW (brk a b c d) ∧ rn k_Dm_laysRanks 22 [.ref 53, .int (iI (i : Int)), .int (iI (n : Int)), .int (iI y), .int (iI x), a5, a6] [] (enc T) = rn k_Dm_laysRanks 154 [.ref 53, .int (iI (i : Int)), .int (iI (n' : Int)), .int (iI y), .int (iI (bkW (brk a b c d))), x5, x6] [] (enc T') ∧ FrI aRnk T T' ∧ (∀ r : Nat, r < n' → rowM T' (bkW (brk a b c d)) (fSp a b c d kd) r (ordS (fSp a b c d kd) n' r)) := by
  intro m
  induction m with
  | zero =>
    intro n x T hxm hx0 hn hI hB hrow a5 a6
    have hxe : x = bkW (brk a b c d) := by omega
    have hG := okG_brk hI.2.1
    refine ⟨T, n, a5, a6, by rw [hn, hxe]; grind, ?_, FrI.rf _ _, hrow⟩
    rw [e_Dm_laysRanks_22, hxe]
    have hw := hG.1
    simp (disch := first | omega | assumption | decide | (simp (disch := omega) only [iI_lit, iJ_lit, iJ_eq, iI_eq, bI_01, bI_01I] <;> omega)) only [e_Dm_laysRanks_24, e_Dm_laysRanks_25, e_Dm_laysRanks_26, e_Dm_laysRanks_29, e_Dm_laysRanks_30, bd_some, bd_none, Option.toList_some, Option.toList_none, List.nil_append, List.cons_append, px_kill_int, px_kill_long, px_kill_ref, px_kill_null, iI_lit, iJ_lit, iI_add, iI_sub, iI_mul, iI_neg, iJ_add, iJ_sub, iJ_mul, iJ_neg, iI_lt, iI_le, iI_eq, iJ_lt, iJ_le, iJ_eq, iI_div, iJ_div, tdiv_tmod, iI_J, iJ_I, iI_ix, iI_toInt, iJ_toInt, cmp_ge, cmp_lt, cmp_eq, cmp_gt, cmp_le, cmp_geI, cmp_ltI, cmp_eqI, cmp_gtI, cmp_leI, bI_0I, bI_1I, pin, if_true, hB.1, Int.le_refl]
  | succ m ih =>
    intro n x T hxm hx0 hn hI hB hrow a5 a6
    have hG := okG_brk hI.2.1
    obtain ⟨f1, f2, f3, f4, f5, f6⟩ := brk_facts hI.2.1
    have hcb := cel_bd hI.2.1
    have hw := hG.1
    have hh := hG.2.1
    have hxw : 0 ≤ x ∧ x < bkW (brk a b c d) := by omega
    have hnge : ¬ bkW (brk a b c d) ≤ x := by omega
    have hs := home_self (s := bkS (brk a b c d)) hxw hy
    have hnh := num_home (y := y) hxw
    have hncel : (n : Int) < cel a b c d := by
      rw [← f5, hn]
      have : y * bkW (brk a b c d) ≤ (bkH (brk a b c d) - 1) * bkW (brk a b c d) := Int.mul_le_mul_of_nonneg_right (by omega) (by omega)
      have e : (bkH (brk a b c d) - 1) * bkW (brk a b c d) = bkW (brk a b c d) * bkH (brk a b c d) - bkW (brk a b c d) := by grind
      omega
    have hval : spt kd a b (cel a b c d) (bkW (brk a b c d)) (bkH (brk a b c d)) (bkS (brk a b c d)) (hmX (bkW (brk a b c d)) (bkH (brk a b c d)) (bkS (brk a b c d)) x y) (y % bkH (brk a b c d)) = fSp a b c d kd n := by
      unfold fSp
      rw [hs.1, hs.2, hn, hnh.1, hnh.2]
    have hsp := s_mspot hI.1 hI.2.2.1 hI.2.1 hB hI.2.2.2.1 hI.2.2.2.2 (x := x) (y := y) (by omega) (by omega)
    rw [hval, hs.1, hs.2] at hsp
    have hfb := fSp_bd (kd := kd) hI.2.1 hncel
    have s1 : rn k_Dm_laysRanks 22 [.ref 53, .int (iI (i : Int)), .int (iI (n : Int)), .int (iI y), .int (iI x), a5, a6] [] (enc T) = rn k_Dm_laysRanks 46 [.ref 53, .int (iI (i : Int)), .int (iI (n : Int)), .int (iI y), .int (iI x), .int (iI (fSp a b c d kd n)), .int (iI (n : Int))] [] (enc (mHome T kd x y)) := by
      rw [e_Dm_laysRanks_22]
      simp (disch := first | omega | assumption | decide | (simp (disch := omega) only [iI_lit, iJ_lit, iJ_eq, iI_eq, bI_01, bI_01I] <;> omega)) only [e_Dm_laysRanks_24, e_Dm_laysRanks_25, e_Dm_laysRanks_26, e_Dm_laysRanks_29, e_Dm_laysRanks_30, e_Dm_laysRanks_33, e_Dm_laysRanks_34, e_Dm_laysRanks_35, e_Dm_laysRanks_37, e_Dm_laysRanks_38, e_Dm_laysRanks_41, e_Dm_laysRanks_43, e_Dm_laysRanks_44, bd_some, bd_none, Option.toList_some, Option.toList_none, List.nil_append, List.cons_append, px_kill_int, px_kill_long, px_kill_ref, px_kill_null, iI_lit, iJ_lit, iI_add, iI_sub, iI_mul, iI_neg, iJ_add, iJ_sub, iJ_mul, iJ_neg, iI_lt, iI_le, iI_eq, iJ_lt, iJ_le, iJ_eq, iI_div, iJ_div, tdiv_tmod, iI_J, iJ_I, iI_ix, iI_toInt, iJ_toInt, cmp_ge, cmp_lt, cmp_eq, cmp_gt, cmp_le, cmp_geI, cmp_ltI, cmp_eqI, cmp_gtI, cmp_leI, bI_0I, bI_1I, pin, if_true, hB.1, hnge, if_false, hsp]
    obtain ⟨T2, e2, fr2, g1, g2⟩ := lp_mrk1 (w := bkW (brk a b c d)) (fSp a b c d kd) (ordS (fSp a b c d kd) n) i n (fSp a b c d kd n) (iI y) (iI x) (by omega) hfb (fun r hr => by
      have := ordS_lt (fSp a b c d kd) n r hr
      exact fSp_bd hI.2.1 (by omega)) n (mHome T kd x y) (Nat.le_refl _) (fun r hr => (hrow r hr).fr (mHome_row _ _ _ _ _ _ (by decide)) (mHome_row _ _ _ _ _ _ (by decide)) (mHome_row _ _ _ _ _ _ (by decide))) (fun r h1 h2 => by omega)
    have hpos := insP_le (fSp a b c d kd) (ordS (fSp a b c d kd) n) (fSp a b c d kd n) n
    have hstep : ordS (fSp a b c d kd) (n + 1) = insO (ordS (fSp a b c d kd) n) n (insP (fSp a b c d kd) (ordS (fSp a b c d kd) n) (fSp a b c d kd n) n) := rfl
    generalize insP (fSp a b c d kd) (ordS (fSp a b c d kd) n) (fSp a b c d kd n) n = k at *
    obtain ⟨T3, hT3⟩ : ∃ T3 : TS, T3 = sI (sI (sI T2 60 k (iI (fSp a b c d kd n))) 58 k (iI x)) 59 k (iI y) := ⟨_, rfl⟩
    have fr3 : FrI aRnk T T3 := by
      rw [hT3]
      exact ((((mHome_fr T kd x y).tr fr2).wr _ (by unfold aRnk; omega)).wr _ (by unfold aRnk; omega)).wr _ (by unfold aRnk; omega)
    have s3 : rn k_Dm_laysRanks 119 [.ref 53, .int (iI (i : Int)), .int (iI (n : Int)), .int (iI y), .int (iI x), .int (iI (fSp a b c d kd n)), .int (iI (k : Int))] [] (enc T2) = rn k_Dm_laysRanks 22 [.ref 53, .int (iI (i : Int)), .int (iI ((n + 1 : Nat) : Int)), .int (iI y), .int (iI (x + 1)), .int (iI (fSp a b c d kd n)), .int (iI (k : Int))] [] (enc T3) := by
      rw [hT3]
      simp (disch := first | omega | assumption | decide | (simp (disch := omega) only [iI_lit, iJ_lit, iJ_eq, iI_eq, bI_01, bI_01I] <;> omega)) only [e_Dm_laysRanks_119, e_Dm_laysRanks_120, e_Dm_laysRanks_123, e_Dm_laysRanks_125, e_Dm_laysRanks_127, e_Dm_laysRanks_128, e_Dm_laysRanks_129, e_Dm_laysRanks_132, e_Dm_laysRanks_134, e_Dm_laysRanks_136, e_Dm_laysRanks_137, e_Dm_laysRanks_138, e_Dm_laysRanks_141, e_Dm_laysRanks_143, e_Dm_laysRanks_144, e_Dm_laysRanks_145, e_Dm_laysRanks_148, e_Dm_laysRanks_151, bd_some, bd_none, Option.toList_some, Option.toList_none, List.nil_append, List.cons_append, px_kill_int, px_kill_long, px_kill_ref, px_kill_null, iI_lit, iJ_lit, iI_add, iI_sub, iI_mul, iI_neg, iJ_add, iJ_sub, iJ_mul, iJ_neg, iI_lt, iI_le, iI_eq, iJ_lt, iJ_le, iJ_eq, iI_div, iJ_div, tdiv_tmod, iI_J, iJ_I, iI_ix, iI_toInt, iJ_toInt, cmp_ge, cmp_lt, cmp_eq, cmp_gt, cmp_le, cmp_geI, cmp_ltI, cmp_eqI, cmp_gtI, cmp_leI, bI_0I, bI_1I, pin, if_true, sI_get, sJ_get, sI_2, sJ_1, sJ_22, sR_1, sR_21, Nat.reduceEqDiff, and_true, true_and, and_false, false_and, and_self, if_true, if_false, reduceIte, sh_n60, sh_n58, sh_n59]
      rw [show ((k : Nat) : Int).toNat = k by omega, show ((n + 1 : Nat) : Int) = (n : Int) + 1 by omega]
    have hrd : ∀ r, r ≠ k → T3.1 60 r = T2.1 60 r ∧ T3.1 58 r = T2.1 58 r ∧ T3.1 59 r = T2.1 59 r := by
      intro r hr
      rw [hT3]
      simp only [sI_get, sJ_get, sI_2, sJ_1, sJ_22, sR_1, sR_21, Nat.reduceEqDiff, and_true, true_and, and_false, false_and, and_self, if_true, if_false, reduceIte, hr]
    obtain ⟨T', n', x5, x6, hn', e4, fr4, r1⟩ := ih (n + 1) (x + 1) T3 (by omega) (by omega) (by omega) (hI.fr fr3 (fun k => by unfold aRnk; omega)) (mGrd.fr hB fr3) (fun r hr => by
      rw [hstep]
      unfold insO
      by_cases hrk : r = k
      · rw [if_neg (by omega), if_pos hrk, hrk, hT3]
        have q1 : ((n : Int)) % bkW (brk a b c d) = x := by rw [hn]; exact hnh.1
        have q2 : ((n : Int)) / bkW (brk a b c d) = y := by rw [hn]; exact hnh.2
        refine ⟨?_, ?_, ?_⟩
        · simp only [sI_get, sJ_get, sI_2, sJ_1, sJ_22, sR_1, sR_21, Nat.reduceEqDiff, and_true, true_and, and_false, false_and, and_self, if_true, if_false, reduceIte]
        · rw [q1]; simp only [sI_get, sJ_get, sI_2, sJ_1, sJ_22, sR_1, sR_21, Nat.reduceEqDiff, and_true, true_and, and_false, false_and, and_self, if_true, if_false, reduceIte]
        · rw [q2]; simp only [sI_get, sJ_get, sI_2, sJ_1, sJ_22, sR_1, sR_21, Nat.reduceEqDiff, and_true, true_and, and_false, false_and, and_self, if_true, if_false, reduceIte]
      · have hq := hrd r hrk
        by_cases hlt : r < k
        · rw [if_pos hlt]; exact (g1 r hlt).fr hq.1 hq.2.1 hq.2.2
        · rw [if_neg hlt, if_neg hrk]; exact (g2 r (by omega) (by omega)).fr hq.1 hq.2.1 hq.2.2) (.int (iI (fSp a b c d kd n))) (.int (iI (k : Int)))
    exact ⟨T', n', x5, x6, hn', by rw [s1, e2, s3, e4], fr3.tr fr4, r1⟩
set_option maxHeartbeats 1000000 in
theorem lp_mrk3 {i : Nat} {a b c d kd : Int} : ∀ (m n : Nat) (y : Int) (T : TS), y + m = bkH (brk a b c d) → 0 ≤ y → (n : Int) = y * bkW (brk a b c d) → inkM T i a b c d kd → mBrk T a b c d → (∀ r, r < n → rowM T (bkW (brk a b c d)) (fSp a b c d kd) r (ordS (fSp a b c d kd) n r)) → ∀ (a4 a5 a6 : Value),
    ∃ T' x4 x5 x6, rn k_Dm_laysRanks 9 [.ref 53, .int (iI (i : Int)), .int (iI (n : Int)), .int (iI y), a4, a5, a6] [] (enc T) = rn k_Dm_laysRanks 160 [.ref 53, .int (iI (i : Int)), .int (iI (cel a b c d)), .int (iI (bkH (brk a b c d))), x4, x5, x6] [] (enc T') ∧ FrI aRnk T T' ∧ (∀ r, r < (cel a b c d).toNat → rowM T' (bkW (brk a b c d)) (fSp a b c d kd) r (ordS (fSp a b c d kd) (cel a b c d).toNat r)) := by
  intro m
  induction m with
  | zero =>
    intro n y T hym hy0 hn hI hB hrow a4 a5 a6
    have hye : y = bkH (brk a b c d) := by omega
    have hG := okG_brk hI.2.1
    obtain ⟨f1, f2, f3, f4, f5, f6⟩ := brk_facts hI.2.1
    have hnc : (n : Int) = cel a b c d := by rw [hn, hye, ← f5]; grind
    refine ⟨T, a4, a5, a6, ?_, FrI.rf _ _, ?_⟩
    · rw [e_Dm_laysRanks_9, hye, hnc]
      have hh := hG.2.1
      simp (disch := first | omega | assumption | decide | (simp (disch := omega) only [iI_lit, iJ_lit, iJ_eq, iI_eq, bI_01, bI_01I] <;> omega)) only [e_Dm_laysRanks_10, e_Dm_laysRanks_11, e_Dm_laysRanks_12, e_Dm_laysRanks_15, e_Dm_laysRanks_16, bd_some, bd_none, Option.toList_some, Option.toList_none, List.nil_append, List.cons_append, px_kill_int, px_kill_long, px_kill_ref, px_kill_null, iI_lit, iJ_lit, iI_add, iI_sub, iI_mul, iI_neg, iJ_add, iJ_sub, iJ_mul, iJ_neg, iI_lt, iI_le, iI_eq, iJ_lt, iJ_le, iJ_eq, iI_div, iJ_div, tdiv_tmod, iI_J, iJ_I, iI_ix, iI_toInt, iJ_toInt, cmp_ge, cmp_lt, cmp_eq, cmp_gt, cmp_le, cmp_geI, cmp_ltI, cmp_eqI, cmp_gtI, cmp_leI, bI_0I, bI_1I, pin, if_true, hB.2.1, Int.le_refl]
    · rw [show (cel a b c d).toNat = n by omega]; exact hrow
  | succ m ih =>
    intro n y T hym hy0 hn hI hB hrow a4 a5 a6
    have hG := okG_brk hI.2.1
    have hh := hG.2.1
    have hw := hG.1
    have hnge : ¬ bkH (brk a b c d) ≤ y := by omega
    have s1 : rn k_Dm_laysRanks 9 [.ref 53, .int (iI (i : Int)), .int (iI (n : Int)), .int (iI y), a4, a5, a6] [] (enc T) = rn k_Dm_laysRanks 22 [.ref 53, .int (iI (i : Int)), .int (iI (n : Int)), .int (iI y), .int (iI 0), a5, a6] [] (enc T) := by
      rw [e_Dm_laysRanks_9]
      simp (disch := first | omega | assumption | decide | (simp (disch := omega) only [iI_lit, iJ_lit, iJ_eq, iI_eq, bI_01, bI_01I] <;> omega)) only [e_Dm_laysRanks_10, e_Dm_laysRanks_11, e_Dm_laysRanks_12, e_Dm_laysRanks_15, e_Dm_laysRanks_16, e_Dm_laysRanks_19, e_Dm_laysRanks_20, bd_some, bd_none, Option.toList_some, Option.toList_none, List.nil_append, List.cons_append, px_kill_int, px_kill_long, px_kill_ref, px_kill_null, iI_lit, iJ_lit, iI_add, iI_sub, iI_mul, iI_neg, iJ_add, iJ_sub, iJ_mul, iJ_neg, iI_lt, iI_le, iI_eq, iJ_lt, iJ_le, iJ_eq, iI_div, iJ_div, tdiv_tmod, iI_J, iJ_I, iI_ix, iI_toInt, iJ_toInt, cmp_ge, cmp_lt, cmp_eq, cmp_gt, cmp_le, cmp_geI, cmp_ltI, cmp_eqI, cmp_gtI, cmp_leI, bI_0I, bI_1I, pin, if_true, hB.2.1, hnge, if_false]
    obtain ⟨T2, n2, x5, x6, hn2, e2, fr2, r2⟩ := lp_mrk2 (i := i) (kd := kd) (y := y) (by omega) (bkW (brk a b c d)).toNat n 0 T (by omega) (by omega) (by omega) hI hB hrow a5 a6
    have s3 : rn k_Dm_laysRanks 154 [.ref 53, .int (iI (i : Int)), .int (iI (n2 : Int)), .int (iI y), .int (iI (bkW (brk a b c d))), x5, x6] [] (enc T2) = rn k_Dm_laysRanks 9 [.ref 53, .int (iI (i : Int)), .int (iI (n2 : Int)), .int (iI (y + 1)), .int (iI (bkW (brk a b c d))), x5, x6] [] (enc T2) := by
      simp (disch := first | omega | assumption | decide | (simp (disch := omega) only [iI_lit, iJ_lit, iJ_eq, iI_eq, bI_01, bI_01I] <;> omega)) only [e_Dm_laysRanks_154, e_Dm_laysRanks_157, bd_some, bd_none, Option.toList_some, Option.toList_none, List.nil_append, List.cons_append, px_kill_int, px_kill_long, px_kill_ref, px_kill_null, iI_lit, iJ_lit, iI_add, iI_sub, iI_mul, iI_neg, iJ_add, iJ_sub, iJ_mul, iJ_neg, iI_lt, iI_le, iI_eq, iJ_lt, iJ_le, iJ_eq, iI_div, iJ_div, tdiv_tmod, iI_J, iJ_I, iI_ix, iI_toInt, iJ_toInt, cmp_ge, cmp_lt, cmp_eq, cmp_gt, cmp_le, cmp_geI, cmp_ltI, cmp_eqI, cmp_gtI, cmp_leI, bI_0I, bI_1I, pin, if_true]
    obtain ⟨T', x4', x5', x6', e4, fr4, r4⟩ := ih n2 (y + 1) T2 (by omega) (by omega) hn2 (hI.fr fr2 (fun k => by unfold aRnk; omega)) (mGrd.fr hB fr2) r2 (.int (iI (bkW (brk a b c d)))) x5 x6
    exact ⟨T', x4', x5', x6', by rw [s1, e2, s3, e4], fr2.tr fr4, r4⟩
