/-! THE RANKS LAID, AND WHAT READS THEM. -/
set_option maxHeartbeats 1000000 in
theorem lp_mrk4 {i N : Nat} {w h s : Int} (f : Nat → Int) (o : Nat → Nat) (hG : okG w h s) (hN : (N : Int) = w * h) (ho : ∀ r, r < N → o r < N) (hinj : ∀ r r', r < N → r' < N → o r = o r' → r = r') (x4 x5 x6 : Value) : ∀ (m k : Nat) (T : TS), k + m = N → mGrd T w h s → (∀ r, r < N → rowM T w f r (o r)) → (∀ r, r < k → T.1 61 (o r) = iI (r : Int)) →
    ∃ T', rn k_Dm_laysRanks 162 [.ref 53, .int (iI (i : Int)), .int (iI (N : Int)), .int (iI (k : Int)), x4, x5, x6] [] (enc T) = some (none, enc T') ∧ FrI aRnk T T' ∧ (∀ r, r < N → rowM T' w f r (o r)) ∧ (∀ r, r < N → T'.1 61 (o r) = iI (r : Int)) := by
  intro m
  induction m with
  | zero =>
    intro k T hk hg hrow hdone
    have hkN : k = N := by omega
    have hNb : (N : Int) ≤ 144 := by rw [hN]; exact hG.2.2.2
    refine ⟨T, ?_, FrI.rf _ _, hrow, fun r hr => hdone r (by omega)⟩
    rw [e_Dm_laysRanks_162, hkN]
    simp (disch := first | omega | assumption | decide | (simp (disch := omega) only [iI_lit, iJ_lit, iJ_eq, iI_eq, bI_01, bI_01I] <;> omega)) only [e_Dm_laysRanks_163, e_Dm_laysRanks_164, e_Dm_laysRanks_167, e_Dm_laysRanks_168, e_Dm_laysRanks_171, e_Dm_laysRanks_172, e_Dm_laysRanks_173, e_Dm_laysRanks_176, e_Dm_laysRanks_177, e_Dm_laysRanks_178, e_Dm_laysRanks_179, e_Dm_laysRanks_182, e_Dm_laysRanks_183, e_Dm_laysRanks_184, e_Dm_laysRanks_187, e_Dm_laysRanks_188, e_Dm_laysRanks_189, e_Dm_laysRanks_192, e_Dm_laysRanks_195, bd_some, bd_none, Option.toList_some, Option.toList_none, List.nil_append, List.cons_append, px_kill_int, px_kill_long, px_kill_ref, px_kill_null, iI_lit, iJ_lit, iI_add, iI_sub, iI_mul, iI_neg, iJ_add, iJ_sub, iJ_mul, iJ_neg, iI_lt, iI_le, iI_eq, iJ_lt, iJ_le, iJ_eq, iI_div, iJ_div, tdiv_tmod, iI_J, iJ_I, iI_ix, iI_toInt, iJ_toInt, cmp_ge, cmp_lt, cmp_eq, cmp_gt, cmp_le, cmp_geI, cmp_ltI, cmp_eqI, cmp_gtI, cmp_leI, bI_0I, bI_1I, pin, if_true, Int.le_refl]
  | succ m ih =>
    intro k T hk hg hrow hdone
    have hNb : (N : Int) ≤ 144 := by rw [hN]; exact hG.2.2.2
    obtain ⟨r60, r58, r59⟩ := hrow k (by omega)
    have hw := hG.1
    have hh := hG.2.1
    have hok := ho k (by omega)
    have hx1 : 0 ≤ (o k : Int) % w := Int.emod_nonneg _ (by omega)
    have hx2 : (o k : Int) % w < w := Int.emod_lt_of_pos _ (by omega)
    have hy1 : 0 ≤ (o k : Int) / w := Int.ediv_nonneg (by omega) (by omega)
    have hy2 : (o k : Int) / w < h := Int.ediv_lt_of_lt_mul (by omega) (by rw [Int.mul_comm, ← hN]; omega)
    have hnn : (o k : Int) / w * w + (o k : Int) % w = (o k : Int) := by rw [Int.mul_comm]; exact Int.mul_ediv_add_emod _ _
    have hat := s_homeAt T hg hG ⟨hx1, hx2⟩ ⟨hy1, hy2⟩
    rw [hnn] at hat
    have hneg : ¬ (N : Int) ≤ (k : Int) := by omega
    have e1 : ((o k : Nat) : Int).toNat = o k := by omega
    have e2 : ((k : Nat) : Int).toNat = k := by omega
    have step : rn k_Dm_laysRanks 162 [.ref 53, .int (iI (i : Int)), .int (iI (N : Int)), .int (iI (k : Int)), x4, x5, x6] [] (enc T) = rn k_Dm_laysRanks 162 [.ref 53, .int (iI (i : Int)), .int (iI (N : Int)), .int (iI ((k + 1 : Nat) : Int)), x4, x5, x6] [] (enc (sI T 61 (o k) (iI (k : Int)))) := by
      rw [e_Dm_laysRanks_162]
      simp (disch := first | omega | assumption | decide | (simp (disch := omega) only [iI_lit, iJ_lit, iJ_eq, iI_eq, bI_01, bI_01I] <;> omega)) only [e_Dm_laysRanks_163, e_Dm_laysRanks_164, e_Dm_laysRanks_167, e_Dm_laysRanks_168, e_Dm_laysRanks_171, e_Dm_laysRanks_172, e_Dm_laysRanks_173, e_Dm_laysRanks_176, e_Dm_laysRanks_177, e_Dm_laysRanks_178, e_Dm_laysRanks_179, e_Dm_laysRanks_182, e_Dm_laysRanks_183, e_Dm_laysRanks_184, e_Dm_laysRanks_187, e_Dm_laysRanks_188, e_Dm_laysRanks_189, e_Dm_laysRanks_192, e_Dm_laysRanks_195, bd_some, bd_none, Option.toList_some, Option.toList_none, List.nil_append, List.cons_append, px_kill_int, px_kill_long, px_kill_ref, px_kill_null, iI_lit, iJ_lit, iI_add, iI_sub, iI_mul, iI_neg, iJ_add, iJ_sub, iJ_mul, iJ_neg, iI_lt, iI_le, iI_eq, iJ_lt, iJ_le, iJ_eq, iI_div, iJ_div, tdiv_tmod, iI_J, iJ_I, iI_ix, iI_toInt, iJ_toInt, cmp_ge, cmp_lt, cmp_eq, cmp_gt, cmp_le, cmp_geI, cmp_ltI, cmp_eqI, cmp_gtI, cmp_leI, bI_0I, bI_1I, pin, if_true, sI_get, sJ_get, sI_2, sJ_1, sJ_22, sR_1, sR_21, Nat.reduceEqDiff, and_true, true_and, and_false, false_and, and_self, if_true, if_false, reduceIte, hneg, if_false, sh_n61, sh_n58, sh_n59, e2, r58, r59, hat, e1]
      rw [show ((k + 1 : Nat) : Int) = (k : Int) + 1 by omega]
    have hrd : ∀ q r, q ≠ 61 → (sI T 61 (o k) (iI (k : Int))).1 q r = T.1 q r := by
      intro q r hq
      simp only [sI_get, sJ_get, sI_2, sJ_1, sJ_22, sR_1, sR_21, Nat.reduceEqDiff, and_true, true_and, and_false, false_and, and_self, if_true, if_false, reduceIte, hq]
    obtain ⟨T', e, fr, g1, g2⟩ := ih (k + 1) (sI T 61 (o k) (iI (k : Int))) (by omega) (by unfold mGrd at *; simp only [sI_get, sJ_get, sI_2, sJ_1, sJ_22, sR_1, sR_21, Nat.reduceEqDiff, and_true, true_and, and_false, false_and, and_self, if_true, if_false, reduceIte]; exact hg) (fun r hr => (hrow r hr).fr (hrd _ _ (by decide)) (hrd _ _ (by decide)) (hrd _ _ (by decide))) (fun r hr => by
      by_cases hrk : r = k
      · rw [hrk]; simp only [sI_get, sJ_get, sI_2, sJ_1, sJ_22, sR_1, sR_21, Nat.reduceEqDiff, and_true, true_and, and_false, false_and, and_self, if_true, if_false, reduceIte]
      · have hne : o r ≠ o k := fun h => hrk (hinj r k (by omega) (by omega) h)
        have := hdone r (by omega)
        simp only [sI_get, sJ_get, sI_2, sJ_1, sJ_22, sR_1, sR_21, Nat.reduceEqDiff, and_true, true_and, and_false, false_and, and_self, if_true, if_false, reduceIte, hne]
        exact this)
    exact ⟨T', by rw [step, e], (((FrI.rf _ _).wr _ (by unfold aRnk; omega)).tr fr), g1, g2⟩
/-- the brick laid -/
def tBrk (T : TS) (a b c d : Int) : TS := sJ (sJ (sJ T 53 11 (iJ (bkW (brk a b c d)))) 53 12 (iJ (bkH (brk a b c d)))) 53 13 (iJ (bkS (brk a b c d)))
theorem tBrk_I (T : TS) (a b c d : Int) : (tBrk T a b c d).1 = T.1 := rfl
theorem tBrk_g (T : TS) (a b c d : Int) : mBrk (tBrk T a b c d) a b c d := by
  unfold mBrk mGrd tBrk
  simp only [sI_get, sJ_get, sI_2, sJ_1, sJ_22, sR_1, sR_21, Nat.reduceEqDiff, and_true, true_and, and_false, false_and, and_self, if_true, if_false, reduceIte]
  try exact ⟨trivial, trivial, trivial⟩
/-- the ranks stand in the reference -/
def isRnk (T : TS) (a b c d kd : Int) : Prop := (∀ r : Nat, (r : Int) < cel a b c d → rowM T (bkW (brk a b c d)) (fSp a b c d kd) r (ordS (fSp a b c d kd) (cel a b c d).toNat r)) ∧ (∀ r : Nat, (r : Int) < cel a b c d → T.1 61 (ordS (fSp a b c d kd) (cel a b c d).toNat r) = iI (r : Int))
theorem inkM.eqI {T T' : TS} {i : Nat} {a b c d kd : Int} (h : inkM T i a b c d kd) (e : T'.1 = T.1) : inkM T' i a b c d kd := by
  unfold inkM mScr at *; rw [e]; exact h
set_option maxHeartbeats 1000000 in
theorem s_laysRanks {T : TS} {i : Nat} {a b c d kd : Int} (hI : inkM T i a b c d kd) : ∃ T', cl k_Dm_laysRanks [.ref 53, .int (iI (i : Int))] (enc T) = some (none, enc T') ∧ FrI aRnk (tBrk T a b c d) T' ∧ mBrk T' a b c d ∧ isRnk T' a b c d kd := by
  have hG := okG_brk hI.2.1
  obtain ⟨f1, f2, f3, f4, f5, f6⟩ := brk_facts hI.2.1
  have hcb := cel_bd hI.2.1
  have hb : cl k_Dm_laysBrick [.ref 53, .int (iI (i : Int))] (enc T) = some (none, enc (tBrk T a b c d)) := s_laysBrick T hI.1 hI.2.2.1 hI.2.1
  obtain ⟨T2, x4, x5, x6, e2, fr2, r2⟩ := lp_mrk3 (i := i) (a := a) (b := b) (c := c) (d := d) (kd := kd) (bkH (brk a b c d)).toNat 0 0 (tBrk T a b c d) (by omega) (by omega) (by omega) (hI.eqI rfl) (tBrk_g T a b c d) (fun r hr => absurd hr (by omega)) .null .null .null
  obtain ⟨T', e3, fr3, g1, g2⟩ := lp_mrk4 (i := i) (N := (cel a b c d).toNat) (fSp a b c d kd) (ordS (fSp a b c d kd) (cel a b c d).toNat) hG (by omega) (ordS_lt _ _) (ordS_inj _ _) x4 x5 x6 (cel a b c d).toNat 0 T2 (by omega) (mGrd.fr (tBrk_g T a b c d) fr2) r2 (fun r hr => absurd hr (by omega))
  refine ⟨T', ?_, fr2.tr fr3, mGrd.fr (tBrk_g T a b c d) (fr2.tr fr3), fun r hr => g1 r (by omega), fun r hr => g2 r (by omega)⟩
  rw [show (((cel a b c d).toNat : Nat) : Int) = cel a b c d by omega] at e3
  simp only [c_Dm_laysRanks]
  simp (disch := first | omega | assumption | decide | (simp (disch := omega) only [iI_lit, iJ_lit, iJ_eq, iI_eq, bI_01, bI_01I] <;> omega)) only [e_Dm_laysRanks_0, e_Dm_laysRanks_1, e_Dm_laysRanks_2, e_Dm_laysRanks_5, e_Dm_laysRanks_6, e_Dm_laysRanks_7, e_Dm_laysRanks_8, bd_some, bd_none, Option.toList_some, Option.toList_none, List.nil_append, List.cons_append, px_kill_int, px_kill_long, px_kill_ref, px_kill_null, iI_lit, iJ_lit, iI_add, iI_sub, iI_mul, iI_neg, iJ_add, iJ_sub, iJ_mul, iJ_neg, iI_lt, iI_le, iI_eq, iJ_lt, iJ_le, iJ_eq, iI_div, iJ_div, tdiv_tmod, iI_J, iJ_I, iI_ix, iI_toInt, iJ_toInt, cmp_ge, cmp_lt, cmp_eq, cmp_gt, cmp_le, cmp_geI, cmp_ltI, cmp_eqI, cmp_gtI, cmp_leI, bI_0I, bI_1I, pin, if_true, hb]
  refine Eq.trans e2 ?_
  simp (disch := first | omega | assumption | decide | (simp (disch := omega) only [iI_lit, iJ_lit, iJ_eq, iI_eq, bI_01, bI_01I] <;> omega)) only [e_Dm_laysRanks_160, e_Dm_laysRanks_161, bd_some, bd_none, Option.toList_some, Option.toList_none, List.nil_append, List.cons_append, px_kill_int, px_kill_long, px_kill_ref, px_kill_null, iI_lit, iJ_lit, iI_add, iI_sub, iI_mul, iI_neg, iJ_add, iJ_sub, iJ_mul, iJ_neg, iI_lt, iI_le, iI_eq, iJ_lt, iJ_le, iJ_eq, iI_div, iJ_div, tdiv_tmod, iI_J, iJ_I, iI_ix, iI_toInt, iJ_toInt, cmp_ge, cmp_lt, cmp_eq, cmp_gt, cmp_le, cmp_geI, cmp_ltI, cmp_eqI, cmp_gtI, cmp_leI, bI_0I, bI_1I, pin, if_true]
  exact e3

/-! READING THE RANKS. -/
theorem plc_bd4 {w h s : Int} (hG : okG w h s) (x y : Int) : (0 ≤ hmX w h s x y ∧ hmX w h s x y < w) ∧ (0 ≤ y % h ∧ y % h < h) ∧ 0 ≤ plc w h s x y ∧ plc w h s x y < w * h := by
  obtain ⟨hw, hh, hs, hc⟩ := hG
  have a1 : 0 ≤ hmX w h s x y := Int.emod_nonneg _ (by omega)
  have a2 : hmX w h s x y < w := Int.emod_lt_of_pos _ (by omega)
  have b1 : 0 ≤ y % h := Int.emod_nonneg _ (by omega)
  have b2 : y % h < h := Int.emod_lt_of_pos _ (by omega)
  refine ⟨⟨a1, a2⟩, ⟨b1, b2⟩, ?_, ?_⟩
  · unfold plc
    have := Int.mul_nonneg b1 (show 0 ≤ w by omega)
    omega
  · unfold plc
    have h1 : y % h * w ≤ (h - 1) * w := Int.mul_le_mul_of_nonneg_right (by omega) (by omega)
    have e : (h - 1) * w = w * h - w := by grind
    omega
/-- the rank of a home -/
theorem rk_ex {a b c d : Int} (kd : Int) (ho : okS a b c d) (x y : Int) : ∃ r : Nat, (r : Int) < cel a b c d ∧ ((ordS (fSp a b c d kd) (cel a b c d).toNat r : Nat) : Int) = plc (bkW (brk a b c d)) (bkH (brk a b c d)) (bkS (brk a b c d)) x y := by
  obtain ⟨f1, f2, f3, f4, f5, f6⟩ := brk_facts ho
  have hp := plc_bd4 (okG_brk ho) x y
  rw [f5] at hp
  obtain ⟨r, hr, e⟩ := ordS_sur (fSp a b c d kd) (cel a b c d).toNat (plc (bkW (brk a b c d)) (bkH (brk a b c d)) (bkS (brk a b c d)) x y).toNat (by omega)
  exact ⟨r, by omega, by omega⟩
set_option maxHeartbeats 1000000 in
theorem s_rankAt {T : TS} {a b c d kd : Int} (ho : okS a b c d) (hB : mBrk T a b c d) (hR : isRnk T a b c d kd) {x y : Int} (hx : -100000 ≤ x ∧ x ≤ 100000) (hy : -100000 ≤ y ∧ y ≤ 100000) {r : Nat} (hr : (r : Int) < cel a b c d) (hm : ((ordS (fSp a b c d kd) (cel a b c d).toNat r : Nat) : Int) = plc (bkW (brk a b c d)) (bkH (brk a b c d)) (bkS (brk a b c d)) x y) :
    ∃ T', cl k_Dm_rankAt [.ref 53, .int (iI x), .int (iI y)] (enc T) = some (some (.int (iI (r : Int))), enc T') ∧ FrI aRnk T T' ∧ mBrk T' a b c d ∧ isRnk T' a b c d kd := by
  have hG := okG_brk ho
  have hp := plc_bd4 hG x y
  obtain ⟨f1, f2, f3, f4, f5, f6⟩ := brk_facts ho
  have hcb := cel_bd ho
  obtain ⟨T', hT'⟩ : ∃ T' : TS, T' = sI (sI T 53 19 (iI (y % bkH (brk a b c d)))) 53 18 (iI (hmX (bkW (brk a b c d)) (bkH (brk a b c d)) (bkS (brk a b c d)) x y)) := ⟨_, rfl⟩
  have hl := s_laysHome T hB hG hx hy
  rw [← hT'] at hl
  have fr : FrI aRnk T T' := by
    rw [hT']
    exact ((FrI.rf _ _).wr _ (by unfold aRnk; omega)).wr _ (by unfold aRnk; omega)
  have hB' : mBrk T' a b c d := mGrd.fr hB fr
  have hrd : ∀ q k, q ≠ 53 → T'.1 q k = T.1 q k := by
    intro q k hq
    rw [hT']
    simp only [sI_get, sJ_get, sI_2, sJ_1, sJ_22, sR_1, sR_21, Nat.reduceEqDiff, and_true, true_and, and_false, false_and, and_self, if_true, if_false, reduceIte, hq]
  have hR' : isRnk T' a b c d kd := ⟨fun r hr => (hR.1 r hr).fr (hrd _ _ (by decide)) (hrd _ _ (by decide)) (hrd _ _ (by decide)), fun r hr => (hrd _ _ (by decide)).trans (hR.2 r hr)⟩
  refine ⟨T', ?_, fr, hB', hR'⟩
  have h18 : T'.1 53 18 = iI (hmX (bkW (brk a b c d)) (bkH (brk a b c d)) (bkS (brk a b c d)) x y) := by rw [hT']; simp only [sI_get, sJ_get, sI_2, sJ_1, sJ_22, sR_1, sR_21, Nat.reduceEqDiff, and_true, true_and, and_false, false_and, and_self, if_true, if_false, reduceIte]
  have h19 : T'.1 53 19 = iI (y % bkH (brk a b c d)) := by rw [hT']; simp only [sI_get, sJ_get, sI_2, sJ_1, sJ_22, sR_1, sR_21, Nat.reduceEqDiff, and_true, true_and, and_false, false_and, and_self, if_true, if_false, reduceIte]
  have hat := s_homeAt T' hB' hG hp.1 hp.2.1
  rw [show y % bkH (brk a b c d) * bkW (brk a b c d) + hmX (bkW (brk a b c d)) (bkH (brk a b c d)) (bkS (brk a b c d)) x y = plc (bkW (brk a b c d)) (bkH (brk a b c d)) (bkS (brk a b c d)) x y from rfl, ← hm] at hat
  have hv := hR'.2 r hr
  have e1 : ((ordS (fSp a b c d kd) (cel a b c d).toNat r : Nat) : Int).toNat = ordS (fSp a b c d kd) (cel a b c d).toNat r := by omega
  have hlt := ordS_lt (fSp a b c d kd) (cel a b c d).toNat r (by omega)
  simp (disch := first | omega | assumption | decide | (simp (disch := omega) only [iI_lit, iJ_lit, iJ_eq, iI_eq, bI_01, bI_01I] <;> omega)) only [c_Dm_rankAt, c_Dm_rankAt, e_Dm_rankAt_0, e_Dm_rankAt_1, e_Dm_rankAt_2, e_Dm_rankAt_3, e_Dm_rankAt_6, e_Dm_rankAt_7, e_Dm_rankAt_10, e_Dm_rankAt_11, e_Dm_rankAt_12, e_Dm_rankAt_15, e_Dm_rankAt_16, e_Dm_rankAt_19, e_Dm_rankAt_22, e_Dm_rankAt_23, bd_some, bd_none, Option.toList_some, Option.toList_none, List.nil_append, List.cons_append, px_kill_int, px_kill_long, px_kill_ref, px_kill_null, iI_lit, iJ_lit, iI_add, iI_sub, iI_mul, iI_neg, iJ_add, iJ_sub, iJ_mul, iJ_neg, iI_lt, iI_le, iI_eq, iJ_lt, iJ_le, iJ_eq, iI_div, iJ_div, tdiv_tmod, iI_J, iJ_I, iI_ix, iI_toInt, iJ_toInt, cmp_ge, cmp_lt, cmp_eq, cmp_gt, cmp_le, cmp_geI, cmp_ltI, cmp_eqI, cmp_gtI, cmp_leI, bI_0I, bI_1I, pin, if_true, hl, h18, h19, hat, sh_n61, e1, hv]
set_option maxHeartbeats 1000000 in
theorem s_rankHere {T : TS} {i : Nat} {a b c d kd ox oy : Int} (hi : i < 4) (ho : okS a b c d) (hB : mBrk T a b c d) (hR : isRnk T a b c d kd) (h6 : T.1 56 (8 * i + 6) = iI ox) (h7 : T.1 56 (8 * i + 7) = iI oy) (hob : (-99 ≤ ox ∧ ox ≤ 99) ∧ (-99 ≤ oy ∧ oy ≤ 99)) {x y : Int} (hx : -50000 ≤ x ∧ x ≤ 50000) (hy : -50000 ≤ y ∧ y ≤ 50000) {r : Nat} (hr : (r : Int) < cel a b c d) (hm : ((ordS (fSp a b c d kd) (cel a b c d).toNat r : Nat) : Int) = plc (bkW (brk a b c d)) (bkH (brk a b c d)) (bkS (brk a b c d)) (x - ox) (y - oy)) :
    ∃ T', cl k_Dm_rankHere [.ref 53, .int (iI (i : Int)), .int (iI x), .int (iI y)] (enc T) = some (some (.int (iI (r : Int))), enc T') ∧ FrI aRnk T T' ∧ mBrk T' a b c d ∧ isRnk T' a b c d kd := by
  obtain ⟨T', e, fr, hB', hR'⟩ := s_rankAt ho hB hR (x := x - ox) (y := y - oy) (by omega) (by omega) hr hm
  refine ⟨T', ?_, fr, hB', hR'⟩
  simp (disch := first | omega | assumption | decide | (simp (disch := omega) only [iI_lit, iJ_lit, iJ_eq, iI_eq, bI_01, bI_01I] <;> omega)) only [c_Dm_rankHere, c_Dm_rankHere, e_Dm_rankHere_0, e_Dm_rankHere_1, e_Dm_rankHere_2, e_Dm_rankHere_3, e_Dm_rankHere_4, e_Dm_rankHere_6, e_Dm_rankHere_9, e_Dm_rankHere_10, e_Dm_rankHere_11, e_Dm_rankHere_12, e_Dm_rankHere_13, e_Dm_rankHere_15, e_Dm_rankHere_18, e_Dm_rankHere_19, e_Dm_rankHere_22, bd_some, bd_none, Option.toList_some, Option.toList_none, List.nil_append, List.cons_append, px_kill_int, px_kill_long, px_kill_ref, px_kill_null, iI_lit, iJ_lit, iI_add, iI_sub, iI_mul, iI_neg, iJ_add, iJ_sub, iJ_mul, iJ_neg, iI_lt, iI_le, iI_eq, iJ_lt, iJ_le, iJ_eq, iI_div, iJ_div, tdiv_tmod, iI_J, iJ_I, iI_ix, iI_toInt, iJ_toInt, cmp_ge, cmp_lt, cmp_eq, cmp_gt, cmp_le, cmp_geI, cmp_ltI, cmp_eqI, cmp_gtI, cmp_leI, bI_0I, bI_1I, pin, if_true, s_of6, s_of7, hi, h6, h7, e]
