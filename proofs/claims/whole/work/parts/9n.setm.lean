/-! what a set of grids has in common: pure, and the component's side. -/
theorem gc1 (o : Int) : gc 1 o = 1 := by
  unfold gc
  rw [Int.gcd_comm, Int.gcd_one]
  rfl
theorem mt_one {o oh os : Int} (h : okG o oh os) : mtW 1 o = o ∧ mtH 1 1 0 o oh os = oh ∧ mtS 1 1 0 o oh os = os := by
  obtain ⟨o0, oh0, os0, oc0⟩ := h
  have r : mRs 1 oh = oh := by
    show 1 / gc 1 oh * oh = oh
    rw [gc1]; omega
  have x : mX 1 0 oh = 0 := by
    show mRs 1 oh / 1 * 0 = 0
    omega
  have y : mO 1 oh os = os := by
    show mRs 1 oh / oh * os = os
    rw [r, Int.ediv_self (by omega)]; omega
  have t : mTm 1 1 0 o oh os = 1 := by
    unfold mTm
    rw [gc1, gc1]; rfl
  have w : mtW 1 o = o := by
    unfold mtW
    rw [gc1]; omega
  refine ⟨w, by unfold mtH; rw [t, r]; omega, ?_⟩
  unfold mtS
  rw [w, t, x, y]
  have e := fdK_sp (w := 1) (o := o) (O := os * 1) 144 (0 * 1) ⟨os.toNat, by omega, by rw [show (0 * 1 : Int) + (os.toNat : Int) * 1 - os * 1 = 0 by omega]; rfl⟩
  have e1 := e.1
  generalize fdK 1 o (os * 1) 144 (0 * 1) = K at *
  have d := Int.dvd_of_emod_eq_zero e1
  have := Int.emod_emod_of_dvd
  rw [show K = os + (K - os * 1) by omega]
  obtain ⟨m, hm⟩ := d
  rw [hm, Int.add_mul_emod_self_left]
  exact Int.emod_eq_of_lt os0.1 os0.2
def gcm (V : VW) (m : Nat) : Nat → Int × Int × Int
  | 0 => (1, 1, 0)
  | k + 1 => if m / 2 ^ k % 2 = 1 then (mtW (gcm V m k).1 (bkW (brkN (V.2 k))), mtH (gcm V m k).1 (gcm V m k).2.1 (gcm V m k).2.2 (bkW (brkN (V.2 k))) (bkH (brkN (V.2 k))) (bkS (brkN (V.2 k))), mtS (gcm V m k).1 (gcm V m k).2.1 (gcm V m k).2.2 (bkW (brkN (V.2 k))) (bkH (brkN (V.2 k))) (bkS (brkN (V.2 k)))) else gcm V m k
theorem okMC.le {C D w h s : Int} (h1 : okMC C w h s) (h2 : C ≤ D) : okMC D w h s := ⟨h1.1, h1.2.1, h1.2.2.1, by have := h1.2.2.2; omega⟩
def pw4 : Nat → Int
  | 0 => 1
  | k + 1 => pw4 k * 144
theorem pw4_b : ∀ k : Nat, k < 5 → pw4 k ≤ pw4 (k + 1) ∧ (k < 4 → pw4 k ≤ 2985984) ∧ pw4 k ≤ 429981696 := by decide +kernel
theorem gcm_ok {V : VW} (hV : okV V) (m : Nat) : ∀ k : Nat, k ≤ V.1 → okMC (pw4 k) (gcm V m k).1 (gcm V m k).2.1 (gcm V m k).2.2 := by
  intro k
  induction k with
  | zero => intro _; exact ⟨by show (0 : Int) < 1; omega, by show (0 : Int) < 1; omega, ⟨by show (0 : Int) ≤ 0; omega, by show (0 : Int) < 1; omega⟩, by show (1 : Int) * 1 ≤ 1; omega⟩
  | succ k ih =>
    intro hk
    have i := ih (by omega)
    have h4 := hV.1
    have p := pw4_b k (by omega)
    unfold gcm
    by_cases c : m / 2 ^ k % 2 = 1
    · rw [if_pos c]
      obtain ⟨_, _, _, _, _, _, _, _, _, F10, _, _⟩ := mt_facts p.2.2 i (okG_brk (hV.2 k (by omega)).1)
      exact F10
    · rw [if_neg c]
      exact i.le p.1
theorem bit_has4 : ∀ h : Nat, h < 16 → ∀ j : Nat, j < 4 → (iI (h : Int) >>> (iI (j : Int) &&& iI 31)) &&& iI 1 = iI ((h / 2 ^ j % 2 : Nat) : Int) := by decide +kernel
theorem g_has4 {h j : Nat} (hh : h < 16) (hj : j < 4) (g : px_G) : cl k_Dm_has [.int (iI (h : Int)), .int (iI (j : Int))] g = some (some (.int (bI (h / 2 ^ j % 2 = 1))), g) := by
  have b := bit_has4 h hh j hj
  by_cases c : h / 2 ^ j % 2 = 1
  · rw [c, show ((1 : Nat) : Int) = 1 from rfl] at b
    rw [bI_tI c]
    simp (disch := first | omega | assumption | decide | (simp (disch := omega) only [iI_lit, iJ_lit, iJ_eq, iI_eq, bI_01, bI_01I] <;> omega)) only [c_Dm_has, e_Dm_has_0, e_Dm_has_1, e_Dm_has_2, e_Dm_has_3, e_Dm_has_4, e_Dm_has_5, e_Dm_has_6, e_Dm_has_9, e_Dm_has_10, e_Dm_has_13, e_Dm_has_14, bd_some, bd_none, Option.toList_some, Option.toList_none, List.nil_append, List.cons_append, px_kill_int, px_kill_long, px_kill_ref, px_kill_null, iI_lit, iJ_lit, iI_add, iI_sub, iI_mul, iI_neg, iJ_add, iJ_sub, iJ_mul, iJ_neg, iI_lt, iI_le, iI_eq, iJ_lt, iJ_le, iJ_eq, iI_div, iJ_div, tdiv_tmod, iI_J, iJ_I, iI_ix, iI_toInt, iJ_toInt, cmp_ge, cmp_lt, cmp_eq, cmp_gt, cmp_le, cmp_geI, cmp_ltI, cmp_eqI, cmp_gtI, cmp_leI, bI_0I, bI_1I, pin, if_true, b]
  · have c' : h / 2 ^ j % 2 = 0 := by omega
    rw [c', show ((0 : Nat) : Int) = 0 from rfl] at b
    have n01 : ¬ (0 : Int) = 1 := by omega
    rw [bI_fI c]
    simp (disch := first | omega | assumption | decide | (simp (disch := omega) only [iI_lit, iJ_lit, iJ_eq, iI_eq, bI_01, bI_01I] <;> omega)) only [c_Dm_has, e_Dm_has_0, e_Dm_has_1, e_Dm_has_2, e_Dm_has_3, e_Dm_has_4, e_Dm_has_5, e_Dm_has_6, e_Dm_has_9, e_Dm_has_10, e_Dm_has_13, e_Dm_has_14, bd_some, bd_none, Option.toList_some, Option.toList_none, List.nil_append, List.cons_append, px_kill_int, px_kill_long, px_kill_ref, px_kill_null, iI_lit, iJ_lit, iI_add, iI_sub, iI_mul, iI_neg, iJ_add, iJ_sub, iJ_mul, iJ_neg, iI_lt, iI_le, iI_eq, iJ_lt, iJ_le, iJ_eq, iI_div, iJ_div, tdiv_tmod, iI_J, iJ_I, iI_ix, iI_toInt, iJ_toInt, cmp_ge, cmp_lt, cmp_eq, cmp_gt, cmp_le, cmp_geI, cmp_ltI, cmp_eqI, cmp_gtI, cmp_leI, bI_0I, bI_1I, pin, if_true, b, n01, if_false]
abbrev bMt (p _k : Nat) : Prop := p = 12
abbrev gW (V : VW) (m : Nat) : Int := (gcm V m V.1).1
abbrev gH (V : VW) (m : Nat) : Int := (gcm V m V.1).2.1
abbrev gS (V : VW) (m : Nat) : Int := (gcm V m V.1).2.2
theorem mt_B {T T' : TS} (h : FrA aNo bMt T T') : FrA aB bB T T' := h.mono (fun q k z => aNo_B z) (fun q k z => by unfold bMt at z; unfold bB; omega)
set_option maxHeartbeats 2000000 in
theorem lp_smeet {V : VW} (hV : okV V) {m : Nat} (hm : m < 16) : ∀ (n k : Nat) (T : TS), k + n = V.1 → cC T V → cGrd T 12 (gcm V m k).1 (gcm V m k).2.1 (gcm V m k).2.2 → ∃ T', rn k_Ds_meet 9 [.ref 0, .int (iI (m : Int)), .int (iI (k : Int))] [] (enc T) = some (none, enc T') ∧ FrA aNo bMt T T' ∧ cGrd T' 12 (gW V m) (gH V m) (gS V m) := by
  intro n
  induction n with
  | zero =>
    intro k T hk h hg
    have e : k = V.1 := by omega
    subst e
    refine ⟨T, ?_, FrA.rf _ _ T, hg⟩
    have h4 := hV.1
    rw [e_Ds_meet_9]
    simp (disch := first | omega | assumption | decide | (simp (disch := omega) only [iI_lit, iJ_lit, iJ_eq, iI_eq, bI_01, bI_01I] <;> omega)) only [e_Ds_meet_10, e_Ds_meet_11, e_Ds_meet_14, e_Ds_meet_17, e_Ds_meet_18, e_Ds_meet_19, e_Ds_meet_20, e_Ds_meet_21, e_Ds_meet_22, e_Ds_meet_23, e_Ds_meet_26, e_Ds_meet_27, e_Ds_meet_30, e_Ds_meet_31, e_Ds_meet_34, e_Ds_meet_35, e_Ds_meet_36, e_Ds_meet_39, e_Ds_meet_42, e_Ds_meet_45, e_Ds_meet_48, bd_some, bd_none, Option.toList_some, Option.toList_none, List.nil_append, List.cons_append, px_kill_int, px_kill_long, px_kill_ref, px_kill_null, iI_lit, iJ_lit, iI_add, iI_sub, iI_mul, iI_neg, iJ_add, iJ_sub, iJ_mul, iJ_neg, iI_lt, iI_le, iI_eq, iJ_lt, iJ_le, iJ_eq, iI_div, iJ_div, tdiv_tmod, iI_J, iJ_I, iI_ix, iI_toInt, iJ_toInt, cmp_ge, cmp_lt, cmp_eq, cmp_gt, cmp_le, cmp_geI, cmp_ltI, cmp_eqI, cmp_gtI, cmp_leI, bI_0I, bI_1I, pin, if_true, h.1, Int.le_refl]
  | succ n ih =>
    intro k T hk h hg
    have h4 := hV.1
    have nle : ¬ (V.1 : Int) ≤ (k : Int) := by omega
    have b := bit_has4 m hm k (by omega)
    have ek : ((k + 1 : Nat) : Int) = (k : Int) + 1 := by omega
    have ek' : ((k : Int)).toNat = k := by omega
    by_cases c : m / 2 ^ k % 2 = 1
    · rw [c, show ((1 : Nat) : Int) = 1 from rfl] at b
      obtain ⟨h4', hp, hs, hI⟩ := cC.at hV h (j := k) (by omega)
      have q2 := (pl_s3 hp).2.2.2.2.2
      obtain ⟨T1, e1, f1, g1⟩ := c_gmeet (T := T) q2 (by unfold isPl at hp; omega) (pw4_b k (by omega)).2.2 (gcm_ok hV m k (by omega)) (okG_brk (hV.2 k (by omega)).1) hg hI.1.2.2.2.1
      have eg : gcm V m (k + 1) = (mtW (gcm V m k).1 (bkW (brkN (V.2 k))), mtH (gcm V m k).1 (gcm V m k).2.1 (gcm V m k).2.2 (bkW (brkN (V.2 k))) (bkH (brkN (V.2 k))) (bkS (brkN (V.2 k))), mtS (gcm V m k).1 (gcm V m k).2.1 (gcm V m k).2.2 (bkW (brkN (V.2 k))) (bkH (brkN (V.2 k))) (bkS (brkN (V.2 k)))) := by
        show (if m / 2 ^ k % 2 = 1 then _ else _) = _
        rw [if_pos c]
      obtain ⟨T2, e2, f2, g2⟩ := ih (k + 1) T1 (by omega) (h.frB hV (mt_B f1)) (by rw [eg]; exact g1)
      refine ⟨T2, ?_, f1.tr f2, g2⟩
      refine Eq.trans ?_ e2
      rw [ek, e_Ds_meet_9]
      simp (disch := first | omega | assumption | decide | (simp (disch := omega) only [iI_lit, iJ_lit, iJ_eq, iI_eq, bI_01, bI_01I] <;> omega)) only [e_Ds_meet_10, e_Ds_meet_11, e_Ds_meet_14, e_Ds_meet_17, e_Ds_meet_18, e_Ds_meet_19, e_Ds_meet_20, e_Ds_meet_21, e_Ds_meet_22, e_Ds_meet_23, e_Ds_meet_26, e_Ds_meet_27, e_Ds_meet_30, e_Ds_meet_31, e_Ds_meet_34, e_Ds_meet_35, e_Ds_meet_36, e_Ds_meet_39, e_Ds_meet_42, e_Ds_meet_45, e_Ds_meet_48, bd_some, bd_none, Option.toList_some, Option.toList_none, List.nil_append, List.cons_append, px_kill_int, px_kill_long, px_kill_ref, px_kill_null, iI_lit, iJ_lit, iI_add, iI_sub, iI_mul, iI_neg, iJ_add, iJ_sub, iJ_mul, iJ_neg, iI_lt, iI_le, iI_eq, iJ_lt, iJ_le, iJ_eq, iI_div, iJ_div, tdiv_tmod, iI_J, iJ_I, iI_ix, iI_toInt, iJ_toInt, cmp_ge, cmp_lt, cmp_eq, cmp_gt, cmp_le, cmp_geI, cmp_ltI, cmp_eqI, cmp_gtI, cmp_leI, bI_0I, bI_1I, pin, if_true, h.1, nle, if_false, b, if_true, ek', sh_n5, hs, e1]
    · have c' : m / 2 ^ k % 2 = 0 := by omega
      rw [c', show ((0 : Nat) : Int) = 0 from rfl] at b
      have n01 : ¬ (0 : Int) = 1 := by omega
      have eg : gcm V m (k + 1) = gcm V m k := by
        show (if m / 2 ^ k % 2 = 1 then _ else _) = _
        rw [if_neg c]
      obtain ⟨T2, e2, f2, g2⟩ := ih (k + 1) T (by omega) h (by rw [eg]; exact hg)
      refine ⟨T2, ?_, f2, g2⟩
      refine Eq.trans ?_ e2
      rw [ek, e_Ds_meet_9]
      simp (disch := first | omega | assumption | decide | (simp (disch := omega) only [iI_lit, iJ_lit, iJ_eq, iI_eq, bI_01, bI_01I] <;> omega)) only [e_Ds_meet_10, e_Ds_meet_11, e_Ds_meet_14, e_Ds_meet_17, e_Ds_meet_18, e_Ds_meet_19, e_Ds_meet_20, e_Ds_meet_21, e_Ds_meet_22, e_Ds_meet_23, e_Ds_meet_26, e_Ds_meet_27, e_Ds_meet_30, e_Ds_meet_31, e_Ds_meet_34, e_Ds_meet_35, e_Ds_meet_36, e_Ds_meet_39, e_Ds_meet_42, e_Ds_meet_45, e_Ds_meet_48, bd_some, bd_none, Option.toList_some, Option.toList_none, List.nil_append, List.cons_append, px_kill_int, px_kill_long, px_kill_ref, px_kill_null, iI_lit, iJ_lit, iI_add, iI_sub, iI_mul, iI_neg, iJ_add, iJ_sub, iJ_mul, iJ_neg, iI_lt, iI_le, iI_eq, iJ_lt, iJ_le, iJ_eq, iI_div, iJ_div, tdiv_tmod, iI_J, iJ_I, iI_ix, iI_toInt, iJ_toInt, cmp_ge, cmp_lt, cmp_eq, cmp_gt, cmp_le, cmp_geI, cmp_ltI, cmp_eqI, cmp_gtI, cmp_leI, bI_0I, bI_1I, pin, if_true, h.1, nle, if_false, b, n01]
set_option maxHeartbeats 2000000 in
theorem c_smeet {T : TS} {V : VW} (hV : okV V) (h : cC T V) {m : Nat} (hm : m < 16) : ∃ T', cl k_Ds_meet [.ref 0, .int (iI (m : Int))] (enc T) = some (none, enc T') ∧ FrA aNo bMt T T' ∧ cGrd T' 12 (gW V m) (gH V m) (gS V m) := by
  have f0 : FrA aNo bMt T (sJ (sJ (sJ T 12 0 (iJ 1)) 12 1 (iJ 1)) 12 2 (iJ 0)) := (((FrA.rf aNo bMt T).wrJ _ rfl).wrJ _ rfl).wrJ _ rfl
  obtain ⟨T1, e1, f1, g1⟩ := lp_smeet hV hm V.1 0 (sJ (sJ (sJ T 12 0 (iJ 1)) 12 1 (iJ 1)) 12 2 (iJ 0)) (by omega) (h.frB hV (mt_B f0)) (tGrd_c T 12 1 1 0)
  refine ⟨T1, ?_, f0.tr f1, g1⟩
  refine Eq.trans ?_ e1
  simp (disch := first | omega | assumption | decide | (simp (disch := omega) only [iI_lit, iJ_lit, iJ_eq, iI_eq, bI_01, bI_01I] <;> omega)) only [c_Ds_meet, e_Ds_meet_0, e_Ds_meet_1, e_Ds_meet_4, e_Ds_meet_7, e_Ds_meet_8, c_Grid_takeAll, e_Grid_takeAll_0, e_Grid_takeAll_1, e_Grid_takeAll_2, e_Grid_takeAll_5, e_Grid_takeAll_6, e_Grid_takeAll_7, e_Grid_takeAll_10, e_Grid_takeAll_11, e_Grid_takeAll_12, e_Grid_takeAll_15, bd_some, bd_none, Option.toList_some, Option.toList_none, List.nil_append, List.cons_append, px_kill_int, px_kill_long, px_kill_ref, px_kill_null, iI_lit, iJ_lit, iI_add, iI_sub, iI_mul, iI_neg, iJ_add, iJ_sub, iJ_mul, iJ_neg, iI_lt, iI_le, iI_eq, iJ_lt, iJ_le, iJ_eq, iI_div, iJ_div, tdiv_tmod, iI_J, iJ_I, iI_ix, iI_toInt, iJ_toInt, cmp_ge, cmp_lt, cmp_eq, cmp_gt, cmp_le, cmp_geI, cmp_ltI, cmp_eqI, cmp_gtI, cmp_leI, bI_0I, bI_1I, pin, if_true, sh_n12]
  rfl
