/-! two grids meet: on both sides. -/
abbrev mRs (h oh : Int) : Int := h / gc h oh * oh
abbrev mX (h s oh : Int) : Int := mRs h oh / h * s
abbrev mO (h oh os : Int) : Int := mRs h oh / oh * os
def mTm (w h s o oh os : Int) : Int := gc w o / gc (gc w o) (mX h s oh - mO h oh os)
def mtW (w o : Int) : Int := w / gc w o * o
def mtH (w h s o oh os : Int) : Int := mTm w h s o oh os * mRs h oh
def mtS (w h s o oh os : Int) : Int := fdK w o (mO h oh os * mTm w h s o oh os) 144 (mX h s oh * mTm w h s o oh os) % mtW w o
def okMC (C w h s : Int) : Prop := 0 < w ∧ 0 < h ∧ (0 ≤ s ∧ s < w) ∧ w * h ≤ C
theorem prod_le {a b C : Int} (ha : 0 < a) (hb : 0 < b) (h : a * b ≤ C) : a ≤ C ∧ b ≤ C := by
  have h1 := Int.mul_le_mul_of_nonneg_left (a := 1) (b := b) (c := a) (by omega) (by omega)
  have h2 := Int.mul_le_mul_of_nonneg_right (a := 1) (b := a) (c := b) (by omega) (by omega)
  rw [Int.mul_one] at h1
  rw [Int.one_mul] at h2
  omega
theorem div_pos' {a b c : Int} (ha : 0 < a) (hb : 0 < b) (h : b * c = a) : 0 < c ∧ c ≤ a := by
  rcases Int.lt_trichotomy c 0 with z | z | z
  · have := Int.mul_neg_of_pos_of_neg hb z
    omega
  · rw [z] at h; omega
  · have := Int.mul_le_mul_of_nonneg_right (a := 1) (b := b) (c := c) (by omega) (by omega)
    omega
/-- all numbers of a meeting -/
theorem mt_facts {C w h s o oh os : Int} (hC : C ≤ 429981696) (h1 : okMC C w h s) (h2 : okG o oh os) :
    (0 < gc w o ∧ gc w o ≤ 144) ∧ (0 < gc h oh ∧ gc h oh ≤ 429981696) ∧ (0 < mRs h oh ∧ mRs h oh ≤ 61917364224) ∧ (0 ≤ mX h s oh ∧ mX h s oh ≤ 61917364224) ∧ (0 ≤ mO h oh os ∧ mO h oh os ≤ 61917364224) ∧ (0 < gc (gc w o) (mX h s oh - mO h oh os)) ∧ (0 < mTm w h s o oh os ∧ mTm w h s o oh os ≤ gc w o) ∧ gc w o ∣ mO h oh os * mTm w h s o oh os - mX h s oh * mTm w h s o oh os ∧ (0 < mtW w o ∧ mtW w o ≤ 61917364224) ∧ okMC (C * 144) (mtW w o) (mtH w h s o oh os) (mtS w h s o oh os) ∧ (0 < o / gc w o ∧ o / gc w o ≤ 144) ∧ 0 < w / gc w o := by
  obtain ⟨w0, h0, s0, c0⟩ := h1
  obtain ⟨o0, oh0, os0, oc0⟩ := h2
  obtain ⟨pw, ph⟩ := prod_le w0 h0 c0
  obtain ⟨g0, g1, g2, g3⟩ := gc_f (w := w) (o := o) w0
  obtain ⟨k0, k1, k2, k3⟩ := gc_f (w := h) (o := oh) h0
  have og := div_pos' o0.1 g0 g2
  have wg := div_pos' w0 g0 g1
  have hk := div_pos' h0 k0 k1
  have ok := div_pos' oh0.1 k0 k2
  have gle : gc w o ≤ o := by
    have := Int.le_of_dvd o0.1 (Int.gcd_dvd_right (a := w) (b := o))
    exact this
  have rsE : mRs h oh = h * (oh / gc h oh) := by
    show h / gc h oh * oh = h * (oh / gc h oh)
    have e : h / gc h oh * oh = (h / gc h oh) * (gc h oh * (oh / gc h oh)) := by rw [k2]
    rw [e]
    have e2 : (h / gc h oh) * (gc h oh * (oh / gc h oh)) = (gc h oh * (h / gc h oh)) * (oh / gc h oh) := by grind
    rw [e2, k1]
  have x1 : mRs h oh / h = oh / gc h oh := by rw [rsE]; exact Int.mul_ediv_cancel_left _ (by omega)
  have x2 : mRs h oh / oh = h / gc h oh := Int.mul_ediv_cancel _ (by omega)
  have rb := mul_bd2 (a := h) (b := oh / gc h oh) (M := 429981696) (N := 144) (by omega) (by omega)
  have rp : 0 < h * (oh / gc h oh) := Int.mul_pos h0 ok.1
  have Xb : 0 ≤ mX h s oh ∧ mX h s oh ≤ 61917364224 := by
    show 0 ≤ mRs h oh / h * s ∧ mRs h oh / h * s ≤ 61917364224
    rw [x1]
    have := mul_bd2 (a := oh / gc h oh) (b := s) (M := 144) (N := 429981696) (by omega) (by omega)
    omega
  have Ob : 0 ≤ mO h oh os ∧ mO h oh os ≤ 61917364224 := by
    show 0 ≤ mRs h oh / oh * os ∧ mRs h oh / oh * os ≤ 61917364224
    rw [x2]
    have := mul_bd2 (a := h / gc h oh) (b := os) (M := 429981696) (N := 144) (by omega) (by omega)
    omega
  obtain ⟨t0, t1, t2, t3⟩ := gc_f (w := gc w o) (o := mX h s oh - mO h oh os) g0
  have tp := div_pos' g0 t0 t1
  have eT : mTm w h s o oh os = gc w o / gc (gc w o) (mX h s oh - mO h oh os) := rfl
  have Wb := mul_bd2 (a := w / gc w o) (b := o) (M := 429981696) (N := 144) (by omega) (by omega)
  have Wp : 0 < w / gc w o * o := Int.mul_pos wg.1 o0.1
  refine ⟨by omega, by omega, ⟨by rw [rsE]; exact rp, by rw [rsE]; omega⟩, Xb, Ob, t0, by rw [eT]; exact tp, ?_, ⟨Wp, by unfold mtW; omega⟩, ⟨Wp, ?_, ⟨?_, ?_⟩, ?_⟩, by omega, wg.1⟩
  · rw [eT]
    generalize gc (gc w o) (mX h s oh - mO h oh os) = G at *
    refine ⟨-((mX h s oh - mO h oh os) / G), ?_⟩
    have e1 : mO h oh os * (gc w o / G) - mX h s oh * (gc w o / G) = -(gc w o / G * (mX h s oh - mO h oh os)) := by grind
    rw [e1]
    have e2 : gc w o / G * (mX h s oh - mO h oh os) = gc w o / G * (G * ((mX h s oh - mO h oh os) / G)) := by rw [t2]
    rw [e2]
    have e3 : gc w o / G * (G * ((mX h s oh - mO h oh os) / G)) = (G * (gc w o / G)) * ((mX h s oh - mO h oh os) / G) := by grind
    rw [e3, t1]
    rw [Int.mul_neg]
  · unfold mtH
    rw [eT]
    exact Int.mul_pos tp.1 (by rw [rsE]; exact rp)
  · exact Int.emod_nonneg _ (by unfold mtW; omega)
  · exact Int.emod_lt_of_pos _ Wp
  · unfold mtW mtH
    rw [eT]
    generalize gc w o / gc (gc w o) (mX h s oh - mO h oh os) = tm at *
    have rsle : mRs h oh ≤ h * oh := by
      rw [rsE]
      exact Int.mul_le_mul_of_nonneg_left ok.2 (by omega)
    have a1 : tm * mRs h oh ≤ gc w o * (h * oh) := Int.mul_le_mul tp.2 rsle (by rw [rsE]; omega) (by omega)
    have a2 := Int.mul_le_mul_of_nonneg_left (a := tm * mRs h oh) (b := gc w o * (h * oh)) (c := w / gc w o * o) a1 (by omega)
    have a3 : w / gc w o * o * (gc w o * (h * oh)) = (gc w o * (w / gc w o)) * h * (o * oh) := by grind
    rw [a3, g1] at a2
    have a4 : w * h * (o * oh) ≤ C * 144 := Int.mul_le_mul c0 oc0 (by have := Int.mul_pos o0.1 oh0.1; omega) (by have := Int.mul_pos w0 h0; omega)
    omega
theorem s_cmult {a b : Int} (ha : 0 < a ∧ a ≤ 4611686018427387904) (hb : 0 < b ∧ b ≤ 4611686018427387904) (g : px_G) : cl k_Ds_commonMultiple [.long (iJ a), .long (iJ b)] g = some (some (.long (iJ (a / gc a b * b))), g) := by
  have e1 := s_commonPart (a := a) (b := b) (by omega) (by omega) g
  obtain ⟨g0, g1, g2, g3⟩ := gc_f (w := a) (o := b) ha.1
  have eg : ((Int.gcd a b : Nat) : Int) = gc a b := rfl
  rw [eg] at e1
  generalize gc a b = G at *
  have e2 := s_div (a := a) (b := G) (by omega) (by omega) g
  simp (disch := first | omega | assumption | decide | (simp (disch := omega) only [iI_lit, iJ_lit, iJ_eq, iI_eq, bI_01, bI_01I] <;> omega)) only [c_Ds_commonMultiple, e_Ds_commonMultiple_0, e_Ds_commonMultiple_1, e_Ds_commonMultiple_2, e_Ds_commonMultiple_3, e_Ds_commonMultiple_6, e_Ds_commonMultiple_9, e_Ds_commonMultiple_10, e_Ds_commonMultiple_11, bd_some, bd_none, Option.toList_some, Option.toList_none, List.nil_append, List.cons_append, px_kill_int, px_kill_long, px_kill_ref, px_kill_null, iI_lit, iJ_lit, iI_add, iI_sub, iI_mul, iI_neg, iJ_add, iJ_sub, iJ_mul, iJ_neg, iI_lt, iI_le, iI_eq, iJ_lt, iJ_le, iJ_eq, iI_div, iJ_div, tdiv_tmod, iI_J, iJ_I, iI_ix, iI_toInt, iJ_toInt, cmp_ge, cmp_lt, cmp_eq, cmp_gt, cmp_le, cmp_geI, cmp_ltI, cmp_eqI, cmp_gtI, cmp_leI, bI_0I, bI_1I, pin, if_true, e1, e2]
set_option maxHeartbeats 2000000 in
theorem lp_cmeet {T : TS} {p w o O : Int} {q : Nat} (hq : sh q = (102, 3)) (hne : q ≠ 12) (hw : T.2.1 12 0 = iJ w) (ho : T.2.1 q 0 = iJ o) (bw : 0 < w ∧ w ≤ 429981696) (bo : 0 < o ∧ o ≤ 144) (bO : 0 ≤ O ∧ O ≤ 10000000000000) (v2 v8 v10 : Int64) : ∀ (n i : Nat) (x : Int), i + n = 144 → 0 ≤ x → x + (n : Int) * 429981696 ≤ 20000000000000 → ∃ i' : Int, rn k_Grid_meet 89 [.ref 12, .ref q, .long v2, .null, .long (iJ x), .null, .long (iJ O), .null, .long v8, .null, .long v10, .null, .int (iI (i : Int))] [] (enc T) = rn k_Grid_meet 129 [.ref 12, .ref q, .long v2, .null, .long (iJ (fdK w o O n x)), .null, .long (iJ O), .null, .long v8, .null, .long v10, .null, .int (iI i')] [] (enc T) := by
  intro n
  induction n with
  | zero =>
    intro i x hi h0 h1
    have e : (i : Int) = 144 := by omega
    refine ⟨144, ?_⟩
    rw [e, e_Grid_meet_89]
    simp (disch := first | omega | assumption | decide | (simp (disch := omega) only [iI_lit, iJ_lit, iJ_eq, iI_eq, bI_01, bI_01I] <;> omega)) only [e_Grid_meet_91, e_Grid_meet_94, bd_some, bd_none, Option.toList_some, Option.toList_none, List.nil_append, List.cons_append, px_kill_int, px_kill_long, px_kill_ref, px_kill_null, iI_lit, iJ_lit, iI_add, iI_sub, iI_mul, iI_neg, iJ_add, iJ_sub, iJ_mul, iJ_neg, iI_lt, iI_le, iI_eq, iJ_lt, iJ_le, iJ_eq, iI_div, iJ_div, tdiv_tmod, iI_J, iJ_I, iI_ix, iI_toInt, iJ_toInt, cmp_ge, cmp_lt, cmp_eq, cmp_gt, cmp_le, cmp_geI, cmp_ltI, cmp_eqI, cmp_gtI, cmp_leI, bI_0I, bI_1I, pin, if_true, Int.le_refl]
    rfl
  | succ n ih =>
    intro i x hi h0 h1
    have nle : ¬ (144 : Int) ≤ (i : Int) := by omega
    have e1 := s_mod (a := x - O) (b := o) (by omega) (by omega) (enc T)
    have m0 := Int.emod_nonneg (x - O) (b := o) (by omega)
    have m1 := Int.emod_lt_of_pos (x - O) bo.1
    rw [fdK_s]
    by_cases c : (x - O) % o = 0
    · rw [if_pos c]
      rw [c] at e1
      refine ⟨(i : Int), ?_⟩
      rw [e_Grid_meet_89]
      simp (disch := first | omega | assumption | decide | (simp (disch := omega) only [iI_lit, iJ_lit, iJ_eq, iI_eq, bI_01, bI_01I] <;> omega)) only [e_Grid_meet_91, e_Grid_meet_94, e_Grid_meet_97, e_Grid_meet_99, e_Grid_meet_101, e_Grid_meet_102, e_Grid_meet_103, e_Grid_meet_106, e_Grid_meet_109, e_Grid_meet_110, e_Grid_meet_111, e_Grid_meet_114, e_Grid_meet_116, e_Grid_meet_117, e_Grid_meet_120, e_Grid_meet_121, e_Grid_meet_123, e_Grid_meet_126, bd_some, bd_none, Option.toList_some, Option.toList_none, List.nil_append, List.cons_append, px_kill_int, px_kill_long, px_kill_ref, px_kill_null, iI_lit, iJ_lit, iI_add, iI_sub, iI_mul, iI_neg, iJ_add, iJ_sub, iJ_mul, iJ_neg, iI_lt, iI_le, iI_eq, iJ_lt, iJ_le, iJ_eq, iI_div, iJ_div, tdiv_tmod, iI_J, iJ_I, iI_ix, iI_toInt, iJ_toInt, cmp_ge, cmp_lt, cmp_eq, cmp_gt, cmp_le, cmp_geI, cmp_ltI, cmp_eqI, cmp_gtI, cmp_leI, bI_0I, bI_1I, pin, if_true, nle, if_false, sh_n12, hw, ho, e1]
    · rw [if_neg c]
      obtain ⟨i', e2⟩ := ih (i + 1) (x + w) (by omega) (by omega) (by omega)
      refine ⟨i', ?_⟩
      refine Eq.trans ?_ e2
      rw [show ((i + 1 : Nat) : Int) = (i : Int) + 1 by omega, e_Grid_meet_89]
      generalize (x - O) % o = Z at *
      simp (disch := first | omega | assumption | decide | (simp (disch := omega) only [iI_lit, iJ_lit, iJ_eq, iI_eq, bI_01, bI_01I] <;> omega)) only [e_Grid_meet_91, e_Grid_meet_94, e_Grid_meet_97, e_Grid_meet_99, e_Grid_meet_101, e_Grid_meet_102, e_Grid_meet_103, e_Grid_meet_106, e_Grid_meet_109, e_Grid_meet_110, e_Grid_meet_111, e_Grid_meet_114, e_Grid_meet_116, e_Grid_meet_117, e_Grid_meet_120, e_Grid_meet_121, e_Grid_meet_123, e_Grid_meet_126, bd_some, bd_none, Option.toList_some, Option.toList_none, List.nil_append, List.cons_append, px_kill_int, px_kill_long, px_kill_ref, px_kill_null, iI_lit, iJ_lit, iI_add, iI_sub, iI_mul, iI_neg, iJ_add, iJ_sub, iJ_mul, iJ_neg, iI_lt, iI_le, iI_eq, iJ_lt, iJ_le, iJ_eq, iI_div, iJ_div, tdiv_tmod, iI_J, iJ_I, iI_ix, iI_toInt, iJ_toInt, cmp_ge, cmp_lt, cmp_eq, cmp_gt, cmp_le, cmp_geI, cmp_ltI, cmp_eqI, cmp_gtI, cmp_leI, bI_0I, bI_1I, pin, if_true, nle, if_false, sh_n12, hw, ho, e1, c]
set_option maxHeartbeats 4000000 in
theorem c_gmeet {T : TS} {q : Nat} (hq : sh q = (102, 3)) (hne : q ≠ 12) {C w h s o oh os : Int} (hC : C ≤ 429981696) (h1 : okMC C w h s) (h2 : okG o oh os) (hg : cGrd T 12 w h s) (hg' : cGrd T q o oh os) : ∃ T', cl k_Grid_meet [.ref 12, .ref q] (enc T) = some (none, enc T') ∧ FrA aNo (fun p _ => p = 12) T T' ∧ cGrd T' 12 (mtW w o) (mtH w h s o oh os) (mtS w h s o oh os) := by
  obtain ⟨F1, F2, F3, F4, F5, F6, F7, F8, F9, F10, F11, F12⟩ := mt_facts hC h1 h2
  obtain ⟨w0, h0, s0, c0⟩ := id h1
  obtain ⟨o0, oh0, os0, oc0⟩ := id h2
  obtain ⟨pw, ph⟩ := prod_le w0 h0 c0
  obtain ⟨a0, a1, a2⟩ := id hg
  obtain ⟨b0, b1, b2⟩ := id hg'
  have np : ¬ q = 12 := hne
  have e1 := s_cmult (a := h) (b := oh) (by omega) (by omega) (enc T)
  have r1 : h / gc h oh * oh = mRs h oh := rfl
  rw [r1] at e1
  have e2 := s_div (a := mRs h oh) (b := h) (by omega) (by omega) (enc T)
  have e3 := s_div (a := mRs h oh) (b := oh) (by omega) (by omega) (enc T)
  have e4 := s_commonPart (a := w) (b := o) (by omega) (by omega) (enc T)
  have rg : ((Int.gcd w o : Nat) : Int) = gc w o := rfl
  rw [rg] at e4
  have e5 := s_commonPart (a := gc w o) (b := mX h s oh - mO h oh os) (by omega) (by omega) (enc T)
  have rg2 : ((Int.gcd (gc w o) (mX h s oh - mO h oh os) : Nat) : Int) = gc (gc w o) (mX h s oh - mO h oh os) := rfl
  rw [rg2] at e5
  have gle : gc (gc w o) (mX h s oh - mO h oh os) ≤ gc w o := (gc_f (w := gc w o) (o := mX h s oh - mO h oh os) F1.1).2.2.2
  have e6 := s_div (a := gc w o) (b := gc (gc w o) (mX h s oh - mO h oh os)) (by omega) (by omega) (enc T)
  have rt : gc w o / gc (gc w o) (mX h s oh - mO h oh os) = mTm w h s o oh os := rfl
  rw [rt] at e6
  have rx : mRs h oh / h * s = mX h s oh := rfl
  have ro : mRs h oh / oh * os = mO h oh os := rfl
  have bX := mul_bd2 (a := mX h s oh) (b := mTm w h s o oh os) (M := 61917364224) (N := 144) (by omega) (by omega)
  have bO := mul_bd2 (a := mO h oh os) (b := mTm w h s o oh os) (M := 61917364224) (N := 144) (by omega) (by omega)
  obtain ⟨i', lp⟩ := lp_cmeet (T := T) (p := 0) (q := q) hq hne a0 b0 ⟨w0, by omega⟩ o0 (O := mO h oh os * mTm w h s o oh os) (by omega) (iJ (mRs h oh)) (iJ (gc w o)) (iJ (mTm w h s o oh os)) 144 0 (mX h s oh * mTm w h s o oh os) (by omega) bX.1 (by omega)
  have same := meet_same (w := w) (o := o) (X := mX h s oh * mTm w h s o oh os) (O := mO h oh os * mTm w h s o oh os) (X' := mX h s oh * mTm w h s o oh os) (O' := mO h oh os * mTm w h s o oh os) w0 o0.1 ⟨0, by omega⟩ ⟨0, by omega⟩ F8 (n := 144) (n' := 144) (by omega) (by omega)
  obtain ⟨j, hj, ej⟩ := same.2.1
  have bj := mul_bd2 (a := (j : Int)) (b := w) (M := 144) (N := 429981696) (by omega) (by omega)
  have eS : fdK w o (mO h oh os * mTm w h s o oh os) 144 (mX h s oh * mTm w h s o oh os) % mtW w o = mtS w h s o oh os := rfl
  generalize fdK w o (mO h oh os * mTm w h s o oh os) 144 (mX h s oh * mTm w h s o oh os) = K at *
  have e7 := s_cmult (a := w) (b := o) (by omega) (by omega) (enc T)
  have rw' : w / gc w o * o = mtW w o := rfl
  rw [rw'] at e7
  have e8 := s_mod (a := K) (b := mtW w o) (by omega) (by omega) (enc (sJ (sJ T 12 0 (iJ (mtW w o))) 12 1 (iJ (mtH w h s o oh os))))
  rw [eS] at e8
  have rh : mTm w h s o oh os * mRs h oh = mtH w h s o oh os := rfl
  refine ⟨sJ (sJ (sJ T 12 0 (iJ (mtW w o))) 12 1 (iJ (mtH w h s o oh os))) 12 2 (iJ (mtS w h s o oh os)), ?_, (((FrA.rf aNo (fun p _ => p = 12) T).wrJ _ rfl).wrJ _ rfl).wrJ _ rfl, ?_⟩
  · have pre : cl k_Grid_meet [.ref 12, .ref q] (enc T) = rn k_Grid_meet 89 [.ref 12, .ref q, .long (iJ (mRs h oh)), .null, .long (iJ (mX h s oh * mTm w h s o oh os)), .null, .long (iJ (mO h oh os * mTm w h s o oh os)), .null, .long (iJ (gc w o)), .null, .long (iJ (mTm w h s o oh os)), .null, .int (iI ((0 : Nat) : Int))] [] (enc T) := by
      simp (disch := first | omega | assumption | decide | (simp (disch := omega) only [iI_lit, iJ_lit, iJ_eq, iI_eq, bI_01, bI_01I] <;> omega)) only [c_Grid_meet, e_Grid_meet_0, e_Grid_meet_1, e_Grid_meet_4, e_Grid_meet_5, e_Grid_meet_8, e_Grid_meet_11, e_Grid_meet_12, e_Grid_meet_13, e_Grid_meet_14, e_Grid_meet_17, e_Grid_meet_20, e_Grid_meet_21, e_Grid_meet_24, e_Grid_meet_25, e_Grid_meet_27, e_Grid_meet_28, e_Grid_meet_29, e_Grid_meet_32, e_Grid_meet_35, e_Grid_meet_36, e_Grid_meet_39, e_Grid_meet_40, e_Grid_meet_42, e_Grid_meet_43, e_Grid_meet_46, e_Grid_meet_47, e_Grid_meet_50, e_Grid_meet_53, e_Grid_meet_55, e_Grid_meet_57, e_Grid_meet_59, e_Grid_meet_61, e_Grid_meet_63, e_Grid_meet_64, e_Grid_meet_67, e_Grid_meet_70, e_Grid_meet_72, e_Grid_meet_74, e_Grid_meet_76, e_Grid_meet_77, e_Grid_meet_79, e_Grid_meet_81, e_Grid_meet_83, e_Grid_meet_84, e_Grid_meet_86, e_Grid_meet_87, bd_some, bd_none, Option.toList_some, Option.toList_none, List.nil_append, List.cons_append, px_kill_int, px_kill_long, px_kill_ref, px_kill_null, iI_lit, iJ_lit, iI_add, iI_sub, iI_mul, iI_neg, iJ_add, iJ_sub, iJ_mul, iJ_neg, iI_lt, iI_le, iI_eq, iJ_lt, iJ_le, iJ_eq, iI_div, iJ_div, tdiv_tmod, iI_J, iJ_I, iI_ix, iI_toInt, iJ_toInt, cmp_ge, cmp_lt, cmp_eq, cmp_gt, cmp_le, cmp_geI, cmp_ltI, cmp_eqI, cmp_gtI, cmp_leI, bI_0I, bI_1I, pin, if_true, sh_n12, hq, a0, a1, a2, b0, b1, b2, e1, e2, e3, e4, rx, ro, e5, e6]
      rfl
    rw [pre, lp]
    simp (disch := first | omega | assumption | decide | (simp (disch := omega) only [iI_lit, iJ_lit, iJ_eq, iI_eq, bI_01, bI_01I] <;> omega)) only [e_Grid_meet_129, e_Grid_meet_130, e_Grid_meet_131, e_Grid_meet_134, e_Grid_meet_135, e_Grid_meet_138, e_Grid_meet_141, e_Grid_meet_144, e_Grid_meet_145, e_Grid_meet_147, e_Grid_meet_148, e_Grid_meet_149, e_Grid_meet_152, e_Grid_meet_153, e_Grid_meet_155, e_Grid_meet_156, e_Grid_meet_159, e_Grid_meet_162, e_Grid_meet_165, bd_some, bd_none, Option.toList_some, Option.toList_none, List.nil_append, List.cons_append, px_kill_int, px_kill_long, px_kill_ref, px_kill_null, iI_lit, iJ_lit, iI_add, iI_sub, iI_mul, iI_neg, iJ_add, iJ_sub, iJ_mul, iJ_neg, iI_lt, iI_le, iI_eq, iJ_lt, iJ_le, iJ_eq, iI_div, iJ_div, tdiv_tmod, iI_J, iJ_I, iI_ix, iI_toInt, iJ_toInt, cmp_ge, cmp_lt, cmp_eq, cmp_gt, cmp_le, cmp_geI, cmp_ltI, cmp_eqI, cmp_gtI, cmp_leI, bI_0I, bI_1I, pin, if_true, sh_n12, hq, sI_get, sJ_get, sI_2, sJ_1, sJ_22, sR_1, sR_21, Nat.reduceEqDiff, and_true, true_and, and_false, false_and, and_self, if_true, if_false, reduceIte, np, a0, b0, e7, rh, e8]
  · exact tGrd_c T 12 (mtW w o) (mtH w h s o oh os) (mtS w h s o oh os)
