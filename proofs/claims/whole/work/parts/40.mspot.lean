/-! THE REFERENCE'S SPOT. -/
theorem s_twoNear {r per off kd : Int} (hr : 0 ≤ r ∧ r < per) (hper : 0 < per ∧ per ≤ 288) (hoff : 0 ≤ off ∧ off ≤ 42100) (hk : kd = 0 ∨ kd = 1) (g : px_G) : cl k_Dm_twoNear [.long (iJ r), .long (iJ per), .int (iI off), .int (iI (if kd = 0 then 1 else 0))] g = some (some (.int (iI (meas kd (nearD r per) off))), g) := by
  have hn : (if iJ (per - r) < iJ r then iJ (per - r) else iJ r) = iJ (nearD r per) := by
    simp (disch := first | omega | assumption | decide | (simp (disch := omega) only [iI_lit, iJ_lit, iJ_eq, iI_eq, bI_01, bI_01I] <;> omega)) only [iJ_lt]
    unfold nearD
    split <;> rfl
  unfold meas
  rcases hk with rfl | rfl
  · have h01 : ¬ (0 : Int) = 1 := by omega
    have h10 : ¬ (1 : Int) = 0 := by omega
    simp (disch := first | omega | assumption | decide | (simp (disch := omega) only [iI_lit, iJ_lit, iJ_eq, iI_eq, bI_01, bI_01I] <;> omega)) only [c_Dm_twoNear, e_Dm_twoNear_0, e_Dm_twoNear_1, e_Dm_twoNear_3, e_Dm_twoNear_4, e_Dm_twoNear_5, e_Dm_twoNear_6, e_Dm_twoNear_8, e_Dm_twoNear_10, e_Dm_twoNear_12, e_Dm_twoNear_15, bd_some, bd_none, Option.toList_some, Option.toList_none, List.nil_append, List.cons_append, px_kill_int, px_kill_long, px_kill_ref, px_kill_null, iJ_sub, s_minJ, hn]
    simp (disch := first | omega | assumption | decide | (simp (disch := omega) only [iI_lit, iJ_lit, iJ_eq, iI_eq, bI_01, bI_01I] <;> omega)) only [e_Dm_twoNear_15, e_Dm_twoNear_17, e_Dm_twoNear_19, e_Dm_twoNear_22, e_Dm_twoNear_24, e_Dm_twoNear_26, e_Dm_twoNear_27, e_Dm_twoNear_29, e_Dm_twoNear_30, e_Dm_twoNear_32, e_Dm_twoNear_33, e_Dm_twoNear_34, e_Dm_twoNear_35, e_Dm_twoNear_38, e_Dm_twoNear_40, e_Dm_twoNear_42, e_Dm_twoNear_43, e_Dm_twoNear_44, e_Dm_twoNear_45, bd_some, bd_none, Option.toList_some, Option.toList_none, List.nil_append, List.cons_append, px_kill_int, px_kill_long, px_kill_ref, px_kill_null, iI_lit, iJ_lit, iI_add, iI_sub, iI_mul, iI_neg, iJ_add, iJ_sub, iJ_mul, iJ_neg, iI_lt, iI_le, iI_eq, iJ_lt, iJ_le, iJ_eq, iI_div, iJ_div, tdiv_tmod, iI_J, iJ_I, iI_ix, iI_toInt, iJ_toInt, cmp_ge, cmp_lt, cmp_eq, cmp_gt, cmp_le, cmp_geI, cmp_ltI, cmp_eqI, cmp_gtI, cmp_leI, bI_0I, bI_1I, pin, if_true, h10, h01, if_false]
  · have h10 : ¬ (1 : Int) = 0 := by omega
    simp (disch := first | omega | assumption | decide | (simp (disch := omega) only [iI_lit, iJ_lit, iJ_eq, iI_eq, bI_01, bI_01I] <;> omega)) only [c_Dm_twoNear, e_Dm_twoNear_0, e_Dm_twoNear_1, e_Dm_twoNear_3, e_Dm_twoNear_4, e_Dm_twoNear_5, e_Dm_twoNear_6, e_Dm_twoNear_8, e_Dm_twoNear_10, e_Dm_twoNear_12, e_Dm_twoNear_15, bd_some, bd_none, Option.toList_some, Option.toList_none, List.nil_append, List.cons_append, px_kill_int, px_kill_long, px_kill_ref, px_kill_null, iJ_sub, s_minJ, hn, h10, if_false]
    simp (disch := first | omega | assumption | decide | (simp (disch := omega) only [iI_lit, iJ_lit, iJ_eq, iI_eq, bI_01, bI_01I] <;> omega)) only [e_Dm_twoNear_15, e_Dm_twoNear_17, e_Dm_twoNear_19, e_Dm_twoNear_22, e_Dm_twoNear_24, e_Dm_twoNear_26, e_Dm_twoNear_27, e_Dm_twoNear_29, e_Dm_twoNear_30, e_Dm_twoNear_32, e_Dm_twoNear_33, e_Dm_twoNear_34, e_Dm_twoNear_35, e_Dm_twoNear_38, e_Dm_twoNear_40, e_Dm_twoNear_42, e_Dm_twoNear_43, e_Dm_twoNear_44, e_Dm_twoNear_45, bd_some, bd_none, Option.toList_some, Option.toList_none, List.nil_append, List.cons_append, px_kill_int, px_kill_long, px_kill_ref, px_kill_null, iI_lit, iJ_lit, iI_add, iI_sub, iI_mul, iI_neg, iJ_add, iJ_sub, iJ_mul, iJ_neg, iI_lt, iI_le, iI_eq, iJ_lt, iJ_le, iJ_eq, iI_div, iJ_div, tdiv_tmod, iI_J, iJ_I, iI_ix, iI_toInt, iJ_toInt, cmp_ge, cmp_lt, cmp_eq, cmp_gt, cmp_le, cmp_geI, cmp_ltI, cmp_eqI, cmp_gtI, cmp_leI, bI_0I, bI_1I, pin, if_true]
set_option maxHeartbeats 1000000 in
theorem lp_mspot {T : TS} {w h s : Int} (hg : mGrd T w h s) (ho : okG w h s) {kd x y : Int} (hkd : kd = 0 ∨ kd = 1) (hx : 0 ≤ x ∧ x < w) (hy : 0 ≤ y ∧ y < h) (hX : T.1 53 18 = iI x) (hY : T.1 53 19 = iI y) (i0 x0 y0 c0 : Int32) : ∀ (n j : Nat), j + n = (2 * rch h).toNat + 1 → ∀ (a9 a10 a11 a12 : Value),
    rn k_Dm_spotOf 122 [.ref 53, .int i0, .int x0, .int y0, .int c0, .int (iI (if kd = 0 then 1 else 0)), .int (iI (if j = 0 then -1 else mnK (spK kd w h s x y) (-rch h) (j - 1))), .int (iI (rch h)), .int (iI (-rch h + (j : Int))), a9, a10, a11, a12] [] (enc T) = some (some (.int (iI (spM kd w h s x y))), enc T) := by
  obtain ⟨g1, g2, g3⟩ := hg
  have hr : 2 ≤ rch h ∧ rch h ≤ 26 := by
    have h1 := Int.ediv_nonneg (show (0 : Int) ≤ 24 by decide) (show 0 ≤ h by have := ho.2.1; omega)
    have h2 := Int.ediv_le_self h (show (0 : Int) ≤ 24 by decide)
    unfold rch; omega
  intro n
  induction n with
  | zero =>
    intro j hj a9 a10 a11 a12
    rw [e_Dm_spotOf_122]
    have hj0 : ¬ j = 0 := by omega
    have hlt : rch h < -rch h + (j : Int) := by omega
    simp (disch := first | omega | assumption | decide | (simp (disch := omega) only [iI_lit, iJ_lit, iJ_eq, iI_eq, bI_01, bI_01I] <;> omega)) only [e_Dm_spotOf_124, e_Dm_spotOf_126, e_Dm_spotOf_243, e_Dm_spotOf_245, bd_some, bd_none, Option.toList_some, Option.toList_none, List.nil_append, List.cons_append, px_kill_int, px_kill_long, px_kill_ref, px_kill_null, iI_lit, iJ_lit, iI_add, iI_sub, iI_mul, iI_neg, iJ_add, iJ_sub, iJ_mul, iJ_neg, iI_lt, iI_le, iI_eq, iJ_lt, iJ_le, iJ_eq, iI_div, iJ_div, tdiv_tmod, iI_J, iJ_I, iI_ix, iI_toInt, iJ_toInt, cmp_ge, cmp_lt, cmp_eq, cmp_gt, cmp_le, cmp_geI, cmp_ltI, cmp_eqI, cmp_gtI, cmp_leI, bI_0I, bI_1I, pin, if_true, hlt, hj0, if_false]
    rw [show j - 1 = (2 * rch h).toNat by omega]
    rfl
  | succ n ih =>
    intro j hj a9 a10 a11 a12
    have hnlt : ¬ rch h < -rch h + (j : Int) := by omega
    obtain ⟨o1, o2, o3, o4⟩ := id ho
    have hkk : -145 ≤ -rch h + (j : Int) ∧ -rch h + (j : Int) ≤ 145 := by omega
    obtain ⟨r1, r2, r3⟩ := rise_bd o2 hy hkk
    have m1 := mul_bd (a := -rch h + (j : Int)) (b := s) (M := 145) (N := 144) hkk (by omega)
    have m2 : 2 * (-rch h + (j : Int)) * s = 2 * ((-rch h + (j : Int)) * s) := by grind
    have e1 := Int.emod_nonneg (2 * x + 1 - 2 * (-rch h + (j : Int)) * s) (show 2 * w ≠ 0 by omega)
    have e2 := Int.emod_lt_of_pos (2 * x + 1 - 2 * (-rch h + (j : Int)) * s) (show 0 < 2 * w by omega)
    have hsb := spK_bd (kd := kd) (x := x) ho hy hkk
    have hrise : rise h y (-rch h + (j : Int)) = ((2 * y + 1 - 2 * (-rch h + (j : Int)) * h).natAbs : Int) := rfl
    rw [e_Dm_spotOf_122]
    simp (disch := first | omega | assumption | decide | (simp (disch := omega) only [iI_lit, iJ_lit, iJ_eq, iI_eq, bI_01, bI_01I] <;> omega)) only [e_Dm_spotOf_124, e_Dm_spotOf_126, e_Dm_spotOf_129, e_Dm_spotOf_132, e_Dm_spotOf_133, e_Dm_spotOf_136, e_Dm_spotOf_137, e_Dm_spotOf_138, e_Dm_spotOf_139, e_Dm_spotOf_140, e_Dm_spotOf_143, e_Dm_spotOf_145, e_Dm_spotOf_146, e_Dm_spotOf_147, e_Dm_spotOf_148, e_Dm_spotOf_151, e_Dm_spotOf_152, e_Dm_spotOf_153, e_Dm_spotOf_156, e_Dm_spotOf_157, e_Dm_spotOf_159, e_Dm_spotOf_162, e_Dm_spotOf_163, e_Dm_spotOf_166, e_Dm_spotOf_167, e_Dm_spotOf_168, e_Dm_spotOf_169, e_Dm_spotOf_170, e_Dm_spotOf_173, e_Dm_spotOf_175, e_Dm_spotOf_176, e_Dm_spotOf_177, e_Dm_spotOf_178, e_Dm_spotOf_181, e_Dm_spotOf_182, e_Dm_spotOf_183, e_Dm_spotOf_186, e_Dm_spotOf_187, e_Dm_spotOf_190, e_Dm_spotOf_191, e_Dm_spotOf_194, e_Dm_spotOf_196, e_Dm_spotOf_198, e_Dm_spotOf_201, e_Dm_spotOf_202, e_Dm_spotOf_205, e_Dm_spotOf_206, e_Dm_spotOf_208, e_Dm_spotOf_210, e_Dm_spotOf_213, e_Dm_spotOf_215, e_Dm_spotOf_217, e_Dm_spotOf_218, e_Dm_spotOf_221, e_Dm_spotOf_223, e_Dm_spotOf_225, e_Dm_spotOf_228, e_Dm_spotOf_230, e_Dm_spotOf_233, e_Dm_spotOf_235, e_Dm_spotOf_237, e_Dm_spotOf_240, bd_some, bd_none, Option.toList_some, Option.toList_none, List.nil_append, List.cons_append, px_kill_int, px_kill_long, px_kill_ref, px_kill_null, iI_lit, iJ_lit, iI_add, iI_sub, iI_mul, iI_neg, iJ_add, iJ_sub, iJ_mul, iJ_neg, iI_lt, iI_le, iI_eq, iJ_lt, iJ_le, iJ_eq, iI_div, iJ_div, tdiv_tmod, iI_J, iJ_I, iI_ix, iI_toInt, iJ_toInt, cmp_ge, cmp_lt, cmp_eq, cmp_gt, cmp_le, cmp_geI, cmp_ltI, cmp_eqI, cmp_gtI, cmp_leI, bI_0I, bI_1I, pin, if_true, hnlt, if_false, hX, hY, g1, g2, g3, s_farJ (a := 2 * y + 1 - 2 * (-rch h + (j : Int)) * h) (by omega), s_left (a := 2 * x + 1 - 2 * (-rch h + (j : Int)) * s) (b := 2 * w) (by omega) (by omega), ← hrise, s_twoNear (r := (2 * x + 1 - 2 * (-rch h + (j : Int)) * s) % (2 * w)) (per := 2 * w) (off := rise h y (-rch h + (j : Int))) (by omega) (by omega) (by omega) hkd]
    rw [show -rch h + (j : Int) + 1 = -rch h + ((j + 1 : Nat) : Int) by omega]
    have hv : meas kd (nearD ((2 * x + 1 - 2 * (-rch h + (j : Int)) * s) % (2 * w)) (2 * w)) (rise h y (-rch h + (j : Int))) = spK kd w h s x y (-rch h + (j : Int)) := rfl
    rw [hv]
    by_cases hj0 : j = 0
    · subst hj0
      simp (disch := first | omega | assumption | decide | (simp (disch := omega) only [iI_lit, iJ_lit, iJ_eq, iI_eq, bI_01, bI_01I] <;> omega)) only [e_Dm_spotOf_215, e_Dm_spotOf_217, e_Dm_spotOf_218, e_Dm_spotOf_221, e_Dm_spotOf_223, e_Dm_spotOf_225, e_Dm_spotOf_228, e_Dm_spotOf_230, e_Dm_spotOf_233, e_Dm_spotOf_235, e_Dm_spotOf_237, e_Dm_spotOf_240, bd_some, bd_none, Option.toList_some, Option.toList_none, List.nil_append, List.cons_append, px_kill_int, px_kill_long, px_kill_ref, px_kill_null, iI_lit, iJ_lit, iI_add, iI_sub, iI_mul, iI_neg, iJ_add, iJ_sub, iJ_mul, iJ_neg, iI_lt, iI_le, iI_eq, iJ_lt, iJ_le, iJ_eq, iI_div, iJ_div, tdiv_tmod, iI_J, iJ_I, iI_ix, iI_toInt, iJ_toInt, cmp_ge, cmp_lt, cmp_eq, cmp_gt, cmp_le, cmp_geI, cmp_ltI, cmp_eqI, cmp_gtI, cmp_leI, bI_0I, bI_1I, pin, if_true]
      have h0 : -rch h + ((0 : Nat) : Int) = -rch h := by omega
      rw [h0]
      exact ih 1 (by omega) _ _ _ _
    · obtain ⟨q, rfl⟩ : ∃ q, j = q + 1 := ⟨j - 1, by omega⟩
      rw [if_neg hj0, show q + 1 - 1 = q by omega]
      have hB : 0 ≤ mnK (spK kd w h s x y) (-rch h) q ∧ mnK (spK kd w h s x y) (-rch h) q ≤ 1800000000 := by
        constructor
        · obtain ⟨k, hk⟩ := mnK_ex (spK kd w h s x y) (-rch h) q
          rw [hk]
          have hb2 := near_bd (z := 2 * x + 1 - 2 * k * s) o1.1 0
          have : meas kd 0 0 ≤ spK kd w h s x y k := meas_mono ⟨by omega, hb2.1⟩ ⟨by omega, by unfold rise; omega⟩
          have h00 : meas kd 0 0 = 0 := by unfold meas; split <;> rfl
          omega
        · have h1 := mnK_le (spK kd w h s x y) (-rch h) q 0 (by omega)
          have h2 := spK_bd (kd := kd) (x := x) ho hy (show -145 ≤ -rch h + ((0 : Nat) : Int) ∧ -rch h + ((0 : Nat) : Int) ≤ 145 by omega)
          omega
      have hne : ¬ mnK (spK kd w h s x y) (-rch h) q = -1 := by omega
      have hstep : mnK (spK kd w h s x y) (-rch h) (q + 1) = if spK kd w h s x y (-rch h + ((q + 1 : Nat) : Int)) < mnK (spK kd w h s x y) (-rch h) q then spK kd w h s x y (-rch h + ((q + 1 : Nat) : Int)) else mnK (spK kd w h s x y) (-rch h) q := rfl
      have hih := fun a9 a10 a11 a12 => ih (q + 1 + 1) (by omega) a9 a10 a11 a12
      simp only [show ¬ q + 1 + 1 = 0 by omega, if_false, show q + 1 + 1 - 1 = q + 1 by omega] at hih
      simp (disch := first | omega | assumption | decide | (simp (disch := omega) only [iI_lit, iJ_lit, iJ_eq, iI_eq, bI_01, bI_01I] <;> omega)) only [iI_lit, iJ_lit, iI_add, iI_sub, iI_mul, iI_neg, iJ_add, iJ_sub, iJ_mul, iJ_neg, iI_lt, iI_le, iI_eq, iJ_lt, iJ_le, iJ_eq, iI_div, iJ_div, tdiv_tmod, iI_J, iJ_I, iI_ix, iI_toInt, iJ_toInt, cmp_ge, cmp_lt, cmp_eq, cmp_gt, cmp_le, cmp_geI, cmp_ltI, cmp_eqI, cmp_gtI, cmp_leI, bI_0I, bI_1I, pin, if_true, hne, if_false]
      by_cases hc : mnK (spK kd w h s x y) (-rch h) q ≤ spK kd w h s x y (-rch h + ((q + 1 : Nat) : Int))
      · rw [if_neg (by omega)] at hstep
        rw [if_pos hc, ← hstep]
        exact hih _ _ _ _
      · rw [if_pos (by omega)] at hstep
        rw [if_neg hc]
        have h9 := hih (Value.int (iI (rise h y (-rch h + ((q + 1 : Nat) : Int))))) (Value.long (iJ ((2 * x + 1 - 2 * (-rch h + ((q + 1 : Nat) : Int)) * s) % (2 * w)))) Value.null (Value.int (iI (spK kd w h s x y (-rch h + ((q + 1 : Nat) : Int)))))
        rw [hstep] at h9
        exact h9
/-- of a line: homes have the same spot -/
theorem line_home {a b c d : Int} (ho : okS a b c d) (x y : Int) : ((2 * x + 1) * b - (2 * y + 1) * a) % (2 * cel a b c d) = ((2 * hmX (bkW (brk a b c d)) (bkH (brk a b c d)) (bkS (brk a b c d)) x y + 1) * b - (2 * (y % bkH (brk a b c d)) + 1) * a) % (2 * cel a b c d) := by
  obtain ⟨f1, f2, f3, f4, f5, f6⟩ := brk_facts ho
  generalize bkW (brk a b c d) = w at *
  generalize bkH (brk a b c d) = h at *
  generalize bkS (brk a b c d) = s at *
  have e1 := Int.emod_add_ediv_mul y h
  have e2 := Int.emod_add_ediv_mul (x - y / h * s) w
  have hin : inL w h s (x - hmX w h s x y) (y - y % h) := ⟨y / h, (x - y / h * s) / w, by unfold hmX; omega, by omega⟩
  obtain ⟨i, j, h1, h2⟩ := (f6 _ _).mp hin
  have hx : x = hmX w h s x y + (i * a + j * c) := by omega
  have hy : y = y % h + (i * b + j * d) := by omega
  generalize hmX w h s x y = X at *
  generalize y % h = Y at *
  have hc : cel a b c d = a * d - b * c ∨ cel a b c d = -(a * d - b * c) := by unfold cel; omega
  have key : (2 * x + 1) * b - (2 * y + 1) * a = (2 * X + 1) * b - (2 * Y + 1) * a + 2 * (a * d - b * c) * (-j) := by
    rw [hx, hy]; grind
  rw [key]
  rcases hc with hc | hc
  · rw [hc, Int.add_mul_emod_self_left]
  · rw [hc, show (2 * X + 1) * b - (2 * Y + 1) * a + 2 * (a * d - b * c) * (-j) = (2 * X + 1) * b - (2 * Y + 1) * a + 2 * -(a * d - b * c) * j by grind, Int.add_mul_emod_self_left]
/-- the state behind the reference's spotOf -/
def mHome (T : TS) (kd x y : Int) : TS := if kd = 2 then T else sI (sI T 53 19 (iI y)) 53 18 (iI x)
theorem s_mspot {T : TS} {i : Nat} (hi : i < 4) {a b c d : Int} (hs : mScr T i a b c d) (ho : okS a b c d) (hg : mGrd T (bkW (brk a b c d)) (bkH (brk a b c d)) (bkS (brk a b c d))) {kd x y : Int} (hkd : T.1 56 (8 * i + 4) = iI kd) (hkb : 0 ≤ kd ∧ kd ≤ 2) (hx : -50000 ≤ x ∧ x ≤ 50000) (hy : -50000 ≤ y ∧ y ≤ 50000) :
    cl k_Dm_spotOf [.ref 53, .int (iI (i : Int)), .int (iI x), .int (iI y)] (enc T) = some (some (.int (iI (spt kd a b (cel a b c d) (bkW (brk a b c d)) (bkH (brk a b c d)) (bkS (brk a b c d)) (hmX (bkW (brk a b c d)) (bkH (brk a b c d)) (bkS (brk a b c d)) x y) (y % bkH (brk a b c d))))), enc (mHome T kd (hmX (bkW (brk a b c d)) (bkH (brk a b c d)) (bkS (brk a b c d)) x y) (y % bkH (brk a b c d)))) := by
  have hG := okG_brk ho
  have hcb : 0 < cel a b c d ∧ cel a b c d ≤ 144 := by obtain ⟨o1, o2, o3, o4, o5, o6⟩ := ho; unfold cel; omega
  by_cases h2 : kd = 2
  · subst h2
    obtain ⟨s1, s2, s3, s4⟩ := id hs
    obtain ⟨o1, o2, o3, o4, o5, o6⟩ := id ho
    have m1 := mul_bd (a := 2 * x + 1) (b := b) (M := 100001) (N := 12) (by omega) o2
    have m2 := mul_bd (a := 2 * y + 1) (b := a) (M := 100001) (N := 12) (by omega) o1
    have e1 := Int.emod_nonneg ((2 * x + 1) * b - (2 * y + 1) * a) (show 2 * cel a b c d ≠ 0 by omega)
    have e2 := Int.emod_lt_of_pos ((2 * x + 1) * b - (2 * y + 1) * a) (show 0 < 2 * cel a b c d by omega)
    simp (disch := first | omega | assumption | decide | (simp (disch := omega) only [iI_lit, iJ_lit, iJ_eq, iI_eq, bI_01, bI_01I] <;> omega)) only [c_Dm_spotOf, e_Dm_spotOf_0, e_Dm_spotOf_1, e_Dm_spotOf_2, e_Dm_spotOf_5, e_Dm_spotOf_7, e_Dm_spotOf_8, e_Dm_spotOf_9, e_Dm_spotOf_10, e_Dm_spotOf_13, e_Dm_spotOf_14, e_Dm_spotOf_17, e_Dm_spotOf_20, e_Dm_spotOf_21, e_Dm_spotOf_22, e_Dm_spotOf_23, e_Dm_spotOf_24, e_Dm_spotOf_25, e_Dm_spotOf_26, e_Dm_spotOf_27, e_Dm_spotOf_28, e_Dm_spotOf_31, e_Dm_spotOf_32, e_Dm_spotOf_33, e_Dm_spotOf_36, e_Dm_spotOf_37, e_Dm_spotOf_38, e_Dm_spotOf_39, e_Dm_spotOf_40, e_Dm_spotOf_41, e_Dm_spotOf_42, e_Dm_spotOf_43, e_Dm_spotOf_44, e_Dm_spotOf_47, e_Dm_spotOf_48, e_Dm_spotOf_49, e_Dm_spotOf_50, e_Dm_spotOf_53, e_Dm_spotOf_55, e_Dm_spotOf_56, e_Dm_spotOf_57, e_Dm_spotOf_60, e_Dm_spotOf_62, e_Dm_spotOf_64, e_Dm_spotOf_67, e_Dm_spotOf_69, e_Dm_spotOf_70, e_Dm_spotOf_71, e_Dm_spotOf_73, e_Dm_spotOf_74, e_Dm_spotOf_77, e_Dm_spotOf_78, e_Dm_spotOf_79, e_Dm_spotOf_80, e_Dm_spotOf_81, e_Dm_spotOf_82, e_Dm_spotOf_85, e_Dm_spotOf_86, e_Dm_spotOf_87, e_Dm_spotOf_88, e_Dm_spotOf_91, e_Dm_spotOf_94, e_Dm_spotOf_95, e_Dm_spotOf_98, e_Dm_spotOf_99, e_Dm_spotOf_101, e_Dm_spotOf_102, e_Dm_spotOf_104, e_Dm_spotOf_107, e_Dm_spotOf_108, e_Dm_spotOf_111, e_Dm_spotOf_112, e_Dm_spotOf_113, e_Dm_spotOf_114, e_Dm_spotOf_115, e_Dm_spotOf_117, e_Dm_spotOf_119, e_Dm_spotOf_120, e_Dm_spotOf_122, e_Dm_spotOf_124, e_Dm_spotOf_126, e_Dm_spotOf_129, e_Dm_spotOf_132, e_Dm_spotOf_133, e_Dm_spotOf_136, e_Dm_spotOf_137, e_Dm_spotOf_138, e_Dm_spotOf_139, e_Dm_spotOf_140, e_Dm_spotOf_143, e_Dm_spotOf_145, e_Dm_spotOf_146, e_Dm_spotOf_147, e_Dm_spotOf_148, e_Dm_spotOf_151, e_Dm_spotOf_152, e_Dm_spotOf_153, e_Dm_spotOf_156, e_Dm_spotOf_157, e_Dm_spotOf_159, e_Dm_spotOf_162, e_Dm_spotOf_163, e_Dm_spotOf_166, e_Dm_spotOf_167, e_Dm_spotOf_168, e_Dm_spotOf_169, e_Dm_spotOf_170, e_Dm_spotOf_173, e_Dm_spotOf_175, e_Dm_spotOf_176, e_Dm_spotOf_177, e_Dm_spotOf_178, e_Dm_spotOf_181, e_Dm_spotOf_182, e_Dm_spotOf_183, e_Dm_spotOf_186, e_Dm_spotOf_187, e_Dm_spotOf_190, e_Dm_spotOf_191, e_Dm_spotOf_194, e_Dm_spotOf_196, e_Dm_spotOf_198, e_Dm_spotOf_201, e_Dm_spotOf_202, e_Dm_spotOf_205, e_Dm_spotOf_206, e_Dm_spotOf_208, e_Dm_spotOf_210, e_Dm_spotOf_213, e_Dm_spotOf_215, e_Dm_spotOf_217, e_Dm_spotOf_218, e_Dm_spotOf_221, e_Dm_spotOf_223, e_Dm_spotOf_225, e_Dm_spotOf_228, e_Dm_spotOf_230, e_Dm_spotOf_233, e_Dm_spotOf_235, e_Dm_spotOf_237, e_Dm_spotOf_240, e_Dm_spotOf_243, e_Dm_spotOf_245, bd_some, bd_none, Option.toList_some, Option.toList_none, List.nil_append, List.cons_append, px_kill_int, px_kill_long, px_kill_ref, px_kill_null, s_cellOf T hi hs ho, s_of4 T hi, s_of1 T hi, s_of0 T hi, hkd, s1, s2, iI_lit, iJ_lit, iI_add, iI_sub, iI_mul, iI_neg, iJ_add, iJ_sub, iJ_mul, iJ_neg, iI_lt, iI_le, iI_eq, iJ_lt, iJ_le, iJ_eq, iI_div, iJ_div, tdiv_tmod, iI_J, iJ_I, iI_ix, iI_toInt, iJ_toInt, cmp_ge, cmp_lt, cmp_eq, cmp_gt, cmp_le, cmp_geI, cmp_ltI, cmp_eqI, cmp_gtI, cmp_leI, bI_0I, bI_1I, pin, if_true, s_left (a := (2 * x + 1) * b - (2 * y + 1) * a) (b := 2 * cel a b c d) (by omega) (by omega), s_minJ]
    unfold spt nearD
    rw [if_pos rfl, ← line_home ho x y]
    unfold mHome
    rw [if_pos rfl]
    split <;> simp only [e_Dm_spotOf_77, e_Dm_spotOf_78, iJ_I, bd_some, bd_none, Option.toList_some, Option.toList_none, List.nil_append, List.cons_append, px_kill_int, px_kill_long, px_kill_ref, px_kill_null]
  · have hh := s_laysHome T (x := x) (y := y) hg hG (by omega) (by omega)
    have hbx := hmX_bd (h := bkH (brk a b c d)) (s := bkS (brk a b c d)) (x := x) (y := y) hG.1.1
    have hby1 := Int.emod_nonneg y (show bkH (brk a b c d) ≠ 0 by have := hG.2.1; omega)
    have hby2 := Int.emod_lt_of_pos y hG.2.1.1
    have hof : (sI (sI T 53 19 (iI (y % bkH (brk a b c d)))) 53 18 (iI (hmX (bkW (brk a b c d)) (bkH (brk a b c d)) (bkS (brk a b c d)) x y))).1 56 (8 * i + 4) = iI kd := by
      simp only [sI_get, sJ_get, sI_2, sJ_1, sJ_22, sR_1, sR_21, Nat.reduceEqDiff, and_true, true_and, and_false, false_and, and_self, if_true, if_false, reduceIte, hkd, show ¬ (56 = 53) by decide]
    have hg2 : mGrd (sI (sI T 53 19 (iI (y % bkH (brk a b c d)))) 53 18 (iI (hmX (bkW (brk a b c d)) (bkH (brk a b c d)) (bkS (brk a b c d)) x y))) (bkW (brk a b c d)) (bkH (brk a b c d)) (bkS (brk a b c d)) := hg
    have hr : (24 : Int).tdiv (bkH (brk a b c d)) = 24 / bkH (brk a b c d) := Int.tdiv_eq_ediv_of_nonneg (by omega)
    have hq1 := Int.ediv_nonneg (show (0 : Int) ≤ 24 by decide) (show 0 ≤ bkH (brk a b c d) by have := hG.2.1; omega)
    have hq2 := Int.ediv_le_self (bkH (brk a b c d)) (show (0 : Int) ≤ 24 by decide)
    have hhb := hG.2.1
    simp (disch := first | omega | assumption | decide | (simp (disch := omega) only [iI_lit, iJ_lit, iJ_eq, iI_eq, bI_01, bI_01I] <;> omega)) only [c_Dm_spotOf, e_Dm_spotOf_0, e_Dm_spotOf_1, e_Dm_spotOf_2, e_Dm_spotOf_5, e_Dm_spotOf_7, e_Dm_spotOf_8, e_Dm_spotOf_9, e_Dm_spotOf_10, e_Dm_spotOf_13, e_Dm_spotOf_14, e_Dm_spotOf_17, e_Dm_spotOf_20, e_Dm_spotOf_21, e_Dm_spotOf_22, e_Dm_spotOf_23, e_Dm_spotOf_24, e_Dm_spotOf_25, e_Dm_spotOf_26, e_Dm_spotOf_27, e_Dm_spotOf_28, e_Dm_spotOf_31, e_Dm_spotOf_32, e_Dm_spotOf_33, e_Dm_spotOf_36, e_Dm_spotOf_37, e_Dm_spotOf_38, e_Dm_spotOf_39, e_Dm_spotOf_40, e_Dm_spotOf_41, e_Dm_spotOf_42, e_Dm_spotOf_43, e_Dm_spotOf_44, e_Dm_spotOf_47, e_Dm_spotOf_48, e_Dm_spotOf_49, e_Dm_spotOf_50, e_Dm_spotOf_53, e_Dm_spotOf_55, e_Dm_spotOf_56, e_Dm_spotOf_57, e_Dm_spotOf_60, e_Dm_spotOf_62, e_Dm_spotOf_64, e_Dm_spotOf_67, e_Dm_spotOf_69, e_Dm_spotOf_70, e_Dm_spotOf_71, e_Dm_spotOf_73, e_Dm_spotOf_74, e_Dm_spotOf_77, e_Dm_spotOf_78, e_Dm_spotOf_79, e_Dm_spotOf_80, e_Dm_spotOf_81, e_Dm_spotOf_82, e_Dm_spotOf_85, e_Dm_spotOf_86, e_Dm_spotOf_87, e_Dm_spotOf_88, e_Dm_spotOf_91, e_Dm_spotOf_94, e_Dm_spotOf_95, e_Dm_spotOf_98, bd_some, bd_none, Option.toList_some, Option.toList_none, List.nil_append, List.cons_append, px_kill_int, px_kill_long, px_kill_ref, px_kill_null, s_cellOf T hi hs ho, s_of4 T hi, hkd, iI_lit, iJ_lit, iI_add, iI_sub, iI_mul, iI_neg, iJ_add, iJ_sub, iJ_mul, iJ_neg, iI_lt, iI_le, iI_eq, iJ_lt, iJ_le, iJ_eq, iI_div, iJ_div, tdiv_tmod, iI_J, iJ_I, iI_ix, iI_toInt, iJ_toInt, cmp_ge, cmp_lt, cmp_eq, cmp_gt, cmp_le, cmp_geI, cmp_ltI, cmp_eqI, cmp_gtI, cmp_leI, bI_0I, bI_1I, pin, if_true, h2, if_false, hh]
    simp (disch := first | omega | assumption | decide | (simp (disch := omega) only [iI_lit, iJ_lit, iJ_eq, iI_eq, bI_01, bI_01I] <;> omega)) only [s_of4 _ hi, hof, e_Dm_spotOf_85, e_Dm_spotOf_86, e_Dm_spotOf_87, e_Dm_spotOf_88, e_Dm_spotOf_91, e_Dm_spotOf_94, e_Dm_spotOf_95, e_Dm_spotOf_98, bd_some, bd_none, Option.toList_some, Option.toList_none, List.nil_append, List.cons_append, px_kill_int, px_kill_long, px_kill_ref, px_kill_null, iI_lit, iJ_lit, iI_add, iI_sub, iI_mul, iI_neg, iJ_add, iJ_sub, iJ_mul, iJ_neg, iI_lt, iI_le, iI_eq, iJ_lt, iJ_le, iJ_eq, iI_div, iJ_div, tdiv_tmod, iI_J, iJ_I, iI_ix, iI_toInt, iJ_toInt, cmp_ge, cmp_lt, cmp_eq, cmp_gt, cmp_le, cmp_geI, cmp_ltI, cmp_eqI, cmp_gtI, cmp_leI, bI_0I, bI_1I, pin, if_true]
    have hj : (if kd = 0 then rn k_Dm_spotOf 99 [.ref 53, .int (iI (i : Int)), .int (iI x), .int (iI y), .int (iI (cel a b c d)), .null, .null, .null, .null, .null, .null, .null, .null] [.int (iI 1)] (enc (sI (sI T 53 19 (iI (y % bkH (brk a b c d)))) 53 18 (iI (hmX (bkW (brk a b c d)) (bkH (brk a b c d)) (bkS (brk a b c d)) x y)))) else rn k_Dm_spotOf 99 [.ref 53, .int (iI (i : Int)), .int (iI x), .int (iI y), .int (iI (cel a b c d)), .null, .null, .null, .null, .null, .null, .null, .null] [.int (iI 0)] (enc (sI (sI T 53 19 (iI (y % bkH (brk a b c d)))) 53 18 (iI (hmX (bkW (brk a b c d)) (bkH (brk a b c d)) (bkS (brk a b c d)) x y))))) = rn k_Dm_spotOf 99 [.ref 53, .int (iI (i : Int)), .int (iI x), .int (iI y), .int (iI (cel a b c d)), .null, .null, .null, .null, .null, .null, .null, .null] [.int (iI (if kd = 0 then 1 else 0))] (enc (sI (sI T 53 19 (iI (y % bkH (brk a b c d)))) 53 18 (iI (hmX (bkW (brk a b c d)) (bkH (brk a b c d)) (bkS (brk a b c d)) x y)))) := by
      split <;> rfl
    rw [hj]
    simp (disch := first | omega | assumption | decide | (simp (disch := omega) only [iI_lit, iJ_lit, iJ_eq, iI_eq, bI_01, bI_01I] <;> omega)) only [e_Dm_spotOf_99, e_Dm_spotOf_101, e_Dm_spotOf_102, e_Dm_spotOf_104, e_Dm_spotOf_107, e_Dm_spotOf_108, e_Dm_spotOf_111, e_Dm_spotOf_112, e_Dm_spotOf_113, e_Dm_spotOf_114, e_Dm_spotOf_115, e_Dm_spotOf_117, e_Dm_spotOf_119, e_Dm_spotOf_120, bd_some, bd_none, Option.toList_some, Option.toList_none, List.nil_append, List.cons_append, px_kill_int, px_kill_long, px_kill_ref, px_kill_null, iI_lit, iJ_lit, iI_add, iI_sub, iI_mul, iI_neg, iJ_add, iJ_sub, iJ_mul, iJ_neg, iI_lt, iI_le, iI_eq, iJ_lt, iJ_le, iJ_eq, iI_div, iJ_div, tdiv_tmod, iI_J, iJ_I, iI_ix, iI_toInt, iJ_toInt, cmp_ge, cmp_lt, cmp_eq, cmp_gt, cmp_le, cmp_geI, cmp_ltI, cmp_eqI, cmp_gtI, cmp_leI, bI_0I, bI_1I, pin, if_true, sI_get, sJ_get, sI_2, sJ_1, sJ_22, sR_1, sR_21, Nat.reduceEqDiff, and_true, true_and, and_false, false_and, and_self, if_true, if_false, reduceIte, hg.1, hg.2.1, hg.2.2, hr]
    have hl := lp_mspot (T := sI (sI T 53 19 (iI (y % bkH (brk a b c d)))) 53 18 (iI (hmX (bkW (brk a b c d)) (bkH (brk a b c d)) (bkS (brk a b c d)) x y))) hg2 hG (kd := kd) (x := hmX (bkW (brk a b c d)) (bkH (brk a b c d)) (bkS (brk a b c d)) x y) (y := y % bkH (brk a b c d)) (by omega) hbx ⟨hby1, hby2⟩ rfl rfl (iI (i : Int)) (iI x) (iI y) (iI (cel a b c d)) ((2 * rch (bkH (brk a b c d))).toNat + 1) 0 (by omega) .null .null .null .null
    unfold spt mHome
    rw [if_neg h2, if_neg h2, ← hl]
    unfold rch
    simp
