/-! the reference goes from a home: the loops. -/
set_option maxHeartbeats 2000000 in
theorem lp_go1 {w h sl : Int} (hG : okG w h sl) {N : Nat} (hN : (N : Int) = w * h) (o : Nat → Nat) (hsur : ∀ k, k < N → ∃ j, j < N ∧ o j = k) (hinj : ∀ r r', r < N → r' < N → o r = o r' → r = r') {r : Nat} (hr : r ≤ N) {fd0 : Nat → Prop} (hcl : ∀ k s, fd0 k → entE o r (nbH (hmN w h sl) (hX w) (hY w) k s) → fd0 (nbH (hmN w h sl) (hX w) (hY w) k s)) {qx0 qy0 : Nat → Int} {a tb0 sb0 kk : Nat} (ha : a < N) : ∀ (m s n : Nat) (T : TS), s + m = 4 → kk < n → mGrd T w h sl → (∀ j, j < N → T.1 61 (o j) = iI (j : Int)) → mW (hmN w h sl) (hX w) (hY w) N (entE o r) fd0 qx0 qy0 a tb0 sb0 kk s n T → ∀ (a6 a7 a8 : Value),
    ∃ T' n' x6 x7 x8, n ≤ n' ∧ rn k_Dm_goesFrom 76 [.ref 53, .int (iI (a : Int)), .int (iI (r : Int)), .int (iI (n : Int)), .int (iI (kk : Int)), .int (iI (s : Int)), a6, a7, a8] [] (enc T) = rn k_Dm_goesFrom 239 [.ref 53, .int (iI (a : Int)), .int (iI (r : Int)), .int (iI ((n' : Nat) : Int)), .int (iI (kk : Int)), .int (iI 4), x6, x7, x8] [] (enc T') ∧ FrA aSe bSe T T' ∧ mW (hmN w h sl) (hX w) (hY w) N (entE o r) fd0 qx0 qy0 a tb0 sb0 kk 4 n' T' := by
  have hH := hmN_inv hG
  have hrp := hmN_rep hG
  rw [show (w * h).toNat = N by omega] at hrp
  have hN4 : N ≤ 144 := by have := hG.2.2.2; omega
  have hw := hG.1
  have hh := hG.2.1
  intro m
  induction m with
  | zero =>
    intro s n T hsm hkk hg hrk hW a6 a7 a8
    have s4 : s = 4 := by omega
    subst s4
    refine ⟨T, n, a6, a7, a8, Nat.le_refl _, ?_, FrA.rf _ _ _, hW⟩
    rw [e_Dm_goesFrom_76]
    have z0 : ((4 : Nat) : Int) = 4 := rfl
    rw [z0]
    simp (disch := first | omega | assumption | decide | (simp (disch := omega) only [iI_lit, iJ_lit, iJ_eq, iI_eq, bI_01, bI_01I] <;> omega)) only [e_Dm_goesFrom_78, e_Dm_goesFrom_79, bd_some, bd_none, Option.toList_some, Option.toList_none, List.nil_append, List.cons_append, px_kill_int, px_kill_long, px_kill_ref, px_kill_null, iI_lit, iJ_lit, iI_add, iI_sub, iI_mul, iI_neg, iJ_add, iJ_sub, iJ_mul, iJ_neg, iI_lt, iI_le, iI_eq, iJ_lt, iJ_le, iJ_eq, iI_div, iJ_div, tdiv_tmod, iI_J, iJ_I, iI_ix, iI_toInt, iJ_toInt, cmp_ge, cmp_lt, cmp_eq, cmp_gt, cmp_le, cmp_geI, cmp_ltI, cmp_eqI, cmp_gtI, cmp_leI, bI_0I, bI_1I, pin, if_true, Int.le_refl]
  | succ m ih =>
    intro s n T hsm hkk hg hrk hW a6 a7 a8
    obtain ⟨qu, qx, qy, tb, sb, t, so, ux, uy, hS, hF, hq, hD, hB, hb, hT, h0⟩ := hW
    obtain ⟨⟨s1, s2, s3, s4, s5⟩, s6, s7⟩ := id hS
    obtain ⟨k1, k2, k3, k4, k5, k6⟩ := s6 kk hkk
    have hm := home_n (w := w) (h := h) (n := a) hw.1 (by omega)
    have hXa : hX w a = (a : Int) % w := rfl
    have hYa : hY w a = (a : Int) / w := rfl
    have kN : qu kk < N := by rw [← k3]; exact hrp.2 _ _
    obtain ⟨f1, f2, f3⟩ := (hF (qu kk) kN).1 (Or.inr ⟨kk, hkk, rfl⟩)
    obtain ⟨B, hBe⟩ : ∃ B, B = nbH (hmN w h sl) (hX w) (hY w) (qu kk) s := ⟨_, rfl⟩
    have hBN : B < N := by rw [hBe]; exact nbH_lt hrp _ _
    have hpB : (B : Int) = plc w h sl (qx (qu kk) + dX s) (qy (qu kk) + dY s) := by
      have := nbH_of hH hrp k3 s
      have b := plc_bd (x := qx (qu kk) + dX s) (y := qy (qu kk) + dY s) hG
      rw [hBe, ← this]
      unfold hmN
      omega
    obtain ⟨j, hj, hoj⟩ := hsur B hBN
    have h61 := hrk j hj
    rw [hoj] at h61
    have hent : entE o r B ↔ j < r := by
      constructor
      · rintro ⟨j', q1, q2⟩
        have := hinj j' j (by omega) hj (q2.trans hoj.symm)
        omega
      · intro q; exact ⟨j, q, hoj⟩
    have its := go_its hg hG (a1 := a) (a2 := r) (n := n) (kk := kk) (s := s) (by omega) (by omega) (K := qu kk) (B := B) (j := j) (by omega) (by omega) (x := qx (qu kk)) (y := qy (qu kk)) (by omega) (by omega) (hq kk hkk) f2 f3 hpB h61 (by omega) (by omega) a6 a7 a8
    have hd := dXY_bd s
    obtain ⟨T1, hT1⟩ : ∃ T1, T1 = sI (sI T 53 19 (iI ((qy (qu kk) + dY s) % h))) 53 18 (iI (hmX w h sl (qx (qu kk) + dX s) (qy (qu kk) + dY s))) := ⟨_, rfl⟩
    rw [← hT1] at its
    have fr1 : FrA aSe bSe T T1 := by
      rw [hT1]
      exact ((FrA.rf _ _ _).wr _ (by unfold aSe; omega)).wr _ (by unfold aSe; omega)
    have rd1 : ∀ q k, q ≠ 53 → T1.1 q k = T.1 q k := by
      intro q k hq
      rw [hT1, sI_get, if_neg (by omega), sI_get, if_neg (by omega)]
    have hg1 : mGrd T1 w h sl := by rw [hT1]; exact hg
    have hrk1 : ∀ j, j < N → T1.1 61 (o j) = iI (j : Int) := fun j hj => by rw [rd1 _ _ (by omega)]; exact hrk j hj
    have hF1 : mF T1 N (fdQ fd0 n qu) qx qy := hF.fr (fun q k q1 q2 => rd1 q k (by omega))
    have hq1 : ∀ i, i < n → T1.1 65 i = iI (qu i : Int) := fun i hi => by rw [rd1 _ _ (by omega)]; exact hq i hi
    have hB1 : mB T1 tb sb ux uy := by
      refine hB.fr ?_ ?_ ?_ ?_
      · rw [hT1]; simp only [sI_get, sJ_get, sI_2, sJ_1, sJ_22, sR_1, sR_21, Nat.reduceEqDiff, and_true, true_and, and_false, false_and, and_self, if_true, if_false, reduceIte]
      · rw [hT1]; simp only [sI_get, sJ_get, sI_2, sJ_1, sJ_22, sR_1, sR_21, Nat.reduceEqDiff, and_true, true_and, and_false, false_and, and_self, if_true, if_false, reduceIte]
      · rw [hT1]; rfl
      · rw [hT1]; rfl
    by_cases q : r ≤ j
    · have he : ¬ entE o r (nbH (hmN w h sl) (hX w) (hY w) (qu kk) s) := by rw [← hBe, hent]; omega
      rw [if_pos (by omega)] at its
      obtain ⟨T', n', x6, x7, x8, hn, e3, fr3, hW3⟩ := ih (s + 1) n T1 (by omega) hkk hg1 hrk1 ⟨qu, qx, qy, tb, sb, t, so, ux, uy, hS, hF1, hq1, fun k s' z => hD k s' ((Dq_n he k s').mpr z), hB1, hb, hT.cgD (Dq_n he), h0⟩ (.int (iI (qx (qu kk) + dX s))) (.int (iI (qy (qu kk) + dY s))) (.int (iI (B : Int)))
      refine ⟨T', n', x6, x7, x8, hn, ?_, fr1.tr fr3, hW3⟩
      rw [its, ← e3]
      simp (disch := first | omega | assumption | decide | (simp (disch := omega) only [iI_lit, iJ_lit, iJ_eq, iI_eq, bI_01, bI_01I] <;> omega)) only [e_Dm_goesFrom_233, e_Dm_goesFrom_236, bd_some, bd_none, Option.toList_some, Option.toList_none, List.nil_append, List.cons_append, px_kill_int, px_kill_long, px_kill_ref, px_kill_null, iI_lit, iJ_lit, iI_add, iI_sub, iI_mul, iI_neg, iJ_add, iJ_sub, iJ_mul, iJ_neg, iI_lt, iI_le, iI_eq, iJ_lt, iJ_le, iJ_eq, iI_div, iJ_div, tdiv_tmod, iI_J, iJ_I, iI_ix, iI_toInt, iJ_toInt, cmp_ge, cmp_lt, cmp_eq, cmp_gt, cmp_le, cmp_geI, cmp_ltI, cmp_eqI, cmp_gtI, cmp_leI, bI_0I, bI_1I, pin, if_true]
      rw [show ((s + 1 : Nat) : Int) = (s : Int) + 1 by omega]
    · have he : entE o r (nbH (hmN w h sl) (hX w) (hY w) (qu kk) s) := by rw [← hBe, hent]; omega
      rw [if_neg (by omega)] at its
      have hB0 : ¬ fd0 B := by
        intro z
        have n := nbH_op hH hrp kN s
        rw [← hBe] at n
        have := hcl B (opS s) z (by rw [n]; exact k1)
        rw [n] at this
        exact k2 this
      have eB : ((B : Int)).toNat = B := by omega
      by_cases fB : fdQ fd0 n qu B
      · obtain ⟨g1, g2, g3⟩ := (hF1 B hBN).1 fB
        obtain ⟨jq, hjq, hjB⟩ := fB.resolve_left hB0
        obtain ⟨-, -, -, -, b5, b6⟩ := s6 jq hjq
        rw [hjB] at b5 b6
        have cX : clX (hmN w h sl) (hX w) (hY w) qx (qu kk) s = qx (qu kk) + dX s - qx B := by unfold clX; rw [hBe]
        have cY : clY (hmN w h sl) (hX w) (hY w) qy (qu kk) s = qy (qu kk) + dY s - qy B := by unfold clY; rw [hBe]
        obtain ⟨T2, tb', sb', t', so', ux', uy', e2, fr2, hB2, hb2, hT2⟩ := s_again hB1 hb hT (k := qu kk) (s := s) (by rw [cX, cY]; omega)
        rw [cX, cY] at e2
        have fr12 : FrA aSe bSe T T2 := fr1.tr (fr2.mono (fun q k z => by unfold aAg at z; unfold aSe; omega) (fun q k z => z))
        have rd2 : ∀ q k, q ≠ 53 → T2.1 q k = T1.1 q k := fun q k hq => fr2.1 q k (by unfold aAg; omega)
        obtain ⟨T', n', x6, x7, x8, hn, e3, fr3, hW3⟩ := ih (s + 1) n T2 (by omega) hkk (by unfold mGrd at *; rw [fr2.2.1 _ _ (by unfold bSe; omega), fr2.2.1 _ _ (by unfold bSe; omega), fr2.2.1 _ _ (by unfold bSe; omega)]; exact hg1) (fun j hj => by rw [rd2 _ _ (by omega)]; exact hrk1 j hj) ⟨qu, qx, qy, tb', sb', t', so', ux', uy', hS, hF1.fr (fun q k q1 q2 => rd2 q k (by omega)), fun i hi => by rw [rd2 _ _ (by omega)]; exact hq1 i hi, fun k s' z => by
          rcases (Dq_s s7 hkk (by omega) he k s').mpr z with z | ⟨rfl, rfl⟩
          · exact hD k s' z
          · exact ⟨jq, hjq, by rw [hjB, hBe]⟩, hB2, hb2, hT2.cgD (Dq_s s7 hkk (by omega) he), h0⟩ (.int (iI (qx (qu kk) + dX s))) (.int (iI (qy (qu kk) + dY s))) (.int (iI (B : Int)))
        refine ⟨T', n', x6, x7, x8, hn, ?_, fr12.tr fr3, hW3⟩
        rw [its, ← e3]
        simp (disch := first | omega | assumption | decide | (simp (disch := omega) only [iI_lit, iJ_lit, iJ_eq, iI_eq, bI_01, bI_01I] <;> omega)) only [e_Dm_goesFrom_157, e_Dm_goesFrom_158, e_Dm_goesFrom_161, e_Dm_goesFrom_163, e_Dm_goesFrom_164, e_Dm_goesFrom_167, e_Dm_goesFrom_168, e_Dm_goesFrom_170, e_Dm_goesFrom_171, e_Dm_goesFrom_174, e_Dm_goesFrom_176, e_Dm_goesFrom_176X, e_Dm_goesFrom_176Y, e_Dm_goesFrom_177, e_Dm_goesFrom_178, e_Dm_goesFrom_179, e_Dm_goesFrom_181, e_Dm_goesFrom_182, e_Dm_goesFrom_185, e_Dm_goesFrom_187, e_Dm_goesFrom_187X, e_Dm_goesFrom_187Y, e_Dm_goesFrom_188, e_Dm_goesFrom_189, e_Dm_goesFrom_190, e_Dm_goesFrom_193, e_Dm_goesFrom_233, e_Dm_goesFrom_236, bd_some, bd_none, Option.toList_some, Option.toList_none, List.nil_append, List.cons_append, px_kill_int, px_kill_long, px_kill_ref, px_kill_null, iI_lit, iJ_lit, iI_add, iI_sub, iI_mul, iI_neg, iJ_add, iJ_sub, iJ_mul, iJ_neg, iI_lt, iI_le, iI_eq, iJ_lt, iJ_le, iJ_eq, iI_div, iJ_div, tdiv_tmod, iI_J, iJ_I, iI_ix, iI_toInt, iJ_toInt, cmp_ge, cmp_lt, cmp_eq, cmp_gt, cmp_le, cmp_geI, cmp_ltI, cmp_eqI, cmp_gtI, cmp_leI, bI_0I, bI_1I, pin, if_true, sh_n64, sh_n62, sh_n63, eB, g1, g2, g3, one0, if_false, e2]
        rw [show ((s + 1 : Nat) : Int) = (s : Int) + 1 by omega]
      · have g1 := (hF1 B hBN).2 fB
        have hpush := hS.push hH hrp hkk he (by rw [← hBe]; exact fB)
        rw [← hBe] at hpush
        have hn1 := hpush.1.2.1
        obtain ⟨T2, hT2⟩ : ∃ T2, T2 = sI (sI (sI (sI T1 64 B (iI 1)) 62 B (iI (qx (qu kk) + dX s))) 63 B (iI (qy (qu kk) + dY s))) 65 n (iI (B : Int)) := ⟨_, rfl⟩
        have fr2 : FrA aSe bSe T1 T2 := by
          rw [hT2]
          exact ((((FrA.rf _ _ _).wr _ (by unfold aSe; omega)).wr _ (by unfold aSe; omega)).wr _ (by unfold aSe; omega)).wr _ (by unfold aSe; omega)
        have rd2 : ∀ q k, ¬ (62 ≤ q ∧ q ≤ 65) → T2.1 q k = T1.1 q k := by
          intro q k hq
          rw [hT2, sI_get, if_neg (by omega), sI_get, if_neg (by omega), sI_get, if_neg (by omega), sI_get, if_neg (by omega)]
        have hfd : ∀ k, fdQ fd0 (n + 1) (upN qu n B) k ↔ (fdQ fd0 n qu k ∨ k = B) := by
          intro k
          constructor
          · rintro (z | ⟨i, z1, z2⟩)
            · exact Or.inl (Or.inl z)
            · by_cases c : i = n
              · rw [c, upN_s] at z2; exact Or.inr z2.symm
              · rw [upN_o _ _ c] at z2; exact Or.inl (Or.inr ⟨i, by omega, z2⟩)
          · rintro ((z | ⟨i, z1, z2⟩) | z)
            · exact Or.inl z
            · exact Or.inr ⟨i, by omega, by rw [upN_o _ _ (by omega)]; exact z2⟩
            · exact Or.inr ⟨n, by omega, by rw [upN_s]; exact z.symm⟩
        have hKB : qu kk ≠ B := fun z => fB (Or.inr ⟨kk, hkk, z⟩)
        obtain ⟨T', n', x6, x7, x8, hn, e3, fr3, hW3⟩ := ih (s + 1) (n + 1) T2 (by omega) (by omega) (by rw [hT2]; exact hg1) (fun j hj => by rw [rd2 _ _ (by omega)]; exact hrk1 j hj) ⟨upN qu n B, upN qx B (qx (qu kk) + dX s), upN qy B (qy (qu kk) + dY s), tb, sb, t, so, ux, uy, hpush, by
            intro k hk
            by_cases c : k = B
            · subst c
              refine ⟨fun _ => ?_, fun z => absurd ((hfd k).mpr (Or.inr rfl)) z⟩
              rw [upN_s, upN_s, hT2]
              refine ⟨?_, ?_, ?_⟩ <;> simp only [sI_get, sJ_get, sI_2, sJ_1, sJ_22, sR_1, sR_21, Nat.reduceEqDiff, and_true, true_and, and_false, false_and, and_self, if_true, if_false, reduceIte]
            · rw [upN_o _ _ c, upN_o _ _ c, hT2]
              simp only [sI_get, sJ_get, sI_2, sJ_1, sJ_22, sR_1, sR_21, Nat.reduceEqDiff, and_true, true_and, and_false, false_and, and_self, if_true, if_false, reduceIte, c]
              refine ⟨fun z => (hF1 k hk).1 (((hfd k).mp z).resolve_right c), fun z => (hF1 k hk).2 (fun y => z ((hfd k).mpr (Or.inl y)))⟩, by
            intro i hi
            by_cases c : i = n
            · subst c
              rw [upN_s, hT2]
              simp only [sI_get, sJ_get, sI_2, sJ_1, sJ_22, sR_1, sR_21, Nat.reduceEqDiff, and_true, true_and, and_false, false_and, and_self, if_true, if_false, reduceIte]
            · rw [upN_o _ _ c, hT2]
              simp only [sI_get, sJ_get, sI_2, sJ_1, sJ_22, sR_1, sR_21, Nat.reduceEqDiff, and_true, true_and, and_false, false_and, and_self, if_true, if_false, reduceIte, c]
              exact hq1 i (by omega), by
            intro k s' z
            have z' := (Dq_up (H := hmN w h sl) (X := hX w) (Y := hY w) (e := entE o r) (qu := qu) (s := s + 1) (B := B) hkk k s').mpr z
            rcases (Dq_s s7 hkk (by omega) he k s').mpr z' with y | ⟨rfl, rfl⟩
            · obtain ⟨i, i1, i2⟩ := hD k s' y
              exact ⟨i, by omega, by rw [upN_o _ _ (by omega)]; exact i2⟩
            · exact ⟨n, by omega, by rw [upN_s, hBe]⟩, hB1.fr (rd2 _ _ (by omega)) (rd2 _ _ (by omega)) (by rw [hT2]; rfl) (by rw [hT2]; rfl), hb, by
            have hne : ∀ k s', Dq (hmN w h sl) (hX w) (hY w) (entE o r) qu kk s k s' → k ≠ B ∧ nbH (hmN w h sl) (hX w) (hY w) k s' ≠ B := by
              intro k s' z
              obtain ⟨i, i1, i2⟩ := hD k s' z
              obtain ⟨i', y1, y2, y3, y4⟩ := z
              exact ⟨fun c => fB (Or.inr ⟨i', by omega, by rw [y1, c]⟩), fun c => fB (Or.inr ⟨i, i1, by rw [i2, c]⟩)⟩
            have t1 : tI (clX (hmN w h sl) (hX w) (hY w) (upN qx B (qx (qu kk) + dX s))) (clY (hmN w h sl) (hX w) (hY w) (upN qy B (qy (qu kk) + dY s))) (Dq (hmN w h sl) (hX w) (hY w) (entE o r) qu kk s) t so ux uy := by
              refine hT.cg (fun k s' z => ?_) (fun k s' z => ?_)
              · obtain ⟨n1, n2⟩ := hne k s' z
                unfold clX
                rw [upN_o _ _ n1, upN_o _ _ n2]
              · obtain ⟨n1, n2⟩ := hne k s' z
                unfold clY
                rw [upN_o _ _ n1, upN_o _ _ n2]
            have t2 := t1.nil (k := qu kk) (s := s) (by unfold clX; rw [← hBe, upN_s, upN_o _ _ hKB]; omega) (by unfold clY; rw [← hBe, upN_s, upN_o _ _ hKB]; omega)
            exact (t2.cgD (Dq_s s7 hkk (by omega) he)).cgD (Dq_up hkk), fun k z => by
            have c : k ≠ B := fun c => hB0 (c ▸ z)
            rw [upN_o _ _ c, upN_o _ _ c]
            exact h0 k z⟩ (.int (iI (qx (qu kk) + dX s))) (.int (iI (qy (qu kk) + dY s))) (.int (iI (B : Int)))
        refine ⟨T', n', x6, x7, x8, by omega, ?_, (fr1.tr fr2).tr fr3, hW3⟩
        rw [its, ← e3, hT2]
        have en : ((n : Int)).toNat = n := by omega
        simp (disch := first | omega | assumption | decide | (simp (disch := omega) only [iI_lit, iJ_lit, iJ_eq, iI_eq, bI_01, bI_01I] <;> omega)) only [e_Dm_goesFrom_157, e_Dm_goesFrom_158, e_Dm_goesFrom_161, e_Dm_goesFrom_163, e_Dm_goesFrom_164, e_Dm_goesFrom_196, e_Dm_goesFrom_197, e_Dm_goesFrom_200, e_Dm_goesFrom_202, e_Dm_goesFrom_203, e_Dm_goesFrom_204, e_Dm_goesFrom_205, e_Dm_goesFrom_208, e_Dm_goesFrom_210, e_Dm_goesFrom_212, e_Dm_goesFrom_213, e_Dm_goesFrom_214, e_Dm_goesFrom_217, e_Dm_goesFrom_219, e_Dm_goesFrom_221, e_Dm_goesFrom_222, e_Dm_goesFrom_223, e_Dm_goesFrom_226, e_Dm_goesFrom_227, e_Dm_goesFrom_229, e_Dm_goesFrom_230, e_Dm_goesFrom_233, e_Dm_goesFrom_236, bd_some, bd_none, Option.toList_some, Option.toList_none, List.nil_append, List.cons_append, px_kill_int, px_kill_long, px_kill_ref, px_kill_null, iI_lit, iJ_lit, iI_add, iI_sub, iI_mul, iI_neg, iJ_add, iJ_sub, iJ_mul, iJ_neg, iI_lt, iI_le, iI_eq, iJ_lt, iJ_le, iJ_eq, iI_div, iJ_div, tdiv_tmod, iI_J, iJ_I, iI_ix, iI_toInt, iJ_toInt, cmp_ge, cmp_lt, cmp_eq, cmp_gt, cmp_le, cmp_geI, cmp_ltI, cmp_eqI, cmp_gtI, cmp_leI, bI_0I, bI_1I, pin, if_true, sh_n64, sh_n62, sh_n63, sh_n65, eB, en, g1]
        rw [show ((s + 1 : Nat) : Int) = (s : Int) + 1 by omega, show ((n + 1 : Nat) : Int) = (n : Int) + 1 by omega]
set_option maxHeartbeats 2000000 in
theorem lp_go2 {w h sl : Int} (hG : okG w h sl) {N : Nat} (hN : (N : Int) = w * h) (o : Nat → Nat) (hsur : ∀ k, k < N → ∃ j, j < N ∧ o j = k) (hinj : ∀ r r', r < N → r' < N → o r = o r' → r = r') {r : Nat} (hr : r ≤ N) {fd0 : Nat → Prop} (hcl : ∀ k s, fd0 k → entE o r (nbH (hmN w h sl) (hX w) (hY w) k s) → fd0 (nbH (hmN w h sl) (hX w) (hY w) k s)) {qx0 qy0 : Nat → Int} {a tb0 sb0 : Nat} (ha : a < N) : ∀ (m kk n : Nat) (T : TS), kk + m = N → kk ≤ n → mGrd T w h sl → (∀ j, j < N → T.1 61 (o j) = iI (j : Int)) → mW (hmN w h sl) (hX w) (hY w) N (entE o r) fd0 qx0 qy0 a tb0 sb0 kk 0 n T → ∀ (a5 a6 a7 a8 : Value),
    ∃ T' n', rn k_Dm_goesFrom 67 [.ref 53, .int (iI (a : Int)), .int (iI (r : Int)), .int (iI (n : Int)), .int (iI (kk : Int)), a5, a6, a7, a8] [] (enc T) = some (none, enc T') ∧ FrA aSe bSe T T' ∧ mW (hmN w h sl) (hX w) (hY w) N (entE o r) fd0 qx0 qy0 a tb0 sb0 n' 0 n' T' := by
  have hN4 : N ≤ 144 := by have := hG.2.2.2; omega
  have stop : ∀ (kk n : Nat) (T : TS) (a5 a6 a7 a8 : Value), n = kk → n ≤ 144 → rn k_Dm_goesFrom 67 [.ref 53, .int (iI (a : Int)), .int (iI (r : Int)), .int (iI (n : Int)), .int (iI (kk : Int)), a5, a6, a7, a8] [] (enc T) = some (none, enc T) := by
    intro kk n T a5 a6 a7 a8 e hn
    subst e
    rw [e_Dm_goesFrom_67]
    simp (disch := first | omega | assumption | decide | (simp (disch := omega) only [iI_lit, iJ_lit, iJ_eq, iI_eq, bI_01, bI_01I] <;> omega)) only [e_Dm_goesFrom_69, e_Dm_goesFrom_70, e_Dm_goesFrom_245, bd_some, bd_none, Option.toList_some, Option.toList_none, List.nil_append, List.cons_append, px_kill_int, px_kill_long, px_kill_ref, px_kill_null, iI_lit, iJ_lit, iI_add, iI_sub, iI_mul, iI_neg, iJ_add, iJ_sub, iJ_mul, iJ_neg, iI_lt, iI_le, iI_eq, iJ_lt, iJ_le, iJ_eq, iI_div, iJ_div, tdiv_tmod, iI_J, iJ_I, iI_ix, iI_toInt, iJ_toInt, cmp_ge, cmp_lt, cmp_eq, cmp_gt, cmp_le, cmp_geI, cmp_ltI, cmp_eqI, cmp_gtI, cmp_leI, bI_0I, bI_1I, pin, if_true, Int.le_refl]
  intro m
  induction m with
  | zero =>
    intro kk n T hkm hkk hg hrk hW a5 a6 a7 a8
    have hn := hW
    obtain ⟨qu, qx, qy, tb, sb, t, so, ux, uy, hS, -⟩ := hn
    have := hS.1.2.1
    have e : n = kk := by omega
    refine ⟨T, n, stop kk n T a5 a6 a7 a8 e (by omega), FrA.rf _ _ _, ?_⟩
    rw [← e] at hW
    exact hW
  | succ m ih =>
    intro kk n T hkm hkk hg hrk hW a5 a6 a7 a8
    have hn := hW
    obtain ⟨qu, qx, qy, tb, sb, t, so, ux, uy, hS, -⟩ := hn
    have hnN := hS.1.2.1
    by_cases c : n = kk
    · refine ⟨T, n, stop kk n T a5 a6 a7 a8 c (by omega), FrA.rf _ _ _, ?_⟩
      rw [← c] at hW
      exact hW
    · have hlt : kk < n := by omega
      have hnge : ¬ (n : Int) ≤ (kk : Int) := by omega
      obtain ⟨T1, n1, x6, x7, x8, hn1, e1, fr1, hW1⟩ := lp_go1 hG hN o hsur hinj hr hcl ha (kk := kk) 4 0 n T (by omega) hlt hg hrk hW a6 a7 a8
      have hg1 : mGrd T1 w h sl := by unfold mGrd at *; rw [fr1.2.1 _ _ (by unfold bSe; omega), fr1.2.1 _ _ (by unfold bSe; omega), fr1.2.1 _ _ (by unfold bSe; omega)]; exact hg
      obtain ⟨qu1, qx1, qy1, tb1, sb1, t1, so1, ux1, uy1, w1, w2, w3, w4, w5, w6, w7, w8⟩ := hW1
      have hDk : ∀ k s', Dq (hmN w h sl) (hX w) (hY w) (entE o r) qu1 kk 4 k s' ↔ Dq (hmN w h sl) (hX w) (hY w) (entE o r) qu1 (kk + 1) 0 k s' := by
        intro k s'
        constructor
        · rintro ⟨i, i1, i2, i3, i4⟩; exact ⟨i, i1, by omega, i3, i4⟩
        · rintro ⟨i, i1, i2, i3, i4⟩; exact ⟨i, i1, by omega, i3, i4⟩
      obtain ⟨T', n', e2, fr2, hW2⟩ := ih (kk + 1) n1 T1 (by omega) (by omega) hg1 (fun j hj => by rw [fr1.1 _ _ (by unfold aSe; omega)]; exact hrk j hj) ⟨qu1, qx1, qy1, tb1, sb1, t1, so1, ux1, uy1, w1, w2, w3, fun k s' z => w4 k s' ((hDk k s').mpr z), w5, w6, w7.cgD hDk, w8⟩ (.int (iI 4)) x6 x7 x8
      refine ⟨T', n', ?_, fr1.tr fr2, hW2⟩
      rw [← e2, e_Dm_goesFrom_67]
      have z0 : ((0 : Nat) : Int) = 0 := rfl
      rw [z0] at e1
      simp (disch := first | omega | assumption | decide | (simp (disch := omega) only [iI_lit, iJ_lit, iJ_eq, iI_eq, bI_01, bI_01I] <;> omega)) only [e_Dm_goesFrom_69, e_Dm_goesFrom_70, e_Dm_goesFrom_73, e_Dm_goesFrom_74, bd_some, bd_none, Option.toList_some, Option.toList_none, List.nil_append, List.cons_append, px_kill_int, px_kill_long, px_kill_ref, px_kill_null, iI_lit, iJ_lit, iI_add, iI_sub, iI_mul, iI_neg, iJ_add, iJ_sub, iJ_mul, iJ_neg, iI_lt, iI_le, iI_eq, iJ_lt, iJ_le, iJ_eq, iI_div, iJ_div, tdiv_tmod, iI_J, iJ_I, iI_ix, iI_toInt, iJ_toInt, cmp_ge, cmp_lt, cmp_eq, cmp_gt, cmp_le, cmp_geI, cmp_ltI, cmp_eqI, cmp_gtI, cmp_leI, bI_0I, bI_1I, pin, if_true, hnge, if_false]
      rw [e1]
      simp (disch := first | omega | assumption | decide | (simp (disch := omega) only [iI_lit, iJ_lit, iJ_eq, iI_eq, bI_01, bI_01I] <;> omega)) only [e_Dm_goesFrom_239, e_Dm_goesFrom_242, bd_some, bd_none, Option.toList_some, Option.toList_none, List.nil_append, List.cons_append, px_kill_int, px_kill_long, px_kill_ref, px_kill_null, iI_lit, iJ_lit, iI_add, iI_sub, iI_mul, iI_neg, iJ_add, iJ_sub, iJ_mul, iJ_neg, iI_lt, iI_le, iI_eq, iJ_lt, iJ_le, iJ_eq, iI_div, iJ_div, tdiv_tmod, iI_J, iJ_I, iI_ix, iI_toInt, iJ_toInt, cmp_ge, cmp_lt, cmp_eq, cmp_gt, cmp_le, cmp_geI, cmp_ltI, cmp_eqI, cmp_gtI, cmp_leI, bI_0I, bI_1I, pin, if_true]
      rw [show ((kk + 1 : Nat) : Int) = (kk : Int) + 1 by omega]
