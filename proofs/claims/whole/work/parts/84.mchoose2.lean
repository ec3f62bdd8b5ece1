/-! choose of the reference: the rows one by one. -/
abbrev lT (many n : Int) (u0 l0 : Int64) (m : Int) (s : Int) (u l x a15 : Value) : List Value := [.ref 53, .ref 71, .int (iI many), .int (iI n), .long u0, .null, .long l0, .null, .int (iI m), .int (iI s), u, .null, l, .null, x, a15]
theorem aMb_tr {d q k : Nat} (h : aMb q k) : aTr d q k := by unfold aMb at h; unfold aTr; omega
theorem bLf_tr {q k : Nat} (h : bLf q k) : bTr q k := by unfold bLf at h; unfold bTr; omega
set_option maxHeartbeats 4000000 in
theorem in_t2 {l : List (Nat × Nat)} (hl : okQ l) (hlen : l.length ≤ 20) {m : Int} (hm : m = 0 ∨ m = 1) {T : TS} (hT : hTl T l) {c : Nat × Nat} (hc : isCp l c) {a s x : Nat} (hx : x < 2) (has : isCp l (a, s)) (hr : T.1 71 x = iI (a : Int)) (u0 l0 : Int64) (a15 : Value) : ∃ (T' : TS) (b15 : Value), rn k_Dm_tries2 149 (lT 2 3 u0 l0 m (s : Int) (.long (iJ (zU l c))) (.long (iJ (zL l c))) (.int (iI (x : Int))) a15) [] (enc T) = rn k_Dm_tries2 149 (lT 2 3 u0 l0 m (s : Int) (.long (iJ (zU l (if bhd m l (a, s) c then (a, s) else c)))) (.long (iJ (zL l (if bhd m l (a, s) c then (a, s) else c)))) (.int (iI ((x : Int) + 1))) b15) [] (enc T') ∧ FrA aMb bLf T T' := by
  have h1 := has.1
  have h2 := has.2
  simp only at h1 h2
  obtain ⟨T1, e1, fr1, hu, hlo⟩ := m_laysFar hl hlen hT (a := a) (b := s) (by omega) h2
  have nx : ¬ (2 : Int) ≤ (x : Int) := by omega
  have ex : ((x : Int)).toNat = x := by omega
  have bc := zz_bd hl hc
  have ba := zz_bd hl has
  have x1 := mul_bd2 ⟨Int.le_of_lt bc.1.1, bc.1.2⟩ ⟨Int.le_of_lt ba.2.1, ba.2.2⟩
  have x2 := mul_bd2 ⟨Int.le_of_lt ba.1.1, ba.1.2⟩ ⟨Int.le_of_lt bc.2.1, bc.2.2⟩
  have e9 : (-1 : Int64) = iJ (-1) := by decide
  have nu : ¬ zU l c = -1 := by omega
  have pre : ∀ (Z : Option (Option Value × px_G)), rn k_Dm_tries2 174 (lT 2 3 u0 l0 m (s : Int) (.long (iJ (zU l c))) (.long (iJ (zL l c))) (.int (iI (x : Int))) a15) [] (enc T1) = Z → rn k_Dm_tries2 149 (lT 2 3 u0 l0 m (s : Int) (.long (iJ (zU l c))) (.long (iJ (zL l c))) (.int (iI (x : Int))) a15) [] (enc T) = Z := by
    intro Z hZ
    rw [e_Dm_tries2_149]
    simp (disch := first | omega | assumption | decide | (simp (disch := omega) only [iI_lit, iJ_lit, iJ_eq, iI_eq, bI_01, bI_01I] <;> omega)) only [e_Dm_tries2_151, e_Dm_tries2_152, e_Dm_tries2_155, e_Dm_tries2_156, e_Dm_tries2_157, e_Dm_tries2_159, e_Dm_tries2_160, e_Dm_tries2_162, e_Dm_tries2_165, e_Dm_tries2_167, e_Dm_tries2_170, e_Dm_tries2_171, bd_some, bd_none, Option.toList_some, Option.toList_none, List.nil_append, List.cons_append, px_kill_int, px_kill_long, px_kill_ref, px_kill_null, iI_lit, iJ_lit, iI_add, iI_sub, iI_mul, iI_neg, iJ_add, iJ_sub, iJ_mul, iJ_neg, iI_lt, iI_le, iI_eq, iJ_lt, iJ_le, iJ_eq, iI_div, iJ_div, tdiv_tmod, iI_J, iJ_I, iI_ix, iI_toInt, iJ_toInt, cmp_ge, cmp_lt, cmp_eq, cmp_gt, cmp_le, cmp_geI, cmp_ltI, cmp_eqI, cmp_gtI, cmp_leI, bI_0I, bI_1I, pin, if_true, nx, if_false, sh_n71, ex, hr, e1, e9, nu]
    exact hZ
  have fin1 : rn k_Dm_tries2 223 (lT 2 3 u0 l0 m (s : Int) (.long (iJ (zU l c))) (.long (iJ (zL l c))) (.int (iI (x : Int))) a15) [.int (iI 1)] (enc T1) = rn k_Dm_tries2 149 (lT 2 3 u0 l0 m (s : Int) (.long (iJ (zU l (a, s)))) (.long (iJ (zL l (a, s)))) (.int (iI ((x : Int) + 1))) (.int (iI 1))) [] (enc T1) := by
    simp (disch := first | omega | assumption | decide | (simp (disch := omega) only [iI_lit, iJ_lit, iJ_eq, iI_eq, bI_01, bI_01I] <;> omega)) only [e_Dm_tries2_223, e_Dm_tries2_225, e_Dm_tries2_227, e_Dm_tries2_230, e_Dm_tries2_231, e_Dm_tries2_234, e_Dm_tries2_237, e_Dm_tries2_239, e_Dm_tries2_241, e_Dm_tries2_243, e_Dm_tries2_246, e_Dm_tries2_247, e_Dm_tries2_250, e_Dm_tries2_253, e_Dm_tries2_255, e_Dm_tries2_257, e_Dm_tries2_260, bd_some, bd_none, Option.toList_some, Option.toList_none, List.nil_append, List.cons_append, px_kill_int, px_kill_long, px_kill_ref, px_kill_null, iI_lit, iJ_lit, iI_add, iI_sub, iI_mul, iI_neg, iJ_add, iJ_sub, iJ_mul, iJ_neg, iI_lt, iI_le, iI_eq, iJ_lt, iJ_le, iJ_eq, iI_div, iJ_div, tdiv_tmod, iI_J, iJ_I, iI_ix, iI_toInt, iJ_toInt, cmp_ge, cmp_lt, cmp_eq, cmp_gt, cmp_le, cmp_geI, cmp_ltI, cmp_eqI, cmp_gtI, cmp_leI, bI_0I, bI_1I, pin, if_true, one0, if_false, hu, hlo]
  have fin0 : rn k_Dm_tries2 223 (lT 2 3 u0 l0 m (s : Int) (.long (iJ (zU l c))) (.long (iJ (zL l c))) (.int (iI (x : Int))) a15) [.int (iI 0)] (enc T1) = rn k_Dm_tries2 149 (lT 2 3 u0 l0 m (s : Int) (.long (iJ (zU l c))) (.long (iJ (zL l c))) (.int (iI ((x : Int) + 1))) (.int (iI 0))) [] (enc T1) := by
    simp (disch := first | omega | assumption | decide | (simp (disch := omega) only [iI_lit, iJ_lit, iJ_eq, iI_eq, bI_01, bI_01I] <;> omega)) only [e_Dm_tries2_223, e_Dm_tries2_225, e_Dm_tries2_227, e_Dm_tries2_230, e_Dm_tries2_231, e_Dm_tries2_234, e_Dm_tries2_237, e_Dm_tries2_239, e_Dm_tries2_241, e_Dm_tries2_243, e_Dm_tries2_246, e_Dm_tries2_247, e_Dm_tries2_250, e_Dm_tries2_253, e_Dm_tries2_255, e_Dm_tries2_257, e_Dm_tries2_260, bd_some, bd_none, Option.toList_some, Option.toList_none, List.nil_append, List.cons_append, px_kill_int, px_kill_long, px_kill_ref, px_kill_null, iI_lit, iJ_lit, iI_add, iI_sub, iI_mul, iI_neg, iJ_add, iJ_sub, iJ_mul, iJ_neg, iI_lt, iI_le, iI_eq, iJ_lt, iJ_le, iJ_eq, iI_div, iJ_div, tdiv_tmod, iI_J, iJ_I, iI_ix, iI_toInt, iJ_toInt, cmp_ge, cmp_lt, cmp_eq, cmp_gt, cmp_le, cmp_geI, cmp_ltI, cmp_eqI, cmp_gtI, cmp_leI, bI_0I, bI_1I, pin, if_true]
  by_cases d : bhd m l (a, s) c
  · rw [if_pos d]
    refine ⟨T1, .int (iI 1), pre _ (Eq.trans ?_ fin1), fr1⟩
    rcases d with ⟨d1, d2⟩ | ⟨d1, d2⟩
    · subst d1
      have c1 : ¬ zU l c * zL l (a, s) ≤ zU l (a, s) * zL l c := Int.not_le.mpr d2
      simp (disch := first | omega | assumption | decide | (simp (disch := omega) only [iI_lit, iJ_lit, iJ_eq, iI_eq, bI_01, bI_01I] <;> omega)) only [e_Dm_tries2_174, e_Dm_tries2_176, e_Dm_tries2_179, e_Dm_tries2_180, e_Dm_tries2_183, e_Dm_tries2_185, e_Dm_tries2_186, e_Dm_tries2_188, e_Dm_tries2_189, e_Dm_tries2_192, e_Dm_tries2_193, e_Dm_tries2_194, e_Dm_tries2_197, e_Dm_tries2_200, e_Dm_tries2_201, e_Dm_tries2_204, e_Dm_tries2_206, e_Dm_tries2_207, e_Dm_tries2_209, e_Dm_tries2_210, e_Dm_tries2_213, e_Dm_tries2_214, e_Dm_tries2_215, e_Dm_tries2_218, e_Dm_tries2_219, e_Dm_tries2_222, bd_some, bd_none, Option.toList_some, Option.toList_none, List.nil_append, List.cons_append, px_kill_int, px_kill_long, px_kill_ref, px_kill_null, iI_lit, iJ_lit, iI_add, iI_sub, iI_mul, iI_neg, iJ_add, iJ_sub, iJ_mul, iJ_neg, iI_lt, iI_le, iI_eq, iJ_lt, iJ_le, iJ_eq, iI_div, iJ_div, tdiv_tmod, iI_J, iJ_I, iI_ix, iI_toInt, iJ_toInt, cmp_ge, cmp_lt, cmp_eq, cmp_gt, cmp_le, cmp_geI, cmp_ltI, cmp_eqI, cmp_gtI, cmp_leI, bI_0I, bI_1I, pin, if_true, one0, if_false, hu, hlo, c1]
    · subst d1
      have c1 : ¬ zU l (a, s) * zL l c ≤ zU l c * zL l (a, s) := Int.not_le.mpr d2
      simp (disch := first | omega | assumption | decide | (simp (disch := omega) only [iI_lit, iJ_lit, iJ_eq, iI_eq, bI_01, bI_01I] <;> omega)) only [e_Dm_tries2_174, e_Dm_tries2_176, e_Dm_tries2_179, e_Dm_tries2_180, e_Dm_tries2_183, e_Dm_tries2_185, e_Dm_tries2_186, e_Dm_tries2_188, e_Dm_tries2_189, e_Dm_tries2_192, e_Dm_tries2_193, e_Dm_tries2_194, e_Dm_tries2_197, e_Dm_tries2_200, e_Dm_tries2_201, e_Dm_tries2_204, e_Dm_tries2_206, e_Dm_tries2_207, e_Dm_tries2_209, e_Dm_tries2_210, e_Dm_tries2_213, e_Dm_tries2_214, e_Dm_tries2_215, e_Dm_tries2_218, e_Dm_tries2_219, e_Dm_tries2_222, bd_some, bd_none, Option.toList_some, Option.toList_none, List.nil_append, List.cons_append, px_kill_int, px_kill_long, px_kill_ref, px_kill_null, iI_lit, iJ_lit, iI_add, iI_sub, iI_mul, iI_neg, iJ_add, iJ_sub, iJ_mul, iJ_neg, iI_lt, iI_le, iI_eq, iJ_lt, iJ_le, iJ_eq, iI_div, iJ_div, tdiv_tmod, iI_J, iJ_I, iI_ix, iI_toInt, iJ_toInt, cmp_ge, cmp_lt, cmp_eq, cmp_gt, cmp_le, cmp_geI, cmp_ltI, cmp_eqI, cmp_gtI, cmp_leI, bI_0I, bI_1I, pin, if_true, one0, if_false, hu, hlo, c1]
  · rw [if_neg d]
    refine ⟨T1, .int (iI 0), pre _ (Eq.trans ?_ fin0), fr1⟩
    rcases hm with hm | hm
    · subst hm
      have c1 : zU l (a, s) * zL l c ≤ zU l c * zL l (a, s) := Int.not_lt.mp (fun z => d (Or.inr ⟨rfl, z⟩))
      simp (disch := first | omega | assumption | decide | (simp (disch := omega) only [iI_lit, iJ_lit, iJ_eq, iI_eq, bI_01, bI_01I] <;> omega)) only [e_Dm_tries2_174, e_Dm_tries2_176, e_Dm_tries2_179, e_Dm_tries2_180, e_Dm_tries2_183, e_Dm_tries2_185, e_Dm_tries2_186, e_Dm_tries2_188, e_Dm_tries2_189, e_Dm_tries2_192, e_Dm_tries2_193, e_Dm_tries2_194, e_Dm_tries2_197, e_Dm_tries2_200, e_Dm_tries2_201, e_Dm_tries2_204, e_Dm_tries2_206, e_Dm_tries2_207, e_Dm_tries2_209, e_Dm_tries2_210, e_Dm_tries2_213, e_Dm_tries2_214, e_Dm_tries2_215, e_Dm_tries2_218, e_Dm_tries2_219, e_Dm_tries2_222, bd_some, bd_none, Option.toList_some, Option.toList_none, List.nil_append, List.cons_append, px_kill_int, px_kill_long, px_kill_ref, px_kill_null, iI_lit, iJ_lit, iI_add, iI_sub, iI_mul, iI_neg, iJ_add, iJ_sub, iJ_mul, iJ_neg, iI_lt, iI_le, iI_eq, iJ_lt, iJ_le, iJ_eq, iI_div, iJ_div, tdiv_tmod, iI_J, iJ_I, iI_ix, iI_toInt, iJ_toInt, cmp_ge, cmp_lt, cmp_eq, cmp_gt, cmp_le, cmp_geI, cmp_ltI, cmp_eqI, cmp_gtI, cmp_leI, bI_0I, bI_1I, pin, if_true, one0, if_false, hu, hlo, c1]
    · subst hm
      have c1 : zU l c * zL l (a, s) ≤ zU l (a, s) * zL l c := Int.not_lt.mp (fun z => d (Or.inl ⟨rfl, z⟩))
      simp (disch := first | omega | assumption | decide | (simp (disch := omega) only [iI_lit, iJ_lit, iJ_eq, iI_eq, bI_01, bI_01I] <;> omega)) only [e_Dm_tries2_174, e_Dm_tries2_176, e_Dm_tries2_179, e_Dm_tries2_180, e_Dm_tries2_183, e_Dm_tries2_185, e_Dm_tries2_186, e_Dm_tries2_188, e_Dm_tries2_189, e_Dm_tries2_192, e_Dm_tries2_193, e_Dm_tries2_194, e_Dm_tries2_197, e_Dm_tries2_200, e_Dm_tries2_201, e_Dm_tries2_204, e_Dm_tries2_206, e_Dm_tries2_207, e_Dm_tries2_209, e_Dm_tries2_210, e_Dm_tries2_213, e_Dm_tries2_214, e_Dm_tries2_215, e_Dm_tries2_218, e_Dm_tries2_219, e_Dm_tries2_222, bd_some, bd_none, Option.toList_some, Option.toList_none, List.nil_append, List.cons_append, px_kill_int, px_kill_long, px_kill_ref, px_kill_null, iI_lit, iJ_lit, iI_add, iI_sub, iI_mul, iI_neg, iJ_add, iJ_sub, iJ_mul, iJ_neg, iI_lt, iI_le, iI_eq, iJ_lt, iJ_le, iJ_eq, iI_div, iJ_div, tdiv_tmod, iI_J, iJ_I, iI_ix, iI_toInt, iJ_toInt, cmp_ge, cmp_lt, cmp_eq, cmp_gt, cmp_le, cmp_geI, cmp_ltI, cmp_eqI, cmp_gtI, cmp_leI, bI_0I, bI_1I, pin, if_true, one0, if_false, hu, hlo, c1]
set_option maxHeartbeats 4000000 in
theorem lp_t2 {l : List (Nat × Nat)} (hl : okQ l) (hlen : l.length ≤ 20) {m : Int} (hm : m = 0 ∨ m = 1) {i j : Nat} (hij : i < j) : ∀ (t k : Nat) (b : CB) (T : TS), j < k → k + t = l.length → hTl T l → T.1 71 0 = iI (i : Int) → T.1 71 1 = iI (j : Int) → okD l b → hBm T 3 l b → ∀ a10 a11 a12 a13 a14 a15 : Value, ∃ T', rn k_Dm_tries2 129 [.ref 53, .ref 71, .int (iI 2), .int (iI 3), .long (iJ (zU l (i, j))), .null, .long (iJ (zL l (i, j))), .null, .int (iI m), .int (iI (k : Int)), a10, a11, a12, a13, a14, a15] [] (enc T) = some (none, enc T') ∧ FrA (aTr 2) bTr T T' ∧ hBm T' 3 l (c3T m l i j b k t) := by
  intro t
  induction t with
  | zero =>
    intro k b T hjk hk hT r0 r1 hb hB a10 a11 a12 a13 a14 a15
    have ek : (k : Int) = (l.length : Int) := by omega
    have hn := hT.2
    refine ⟨T, ?_, FrA.rf _ _ _, hB⟩
    rw [ek, e_Dm_tries2_129]
    simp (disch := first | omega | assumption | decide | (simp (disch := omega) only [iI_lit, iJ_lit, iJ_eq, iI_eq, bI_01, bI_01I] <;> omega)) only [e_Dm_tries2_131, e_Dm_tries2_132, e_Dm_tries2_135, e_Dm_tries2_138, e_Dm_tries2_140, e_Dm_tries2_142, e_Dm_tries2_144, e_Dm_tries2_146, e_Dm_tries2_147, e_Dm_tries2_289, bd_some, bd_none, Option.toList_some, Option.toList_none, List.nil_append, List.cons_append, px_kill_int, px_kill_long, px_kill_ref, px_kill_null, iI_lit, iJ_lit, iI_add, iI_sub, iI_mul, iI_neg, iJ_add, iJ_sub, iJ_mul, iJ_neg, iI_lt, iI_le, iI_eq, iJ_lt, iJ_le, iJ_eq, iI_div, iJ_div, tdiv_tmod, iI_J, iJ_I, iI_ix, iI_toInt, iJ_toInt, cmp_ge, cmp_lt, cmp_eq, cmp_gt, cmp_le, cmp_geI, cmp_ltI, cmp_eqI, cmp_gtI, cmp_leI, bI_0I, bI_1I, pin, if_true, hn, Int.le_refl]
  | succ t ih =>
    intro k b T hjk hk hT r0 r1 hb hB a10 a11 a12 a13 a14 a15
    have hn := hT.2
    have nle : ¬ (l.length : Int) ≤ (k : Int) := by omega
    have cij : isCp l (i, j) := ⟨hij, by show j < l.length; omega⟩
    have cik : isCp l (i, k) := ⟨by show i < k; omega, by show k < l.length; omega⟩
    have cjk : isCp l (j, k) := ⟨hjk, by show k < l.length; omega⟩
    obtain ⟨c2, c3⟩ := cp_cp (m := m) hij hjk (show k < l.length by omega)
    obtain ⟨T1, b15, e1, fr1⟩ := in_t2 hl hlen hm hT cij (a := i) (s := k) (x := 0) (by omega) cik r0 (iJ (zU l (i, j))) (iJ (zL l (i, j))) a15
    have ec2 : (if bhd m l (i, k) (i, j) then (i, k) else (i, j)) = cp2 m l i j k := rfl
    rw [ec2] at e1
    have fr1' : FrA (aTr 2) bTr T T1 := fr1.mono (fun q k z => aMb_tr z) (fun q k z => bLf_tr z)
    have hT1 := hT.tr fr1'
    have r0' : T1.1 71 0 = iI (i : Int) := by rw [fr1.1 _ _ (by unfold aMb; omega)]; exact r0
    have r1' : T1.1 71 1 = iI (j : Int) := by rw [fr1.1 _ _ (by unfold aMb; omega)]; exact r1
    obtain ⟨T2, c15, e2, fr2⟩ := in_t2 hl hlen hm hT1 c2 (a := j) (s := k) (x := 1) (by omega) cjk r1' (iJ (zU l (i, j))) (iJ (zL l (i, j))) b15
    have ec3 : (if bhd m l (j, k) (cp2 m l i j k) then (j, k) else cp2 m l i j k) = cp3 m l i j k := rfl
    rw [ec3] at e2
    have fr2' : FrA (aTr 2) bTr T1 T2 := fr2.mono (fun q k z => aMb_tr z) (fun q k z => bLf_tr z)
    obtain ⟨T3, hT3⟩ : ∃ T3, T3 = sI T2 71 2 (iI (k : Int)) := ⟨_, rfl⟩
    have fr3 : FrA (aTr 2) bTr T2 T3 := by rw [hT3]; exact (FrA.rf (aTr 2) bTr T2).wr _ (by unfold aTr; omega)
    have hB3 : hBm T3 3 l b := by
      rw [hT3]
      exact ((hB.lf fr1).lf fr2).fr (by simp only [sI_get, sJ_get, sI_2, sJ_1, sJ_22, sR_1, sR_21, Nat.reduceEqDiff, and_true, true_and, and_false, false_and, and_self, if_true, if_false, reduceIte]) (fun k => by simp only [sI_get, sJ_get, sI_2, sJ_1, sJ_22, sR_1, sR_21, Nat.reduceEqDiff, and_true, true_and, and_false, false_and, and_self, if_true, if_false, reduceIte]) rfl rfl
    have q0 : T3.1 71 0 = iI (i : Int) := by rw [hT3]; simp only [sI_get, sJ_get, sI_2, sJ_1, sJ_22, sR_1, sR_21, Nat.reduceEqDiff, and_true, true_and, and_false, false_and, and_self, if_true, if_false, reduceIte]; rw [fr2.1 _ _ (by unfold aMb; omega)]; exact r0'
    have q1 : T3.1 71 1 = iI (j : Int) := by rw [hT3]; simp only [sI_get, sJ_get, sI_2, sJ_1, sJ_22, sR_1, sR_21, Nat.reduceEqDiff, and_true, true_and, and_false, false_and, and_self, if_true, if_false, reduceIte]; rw [fr2.1 _ _ (by unfold aMb; omega)]; exact r1'
    have q2 : T3.1 71 2 = iI (k : Int) := by rw [hT3]; simp only [sI_get, sJ_get, sI_2, sJ_1, sJ_22, sR_1, sR_21, Nat.reduceEqDiff, and_true, true_and, and_false, false_and, and_self, if_true, if_false, reduceIte]
    obtain ⟨T4, e4, fr4, hB4⟩ := leaf3 hl hlen hm hb hB3 c3 (i := i) (j := j) (k := k) q0 q1 (fun _ => q2)
    have fr4' : FrA (aTr 2) bTr T3 T4 := fr4.mono (fun q k z => by unfold aTr at *; omega) (fun q k z => z)
    have frA := ((fr1'.tr fr2').tr fr3).tr fr4'
    obtain ⟨T5, e5, fr5, hB5⟩ := ih (k + 1) (pps m l b (cp3 m l i j k) (i, j, k)) T4 (by omega) (by omega) (hT.tr frA) (by rw [frA.1 _ _ (by unfold aTr; omega)]; exact r0) (by rw [frA.1 _ _ (by unfold aTr; omega)]; exact r1) (pps_okD hb c3 ⟨by show i < l.length; omega, by show j < l.length; omega, by show k < l.length; omega⟩) hB4 (.long (iJ (zU l (cp3 m l i j k)))) .null (.long (iJ (zL l (cp3 m l i j k)))) .null (.int (iI 2)) c15
    refine ⟨T5, ?_, frA.tr fr5, hB5⟩
    have pre : rn k_Dm_tries2 129 [.ref 53, .ref 71, .int (iI 2), .int (iI 3), .long (iJ (zU l (i, j))), .null, .long (iJ (zL l (i, j))), .null, .int (iI m), .int (iI (k : Int)), a10, a11, a12, a13, a14, a15] [] (enc T) = rn k_Dm_tries2 149 (lT 2 3 (iJ (zU l (i, j))) (iJ (zL l (i, j))) m (k : Int) (.long (iJ (zU l (i, j)))) (.long (iJ (zL l (i, j)))) (.int (iI ((0 : Nat) : Int))) a15) [] (enc T) := by
      rw [e_Dm_tries2_129]
      simp (disch := first | omega | assumption | decide | (simp (disch := omega) only [iI_lit, iJ_lit, iJ_eq, iI_eq, bI_01, bI_01I] <;> omega)) only [e_Dm_tries2_131, e_Dm_tries2_132, e_Dm_tries2_135, e_Dm_tries2_138, e_Dm_tries2_140, e_Dm_tries2_142, e_Dm_tries2_144, e_Dm_tries2_146, e_Dm_tries2_147, bd_some, bd_none, Option.toList_some, Option.toList_none, List.nil_append, List.cons_append, px_kill_int, px_kill_long, px_kill_ref, px_kill_null, iI_lit, iJ_lit, iI_add, iI_sub, iI_mul, iI_neg, iJ_add, iJ_sub, iJ_mul, iJ_neg, iI_lt, iI_le, iI_eq, iJ_lt, iJ_le, iJ_eq, iI_div, iJ_div, tdiv_tmod, iI_J, iJ_I, iI_ix, iI_toInt, iJ_toInt, cmp_ge, cmp_lt, cmp_eq, cmp_gt, cmp_le, cmp_geI, cmp_ltI, cmp_eqI, cmp_gtI, cmp_leI, bI_0I, bI_1I, pin, if_true, hn, nle, if_false]
      rfl
    have e01 : ((0 : Nat) : Int) + 1 = ((1 : Nat) : Int) := by omega
    have e12 : ((1 : Nat) : Int) + 1 = 2 := by omega
    have n2 : (2 : Int).toNat = 2 := rfl
    rw [pre, e1, e01, e2, e12, e_Dm_tries2_149]
    simp (disch := first | omega | assumption | decide | (simp (disch := omega) only [iI_lit, iJ_lit, iJ_eq, iI_eq, bI_01, bI_01I] <;> omega)) only [e_Dm_tries2_151, e_Dm_tries2_152, e_Dm_tries2_263, e_Dm_tries2_264, e_Dm_tries2_265, e_Dm_tries2_267, e_Dm_tries2_268, e_Dm_tries2_269, e_Dm_tries2_270, e_Dm_tries2_271, e_Dm_tries2_272, e_Dm_tries2_273, e_Dm_tries2_274, e_Dm_tries2_276, e_Dm_tries2_278, e_Dm_tries2_280, e_Dm_tries2_283, e_Dm_tries2_286, bd_some, bd_none, Option.toList_some, Option.toList_none, List.nil_append, List.cons_append, px_kill_int, px_kill_long, px_kill_ref, px_kill_null, iI_lit, iJ_lit, iI_add, iI_sub, iI_mul, iI_neg, iJ_add, iJ_sub, iJ_mul, iJ_neg, iI_lt, iI_le, iI_eq, iJ_lt, iJ_le, iJ_eq, iI_div, iJ_div, tdiv_tmod, iI_J, iJ_I, iI_ix, iI_toInt, iJ_toInt, cmp_ge, cmp_lt, cmp_eq, cmp_gt, cmp_le, cmp_geI, cmp_ltI, cmp_eqI, cmp_gtI, cmp_leI, bI_0I, bI_1I, pin, if_true, Int.le_refl, sh_n71, n2]
    rw [← hT3]
    have e23 : (2 : Int) + 1 = 3 := by omega
    rw [e23, e4]
    simp (disch := first | omega | assumption | decide | (simp (disch := omega) only [iI_lit, iJ_lit, iJ_eq, iI_eq, bI_01, bI_01I] <;> omega)) only [e_Dm_tries2_263, e_Dm_tries2_264, e_Dm_tries2_265, e_Dm_tries2_267, e_Dm_tries2_268, e_Dm_tries2_269, e_Dm_tries2_270, e_Dm_tries2_271, e_Dm_tries2_272, e_Dm_tries2_273, e_Dm_tries2_274, e_Dm_tries2_276, e_Dm_tries2_278, e_Dm_tries2_280, e_Dm_tries2_283, e_Dm_tries2_286, bd_some, bd_none, Option.toList_some, Option.toList_none, List.nil_append, List.cons_append, px_kill_int, px_kill_long, px_kill_ref, px_kill_null, iI_lit, iJ_lit, iI_add, iI_sub, iI_mul, iI_neg, iJ_add, iJ_sub, iJ_mul, iJ_neg, iI_lt, iI_le, iI_eq, iJ_lt, iJ_le, iJ_eq, iI_div, iJ_div, tdiv_tmod, iI_J, iJ_I, iI_ix, iI_toInt, iJ_toInt, cmp_ge, cmp_lt, cmp_eq, cmp_gt, cmp_le, cmp_geI, cmp_ltI, cmp_eqI, cmp_gtI, cmp_leI, bI_0I, bI_1I, pin, if_true]
    rw [show (k : Int) + 1 = ((k + 1 : Nat) : Int) by omega]
    exact e5
set_option maxHeartbeats 1000000 in
theorem lv2 {l : List (Nat × Nat)} (hl : okQ l) (hlen : l.length ≤ 20) {n m : Int} (hnn : n = 2 ∨ n = 3) (hm : m = 0 ∨ m = 1) {i j : Nat} (hij : i < j) (hj : j < l.length) {b : CB} {T : TS} (hT : hTl T l) (r0 : T.1 71 0 = iI (i : Int)) (r1 : T.1 71 1 = iI (j : Int)) (hb : okD l b) (hB : hBm T n l b) : ∃ T', cl k_Dm_tries2 [.ref 53, .ref 71, .int (iI 2), .int (iI n), .long (iJ (zU l (i, j))), .long (iJ (zL l (i, j))), .int (iI m)] (enc T) = some (none, enc T') ∧ FrA (aTr 2) bTr T T' ∧ hBm T' n l (c3S n m l b i j) := by
  rcases hnn with hnn | hnn
  · subst hnn
    obtain ⟨T', e, fr, h⟩ := leaf2 hl hlen hm hb hB (c := (i, j)) ⟨hij, hj⟩ (i := i) (j := j) (k := j) r0 r1 (fun z => by omega)
    have eS : c3S 2 m l b i j = pps m l b (i, j) (i, j, j) := if_pos rfl
    rw [eS]
    exact ⟨T', e, fr.mono (fun q k z => by unfold aTr at *; omega) (fun q k z => z), h⟩
  · subst hnn
    obtain ⟨T', e, fr, h⟩ := lp_t2 hl hlen hm hij (l.length - (j + 1)) (j + 1) b T (by omega) (by omega) hT r0 r1 hb hB .null .null .null .null .null .null
    have n32 : ¬ (3 : Int) = 2 := by omega
    have n23 : ¬ (2 : Int) = 3 := by omega
    have n20 : ¬ (2 : Int) = 0 := by omega
    have e21 : (2 : Int) - 1 = 1 := by omega
    have n1 : (1 : Int).toNat = 1 := rfl
    have eS : c3S 3 m l b i j = c3T m l i j b (j + 1) (l.length - (j + 1)) := if_neg n32
    rw [eS]
    refine ⟨T', ?_, fr, h⟩
    simp (disch := first | omega | assumption | decide | (simp (disch := omega) only [iI_lit, iJ_lit, iJ_eq, iI_eq, bI_01, bI_01I] <;> omega)) only [c_Dm_tries2, e_Dm_tries2_0, e_Dm_tries2_1, e_Dm_tries2_2, e_Dm_tries2_112, e_Dm_tries2_113, e_Dm_tries2_116, e_Dm_tries2_117, e_Dm_tries2_120, e_Dm_tries2_121, e_Dm_tries2_122, e_Dm_tries2_123, e_Dm_tries2_124, e_Dm_tries2_125, e_Dm_tries2_126, e_Dm_tries2_127, bd_some, bd_none, Option.toList_some, Option.toList_none, List.nil_append, List.cons_append, px_kill_int, px_kill_long, px_kill_ref, px_kill_null, iI_lit, iJ_lit, iI_add, iI_sub, iI_mul, iI_neg, iJ_add, iJ_sub, iJ_mul, iJ_neg, iI_lt, iI_le, iI_eq, iJ_lt, iJ_le, iJ_eq, iI_div, iJ_div, tdiv_tmod, iI_J, iJ_I, iI_ix, iI_toInt, iJ_toInt, cmp_ge, cmp_lt, cmp_eq, cmp_gt, cmp_le, cmp_geI, cmp_ltI, cmp_eqI, cmp_gtI, cmp_leI, bI_0I, bI_1I, pin, if_true, n23, n20, if_false, sh_n71, e21, n1, r1]
    rw [show (j : Int) + 1 = ((j + 1 : Nat) : Int) by omega]
    exact e
set_option maxHeartbeats 4000000 in
theorem lp_t1 {l : List (Nat × Nat)} (hl : okQ l) (hlen : l.length ≤ 20) {n m : Int} (hnn : n = 2 ∨ n = 3) (hm : m = 0 ∨ m = 1) {i : Nat} : ∀ (t j : Nat) (b : CB) (T : TS), i < j → j + t = l.length → hTl T l → T.1 71 0 = iI (i : Int) → okD l b → hBm T n l b → ∀ a10 a11 a12 a13 a14 a15 : Value, ∃ T', rn k_Dm_tries1 129 [.ref 53, .ref 71, .int (iI 1), .int (iI n), .long (iJ (-1)), .null, .long (iJ 1), .null, .int (iI m), .int (iI (j : Int)), a10, a11, a12, a13, a14, a15] [] (enc T) = some (none, enc T') ∧ FrA (aTr 1) bTr T T' ∧ hBm T' n l (c3R n m l i b j t) := by
  intro t
  induction t with
  | zero =>
    intro j b T hij hj hT r0 hb hB a10 a11 a12 a13 a14 a15
    have ek : (j : Int) = (l.length : Int) := by omega
    have hn := hT.2
    refine ⟨T, ?_, FrA.rf _ _ _, hB⟩
    rw [ek, e_Dm_tries1_129]
    simp (disch := first | omega | assumption | decide | (simp (disch := omega) only [iI_lit, iJ_lit, iJ_eq, iI_eq, bI_01, bI_01I] <;> omega)) only [e_Dm_tries1_131, e_Dm_tries1_132, e_Dm_tries1_135, e_Dm_tries1_138, e_Dm_tries1_140, e_Dm_tries1_142, e_Dm_tries1_144, e_Dm_tries1_146, e_Dm_tries1_147, e_Dm_tries1_289, bd_some, bd_none, Option.toList_some, Option.toList_none, List.nil_append, List.cons_append, px_kill_int, px_kill_long, px_kill_ref, px_kill_null, iI_lit, iJ_lit, iI_add, iI_sub, iI_mul, iI_neg, iJ_add, iJ_sub, iJ_mul, iJ_neg, iI_lt, iI_le, iI_eq, iJ_lt, iJ_le, iJ_eq, iI_div, iJ_div, tdiv_tmod, iI_J, iJ_I, iI_ix, iI_toInt, iJ_toInt, cmp_ge, cmp_lt, cmp_eq, cmp_gt, cmp_le, cmp_geI, cmp_ltI, cmp_eqI, cmp_gtI, cmp_leI, bI_0I, bI_1I, pin, if_true, hn, Int.le_refl]
  | succ t ih =>
    intro j b T hij hj hT r0 hb hB a10 a11 a12 a13 a14 a15
    have hn := hT.2
    have nle : ¬ (l.length : Int) ≤ (j : Int) := by omega
    obtain ⟨T1, e1, fr1, hu, hlo⟩ := m_laysFar hl hlen hT (a := i) (b := j) (by omega) (by omega)
    have fr1' : FrA (aTr 1) bTr T T1 := fr1.mono (fun q k z => aMb_tr z) (fun q k z => bLf_tr z)
    obtain ⟨T3, hT3⟩ : ∃ T3, T3 = sI T1 71 1 (iI (j : Int)) := ⟨_, rfl⟩
    have fr3 : FrA (aTr 1) bTr T1 T3 := by rw [hT3]; exact (FrA.rf (aTr 1) bTr T1).wr _ (by unfold aTr; omega)
    have hB3 : hBm T3 n l b := by
      rw [hT3]
      exact (hB.lf fr1).fr (by simp only [sI_get, sJ_get, sI_2, sJ_1, sJ_22, sR_1, sR_21, Nat.reduceEqDiff, and_true, true_and, and_false, false_and, and_self, if_true, if_false, reduceIte]) (fun k => by simp only [sI_get, sJ_get, sI_2, sJ_1, sJ_22, sR_1, sR_21, Nat.reduceEqDiff, and_true, true_and, and_false, false_and, and_self, if_true, if_false, reduceIte]) rfl rfl
    have q0 : T3.1 71 0 = iI (i : Int) := by rw [hT3]; simp only [sI_get, sJ_get, sI_2, sJ_1, sJ_22, sR_1, sR_21, Nat.reduceEqDiff, and_true, true_and, and_false, false_and, and_self, if_true, if_false, reduceIte]; rw [fr1.1 _ _ (by unfold aMb; omega)]; exact r0
    have q1 : T3.1 71 1 = iI (j : Int) := by rw [hT3]; simp only [sI_get, sJ_get, sI_2, sJ_1, sJ_22, sR_1, sR_21, Nat.reduceEqDiff, and_true, true_and, and_false, false_and, and_self, if_true, if_false, reduceIte]
    have hT3' := hT.tr (fr1'.tr fr3)
    obtain ⟨T4, e4, fr4, hB4⟩ := lv2 hl hlen hnn hm hij (show j < l.length by omega) hT3' q0 q1 hb hB3
    have fr4' : FrA (aTr 1) bTr T3 T4 := fr4.mono (fun q k z => by unfold aTr at *; omega) (fun q k z => z)
    have frA := (fr1'.tr fr3).tr fr4'
    have uu : ∃ b15 : Value, rn k_Dm_tries1 129 [.ref 53, .ref 71, .int (iI 1), .int (iI n), .long (iJ (-1)), .null, .long (iJ 1), .null, .int (iI m), .int (iI (j : Int)), a10, a11, a12, a13, a14, a15] [] (enc T) = rn k_Dm_tries1 149 (lT 1 n (iJ (-1)) (iJ 1) m (j : Int) (.long (iJ (zU l (i, j)))) (.long (iJ (zL l (i, j)))) (.int (iI 1)) b15) [] (enc T1) := by
      refine ⟨.int (iI 1), ?_⟩
      have e9 : (-1 : Int64) = iJ (-1) := by decide
      have n01 : ¬ (1 : Int) ≤ 0 := by omega
      have n0 : (0 : Int).toNat = 0 := rfl
      rw [e_Dm_tries1_129]
      simp (disch := first | omega | assumption | decide | (simp (disch := omega) only [iI_lit, iJ_lit, iJ_eq, iI_eq, bI_01, bI_01I] <;> omega)) only [e_Dm_tries1_131, e_Dm_tries1_132, e_Dm_tries1_135, e_Dm_tries1_138, e_Dm_tries1_140, e_Dm_tries1_142, e_Dm_tries1_144, e_Dm_tries1_146, e_Dm_tries1_147, bd_some, bd_none, Option.toList_some, Option.toList_none, List.nil_append, List.cons_append, px_kill_int, px_kill_long, px_kill_ref, px_kill_null, iI_lit, iJ_lit, iI_add, iI_sub, iI_mul, iI_neg, iJ_add, iJ_sub, iJ_mul, iJ_neg, iI_lt, iI_le, iI_eq, iJ_lt, iJ_le, iJ_eq, iI_div, iJ_div, tdiv_tmod, iI_J, iJ_I, iI_ix, iI_toInt, iJ_toInt, cmp_ge, cmp_lt, cmp_eq, cmp_gt, cmp_le, cmp_geI, cmp_ltI, cmp_eqI, cmp_gtI, cmp_leI, bI_0I, bI_1I, pin, if_true, hn, nle, if_false]
      rw [e_Dm_tries1_149]
      simp (disch := first | omega | assumption | decide | (simp (disch := omega) only [iI_lit, iJ_lit, iJ_eq, iI_eq, bI_01, bI_01I] <;> omega)) only [e_Dm_tries1_151, e_Dm_tries1_152, e_Dm_tries1_155, e_Dm_tries1_156, e_Dm_tries1_157, e_Dm_tries1_159, e_Dm_tries1_160, e_Dm_tries1_162, e_Dm_tries1_165, e_Dm_tries1_167, e_Dm_tries1_170, e_Dm_tries1_171, e_Dm_tries1_174, e_Dm_tries1_176, e_Dm_tries1_179, e_Dm_tries1_180, e_Dm_tries1_183, e_Dm_tries1_185, e_Dm_tries1_186, e_Dm_tries1_188, e_Dm_tries1_189, e_Dm_tries1_192, e_Dm_tries1_193, e_Dm_tries1_194, e_Dm_tries1_197, e_Dm_tries1_200, e_Dm_tries1_201, e_Dm_tries1_204, e_Dm_tries1_206, e_Dm_tries1_207, e_Dm_tries1_209, e_Dm_tries1_210, e_Dm_tries1_213, e_Dm_tries1_214, e_Dm_tries1_215, e_Dm_tries1_218, e_Dm_tries1_219, e_Dm_tries1_222, e_Dm_tries1_223, e_Dm_tries1_225, e_Dm_tries1_227, e_Dm_tries1_230, e_Dm_tries1_231, e_Dm_tries1_234, e_Dm_tries1_237, e_Dm_tries1_239, e_Dm_tries1_241, e_Dm_tries1_243, e_Dm_tries1_246, e_Dm_tries1_247, e_Dm_tries1_250, e_Dm_tries1_253, e_Dm_tries1_255, e_Dm_tries1_257, e_Dm_tries1_260, bd_some, bd_none, Option.toList_some, Option.toList_none, List.nil_append, List.cons_append, px_kill_int, px_kill_long, px_kill_ref, px_kill_null, iI_lit, iJ_lit, iI_add, iI_sub, iI_mul, iI_neg, iJ_add, iJ_sub, iJ_mul, iJ_neg, iI_lt, iI_le, iI_eq, iJ_lt, iJ_le, iJ_eq, iI_div, iJ_div, tdiv_tmod, iI_J, iJ_I, iI_ix, iI_toInt, iJ_toInt, cmp_ge, cmp_lt, cmp_eq, cmp_gt, cmp_le, cmp_geI, cmp_ltI, cmp_eqI, cmp_gtI, cmp_leI, bI_0I, bI_1I, pin, if_true, n01, if_false, sh_n71, n0, r0, e1, e9, hu, hlo, one0, Int.zero_add]
    obtain ⟨b15, pre⟩ := uu
    obtain ⟨T5, e5, fr5, hB5⟩ := ih (j + 1) (c3S n m l b i j) T4 (by omega) (by omega) (hT.tr frA) (by rw [frA.1 _ _ (by unfold aTr; omega)]; exact r0) (c3S_okD hij (by omega) hb) hB4 (.long (iJ (zU l (i, j)))) .null (.long (iJ (zL l (i, j)))) .null (.int (iI 1)) b15
    refine ⟨T5, ?_, frA.tr fr5, hB5⟩
    have n1 : (1 : Int).toNat = 1 := rfl
    rw [pre, e_Dm_tries1_149]
    simp (disch := first | omega | assumption | decide | (simp (disch := omega) only [iI_lit, iJ_lit, iJ_eq, iI_eq, bI_01, bI_01I] <;> omega)) only [e_Dm_tries1_151, e_Dm_tries1_152, e_Dm_tries1_263, e_Dm_tries1_264, e_Dm_tries1_265, e_Dm_tries1_267, e_Dm_tries1_268, e_Dm_tries1_269, e_Dm_tries1_270, e_Dm_tries1_271, e_Dm_tries1_272, e_Dm_tries1_273, e_Dm_tries1_274, e_Dm_tries1_276, e_Dm_tries1_278, e_Dm_tries1_280, e_Dm_tries1_283, e_Dm_tries1_286, bd_some, bd_none, Option.toList_some, Option.toList_none, List.nil_append, List.cons_append, px_kill_int, px_kill_long, px_kill_ref, px_kill_null, iI_lit, iJ_lit, iI_add, iI_sub, iI_mul, iI_neg, iJ_add, iJ_sub, iJ_mul, iJ_neg, iI_lt, iI_le, iI_eq, iJ_lt, iJ_le, iJ_eq, iI_div, iJ_div, tdiv_tmod, iI_J, iJ_I, iI_ix, iI_toInt, iJ_toInt, cmp_ge, cmp_lt, cmp_eq, cmp_gt, cmp_le, cmp_geI, cmp_ltI, cmp_eqI, cmp_gtI, cmp_leI, bI_0I, bI_1I, pin, if_true, Int.le_refl, sh_n71, n1]
    rw [← hT3]
    have e23 : (1 : Int) + 1 = 2 := by omega
    rw [e23, e4]
    simp (disch := first | omega | assumption | decide | (simp (disch := omega) only [iI_lit, iJ_lit, iJ_eq, iI_eq, bI_01, bI_01I] <;> omega)) only [e_Dm_tries1_263, e_Dm_tries1_264, e_Dm_tries1_265, e_Dm_tries1_267, e_Dm_tries1_268, e_Dm_tries1_269, e_Dm_tries1_270, e_Dm_tries1_271, e_Dm_tries1_272, e_Dm_tries1_273, e_Dm_tries1_274, e_Dm_tries1_276, e_Dm_tries1_278, e_Dm_tries1_280, e_Dm_tries1_283, e_Dm_tries1_286, bd_some, bd_none, Option.toList_some, Option.toList_none, List.nil_append, List.cons_append, px_kill_int, px_kill_long, px_kill_ref, px_kill_null, iI_lit, iJ_lit, iI_add, iI_sub, iI_mul, iI_neg, iJ_add, iJ_sub, iJ_mul, iJ_neg, iI_lt, iI_le, iI_eq, iJ_lt, iJ_le, iJ_eq, iI_div, iJ_div, tdiv_tmod, iI_J, iJ_I, iI_ix, iI_toInt, iJ_toInt, cmp_ge, cmp_lt, cmp_eq, cmp_gt, cmp_le, cmp_geI, cmp_ltI, cmp_eqI, cmp_gtI, cmp_leI, bI_0I, bI_1I, pin, if_true]
    rw [show (j : Int) + 1 = ((j + 1 : Nat) : Int) by omega]
    exact e5
set_option maxHeartbeats 1000000 in
theorem lv1 {l : List (Nat × Nat)} (hl : okQ l) (hlen : l.length ≤ 20) {n m : Int} (hnn : n = 2 ∨ n = 3) (hm : m = 0 ∨ m = 1) {i : Nat} (hi : i < l.length) {b : CB} {T : TS} (hT : hTl T l) (r0 : T.1 71 0 = iI (i : Int)) (hb : okD l b) (hB : hBm T n l b) : ∃ T', cl k_Dm_tries1 [.ref 53, .ref 71, .int (iI 1), .int (iI n), .long (iJ (-1)), .long (iJ 1), .int (iI m)] (enc T) = some (none, enc T') ∧ FrA (aTr 1) bTr T T' ∧ hBm T' n l (c3R n m l i b (i + 1) (l.length - (i + 1))) := by
  obtain ⟨T', e, fr, h⟩ := lp_t1 hl hlen hnn hm (l.length - (i + 1)) (i + 1) b T (by omega) (by omega) hT r0 hb hB .null .null .null .null .null .null
  refine ⟨T', ?_, fr, h⟩
  have n1n : ¬ (1 : Int) = n := by omega
  have e10 : (1 : Int) - 1 = 0 := by omega
  have n0 : (0 : Int).toNat = 0 := rfl
  simp (disch := first | omega | assumption | decide | (simp (disch := omega) only [iI_lit, iJ_lit, iJ_eq, iI_eq, bI_01, bI_01I] <;> omega)) only [c_Dm_tries1, e_Dm_tries1_0, e_Dm_tries1_1, e_Dm_tries1_2, e_Dm_tries1_112, e_Dm_tries1_113, e_Dm_tries1_116, e_Dm_tries1_117, e_Dm_tries1_120, e_Dm_tries1_121, e_Dm_tries1_122, e_Dm_tries1_123, e_Dm_tries1_124, e_Dm_tries1_125, e_Dm_tries1_126, e_Dm_tries1_127, bd_some, bd_none, Option.toList_some, Option.toList_none, List.nil_append, List.cons_append, px_kill_int, px_kill_long, px_kill_ref, px_kill_null, iI_lit, iJ_lit, iI_add, iI_sub, iI_mul, iI_neg, iJ_add, iJ_sub, iJ_mul, iJ_neg, iI_lt, iI_le, iI_eq, iJ_lt, iJ_le, iJ_eq, iI_div, iJ_div, tdiv_tmod, iI_J, iJ_I, iI_ix, iI_toInt, iJ_toInt, cmp_ge, cmp_lt, cmp_eq, cmp_gt, cmp_le, cmp_geI, cmp_ltI, cmp_eqI, cmp_gtI, cmp_leI, bI_0I, bI_1I, pin, if_true, n1n, one0, if_false, sh_n71, e10, n0, r0]
  rw [show (i : Int) + 1 = ((i + 1 : Nat) : Int) by omega]
  exact e
set_option maxHeartbeats 4000000 in
theorem lp_t0 {l : List (Nat × Nat)} (hl : okQ l) (hlen : l.length ≤ 20) {n m : Int} (hnn : n = 2 ∨ n = 3) (hm : m = 0 ∨ m = 1) : ∀ (t i : Nat) (b : CB) (T : TS), i + t = l.length → hTl T l → okD l b → hBm T n l b → ∀ a10 a11 a12 a13 a14 a15 : Value, ∃ T', rn k_Dm_tries 129 [.ref 53, .ref 71, .int (iI 0), .int (iI n), .long (iJ (-1)), .null, .long (iJ 1), .null, .int (iI m), .int (iI (i : Int)), a10, a11, a12, a13, a14, a15] [] (enc T) = some (none, enc T') ∧ FrA (aTr 0) bTr T T' ∧ hBm T' n l (c3A n m l b i t) := by
  intro t
  induction t with
  | zero =>
    intro i b T hi hT hb hB a10 a11 a12 a13 a14 a15
    have ek : (i : Int) = (l.length : Int) := by omega
    have hn := hT.2
    refine ⟨T, ?_, FrA.rf _ _ _, hB⟩
    rw [ek, e_Dm_tries_129]
    simp (disch := first | omega | assumption | decide | (simp (disch := omega) only [iI_lit, iJ_lit, iJ_eq, iI_eq, bI_01, bI_01I] <;> omega)) only [e_Dm_tries_131, e_Dm_tries_132, e_Dm_tries_135, e_Dm_tries_138, e_Dm_tries_140, e_Dm_tries_142, e_Dm_tries_144, e_Dm_tries_146, e_Dm_tries_147, e_Dm_tries_289, bd_some, bd_none, Option.toList_some, Option.toList_none, List.nil_append, List.cons_append, px_kill_int, px_kill_long, px_kill_ref, px_kill_null, iI_lit, iJ_lit, iI_add, iI_sub, iI_mul, iI_neg, iJ_add, iJ_sub, iJ_mul, iJ_neg, iI_lt, iI_le, iI_eq, iJ_lt, iJ_le, iJ_eq, iI_div, iJ_div, tdiv_tmod, iI_J, iJ_I, iI_ix, iI_toInt, iJ_toInt, cmp_ge, cmp_lt, cmp_eq, cmp_gt, cmp_le, cmp_geI, cmp_ltI, cmp_eqI, cmp_gtI, cmp_leI, bI_0I, bI_1I, pin, if_true, hn, Int.le_refl]
  | succ t ih =>
    intro i b T hi hT hb hB a10 a11 a12 a13 a14 a15
    have hn := hT.2
    have nle : ¬ (l.length : Int) ≤ (i : Int) := by omega
    obtain ⟨T3, hT3⟩ : ∃ T3, T3 = sI T 71 0 (iI (i : Int)) := ⟨_, rfl⟩
    have fr3 : FrA (aTr 0) bTr T T3 := by rw [hT3]; exact (FrA.rf (aTr 0) bTr T).wr _ (by unfold aTr; omega)
    have hB3 : hBm T3 n l b := by
      rw [hT3]
      exact hB.fr (by simp only [sI_get, sJ_get, sI_2, sJ_1, sJ_22, sR_1, sR_21, Nat.reduceEqDiff, and_true, true_and, and_false, false_and, and_self, if_true, if_false, reduceIte]) (fun k => by simp only [sI_get, sJ_get, sI_2, sJ_1, sJ_22, sR_1, sR_21, Nat.reduceEqDiff, and_true, true_and, and_false, false_and, and_self, if_true, if_false, reduceIte]) rfl rfl
    have q0 : T3.1 71 0 = iI (i : Int) := by rw [hT3]; simp only [sI_get, sJ_get, sI_2, sJ_1, sJ_22, sR_1, sR_21, Nat.reduceEqDiff, and_true, true_and, and_false, false_and, and_self, if_true, if_false, reduceIte]
    obtain ⟨T4, e4, fr4, hB4⟩ := lv1 hl hlen hnn hm (show i < l.length by omega) (hT.tr fr3) q0 hb hB3
    have fr4' : FrA (aTr 0) bTr T3 T4 := fr4.mono (fun q k z => by unfold aTr at *; omega) (fun q k z => z)
    have frA := fr3.tr fr4'
    obtain ⟨T5, e5, fr5, hB5⟩ := ih (i + 1) (c3R n m l i b (i + 1) (l.length - (i + 1))) T4 (by omega) (hT.tr frA) (c3R_okD _ _ _ (by omega) (by omega) hb) hB4 (.long (iJ (-1))) .null (.long (iJ 1)) .null (.int (iI 0)) a15
    refine ⟨T5, ?_, frA.tr fr5, hB5⟩
    have n0 : (0 : Int).toNat = 0 := rfl
    rw [e_Dm_tries_129]
    simp (disch := first | omega | assumption | decide | (simp (disch := omega) only [iI_lit, iJ_lit, iJ_eq, iI_eq, bI_01, bI_01I] <;> omega)) only [e_Dm_tries_131, e_Dm_tries_132, e_Dm_tries_135, e_Dm_tries_138, e_Dm_tries_140, e_Dm_tries_142, e_Dm_tries_144, e_Dm_tries_146, e_Dm_tries_147, bd_some, bd_none, Option.toList_some, Option.toList_none, List.nil_append, List.cons_append, px_kill_int, px_kill_long, px_kill_ref, px_kill_null, iI_lit, iJ_lit, iI_add, iI_sub, iI_mul, iI_neg, iJ_add, iJ_sub, iJ_mul, iJ_neg, iI_lt, iI_le, iI_eq, iJ_lt, iJ_le, iJ_eq, iI_div, iJ_div, tdiv_tmod, iI_J, iJ_I, iI_ix, iI_toInt, iJ_toInt, cmp_ge, cmp_lt, cmp_eq, cmp_gt, cmp_le, cmp_geI, cmp_ltI, cmp_eqI, cmp_gtI, cmp_leI, bI_0I, bI_1I, pin, if_true, hn, nle, if_false]
    rw [e_Dm_tries_149]
    simp (disch := first | omega | assumption | decide | (simp (disch := omega) only [iI_lit, iJ_lit, iJ_eq, iI_eq, bI_01, bI_01I] <;> omega)) only [e_Dm_tries_151, e_Dm_tries_152, e_Dm_tries_263, e_Dm_tries_264, e_Dm_tries_265, e_Dm_tries_267, e_Dm_tries_268, e_Dm_tries_269, e_Dm_tries_270, e_Dm_tries_271, e_Dm_tries_272, e_Dm_tries_273, e_Dm_tries_274, e_Dm_tries_276, e_Dm_tries_278, e_Dm_tries_280, e_Dm_tries_283, e_Dm_tries_286, bd_some, bd_none, Option.toList_some, Option.toList_none, List.nil_append, List.cons_append, px_kill_int, px_kill_long, px_kill_ref, px_kill_null, iI_lit, iJ_lit, iI_add, iI_sub, iI_mul, iI_neg, iJ_add, iJ_sub, iJ_mul, iJ_neg, iI_lt, iI_le, iI_eq, iJ_lt, iJ_le, iJ_eq, iI_div, iJ_div, tdiv_tmod, iI_J, iJ_I, iI_ix, iI_toInt, iJ_toInt, cmp_ge, cmp_lt, cmp_eq, cmp_gt, cmp_le, cmp_geI, cmp_ltI, cmp_eqI, cmp_gtI, cmp_leI, bI_0I, bI_1I, pin, if_true, Int.le_refl, sh_n71, n0, Int.zero_add]
    rw [← hT3, e4]
    simp (disch := first | omega | assumption | decide | (simp (disch := omega) only [iI_lit, iJ_lit, iJ_eq, iI_eq, bI_01, bI_01I] <;> omega)) only [e_Dm_tries_263, e_Dm_tries_264, e_Dm_tries_265, e_Dm_tries_267, e_Dm_tries_268, e_Dm_tries_269, e_Dm_tries_270, e_Dm_tries_271, e_Dm_tries_272, e_Dm_tries_273, e_Dm_tries_274, e_Dm_tries_276, e_Dm_tries_278, e_Dm_tries_280, e_Dm_tries_283, e_Dm_tries_286, bd_some, bd_none, Option.toList_some, Option.toList_none, List.nil_append, List.cons_append, px_kill_int, px_kill_long, px_kill_ref, px_kill_null, iI_lit, iJ_lit, iI_add, iI_sub, iI_mul, iI_neg, iJ_add, iJ_sub, iJ_mul, iJ_neg, iI_lt, iI_le, iI_eq, iJ_lt, iJ_le, iJ_eq, iI_div, iJ_div, tdiv_tmod, iI_J, iJ_I, iI_ix, iI_toInt, iJ_toInt, cmp_ge, cmp_lt, cmp_eq, cmp_gt, cmp_le, cmp_geI, cmp_ltI, cmp_eqI, cmp_gtI, cmp_leI, bI_0I, bI_1I, pin, if_true]
    rw [show (i : Int) + 1 = ((i + 1 : Nat) : Int) by omega]
    exact e5
set_option maxHeartbeats 1000000 in
theorem lv0 {l : List (Nat × Nat)} (hl : okQ l) (hlen : l.length ≤ 20) {n m : Int} (hnn : n = 2 ∨ n = 3) (hm : m = 0 ∨ m = 1) {T : TS} (hT : hTl T l) (hB : hBm T n l none) : ∃ T', cl k_Dm_tries [.ref 53, .ref 71, .int (iI 0), .int (iI n), .long (iJ (-1)), .long (iJ 1), .int (iI m)] (enc T) = some (none, enc T') ∧ FrA (aTr 0) bTr T T' ∧ hBm T' n l (c3A n m l none 0 l.length) := by
  obtain ⟨T', e, fr, h⟩ := lp_t0 hl hlen hnn hm l.length 0 none T (by omega) hT (fun x z => by cases z) hB .null .null .null .null .null .null
  refine ⟨T', ?_, fr, h⟩
  have n0n : ¬ (0 : Int) = n := by omega
  simp (disch := first | omega | assumption | decide | (simp (disch := omega) only [iI_lit, iJ_lit, iJ_eq, iI_eq, bI_01, bI_01I] <;> omega)) only [c_Dm_tries, e_Dm_tries_0, e_Dm_tries_1, e_Dm_tries_2, e_Dm_tries_112, e_Dm_tries_113, e_Dm_tries_116, e_Dm_tries_117, e_Dm_tries_120, e_Dm_tries_121, e_Dm_tries_122, e_Dm_tries_123, e_Dm_tries_124, e_Dm_tries_125, e_Dm_tries_126, e_Dm_tries_127, bd_some, bd_none, Option.toList_some, Option.toList_none, List.nil_append, List.cons_append, px_kill_int, px_kill_long, px_kill_ref, px_kill_null, iI_lit, iJ_lit, iI_add, iI_sub, iI_mul, iI_neg, iJ_add, iJ_sub, iJ_mul, iJ_neg, iI_lt, iI_le, iI_eq, iJ_lt, iJ_le, iJ_eq, iI_div, iJ_div, tdiv_tmod, iI_J, iJ_I, iI_ix, iI_toInt, iJ_toInt, cmp_ge, cmp_lt, cmp_eq, cmp_gt, cmp_le, cmp_geI, cmp_ltI, cmp_eqI, cmp_gtI, cmp_leI, bI_0I, bI_1I, pin, if_true, n0n, if_false]
  exact e
