/-! bestTurn of the reference. -/
theorem hSq.fr {T T' : TS} {p q : Nat} {l : List (Nat × Nat)} (h : hSq T p q l) (hp : ∀ k, T'.1 p k = T.1 p k) (hq : ∀ k, T'.1 q k = T.1 q k) : hSq T' p q l := fun k hk => by rw [hp, hq]; exact h k hk
abbrev lMT (i w f u l s nu nl o : Value) (a14 a15 a16 a17 a18 : Value) : List Value := [.ref 53, i, w, f, u, .null, l, .null, s, nu, .null, nl, .null, o, a14, a15, a16, a17, a18]
theorem cel_sq {V : VW} (hV : okV V) {q : Nat × Nat} {i o : Nat} (_hi : i < V.1) (_ho : o < V.1) (he : ((q.1 * q.1 + q.2 * q.2 : Nat) : Int) = celN (V.2 i)) : (celN (V.2 i) * celN (V.2 o)) * (celN (V.2 i) * celN (V.2 o)) = sU V q o := by
  unfold sU btU
  rw [sqF_area, he]
  have e : celN (V.2 o) = ((V.2 o 0 * V.2 o 3 - V.2 o 1 * V.2 o 2).natAbs : Int) := rfl
  rw [e]
  generalize V.2 o 0 * V.2 o 3 - V.2 o 1 * V.2 o 2 = z
  generalize celN (V.2 i) = c
  have hz : (z.natAbs : Int) * (z.natAbs : Int) = z * z := Int.natAbs_mul_self' z
  have e1 : c * (z.natAbs : Int) * (c * (z.natAbs : Int)) = c * c * ((z.natAbs : Int) * (z.natAbs : Int)) := by grind
  have e2 : c * z * (c * z) = c * c * (z * z) := by grind
  rw [e1, e2, hz]
set_option maxHeartbeats 4000000 in
theorem lp_mlf {V : VW} (hV : okV V) {l : List (Nat × Nat)} {s : Nat} (hsl : s < l.length) (hlen : l.length ≤ 20) {q : Nat × Nat} (hqe : l.getD s (0, 0) = q) (hq : isQd q) {i : Nat} (hi : i < V.1) (he : ((q.1 * q.1 + q.2 * q.2 : Nat) : Int) = celN (V.2 i)) (w f : Int32) (u0 l0 : Int64) : ∀ (t o : Nat) (b : Option Nat) (T : TS), o + t = V.1 → okO V b → cM T V → hSq T 68 69 l → ∀ a14 a15 a16 a17 a18 : Value, ∃ (T' : TS) (b14 b15 b16 b17 b18 : Value), rn k_Dm_bestTurn 76 (lMT (.int (iI (i : Int))) (.int w) (.int f) (.long u0) (.long l0) (.int (iI (s : Int))) (.long (iJ (luM V q b))) (.long (iJ (llM V q b))) (.int (iI (o : Int))) a14 a15 a16 a17 a18) [] (enc T) = rn k_Dm_bestTurn 249 (lMT (.int (iI (i : Int))) (.int w) (.int f) (.long u0) (.long l0) (.int (iI (s : Int))) (.long (iJ (luM V q (lfA V i q b o t)))) (.long (iJ (llM V q (lfA V i q b o t)))) (.int (iI (V.1 : Int))) b14 b15 b16 b17 b18) [] (enc T') ∧ FrA aMb bMb T T' := by
  intro t
  induction t with
  | zero =>
    intro o b T ho hb h hS a14 a15 a16 a17 a18
    have hh := h.1
    have h4 := hV.1
    have eo : (o : Int) = (V.1 : Int) := by omega
    refine ⟨T, a14, a15, a16, a17, a18, ?_, FrA.rf _ _ _⟩
    rw [eo, e_Dm_bestTurn_76]
    simp (disch := first | omega | assumption | decide | (simp (disch := omega) only [iI_lit, iJ_lit, iJ_eq, iI_eq, bI_01, bI_01I] <;> omega)) only [e_Dm_bestTurn_78, e_Dm_bestTurn_79, e_Dm_bestTurn_82, bd_some, bd_none, Option.toList_some, Option.toList_none, List.nil_append, List.cons_append, px_kill_int, px_kill_long, px_kill_ref, px_kill_null, iI_lit, iJ_lit, iI_add, iI_sub, iI_mul, iI_neg, iJ_add, iJ_sub, iJ_mul, iJ_neg, iI_lt, iI_le, iI_eq, iJ_lt, iJ_le, iJ_eq, iI_div, iJ_div, tdiv_tmod, iI_J, iJ_I, iI_ix, iI_toInt, iJ_toInt, cmp_ge, cmp_lt, cmp_eq, cmp_gt, cmp_le, cmp_geI, cmp_ltI, cmp_eqI, cmp_gtI, cmp_leI, bI_0I, bI_1I, pin, if_true, hh, Int.le_refl]
    rfl
  | succ t ih =>
    intro o b T ho hb h hS a14 a15 a16 a17 a18
    have hh := h.1
    have h4 := hV.1
    have ho' : o < V.1 := by omega
    have nle : ¬ (V.1 : Int) ≤ (o : Int) := by omega
    have fold : lfA V i q b o (t + 1) = lfA V i q (if o = i then b else if alS V q o = 1 then b else lfT V q b o) (o + 1) t := rfl
    rw [fold]
    by_cases eoi : o = i
    · rw [if_pos eoi]
      obtain ⟨T', b14, b15, b16, b17, b18, e, fr⟩ := ih (o + 1) b T (by omega) hb h hS a14 a15 a16 a17 a18
      refine ⟨T', b14, b15, b16, b17, b18, ?_, fr⟩
      rw [show ((o + 1 : Nat) : Int) = (o : Int) + 1 by omega] at e
      refine Eq.trans ?_ e
      subst eoi
      rw [e_Dm_bestTurn_76]
      simp (disch := first | omega | assumption | decide | (simp (disch := omega) only [iI_lit, iJ_lit, iJ_eq, iI_eq, bI_01, bI_01I] <;> omega)) only [e_Dm_bestTurn_78, e_Dm_bestTurn_79, e_Dm_bestTurn_82, e_Dm_bestTurn_85, e_Dm_bestTurn_87, e_Dm_bestTurn_88, e_Dm_bestTurn_91, e_Dm_bestTurn_92, e_Dm_bestTurn_93, e_Dm_bestTurn_96, e_Dm_bestTurn_98, e_Dm_bestTurn_99, e_Dm_bestTurn_100, e_Dm_bestTurn_103, e_Dm_bestTurn_105, e_Dm_bestTurn_106, e_Dm_bestTurn_107, e_Dm_bestTurn_110, e_Dm_bestTurn_112, e_Dm_bestTurn_113, e_Dm_bestTurn_114, e_Dm_bestTurn_115, e_Dm_bestTurn_118, e_Dm_bestTurn_120, e_Dm_bestTurn_121, e_Dm_bestTurn_122, e_Dm_bestTurn_124, e_Dm_bestTurn_125, e_Dm_bestTurn_128, e_Dm_bestTurn_129, e_Dm_bestTurn_131, e_Dm_bestTurn_132, e_Dm_bestTurn_135, e_Dm_bestTurn_136, e_Dm_bestTurn_138, e_Dm_bestTurn_139, e_Dm_bestTurn_142, e_Dm_bestTurn_143, e_Dm_bestTurn_145, e_Dm_bestTurn_146, e_Dm_bestTurn_149, e_Dm_bestTurn_152, e_Dm_bestTurn_153, e_Dm_bestTurn_154, e_Dm_bestTurn_157, e_Dm_bestTurn_158, e_Dm_bestTurn_159, e_Dm_bestTurn_161, e_Dm_bestTurn_164, e_Dm_bestTurn_165, e_Dm_bestTurn_166, e_Dm_bestTurn_168, e_Dm_bestTurn_169, e_Dm_bestTurn_172, e_Dm_bestTurn_173, e_Dm_bestTurn_176, e_Dm_bestTurn_179, e_Dm_bestTurn_181, e_Dm_bestTurn_182, e_Dm_bestTurn_185, e_Dm_bestTurn_188, e_Dm_bestTurn_190, e_Dm_bestTurn_192, e_Dm_bestTurn_193, e_Dm_bestTurn_195, e_Dm_bestTurn_196, e_Dm_bestTurn_198, e_Dm_bestTurn_200, e_Dm_bestTurn_201, e_Dm_bestTurn_202, e_Dm_bestTurn_205, e_Dm_bestTurn_206, e_Dm_bestTurn_209, e_Dm_bestTurn_210, e_Dm_bestTurn_212, e_Dm_bestTurn_214, e_Dm_bestTurn_217, e_Dm_bestTurn_219, e_Dm_bestTurn_221, e_Dm_bestTurn_222, e_Dm_bestTurn_225, e_Dm_bestTurn_227, e_Dm_bestTurn_229, e_Dm_bestTurn_231, e_Dm_bestTurn_234, e_Dm_bestTurn_236, e_Dm_bestTurn_239, e_Dm_bestTurn_241, e_Dm_bestTurn_243, e_Dm_bestTurn_246, bd_some, bd_none, Option.toList_some, Option.toList_none, List.nil_append, List.cons_append, px_kill_int, px_kill_long, px_kill_ref, px_kill_null, iI_lit, iJ_lit, iI_add, iI_sub, iI_mul, iI_neg, iJ_add, iJ_sub, iJ_mul, iJ_neg, iI_lt, iI_le, iI_eq, iJ_lt, iJ_le, iJ_eq, iI_div, iJ_div, tdiv_tmod, iI_J, iJ_I, iI_ix, iI_toInt, iJ_toInt, cmp_ge, cmp_lt, cmp_eq, cmp_gt, cmp_le, cmp_geI, cmp_ltI, cmp_eqI, cmp_gtI, cmp_leI, bI_0I, bI_1I, pin, if_true, hh, nle, if_false]
    · rw [if_neg eoi]
      have noi : ¬ (o : Int) = (i : Int) := by omega
      have hf := sqF_ok hq
      have hg := hV.2 o ho'
      obtain ⟨T1, e1, fr1, hb1⟩ := m_laysBeatF hf hg T
      have hM1 := h.fr (FrM.mb fr1)
      have c1 := m_cell hV hM1 hi
      have c2 := m_cell hV hM1 ho'
      have esq := m_beatL hf hg hb1 (enc T1)
      obtain ⟨q0, q1, q2, q3⟩ := h.of4 hV ho'
      obtain ⟨hA, hB⟩ := hS s hsl
      rw [hqe] at hA hB
      have f0 : sqF q 0 = (q.1 : Int) := rfl
      have f1 : sqF q 1 = (q.2 : Int) := rfl
      have f2 : sqF q 2 = -(q.2 : Int) := rfl
      have f3 : sqF q 3 = (q.1 : Int) := rfl
      rw [f0, f1, f2, f3] at e1
      have hS1 : hSq T1 68 69 l := hS.fr (fun k => fr1.1 _ _ (by unfold aMb; omega)) (fun k => fr1.1 _ _ (by unfold aMb; omega))
      have es : ((s : Int)).toNat = s := by omega
      have b1 := celN_bd (hV.2 i hi)
      have b2 := celN_bd hg
      have x0 := mul_bd2 (a := celN (V.2 i)) (b := celN (V.2 o)) (M := 144) (N := 144) (by omega) (by omega)
      have eU := cel_sq hV hi ho' he
      have hU := btU_bd hf hg
      have hL := btL_bd hf hg
      have F := lf_facts hV hq hb
      have x1 := mul_bd2 ⟨Int.le_of_lt hU.1, hU.2⟩ F.2.2.2.1
      have x2 := mul_bd2 ⟨Int.le_of_lt F.2.2.1.1, F.2.2.1.2⟩ ⟨Int.le_of_lt hL.1, hL.2⟩
      have eLL : btL (sqF q) (V.2 o) = sL V q o := rfl
      have eUU : btU (sqF q) (V.2 o) = sU V q o := rfl
      rw [eLL] at esq x2 hL
      rw [eUU] at x1 hU
      obtain ⟨_, _, _, _, b4⟩ := hb1
      have go : ∀ (al : Int) (ha : T1.1 53 39 = iI al), (al = 0 ∨ al = 1) → rn k_Dm_bestTurn 76 (lMT (.int (iI (i : Int))) (.int w) (.int f) (.long u0) (.long l0) (.int (iI (s : Int))) (.long (iJ (luM V q b))) (.long (iJ (llM V q b))) (.int (iI (o : Int))) a14 a15 a16 a17 a18) [] (enc T) = rn k_Dm_bestTurn 210 (lMT (.int (iI (i : Int))) (.int w) (.int f) (.long u0) (.long l0) (.int (iI (s : Int))) (.long (iJ (luM V q b))) (.long (iJ (llM V q b))) (.int (iI (o : Int))) (.long (iJ (celN (V.2 i) * celN (V.2 o)))) .null (.long (iJ (sL V q o))) .null a18) [.int (iI (if al = 0 ∧ sU V q o * llM V q b < luM V q b * sL V q o then 1 else 0))] (enc T1) := by
        intro al ha hal
        rw [e_Dm_bestTurn_76]
        rcases hal with z | z
        · subst z
          by_cases c : sU V q o * llM V q b < luM V q b * sL V q o
          · rw [if_pos ⟨rfl, c⟩]
            have c' : ¬ luM V q b * sL V q o ≤ sU V q o * llM V q b := by omega
            simp (disch := first | omega | assumption | decide | (simp (disch := omega) only [iI_lit, iJ_lit, iJ_eq, iI_eq, bI_01, bI_01I] <;> omega)) only [e_Dm_bestTurn_78, e_Dm_bestTurn_79, e_Dm_bestTurn_82, e_Dm_bestTurn_85, e_Dm_bestTurn_87, e_Dm_bestTurn_88, e_Dm_bestTurn_91, e_Dm_bestTurn_92, e_Dm_bestTurn_93, e_Dm_bestTurn_96, e_Dm_bestTurn_98, e_Dm_bestTurn_99, e_Dm_bestTurn_100, e_Dm_bestTurn_103, e_Dm_bestTurn_105, e_Dm_bestTurn_106, e_Dm_bestTurn_107, e_Dm_bestTurn_110, e_Dm_bestTurn_112, e_Dm_bestTurn_113, e_Dm_bestTurn_114, e_Dm_bestTurn_115, e_Dm_bestTurn_118, e_Dm_bestTurn_120, e_Dm_bestTurn_121, e_Dm_bestTurn_122, e_Dm_bestTurn_124, e_Dm_bestTurn_125, e_Dm_bestTurn_128, e_Dm_bestTurn_129, e_Dm_bestTurn_131, e_Dm_bestTurn_132, e_Dm_bestTurn_135, e_Dm_bestTurn_136, e_Dm_bestTurn_138, e_Dm_bestTurn_139, e_Dm_bestTurn_142, e_Dm_bestTurn_143, e_Dm_bestTurn_145, e_Dm_bestTurn_146, e_Dm_bestTurn_149, e_Dm_bestTurn_152, e_Dm_bestTurn_153, e_Dm_bestTurn_154, e_Dm_bestTurn_157, e_Dm_bestTurn_158, e_Dm_bestTurn_159, e_Dm_bestTurn_161, e_Dm_bestTurn_164, e_Dm_bestTurn_165, e_Dm_bestTurn_166, e_Dm_bestTurn_168, e_Dm_bestTurn_169, e_Dm_bestTurn_172, e_Dm_bestTurn_173, e_Dm_bestTurn_176, e_Dm_bestTurn_179, e_Dm_bestTurn_181, e_Dm_bestTurn_182, e_Dm_bestTurn_185, e_Dm_bestTurn_188, e_Dm_bestTurn_190, e_Dm_bestTurn_192, e_Dm_bestTurn_193, e_Dm_bestTurn_195, e_Dm_bestTurn_196, e_Dm_bestTurn_198, e_Dm_bestTurn_200, e_Dm_bestTurn_201, e_Dm_bestTurn_202, e_Dm_bestTurn_205, e_Dm_bestTurn_206, e_Dm_bestTurn_209, bd_some, bd_none, Option.toList_some, Option.toList_none, List.nil_append, List.cons_append, px_kill_int, px_kill_long, px_kill_ref, px_kill_null, iI_lit, iJ_lit, iI_add, iI_sub, iI_mul, iI_neg, iJ_add, iJ_sub, iJ_mul, iJ_neg, iI_lt, iI_le, iI_eq, iJ_lt, iJ_le, iJ_eq, iI_div, iJ_div, tdiv_tmod, iI_J, iJ_I, iI_ix, iI_toInt, iJ_toInt, cmp_ge, cmp_lt, cmp_eq, cmp_gt, cmp_le, cmp_geI, cmp_ltI, cmp_eqI, cmp_gtI, cmp_leI, bI_0I, bI_1I, pin, if_true, hh, nle, noi, if_false, sh_n68, sh_n69, es, hA, hB, q0, q1, q2, q3, e1, c1, c2, esq, ha, eU, c']
          · rw [if_neg (fun z => c z.2)]
            have c' : luM V q b * sL V q o ≤ sU V q o * llM V q b := by omega
            simp (disch := first | omega | assumption | decide | (simp (disch := omega) only [iI_lit, iJ_lit, iJ_eq, iI_eq, bI_01, bI_01I] <;> omega)) only [e_Dm_bestTurn_78, e_Dm_bestTurn_79, e_Dm_bestTurn_82, e_Dm_bestTurn_85, e_Dm_bestTurn_87, e_Dm_bestTurn_88, e_Dm_bestTurn_91, e_Dm_bestTurn_92, e_Dm_bestTurn_93, e_Dm_bestTurn_96, e_Dm_bestTurn_98, e_Dm_bestTurn_99, e_Dm_bestTurn_100, e_Dm_bestTurn_103, e_Dm_bestTurn_105, e_Dm_bestTurn_106, e_Dm_bestTurn_107, e_Dm_bestTurn_110, e_Dm_bestTurn_112, e_Dm_bestTurn_113, e_Dm_bestTurn_114, e_Dm_bestTurn_115, e_Dm_bestTurn_118, e_Dm_bestTurn_120, e_Dm_bestTurn_121, e_Dm_bestTurn_122, e_Dm_bestTurn_124, e_Dm_bestTurn_125, e_Dm_bestTurn_128, e_Dm_bestTurn_129, e_Dm_bestTurn_131, e_Dm_bestTurn_132, e_Dm_bestTurn_135, e_Dm_bestTurn_136, e_Dm_bestTurn_138, e_Dm_bestTurn_139, e_Dm_bestTurn_142, e_Dm_bestTurn_143, e_Dm_bestTurn_145, e_Dm_bestTurn_146, e_Dm_bestTurn_149, e_Dm_bestTurn_152, e_Dm_bestTurn_153, e_Dm_bestTurn_154, e_Dm_bestTurn_157, e_Dm_bestTurn_158, e_Dm_bestTurn_159, e_Dm_bestTurn_161, e_Dm_bestTurn_164, e_Dm_bestTurn_165, e_Dm_bestTurn_166, e_Dm_bestTurn_168, e_Dm_bestTurn_169, e_Dm_bestTurn_172, e_Dm_bestTurn_173, e_Dm_bestTurn_176, e_Dm_bestTurn_179, e_Dm_bestTurn_181, e_Dm_bestTurn_182, e_Dm_bestTurn_185, e_Dm_bestTurn_188, e_Dm_bestTurn_190, e_Dm_bestTurn_192, e_Dm_bestTurn_193, e_Dm_bestTurn_195, e_Dm_bestTurn_196, e_Dm_bestTurn_198, e_Dm_bestTurn_200, e_Dm_bestTurn_201, e_Dm_bestTurn_202, e_Dm_bestTurn_205, e_Dm_bestTurn_206, e_Dm_bestTurn_209, bd_some, bd_none, Option.toList_some, Option.toList_none, List.nil_append, List.cons_append, px_kill_int, px_kill_long, px_kill_ref, px_kill_null, iI_lit, iJ_lit, iI_add, iI_sub, iI_mul, iI_neg, iJ_add, iJ_sub, iJ_mul, iJ_neg, iI_lt, iI_le, iI_eq, iJ_lt, iJ_le, iJ_eq, iI_div, iJ_div, tdiv_tmod, iI_J, iJ_I, iI_ix, iI_toInt, iJ_toInt, cmp_ge, cmp_lt, cmp_eq, cmp_gt, cmp_le, cmp_geI, cmp_ltI, cmp_eqI, cmp_gtI, cmp_leI, bI_0I, bI_1I, pin, if_true, hh, nle, noi, if_false, sh_n68, sh_n69, es, hA, hB, q0, q1, q2, q3, e1, c1, c2, esq, ha, eU, c']
        · subst z
          rw [if_neg (fun z => by omega)]
          simp (disch := first | omega | assumption | decide | (simp (disch := omega) only [iI_lit, iJ_lit, iJ_eq, iI_eq, bI_01, bI_01I] <;> omega)) only [e_Dm_bestTurn_78, e_Dm_bestTurn_79, e_Dm_bestTurn_82, e_Dm_bestTurn_85, e_Dm_bestTurn_87, e_Dm_bestTurn_88, e_Dm_bestTurn_91, e_Dm_bestTurn_92, e_Dm_bestTurn_93, e_Dm_bestTurn_96, e_Dm_bestTurn_98, e_Dm_bestTurn_99, e_Dm_bestTurn_100, e_Dm_bestTurn_103, e_Dm_bestTurn_105, e_Dm_bestTurn_106, e_Dm_bestTurn_107, e_Dm_bestTurn_110, e_Dm_bestTurn_112, e_Dm_bestTurn_113, e_Dm_bestTurn_114, e_Dm_bestTurn_115, e_Dm_bestTurn_118, e_Dm_bestTurn_120, e_Dm_bestTurn_121, e_Dm_bestTurn_122, e_Dm_bestTurn_124, e_Dm_bestTurn_125, e_Dm_bestTurn_128, e_Dm_bestTurn_129, e_Dm_bestTurn_131, e_Dm_bestTurn_132, e_Dm_bestTurn_135, e_Dm_bestTurn_136, e_Dm_bestTurn_138, e_Dm_bestTurn_139, e_Dm_bestTurn_142, e_Dm_bestTurn_143, e_Dm_bestTurn_145, e_Dm_bestTurn_146, e_Dm_bestTurn_149, e_Dm_bestTurn_152, e_Dm_bestTurn_153, e_Dm_bestTurn_154, e_Dm_bestTurn_157, e_Dm_bestTurn_158, e_Dm_bestTurn_159, e_Dm_bestTurn_161, e_Dm_bestTurn_164, e_Dm_bestTurn_165, e_Dm_bestTurn_166, e_Dm_bestTurn_168, e_Dm_bestTurn_169, e_Dm_bestTurn_172, e_Dm_bestTurn_173, e_Dm_bestTurn_176, e_Dm_bestTurn_179, e_Dm_bestTurn_181, e_Dm_bestTurn_182, e_Dm_bestTurn_185, e_Dm_bestTurn_188, e_Dm_bestTurn_190, e_Dm_bestTurn_192, e_Dm_bestTurn_193, e_Dm_bestTurn_195, e_Dm_bestTurn_196, e_Dm_bestTurn_198, e_Dm_bestTurn_200, e_Dm_bestTurn_201, e_Dm_bestTurn_202, e_Dm_bestTurn_205, e_Dm_bestTurn_206, e_Dm_bestTurn_209, bd_some, bd_none, Option.toList_some, Option.toList_none, List.nil_append, List.cons_append, px_kill_int, px_kill_long, px_kill_ref, px_kill_null, iI_lit, iJ_lit, iI_add, iI_sub, iI_mul, iI_neg, iJ_add, iJ_sub, iJ_mul, iJ_neg, iI_lt, iI_le, iI_eq, iJ_lt, iJ_le, iJ_eq, iI_div, iJ_div, tdiv_tmod, iI_J, iJ_I, iI_ix, iI_toInt, iJ_toInt, cmp_ge, cmp_lt, cmp_eq, cmp_gt, cmp_le, cmp_geI, cmp_ltI, cmp_eqI, cmp_gtI, cmp_leI, bI_0I, bI_1I, pin, if_true, hh, nle, noi, if_false, sh_n68, sh_n69, es, hA, hB, q0, q1, q2, q3, e1, c1, c2, esq, ha, one0]
      have fin1 : rn k_Dm_bestTurn 210 (lMT (.int (iI (i : Int))) (.int w) (.int f) (.long u0) (.long l0) (.int (iI (s : Int))) (.long (iJ (luM V q b))) (.long (iJ (llM V q b))) (.int (iI (o : Int))) (.long (iJ (celN (V.2 i) * celN (V.2 o)))) .null (.long (iJ (sL V q o))) .null a18) [.int (iI 1)] (enc T1) = rn k_Dm_bestTurn 76 (lMT (.int (iI (i : Int))) (.int w) (.int f) (.long u0) (.long l0) (.int (iI (s : Int))) (.long (iJ (sU V q o))) (.long (iJ (sL V q o))) (.int (iI ((o : Int) + 1))) (.long (iJ (celN (V.2 i) * celN (V.2 o)))) .null (.long (iJ (sL V q o))) .null (.int (iI 1))) [] (enc T1) := by
        simp (disch := first | omega | assumption | decide | (simp (disch := omega) only [iI_lit, iJ_lit, iJ_eq, iI_eq, bI_01, bI_01I] <;> omega)) only [e_Dm_bestTurn_210, e_Dm_bestTurn_212, e_Dm_bestTurn_214, e_Dm_bestTurn_217, e_Dm_bestTurn_219, e_Dm_bestTurn_221, e_Dm_bestTurn_222, e_Dm_bestTurn_225, e_Dm_bestTurn_227, e_Dm_bestTurn_229, e_Dm_bestTurn_231, e_Dm_bestTurn_234, e_Dm_bestTurn_236, e_Dm_bestTurn_239, e_Dm_bestTurn_241, e_Dm_bestTurn_243, e_Dm_bestTurn_246, bd_some, bd_none, Option.toList_some, Option.toList_none, List.nil_append, List.cons_append, px_kill_int, px_kill_long, px_kill_ref, px_kill_null, iI_lit, iJ_lit, iI_add, iI_sub, iI_mul, iI_neg, iJ_add, iJ_sub, iJ_mul, iJ_neg, iI_lt, iI_le, iI_eq, iJ_lt, iJ_le, iJ_eq, iI_div, iJ_div, tdiv_tmod, iI_J, iJ_I, iI_ix, iI_toInt, iJ_toInt, cmp_ge, cmp_lt, cmp_eq, cmp_gt, cmp_le, cmp_geI, cmp_ltI, cmp_eqI, cmp_gtI, cmp_leI, bI_0I, bI_1I, pin, if_true, one0, if_false, eU]
      have fin0 : rn k_Dm_bestTurn 210 (lMT (.int (iI (i : Int))) (.int w) (.int f) (.long u0) (.long l0) (.int (iI (s : Int))) (.long (iJ (luM V q b))) (.long (iJ (llM V q b))) (.int (iI (o : Int))) (.long (iJ (celN (V.2 i) * celN (V.2 o)))) .null (.long (iJ (sL V q o))) .null a18) [.int (iI 0)] (enc T1) = rn k_Dm_bestTurn 76 (lMT (.int (iI (i : Int))) (.int w) (.int f) (.long u0) (.long l0) (.int (iI (s : Int))) (.long (iJ (luM V q b))) (.long (iJ (llM V q b))) (.int (iI ((o : Int) + 1))) (.long (iJ (celN (V.2 i) * celN (V.2 o)))) .null (.long (iJ (sL V q o))) .null (.int (iI 0))) [] (enc T1) := by
        simp (disch := first | omega | assumption | decide | (simp (disch := omega) only [iI_lit, iJ_lit, iJ_eq, iI_eq, bI_01, bI_01I] <;> omega)) only [e_Dm_bestTurn_210, e_Dm_bestTurn_212, e_Dm_bestTurn_214, e_Dm_bestTurn_217, e_Dm_bestTurn_219, e_Dm_bestTurn_221, e_Dm_bestTurn_222, e_Dm_bestTurn_225, e_Dm_bestTurn_227, e_Dm_bestTurn_229, e_Dm_bestTurn_231, e_Dm_bestTurn_234, e_Dm_bestTurn_236, e_Dm_bestTurn_239, e_Dm_bestTurn_241, e_Dm_bestTurn_243, e_Dm_bestTurn_246, bd_some, bd_none, Option.toList_some, Option.toList_none, List.nil_append, List.cons_append, px_kill_int, px_kill_long, px_kill_ref, px_kill_null, iI_lit, iJ_lit, iI_add, iI_sub, iI_mul, iI_neg, iJ_add, iJ_sub, iJ_mul, iJ_neg, iI_lt, iI_le, iI_eq, iJ_lt, iJ_le, iJ_eq, iI_div, iJ_div, tdiv_tmod, iI_J, iJ_I, iI_ix, iI_toInt, iJ_toInt, cmp_ge, cmp_lt, cmp_eq, cmp_gt, cmp_le, cmp_geI, cmp_ltI, cmp_eqI, cmp_gtI, cmp_leI, bI_0I, bI_1I, pin, if_true]
      have stay : ∀ b2, b2 = b → (¬ ((bt (sqF q) (V.2 o)).2.2.2.2.2 = 0 ∧ sU V q o * llM V q b < luM V q b * sL V q o)) → ∃ (T' : TS) (b14 b15 b16 b17 b18 : Value), rn k_Dm_bestTurn 76 (lMT (.int (iI (i : Int))) (.int w) (.int f) (.long u0) (.long l0) (.int (iI (s : Int))) (.long (iJ (luM V q b))) (.long (iJ (llM V q b))) (.int (iI (o : Int))) a14 a15 a16 a17 a18) [] (enc T) = rn k_Dm_bestTurn 249 (lMT (.int (iI (i : Int))) (.int w) (.int f) (.long u0) (.long l0) (.int (iI (s : Int))) (.long (iJ (luM V q (lfA V i q b2 (o + 1) t)))) (.long (iJ (llM V q (lfA V i q b2 (o + 1) t)))) (.int (iI (V.1 : Int))) b14 b15 b16 b17 b18) [] (enc T') ∧ FrA aMb bMb T T' := by
        intro b2 hb2 hno
        subst hb2
        obtain ⟨T', b14, b15, b16, b17, b18, e, fr⟩ := ih (o + 1) b2 T1 (by omega) hb hM1 hS1 (.long (iJ (celN (V.2 i) * celN (V.2 o)))) .null (.long (iJ (sL V q o))) .null (.int (iI 0))
        refine ⟨T', b14, b15, b16, b17, b18, ?_, fr1.tr fr⟩
        rw [go _ b4 (bt_ok hf hg).2.2, if_neg hno, fin0]
        rw [show ((o + 1 : Nat) : Int) = (o : Int) + 1 by omega] at e
        exact e
      rcases (bt_ok hf hg).2.2 with ha | ha
      · have ha' : ¬ alS V q o = 1 := by unfold alS; omega
        rw [if_neg ha']
        by_cases c : sU V q o * llM V q b < luM V q b * sL V q o
        · have eT : lfT V q b o = some o := by
            cases b with
            | none => rfl
            | some p => exact if_pos c
          rw [eT]
          obtain ⟨T', b14, b15, b16, b17, b18, e, fr⟩ := ih (o + 1) (some o) T1 (by omega) (fun p z => by cases z; exact ho') hM1 hS1 (.long (iJ (celN (V.2 i) * celN (V.2 o)))) .null (.long (iJ (sL V q o))) .null (.int (iI 1))
          refine ⟨T', b14, b15, b16, b17, b18, ?_, fr1.tr fr⟩
          rw [go _ b4 (bt_ok hf hg).2.2, if_pos ⟨ha, c⟩, fin1]
          rw [show ((o + 1 : Nat) : Int) = (o : Int) + 1 by omega] at e
          exact e
        · have eT : lfT V q b o = b := by
            cases b with
            | none =>
              exfalso
              apply c
              show sU V q o * 0 < 1 * sL V q o
              rw [Int.mul_zero, Int.one_mul]
              exact hL.1
            | some p => exact if_neg c
          rw [eT]
          exact stay b rfl (fun z => c z.2)
      · have ha' : alS V q o = 1 := ha
        rw [if_pos ha']
        exact stay b rfl (fun z => by omega)
