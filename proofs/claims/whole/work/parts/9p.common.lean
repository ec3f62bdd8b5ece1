/-! common and inCell on both sides. -/
def comK (w h s k : Int) : Int := if k = 0 then w * h else if k = 1 then w else if k = 2 then h else if k = 3 then s else if k = 8 then scl w h s else rdK w h s (k - 4)
def qCom (V : VW) (m k : Int) : Int := if (1 ≤ m ∧ m ≤ (2 : Int) ^ V.1 - 1) ∧ 0 ≤ k ∧ k ≤ 8 then comK (gW V m.toNat) (gH V m.toNat) (gS V m.toNat) k else -1000000
abbrev hasI (m i : Int) : Prop := m.toNat / 2 ^ i.toNat % 2 = 1
def qInC (V : VW) (m i : Int) : Int := if (1 ≤ m ∧ m ≤ (2 : Int) ^ V.1 - 1) ∧ isK V i ∧ hasI m i then scl (gW V m.toNat) (gH V m.toNat) (gS V m.toNat) * scl (gW V m.toNat) (gH V m.toNat) (gS V m.toNat) / celN (V.2 i.toNat) else -1000000
theorem gcm_okM {V : VW} (hV : okV V) (m : Nat) : okMC 429981696 (gW V m) (gH V m) (gS V m) := (gcm_ok hV m V.1 (by omega)).le (pw4_b V.1 (by have := hV.1; omega)).2.2
theorem okMC.W {w h s : Int} (o : okMC 429981696 w h s) : okW w h s := by
  obtain ⟨w0, h0, s0, c0⟩ := o
  obtain ⟨pw, ph⟩ := prod_le w0 h0 c0
  exact ⟨⟨w0, pw⟩, ⟨h0, ph⟩, s0, c0⟩
theorem bit_ex : ∀ n : Nat, n ≤ 4 → ∀ m : Nat, m < 16 → 0 < m → m < 2 ^ n → ∃ j, j < n ∧ m / 2 ^ j % 2 = 1 := by
  intro n hn m hm h0 hp
  have : n = 0 ∨ n = 1 ∨ n = 2 ∨ n = 3 ∨ n = 4 := by omega
  rcases this with z | z | z | z | z <;> subst z
  · omega
  · exact ⟨0, by omega, by omega⟩
  · by_cases a : m / 2 ^ 0 % 2 = 1
    · exact ⟨0, by omega, a⟩
    · exact ⟨1, by omega, by omega⟩
  · by_cases a : m / 2 ^ 0 % 2 = 1
    · exact ⟨0, by omega, a⟩
    · by_cases b : m / 2 ^ 1 % 2 = 1
      · exact ⟨1, by omega, b⟩
      · exact ⟨2, by omega, by omega⟩
  · by_cases a : m / 2 ^ 0 % 2 = 1
    · exact ⟨0, by omega, a⟩
    · by_cases b : m / 2 ^ 1 % 2 = 1
      · exact ⟨1, by omega, b⟩
      · by_cases c : m / 2 ^ 2 % 2 = 1
        · exact ⟨2, by omega, c⟩
        · exact ⟨3, by omega, by omega⟩
theorem set_ex {V : VW} (hV : okV V) {m : Nat} (h1 : 1 ≤ (m : Int)) (h2 : (m : Int) ≤ (2 : Int) ^ V.1 - 1) : m < 16 ∧ ∃ j, 0 ≤ j ∧ j < V.1 ∧ m / 2 ^ j % 2 = 1 := by
  have hpw := pow_n hV.1
  have e : ((2 ^ V.1 : Nat) : Int) = (2 : Int) ^ V.1 := by rw [Int.natCast_pow]; rfl
  have hm : m < 16 := by omega
  obtain ⟨j, j1, j2⟩ := bit_ex V.1 hV.1 m hm (by omega) (by omega)
  exact ⟨hm, j, by omega, j1, j2⟩
theorem g_isSetM {T : TS} {V : VW} (hV : okV V) (h : cM T V) {k : Int} (hk : inI k) : cl k_Dm_isSet [.ref 53, .int (iI k)] (enc T) = some (some (.int (bI (1 ≤ k ∧ k ≤ (2 : Int) ^ V.1 - 1))), enc T) := by
  have h4 := hV.1
  have hpw := pow_n h4
  obtain ⟨k1, k2⟩ := hk
  have hsh : iI 1 <<< (iI (V.1 : Int) &&& iI 31) = iI ((2 : Int) ^ V.1) := shl_n h4
  have e := s_in (x := k) (l := 1) (h := (2 : Int) ^ V.1 - 1) (enc T) (by omega) (by omega) (by omega)
  simp (disch := first | omega | assumption | decide | (simp (disch := omega) only [iI_lit, iJ_lit, iJ_eq, iI_eq, bI_01, bI_01I] <;> omega)) only [c_Dm_isSet, e_Dm_isSet_0, e_Dm_isSet_1, e_Dm_isSet_2, e_Dm_isSet_3, e_Dm_isSet_4, e_Dm_isSet_5, e_Dm_isSet_8, e_Dm_isSet_9, e_Dm_isSet_10, e_Dm_isSet_11, e_Dm_isSet_12, e_Dm_isSet_15, bd_some, bd_none, Option.toList_some, Option.toList_none, List.nil_append, List.cons_append, px_kill_int, px_kill_long, px_kill_ref, px_kill_null, iI_lit, iJ_lit, iI_add, iI_sub, iI_mul, iI_neg, iJ_add, iJ_sub, iJ_mul, iJ_neg, iI_lt, iI_le, iI_eq, iJ_lt, iJ_le, iJ_eq, iI_div, iJ_div, tdiv_tmod, iI_J, iJ_I, iI_ix, iI_toInt, iJ_toInt, cmp_ge, cmp_lt, cmp_eq, cmp_gt, cmp_le, cmp_geI, cmp_ltI, cmp_eqI, cmp_gtI, cmp_leI, bI_0I, bI_1I, pin, if_true, h.1, hsh, e]
set_option maxHeartbeats 4000000 in
theorem q_Ds_common {T : TS} {V : VW} (hV : okV V) (h : cC T V) {m k : Int} (hm : inI m) (hk : inI k) : ∃ T', cl k_Ds_common [.ref 0, .int (iI m), .int (iI k)] (enc T) = some (some (.long (iJ (qCom V m k))), enc T') ∧ FrA aB bB T T' := by
  have g1 := g_isSet hV h hm
  have hpw := pow_n hV.1
  obtain ⟨m1, m2⟩ := id hm
  obtain ⟨k1, k2⟩ := hk
  unfold qCom
  by_cases c1 : 0 ≤ m ∧ m ≤ (2 : Int) ^ V.1 - 1
  · rw [bI_tI c1] at g1
    by_cases c0 : m = 0
    · rw [if_neg (fun z => by omega)]
      refine ⟨T, ?_, FrA.rf _ _ _⟩
      rw [c0] at g1 ⊢
      simp (disch := first | omega | assumption | decide | (simp (disch := omega) only [iI_lit, iJ_lit, iJ_eq, iI_eq, bI_01, bI_01I] <;> omega)) only [e_Ds_common_0, e_Ds_common_1, e_Ds_common_2, e_Ds_common_5, e_Ds_common_8, e_Ds_common_9, e_Ds_common_12, e_Ds_common_13, e_Ds_common_16, e_Ds_common_17, e_Ds_common_19, e_Ds_common_22, e_Ds_common_25, e_Ds_common_26, e_Ds_common_27, e_Ds_common_28, e_Ds_common_31, c_Ds_common, bd_some, bd_none, Option.toList_some, Option.toList_none, List.nil_append, List.cons_append, px_kill_int, px_kill_long, px_kill_ref, px_kill_null, iI_lit, iJ_lit, iI_add, iI_sub, iI_mul, iI_neg, iJ_add, iJ_sub, iJ_mul, iJ_neg, iI_lt, iI_le, iI_eq, iJ_lt, iJ_le, iJ_eq, iI_div, iJ_div, tdiv_tmod, iI_J, iJ_I, iI_ix, iI_toInt, iJ_toInt, cmp_ge, cmp_lt, cmp_eq, cmp_gt, cmp_le, cmp_geI, cmp_ltI, cmp_eqI, cmp_gtI, cmp_leI, bI_0I, bI_1I, pin, if_true, g1, one0, if_false]
    · by_cases c2 : k < 0
      · rw [if_neg (fun z => by omega)]
        refine ⟨T, ?_, FrA.rf _ _ _⟩
        simp (disch := first | omega | assumption | decide | (simp (disch := omega) only [iI_lit, iJ_lit, iJ_eq, iI_eq, bI_01, bI_01I] <;> omega)) only [e_Ds_common_0, e_Ds_common_1, e_Ds_common_2, e_Ds_common_5, e_Ds_common_8, e_Ds_common_9, e_Ds_common_12, e_Ds_common_13, e_Ds_common_16, e_Ds_common_17, e_Ds_common_19, e_Ds_common_22, e_Ds_common_25, e_Ds_common_26, e_Ds_common_27, e_Ds_common_28, e_Ds_common_31, c_Ds_common, bd_some, bd_none, Option.toList_some, Option.toList_none, List.nil_append, List.cons_append, px_kill_int, px_kill_long, px_kill_ref, px_kill_null, iI_lit, iJ_lit, iI_add, iI_sub, iI_mul, iI_neg, iJ_add, iJ_sub, iJ_mul, iJ_neg, iI_lt, iI_le, iI_eq, iJ_lt, iJ_le, iJ_eq, iI_div, iJ_div, tdiv_tmod, iI_J, iJ_I, iI_ix, iI_toInt, iJ_toInt, cmp_ge, cmp_lt, cmp_eq, cmp_gt, cmp_le, cmp_geI, cmp_ltI, cmp_eqI, cmp_gtI, cmp_leI, bI_0I, bI_1I, pin, if_true, g1, one0, if_false, c0, c2]
      · by_cases c3 : k ≤ 8
        · rw [if_pos ⟨by omega, by omega⟩]
          obtain ⟨j, rfl⟩ : ∃ j : Nat, m = (j : Int) := ⟨m.toNat, by omega⟩
          have ej : ((j : Int)).toNat = j := by omega
          rw [ej]
          obtain ⟨hj, _⟩ := set_ex hV (m := j) (by omega) (by omega)
          obtain ⟨T1, e1, f1, G1⟩ := c_smeet hV h hj
          have oM := gcm_okM hV j
          have oW := oM.W
          have f1' := mt_B f1
          have pre : cl k_Ds_common [.ref 0, .int (iI (j : Int)), .int (iI k)] (enc T) = rn k_Ds_common 32 [.ref 0, .int (iI (j : Int)), .int (iI k)] [.int (iI k)] (enc T1) := by
            simp (disch := first | omega | assumption | decide | (simp (disch := omega) only [iI_lit, iJ_lit, iJ_eq, iI_eq, bI_01, bI_01I] <;> omega)) only [e_Ds_common_0, e_Ds_common_1, e_Ds_common_2, e_Ds_common_5, e_Ds_common_8, e_Ds_common_9, e_Ds_common_12, e_Ds_common_13, e_Ds_common_16, e_Ds_common_17, e_Ds_common_19, e_Ds_common_22, e_Ds_common_25, e_Ds_common_26, e_Ds_common_27, e_Ds_common_28, e_Ds_common_31, c_Ds_common, bd_some, bd_none, Option.toList_some, Option.toList_none, List.nil_append, List.cons_append, px_kill_int, px_kill_long, px_kill_ref, px_kill_null, iI_lit, iJ_lit, iI_add, iI_sub, iI_mul, iI_neg, iJ_add, iJ_sub, iJ_mul, iJ_neg, iI_lt, iI_le, iI_eq, iJ_lt, iJ_le, iJ_eq, iI_div, iJ_div, tdiv_tmod, iI_J, iJ_I, iI_ix, iI_toInt, iJ_toInt, cmp_ge, cmp_lt, cmp_eq, cmp_gt, cmp_le, cmp_geI, cmp_ltI, cmp_eqI, cmp_gtI, cmp_leI, bI_0I, bI_1I, pin, if_true, g1, one0, if_false, c0, c2, c3, e1]
          rw [pre]
          generalize gW V j = w at *
          generalize gH V j = h' at *
          generalize gS V j = s at *
          obtain ⟨a0, a1, a2⟩ := id G1
          obtain ⟨w0, h0, s0, p0⟩ := id oW
          have pp := Int.mul_pos w0.1 h0.1
          by_cases d : k = 0 ∨ k = 1 ∨ k = 2 ∨ k = 3 ∨ k = 8
          · refine ⟨T1, ?_, f1'⟩
            have e8 := c_scl G1 oM
            have x1 : comK w h' s 0 = w * h' := rfl
            have x2 : comK w h' s 1 = w := rfl
            have x3 : comK w h' s 2 = h' := rfl
            have x4 : comK w h' s 3 = s := rfl
            have x5 : comK w h' s 8 = scl w h' s := rfl
            rcases d with z | z | z | z | z <;> subst z
            · rw [x1, e_Ds_common_32, if_pos (by decide)]
              simp (disch := first | omega | assumption | decide | (simp (disch := omega) only [iI_lit, iJ_lit, iJ_eq, iI_eq, bI_01, bI_01I] <;> omega)) only [e_Ds_common_84, e_Ds_common_85, e_Ds_common_88, e_Ds_common_91, e_Ds_common_92, e_Ds_common_95, e_Ds_common_98, e_Ds_common_99, e_Ds_common_100, e_Ds_common_101, e_Ds_common_104, e_Ds_common_107, e_Ds_common_108, e_Ds_common_109, e_Ds_common_112, e_Ds_common_115, e_Ds_common_116, e_Ds_common_117, e_Ds_common_120, e_Ds_common_123, e_Ds_common_124, e_Ds_common_125, e_Ds_common_128, e_Ds_common_131, e_Ds_common_132, e_Ds_common_133, e_Ds_common_136, e_Ds_common_137, e_Ds_common_140, e_Ds_common_143, e_Ds_common_144, e_Ds_common_147, e_Ds_common_148, e_Ds_common_149, e_Ds_common_150, e_Ds_common_153, bd_some, bd_none, Option.toList_some, Option.toList_none, List.nil_append, List.cons_append, px_kill_int, px_kill_long, px_kill_ref, px_kill_null, iI_lit, iJ_lit, iI_add, iI_sub, iI_mul, iI_neg, iJ_add, iJ_sub, iJ_mul, iJ_neg, iI_lt, iI_le, iI_eq, iJ_lt, iJ_le, iJ_eq, iI_div, iJ_div, tdiv_tmod, iI_J, iJ_I, iI_ix, iI_toInt, iJ_toInt, cmp_ge, cmp_lt, cmp_eq, cmp_gt, cmp_le, cmp_geI, cmp_ltI, cmp_eqI, cmp_gtI, cmp_leI, bI_0I, bI_1I, pin, if_true, sh_n12, a0, a1]
            · rw [x2, e_Ds_common_32, if_neg (by decide), if_pos (by decide)]
              simp (disch := first | omega | assumption | decide | (simp (disch := omega) only [iI_lit, iJ_lit, iJ_eq, iI_eq, bI_01, bI_01I] <;> omega)) only [e_Ds_common_84, e_Ds_common_85, e_Ds_common_88, e_Ds_common_91, e_Ds_common_92, e_Ds_common_95, e_Ds_common_98, e_Ds_common_99, e_Ds_common_100, e_Ds_common_101, e_Ds_common_104, e_Ds_common_107, e_Ds_common_108, e_Ds_common_109, e_Ds_common_112, e_Ds_common_115, e_Ds_common_116, e_Ds_common_117, e_Ds_common_120, e_Ds_common_123, e_Ds_common_124, e_Ds_common_125, e_Ds_common_128, e_Ds_common_131, e_Ds_common_132, e_Ds_common_133, e_Ds_common_136, e_Ds_common_137, e_Ds_common_140, e_Ds_common_143, e_Ds_common_144, e_Ds_common_147, e_Ds_common_148, e_Ds_common_149, e_Ds_common_150, e_Ds_common_153, bd_some, bd_none, Option.toList_some, Option.toList_none, List.nil_append, List.cons_append, px_kill_int, px_kill_long, px_kill_ref, px_kill_null, iI_lit, iJ_lit, iI_add, iI_sub, iI_mul, iI_neg, iJ_add, iJ_sub, iJ_mul, iJ_neg, iI_lt, iI_le, iI_eq, iJ_lt, iJ_le, iJ_eq, iI_div, iJ_div, tdiv_tmod, iI_J, iJ_I, iI_ix, iI_toInt, iJ_toInt, cmp_ge, cmp_lt, cmp_eq, cmp_gt, cmp_le, cmp_geI, cmp_ltI, cmp_eqI, cmp_gtI, cmp_leI, bI_0I, bI_1I, pin, if_true, sh_n12, a0]
            · rw [x3, e_Ds_common_32, if_neg (by decide), if_neg (by decide), if_pos (by decide)]
              simp (disch := first | omega | assumption | decide | (simp (disch := omega) only [iI_lit, iJ_lit, iJ_eq, iI_eq, bI_01, bI_01I] <;> omega)) only [e_Ds_common_84, e_Ds_common_85, e_Ds_common_88, e_Ds_common_91, e_Ds_common_92, e_Ds_common_95, e_Ds_common_98, e_Ds_common_99, e_Ds_common_100, e_Ds_common_101, e_Ds_common_104, e_Ds_common_107, e_Ds_common_108, e_Ds_common_109, e_Ds_common_112, e_Ds_common_115, e_Ds_common_116, e_Ds_common_117, e_Ds_common_120, e_Ds_common_123, e_Ds_common_124, e_Ds_common_125, e_Ds_common_128, e_Ds_common_131, e_Ds_common_132, e_Ds_common_133, e_Ds_common_136, e_Ds_common_137, e_Ds_common_140, e_Ds_common_143, e_Ds_common_144, e_Ds_common_147, e_Ds_common_148, e_Ds_common_149, e_Ds_common_150, e_Ds_common_153, bd_some, bd_none, Option.toList_some, Option.toList_none, List.nil_append, List.cons_append, px_kill_int, px_kill_long, px_kill_ref, px_kill_null, iI_lit, iJ_lit, iI_add, iI_sub, iI_mul, iI_neg, iJ_add, iJ_sub, iJ_mul, iJ_neg, iI_lt, iI_le, iI_eq, iJ_lt, iJ_le, iJ_eq, iI_div, iJ_div, tdiv_tmod, iI_J, iJ_I, iI_ix, iI_toInt, iJ_toInt, cmp_ge, cmp_lt, cmp_eq, cmp_gt, cmp_le, cmp_geI, cmp_ltI, cmp_eqI, cmp_gtI, cmp_leI, bI_0I, bI_1I, pin, if_true, sh_n12, a1]
            · rw [x4, e_Ds_common_32, if_neg (by decide), if_neg (by decide), if_neg (by decide), if_pos (by decide)]
              simp (disch := first | omega | assumption | decide | (simp (disch := omega) only [iI_lit, iJ_lit, iJ_eq, iI_eq, bI_01, bI_01I] <;> omega)) only [e_Ds_common_84, e_Ds_common_85, e_Ds_common_88, e_Ds_common_91, e_Ds_common_92, e_Ds_common_95, e_Ds_common_98, e_Ds_common_99, e_Ds_common_100, e_Ds_common_101, e_Ds_common_104, e_Ds_common_107, e_Ds_common_108, e_Ds_common_109, e_Ds_common_112, e_Ds_common_115, e_Ds_common_116, e_Ds_common_117, e_Ds_common_120, e_Ds_common_123, e_Ds_common_124, e_Ds_common_125, e_Ds_common_128, e_Ds_common_131, e_Ds_common_132, e_Ds_common_133, e_Ds_common_136, e_Ds_common_137, e_Ds_common_140, e_Ds_common_143, e_Ds_common_144, e_Ds_common_147, e_Ds_common_148, e_Ds_common_149, e_Ds_common_150, e_Ds_common_153, bd_some, bd_none, Option.toList_some, Option.toList_none, List.nil_append, List.cons_append, px_kill_int, px_kill_long, px_kill_ref, px_kill_null, iI_lit, iJ_lit, iI_add, iI_sub, iI_mul, iI_neg, iJ_add, iJ_sub, iJ_mul, iJ_neg, iI_lt, iI_le, iI_eq, iJ_lt, iJ_le, iJ_eq, iI_div, iJ_div, tdiv_tmod, iI_J, iJ_I, iI_ix, iI_toInt, iJ_toInt, cmp_ge, cmp_lt, cmp_eq, cmp_gt, cmp_le, cmp_geI, cmp_ltI, cmp_eqI, cmp_gtI, cmp_leI, bI_0I, bI_1I, pin, if_true, sh_n12, a2]
            · rw [x5, e_Ds_common_32, if_neg (by decide), if_neg (by decide), if_neg (by decide), if_neg (by decide), if_neg (by decide), if_neg (by decide), if_neg (by decide), if_neg (by decide), if_pos (by decide)]
              simp (disch := first | omega | assumption | decide | (simp (disch := omega) only [iI_lit, iJ_lit, iJ_eq, iI_eq, bI_01, bI_01I] <;> omega)) only [e_Ds_common_84, e_Ds_common_85, e_Ds_common_88, e_Ds_common_91, e_Ds_common_92, e_Ds_common_95, e_Ds_common_98, e_Ds_common_99, e_Ds_common_100, e_Ds_common_101, e_Ds_common_104, e_Ds_common_107, e_Ds_common_108, e_Ds_common_109, e_Ds_common_112, e_Ds_common_115, e_Ds_common_116, e_Ds_common_117, e_Ds_common_120, e_Ds_common_123, e_Ds_common_124, e_Ds_common_125, e_Ds_common_128, e_Ds_common_131, e_Ds_common_132, e_Ds_common_133, e_Ds_common_136, e_Ds_common_137, e_Ds_common_140, e_Ds_common_143, e_Ds_common_144, e_Ds_common_147, e_Ds_common_148, e_Ds_common_149, e_Ds_common_150, e_Ds_common_153, bd_some, bd_none, Option.toList_some, Option.toList_none, List.nil_append, List.cons_append, px_kill_int, px_kill_long, px_kill_ref, px_kill_null, iI_lit, iJ_lit, iI_add, iI_sub, iI_mul, iI_neg, iJ_add, iJ_sub, iJ_mul, iJ_neg, iI_lt, iI_le, iI_eq, iJ_lt, iJ_le, iJ_eq, iI_div, iJ_div, tdiv_tmod, iI_J, iJ_I, iI_ix, iI_toInt, iJ_toInt, cmp_ge, cmp_lt, cmp_eq, cmp_gt, cmp_le, cmp_geI, cmp_ltI, cmp_eqI, cmp_gtI, cmp_leI, bI_0I, bI_1I, pin, if_true, sh_n12, e8]
          · obtain ⟨T2, e2, f2, r0, r1, r2, r3⟩ := c_reduce (T := T1) (p := 12) sh_n12 (by omega) G1 oW
            have ep := s_rpart (k := k - 4) (by omega) r0 r1 r2 r3
            have xk : comK w h' s k = rdK w h' s (k - 4) := by
              unfold comK
              rw [if_neg (by omega), if_neg (by omega), if_neg (by omega), if_neg (by omega), if_neg (by omega)]
            refine ⟨T2, ?_, f1'.tr (f2.mono (fun q k z => aNo_B z) (fun q k z => by unfold bRd at z; unfold bB; omega))⟩
            have sw : rn k_Ds_common 32 [.ref 0, .int (iI (j : Int)), .int (iI k)] [.int (iI k)] (enc T1) = rn k_Ds_common 132 [.ref 0, .int (iI (j : Int)), .int (iI k)] [] (enc T1) := by
              have : k = 4 ∨ k = 5 ∨ k = 6 ∨ k = 7 := by omega
              rcases this with z | z | z | z <;> subst z <;> rw [e_Ds_common_32] <;> repeat (first | rw [if_pos (by decide)] | rw [if_neg (by decide)])
            rw [sw, xk]
            simp (disch := first | omega | assumption | decide | (simp (disch := omega) only [iI_lit, iJ_lit, iJ_eq, iI_eq, bI_01, bI_01I] <;> omega)) only [e_Ds_common_132, e_Ds_common_133, e_Ds_common_136, e_Ds_common_137, e_Ds_common_140, e_Ds_common_143, e_Ds_common_144, e_Ds_common_147, e_Ds_common_148, e_Ds_common_149, e_Ds_common_150, e_Ds_common_153, bd_some, bd_none, Option.toList_some, Option.toList_none, List.nil_append, List.cons_append, px_kill_int, px_kill_long, px_kill_ref, px_kill_null, iI_lit, iJ_lit, iI_add, iI_sub, iI_mul, iI_neg, iJ_add, iJ_sub, iJ_mul, iJ_neg, iI_lt, iI_le, iI_eq, iJ_lt, iJ_le, iJ_eq, iI_div, iJ_div, tdiv_tmod, iI_J, iJ_I, iI_ix, iI_toInt, iJ_toInt, cmp_ge, cmp_lt, cmp_eq, cmp_gt, cmp_le, cmp_geI, cmp_ltI, cmp_eqI, cmp_gtI, cmp_leI, bI_0I, bI_1I, pin, if_true, sh_n12, sh_n13, e2, ep]
        · rw [if_neg (fun z => by omega)]
          refine ⟨T, ?_, FrA.rf _ _ _⟩
          simp (disch := first | omega | assumption | decide | (simp (disch := omega) only [iI_lit, iJ_lit, iJ_eq, iI_eq, bI_01, bI_01I] <;> omega)) only [e_Ds_common_0, e_Ds_common_1, e_Ds_common_2, e_Ds_common_5, e_Ds_common_8, e_Ds_common_9, e_Ds_common_12, e_Ds_common_13, e_Ds_common_16, e_Ds_common_17, e_Ds_common_19, e_Ds_common_22, e_Ds_common_25, e_Ds_common_26, e_Ds_common_27, e_Ds_common_28, e_Ds_common_31, c_Ds_common, bd_some, bd_none, Option.toList_some, Option.toList_none, List.nil_append, List.cons_append, px_kill_int, px_kill_long, px_kill_ref, px_kill_null, iI_lit, iJ_lit, iI_add, iI_sub, iI_mul, iI_neg, iJ_add, iJ_sub, iJ_mul, iJ_neg, iI_lt, iI_le, iI_eq, iJ_lt, iJ_le, iJ_eq, iI_div, iJ_div, tdiv_tmod, iI_J, iJ_I, iI_ix, iI_toInt, iJ_toInt, cmp_ge, cmp_lt, cmp_eq, cmp_gt, cmp_le, cmp_geI, cmp_ltI, cmp_eqI, cmp_gtI, cmp_leI, bI_0I, bI_1I, pin, if_true, g1, one0, if_false, c0, c2, c3]
  · rw [bI_fI c1] at g1
    rw [if_neg (fun z => by omega)]
    refine ⟨T, ?_, FrA.rf _ _ _⟩
    simp (disch := first | omega | assumption | decide | (simp (disch := omega) only [iI_lit, iJ_lit, iJ_eq, iI_eq, bI_01, bI_01I] <;> omega)) only [e_Ds_common_0, e_Ds_common_1, e_Ds_common_2, e_Ds_common_5, e_Ds_common_8, e_Ds_common_9, e_Ds_common_12, e_Ds_common_13, e_Ds_common_16, e_Ds_common_17, e_Ds_common_19, e_Ds_common_22, e_Ds_common_25, e_Ds_common_26, e_Ds_common_27, e_Ds_common_28, e_Ds_common_31, c_Ds_common, bd_some, bd_none, Option.toList_some, Option.toList_none, List.nil_append, List.cons_append, px_kill_int, px_kill_long, px_kill_ref, px_kill_null, iI_lit, iJ_lit, iI_add, iI_sub, iI_mul, iI_neg, iJ_add, iJ_sub, iJ_mul, iJ_neg, iI_lt, iI_le, iI_eq, iJ_lt, iJ_le, iJ_eq, iI_div, iJ_div, tdiv_tmod, iI_J, iJ_I, iI_ix, iI_toInt, iJ_toInt, cmp_ge, cmp_lt, cmp_eq, cmp_gt, cmp_le, cmp_geI, cmp_ltI, cmp_eqI, cmp_gtI, cmp_leI, bI_0I, bI_1I, pin, if_true, g1]
set_option maxHeartbeats 4000000 in
theorem q_Dm_common {T : TS} {V : VW} (hV : okV V) (h : cM T V) {m k : Int} (hm : inI m) (hk : inI k) : ∃ T', cl k_Dm_common [.ref 53, .int (iI m), .int (iI k)] (enc T) = some (some (.long (iJ (qCom V m k))), enc T') ∧ FrM T T' := by
  have hM : cM (t0 T) V := h.fr (t0_fr T)
  have g1 := g_isSetM hV hM hm
  have hpw := pow_n hV.1
  obtain ⟨m1, m2⟩ := id hm
  obtain ⟨k1, k2⟩ := hk
  have g2 := s_in (x := k) (l := 0) (h := 8) (enc (t0 T)) (by omega) (by omega) (by omega)
  unfold qCom
  by_cases c1 : 1 ≤ m ∧ m ≤ (2 : Int) ^ V.1 - 1
  · rw [bI_tI c1] at g1
    by_cases c2 : 0 ≤ k ∧ k ≤ 8
    · rw [bI_tI c2] at g2
      rw [if_pos ⟨c1, c2⟩]
      obtain ⟨j, rfl⟩ : ∃ j : Nat, m = (j : Int) := ⟨m.toNat, by omega⟩
      have ej : ((j : Int)).toNat = j := by omega
      rw [ej]
      obtain ⟨hj, hx⟩ := set_ex hV (m := j) c1.1 c1.2
      obtain ⟨T1, e1, f1, G1⟩ := m_smeet hV hM hj hx
      have oM := gcm_okM hV j
      have oW := oM.W
      have f1' := (t0_fr T).tr f1
      have pre : cl k_Dm_common [.ref 53, .int (iI (j : Int)), .int (iI k)] (enc T) = rn k_Dm_common 35 [.ref 53, .int (iI (j : Int)), .int (iI k)] [.int (iI k)] (enc T1) := by
        simp (disch := first | omega | assumption | decide | (simp (disch := omega) only [iI_lit, iJ_lit, iJ_eq, iI_eq, bI_01, bI_01I] <;> omega)) only [e_Dm_common_0, e_Dm_common_1, e_Dm_common_2, e_Dm_common_5, e_Dm_common_6, e_Dm_common_7, e_Dm_common_10, e_Dm_common_13, e_Dm_common_14, e_Dm_common_15, e_Dm_common_16, e_Dm_common_19, e_Dm_common_22, e_Dm_common_25, e_Dm_common_28, e_Dm_common_29, e_Dm_common_30, e_Dm_common_31, e_Dm_common_34, c_Dm_common, bd_some, bd_none, Option.toList_some, Option.toList_none, List.nil_append, List.cons_append, px_kill_int, px_kill_long, px_kill_ref, px_kill_null, iI_lit, iJ_lit, iI_add, iI_sub, iI_mul, iI_neg, iJ_add, iJ_sub, iJ_mul, iJ_neg, iI_lt, iI_le, iI_eq, iJ_lt, iJ_le, iJ_eq, iI_div, iJ_div, tdiv_tmod, iI_J, iJ_I, iI_ix, iI_toInt, iJ_toInt, cmp_ge, cmp_lt, cmp_eq, cmp_gt, cmp_le, cmp_geI, cmp_ltI, cmp_eqI, cmp_gtI, cmp_leI, bI_0I, bI_1I, pin, if_true, g1, g2, one0, if_false, e1]
      rw [pre]
      generalize gW V j = w at *
      generalize gH V j = h' at *
      generalize gS V j = s at *
      obtain ⟨a0, a1, a2⟩ := id G1
      obtain ⟨w0, h0, s0, p0⟩ := id oW
      have pp := Int.mul_pos w0.1 h0.1
      by_cases d : k = 0 ∨ k = 1 ∨ k = 2 ∨ k = 3 ∨ k = 8
      · refine ⟨T1, ?_, f1'⟩
        have e8 := m_scl G1 oM
        have x1 : comK w h' s 0 = w * h' := rfl
        have x2 : comK w h' s 1 = w := rfl
        have x3 : comK w h' s 2 = h' := rfl
        have x4 : comK w h' s 3 = s := rfl
        have x5 : comK w h' s 8 = scl w h' s := rfl
        rcases d with z | z | z | z | z <;> subst z
        · rw [x1, e_Dm_common_35, if_pos (by decide)]
          simp (disch := first | omega | assumption | decide | (simp (disch := omega) only [iI_lit, iJ_lit, iJ_eq, iI_eq, bI_01, bI_01I] <;> omega)) only [e_Dm_common_84, e_Dm_common_85, e_Dm_common_88, e_Dm_common_89, e_Dm_common_92, e_Dm_common_93, e_Dm_common_94, e_Dm_common_95, e_Dm_common_98, e_Dm_common_99, e_Dm_common_100, e_Dm_common_103, e_Dm_common_104, e_Dm_common_105, e_Dm_common_108, e_Dm_common_109, e_Dm_common_110, e_Dm_common_113, e_Dm_common_114, e_Dm_common_115, e_Dm_common_118, e_Dm_common_119, e_Dm_common_120, e_Dm_common_121, e_Dm_common_122, e_Dm_common_125, bd_some, bd_none, Option.toList_some, Option.toList_none, List.nil_append, List.cons_append, px_kill_int, px_kill_long, px_kill_ref, px_kill_null, iI_lit, iJ_lit, iI_add, iI_sub, iI_mul, iI_neg, iJ_add, iJ_sub, iJ_mul, iJ_neg, iI_lt, iI_le, iI_eq, iJ_lt, iJ_le, iJ_eq, iI_div, iJ_div, tdiv_tmod, iI_J, iJ_I, iI_ix, iI_toInt, iJ_toInt, cmp_ge, cmp_lt, cmp_eq, cmp_gt, cmp_le, cmp_geI, cmp_ltI, cmp_eqI, cmp_gtI, cmp_leI, bI_0I, bI_1I, pin, if_true, a0, a1]
        · rw [x2, e_Dm_common_35, if_neg (by decide), if_pos (by decide)]
          simp (disch := first | omega | assumption | decide | (simp (disch := omega) only [iI_lit, iJ_lit, iJ_eq, iI_eq, bI_01, bI_01I] <;> omega)) only [e_Dm_common_84, e_Dm_common_85, e_Dm_common_88, e_Dm_common_89, e_Dm_common_92, e_Dm_common_93, e_Dm_common_94, e_Dm_common_95, e_Dm_common_98, e_Dm_common_99, e_Dm_common_100, e_Dm_common_103, e_Dm_common_104, e_Dm_common_105, e_Dm_common_108, e_Dm_common_109, e_Dm_common_110, e_Dm_common_113, e_Dm_common_114, e_Dm_common_115, e_Dm_common_118, e_Dm_common_119, e_Dm_common_120, e_Dm_common_121, e_Dm_common_122, e_Dm_common_125, bd_some, bd_none, Option.toList_some, Option.toList_none, List.nil_append, List.cons_append, px_kill_int, px_kill_long, px_kill_ref, px_kill_null, iI_lit, iJ_lit, iI_add, iI_sub, iI_mul, iI_neg, iJ_add, iJ_sub, iJ_mul, iJ_neg, iI_lt, iI_le, iI_eq, iJ_lt, iJ_le, iJ_eq, iI_div, iJ_div, tdiv_tmod, iI_J, iJ_I, iI_ix, iI_toInt, iJ_toInt, cmp_ge, cmp_lt, cmp_eq, cmp_gt, cmp_le, cmp_geI, cmp_ltI, cmp_eqI, cmp_gtI, cmp_leI, bI_0I, bI_1I, pin, if_true, a0]
        · rw [x3, e_Dm_common_35, if_neg (by decide), if_neg (by decide), if_pos (by decide)]
          simp (disch := first | omega | assumption | decide | (simp (disch := omega) only [iI_lit, iJ_lit, iJ_eq, iI_eq, bI_01, bI_01I] <;> omega)) only [e_Dm_common_84, e_Dm_common_85, e_Dm_common_88, e_Dm_common_89, e_Dm_common_92, e_Dm_common_93, e_Dm_common_94, e_Dm_common_95, e_Dm_common_98, e_Dm_common_99, e_Dm_common_100, e_Dm_common_103, e_Dm_common_104, e_Dm_common_105, e_Dm_common_108, e_Dm_common_109, e_Dm_common_110, e_Dm_common_113, e_Dm_common_114, e_Dm_common_115, e_Dm_common_118, e_Dm_common_119, e_Dm_common_120, e_Dm_common_121, e_Dm_common_122, e_Dm_common_125, bd_some, bd_none, Option.toList_some, Option.toList_none, List.nil_append, List.cons_append, px_kill_int, px_kill_long, px_kill_ref, px_kill_null, iI_lit, iJ_lit, iI_add, iI_sub, iI_mul, iI_neg, iJ_add, iJ_sub, iJ_mul, iJ_neg, iI_lt, iI_le, iI_eq, iJ_lt, iJ_le, iJ_eq, iI_div, iJ_div, tdiv_tmod, iI_J, iJ_I, iI_ix, iI_toInt, iJ_toInt, cmp_ge, cmp_lt, cmp_eq, cmp_gt, cmp_le, cmp_geI, cmp_ltI, cmp_eqI, cmp_gtI, cmp_leI, bI_0I, bI_1I, pin, if_true, a1]
        · rw [x4, e_Dm_common_35, if_neg (by decide), if_neg (by decide), if_neg (by decide), if_pos (by decide)]
          simp (disch := first | omega | assumption | decide | (simp (disch := omega) only [iI_lit, iJ_lit, iJ_eq, iI_eq, bI_01, bI_01I] <;> omega)) only [e_Dm_common_84, e_Dm_common_85, e_Dm_common_88, e_Dm_common_89, e_Dm_common_92, e_Dm_common_93, e_Dm_common_94, e_Dm_common_95, e_Dm_common_98, e_Dm_common_99, e_Dm_common_100, e_Dm_common_103, e_Dm_common_104, e_Dm_common_105, e_Dm_common_108, e_Dm_common_109, e_Dm_common_110, e_Dm_common_113, e_Dm_common_114, e_Dm_common_115, e_Dm_common_118, e_Dm_common_119, e_Dm_common_120, e_Dm_common_121, e_Dm_common_122, e_Dm_common_125, bd_some, bd_none, Option.toList_some, Option.toList_none, List.nil_append, List.cons_append, px_kill_int, px_kill_long, px_kill_ref, px_kill_null, iI_lit, iJ_lit, iI_add, iI_sub, iI_mul, iI_neg, iJ_add, iJ_sub, iJ_mul, iJ_neg, iI_lt, iI_le, iI_eq, iJ_lt, iJ_le, iJ_eq, iI_div, iJ_div, tdiv_tmod, iI_J, iJ_I, iI_ix, iI_toInt, iJ_toInt, cmp_ge, cmp_lt, cmp_eq, cmp_gt, cmp_le, cmp_geI, cmp_ltI, cmp_eqI, cmp_gtI, cmp_leI, bI_0I, bI_1I, pin, if_true, a2]
        · rw [x5, e_Dm_common_35, if_neg (by decide), if_neg (by decide), if_neg (by decide), if_neg (by decide), if_neg (by decide), if_neg (by decide), if_neg (by decide), if_neg (by decide), if_pos (by decide)]
          simp (disch := first | omega | assumption | decide | (simp (disch := omega) only [iI_lit, iJ_lit, iJ_eq, iI_eq, bI_01, bI_01I] <;> omega)) only [e_Dm_common_84, e_Dm_common_85, e_Dm_common_88, e_Dm_common_89, e_Dm_common_92, e_Dm_common_93, e_Dm_common_94, e_Dm_common_95, e_Dm_common_98, e_Dm_common_99, e_Dm_common_100, e_Dm_common_103, e_Dm_common_104, e_Dm_common_105, e_Dm_common_108, e_Dm_common_109, e_Dm_common_110, e_Dm_common_113, e_Dm_common_114, e_Dm_common_115, e_Dm_common_118, e_Dm_common_119, e_Dm_common_120, e_Dm_common_121, e_Dm_common_122, e_Dm_common_125, bd_some, bd_none, Option.toList_some, Option.toList_none, List.nil_append, List.cons_append, px_kill_int, px_kill_long, px_kill_ref, px_kill_null, iI_lit, iJ_lit, iI_add, iI_sub, iI_mul, iI_neg, iJ_add, iJ_sub, iJ_mul, iJ_neg, iI_lt, iI_le, iI_eq, iJ_lt, iJ_le, iJ_eq, iI_div, iJ_div, tdiv_tmod, iI_J, iJ_I, iI_ix, iI_toInt, iJ_toInt, cmp_ge, cmp_lt, cmp_eq, cmp_gt, cmp_le, cmp_geI, cmp_ltI, cmp_eqI, cmp_gtI, cmp_leI, bI_0I, bI_1I, pin, if_true, e8]
      · obtain ⟨T2, e2, f2, r0, r1, r2, r3⟩ := m_laysReduced G1 oW
        have ep := s_mpart (k := k - 4) (by omega) r0 r1 r2 r3
        have xk : comK w h' s k = rdK w h' s (k - 4) := by
          unfold comK
          rw [if_neg (by omega), if_neg (by omega), if_neg (by omega), if_neg (by omega), if_neg (by omega)]
        refine ⟨T2, ?_, f1'.tr (FrM.ofA f2 (fun q k z => z.elim) (fun q k z => by unfold bRm at z; omega))⟩
        have sw : rn k_Dm_common 35 [.ref 53, .int (iI (j : Int)), .int (iI k)] [.int (iI k)] (enc T1) = rn k_Dm_common 114 [.ref 53, .int (iI (j : Int)), .int (iI k)] [] (enc T1) := by
          have : k = 4 ∨ k = 5 ∨ k = 6 ∨ k = 7 := by omega
          rcases this with z | z | z | z <;> subst z <;> rw [e_Dm_common_35] <;> repeat (first | rw [if_pos (by decide)] | rw [if_neg (by decide)])
        rw [sw, xk]
        simp (disch := first | omega | assumption | decide | (simp (disch := omega) only [iI_lit, iJ_lit, iJ_eq, iI_eq, bI_01, bI_01I] <;> omega)) only [e_Dm_common_114, e_Dm_common_115, e_Dm_common_118, e_Dm_common_119, e_Dm_common_120, e_Dm_common_121, e_Dm_common_122, e_Dm_common_125, bd_some, bd_none, Option.toList_some, Option.toList_none, List.nil_append, List.cons_append, px_kill_int, px_kill_long, px_kill_ref, px_kill_null, iI_lit, iJ_lit, iI_add, iI_sub, iI_mul, iI_neg, iJ_add, iJ_sub, iJ_mul, iJ_neg, iI_lt, iI_le, iI_eq, iJ_lt, iJ_le, iJ_eq, iI_div, iJ_div, tdiv_tmod, iI_J, iJ_I, iI_ix, iI_toInt, iJ_toInt, cmp_ge, cmp_lt, cmp_eq, cmp_gt, cmp_le, cmp_geI, cmp_ltI, cmp_eqI, cmp_gtI, cmp_leI, bI_0I, bI_1I, pin, if_true, e2, ep]
    · rw [bI_fI c2] at g2
      rw [if_neg (fun z => c2 z.2)]
      refine ⟨t0 T, ?_, t0_fr T⟩
      simp (disch := first | omega | assumption | decide | (simp (disch := omega) only [iI_lit, iJ_lit, iJ_eq, iI_eq, bI_01, bI_01I] <;> omega)) only [e_Dm_common_0, e_Dm_common_1, e_Dm_common_2, e_Dm_common_5, e_Dm_common_6, e_Dm_common_7, e_Dm_common_10, e_Dm_common_13, e_Dm_common_14, e_Dm_common_15, e_Dm_common_16, e_Dm_common_19, e_Dm_common_22, e_Dm_common_25, e_Dm_common_28, e_Dm_common_29, e_Dm_common_30, e_Dm_common_31, e_Dm_common_34, c_Dm_common, bd_some, bd_none, Option.toList_some, Option.toList_none, List.nil_append, List.cons_append, px_kill_int, px_kill_long, px_kill_ref, px_kill_null, iI_lit, iJ_lit, iI_add, iI_sub, iI_mul, iI_neg, iJ_add, iJ_sub, iJ_mul, iJ_neg, iI_lt, iI_le, iI_eq, iJ_lt, iJ_le, iJ_eq, iI_div, iJ_div, tdiv_tmod, iI_J, iJ_I, iI_ix, iI_toInt, iJ_toInt, cmp_ge, cmp_lt, cmp_eq, cmp_gt, cmp_le, cmp_geI, cmp_ltI, cmp_eqI, cmp_gtI, cmp_leI, bI_0I, bI_1I, pin, if_true, g1, g2, one0, if_false]
  · rw [bI_fI c1] at g1
    rw [if_neg (fun z => c1 z.1)]
    refine ⟨t0 T, ?_, t0_fr T⟩
    simp (disch := first | omega | assumption | decide | (simp (disch := omega) only [iI_lit, iJ_lit, iJ_eq, iI_eq, bI_01, bI_01I] <;> omega)) only [e_Dm_common_0, e_Dm_common_1, e_Dm_common_2, e_Dm_common_5, e_Dm_common_6, e_Dm_common_7, e_Dm_common_10, e_Dm_common_13, e_Dm_common_14, e_Dm_common_15, e_Dm_common_16, e_Dm_common_19, e_Dm_common_22, e_Dm_common_25, e_Dm_common_28, e_Dm_common_29, e_Dm_common_30, e_Dm_common_31, e_Dm_common_34, c_Dm_common, bd_some, bd_none, Option.toList_some, Option.toList_none, List.nil_append, List.cons_append, px_kill_int, px_kill_long, px_kill_ref, px_kill_null, iI_lit, iJ_lit, iI_add, iI_sub, iI_mul, iI_neg, iJ_add, iJ_sub, iJ_mul, iJ_neg, iI_lt, iI_le, iI_eq, iJ_lt, iJ_le, iJ_eq, iI_div, iJ_div, tdiv_tmod, iI_J, iJ_I, iI_ix, iI_toInt, iJ_toInt, cmp_ge, cmp_lt, cmp_eq, cmp_gt, cmp_le, cmp_geI, cmp_ltI, cmp_eqI, cmp_gtI, cmp_leI, bI_0I, bI_1I, pin, if_true, g1]
