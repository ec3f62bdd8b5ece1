/-! bestTurn of the reference: the squares one by one. -/
theorem sqB_eq {c a : Nat} : ∀ (t b : Nat) (l : List (Nat × Nat)), (∀ q, q ∈ l → q.1 * q.1 + q.2 * q.2 = c) → ∀ q, q ∈ sqB c a l b t → q.1 * q.1 + q.2 * q.2 = c := by
  intro t
  induction t with
  | zero => intro b l h; exact h
  | succ t ih =>
    intro b l h
    rw [sqB_s]
    refine ih _ _ ?_
    split
    · rename_i e
      intro q hq
      rcases List.mem_append.mp hq with z | z
      · exact h q z
      · have : q = (a, b) := by simpa using z
        subst this
        exact e
    · exact h
theorem sqA_eq {c : Nat} : ∀ (t a : Nat) (l : List (Nat × Nat)), (∀ q, q ∈ l → q.1 * q.1 + q.2 * q.2 = c) → ∀ q, q ∈ sqA c l a t → q.1 * q.1 + q.2 * q.2 = c := by
  intro t
  induction t with
  | zero => intro a l h; exact h
  | succ t ih => intro a l h; exact ih _ _ (sqB_eq 13 0 l h)
theorem take_s {l : List (Nat × Nat)} {s : Nat} (h : s < l.length) : l.take (s + 1) = l.take s ++ [l.getD s (0, 0)] := by
  have e : l[s]? = some (l.getD s (0, 0)) := by
    rw [List.getD_eq_getElem?_getD, List.getElem?_eq_getElem h]
    rfl
  rw [List.take_succ, e]
  rfl
def nU (V : VW) (i : Nat) (b : CP) : Int := match b with
  | none => 0
  | some p => tU V i p
def nL (V : VW) (i : Nat) (b : CP) : Int := match b with
  | none => 1
  | some p => tL V i p
theorem n_bd {V : VW} (hV : okV V) {i : Nat} {b : CP} (hb : okT b) : (0 ≤ nU V i b ∧ nU V i b ≤ 429981696) ∧ (0 ≤ nL V i b ∧ nL V i b ≤ 23887872) := by
  cases b with
  | none => exact ⟨⟨by show (0 : Int) ≤ 0; omega, by show (0 : Int) ≤ 429981696; omega⟩, ⟨by show (0 : Int) ≤ 1; omega, by show (1 : Int) ≤ 23887872; omega⟩⟩
  | some p =>
    have F := lf_facts hV (hb p rfl) (lfO_ok V i p)
    exact ⟨⟨Int.le_of_lt F.2.2.1.1, F.2.2.1.2⟩, F.2.2.2.1⟩
def ixO (l : List (Nat × Nat)) (b : CP) (z : Int) : Prop := (b = none ∧ z = -1) ∨ ∃ (p : Nat × Nat) (k : Nat), b = some p ∧ k < l.length ∧ z = (k : Int) ∧ l.getD k (0, 0) = p
set_option maxHeartbeats 4000000 in
theorem lp_mbt {V : VW} (hV : okV V) {l : List (Nat × Nat)} (hlen : l.length ≤ 20) (hok : okQ l) {i : Nat} (hi : i < V.1) (hcel : ∀ q, q ∈ l → ((q.1 * q.1 + q.2 * q.2 : Nat) : Int) = celN (V.2 i)) (w : Int32) : ∀ (t s : Nat) (z : Int) (T : TS), s + t = l.length → ixO l (btX V i (l.take s)) z → cM T V → hSq T 68 69 l → T.1 53 44 = iI (l.length : Int) → ∀ a9 a10 a11 a12 a13 a14 a15 a16 a17 a18 : Value, ∃ (T' : TS) (z' : Int) (b9 b10 b11 b12 b13 b14 b15 b16 b17 b18 : Value), rn k_Dm_bestTurn 58 [.ref 53, .int (iI (i : Int)), .int w, .int (iI z), .long (iJ (nU V i (btX V i (l.take s)))), .null, .long (iJ (nL V i (btX V i (l.take s)))), .null, .int (iI (s : Int)), a9, a10, a11, a12, a13, a14, a15, a16, a17, a18] [] (enc T) = rn k_Dm_bestTurn 285 [.ref 53, .int (iI (i : Int)), .int w, .int (iI z'), .long (iJ (nU V i (btX V i l))), .null, .long (iJ (nL V i (btX V i l))), .null, .int (iI (l.length : Int)), b9, b10, b11, b12, b13, b14, b15, b16, b17, b18] [] (enc T') ∧ FrM T T' ∧ ixO l (btX V i l) z' ∧ hSq T' 68 69 l := by
  intro t
  induction t with
  | zero =>
    intro s z T hs hz h hS hn a9 a10 a11 a12 a13 a14 a15 a16 a17 a18
    have es : s = l.length := by omega
    subst es
    rw [List.take_length] at hz ⊢
    refine ⟨T, z, a9, a10, a11, a12, a13, a14, a15, a16, a17, a18, ?_, FrM.rf _, hz, hS⟩
    rw [e_Dm_bestTurn_58]
    simp (disch := first | omega | assumption | decide | (simp (disch := omega) only [iI_lit, iJ_lit, iJ_eq, iI_eq, bI_01, bI_01I] <;> omega)) only [e_Dm_bestTurn_60, e_Dm_bestTurn_61, e_Dm_bestTurn_64, bd_some, bd_none, Option.toList_some, Option.toList_none, List.nil_append, List.cons_append, px_kill_int, px_kill_long, px_kill_ref, px_kill_null, iI_lit, iJ_lit, iI_add, iI_sub, iI_mul, iI_neg, iJ_add, iJ_sub, iJ_mul, iJ_neg, iI_lt, iI_le, iI_eq, iJ_lt, iJ_le, iJ_eq, iI_div, iJ_div, tdiv_tmod, iI_J, iJ_I, iI_ix, iI_toInt, iJ_toInt, cmp_ge, cmp_lt, cmp_eq, cmp_gt, cmp_le, cmp_geI, cmp_ltI, cmp_eqI, cmp_gtI, cmp_leI, bI_0I, bI_1I, pin, if_true, hn, Int.le_refl]
  | succ t ih =>
    intro s z T hs hz h hS hn a9 a10 a11 a12 a13 a14 a15 a16 a17 a18
    have hsl : s < l.length := by omega
    have nle : ¬ (l.length : Int) ≤ (s : Int) := by omega
    have hmem := gD_mem (d := (0, 0)) hsl
    obtain ⟨q, hqe⟩ : ∃ q, l.getD s (0, 0) = q := ⟨_, rfl⟩
    rw [hqe] at hmem
    have hq : isQd q := hok q hmem
    obtain ⟨T1, b14, b15, b16, b17, b18, e1, fr1⟩ := lp_mlf hV hsl hlen hqe hq hi (hcel q hmem) w (iI z) (iJ (nU V i (btX V i (l.take s)))) (iJ (nL V i (btX V i (l.take s)))) V.1 0 none T (by omega) (fun p z => by cases z) h hS a14 a15 a16 a17 a18
    have elu : luM V q (lfA V i q none 0 V.1) = tU V i q := rfl
    have ell : llM V q (lfA V i q none 0 V.1) = tL V i q := rfl
    rw [elu, ell] at e1
    have hM1 := h.fr (FrM.mb fr1)
    have hS1 : hSq T1 68 69 l := hS.fr (fun k => fr1.1 _ _ (by unfold aMb; omega)) (fun k => fr1.1 _ _ (by unfold aMb; omega))
    have hn1 : T1.1 53 44 = iI (l.length : Int) := by rw [fr1.1 _ _ (by unfold aMb; omega)]; exact hn
    have hbt : okT (btX V i (l.take s)) := btX_ok (l.take s) none (fun q hq => hok q (List.mem_of_mem_take hq)) (fun p z => by cases z)
    have nb := n_bd hV (i := i) hbt
    have F := lf_facts hV hq (lfO_ok V i q)
    have x1 : 0 ≤ nU V i (btX V i (l.take s)) * tL V i q ∧ nU V i (btX V i (l.take s)) * tL V i q ≤ 429981696 * 23887872 := mul_bd2 nb.1 F.2.2.2.1
    have x2 : 0 ≤ tU V i q * nL V i (btX V i (l.take s)) ∧ tU V i q * nL V i (btX V i (l.take s)) ≤ 429981696 * 23887872 := mul_bd2 ⟨Int.le_of_lt F.2.2.1.1, F.2.2.1.2⟩ nb.2
    have etk : btX V i (l.take (s + 1)) = btS V i (btX V i (l.take s)) q := by rw [take_s hsl, btX_app, hqe]
    have zb : -1 ≤ z ∧ z ≤ 20 := by
      rcases hz with ⟨_, hz⟩ | ⟨p, k, _, hk, hz, _⟩ <;> omega
    have pre : rn k_Dm_bestTurn 58 [.ref 53, .int (iI (i : Int)), .int w, .int (iI z), .long (iJ (nU V i (btX V i (l.take s)))), .null, .long (iJ (nL V i (btX V i (l.take s)))), .null, .int (iI (s : Int)), a9, a10, a11, a12, a13, a14, a15, a16, a17, a18] [] (enc T) = rn k_Dm_bestTurn 249 (lMT (.int (iI (i : Int))) (.int w) (.int (iI z)) (.long (iJ (nU V i (btX V i (l.take s))))) (.long (iJ (nL V i (btX V i (l.take s))))) (.int (iI (s : Int))) (.long (iJ (tU V i q))) (.long (iJ (tL V i q))) (.int (iI (V.1 : Int))) b14 b15 b16 b17 b18) [] (enc T1) := by
      rw [e_Dm_bestTurn_58]
      simp (disch := first | omega | assumption | decide | (simp (disch := omega) only [iI_lit, iJ_lit, iJ_eq, iI_eq, bI_01, bI_01I] <;> omega)) only [e_Dm_bestTurn_60, e_Dm_bestTurn_61, e_Dm_bestTurn_64, e_Dm_bestTurn_67, e_Dm_bestTurn_68, e_Dm_bestTurn_70, e_Dm_bestTurn_71, e_Dm_bestTurn_73, e_Dm_bestTurn_74, bd_some, bd_none, Option.toList_some, Option.toList_none, List.nil_append, List.cons_append, px_kill_int, px_kill_long, px_kill_ref, px_kill_null, iI_lit, iJ_lit, iI_add, iI_sub, iI_mul, iI_neg, iJ_add, iJ_sub, iJ_mul, iJ_neg, iI_lt, iI_le, iI_eq, iJ_lt, iJ_le, iJ_eq, iI_div, iJ_div, tdiv_tmod, iI_J, iJ_I, iI_ix, iI_toInt, iJ_toInt, cmp_ge, cmp_lt, cmp_eq, cmp_gt, cmp_le, cmp_geI, cmp_ltI, cmp_eqI, cmp_gtI, cmp_leI, bI_0I, bI_1I, pin, if_true, hn, nle, if_false]
      exact e1
    have taken : (btX V i (l.take s) = none ∨ ∃ p, btX V i (l.take s) = some p ∧ tU V i p * tL V i q < tU V i q * tL V i p) → rn k_Dm_bestTurn 249 (lMT (.int (iI (i : Int))) (.int w) (.int (iI z)) (.long (iJ (nU V i (btX V i (l.take s))))) (.long (iJ (nL V i (btX V i (l.take s))))) (.int (iI (s : Int))) (.long (iJ (tU V i q))) (.long (iJ (tL V i q))) (.int (iI (V.1 : Int))) b14 b15 b16 b17 b18) [] (enc T1) = rn k_Dm_bestTurn 58 [.ref 53, .int (iI (i : Int)), .int w, .int (iI (s : Int)), .long (iJ (tU V i q)), .null, .long (iJ (tL V i q)), .null, .int (iI ((s : Int) + 1)), .long (iJ (tU V i q)), .null, .long (iJ (tL V i q)), .null, .int (iI (V.1 : Int)), b14, b15, b16, b17, b18] [] (enc T1) := by
      intro hS2
      by_cases z1 : z = -1
      · subst z1
        simp (disch := first | omega | assumption | decide | (simp (disch := omega) only [iI_lit, iJ_lit, iJ_eq, iI_eq, bI_01, bI_01I] <;> omega)) only [e_Dm_bestTurn_249, e_Dm_bestTurn_250, e_Dm_bestTurn_251, e_Dm_bestTurn_254, e_Dm_bestTurn_256, e_Dm_bestTurn_258, e_Dm_bestTurn_259, e_Dm_bestTurn_261, e_Dm_bestTurn_263, e_Dm_bestTurn_264, e_Dm_bestTurn_265, e_Dm_bestTurn_268, e_Dm_bestTurn_270, e_Dm_bestTurn_271, e_Dm_bestTurn_273, e_Dm_bestTurn_275, e_Dm_bestTurn_277, e_Dm_bestTurn_279, e_Dm_bestTurn_282, bd_some, bd_none, Option.toList_some, Option.toList_none, List.nil_append, List.cons_append, px_kill_int, px_kill_long, px_kill_ref, px_kill_null, iI_lit, iJ_lit, iI_add, iI_sub, iI_mul, iI_neg, iJ_add, iJ_sub, iJ_mul, iJ_neg, iI_lt, iI_le, iI_eq, iJ_lt, iJ_le, iJ_eq, iI_div, iJ_div, tdiv_tmod, iI_J, iJ_I, iI_ix, iI_toInt, iJ_toInt, cmp_ge, cmp_lt, cmp_eq, cmp_gt, cmp_le, cmp_geI, cmp_ltI, cmp_eqI, cmp_gtI, cmp_leI, bI_0I, bI_1I, pin, if_true]
      · have c : ¬ tU V i q * nL V i (btX V i (l.take s)) ≤ nU V i (btX V i (l.take s)) * tL V i q := by
          rcases hS2 with hS2 | ⟨p, hp, hlt⟩
          · rcases hz with ⟨_, hz⟩ | ⟨p, k, hp, hk, hz, hk2⟩
            · omega
            · rw [hp] at hS2; cases hS2
          · rw [hp]
            exact Int.not_le.mpr hlt
        simp (disch := first | omega | assumption | decide | (simp (disch := omega) only [iI_lit, iJ_lit, iJ_eq, iI_eq, bI_01, bI_01I] <;> omega)) only [e_Dm_bestTurn_249, e_Dm_bestTurn_250, e_Dm_bestTurn_251, e_Dm_bestTurn_254, e_Dm_bestTurn_256, e_Dm_bestTurn_258, e_Dm_bestTurn_259, e_Dm_bestTurn_261, e_Dm_bestTurn_263, e_Dm_bestTurn_264, e_Dm_bestTurn_265, e_Dm_bestTurn_268, e_Dm_bestTurn_270, e_Dm_bestTurn_271, e_Dm_bestTurn_273, e_Dm_bestTurn_275, e_Dm_bestTurn_277, e_Dm_bestTurn_279, e_Dm_bestTurn_282, bd_some, bd_none, Option.toList_some, Option.toList_none, List.nil_append, List.cons_append, px_kill_int, px_kill_long, px_kill_ref, px_kill_null, iI_lit, iJ_lit, iI_add, iI_sub, iI_mul, iI_neg, iJ_add, iJ_sub, iJ_mul, iJ_neg, iI_lt, iI_le, iI_eq, iJ_lt, iJ_le, iJ_eq, iI_div, iJ_div, tdiv_tmod, iI_J, iJ_I, iI_ix, iI_toInt, iJ_toInt, cmp_ge, cmp_lt, cmp_eq, cmp_gt, cmp_le, cmp_geI, cmp_ltI, cmp_eqI, cmp_gtI, cmp_leI, bI_0I, bI_1I, pin, if_true, z1, if_false, c]
    by_cases hS0 : btX V i (l.take s) = none ∨ ∃ p, btX V i (l.take s) = some p ∧ tU V i p * tL V i q < tU V i q * tL V i p
    · have hS2 : btS V i (btX V i (l.take s)) q = some q := by
        rcases hS0 with z | ⟨p, hp, hlt⟩
        · rw [z]; rfl
        · rw [hp]; exact if_pos hlt
      obtain ⟨T2, z', b9, b10, b11, b12, b13, b14', b15', b16', b17', b18', e2, fr2, hz2, hS3⟩ := ih (s + 1) (s : Int) T1 (by omega) (by rw [etk, hS2]; exact Or.inr ⟨q, s, rfl, hsl, rfl, hqe⟩) hM1 hS1 hn1 (.long (iJ (tU V i q))) .null (.long (iJ (tL V i q))) .null (.int (iI (V.1 : Int))) b14 b15 b16 b17 b18
      refine ⟨T2, z', b9, b10, b11, b12, b13, b14', b15', b16', b17', b18', ?_, (FrM.mb fr1).tr fr2, hz2, hS3⟩
      rw [pre, taken hS0]
      rw [etk, hS2, show ((s + 1 : Nat) : Int) = (s : Int) + 1 by omega] at e2
      exact e2
    · cases hb : btX V i (l.take s) with
      | none => exact absurd (Or.inl hb) hS0
      | some p =>
        have hnl : ¬ tU V i p * tL V i q < tU V i q * tL V i p := by
          intro c
          exact hS0 (Or.inr ⟨p, hb, c⟩)
        have eS : btS V i (some p) q = some p := if_neg hnl
        obtain ⟨k, hk, hzk, hk2⟩ : ∃ k : Nat, k < l.length ∧ z = (k : Int) ∧ l.getD k (0, 0) = p := by
          rcases hz with ⟨hz, _⟩ | ⟨p', k, hp, hk, hz, hk2⟩
          · rw [hb] at hz; cases hz
          · rw [hb] at hp; cases hp; exact ⟨k, hk, hz, hk2⟩
        have z1 : ¬ z = -1 := by omega
        obtain ⟨T2, z', b9, b10, b11, b12, b13, b14', b15', b16', b17', b18', e2, fr2, hz2, hS3⟩ := ih (s + 1) z T1 (by omega) (by rw [etk, hb, eS]; exact Or.inr ⟨p, k, rfl, hk, hzk, hk2⟩) hM1 hS1 hn1 (.long (iJ (tU V i q))) .null (.long (iJ (tL V i q))) .null (.int (iI (V.1 : Int))) b14 b15 b16 b17 b18
        refine ⟨T2, z', b9, b10, b11, b12, b13, b14', b15', b16', b17', b18', ?_, (FrM.mb fr1).tr fr2, hz2, hS3⟩
        rw [← hb, pre]
        rw [etk, hb, eS, show ((s + 1 : Nat) : Int) = (s : Int) + 1 by omega] at e2
        refine Eq.trans ?_ e2
        rw [hb]
        rw [hb] at x1 x2
        have c : tU V i q * nL V i (some p) ≤ nU V i (some p) * tL V i q := Int.not_lt.mp hnl
        simp (disch := first | omega | assumption | decide | (simp (disch := omega) only [iI_lit, iJ_lit, iJ_eq, iI_eq, bI_01, bI_01I] <;> omega)) only [e_Dm_bestTurn_249, e_Dm_bestTurn_250, e_Dm_bestTurn_251, e_Dm_bestTurn_254, e_Dm_bestTurn_256, e_Dm_bestTurn_258, e_Dm_bestTurn_259, e_Dm_bestTurn_261, e_Dm_bestTurn_263, e_Dm_bestTurn_264, e_Dm_bestTurn_265, e_Dm_bestTurn_268, e_Dm_bestTurn_270, e_Dm_bestTurn_271, e_Dm_bestTurn_273, e_Dm_bestTurn_275, e_Dm_bestTurn_277, e_Dm_bestTurn_279, e_Dm_bestTurn_282, bd_some, bd_none, Option.toList_some, Option.toList_none, List.nil_append, List.cons_append, px_kill_int, px_kill_long, px_kill_ref, px_kill_null, iI_lit, iJ_lit, iI_add, iI_sub, iI_mul, iI_neg, iJ_add, iJ_sub, iJ_mul, iJ_neg, iI_lt, iI_le, iI_eq, iJ_lt, iJ_le, iJ_eq, iI_div, iJ_div, tdiv_tmod, iI_J, iJ_I, iI_ix, iI_toInt, iJ_toInt, cmp_ge, cmp_lt, cmp_eq, cmp_gt, cmp_le, cmp_geI, cmp_ltI, cmp_eqI, cmp_gtI, cmp_leI, bI_0I, bI_1I, pin, if_true, z1, if_false, c]
set_option maxHeartbeats 2000000 in
theorem q_Dm_bestTurn {T : TS} {V : VW} (hV : okV V) (h : cM T V) {i k : Int} (hi : inI i) (hk : inI k) : ∃ T', cl k_Dm_bestTurn [.ref 53, .int (iI i), .int (iI k)] (enc T) = some (some (.int (iI (qBest V i k))), enc T') ∧ FrM T T' := by
  have hM : cM (t0 T) V := h.fr (t0_fr T)
  have g1 := g_inM hV hM hi
  have hh := hM.1
  have h4 := hV.1
  obtain ⟨i1, i2⟩ := id hi
  obtain ⟨k1, k2⟩ := id hk
  have g2 := s_in (x := k) (l := 0) (h := 1) (enc (t0 T)) (by omega) (by omega) (by omega)
  unfold qBest
  by_cases c1 : isK V i
  · rw [bI_tI c1] at g1
    by_cases c2 : 0 ≤ k ∧ k ≤ 1
    · rw [bI_tI c2] at g2
      by_cases c3 : 2 ≤ V.1
      · rw [if_pos ⟨c1, c2, c3⟩]
        have c3' : (2 : Int) ≤ (V.1 : Int) := by omega
        obtain ⟨j, rfl⟩ : ∃ j : Nat, i = (j : Int) := ⟨i.toNat, by omega⟩
        have hj : j < V.1 := by have := c1.2; omega
        have ej : ((j : Int)).toNat = j := by omega
        rw [ej]
        have bc := celN_bd (hV.2 j hj)
        have mc := m_cell hV hM hj
        obtain ⟨T1, e1, fr1, hS, hn⟩ := m_squares (lo := celN (V.2 j)) (hi := celN (V.2 j)) (by omega) (by omega) (by omega) (t0 T)
        have hlen := sqL_20 (lo := celN (V.2 j)) (hi := celN (V.2 j)) (by omega) (by omega) (by omega)
        have hok := sqL_ok (lo := celN (V.2 j)) (hi := celN (V.2 j)) (by omega) (by omega)
        have hcel : ∀ q, q ∈ sqL (celN (V.2 j)) (celN (V.2 j)) → ((q.1 * q.1 + q.2 * q.2 : Nat) : Int) = celN (V.2 j) := by
          rw [sqL_one]
          intro q hq
          have := sqA_eq 12 1 [] (fun q z => by cases z) q hq
          omega
        have eZ : btZ V j = btX V j (sqL (celN (V.2 j)) (celN (V.2 j))) := rfl
        rw [eZ]
        generalize sqL (celN (V.2 j)) (celN (V.2 j)) = l at *
        obtain ⟨T2, z', b9, b10, b11, b12, b13, b14, b15, b16, b17, b18, e2, fr2, hz, hS2⟩ := lp_mbt hV hlen hok hj hcel (iI k) l.length 0 (-1) T1 (by omega) (Or.inl ⟨rfl, rfl⟩) (hM.fr fr1) hS hn .null .null .null .null .null .null .null .null .null .null
        refine ⟨T2, ?_, ((t0_fr T).tr fr1).tr fr2⟩
        have go : cl k_Dm_bestTurn [.ref 53, .int (iI (j : Int)), .int (iI k)] (enc T) = rn k_Dm_bestTurn 285 [.ref 53, .int (iI (j : Int)), .int (iI k), .int (iI z'), .long (iJ (nU V j (btX V j l))), .null, .long (iJ (nL V j (btX V j l))), .null, .int (iI (l.length : Int)), b9, b10, b11, b12, b13, b14, b15, b16, b17, b18] [] (enc T2) := by
          simp (disch := first | omega | assumption | decide | (simp (disch := omega) only [iI_lit, iJ_lit, iJ_eq, iI_eq, bI_01, bI_01I] <;> omega)) only [c_Dm_bestTurn, e_Dm_bestTurn_0, e_Dm_bestTurn_1, e_Dm_bestTurn_2, e_Dm_bestTurn_5, e_Dm_bestTurn_6, e_Dm_bestTurn_7, e_Dm_bestTurn_10, e_Dm_bestTurn_13, e_Dm_bestTurn_14, e_Dm_bestTurn_15, e_Dm_bestTurn_16, e_Dm_bestTurn_17, e_Dm_bestTurn_20, e_Dm_bestTurn_23, e_Dm_bestTurn_24, e_Dm_bestTurn_27, e_Dm_bestTurn_28, e_Dm_bestTurn_31, e_Dm_bestTurn_32, e_Dm_bestTurn_33, e_Dm_bestTurn_34, e_Dm_bestTurn_35, e_Dm_bestTurn_36, e_Dm_bestTurn_39, e_Dm_bestTurn_40, e_Dm_bestTurn_41, e_Dm_bestTurn_44, e_Dm_bestTurn_47, e_Dm_bestTurn_48, e_Dm_bestTurn_49, e_Dm_bestTurn_50, e_Dm_bestTurn_52, e_Dm_bestTurn_53, e_Dm_bestTurn_55, e_Dm_bestTurn_56, bd_some, bd_none, Option.toList_some, Option.toList_none, List.nil_append, List.cons_append, px_kill_int, px_kill_long, px_kill_ref, px_kill_null, iI_lit, iJ_lit, iI_add, iI_sub, iI_mul, iI_neg, iJ_add, iJ_sub, iJ_mul, iJ_neg, iI_lt, iI_le, iI_eq, iJ_lt, iJ_le, iJ_eq, iI_div, iJ_div, tdiv_tmod, iI_J, iJ_I, iI_ix, iI_toInt, iJ_toInt, cmp_ge, cmp_lt, cmp_eq, cmp_gt, cmp_le, cmp_geI, cmp_ltI, cmp_eqI, cmp_gtI, cmp_leI, bI_0I, bI_1I, pin, if_true, g1, g2, hh, c3', one0, if_false, mc, e1]
          exact e2
        rw [go]
        generalize btX V j l = B at *
        rcases hz with ⟨hB, hz⟩ | ⟨p, n, hB, hn', hz, hp⟩
        · subst hB
          subst hz
          have e3 : kA none = -1 := rfl
          have e4 : kB none = -1 := rfl
          rw [e3, e4]
          have e5 : (if k = 0 then (-1 : Int) else -1) = -1 := by split <;> rfl
          rw [e5]
          simp (disch := first | omega | assumption | decide | (simp (disch := omega) only [iI_lit, iJ_lit, iJ_eq, iI_eq, bI_01, bI_01I] <;> omega)) only [e_Dm_bestTurn_285, e_Dm_bestTurn_286, e_Dm_bestTurn_287, e_Dm_bestTurn_290, e_Dm_bestTurn_291, e_Dm_bestTurn_294, e_Dm_bestTurn_295, e_Dm_bestTurn_298, e_Dm_bestTurn_299, e_Dm_bestTurn_302, e_Dm_bestTurn_303, e_Dm_bestTurn_304, e_Dm_bestTurn_307, e_Dm_bestTurn_308, e_Dm_bestTurn_311, e_Dm_bestTurn_312, e_Dm_bestTurn_313, bd_some, bd_none, Option.toList_some, Option.toList_none, List.nil_append, List.cons_append, px_kill_int, px_kill_long, px_kill_ref, px_kill_null, iI_lit, iJ_lit, iI_add, iI_sub, iI_mul, iI_neg, iJ_add, iJ_sub, iJ_mul, iJ_neg, iI_lt, iI_le, iI_eq, iJ_lt, iJ_le, iJ_eq, iI_div, iJ_div, tdiv_tmod, iI_J, iJ_I, iI_ix, iI_toInt, iJ_toInt, cmp_ge, cmp_lt, cmp_eq, cmp_gt, cmp_le, cmp_geI, cmp_ltI, cmp_eqI, cmp_gtI, cmp_leI, bI_0I, bI_1I, pin, if_true]
        · subst hB
          subst hz
          obtain ⟨hA, hB⟩ := hS2 n hn'
          rw [hp] at hA hB
          have nz : ¬ (n : Int) = -1 := by omega
          have en : ((n : Int)).toNat = n := by omega
          have e3 : kA (some p) = (p.1 : Int) := rfl
          have e4 : kB (some p) = (p.2 : Int) := rfl
          rw [e3, e4]
          by_cases k0 : k = 0
          · subst k0
            simp (disch := first | omega | assumption | decide | (simp (disch := omega) only [iI_lit, iJ_lit, iJ_eq, iI_eq, bI_01, bI_01I] <;> omega)) only [e_Dm_bestTurn_285, e_Dm_bestTurn_286, e_Dm_bestTurn_287, e_Dm_bestTurn_290, e_Dm_bestTurn_291, e_Dm_bestTurn_294, e_Dm_bestTurn_295, e_Dm_bestTurn_298, e_Dm_bestTurn_299, e_Dm_bestTurn_302, e_Dm_bestTurn_303, e_Dm_bestTurn_304, e_Dm_bestTurn_307, e_Dm_bestTurn_308, e_Dm_bestTurn_311, e_Dm_bestTurn_312, e_Dm_bestTurn_313, bd_some, bd_none, Option.toList_some, Option.toList_none, List.nil_append, List.cons_append, px_kill_int, px_kill_long, px_kill_ref, px_kill_null, iI_lit, iJ_lit, iI_add, iI_sub, iI_mul, iI_neg, iJ_add, iJ_sub, iJ_mul, iJ_neg, iI_lt, iI_le, iI_eq, iJ_lt, iJ_le, iJ_eq, iI_div, iJ_div, tdiv_tmod, iI_J, iJ_I, iI_ix, iI_toInt, iJ_toInt, cmp_ge, cmp_lt, cmp_eq, cmp_gt, cmp_le, cmp_geI, cmp_ltI, cmp_eqI, cmp_gtI, cmp_leI, bI_0I, bI_1I, pin, if_true, nz, if_false, sh_n68, sh_n69, en, hA, hB]
          · have k1 : k = 1 := by omega
            subst k1
            simp (disch := first | omega | assumption | decide | (simp (disch := omega) only [iI_lit, iJ_lit, iJ_eq, iI_eq, bI_01, bI_01I] <;> omega)) only [e_Dm_bestTurn_285, e_Dm_bestTurn_286, e_Dm_bestTurn_287, e_Dm_bestTurn_290, e_Dm_bestTurn_291, e_Dm_bestTurn_294, e_Dm_bestTurn_295, e_Dm_bestTurn_298, e_Dm_bestTurn_299, e_Dm_bestTurn_302, e_Dm_bestTurn_303, e_Dm_bestTurn_304, e_Dm_bestTurn_307, e_Dm_bestTurn_308, e_Dm_bestTurn_311, e_Dm_bestTurn_312, e_Dm_bestTurn_313, bd_some, bd_none, Option.toList_some, Option.toList_none, List.nil_append, List.cons_append, px_kill_int, px_kill_long, px_kill_ref, px_kill_null, iI_lit, iJ_lit, iI_add, iI_sub, iI_mul, iI_neg, iJ_add, iJ_sub, iJ_mul, iJ_neg, iI_lt, iI_le, iI_eq, iJ_lt, iJ_le, iJ_eq, iI_div, iJ_div, tdiv_tmod, iI_J, iJ_I, iI_ix, iI_toInt, iJ_toInt, cmp_ge, cmp_lt, cmp_eq, cmp_gt, cmp_le, cmp_geI, cmp_ltI, cmp_eqI, cmp_gtI, cmp_leI, bI_0I, bI_1I, pin, if_true, nz, one0, if_false, sh_n68, sh_n69, en, hA, hB]
      · rw [if_neg (fun z => c3 z.2.2)]
        have c3' : ¬ (2 : Int) ≤ (V.1 : Int) := by omega
        refine ⟨t0 T, ?_, t0_fr T⟩
        simp (disch := first | omega | assumption | decide | (simp (disch := omega) only [iI_lit, iJ_lit, iJ_eq, iI_eq, bI_01, bI_01I] <;> omega)) only [c_Dm_bestTurn, e_Dm_bestTurn_0, e_Dm_bestTurn_1, e_Dm_bestTurn_2, e_Dm_bestTurn_5, e_Dm_bestTurn_6, e_Dm_bestTurn_7, e_Dm_bestTurn_10, e_Dm_bestTurn_13, e_Dm_bestTurn_14, e_Dm_bestTurn_15, e_Dm_bestTurn_16, e_Dm_bestTurn_17, e_Dm_bestTurn_20, e_Dm_bestTurn_23, e_Dm_bestTurn_24, e_Dm_bestTurn_27, e_Dm_bestTurn_28, e_Dm_bestTurn_31, e_Dm_bestTurn_32, e_Dm_bestTurn_33, e_Dm_bestTurn_34, e_Dm_bestTurn_35, e_Dm_bestTurn_36, e_Dm_bestTurn_39, e_Dm_bestTurn_40, e_Dm_bestTurn_41, e_Dm_bestTurn_44, e_Dm_bestTurn_47, e_Dm_bestTurn_48, e_Dm_bestTurn_49, e_Dm_bestTurn_50, e_Dm_bestTurn_52, e_Dm_bestTurn_53, e_Dm_bestTurn_55, e_Dm_bestTurn_56, bd_some, bd_none, Option.toList_some, Option.toList_none, List.nil_append, List.cons_append, px_kill_int, px_kill_long, px_kill_ref, px_kill_null, iI_lit, iJ_lit, iI_add, iI_sub, iI_mul, iI_neg, iJ_add, iJ_sub, iJ_mul, iJ_neg, iI_lt, iI_le, iI_eq, iJ_lt, iJ_le, iJ_eq, iI_div, iJ_div, tdiv_tmod, iI_J, iJ_I, iI_ix, iI_toInt, iJ_toInt, cmp_ge, cmp_lt, cmp_eq, cmp_gt, cmp_le, cmp_geI, cmp_ltI, cmp_eqI, cmp_gtI, cmp_leI, bI_0I, bI_1I, pin, if_true, g1, g2, hh, c3', one0, if_false]
    · rw [bI_fI c2] at g2
      rw [if_neg (fun z => c2 z.2.1)]
      refine ⟨t0 T, ?_, t0_fr T⟩
      simp (disch := first | omega | assumption | decide | (simp (disch := omega) only [iI_lit, iJ_lit, iJ_eq, iI_eq, bI_01, bI_01I] <;> omega)) only [c_Dm_bestTurn, e_Dm_bestTurn_0, e_Dm_bestTurn_1, e_Dm_bestTurn_2, e_Dm_bestTurn_5, e_Dm_bestTurn_6, e_Dm_bestTurn_7, e_Dm_bestTurn_10, e_Dm_bestTurn_13, e_Dm_bestTurn_14, e_Dm_bestTurn_15, e_Dm_bestTurn_16, e_Dm_bestTurn_17, e_Dm_bestTurn_20, e_Dm_bestTurn_23, e_Dm_bestTurn_24, e_Dm_bestTurn_27, e_Dm_bestTurn_28, e_Dm_bestTurn_31, e_Dm_bestTurn_32, e_Dm_bestTurn_33, e_Dm_bestTurn_34, e_Dm_bestTurn_35, e_Dm_bestTurn_36, e_Dm_bestTurn_39, e_Dm_bestTurn_40, e_Dm_bestTurn_41, e_Dm_bestTurn_44, e_Dm_bestTurn_47, e_Dm_bestTurn_48, e_Dm_bestTurn_49, e_Dm_bestTurn_50, e_Dm_bestTurn_52, e_Dm_bestTurn_53, e_Dm_bestTurn_55, e_Dm_bestTurn_56, bd_some, bd_none, Option.toList_some, Option.toList_none, List.nil_append, List.cons_append, px_kill_int, px_kill_long, px_kill_ref, px_kill_null, iI_lit, iJ_lit, iI_add, iI_sub, iI_mul, iI_neg, iJ_add, iJ_sub, iJ_mul, iJ_neg, iI_lt, iI_le, iI_eq, iJ_lt, iJ_le, iJ_eq, iI_div, iJ_div, tdiv_tmod, iI_J, iJ_I, iI_ix, iI_toInt, iJ_toInt, cmp_ge, cmp_lt, cmp_eq, cmp_gt, cmp_le, cmp_geI, cmp_ltI, cmp_eqI, cmp_gtI, cmp_leI, bI_0I, bI_1I, pin, if_true, g1, g2, one0, if_false]
  · rw [bI_fI c1] at g1
    rw [if_neg (fun z => c1 z.1)]
    refine ⟨t0 T, ?_, t0_fr T⟩
    simp (disch := first | omega | assumption | decide | (simp (disch := omega) only [iI_lit, iJ_lit, iJ_eq, iI_eq, bI_01, bI_01I] <;> omega)) only [c_Dm_bestTurn, e_Dm_bestTurn_0, e_Dm_bestTurn_1, e_Dm_bestTurn_2, e_Dm_bestTurn_5, e_Dm_bestTurn_6, e_Dm_bestTurn_7, e_Dm_bestTurn_10, e_Dm_bestTurn_13, e_Dm_bestTurn_14, e_Dm_bestTurn_15, e_Dm_bestTurn_16, e_Dm_bestTurn_17, e_Dm_bestTurn_20, e_Dm_bestTurn_23, e_Dm_bestTurn_24, e_Dm_bestTurn_27, e_Dm_bestTurn_28, e_Dm_bestTurn_31, e_Dm_bestTurn_32, e_Dm_bestTurn_33, e_Dm_bestTurn_34, e_Dm_bestTurn_35, e_Dm_bestTurn_36, e_Dm_bestTurn_39, e_Dm_bestTurn_40, e_Dm_bestTurn_41, e_Dm_bestTurn_44, e_Dm_bestTurn_47, e_Dm_bestTurn_48, e_Dm_bestTurn_49, e_Dm_bestTurn_50, e_Dm_bestTurn_52, e_Dm_bestTurn_53, e_Dm_bestTurn_55, e_Dm_bestTurn_56, bd_some, bd_none, Option.toList_some, Option.toList_none, List.nil_append, List.cons_append, px_kill_int, px_kill_long, px_kill_ref, px_kill_null, iI_lit, iJ_lit, iI_add, iI_sub, iI_mul, iI_neg, iJ_add, iJ_sub, iJ_mul, iJ_neg, iI_lt, iI_le, iI_eq, iJ_lt, iJ_le, iJ_eq, iI_div, iJ_div, tdiv_tmod, iI_J, iJ_I, iI_ix, iI_toInt, iJ_toInt, cmp_ge, cmp_lt, cmp_eq, cmp_gt, cmp_le, cmp_geI, cmp_ltI, cmp_eqI, cmp_gtI, cmp_leI, bI_0I, bI_1I, pin, if_true, g1]
