/-! the component joins, lets homes come in. -/
theorem gM.hang {T : TS} {e : Nat → Prop} {rt : Nat → Nat} {mx my sz : Nat → Int} (h : gM T e rt mx my sz) {l g : Nat} {x y : Int} : gM (sI (sI (sI (sI T 8 l (iI (g : Int))) 9 l (iI x)) 10 l (iI y)) 11 g (iI (sz g + sz l))) e (upN rt l g) (upN mx l x) (upN my l y) (upN sz g (sz g + sz l)) := by
  intro k hk
  obtain ⟨h1, h2, h3, h4⟩ := h k hk
  refine ⟨?_, ?_, ?_, ?_⟩
  · by_cases c : k = l
    · subst c; rw [upN_s]; simp only [sI_get, sJ_get, sI_2, sJ_1, sJ_22, sR_1, sR_21, Nat.reduceEqDiff, and_true, true_and, and_false, false_and, and_self, if_true, if_false, reduceIte]
    · rw [upN_o _ _ c]; simp only [sI_get, sJ_get, sI_2, sJ_1, sJ_22, sR_1, sR_21, Nat.reduceEqDiff, and_true, true_and, and_false, false_and, and_self, if_true, if_false, reduceIte, c]; exact h1
  · by_cases c : k = l
    · subst c; rw [upN_s]; simp only [sI_get, sJ_get, sI_2, sJ_1, sJ_22, sR_1, sR_21, Nat.reduceEqDiff, and_true, true_and, and_false, false_and, and_self, if_true, if_false, reduceIte]
    · rw [upN_o _ _ c]; simp only [sI_get, sJ_get, sI_2, sJ_1, sJ_22, sR_1, sR_21, Nat.reduceEqDiff, and_true, true_and, and_false, false_and, and_self, if_true, if_false, reduceIte, c]; exact h2
  · by_cases c : k = l
    · subst c; rw [upN_s]; simp only [sI_get, sJ_get, sI_2, sJ_1, sJ_22, sR_1, sR_21, Nat.reduceEqDiff, and_true, true_and, and_false, false_and, and_self, if_true, if_false, reduceIte]
    · rw [upN_o _ _ c]; simp only [sI_get, sJ_get, sI_2, sJ_1, sJ_22, sR_1, sR_21, Nat.reduceEqDiff, and_true, true_and, and_false, false_and, and_self, if_true, if_false, reduceIte, c]; exact h3
  · by_cases c : k = g
    · subst c; rw [upN_s]; simp only [sI_get, sJ_get, sI_2, sJ_1, sJ_22, sR_1, sR_21, Nat.reduceEqDiff, and_true, true_and, and_false, false_and, and_self, if_true, if_false, reduceIte]
    · rw [upN_o _ _ c]; simp only [sI_get, sJ_get, sI_2, sJ_1, sJ_22, sR_1, sR_21, Nat.reduceEqDiff, and_true, true_and, and_false, false_and, and_self, if_true, if_false, reduceIte, c]; exact h4
theorem gM.new {T : TS} {e e' : Nat → Prop} {rt : Nat → Nat} {mx my sz : Nat → Int} (h : gM T e rt mx my sz) {c : Nat} (he : ∀ k, e' k ↔ (e k ∨ k = c)) : gM (sI (sI (sI (sI T 8 c (iI (c : Int))) 9 c (iI 0)) 10 c (iI 0)) 11 c (iI 1)) e' (upN rt c c) (upN mx c 0) (upN my c 0) (upN sz c 1) := by
  intro k hk
  by_cases q : k = c
  · subst q
    rw [upN_s, upN_s, upN_s, upN_s]
    refine ⟨?_, ?_, ?_, ?_⟩ <;> simp only [sI_get, sJ_get, sI_2, sJ_1, sJ_22, sR_1, sR_21, Nat.reduceEqDiff, and_true, true_and, and_false, false_and, and_self, if_true, if_false, reduceIte]
  · obtain ⟨h1, h2, h3, h4⟩ := h k (((he k).mp hk).resolve_right q)
    rw [upN_o _ _ q, upN_o _ _ q, upN_o _ _ q, upN_o _ _ q]
    refine ⟨?_, ?_, ?_, ?_⟩ <;> simp only [sI_get, sJ_get, sI_2, sJ_1, sJ_22, sR_1, sR_21, Nat.reduceEqDiff, and_true, true_and, and_false, false_and, and_self, if_true, if_false, reduceIte, q]
    · exact h1
    · exact h2
    · exact h3
    · exact h4
/-- the component while a level is on its way -/
def grQ (H : Int → Int → Nat) (X Y : Nat → Int) (N : Nat) (P Q : Nat → Prop) (r : Nat) (e : Nat → Prop) (D : Nat → Nat → Prop) (T : TS) : Prop :=
  ∃ (rt : Nat → Nat) (mx my sz : Nat → Int) (F : Nat → Nat) (wx wy : Nat → Int) (t so : Nat) (ux uy : Int), gI H X Y N e D rt mx my sz F wx wy ∧ gM T e rt mx my sz ∧ gR T t so ux uy ∧ tI (clX H X Y (fun k => X k + wx k)) (clY H X Y (fun k => Y k + wy k)) D t so ux uy ∧ midL P r t ∧ midL Q r so ∧ T.1 7 6 = iI (cnt (rtS e F) N : Int)
theorem grQ.cgD {H : Int → Int → Nat} {X Y : Nat → Int} {N : Nat} {P Q : Nat → Prop} {r : Nat} {e : Nat → Prop} {D D' : Nat → Nat → Prop} {T : TS} (h : grQ H X Y N P Q r e D T) (hD : ∀ k s, D k s ↔ D' k s) : grQ H X Y N P Q r e D' T := by
  have : D = D' := funext fun k => funext fun s => propext (hD k s)
  rw [← this]
  exact h
set_option maxHeartbeats 1000000 in
theorem s_join {H : Int → Int → Nat} (hH : hInv H) {X Y : Nat → Int} {N : Nat} (hr : hRep H N X Y) (hN : N ≤ 144) {P Q : Nat → Prop} {r : Nat} (hr2 : r ≤ 200) {e : Nat → Prop} {D : Nat → Nat → Prop} {T : TS} (hS : grQ H X Y N P Q r e D T) {c i : Nat} (hc : e c) (hb : e (nbH H X Y c i)) {vx vy : Int} (hvx : vx = X c + dX i - X (nbH H X Y c i)) (hvy : vy = Y c + dY i - Y (nbH H X Y c i)) :
    ∃ T', cl k_Growth_join [.ref 7, .int (iI (c : Int)), .int (iI (nbH H X Y c i : Int)), .int (iI vx), .int (iI vy), .int (iI ((r : Int) + 1))] (enc T) = some (none, enc T') ∧ FrI aGro T T' ∧ grQ H X Y N P Q r e (D1 D c i) T' := by
  obtain ⟨rt, mx, my, sz, F, wx, wy, t, so, ux, uy, hg, hm, hR, hT, hP, hQ, hL⟩ := hS
  obtain ⟨T1, e1, fr1, f4, f5⟩ := s_find hN hg.1 hc hm
  obtain ⟨T2, e2, fr2, g4, g5⟩ := s_find hN hg.1 hb (hm.fnd fr1)
  have fr12 := fr1.tr fr2
  have hm2 := hm.fnd fr12
  have rd : ∀ k, k ≠ 4 → k ≠ 5 → T2.1 7 k = T.1 7 k := fun k q1 q2 => fr12.1 7 k (by unfold aFnd; omega)
  have hR2 : gR T2 t so ux uy := by
    obtain ⟨q1, q2, q3, q4⟩ := hR
    exact ⟨by rw [rd _ (by omega) (by omega)]; exact q1, by rw [rd _ (by omega) (by omega)]; exact q2, by rw [rd _ (by omega) (by omega)]; exact q3, by rw [rd _ (by omega) (by omega)]; exact q4⟩
  have hL2 : T2.1 7 6 = iI (cnt (rtS e F) N : Int) := by rw [rd _ (by omega) (by omega)]; exact hL
  have bF := (hg.1 _ (hg.1 c hc).1.2.2.1).1
  have bG := (hg.1 _ (hg.1 _ hb).1.2.2.1).1
  have cX : clX H X Y (fun k => X k + wx k) c i = wx c + vx - wx (nbH H X Y c i) := by unfold clX; rw [hvx]; dsimp only; omega
  have cY : clY H X Y (fun k => Y k + wy k) c i = wy c + vy - wy (nbH H X Y c i) := by unfold clY; rw [hvy]; dsimp only; omega
  have frG : FrI aGro T T2 := fr12.mono (fun q k z => by unfold aFnd at z; unfold aGro; omega)
  by_cases q : F c = F (nbH H X Y c i)
  · have wd := hg.wide hb hc q.symm
    have dd : -1 ≤ dX i ∧ dX i ≤ 1 ∧ -1 ≤ dY i ∧ dY i ≤ 1 := by
      match i with
      | 0 => simp only [dX, dY]; omega
      | 1 => simp only [dX, dY]; omega
      | 2 => simp only [dX, dY]; omega
      | n + 3 => simp only [dX, dY]; omega
    obtain ⟨T3, t', so', ux', uy', e3, fr3, hR3, hT3, hP3, hQ3⟩ := s_round hr2 hR2 hT hP hQ (k := c) (s := i) (by rw [cX, cY, hvx, hvy]; omega)
    rw [cX, cY] at e3
    have q' : ((F c : Nat) : Int) = (F (nbH H X Y c i) : Int) := by omega
    refine ⟨T3, ?_, frG.tr (fr3.mono (fun q k z => by unfold aRou at z; unfold aGro; omega)), rt, mx, my, sz, F, wx, wy, t', so', ux', uy', hg.more (fun k s d => ?_), hm2.fr (fun q k q1 q2 => fr3.1 q k (by unfold aRou; omega)), hR3, hT3, hP3, hQ3, by rw [fr3.1 _ _ (by unfold aRou; omega)]; exact hL2⟩
    · simp (disch := first | omega | assumption | decide | (simp (disch := omega) only [iI_lit, iJ_lit, iJ_eq, iI_eq, bI_01, bI_01I] <;> omega)) only [c_Growth_join, e_Growth_join_0, e_Growth_join_1, e_Growth_join_2, e_Growth_join_5, e_Growth_join_7, e_Growth_join_8, e_Growth_join_11, e_Growth_join_12, e_Growth_join_13, e_Growth_join_15, e_Growth_join_16, e_Growth_join_19, e_Growth_join_21, e_Growth_join_22, e_Growth_join_24, e_Growth_join_25, e_Growth_join_26, e_Growth_join_29, e_Growth_join_31, e_Growth_join_33, e_Growth_join_34, e_Growth_join_37, e_Growth_join_38, e_Growth_join_40, e_Growth_join_42, e_Growth_join_43, e_Growth_join_46, e_Growth_join_47, e_Growth_join_49, e_Growth_join_51, e_Growth_join_53, e_Growth_join_56, e_Growth_join_57, e_Growth_join_59, e_Growth_join_61, e_Growth_join_63, e_Growth_join_66, e_Growth_join_67, e_Growth_join_68, e_Growth_join_69, e_Growth_join_72, e_Growth_join_73, e_Growth_join_74, e_Growth_join_77, e_Growth_join_78, e_Growth_join_81, e_Growth_join_83, e_Growth_join_84, e_Growth_join_85, e_Growth_join_88, e_Growth_join_90, e_Growth_join_91, e_Growth_join_94, e_Growth_join_95, e_Growth_join_97, e_Growth_join_99, e_Growth_join_101, e_Growth_join_102, e_Growth_join_104, e_Growth_join_105, e_Growth_join_108, e_Growth_join_111, e_Growth_join_112, e_Growth_join_114, e_Growth_join_116, e_Growth_join_118, e_Growth_join_120, e_Growth_join_123, bd_some, bd_none, Option.toList_some, Option.toList_none, List.nil_append, List.cons_append, px_kill_int, px_kill_long, px_kill_ref, px_kill_null, iI_lit, iJ_lit, iI_add, iI_sub, iI_mul, iI_neg, iJ_add, iJ_sub, iJ_mul, iJ_neg, iI_lt, iI_le, iI_eq, iJ_lt, iJ_le, iJ_eq, iI_div, iJ_div, tdiv_tmod, iI_J, iJ_I, iI_ix, iI_toInt, iJ_toInt, cmp_ge, cmp_lt, cmp_eq, cmp_gt, cmp_le, cmp_geI, cmp_ltI, cmp_eqI, cmp_gtI, cmp_leI, bI_0I, bI_1I, pin, if_true, e1, f4, f5, e2, g4, g5, q', e3]
    · rcases d with d | ⟨rfl, rfl⟩
      · exact Or.inl d
      · exact Or.inr ⟨hc, hb, q.symm⟩
  · have q' : ¬ ((F c : Nat) : Int) = (F (nbH H X Y c i) : Int) := by omega
    have sA := (hm2 _ (hg.1 c hc).1.2.2.1).2.2.2
    have sB := (hm2 _ (hg.1 _ hb).1.2.2.1).2.2.2
    have eA : ((F c : Nat) : Int).toNat = F c := by omega
    have eB : ((F (nbH H X Y c i) : Nat) : Int).toNat = F (nbH H X Y c i) := by omega
    have frL : FrI aGro T (sI T2 7 6 (iI ((cnt (rtS e F) N : Int) - 1))) := frG.wr _ (by unfold aGro; omega)
    have hmL : gM (sI T2 7 6 (iI ((cnt (rtS e F) N : Int) - 1))) e rt mx my sz := hm2.fr (fun q k q1 q2 => by rw [sI_get, if_neg (by omega)])
    by_cases s1 : sz (F c) < sz (F (nbH H X Y c i))
    · have s1' : ¬ sz (F (nbH H X Y c i)) ≤ sz (F c) := by omega
      obtain ⟨hG, hC⟩ := hg.hang hH hr (j0 := c) (k0 := nbH H X Y c i) (s0 := opS i) hc hb (nbH_op hH hr (hg.1 c hc).1.1 i) q (x := -(wx c + vx - wx (nbH H X Y c i))) (y := -(wy c + vy - wy (nbH H X Y c i))) (by rw [(opS_d i).1, hvx]; omega) (by rw [(opS_d i).2, hvy]; omega)
      have e3 := s_hang (T := sI T2 7 6 (iI ((cnt (rtS e F) N : Int) - 1))) (l := F c) (g := F (nbH H X Y c i)) (x := -(wx c + vx - wx (nbH H X Y c i))) (y := -(wy c + vy - wy (nbH H X Y c i))) (by omega) (by omega) (by simp only [sI_get, sJ_get, sI_2, sJ_1, sJ_22, sR_1, sR_21, Nat.reduceEqDiff, and_true, true_and, and_false, false_and, and_self, if_true, if_false, reduceIte]; exact sB) (by simp only [sI_get, sJ_get, sI_2, sJ_1, sJ_22, sR_1, sR_21, Nat.reduceEqDiff, and_true, true_and, and_false, false_and, and_self, if_true, if_false, reduceIte]; exact sA)
      refine ⟨_, ?_, (((frL.wr _ ?_).wr _ ?_).wr _ ?_).wr _ ?_, _, _, _, _, _, _, _, t, so, ux, uy, hG.more ?_, hmL.hang, ?_, ?_, hP, hQ, ?_⟩
      · simp (disch := first | omega | assumption | decide | (simp (disch := omega) only [iI_lit, iJ_lit, iJ_eq, iI_eq, bI_01, bI_01I] <;> omega)) only [c_Growth_join, e_Growth_join_0, e_Growth_join_1, e_Growth_join_2, e_Growth_join_5, e_Growth_join_7, e_Growth_join_8, e_Growth_join_11, e_Growth_join_12, e_Growth_join_13, e_Growth_join_15, e_Growth_join_16, e_Growth_join_19, e_Growth_join_21, e_Growth_join_22, e_Growth_join_24, e_Growth_join_25, e_Growth_join_26, e_Growth_join_29, e_Growth_join_31, e_Growth_join_33, e_Growth_join_34, e_Growth_join_37, e_Growth_join_38, e_Growth_join_40, e_Growth_join_42, e_Growth_join_43, e_Growth_join_46, e_Growth_join_47, e_Growth_join_49, e_Growth_join_51, e_Growth_join_53, e_Growth_join_56, e_Growth_join_57, e_Growth_join_59, e_Growth_join_61, e_Growth_join_63, e_Growth_join_66, e_Growth_join_67, e_Growth_join_68, e_Growth_join_69, e_Growth_join_72, e_Growth_join_73, e_Growth_join_74, e_Growth_join_77, e_Growth_join_78, e_Growth_join_81, e_Growth_join_83, e_Growth_join_84, e_Growth_join_85, e_Growth_join_88, e_Growth_join_90, e_Growth_join_91, e_Growth_join_94, e_Growth_join_95, e_Growth_join_97, e_Growth_join_99, e_Growth_join_101, e_Growth_join_102, e_Growth_join_104, e_Growth_join_105, e_Growth_join_108, e_Growth_join_111, e_Growth_join_112, e_Growth_join_114, e_Growth_join_116, e_Growth_join_118, e_Growth_join_120, e_Growth_join_123, bd_some, bd_none, Option.toList_some, Option.toList_none, List.nil_append, List.cons_append, px_kill_int, px_kill_long, px_kill_ref, px_kill_null, iI_lit, iJ_lit, iI_add, iI_sub, iI_mul, iI_neg, iJ_add, iJ_sub, iJ_mul, iJ_neg, iI_lt, iI_le, iI_eq, iJ_lt, iJ_le, iJ_eq, iI_div, iJ_div, tdiv_tmod, iI_J, iJ_I, iI_ix, iI_toInt, iJ_toInt, cmp_ge, cmp_lt, cmp_eq, cmp_gt, cmp_le, cmp_geI, cmp_ltI, cmp_eqI, cmp_gtI, cmp_leI, bI_0I, bI_1I, pin, if_true, sI_get, sJ_get, sI_2, sJ_1, sJ_22, sR_1, sR_21, Nat.reduceEqDiff, and_true, true_and, and_false, false_and, and_self, if_true, if_false, reduceIte, e1, f4, f5, e2, g4, g5, q', hL2, sh_n11, eA, eB, sA, sB, s1', e3]
      · unfold aGro; omega
      · unfold aGro; omega
      · unfold aGro; omega
      · unfold aGro; omega
      · intro k s d
        rcases d with d | ⟨rfl, rfl⟩
        · exact Or.inl d
        · refine Or.inr ⟨hc, hb, ?_⟩
          show (if F (nbH H X Y k s) = F k then F (nbH H X Y k s) else F (nbH H X Y k s)) = (if F k = F k then F (nbH H X Y k s) else F k)
          rw [if_pos rfl, if_neg (fun z => q z.symm)]
      · obtain ⟨r1, r2, r3, r4⟩ := hR2
        refine ⟨?_, ?_, ?_, ?_⟩ <;> simp only [sI_get, sJ_get, sI_2, sJ_1, sJ_22, sR_1, sR_21, Nat.reduceEqDiff, and_true, true_and, and_false, false_and, and_self, if_true, if_false, reduceIte] <;> assumption
      · refine tI.nil (tI.cg hT (fun k s d => ?_) (fun k s d => ?_)) ?_ ?_
        · have z := (hg.2.2.2 k s d).2.2
          unfold clX
          show X k + (if F k = F c then wx k + _ else wx k) + dX s - (X (nbH H X Y k s) + (if F (nbH H X Y k s) = F c then wx (nbH H X Y k s) + _ else wx (nbH H X Y k s))) = _
          rw [z]
          by_cases w : F k = F c
          · rw [if_pos w, if_pos w]; dsimp only; omega
          · rw [if_neg w, if_neg w]
        · have z := (hg.2.2.2 k s d).2.2
          unfold clY
          show Y k + (if F k = F c then wy k + _ else wy k) + dY s - (Y (nbH H X Y k s) + (if F (nbH H X Y k s) = F c then wy (nbH H X Y k s) + _ else wy (nbH H X Y k s))) = _
          rw [z]
          by_cases w : F k = F c
          · rw [if_pos w, if_pos w]; dsimp only; omega
          · rw [if_neg w, if_neg w]
        · unfold clX
          show X c + (if F c = F c then wx c + _ else wx c) + dX i - (X (nbH H X Y c i) + (if F (nbH H X Y c i) = F c then wx (nbH H X Y c i) + _ else wx (nbH H X Y c i))) = 0
          rw [if_pos rfl, if_neg (fun z => q z.symm), hvx]
          omega
        · unfold clY
          show Y c + (if F c = F c then wy c + _ else wy c) + dY i - (Y (nbH H X Y c i) + (if F (nbH H X Y c i) = F c then wy (nbH H X Y c i) + _ else wy (nbH H X Y c i))) = 0
          rw [if_pos rfl, if_neg (fun z => q z.symm), hvy]
          omega
      · simp only [sI_get, sJ_get, sI_2, sJ_1, sJ_22, sR_1, sR_21, Nat.reduceEqDiff, and_true, true_and, and_false, false_and, and_self, if_true, if_false, reduceIte]
        congr 1
        omega
    · have s1' : sz (F (nbH H X Y c i)) ≤ sz (F c) := by omega
      obtain ⟨hG, hC⟩ := hg.hang hH hr (j0 := nbH H X Y c i) (k0 := c) (s0 := i) hb hc rfl (fun z => q z.symm) (x := wx c + vx - wx (nbH H X Y c i)) (y := wy c + vy - wy (nbH H X Y c i)) (by rw [hvx]; omega) (by rw [hvy]; omega)
      have e3 := s_hang (T := sI T2 7 6 (iI ((cnt (rtS e F) N : Int) - 1))) (l := F (nbH H X Y c i)) (g := F c) (x := wx c + vx - wx (nbH H X Y c i)) (y := wy c + vy - wy (nbH H X Y c i)) (by omega) (by omega) (by simp only [sI_get, sJ_get, sI_2, sJ_1, sJ_22, sR_1, sR_21, Nat.reduceEqDiff, and_true, true_and, and_false, false_and, and_self, if_true, if_false, reduceIte]; exact sA) (by simp only [sI_get, sJ_get, sI_2, sJ_1, sJ_22, sR_1, sR_21, Nat.reduceEqDiff, and_true, true_and, and_false, false_and, and_self, if_true, if_false, reduceIte]; exact sB)
      refine ⟨_, ?_, (((frL.wr _ ?_).wr _ ?_).wr _ ?_).wr _ ?_, _, _, _, _, _, _, _, t, so, ux, uy, hG.more ?_, hmL.hang, ?_, ?_, hP, hQ, ?_⟩
      · simp (disch := first | omega | assumption | decide | (simp (disch := omega) only [iI_lit, iJ_lit, iJ_eq, iI_eq, bI_01, bI_01I] <;> omega)) only [c_Growth_join, e_Growth_join_0, e_Growth_join_1, e_Growth_join_2, e_Growth_join_5, e_Growth_join_7, e_Growth_join_8, e_Growth_join_11, e_Growth_join_12, e_Growth_join_13, e_Growth_join_15, e_Growth_join_16, e_Growth_join_19, e_Growth_join_21, e_Growth_join_22, e_Growth_join_24, e_Growth_join_25, e_Growth_join_26, e_Growth_join_29, e_Growth_join_31, e_Growth_join_33, e_Growth_join_34, e_Growth_join_37, e_Growth_join_38, e_Growth_join_40, e_Growth_join_42, e_Growth_join_43, e_Growth_join_46, e_Growth_join_47, e_Growth_join_49, e_Growth_join_51, e_Growth_join_53, e_Growth_join_56, e_Growth_join_57, e_Growth_join_59, e_Growth_join_61, e_Growth_join_63, e_Growth_join_66, e_Growth_join_67, e_Growth_join_68, e_Growth_join_69, e_Growth_join_72, e_Growth_join_73, e_Growth_join_74, e_Growth_join_77, e_Growth_join_78, e_Growth_join_81, e_Growth_join_83, e_Growth_join_84, e_Growth_join_85, e_Growth_join_88, e_Growth_join_90, e_Growth_join_91, e_Growth_join_94, e_Growth_join_95, e_Growth_join_97, e_Growth_join_99, e_Growth_join_101, e_Growth_join_102, e_Growth_join_104, e_Growth_join_105, e_Growth_join_108, e_Growth_join_111, e_Growth_join_112, e_Growth_join_114, e_Growth_join_116, e_Growth_join_118, e_Growth_join_120, e_Growth_join_123, bd_some, bd_none, Option.toList_some, Option.toList_none, List.nil_append, List.cons_append, px_kill_int, px_kill_long, px_kill_ref, px_kill_null, iI_lit, iJ_lit, iI_add, iI_sub, iI_mul, iI_neg, iJ_add, iJ_sub, iJ_mul, iJ_neg, iI_lt, iI_le, iI_eq, iJ_lt, iJ_le, iJ_eq, iI_div, iJ_div, tdiv_tmod, iI_J, iJ_I, iI_ix, iI_toInt, iJ_toInt, cmp_ge, cmp_lt, cmp_eq, cmp_gt, cmp_le, cmp_geI, cmp_ltI, cmp_eqI, cmp_gtI, cmp_leI, bI_0I, bI_1I, pin, if_true, sI_get, sJ_get, sI_2, sJ_1, sJ_22, sR_1, sR_21, Nat.reduceEqDiff, and_true, true_and, and_false, false_and, and_self, if_true, if_false, reduceIte, e1, f4, f5, e2, g4, g5, q', hL2, sh_n11, eA, eB, sA, sB, s1', e3]
      · unfold aGro; omega
      · unfold aGro; omega
      · unfold aGro; omega
      · unfold aGro; omega
      · intro k s d
        rcases d with d | ⟨rfl, rfl⟩
        · exact Or.inl d
        · refine Or.inr ⟨hc, hb, ?_⟩
          show (if F (nbH H X Y k s) = F (nbH H X Y k s) then F k else F (nbH H X Y k s)) = (if F k = F (nbH H X Y k s) then F k else F k)
          rw [if_pos rfl, if_neg q]
      · obtain ⟨r1, r2, r3, r4⟩ := hR2
        refine ⟨?_, ?_, ?_, ?_⟩ <;> simp only [sI_get, sJ_get, sI_2, sJ_1, sJ_22, sR_1, sR_21, Nat.reduceEqDiff, and_true, true_and, and_false, false_and, and_self, if_true, if_false, reduceIte] <;> assumption
      · refine tI.nil (tI.cg hT (fun k s d => ?_) (fun k s d => ?_)) ?_ ?_
        · have z := (hg.2.2.2 k s d).2.2
          unfold clX
          show X k + (if F k = F (nbH H X Y c i) then wx k + _ else wx k) + dX s - (X (nbH H X Y k s) + (if F (nbH H X Y k s) = F (nbH H X Y c i) then wx (nbH H X Y k s) + _ else wx (nbH H X Y k s))) = _
          rw [z]
          by_cases w : F k = F (nbH H X Y c i)
          · rw [if_pos w, if_pos w]; dsimp only; omega
          · rw [if_neg w, if_neg w]
        · have z := (hg.2.2.2 k s d).2.2
          unfold clY
          show Y k + (if F k = F (nbH H X Y c i) then wy k + _ else wy k) + dY s - (Y (nbH H X Y k s) + (if F (nbH H X Y k s) = F (nbH H X Y c i) then wy (nbH H X Y k s) + _ else wy (nbH H X Y k s))) = _
          rw [z]
          by_cases w : F k = F (nbH H X Y c i)
          · rw [if_pos w, if_pos w]; dsimp only; omega
          · rw [if_neg w, if_neg w]
        · unfold clX
          show X c + (if F c = F (nbH H X Y c i) then wx c + _ else wx c) + dX i - (X (nbH H X Y c i) + (if F (nbH H X Y c i) = F (nbH H X Y c i) then wx (nbH H X Y c i) + _ else wx (nbH H X Y c i))) = 0
          rw [if_pos rfl, if_neg q, hvx]
          omega
        · unfold clY
          show Y c + (if F c = F (nbH H X Y c i) then wy c + _ else wy c) + dY i - (Y (nbH H X Y c i) + (if F (nbH H X Y c i) = F (nbH H X Y c i) then wy (nbH H X Y c i) + _ else wy (nbH H X Y c i))) = 0
          rw [if_pos rfl, if_neg q, hvy]
          omega
      · simp only [sI_get, sJ_get, sI_2, sJ_1, sJ_22, sR_1, sR_21, Nat.reduceEqDiff, and_true, true_and, and_false, false_and, and_self, if_true, if_false, reduceIte]
        congr 1
        omega
