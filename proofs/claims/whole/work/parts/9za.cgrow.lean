/-! the component grows; what an ink has grown to, by its numbers. -/
def fstF (P : Nat → Prop) (t : Nat) : Prop := P t ∧ ∀ t', t' < t → ¬ P t'
theorem fstF.one {P : Nat → Prop} {t t' : Nat} (h : fstF P t) (h' : fstF P t') : t = t' := by
  rcases Nat.lt_trichotomy t t' with q | q | q
  · exact absurd h.1 (h'.2 t q)
  · exact q
  · exact absurd h'.1 (h.2 t' q)
noncomputable def lvF (P : Nat → Prop) : Int := Classical.epsilon (fun n : Int => ∃ t : Nat, n = (t : Int) ∧ fstF P t)
theorem lvF_eq {P : Nat → Prop} {t : Nat} (h : fstF P t) : lvF P = (t : Int) := by
  obtain ⟨t', e, h'⟩ := Classical.epsilon_spec (p := fun n : Int => ∃ t : Nat, n = (t : Int) ∧ fstF P t) ⟨(t : Int), t, rfl, h⟩
  rw [show lvF P = _ from e, h'.one h]
noncomputable def ltN (H : Int → Int → Nat) (X Y : Nat → Int) (N : Nat) (e : Nat → Prop) : Int := Classical.epsilon (fun n : Int => ∃ F px py, isF H X Y e F px py ∧ n = (cnt (rtS e F) N : Int))
theorem ltN_eq {H : Int → Int → Nat} (hH : hInv H) {X Y : Nat → Int} {N : Nat} (hr : hRep H N X Y) {e : Nat → Prop} (he : ∀ k, e k → k < N) {F : Nat → Nat} {px py : Nat → Int} (h : isF H X Y e F px py) : ltN H X Y N e = (cnt (rtS e F) N : Int) := by
  obtain ⟨F', px', py', h', e'⟩ := Classical.epsilon_spec (p := fun n : Int => ∃ F px py, isF H X Y e F px py ∧ n = (cnt (rtS e F) N : Int)) ⟨_, F, px, py, h, rfl⟩
  rw [show ltN H X Y N e = _ from e', h'.cnt_eq hH hr he h]
abbrev hmB (a b c d : Int) : Int → Int → Nat := hmN (bkW (brk a b c d)) (bkH (brk a b c d)) (bkS (brk a b c d))
abbrev oB (a b c d kd : Int) : Nat → Nat := ordS (fSp a b c d kd) (cel a b c d).toNat
noncomputable def gG (a b c d kd : Int) (k : Nat) : Int :=
  if k = 200 then lvF (fun r => TCH (hmB a b c d) (entE (oB a b c d kd) r)) else if k = 201 then lvF (fun r => SLD (hmB a b c d) (entE (oB a b c d kd) r)) else ltN (hmB a b c d) (hX (bkW (brk a b c d))) (hY (bkW (brk a b c d))) (cel a b c d).toNat (entE (oB a b c d kd) k)
noncomputable def GG : GW := fun f => gG (f 0) (f 1) (f 2) (f 3) (f 4)
theorem okGG : okGW GG := by
  intro f g h
  unfold GG
  rw [h 0 (by omega), h 1 (by omega), h 2 (by omega), h 3 (by omega), h 4 (by omega)]
theorem gG_lots {a b c d kd : Int} (ho : okS a b c d) {r : Nat} (hr : (r : Int) ≤ cel a b c d) {F : Nat → Nat} {px py : Nat → Int} (h : isF (hmB a b c d) (hX (bkW (brk a b c d))) (hY (bkW (brk a b c d))) (entE (oB a b c d kd) r) F px py) : gG a b c d kd r = (cnt (rtS (entE (oB a b c d kd) r) F) (cel a b c d).toNat : Int) := by
  have hG := okG_brk ho
  obtain ⟨f1, f2, f3, f4, f5, f6⟩ := brk_facts ho
  have hcb := cel_bd ho
  have hrp := hmN_rep hG
  rw [f5] at hrp
  unfold gG
  rw [if_neg (by omega), if_neg (by omega)]
  exact ltN_eq (hmN_inv hG) hrp (fun k ⟨j, h1, h2⟩ => by rw [← h2]; exact ordS_lt _ _ j (by omega)) h
/-- with all homes in, dots touch and all is one -/
theorem full_in {a b c d kd : Int} (ho : okS a b c d) : SLD (hmB a b c d) (entE (oB a b c d kd) (cel a b c d).toNat) ∧ TCH (hmB a b c d) (entE (oB a b c d kd) (cel a b c d).toNat) := by
  have hG := okG_brk ho
  obtain ⟨f1, f2, f3, f4, f5, f6⟩ := brk_facts ho
  have hall : ∀ x y, entE (oB a b c d kd) (cel a b c d).toNat (hmB a b c d x y) := by
    intro x y
    have hb := (hmN_rep hG).2 x y
    rw [f5] at hb
    exact ordS_sur _ _ _ hb
  have key : ∀ (f : Nat → Int) (u v : Int), pot (hmB a b c d) (entE (oB a b c d kd) (cel a b c d).toNat) f u v → u = 0 ∧ v = 0 := by
    intro f u v hp
    refine full_none (f := f) hG (fun x y => ?_) (fun x y => ?_)
    · have := hp x y 0 (hall _ _) (hall _ _)
      simp only [dX, dY, Int.add_zero, Int.mul_one, Int.mul_zero] at this
      exact this
    · have := hp x y 2 (hall _ _) (hall _ _)
      simp only [dX, dY, Int.add_zero, Int.mul_one, Int.mul_zero] at this
      exact this
  refine ⟨?_, ?_⟩
  · rintro ⟨u, v, f, h1, h2⟩
    exact h1 (key f u v h2)
  · rintro ⟨f, g, h1, h2⟩
    have := (key f 1 0 h1).1
    omega
theorem fstL.top {P : Nat → Prop} {r t : Nat} (h : fstL P r t) (hr : P r) : fstF P t := by
  rcases h with h | h
  · exact absurd hr h.2
  · exact ⟨h.2.2.1, h.2.2.2⟩
def aGrw (p q k : Nat) : Prop := (7 ≤ q ∧ q ≤ 11) ∨ q = p + 6 ∨ (q = p ∧ (k = 11 ∨ k = 12 ∨ k = 14))
set_option maxHeartbeats 1000000 in
theorem lp_grow {p : Nat} (hp : isPl p) {a b c d kd : Int} : ∀ (m r : Nat) (T : TS), (r : Int) + m = cel a b c d → inkP T p a b c d kd → isSrt T p a b c d kd → gE (hmB a b c d) (hX (bkW (brk a b c d))) (hY (bkW (brk a b c d))) (cel a b c d).toNat (oB a b c d kd) r T → (∀ k, k ≤ r → T.1 (p + 6) k = iI (gG a b c d kd k)) →
    ∃ T', rn k_Growth_grow 36 [.ref 7, .ref p, .int (iI (r : Int))] [] (enc T) = some (none, enc T') ∧ FrI (aGrw p) T T' ∧ T'.1 p 14 = iI 1 ∧ (∀ k : Nat, (k : Int) ≤ cel a b c d → T'.1 (p + 6) k = iI (gG a b c d kd k)) ∧ T'.1 p 11 = iI (gG a b c d kd 200) ∧ T'.1 p 12 = iI (gG a b c d kd 201) := by
  intro m
  induction m with
  | zero =>
    intro r T hrm hI hs hE hl
    have hre : (r : Int) = cel a b c d := by omega
    have hp1 := hI.1
    have hc := hI.2.2.2.2.1
    have hcb := cel_bd hI.2.1
    obtain ⟨rt, mx, my, sz, F, wx, wy, t, so, ux, uy, hg, hm, ⟨r7, r8, r9, r10⟩, hT, hP, hQ, hL, hF⟩ := hE
    have hfull := full_in (kd := kd) hI.2.1
    rw [show (cel a b c d).toNat = r by omega] at hfull
    have k1 := lvF_eq (hP.top hfull.2)
    have k2 := lvF_eq (hQ.top hfull.1)
    have g200 : gG a b c d kd 200 = (t : Int) := by unfold gG; rw [if_pos rfl]; exact k1
    have g201 : gG a b c d kd 201 = (so : Int) := by unfold gG; rw [if_neg (by omega), if_pos rfl]; exact k2
    rw [g200, g201]
    refine ⟨sI (sI (sI T p 11 (iI (t : Int))) p 12 (iI (so : Int))) p 14 (iI 1), ?_, ?_, ?_, ?_, ?_, ?_⟩
    · rw [e_Growth_grow_36, hre]
      have hp7 : p ≠ 7 := by unfold isPl at hp; omega
      have hp7' : 7 ≠ p := fun z => hp7 z.symm
      simp (disch := first | omega | assumption | decide | (simp (disch := omega) only [iI_lit, iJ_lit, iJ_eq, iI_eq, bI_01, bI_01I] <;> omega)) only [e_Growth_grow_37, e_Growth_grow_38, e_Growth_grow_41, e_Growth_grow_44, e_Growth_grow_45, e_Growth_grow_46, e_Growth_grow_47, e_Growth_grow_50, e_Growth_grow_51, e_Growth_grow_54, e_Growth_grow_55, e_Growth_grow_58, e_Growth_grow_59, e_Growth_grow_62, e_Growth_grow_63, e_Growth_grow_64, e_Growth_grow_65, e_Growth_grow_66, e_Growth_grow_69, e_Growth_grow_70, e_Growth_grow_73, e_Growth_grow_76, e_Growth_grow_77, e_Growth_grow_78, e_Growth_grow_81, e_Growth_grow_84, e_Growth_grow_85, e_Growth_grow_86, e_Growth_grow_89, e_Growth_grow_92, e_Growth_grow_93, e_Growth_grow_94, e_Growth_grow_97, bd_some, bd_none, Option.toList_some, Option.toList_none, List.nil_append, List.cons_append, px_kill_int, px_kill_long, px_kill_ref, px_kill_null, iI_lit, iJ_lit, iI_add, iI_sub, iI_mul, iI_neg, iJ_add, iJ_sub, iJ_mul, iJ_neg, iI_lt, iI_le, iI_eq, iJ_lt, iJ_le, iJ_eq, iI_div, iJ_div, tdiv_tmod, iI_J, iJ_I, iI_ix, iI_toInt, iJ_toInt, cmp_ge, cmp_lt, cmp_eq, cmp_gt, cmp_le, cmp_geI, cmp_ltI, cmp_eqI, cmp_gtI, cmp_leI, bI_0I, bI_1I, pin, if_true, sI_get, sJ_get, sI_2, sJ_1, sJ_22, sR_1, sR_21, Nat.reduceEqDiff, and_true, true_and, and_false, false_and, and_self, if_true, if_false, reduceIte, hc, Int.le_refl, r7, r8, hp7, hp7']
    · exact (((FrI.rf _ _).wr _ (by unfold aGrw; omega)).wr _ (by unfold aGrw; omega)).wr _ (by unfold aGrw; omega)
    · simp only [sI_get, sJ_get, sI_2, sJ_1, sJ_22, sR_1, sR_21, Nat.reduceEqDiff, and_true, true_and, and_false, false_and, and_self, if_true, if_false, reduceIte]
    · intro k hk
      have n1 : ¬ p + 6 = p := by omega
      simp only [sI_get, sJ_get, sI_2, sJ_1, sJ_22, sR_1, sR_21, Nat.reduceEqDiff, and_true, true_and, and_false, false_and, and_self, if_true, if_false, reduceIte, n1]
      exact hl k (by omega)
    · simp only [sI_get, sJ_get, sI_2, sJ_1, sJ_22, sR_1, sR_21, Nat.reduceEqDiff, and_true, true_and, and_false, false_and, and_self, if_true, if_false, reduceIte]
    · simp only [sI_get, sJ_get, sI_2, sJ_1, sJ_22, sR_1, sR_21, Nat.reduceEqDiff, and_true, true_and, and_false, false_and, and_self, if_true, if_false, reduceIte]
  | succ m ih =>
    intro r T hrm hI hs hE hl
    obtain ⟨hp1, hok, hscr, hgrd, hc, hkd, hkb⟩ := id hI
    have hcb := cel_bd hok
    have q5 := ink_s5 hp1
    have q5' : (sh (p + 5)).1 = 0 := by rw [q5]
    have q6 := ink_s6 hp1
    have q6' : (sh (p + 6)).1 = 0 := by rw [q6]
    have hnge : ¬ cel a b c d ≤ (r : Int) := by omega
    have hor := hs.2.1 r (by omega)
    have er : ((r : Nat) : Int).toNat = r := by omega
    have er1 : ((r : Int) + 1).toNat = r + 1 := by omega
    have hat : cl k_Ds_at [.ref (p + 5), .int (iI ((r : Nat) : Int))] (enc T) = some (some (.int (iI (oB a b c d kd r : Int))), enc T) := by
      rw [s_at (p + 5) _ T q5', q5, if_pos (by rw [px_in, iI_toInt (by omega) (by omega)]; omega), iI_ix (by omega) (by omega), er, hor]
    obtain ⟨T1, e1, fr1, hE1⟩ := s_comeIn hp (oB a b c d kd) (N := (cel a b c d).toNat) (by omega) (ordS_sur _ _) (ordS_inj _ _) (ordS_lt _ _) (r := r) (by omega) hI (fun j hj => hs.2.2.1 j (by omega)) hE
    have pp : isPl p := hp
    unfold isPl at pp
    have hL1 : T1.1 7 6 = iI (gG a b c d kd (r + 1)) := by
      obtain ⟨rt, mx, my, sz, F, wx, wy, t, so, ux, uy, hg, hm, hR, hT, hP, hQ, hL, hF⟩ := hE1
      rw [hL, gG_lots hok (by omega) hF]
    have fr2 : FrI (aGrw p) T (sI T1 (p + 6) (r + 1) (iI (gG a b c d kd (r + 1)))) := (fr1.mono (fun q k z => by unfold aGro at z; unfold aGrw; omega)).wr _ (by unfold aGrw; omega)
    have rd : ∀ q k, q ≠ p + 6 → ¬ (7 ≤ q ∧ q ≤ 11) → (sI T1 (p + 6) (r + 1) (iI (gG a b c d kd (r + 1)))).1 q k = T.1 q k := by
      intro q k q1 q2
      rw [sI_get, if_neg (by omega)]
      exact fr1.1 q k (by unfold aGro; omega)
    have hE2 : gE (hmB a b c d) (hX (bkW (brk a b c d))) (hY (bkW (brk a b c d))) (cel a b c d).toNat (oB a b c d kd) (r + 1) (sI T1 (p + 6) (r + 1) (iI (gG a b c d kd (r + 1)))) := by
      obtain ⟨rt, mx, my, sz, F, wx, wy, t, so, ux, uy, hg, hm, ⟨r7, r8, r9, r10⟩, hT, hP, hQ, hL, hF⟩ := hE1
      refine ⟨rt, mx, my, sz, F, wx, wy, t, so, ux, uy, hg, hm.fr (fun q k q1 q2 => by rw [sI_get, if_neg (by omega)]), ⟨?_, ?_, ?_, ?_⟩, hT, hP, hQ, ?_, hF⟩
      · rw [sI_get, if_neg (by omega)]; exact r7
      · rw [sI_get, if_neg (by omega)]; exact r8
      · rw [sI_get, if_neg (by omega)]; exact r9
      · rw [sI_get, if_neg (by omega)]; exact r10
      · rw [sI_get, if_neg (by omega)]; exact hL
    obtain ⟨T', e3, fr3, g1, g2, g3, g4⟩ := ih (r + 1) (sI T1 (p + 6) (r + 1) (iI (gG a b c d kd (r + 1)))) (by omega) (hI.fr fr2 (fun k => by unfold aGrw; omega) (by unfold aGrw; omega) (by unfold aGrw; omega)) (by
      obtain ⟨s1, s2, s3, s4⟩ := hs
      refine ⟨fun j hj => ?_, fun j hj => ?_, fun j hj => ?_, ?_⟩
      · rw [rd _ _ (by omega) (by omega)]; exact s1 j hj
      · rw [rd _ _ (by omega) (by omega)]; exact s2 j hj
      · rw [rd _ _ (by omega) (by omega)]; exact s3 j hj
      · rw [rd _ _ (by omega) (by omega)]; exact s4) hE2 (fun k hk => by
      rw [sI_get]
      by_cases z : k = r + 1
      · rw [if_pos ⟨rfl, z⟩, z]
      · rw [if_neg (fun w => z w.2), fr1.1 _ _ (by unfold aGro; omega)]; exact hl k (by omega))
    refine ⟨T', ?_, fr2.tr fr3, g1, g2, g3, g4⟩
    rw [← e3, e_Growth_grow_36]
    simp (disch := first | omega | assumption | decide | (simp (disch := omega) only [iI_lit, iJ_lit, iJ_eq, iI_eq, bI_01, bI_01I] <;> omega)) only [e_Growth_grow_37, e_Growth_grow_38, e_Growth_grow_41, e_Growth_grow_44, e_Growth_grow_45, e_Growth_grow_46, e_Growth_grow_47, e_Growth_grow_50, e_Growth_grow_51, e_Growth_grow_54, e_Growth_grow_55, e_Growth_grow_58, e_Growth_grow_59, e_Growth_grow_62, e_Growth_grow_63, e_Growth_grow_64, e_Growth_grow_65, e_Growth_grow_66, e_Growth_grow_69, e_Growth_grow_70, e_Growth_grow_73, bd_some, bd_none, Option.toList_some, Option.toList_none, List.nil_append, List.cons_append, px_kill_int, px_kill_long, px_kill_ref, px_kill_null, iI_lit, iJ_lit, iI_add, iI_sub, iI_mul, iI_neg, iJ_add, iJ_sub, iJ_mul, iJ_neg, iI_lt, iI_le, iI_eq, iJ_lt, iJ_le, iJ_eq, iI_div, iJ_div, tdiv_tmod, iI_J, iJ_I, iI_ix, iI_toInt, iJ_toInt, cmp_ge, cmp_lt, cmp_eq, cmp_gt, cmp_le, cmp_geI, cmp_ltI, cmp_eqI, cmp_gtI, cmp_leI, bI_0I, bI_1I, pin, if_true, sI_get, sJ_get, sI_2, sJ_1, sJ_22, sR_1, sR_21, Nat.reduceEqDiff, and_true, true_and, and_false, false_and, and_self, if_true, if_false, reduceIte, hc, hnge, hat, e1, q6, er1, hL1]
    rw [show ((r + 1 : Nat) : Int) = (r : Int) + 1 by omega]
/-- nothing is in yet -/
theorem gE_0 {H : Int → Int → Nat} {X Y : Nat → Int} {N : Nat} {o : Nat → Nat} {T : TS} (h6 : T.1 7 6 = iI 0) (h7 : T.1 7 7 = iI 0) (h8 : T.1 7 8 = iI 0) : gE H X Y N o 0 T := by
  have ne : ∀ k, ¬ entE o 0 k := fun k ⟨j, h, _⟩ => by omega
  have c0 : ∀ p : Nat → Prop, (∀ k, ¬ p k) → ∀ n, cnt p n = 0 := by
    intro p hp n
    induction n with
    | zero => rfl
    | succ n ih => simp only [cnt]; rw [ih, tv_f (hp n)]
  have nr : ∀ k, ¬ rtS (entE o 0) (fun k => k) k := fun k h => ne k h.1
  refine ⟨fun k => k, fun _ => 0, fun _ => 0, fun _ => 0, fun k => k, fun _ => 0, fun _ => 0, 0, 0, (T.1 7 9).toInt, (T.1 7 10).toInt, ⟨fun k hk => absurd hk (ne k), ⟨fun k hk => absurd hk (ne k), fun j k hj => absurd hj (ne j)⟩, ?_, fun k s h => absurd h.1 (ne k)⟩, fun k hk => absurd hk (ne k), ⟨h7, h8, (iI_of _).symm, (iI_of _).symm⟩, ⟨fun _ => ⟨rfl, fun k s h => absurd h.1 (ne k)⟩, fun h => absurd rfl h⟩, Or.inl ⟨rfl, ?_⟩, Or.inl ⟨rfl, ?_⟩, ?_, ⟨fun k hk => absurd hk (ne k), fun k s hk => absurd hk (ne k)⟩⟩
  · rw [c0 _ ne]
    unfold szS
    rw [smN_cg (g := fun _ => (0 : Int)) N (fun k _ => by rw [tv_f (nr k)]; rfl), smN_con]
    omega
  · intro q
    exact q ⟨fun _ => 0, fun _ => 0, fun x y s h => absurd h (ne _), fun x y s h => absurd h (ne _)⟩
  · intro q
    exact q ⟨1, 0, fun _ => 0, by omega, fun x y s h => absurd h (ne _)⟩
  · rw [c0 _ nr]; exact h6
set_option maxHeartbeats 1000000 in
theorem s_grow {T : TS} {p : Nat} (hp : isPl p) {a b c d kd : Int} (hI : inkP T p a b c d kd) (hs : T.1 p 13 = iI 0 ∨ isSrt T p a b c d kd) (h14 : T.1 p 14 = iI 0) : ∃ T', cl k_Growth_grow [.ref 7, .ref p] (enc T) = some (none, enc T') ∧ FrI (fun q k => aSort p q k ∨ aGrw p q k) T T' ∧ isSrt T' p a b c d kd ∧ T'.1 p 14 = iI 1 ∧ (∀ k : Nat, (k : Int) ≤ cel a b c d → T'.1 (p + 6) k = iI (gG a b c d kd k)) ∧ T'.1 p 11 = iI (gG a b c d kd 200) ∧ T'.1 p 12 = iI (gG a b c d kd 201) := by
  obtain ⟨T1, e1, fr1, hs1⟩ := s_sort hI hs
  have hI1 := hI.sort fr1
  have hp1 := hI.1
  have hcb := cel_bd hI.2.1
  have q6 := ink_s6 hp1
  have q6' : (sh (p + 6)).1 = 0 := by rw [q6]
  have pp : isPl p := hp
  unfold isPl at pp
  obtain ⟨T2, hT2⟩ : ∃ T2, T2 = sI (sI (sI (sI T1 7 6 (iI 0)) 7 7 (iI 0)) 7 8 (iI 0)) (p + 6) 0 (iI 0) := ⟨_, rfl⟩
  have fr2 : FrI (aGrw p) T1 T2 := by
    rw [hT2]
    exact ((((FrI.rf _ _).wr _ (by unfold aGrw; omega)).wr _ (by unfold aGrw; omega)).wr _ (by unfold aGrw; omega)).wr _ (by unfold aGrw; omega)
  have n7 : ¬ 7 = p + 6 := by omega
  have hE : gE (hmB a b c d) (hX (bkW (brk a b c d))) (hY (bkW (brk a b c d))) (cel a b c d).toNat (oB a b c d kd) 0 T2 := by
    apply gE_0
    · rw [hT2]; simp only [sI_get, sJ_get, sI_2, sJ_1, sJ_22, sR_1, sR_21, Nat.reduceEqDiff, and_true, true_and, and_false, false_and, and_self, if_true, if_false, reduceIte, n7]
    · rw [hT2]; simp only [sI_get, sJ_get, sI_2, sJ_1, sJ_22, sR_1, sR_21, Nat.reduceEqDiff, and_true, true_and, and_false, false_and, and_self, if_true, if_false, reduceIte, n7]
    · rw [hT2]; simp only [sI_get, sJ_get, sI_2, sJ_1, sJ_22, sR_1, sR_21, Nat.reduceEqDiff, and_true, true_and, and_false, false_and, and_self, if_true, if_false, reduceIte, n7]
  have h0 : gG a b c d kd 0 = 0 := by
    obtain ⟨rt, mx, my, sz, F, wx, wy, t, so, ux, uy, hg, hm, hR, hT, hP, hQ, hL, hF⟩ := id hE
    rw [gG_lots hI.2.1 (by omega) hF]
    have c0 : ∀ p : Nat → Prop, (∀ k, ¬ p k) → ∀ n, cnt p n = 0 := by
      intro p hp n
      induction n with
      | zero => rfl
      | succ n ih => simp only [cnt]; rw [ih, tv_f (hp n)]
    rw [c0 _ (fun k h => by obtain ⟨j, q, -⟩ := h.1; omega)]
    rfl
  obtain ⟨T', e3, fr3, g1, g2, g3, g4⟩ := lp_grow hp (cel a b c d).toNat 0 T2 (by omega) (hI1.fr fr2 (fun k => by unfold aGrw; omega) (by unfold aGrw; omega) (by unfold aGrw; omega)) (by
    obtain ⟨s1, s2, s3, s4⟩ := hs1
    refine ⟨fun j hj => ?_, fun j hj => ?_, fun j hj => ?_, ?_⟩
    · rw [fr2.1 _ _ (by unfold aGrw; omega)]; exact s1 j hj
    · rw [fr2.1 _ _ (by unfold aGrw; omega)]; exact s2 j hj
    · rw [fr2.1 _ _ (by unfold aGrw; omega)]; exact s3 j hj
    · rw [fr2.1 _ _ (by unfold aGrw; omega)]; exact s4) hE (fun k hk => by
    have k0 : k = 0 := by omega
    rw [k0, h0, hT2]
    simp only [sI_get, sJ_get, sI_2, sJ_1, sJ_22, sR_1, sR_21, Nat.reduceEqDiff, and_true, true_and, and_false, false_and, and_self, if_true, if_false, reduceIte])
  have fr23 := fr2.tr fr3
  have h14' : T1.1 p 14 = iI 0 := by rw [fr1.1 _ _ (by unfold aSort; omega)]; exact h14
  refine ⟨T', ?_, (fr1.mono (fun q k z => Or.inl z)).tr (fr23.mono (fun q k z => Or.inr z)), ?_, g1, g2, g3, g4⟩
  · have z0 : ((0 : Nat) : Int) = 0 := rfl
    have z1 : (0 : Int).toNat = 0 := rfl
    rw [z0, hT2] at e3
    simp (disch := first | omega | assumption | decide | (simp (disch := omega) only [iI_lit, iJ_lit, iJ_eq, iI_eq, bI_01, bI_01I] <;> omega)) only [c_Growth_grow, e_Growth_grow_0, e_Growth_grow_1, e_Growth_grow_4, e_Growth_grow_7, e_Growth_grow_8, e_Growth_grow_9, e_Growth_grow_12, e_Growth_grow_13, e_Growth_grow_14, e_Growth_grow_17, e_Growth_grow_18, e_Growth_grow_19, e_Growth_grow_22, e_Growth_grow_23, e_Growth_grow_24, e_Growth_grow_27, e_Growth_grow_28, e_Growth_grow_31, e_Growth_grow_32, e_Growth_grow_33, e_Growth_grow_34, e_Growth_grow_35, bd_some, bd_none, Option.toList_some, Option.toList_none, List.nil_append, List.cons_append, px_kill_int, px_kill_long, px_kill_ref, px_kill_null, iI_lit, iJ_lit, iI_add, iI_sub, iI_mul, iI_neg, iJ_add, iJ_sub, iJ_mul, iJ_neg, iI_lt, iI_le, iI_eq, iJ_lt, iJ_le, iJ_eq, iI_div, iJ_div, tdiv_tmod, iI_J, iJ_I, iI_ix, iI_toInt, iJ_toInt, cmp_ge, cmp_lt, cmp_eq, cmp_gt, cmp_le, cmp_geI, cmp_ltI, cmp_eqI, cmp_gtI, cmp_leI, bI_0I, bI_1I, pin, if_true, sI_get, sJ_get, sI_2, sJ_1, sJ_22, sR_1, sR_21, Nat.reduceEqDiff, and_true, true_and, and_false, false_and, and_self, if_true, if_false, reduceIte, h14, e1, q6, z1]
    exact e3
  · obtain ⟨s1, s2, s3, s4⟩ := hs1
    refine ⟨fun j hj => ?_, fun j hj => ?_, fun j hj => ?_, ?_⟩
    · rw [fr23.1 _ _ (by unfold aGrw; omega)]; exact s1 j hj
    · rw [fr23.1 _ _ (by unfold aGrw; omega)]; exact s2 j hj
    · rw [fr23.1 _ _ (by unfold aGrw; omega)]; exact s3 j hj
    · rw [fr23.1 _ _ (by unfold aGrw; omega)]; exact s4
