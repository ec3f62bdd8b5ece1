/-! THE WHOLE STATE of both sides: inks, tape, refused; what is kept (chosen, grown). -/
abbrev FS : Type := VW × (Nat × (Nat → Int)) × (Nat → Int)
def okF (S : FS) : Prop := okV S.1 ∧ S.2.1.1 ≤ 160 ∧ ∀ k, k < S.2.1.1 → 1 ≤ S.2.1.2 k ∧ S.2.1.2 k ≤ 255
/-- what an ink has grown to, if it has; G tells it of the first five numbers -/
abbrev GW : Type := (Nat → Int) → Nat → Int
def gOk (G : GW) (T : TS) (p : Nat) (f : Nat → Int) : Prop := T.1 p 14 = iI 0 ∨ (T.1 p 14 = iI 1 ∧ (∀ k : Nat, (k : Int) ≤ celN f → T.1 (p + 6) k = iI (G f k)) ∧ T.1 p 11 = iI (G f 200) ∧ T.1 p 12 = iI (G f 201))
def okGW (G : GW) : Prop := ∀ f g : Nat → Int, (∀ k, k < 5 → f k = g k) → G f = G g
def tpC (T : TS) (S : FS) : Prop := T.1 1 1 = iI (S.2.1.1 : Int) ∧ ∀ k, k < S.2.1.1 → T.1 2 k = iI (S.2.1.2 k)
def tpM (T : TS) (S : FS) : Prop := T.1 53 2 = iI (S.2.1.1 : Int) ∧ ∀ k, k < S.2.1.1 → T.1 54 k = iI (S.2.1.2 k)
def fC (G : GW) (T : TS) (S : FS) : Prop := cC T S.1 ∧ tpC T S ∧ (∀ k, k < 3 → T.1 6 k = iI (S.2.2 k)) ∧ cCh T ∧ ∀ j, j < S.1.1 → gOk G T (T.2.2.1 j) (S.1.2 j)
def fM (T : TS) (S : FS) : Prop := cM T S.1 ∧ tpM T S ∧ ∀ k, k < 3 → T.1 57 k = iI (S.2.2 k)
def sepC (T T' : TS) : Prop := (∀ q k, 53 ≤ q → T'.1 q k = T.1 q k) ∧ (∀ q k, 53 ≤ q → T'.2.1 q k = T.2.1 q k) ∧ T'.2.2.2 = T.2.2.2
def sepM (T T' : TS) : Prop := (∀ q k, (q < 53 ∨ 72 ≤ q) → T'.1 q k = T.1 q k) ∧ (∀ q k, (q < 53 ∨ 72 ≤ q) → T'.2.1 q k = T.2.1 q k) ∧ T'.2.2 = T.2.2
theorem sepC.rf (T : TS) : sepC T T := ⟨fun _ _ _ => rfl, fun _ _ _ => rfl, rfl⟩
theorem sepM.rf (T : TS) : sepM T T := ⟨fun _ _ _ => rfl, fun _ _ _ => rfl, rfl⟩
theorem sepC.tr {T T' T'' : TS} (h1 : sepC T T') (h2 : sepC T' T'') : sepC T T'' := ⟨fun q k h => (h2.1 q k h).trans (h1.1 q k h), fun q k h => (h2.2.1 q k h).trans (h1.2.1 q k h), h2.2.2.trans h1.2.2⟩
theorem sepM.tr {T T' T'' : TS} (h1 : sepM T T') (h2 : sepM T' T'') : sepM T T'' := ⟨fun q k h => (h2.1 q k h).trans (h1.1 q k h), fun q k h => (h2.2.1 q k h).trans (h1.2.1 q k h), h2.2.2.trans h1.2.2⟩
theorem sepC.ofA {a b : Nat → Nat → Prop} {T T' : TS} (h : FrA a b T T') (ha : ∀ q k, a q k → q < 53) (hb : ∀ q k, b q k → q < 53) : sepC T T' := ⟨fun q k hq => h.1 q k (fun z => by have := ha q k z; omega), fun q k hq => h.2.1 q k (fun z => by have := hb q k z; omega), by rw [h.2.2]⟩
theorem sepM.ofM {T T' : TS} (h : FrM T T') : sepM T T' := ⟨fun q k hq => h.1 q k (fun z => by unfold aRef at z; omega), fun q k hq => h.2.1 q k (fun z => by omega), h.2.2⟩
theorem sepM.wr {T T' : TS} (h : sepM T T') {p k : Nat} (x : Int32) (hp : 53 ≤ p ∧ p < 72) : sepM T (sI T' p k x) := by
  refine ⟨fun q j hq => ?_, h.2.1, h.2.2⟩
  rw [sI_get, if_neg (by omega)]
  exact h.1 q j hq
theorem sepC.wr {T T' : TS} (h : sepC T T') {p k : Nat} (x : Int32) (hp : p < 53) : sepC T (sI T' p k x) := by
  refine ⟨fun q j hq => ?_, h.2.1, h.2.2⟩
  rw [sI_get, if_neg (by omega)]
  exact h.1 q j hq
/-- the reference's state stands while the component works, and the other way round -/
theorem fM.sep {T T' : TS} {S : FS} (h : fM T S) (hs : sepC T T') : fM T' S := by
  obtain ⟨⟨h1, h2⟩, ⟨h3, h4⟩, h5⟩ := h
  refine ⟨⟨?_, fun j hj k hk => ?_⟩, ⟨?_, fun k hk => ?_⟩, fun k hk => ?_⟩
  · rw [hs.1 _ _ (by omega)]; exact h1
  · rw [hs.1 _ _ (by omega)]; exact h2 j hj k hk
  · rw [hs.1 _ _ (by omega)]; exact h3
  · rw [hs.1 _ _ (by omega)]; exact h4 k hk
  · rw [hs.1 _ _ (by omega)]; exact h5 k hk
theorem gOk.same {G : GW} {T T' : TS} {p : Nat} {f : Nat → Int} (h : gOk G T p f) (h1 : T'.1 p 14 = T.1 p 14) (h2 : ∀ k, T'.1 (p + 6) k = T.1 (p + 6) k) (h3 : T'.1 p 11 = T.1 p 11) (h4 : T'.1 p 12 = T.1 p 12) : gOk G T' p f := by
  rcases h with h | ⟨g1, g2, g3, g4⟩
  · exact Or.inl (h1.trans h)
  · exact Or.inr ⟨h1.trans g1, fun k hk => (h2 k).trans (g2 k hk), h3.trans g3, h4.trans g4⟩
theorem cCh.same {T T' : TS} (h : cCh T) (hp : ∀ q k, 15 ≤ q → q ≤ 23 → T'.1 q k = T.1 q k) : cCh T' := by
  rcases h with h | ⟨n, m, lo, hi, ⟨z1, z2, z3, z4⟩, y, hb, hS⟩
  · exact Or.inl ((hp _ _ (by omega) (by omega)).trans h)
  · exact Or.inr ⟨n, m, lo, hi, ⟨(hp _ _ (by omega) (by omega)).trans z1, (hp _ _ (by omega) (by omega)).trans z2, (hp _ _ (by omega) (by omega)).trans z3, (hp _ _ (by omega) (by omega)).trans z4⟩, y, hb.fr (hp _ _ (by omega) (by omega)) (fun k => hp _ _ (by omega) (by omega)), hS.fr (fun k => hp _ _ (by omega) (by omega)) (fun k => hp _ _ (by omega) (by omega))⟩
theorem fC.sep {G : GW} {T T' : TS} {S : FS} (hS : okF S) (h : fC G T S) (hs : sepM T T') : fC G T' S := by
  obtain ⟨h1, ⟨h2, h3⟩, h4, h5, h6⟩ := h
  have hR : T'.2.2.1 = T.2.2.1 := by rw [hs.2.2]
  have hpl := h1.2.1
  have hV := hS.1.1
  refine ⟨?_, ⟨?_, fun k hk => ?_⟩, fun k hk => ?_, ?_, fun j hj => ?_⟩
  · obtain ⟨c1, c2, c3, c4⟩ := h1
    refine ⟨?_, by rw [hR]; exact c2, by rw [hR]; exact c3, fun i hi => ?_⟩
    · rw [hs.1 _ _ (by omega)]; exact c1
    · rw [hR]
      have hp := c2 i (by omega)
      unfold isPl at hp
      exact (c4 i hi).frA (a := fun q _ => 53 ≤ q) (b := fun q _ => 53 ≤ q) ⟨fun q k hq => hs.1 q k (by omega), fun q k hq => hs.2.1 q k (by omega), hs.2.2⟩ (fun q k q1 q2 => by omega) (fun q k q1 q2 => by omega)
  · rw [hs.1 _ _ (by omega)]; exact h2
  · rw [hs.1 _ _ (by omega)]; exact h3 k hk
  · rw [hs.1 _ _ (by omega)]; exact h4 k hk
  · exact h5.same (fun q k q1 q2 => hs.1 q k (by omega))
  · rw [hR]
    have hp := hpl j (by omega)
    unfold isPl at hp
    exact (h6 j hj).same (hs.1 _ _ (by omega)) (fun k => hs.1 _ _ (by omega)) (hs.1 _ _ (by omega)) (hs.1 _ _ (by omega))
/-- asking calls of the component leave its state -/
theorem fC.ask {G : GW} {T T' : TS} {S : FS} (hS : okF S) (h : fC G T S) (hf : FrI aAsk T T') (hc : cC T' S.1) : fC G T' S ∧ sepC T T' := by
  obtain ⟨h1, ⟨h2, h3⟩, h4, h5, h6⟩ := h
  have hR : T'.2.2.1 = T.2.2.1 := by rw [hf.2]
  have hpl := h1.2.1
  have hV := hS.1.1
  have na : ∀ q k, q < 25 → ¬ aAsk q k := by
    rintro q k hq ⟨p, hp, ha⟩
    unfold isPl at hp
    unfold aSort at ha
    omega
  refine ⟨⟨hc, ⟨?_, fun k hk => ?_⟩, fun k hk => ?_, ?_, fun j hj => ?_⟩, ?_⟩
  · rw [hf.1 _ _ (na _ _ (by omega))]; exact h2
  · rw [hf.1 _ _ (na _ _ (by omega))]; exact h3 k hk
  · rw [hf.1 _ _ (na _ _ (by omega))]; exact h4 k hk
  · exact h5.same (fun q k q1 q2 => hf.1 q k (na _ _ (by omega)))
  · rw [hR]
    have hp := hpl j (by omega)
    have nb : ∀ q k, (q = T.2.2.1 j ∧ (k = 11 ∨ k = 12 ∨ k = 14)) ∨ q = T.2.2.1 j + 6 → ¬ aAsk q k := by
      rintro q k hq ⟨p, hp', ha⟩
      unfold isPl at hp hp'
      unfold aSort at ha
      omega
    exact (h6 j hj).same (hf.1 _ _ (nb _ _ (by omega))) (fun k => hf.1 _ _ (nb _ _ (by omega))) (hf.1 _ _ (nb _ _ (by omega))) (hf.1 _ _ (nb _ _ (by omega)))
  · refine sepC.ofA (FrA.of (b := fun _ _ => False) hf) ?_ (fun q k z => z.elim)
    rintro q k ⟨p, hp, ha⟩
    unfold isPl at hp
    unfold aSort at ha
    omega
theorem fC.askN {G : GW} {T T' : TS} {S : FS} (hS : okF S) (h : fC G T S) (hf : FrA aB bB T T') : fC G T' S ∧ sepC T T' := by
  obtain ⟨h1, ⟨h2, h3⟩, h4, h5, h6⟩ := id h
  have hR : T'.2.2.1 = T.2.2.1 := by rw [hf.2.2]
  have hpl := h1.2.1
  have hV := hS.1.1
  refine ⟨⟨h1.frB hS.1 hf, ⟨?_, fun k hk => ?_⟩, fun k hk => ?_, ?_, fun j hj => ?_⟩, sepC.ofA hf (fun q k z => by unfold aB at z; omega) (fun q k z => by unfold bB at z; omega)⟩
  · rw [hf.1 _ _ (by unfold aB; omega)]; exact h2
  · rw [hf.1 _ _ (by unfold aB; omega)]; exact h3 k hk
  · rw [hf.1 _ _ (by unfold aB; omega)]; exact h4 k hk
  · exact h5.same (fun q k q1 q2 => hf.1 q k (by unfold aB; omega))
  · rw [hR]
    have hp := hpl j (by omega)
    unfold isPl at hp
    exact (h6 j hj).same (hf.1 _ _ (by unfold aB; omega)) (fun k => hf.1 _ _ (by unfold aB; omega)) (hf.1 _ _ (by unfold aB; omega)) (hf.1 _ _ (by unfold aB; omega))
theorem fC.askZ {G : GW} {T T' : TS} {S : FS} (hS : okF S) (h : fC G T S) (hf : FrA aCz aCz T T') (hc : cCh T') : fC G T' S ∧ sepC T T' := by
  obtain ⟨h1, ⟨h2, h3⟩, h4, h5, h6⟩ := id h
  have hR : T'.2.2.1 = T.2.2.1 := by rw [hf.2.2]
  have hpl := h1.2.1
  have hV := hS.1.1
  refine ⟨⟨h1.frN hS.1 (hf.mono (fun q k z => by unfold aCz at z; unfold aN; omega) (fun q k z => by unfold aCz at z; unfold bN; omega)), ⟨?_, fun k hk => ?_⟩, fun k hk => ?_, hc, fun j hj => ?_⟩, sepC.ofA hf (fun q k z => by unfold aCz at z; omega) (fun q k z => by unfold aCz at z; omega)⟩
  · rw [hf.1 _ _ (by unfold aCz; omega)]; exact h2
  · rw [hf.1 _ _ (by unfold aCz; omega)]; exact h3 k hk
  · rw [hf.1 _ _ (by unfold aCz; omega)]; exact h4 k hk
  · rw [hR]
    have hp := hpl j (by omega)
    unfold isPl at hp
    exact (h6 j hj).same (hf.1 _ _ (by unfold aCz; omega)) (fun k => hf.1 _ _ (by unfold aCz; omega)) (hf.1 _ _ (by unfold aCz; omega)) (hf.1 _ _ (by unfold aCz; omega))
theorem fM.ask {T T' : TS} {S : FS} (h : fM T S) (hf : FrM T T') : fM T' S ∧ sepM T T' := by
  obtain ⟨h1, ⟨h2, h3⟩, h4⟩ := h
  refine ⟨⟨h1.fr hf, ⟨?_, fun k hk => ?_⟩, fun k hk => ?_⟩, sepM.ofM hf⟩
  · rw [hf.1 _ _ (by unfold aRef; omega)]; exact h2
  · rw [hf.1 _ _ (by unfold aRef; omega)]; exact h3 k hk
  · rw [hf.1 _ _ (by unfold aRef; omega)]; exact h4 k hk
/-! new states -/
def rfS (S : FS) (w : Nat) : FS := (S.1, S.2.1, fun k => if k = w then S.2.2 k + 1 else S.2.2 k)
def inS (S : FS) (j : Nat) (f : Nat → Int) : FS := ((S.1.1, fun i => if i = j then f else S.1.2 i), S.2)
theorem rfS_ok {S : FS} (h : okF S) (w : Nat) : okF (rfS S w) := h
theorem inS_ok {S : FS} (h : okF S) (j : Nat) {f : Nat → Int} (hf : okN f) : okF (inS S j f) := by
  refine ⟨⟨h.1.1, fun i hi => ?_⟩, h.2⟩
  show okN (if i = j then f else S.1.2 i)
  split
  · exact hf
  · exact h.1.2 i hi
/-- something outside the inks changes in the component -/
theorem cC.out {T T' : TS} {V : VW} (h : cC T V) (hV : okV V) (hR : T'.2.2.1 = T.2.2.1) (h0 : T'.1 0 3 = T.1 0 3) (h1 : ∀ q k, 25 ≤ q → q < 53 → T'.1 q k = T.1 q k) (h2 : ∀ q k, 25 ≤ q → q < 53 → T'.2.1 q k = T.2.1 q k) : cC T' V := by
  obtain ⟨c1, c2, c3, c4⟩ := h
  have h4 := hV.1
  refine ⟨h0.trans c1, by rw [hR]; exact c2, by rw [hR]; exact c3, fun i hi => ?_⟩
  rw [hR]
  have hp := c2 i (by omega)
  unfold isPl at hp
  obtain ⟨⟨i1, i2, i3, i4, i5, i6, i7⟩, j2, j3, j4, j5⟩ := c4 i hi
  refine ⟨⟨i1, i2, ?_, ?_, ?_, ?_, i7⟩, ?_, ?_, ?_, ?_⟩
  · unfold cScr at *
    rw [h1 _ _ (by omega) (by omega), h1 _ _ (by omega) (by omega), h1 _ _ (by omega) (by omega), h1 _ _ (by omega) (by omega)]; exact i3
  · unfold cGrd at *
    rw [h2 _ _ (by omega) (by omega), h2 _ _ (by omega) (by omega), h2 _ _ (by omega) (by omega)]; exact i4
  · rw [h1 _ _ (by omega) (by omega)]; exact i5
  · rw [h1 _ _ (by omega) (by omega)]; exact i6
  · rw [h1 _ _ (by omega) (by omega)]; exact j2
  · rw [h1 _ _ (by omega) (by omega)]; exact j3
  · rw [h1 _ _ (by omega) (by omega)]; exact j4
  · rcases j5 with j5 | j5
    · left; rw [h1 _ _ (by omega) (by omega)]; exact j5
    · right
      obtain ⟨s1, s2, s3, s4⟩ := j5
      refine ⟨fun r hr => ?_, fun r hr => ?_, fun r hr => ?_, ?_⟩
      · rw [h1 _ _ (by omega) (by omega)]; exact s1 r hr
      · rw [h1 _ _ (by omega) (by omega)]; exact s2 r hr
      · rw [h1 _ _ (by omega) (by omega)]; exact s3 r hr
      · rw [h1 _ _ (by omega) (by omega)]; exact s4
set_option maxHeartbeats 1000000 in
theorem c_refuse {G : GW} {T : TS} {S : FS} (hS : okF S) (h : fC G T S) {w : Nat} (hw : w < 3) : ∃ T', cl k_Ds_refuse [.ref 0, .int (iI (w : Int))] (enc T) = some (some (.int (iI (-1))), enc T') ∧ fC G T' (rfS S w) ∧ sepC T T' := by
  obtain ⟨h1, ⟨h2, h3⟩, h4, h5, h6⟩ := id h
  have ew : ((w : Int)).toNat = w := by omega
  have hr := h4 w hw
  refine ⟨sI T 6 w (iI (S.2.2 w + 1)), ?_, ⟨?_, ⟨?_, fun k hk => ?_⟩, fun k hk => ?_, ?_, fun j hj => ?_⟩, (sepC.rf T).wr _ (by omega)⟩
  · simp (disch := first | omega | assumption | decide | (simp (disch := omega) only [iI_lit, iJ_lit, iJ_eq, iI_eq, bI_01, bI_01I] <;> omega)) only [c_Ds_refuse, e_Ds_refuse_0, e_Ds_refuse_1, e_Ds_refuse_4, e_Ds_refuse_5, e_Ds_refuse_6, e_Ds_refuse_7, e_Ds_refuse_8, e_Ds_refuse_9, e_Ds_refuse_10, e_Ds_refuse_11, bd_some, bd_none, Option.toList_some, Option.toList_none, List.nil_append, List.cons_append, px_kill_int, px_kill_long, px_kill_ref, px_kill_null, iI_lit, iJ_lit, iI_add, iI_sub, iI_mul, iI_neg, iJ_add, iJ_sub, iJ_mul, iJ_neg, iI_lt, iI_le, iI_eq, iJ_lt, iJ_le, iJ_eq, iI_div, iJ_div, tdiv_tmod, iI_J, iJ_I, iI_ix, iI_toInt, iJ_toInt, cmp_ge, cmp_lt, cmp_eq, cmp_gt, cmp_le, cmp_geI, cmp_ltI, cmp_eqI, cmp_gtI, cmp_leI, bI_0I, bI_1I, pin, if_true, sh_n6, ew, hr]
  · exact h1.out hS.1 rfl (by simp only [sI_get, sJ_get, sI_2, sJ_1, sJ_22, sR_1, sR_21, Nat.reduceEqDiff, and_true, true_and, and_false, false_and, and_self, if_true, if_false, reduceIte]) (fun q k q1 q2 => by rw [sI_get, if_neg (by omega)]) (fun q k q1 q2 => rfl)
  · simp only [sI_get, sJ_get, sI_2, sJ_1, sJ_22, sR_1, sR_21, Nat.reduceEqDiff, and_true, true_and, and_false, false_and, and_self, if_true, if_false, reduceIte]; exact h2
  · simp only [sI_get, sJ_get, sI_2, sJ_1, sJ_22, sR_1, sR_21, Nat.reduceEqDiff, and_true, true_and, and_false, false_and, and_self, if_true, if_false, reduceIte]; exact h3 k hk
  · rw [sI_get]
    show _ = iI (if k = w then S.2.2 k + 1 else S.2.2 k)
    by_cases e : k = w
    · rw [if_pos ⟨rfl, e⟩, if_pos e, e]
    · rw [if_neg (fun z => e z.2), if_neg e]; exact h4 k hk
  · exact h5.same (fun q k q1 q2 => by rw [sI_get, if_neg (by omega)])
  · have hj' : j < S.1.1 := hj
    have hp := h1.2.1 j (by have := hS.1.1; omega)
    unfold isPl at hp
    exact (h6 j hj').same (by rw [sI_get, if_neg (by omega)]) (fun k => by rw [sI_get, if_neg (by omega)]) (by rw [sI_get, if_neg (by omega)]) (by rw [sI_get, if_neg (by omega)])
set_option maxHeartbeats 1000000 in
theorem m_refuse {T : TS} {S : FS} (h : fM T S) {w : Nat} (hw : w < 3) : ∃ T', cl k_Dm_refuses [.ref 53, .int (iI (w : Int))] (enc T) = some (some (.int (iI (-1))), enc T') ∧ fM T' (rfS S w) ∧ sepM T T' := by
  obtain ⟨⟨h1, h1'⟩, ⟨h2, h3⟩, h4⟩ := id h
  have ew : ((w : Int)).toNat = w := by omega
  have hr := h4 w hw
  refine ⟨sI T 57 w (iI (S.2.2 w + 1)), ?_, ⟨⟨?_, fun j hj k hk => ?_⟩, ⟨?_, fun k hk => ?_⟩, fun k hk => ?_⟩, (sepM.rf T).wr _ (by omega)⟩
  · simp (disch := first | omega | assumption | decide | (simp (disch := omega) only [iI_lit, iJ_lit, iJ_eq, iI_eq, bI_01, bI_01I] <;> omega)) only [c_Dm_refuses, e_Dm_refuses_0, e_Dm_refuses_1, e_Dm_refuses_4, e_Dm_refuses_5, e_Dm_refuses_6, e_Dm_refuses_7, e_Dm_refuses_8, e_Dm_refuses_9, e_Dm_refuses_10, e_Dm_refuses_11, bd_some, bd_none, Option.toList_some, Option.toList_none, List.nil_append, List.cons_append, px_kill_int, px_kill_long, px_kill_ref, px_kill_null, iI_lit, iJ_lit, iI_add, iI_sub, iI_mul, iI_neg, iJ_add, iJ_sub, iJ_mul, iJ_neg, iI_lt, iI_le, iI_eq, iJ_lt, iJ_le, iJ_eq, iI_div, iJ_div, tdiv_tmod, iI_J, iJ_I, iI_ix, iI_toInt, iJ_toInt, cmp_ge, cmp_lt, cmp_eq, cmp_gt, cmp_le, cmp_geI, cmp_ltI, cmp_eqI, cmp_gtI, cmp_leI, bI_0I, bI_1I, pin, if_true, sh_n57, ew, hr]
  · simp only [sI_get, sJ_get, sI_2, sJ_1, sJ_22, sR_1, sR_21, Nat.reduceEqDiff, and_true, true_and, and_false, false_and, and_self, if_true, if_false, reduceIte]; exact h1
  · simp only [sI_get, sJ_get, sI_2, sJ_1, sJ_22, sR_1, sR_21, Nat.reduceEqDiff, and_true, true_and, and_false, false_and, and_self, if_true, if_false, reduceIte]; exact h1' j hj k hk
  · simp only [sI_get, sJ_get, sI_2, sJ_1, sJ_22, sR_1, sR_21, Nat.reduceEqDiff, and_true, true_and, and_false, false_and, and_self, if_true, if_false, reduceIte]; exact h2
  · simp only [sI_get, sJ_get, sI_2, sJ_1, sJ_22, sR_1, sR_21, Nat.reduceEqDiff, and_true, true_and, and_false, false_and, and_self, if_true, if_false, reduceIte]; exact h3 k hk
  · rw [sI_get]
    show _ = iI (if k = w then S.2.2 k + 1 else S.2.2 k)
    by_cases e : k = w
    · rw [if_pos ⟨rfl, e⟩, if_pos e, e]
    · rw [if_neg (fun z => e z.2), if_neg e]; exact h4 k hk
theorem c_ref0 {G : GW} {T : TS} {S : FS} (hS : okF S) (h : fC G T S) : ∃ T', cl k_Ds_refuse [.ref 0, .int (iI 0)] (enc T) = some (some (.int (iI (-1))), enc T') ∧ fC G T' (rfS S 0) ∧ sepC T T' := c_refuse hS h (w := 0) (by omega)
theorem m_ref0 {T : TS} {S : FS} (h : fM T S) : ∃ T', cl k_Dm_refuses [.ref 53, .int (iI 0)] (enc T) = some (some (.int (iI (-1))), enc T') ∧ fM T' (rfS S 0) ∧ sepM T T' := m_refuse h (w := 0) (by omega)
theorem c_ref1 {G : GW} {T : TS} {S : FS} (hS : okF S) (h : fC G T S) : ∃ T', cl k_Ds_refuse [.ref 0, .int (iI 1)] (enc T) = some (some (.int (iI (-1))), enc T') ∧ fC G T' (rfS S 1) ∧ sepC T T' := c_refuse hS h (w := 1) (by omega)
theorem m_ref1 {T : TS} {S : FS} (h : fM T S) : ∃ T', cl k_Dm_refuses [.ref 53, .int (iI 1)] (enc T) = some (some (.int (iI (-1))), enc T') ∧ fM T' (rfS S 1) ∧ sepM T T' := m_refuse h (w := 1) (by omega)
theorem c_ref2 {G : GW} {T : TS} {S : FS} (hS : okF S) (h : fC G T S) : ∃ T', cl k_Ds_refuse [.ref 0, .int (iI 2)] (enc T) = some (some (.int (iI (-1))), enc T') ∧ fC G T' (rfS S 2) ∧ sepC T T' := c_refuse hS h (w := 2) (by omega)
theorem m_ref2 {T : TS} {S : FS} (h : fM T S) : ∃ T', cl k_Dm_refuses [.ref 53, .int (iI 2)] (enc T) = some (some (.int (iI (-1))), enc T') ∧ fM T' (rfS S 2) ∧ sepM T T' := m_refuse h (w := 2) (by omega)
