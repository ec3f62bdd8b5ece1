/-! the reference goes from a home: the search. -/
abbrev fdQ (fd0 : Nat → Prop) (n : Nat) (qu : Nat → Nat) : Nat → Prop := fun k => fd0 k ∨ ∃ i, i < n ∧ qu i = k
def mS (H : Int → Int → Nat) (X Y : Nat → Int) (N : Nat) (e fd0 : Nat → Prop) (a n : Nat) (qu : Nat → Nat) (qx qy : Nat → Int) : Prop :=
  (1 ≤ n ∧ n ≤ N ∧ qu 0 = a ∧ qx a = X a ∧ qy a = Y a) ∧ (∀ i, i < n → e (qu i) ∧ ¬ fd0 (qu i) ∧ H (qx (qu i)) (qy (qu i)) = qu i ∧ Con (eH H e) (qx a) (qy a) (qx (qu i)) (qy (qu i)) ∧ (-(i : Int) ≤ qx (qu i) - X a ∧ qx (qu i) - X a ≤ i) ∧ (-(i : Int) ≤ qy (qu i) - Y a ∧ qy (qu i) - Y a ≤ i)) ∧ ∀ i j, i < n → j < n → qu i = qu j → i = j
def mF (T : TS) (N : Nat) (fd : Nat → Prop) (qx qy : Nat → Int) : Prop := ∀ k, k < N → (fd k → T.1 64 k = iI 1 ∧ T.1 62 k = iI (qx k) ∧ T.1 63 k = iI (qy k)) ∧ (¬ fd k → T.1 64 k = iI 0)
abbrev Dq (H : Int → Int → Nat) (X Y : Nat → Int) (e : Nat → Prop) (qu : Nat → Nat) (kk s : Nat) : Nat → Nat → Prop := fun k s' => ∃ i, qu i = k ∧ (i < kk ∨ (i = kk ∧ s' < s)) ∧ s' < 4 ∧ e (nbH H X Y k s')
/-- the search on its way: step s of the kk-th home found is next -/
def mW (H : Int → Int → Nat) (X Y : Nat → Int) (N : Nat) (e fd0 : Nat → Prop) (qx0 qy0 : Nat → Int) (a tb0 sb0 kk s n : Nat) (T : TS) : Prop :=
  ∃ (qu : Nat → Nat) (qx qy : Nat → Int) (tb sb t so : Nat) (ux uy : Int), mS H X Y N e fd0 a n qu qx qy ∧ mF T N (fdQ fd0 n qu) qx qy ∧ (∀ i, i < n → T.1 65 i = iI (qu i : Int)) ∧ (∀ k s', Dq H X Y e qu kk s k s' → ∃ j, j < n ∧ qu j = nbH H X Y k s') ∧ mB T tb sb ux uy ∧ bits tb sb tb0 sb0 t so ux uy ∧ tI (clX H X Y qx) (clY H X Y qy) (Dq H X Y e qu kk s) t so ux uy ∧ ∀ k, fd0 k → qx k = qx0 k ∧ qy k = qy0 k
theorem mF.fr {T T' : TS} {N : Nat} {fd : Nat → Prop} {qx qy : Nat → Int} (h : mF T N fd qx qy) (hf : ∀ q k, 62 ≤ q → q ≤ 64 → T'.1 q k = T.1 q k) : mF T' N fd qx qy := by
  intro k hk
  obtain ⟨h1, h2⟩ := h k hk
  refine ⟨fun z => ?_, fun z => ?_⟩
  · rw [hf _ _ (by omega) (by omega), hf _ _ (by omega) (by omega), hf _ _ (by omega) (by omega)]; exact h1 z
  · rw [hf _ _ (by omega) (by omega)]; exact h2 z
theorem mB.fr {T T' : TS} {tb sb : Nat} {ux uy : Int} (h : mB T tb sb ux uy) (h1 : T'.1 53 29 = T.1 53 29) (h2 : T'.1 53 30 = T.1 53 30) (h3 : T'.2.1 53 31 = T.2.1 53 31) (h4 : T'.2.1 53 32 = T.2.1 53 32) : mB T' tb sb ux uy := ⟨h1.trans h.1, h2.trans h.2.1, h3.trans h.2.2.1, h4.trans h.2.2.2⟩
/-- a home found anew -/
theorem mS.push {H : Int → Int → Nat} (hH : hInv H) {X Y : Nat → Int} {N : Nat} (hr : hRep H N X Y) {e fd0 : Nat → Prop} {a n : Nat} {qu : Nat → Nat} {qx qy : Nat → Int} (h : mS H X Y N e fd0 a n qu qx qy) {kk s : Nat} (hkk : kk < n) (he : e (nbH H X Y (qu kk) s)) (hn : ¬ fdQ fd0 n qu (nbH H X Y (qu kk) s)) : mS H X Y N e fd0 a (n + 1) (upN qu n (nbH H X Y (qu kk) s)) (upN qx (nbH H X Y (qu kk) s) (qx (qu kk) + dX s)) (upN qy (nbH H X Y (qu kk) s) (qy (qu kk) + dY s)) := by
  obtain ⟨⟨h1, h2, h3, h4, h5⟩, h6, h7⟩ := h
  generalize hB : nbH H X Y (qu kk) s = B at *
  have hB0 : ¬ fd0 B := fun z => hn (Or.inl z)
  have hBq : ∀ i, i < n → qu i ≠ B := fun i hi z => hn (Or.inr ⟨i, hi, z⟩)
  have haB : a ≠ B := by rw [← h3]; exact hBq 0 (by omega)
  have hBN : B < N := by rw [← hB]; exact nbH_lt hr _ _
  have hd := dXY_bd s
  obtain ⟨k1, k2, k3, k4, k5, k6⟩ := h6 kk hkk
  have hinj : ∀ i j, i < n + 1 → j < n + 1 → upN qu n B i = upN qu n B j → i = j := by
    intro i j hi hj eq
    by_cases c1 : i = n
    · by_cases c2 : j = n
      · omega
      · rw [c1, upN_s, upN_o _ _ c2] at eq
        exact absurd eq.symm (hBq j (by omega))
    · by_cases c2 : j = n
      · rw [c2, upN_s, upN_o _ _ c1] at eq
        exact absurd eq (hBq i (by omega))
      · rw [upN_o _ _ c1, upN_o _ _ c2] at eq
        exact h7 i j (by omega) (by omega) eq
  have hlt : ∀ i, i < n + 1 → upN qu n B i < N := by
    intro i hi
    by_cases c : i = n
    · rw [c, upN_s]; exact hBN
    · rw [upN_o _ _ c]
      obtain ⟨-, -, q, -⟩ := h6 i (by omega)
      rw [← q]; exact hr.2 _ _
  have hnN : n + 1 ≤ N := by
    have := cnt_inj N (upN qu n B) (fun _ => True) (n + 1) (fun _ => True) (fun k hk _ => ⟨True.intro, hlt k hk⟩) (fun k k' hk hk' _ _ => hinj k k' hk hk')
    rw [cnt_all, cnt_all] at this
    exact this
  refine ⟨⟨by omega, hnN, ?_, ?_, ?_⟩, fun i hi => ?_, hinj⟩
  · rw [upN_o _ _ (by omega)]; exact h3
  · rw [upN_o _ _ haB]; exact h4
  · rw [upN_o _ _ haB]; exact h5
  · rw [upN_o qx _ haB, upN_o qy _ haB]
    by_cases c : i = n
    · subst c
      rw [upN_s, upN_s, upN_s]
      have hh := nbH_of hH hr k3 s
      rw [hB] at hh
      exact ⟨he, hB0, hh, k4.snoc s (by show e (H _ _); rw [hh]; exact he), by omega, by omega⟩
    · obtain ⟨q1, q2, q3, q4, q5, q6⟩ := h6 i (by omega)
      have hne := hBq i (by omega)
      rw [upN_o qu _ c, upN_o _ _ hne, upN_o _ _ hne]
      exact ⟨q1, q2, q3, q4, q5, q6⟩
theorem Dq_s {H : Int → Int → Nat} {X Y : Nat → Int} {e : Nat → Prop} {qu : Nat → Nat} {kk s n : Nat} (hinj : ∀ i j, i < n → j < n → qu i = qu j → i = j) (hkk : kk < n) (hs : s < 4) (he : e (nbH H X Y (qu kk) s)) (k s' : Nat) : D1 (Dq H X Y e qu kk s) (qu kk) s k s' ↔ Dq H X Y e qu kk (s + 1) k s' := by
  constructor
  · rintro (⟨i, h1, h2, h3, h4⟩ | ⟨h1, h2⟩)
    · exact ⟨i, h1, by omega, h3, h4⟩
    · exact ⟨kk, h1.symm, Or.inr ⟨rfl, by omega⟩, by omega, by rw [h1, h2]; exact he⟩
  · rintro ⟨i, h1, h2, h3, h4⟩
    by_cases c : i = kk ∧ s' = s
    · right; exact ⟨by rw [← h1, c.1], c.2⟩
    · left; exact ⟨i, h1, by omega, h3, h4⟩
theorem Dq_n {H : Int → Int → Nat} {X Y : Nat → Int} {e : Nat → Prop} {qu : Nat → Nat} {kk s : Nat} (he : ¬ e (nbH H X Y (qu kk) s)) (k s' : Nat) : Dq H X Y e qu kk s k s' ↔ Dq H X Y e qu kk (s + 1) k s' := by
  constructor
  · rintro ⟨i, h1, h2, h3, h4⟩
    exact ⟨i, h1, by omega, h3, h4⟩
  · rintro ⟨i, h1, h2, h3, h4⟩
    by_cases c : i = kk ∧ s' = s
    · rw [← h1, c.1, c.2] at h4; exact absurd h4 he
    · exact ⟨i, h1, by omega, h3, h4⟩
theorem Dq_up {H : Int → Int → Nat} {X Y : Nat → Int} {e : Nat → Prop} {qu : Nat → Nat} {kk s n B : Nat} (hkk : kk < n) (k s' : Nat) : Dq H X Y e qu kk s k s' ↔ Dq H X Y e (upN qu n B) kk s k s' := by
  constructor
  · rintro ⟨i, h1, h2, h3, h4⟩
    exact ⟨i, by rw [upN_o _ _ (by omega)]; exact h1, h2, h3, h4⟩
  · rintro ⟨i, h1, h2, h3, h4⟩
    rw [upN_o _ _ (by omega)] at h1
    exact ⟨i, h1, h2, h3, h4⟩
theorem tI.cgD {cx cy : Nat → Nat → Int} {D D' : Nat → Nat → Prop} {t so : Nat} {ux uy : Int} (h : tI cx cy D t so ux uy) (hD : ∀ k s, D k s ↔ D' k s) : tI cx cy D' t so ux uy := by
  have : D = D' := funext fun k => funext fun s => propext (hD k s)
  rw [← this]
  exact h
set_option maxHeartbeats 1000000 in
/-- up to the home that the step reaches -/
theorem go_its {T : TS} {w h sl : Int} (hg : mGrd T w h sl) (hG : okG w h sl) {a1 a2 n kk s : Nat} (hk : kk < 144) (hs : s < 4) {K B j : Nat} (hK : K < 144) (hB : B < 144) {x y : Int} (hx : -10000 ≤ x ∧ x ≤ 10000) (hy : -10000 ≤ y ∧ y ≤ 10000) (h65 : T.1 65 kk = iI (K : Int)) (h62 : T.1 62 K = iI x) (h63 : T.1 63 K = iI y) (hp : (B : Int) = plc w h sl (x + dX s) (y + dY s)) (h61 : T.1 61 B = iI (j : Int)) (hj : j ≤ 144) (ha2 : a2 ≤ 144) (a6 a7 a8 : Value) :
    rn k_Dm_goesFrom 76 [.ref 53, .int (iI (a1 : Int)), .int (iI (a2 : Int)), .int (iI (n : Int)), .int (iI (kk : Int)), .int (iI (s : Int)), a6, a7, a8] [] (enc T) = rn k_Dm_goesFrom (if (a2 : Int) ≤ (j : Int) then 233 else 157) [.ref 53, .int (iI (a1 : Int)), .int (iI (a2 : Int)), .int (iI (n : Int)), .int (iI (kk : Int)), .int (iI (s : Int)), .int (iI (x + dX s)), .int (iI (y + dY s)), .int (iI (B : Int))] [] (enc (sI (sI T 53 19 (iI ((y + dY s) % h))) 53 18 (iI (hmX w h sl (x + dX s) (y + dY s))))) := by
  have hd := dXY_bd s
  have st := stX_d hs
  have ek : ((kk : Int)).toNat = kk := by omega
  have eK : ((K : Int)).toNat = K := by omega
  have eB : ((B : Int)).toNat = B := by omega
  have es : ((s : Int)).toNat = s := by omega
  have hn4 : ¬ (4 : Int) ≤ (s : Int) := by omega
  have hl := s_laysHome T hg hG (x := x + dX s) (y := y + dY s) (by omega) (by omega)
  have hg1 : mGrd (sI (sI T 53 19 (iI ((y + dY s) % h))) 53 18 (iI (hmX w h sl (x + dX s) (y + dY s)))) w h sl := hg
  have b4 := plc_bd4 hG (x + dX s) (y + dY s)
  have hat := s_homeAt _ hg1 hG (x := hmX w h sl (x + dX s) (y + dY s)) (y := (y + dY s) % h) b4.1 b4.2.1
  rw [show (y + dY s) % h * w + hmX w h sl (x + dX s) (y + dY s) = plc w h sl (x + dX s) (y + dY s) from rfl, ← hp] at hat
  rw [e_Dm_goesFrom_76]
  simp (disch := first | omega | assumption | decide | (simp (disch := omega) only [iI_lit, iJ_lit, iJ_eq, iI_eq, bI_01, bI_01I] <;> omega)) only [e_Dm_goesFrom_78, e_Dm_goesFrom_79, e_Dm_goesFrom_82, e_Dm_goesFrom_83, e_Dm_goesFrom_86, e_Dm_goesFrom_87, e_Dm_goesFrom_90, e_Dm_goesFrom_92, e_Dm_goesFrom_92X, e_Dm_goesFrom_92Y, e_Dm_goesFrom_93, e_Dm_goesFrom_93X, e_Dm_goesFrom_93Y, e_Dm_goesFrom_94, e_Dm_goesFrom_97, e_Dm_goesFrom_99, e_Dm_goesFrom_99X, e_Dm_goesFrom_99Y, e_Dm_goesFrom_100, e_Dm_goesFrom_101, e_Dm_goesFrom_103, e_Dm_goesFrom_104, e_Dm_goesFrom_107, e_Dm_goesFrom_108, e_Dm_goesFrom_111, e_Dm_goesFrom_113, e_Dm_goesFrom_113X, e_Dm_goesFrom_113Y, e_Dm_goesFrom_114, e_Dm_goesFrom_114X, e_Dm_goesFrom_114Y, e_Dm_goesFrom_115, e_Dm_goesFrom_118, e_Dm_goesFrom_120, e_Dm_goesFrom_120X, e_Dm_goesFrom_120Y, e_Dm_goesFrom_121, e_Dm_goesFrom_122, e_Dm_goesFrom_124, e_Dm_goesFrom_125, e_Dm_goesFrom_127, e_Dm_goesFrom_129, e_Dm_goesFrom_132, e_Dm_goesFrom_133, e_Dm_goesFrom_134, e_Dm_goesFrom_137, e_Dm_goesFrom_138, e_Dm_goesFrom_141, e_Dm_goesFrom_144, e_Dm_goesFrom_146, e_Dm_goesFrom_147, e_Dm_goesFrom_150, e_Dm_goesFrom_152, e_Dm_goesFrom_152X, e_Dm_goesFrom_152Y, e_Dm_goesFrom_153, e_Dm_goesFrom_154, bd_some, bd_none, Option.toList_some, Option.toList_none, List.nil_append, List.cons_append, px_kill_int, px_kill_long, px_kill_ref, px_kill_null, iI_lit, iJ_lit, iI_add, iI_sub, iI_mul, iI_neg, iJ_add, iJ_sub, iJ_mul, iJ_neg, iI_lt, iI_le, iI_eq, iJ_lt, iJ_le, iJ_eq, iI_div, iJ_div, tdiv_tmod, iI_J, iJ_I, iI_ix, iI_toInt, iJ_toInt, cmp_ge, cmp_lt, cmp_eq, cmp_gt, cmp_le, cmp_geI, cmp_ltI, cmp_eqI, cmp_gtI, cmp_leI, bI_0I, bI_1I, pin, if_true, sI_get, sJ_get, sI_2, sJ_1, sJ_22, sR_1, sR_21, Nat.reduceEqDiff, and_true, true_and, and_false, false_and, and_self, if_true, if_false, reduceIte, hn4, sh_n65, sh_n62, sh_n63, sh_n61, ek, eK, eB, es, h65, h62, h63, st.1, st.2, hl, hat, h61]
  by_cases c : (a2 : Int) ≤ (j : Int)
  · rw [if_pos c, if_pos c]
  · rw [if_neg c, if_neg c]
