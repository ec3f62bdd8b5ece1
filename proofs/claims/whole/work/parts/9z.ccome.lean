/-! the component: a home comes in. -/
/-- the homes of the first r ranks -/
abbrev entE (o : Nat → Nat) (r : Nat) : Nat → Prop := fun k => ∃ j, j < r ∧ o j = k
theorem entE_s (o : Nat → Nat) (r k : Nat) : entE o (r + 1) k ↔ (entE o r k ∨ k = o r) := by
  constructor
  · rintro ⟨j, h1, h2⟩
    by_cases c : j = r
    · right; rw [← h2, c]
    · left; exact ⟨j, by omega, h2⟩
  · rintro (⟨j, h1, h2⟩ | h)
    · exact ⟨j, by omega, h2⟩
    · exact ⟨r, by omega, h.symm⟩
theorem entE_m (o : Nat → Nat) {a b : Nat} (h : a ≤ b) (k : Nat) : entE o a k → entE o b k := fun ⟨j, h1, h2⟩ => ⟨j, by omega, h2⟩
abbrev hX (w : Int) : Nat → Int := fun k => (k : Int) % w
abbrev hY (w : Int) : Nat → Int := fun k => (k : Int) / w
theorem nb_I {w h s : Int} (hG : okG w h s) (c i : Nat) : ((nbH (hmN w h s) (hX w) (hY w) c i : Nat) : Int) = plc w h s (hX w c + dX i) (hY w c + dY i) := by
  have := plc_bd (x := hX w c + dX i) (y := hY w c + dY i) hG
  unfold nbH hmN
  omega
theorem dXY_bd (i : Nat) : -1 ≤ dX i ∧ dX i ≤ 1 ∧ -1 ≤ dY i ∧ dY i ≤ 1 := by
  match i with
  | 0 => simp only [dX, dY]; omega
  | 1 => simp only [dX, dY]; omega
  | 2 => simp only [dX, dY]; omega
  | n + 3 => simp only [dX, dY]; omega
theorem inkP.gro {T T' : TS} {p : Nat} (hp : isPl p) {a b c d kd : Int} (h : inkP T p a b c d kd) (hf : FrI aGro T T') : inkP T' p a b c d kd :=
  h.fr hf (fun k => by unfold isPl at hp; unfold aGro; omega) (by unfold isPl at hp; unfold aGro; omega) (by unfold isPl at hp; unfold aGro; omega)
set_option maxHeartbeats 1000000 in
theorem ci_side (T : TS) (p c r : Nat) (x y : Int) (i : Nat) (hi : i < 4) (a7 a8 a9 a10 a11 : Value) : rn k_Growth_comeIn 65 [.ref 7, .ref p, .int (iI (c : Int)), .int (iI (r : Int)), .int (iI x), .int (iI y), .int (iI (i : Int)), a7, a8, a9, a10, a11] [] (enc T) = rn k_Growth_comeIn 130 [.ref 7, .ref p, .int (iI (c : Int)), .int (iI (r : Int)), .int (iI x), .int (iI y), .int (iI (i : Int)), .int (iI (x + dX i)), .int (iI (y + dY i)), a9, a10, a11] [] (enc T) := by
  rw [e_Growth_comeIn_65]
  match i with
  | 0 =>
    have z0 : ((0 : Nat) : Int) = 0 := rfl
    have h4 : ¬ (4 : Int) ≤ 0 := by decide
    have z1 : ¬ (0 : Int) = 2 := by decide
    have z2 : ¬ (0 : Int) = 3 := by decide
    rw [z0]
    simp (disch := first | omega | assumption | decide | (simp (disch := omega) only [iI_lit, iJ_lit, iJ_eq, iI_eq, bI_01, bI_01I] <;> omega)) only [e_Growth_comeIn_67, e_Growth_comeIn_68, e_Growth_comeIn_71, e_Growth_comeIn_73, e_Growth_comeIn_76, e_Growth_comeIn_78, e_Growth_comeIn_79, e_Growth_comeIn_80, e_Growth_comeIn_83, e_Growth_comeIn_85, e_Growth_comeIn_86, e_Growth_comeIn_89, e_Growth_comeIn_91, e_Growth_comeIn_92, e_Growth_comeIn_93, e_Growth_comeIn_96, e_Growth_comeIn_98, e_Growth_comeIn_100, e_Growth_comeIn_102, e_Growth_comeIn_103, e_Growth_comeIn_106, e_Growth_comeIn_108, e_Growth_comeIn_109, e_Growth_comeIn_110, e_Growth_comeIn_113, e_Growth_comeIn_115, e_Growth_comeIn_116, e_Growth_comeIn_119, e_Growth_comeIn_121, e_Growth_comeIn_122, e_Growth_comeIn_123, e_Growth_comeIn_126, e_Growth_comeIn_128, bd_some, bd_none, Option.toList_some, Option.toList_none, List.nil_append, List.cons_append, px_kill_int, px_kill_long, px_kill_ref, px_kill_null, iI_lit, iJ_lit, iI_add, iI_sub, iI_mul, iI_neg, iJ_add, iJ_sub, iJ_mul, iJ_neg, iI_lt, iI_le, iI_eq, iJ_lt, iJ_le, iJ_eq, iI_div, iJ_div, tdiv_tmod, iI_J, iJ_I, iI_ix, iI_toInt, iJ_toInt, cmp_ge, cmp_lt, cmp_eq, cmp_gt, cmp_le, cmp_geI, cmp_ltI, cmp_eqI, cmp_gtI, cmp_leI, bI_0I, bI_1I, pin, if_true, h4, if_false, z1, z2, dX, dY, Int.add_zero]
  | 1 =>
    have z0 : ((1 : Nat) : Int) = 1 := rfl
    have h4 : ¬ (4 : Int) ≤ 1 := by decide
    have z1 : ¬ (1 : Int) = 2 := by decide
    have z2 : ¬ (1 : Int) = 3 := by decide
    rw [z0]
    simp (disch := first | omega | assumption | decide | (simp (disch := omega) only [iI_lit, iJ_lit, iJ_eq, iI_eq, bI_01, bI_01I] <;> omega)) only [e_Growth_comeIn_67, e_Growth_comeIn_68, e_Growth_comeIn_71, e_Growth_comeIn_73, e_Growth_comeIn_76, e_Growth_comeIn_78, e_Growth_comeIn_79, e_Growth_comeIn_80, e_Growth_comeIn_83, e_Growth_comeIn_85, e_Growth_comeIn_86, e_Growth_comeIn_89, e_Growth_comeIn_91, e_Growth_comeIn_92, e_Growth_comeIn_93, e_Growth_comeIn_96, e_Growth_comeIn_98, e_Growth_comeIn_100, e_Growth_comeIn_102, e_Growth_comeIn_103, e_Growth_comeIn_106, e_Growth_comeIn_108, e_Growth_comeIn_109, e_Growth_comeIn_110, e_Growth_comeIn_113, e_Growth_comeIn_115, e_Growth_comeIn_116, e_Growth_comeIn_119, e_Growth_comeIn_121, e_Growth_comeIn_122, e_Growth_comeIn_123, e_Growth_comeIn_126, e_Growth_comeIn_128, bd_some, bd_none, Option.toList_some, Option.toList_none, List.nil_append, List.cons_append, px_kill_int, px_kill_long, px_kill_ref, px_kill_null, iI_lit, iJ_lit, iI_add, iI_sub, iI_mul, iI_neg, iJ_add, iJ_sub, iJ_mul, iJ_neg, iI_lt, iI_le, iI_eq, iJ_lt, iJ_le, iJ_eq, iI_div, iJ_div, tdiv_tmod, iI_J, iJ_I, iI_ix, iI_toInt, iJ_toInt, cmp_ge, cmp_lt, cmp_eq, cmp_gt, cmp_le, cmp_geI, cmp_ltI, cmp_eqI, cmp_gtI, cmp_leI, bI_0I, bI_1I, pin, if_true, h4, if_false, z1, z2, one0, dX, dY, Int.add_zero]
    rfl
  | 2 =>
    have z0 : ((2 : Nat) : Int) = 2 := rfl
    have h4 : ¬ (4 : Int) ≤ 2 := by decide
    have z1 : ¬ (2 : Int) = 0 := by decide
    have z2 : ¬ (2 : Int) = 1 := by decide
    rw [z0]
    simp (disch := first | omega | assumption | decide | (simp (disch := omega) only [iI_lit, iJ_lit, iJ_eq, iI_eq, bI_01, bI_01I] <;> omega)) only [e_Growth_comeIn_67, e_Growth_comeIn_68, e_Growth_comeIn_71, e_Growth_comeIn_73, e_Growth_comeIn_76, e_Growth_comeIn_78, e_Growth_comeIn_79, e_Growth_comeIn_80, e_Growth_comeIn_83, e_Growth_comeIn_85, e_Growth_comeIn_86, e_Growth_comeIn_89, e_Growth_comeIn_91, e_Growth_comeIn_92, e_Growth_comeIn_93, e_Growth_comeIn_96, e_Growth_comeIn_98, e_Growth_comeIn_100, e_Growth_comeIn_102, e_Growth_comeIn_103, e_Growth_comeIn_106, e_Growth_comeIn_108, e_Growth_comeIn_109, e_Growth_comeIn_110, e_Growth_comeIn_113, e_Growth_comeIn_115, e_Growth_comeIn_116, e_Growth_comeIn_119, e_Growth_comeIn_121, e_Growth_comeIn_122, e_Growth_comeIn_123, e_Growth_comeIn_126, e_Growth_comeIn_128, bd_some, bd_none, Option.toList_some, Option.toList_none, List.nil_append, List.cons_append, px_kill_int, px_kill_long, px_kill_ref, px_kill_null, iI_lit, iJ_lit, iI_add, iI_sub, iI_mul, iI_neg, iJ_add, iJ_sub, iJ_mul, iJ_neg, iI_lt, iI_le, iI_eq, iJ_lt, iJ_le, iJ_eq, iI_div, iJ_div, tdiv_tmod, iI_J, iJ_I, iI_ix, iI_toInt, iJ_toInt, cmp_ge, cmp_lt, cmp_eq, cmp_gt, cmp_le, cmp_geI, cmp_ltI, cmp_eqI, cmp_gtI, cmp_leI, bI_0I, bI_1I, pin, if_true, h4, if_false, z1, z2, dX, dY, Int.add_zero]
  | 3 =>
    have z0 : ((3 : Nat) : Int) = 3 := rfl
    have h4 : ¬ (4 : Int) ≤ 3 := by decide
    have z1 : ¬ (3 : Int) = 0 := by decide
    have z2 : ¬ (3 : Int) = 1 := by decide
    have z3 : ¬ (3 : Int) = 2 := by decide
    rw [z0]
    simp (disch := first | omega | assumption | decide | (simp (disch := omega) only [iI_lit, iJ_lit, iJ_eq, iI_eq, bI_01, bI_01I] <;> omega)) only [e_Growth_comeIn_67, e_Growth_comeIn_68, e_Growth_comeIn_71, e_Growth_comeIn_73, e_Growth_comeIn_76, e_Growth_comeIn_78, e_Growth_comeIn_79, e_Growth_comeIn_80, e_Growth_comeIn_83, e_Growth_comeIn_85, e_Growth_comeIn_86, e_Growth_comeIn_89, e_Growth_comeIn_91, e_Growth_comeIn_92, e_Growth_comeIn_93, e_Growth_comeIn_96, e_Growth_comeIn_98, e_Growth_comeIn_100, e_Growth_comeIn_102, e_Growth_comeIn_103, e_Growth_comeIn_106, e_Growth_comeIn_108, e_Growth_comeIn_109, e_Growth_comeIn_110, e_Growth_comeIn_113, e_Growth_comeIn_115, e_Growth_comeIn_116, e_Growth_comeIn_119, e_Growth_comeIn_121, e_Growth_comeIn_122, e_Growth_comeIn_123, e_Growth_comeIn_126, e_Growth_comeIn_128, bd_some, bd_none, Option.toList_some, Option.toList_none, List.nil_append, List.cons_append, px_kill_int, px_kill_long, px_kill_ref, px_kill_null, iI_lit, iJ_lit, iI_add, iI_sub, iI_mul, iI_neg, iJ_add, iJ_sub, iJ_mul, iJ_neg, iI_lt, iI_le, iI_eq, iJ_lt, iJ_le, iJ_eq, iI_div, iJ_div, tdiv_tmod, iI_J, iJ_I, iI_ix, iI_toInt, iJ_toInt, cmp_ge, cmp_lt, cmp_eq, cmp_gt, cmp_le, cmp_geI, cmp_ltI, cmp_eqI, cmp_gtI, cmp_leI, bI_0I, bI_1I, pin, if_true, h4, if_false, z1, z2, z3, dX, dY, Int.add_zero]
    rfl
set_option maxHeartbeats 1000000 in
theorem lp_come {p : Nat} (hp : isPl p) {a b c d kd : Int} (o : Nat → Nat) {N : Nat} (hN : (N : Int) = cel a b c d) (hsur : ∀ k, k < N → ∃ j, j < N ∧ o j = k) (hinj : ∀ r r', r < N → r' < N → o r = o r' → r = r') (hlt : ∀ r, r < N → o r < N) {P Q : Nat → Prop} {r : Nat} (hr : r < N) : ∀ (m i : Nat) (T : TS), i + m = 4 → inkP T p a b c d kd → (∀ j, j < N → T.1 (p + 4) (o j) = iI (j : Int)) →
    grQ (hmN (bkW (brk a b c d)) (bkH (brk a b c d)) (bkS (brk a b c d))) (hX (bkW (brk a b c d))) (hY (bkW (brk a b c d))) N P Q r (entE o (r + 1)) (Dn (hmN (bkW (brk a b c d)) (bkH (brk a b c d)) (bkS (brk a b c d))) (hX (bkW (brk a b c d))) (hY (bkW (brk a b c d))) (entE o r) (entE o (r + 1)) (o r) i) T → ∀ (a7 a8 a9 a10 a11 : Value),
    ∃ T', rn k_Growth_comeIn 65 [.ref 7, .ref p, .int (iI (o r : Int)), .int (iI (r : Int)), .int (iI ((o r : Int) % bkW (brk a b c d))), .int (iI ((o r : Int) / bkW (brk a b c d))), .int (iI (i : Int)), a7, a8, a9, a10, a11] [] (enc T) = some (none, enc T') ∧ FrI aGro T T' ∧ grQ (hmN (bkW (brk a b c d)) (bkH (brk a b c d)) (bkS (brk a b c d))) (hX (bkW (brk a b c d))) (hY (bkW (brk a b c d))) N P Q r (entE o (r + 1)) (Dn (hmN (bkW (brk a b c d)) (bkH (brk a b c d)) (bkS (brk a b c d))) (hX (bkW (brk a b c d))) (hY (bkW (brk a b c d))) (entE o r) (entE o (r + 1)) (o r) 4) T' := by
  intro m
  induction m with
  | zero =>
    intro i T him hI hrk hS a7 a8 a9 a10 a11
    have h4 : i = 4 := by omega
    subst h4
    refine ⟨T, ?_, FrI.rf _ _, hS⟩
    rw [e_Growth_comeIn_65]
    have z0 : ((4 : Nat) : Int) = 4 := rfl
    rw [z0]
    simp (disch := first | omega | assumption | decide | (simp (disch := omega) only [iI_lit, iJ_lit, iJ_eq, iI_eq, bI_01, bI_01I] <;> omega)) only [e_Growth_comeIn_67, e_Growth_comeIn_68, e_Growth_comeIn_71, e_Growth_comeIn_73, e_Growth_comeIn_76, e_Growth_comeIn_78, e_Growth_comeIn_79, e_Growth_comeIn_80, e_Growth_comeIn_83, e_Growth_comeIn_85, e_Growth_comeIn_86, e_Growth_comeIn_89, e_Growth_comeIn_91, e_Growth_comeIn_92, e_Growth_comeIn_93, e_Growth_comeIn_96, e_Growth_comeIn_98, e_Growth_comeIn_100, e_Growth_comeIn_102, e_Growth_comeIn_103, e_Growth_comeIn_106, e_Growth_comeIn_108, e_Growth_comeIn_109, e_Growth_comeIn_110, e_Growth_comeIn_113, e_Growth_comeIn_115, e_Growth_comeIn_116, e_Growth_comeIn_119, e_Growth_comeIn_121, e_Growth_comeIn_122, e_Growth_comeIn_123, e_Growth_comeIn_126, e_Growth_comeIn_128, e_Growth_comeIn_205, bd_some, bd_none, Option.toList_some, Option.toList_none, List.nil_append, List.cons_append, px_kill_int, px_kill_long, px_kill_ref, px_kill_null, iI_lit, iJ_lit, iI_add, iI_sub, iI_mul, iI_neg, iJ_add, iJ_sub, iJ_mul, iJ_neg, iI_lt, iI_le, iI_eq, iJ_lt, iJ_le, iJ_eq, iI_div, iJ_div, tdiv_tmod, iI_J, iJ_I, iI_ix, iI_toInt, iJ_toInt, cmp_ge, cmp_lt, cmp_eq, cmp_gt, cmp_le, cmp_geI, cmp_ltI, cmp_eqI, cmp_gtI, cmp_leI, bI_0I, bI_1I, pin, if_true, Int.le_refl]
  | succ m ih =>
    intro i T him hI hrk hS a7 a8 a9 a10 a11
    obtain ⟨hp1, hok, hscr, hgrd, hc, hkd, hkb⟩ := id hI
    have hG := okG_brk hok
    obtain ⟨f1, f2, f3, f4, f5, f6⟩ := brk_facts hok
    have hcb := cel_bd hok
    have hH := hmN_inv hG
    have hrp := hmN_rep hG
    rw [show (bkW (brk a b c d) * bkH (brk a b c d)).toNat = N by omega] at hrp
    have hol := hlt r hr
    have hw := hG.1
    have hh := hG.2.1
    have hm := home_n (w := bkW (brk a b c d)) (h := bkH (brk a b c d)) (n := o r) f1 (by rw [f5]; omega)
    have hd := dXY_bd i
    have hpf := s_placeFrom T hp1 (x := (o r : Int) % bkW (brk a b c d) + dX i) (y := (o r : Int) / bkW (brk a b c d) + dY i) hgrd hG (by omega) (by omega)
    have hnI := nb_I hG (o r) i
    rw [show hX (bkW (brk a b c d)) (o r) = (o r : Int) % bkW (brk a b c d) from rfl, show hY (bkW (brk a b c d)) (o r) = (o r : Int) / bkW (brk a b c d) from rfl] at hnI
    rw [← hnI] at hpf
    have hbl := nbH_lt (X := hX (bkW (brk a b c d))) (Y := hY (bkW (brk a b c d))) hrp (o r) i
    obtain ⟨B, hB⟩ : ∃ B, B = nbH (hmN (bkW (brk a b c d)) (bkH (brk a b c d)) (bkS (brk a b c d))) (hX (bkW (brk a b c d))) (hY (bkW (brk a b c d))) (o r) i := ⟨_, rfl⟩
    rw [← hB] at hpf hbl
    obtain ⟨j, hj, hoj⟩ := hsur B hbl
    have hrB := hrk j hj
    rw [hoj] at hrB
    have hpl := s_isPlace (k := B) (by omega) (enc T)
    have q4 := ink_s4 hp1
    have q4' : (sh (p + 4)).1 = 0 := by rw [q4]
    have eB : ((B : Nat) : Int).toNat = B := by omega
    have hat : cl k_Ds_at [.ref (p + 4), .int (iI ((B : Nat) : Int))] (enc T) = some (some (.int (iI (j : Int))), enc T) := by
      rw [s_at (p + 4) _ T q4', q4, if_pos (by rw [px_in, iI_toInt (by omega) (by omega)]; omega), iI_ix (by omega) (by omega), eB, hrB]
    have hent : entE o (r + 1) B ↔ j ≤ r := by
      constructor
      · rintro ⟨j', h1, h2⟩
        have := hinj j' j (by omega) hj (h2.trans hoj.symm)
        omega
      · intro q; exact ⟨j, by omega, hoj⟩
    have he' : entE o (r + 1) (o r) := ⟨r, by omega, rfl⟩
    rw [ci_side T p (o r) r _ _ i (by omega)]
    by_cases q : j ≤ r
    · have q1 : ¬ (r : Int) < (j : Int) := by omega
      have x0 := s_axis0 T hp1 (n := (B : Int)) hgrd hG (by omega)
      have x1 := s_axis1 T hp1 (n := (B : Int)) hgrd hG (by omega)
      obtain ⟨T2, e2, fr2, hS2⟩ := s_join hH hrp (by omega) (by omega) hS (c := o r) (i := i) he' (by rw [← hB]; exact hent.mpr q) (vx := (o r : Int) % bkW (brk a b c d) + dX i - (B : Int) % bkW (brk a b c d)) (vy := (o r : Int) / bkW (brk a b c d) + dY i - (B : Int) / bkW (brk a b c d)) (by rw [← hB]) (by rw [← hB])
      rw [← hB] at e2
      have pp : isPl p := hp
      unfold isPl at pp
      obtain ⟨T', e3, fr3, hS3⟩ := ih (i + 1) T2 (by omega) (hI.gro hp fr2) (fun j hj => by rw [fr2.1 _ _ (by unfold aGro; omega)]; exact hrk j hj) (hS2.cgD (fun k s => by
        unfold D1 Dn
        constructor
        · rintro ((z | ⟨z1, z2, z3⟩) | ⟨z1, z2⟩)
          · exact Or.inl z
          · exact Or.inr ⟨z1, by omega, z3⟩
          · exact Or.inr ⟨z1, by omega, by rw [z2, ← hB]; exact hent.mpr q⟩
        · rintro (z | ⟨z1, z2, z3⟩)
          · exact Or.inl (Or.inl z)
          · by_cases w : s = i
            · exact Or.inr ⟨z1, w⟩
            · exact Or.inl (Or.inr ⟨z1, by omega, z3⟩))) (.int (iI ((o r : Int) % bkW (brk a b c d) + dX i))) (.int (iI ((o r : Int) / bkW (brk a b c d) + dY i))) (.int (iI (B : Int))) (.int (iI ((o r : Int) % bkW (brk a b c d) + dX i - (B : Int) % bkW (brk a b c d)))) (.int (iI ((o r : Int) / bkW (brk a b c d) + dY i - (B : Int) / bkW (brk a b c d))))
      refine ⟨T', ?_, fr2.tr fr3, hS3⟩
      rw [← e3]
      simp (disch := first | omega | assumption | decide | (simp (disch := omega) only [iI_lit, iJ_lit, iJ_eq, iI_eq, bI_01, bI_01I] <;> omega)) only [e_Growth_comeIn_130, e_Growth_comeIn_131, e_Growth_comeIn_133, e_Growth_comeIn_135, e_Growth_comeIn_138, e_Growth_comeIn_140, e_Growth_comeIn_142, e_Growth_comeIn_145, e_Growth_comeIn_148, e_Growth_comeIn_149, e_Growth_comeIn_152, e_Growth_comeIn_154, e_Growth_comeIn_157, e_Growth_comeIn_158, e_Growth_comeIn_161, e_Growth_comeIn_163, e_Growth_comeIn_164, e_Growth_comeIn_166, e_Growth_comeIn_167, e_Growth_comeIn_170, e_Growth_comeIn_171, e_Growth_comeIn_173, e_Growth_comeIn_175, e_Growth_comeIn_176, e_Growth_comeIn_178, e_Growth_comeIn_179, e_Growth_comeIn_182, e_Growth_comeIn_183, e_Growth_comeIn_185, e_Growth_comeIn_186, e_Growth_comeIn_187, e_Growth_comeIn_189, e_Growth_comeIn_191, e_Growth_comeIn_193, e_Growth_comeIn_194, e_Growth_comeIn_195, e_Growth_comeIn_196, e_Growth_comeIn_199, e_Growth_comeIn_202, bd_some, bd_none, Option.toList_some, Option.toList_none, List.nil_append, List.cons_append, px_kill_int, px_kill_long, px_kill_ref, px_kill_null, iI_lit, iJ_lit, iI_add, iI_sub, iI_mul, iI_neg, iJ_add, iJ_sub, iJ_mul, iJ_neg, iI_lt, iI_le, iI_eq, iJ_lt, iJ_le, iJ_eq, iI_div, iJ_div, tdiv_tmod, iI_J, iJ_I, iI_ix, iI_toInt, iJ_toInt, cmp_ge, cmp_lt, cmp_eq, cmp_gt, cmp_le, cmp_geI, cmp_ltI, cmp_eqI, cmp_gtI, cmp_leI, bI_0I, bI_1I, pin, if_true, hpf, hpl, one0, hat, q1, if_false, x0, x1, e2]
      rw [show ((i + 1 : Nat) : Int) = (i : Int) + 1 by omega]
    · have q1 : (r : Int) < (j : Int) := by omega
      obtain ⟨T', e3, fr3, hS3⟩ := ih (i + 1) T (by omega) hI hrk (hS.cgD (fun k s => by
        unfold Dn
        constructor
        · rintro (z | ⟨z1, z2, z3⟩)
          · exact Or.inl z
          · exact Or.inr ⟨z1, by omega, z3⟩
        · rintro (z | ⟨z1, z2, z3⟩)
          · exact Or.inl z
          · by_cases w : s = i
            · rw [w, ← hB] at z3
              exact absurd (hent.mp z3) q
            · exact Or.inr ⟨z1, by omega, z3⟩)) (.int (iI ((o r : Int) % bkW (brk a b c d) + dX i))) (.int (iI ((o r : Int) / bkW (brk a b c d) + dY i))) (.int (iI (B : Int))) a10 a11
      refine ⟨T', ?_, fr3, hS3⟩
      rw [← e3]
      simp (disch := first | omega | assumption | decide | (simp (disch := omega) only [iI_lit, iJ_lit, iJ_eq, iI_eq, bI_01, bI_01I] <;> omega)) only [e_Growth_comeIn_130, e_Growth_comeIn_131, e_Growth_comeIn_133, e_Growth_comeIn_135, e_Growth_comeIn_138, e_Growth_comeIn_140, e_Growth_comeIn_142, e_Growth_comeIn_145, e_Growth_comeIn_148, e_Growth_comeIn_149, e_Growth_comeIn_152, e_Growth_comeIn_154, e_Growth_comeIn_157, e_Growth_comeIn_158, e_Growth_comeIn_161, e_Growth_comeIn_163, e_Growth_comeIn_164, e_Growth_comeIn_166, e_Growth_comeIn_167, e_Growth_comeIn_170, e_Growth_comeIn_171, e_Growth_comeIn_173, e_Growth_comeIn_175, e_Growth_comeIn_176, e_Growth_comeIn_178, e_Growth_comeIn_179, e_Growth_comeIn_182, e_Growth_comeIn_183, e_Growth_comeIn_185, e_Growth_comeIn_186, e_Growth_comeIn_187, e_Growth_comeIn_189, e_Growth_comeIn_191, e_Growth_comeIn_193, e_Growth_comeIn_194, e_Growth_comeIn_195, e_Growth_comeIn_196, e_Growth_comeIn_199, e_Growth_comeIn_202, bd_some, bd_none, Option.toList_some, Option.toList_none, List.nil_append, List.cons_append, px_kill_int, px_kill_long, px_kill_ref, px_kill_null, iI_lit, iJ_lit, iI_add, iI_sub, iI_mul, iI_neg, iJ_add, iJ_sub, iJ_mul, iJ_neg, iI_lt, iI_le, iI_eq, iJ_lt, iJ_le, iJ_eq, iI_div, iJ_div, tdiv_tmod, iI_J, iJ_I, iI_ix, iI_toInt, iJ_toInt, cmp_ge, cmp_lt, cmp_eq, cmp_gt, cmp_le, cmp_geI, cmp_ltI, cmp_eqI, cmp_gtI, cmp_leI, bI_0I, bI_1I, pin, if_true, hpf, hpl, one0, hat, q1, if_false]
      rw [show ((i + 1 : Nat) : Int) = (i : Int) + 1 by omega]
/-- the component at the end of level r -/
def gE (H : Int → Int → Nat) (X Y : Nat → Int) (N : Nat) (o : Nat → Nat) (r : Nat) (T : TS) : Prop :=
  ∃ (rt : Nat → Nat) (mx my sz : Nat → Int) (F : Nat → Nat) (wx wy : Nat → Int) (t so : Nat) (ux uy : Int), gI H X Y N (entE o r) (fun k s => entE o r k ∧ entE o r (nbH H X Y k s)) rt mx my sz F wx wy ∧ gM T (entE o r) rt mx my sz ∧ gR T t so ux uy ∧ tI (clX H X Y (fun k => X k + wx k)) (clY H X Y (fun k => Y k + wy k)) (fun k s => entE o r k ∧ entE o r (nbH H X Y k s)) t so ux uy ∧ fstL (fun r => TCH H (entE o r)) r t ∧ fstL (fun r => SLD H (entE o r)) r so ∧ T.1 7 6 = iI (cnt (rtS (entE o r) F) N : Int) ∧ isF H X Y (entE o r) F (fun k => X k + wx k) (fun k => Y k + wy k)
set_option maxHeartbeats 1000000 in
theorem s_comeIn {p : Nat} (hp : isPl p) {a b c d kd : Int} (o : Nat → Nat) {N : Nat} (hN : (N : Int) = cel a b c d) (hsur : ∀ k, k < N → ∃ j, j < N ∧ o j = k) (hinj : ∀ r r', r < N → r' < N → o r = o r' → r = r') (hlt : ∀ r, r < N → o r < N) {r : Nat} (hr : r < N) {T : TS} (hI : inkP T p a b c d kd) (hrk : ∀ j, j < N → T.1 (p + 4) (o j) = iI (j : Int)) (hE : gE (hmN (bkW (brk a b c d)) (bkH (brk a b c d)) (bkS (brk a b c d))) (hX (bkW (brk a b c d))) (hY (bkW (brk a b c d))) N o r T) :
    ∃ T', cl k_Growth_comeIn [.ref 7, .ref p, .int (iI (o r : Int)), .int (iI (r : Int))] (enc T) = some (none, enc T') ∧ FrI aGro T T' ∧ gE (hmN (bkW (brk a b c d)) (bkH (brk a b c d)) (bkS (brk a b c d))) (hX (bkW (brk a b c d))) (hY (bkW (brk a b c d))) N o (r + 1) T' := by
  obtain ⟨hp1, hok, hscr, hgrd, hc, hkd, hkb⟩ := id hI
  have hG := okG_brk hok
  obtain ⟨f1, f2, f3, f4, f5, f6⟩ := brk_facts hok
  have hcb := cel_bd hok
  have hH := hmN_inv hG
  have hrp := hmN_rep hG
  rw [show (bkW (brk a b c d) * bkH (brk a b c d)).toNat = N by omega] at hrp
  have hol := hlt r hr
  obtain ⟨rt, mx, my, sz, F, wx, wy, t, so, ux, uy, hg, hm, hR, hT, hP, hQ, hL, hF⟩ := hE
  have he := entE_s o r
  have hnc : ¬ entE o r (o r) := by
    rintro ⟨j, h1, h2⟩
    have := hinj j r (by omega) hr h2
    omega
  have hpl := s_isPlace (k := o r) (by omega) (enc T)
  have eO : ((o r : Nat) : Int).toNat = o r := by omega
  obtain ⟨hg', hC⟩ := hg.new hrp hol hnc he
  obtain ⟨T1, hT1⟩ : ∃ T1, T1 = sI (sI (sI (sI (sI T 8 (o r) (iI (o r : Int))) 9 (o r) (iI 0)) 10 (o r) (iI 0)) 11 (o r) (iI 1)) 7 6 (iI ((cnt (rtS (entE o r) F) N : Int) + 1)) := ⟨_, rfl⟩
  have fr1 : FrI aGro T T1 := by
    rw [hT1]
    exact (((((FrI.rf _ _).wr _ (by unfold aGro; omega)).wr _ (by unfold aGro; omega)).wr _ (by unfold aGro; omega)).wr _ (by unfold aGro; omega)).wr _ (by unfold aGro; omega)
  have hm1 : gM T1 (entE o (r + 1)) (upN rt (o r) (o r)) (upN mx (o r) 0) (upN my (o r) 0) (upN sz (o r) 1) := by
    rw [hT1]
    exact (hm.new he).fr (fun q k q1 q2 => by rw [sI_get, if_neg (by omega)])
  have hR1 : gR T1 t so ux uy := by
    obtain ⟨r1, r2, r3, r4⟩ := hR
    rw [hT1]
    refine ⟨?_, ?_, ?_, ?_⟩ <;> simp only [sI_get, sJ_get, sI_2, sJ_1, sJ_22, sR_1, sR_21, Nat.reduceEqDiff, and_true, true_and, and_false, false_and, and_self, if_true, if_false, reduceIte] <;> assumption
  have hS1 : grQ (hmN (bkW (brk a b c d)) (bkH (brk a b c d)) (bkS (brk a b c d))) (hX (bkW (brk a b c d))) (hY (bkW (brk a b c d))) N (fun r => TCH (hmN (bkW (brk a b c d)) (bkH (brk a b c d)) (bkS (brk a b c d))) (entE o r)) (fun r => SLD (hmN (bkW (brk a b c d)) (bkH (brk a b c d)) (bkS (brk a b c d))) (entE o r)) r (entE o (r + 1)) (Dn (hmN (bkW (brk a b c d)) (bkH (brk a b c d)) (bkS (brk a b c d))) (hX (bkW (brk a b c d))) (hY (bkW (brk a b c d))) (entE o r) (entE o (r + 1)) (o r) 0) T1 := by
    refine grQ.cgD (D := fun k s => entE o r k ∧ entE o r (nbH (hmN (bkW (brk a b c d)) (bkH (brk a b c d)) (bkS (brk a b c d))) (hX (bkW (brk a b c d))) (hY (bkW (brk a b c d))) k s)) ⟨_, _, _, _, _, _, _, t, so, ux, uy, hg', hm1, hR1, tI.cg hT (fun k s dd => ?_) (fun k s dd => ?_), Or.inl hP, Or.inl hQ, ?_⟩ (fun k s => ?_)
    · unfold clX
      dsimp only
      have n1 : k ≠ o r := fun z => hnc (z ▸ dd.1)
      have n2 : nbH (hmN (bkW (brk a b c d)) (bkH (brk a b c d)) (bkS (brk a b c d))) (hX (bkW (brk a b c d))) (hY (bkW (brk a b c d))) k s ≠ o r := fun z => hnc (z ▸ dd.2)
      rw [upN_o _ _ n1, upN_o _ _ n2]
    · unfold clY
      dsimp only
      have n1 : k ≠ o r := fun z => hnc (z ▸ dd.1)
      have n2 : nbH (hmN (bkW (brk a b c d)) (bkH (brk a b c d)) (bkS (brk a b c d))) (hX (bkW (brk a b c d))) (hY (bkW (brk a b c d))) k s ≠ o r := fun z => hnc (z ▸ dd.2)
      rw [upN_o _ _ n1, upN_o _ _ n2]
    · rw [hC, hT1]
      simp only [sI_get, sJ_get, sI_2, sJ_1, sJ_22, sR_1, sR_21, Nat.reduceEqDiff, and_true, true_and, and_false, false_and, and_self, if_true, if_false, reduceIte]
      rw [show ((cnt (rtS (entE o r) F) N + 1 : Nat) : Int) = (cnt (rtS (entE o r) F) N : Int) + 1 by omega]
    · constructor
      · intro z; exact Or.inl z
      · rintro (z | ⟨z1, z2, z3⟩)
        · exact z
        · omega
  have pp : isPl p := hp
  unfold isPl at pp
  have x0 := s_axis0 T1 hp1 (n := (o r : Int)) (hI.gro hp fr1).2.2.2.1 hG (by omega)
  have x1 := s_axis1 T1 hp1 (n := (o r : Int)) (hI.gro hp fr1).2.2.2.1 hG (by omega)
  obtain ⟨T', e2, fr2, rt', mx', my', sz', F', wx', wy', t', so', ux', uy', hg2, hm2, hR2, hT2, hP2, hQ2, hL2⟩ := lp_come hp o hN hsur hinj hlt hr 4 0 T1 (by omega) (hI.gro hp fr1) (fun j hj => by rw [fr1.1 _ _ (by unfold aGro; omega)]; exact hrk j hj) hS1 .null .null .null .null .null
  obtain ⟨hF2, hall⟩ := hg2.lots hH hrp he
  have hD : ∀ k s, Dn (hmN (bkW (brk a b c d)) (bkH (brk a b c d)) (bkS (brk a b c d))) (hX (bkW (brk a b c d))) (hY (bkW (brk a b c d))) (entE o r) (entE o (r + 1)) (o r) 4 k s → entE o (r + 1) k ∧ entE o (r + 1) (nbH (hmN (bkW (brk a b c d)) (bkH (brk a b c d)) (bkS (brk a b c d))) (hX (bkW (brk a b c d))) (hY (bkW (brk a b c d))) k s) := fun k s z => ⟨(hg2.2.2.2 k s z).1, (hg2.2.2.2 k s z).2.1⟩
  obtain ⟨w1, w2, w3, w4, w5⟩ := tI.all hH hrp he (fun k hk => (hg2.1 k hk).1.1) hD hF2 hT2
  refine ⟨T', ?_, fr1.tr fr2, rt', mx', my', sz', F', wx', wy', t', so', ux', uy', hg2.more (fun k s z => Or.inr ⟨z.1, z.2, hall k s z.1 z.2⟩), hm2, hR2, w5, hP2.fin (fun u v huv => TCH.mono (entE_m o huv)) w1 w2, hQ2.fin (fun u v huv => SLD.mono (entE_m o huv)) w3 w4, hL2, hF2⟩
  rw [← e2]
  simp (disch := first | omega | assumption | decide | (simp (disch := omega) only [iI_lit, iJ_lit, iJ_eq, iI_eq, bI_01, bI_01I] <;> omega)) only [c_Growth_comeIn, e_Growth_comeIn_0, e_Growth_comeIn_1, e_Growth_comeIn_4, e_Growth_comeIn_7, e_Growth_comeIn_8, e_Growth_comeIn_9, e_Growth_comeIn_12, e_Growth_comeIn_13, e_Growth_comeIn_14, e_Growth_comeIn_15, e_Growth_comeIn_16, e_Growth_comeIn_19, e_Growth_comeIn_20, e_Growth_comeIn_21, e_Growth_comeIn_22, e_Growth_comeIn_23, e_Growth_comeIn_26, e_Growth_comeIn_27, e_Growth_comeIn_28, e_Growth_comeIn_29, e_Growth_comeIn_30, e_Growth_comeIn_33, e_Growth_comeIn_34, e_Growth_comeIn_35, e_Growth_comeIn_36, e_Growth_comeIn_37, e_Growth_comeIn_38, e_Growth_comeIn_41, e_Growth_comeIn_42, e_Growth_comeIn_43, e_Growth_comeIn_46, e_Growth_comeIn_47, e_Growth_comeIn_48, e_Growth_comeIn_49, e_Growth_comeIn_52, e_Growth_comeIn_54, e_Growth_comeIn_55, e_Growth_comeIn_56, e_Growth_comeIn_57, e_Growth_comeIn_60, e_Growth_comeIn_62, e_Growth_comeIn_63, bd_some, bd_none, Option.toList_some, Option.toList_none, List.nil_append, List.cons_append, px_kill_int, px_kill_long, px_kill_ref, px_kill_null, iI_lit, iJ_lit, iI_add, iI_sub, iI_mul, iI_neg, iJ_add, iJ_sub, iJ_mul, iJ_neg, iI_lt, iI_le, iI_eq, iJ_lt, iJ_le, iJ_eq, iI_div, iJ_div, tdiv_tmod, iI_J, iJ_I, iI_ix, iI_toInt, iJ_toInt, cmp_ge, cmp_lt, cmp_eq, cmp_gt, cmp_le, cmp_geI, cmp_ltI, cmp_eqI, cmp_gtI, cmp_leI, bI_0I, bI_1I, pin, if_true, sI_get, sJ_get, sI_2, sJ_1, sJ_22, sR_1, sR_21, Nat.reduceEqDiff, and_true, true_and, and_false, false_and, and_self, if_true, if_false, reduceIte, hpl, one0, sh_n8, sh_n9, sh_n10, sh_n11, eO, hL]
  rw [← hT1]
  simp (disch := first | omega | assumption | decide | (simp (disch := omega) only [iI_lit, iJ_lit, iJ_eq, iI_eq, bI_01, bI_01I] <;> omega)) only [e_Growth_comeIn_46, e_Growth_comeIn_47, e_Growth_comeIn_48, e_Growth_comeIn_49, e_Growth_comeIn_52, e_Growth_comeIn_54, e_Growth_comeIn_55, e_Growth_comeIn_56, e_Growth_comeIn_57, e_Growth_comeIn_60, e_Growth_comeIn_62, e_Growth_comeIn_63, bd_some, bd_none, Option.toList_some, Option.toList_none, List.nil_append, List.cons_append, px_kill_int, px_kill_long, px_kill_ref, px_kill_null, iI_lit, iJ_lit, iI_add, iI_sub, iI_mul, iI_neg, iJ_add, iJ_sub, iJ_mul, iJ_neg, iI_lt, iI_le, iI_eq, iJ_lt, iJ_le, iJ_eq, iI_div, iJ_div, tdiv_tmod, iI_J, iJ_I, iI_ix, iI_toInt, iJ_toInt, cmp_ge, cmp_lt, cmp_eq, cmp_gt, cmp_le, cmp_geI, cmp_ltI, cmp_eqI, cmp_gtI, cmp_leI, bI_0I, bI_1I, pin, if_true, x0, x1]
  rfl
