/-! bestTurn of the component. -/
abbrev tU (V : VW) (i : Nat) (q : Nat × Nat) : Int := luM V q (lfO V i q)
abbrev tL (V : VW) (i : Nat) (q : Nat × Nat) : Int := llM V q (lfO V i q)
def btS (V : VW) (i : Nat) (b : CP) (q : Nat × Nat) : CP := match b with
  | none => some q
  | some p => if tU V i p * tL V i q < tU V i q * tL V i p then some q else some p
def btX (V : VW) (i : Nat) (l : List (Nat × Nat)) : CP := l.foldl (btS V i) none
theorem btX_app (V : VW) (i : Nat) (l : List (Nat × Nat)) (q : Nat × Nat) : btX V i (l ++ [q]) = btS V i (btX V i l) q := by
  unfold btX
  rw [List.foldl_append]
  rfl
def okT (b : CP) : Prop := ∀ p, b = some p → isQd p
theorem btX_ok {V : VW} {i : Nat} : ∀ (l : List (Nat × Nat)) (b : CP), okQ l → okT b → okT (l.foldl (btS V i) b) := by
  intro l
  induction l with
  | nil => intro b _ h; exact h
  | cons q l ih =>
    intro b hl h
    refine ih _ (fun z hz => hl z (List.mem_cons_of_mem _ hz)) ?_
    have hq : isQd q := hl q (List.mem_cons_self ..)
    unfold btS
    intro p hp
    split at hp
    · cases hp; exact hq
    · split at hp
      · cases hp; exact hq
      · exact h p hp
def kA (b : CP) : Int := match b with
  | none => -1
  | some p => (p.1 : Int)
def kB (b : CP) : Int := match b with
  | none => -1
  | some p => (p.2 : Int)
def kU (V : VW) (i : Nat) (b : CP) : Int := match b with
  | none => 0
  | some p => luC V p (lfO V i p)
def kL (V : VW) (i : Nat) (b : CP) : Int := match b with
  | none => 1
  | some p => llC V p (lfO V i p)
theorem lfO_ok (V : VW) (i : Nat) (q : Nat × Nat) : okO V (lfO V i q) := lfA_ok V.1 0 none (by omega) (fun p z => by cases z)
theorem k_bd {V : VW} (hV : okV V) {i : Nat} {b : CP} (hb : okT b) : (0 ≤ kU V i b ∧ kU V i b ≤ 429981696) ∧ (0 ≤ kL V i b ∧ kL V i b ≤ 23887872) := by
  cases b with
  | none => exact ⟨⟨by show (0 : Int) ≤ 0; omega, by show (0 : Int) ≤ 429981696; omega⟩, ⟨by show (0 : Int) ≤ 1; omega, by show (1 : Int) ≤ 23887872; omega⟩⟩
  | some p =>
    have F := lf_facts hV (hb p rfl) (lfO_ok V i p)
    exact ⟨⟨Int.le_of_lt F.1.1, F.1.2⟩, F.2.1⟩
/-- whether a new square is farther than the best -/
theorem bt_gate {V : VW} (hV : okV V) {i : Nat} {b : CP} (hb : okT b) {q : Nat × Nat} (hq : isQd q) : (kU V i b * llC V q (lfO V i q) < luC V q (lfO V i q) * kL V i b → btS V i b q = some q) ∧ (¬ kU V i b * llC V q (lfO V i q) < luC V q (lfO V i q) * kL V i b → btS V i b q = b) := by
  have F := lf_facts hV hq (lfO_ok V i q)
  cases b with
  | none =>
    refine ⟨fun _ => rfl, fun z => ?_⟩
    exfalso
    apply z
    show 0 * llC V q (lfO V i q) < luC V q (lfO V i q) * 1
    rw [Int.zero_mul, Int.mul_one]
    exact F.1.1
  | some p =>
    have F' := lf_facts hV (hb p rfl) (lfO_ok V i p)
    have key := sc_lt (G := lgG V p (lfO V i p)) (u := luC V p (lfO V i p)) (l := llC V p (lfO V i p)) (G' := lgG V q (lfO V i q)) (u' := luC V q (lfO V i q)) (l' := llC V q (lfO V i q)) F'.2.2.2.2.1 F.2.2.2.2.1
    rw [F.2.2.2.2.2.1, F.2.2.2.2.2.2, F'.2.2.2.2.2.1, F'.2.2.2.2.2.2] at key
    exact ⟨fun z => if_pos (key.mpr z), fun z => if_neg (fun y => z (key.mp y))⟩
abbrev lBT (V : VW) (i : Nat) (w : Int32) (b : CP) (a9 a10 : Value) : List Value := [.ref 0, .int (iI (i : Int)), .int w, .int (iI (kA b)), .int (iI (kB b)), .long (iJ (kU V i b)), .null, .long (iJ (kL V i b)), .null, a9, a10]
set_option maxHeartbeats 4000000 in
theorem lp_bt2 {V : VW} (hV : okV V) {i : Nat} (hi : i < V.1) (w : Int32) {a : Nat} (ha : 1 ≤ a ∧ a ≤ 12) : ∀ (t b : Nat) (l : List (Nat × Nat)) (T : TS), b + t = 13 → okQ l → cC T V → ∃ T', rn k_Ds_bestTurn 49 (lBT V i w (btX V i l) (.int (iI (a : Int))) (.int (iI (b : Int)))) [] (enc T) = rn k_Ds_bestTurn 141 (lBT V i w (btX V i (sqB (celN (V.2 i)).toNat a l b t)) (.int (iI (a : Int))) (.int (iI 13))) [] (enc T') ∧ FrA aB bB T T' ∧ cC T' V ∧ okQ (sqB (celN (V.2 i)).toNat a l b t) := by
  intro t
  induction t with
  | zero =>
    intro b l T hb hl h
    have eb : (b : Int) = 13 := by omega
    have n12 : (12 : Int) < 13 := by omega
    refine ⟨T, ?_, FrA.rf _ _ _, h, hl⟩
    rw [eb, e_Ds_bestTurn_49]
    simp (disch := first | omega | assumption | decide | (simp (disch := omega) only [iI_lit, iJ_lit, iJ_eq, iI_eq, bI_01, bI_01I] <;> omega)) only [e_Ds_bestTurn_51, e_Ds_bestTurn_53, bd_some, bd_none, Option.toList_some, Option.toList_none, List.nil_append, List.cons_append, px_kill_int, px_kill_long, px_kill_ref, px_kill_null, iI_lit, iJ_lit, iI_add, iI_sub, iI_mul, iI_neg, iJ_add, iJ_sub, iJ_mul, iJ_neg, iI_lt, iI_le, iI_eq, iJ_lt, iJ_le, iJ_eq, iI_div, iJ_div, tdiv_tmod, iI_J, iJ_I, iI_ix, iI_toInt, iJ_toInt, cmp_ge, cmp_lt, cmp_eq, cmp_gt, cmp_le, cmp_geI, cmp_ltI, cmp_eqI, cmp_gtI, cmp_leI, bI_0I, bI_1I, pin, if_true, n12]
    rfl
  | succ t ih =>
    intro b l T hb hl h
    have h4 := hV.1
    obtain ⟨_, hp, hsh, hI⟩ := cC.at hV h hi
    have hc := hI.1.2.2.2.2.1
    have bdc := celN_bd (hV.2 i hi)
    have ei : ((i : Int)).toNat = i := by omega
    have nlt : ¬ (12 : Int) < (b : Int) := by omega
    have m1 : a * a ≤ 144 := Nat.mul_le_mul ha.2 ha.2
    have m2 : b * b ≤ 144 := Nat.mul_le_mul (show b ≤ 12 by omega) (show b ≤ 12 by omega)
    have ea : (a : Int) * (a : Int) + (b : Int) * (b : Int) = ((a * a + b * b : Nat) : Int) := by rw [Int.natCast_add, Int.natCast_mul, Int.natCast_mul]
    have ecel : cel (V.2 i 0) (V.2 i 1) (V.2 i 2) (V.2 i 3) = celN (V.2 i) := rfl
    rw [sqB_s]
    by_cases e : a * a + b * b = (celN (V.2 i)).toNat
    · rw [if_pos e]
      have ec : (a : Int) * (a : Int) + (b : Int) * (b : Int) = celN (V.2 i) := by omega
      have hq : isQd (a, b) := ⟨ha, by show b ≤ 12; omega, by show a * a + b * b ≤ 144; omega⟩
      have hl' : okQ (l ++ [(a, b)]) := by
        intro q hm
        rcases List.mem_append.mp hm with z | z
        · exact hl q z
        · have : q = (a, b) := by simpa using z
          subst this
          exact hq
      have ts := s_takeSquare T (q := 24) rfl (iI (a : Int)) (iI (b : Int))
      rw [iI_neg] at ts
      have fr0 : FrA aB bB T (tScr T 24 (iI (a : Int)) (iI (b : Int)) (iI (-(b : Int))) (iI (a : Int))) := ((((FrA.rf aB bB T).wr _ (by unfold aB; omega)).wr _ (by unfold aB; omega)).wr _ (by unfold aB; omega)).wr _ (by unfold aB; omega)
      have hs : sqT (tScr T 24 (iI (a : Int)) (iI (b : Int)) (iI (-(b : Int))) (iI (a : Int))) (a, b) := by
        exact tScr_c T 24 (a : Int) (b : Int) (-(b : Int)) (a : Int)
      obtain ⟨T1, e1, fr1, hC1, hl1⟩ := c_lf hV hq hi (h.frB hV fr0) hs
      have F := lf_facts hV hq (lfO_ok V i (a, b))
      have hbt : okT (btX V i l) := btX_ok l none hl (fun p z => by cases z)
      have kb := k_bd hV (i := i) hbt
      have x1 := mul_bd2 kb.1 F.2.1
      have x2 := mul_bd2 ⟨Int.le_of_lt F.1.1, F.1.2⟩ kb.2
      have gF := s_isFarther (a := luC V (a, b) (lfO V i (a, b))) (b := llC V (a, b) (lfO V i (a, b))) (c := kU V i (btX V i l)) (d := kL V i (btX V i l)) (by omega) (by omega) (enc T1)
      obtain ⟨g1, g2⟩ := bt_gate hV (i := i) hbt hq
      obtain ⟨T2, e2, fr2, hC2, hl2⟩ := ih (b + 1) (l ++ [(a, b)]) T1 (by omega) hl' hC1
      refine ⟨T2, ?_, (fr0.tr fr1).tr fr2, hC2, hl2⟩
      refine Eq.trans ?_ e2
      rw [btX_app, show ((b + 1 : Nat) : Int) = (b : Int) + 1 by omega]
      rw [e_Ds_bestTurn_49]
      by_cases c : kU V i (btX V i l) * llC V (a, b) (lfO V i (a, b)) < luC V (a, b) (lfO V i (a, b)) * kL V i (btX V i l)
      · rw [bI_tI c] at gF
        rw [g1 c]
        simp (disch := first | omega | assumption | decide | (simp (disch := omega) only [iI_lit, iJ_lit, iJ_eq, iI_eq, bI_01, bI_01I] <;> omega)) only [e_Ds_bestTurn_51, e_Ds_bestTurn_53, e_Ds_bestTurn_56, e_Ds_bestTurn_58, e_Ds_bestTurn_60, e_Ds_bestTurn_61, e_Ds_bestTurn_63, e_Ds_bestTurn_65, e_Ds_bestTurn_66, e_Ds_bestTurn_67, e_Ds_bestTurn_68, e_Ds_bestTurn_71, e_Ds_bestTurn_72, e_Ds_bestTurn_73, e_Ds_bestTurn_76, e_Ds_bestTurn_79, e_Ds_bestTurn_82, e_Ds_bestTurn_83, e_Ds_bestTurn_86, e_Ds_bestTurn_88, e_Ds_bestTurn_90, e_Ds_bestTurn_93, e_Ds_bestTurn_94, e_Ds_bestTurn_95, e_Ds_bestTurn_98, e_Ds_bestTurn_99, e_Ds_bestTurn_102, e_Ds_bestTurn_103, e_Ds_bestTurn_106, e_Ds_bestTurn_108, e_Ds_bestTurn_110, e_Ds_bestTurn_113, e_Ds_bestTurn_116, e_Ds_bestTurn_117, e_Ds_bestTurn_120, e_Ds_bestTurn_122, e_Ds_bestTurn_123, e_Ds_bestTurn_126, e_Ds_bestTurn_128, e_Ds_bestTurn_130, e_Ds_bestTurn_131, e_Ds_bestTurn_133, e_Ds_bestTurn_135, e_Ds_bestTurn_138, bd_some, bd_none, Option.toList_some, Option.toList_none, List.nil_append, List.cons_append, px_kill_int, px_kill_long, px_kill_ref, px_kill_null, iI_lit, iJ_lit, iI_add, iI_sub, iI_mul, iI_neg, iJ_add, iJ_sub, iJ_mul, iJ_neg, iI_lt, iI_le, iI_eq, iJ_lt, iJ_le, iJ_eq, iI_div, iJ_div, tdiv_tmod, iI_J, iJ_I, iI_ix, iI_toInt, iJ_toInt, cmp_ge, cmp_lt, cmp_eq, cmp_gt, cmp_le, cmp_geI, cmp_ltI, cmp_eqI, cmp_gtI, cmp_leI, bI_0I, bI_1I, pin, if_true, nlt, if_false, ec, ecel, hc, sh_n5, ei, hsh, sh_n24, ts, e1, hl1.1, hl1.2, gF, one0]
        rfl
      · rw [bI_fI c] at gF
        rw [g2 c]
        simp (disch := first | omega | assumption | decide | (simp (disch := omega) only [iI_lit, iJ_lit, iJ_eq, iI_eq, bI_01, bI_01I] <;> omega)) only [e_Ds_bestTurn_51, e_Ds_bestTurn_53, e_Ds_bestTurn_56, e_Ds_bestTurn_58, e_Ds_bestTurn_60, e_Ds_bestTurn_61, e_Ds_bestTurn_63, e_Ds_bestTurn_65, e_Ds_bestTurn_66, e_Ds_bestTurn_67, e_Ds_bestTurn_68, e_Ds_bestTurn_71, e_Ds_bestTurn_72, e_Ds_bestTurn_73, e_Ds_bestTurn_76, e_Ds_bestTurn_79, e_Ds_bestTurn_82, e_Ds_bestTurn_83, e_Ds_bestTurn_86, e_Ds_bestTurn_88, e_Ds_bestTurn_90, e_Ds_bestTurn_93, e_Ds_bestTurn_94, e_Ds_bestTurn_95, e_Ds_bestTurn_98, e_Ds_bestTurn_99, e_Ds_bestTurn_102, e_Ds_bestTurn_103, e_Ds_bestTurn_106, e_Ds_bestTurn_108, e_Ds_bestTurn_110, e_Ds_bestTurn_113, e_Ds_bestTurn_116, e_Ds_bestTurn_117, e_Ds_bestTurn_120, e_Ds_bestTurn_122, e_Ds_bestTurn_123, e_Ds_bestTurn_126, e_Ds_bestTurn_128, e_Ds_bestTurn_130, e_Ds_bestTurn_131, e_Ds_bestTurn_133, e_Ds_bestTurn_135, e_Ds_bestTurn_138, bd_some, bd_none, Option.toList_some, Option.toList_none, List.nil_append, List.cons_append, px_kill_int, px_kill_long, px_kill_ref, px_kill_null, iI_lit, iJ_lit, iI_add, iI_sub, iI_mul, iI_neg, iJ_add, iJ_sub, iJ_mul, iJ_neg, iI_lt, iI_le, iI_eq, iJ_lt, iJ_le, iJ_eq, iI_div, iJ_div, tdiv_tmod, iI_J, iJ_I, iI_ix, iI_toInt, iJ_toInt, cmp_ge, cmp_lt, cmp_eq, cmp_gt, cmp_le, cmp_geI, cmp_ltI, cmp_eqI, cmp_gtI, cmp_leI, bI_0I, bI_1I, pin, if_true, nlt, if_false, ec, ecel, hc, sh_n5, ei, hsh, sh_n24, ts, e1, hl1.1, hl1.2, gF]
    · rw [if_neg e]
      have ec : ¬ (a : Int) * (a : Int) + (b : Int) * (b : Int) = celN (V.2 i) := by omega
      obtain ⟨T2, e2, fr2, hC2, hl2⟩ := ih (b + 1) l T (by omega) hl h
      refine ⟨T2, ?_, fr2, hC2, hl2⟩
      refine Eq.trans ?_ e2
      rw [show ((b + 1 : Nat) : Int) = (b : Int) + 1 by omega, e_Ds_bestTurn_49]
      simp (disch := first | omega | assumption | decide | (simp (disch := omega) only [iI_lit, iJ_lit, iJ_eq, iI_eq, bI_01, bI_01I] <;> omega)) only [e_Ds_bestTurn_51, e_Ds_bestTurn_53, e_Ds_bestTurn_56, e_Ds_bestTurn_58, e_Ds_bestTurn_60, e_Ds_bestTurn_61, e_Ds_bestTurn_63, e_Ds_bestTurn_65, e_Ds_bestTurn_66, e_Ds_bestTurn_67, e_Ds_bestTurn_68, e_Ds_bestTurn_71, e_Ds_bestTurn_72, e_Ds_bestTurn_73, e_Ds_bestTurn_76, e_Ds_bestTurn_79, e_Ds_bestTurn_82, e_Ds_bestTurn_83, e_Ds_bestTurn_86, e_Ds_bestTurn_88, e_Ds_bestTurn_90, e_Ds_bestTurn_93, e_Ds_bestTurn_94, e_Ds_bestTurn_95, e_Ds_bestTurn_98, e_Ds_bestTurn_99, e_Ds_bestTurn_102, e_Ds_bestTurn_103, e_Ds_bestTurn_106, e_Ds_bestTurn_108, e_Ds_bestTurn_110, e_Ds_bestTurn_113, e_Ds_bestTurn_116, e_Ds_bestTurn_117, e_Ds_bestTurn_120, e_Ds_bestTurn_122, e_Ds_bestTurn_123, e_Ds_bestTurn_126, e_Ds_bestTurn_128, e_Ds_bestTurn_130, e_Ds_bestTurn_131, e_Ds_bestTurn_133, e_Ds_bestTurn_135, e_Ds_bestTurn_138, bd_some, bd_none, Option.toList_some, Option.toList_none, List.nil_append, List.cons_append, px_kill_int, px_kill_long, px_kill_ref, px_kill_null, iI_lit, iJ_lit, iI_add, iI_sub, iI_mul, iI_neg, iJ_add, iJ_sub, iJ_mul, iJ_neg, iI_lt, iI_le, iI_eq, iJ_lt, iJ_le, iJ_eq, iI_div, iJ_div, tdiv_tmod, iI_J, iJ_I, iI_ix, iI_toInt, iJ_toInt, cmp_ge, cmp_lt, cmp_eq, cmp_gt, cmp_le, cmp_geI, cmp_ltI, cmp_eqI, cmp_gtI, cmp_leI, bI_0I, bI_1I, pin, if_true, nlt, if_false, ec, ecel, hc, sh_n5, ei, hsh]
set_option maxHeartbeats 1000000 in
theorem lp_bt1 {V : VW} (hV : okV V) {i : Nat} (hi : i < V.1) (w : Int32) : ∀ (t a : Nat) (l : List (Nat × Nat)) (T : TS), 1 ≤ a → a + t = 13 → okQ l → cC T V → ∀ a10 : Value, ∃ (T' : TS) (b10 : Value), rn k_Ds_bestTurn 39 (lBT V i w (btX V i l) (.int (iI (a : Int))) a10) [] (enc T) = rn k_Ds_bestTurn 147 (lBT V i w (btX V i (sqA (celN (V.2 i)).toNat l a t)) (.int (iI 13)) b10) [] (enc T') ∧ FrA aB bB T T' ∧ cC T' V ∧ okQ (sqA (celN (V.2 i)).toNat l a t) := by
  intro t
  induction t with
  | zero =>
    intro a l T ha hb hl h a10
    have eb : (a : Int) = 13 := by omega
    have n12 : (12 : Int) < 13 := by omega
    refine ⟨T, a10, ?_, FrA.rf _ _ _, h, hl⟩
    rw [eb, e_Ds_bestTurn_39]
    simp (disch := first | omega | assumption | decide | (simp (disch := omega) only [iI_lit, iJ_lit, iJ_eq, iI_eq, bI_01, bI_01I] <;> omega)) only [e_Ds_bestTurn_41, e_Ds_bestTurn_43, e_Ds_bestTurn_46, e_Ds_bestTurn_47, bd_some, bd_none, Option.toList_some, Option.toList_none, List.nil_append, List.cons_append, px_kill_int, px_kill_long, px_kill_ref, px_kill_null, iI_lit, iJ_lit, iI_add, iI_sub, iI_mul, iI_neg, iJ_add, iJ_sub, iJ_mul, iJ_neg, iI_lt, iI_le, iI_eq, iJ_lt, iJ_le, iJ_eq, iI_div, iJ_div, tdiv_tmod, iI_J, iJ_I, iI_ix, iI_toInt, iJ_toInt, cmp_ge, cmp_lt, cmp_eq, cmp_gt, cmp_le, cmp_geI, cmp_ltI, cmp_eqI, cmp_gtI, cmp_leI, bI_0I, bI_1I, pin, if_true, n12]
    rfl
  | succ t ih =>
    intro a l T ha hb hl h a10
    have nlt : ¬ (12 : Int) < (a : Int) := by omega
    obtain ⟨T1, e1, fr1, hC1, hl1⟩ := lp_bt2 hV hi w (a := a) (by omega) 13 0 l T (by omega) hl h
    obtain ⟨T2, b10, e2, fr2, hC2, hl2⟩ := ih (a + 1) (sqB (celN (V.2 i)).toNat a l 0 13) T1 (by omega) (by omega) hl1 hC1 (.int (iI 13))
    refine ⟨T2, b10, ?_, fr1.tr fr2, hC2, hl2⟩
    rw [e_Ds_bestTurn_39]
    simp (disch := first | omega | assumption | decide | (simp (disch := omega) only [iI_lit, iJ_lit, iJ_eq, iI_eq, bI_01, bI_01I] <;> omega)) only [e_Ds_bestTurn_41, e_Ds_bestTurn_43, e_Ds_bestTurn_46, e_Ds_bestTurn_47, bd_some, bd_none, Option.toList_some, Option.toList_none, List.nil_append, List.cons_append, px_kill_int, px_kill_long, px_kill_ref, px_kill_null, iI_lit, iJ_lit, iI_add, iI_sub, iI_mul, iI_neg, iJ_add, iJ_sub, iJ_mul, iJ_neg, iI_lt, iI_le, iI_eq, iJ_lt, iJ_le, iJ_eq, iI_div, iJ_div, tdiv_tmod, iI_J, iJ_I, iI_ix, iI_toInt, iJ_toInt, cmp_ge, cmp_lt, cmp_eq, cmp_gt, cmp_le, cmp_geI, cmp_ltI, cmp_eqI, cmp_gtI, cmp_leI, bI_0I, bI_1I, pin, if_true, nlt, if_false]
    refine Eq.trans e1 ?_
    simp (disch := first | omega | assumption | decide | (simp (disch := omega) only [iI_lit, iJ_lit, iJ_eq, iI_eq, bI_01, bI_01I] <;> omega)) only [e_Ds_bestTurn_141, e_Ds_bestTurn_144, bd_some, bd_none, Option.toList_some, Option.toList_none, List.nil_append, List.cons_append, px_kill_int, px_kill_long, px_kill_ref, px_kill_null, iI_lit, iJ_lit, iI_add, iI_sub, iI_mul, iI_neg, iJ_add, iJ_sub, iJ_mul, iJ_neg, iI_lt, iI_le, iI_eq, iJ_lt, iJ_le, iJ_eq, iI_div, iJ_div, tdiv_tmod, iI_J, iJ_I, iI_ix, iI_toInt, iJ_toInt, cmp_ge, cmp_lt, cmp_eq, cmp_gt, cmp_le, cmp_geI, cmp_ltI, cmp_eqI, cmp_gtI, cmp_leI, bI_0I, bI_1I, pin, if_true]
    rw [show (a : Int) + 1 = ((a + 1 : Nat) : Int) by omega]
    exact e2
abbrev btZ (V : VW) (i : Nat) : CP := btX V i (sqL (celN (V.2 i)) (celN (V.2 i)))
def qBest (V : VW) (i k : Int) : Int := if isK V i ∧ (0 ≤ k ∧ k ≤ 1) ∧ 2 ≤ V.1 then (if k = 0 then kA (btZ V i.toNat) else kB (btZ V i.toNat)) else -1
theorem sqL_one (c : Int) : sqL c c = sqA c.toNat [] 1 12 := by
  unfold sqL
  rw [show (c + 1 - c).toNat = 1 by omega]
  rfl
set_option maxHeartbeats 1000000 in
theorem q_Ds_bestTurn {T : TS} {V : VW} (hV : okV V) (h : cC T V) {i k : Int} (hi : inI i) (hk : inI k) : ∃ T', cl k_Ds_bestTurn [.ref 0, .int (iI i), .int (iI k)] (enc T) = some (some (.int (iI (qBest V i k))), enc T') ∧ FrA aB bB T T' := by
  have g1 := g_isInk hV h hi
  have g2 := g_isAxis hk (enc T)
  have hh := h.1
  have h4 := hV.1
  obtain ⟨i1, i2⟩ := id hi
  obtain ⟨k1, k2⟩ := id hk
  unfold qBest
  by_cases c1 : isK V i
  · rw [bI_tI c1] at g1
    by_cases c2 : 0 ≤ k ∧ k ≤ 1
    · rw [bI_tI c2] at g2
      by_cases c3 : 2 ≤ V.1
      · rw [if_pos ⟨c1, c2, c3⟩]
        have c3' : (2 : Int) ≤ (V.1 : Int) := by omega
        obtain ⟨j, rfl⟩ : ∃ j : Nat, i = (j : Int) := ⟨i.toNat, by omega⟩
        have hj : j < V.1 := by have := c1.2; omega
        have ej : ((j : Int)).toNat = j := by omega
        rw [ej]
        obtain ⟨T', b10, e, fr, hC, hl⟩ := lp_bt1 hV hj (iI k) 12 1 [] T (by omega) (by omega) (fun q z => by cases z) h .null
        refine ⟨T', ?_, fr⟩
        unfold btZ
        rw [sqL_one]
        generalize btX V j (sqA (celN (V.2 j)).toNat [] 1 12) = B at *
        have go : cl k_Ds_bestTurn [.ref 0, .int (iI (j : Int)), .int (iI k)] (enc T) = rn k_Ds_bestTurn 147 (lBT V j (iI k) B (.int (iI 13)) b10) [] (enc T') := by
          simp (disch := first | omega | assumption | decide | (simp (disch := omega) only [iI_lit, iJ_lit, iJ_eq, iI_eq, bI_01, bI_01I] <;> omega)) only [c_Ds_bestTurn, e_Ds_bestTurn_0, e_Ds_bestTurn_1, e_Ds_bestTurn_2, e_Ds_bestTurn_5, e_Ds_bestTurn_8, e_Ds_bestTurn_9, e_Ds_bestTurn_12, e_Ds_bestTurn_15, e_Ds_bestTurn_16, e_Ds_bestTurn_19, e_Ds_bestTurn_20, e_Ds_bestTurn_23, e_Ds_bestTurn_24, e_Ds_bestTurn_25, e_Ds_bestTurn_26, e_Ds_bestTurn_27, e_Ds_bestTurn_28, e_Ds_bestTurn_30, e_Ds_bestTurn_31, e_Ds_bestTurn_33, e_Ds_bestTurn_34, e_Ds_bestTurn_36, e_Ds_bestTurn_37, bd_some, bd_none, Option.toList_some, Option.toList_none, List.nil_append, List.cons_append, px_kill_int, px_kill_long, px_kill_ref, px_kill_null, iI_lit, iJ_lit, iI_add, iI_sub, iI_mul, iI_neg, iJ_add, iJ_sub, iJ_mul, iJ_neg, iI_lt, iI_le, iI_eq, iJ_lt, iJ_le, iJ_eq, iI_div, iJ_div, tdiv_tmod, iI_J, iJ_I, iI_ix, iI_toInt, iJ_toInt, cmp_ge, cmp_lt, cmp_eq, cmp_gt, cmp_le, cmp_geI, cmp_ltI, cmp_eqI, cmp_gtI, cmp_leI, bI_0I, bI_1I, pin, if_true, g1, g2, hh, c3', one0, if_false]
          exact e
        rw [go]
        by_cases k0 : k = 0
        · subst k0
          simp (disch := first | omega | assumption | decide | (simp (disch := omega) only [iI_lit, iJ_lit, iJ_eq, iI_eq, bI_01, bI_01I] <;> omega)) only [e_Ds_bestTurn_147, e_Ds_bestTurn_148, e_Ds_bestTurn_151, e_Ds_bestTurn_152, e_Ds_bestTurn_155, e_Ds_bestTurn_157, bd_some, bd_none, Option.toList_some, Option.toList_none, List.nil_append, List.cons_append, px_kill_int, px_kill_long, px_kill_ref, px_kill_null, iI_lit, iJ_lit, iI_add, iI_sub, iI_mul, iI_neg, iJ_add, iJ_sub, iJ_mul, iJ_neg, iI_lt, iI_le, iI_eq, iJ_lt, iJ_le, iJ_eq, iI_div, iJ_div, tdiv_tmod, iI_J, iJ_I, iI_ix, iI_toInt, iJ_toInt, cmp_ge, cmp_lt, cmp_eq, cmp_gt, cmp_le, cmp_geI, cmp_ltI, cmp_eqI, cmp_gtI, cmp_leI, bI_0I, bI_1I, pin, if_true]
        · have k1 : k = 1 := by omega
          subst k1
          simp (disch := first | omega | assumption | decide | (simp (disch := omega) only [iI_lit, iJ_lit, iJ_eq, iI_eq, bI_01, bI_01I] <;> omega)) only [e_Ds_bestTurn_147, e_Ds_bestTurn_148, e_Ds_bestTurn_151, e_Ds_bestTurn_152, e_Ds_bestTurn_155, e_Ds_bestTurn_157, bd_some, bd_none, Option.toList_some, Option.toList_none, List.nil_append, List.cons_append, px_kill_int, px_kill_long, px_kill_ref, px_kill_null, iI_lit, iJ_lit, iI_add, iI_sub, iI_mul, iI_neg, iJ_add, iJ_sub, iJ_mul, iJ_neg, iI_lt, iI_le, iI_eq, iJ_lt, iJ_le, iJ_eq, iI_div, iJ_div, tdiv_tmod, iI_J, iJ_I, iI_ix, iI_toInt, iJ_toInt, cmp_ge, cmp_lt, cmp_eq, cmp_gt, cmp_le, cmp_geI, cmp_ltI, cmp_eqI, cmp_gtI, cmp_leI, bI_0I, bI_1I, pin, if_true, one0, if_false]
      · rw [if_neg (fun z => c3 z.2.2)]
        have c3' : ¬ (2 : Int) ≤ (V.1 : Int) := by omega
        refine ⟨T, ?_, FrA.rf _ _ _⟩
        simp (disch := first | omega | assumption | decide | (simp (disch := omega) only [iI_lit, iJ_lit, iJ_eq, iI_eq, bI_01, bI_01I] <;> omega)) only [c_Ds_bestTurn, e_Ds_bestTurn_0, e_Ds_bestTurn_1, e_Ds_bestTurn_2, e_Ds_bestTurn_5, e_Ds_bestTurn_8, e_Ds_bestTurn_9, e_Ds_bestTurn_12, e_Ds_bestTurn_15, e_Ds_bestTurn_16, e_Ds_bestTurn_19, e_Ds_bestTurn_20, e_Ds_bestTurn_23, e_Ds_bestTurn_24, e_Ds_bestTurn_25, e_Ds_bestTurn_26, e_Ds_bestTurn_27, e_Ds_bestTurn_28, e_Ds_bestTurn_30, e_Ds_bestTurn_31, e_Ds_bestTurn_33, e_Ds_bestTurn_34, e_Ds_bestTurn_36, e_Ds_bestTurn_37, bd_some, bd_none, Option.toList_some, Option.toList_none, List.nil_append, List.cons_append, px_kill_int, px_kill_long, px_kill_ref, px_kill_null, iI_lit, iJ_lit, iI_add, iI_sub, iI_mul, iI_neg, iJ_add, iJ_sub, iJ_mul, iJ_neg, iI_lt, iI_le, iI_eq, iJ_lt, iJ_le, iJ_eq, iI_div, iJ_div, tdiv_tmod, iI_J, iJ_I, iI_ix, iI_toInt, iJ_toInt, cmp_ge, cmp_lt, cmp_eq, cmp_gt, cmp_le, cmp_geI, cmp_ltI, cmp_eqI, cmp_gtI, cmp_leI, bI_0I, bI_1I, pin, if_true, g1, g2, hh, c3', one0, if_false]
    · rw [bI_fI c2] at g2
      rw [if_neg (fun z => c2 z.2.1)]
      refine ⟨T, ?_, FrA.rf _ _ _⟩
      simp (disch := first | omega | assumption | decide | (simp (disch := omega) only [iI_lit, iJ_lit, iJ_eq, iI_eq, bI_01, bI_01I] <;> omega)) only [c_Ds_bestTurn, e_Ds_bestTurn_0, e_Ds_bestTurn_1, e_Ds_bestTurn_2, e_Ds_bestTurn_5, e_Ds_bestTurn_8, e_Ds_bestTurn_9, e_Ds_bestTurn_12, e_Ds_bestTurn_15, e_Ds_bestTurn_16, e_Ds_bestTurn_19, e_Ds_bestTurn_20, e_Ds_bestTurn_23, e_Ds_bestTurn_24, e_Ds_bestTurn_25, e_Ds_bestTurn_26, e_Ds_bestTurn_27, e_Ds_bestTurn_28, e_Ds_bestTurn_30, e_Ds_bestTurn_31, e_Ds_bestTurn_33, e_Ds_bestTurn_34, e_Ds_bestTurn_36, e_Ds_bestTurn_37, bd_some, bd_none, Option.toList_some, Option.toList_none, List.nil_append, List.cons_append, px_kill_int, px_kill_long, px_kill_ref, px_kill_null, iI_lit, iJ_lit, iI_add, iI_sub, iI_mul, iI_neg, iJ_add, iJ_sub, iJ_mul, iJ_neg, iI_lt, iI_le, iI_eq, iJ_lt, iJ_le, iJ_eq, iI_div, iJ_div, tdiv_tmod, iI_J, iJ_I, iI_ix, iI_toInt, iJ_toInt, cmp_ge, cmp_lt, cmp_eq, cmp_gt, cmp_le, cmp_geI, cmp_ltI, cmp_eqI, cmp_gtI, cmp_leI, bI_0I, bI_1I, pin, if_true, g1, g2, one0, if_false]
  · rw [bI_fI c1] at g1
    rw [if_neg (fun z => c1 z.1)]
    refine ⟨T, ?_, FrA.rf _ _ _⟩
    simp (disch := first | omega | assumption | decide | (simp (disch := omega) only [iI_lit, iJ_lit, iJ_eq, iI_eq, bI_01, bI_01I] <;> omega)) only [c_Ds_bestTurn, e_Ds_bestTurn_0, e_Ds_bestTurn_1, e_Ds_bestTurn_2, e_Ds_bestTurn_5, e_Ds_bestTurn_8, e_Ds_bestTurn_9, e_Ds_bestTurn_12, e_Ds_bestTurn_15, e_Ds_bestTurn_16, e_Ds_bestTurn_19, e_Ds_bestTurn_20, e_Ds_bestTurn_23, e_Ds_bestTurn_24, e_Ds_bestTurn_25, e_Ds_bestTurn_26, e_Ds_bestTurn_27, e_Ds_bestTurn_28, e_Ds_bestTurn_30, e_Ds_bestTurn_31, e_Ds_bestTurn_33, e_Ds_bestTurn_34, e_Ds_bestTurn_36, e_Ds_bestTurn_37, bd_some, bd_none, Option.toList_some, Option.toList_none, List.nil_append, List.cons_append, px_kill_int, px_kill_long, px_kill_ref, px_kill_null, iI_lit, iJ_lit, iI_add, iI_sub, iI_mul, iI_neg, iJ_add, iJ_sub, iJ_mul, iJ_neg, iI_lt, iI_le, iI_eq, iJ_lt, iJ_le, iJ_eq, iI_div, iJ_div, tdiv_tmod, iI_J, iJ_I, iI_ix, iI_toInt, iJ_toInt, cmp_ge, cmp_lt, cmp_eq, cmp_gt, cmp_le, cmp_geI, cmp_ltI, cmp_eqI, cmp_gtI, cmp_leI, bI_0I, bI_1I, pin, if_true, g1]
