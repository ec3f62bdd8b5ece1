/-! the reference: swap, drop, status, count. -/
def swM (T : TS) (i o k : Nat) : TS := (fun q n => if q = 56 then (if 8 * i ≤ n ∧ n < 8 * i + k then T.1 56 (8 * o + (n - 8 * i)) else if 8 * o ≤ n ∧ n < 8 * o + k then T.1 56 (8 * i + (n - 8 * o)) else T.1 56 n) else T.1 q n, T.2)
theorem swM_0 (T : TS) (i o : Nat) : swM T i o 0 = T := by
  unfold swM
  refine Prod.ext ?_ rfl
  funext q n
  simp only
  split
  · rename_i e
    rw [if_neg (by omega), if_neg (by omega), e]
  · rfl
theorem swM_s (T : TS) {i o k : Nat} (hio : i ≠ o) (hk : k < 8) : sI (sI (swM T i o k) 56 (8 * i + k) (T.1 56 (8 * o + k))) 56 (8 * o + k) (T.1 56 (8 * i + k)) = swM T i o (k + 1) := by
  refine Prod.ext ?_ rfl
  funext q n
  rw [sI_get, sI_get]
  unfold swM
  simp only
  by_cases q56 : q = 56
  · subst q56
    rw [if_pos rfl, if_pos rfl]
    by_cases n1 : n = 8 * o + k
    · rw [if_pos ⟨rfl, n1⟩, if_neg (show ¬ (8 * i ≤ n ∧ n < 8 * i + (k + 1)) by omega), if_pos (show 8 * o ≤ n ∧ n < 8 * o + (k + 1) by omega), n1, show 8 * o + k - 8 * o = k by omega]
    · rw [if_neg (fun z => n1 z.2)]
      by_cases n2 : n = 8 * i + k
      · rw [if_pos ⟨rfl, n2⟩, if_pos (show 8 * i ≤ n ∧ n < 8 * i + (k + 1) by omega), n2, show 8 * i + k - 8 * i = k by omega]
      · rw [if_neg (fun z => n2 z.2)]
        by_cases a : 8 * i ≤ n ∧ n < 8 * i + k
        · rw [if_pos a, if_pos (show 8 * i ≤ n ∧ n < 8 * i + (k + 1) by omega)]
        · rw [if_neg a, if_neg (show ¬ (8 * i ≤ n ∧ n < 8 * i + (k + 1)) by omega)]
          by_cases b : 8 * o ≤ n ∧ n < 8 * o + k
          · rw [if_pos b, if_pos (show 8 * o ≤ n ∧ n < 8 * o + (k + 1) by omega)]
          · rw [if_neg b, if_neg (show ¬ (8 * o ≤ n ∧ n < 8 * o + (k + 1)) by omega)]
  · rw [if_neg (fun z => q56 z.1), if_neg (fun z => q56 z.1), if_neg q56, if_neg q56]
set_option maxHeartbeats 1000000 in
theorem lp_mswap (T : TS) {i o : Nat} (hi : i < 4) (ho : o < 4) (hio : i ≠ o) : ∀ (m k : Nat), k + m = 8 → ∀ a4 : Value, rn k_Dm_swap 56 [.ref 53, .int (iI (i : Int)), .int (iI (o : Int)), .int (iI (k : Int)), a4] [] (enc (swM T i o k)) = some (some (.int (iI 1)), enc (swM T i o 8)) := by
  intro m
  induction m with
  | zero =>
    intro k hk a4
    have e : (k : Int) = 8 := by omega
    have ek : k = 8 := by omega
    rw [e, ek, e_Dm_swap_56]
    simp (disch := first | omega | assumption | decide | (simp (disch := omega) only [iI_lit, iJ_lit, iJ_eq, iI_eq, bI_01, bI_01I] <;> omega)) only [e_Dm_swap_57, e_Dm_swap_59, e_Dm_swap_96, e_Dm_swap_97, bd_some, bd_none, Option.toList_some, Option.toList_none, List.nil_append, List.cons_append, px_kill_int, px_kill_long, px_kill_ref, px_kill_null, iI_lit, iJ_lit, iI_add, iI_sub, iI_mul, iI_neg, iJ_add, iJ_sub, iJ_mul, iJ_neg, iI_lt, iI_le, iI_eq, iJ_lt, iJ_le, iJ_eq, iI_div, iJ_div, tdiv_tmod, iI_J, iJ_I, iI_ix, iI_toInt, iJ_toInt, cmp_ge, cmp_lt, cmp_eq, cmp_gt, cmp_le, cmp_geI, cmp_ltI, cmp_eqI, cmp_gtI, cmp_leI, bI_0I, bI_1I, pin, if_true, Int.le_refl]
  | succ m ih =>
    intro k hk a4
    have nle : ¬ (8 : Int) ≤ (k : Int) := by omega
    have v1 : (swM T i o k).1 56 (8 * i + k) = T.1 56 (8 * i + k) := by
      unfold swM
      simp only
      rw [if_pos trivial, if_neg (by omega), if_neg (by omega)]
    have v2 : (swM T i o k).1 56 (8 * o + k) = T.1 56 (8 * o + k) := by
      unfold swM
      simp only
      rw [if_pos trivial, if_neg (by omega), if_neg (by omega)]
    have o1 := s_of (swM T i o k) hi (k := k) (by omega)
    have o2 := s_of (swM T i o k) ho (k := k) (by omega)
    rw [v1] at o1
    rw [v2] at o2
    have p1 := s_put (T := swM T i o k) (i := i) (k := k) hi (by omega) (T.1 56 (8 * o + k))
    have p2 := s_put (T := sI (swM T i o k) 56 (8 * i + k) (T.1 56 (8 * o + k))) (i := o) (k := k) ho (by omega) (T.1 56 (8 * i + k))
    rw [swM_s T hio (by omega)] at p2
    have e := ih (k + 1) (by omega) (.int (T.1 56 (8 * i + k)))
    refine Eq.trans ?_ e
    rw [show ((k + 1 : Nat) : Int) = (k : Int) + 1 by omega, e_Dm_swap_56]
    simp (disch := first | omega | assumption | decide | (simp (disch := omega) only [iI_lit, iJ_lit, iJ_eq, iI_eq, bI_01, bI_01I] <;> omega)) only [e_Dm_swap_57, e_Dm_swap_59, e_Dm_swap_62, e_Dm_swap_63, e_Dm_swap_64, e_Dm_swap_65, e_Dm_swap_68, e_Dm_swap_70, e_Dm_swap_71, e_Dm_swap_72, e_Dm_swap_73, e_Dm_swap_74, e_Dm_swap_75, e_Dm_swap_76, e_Dm_swap_79, e_Dm_swap_82, e_Dm_swap_83, e_Dm_swap_84, e_Dm_swap_85, e_Dm_swap_87, e_Dm_swap_90, e_Dm_swap_93, bd_some, bd_none, Option.toList_some, Option.toList_none, List.nil_append, List.cons_append, px_kill_int, px_kill_long, px_kill_ref, px_kill_null, iI_lit, iJ_lit, iI_add, iI_sub, iI_mul, iI_neg, iJ_add, iJ_sub, iJ_mul, iJ_neg, iI_lt, iI_le, iI_eq, iJ_lt, iJ_le, iJ_eq, iI_div, iJ_div, tdiv_tmod, iI_J, iJ_I, iI_ix, iI_toInt, iJ_toInt, cmp_ge, cmp_lt, cmp_eq, cmp_gt, cmp_le, cmp_geI, cmp_ltI, cmp_eqI, cmp_gtI, cmp_leI, bI_0I, bI_1I, pin, if_true, nle, if_false, o1, o2, p1, p2]
set_option maxHeartbeats 1000000 in
theorem u_Dm_swap {T : TS} {S : FS} (hS : okF S) (h : fM T S) {i o : Int} (hi : inI i) (ho : inI o) : ∃ T', cl k_Dm_swap [.ref 53, .int (iI i), .int (iI o)] (enc T) = some (some (.int (iI (rSwap S i o).2)), enc T') ∧ fM T' (rSwap S i o).1 ∧ sepM T T' := by
  obtain ⟨h0, s0⟩ := t0_fM h
  have g1 := g_inM hS.1 h0.1 hi
  have g2 := g_inM hS.1 h0.1 ho
  obtain ⟨i1, i2⟩ := id hi
  obtain ⟨o1, o2⟩ := id ho
  unfold rSwap
  obtain ⟨T0, er, hF0, hs0⟩ := m_ref0 h0
  by_cases c1 : isK S.1 i
  case neg =>
    rw [bI_fI c1] at g1
    rw [if_neg (fun z => c1 z.1)]
    refine ⟨T0, ?_, hF0, s0.tr hs0⟩
    simp (disch := first | omega | assumption | decide | (simp (disch := omega) only [iI_lit, iJ_lit, iJ_eq, iI_eq, bI_01, bI_01I] <;> omega)) only [c_Dm_swap, e_Dm_swap_0, e_Dm_swap_1, e_Dm_swap_2, e_Dm_swap_5, e_Dm_swap_6, e_Dm_swap_7, e_Dm_swap_10, e_Dm_swap_13, e_Dm_swap_14, e_Dm_swap_15, e_Dm_swap_18, e_Dm_swap_21, e_Dm_swap_22, e_Dm_swap_23, e_Dm_swap_26, e_Dm_swap_27, e_Dm_swap_28, e_Dm_swap_29, e_Dm_swap_32, e_Dm_swap_35, e_Dm_swap_36, e_Dm_swap_37, e_Dm_swap_40, e_Dm_swap_43, e_Dm_swap_44, e_Dm_swap_47, e_Dm_swap_48, e_Dm_swap_51, e_Dm_swap_52, e_Dm_swap_53, e_Dm_swap_54, e_Dm_swap_55, bd_some, bd_none, Option.toList_some, Option.toList_none, List.nil_append, List.cons_append, px_kill_int, px_kill_long, px_kill_ref, px_kill_null, iI_lit, iJ_lit, iI_add, iI_sub, iI_mul, iI_neg, iJ_add, iJ_sub, iJ_mul, iJ_neg, iI_lt, iI_le, iI_eq, iJ_lt, iJ_le, iJ_eq, iI_div, iJ_div, tdiv_tmod, iI_J, iJ_I, iI_ix, iI_toInt, iJ_toInt, cmp_ge, cmp_lt, cmp_eq, cmp_gt, cmp_le, cmp_geI, cmp_ltI, cmp_eqI, cmp_gtI, cmp_leI, bI_0I, bI_1I, pin, if_true, g1, er]
  rw [bI_tI c1] at g1
  by_cases c2 : isK S.1 o
  case neg =>
    rw [bI_fI c2] at g2
    rw [if_neg (fun z => c2 z.2)]
    refine ⟨T0, ?_, hF0, s0.tr hs0⟩
    simp (disch := first | omega | assumption | decide | (simp (disch := omega) only [iI_lit, iJ_lit, iJ_eq, iI_eq, bI_01, bI_01I] <;> omega)) only [c_Dm_swap, e_Dm_swap_0, e_Dm_swap_1, e_Dm_swap_2, e_Dm_swap_5, e_Dm_swap_6, e_Dm_swap_7, e_Dm_swap_10, e_Dm_swap_13, e_Dm_swap_14, e_Dm_swap_15, e_Dm_swap_18, e_Dm_swap_21, e_Dm_swap_22, e_Dm_swap_23, e_Dm_swap_26, e_Dm_swap_27, e_Dm_swap_28, e_Dm_swap_29, e_Dm_swap_32, e_Dm_swap_35, e_Dm_swap_36, e_Dm_swap_37, e_Dm_swap_40, e_Dm_swap_43, e_Dm_swap_44, e_Dm_swap_47, e_Dm_swap_48, e_Dm_swap_51, e_Dm_swap_52, e_Dm_swap_53, e_Dm_swap_54, e_Dm_swap_55, bd_some, bd_none, Option.toList_some, Option.toList_none, List.nil_append, List.cons_append, px_kill_int, px_kill_long, px_kill_ref, px_kill_null, iI_lit, iJ_lit, iI_add, iI_sub, iI_mul, iI_neg, iJ_add, iJ_sub, iJ_mul, iJ_neg, iI_lt, iI_le, iI_eq, iJ_lt, iJ_le, iJ_eq, iI_div, iJ_div, tdiv_tmod, iI_J, iJ_I, iI_ix, iI_toInt, iJ_toInt, cmp_ge, cmp_lt, cmp_eq, cmp_gt, cmp_le, cmp_geI, cmp_ltI, cmp_eqI, cmp_gtI, cmp_leI, bI_0I, bI_1I, pin, if_true, g1, g2, one0, if_false, er]
  rw [bI_tI c2] at g2
  rw [if_pos ⟨c1, c2⟩]
  by_cases c3 : i = o
  · rw [if_pos c3]
    obtain ⟨T2, e2, hF2, hs2⟩ := m_ref2 h0
    refine ⟨T2, ?_, hF2, s0.tr hs2⟩
    rw [c3] at g1 ⊢
    simp (disch := first | omega | assumption | decide | (simp (disch := omega) only [iI_lit, iJ_lit, iJ_eq, iI_eq, bI_01, bI_01I] <;> omega)) only [c_Dm_swap, e_Dm_swap_0, e_Dm_swap_1, e_Dm_swap_2, e_Dm_swap_5, e_Dm_swap_6, e_Dm_swap_7, e_Dm_swap_10, e_Dm_swap_13, e_Dm_swap_14, e_Dm_swap_15, e_Dm_swap_18, e_Dm_swap_21, e_Dm_swap_22, e_Dm_swap_23, e_Dm_swap_26, e_Dm_swap_27, e_Dm_swap_28, e_Dm_swap_29, e_Dm_swap_32, e_Dm_swap_35, e_Dm_swap_36, e_Dm_swap_37, e_Dm_swap_40, e_Dm_swap_43, e_Dm_swap_44, e_Dm_swap_47, e_Dm_swap_48, e_Dm_swap_51, e_Dm_swap_52, e_Dm_swap_53, e_Dm_swap_54, e_Dm_swap_55, bd_some, bd_none, Option.toList_some, Option.toList_none, List.nil_append, List.cons_append, px_kill_int, px_kill_long, px_kill_ref, px_kill_null, iI_lit, iJ_lit, iI_add, iI_sub, iI_mul, iI_neg, iJ_add, iJ_sub, iJ_mul, iJ_neg, iI_lt, iI_le, iI_eq, iJ_lt, iJ_le, iJ_eq, iI_div, iJ_div, tdiv_tmod, iI_J, iJ_I, iI_ix, iI_toInt, iJ_toInt, cmp_ge, cmp_lt, cmp_eq, cmp_gt, cmp_le, cmp_geI, cmp_ltI, cmp_eqI, cmp_gtI, cmp_leI, bI_0I, bI_1I, pin, if_true, g1, g2, one0, if_false, e2]
  · rw [if_neg c3]
    obtain ⟨j, rfl⟩ : ∃ j : Nat, i = (j : Int) := ⟨i.toNat, by omega⟩
    obtain ⟨l, rfl⟩ : ∃ l : Nat, o = (l : Int) := ⟨o.toNat, by omega⟩
    have hj : j < S.1.1 := by have := c1.2; omega
    have hl : l < S.1.1 := by have := c2.2; omega
    have ej : ((j : Int)).toNat = j := by omega
    have el : ((l : Int)).toNat = l := by omega
    have h4 := hS.1.1
    have njl : j ≠ l := by omega
    rw [ej, el]
    have e := lp_mswap (t0 T) (i := j) (o := l) (by omega) (by omega) njl 8 0 (by omega) .null
    rw [swM_0] at e
    obtain ⟨⟨d1, d2⟩, ⟨d3, d4⟩, d5⟩ := id h0
    refine ⟨swM (t0 T) j l 8, ?_, ⟨⟨?_, fun n hn q hq => ?_⟩, ⟨?_, fun q hq => ?_⟩, fun q hq => ?_⟩, s0.tr ⟨fun q k hq => ?_, fun _ _ _ => rfl, rfl⟩⟩
    · simp (disch := first | omega | assumption | decide | (simp (disch := omega) only [iI_lit, iJ_lit, iJ_eq, iI_eq, bI_01, bI_01I] <;> omega)) only [c_Dm_swap, e_Dm_swap_0, e_Dm_swap_1, e_Dm_swap_2, e_Dm_swap_5, e_Dm_swap_6, e_Dm_swap_7, e_Dm_swap_10, e_Dm_swap_13, e_Dm_swap_14, e_Dm_swap_15, e_Dm_swap_18, e_Dm_swap_21, e_Dm_swap_22, e_Dm_swap_23, e_Dm_swap_26, e_Dm_swap_27, e_Dm_swap_28, e_Dm_swap_29, e_Dm_swap_32, e_Dm_swap_35, e_Dm_swap_36, e_Dm_swap_37, e_Dm_swap_40, e_Dm_swap_43, e_Dm_swap_44, e_Dm_swap_47, e_Dm_swap_48, e_Dm_swap_51, e_Dm_swap_52, e_Dm_swap_53, e_Dm_swap_54, e_Dm_swap_55, bd_some, bd_none, Option.toList_some, Option.toList_none, List.nil_append, List.cons_append, px_kill_int, px_kill_long, px_kill_ref, px_kill_null, iI_lit, iJ_lit, iI_add, iI_sub, iI_mul, iI_neg, iJ_add, iJ_sub, iJ_mul, iJ_neg, iI_lt, iI_le, iI_eq, iJ_lt, iJ_le, iJ_eq, iI_div, iJ_div, tdiv_tmod, iI_J, iJ_I, iI_ix, iI_toInt, iJ_toInt, cmp_ge, cmp_lt, cmp_eq, cmp_gt, cmp_le, cmp_geI, cmp_ltI, cmp_eqI, cmp_gtI, cmp_leI, bI_0I, bI_1I, pin, if_true, g1, g2, one0, if_false, c3]
      exact e
    · exact d1
    · have hn' : n < S.1.1 := hn
      show (swM (t0 T) j l 8).1 56 (8 * n + q) = iI ((if n = j then S.1.2 l else if n = l then S.1.2 j else S.1.2 n) q)
      unfold swM
      simp only
      rw [if_pos trivial]
      by_cases q1 : n = j
      · rw [if_pos (by omega), if_pos q1, show 8 * l + (8 * n + q - 8 * j) = 8 * l + q by omega]
        exact d2 l hl q hq
      · rw [if_neg (by omega), if_neg q1]
        by_cases q2 : n = l
        · rw [if_pos (by omega), if_pos q2, show 8 * j + (8 * n + q - 8 * l) = 8 * j + q by omega]
          exact d2 j hj q hq
        · rw [if_neg (by omega), if_neg q2]
          exact d2 n hn' q hq
    · exact d3
    · exact d4 q hq
    · exact d5 q hq
    · show (if q = 56 then _ else (t0 T).1 q k) = (t0 T).1 q k
      rw [if_neg (by omega)]
def dpM (T : TS) (a t : Nat) : TS := (fun q n => if q = 56 ∧ a ≤ n ∧ n < t then T.1 56 (n + 8) else T.1 q n, T.2)
theorem dpM_0 (T : TS) (a : Nat) : dpM T a a = T := by
  refine Prod.ext ?_ rfl
  funext q n
  exact if_neg (by omega)
theorem dpM_ne (T : TS) (a t : Nat) {q : Nat} (n : Nat) (h : q ≠ 56) : (dpM T a t).1 q n = T.1 q n := if_neg (fun z => h z.1)
theorem dpM_s (T : TS) {a t : Nat} (ha : a ≤ t) : sI (dpM T a t) 56 t (T.1 56 (t + 8)) = dpM T a (t + 1) := by
  refine Prod.ext ?_ rfl
  funext q n
  rw [sI_get]
  unfold dpM
  simp only
  by_cases e : q = 56 ∧ n = t
  · rw [if_pos e, if_pos (by omega), e.2]
  · rw [if_neg e]
    by_cases c : q = 56 ∧ a ≤ n ∧ n < t
    · rw [if_pos c, if_pos (by omega)]
    · rw [if_neg c, if_neg (by omega)]
set_option maxHeartbeats 1000000 in
theorem lp_mdrop (T : TS) {h : Nat} (h4 : h ≤ 4) (h0 : 0 < h) (hh : T.1 53 10 = iI (h : Int)) (i : Int32) {a : Nat} : ∀ (m t : Nat), t + m = 8 * (h - 1) → a ≤ t → rn k_Dm_drop 24 [.ref 53, .int i, .int (iI (t : Int))] [] (enc (dpM T a t)) = some (some (.int (iI ((h : Int) - 1))), enc (sI (dpM T a (8 * (h - 1))) 53 10 (iI ((h : Int) - 1)))) := by
  intro m
  have hh' : ∀ t, (dpM T a t).1 53 10 = iI (h : Int) := fun t => by
    show (if 53 = 56 ∧ a ≤ 10 ∧ 10 < t then T.1 56 (10 + 8) else T.1 53 10) = iI (h : Int)
    rw [if_neg (by omega)]
    exact hh
  induction m with
  | zero =>
    intro t ht ha
    have e : (t : Int) = 8 * ((h : Int) - 1) := by omega
    have et : t = 8 * (h - 1) := by omega
    have hht := hh' (8 * (h - 1))
    rw [e, et, e_Dm_drop_24]
    simp (disch := first | omega | assumption | decide | (simp (disch := omega) only [iI_lit, iJ_lit, iJ_eq, iI_eq, bI_01, bI_01I] <;> omega)) only [e_Dm_drop_25, e_Dm_drop_27, e_Dm_drop_28, e_Dm_drop_31, e_Dm_drop_32, e_Dm_drop_33, e_Dm_drop_34, e_Dm_drop_58, e_Dm_drop_59, e_Dm_drop_60, e_Dm_drop_63, e_Dm_drop_64, e_Dm_drop_65, e_Dm_drop_68, e_Dm_drop_69, e_Dm_drop_72, bd_some, bd_none, Option.toList_some, Option.toList_none, List.nil_append, List.cons_append, px_kill_int, px_kill_long, px_kill_ref, px_kill_null, iI_lit, iJ_lit, iI_add, iI_sub, iI_mul, iI_neg, iJ_add, iJ_sub, iJ_mul, iJ_neg, iI_lt, iI_le, iI_eq, iJ_lt, iJ_le, iJ_eq, iI_div, iJ_div, tdiv_tmod, iI_J, iJ_I, iI_ix, iI_toInt, iJ_toInt, cmp_ge, cmp_lt, cmp_eq, cmp_gt, cmp_le, cmp_geI, cmp_ltI, cmp_eqI, cmp_gtI, cmp_leI, bI_0I, bI_1I, pin, if_true, hht, Int.le_refl, sI_get, sJ_get, sI_2, sJ_1, sJ_22, sR_1, sR_21, Nat.reduceEqDiff, and_true, true_and, and_false, false_and, and_self, if_true, if_false, reduceIte]
  | succ m ih =>
    intro t ht ha
    have nle : ¬ 8 * ((h : Int) - 1) ≤ (t : Int) := by omega
    have hht := hh' t
    have et : ((t : Int)).toNat = t := by omega
    have et8 : ((t : Int) + 8).toNat = t + 8 := by omega
    have v : (dpM T a t).1 56 (t + 8) = T.1 56 (t + 8) := by
      show (if 56 = 56 ∧ a ≤ t + 8 ∧ t + 8 < t then T.1 56 (t + 8 + 8) else T.1 56 (t + 8)) = _
      rw [if_neg (by omega)]
    have e := ih (t + 1) (by omega) (by omega)
    refine Eq.trans ?_ e
    rw [← dpM_s T ha, show ((t + 1 : Nat) : Int) = (t : Int) + 1 by omega, e_Dm_drop_24]
    simp (disch := first | omega | assumption | decide | (simp (disch := omega) only [iI_lit, iJ_lit, iJ_eq, iI_eq, bI_01, bI_01I] <;> omega)) only [e_Dm_drop_25, e_Dm_drop_27, e_Dm_drop_28, e_Dm_drop_31, e_Dm_drop_32, e_Dm_drop_33, e_Dm_drop_34, e_Dm_drop_37, e_Dm_drop_38, e_Dm_drop_41, e_Dm_drop_42, e_Dm_drop_43, e_Dm_drop_46, e_Dm_drop_47, e_Dm_drop_49, e_Dm_drop_50, e_Dm_drop_51, e_Dm_drop_52, e_Dm_drop_55, bd_some, bd_none, Option.toList_some, Option.toList_none, List.nil_append, List.cons_append, px_kill_int, px_kill_long, px_kill_ref, px_kill_null, iI_lit, iJ_lit, iI_add, iI_sub, iI_mul, iI_neg, iJ_add, iJ_sub, iJ_mul, iJ_neg, iI_lt, iI_le, iI_eq, iJ_lt, iJ_le, iJ_eq, iI_div, iJ_div, tdiv_tmod, iI_J, iJ_I, iI_ix, iI_toInt, iJ_toInt, cmp_ge, cmp_lt, cmp_eq, cmp_gt, cmp_le, cmp_geI, cmp_ltI, cmp_eqI, cmp_gtI, cmp_leI, bI_0I, bI_1I, pin, if_true, hht, nle, if_false, sh_n56, et, et8, v]
set_option maxHeartbeats 1000000 in
theorem u_Dm_drop {T : TS} {S : FS} (hS : okF S) (h : fM T S) {i : Int} (hi : inI i) : ∃ T', cl k_Dm_drop [.ref 53, .int (iI i)] (enc T) = some (some (.int (iI (rDrop S i).2)), enc T') ∧ fM T' (rDrop S i).1 ∧ sepM T T' := by
  obtain ⟨h0, s0⟩ := t0_fM h
  have g1 := g_inM hS.1 h0.1 hi
  obtain ⟨i1, i2⟩ := id hi
  unfold rDrop
  by_cases c1 : isK S.1 i
  case neg =>
    rw [bI_fI c1] at g1
    obtain ⟨T', e, hF, hs⟩ := m_ref0 h0
    rw [if_neg c1]
    refine ⟨T', ?_, hF, s0.tr hs⟩
    simp (disch := first | omega | assumption | decide | (simp (disch := omega) only [iI_lit, iJ_lit, iJ_eq, iI_eq, bI_01, bI_01I] <;> omega)) only [c_Dm_drop, e_Dm_drop_0, e_Dm_drop_1, e_Dm_drop_2, e_Dm_drop_5, e_Dm_drop_6, e_Dm_drop_7, e_Dm_drop_10, e_Dm_drop_13, e_Dm_drop_14, e_Dm_drop_15, e_Dm_drop_18, e_Dm_drop_19, e_Dm_drop_21, e_Dm_drop_22, e_Dm_drop_23, bd_some, bd_none, Option.toList_some, Option.toList_none, List.nil_append, List.cons_append, px_kill_int, px_kill_long, px_kill_ref, px_kill_null, iI_lit, iJ_lit, iI_add, iI_sub, iI_mul, iI_neg, iJ_add, iJ_sub, iJ_mul, iJ_neg, iI_lt, iI_le, iI_eq, iJ_lt, iJ_le, iJ_eq, iI_div, iJ_div, tdiv_tmod, iI_J, iJ_I, iI_ix, iI_toInt, iJ_toInt, cmp_ge, cmp_lt, cmp_eq, cmp_gt, cmp_le, cmp_geI, cmp_ltI, cmp_eqI, cmp_gtI, cmp_leI, bI_0I, bI_1I, pin, if_true, g1, e]
  rw [bI_tI c1] at g1
  rw [if_pos c1]
  obtain ⟨j, rfl⟩ : ∃ j : Nat, i = (j : Int) := ⟨i.toNat, by omega⟩
  have hj : j < S.1.1 := by have := c1.2; omega
  have ej : ((j : Int)).toNat = j := by omega
  have h4 := hS.1.1
  rw [ej]
  obtain ⟨⟨d1, d2⟩, ⟨d3, d4⟩, d5⟩ := id h0
  have e := lp_mdrop (t0 T) h4 (by omega) d1 (iI (j : Int)) (a := 8 * j) (8 * (S.1.1 - 1) - 8 * j) (8 * j) (by omega) (Nat.le_refl _)
  rw [dpM_0] at e
  refine ⟨sI (dpM (t0 T) (8 * j) (8 * (S.1.1 - 1))) 53 10 (iI ((S.1.1 : Int) - 1)), ?_, ⟨⟨?_, fun n hn q hq => ?_⟩, ⟨?_, fun q hq => ?_⟩, fun q hq => ?_⟩, s0.tr ⟨fun q k hq => ?_, fun _ _ _ => rfl, rfl⟩⟩
  · simp (disch := first | omega | assumption | decide | (simp (disch := omega) only [iI_lit, iJ_lit, iJ_eq, iI_eq, bI_01, bI_01I] <;> omega)) only [c_Dm_drop, e_Dm_drop_0, e_Dm_drop_1, e_Dm_drop_2, e_Dm_drop_5, e_Dm_drop_6, e_Dm_drop_7, e_Dm_drop_10, e_Dm_drop_13, e_Dm_drop_14, e_Dm_drop_15, e_Dm_drop_18, e_Dm_drop_19, e_Dm_drop_21, e_Dm_drop_22, e_Dm_drop_23, bd_some, bd_none, Option.toList_some, Option.toList_none, List.nil_append, List.cons_append, px_kill_int, px_kill_long, px_kill_ref, px_kill_null, iI_lit, iJ_lit, iI_add, iI_sub, iI_mul, iI_neg, iJ_add, iJ_sub, iJ_mul, iJ_neg, iI_lt, iI_le, iI_eq, iJ_lt, iJ_le, iJ_eq, iI_div, iJ_div, tdiv_tmod, iI_J, iJ_I, iI_ix, iI_toInt, iJ_toInt, cmp_ge, cmp_lt, cmp_eq, cmp_gt, cmp_le, cmp_geI, cmp_ltI, cmp_eqI, cmp_gtI, cmp_leI, bI_0I, bI_1I, pin, if_true, g1, one0, if_false]
    rw [show 8 * (j : Int) = ((8 * j : Nat) : Int) by omega]
    exact e
  · show _ = iI ((S.1.1 - 1 : Nat) : Int)
    rw [show ((S.1.1 - 1 : Nat) : Int) = (S.1.1 : Int) - 1 by omega]
    simp only [sI_get, sJ_get, sI_2, sJ_1, sJ_22, sR_1, sR_21, Nat.reduceEqDiff, and_true, true_and, and_false, false_and, and_self, if_true, if_false, reduceIte]
  · have hn' : n < S.1.1 - 1 := hn
    show _ = iI ((if n < j then S.1.2 n else S.1.2 (n + 1)) q)
    rw [sI_get, if_neg (by omega)]
    show (if 56 = 56 ∧ 8 * j ≤ 8 * n + q ∧ 8 * n + q < 8 * (S.1.1 - 1) then (t0 T).1 56 (8 * n + q + 8) else (t0 T).1 56 (8 * n + q)) = _
    by_cases q1 : n < j
    · rw [if_neg (by omega), if_pos q1]
      exact d2 n (by omega) q hq
    · rw [if_pos (by omega), if_neg q1, show 8 * n + q + 8 = 8 * (n + 1) + q by omega]
      exact d2 (n + 1) (by omega) q hq
  · rw [sI_get, if_neg (by omega)]
    rw [dpM_ne _ _ _ _ (by omega)]
    exact d3
  · rw [sI_get, if_neg (by omega)]
    rw [dpM_ne _ _ _ _ (by omega)]
    exact d4 q hq
  · rw [sI_get, if_neg (by omega)]
    rw [dpM_ne _ _ _ _ (by omega)]
    exact d5 q hq
  · rw [sI_get, if_neg (by omega)]
    rw [dpM_ne _ _ _ _ (by omega)]
theorem q_Dm_status {T : TS} {S : FS} (h : fM T S) {k : Int} (hk : inI k) : ∃ T', cl k_Dm_status [.ref 53, .int (iI k)] (enc T) = some (some (.int (iI (qStat S k))), enc T') ∧ FrM T T' := by
  obtain ⟨h0, s0⟩ := t0_fM h
  obtain ⟨k1, k2⟩ := hk
  have g2 := s_in (x := k) (l := 0) (h := 2) (enc (t0 T)) (by omega) (by omega) (by omega)
  refine ⟨t0 T, ?_, t0_fr T⟩
  unfold qStat
  by_cases c : 0 ≤ k ∧ k ≤ 2
  · rw [bI_tI c] at g2
    rw [if_pos c]
    have hr := h0.2.2 k.toNat (by omega)
    simp (disch := first | omega | assumption | decide | (simp (disch := omega) only [iI_lit, iJ_lit, iJ_eq, iI_eq, bI_01, bI_01I] <;> omega)) only [c_Dm_status, e_Dm_status_0, e_Dm_status_1, e_Dm_status_2, e_Dm_status_5, e_Dm_status_6, e_Dm_status_7, e_Dm_status_8, e_Dm_status_11, e_Dm_status_14, e_Dm_status_17, e_Dm_status_18, e_Dm_status_21, e_Dm_status_22, e_Dm_status_23, e_Dm_status_26, e_Dm_status_27, bd_some, bd_none, Option.toList_some, Option.toList_none, List.nil_append, List.cons_append, px_kill_int, px_kill_long, px_kill_ref, px_kill_null, iI_lit, iJ_lit, iI_add, iI_sub, iI_mul, iI_neg, iJ_add, iJ_sub, iJ_mul, iJ_neg, iI_lt, iI_le, iI_eq, iJ_lt, iJ_le, iJ_eq, iI_div, iJ_div, tdiv_tmod, iI_J, iJ_I, iI_ix, iI_toInt, iJ_toInt, cmp_ge, cmp_lt, cmp_eq, cmp_gt, cmp_le, cmp_geI, cmp_ltI, cmp_eqI, cmp_gtI, cmp_leI, bI_0I, bI_1I, pin, if_true, g2, one0, if_false, sh_n57, hr]
  · rw [bI_fI c] at g2
    rw [if_neg c]
    simp (disch := first | omega | assumption | decide | (simp (disch := omega) only [iI_lit, iJ_lit, iJ_eq, iI_eq, bI_01, bI_01I] <;> omega)) only [c_Dm_status, e_Dm_status_0, e_Dm_status_1, e_Dm_status_2, e_Dm_status_5, e_Dm_status_6, e_Dm_status_7, e_Dm_status_8, e_Dm_status_11, e_Dm_status_14, e_Dm_status_17, e_Dm_status_18, e_Dm_status_21, e_Dm_status_22, e_Dm_status_23, e_Dm_status_26, e_Dm_status_27, bd_some, bd_none, Option.toList_some, Option.toList_none, List.nil_append, List.cons_append, px_kill_int, px_kill_long, px_kill_ref, px_kill_null, iI_lit, iJ_lit, iI_add, iI_sub, iI_mul, iI_neg, iJ_add, iJ_sub, iJ_mul, iJ_neg, iI_lt, iI_le, iI_eq, iJ_lt, iJ_le, iJ_eq, iI_div, iJ_div, tdiv_tmod, iI_J, iJ_I, iI_ix, iI_toInt, iJ_toInt, cmp_ge, cmp_lt, cmp_eq, cmp_gt, cmp_le, cmp_geI, cmp_ltI, cmp_eqI, cmp_gtI, cmp_leI, bI_0I, bI_1I, pin, if_true, g2]
theorem q_Dm_count {T : TS} {S : FS} (h : fM T S) {k : Int} (hk : inI k) : ∃ T', cl k_Dm_count [.ref 53, .int (iI k)] (enc T) = some (some (.int (iI (qCnt S k))), enc T') ∧ FrM T T' := by
  obtain ⟨h0, s0⟩ := t0_fM h
  obtain ⟨k1, k2⟩ := hk
  have h1 := h0.1.1
  have h2 := h0.2.1.1
  refine ⟨t0 T, ?_, t0_fr T⟩
  unfold qCnt
  by_cases c1 : k = 0
  · rw [if_pos c1]
    simp (disch := first | omega | assumption | decide | (simp (disch := omega) only [iI_lit, iJ_lit, iJ_eq, iI_eq, bI_01, bI_01I] <;> omega)) only [c_Dm_count, e_Dm_count_0, e_Dm_count_1, e_Dm_count_2, e_Dm_count_5, e_Dm_count_6, e_Dm_count_9, e_Dm_count_10, e_Dm_count_13, e_Dm_count_16, e_Dm_count_17, e_Dm_count_18, e_Dm_count_21, e_Dm_count_22, e_Dm_count_25, e_Dm_count_28, e_Dm_count_31, bd_some, bd_none, Option.toList_some, Option.toList_none, List.nil_append, List.cons_append, px_kill_int, px_kill_long, px_kill_ref, px_kill_null, iI_lit, iJ_lit, iI_add, iI_sub, iI_mul, iI_neg, iJ_add, iJ_sub, iJ_mul, iJ_neg, iI_lt, iI_le, iI_eq, iJ_lt, iJ_le, iJ_eq, iI_div, iJ_div, tdiv_tmod, iI_J, iJ_I, iI_ix, iI_toInt, iJ_toInt, cmp_ge, cmp_lt, cmp_eq, cmp_gt, cmp_le, cmp_geI, cmp_ltI, cmp_eqI, cmp_gtI, cmp_leI, bI_0I, bI_1I, pin, if_true, c1, h1]
  · rw [if_neg c1]
    by_cases c2 : k = 1
    · rw [if_pos c2]
      subst c2
      simp (disch := first | omega | assumption | decide | (simp (disch := omega) only [iI_lit, iJ_lit, iJ_eq, iI_eq, bI_01, bI_01I] <;> omega)) only [c_Dm_count, e_Dm_count_0, e_Dm_count_1, e_Dm_count_2, e_Dm_count_5, e_Dm_count_6, e_Dm_count_9, e_Dm_count_10, e_Dm_count_13, e_Dm_count_16, e_Dm_count_17, e_Dm_count_18, e_Dm_count_21, e_Dm_count_22, e_Dm_count_25, e_Dm_count_28, e_Dm_count_31, bd_some, bd_none, Option.toList_some, Option.toList_none, List.nil_append, List.cons_append, px_kill_int, px_kill_long, px_kill_ref, px_kill_null, iI_lit, iJ_lit, iI_add, iI_sub, iI_mul, iI_neg, iJ_add, iJ_sub, iJ_mul, iJ_neg, iI_lt, iI_le, iI_eq, iJ_lt, iJ_le, iJ_eq, iI_div, iJ_div, tdiv_tmod, iI_J, iJ_I, iI_ix, iI_toInt, iJ_toInt, cmp_ge, cmp_lt, cmp_eq, cmp_gt, cmp_le, cmp_geI, cmp_ltI, cmp_eqI, cmp_gtI, cmp_leI, bI_0I, bI_1I, pin, if_true, one0, if_false, h2]
    · rw [if_neg c2]
      simp (disch := first | omega | assumption | decide | (simp (disch := omega) only [iI_lit, iJ_lit, iJ_eq, iI_eq, bI_01, bI_01I] <;> omega)) only [c_Dm_count, e_Dm_count_0, e_Dm_count_1, e_Dm_count_2, e_Dm_count_5, e_Dm_count_6, e_Dm_count_9, e_Dm_count_10, e_Dm_count_13, e_Dm_count_16, e_Dm_count_17, e_Dm_count_18, e_Dm_count_21, e_Dm_count_22, e_Dm_count_25, e_Dm_count_28, e_Dm_count_31, bd_some, bd_none, Option.toList_some, Option.toList_none, List.nil_append, List.cons_append, px_kill_int, px_kill_long, px_kill_ref, px_kill_null, iI_lit, iJ_lit, iI_add, iI_sub, iI_mul, iI_neg, iJ_add, iJ_sub, iJ_mul, iJ_neg, iI_lt, iI_le, iI_eq, iJ_lt, iJ_le, iJ_eq, iI_div, iJ_div, tdiv_tmod, iI_J, iJ_I, iI_ix, iI_toInt, iJ_toInt, cmp_ge, cmp_lt, cmp_eq, cmp_gt, cmp_le, cmp_geI, cmp_ltI, cmp_eqI, cmp_gtI, cmp_leI, bI_0I, bI_1I, pin, if_true, c1, c2, if_false]
