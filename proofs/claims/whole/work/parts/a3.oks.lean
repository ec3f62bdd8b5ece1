/-! states stay in bounds; one call on both sides. -/
theorem rTone_ok {S : FS} (h : okF S) (i t : Int) : okF (rTone S i t).1 := by
  unfold rTone
  by_cases c1 : isK S.1 i
  · rw [if_pos c1]
    by_cases c2 : 0 ≤ t ∧ t ≤ 100
    · rw [if_pos c2]
      split
      · exact rfS_ok h 2
      · have hf := h.1.2 i.toNat (by have := c1.1; have := c1.2; omega)
        exact inS_ok h _ ⟨hf.1, hf.2.1, c2, hf.2.2.2⟩
    · rw [if_neg c2]; exact rfS_ok h 1
  · rw [if_neg c1]; exact rfS_ok h 0
theorem rShape_ok {S : FS} (h : okF S) (i t : Int) : okF (rShape S i t).1 := by
  unfold rShape
  by_cases c1 : isK S.1 i
  · rw [if_pos c1]
    by_cases c2 : 0 ≤ t ∧ t ≤ 2
    · rw [if_pos c2]
      split
      · exact rfS_ok h 2
      · have hf := h.1.2 i.toNat (by have := c1.1; have := c1.2; omega)
        exact inS_ok h _ ⟨hf.1, c2, hf.2.2⟩
    · rw [if_neg c2]; exact rfS_ok h 1
  · rw [if_neg c1]; exact rfS_ok h 0
theorem rOffs_ok {S : FS} (h : okF S) (i x y : Int) : okF (rOffs S i x y).1 := by
  unfold rOffs
  by_cases c1 : isK S.1 i
  · rw [if_pos c1]
    by_cases c2 : (-99 ≤ x ∧ x ≤ 99) ∧ (-99 ≤ y ∧ y ≤ 99)
    · rw [if_pos c2]
      split
      · exact rfS_ok h 2
      · have hf := h.1.2 i.toNat (by have := c1.1; have := c1.2; omega)
        exact inS_ok h _ ⟨hf.1, hf.2.1, hf.2.2.1, c2.1, c2.2⟩
    · rw [if_neg c2]; exact rfS_ok h 1
  · rw [if_neg c1]; exact rfS_ok h 0
/-! CALLS -/
theorem rScr_ok {S : FS} (h : okF S) (i a b c d : Int) : okF (rScr S i a b c d).1 := by
  unfold rScr
  by_cases c1 : isK S.1 i
  · rw [if_pos c1]
    by_cases c2 : isSide a b c d ∧ isScr a b c d
    · rw [if_pos c2]
      split
      · exact rfS_ok h 2
      · have hf := h.1.2 i.toNat (by have := c1.1; have := c1.2; omega)
        exact inS_ok h _ ⟨okS_of c2, hf.2.1, hf.2.2.1, hf.2.2.2⟩
    · rw [if_neg c2]; exact rfS_ok h 1
  · rw [if_neg c1]; exact rfS_ok h 0
theorem rSwap_ok {S : FS} (h : okF S) (i o : Int) : okF (rSwap S i o).1 := by
  unfold rSwap
  by_cases c1 : isK S.1 i ∧ isK S.1 o
  · rw [if_pos c1]
    split
    · exact rfS_ok h 2
    · exact swF_ok h (by have := c1.1.1; have := c1.1.2; omega) (by have := c1.2.1; have := c1.2.2; omega)
  · rw [if_neg c1]; exact rfS_ok h 0
theorem rDrop_ok {S : FS} (h : okF S) (i : Int) : okF (rDrop S i).1 := by
  unfold rDrop
  by_cases c1 : isK S.1 i
  · rw [if_pos c1]
    exact dpF_ok h (by have := c1.1; have := c1.2; omega)
  · rw [if_neg c1]; exact rfS_ok h 0
def lwI (xs : Nat → Int32) (Ln : Nat) (S : FS) (T : TS) : Prop := okF S ∧ fC GG T S ∧ fM T S ∧ (∀ k, T.1 1002 k = xs k) ∧ T.2.2.2 = Ln
theorem lw_both {xs : Nat → Int32} {Ln : Nat} {S S' : FS} {T T1 T2 : TS} (hI : lwI xs Ln S T) (hS' : okF S') (h1 : fC GG T1 S') (s1 : sepC T T1) (h2 : fM T2 S') (s2 : sepM T1 T2) : lwI xs Ln S' T2 := by
  obtain ⟨a1, a2, a3, a4, a5⟩ := hI
  refine ⟨hS', h1.sep hS' s2, h2, fun k => ?_, ?_⟩
  · rw [s2.1 _ _ (by omega), s1.1 _ _ (by omega)]; exact a4 k
  · rw [s2.2.2, s1.2.2]; exact a5
def calI (xs : Nat → Int32) (Ln kD kM : Nat) (as : List Value) (T : TS) : Prop := ∃ (x : Int32) (T1 T2 : TS) (S' : FS), cl kD (.ref 0 :: as) (enc T) = some (some (.int x), enc T1) ∧ cl kM (.ref 53 :: as) (enc T1) = some (some (.int x), enc T2) ∧ lwI xs Ln S' T2 ∧ T1.1 1002 = T.1 1002 ∧ T1.2.2.2 = T.2.2.2
def calJ (xs : Nat → Int32) (Ln kD kM : Nat) (as : List Value) (T : TS) : Prop := ∃ (x : Int64) (T1 T2 : TS) (S' : FS), cl kD (.ref 0 :: as) (enc T) = some (some (.long x), enc T1) ∧ cl kM (.ref 53 :: as) (enc T1) = some (some (.long x), enc T2) ∧ lwI xs Ln S' T2 ∧ T1.1 1002 = T.1 1002 ∧ T1.2.2.2 = T.2.2.2
theorem mk_I {xs : Nat → Int32} {Ln kD kM : Nat} {as : List Value} {S S' : FS} {T T1 : TS} {x : Int32} (hI : lwI xs Ln S T) (e1 : cl kD (.ref 0 :: as) (enc T) = some (some (.int x), enc T1)) (hS' : okF S') (f1 : fC GG T1 S') (s1 : sepC T T1) (h2 : fM T1 S → ∃ T2, cl kM (.ref 53 :: as) (enc T1) = some (some (.int x), enc T2) ∧ fM T2 S' ∧ sepM T1 T2) : calI xs Ln kD kM as T := by
  obtain ⟨T2, e2, f2, s2⟩ := h2 (hI.2.2.1.sep s1)
  exact ⟨x, T1, T2, S', e1, e2, lw_both hI hS' f1 s1 f2 s2, funext fun k => s1.1 _ _ (by omega), s1.2.2⟩
theorem mk_J {xs : Nat → Int32} {Ln kD kM : Nat} {as : List Value} {S S' : FS} {T T1 : TS} {x : Int64} (hI : lwI xs Ln S T) (e1 : cl kD (.ref 0 :: as) (enc T) = some (some (.long x), enc T1)) (hS' : okF S') (f1 : fC GG T1 S') (s1 : sepC T T1) (h2 : fM T1 S → ∃ T2, cl kM (.ref 53 :: as) (enc T1) = some (some (.long x), enc T2) ∧ fM T2 S' ∧ sepM T1 T2) : calJ xs Ln kD kM as T := by
  obtain ⟨T2, e2, f2, s2⟩ := h2 (hI.2.2.1.sep s1)
  exact ⟨x, T1, T2, S', e1, e2, lw_both hI hS' f1 s1 f2 s2, funext fun k => s1.1 _ _ (by omega), s1.2.2⟩
theorem in_I (a : Int32) : inI a.toInt := ⟨i32_ge a, i32_le a⟩
theorem v_brick {xs : Nat → Int32} {Ln : Nat} {S : FS} {T : TS} (hI : lwI xs Ln S T) (a0 a1 : Int32) : calI xs Ln k_Ds_brick k_Dm_brick [.int a0, .int a1] T := by
  obtain ⟨hS, hC, hM, -, -⟩ := id hI
  have e1 := q_Ds_brick hS.1 hC.1 (in_I a0) (in_I a1)
  simp only [iI_of] at e1
  refine mk_I hI e1 hS hC (sepC.rf T) (fun h => ?_)
  obtain ⟨T2, e2, fr2⟩ := q_Dm_brick hS.1 h.1 (in_I a0) (in_I a1)
  simp only [iI_of] at e2
  have k2 := h.ask fr2
  exact ⟨T2, e2, k2.1, k2.2⟩
theorem v_home {xs : Nat → Int32} {Ln : Nat} {S : FS} {T : TS} (hI : lwI xs Ln S T) (a0 a1 a2 a3 : Int32) : calI xs Ln k_Ds_home k_Dm_home [.int a0, .int a1, .int a2, .int a3] T := by
  obtain ⟨hS, hC, hM, -, -⟩ := id hI
  have e1 := q_Ds_home hS.1 hC.1 (in_I a0) (in_I a1) (in_I a2) (in_I a3)
  simp only [iI_of] at e1
  refine mk_I hI e1 hS hC (sepC.rf T) (fun h => ?_)
  obtain ⟨T2, e2, fr2⟩ := q_Dm_home hS.1 h.1 (in_I a0) (in_I a1) (in_I a2) (in_I a3)
  simp only [iI_of] at e2
  have k2 := h.ask fr2
  exact ⟨T2, e2, k2.1, k2.2⟩
theorem v_slope {xs : Nat → Int32} {Ln : Nat} {S : FS} {T : TS} (hI : lwI xs Ln S T) (a0 a1 : Int32) : calI xs Ln k_Ds_slope k_Dm_slope [.int a0, .int a1] T := by
  obtain ⟨hS, hC, hM, -, -⟩ := id hI
  have e1 := q_Ds_slope hS.1 hC.1 (in_I a0) (in_I a1)
  simp only [iI_of] at e1
  refine mk_I hI e1 hS hC (sepC.rf T) (fun h => ?_)
  obtain ⟨T2, e2, fr2⟩ := q_Dm_slope hS.1 h.1 (in_I a0) (in_I a1)
  simp only [iI_of] at e2
  have k2 := h.ask fr2
  exact ⟨T2, e2, k2.1, k2.2⟩
theorem v_turn {xs : Nat → Int32} {Ln : Nat} {S : FS} {T : TS} (hI : lwI xs Ln S T) (a0 a1 a2 : Int32) : calI xs Ln k_Ds_turn k_Dm_turn [.int a0, .int a1, .int a2] T := by
  obtain ⟨hS, hC, hM, -, -⟩ := id hI
  have e1 := q_Ds_turn hS.1 hC.1 (in_I a0) (in_I a1) (in_I a2)
  simp only [iI_of] at e1
  refine mk_I hI e1 hS hC (sepC.rf T) (fun h => ?_)
  obtain ⟨T2, e2, fr2⟩ := q_Dm_turn hS.1 h.1 (in_I a0) (in_I a1) (in_I a2)
  simp only [iI_of] at e2
  have k2 := h.ask fr2
  exact ⟨T2, e2, k2.1, k2.2⟩
theorem v_status {xs : Nat → Int32} {Ln : Nat} {S : FS} {T : TS} (hI : lwI xs Ln S T) (a0 : Int32) : calI xs Ln k_Ds_status k_Dm_status [.int a0] T := by
  obtain ⟨hS, hC, hM, -, -⟩ := id hI
  have e1 := q_Ds_status hC (in_I a0)
  simp only [iI_of] at e1
  refine mk_I hI e1 hS hC (sepC.rf T) (fun h => ?_)
  obtain ⟨T2, e2, fr2⟩ := q_Dm_status h (in_I a0)
  simp only [iI_of] at e2
  have k2 := h.ask fr2
  exact ⟨T2, e2, k2.1, k2.2⟩
theorem v_count {xs : Nat → Int32} {Ln : Nat} {S : FS} {T : TS} (hI : lwI xs Ln S T) (a0 : Int32) : calI xs Ln k_Ds_count k_Dm_count [.int a0] T := by
  obtain ⟨hS, hC, hM, -, -⟩ := id hI
  have e1 := q_Ds_count hC (in_I a0)
  simp only [iI_of] at e1
  refine mk_I hI e1 hS hC (sepC.rf T) (fun h => ?_)
  obtain ⟨T2, e2, fr2⟩ := q_Dm_count h (in_I a0)
  simp only [iI_of] at e2
  have k2 := h.ask fr2
  exact ⟨T2, e2, k2.1, k2.2⟩
theorem v_spot {xs : Nat → Int32} {Ln : Nat} {S : FS} {T : TS} (hI : lwI xs Ln S T) (a0 a1 a2 : Int32) : calI xs Ln k_Ds_spot k_Dm_spot [.int a0, .int a1, .int a2] T := by
  obtain ⟨hS, hC, hM, -, -⟩ := id hI
  obtain ⟨T1, e1, fr, hc⟩ := q_Ds_spot hS.1 hC.1 (in_I a0) (in_I a1) (in_I a2)
  simp only [iI_of] at e1
  have k := hC.ask hS fr hc
  refine mk_I hI e1 hS k.1 k.2 (fun h => ?_)
  obtain ⟨T2, e2, fr2⟩ := q_Dm_spot hS.1 h.1 (in_I a0) (in_I a1) (in_I a2)
  simp only [iI_of] at e2
  have k2 := h.ask fr2
  exact ⟨T2, e2, k2.1, k2.2⟩
theorem v_rank {xs : Nat → Int32} {Ln : Nat} {S : FS} {T : TS} (hI : lwI xs Ln S T) (a0 a1 a2 : Int32) : calI xs Ln k_Ds_rank k_Dm_rank [.int a0, .int a1, .int a2] T := by
  obtain ⟨hS, hC, hM, -, -⟩ := id hI
  obtain ⟨T1, e1, fr, hc⟩ := q_Ds_rank hS.1 hC.1 (in_I a0) (in_I a1) (in_I a2)
  simp only [iI_of] at e1
  have k := hC.ask hS fr hc
  refine mk_I hI e1 hS k.1 k.2 (fun h => ?_)
  obtain ⟨T2, e2, fr2⟩ := q_Dm_rank hS.1 h.1 (in_I a0) (in_I a1) (in_I a2)
  simp only [iI_of] at e2
  have k2 := h.ask fr2
  exact ⟨T2, e2, k2.1, k2.2⟩
theorem v_ranked {xs : Nat → Int32} {Ln : Nat} {S : FS} {T : TS} (hI : lwI xs Ln S T) (a0 a1 a2 : Int32) : calI xs Ln k_Ds_ranked k_Dm_ranked [.int a0, .int a1, .int a2] T := by
  obtain ⟨hS, hC, hM, -, -⟩ := id hI
  obtain ⟨T1, e1, fr, hc⟩ := q_Ds_ranked hS.1 hC.1 (in_I a0) (in_I a1) (in_I a2)
  simp only [iI_of] at e1
  have k := hC.ask hS fr hc
  refine mk_I hI e1 hS k.1 k.2 (fun h => ?_)
  obtain ⟨T2, e2, fr2⟩ := q_Dm_ranked hS.1 h.1 (in_I a0) (in_I a1) (in_I a2)
  simp only [iI_of] at e2
  have k2 := h.ask fr2
  exact ⟨T2, e2, k2.1, k2.2⟩
theorem v_inked {xs : Nat → Int32} {Ln : Nat} {S : FS} {T : TS} (hI : lwI xs Ln S T) (a0 a1 a2 : Int32) : calI xs Ln k_Ds_inked k_Dm_inked [.int a0, .int a1, .int a2] T := by
  obtain ⟨hS, hC, hM, -, -⟩ := id hI
  obtain ⟨T1, e1, fr, hc⟩ := q_Ds_inked hS.1 hC.1 (in_I a0) (in_I a1) (in_I a2)
  simp only [iI_of] at e1
  have k := hC.ask hS fr hc
  refine mk_I hI e1 hS k.1 k.2 (fun h => ?_)
  obtain ⟨T2, e2, fr2⟩ := q_Dm_inked hS.1 h.1 (in_I a0) (in_I a1) (in_I a2)
  simp only [iI_of] at e2
  have k2 := h.ask fr2
  exact ⟨T2, e2, k2.1, k2.2⟩
theorem v_overlay {xs : Nat → Int32} {Ln : Nat} {S : FS} {T : TS} (hI : lwI xs Ln S T) (a0 a1 : Int32) : calI xs Ln k_Ds_overlay k_Dm_overlay [.int a0, .int a1] T := by
  obtain ⟨hS, hC, hM, -, -⟩ := id hI
  obtain ⟨T1, e1, fr, hc⟩ := q_Ds_overlay hS.1 hC.1 (in_I a0) (in_I a1)
  simp only [iI_of] at e1
  have k := hC.ask hS fr hc
  refine mk_I hI e1 hS k.1 k.2 (fun h => ?_)
  obtain ⟨T2, e2, fr2⟩ := q_Dm_overlay hS.1 h.1 (in_I a0) (in_I a1)
  simp only [iI_of] at e2
  have k2 := h.ask fr2
  exact ⟨T2, e2, k2.1, k2.2⟩
theorem v_next {xs : Nat → Int32} {Ln : Nat} {S : FS} {T : TS} (hI : lwI xs Ln S T) (a0 a1 a2 : Int32) : calI xs Ln k_Ds_next k_Dm_next [.int a0, .int a1, .int a2] T := by
  obtain ⟨hS, hC, hM, -, -⟩ := id hI
  obtain ⟨T1, e1, fr, hc⟩ := q_Ds_next hS.1 hC.1 (in_I a0) (in_I a1) (in_I a2)
  simp only [iI_of] at e1
  have k := hC.ask hS fr hc
  refine mk_I hI e1 hS k.1 k.2 (fun h => ?_)
  obtain ⟨T2, e2, fr2⟩ := q_Dm_next hS.1 h.1 (in_I a0) (in_I a1) (in_I a2)
  simp only [iI_of] at e2
  have k2 := h.ask fr2
  exact ⟨T2, e2, k2.1, k2.2⟩
theorem v_window {xs : Nat → Int32} {Ln : Nat} {S : FS} {T : TS} (hI : lwI xs Ln S T) (a0 a1 a2 a3 a4 a5 : Int32) : calI xs Ln k_Ds_window k_Dm_window [.int a0, .int a1, .int a2, .int a3, .int a4, .int a5] T := by
  obtain ⟨hS, hC, hM, -, -⟩ := id hI
  obtain ⟨T1, e1, fr, hc⟩ := q_Ds_window hS.1 hC.1 (in_I a0) (in_I a1) (in_I a2) (in_I a3) (in_I a4) (in_I a5)
  simp only [iI_of] at e1
  have k := hC.ask hS fr hc
  refine mk_I hI e1 hS k.1 k.2 (fun h => ?_)
  obtain ⟨T2, e2, fr2⟩ := q_Dm_window hS.1 h.1 (in_I a0) (in_I a1) (in_I a2) (in_I a3) (in_I a4) (in_I a5)
  simp only [iI_of] at e2
  have k2 := h.ask fr2
  exact ⟨T2, e2, k2.1, k2.2⟩
theorem v_densest {xs : Nat → Int32} {Ln : Nat} {S : FS} {T : TS} (hI : lwI xs Ln S T) (a0 a1 a2 a3 : Int32) : calI xs Ln k_Ds_densest k_Dm_densest [.int a0, .int a1, .int a2, .int a3] T := by
  obtain ⟨hS, hC, hM, -, -⟩ := id hI
  obtain ⟨T1, e1, fr, hc⟩ := q_Ds_densest hS.1 hC.1 (in_I a0) (in_I a1) (in_I a2) (in_I a3)
  simp only [iI_of] at e1
  have k := hC.ask hS fr hc
  refine mk_I hI e1 hS k.1 k.2 (fun h => ?_)
  obtain ⟨T2, e2, fr2⟩ := q_Dm_densest hS.1 h.1 (in_I a0) (in_I a1) (in_I a2) (in_I a3)
  simp only [iI_of] at e2
  have k2 := h.ask fr2
  exact ⟨T2, e2, k2.1, k2.2⟩
theorem v_beat {xs : Nat → Int32} {Ln : Nat} {S : FS} {T : TS} (hI : lwI xs Ln S T) (a0 a1 a2 : Int32) : calI xs Ln k_Ds_beat k_Dm_beat [.int a0, .int a1, .int a2] T := by
  obtain ⟨hS, hC, hM, -, -⟩ := id hI
  obtain ⟨T1, e1, fr⟩ := q_Ds_beat hS.1 hC.1 (in_I a0) (in_I a1) (in_I a2)
  simp only [iI_of] at e1
  have k := hC.askN hS fr
  refine mk_I hI e1 hS k.1 k.2 (fun h => ?_)
  obtain ⟨T2, e2, fr2⟩ := q_Dm_beat hS.1 h.1 (in_I a0) (in_I a1) (in_I a2)
  simp only [iI_of] at e2
  have k2 := h.ask fr2
  exact ⟨T2, e2, k2.1, k2.2⟩
theorem v_far {xs : Nat → Int32} {Ln : Nat} {S : FS} {T : TS} (hI : lwI xs Ln S T) (a0 a1 a2 : Int32) : calJ xs Ln k_Ds_far k_Dm_far_III [.int a0, .int a1, .int a2] T := by
  obtain ⟨hS, hC, hM, -, -⟩ := id hI
  obtain ⟨T1, e1, fr⟩ := q_Ds_far hS.1 hC.1 (in_I a0) (in_I a1) (in_I a2)
  simp only [iI_of] at e1
  have k := hC.askN hS fr
  refine mk_J hI e1 hS k.1 k.2 (fun h => ?_)
  obtain ⟨T2, e2, fr2⟩ := q_Dm_far hS.1 h.1 (in_I a0) (in_I a1) (in_I a2)
  simp only [iI_of] at e2
  have k2 := h.ask fr2
  exact ⟨T2, e2, k2.1, k2.2⟩
theorem v_bestTurn {xs : Nat → Int32} {Ln : Nat} {S : FS} {T : TS} (hI : lwI xs Ln S T) (a0 a1 : Int32) : calI xs Ln k_Ds_bestTurn k_Dm_bestTurn [.int a0, .int a1] T := by
  obtain ⟨hS, hC, hM, -, -⟩ := id hI
  obtain ⟨T1, e1, fr⟩ := q_Ds_bestTurn hS.1 hC.1 (in_I a0) (in_I a1)
  simp only [iI_of] at e1
  have k := hC.askN hS fr
  refine mk_I hI e1 hS k.1 k.2 (fun h => ?_)
  obtain ⟨T2, e2, fr2⟩ := q_Dm_bestTurn hS.1 h.1 (in_I a0) (in_I a1)
  simp only [iI_of] at e2
  have k2 := h.ask fr2
  exact ⟨T2, e2, k2.1, k2.2⟩
theorem v_fault {xs : Nat → Int32} {Ln : Nat} {S : FS} {T : TS} (hI : lwI xs Ln S T) : calI xs Ln k_Ds_fault k_Dm_fault [] T := by
  obtain ⟨hS, hC, hM, -, -⟩ := id hI
  obtain ⟨T1, e1, fr⟩ := q_Ds_fault hS hC 
  have k := hC.askN hS fr
  refine mk_I hI e1 hS k.1 k.2 (fun h => ?_)
  obtain ⟨T2, e2, fr2⟩ := q_Dm_fault hS h 
  have k2 := h.ask fr2
  exact ⟨T2, e2, k2.1, k2.2⟩
theorem v_reduced {xs : Nat → Int32} {Ln : Nat} {S : FS} {T : TS} (hI : lwI xs Ln S T) (a0 a1 : Int32) : calI xs Ln k_Ds_reduced k_Dm_reduced [.int a0, .int a1] T := by
  obtain ⟨hS, hC, hM, -, -⟩ := id hI
  obtain ⟨T1, e1, fr⟩ := q_Ds_reduced hS.1 hC.1 (in_I a0) (in_I a1)
  simp only [iI_of] at e1
  have k := hC.askN hS fr
  refine mk_I hI e1 hS k.1 k.2 (fun h => ?_)
  obtain ⟨T2, e2, fr2⟩ := q_Dm_reduced hS.1 h.1 (in_I a0) (in_I a1)
  simp only [iI_of] at e2
  have k2 := h.ask fr2
  exact ⟨T2, e2, k2.1, k2.2⟩
theorem v_common {xs : Nat → Int32} {Ln : Nat} {S : FS} {T : TS} (hI : lwI xs Ln S T) (a0 a1 : Int32) : calJ xs Ln k_Ds_common k_Dm_common [.int a0, .int a1] T := by
  obtain ⟨hS, hC, hM, -, -⟩ := id hI
  obtain ⟨T1, e1, fr⟩ := q_Ds_common hS.1 hC.1 (in_I a0) (in_I a1)
  simp only [iI_of] at e1
  have k := hC.askN hS fr
  refine mk_J hI e1 hS k.1 k.2 (fun h => ?_)
  obtain ⟨T2, e2, fr2⟩ := q_Dm_common hS.1 h.1 (in_I a0) (in_I a1)
  simp only [iI_of] at e2
  have k2 := h.ask fr2
  exact ⟨T2, e2, k2.1, k2.2⟩
theorem v_inCell {xs : Nat → Int32} {Ln : Nat} {S : FS} {T : TS} (hI : lwI xs Ln S T) (a0 a1 : Int32) : calJ xs Ln k_Ds_inCell k_Dm_inCell [.int a0, .int a1] T := by
  obtain ⟨hS, hC, hM, -, -⟩ := id hI
  obtain ⟨T1, e1, fr⟩ := q_Ds_inCell hS.1 hC.1 (in_I a0) (in_I a1)
  simp only [iI_of] at e1
  have k := hC.askN hS fr
  refine mk_J hI e1 hS k.1 k.2 (fun h => ?_)
  obtain ⟨T2, e2, fr2⟩ := q_Dm_inCell hS.1 h.1 (in_I a0) (in_I a1)
  simp only [iI_of] at e2
  have k2 := h.ask fr2
  exact ⟨T2, e2, k2.1, k2.2⟩
theorem v_tone {xs : Nat → Int32} {Ln : Nat} {S : FS} {T : TS} (hI : lwI xs Ln S T) (a0 a1 : Int32) : calI xs Ln k_Ds_tone k_Dm_tone [.int a0, .int a1] T := by
  obtain ⟨hS, hC, hM, -, -⟩ := id hI
  obtain ⟨T1, e1, k1, k2⟩ := u_Ds_tone okGG hS hC (in_I a0) (in_I a1)
  simp only [iI_of] at e1
  refine mk_I hI e1 (rTone_ok hS _ _) k1 k2 (fun h => ?_)
  obtain ⟨T2, e2, k3, k4⟩ := u_Dm_tone hS h (in_I a0) (in_I a1)
  simp only [iI_of] at e2
  exact ⟨T2, e2, k3, k4⟩
theorem v_shape {xs : Nat → Int32} {Ln : Nat} {S : FS} {T : TS} (hI : lwI xs Ln S T) (a0 a1 : Int32) : calI xs Ln k_Ds_shape k_Dm_shape [.int a0, .int a1] T := by
  obtain ⟨hS, hC, hM, -, -⟩ := id hI
  obtain ⟨T1, e1, k1, k2⟩ := u_Ds_shape hS hC (in_I a0) (in_I a1)
  simp only [iI_of] at e1
  refine mk_I hI e1 (rShape_ok hS _ _) k1 k2 (fun h => ?_)
  obtain ⟨T2, e2, k3, k4⟩ := u_Dm_shape hS h (in_I a0) (in_I a1)
  simp only [iI_of] at e2
  exact ⟨T2, e2, k3, k4⟩
theorem v_offset {xs : Nat → Int32} {Ln : Nat} {S : FS} {T : TS} (hI : lwI xs Ln S T) (a0 a1 a2 : Int32) : calI xs Ln k_Ds_offset k_Dm_offset [.int a0, .int a1, .int a2] T := by
  obtain ⟨hS, hC, hM, -, -⟩ := id hI
  obtain ⟨T1, e1, k1, k2⟩ := u_Ds_offset okGG hS hC (in_I a0) (in_I a1) (in_I a2)
  simp only [iI_of] at e1
  refine mk_I hI e1 (rOffs_ok hS _ _ _) k1 k2 (fun h => ?_)
  obtain ⟨T2, e2, k3, k4⟩ := u_Dm_offset hS h (in_I a0) (in_I a1) (in_I a2)
  simp only [iI_of] at e2
  exact ⟨T2, e2, k3, k4⟩
theorem v_screen {xs : Nat → Int32} {Ln : Nat} {S : FS} {T : TS} (hI : lwI xs Ln S T) (a0 a1 a2 a3 a4 : Int32) : calI xs Ln k_Ds_screen k_Dm_screen [.int a0, .int a1, .int a2, .int a3, .int a4] T := by
  obtain ⟨hS, hC, hM, -, -⟩ := id hI
  obtain ⟨T1, e1, k1, k2⟩ := u_Ds_screen hS hC (in_I a0) (in_I a1) (in_I a2) (in_I a3) (in_I a4)
  simp only [iI_of] at e1
  refine mk_I hI e1 (rScr_ok hS _ _ _ _ _) k1 k2 (fun h => ?_)
  obtain ⟨T2, e2, k3, k4⟩ := u_Dm_screen hS h (in_I a0) (in_I a1) (in_I a2) (in_I a3) (in_I a4)
  simp only [iI_of] at e2
  exact ⟨T2, e2, k3, k4⟩
theorem v_swap {xs : Nat → Int32} {Ln : Nat} {S : FS} {T : TS} (hI : lwI xs Ln S T) (a0 a1 : Int32) : calI xs Ln k_Ds_swap k_Dm_swap [.int a0, .int a1] T := by
  obtain ⟨hS, hC, hM, -, -⟩ := id hI
  obtain ⟨T1, e1, k1, k2⟩ := u_Ds_swap hS hC (in_I a0) (in_I a1)
  simp only [iI_of] at e1
  refine mk_I hI e1 (rSwap_ok hS _ _) k1 k2 (fun h => ?_)
  obtain ⟨T2, e2, k3, k4⟩ := u_Dm_swap hS h (in_I a0) (in_I a1)
  simp only [iI_of] at e2
  exact ⟨T2, e2, k3, k4⟩
theorem v_drop {xs : Nat → Int32} {Ln : Nat} {S : FS} {T : TS} (hI : lwI xs Ln S T) (a0 : Int32) : calI xs Ln k_Ds_drop k_Dm_drop [.int a0] T := by
  obtain ⟨hS, hC, hM, -, -⟩ := id hI
  obtain ⟨T1, e1, k1, k2⟩ := u_Ds_drop hS hC (in_I a0)
  simp only [iI_of] at e1
  refine mk_I hI e1 (rDrop_ok hS _) k1 k2 (fun h => ?_)
  obtain ⟨T2, e2, k3, k4⟩ := u_Dm_drop hS h (in_I a0)
  simp only [iI_of] at e2
  exact ⟨T2, e2, k3, k4⟩
theorem v_feed {xs : Nat → Int32} {Ln : Nat} {S : FS} {T : TS} (hI : lwI xs Ln S T) (a0 a1 a2 a3 a4 : Int32) : calI xs Ln k_Ds_feed k_Dm_feed [.int a0, .int a1, .int a2, .int a3, .int a4] T := by
  obtain ⟨hS, hC, hM, -, -⟩ := id hI
  obtain ⟨T1, e1, k1, k2⟩ := u_Ds_feed hS hC a0 a1 a2 a3 a4
  refine mk_I hI e1 (rFeed_ok hS a0 a1 a2 a3 a4) k1 k2 (fun h => ?_)
  obtain ⟨T2, e2, k3, k4⟩ := u_Dm_feed hS h a0 a1 a2 a3 a4
  exact ⟨T2, e2, k3, k4⟩
theorem v_end {xs : Nat → Int32} {Ln : Nat} {S : FS} {T : TS} (hI : lwI xs Ln S T) (a0 : Int32) : calI xs Ln k_Ds_end k_Dm_end [.int a0] T := by
  obtain ⟨hS, hC, hM, -, -⟩ := id hI
  obtain ⟨T1, e1, k1, k2⟩ := u_Ds_end hS hC (in_I a0)
  simp only [iI_of] at e1
  refine mk_I hI e1 (rEnd_ok hS _) k1 k2 (fun h => ?_)
  obtain ⟨T2, e2, k3, k4⟩ := u_Dm_end hS h (in_I a0)
  simp only [iI_of] at e2
  exact ⟨T2, e2, k3, k4⟩
theorem v_text {xs : Nat → Int32} {Ln : Nat} {S : FS} {T : TS} (hI : lwI xs Ln S T) : calI xs Ln k_Ds_text k_Dm_text [] T := by
  obtain ⟨hS, hC, hM, -, -⟩ := id hI
  obtain ⟨T1, e1, k1, k2⟩ := u_Ds_text hS hC 
  refine mk_I hI e1 (rText_ok hS ) k1 k2 (fun h => ?_)
  obtain ⟨T2, e2, k3, k4⟩ := u_Dm_text hS h 
  exact ⟨T2, e2, k3, k4⟩
theorem v_dots {xs : Nat → Int32} {Ln : Nat} {S : FS} {T : TS} (hI : lwI xs Ln S T) (a0 a1 : Int32) : calI xs Ln k_Ds_dots k_Dm_dots [.int a0, .int a1] T := by
  obtain ⟨hS, hC, hM, -, -⟩ := id hI
  obtain ⟨T1, e1, k1, k2⟩ := u_Ds_dots hS hC (in_I a0) (in_I a1)
  simp only [iI_of] at e1
  refine mk_I hI e1 hS k1 k2 (fun h => ?_)
  obtain ⟨T2, e2, fr2⟩ := q_Dm_dots hS.1 h.1 (in_I a0) (in_I a1)
  simp only [iI_of] at e2
  have k2 := h.ask fr2
  exact ⟨T2, e2, k2.1, k2.2⟩
theorem v_grown {xs : Nat → Int32} {Ln : Nat} {S : FS} {T : TS} (hI : lwI xs Ln S T) (a0 a1 : Int32) : calI xs Ln k_Ds_grown k_Dm_grown [.int a0, .int a1] T := by
  obtain ⟨hS, hC, hM, -, -⟩ := id hI
  obtain ⟨T1, e1, k1, k2⟩ := u_Ds_grown hS hC (in_I a0) (in_I a1)
  simp only [iI_of] at e1
  refine mk_I hI e1 hS k1 k2 (fun h => ?_)
  obtain ⟨T2, e2, fr2⟩ := q_Dm_grown hS.1 h.1 (in_I a0) (in_I a1)
  simp only [iI_of] at e2
  have k2 := h.ask fr2
  exact ⟨T2, e2, k2.1, k2.2⟩
theorem v_most {xs : Nat → Int32} {Ln : Nat} {S : FS} {T : TS} (hI : lwI xs Ln S T) (a0 : Int32) : calI xs Ln k_Ds_most k_Dm_most [.int a0] T := by
  obtain ⟨hS, hC, hM, -, -⟩ := id hI
  obtain ⟨T1, e1, k1, k2⟩ := u_Ds_most hS hC (in_I a0)
  simp only [iI_of] at e1
  refine mk_I hI e1 hS k1 k2 (fun h => ?_)
  obtain ⟨T2, e2, fr2⟩ := q_Dm_most hS.1 h.1 (in_I a0)
  simp only [iI_of] at e2
  have k2 := h.ask fr2
  exact ⟨T2, e2, k2.1, k2.2⟩
theorem v_choose {xs : Nat → Int32} {Ln : Nat} {S : FS} {T : TS} (hI : lwI xs Ln S T) (a0 a1 a2 : Int32) {m : Int} (hm : m = 0 ∨ m = 1) (a4 a5 : Int32) : calI xs Ln k_Ds_choose k_Dm_choose [.int a0, .int a1, .int a2, .int (iI m), .int a4, .int a5] T := by
  obtain ⟨hS, hC, hM, -, -⟩ := id hI
  obtain ⟨T1, e1, fr, hc⟩ := q_Ds_choose hC.2.2.2.1 (in_I a0) (in_I a1) (in_I a2) hm (in_I a4) (in_I a5)
  simp only [iI_of] at e1
  have k := hC.askZ hS fr hc
  refine mk_I hI e1 hS k.1 k.2 (fun h => ?_)
  obtain ⟨T2, e2, fr2⟩ := q_Dm_choose (T := T1) (in_I a0) (in_I a1) (in_I a2) hm (in_I a4) (in_I a5)
  simp only [iI_of] at e2
  have k2 := h.ask fr2
  exact ⟨T2, e2, k2.1, k2.2⟩
