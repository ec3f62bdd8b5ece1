/-! the law's ink. -/
def rLk : px_R := (⟨"DotScreensLaw", "ink", "(LDotScreens;II[J)I"⟩, method_3_code, 5, some .int, 4, 0, [])
def rwL : Nat → px_R := fun _ => rLk
def hdL : List (Nat × Nat × Nat × Nat) := [(0, 10, 13, 13)]
theorem lq_w : Jvm.Cond.codeWith rLk.1 method_3_code 5 (some .int) hdL ∈ px_T := px_inT (px_ins 4 (List.mem_of_getElem? (i := 231) rfl)) rfl
theorem lq_c : Jvm.Cond.classLink "DotScreensLaw" 13 nsE ∈ px_T := px_inT (px_ins 4 (List.mem_of_getElem? (i := 232) rfl)) rfl
theorem lq_7 : Jvm.Cond.methodLink "DotScreensLaw" 7 (px_rw k_Ds_ink).1 ∈ px_T := px_inT (px_ins 4 (List.mem_of_getElem? (i := 233) rfl)) rfl
theorem lq_i : Jvm.Cond.instanceMethod (px_rw k_Ds_ink).1 ∈ px_T := px_inT (px_ins 4 (List.mem_of_getElem? (i := 234) rfl)) rfl
theorem lq_s : Jvm.Cond.selects "DotScreens" (px_rw k_Ds_ink).1 (px_rw k_Ds_ink).1 ∈ px_T := px_inT (px_ins 4 (List.mem_of_getElem? (i := 235) rfl)) rfl
theorem lq_k : Jvm.Cond.code (px_rw k_Ds_ink).1 (px_rw k_Ds_ink).2.1 (px_rw k_Ds_ink).2.2.1 (px_rw k_Ds_ink).2.2.2.1 ∈ px_T := px_inT (px_ins 4 (List.mem_of_getElem? (i := 236) rfl)) rfl
theorem lq_38 : Jvm.Cond.methodLink "DotScreensLaw" 38 rLk.1 ∈ px_T := px_inT (px_ins 4 (List.mem_of_getElem? (i := 229) rfl)) rfl
theorem lq_st : Jvm.Cond.static rLk.1 ∈ px_T := px_inT (px_ins 4 (List.mem_of_getElem? (i := 230) rfl)) rfl
theorem lq_n0 : Jvm.Cond.initialized "DotScreensLaw" ∈ px_T := px_inT (px_ins 1 (List.mem_of_getElem? (i := 0) rfl)) rfl
theorem kl_0 : decode method_3_code 0 = .ok (.aload_n 3, 1) := by decide +kernel
theorem kl_1 : decode method_3_code 1 = .ok (.iconst 0, 1) := by decide +kernel
theorem kl_2 : decode method_3_code 2 = .ok (.aload_n 0, 1) := by decide +kernel
theorem kl_3 : decode method_3_code 3 = .ok (.iload_n 1, 1) := by decide +kernel
theorem kl_4 : decode method_3_code 4 = .ok (.iload_n 2, 1) := by decide +kernel
theorem kl_5 : decode method_3_code 5 = .ok (.invokevirtual 7, 3) := by decide +kernel
theorem kl_8 : decode method_3_code 8 = .ok (.i2l, 1) := by decide +kernel
theorem kl_9 : decode method_3_code 9 = .ok (.lastore, 1) := by decide +kernel
theorem kl_10 : decode method_3_code 10 = .ok (.goto 7, 3) := by decide +kernel
theorem kl_13 : decode method_3_code 13 = .ok (.astore 4, 2) := by decide +kernel
theorem kl_15 : decode method_3_code 15 = .ok (.iconst 1, 1) := by decide +kernel
theorem kl_16 : decode method_3_code 16 = .ok (.ireturn, 1) := by decide +kernel
theorem kl_17 : decode method_3_code 17 = .ok (.iconst 0, 1) := by decide +kernel
theorem kl_18 : decode method_3_code 18 = .ok (.ireturn, 1) := by decide +kernel
def yRm : Room := { frames := 12, cells := 1, slots := 6, locals := 500 }
theorem px_ofWH {l : Launch} {y : MethodName} {ws ws' : List Jvm.Cond} {rm : Room} {Pc : Array Value → State → Prop} {Qc : Array Value → State → Outcome → State → Prop} {mc ms : Nat} {free : Addr → Prop} {cc : ByteArray} {maxL : Nat} {ret : Option FieldType} {hh : List (Nat × Nat × Nat × Nat)}
    (hy : plainName y.cls = true) (hw : ws = Jvm.Cond.codeWith y cc maxL ret hh :: ws')
    (body : ∀ p e s m args below meth c s₁, BodyLoose p l y (headSpec ws rm) cc maxL ret e s m args below meth c s₁ → c.maxLocals = maxL → Pc args s →
      W p l e (headSpec ws rm).room s m args below meth c s.heap [] 0 0 (MQ below Qc args s mc ms free) (entryFrame m args maxL)) : Met l y ws rm Pc Qc mc ms free := by
  refine MetFree.of_bodyS (code := cc) (maxLocals := maxL) (ret := ret) hy ?_ ?_
  · intro args s m h hn
    obtain ⟨m9, meth, c, hn9, h1, h2, h3, h4, -, h5, h6, -⟩ := Cond.codeWith_spec (atoms_spec (ws := ws) h _ (by rw [hw]; exact List.mem_cons_self))
    cases hn.symm.trans hn9
    exact ⟨meth, c, h1, h2, h3, h4, h5, h6⟩
  · intro p e s m args below meth c s₁ B hml hP _
    have hh0 : s₁.heap = s.heap := by rw [B.state]; rfl
    obtain ⟨t, a1, o, b1, b2, b3⟩ := body p e s m args below meth c s₁ B hml hP s₁ hh0 (Stand.of_body B)
    exact ⟨t, o, a1, b1, b2, ⟨b3.1, b3.2⟩⟩
theorem law_ent (i w : Int32) : px_ent 5 [.ref 0, .int i, .int w, .ref 72] = [.ref 0, .int i, .int w, .ref 72, .null] := rfl
theorem memG {rw : Nat → px_R} {md pc : Nat} {L st st' : List Value} {g g' : px_G} {i : Instr} {len : Nat} (h0 : px_sw i st = none) (hl : len = px_len i) (h1 : px_pure i st = none) (h2 : px_loc i L st = none) (h3 : px_br i st = none) (h : px_mem (rw md).2.2.2.2.2.2 i st g = some (st', g')) : px_ex rw md i len pc L st g = some (.inl (pc + len, L, st', g')) := by
  unfold px_ex
  rw [h0]
  simp only [if_pos hl, h1, h2, h3, h]
theorem ex_last {rw : Nat → px_R} {md pc : Nat} {L st : List Value} {T : TS} {x : Int64} : px_ex rw md .lastore 1 pc L (.long x :: .int 0 :: .ref 72 :: st) (enc T) = some (.inl (pc + 1, L, st, enc (sJ T 72 0 x))) := by
  have hp : sh 72 = (1, 1) := rfl
  have hin : px_in 0 1 := by decide
  have hm : px_mem (rw md).2.2.2.2.2.2 .lastore (.long x :: .int 0 :: .ref 72 :: st) (enc T) = some (st, enc (sJ T 72 0 x)) := by
    show (match (enc T).2 72 with | .inl (t, n, .inr (.inl f)) => if t = 1 ∧ px_in 0 n then some (st, px_set (enc T) 72 (.inl (t, n, .inr (.inl (vp_updL f (0 : Int32).toNatClampNeg x))))) else none | _ => none) = _
    rw [enc_1 T hp]
    show (if 1 = 1 ∧ px_in 0 1 then some (st, px_set (enc T) 72 (.inl (1, 1, .inr (.inl (vp_updL (T.2.1 72) (0 : Int32).toNatClampNeg x))))) else none) = _
    rw [enc_ext (T := T) (c := .inl (1, 1, .inr (.inl (vp_updL (T.2.1 72) (0 : Int32).toNatClampNeg x)))) (T' := sJ T 72 (0 : Int32).toNatClampNeg x) (sh_lt hp (by decide)) (by rw [hp]; simp [mkc, sJ_at]) (fun q hq => mkc_congr _ rfl (sJ_ne T _ x hq).symm rfl) rfl rfl, if_pos ⟨rfl, hin⟩]
    rfl
  exact memG rfl rfl rfl rfl rfl hm
theorem enc_WF (T : TS) : px_WF (enc T) := by
  refine ⟨show (73 : Nat) ≤ 1000 by decide, fun p hp => ?_⟩
  have hp : 73 ≤ p := hp
  show (if p = 1000 then _ else if p = 1001 then _ else if p = 1002 then _ else mkc T p (sh p)) = _ ∨ ∃ n f, (if p = 1000 then _ else if p = 1001 then _ else if p = 1002 then _ else mkc T p (sh p)) = Sum.inl (9, n, Sum.inl f)
  by_cases c0 : p = 1000
  · right; exact ⟨4, stX, by rw [if_pos c0]⟩
  · by_cases c1 : p = 1001
    · right; exact ⟨4, stY, by rw [if_neg c0, if_pos c1]⟩
    · by_cases c2 : p = 1002
      · right; exact ⟨T.2.2.2, T.1 1002, by rw [if_neg c0, if_neg c1, if_pos c2]⟩
      · left
        have e : sh p = (1099, 0) := by unfold sh; rw [List.getD, List.getElem?_eq_none (Nat.le_trans (by decide) hp)]; rfl
        rw [if_neg c0, if_neg c1, if_neg c2, e]
        rfl
theorem enc_rows {T : TS} {p n : Nat} {f : Nat → Int32} (h : (enc T).2 p = .inl (9, n, .inl f)) : p = 1000 ∧ n = 4 ∧ f = stX ∨ p = 1001 ∧ n = 4 ∧ f = stY ∨ p = 1002 ∧ n = T.2.2.2 ∧ f = T.1 1002 := by
  have h : (if p = 1000 then (Sum.inl (9, 4, Sum.inl stX) : va_E) else if p = 1001 then Sum.inl (9, 4, Sum.inl stY) else if p = 1002 then Sum.inl (9, T.2.2.2, Sum.inl (T.1 1002)) else mkc T p (sh p)) = Sum.inl (9, n, Sum.inl f) := h
  by_cases c0 : p = 1000
  · rw [if_pos c0] at h; cases h; exact Or.inl ⟨c0, rfl, rfl⟩
  · by_cases c1 : p = 1001
    · rw [if_neg c0, if_pos c1] at h; cases h; exact Or.inr (Or.inl ⟨c1, rfl, rfl⟩)
    · by_cases c2 : p = 1002
      · rw [if_neg c0, if_neg c1, if_pos c2] at h; cases h; exact Or.inr (Or.inr ⟨c2, rfl, rfl⟩)
      · rw [if_neg c0, if_neg c1, if_neg c2] at h
        unfold mkc at h
        split at h
        · cases h
        · split at h
          · cases h
          · split at h
            · cases h
            · split at h
              · cases h
              · cases h
theorem enc_Ext {T T' : TS} (h1 : T'.1 1002 = T.1 1002) (h2 : T'.2.2.2 = T.2.2.2) : px_Ext (enc T) (enc T') := by
  intro _
  refine ⟨enc_WF T', Nat.le_refl _, fun p n f h => ?_⟩
  rcases enc_rows h with ⟨rfl, rfl, rfl⟩ | ⟨rfl, rfl, rfl⟩ | ⟨rfl, rfl, rfl⟩
  · rfl
  · rfl
  · rw [h1, h2]; rfl

section
variable {ad : Nat → Nat} {sa base : Nat} {dC : Nat → ClassId} {dI : Nat → Nat → Nat} {dA : Nat → ClassId}
theorem key_0 {T : TS} {s : State} {H : Heap} {locs : List Loc} (V : px_Wd ad base dC dI dA s) (I : px_Inv ad base dC dI dA false s (enc T) H locs) : ∃ cellB : Cell, H[ad 0]? = some cellB ∧ cellB.vm.isStatics = false ∧ s.vm.findClass "DotScreens" = some cellB.cls := by
  have hr0 : vwCl[9]? = some (vwCl[9]'(by decide)) := List.getElem?_eq_getElem _
  have he : (px_w ad dA (enc T))[0]? = some (ad 0, .inr (9, ((List.range 13).map (fv T 0 9)).map (px_v ad))) := by rw [px_w_at (show 0 < (enc T).1 from show (0 : Nat) < 73 by decide), enc_o0]; rfl
  exact va_recv V.2.1 I.2.2.1 hr0 he
set_option maxHeartbeats 4000000 in
theorem law_ink (l : Launch) (hl : l.stackTraces = false) {T T' : TS} {i w r : Int32} (had : px_Ad base ad)
    (hc : (∃ v : Int32, cl k_Ds_ink [.ref 0, .int i, .int w] (enc T) = some (some (.int v), enc T) ∧ r = 0 ∧ T' = sJ T 72 0 v.toInt64) ∨ (noI i w T ∧ r = 1 ∧ T' = T)) :
    Met l rLk.1 (Jvm.Cond.codeWith rLk.1 method_3_code 5 (some .int) hdL :: px_T) yRm (va_Pc ([Value.ref 0, .int i, .int w, .ref 72].map (px_v ad)) (xPre ad sa base dC dI dA (enc T))) (px_Po ad base dC dI dA false (some (.int r)) (enc T')) 1 6 (fun q => base ≤ q) := by
  refine px_ofWH (cc := method_3_code) (maxL := 5) (ret := some .int) (hh := hdL) (by decide +kernel) rfl ?_
  intro p e s m args below meth c s₁ B hml hP
  obtain ⟨rfl, ⟨h1, h2, h3, h4, h5, h8, h6, h7⟩, hx⟩ := hP
  have hts0 := atoms_spec (ws := Jvm.Cond.codeWith rLk.1 method_3_code 5 (some .int) hdL :: px_T) B.pre
  have hts : ∀ y ∈ px_T, y.before (([Value.ref 0, .int i, .int w, .ref 72].map (px_v ad)).toArray) s = true := fun w hw => hts0 w (List.mem_cons_of_mem _ hw)
  have hown : s.vm.findClass "DotScreensLaw" = some m.cls := findClass_of_methodNamed B.named
  have C : px_Ctx rwL 0 p s m (([Value.ref 0, .int i, .int w, .ref 72].map (px_v ad)).toArray) meth c := ⟨B.exec, B.bytes, hml, hown, hts, (name_of_methodNamed B.named B.method).1⟩
  have V : px_Wd ad base dC dI dA s := ⟨had, h4, h5, h8⟩
  have I : px_Inv ad base dC dI dA false s (enc T) s.heap [] := ⟨h1, h2, h3, va_S.rf, h6, h7⟩
  have ho : okFr rwL 0 p l yRm s m (([Value.ref 0, .int i, .int w, .ref 72].map (px_v ad)).toArray) meth c ad base dC dI dA := ⟨C, fun q hq => absurd hq List.not_mem_nil, V, by omega, ⟨by decide, by decide⟩, fun me h => absurd h (Nat.lt_irrefl _)⟩
  have hlE := px_entL (ad := ad) (vs := [Value.ref 0, .int i, .int w, .ref 72]) (n := 5) (Nat.le_of_ble_eq_true rfl)
  have hfix : CallFix p m c method_3_code 5 s (([Value.ref 0, .int i, .int w, .ref 72].map (px_v ad)).toArray) px_T "DotScreensLaw" := ⟨B.exec, B.bytes, hml, hown, hts⟩
  rw [lg_entry_eq]
  generalize (lg_sl ([Value.ref 0, .int i, .int w, .ref 72].map (px_v ad)) ++ List.replicate (5 - (lg_sl ([Value.ref 0, .int i, .int w, .ref 72].map (px_v ad))).length) Slot.unset).toArray = ls at hlE ⊢
  rw [law_ent] at hlE
  generalize hQ : MQ below (px_Po ad base dC dI dA false (some (.int r)) (enc T')) (([Value.ref 0, .int i, .int w, .ref 72].map (px_v ad)).toArray) s 1 6 (fun q => base ≤ q) = Q
  have K : lk p l e yRm s m (([Value.ref 0, .int i, .int w, .ref 72].map (px_v ad)).toArray) below meth c ad base dC dI dA 5 false 0 0 Q 5 [.ref 0, .int i, .int w, .ref 72, .null] [.int w, .int i, .ref 0, .int 0, .ref 72] (enc T) := by
    intro H locs ls1 I1 hl1
    have hstk : ([Value.int w, .int i, .ref 0, .int 0, .ref 72].map (px_v ad)) = ([Value.int i, .int w].map (px_v ad)).reverse ++ .ref (ad 0) :: ([Value.int 0, .ref 72].map (px_v ad)) := rfl
    rcases hc with ⟨v, hv, hr, hT'⟩ | ⟨hno, hr, hT'⟩
    · obtain ⟨n1, hrun⟩ := rn_to hv
      have hM := px_snd l k_Ds_ink n1 [.ref 0, .int i, .int w] (enc T) (some (.int v)) (enc T) ad base dC dI dA false 0 hrun (Nat.le_of_ble_eq_true rfl) had rfl (fun z => absurd z (Nat.lt_irrefl _))
      have hR := va_runV (As := [Value.int i, .int w].map (px_v ad)) (rest := [Value.int 0, .ref 72].map (px_v ad)) (cells := 0) (slots := 0) (locs := locs) (H := H) (g := F0 m 5 ls1 ([Value.int w, .int i, .ref 0, .int 0, .ref 72].map (px_v ad))) (R := yRm) (e := e) (below := below) (meth := meth) (b := ad 0) (C := "DotScreens") (index := 7) (n := 2) hfix hM ⟨callB_of 2 hts (px_goodws lq_k) rfl rfl rfl (hts _ px_q94) (hts _ lq_7) ⟨by decide +kernel, by decide +kernel, by decide +kernel⟩ ⟨by decide, by decide⟩, hts _ lq_i, hts _ lq_s⟩ ⟨px_blind _ _, key_0 V I1, fun U hU hW => ⟨rfl, px_preU V I1 hU hW⟩⟩ rfl rfl hl1.1 hstk (lv_room (Nat.le_of_ble_eq_true rfl)) kl_5 ⟨Nat.zero_le _, Nat.zero_le _⟩
      refine px_go (g := enc T) (g' := enc T) hR I1 (px_Ext.rf _) (fun H1 l1 I2 => ?_)
      have K2 : lk p l e yRm s m (([Value.ref 0, .int i, .int w, .ref 72].map (px_v ad)).toArray) below meth c ad base dC dI dA 5 false 0 0 Q 8 [.ref 0, .int i, .int w, .ref 72, .null] [.int v, .int 0, .ref 72] (enc T) := by
        refine lk_next (rw := rwL) (md := 0) ho (Nat.zero_le _) (Nat.zero_le _) kl_8 rfl rfl ?_
        refine lk_next (rw := rwL) (md := 0) ho (Nat.zero_le _) (Nat.zero_le _) kl_9 ex_last rfl ?_
        refine lk_next (rw := rwL) (md := 0) ho (Nat.zero_le _) (Nat.zero_le _) kl_10 rfl rfl ?_
        refine lk_next (rw := rwL) (md := 0) ho (Nat.zero_le _) (Nat.zero_le _) kl_17 rfl rfl ?_
        rw [← hT']
        intro H3 l3 ls3 I3 _
        refine W.widen (Nat.zero_le 1) (Nat.zero_le 6) ?_
        rw [← hQ, hr]
        exact px_ret_W (rw := rwL) (md := 0) (i := .ireturn) (st := [.int 0]) C B.returns B.notSynchronized (by omega) kl_18 rfl I3
      exact K2 H1 l1 ls1 I2 hl1
    · have hR := vx_runV (As := [Value.int i, .int w].map (px_v ad)) (rest := [Value.int 0, .ref 72].map (px_v ad)) (cells := 0) (slots := 0) (locs := locs) (H := H) (g := F0 m 5 ls1 ([Value.int w, .int i, .ref 0, .int 0, .ref 72].map (px_v ad))) (R := yRm) (e := e) (below := below) (meth := meth) (b := ad 0) (C := "DotScreens") (index := 7) (n := 2) hfix (ink_X l hl hno (sa := sa) had) ⟨callB_of 2 hts (px_goodws lq_k) rfl rfl rfl (hts _ px_q94) (hts _ lq_7) ⟨by decide +kernel, by decide +kernel, by decide +kernel⟩ ⟨by decide, by decide⟩, hts _ lq_i, hts _ lq_s⟩ ⟨xPre_blind _ _, key_0 V I1, fun U hU hW => ⟨rfl, px_preU V I1 hU hW, hx.up I1.2.2.2.1 hU hW⟩⟩ rfl rfl hl1.1 hstk (lv_room (Nat.le_of_ble_eq_true rfl)) kl_5 ⟨by decide, by decide⟩
      refine vx_calli hR I1.2.2.2.1 (fun q _ z => z) (fun q z => z) (fun q _ z => z) ?_ ?_
      · intro E ce q9 u t H1 locs1 ht hal _ hb hle hk hS1 hcell hv hcl
        obtain ⟨rfl, hP1, hsz1⟩ := hb
        rw [ht] at hP1 hsz1
        have hI2 : px_Inv ad base dC dI dA false s (enc T) H1 locs1 := ⟨I1.1, I1.2.1, hP1, hS1, hsz1, fun z => by cases z⟩
        refine vx_catch (own := "DotScreensLaw") (name := nsE) hown [] ⟨0, 10, 13, 13⟩ [] (vx_table (x := rLk.1) B (hts0 _ List.mem_cons_self)) (fun z hz => absurd hz List.not_mem_nil) (by decide) (by decide) (hts _ lq_c) (va_Nw.use rfl hx.2.2.2.1) hcell hv hcl ?_
        refine lv_astore (cc := method_3_code) (i := 4) (nL := 5) (lv := px_lv ad [.ref 0, .int i, .int w, .ref 72, .null]) B.exec B.bytes kl_13 hl1.has (by decide) rfl ?_
        intro ls' h'
        have hl2 : px_L ad ls' 5 [.null, .null, .null, .null, .null] := by
          refine ⟨h'.1, rfl, h'.2.1, fun j v hj hv => ?_⟩
          match j with
          | 0 => cases hj; exact absurd rfl hv
          | 1 => cases hj; exact absurd rfl hv
          | 2 => cases hj; exact absurd rfl hv
          | 3 => cases hj; exact absurd rfl hv
          | 4 => cases hj; exact absurd rfl hv
          | n + 5 => cases hj
        have K3 : lk p l e yRm s m (([Value.ref 0, .int i, .int w, .ref 72].map (px_v ad)).toArray) below meth c ad base dC dI dA 5 false 1 6 Q 15 [.null, .null, .null, .null, .null] [] (enc T) := by
          refine lk_next (rw := rwL) (md := 0) ho (by decide) (by decide) kl_15 rfl rfl ?_
          intro H3 l3 ls3 I3 _
          rw [← hQ, hr, hT']
          exact px_ret_W (rw := rwL) (md := 0) (i := .ireturn) (st := [.int 1]) C B.returns B.notSynchronized (by omega) kl_16 rfl I3
        exact K3 H1 locs1 ls' hI2 hl2
      · intro r0 u t H1 locs1 _ _ hf
        exact hf.elim
  have K0 : lk p l e yRm s m (([Value.ref 0, .int i, .int w, .ref 72].map (px_v ad)).toArray) below meth c ad base dC dI dA 5 false 0 0 Q 0 [.ref 0, .int i, .int w, .ref 72, .null] [] (enc T) := by
    refine lk_next (rw := rwL) (md := 0) ho (Nat.zero_le _) (Nat.zero_le _) kl_0 rfl rfl ?_
    refine lk_next (rw := rwL) (md := 0) ho (Nat.zero_le _) (Nat.zero_le _) kl_1 rfl rfl ?_
    refine lk_next (rw := rwL) (md := 0) ho (Nat.zero_le _) (Nat.zero_le _) kl_2 rfl rfl ?_
    refine lk_next (rw := rwL) (md := 0) ho (Nat.zero_le _) (Nat.zero_le _) kl_3 rfl rfl ?_
    exact lk_next (rw := rwL) (md := 0) ho (Nat.zero_le _) (Nat.zero_le _) kl_4 rfl rfl K
  exact K0 s.heap [] ls I hlE
end
