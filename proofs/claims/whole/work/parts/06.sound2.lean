/-! THE PURE MACHINE IS SOUND: fields, arrays, constants, what is made. -/
/-- a class, as the tables have it -/
def px_CO (ci : Nat) (r : vw_C) : Prop := vwCl[ci]? = some r ∧ (∀ k, k < r.2.2 → parseFieldDescriptor (r.2.1 k).2.2.1 = some (px_ty ci k)) ∧ (∀ a, a < r.2.2 → ∀ b, b < r.2.2 → a ≠ b → (r.2.1 a).2.1 ≠ (r.2.1 b).2.1) ∧ (∀ w ∈ u_ws r.1 r.2.1 r.2.2, w ∈ px_T) ∧ r.2.2 ≤ 1000 ∧ ci ≠ 999
/-- a method that is called by another, of n arguments -/
def px_MO (rw : Nat → px_R) (me : px_R) (md n : Nat) : Prop := Jvm.Cond.code (rw md).1 (rw md).2.1 (rw md).2.2.1 (rw md).2.2.2.1 ∈ px_T ∧ Jvm.Cond.initialized (rw md).1.cls ∈ px_T ∧ ((rw md).1.cls ≠ "java/lang/invoke/MethodHandle" ∧ (rw md).1.cls ≠ "java/lang/invoke/VarHandle" ∧ (parseMethodDescriptor (rw md).1.desc).map (fun d => d.parameters.length) = some n) ∧ (rw md).2.2.1 ≤ 60 ∧ (rw md).2.2.2.2.2.1 < me.2.2.2.2.2.1
/-- what a link says -/
def px_LK (rw : Nat → px_R) (me : px_R) (q : Nat × px_K) : Prop := match q with
  | (i, 0, ci, k, _) => ∃ r : vw_C, px_CO ci r ∧ k < r.2.2 ∧ Jvm.Cond.fieldLink me.1.cls i (r.2.1 k).1 (r.2.1 k).2.1 (r.2.1 k).2.2.1 ∈ px_T ∧ (r.2.1 k).2.2.2 = false
  | (i, 1, ci, k, _) => ∃ r : vw_C, px_CO ci r ∧ k < r.2.2 ∧ Jvm.Cond.fieldLinkNest me.1.cls i (r.2.1 k).1 (r.2.1 k).2.1 (r.2.1 k).2.2.1 "DotScreens" ∈ px_TN ∧ (r.2.1 k).2.2.2 = false
  | (i, 2, ci, k, _) => ∃ r : vw_C, px_CO ci r ∧ k < r.2.2 ∧ Jvm.Cond.fieldLink me.1.cls i (r.2.1 k).1 (r.2.1 k).2.1 (r.2.1 k).2.2.1 ∈ px_T ∧ (r.2.1 k).2.2.2 = true ∧ (r.2.1 k).1 = me.1.cls ∧ me.1.name = "<init>"
  | (i, 3, ci, k, _) => ∃ r : vw_C, px_CO ci r ∧ k < r.2.2 ∧ Jvm.Cond.fieldLink me.1.cls i (r.2.1 k).1 (r.2.1 k).2.1 (r.2.1 k).2.2.1 ∈ px_T
  | (i, 4, ci, k, _) => ∃ r : vw_C, px_CO ci r ∧ k < r.2.2 ∧ Jvm.Cond.fieldLinkNest me.1.cls i (r.2.1 k).1 (r.2.1 k).2.1 (r.2.1 k).2.2.1 "DotScreens" ∈ px_TN
  | (i, 5, md, ci, _) => ∃ (r : vw_C) (n : Nat), px_MO rw me md n ∧ (rw md).2.2.2.2.1 = n + 1 ∧ vwCl[ci]? = some r ∧ r.1 = (rw md).1.cls ∧ Jvm.Cond.methodLink me.1.cls i (rw md).1 ∈ px_T ∧ Jvm.Cond.instanceMethod (rw md).1 ∈ px_T ∧ Jvm.Cond.selects (rw md).1.cls (rw md).1 (rw md).1 ∈ px_T
  | (i, 6, md, ci, _) => ∃ (r : vw_C) (n : Nat), px_MO rw me md n ∧ (rw md).2.2.2.2.1 = n + 1 ∧ vwCl[ci]? = some r ∧ r.1 = (rw md).1.cls ∧ Jvm.Cond.methodLinkNest me.1.cls i (rw md).1 "DotScreens" ∈ px_TN ∧ Jvm.Cond.instanceMethod (rw md).1 ∈ px_T ∧ Jvm.Cond.selects (rw md).1.cls (rw md).1 (rw md).1 ∈ px_T
  | (i, 7, md, _, _) => px_MO rw me md (rw md).2.2.2.2.1 ∧ Jvm.Cond.methodLink me.1.cls i (rw md).1 ∈ px_T ∧ Jvm.Cond.static (rw md).1 ∈ px_T
  | (i, 8, md, _, _) => px_MO rw me md (rw md).2.2.2.2.1 ∧ Jvm.Cond.methodLinkNest me.1.cls i (rw md).1 "DotScreens" ∈ px_TN ∧ Jvm.Cond.static (rw md).1 ∈ px_T
  | (i, 9, md, _, _) => ∃ n : Nat, px_MO rw me md n ∧ (rw md).2.2.2.2.1 = n + 1 ∧ (rw md).2.2.2.1 = none ∧ Jvm.Cond.methodLink me.1.cls i (rw md).1 ∈ px_T ∧ (rw md).1.name = "<init>" ∧ Jvm.Cond.instanceMethod (rw md).1 ∈ px_T
  | (i, 10, md, _, _) => ∃ n : Nat, px_MO rw me md n ∧ (rw md).2.2.2.2.1 = n + 1 ∧ (rw md).2.2.2.1 = none ∧ Jvm.Cond.methodLinkNest me.1.cls i (rw md).1 "DotScreens" ∈ px_TN ∧ (rw md).1.name = "<init>" ∧ Jvm.Cond.instanceMethod (rw md).1 ∈ px_T
  | (i, 11, _, _, _) => Jvm.Cond.methodLink me.1.cls i Lib.objectInit ∈ px_T ∧ Jvm.Cond.instanceMethod Lib.objectInit ∈ px_T ∧ Jvm.Cond.code Lib.objectInit ⟨#[0xb1]⟩ 1 none ∈ px_T
  | (i, 12, ci, _, _) => ∃ r : vw_C, px_CO ci r ∧ Jvm.Cond.classLink me.1.cls i r.1 ∈ px_T ∧ Jvm.Cond.instantiable r.1 r.2.2 ∈ px_T ∧ Jvm.Cond.initialized r.1 ∈ px_T
  | (i, 13, _, _, _) => Jvm.Cond.classLink me.1.cls i "DotScreens$Ink" ∈ px_T
  | (i, 14, _, _, z) => Jvm.Cond.constant me.1.cls i (Int32.ofInt z) ∈ px_T
  | (i, 15, _, _, z) => Jvm.Cond.constantLong me.1.cls i (Int64.ofInt z) ∈ px_T
  | (i, 16, a, _, _) => (a = 0 ∧ Jvm.Cond.fieldLink me.1.cls i "DotScreensModel" "STEPX" "[I" ∈ px_T) ∨ (a = 1 ∧ Jvm.Cond.fieldLink me.1.cls i "DotScreensModel" "STEPY" "[I" ∈ px_T)
  | _ => False
theorem px_lk_mem {ks : List (Nat × px_K)} {i : Nat} {q : px_K} (h : px_lk ks i = q) (hq : q.1 ≠ 99) : (i, q) ∈ ks := by
  unfold px_lk at h
  cases hf : ks.find? (fun q => q.1 == i) with
  | none => rw [hf] at h; subst h; exact absurd rfl hq
  | some z =>
    rw [hf] at h
    dsimp only at h
    subst h
    have h1 := List.find?_some hf
    have h2 := List.mem_of_find?_eq_some hf
    have e : z.1 = i := by simpa using h1
    rw [← e]
    exact h2
theorem px_vin {i : Int32} {n : Nat} (h : px_in i n) : vp_in i n := vp_in_iff.mpr h
section
variable {p : Program} {l : Launch} {e : Env} {R : Room} {s : State} {m : MethodId} {args : Array Value} {below : List Frame} {meth : Method} {c : Code} {H : Heap} {locs : List Loc} {cells slots : Nat} {Q : State → Prop} {pc : Nat} {ls : Array Slot} {ad : Nat → Nat} {base : Nat} {dC : Nat → ClassId} {dI : Nat → Nat → Nat} {dA : Nat → ClassId} {ex : Bool} {rw : Nat → px_R} {md : Nat}
/-- a cell of the world is written -/
theorem px_Inv.put {g : px_G} {q : Nat} {cl : va_E} (I : px_Inv ad base dC dI dA ex s g H locs) (hq : q < g.1) (hro : px_ro cl = false) {H1 : Heap} {locs1 : List Loc} (hz : H1.size = H.size)
    (hP : va_P (dC, dI) vwCl ((px_w ad dA g).set q (ad q, px_tr ad dA cl)) H1) (hS : va_S (fun q => base ≤ q) s.heap H1 locs1) : px_Inv ad base dC dI dA ex s (px_set g q cl) H1 locs1 := by
  obtain ⟨h1, h2, h3, h4, h5, h6⟩ := I
  refine ⟨h1.set hq, h2.up rfl hro, ?_, hS, ?_, ?_⟩
  · rw [px_w_set hq] at hP; exact hP
  · rw [hz]; exact h5
  · intro hh; rw [hz]; exact h6 hh
theorem px_mem_n {ks : List (Nat × px_K)} {i : Instr} {st st' : List Value} {g g' : px_G} (h : px_mem ks i st g = some (st', g')) : g'.1 = g.1 := by
  unfold px_mem at h
  split at h
  · split at h; split at h
    · cases hv : px_gf (g.2 _) _ _ with
      | none => rw [hv] at h; cases h
      | some v => rw [hv] at h; cases h; rfl
    · cases h
  · split at h; split at h
    · cases hv : px_pf (g.2 _) _ _ _ with
      | none => rw [hv] at h; cases h
      | some v => rw [hv] at h; cases h; rfl
    · cases h
  all_goals (repeat' split at h) <;> first | (cases h; rfl) | (cases h; done) | skip
  · rename_i f _ _
    cases hv : f _ with
    | none => rw [hv] at h; cases h
    | some v => rw [hv] at h; cases h; rfl
set_option maxHeartbeats 4000000 in
theorem px_getf_W (C : px_Ctx rw md p s m args meth c) (hLk : ∀ q ∈ (rw md).2.2.2.2.2.2, px_LK rw (rw md) q) (V : px_Wd ad base dC dI dA s) {i q kd ci k : Nat} {z : Int} {v : Value} {st : List Value} {g : px_G}
    (hdg : decode (rw md).2.1 pc = .ok (.getfield i, 3)) (hlk : px_lk (rw md).2.2.2.2.2.2 i = (kd, ci, k, z)) (hkd : kd < 5) (hv : px_gf (g.2 q) ci k = some v) (I : px_Inv ad base dC dI dA ex s g H locs)
    (kk : W p l e R s m args below meth c H locs cells slots Q (F0 m (pc + 3) ls (px_v ad v :: st))) : W p l e R s m args below meth c H locs cells slots Q (F0 m pc ls (.ref (ad q) :: st)) := by
  obtain ⟨hx, hb, hml, hown, hts, hnm⟩ := C
  obtain ⟨had, hK, hZ, hN⟩ := V
  obtain ⟨hWF, hRO, hP, hS, hsz, hex⟩ := I
  have hm := hLk _ (px_lk_mem hlk (by show kd ≠ 99; omega))
  unfold px_gf at hv
  split at hv
  · rename_i cj fs hq
    split at hv
    · rename_i hcj
      subst hcj
      have key : ∀ r : vw_C, px_CO cj r → k < r.2.2 → (Jvm.Cond.fieldLink (rw md).1.cls i (r.2.1 k).1 (r.2.1 k).2.1 (r.2.1 k).2.2.1 ∈ px_T ∨ Jvm.Cond.fieldLinkNest (rw md).1.cls i (r.2.1 k).1 (r.2.1 k).2.1 (r.2.1 k).2.2.1 "DotScreens" ∈ px_TN) → W p l e R s m args below meth c H locs cells slots Q (F0 m pc ls (.ref (ad q) :: st)) := by
        intro r hr hk hl
        obtain ⟨r1, r2, r3, r4, r5, r6⟩ := hr
        have hqn : q < g.1 := hWF.obj hq r6
        have he : (px_w ad dA g)[q]? = some (ad q, .inr (cj, fs.map (px_v ad))) := by rw [px_w_at hqn, hq]; rfl
        have hv2 : (fs.map (px_v ad))[k]? = some (px_v ad v) := by rw [List.getElem?_map, hv]; rfl
        rcases hl with hl | hl
        · exact va_get (D := (dC, dI)) (C := r.1) (T := r.2.1) (N := r.2.2) hx hb hts r4 hown hK hP q he r1 k hk (hts _ hl) (fun _ h => h) hv2 hdg kk
        · exact va_getN (D := (dC, dI)) (C := r.1) (T := r.2.1) (N := r.2.2) hx hb hts r4 hown hK hP q he r1 k hk (va_Nw.use rfl (hN.1 _ hl)) (fun _ h => h) hv2 hdg kk
      have h5 : kd = 0 ∨ kd = 1 ∨ kd = 2 ∨ kd = 3 ∨ kd = 4 := by omega
      rcases h5 with rfl | rfl | rfl | rfl | rfl
      · obtain ⟨r, h1, h2, h3, -⟩ := hm; exact key r h1 h2 (Or.inl h3)
      · obtain ⟨r, h1, h2, h3, -⟩ := hm; exact key r h1 h2 (Or.inr h3)
      · obtain ⟨r, h1, h2, h3, -⟩ := hm; exact key r h1 h2 (Or.inl h3)
      · obtain ⟨r, h1, h2, h3⟩ := hm; exact key r h1 h2 (Or.inl h3)
      · obtain ⟨r, h1, h2, h3⟩ := hm; exact key r h1 h2 (Or.inr h3)
    · cases hv
  · cases hv
theorem px_fit_v {ty : FieldType} {v : Value} (h : px_fit ty v = true) (ad : Nat → Nat) : narrow ty (px_v ad v) = px_v ad v ∧ fits ty (px_v ad v) = true := by
  simp only [px_fit, Bool.and_eq_true, decide_eq_true_eq] at h
  cases v with
  | ref a =>
    obtain ⟨h1, h2⟩ := h
    cases ty <;> first | exact ⟨rfl, rfl⟩ | (exfalso; revert h2; simp [fits]) | (exact ⟨h1, h2⟩)
  | _ => exact h
end
