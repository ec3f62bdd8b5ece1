/-! WORLDS: places become addresses. -/
def px_T : List Jvm.Cond := lw_tbl.filter goodWord
theorem px_inT {w : Jvm.Cond} (h : w ∈ lw_tbl) (hg : goodWord w = true) : w ∈ px_T := List.mem_filter.mpr ⟨h, hg⟩
theorem px_T_good : ∀ w ∈ px_T, (w.onTables && w.keeps) = true ∨ ∃ ty, w = .arrayClass ty := fun _ h => good_of_word (List.mem_filter.mp h).2
/-- words of nest mates are carried apart -/
def px_nest : Jvm.Cond → Bool
  | .fieldLinkNest _ _ _ _ _ _ => true
  | .methodLinkNest _ _ _ _ => true
  | _ => false
def px_TN : List Jvm.Cond := lw_tbl.filter px_nest
theorem px_inTN {w : Jvm.Cond} (h : w ∈ lw_tbl) (hg : px_nest w = true) : w ∈ px_TN := List.mem_filter.mpr ⟨h, hg⟩
def px_Nw (U : State) : Prop := (∀ w ∈ px_TN, va_Nw w U) ∧ va_AO "DotScreens$Ink" U
theorem px_Nw.warm {s U : State} (hW : s.WarmedH U.vm) (h : px_Nw s) : px_Nw U := by
  refine ⟨?_, h.2.moved hW.alike⟩
  intro w hw
  have h1 := h.1 w hw
  have h2 := (List.mem_filter.mp hw).2
  unfold px_nest at h2
  split at h2
  · exact h1.warmF hW
  · exact h1.warmM hW
  · cases h2
theorem px_Nw.same {s U : State} (hv : s.vm = U.vm) (h : px_Nw s) : px_Nw U := by
  refine ⟨?_, h.2.moved (by rw [hv]; exact Vm.Alike.refl U.vm)⟩
  intro w hw
  have h1 := h.1 w hw
  have h2 := (List.mem_filter.mp hw).2
  unfold px_nest at h2
  split at h2
  · exact va_Nw.same rfl hv h1
  · exact va_Nw.same rfl hv h1
  · cases h2
def px_v (ad : Nat → Nat) : Value → Value
  | .ref k => .ref (ad k)
  | v => v
def px_tr (ad : Nat → Nat) (dA : Nat → ClassId) : va_E → va_E
  | .inl (t, n, .inr (.inr (.inr (.inr f)))) => .inl (dA t, n, .inr (.inr (.inr (.inr (fun j => (f j).map ad)))))
  | .inl (t, n, a) => .inl (dA t, n, a)
  | .inr (ci, fs) => .inr (ci, fs.map (px_v ad))
def px_w (ad : Nat → Nat) (dA : Nat → ClassId) (g : px_G) : va_W := (List.range g.1).map (fun k => (ad k, px_tr ad dA (g.2 k)))
abbrev px_tys (dA : Nat → ClassId) : List (ClassId × FieldType) := [(dA 0, .int), (dA 1, .long), (dA 2, .boolean), (dA 3, .object "DotScreens$Ink")]
theorem px_v_cat (ad : Nat → Nat) (v : Value) : (px_v ad v).category = v.category := by cases v <;> rfl
theorem px_up_same (f : px_M) (p : Nat) (c : va_E) : px_up f p c p = c := by simp [px_up]
theorem px_up_ne (f : px_M) {p q : Nat} (c : va_E) (h : q ≠ p) : px_up f p c q = f q := by simp [px_up, h]
section
variable {ad : Nat → Nat} {dA : Nat → ClassId}
theorem px_w_at {g : px_G} {k : Nat} (h : k < g.1) : (px_w ad dA g)[k]? = some (ad k, px_tr ad dA (g.2 k)) := by
  simp [px_w, h]
theorem px_w_set {g : px_G} {k : Nat} {c : va_E} (h : k < g.1) : (px_w ad dA g).set k (ad k, px_tr ad dA c) = px_w ad dA (px_set g k c) := by
  apply List.ext_getElem?
  intro i
  rw [List.getElem?_set]
  by_cases hik : k = i
  · subst hik
    simp [px_w, px_set, px_up, h]
  · rw [if_neg hik]
    simp only [px_w, px_set, List.getElem?_map]
    cases hr : (List.range g.1)[i]? with
    | none => rfl
    | some j =>
      have hj : j = i := by
        have h2 := List.getElem?_eq_some_iff.mp hr
        obtain ⟨h3, h4⟩ := h2
        rw [List.getElem_range] at h4
        exact h4.symm
      subst hj
      simp [px_up_ne _ _ (Ne.symm hik)]
theorem px_w_new {g : px_G} {c : va_E} : px_w ad dA g ++ [(ad g.1, px_tr ad dA c)] = px_w ad dA (px_new g c) := by
  simp only [px_w, px_new, List.range_succ, List.map_append, List.map_cons, List.map_nil, px_up_same]
  congr 1
  apply List.map_congr_left
  intro k hk
  rw [px_up_ne]
  exact Nat.ne_of_lt (List.mem_range.mp hk)
def px_Ad (base : Nat) (ad : Nat → Nat) : Prop := (∀ k, k < 1000 → ad k = base + k) ∧ ∀ k, 1000 ≤ k → ad k < base
theorem px_w_some {g : px_G} {k : Nat} {q : Nat × va_E} (h : (px_w ad dA g)[k]? = some q) : k < g.1 ∧ q = (ad k, px_tr ad dA (g.2 k)) := by
  have hl : k < (px_w ad dA g).length := (List.getElem?_eq_some_iff.mp h).1
  have hk : k < g.1 := by simpa [px_w] using hl
  rw [px_w_at hk] at h
  exact ⟨hk, (Option.some.inj h).symm⟩
theorem px_D {base : Nat} (had : px_Ad base ad) {g : px_G} (hg : g.1 ≤ 1000) : va_D (fun q => base ≤ q) (px_w ad dA g) := by
  refine ⟨fun i j p q hi hj hpq => ?_, fun k q hk => ?_⟩
  · obtain ⟨h1, rfl⟩ := px_w_some hi
    obtain ⟨h2, rfl⟩ := px_w_some hj
    have e1 := had.1 i (by omega)
    have e2 := had.1 j (by omega)
    dsimp only at hpq
    omega
  · obtain ⟨h1, rfl⟩ := px_w_some hk
    have e1 := had.1 k (by omega)
    show base ≤ ad k
    omega
end
/-- beyond what is made there is nothing but rows that stay -/
def px_WF (g : px_G) : Prop := g.1 ≤ 1000 ∧ ∀ p, g.1 ≤ p → g.2 p = .inr (999, []) ∨ ∃ n f, g.2 p = .inl (9, n, .inl f)
def px_ro (c : va_E) : Bool := match c with
  | .inl (t, _, _) => t == 9
  | _ => false
theorem px_WF.set {g : px_G} {p : Nat} {c : va_E} (h : px_WF g) (hp : p < g.1) : px_WF (px_set g p c) := by
  refine ⟨h.1, fun q hq => ?_⟩
  have hq : g.1 ≤ q := hq
  have e : (px_set g p c).2 q = g.2 q := px_up_ne _ _ (by omega)
  rw [e]
  exact h.2 q hq
theorem px_WF.new {g : px_G} {c : va_E} (h : px_WF g) (hp : g.1 < 1000) : px_WF (px_new g c) := by
  refine ⟨hp, fun q hq => ?_⟩
  have hq : g.1 + 1 ≤ q := hq
  have e : (px_new g c).2 q = g.2 q := px_up_ne _ _ (by omega)
  rw [e]
  exact h.2 q (by omega)
theorem px_WF.obj {g : px_G} {p ci : Nat} {fs : List Value} (h : px_WF g) (hp : g.2 p = .inr (ci, fs)) (hc : ci ≠ 999) : p < g.1 := by
  rcases Nat.lt_or_ge p g.1 with q | q
  · exact q
  · rcases h.2 p q with e | ⟨n, f, e⟩
    · rw [e] at hp; cases hp; exact absurd rfl hc
    · rw [e] at hp; cases hp
theorem px_WF.arr {g : px_G} {p t n : Nat} {a : (Nat → Int32) ⊕ (Nat → Int64) ⊕ (Nat → UInt32) ⊕ (Nat → UInt64) ⊕ (Nat → Option Nat)} (h : px_WF g) (hp : g.2 p = .inl (t, n, a)) (hc : t ≠ 9) : p < g.1 := by
  rcases Nat.lt_or_ge p g.1 with q | q
  · exact q
  · rcases h.2 p q with e | ⟨n, f, e⟩
    · rw [e] at hp; cases hp
    · rw [e] at hp; cases hp; exact absurd rfl hc
/-- rows that stay: the machine holds them as they are told -/
def px_RO (ad : Nat → Nat) (base : Nat) (g : px_G) (U : State) : Prop := ∀ p n f, g.2 p = .inl (9, n, .inl f) → va_T .int (ad p) n (fun j => .int (f j)) (fun q => base ≤ q) U U.heap
theorem px_RO.up {ad : Nat → Nat} {base : Nat} {g g' : px_G} {U : State} (h : px_RO ad base g U) {p : Nat} {c : va_E} (e : g'.2 = px_up g.2 p c) (hc : px_ro c = false) : px_RO ad base g' U := by
  intro q n f hq
  rw [e] at hq
  by_cases hpq : q = p
  · subst hpq
    rw [px_up_same] at hq
    rw [hq] at hc
    cases hc
  · rw [px_up_ne _ _ hpq] at hq
    exact h q n f hq
/-- a method's frame: what holds of it all along -/
def px_Ctx (rw : Nat → px_R) (md : Nat) (p : Program) (s : State) (m : MethodId) (args : Array Value) (meth : Method) (c : Code) : Prop :=
  p.tables.exec = Jvm.exec ∧ c.code = (rw md).2.1 ∧ c.maxLocals = (rw md).2.2.1 ∧ s.vm.findClass (rw md).1.cls = some m.cls ∧ (∀ w ∈ px_T, w.before args s = true) ∧ meth.name = (rw md).1.name
def px_Zs (ad : Nat → Nat) (base : Nat) (U : State) : Prop := va_Z "DotScreensModel" "STEPX" "[I" (.ref (ad 1000)) (fun q => base ≤ q) U U.heap ∧ va_Z "DotScreensModel" "STEPY" "[I" (.ref (ad 1001)) (fun q => base ≤ q) U U.heap
/-- the world at a method's entry -/
def px_Wd (ad : Nat → Nat) (base : Nat) (dC : Nat → ClassId) (dI : Nat → Nat → Nat) (dA : Nat → ClassId) (s : State) : Prop :=
  px_Ad base ad ∧ va_K (dC, dI) vwCl (px_tys dA) s ∧ px_Zs ad base s ∧ px_Nw s
/-- the world now -/
def px_Inv (ad : Nat → Nat) (base : Nat) (dC : Nat → ClassId) (dI : Nat → Nat → Nat) (dA : Nat → ClassId) (ex : Bool) (s : State) (g : px_G) (H : Heap) (locs : List Loc) : Prop :=
  px_WF g ∧ px_RO ad base g s ∧ va_P (dC, dI) vwCl (px_w ad dA g) H ∧ va_S (fun q => base ≤ q) s.heap H locs ∧ base + g.1 ≤ H.size ∧ (ex = true → H.size = base + g.1)
/-- the locals -/
def px_L (ad : Nat → Nat) (ls : Array Slot) (nL : Nat) (L : List Value) : Prop := ls.size = nL ∧ L.length = nL ∧ lv_wf ls ∧ ∀ (i : Nat) (v : Value), L[i]? = some v → v ≠ .null → ls[i]? = some (.val (px_v ad v))
def px_lv (ad : Nat → Nat) (L : List Value) : List (Nat × Value) := (List.range L.length).filterMap fun i => match (L[i]? : Option Value) with
  | some Value.null => none
  | some v => some (i, px_v ad v)
  | none => none
theorem px_lv_mem {ad : Nat → Nat} {L : List Value} {i : Nat} {v : Value} (h : L[i]? = some v) (hv : v ≠ .null) : (i, px_v ad v) ∈ px_lv ad L := by
  refine List.mem_filterMap.mpr ⟨i, List.mem_range.mpr (List.getElem?_eq_some_iff.mp h).1, ?_⟩
  rw [h]
  cases v <;> first | rfl | exact absurd rfl hv
theorem px_L.has {ad : Nat → Nat} {ls : Array Slot} {nL : Nat} {L : List Value} (h : px_L ad ls nL L) : lv_has ls nL (px_lv ad L) := by
  refine ⟨h.1, h.2.2.1, fun q hq => ?_⟩
  obtain ⟨i, hi, he⟩ := List.mem_filterMap.mp hq
  cases hL : L[i]? with
  | none => rw [hL] at he; cases he
  | some v =>
    rw [hL] at he
    by_cases hv : v = .null
    · subst hv; cases he
    · have e2 : q = (i, px_v ad v) := by
        cases v <;> first | exact absurd rfl hv | exact (Option.some.inj he).symm
      rw [e2]
      exact h.2.2.2 i v hL hv
theorem px_k_len (L : List Value) (i : Nat) : (px_k L i).length = L.length := by cases i <;> simp [px_k]
theorem px_k_at (L : List Value) (i j : Nat) (v : Value) (h : (px_k L i)[j]? = some v) (hv : v ≠ .null) : L[j]? = some v ∧ ¬ (j + 1 = i ∧ v.category = 2) := by
  cases i with
  | zero => exact ⟨h, fun q => by omega⟩
  | succ k =>
    simp only [px_k, List.getElem?_modify] at h
    by_cases hkj : k = j
    · subst hkj
      cases hL : L[k]? with
      | none => rw [hL] at h; simp at h
      | some w =>
        rw [hL] at h
        simp only [if_true, Option.map_eq_map, Option.map_some, Option.some.injEq, px_kill] at h
        by_cases hw : w.category = 2
        · rw [if_pos hw] at h; exact absurd h.symm hv
        · rw [if_neg hw] at h; subst h; exact ⟨rfl, fun q => hw q.2⟩
    · cases hL : L[j]? with
      | none => rw [hL] at h; simp at h
      | some w =>
        rw [hL] at h
        simp only [if_neg hkj, Option.map_eq_map, Option.map_some, Option.some.injEq] at h
        subst h
        exact ⟨rfl, fun q => hkj (by omega)⟩
theorem px_L.st1 {ad : Nat → Nat} {ls ls' : Array Slot} {nL i : Nat} {L : List Value} {v : Value} (h : px_L ad ls nL L) (h' : lv_has ls' nL ((i, px_v ad v) :: (px_lv ad L).filter (fun q => !(q.1 == i) && !(q.1 + 1 == i && q.2.category == 2)))) : px_L ad ls' nL (px_s1 L i v) := by
  refine ⟨h'.1, by simp [px_s1, px_k_len, h.2.1], h'.2.1, fun j w hj hw => ?_⟩
  rw [px_s1, List.getElem?_set] at hj
  by_cases hij : i = j
  · subst hij
    simp only [if_true] at hj
    split at hj
    · cases hj
      exact h'.2.2 (i, px_v ad v) List.mem_cons_self
    · cases hj
  · rw [if_neg hij] at hj
    obtain ⟨h1, h2⟩ := px_k_at _ _ _ _ hj hw
    refine h'.2.2 (j, px_v ad w) (List.mem_cons_of_mem _ (List.mem_filter.mpr ⟨px_lv_mem h1 hw, ?_⟩))
    have h3 : ¬ j = i := fun q => hij q.symm
    simp only [px_v_cat, Bool.and_eq_true, Bool.not_eq_true', beq_eq_false_iff_ne, Bool.and_eq_false_iff, ne_eq]
    refine ⟨h3, ?_⟩
    by_cases hq : j + 1 = i
    · right; intro z; exact h2 ⟨hq, z⟩
    · left; exact hq
theorem px_L.st2 {ad : Nat → Nat} {ls ls' : Array Slot} {nL i : Nat} {L : List Value} {v : Value} (h : px_L ad ls nL L) (h' : lv_has ls' nL ((i, px_v ad v) :: (px_lv ad L).filter (fun q => !(q.1 == i) && (!(q.1 == i + 1) && !(q.1 + 1 == i && q.2.category == 2))))) : px_L ad ls' nL (px_s2 L i v) := by
  refine ⟨h'.1, by simp [px_s2, px_k_len, h.2.1], h'.2.1, fun j w hj hw => ?_⟩
  rw [px_s2, List.getElem?_set] at hj
  by_cases hij1 : i + 1 = j
  · subst hij1
    simp only [if_true] at hj
    split at hj
    · cases hj; exact absurd rfl hw
    · cases hj
  · rw [if_neg hij1, List.getElem?_set] at hj
    by_cases hij : i = j
    · subst hij
      simp only [if_true] at hj
      split at hj
      · cases hj
        exact h'.2.2 (i, px_v ad v) List.mem_cons_self
      · cases hj
    · rw [if_neg hij] at hj
      obtain ⟨h1, h2⟩ := px_k_at _ _ _ _ hj hw
      refine h'.2.2 (j, px_v ad w) (List.mem_cons_of_mem _ (List.mem_filter.mpr ⟨px_lv_mem h1 hw, ?_⟩))
      have h3 : ¬ j = i := fun q => hij q.symm
      have h4 : ¬ j = i + 1 := fun q => hij1 q.symm
      simp only [px_v_cat, Bool.and_eq_true, Bool.not_eq_true', beq_eq_false_iff_ne, Bool.and_eq_false_iff, ne_eq]
      refine ⟨h3, h4, ?_⟩
      by_cases hq : j + 1 = i
      · right; intro z; exact h2 ⟨hq, z⟩
      · left; exact hq
