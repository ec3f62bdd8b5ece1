/-! THE PURE MACHINE IS SOUND: calls, answers, whole methods. -/
/-- what a run does to the memory at large -/
def px_Ext (g g' : px_G) : Prop := px_WF g → px_WF g' ∧ g.1 ≤ g'.1 ∧ ∀ p n f, g'.2 p = .inl (9, n, .inl f) → g.2 p = .inl (9, n, .inl f)
theorem px_Ext.rf (g : px_G) : px_Ext g g := fun h => ⟨h, Nat.le_refl _, fun _ _ _ h => h⟩
theorem px_Ext.tr {g g' g'' : px_G} (h1 : px_Ext g g') (h2 : px_Ext g' g'') : px_Ext g g'' := fun h => by
  obtain ⟨a1, a2, a3⟩ := h1 h
  obtain ⟨b1, b2, b3⟩ := h2 a1
  exact ⟨b1, Nat.le_trans a2 b2, fun p n f q => a3 p n f (b3 p n f q)⟩
theorem px_Ext.set {g : px_G} {p : Nat} {c : va_E} (hp : px_WF g → p < g.1) (hc : px_ro c = false) : px_Ext g (px_set g p c) := fun h => by
  refine ⟨h.set (hp h), Nat.le_refl _, fun q n f hq => ?_⟩
  by_cases e : q = p
  · subst e
    rw [show (px_set g q c).2 q = c from px_up_same _ _ _] at hq
    rw [hq] at hc; cases hc
  · rw [show (px_set g p c).2 q = g.2 q from px_up_ne _ _ e] at hq
    exact hq
theorem px_Ext.new {g : px_G} {c : va_E} (hn : g.1 < 1000) (hc : px_ro c = false) : px_Ext g (px_new g c) := fun h => by
  refine ⟨h.new hn, Nat.le_succ _, fun q n f hq => ?_⟩
  by_cases e : q = g.1
  · subst e
    rw [show (px_new g c).2 g.1 = c from px_up_same _ _ _] at hq
    rw [hq] at hc; cases hc
  · rw [show (px_new g c).2 q = g.2 q from px_up_ne _ _ e] at hq
    exact hq
theorem px_pf_lt {g : px_G} {p ci k : Nat} {v : Value} {c : va_E} (h : px_pf (g.2 p) ci k v = some c) : px_ro c = false ∧ (px_WF g → p < g.1) := by
  unfold px_pf at h
  split at h
  · rename_i cj fs hq
    split at h
    · rename_i hc
      cases h
      refine ⟨rfl, fun hw => ?_⟩
      rcases Nat.lt_or_ge p g.1 with q | q
      · exact q
      · rcases hw.2 p q with e | ⟨n, f, e⟩
        · rw [e] at hq; cases hq; exact absurd hc.2 (Nat.not_lt_zero _)
        · rw [e] at hq; cases hq
    · cases h
  · cases h
theorem px_mem_ext {ks : List (Nat × px_K)} {i : Instr} {st st' : List Value} {g g' : px_G} (h : px_mem ks i st g = some (st', g')) : px_Ext g g' := by
  unfold px_mem at h
  split at h
  · split at h; split at h
    · cases hv : px_gf (g.2 _) _ _ with
      | none => rw [hv] at h; cases h
      | some v => rw [hv] at h; cases h; exact px_Ext.rf _
    · cases h
  · split at h; split at h
    · cases hv : px_pf (g.2 _) _ _ _ with
      | none => rw [hv] at h; cases h
      | some cl =>
        rw [hv] at h; cases h
        exact px_Ext.set (px_pf_lt hv).2 (px_pf_lt hv).1
    · cases h
  · split at h; split at h
    · cases h; exact px_Ext.rf _
    · cases h
  · split at h; split at h
    · cases h; exact px_Ext.rf _
    · cases h
  · split at h; split at h
    · cases h; exact px_Ext.rf _
    · cases h
  · split at h; split at h
    · cases h; exact px_Ext.rf _
    · cases h
  · split at h
    · split at h
      · cases h; exact px_Ext.rf _
      · cases h
    · cases h
  · split at h
    · split at h
      · cases h; exact px_Ext.rf _
      · cases h
    · cases h
  · split at h
    · split at h
      · cases h; exact px_Ext.rf _
      · cases h
    · cases h
  · split at h
    · rename_i f _
      split at h
      · cases hv : f _ with
        | none => rw [hv] at h; cases h
        | some v => rw [hv] at h; cases h; exact px_Ext.rf _
      · cases h
    · cases h
  · split at h
    · split at h
      · cases h; exact px_Ext.rf _
      · cases h
    · split at h
      · cases h; exact px_Ext.rf _
      · cases h
    · split at h
      · cases h; exact px_Ext.rf _
      · cases h
    · cases h
  · split at h
    · rename_i hq
      split at h
      · rename_i hc; cases h
        obtain ⟨rfl, -⟩ := hc
        exact px_Ext.set (fun hw => hw.arr hq (by decide)) rfl
      · cases h
    · cases h
  · split at h
    · rename_i hq
      split at h
      · rename_i hc; cases h
        obtain ⟨rfl, -⟩ := hc
        exact px_Ext.set (fun hw => hw.arr hq (by decide)) rfl
      · cases h
    · cases h
  · split at h
    · rename_i hq
      split at h
      · rename_i hc; cases h
        obtain ⟨rfl, -⟩ := hc
        exact px_Ext.set (fun hw => hw.arr hq (by decide)) rfl
      · cases h
    · cases h
  · split at h
    · rename_i hq hv
      split at h
      · rename_i hc; cases h
        obtain ⟨rfl, -⟩ := hc
        exact px_Ext.set (fun hw => hw.arr hq (by decide)) rfl
      · cases h
    · cases h
  · cases h
theorem px_mk_ext {ks : List (Nat × px_K)} {i : Instr} {st st' : List Value} {g g' : px_G} (h : px_mk ks i st g = some (st', g')) : px_Ext g g' := by
  unfold px_mk at h
  split at h
  · split at h; split at h
    · rename_i hc; cases h; exact px_Ext.new hc.2 rfl
    · cases h
  · split at h
    · rename_i hc; cases h; exact px_Ext.new hc.2.2 rfl
    · cases h
  · split at h
    · rename_i hc; cases h; exact px_Ext.new hc.2.2 rfl
    · cases h
  · split at h
    · rename_i hc; cases h; exact px_Ext.new hc.2.2 rfl
    · cases h
  · split at h; split at h
    · rename_i hc; cases h; exact px_Ext.new hc.2.2.2 rfl
    · cases h
  · cases h
theorem px_one_ext {rw : Nat → px_R} {md pc pc' : Nat} {L st L' st' : List Value} {g g' : px_G} (h : px_one rw md pc L st g = some (.inl (pc', L', st', g'))) : px_Ext g g' := by
  unfold px_one at h
  split at h
  · unfold px_ex at h
    split at h
    · split at h
      · cases h; exact px_Ext.rf _
      · cases h
    · split at h
      · split at h
        · cases h; exact px_Ext.rf _
        · split at h
          · cases h; exact px_Ext.rf _
          · split at h
            · split at h
              · cases h; exact px_Ext.rf _
              · cases h
            · split at h
              · rename_i hm; cases h; exact px_mem_ext hm
              · split at h
                · rename_i hm; cases h; exact px_mk_ext hm
                · split at h
                  · cases h; exact px_Ext.rf _
                  · split at h
                    · cases h
                    · split at h
                      · cases h
                      · cases h
      · cases h
  · cases h
theorem px_run_ext {rw : Nat → px_R} : ∀ (n md pc : Nat) (L st : List Value) (g g' : px_G) (r : Option Value), px_run rw n md pc L st g = some (r, g') → px_Ext g g' := by
  intro n
  induction n with
  | zero => intro md pc L st g g' r h; cases h
  | succ n ih =>
    intro md pc L st g g' r h
    unfold px_run at h
    split at h
    · cases h
    · rename_i h1
      exact (px_one_ext h1).tr (ih _ _ _ _ _ _ _ h)
    · cases h; exact px_Ext.rf _
    · split at h
      · split at h
        · cases h
        · rename_i h1
          exact (ih _ _ _ _ _ _ _ h1).tr (ih _ _ _ _ _ _ _ h)
      · cases h
/-! the locals at a method's entry -/
theorem px_e0_cons (v : Value) (vs : List Value) : px_e0 (v :: vs) = (if v.category = 2 then [v, .null] else [v]) ++ px_e0 vs := by simp [px_e0]
theorem px_e0_len (ad : Nat → Nat) (vs : List Value) : (lg_sl (vs.map (px_v ad))).length = (px_e0 vs).length := by
  induction vs with
  | nil => rfl
  | cons v vs ih =>
    have e1 : lg_sl ((v :: vs).map (px_v ad)) = (if (px_v ad v).category = 2 then [.val (px_v ad v), .second] else [.val (px_v ad v)]) ++ lg_sl (vs.map (px_v ad)) := by simp [lg_sl]
    rw [e1, px_e0_cons, px_v_cat, List.length_append, List.length_append, ih]
    split <;> rfl
theorem px_e0_args (ad : Nat → Nat) : ∀ (vs : List Value) (j i : Nat) (v : Value), (px_e0 vs)[i]? = some v → v ≠ .null → (j + i, px_v ad v) ∈ lv_args j (vs.map (px_v ad)) := by
  intro vs
  induction vs with
  | nil => intro j i v h; simp [px_e0] at h
  | cons w vs ih =>
    intro j i v h hv
    rw [px_e0_cons] at h
    show (j + i, px_v ad v) ∈ (j, px_v ad w) :: lv_args (if (px_v ad w).category = 2 then j + 2 else j + 1) (vs.map (px_v ad))
    rw [px_v_cat]
    by_cases hw : w.category = 2
    · rw [if_pos hw] at h ⊢
      match i with
      | 0 => simp at h; subst h; exact List.mem_cons_self
      | 1 => simp at h; exact absurd h.symm hv
      | k + 2 =>
        have h2 : (px_e0 vs)[k]? = some v := by simpa using h
        have := ih (j + 2) k v h2 hv
        rw [show j + (k + 2) = j + 2 + k by omega]
        exact List.mem_cons_of_mem _ this
    · rw [if_neg hw] at h ⊢
      match i with
      | 0 => simp at h; subst h; exact List.mem_cons_self
      | k + 1 =>
        have h2 : (px_e0 vs)[k]? = some v := by simpa using h
        have := ih (j + 1) k v h2 hv
        rw [show j + (k + 1) = j + 1 + k by omega]
        exact List.mem_cons_of_mem _ this
theorem px_entL {ad : Nat → Nat} {vs : List Value} {n : Nat} (h : (px_e0 vs).length ≤ n) : px_L ad ((lg_sl (vs.map (px_v ad)) ++ List.replicate (n - (lg_sl (vs.map (px_v ad))).length) Slot.unset).toArray) n (px_ent n vs) := by
  have h1 := lv_entry (vs.map (px_v ad)) (n := n) (by rw [px_e0_len]; exact h)
  refine ⟨h1.1, ?_, h1.2.1, fun i v hi hv => ?_⟩
  · simp [px_ent]; omega
  · have h2 : (px_e0 vs)[i]? = some v := by
      unfold px_ent at hi
      rcases Nat.lt_or_ge i (px_e0 vs).length with q | q
      · rw [List.getElem?_append_left q] at hi; exact hi
      · rw [List.getElem?_append_right q, List.getElem?_replicate] at hi
        split at hi
        · cases hi; exact absurd rfl hv
        · cases hi
    have h3 := px_e0_args ad vs 0 i v h2 hv
    rw [Nat.zero_add] at h3
    exact h1.2.2 _ h3
/-! the contract of a method, out of its run -/
def px_Pre (ad : Nat → Nat) (base : Nat) (dC : Nat → ClassId) (dI : Nat → Nat → Nat) (dA : Nat → ClassId) (ex : Bool) (g : px_G) (U : State) : Prop :=
  px_WF g ∧ px_RO ad base g U ∧ va_P (dC, dI) vwCl (px_w ad dA g) U.heap ∧ va_K (dC, dI) vwCl (px_tys dA) U ∧ px_Zs ad base U ∧ px_Nw U ∧ base + g.1 ≤ U.heap.size ∧ (ex = true → U.heap.size = base + g.1)
def px_Po (ad : Nat → Nat) (base : Nat) (dC : Nat → ClassId) (dI : Nat → Nat → Nat) (dA : Nat → ClassId) (ex : Bool) (r : Option Value) (g' : px_G) : Array Value → State → Outcome → State → Prop := fun _ st oc t =>
  oc = .returned (r.map (px_v ad)) ∧ va_P (dC, dI) vwCl (px_w ad dA g') t.heap ∧ base + g'.1 ≤ t.heap.size ∧ (ex = true → t.heap.size = base + g'.1) ∧ st.heap.size ≤ t.heap.size ∧ ∀ q, q < base → t.heap[q]? = st.heap[q]?
def px_ws (w : px_R) : List Jvm.Cond := Jvm.Cond.code w.1 w.2.1 w.2.2.1 w.2.2.2.1 :: px_T
def px_rm (lv mc : Nat) : Room := { frames := lv + 1, cells := mc, slots := 1000 * mc, locals := 100 * (lv + 1) }
def px_Snd (l : Launch) (rw : Nat → px_R) (me : Nat) : Prop := ∀ (n : Nat) (args : List Value) (g : px_G) (r : Option Value) (g' : px_G) (ad : Nat → Nat) (base : Nat) (dC : Nat → ClassId) (dI : Nat → Nat → Nat) (dA : Nat → ClassId) (ex : Bool) (mc : Nat),
  px_run rw n me 0 (px_ent (rw me).2.2.1 args) [] g = some (r, g') → (px_e0 args).length ≤ (rw me).2.2.1 → px_Ad base ad → mc = g'.1 - g.1 → (g.1 < g'.1 → ex = true) →
  Met l (rw me).1 (px_ws (rw me)) (px_rm (rw me).2.2.2.2.2.1 mc) (va_Pc (args.map (px_v ad)) (px_Pre ad base dC dI dA ex g)) (px_Po ad base dC dI dA ex r g') mc (1000 * mc) (fun q => base ≤ q)
