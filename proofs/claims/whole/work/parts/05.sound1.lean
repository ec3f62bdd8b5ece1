/-! THE PURE MACHINE IS SOUND: instructions without the heap. -/
section
variable {p : Program} {l : Launch} {e : Env} {R : Room} {s : State} {m : MethodId} {args : Array Value} {below : List Frame} {meth : Method} {c : Code} {H : Heap} {locs : List Loc} {cells slots : Nat} {Q : State → Prop} {cc : ByteArray} {pc : Nat} {ls : Array Slot} {ad : Nat → Nat}
set_option maxHeartbeats 4000000 in
theorem px_pure_W (hx : p.tables.exec = Jvm.exec) (hb : c.code = cc) {i : Instr} {st st' : List Value} (hdg : decode cc pc = .ok (i, px_len i)) (h : px_pure i st = some st')
    (k : W p l e R s m args below meth c H locs cells slots Q (F0 m (pc + px_len i) ls (st'.map (px_v ad)))) : W p l e R s m args below meth c H locs cells slots Q (F0 m pc ls (st.map (px_v ad))) := by
  unfold px_pure at h
  split at h
  · cases h; exact lv_iconst hx hb hdg rfl k
  · cases h; exact lv_bipush hx hb hdg rfl k
  · cases h; exact lv_sipush hx hb hdg rfl k
  · cases h; exact lv_lconst hx hb hdg rfl k
  · cases h; exact lv_iadd hx hb hdg k
  · cases h; exact lv_isub hx hb hdg k
  · cases h; exact lv_imul hx hb hdg k
  · cases h; exact lv_iand hx hb hdg k
  · cases h; exact lv_ior hx hb hdg k
  · split at h
    · cases h
    · cases h; exact lv_idiv hx hb hdg (by assumption) k
  · split at h
    · cases h
    · cases h; exact lv_irem hx hb hdg (by assumption) k
  · cases h; exact lv_ineg hx hb hdg k
  · cases h; exact lv_ishl hx hb hdg k
  · cases h; exact lv_ishr hx hb hdg k
  · cases h; exact lv_iushr hx hb hdg rfl k
  · cases h; exact lv_ladd hx hb hdg k
  · cases h; exact lv_lsub hx hb hdg k
  · cases h; exact lv_lmul hx hb hdg k
  · cases h; exact lv_lxor hx hb hdg k
  · split at h
    · cases h
    · cases h; exact lv_ldiv hx hb hdg (by assumption) k
  · split at h
    · cases h
    · cases h; exact lv_lrem hx hb hdg (by assumption) k
  · cases h; exact lv_lneg hx hb hdg k
  · cases h; exact lv_lshr hx hb hdg rfl k
  · cases h; exact W.lcmp hx hb hdg k
  · cases h; exact lv_i2l hx hb hdg rfl k
  · cases h; exact lv_l2i hx hb hdg rfl k
  · split at h
    · rename_i hc; cases h; exact lv_dup hx hb hdg (by rw [px_v_cat]; exact hc) k
    · cases h
  · split at h
    · rename_i hc; cases h; exact lv_pop hx hb hdg (by rw [px_v_cat]; exact hc) k
    · cases h
  · split at h
    · rename_i hc; cases h; exact lv_dup2_11 hx hb hdg (by rw [px_v_cat]; exact hc.1) (by rw [px_v_cat]; exact hc.2) k
    · cases h
  · cases h
theorem px_L.at {nL i : Nat} {L : List Value} {v : Value} (h : px_L ad ls nL L) (hi : L[i]? = some v) (hv : v ≠ .null) : ls[i]? = some (.val (px_v ad v)) := h.2.2.2 i v hi hv
set_option maxHeartbeats 4000000 in
theorem px_loc_W (hx : p.tables.exec = Jvm.exec) (hb : c.code = cc) {nL : Nat} {i : Instr} {L L' st st' : List Value} (hdg : decode cc pc = .ok (i, px_len i)) (h : px_loc i L st = some (L', st')) (hl : px_L ad ls nL L)
    (k : ∀ ls' : Array Slot, px_L ad ls' nL L' → W p l e R s m args below meth c H locs cells slots Q (F0 m (pc + px_len i) ls' (st'.map (px_v ad)))) : W p l e R s m args below meth c H locs cells slots Q (F0 m pc ls (st.map (px_v ad))) := by
  unfold px_loc at h
  split at h
  · unfold px_ild at h; split at h
    · rename_i hL; cases h; exact lv_iload hx hb hdg (hl.at hL (by simp)) (k ls hl)
    · cases h
  · unfold px_ild at h; split at h
    · rename_i hL; cases h; exact lv_iload_n hx hb hdg rfl (hl.at hL (by simp)) (k ls hl)
    · cases h
  · unfold px_lld at h; split at h
    · rename_i hL; cases h; exact lv_lload hx hb hdg (hl.at hL (by simp)) (k ls hl)
    · cases h
  · unfold px_lld at h; split at h
    · rename_i hL; cases h; exact lv_lload_n hx hb hdg rfl (hl.at hL (by simp)) (k ls hl)
    · cases h
  · unfold px_ald at h; split at h
    · rename_i hL; cases h; exact lv_aload hx hb hdg (hl.at hL (by simp)) (k ls hl)
    · cases h
  · unfold px_ald at h; split at h
    · rename_i hL; cases h; exact lv_aload_n hx hb hdg rfl (hl.at hL (by simp)) (k ls hl)
    · cases h
  · unfold px_ist at h; split at h
    · split at h
      · rename_i hn; cases h; exact lv_istore hx hb hdg hl.has (by rw [← hl.2.1]; exact hn) rfl (fun ls' h' => k ls' (hl.st1 h'))
      · cases h
    · cases h
  · unfold px_ist at h; split at h
    · split at h
      · rename_i hn; cases h; exact lv_istore_n hx hb hdg rfl hl.has (by rw [← hl.2.1]; exact hn) rfl (fun ls' h' => k ls' (hl.st1 h'))
      · cases h
    · cases h
  · unfold px_lst at h; split at h
    · split at h
      · rename_i hn; cases h; exact lv_lstore hx hb hdg hl.has (by rw [← hl.2.1]; exact hn) rfl (fun ls' h' => k ls' (hl.st2 h'))
      · cases h
    · cases h
  · unfold px_lst at h; split at h
    · split at h
      · rename_i hn; cases h; exact lv_lstore_n hx hb hdg rfl hl.has (by rw [← hl.2.1]; exact hn) rfl (fun ls' h' => k ls' (hl.st2 h'))
      · cases h
    · cases h
  · unfold px_ast at h; split at h
    · split at h
      · rename_i hn; cases h; exact lv_astore hx hb hdg hl.has (by rw [← hl.2.1]; exact hn) rfl (fun ls' h' => k ls' (hl.st1 h'))
      · cases h
    · cases h
  · unfold px_ast at h; split at h
    · split at h
      · rename_i hn; cases h; exact lv_astore_n hx hb hdg rfl hl.has (by rw [← hl.2.1]; exact hn) rfl (fun ls' h' => k ls' (hl.st1 h'))
      · cases h
    · cases h
  · rename_i i0 n0 L0 st0
    unfold px_inc at h; split at h
    · rename_i x hL
      cases h
      obtain ⟨kk, hkk⟩ := List.getElem?_of_mem (px_lv_mem (ad := ad) hL (by simp))
      exact lv_iinc hx hb hdg hl.has hkk rfl (by rw [← hl.2.1]; exact (List.getElem?_eq_some_iff.mp hL).1) rfl (fun ls' h' => k ls' (hl.st1 h'))
    · cases h
  · cases h
theorem px_tgt {pc : Nat} {off : Int} (h : 0 ≤ (pc : Int) + off) : (pc : Int) + off = ((((pc : Int) + off).toNat : Nat) : Int) := (Int.toNat_of_nonneg h).symm
set_option maxHeartbeats 4000000 in
theorem px_br_W (hx : p.tables.exec = Jvm.exec) (hb : c.code = cc) {i : Instr} {tk : Bool} {off : Int} {st st' : List Value} (hdg : decode cc pc = .ok (i, px_len i)) (h : px_br i st = some (tk, off, st'))
    (h0 : 0 ≤ (pc : Int) + off)
    (k : W p l e R s m args below meth c H locs cells slots Q (F0 m (if tk = true then ((pc : Int) + off).toNat else pc + px_len i) ls (st'.map (px_v ad)))) : W p l e R s m args below meth c H locs cells slots Q (F0 m pc ls (st.map (px_v ad))) := by
  have ht := px_tgt h0
  unfold px_br at h
  split at h
  · cases h
    exact lv_goto hx hb hdg ht k
  · rename_i cd off1 x st0
    cases h
    cases cd <;> simp only [px_c, decide_eq_true_eq] at k
    · exact lv_if_eq hx hb hdg ht (fun q => by rw [if_pos q] at k; exact k) (fun q => by rw [if_neg q] at k; exact k)
    · exact lv_if_ne hx hb hdg ht (fun q => by rw [if_pos q] at k; exact k) (fun q => by rw [if_neg (fun z => z q)] at k; exact k)
    · exact lv_if_lt hx hb hdg ht (fun q => by rw [if_pos q] at k; exact k) (fun q => by rw [if_neg q] at k; exact k)
    · exact lv_if_ge hx hb hdg ht (fun q => by rw [if_pos q] at k; exact k) (fun q => by rw [if_neg q] at k; exact k)
    · exact lv_if_gt hx hb hdg ht (fun q => by rw [if_pos q] at k; exact k) (fun q => by rw [if_neg q] at k; exact k)
    · exact lv_if_le hx hb hdg ht (fun q => by rw [if_pos q] at k; exact k) (fun q => by rw [if_neg q] at k; exact k)
  · rename_i cd off1 y x st0
    cases h
    cases cd <;> simp only [px_c, decide_eq_true_eq] at k
    · exact lv_icmp_eq hx hb hdg ht (fun q => by rw [if_pos q] at k; exact k) (fun q => by rw [if_neg q] at k; exact k)
    · exact lv_icmp_ne hx hb hdg ht (fun q => by rw [if_pos q] at k; exact k) (fun q => by rw [if_neg (fun z => z q)] at k; exact k)
    · exact lv_icmp_lt hx hb hdg ht (fun q => by rw [if_pos q] at k; exact k) (fun q => by rw [if_neg q] at k; exact k)
    · exact lv_icmp_ge hx hb hdg ht (fun q => by rw [if_pos q] at k; exact k) (fun q => by rw [if_neg q] at k; exact k)
    · exact lv_icmp_gt hx hb hdg ht (fun q => by rw [if_pos q] at k; exact k) (fun q => by rw [if_neg q] at k; exact k)
    · exact lv_icmp_le hx hb hdg ht (fun q => by rw [if_pos q] at k; exact k) (fun q => by rw [if_neg q] at k; exact k)
  · cases h
theorem px_sw_W (hx : p.tables.exec = Jvm.exec) (hb : c.code = cc) {i : Instr} {len : Nat} {off : Int} {st st' : List Value} (hdg : decode cc pc = .ok (i, len)) (h : px_sw i st = some (off, st'))
    (h0 : 0 ≤ (pc : Int) + off)
    (k : W p l e R s m args below meth c H locs cells slots Q (F0 m ((pc : Int) + off).toNat ls (st'.map (px_v ad)))) : W p l e R s m args below meth c H locs cells slots Q (F0 m pc ls (st.map (px_v ad))) := by
  have ht := px_tgt h0
  unfold px_sw at h
  split at h
  · split at h
    · rename_i hc; cases h; exact lv_tableOut hx hb hdg hc ht k
    · rename_i dflt lo hi offs x st0 hc
      cases ho : offs[(x.toInt - lo).toNat]? with
      | none => rw [ho] at h; cases h
      | some o =>
        rw [ho] at h; cases h
        exact lv_tableIn hx hb hdg (fun q => hc (Or.inl q)) (fun q => hc (Or.inr q)) ho ht k
  · split at h
    · rename_i hc; cases h; exact lv_lookup hx hb hdg hc rfl ht k
    · cases h
  · cases h
end
