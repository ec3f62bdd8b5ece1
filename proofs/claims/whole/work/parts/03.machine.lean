/-! THE PURE MACHINE: what a method does, over places in place of addresses. -/
abbrev px_M : Type := Nat → va_E
abbrev px_G : Type := Nat × px_M
def px_up (f : px_M) (p : Nat) (c : va_E) : px_M := fun q => if q = p then c else f q
def px_set (g : px_G) (p : Nat) (c : va_E) : px_G := (g.1, px_up g.2 p c)
def px_new (g : px_G) (c : va_E) : px_G := (g.1 + 1, px_up g.2 g.1 c)
/-- how long an instruction is -/
def px_len : Instr → Nat
  | .bipush _ => 2
  | .iload _ => 2
  | .lload _ => 2
  | .aload _ => 2
  | .istore _ => 2
  | .lstore _ => 2
  | .astore _ => 2
  | .ldc _ => 2
  | .newarray _ => 2
  | .sipush _ => 3
  | .iinc _ _ => 3
  | .ldc_w _ => 3
  | .ldc2_w _ => 3
  | .getfield _ => 3
  | .putfield _ => 3
  | .getstatic _ => 3
  | .invokevirtual _ => 3
  | .invokestatic _ => 3
  | .invokespecial _ => 3
  | .new _ => 3
  | .anewarray _ => 3
  | .goto _ => 3
  | .if_icmp _ _ => 3
  | .ifCond _ _ => 3
  | _ => 1
/-- instructions that touch the operand stack alone -/
def px_pure : Instr → List Value → Option (List Value)
  | .iconst n, st => some (.int (Int32.ofInt n) :: st)
  | .bipush n, st => some (.int (Int8.ofInt n).toInt32 :: st)
  | .sipush n, st => some (.int (Int16.ofInt n).toInt32 :: st)
  | .lconst n, st => some (.long (Int64.ofNat (n : Nat)) :: st)
  | .iadd, .int y :: .int x :: st => some (.int (x + y) :: st)
  | .isub, .int y :: .int x :: st => some (.int (x - y) :: st)
  | .imul, .int y :: .int x :: st => some (.int (x * y) :: st)
  | .iand, .int y :: .int x :: st => some (.int (x &&& y) :: st)
  | .ior, .int y :: .int x :: st => some (.int (x ||| y) :: st)
  | .idiv, .int y :: .int x :: st => if y = 0 then none else some (.int (x / y) :: st)
  | .irem, .int y :: .int x :: st => if y = 0 then none else some (.int (x - x / y * y) :: st)
  | .ineg, .int x :: st => some (.int (-x) :: st)
  | .ishl, .int y :: .int x :: st => some (.int (x <<< (y &&& 31)) :: st)
  | .ishr, .int y :: .int x :: st => some (.int (x >>> (y &&& 31)) :: st)
  | .iushr, .int y :: .int x :: st => some (.int (x.toUInt32 >>> (y.toUInt32 &&& Int32.toUInt32 31)).toInt32 :: st)
  | .ladd, .long y :: .long x :: st => some (.long (x + y) :: st)
  | .lsub, .long y :: .long x :: st => some (.long (x - y) :: st)
  | .lmul, .long y :: .long x :: st => some (.long (x * y) :: st)
  | .lxor, .long y :: .long x :: st => some (.long (x ^^^ y) :: st)
  | .ldiv, .long y :: .long x :: st => if y = 0 then none else some (.long (x / y) :: st)
  | .lrem, .long y :: .long x :: st => if y = 0 then none else some (.long (x - x / y * y) :: st)
  | .lneg, .long x :: st => some (.long (-x) :: st)
  | .lshr, .int y :: .long x :: st => some (.long (x >>> (y.toInt64 &&& 63)) :: st)
  | .lcmp, .long y :: .long x :: st => some (.int (lg_cmp x y) :: st)
  | .i2l, .int x :: st => some (.long x.toInt64 :: st)
  | .l2i, .long x :: st => some (.int x.toInt32 :: st)
  | .dup, v :: st => if v.category = 1 then some (v :: v :: st) else none
  | .pop, v :: st => if v.category = 1 then some st else none
  | .dup2, v :: w :: st => if v.category = 1 ∧ w.category = 1 then some (v :: w :: v :: w :: st) else none
  | _, _ => none
def px_c (c : Jvm.ClassFile.Cond) (x y : Int32) : Bool := match c with
  | .eq => decide (x = y)
  | .ne => decide (¬ x = y)
  | .lt => decide (x < y)
  | .ge => decide (y ≤ x)
  | .gt => decide (y < x)
  | .le => decide (x ≤ y)
/-- branches: whether it is taken, and where to -/
def px_br : Instr → List Value → Option (Bool × Int × List Value)
  | .goto off, st => some (true, off, st)
  | .ifCond c off, .int x :: st => some (px_c c x 0, off, st)
  | .if_icmp c off, .int y :: .int x :: st => some (px_c c x y, off, st)
  | _, _ => none
def px_sw : Instr → List Value → Option (Int × List Value)
  | .tableswitch dflt lo hi offs, .int x :: st => if x.toInt < lo ∨ hi < x.toInt then some (dflt, st) else (offs[(x.toInt - lo).toNat]?).map (fun off => (off, st))
  | .lookupswitch dflt ps, .int x :: st => if (ps.toList.zip (ps.toList.drop 1)).all (fun (a, next) => a.1 < next.1) = true then some (Op.lookupswitch.offset ps.toList dflt x.toInt, st) else none
  | _, _ => none
def px_kill (v : Value) : Value := if v.category = 2 then .null else v
def px_k (L : List Value) : Nat → List Value
  | 0 => L
  | j + 1 => L.modify j px_kill
def px_s1 (L : List Value) (i : Nat) (v : Value) : List Value := (px_k L i).set i v
def px_s2 (L : List Value) (i : Nat) (v : Value) : List Value := ((px_k L i).set i v).set (i + 1) .null
def px_ild (L : List Value) (i : Nat) (st : List Value) : Option (List Value × List Value) := match L[i]? with
  | some (.int x) => some (L, .int x :: st)
  | _ => none
def px_lld (L : List Value) (i : Nat) (st : List Value) : Option (List Value × List Value) := match L[i]? with
  | some (.long x) => some (L, .long x :: st)
  | _ => none
def px_ald (L : List Value) (i : Nat) (st : List Value) : Option (List Value × List Value) := match L[i]? with
  | some (.ref x) => some (L, .ref x :: st)
  | _ => none
def px_ist (L : List Value) (i : Nat) (st : List Value) : Option (List Value × List Value) := match st with
  | .int x :: st => if i < L.length then some (px_s1 L i (.int x), st) else none
  | _ => none
def px_ast (L : List Value) (i : Nat) (st : List Value) : Option (List Value × List Value) := match st with
  | .ref x :: st => if i < L.length then some (px_s1 L i (.ref x), st) else none
  | _ => none
def px_lst (L : List Value) (i : Nat) (st : List Value) : Option (List Value × List Value) := match st with
  | .long x :: st => if i + 1 < L.length then some (px_s2 L i (.long x), st) else none
  | _ => none
def px_inc (L : List Value) (i : Nat) (n : Int) (st : List Value) : Option (List Value × List Value) := match L[i]? with
  | some (.int x) => some (px_s1 L i (.int (x + Int32.ofInt n)), st)
  | _ => none
/-- locals -/
def px_loc : Instr → List Value → List Value → Option (List Value × List Value)
  | .iload i, L, st => px_ild L i st
  | .iload_n k, L, st => px_ild L k.val st
  | .lload i, L, st => px_lld L i st
  | .lload_n k, L, st => px_lld L k.val st
  | .aload i, L, st => px_ald L i st
  | .aload_n k, L, st => px_ald L k.val st
  | .istore i, L, st => px_ist L i st
  | .istore_n k, L, st => px_ist L k.val st
  | .lstore i, L, st => px_lst L i st
  | .lstore_n k, L, st => px_lst L k.val st
  | .astore i, L, st => px_ast L i st
  | .astore_n k, L, st => px_ast L k.val st
  | .iinc i n, L, st => px_inc L i n st
  | _, _, _ => none
/-- a link: its kind, two numbers, a constant. 0, 1 a field (own, of a nest mate), 2 a final one in a constructor, 3, 4 a final one that is read (own, of a nest mate); 5, 6 a method called by its object, 7, 8 a static one, 9, 10 a constructor; 11 Object's; 12 a class to make, or an array of it; 14, 15 a constant; 16 a static row -/
abbrev px_K : Type := Nat × Nat × Nat × Int
def px_lk (ks : List (Nat × px_K)) (i : Nat) : px_K := match ks.find? (fun q => q.1 == i) with
  | some q => q.2
  | none => (99, 0, 0, 0)
def px_gf (c : va_E) (ci k : Nat) : Option Value := match c with
  | .inr (cj, fs) => if cj = ci then fs[k]? else none
  | .inl _ => none
def px_pf (c : va_E) (ci k : Nat) (v : Value) : Option va_E := match c with
  | .inr (cj, fs) => if cj = ci ∧ k < fs.length then some (.inr (cj, fs.set k v)) else none
  | .inl _ => none
def px_ty : Nat → Nat → FieldType
  | 0 => tyX0
  | 1 => tyX1
  | 2 => tyX2
  | 3 => tyX3
  | 4 => tyX4
  | 5 => tyX5
  | 6 => tyX6
  | 7 => tyX7
  | 8 => tyX8
  | 9 => tyX9
  | _ => tyX10
def px_fit (ty : FieldType) (v : Value) : Bool := decide (narrow ty v = v) && fits ty v
abbrev px_in (i : Int32) (n : Nat) : Prop := 0 ≤ i.toInt ∧ i.toInt < (n : Int)
/-- fields, arrays, constants -/
def px_mem (ks : List (Nat × px_K)) : Instr → List Value → px_G → Option (List Value × px_G)
  | .getfield i, .ref p :: st, g => match px_lk ks i with
    | (kd, ci, k, _) => if kd < 5 then (px_gf (g.2 p) ci k).map (fun v => (v :: st, g)) else none
  | .putfield i, v :: .ref p :: st, g => match px_lk ks i with
    | (kd, ci, k, _) => if kd < 3 ∧ px_fit (px_ty ci k) v = true then (px_pf (g.2 p) ci k v).map (fun c => (st, px_set g p c)) else none
  | .getstatic i, st, g => match px_lk ks i with
    | (kd, a, _, _) => if kd = 16 then some (.ref (1000 + a) :: st, g) else none
  | .ldc i, st, g => match px_lk ks i with
    | (kd, _, _, z) => if kd = 14 then some (.int (Int32.ofInt z) :: st, g) else none
  | .ldc_w i, st, g => match px_lk ks i with
    | (kd, _, _, z) => if kd = 14 then some (.int (Int32.ofInt z) :: st, g) else none
  | .ldc2_w i, st, g => match px_lk ks i with
    | (kd, _, _, z) => if kd = 15 then some (.long (Int64.ofInt z) :: st, g) else none
  | .iaload, .int i :: .ref p :: st, g => match g.2 p with
    | .inl (t, n, .inl f) => if (t = 0 ∨ t = 9) ∧ px_in i n then some (.int (f i.toNatClampNeg) :: st, g) else none
    | _ => none
  | .baload, .int i :: .ref p :: st, g => match g.2 p with
    | .inl (t, n, .inl f) => if t = 2 ∧ px_in i n then some (.int (f i.toNatClampNeg) :: st, g) else none
    | _ => none
  | .laload, .int i :: .ref p :: st, g => match g.2 p with
    | .inl (t, n, .inr (.inl f)) => if t = 1 ∧ px_in i n then some (.long (f i.toNatClampNeg) :: st, g) else none
    | _ => none
  | .aaload, .int i :: .ref p :: st, g => match g.2 p with
    | .inl (t, n, .inr (.inr (.inr (.inr f)))) => if t = 3 ∧ px_in i n then (f i.toNatClampNeg).map (fun q => (.ref q :: st, g)) else none
    | _ => none
  | .arraylength, .ref p :: st, g => match g.2 p with
    | .inl (t, n, .inl _) => if t = 0 ∨ t = 2 ∨ t = 9 then some (.int (Int32.ofNat n) :: st, g) else none
    | .inl (t, n, .inr (.inl _)) => if t = 1 then some (.int (Int32.ofNat n) :: st, g) else none
    | .inl (t, n, .inr (.inr (.inr (.inr _)))) => if t = 3 then some (.int (Int32.ofNat n) :: st, g) else none
    | _ => none
  | .iastore, .int x :: .int i :: .ref p :: st, g => match g.2 p with
    | .inl (t, n, .inl f) => if t = 0 ∧ px_in i n then some (st, px_set g p (.inl (t, n, .inl (upd f i.toNatClampNeg x)))) else none
    | _ => none
  | .bastore, .int x :: .int i :: .ref p :: st, g => match g.2 p with
    | .inl (t, n, .inl f) => if t = 2 ∧ px_in i n then some (st, px_set g p (.inl (t, n, .inl (upd f i.toNatClampNeg (vp_nar .boolean x))))) else none
    | _ => none
  | .lastore, .long x :: .int i :: .ref p :: st, g => match g.2 p with
    | .inl (t, n, .inr (.inl f)) => if t = 1 ∧ px_in i n then some (st, px_set g p (.inl (t, n, .inr (.inl (vp_updL f i.toNatClampNeg x))))) else none
    | _ => none
  | .aastore, .ref q :: .int i :: .ref p :: st, g => match g.2 p, g.2 q with
    | .inl (t, n, .inr (.inr (.inr (.inr f)))), .inr (cj, _) => if t = 3 ∧ cj = 4 ∧ px_in i n then some (st, px_set g p (.inl (t, n, .inr (.inr (.inr (.inr (va_up f i.toNatClampNeg (some q)))))))) else none
    | _, _ => none
  | _, _, _ => none
def px_df (ty : FieldType) : Value := defaultValue ty
def px_N (ci : Nat) : Nat := match vwCl[ci]? with
  | some r => r.2.2
  | none => 0
/-- what is made -/
def px_mk (ks : List (Nat × px_K)) : Instr → List Value → px_G → Option (List Value × px_G)
  | .new i, st, g => match px_lk ks i with
    | (kd, ci, _, _) => if kd = 12 ∧ g.1 < 1000 then some (.ref g.1 :: st, px_new g (.inr (ci, (List.range (px_N ci)).map (fun k => defaultValue (px_ty ci k))))) else none
  | .newarray .int, .int n :: st, g => if ¬ n < 0 ∧ n.toNatClampNeg ≤ 1000 ∧ g.1 < 1000 then some (.ref g.1 :: st, px_new g (.inl (0, n.toNatClampNeg, .inl (fun _ => 0)))) else none
  | .newarray .long, .int n :: st, g => if ¬ n < 0 ∧ n.toNatClampNeg ≤ 1000 ∧ g.1 < 1000 then some (.ref g.1 :: st, px_new g (.inl (1, n.toNatClampNeg, .inr (.inl (fun _ => 0))))) else none
  | .newarray .boolean, .int n :: st, g => if ¬ n < 0 ∧ n.toNatClampNeg ≤ 1000 ∧ g.1 < 1000 then some (.ref g.1 :: st, px_new g (.inl (2, n.toNatClampNeg, .inl (fun _ => 0)))) else none
  | .anewarray i, .int n :: st, g => match px_lk ks i with
    | (kd, ci, _, _) => if (kd = 12 ∧ ci = 4) ∧ ¬ n < 0 ∧ n.toNatClampNeg ≤ 1000 ∧ g.1 < 1000 then some (.ref g.1 :: st, px_new g (.inl (3, n.toNatClampNeg, .inr (.inr (.inr (.inr (fun _ => none))))))) else none
  | _, _, _ => none
/-- a method: its name, code, locals, answer, how many values it takes (its object too), its level, its links -/
abbrev px_R : Type := MethodName × ByteArray × Nat × Option FieldType × Nat × Nat × List (Nat × px_K)
def px_rr (ret : Option FieldType) : Instr → List Value → Option (Option Value)
  | .return_, [] => if ret = none then some none else none
  | .ireturn, [.int v] => match ret with
    | some ty => if (ty = .int ∨ ty = .boolean) ∧ narrow ty (.int v) = .int v then some (some (.int v)) else none
    | none => none
  | .lreturn, [.long v] => if ret = some .long then some (some (.long v)) else none
  | _, _ => none
def px_cs (st : List Value) : Nat := (st.map fun v => v.category).sum
/-- a call: the method's number, its arguments, what stays on the stack; or Object's constructor -/
def px_cl (rw : Nat → px_R) (ks : List (Nat × px_K)) : Instr → List Value → px_G → Option (Nat × List Value × List Value)
  | .invokevirtual i, st, g => match px_lk ks i with
    | (kd, md, ci, _) => if (kd = 5 ∨ kd = 6) ∧ (rw md).2.2.2.2.1 ≤ st.length ∧ px_cs (st.drop (rw md).2.2.2.2.1) ≤ 8 then
        match (st.take (rw md).2.2.2.2.1).reverse with
        | .ref p :: As => match g.2 p with
          | .inr (cj, _) => if cj = ci then some (md, .ref p :: As, st.drop (rw md).2.2.2.2.1) else none
          | .inl _ => none
        | _ => none
      else none
  | .invokestatic i, st, g => match px_lk ks i with
    | (kd, md, _, _) => if (kd = 7 ∨ kd = 8) ∧ (rw md).2.2.2.2.1 ≤ st.length ∧ px_cs (st.drop (rw md).2.2.2.2.1) ≤ 8 then some (md, (st.take (rw md).2.2.2.2.1).reverse, st.drop (rw md).2.2.2.2.1) else none
  | .invokespecial i, st, g => match px_lk ks i with
    | (kd, md, _, _) => if (kd = 9 ∨ kd = 10) ∧ (rw md).2.2.2.2.1 ≤ st.length ∧ px_cs (st.drop (rw md).2.2.2.2.1) ≤ 8 then
        match (st.take (rw md).2.2.2.2.1).reverse with
        | .ref p :: As => some (md, .ref p :: As, st.drop (rw md).2.2.2.2.1)
        | _ => none
      else none
  | _, _, _ => none
def px_oi (ks : List (Nat × px_K)) : Instr → List Value → Option (List Value)
  | .invokespecial i, .ref _ :: st => match px_lk ks i with
    | (kd, _, _, _) => if kd = 11 ∧ px_cs st ≤ 8 then some st else none
  | _, _ => none
abbrev px_S : Type := Nat × List Value × List Value × px_G
/-- what an instruction does: go on, answer, or call -/
abbrev px_O : Type := px_S ⊕ (Option Value ⊕ (Nat × List Value × List Value))
def px_ex (rw : Nat → px_R) (md : Nat) (i : Instr) (len pc : Nat) (L st : List Value) (g : px_G) : Option px_O :=
  match px_sw i st with
  | some (off, st') => if 0 ≤ (pc : Int) + off then some (.inl (((pc : Int) + off).toNat, L, st', g)) else none
  | none => if len = px_len i then
    match px_pure i st with
    | some st' => some (.inl (pc + len, L, st', g))
    | none => match px_loc i L st with
    | some (L', st') => some (.inl (pc + len, L', st', g))
    | none => match px_br i st with
    | some (tk, off, st') => if 0 ≤ (pc : Int) + off then some (.inl (if tk = true then ((pc : Int) + off).toNat else pc + len, L, st', g)) else none
    | none => match px_mem (rw md).2.2.2.2.2.2 i st g with
    | some (st', g') => some (.inl (pc + len, L, st', g'))
    | none => match px_mk (rw md).2.2.2.2.2.2 i st g with
    | some (st', g') => some (.inl (pc + len, L, st', g'))
    | none => match px_oi (rw md).2.2.2.2.2.2 i st with
    | some st' => some (.inl (pc + len, L, st', g))
    | none => match px_rr (rw md).2.2.2.1 i st with
    | some r => some (.inr (.inl r))
    | none => match px_cl rw (rw md).2.2.2.2.2.2 i st g with
    | some q => some (.inr (.inr q))
    | none => none
  else none
def px_one (rw : Nat → px_R) (md pc : Nat) (L st : List Value) (g : px_G) : Option px_O :=
  match decode (rw md).2.1 pc with
  | .ok (i, len) => px_ex rw md i len pc L st g
  | .error _ => none
def px_e0 (args : List Value) : List Value := args.flatMap fun v => if v.category = 2 then [v, .null] else [v]
def px_ent (nL : Nat) (args : List Value) : List Value := px_e0 args ++ List.replicate (nL - (px_e0 args).length) .null
def px_run (rw : Nat → px_R) : Nat → Nat → Nat → List Value → List Value → px_G → Option (Option Value × px_G)
  | 0, _, _, _, _, _ => none
  | n + 1, md, pc, L, st, g => match px_one rw md pc L st g with
    | none => none
    | some (.inl (pc', L', st', g')) => px_run rw n md pc' L' st' g'
    | some (.inr (.inl r)) => some (r, g)
    | some (.inr (.inr (me, args, rest))) =>
      if (px_e0 args).length ≤ (rw me).2.2.1 then
        match px_run rw n me 0 (px_ent (rw me).2.2.1 args) [] g with
        | none => none
        | some (r, g') => px_run rw n md (pc + 3) L (r.toList ++ rest) g'
      else none
