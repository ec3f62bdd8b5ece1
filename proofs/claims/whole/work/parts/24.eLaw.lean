theorem dd_Law_law_3 : decode (px_rw k_Law_law).2.1 3 = .ok (.dup, 1) := (by decide +kernel : decode code 3 = .ok (.dup, 1))
theorem e_Law_law_3 (L : List Value) (x : Nat) (st : List Value) (g : px_G) : rn k_Law_law 3 L (.ref x :: st) g = rn k_Law_law 4 L (.ref x :: .ref x :: st) g := rn_next dd_Law_law_3 rfl
theorem dd_Law_law_7 : decode (px_rw k_Law_law).2.1 7 = .ok (.astore_n 1, 1) := (by decide +kernel : decode code 7 = .ok (.astore_n 1, 1))
theorem e_Law_law_7 (a0 a1 a2 a3 a4 a5 a6 : Value) (x : Nat) (st : List Value) (g : px_G) : rn k_Law_law 7 [a0, a1, a2, a3, a4, a5, a6] (.ref x :: st) g = rn k_Law_law 8 [px_kill a0, .ref x, a2, a3, a4, a5, a6] st g := rn_next dd_Law_law_7 rfl
theorem dd_Law_law_11 : decode (px_rw k_Law_law).2.1 11 = .ok (.dup, 1) := (by decide +kernel : decode code 11 = .ok (.dup, 1))
theorem e_Law_law_11 (L : List Value) (x : Nat) (st : List Value) (g : px_G) : rn k_Law_law 11 L (.ref x :: st) g = rn k_Law_law 12 L (.ref x :: .ref x :: st) g := rn_next dd_Law_law_11 rfl
theorem dd_Law_law_15 : decode (px_rw k_Law_law).2.1 15 = .ok (.astore_n 2, 1) := (by decide +kernel : decode code 15 = .ok (.astore_n 2, 1))
theorem e_Law_law_15 (a0 a1 a2 a3 a4 a5 a6 : Value) (x : Nat) (st : List Value) (g : px_G) : rn k_Law_law 15 [a0, a1, a2, a3, a4, a5, a6] (.ref x :: st) g = rn k_Law_law 16 [a0, px_kill a1, .ref x, a3, a4, a5, a6] st g := rn_next dd_Law_law_15 rfl
theorem dd_Law_law_16 : decode (px_rw k_Law_law).2.1 16 = .ok (.iconst 1, 1) := (by decide +kernel : decode code 16 = .ok (.iconst 1, 1))
theorem e_Law_law_16 (L st : List Value) (g : px_G) : rn k_Law_law 16 L st g = rn k_Law_law 17 L (.int 1 :: st) g := rn_ipush (i := .iconst 1) dd_Law_law_16 rfl rfl (by decide)
theorem dd_Law_law_19 : decode (px_rw k_Law_law).2.1 19 = .ok (.astore_n 3, 1) := (by decide +kernel : decode code 19 = .ok (.astore_n 3, 1))
theorem e_Law_law_19 (a0 a1 a2 a3 a4 a5 a6 : Value) (x : Nat) (st : List Value) (g : px_G) : rn k_Law_law 19 [a0, a1, a2, a3, a4, a5, a6] (.ref x :: st) g = rn k_Law_law 20 [a0, a1, px_kill a2, .ref x, a4, a5, a6] st g := rn_next dd_Law_law_19 rfl
theorem dd_Law_law_20 : decode (px_rw k_Law_law).2.1 20 = .ok (.iconst 0, 1) := (by decide +kernel : decode code 20 = .ok (.iconst 0, 1))
theorem e_Law_law_20 (L st : List Value) (g : px_G) : rn k_Law_law 20 L st g = rn k_Law_law 21 L (.int 0 :: st) g := rn_ipush (i := .iconst 0) dd_Law_law_20 rfl rfl (by decide)
theorem dd_Law_law_21 : decode (px_rw k_Law_law).2.1 21 = .ok (.istore 4, 2) := (by decide +kernel : decode code 21 = .ok (.istore 4, 2))
theorem e_Law_law_21 (a0 a1 a2 a3 a4 a5 a6 : Value) (x : Int32) (st : List Value) (g : px_G) : rn k_Law_law 21 [a0, a1, a2, a3, a4, a5, a6] (.int x :: st) g = rn k_Law_law 23 [a0, a1, a2, px_kill a3, .int x, a5, a6] st g := rn_next dd_Law_law_21 rfl
theorem dd_Law_law_23 : decode (px_rw k_Law_law).2.1 23 = .ok (.iload 4, 2) := (by decide +kernel : decode code 23 = .ok (.iload 4, 2))
theorem e_Law_law_23 (a0 a1 a2 a3 a5 a6 : Value) (x : Int32) (st : List Value) (g : px_G) : rn k_Law_law 23 [a0, a1, a2, a3, .int x, a5, a6] st g = rn k_Law_law 25 [a0, a1, a2, a3, .int x, a5, a6] (.int x :: st) g := rn_next dd_Law_law_23 rfl
theorem dd_Law_law_25 : decode (px_rw k_Law_law).2.1 25 = .ok (.aload_n 0, 1) := (by decide +kernel : decode code 25 = .ok (.aload_n 0, 1))
theorem e_Law_law_25 (a1 a2 a3 a4 a5 a6 : Value) (x : Nat) (st : List Value) (g : px_G) : rn k_Law_law 25 [.ref x, a1, a2, a3, a4, a5, a6] st g = rn k_Law_law 26 [.ref x, a1, a2, a3, a4, a5, a6] (.ref x :: st) g := rn_next dd_Law_law_25 rfl
theorem dd_Law_law_26 : decode (px_rw k_Law_law).2.1 26 = .ok (.arraylength, 1) := (by decide +kernel : decode code 26 = .ok (.arraylength, 1))
theorem e_Law_law_26 (L st : List Value) (T : TS) : rn k_Law_law 26 L (.ref 1002 :: st) (enc T) = rn k_Law_law 27 L (.int (Int32.ofNat T.2.2.2) :: st) (enc T) := rn_alenS dd_Law_law_26
theorem dd_Law_law_27 : decode (px_rw k_Law_law).2.1 27 = .ok (.bipush 7, 2) := (by decide +kernel : decode code 27 = .ok (.bipush 7, 2))
theorem e_Law_law_27 (L st : List Value) (g : px_G) : rn k_Law_law 27 L st g = rn k_Law_law 29 L (.int 7 :: st) g := rn_ipush (i := .bipush 7) dd_Law_law_27 rfl rfl (by decide)
theorem dd_Law_law_29 : decode (px_rw k_Law_law).2.1 29 = .ok (.isub, 1) := (by decide +kernel : decode code 29 = .ok (.isub, 1))
theorem e_Law_law_29 (L : List Value) (x y : Int32) (st : List Value) (g : px_G) : rn k_Law_law 29 L (.int y :: .int x :: st) g = rn k_Law_law 30 L (.int (x - y) :: st) g := rn_next dd_Law_law_29 rfl
theorem dd_Law_law_30 : decode (px_rw k_Law_law).2.1 30 = .ok (.if_icmp .gt 1737, 3) := (by decide +kernel : decode code 30 = .ok (.if_icmp .gt 1737, 3))
theorem e_Law_law_30 (L : List Value) (x y : Int32) (st : List Value) (g : px_G) : rn k_Law_law 30 L (.int y :: .int x :: st) g = if y < x then rn k_Law_law 1767 L st g else rn k_Law_law 33 L st g := rn_icgt dd_Law_law_30 (by decide)
theorem dd_Law_law_33 : decode (px_rw k_Law_law).2.1 33 = .ok (.aload_n 0, 1) := (by decide +kernel : decode code 33 = .ok (.aload_n 0, 1))
theorem e_Law_law_33 (a1 a2 a3 a4 a5 a6 : Value) (x : Nat) (st : List Value) (g : px_G) : rn k_Law_law 33 [.ref x, a1, a2, a3, a4, a5, a6] st g = rn k_Law_law 34 [.ref x, a1, a2, a3, a4, a5, a6] (.ref x :: st) g := rn_next dd_Law_law_33 rfl
theorem dd_Law_law_34 : decode (px_rw k_Law_law).2.1 34 = .ok (.iload 4, 2) := (by decide +kernel : decode code 34 = .ok (.iload 4, 2))
theorem e_Law_law_34 (a0 a1 a2 a3 a5 a6 : Value) (x : Int32) (st : List Value) (g : px_G) : rn k_Law_law 34 [a0, a1, a2, a3, .int x, a5, a6] st g = rn k_Law_law 36 [a0, a1, a2, a3, .int x, a5, a6] (.int x :: st) g := rn_next dd_Law_law_34 rfl
theorem dd_Law_law_36 : decode (px_rw k_Law_law).2.1 36 = .ok (.iaload, 1) := (by decide +kernel : decode code 36 = .ok (.iaload, 1))
theorem e_Law_law_36 (L : List Value) (i : Int32) (p : Nat) (st : List Value) (T : TS) (hp : (sh p).1 = 0) : rn k_Law_law 36 L (.int i :: .ref p :: st) (enc T) = if px_in i (sh p).2 then rn k_Law_law 37 L (.int (T.1 p i.toNatClampNeg) :: st) (enc T) else none := rn_iald dd_Law_law_36 (Prod.ext hp rfl)
theorem e_Law_law_36S (L : List Value) (i : Int32) (st : List Value) (T : TS) : rn k_Law_law 36 L (.int i :: .ref 1002 :: st) (enc T) = if px_in i T.2.2.2 then rn k_Law_law 37 L (.int (T.1 1002 i.toNatClampNeg) :: st) (enc T) else none := rn_iaS dd_Law_law_36
theorem dd_Law_law_37 : decode (px_rw k_Law_law).2.1 37 = .ok (.bipush 63, 2) := (by decide +kernel : decode code 37 = .ok (.bipush 63, 2))
theorem e_Law_law_37 (L st : List Value) (g : px_G) : rn k_Law_law 37 L st g = rn k_Law_law 39 L (.int 63 :: st) g := rn_ipush (i := .bipush 63) dd_Law_law_37 rfl rfl (by decide)
theorem dd_Law_law_39 : decode (px_rw k_Law_law).2.1 39 = .ok (.iand, 1) := (by decide +kernel : decode code 39 = .ok (.iand, 1))
theorem e_Law_law_39 (L : List Value) (x y : Int32) (st : List Value) (g : px_G) : rn k_Law_law 39 L (.int y :: .int x :: st) g = rn k_Law_law 40 L (.int (x &&& y) :: st) g := rn_next dd_Law_law_39 rfl
theorem dd_Law_law_196 : decode (px_rw k_Law_law).2.1 196 = .ok (.aload_n 1, 1) := (by decide +kernel : decode code 196 = .ok (.aload_n 1, 1))
theorem e_Law_law_196 (a0 a2 a3 a4 a5 a6 : Value) (x : Nat) (st : List Value) (g : px_G) : rn k_Law_law 196 [a0, .ref x, a2, a3, a4, a5, a6] st g = rn k_Law_law 197 [a0, .ref x, a2, a3, a4, a5, a6] (.ref x :: st) g := rn_next dd_Law_law_196 rfl
theorem dd_Law_law_197 : decode (px_rw k_Law_law).2.1 197 = .ok (.aload_n 0, 1) := (by decide +kernel : decode code 197 = .ok (.aload_n 0, 1))
theorem e_Law_law_197 (a1 a2 a3 a4 a5 a6 : Value) (x : Nat) (st : List Value) (g : px_G) : rn k_Law_law 197 [.ref x, a1, a2, a3, a4, a5, a6] st g = rn k_Law_law 198 [.ref x, a1, a2, a3, a4, a5, a6] (.ref x :: st) g := rn_next dd_Law_law_197 rfl
theorem dd_Law_law_198 : decode (px_rw k_Law_law).2.1 198 = .ok (.iload 4, 2) := (by decide +kernel : decode code 198 = .ok (.iload 4, 2))
theorem e_Law_law_198 (a0 a1 a2 a3 a5 a6 : Value) (x : Int32) (st : List Value) (g : px_G) : rn k_Law_law 198 [a0, a1, a2, a3, .int x, a5, a6] st g = rn k_Law_law 200 [a0, a1, a2, a3, .int x, a5, a6] (.int x :: st) g := rn_next dd_Law_law_198 rfl
theorem dd_Law_law_200 : decode (px_rw k_Law_law).2.1 200 = .ok (.iconst 1, 1) := (by decide +kernel : decode code 200 = .ok (.iconst 1, 1))
theorem e_Law_law_200 (L st : List Value) (g : px_G) : rn k_Law_law 200 L st g = rn k_Law_law 201 L (.int 1 :: st) g := rn_ipush (i := .iconst 1) dd_Law_law_200 rfl rfl (by decide)
theorem dd_Law_law_201 : decode (px_rw k_Law_law).2.1 201 = .ok (.iadd, 1) := (by decide +kernel : decode code 201 = .ok (.iadd, 1))
theorem e_Law_law_201 (L : List Value) (x y : Int32) (st : List Value) (g : px_G) : rn k_Law_law 201 L (.int y :: .int x :: st) g = rn k_Law_law 202 L (.int (x + y) :: st) g := rn_next dd_Law_law_201 rfl
theorem dd_Law_law_202 : decode (px_rw k_Law_law).2.1 202 = .ok (.iaload, 1) := (by decide +kernel : decode code 202 = .ok (.iaload, 1))
theorem e_Law_law_202 (L : List Value) (i : Int32) (p : Nat) (st : List Value) (T : TS) (hp : (sh p).1 = 0) : rn k_Law_law 202 L (.int i :: .ref p :: st) (enc T) = if px_in i (sh p).2 then rn k_Law_law 203 L (.int (T.1 p i.toNatClampNeg) :: st) (enc T) else none := rn_iald dd_Law_law_202 (Prod.ext hp rfl)
theorem e_Law_law_202S (L : List Value) (i : Int32) (st : List Value) (T : TS) : rn k_Law_law 202 L (.int i :: .ref 1002 :: st) (enc T) = if px_in i T.2.2.2 then rn k_Law_law 203 L (.int (T.1 1002 i.toNatClampNeg) :: st) (enc T) else none := rn_iaS dd_Law_law_202
theorem dd_Law_law_203 : decode (px_rw k_Law_law).2.1 203 = .ok (.aload_n 0, 1) := (by decide +kernel : decode code 203 = .ok (.aload_n 0, 1))
theorem e_Law_law_203 (a1 a2 a3 a4 a5 a6 : Value) (x : Nat) (st : List Value) (g : px_G) : rn k_Law_law 203 [.ref x, a1, a2, a3, a4, a5, a6] st g = rn k_Law_law 204 [.ref x, a1, a2, a3, a4, a5, a6] (.ref x :: st) g := rn_next dd_Law_law_203 rfl
theorem dd_Law_law_204 : decode (px_rw k_Law_law).2.1 204 = .ok (.iload 4, 2) := (by decide +kernel : decode code 204 = .ok (.iload 4, 2))
theorem e_Law_law_204 (a0 a1 a2 a3 a5 a6 : Value) (x : Int32) (st : List Value) (g : px_G) : rn k_Law_law 204 [a0, a1, a2, a3, .int x, a5, a6] st g = rn k_Law_law 206 [a0, a1, a2, a3, .int x, a5, a6] (.int x :: st) g := rn_next dd_Law_law_204 rfl
theorem dd_Law_law_206 : decode (px_rw k_Law_law).2.1 206 = .ok (.iconst 2, 1) := (by decide +kernel : decode code 206 = .ok (.iconst 2, 1))
theorem e_Law_law_206 (L st : List Value) (g : px_G) : rn k_Law_law 206 L st g = rn k_Law_law 207 L (.int 2 :: st) g := rn_ipush (i := .iconst 2) dd_Law_law_206 rfl rfl (by decide)
theorem dd_Law_law_207 : decode (px_rw k_Law_law).2.1 207 = .ok (.iadd, 1) := (by decide +kernel : decode code 207 = .ok (.iadd, 1))
theorem e_Law_law_207 (L : List Value) (x y : Int32) (st : List Value) (g : px_G) : rn k_Law_law 207 L (.int y :: .int x :: st) g = rn k_Law_law 208 L (.int (x + y) :: st) g := rn_next dd_Law_law_207 rfl
theorem dd_Law_law_208 : decode (px_rw k_Law_law).2.1 208 = .ok (.iaload, 1) := (by decide +kernel : decode code 208 = .ok (.iaload, 1))
theorem e_Law_law_208 (L : List Value) (i : Int32) (p : Nat) (st : List Value) (T : TS) (hp : (sh p).1 = 0) : rn k_Law_law 208 L (.int i :: .ref p :: st) (enc T) = if px_in i (sh p).2 then rn k_Law_law 209 L (.int (T.1 p i.toNatClampNeg) :: st) (enc T) else none := rn_iald dd_Law_law_208 (Prod.ext hp rfl)
theorem e_Law_law_208S (L : List Value) (i : Int32) (st : List Value) (T : TS) : rn k_Law_law 208 L (.int i :: .ref 1002 :: st) (enc T) = if px_in i T.2.2.2 then rn k_Law_law 209 L (.int (T.1 1002 i.toNatClampNeg) :: st) (enc T) else none := rn_iaS dd_Law_law_208
theorem dd_Law_law_209 : decode (px_rw k_Law_law).2.1 209 = .ok (.aload_n 0, 1) := (by decide +kernel : decode code 209 = .ok (.aload_n 0, 1))
theorem e_Law_law_209 (a1 a2 a3 a4 a5 a6 : Value) (x : Nat) (st : List Value) (g : px_G) : rn k_Law_law 209 [.ref x, a1, a2, a3, a4, a5, a6] st g = rn k_Law_law 210 [.ref x, a1, a2, a3, a4, a5, a6] (.ref x :: st) g := rn_next dd_Law_law_209 rfl
theorem dd_Law_law_210 : decode (px_rw k_Law_law).2.1 210 = .ok (.iload 4, 2) := (by decide +kernel : decode code 210 = .ok (.iload 4, 2))
theorem e_Law_law_210 (a0 a1 a2 a3 a5 a6 : Value) (x : Int32) (st : List Value) (g : px_G) : rn k_Law_law 210 [a0, a1, a2, a3, .int x, a5, a6] st g = rn k_Law_law 212 [a0, a1, a2, a3, .int x, a5, a6] (.int x :: st) g := rn_next dd_Law_law_210 rfl
theorem dd_Law_law_212 : decode (px_rw k_Law_law).2.1 212 = .ok (.iconst 3, 1) := (by decide +kernel : decode code 212 = .ok (.iconst 3, 1))
theorem e_Law_law_212 (L st : List Value) (g : px_G) : rn k_Law_law 212 L st g = rn k_Law_law 213 L (.int 3 :: st) g := rn_ipush (i := .iconst 3) dd_Law_law_212 rfl rfl (by decide)
theorem dd_Law_law_213 : decode (px_rw k_Law_law).2.1 213 = .ok (.iadd, 1) := (by decide +kernel : decode code 213 = .ok (.iadd, 1))
theorem e_Law_law_213 (L : List Value) (x y : Int32) (st : List Value) (g : px_G) : rn k_Law_law 213 L (.int y :: .int x :: st) g = rn k_Law_law 214 L (.int (x + y) :: st) g := rn_next dd_Law_law_213 rfl
theorem dd_Law_law_214 : decode (px_rw k_Law_law).2.1 214 = .ok (.iaload, 1) := (by decide +kernel : decode code 214 = .ok (.iaload, 1))
theorem e_Law_law_214 (L : List Value) (i : Int32) (p : Nat) (st : List Value) (T : TS) (hp : (sh p).1 = 0) : rn k_Law_law 214 L (.int i :: .ref p :: st) (enc T) = if px_in i (sh p).2 then rn k_Law_law 215 L (.int (T.1 p i.toNatClampNeg) :: st) (enc T) else none := rn_iald dd_Law_law_214 (Prod.ext hp rfl)
theorem e_Law_law_214S (L : List Value) (i : Int32) (st : List Value) (T : TS) : rn k_Law_law 214 L (.int i :: .ref 1002 :: st) (enc T) = if px_in i T.2.2.2 then rn k_Law_law 215 L (.int (T.1 1002 i.toNatClampNeg) :: st) (enc T) else none := rn_iaS dd_Law_law_214
theorem dd_Law_law_215 : decode (px_rw k_Law_law).2.1 215 = .ok (.aload_n 0, 1) := (by decide +kernel : decode code 215 = .ok (.aload_n 0, 1))
theorem e_Law_law_215 (a1 a2 a3 a4 a5 a6 : Value) (x : Nat) (st : List Value) (g : px_G) : rn k_Law_law 215 [.ref x, a1, a2, a3, a4, a5, a6] st g = rn k_Law_law 216 [.ref x, a1, a2, a3, a4, a5, a6] (.ref x :: st) g := rn_next dd_Law_law_215 rfl
theorem dd_Law_law_216 : decode (px_rw k_Law_law).2.1 216 = .ok (.iload 4, 2) := (by decide +kernel : decode code 216 = .ok (.iload 4, 2))
theorem e_Law_law_216 (a0 a1 a2 a3 a5 a6 : Value) (x : Int32) (st : List Value) (g : px_G) : rn k_Law_law 216 [a0, a1, a2, a3, .int x, a5, a6] st g = rn k_Law_law 218 [a0, a1, a2, a3, .int x, a5, a6] (.int x :: st) g := rn_next dd_Law_law_216 rfl
theorem dd_Law_law_218 : decode (px_rw k_Law_law).2.1 218 = .ok (.iconst 4, 1) := (by decide +kernel : decode code 218 = .ok (.iconst 4, 1))
theorem e_Law_law_218 (L st : List Value) (g : px_G) : rn k_Law_law 218 L st g = rn k_Law_law 219 L (.int 4 :: st) g := rn_ipush (i := .iconst 4) dd_Law_law_218 rfl rfl (by decide)
theorem dd_Law_law_219 : decode (px_rw k_Law_law).2.1 219 = .ok (.iadd, 1) := (by decide +kernel : decode code 219 = .ok (.iadd, 1))
theorem e_Law_law_219 (L : List Value) (x y : Int32) (st : List Value) (g : px_G) : rn k_Law_law 219 L (.int y :: .int x :: st) g = rn k_Law_law 220 L (.int (x + y) :: st) g := rn_next dd_Law_law_219 rfl
theorem dd_Law_law_220 : decode (px_rw k_Law_law).2.1 220 = .ok (.iaload, 1) := (by decide +kernel : decode code 220 = .ok (.iaload, 1))
theorem e_Law_law_220 (L : List Value) (i : Int32) (p : Nat) (st : List Value) (T : TS) (hp : (sh p).1 = 0) : rn k_Law_law 220 L (.int i :: .ref p :: st) (enc T) = if px_in i (sh p).2 then rn k_Law_law 221 L (.int (T.1 p i.toNatClampNeg) :: st) (enc T) else none := rn_iald dd_Law_law_220 (Prod.ext hp rfl)
theorem e_Law_law_220S (L : List Value) (i : Int32) (st : List Value) (T : TS) : rn k_Law_law 220 L (.int i :: .ref 1002 :: st) (enc T) = if px_in i T.2.2.2 then rn k_Law_law 221 L (.int (T.1 1002 i.toNatClampNeg) :: st) (enc T) else none := rn_iaS dd_Law_law_220
theorem dd_Law_law_221 : decode (px_rw k_Law_law).2.1 221 = .ok (.aload_n 0, 1) := (by decide +kernel : decode code 221 = .ok (.aload_n 0, 1))
theorem e_Law_law_221 (a1 a2 a3 a4 a5 a6 : Value) (x : Nat) (st : List Value) (g : px_G) : rn k_Law_law 221 [.ref x, a1, a2, a3, a4, a5, a6] st g = rn k_Law_law 222 [.ref x, a1, a2, a3, a4, a5, a6] (.ref x :: st) g := rn_next dd_Law_law_221 rfl
theorem dd_Law_law_222 : decode (px_rw k_Law_law).2.1 222 = .ok (.iload 4, 2) := (by decide +kernel : decode code 222 = .ok (.iload 4, 2))
theorem e_Law_law_222 (a0 a1 a2 a3 a5 a6 : Value) (x : Int32) (st : List Value) (g : px_G) : rn k_Law_law 222 [a0, a1, a2, a3, .int x, a5, a6] st g = rn k_Law_law 224 [a0, a1, a2, a3, .int x, a5, a6] (.int x :: st) g := rn_next dd_Law_law_222 rfl
theorem dd_Law_law_224 : decode (px_rw k_Law_law).2.1 224 = .ok (.iconst 5, 1) := (by decide +kernel : decode code 224 = .ok (.iconst 5, 1))
theorem e_Law_law_224 (L st : List Value) (g : px_G) : rn k_Law_law 224 L st g = rn k_Law_law 225 L (.int 5 :: st) g := rn_ipush (i := .iconst 5) dd_Law_law_224 rfl rfl (by decide)
theorem dd_Law_law_225 : decode (px_rw k_Law_law).2.1 225 = .ok (.iadd, 1) := (by decide +kernel : decode code 225 = .ok (.iadd, 1))
theorem e_Law_law_225 (L : List Value) (x y : Int32) (st : List Value) (g : px_G) : rn k_Law_law 225 L (.int y :: .int x :: st) g = rn k_Law_law 226 L (.int (x + y) :: st) g := rn_next dd_Law_law_225 rfl
theorem dd_Law_law_226 : decode (px_rw k_Law_law).2.1 226 = .ok (.iaload, 1) := (by decide +kernel : decode code 226 = .ok (.iaload, 1))
theorem e_Law_law_226 (L : List Value) (i : Int32) (p : Nat) (st : List Value) (T : TS) (hp : (sh p).1 = 0) : rn k_Law_law 226 L (.int i :: .ref p :: st) (enc T) = if px_in i (sh p).2 then rn k_Law_law 227 L (.int (T.1 p i.toNatClampNeg) :: st) (enc T) else none := rn_iald dd_Law_law_226 (Prod.ext hp rfl)
theorem e_Law_law_226S (L : List Value) (i : Int32) (st : List Value) (T : TS) : rn k_Law_law 226 L (.int i :: .ref 1002 :: st) (enc T) = if px_in i T.2.2.2 then rn k_Law_law 227 L (.int (T.1 1002 i.toNatClampNeg) :: st) (enc T) else none := rn_iaS dd_Law_law_226
theorem dd_Law_law_227 : decode (px_rw k_Law_law).2.1 227 = .ok (.invokevirtual 19, 3) := (by decide +kernel : decode code 227 = .ok (.invokevirtual 19, 3))
theorem e_Law_law_227 (L : List Value) (i0 : Int32) (i1 : Int32) (i2 : Int32) (i3 : Int32) (i4 : Int32)  (T : TS)  : rn k_Law_law 227 L [.int i4, .int i3, .int i2, .int i1, .int i0, .ref 0] (enc T) = bd (cl k_Ds_feed [.ref 0, .int i0, .int i1, .int i2, .int i3, .int i4] (enc T)) (fun r g' => rn k_Law_law 230 L (r.toList ++ []) g') := rn_callV (n := 13) (As := [.int i0, .int i1, .int i2, .int i3, .int i4]) (rest := []) dd_Law_law_227 rfl (by decide) (by decide) rfl rfl (Nat.le_of_ble_eq_true rfl) (Nat.le_of_ble_eq_true rfl) rfl
theorem dd_Law_law_230 : decode (px_rw k_Law_law).2.1 230 = .ok (.aload_n 2, 1) := (by decide +kernel : decode code 230 = .ok (.aload_n 2, 1))
theorem e_Law_law_230 (a0 a1 a3 a4 a5 a6 : Value) (x : Nat) (st : List Value) (g : px_G) : rn k_Law_law 230 [a0, a1, .ref x, a3, a4, a5, a6] st g = rn k_Law_law 231 [a0, a1, .ref x, a3, a4, a5, a6] (.ref x :: st) g := rn_next dd_Law_law_230 rfl
theorem dd_Law_law_231 : decode (px_rw k_Law_law).2.1 231 = .ok (.aload_n 0, 1) := (by decide +kernel : decode code 231 = .ok (.aload_n 0, 1))
theorem e_Law_law_231 (a1 a2 a3 a4 a5 a6 : Value) (x : Nat) (st : List Value) (g : px_G) : rn k_Law_law 231 [.ref x, a1, a2, a3, a4, a5, a6] st g = rn k_Law_law 232 [.ref x, a1, a2, a3, a4, a5, a6] (.ref x :: st) g := rn_next dd_Law_law_231 rfl
theorem dd_Law_law_232 : decode (px_rw k_Law_law).2.1 232 = .ok (.iload 4, 2) := (by decide +kernel : decode code 232 = .ok (.iload 4, 2))
theorem e_Law_law_232 (a0 a1 a2 a3 a5 a6 : Value) (x : Int32) (st : List Value) (g : px_G) : rn k_Law_law 232 [a0, a1, a2, a3, .int x, a5, a6] st g = rn k_Law_law 234 [a0, a1, a2, a3, .int x, a5, a6] (.int x :: st) g := rn_next dd_Law_law_232 rfl
theorem dd_Law_law_234 : decode (px_rw k_Law_law).2.1 234 = .ok (.iconst 1, 1) := (by decide +kernel : decode code 234 = .ok (.iconst 1, 1))
theorem e_Law_law_234 (L st : List Value) (g : px_G) : rn k_Law_law 234 L st g = rn k_Law_law 235 L (.int 1 :: st) g := rn_ipush (i := .iconst 1) dd_Law_law_234 rfl rfl (by decide)
theorem dd_Law_law_235 : decode (px_rw k_Law_law).2.1 235 = .ok (.iadd, 1) := (by decide +kernel : decode code 235 = .ok (.iadd, 1))
theorem e_Law_law_235 (L : List Value) (x y : Int32) (st : List Value) (g : px_G) : rn k_Law_law 235 L (.int y :: .int x :: st) g = rn k_Law_law 236 L (.int (x + y) :: st) g := rn_next dd_Law_law_235 rfl
theorem dd_Law_law_236 : decode (px_rw k_Law_law).2.1 236 = .ok (.iaload, 1) := (by decide +kernel : decode code 236 = .ok (.iaload, 1))
theorem e_Law_law_236 (L : List Value) (i : Int32) (p : Nat) (st : List Value) (T : TS) (hp : (sh p).1 = 0) : rn k_Law_law 236 L (.int i :: .ref p :: st) (enc T) = if px_in i (sh p).2 then rn k_Law_law 237 L (.int (T.1 p i.toNatClampNeg) :: st) (enc T) else none := rn_iald dd_Law_law_236 (Prod.ext hp rfl)
theorem e_Law_law_236S (L : List Value) (i : Int32) (st : List Value) (T : TS) : rn k_Law_law 236 L (.int i :: .ref 1002 :: st) (enc T) = if px_in i T.2.2.2 then rn k_Law_law 237 L (.int (T.1 1002 i.toNatClampNeg) :: st) (enc T) else none := rn_iaS dd_Law_law_236
theorem dd_Law_law_237 : decode (px_rw k_Law_law).2.1 237 = .ok (.aload_n 0, 1) := (by decide +kernel : decode code 237 = .ok (.aload_n 0, 1))
theorem e_Law_law_237 (a1 a2 a3 a4 a5 a6 : Value) (x : Nat) (st : List Value) (g : px_G) : rn k_Law_law 237 [.ref x, a1, a2, a3, a4, a5, a6] st g = rn k_Law_law 238 [.ref x, a1, a2, a3, a4, a5, a6] (.ref x :: st) g := rn_next dd_Law_law_237 rfl
theorem dd_Law_law_238 : decode (px_rw k_Law_law).2.1 238 = .ok (.iload 4, 2) := (by decide +kernel : decode code 238 = .ok (.iload 4, 2))
theorem e_Law_law_238 (a0 a1 a2 a3 a5 a6 : Value) (x : Int32) (st : List Value) (g : px_G) : rn k_Law_law 238 [a0, a1, a2, a3, .int x, a5, a6] st g = rn k_Law_law 240 [a0, a1, a2, a3, .int x, a5, a6] (.int x :: st) g := rn_next dd_Law_law_238 rfl
theorem dd_Law_law_240 : decode (px_rw k_Law_law).2.1 240 = .ok (.iconst 2, 1) := (by decide +kernel : decode code 240 = .ok (.iconst 2, 1))
theorem e_Law_law_240 (L st : List Value) (g : px_G) : rn k_Law_law 240 L st g = rn k_Law_law 241 L (.int 2 :: st) g := rn_ipush (i := .iconst 2) dd_Law_law_240 rfl rfl (by decide)
theorem dd_Law_law_241 : decode (px_rw k_Law_law).2.1 241 = .ok (.iadd, 1) := (by decide +kernel : decode code 241 = .ok (.iadd, 1))
theorem e_Law_law_241 (L : List Value) (x y : Int32) (st : List Value) (g : px_G) : rn k_Law_law 241 L (.int y :: .int x :: st) g = rn k_Law_law 242 L (.int (x + y) :: st) g := rn_next dd_Law_law_241 rfl
theorem dd_Law_law_242 : decode (px_rw k_Law_law).2.1 242 = .ok (.iaload, 1) := (by decide +kernel : decode code 242 = .ok (.iaload, 1))
theorem e_Law_law_242 (L : List Value) (i : Int32) (p : Nat) (st : List Value) (T : TS) (hp : (sh p).1 = 0) : rn k_Law_law 242 L (.int i :: .ref p :: st) (enc T) = if px_in i (sh p).2 then rn k_Law_law 243 L (.int (T.1 p i.toNatClampNeg) :: st) (enc T) else none := rn_iald dd_Law_law_242 (Prod.ext hp rfl)
theorem e_Law_law_242S (L : List Value) (i : Int32) (st : List Value) (T : TS) : rn k_Law_law 242 L (.int i :: .ref 1002 :: st) (enc T) = if px_in i T.2.2.2 then rn k_Law_law 243 L (.int (T.1 1002 i.toNatClampNeg) :: st) (enc T) else none := rn_iaS dd_Law_law_242
theorem dd_Law_law_243 : decode (px_rw k_Law_law).2.1 243 = .ok (.aload_n 0, 1) := (by decide +kernel : decode code 243 = .ok (.aload_n 0, 1))
theorem e_Law_law_243 (a1 a2 a3 a4 a5 a6 : Value) (x : Nat) (st : List Value) (g : px_G) : rn k_Law_law 243 [.ref x, a1, a2, a3, a4, a5, a6] st g = rn k_Law_law 244 [.ref x, a1, a2, a3, a4, a5, a6] (.ref x :: st) g := rn_next dd_Law_law_243 rfl
theorem dd_Law_law_244 : decode (px_rw k_Law_law).2.1 244 = .ok (.iload 4, 2) := (by decide +kernel : decode code 244 = .ok (.iload 4, 2))
theorem e_Law_law_244 (a0 a1 a2 a3 a5 a6 : Value) (x : Int32) (st : List Value) (g : px_G) : rn k_Law_law 244 [a0, a1, a2, a3, .int x, a5, a6] st g = rn k_Law_law 246 [a0, a1, a2, a3, .int x, a5, a6] (.int x :: st) g := rn_next dd_Law_law_244 rfl
theorem dd_Law_law_246 : decode (px_rw k_Law_law).2.1 246 = .ok (.iconst 3, 1) := (by decide +kernel : decode code 246 = .ok (.iconst 3, 1))
theorem e_Law_law_246 (L st : List Value) (g : px_G) : rn k_Law_law 246 L st g = rn k_Law_law 247 L (.int 3 :: st) g := rn_ipush (i := .iconst 3) dd_Law_law_246 rfl rfl (by decide)
theorem dd_Law_law_247 : decode (px_rw k_Law_law).2.1 247 = .ok (.iadd, 1) := (by decide +kernel : decode code 247 = .ok (.iadd, 1))
theorem e_Law_law_247 (L : List Value) (x y : Int32) (st : List Value) (g : px_G) : rn k_Law_law 247 L (.int y :: .int x :: st) g = rn k_Law_law 248 L (.int (x + y) :: st) g := rn_next dd_Law_law_247 rfl
theorem dd_Law_law_248 : decode (px_rw k_Law_law).2.1 248 = .ok (.iaload, 1) := (by decide +kernel : decode code 248 = .ok (.iaload, 1))
theorem e_Law_law_248 (L : List Value) (i : Int32) (p : Nat) (st : List Value) (T : TS) (hp : (sh p).1 = 0) : rn k_Law_law 248 L (.int i :: .ref p :: st) (enc T) = if px_in i (sh p).2 then rn k_Law_law 249 L (.int (T.1 p i.toNatClampNeg) :: st) (enc T) else none := rn_iald dd_Law_law_248 (Prod.ext hp rfl)
theorem e_Law_law_248S (L : List Value) (i : Int32) (st : List Value) (T : TS) : rn k_Law_law 248 L (.int i :: .ref 1002 :: st) (enc T) = if px_in i T.2.2.2 then rn k_Law_law 249 L (.int (T.1 1002 i.toNatClampNeg) :: st) (enc T) else none := rn_iaS dd_Law_law_248
theorem dd_Law_law_249 : decode (px_rw k_Law_law).2.1 249 = .ok (.aload_n 0, 1) := (by decide +kernel : decode code 249 = .ok (.aload_n 0, 1))
theorem e_Law_law_249 (a1 a2 a3 a4 a5 a6 : Value) (x : Nat) (st : List Value) (g : px_G) : rn k_Law_law 249 [.ref x, a1, a2, a3, a4, a5, a6] st g = rn k_Law_law 250 [.ref x, a1, a2, a3, a4, a5, a6] (.ref x :: st) g := rn_next dd_Law_law_249 rfl
theorem dd_Law_law_250 : decode (px_rw k_Law_law).2.1 250 = .ok (.iload 4, 2) := (by decide +kernel : decode code 250 = .ok (.iload 4, 2))
theorem e_Law_law_250 (a0 a1 a2 a3 a5 a6 : Value) (x : Int32) (st : List Value) (g : px_G) : rn k_Law_law 250 [a0, a1, a2, a3, .int x, a5, a6] st g = rn k_Law_law 252 [a0, a1, a2, a3, .int x, a5, a6] (.int x :: st) g := rn_next dd_Law_law_250 rfl
theorem dd_Law_law_252 : decode (px_rw k_Law_law).2.1 252 = .ok (.iconst 4, 1) := (by decide +kernel : decode code 252 = .ok (.iconst 4, 1))
theorem e_Law_law_252 (L st : List Value) (g : px_G) : rn k_Law_law 252 L st g = rn k_Law_law 253 L (.int 4 :: st) g := rn_ipush (i := .iconst 4) dd_Law_law_252 rfl rfl (by decide)
theorem dd_Law_law_253 : decode (px_rw k_Law_law).2.1 253 = .ok (.iadd, 1) := (by decide +kernel : decode code 253 = .ok (.iadd, 1))
theorem e_Law_law_253 (L : List Value) (x y : Int32) (st : List Value) (g : px_G) : rn k_Law_law 253 L (.int y :: .int x :: st) g = rn k_Law_law 254 L (.int (x + y) :: st) g := rn_next dd_Law_law_253 rfl
theorem dd_Law_law_254 : decode (px_rw k_Law_law).2.1 254 = .ok (.iaload, 1) := (by decide +kernel : decode code 254 = .ok (.iaload, 1))
theorem e_Law_law_254 (L : List Value) (i : Int32) (p : Nat) (st : List Value) (T : TS) (hp : (sh p).1 = 0) : rn k_Law_law 254 L (.int i :: .ref p :: st) (enc T) = if px_in i (sh p).2 then rn k_Law_law 255 L (.int (T.1 p i.toNatClampNeg) :: st) (enc T) else none := rn_iald dd_Law_law_254 (Prod.ext hp rfl)
theorem e_Law_law_254S (L : List Value) (i : Int32) (st : List Value) (T : TS) : rn k_Law_law 254 L (.int i :: .ref 1002 :: st) (enc T) = if px_in i T.2.2.2 then rn k_Law_law 255 L (.int (T.1 1002 i.toNatClampNeg) :: st) (enc T) else none := rn_iaS dd_Law_law_254
theorem dd_Law_law_255 : decode (px_rw k_Law_law).2.1 255 = .ok (.aload_n 0, 1) := (by decide +kernel : decode code 255 = .ok (.aload_n 0, 1))
theorem e_Law_law_255 (a1 a2 a3 a4 a5 a6 : Value) (x : Nat) (st : List Value) (g : px_G) : rn k_Law_law 255 [.ref x, a1, a2, a3, a4, a5, a6] st g = rn k_Law_law 256 [.ref x, a1, a2, a3, a4, a5, a6] (.ref x :: st) g := rn_next dd_Law_law_255 rfl
theorem dd_Law_law_256 : decode (px_rw k_Law_law).2.1 256 = .ok (.iload 4, 2) := (by decide +kernel : decode code 256 = .ok (.iload 4, 2))
theorem e_Law_law_256 (a0 a1 a2 a3 a5 a6 : Value) (x : Int32) (st : List Value) (g : px_G) : rn k_Law_law 256 [a0, a1, a2, a3, .int x, a5, a6] st g = rn k_Law_law 258 [a0, a1, a2, a3, .int x, a5, a6] (.int x :: st) g := rn_next dd_Law_law_256 rfl
theorem dd_Law_law_258 : decode (px_rw k_Law_law).2.1 258 = .ok (.iconst 5, 1) := (by decide +kernel : decode code 258 = .ok (.iconst 5, 1))
theorem e_Law_law_258 (L st : List Value) (g : px_G) : rn k_Law_law 258 L st g = rn k_Law_law 259 L (.int 5 :: st) g := rn_ipush (i := .iconst 5) dd_Law_law_258 rfl rfl (by decide)
theorem dd_Law_law_259 : decode (px_rw k_Law_law).2.1 259 = .ok (.iadd, 1) := (by decide +kernel : decode code 259 = .ok (.iadd, 1))
theorem e_Law_law_259 (L : List Value) (x y : Int32) (st : List Value) (g : px_G) : rn k_Law_law 259 L (.int y :: .int x :: st) g = rn k_Law_law 260 L (.int (x + y) :: st) g := rn_next dd_Law_law_259 rfl
theorem dd_Law_law_260 : decode (px_rw k_Law_law).2.1 260 = .ok (.iaload, 1) := (by decide +kernel : decode code 260 = .ok (.iaload, 1))
theorem e_Law_law_260 (L : List Value) (i : Int32) (p : Nat) (st : List Value) (T : TS) (hp : (sh p).1 = 0) : rn k_Law_law 260 L (.int i :: .ref p :: st) (enc T) = if px_in i (sh p).2 then rn k_Law_law 261 L (.int (T.1 p i.toNatClampNeg) :: st) (enc T) else none := rn_iald dd_Law_law_260 (Prod.ext hp rfl)
theorem e_Law_law_260S (L : List Value) (i : Int32) (st : List Value) (T : TS) : rn k_Law_law 260 L (.int i :: .ref 1002 :: st) (enc T) = if px_in i T.2.2.2 then rn k_Law_law 261 L (.int (T.1 1002 i.toNatClampNeg) :: st) (enc T) else none := rn_iaS dd_Law_law_260
theorem dd_Law_law_261 : decode (px_rw k_Law_law).2.1 261 = .ok (.invokevirtual 23, 3) := (by decide +kernel : decode code 261 = .ok (.invokevirtual 23, 3))
theorem e_Law_law_261 (L : List Value) (i0 : Int32) (i1 : Int32) (i2 : Int32) (i3 : Int32) (i4 : Int32) (i100 : Int32)  (T : TS)  : rn k_Law_law 261 L [.int i4, .int i3, .int i2, .int i1, .int i0, .ref 53, .int i100] (enc T) = bd (cl k_Dm_feed [.ref 53, .int i0, .int i1, .int i2, .int i3, .int i4] (enc T)) (fun r g' => rn k_Law_law 264 L (r.toList ++ [.int i100]) g') := rn_callV (n := 52) (As := [.int i0, .int i1, .int i2, .int i3, .int i4]) (rest := [.int i100]) dd_Law_law_261 rfl (by decide) (by decide) rfl rfl (Nat.le_of_ble_eq_true rfl) (Nat.le_of_ble_eq_true rfl) rfl
theorem dd_Law_law_264 : decode (px_rw k_Law_law).2.1 264 = .ok (.if_icmp .eq 1497, 3) := (by decide +kernel : decode code 264 = .ok (.if_icmp .eq 1497, 3))
theorem e_Law_law_264 (L : List Value) (x y : Int32) (st : List Value) (g : px_G) : rn k_Law_law 264 L (.int y :: .int x :: st) g = if x = y then rn k_Law_law 1761 L st g else rn k_Law_law 267 L st g := rn_iceq dd_Law_law_264 (by decide)
theorem dd_Law_law_267 : decode (px_rw k_Law_law).2.1 267 = .ok (.iconst 0, 1) := (by decide +kernel : decode code 267 = .ok (.iconst 0, 1))
theorem e_Law_law_267 (L st : List Value) (g : px_G) : rn k_Law_law 267 L st g = rn k_Law_law 268 L (.int 0 :: st) g := rn_ipush (i := .iconst 0) dd_Law_law_267 rfl rfl (by decide)
theorem dd_Law_law_268 : decode (px_rw k_Law_law).2.1 268 = .ok (.ireturn, 1) := (by decide +kernel : decode code 268 = .ok (.ireturn, 1))
theorem e_Law_law_268 (L : List Value) (v : Int32) (g : px_G) (hv : v = 0 ∨ v = 1) : rn k_Law_law 268 L [.int v] g = some (some (.int v), g) := rn_zret dd_Law_law_268 rfl hv
theorem dd_Law_law_269 : decode (px_rw k_Law_law).2.1 269 = .ok (.aload_n 1, 1) := (by decide +kernel : decode code 269 = .ok (.aload_n 1, 1))
theorem e_Law_law_269 (a0 a2 a3 a4 a5 a6 : Value) (x : Nat) (st : List Value) (g : px_G) : rn k_Law_law 269 [a0, .ref x, a2, a3, a4, a5, a6] st g = rn k_Law_law 270 [a0, .ref x, a2, a3, a4, a5, a6] (.ref x :: st) g := rn_next dd_Law_law_269 rfl
theorem dd_Law_law_270 : decode (px_rw k_Law_law).2.1 270 = .ok (.aload_n 0, 1) := (by decide +kernel : decode code 270 = .ok (.aload_n 0, 1))
theorem e_Law_law_270 (a1 a2 a3 a4 a5 a6 : Value) (x : Nat) (st : List Value) (g : px_G) : rn k_Law_law 270 [.ref x, a1, a2, a3, a4, a5, a6] st g = rn k_Law_law 271 [.ref x, a1, a2, a3, a4, a5, a6] (.ref x :: st) g := rn_next dd_Law_law_270 rfl
theorem dd_Law_law_271 : decode (px_rw k_Law_law).2.1 271 = .ok (.iload 4, 2) := (by decide +kernel : decode code 271 = .ok (.iload 4, 2))
theorem e_Law_law_271 (a0 a1 a2 a3 a5 a6 : Value) (x : Int32) (st : List Value) (g : px_G) : rn k_Law_law 271 [a0, a1, a2, a3, .int x, a5, a6] st g = rn k_Law_law 273 [a0, a1, a2, a3, .int x, a5, a6] (.int x :: st) g := rn_next dd_Law_law_271 rfl
theorem dd_Law_law_273 : decode (px_rw k_Law_law).2.1 273 = .ok (.iconst 1, 1) := (by decide +kernel : decode code 273 = .ok (.iconst 1, 1))
theorem e_Law_law_273 (L st : List Value) (g : px_G) : rn k_Law_law 273 L st g = rn k_Law_law 274 L (.int 1 :: st) g := rn_ipush (i := .iconst 1) dd_Law_law_273 rfl rfl (by decide)
theorem dd_Law_law_274 : decode (px_rw k_Law_law).2.1 274 = .ok (.iadd, 1) := (by decide +kernel : decode code 274 = .ok (.iadd, 1))
theorem e_Law_law_274 (L : List Value) (x y : Int32) (st : List Value) (g : px_G) : rn k_Law_law 274 L (.int y :: .int x :: st) g = rn k_Law_law 275 L (.int (x + y) :: st) g := rn_next dd_Law_law_274 rfl
theorem dd_Law_law_275 : decode (px_rw k_Law_law).2.1 275 = .ok (.iaload, 1) := (by decide +kernel : decode code 275 = .ok (.iaload, 1))
theorem e_Law_law_275 (L : List Value) (i : Int32) (p : Nat) (st : List Value) (T : TS) (hp : (sh p).1 = 0) : rn k_Law_law 275 L (.int i :: .ref p :: st) (enc T) = if px_in i (sh p).2 then rn k_Law_law 276 L (.int (T.1 p i.toNatClampNeg) :: st) (enc T) else none := rn_iald dd_Law_law_275 (Prod.ext hp rfl)
theorem e_Law_law_275S (L : List Value) (i : Int32) (st : List Value) (T : TS) : rn k_Law_law 275 L (.int i :: .ref 1002 :: st) (enc T) = if px_in i T.2.2.2 then rn k_Law_law 276 L (.int (T.1 1002 i.toNatClampNeg) :: st) (enc T) else none := rn_iaS dd_Law_law_275
theorem dd_Law_law_276 : decode (px_rw k_Law_law).2.1 276 = .ok (.invokevirtual 24, 3) := (by decide +kernel : decode code 276 = .ok (.invokevirtual 24, 3))
theorem e_Law_law_276 (L : List Value) (i0 : Int32)  (T : TS)  : rn k_Law_law 276 L [.int i0, .ref 0] (enc T) = bd (cl k_Ds_end [.ref 0, .int i0] (enc T)) (fun r g' => rn k_Law_law 279 L (r.toList ++ []) g') := rn_callV (n := 13) (As := [.int i0]) (rest := []) dd_Law_law_276 rfl (by decide) (by decide) rfl rfl (Nat.le_of_ble_eq_true rfl) (Nat.le_of_ble_eq_true rfl) rfl
theorem dd_Law_law_279 : decode (px_rw k_Law_law).2.1 279 = .ok (.aload_n 2, 1) := (by decide +kernel : decode code 279 = .ok (.aload_n 2, 1))
theorem e_Law_law_279 (a0 a1 a3 a4 a5 a6 : Value) (x : Nat) (st : List Value) (g : px_G) : rn k_Law_law 279 [a0, a1, .ref x, a3, a4, a5, a6] st g = rn k_Law_law 280 [a0, a1, .ref x, a3, a4, a5, a6] (.ref x :: st) g := rn_next dd_Law_law_279 rfl
theorem dd_Law_law_280 : decode (px_rw k_Law_law).2.1 280 = .ok (.aload_n 0, 1) := (by decide +kernel : decode code 280 = .ok (.aload_n 0, 1))
theorem e_Law_law_280 (a1 a2 a3 a4 a5 a6 : Value) (x : Nat) (st : List Value) (g : px_G) : rn k_Law_law 280 [.ref x, a1, a2, a3, a4, a5, a6] st g = rn k_Law_law 281 [.ref x, a1, a2, a3, a4, a5, a6] (.ref x :: st) g := rn_next dd_Law_law_280 rfl
theorem dd_Law_law_281 : decode (px_rw k_Law_law).2.1 281 = .ok (.iload 4, 2) := (by decide +kernel : decode code 281 = .ok (.iload 4, 2))
theorem e_Law_law_281 (a0 a1 a2 a3 a5 a6 : Value) (x : Int32) (st : List Value) (g : px_G) : rn k_Law_law 281 [a0, a1, a2, a3, .int x, a5, a6] st g = rn k_Law_law 283 [a0, a1, a2, a3, .int x, a5, a6] (.int x :: st) g := rn_next dd_Law_law_281 rfl
theorem dd_Law_law_283 : decode (px_rw k_Law_law).2.1 283 = .ok (.iconst 1, 1) := (by decide +kernel : decode code 283 = .ok (.iconst 1, 1))
theorem e_Law_law_283 (L st : List Value) (g : px_G) : rn k_Law_law 283 L st g = rn k_Law_law 284 L (.int 1 :: st) g := rn_ipush (i := .iconst 1) dd_Law_law_283 rfl rfl (by decide)
theorem dd_Law_law_284 : decode (px_rw k_Law_law).2.1 284 = .ok (.iadd, 1) := (by decide +kernel : decode code 284 = .ok (.iadd, 1))
theorem e_Law_law_284 (L : List Value) (x y : Int32) (st : List Value) (g : px_G) : rn k_Law_law 284 L (.int y :: .int x :: st) g = rn k_Law_law 285 L (.int (x + y) :: st) g := rn_next dd_Law_law_284 rfl
theorem dd_Law_law_285 : decode (px_rw k_Law_law).2.1 285 = .ok (.iaload, 1) := (by decide +kernel : decode code 285 = .ok (.iaload, 1))
theorem e_Law_law_285 (L : List Value) (i : Int32) (p : Nat) (st : List Value) (T : TS) (hp : (sh p).1 = 0) : rn k_Law_law 285 L (.int i :: .ref p :: st) (enc T) = if px_in i (sh p).2 then rn k_Law_law 286 L (.int (T.1 p i.toNatClampNeg) :: st) (enc T) else none := rn_iald dd_Law_law_285 (Prod.ext hp rfl)
theorem e_Law_law_285S (L : List Value) (i : Int32) (st : List Value) (T : TS) : rn k_Law_law 285 L (.int i :: .ref 1002 :: st) (enc T) = if px_in i T.2.2.2 then rn k_Law_law 286 L (.int (T.1 1002 i.toNatClampNeg) :: st) (enc T) else none := rn_iaS dd_Law_law_285
theorem dd_Law_law_286 : decode (px_rw k_Law_law).2.1 286 = .ok (.invokevirtual 28, 3) := (by decide +kernel : decode code 286 = .ok (.invokevirtual 28, 3))
theorem e_Law_law_286 (L : List Value) (i0 : Int32) (i100 : Int32)  (T : TS)  : rn k_Law_law 286 L [.int i0, .ref 53, .int i100] (enc T) = bd (cl k_Dm_end [.ref 53, .int i0] (enc T)) (fun r g' => rn k_Law_law 289 L (r.toList ++ [.int i100]) g') := rn_callV (n := 52) (As := [.int i0]) (rest := [.int i100]) dd_Law_law_286 rfl (by decide) (by decide) rfl rfl (Nat.le_of_ble_eq_true rfl) (Nat.le_of_ble_eq_true rfl) rfl
theorem dd_Law_law_289 : decode (px_rw k_Law_law).2.1 289 = .ok (.if_icmp .eq 1472, 3) := (by decide +kernel : decode code 289 = .ok (.if_icmp .eq 1472, 3))
theorem e_Law_law_289 (L : List Value) (x y : Int32) (st : List Value) (g : px_G) : rn k_Law_law 289 L (.int y :: .int x :: st) g = if x = y then rn k_Law_law 1761 L st g else rn k_Law_law 292 L st g := rn_iceq dd_Law_law_289 (by decide)
theorem dd_Law_law_292 : decode (px_rw k_Law_law).2.1 292 = .ok (.iconst 0, 1) := (by decide +kernel : decode code 292 = .ok (.iconst 0, 1))
theorem e_Law_law_292 (L st : List Value) (g : px_G) : rn k_Law_law 292 L st g = rn k_Law_law 293 L (.int 0 :: st) g := rn_ipush (i := .iconst 0) dd_Law_law_292 rfl rfl (by decide)
theorem dd_Law_law_293 : decode (px_rw k_Law_law).2.1 293 = .ok (.ireturn, 1) := (by decide +kernel : decode code 293 = .ok (.ireturn, 1))
theorem e_Law_law_293 (L : List Value) (v : Int32) (g : px_G) (hv : v = 0 ∨ v = 1) : rn k_Law_law 293 L [.int v] g = some (some (.int v), g) := rn_zret dd_Law_law_293 rfl hv
theorem dd_Law_law_294 : decode (px_rw k_Law_law).2.1 294 = .ok (.aload_n 1, 1) := (by decide +kernel : decode code 294 = .ok (.aload_n 1, 1))
theorem e_Law_law_294 (a0 a2 a3 a4 a5 a6 : Value) (x : Nat) (st : List Value) (g : px_G) : rn k_Law_law 294 [a0, .ref x, a2, a3, a4, a5, a6] st g = rn k_Law_law 295 [a0, .ref x, a2, a3, a4, a5, a6] (.ref x :: st) g := rn_next dd_Law_law_294 rfl
theorem dd_Law_law_295 : decode (px_rw k_Law_law).2.1 295 = .ok (.invokevirtual 29, 3) := (by decide +kernel : decode code 295 = .ok (.invokevirtual 29, 3))
theorem e_Law_law_295 (L : List Value)   (T : TS)  : rn k_Law_law 295 L [.ref 0] (enc T) = bd (cl k_Ds_fault [.ref 0] (enc T)) (fun r g' => rn k_Law_law 298 L (r.toList ++ []) g') := rn_callV (n := 13) (As := []) (rest := []) dd_Law_law_295 rfl (by decide) (by decide) rfl rfl (Nat.le_of_ble_eq_true rfl) (Nat.le_of_ble_eq_true rfl) rfl
theorem dd_Law_law_298 : decode (px_rw k_Law_law).2.1 298 = .ok (.aload_n 2, 1) := (by decide +kernel : decode code 298 = .ok (.aload_n 2, 1))
theorem e_Law_law_298 (a0 a1 a3 a4 a5 a6 : Value) (x : Nat) (st : List Value) (g : px_G) : rn k_Law_law 298 [a0, a1, .ref x, a3, a4, a5, a6] st g = rn k_Law_law 299 [a0, a1, .ref x, a3, a4, a5, a6] (.ref x :: st) g := rn_next dd_Law_law_298 rfl
theorem dd_Law_law_299 : decode (px_rw k_Law_law).2.1 299 = .ok (.invokevirtual 33, 3) := (by decide +kernel : decode code 299 = .ok (.invokevirtual 33, 3))
theorem e_Law_law_299 (L : List Value) (i100 : Int32)  (T : TS)  : rn k_Law_law 299 L [.ref 53, .int i100] (enc T) = bd (cl k_Dm_fault [.ref 53] (enc T)) (fun r g' => rn k_Law_law 302 L (r.toList ++ [.int i100]) g') := rn_callV (n := 52) (As := []) (rest := [.int i100]) dd_Law_law_299 rfl (by decide) (by decide) rfl rfl (Nat.le_of_ble_eq_true rfl) (Nat.le_of_ble_eq_true rfl) rfl
theorem dd_Law_law_302 : decode (px_rw k_Law_law).2.1 302 = .ok (.if_icmp .eq 1459, 3) := (by decide +kernel : decode code 302 = .ok (.if_icmp .eq 1459, 3))
theorem e_Law_law_302 (L : List Value) (x y : Int32) (st : List Value) (g : px_G) : rn k_Law_law 302 L (.int y :: .int x :: st) g = if x = y then rn k_Law_law 1761 L st g else rn k_Law_law 305 L st g := rn_iceq dd_Law_law_302 (by decide)
theorem dd_Law_law_305 : decode (px_rw k_Law_law).2.1 305 = .ok (.iconst 0, 1) := (by decide +kernel : decode code 305 = .ok (.iconst 0, 1))
theorem e_Law_law_305 (L st : List Value) (g : px_G) : rn k_Law_law 305 L st g = rn k_Law_law 306 L (.int 0 :: st) g := rn_ipush (i := .iconst 0) dd_Law_law_305 rfl rfl (by decide)
theorem dd_Law_law_306 : decode (px_rw k_Law_law).2.1 306 = .ok (.ireturn, 1) := (by decide +kernel : decode code 306 = .ok (.ireturn, 1))
theorem e_Law_law_306 (L : List Value) (v : Int32) (g : px_G) (hv : v = 0 ∨ v = 1) : rn k_Law_law 306 L [.int v] g = some (some (.int v), g) := rn_zret dd_Law_law_306 rfl hv
theorem dd_Law_law_307 : decode (px_rw k_Law_law).2.1 307 = .ok (.aload_n 1, 1) := (by decide +kernel : decode code 307 = .ok (.aload_n 1, 1))
theorem e_Law_law_307 (a0 a2 a3 a4 a5 a6 : Value) (x : Nat) (st : List Value) (g : px_G) : rn k_Law_law 307 [a0, .ref x, a2, a3, a4, a5, a6] st g = rn k_Law_law 308 [a0, .ref x, a2, a3, a4, a5, a6] (.ref x :: st) g := rn_next dd_Law_law_307 rfl
theorem dd_Law_law_308 : decode (px_rw k_Law_law).2.1 308 = .ok (.invokevirtual 34, 3) := (by decide +kernel : decode code 308 = .ok (.invokevirtual 34, 3))
theorem e_Law_law_308 (L : List Value)   (T : TS)  : rn k_Law_law 308 L [.ref 0] (enc T) = bd (cl k_Ds_text [.ref 0] (enc T)) (fun r g' => rn k_Law_law 311 L (r.toList ++ []) g') := rn_callV (n := 13) (As := []) (rest := []) dd_Law_law_308 rfl (by decide) (by decide) rfl rfl (Nat.le_of_ble_eq_true rfl) (Nat.le_of_ble_eq_true rfl) rfl
theorem dd_Law_law_311 : decode (px_rw k_Law_law).2.1 311 = .ok (.aload_n 2, 1) := (by decide +kernel : decode code 311 = .ok (.aload_n 2, 1))
theorem e_Law_law_311 (a0 a1 a3 a4 a5 a6 : Value) (x : Nat) (st : List Value) (g : px_G) : rn k_Law_law 311 [a0, a1, .ref x, a3, a4, a5, a6] st g = rn k_Law_law 312 [a0, a1, .ref x, a3, a4, a5, a6] (.ref x :: st) g := rn_next dd_Law_law_311 rfl
theorem dd_Law_law_312 : decode (px_rw k_Law_law).2.1 312 = .ok (.invokevirtual 37, 3) := (by decide +kernel : decode code 312 = .ok (.invokevirtual 37, 3))
theorem e_Law_law_312 (L : List Value) (i100 : Int32)  (T : TS)  : rn k_Law_law 312 L [.ref 53, .int i100] (enc T) = bd (cl k_Dm_text [.ref 53] (enc T)) (fun r g' => rn k_Law_law 315 L (r.toList ++ [.int i100]) g') := rn_callV (n := 52) (As := []) (rest := [.int i100]) dd_Law_law_312 rfl (by decide) (by decide) rfl rfl (Nat.le_of_ble_eq_true rfl) (Nat.le_of_ble_eq_true rfl) rfl
theorem dd_Law_law_315 : decode (px_rw k_Law_law).2.1 315 = .ok (.if_icmp .eq 1446, 3) := (by decide +kernel : decode code 315 = .ok (.if_icmp .eq 1446, 3))
theorem e_Law_law_315 (L : List Value) (x y : Int32) (st : List Value) (g : px_G) : rn k_Law_law 315 L (.int y :: .int x :: st) g = if x = y then rn k_Law_law 1761 L st g else rn k_Law_law 318 L st g := rn_iceq dd_Law_law_315 (by decide)
theorem dd_Law_law_318 : decode (px_rw k_Law_law).2.1 318 = .ok (.iconst 0, 1) := (by decide +kernel : decode code 318 = .ok (.iconst 0, 1))
theorem e_Law_law_318 (L st : List Value) (g : px_G) : rn k_Law_law 318 L st g = rn k_Law_law 319 L (.int 0 :: st) g := rn_ipush (i := .iconst 0) dd_Law_law_318 rfl rfl (by decide)
theorem dd_Law_law_319 : decode (px_rw k_Law_law).2.1 319 = .ok (.ireturn, 1) := (by decide +kernel : decode code 319 = .ok (.ireturn, 1))
theorem e_Law_law_319 (L : List Value) (v : Int32) (g : px_G) (hv : v = 0 ∨ v = 1) : rn k_Law_law 319 L [.int v] g = some (some (.int v), g) := rn_zret dd_Law_law_319 rfl hv
theorem dd_Law_law_320 : decode (px_rw k_Law_law).2.1 320 = .ok (.aload_n 1, 1) := (by decide +kernel : decode code 320 = .ok (.aload_n 1, 1))
theorem e_Law_law_320 (a0 a2 a3 a4 a5 a6 : Value) (x : Nat) (st : List Value) (g : px_G) : rn k_Law_law 320 [a0, .ref x, a2, a3, a4, a5, a6] st g = rn k_Law_law 321 [a0, .ref x, a2, a3, a4, a5, a6] (.ref x :: st) g := rn_next dd_Law_law_320 rfl
theorem dd_Law_law_321 : decode (px_rw k_Law_law).2.1 321 = .ok (.aload_n 0, 1) := (by decide +kernel : decode code 321 = .ok (.aload_n 0, 1))
theorem e_Law_law_321 (a1 a2 a3 a4 a5 a6 : Value) (x : Nat) (st : List Value) (g : px_G) : rn k_Law_law 321 [.ref x, a1, a2, a3, a4, a5, a6] st g = rn k_Law_law 322 [.ref x, a1, a2, a3, a4, a5, a6] (.ref x :: st) g := rn_next dd_Law_law_321 rfl
theorem dd_Law_law_322 : decode (px_rw k_Law_law).2.1 322 = .ok (.iload 4, 2) := (by decide +kernel : decode code 322 = .ok (.iload 4, 2))
theorem e_Law_law_322 (a0 a1 a2 a3 a5 a6 : Value) (x : Int32) (st : List Value) (g : px_G) : rn k_Law_law 322 [a0, a1, a2, a3, .int x, a5, a6] st g = rn k_Law_law 324 [a0, a1, a2, a3, .int x, a5, a6] (.int x :: st) g := rn_next dd_Law_law_322 rfl
theorem dd_Law_law_324 : decode (px_rw k_Law_law).2.1 324 = .ok (.iconst 1, 1) := (by decide +kernel : decode code 324 = .ok (.iconst 1, 1))
theorem e_Law_law_324 (L st : List Value) (g : px_G) : rn k_Law_law 324 L st g = rn k_Law_law 325 L (.int 1 :: st) g := rn_ipush (i := .iconst 1) dd_Law_law_324 rfl rfl (by decide)
theorem dd_Law_law_325 : decode (px_rw k_Law_law).2.1 325 = .ok (.iadd, 1) := (by decide +kernel : decode code 325 = .ok (.iadd, 1))
theorem e_Law_law_325 (L : List Value) (x y : Int32) (st : List Value) (g : px_G) : rn k_Law_law 325 L (.int y :: .int x :: st) g = rn k_Law_law 326 L (.int (x + y) :: st) g := rn_next dd_Law_law_325 rfl
theorem dd_Law_law_326 : decode (px_rw k_Law_law).2.1 326 = .ok (.iaload, 1) := (by decide +kernel : decode code 326 = .ok (.iaload, 1))
theorem e_Law_law_326 (L : List Value) (i : Int32) (p : Nat) (st : List Value) (T : TS) (hp : (sh p).1 = 0) : rn k_Law_law 326 L (.int i :: .ref p :: st) (enc T) = if px_in i (sh p).2 then rn k_Law_law 327 L (.int (T.1 p i.toNatClampNeg) :: st) (enc T) else none := rn_iald dd_Law_law_326 (Prod.ext hp rfl)
theorem e_Law_law_326S (L : List Value) (i : Int32) (st : List Value) (T : TS) : rn k_Law_law 326 L (.int i :: .ref 1002 :: st) (enc T) = if px_in i T.2.2.2 then rn k_Law_law 327 L (.int (T.1 1002 i.toNatClampNeg) :: st) (enc T) else none := rn_iaS dd_Law_law_326
theorem dd_Law_law_327 : decode (px_rw k_Law_law).2.1 327 = .ok (.aload_n 0, 1) := (by decide +kernel : decode code 327 = .ok (.aload_n 0, 1))
theorem e_Law_law_327 (a1 a2 a3 a4 a5 a6 : Value) (x : Nat) (st : List Value) (g : px_G) : rn k_Law_law 327 [.ref x, a1, a2, a3, a4, a5, a6] st g = rn k_Law_law 328 [.ref x, a1, a2, a3, a4, a5, a6] (.ref x :: st) g := rn_next dd_Law_law_327 rfl
theorem dd_Law_law_328 : decode (px_rw k_Law_law).2.1 328 = .ok (.iload 4, 2) := (by decide +kernel : decode code 328 = .ok (.iload 4, 2))
theorem e_Law_law_328 (a0 a1 a2 a3 a5 a6 : Value) (x : Int32) (st : List Value) (g : px_G) : rn k_Law_law 328 [a0, a1, a2, a3, .int x, a5, a6] st g = rn k_Law_law 330 [a0, a1, a2, a3, .int x, a5, a6] (.int x :: st) g := rn_next dd_Law_law_328 rfl
theorem dd_Law_law_330 : decode (px_rw k_Law_law).2.1 330 = .ok (.iconst 2, 1) := (by decide +kernel : decode code 330 = .ok (.iconst 2, 1))
theorem e_Law_law_330 (L st : List Value) (g : px_G) : rn k_Law_law 330 L st g = rn k_Law_law 331 L (.int 2 :: st) g := rn_ipush (i := .iconst 2) dd_Law_law_330 rfl rfl (by decide)
theorem dd_Law_law_331 : decode (px_rw k_Law_law).2.1 331 = .ok (.iadd, 1) := (by decide +kernel : decode code 331 = .ok (.iadd, 1))
theorem e_Law_law_331 (L : List Value) (x y : Int32) (st : List Value) (g : px_G) : rn k_Law_law 331 L (.int y :: .int x :: st) g = rn k_Law_law 332 L (.int (x + y) :: st) g := rn_next dd_Law_law_331 rfl
theorem dd_Law_law_332 : decode (px_rw k_Law_law).2.1 332 = .ok (.iaload, 1) := (by decide +kernel : decode code 332 = .ok (.iaload, 1))
theorem e_Law_law_332 (L : List Value) (i : Int32) (p : Nat) (st : List Value) (T : TS) (hp : (sh p).1 = 0) : rn k_Law_law 332 L (.int i :: .ref p :: st) (enc T) = if px_in i (sh p).2 then rn k_Law_law 333 L (.int (T.1 p i.toNatClampNeg) :: st) (enc T) else none := rn_iald dd_Law_law_332 (Prod.ext hp rfl)
theorem e_Law_law_332S (L : List Value) (i : Int32) (st : List Value) (T : TS) : rn k_Law_law 332 L (.int i :: .ref 1002 :: st) (enc T) = if px_in i T.2.2.2 then rn k_Law_law 333 L (.int (T.1 1002 i.toNatClampNeg) :: st) (enc T) else none := rn_iaS dd_Law_law_332
theorem dd_Law_law_333 : decode (px_rw k_Law_law).2.1 333 = .ok (.aload_n 3, 1) := (by decide +kernel : decode code 333 = .ok (.aload_n 3, 1))
theorem e_Law_law_333 (a0 a1 a2 a4 a5 a6 : Value) (x : Nat) (st : List Value) (g : px_G) : rn k_Law_law 333 [a0, a1, a2, .ref x, a4, a5, a6] st g = rn k_Law_law 334 [a0, a1, a2, .ref x, a4, a5, a6] (.ref x :: st) g := rn_next dd_Law_law_333 rfl
theorem dd_Law_law_337 : decode (px_rw k_Law_law).2.1 337 = .ok (.istore 5, 2) := (by decide +kernel : decode code 337 = .ok (.istore 5, 2))
theorem e_Law_law_337 (a0 a1 a2 a3 a4 a5 a6 : Value) (x : Int32) (st : List Value) (g : px_G) : rn k_Law_law 337 [a0, a1, a2, a3, a4, a5, a6] (.int x :: st) g = rn k_Law_law 339 [a0, a1, a2, a3, px_kill a4, .int x, a6] st g := rn_next dd_Law_law_337 rfl
theorem dd_Law_law_339 : decode (px_rw k_Law_law).2.1 339 = .ok (.aload_n 2, 1) := (by decide +kernel : decode code 339 = .ok (.aload_n 2, 1))
theorem e_Law_law_339 (a0 a1 a3 a4 a5 a6 : Value) (x : Nat) (st : List Value) (g : px_G) : rn k_Law_law 339 [a0, a1, .ref x, a3, a4, a5, a6] st g = rn k_Law_law 340 [a0, a1, .ref x, a3, a4, a5, a6] (.ref x :: st) g := rn_next dd_Law_law_339 rfl
theorem dd_Law_law_340 : decode (px_rw k_Law_law).2.1 340 = .ok (.aload_n 0, 1) := (by decide +kernel : decode code 340 = .ok (.aload_n 0, 1))
theorem e_Law_law_340 (a1 a2 a3 a4 a5 a6 : Value) (x : Nat) (st : List Value) (g : px_G) : rn k_Law_law 340 [.ref x, a1, a2, a3, a4, a5, a6] st g = rn k_Law_law 341 [.ref x, a1, a2, a3, a4, a5, a6] (.ref x :: st) g := rn_next dd_Law_law_340 rfl
theorem dd_Law_law_341 : decode (px_rw k_Law_law).2.1 341 = .ok (.iload 4, 2) := (by decide +kernel : decode code 341 = .ok (.iload 4, 2))
theorem e_Law_law_341 (a0 a1 a2 a3 a5 a6 : Value) (x : Int32) (st : List Value) (g : px_G) : rn k_Law_law 341 [a0, a1, a2, a3, .int x, a5, a6] st g = rn k_Law_law 343 [a0, a1, a2, a3, .int x, a5, a6] (.int x :: st) g := rn_next dd_Law_law_341 rfl
theorem dd_Law_law_343 : decode (px_rw k_Law_law).2.1 343 = .ok (.iconst 1, 1) := (by decide +kernel : decode code 343 = .ok (.iconst 1, 1))
theorem e_Law_law_343 (L st : List Value) (g : px_G) : rn k_Law_law 343 L st g = rn k_Law_law 344 L (.int 1 :: st) g := rn_ipush (i := .iconst 1) dd_Law_law_343 rfl rfl (by decide)
theorem dd_Law_law_344 : decode (px_rw k_Law_law).2.1 344 = .ok (.iadd, 1) := (by decide +kernel : decode code 344 = .ok (.iadd, 1))
theorem e_Law_law_344 (L : List Value) (x y : Int32) (st : List Value) (g : px_G) : rn k_Law_law 344 L (.int y :: .int x :: st) g = rn k_Law_law 345 L (.int (x + y) :: st) g := rn_next dd_Law_law_344 rfl
theorem dd_Law_law_345 : decode (px_rw k_Law_law).2.1 345 = .ok (.iaload, 1) := (by decide +kernel : decode code 345 = .ok (.iaload, 1))
theorem e_Law_law_345 (L : List Value) (i : Int32) (p : Nat) (st : List Value) (T : TS) (hp : (sh p).1 = 0) : rn k_Law_law 345 L (.int i :: .ref p :: st) (enc T) = if px_in i (sh p).2 then rn k_Law_law 346 L (.int (T.1 p i.toNatClampNeg) :: st) (enc T) else none := rn_iald dd_Law_law_345 (Prod.ext hp rfl)
theorem e_Law_law_345S (L : List Value) (i : Int32) (st : List Value) (T : TS) : rn k_Law_law 345 L (.int i :: .ref 1002 :: st) (enc T) = if px_in i T.2.2.2 then rn k_Law_law 346 L (.int (T.1 1002 i.toNatClampNeg) :: st) (enc T) else none := rn_iaS dd_Law_law_345
theorem dd_Law_law_346 : decode (px_rw k_Law_law).2.1 346 = .ok (.aload_n 0, 1) := (by decide +kernel : decode code 346 = .ok (.aload_n 0, 1))
theorem e_Law_law_346 (a1 a2 a3 a4 a5 a6 : Value) (x : Nat) (st : List Value) (g : px_G) : rn k_Law_law 346 [.ref x, a1, a2, a3, a4, a5, a6] st g = rn k_Law_law 347 [.ref x, a1, a2, a3, a4, a5, a6] (.ref x :: st) g := rn_next dd_Law_law_346 rfl
theorem dd_Law_law_347 : decode (px_rw k_Law_law).2.1 347 = .ok (.iload 4, 2) := (by decide +kernel : decode code 347 = .ok (.iload 4, 2))
theorem e_Law_law_347 (a0 a1 a2 a3 a5 a6 : Value) (x : Int32) (st : List Value) (g : px_G) : rn k_Law_law 347 [a0, a1, a2, a3, .int x, a5, a6] st g = rn k_Law_law 349 [a0, a1, a2, a3, .int x, a5, a6] (.int x :: st) g := rn_next dd_Law_law_347 rfl
theorem dd_Law_law_349 : decode (px_rw k_Law_law).2.1 349 = .ok (.iconst 2, 1) := (by decide +kernel : decode code 349 = .ok (.iconst 2, 1))
theorem e_Law_law_349 (L st : List Value) (g : px_G) : rn k_Law_law 349 L st g = rn k_Law_law 350 L (.int 2 :: st) g := rn_ipush (i := .iconst 2) dd_Law_law_349 rfl rfl (by decide)
theorem dd_Law_law_350 : decode (px_rw k_Law_law).2.1 350 = .ok (.iadd, 1) := (by decide +kernel : decode code 350 = .ok (.iadd, 1))
theorem e_Law_law_350 (L : List Value) (x y : Int32) (st : List Value) (g : px_G) : rn k_Law_law 350 L (.int y :: .int x :: st) g = rn k_Law_law 351 L (.int (x + y) :: st) g := rn_next dd_Law_law_350 rfl
theorem dd_Law_law_351 : decode (px_rw k_Law_law).2.1 351 = .ok (.iaload, 1) := (by decide +kernel : decode code 351 = .ok (.iaload, 1))
theorem e_Law_law_351 (L : List Value) (i : Int32) (p : Nat) (st : List Value) (T : TS) (hp : (sh p).1 = 0) : rn k_Law_law 351 L (.int i :: .ref p :: st) (enc T) = if px_in i (sh p).2 then rn k_Law_law 352 L (.int (T.1 p i.toNatClampNeg) :: st) (enc T) else none := rn_iald dd_Law_law_351 (Prod.ext hp rfl)
theorem e_Law_law_351S (L : List Value) (i : Int32) (st : List Value) (T : TS) : rn k_Law_law 351 L (.int i :: .ref 1002 :: st) (enc T) = if px_in i T.2.2.2 then rn k_Law_law 352 L (.int (T.1 1002 i.toNatClampNeg) :: st) (enc T) else none := rn_iaS dd_Law_law_351
theorem dd_Law_law_352 : decode (px_rw k_Law_law).2.1 352 = .ok (.invokevirtual 43, 3) := (by decide +kernel : decode code 352 = .ok (.invokevirtual 43, 3))
theorem e_Law_law_352 (L : List Value) (i0 : Int32) (i1 : Int32)  (T : TS)  : rn k_Law_law 352 L [.int i1, .int i0, .ref 53] (enc T) = bd (cl k_Dm_ink [.ref 53, .int i0, .int i1] (enc T)) (fun r g' => rn k_Law_law 355 L (r.toList ++ []) g') := rn_callV (n := 52) (As := [.int i0, .int i1]) (rest := []) dd_Law_law_352 rfl (by decide) (by decide) rfl rfl (Nat.le_of_ble_eq_true rfl) (Nat.le_of_ble_eq_true rfl) rfl
theorem dd_Law_law_355 : decode (px_rw k_Law_law).2.1 355 = .ok (.istore 6, 2) := (by decide +kernel : decode code 355 = .ok (.istore 6, 2))
theorem e_Law_law_355 (a0 a1 a2 a3 a4 a5 a6 : Value) (x : Int32) (st : List Value) (g : px_G) : rn k_Law_law 355 [a0, a1, a2, a3, a4, a5, a6] (.int x :: st) g = rn k_Law_law 357 [a0, a1, a2, a3, a4, px_kill a5, .int x] st g := rn_next dd_Law_law_355 rfl
theorem dd_Law_law_357 : decode (px_rw k_Law_law).2.1 357 = .ok (.aload_n 2, 1) := (by decide +kernel : decode code 357 = .ok (.aload_n 2, 1))
theorem e_Law_law_357 (a0 a1 a3 a4 a5 a6 : Value) (x : Nat) (st : List Value) (g : px_G) : rn k_Law_law 357 [a0, a1, .ref x, a3, a4, a5, a6] st g = rn k_Law_law 358 [a0, a1, .ref x, a3, a4, a5, a6] (.ref x :: st) g := rn_next dd_Law_law_357 rfl
theorem dd_Law_law_358 : decode (px_rw k_Law_law).2.1 358 = .ok (.invokevirtual 44, 3) := (by decide +kernel : decode code 358 = .ok (.invokevirtual 44, 3))
theorem e_Law_law_358 (L : List Value)   (T : TS)  : rn k_Law_law 358 L [.ref 53] (enc T) = bd (cl k_Dm_thrown [.ref 53] (enc T)) (fun r g' => rn k_Law_law 361 L (r.toList ++ []) g') := rn_callV (n := 52) (As := []) (rest := []) dd_Law_law_358 rfl (by decide) (by decide) rfl rfl (Nat.le_of_ble_eq_true rfl) (Nat.le_of_ble_eq_true rfl) rfl
theorem dd_Law_law_361 : decode (px_rw k_Law_law).2.1 361 = .ok (.iload 5, 2) := (by decide +kernel : decode code 361 = .ok (.iload 5, 2))
theorem e_Law_law_361 (a0 a1 a2 a3 a4 a6 : Value) (x : Int32) (st : List Value) (g : px_G) : rn k_Law_law 361 [a0, a1, a2, a3, a4, .int x, a6] st g = rn k_Law_law 363 [a0, a1, a2, a3, a4, .int x, a6] (.int x :: st) g := rn_next dd_Law_law_361 rfl
theorem dd_Law_law_363 : decode (px_rw k_Law_law).2.1 363 = .ok (.if_icmp .eq 5, 3) := (by decide +kernel : decode code 363 = .ok (.if_icmp .eq 5, 3))
theorem e_Law_law_363 (L : List Value) (x y : Int32) (st : List Value) (g : px_G) : rn k_Law_law 363 L (.int y :: .int x :: st) g = if x = y then rn k_Law_law 368 L st g else rn k_Law_law 366 L st g := rn_iceq dd_Law_law_363 (by decide)
theorem dd_Law_law_366 : decode (px_rw k_Law_law).2.1 366 = .ok (.iconst 0, 1) := (by decide +kernel : decode code 366 = .ok (.iconst 0, 1))
theorem e_Law_law_366 (L st : List Value) (g : px_G) : rn k_Law_law 366 L st g = rn k_Law_law 367 L (.int 0 :: st) g := rn_ipush (i := .iconst 0) dd_Law_law_366 rfl rfl (by decide)
theorem dd_Law_law_367 : decode (px_rw k_Law_law).2.1 367 = .ok (.ireturn, 1) := (by decide +kernel : decode code 367 = .ok (.ireturn, 1))
theorem e_Law_law_367 (L : List Value) (v : Int32) (g : px_G) (hv : v = 0 ∨ v = 1) : rn k_Law_law 367 L [.int v] g = some (some (.int v), g) := rn_zret dd_Law_law_367 rfl hv
theorem dd_Law_law_368 : decode (px_rw k_Law_law).2.1 368 = .ok (.iload 5, 2) := (by decide +kernel : decode code 368 = .ok (.iload 5, 2))
theorem e_Law_law_368 (a0 a1 a2 a3 a4 a6 : Value) (x : Int32) (st : List Value) (g : px_G) : rn k_Law_law 368 [a0, a1, a2, a3, a4, .int x, a6] st g = rn k_Law_law 370 [a0, a1, a2, a3, a4, .int x, a6] (.int x :: st) g := rn_next dd_Law_law_368 rfl
theorem dd_Law_law_370 : decode (px_rw k_Law_law).2.1 370 = .ok (.ifCond .ne 15, 3) := (by decide +kernel : decode code 370 = .ok (.ifCond .ne 15, 3))
theorem e_Law_law_370 (L : List Value) (x : Int32) (st : List Value) (g : px_G) : rn k_Law_law 370 L (.int x :: st) g = if x = 0 then rn k_Law_law 373 L st g else rn k_Law_law 385 L st g := rn_ifne dd_Law_law_370 (by decide)
theorem dd_Law_law_373 : decode (px_rw k_Law_law).2.1 373 = .ok (.aload_n 3, 1) := (by decide +kernel : decode code 373 = .ok (.aload_n 3, 1))
theorem e_Law_law_373 (a0 a1 a2 a4 a5 a6 : Value) (x : Nat) (st : List Value) (g : px_G) : rn k_Law_law 373 [a0, a1, a2, .ref x, a4, a5, a6] st g = rn k_Law_law 374 [a0, a1, a2, .ref x, a4, a5, a6] (.ref x :: st) g := rn_next dd_Law_law_373 rfl
theorem dd_Law_law_374 : decode (px_rw k_Law_law).2.1 374 = .ok (.iconst 0, 1) := (by decide +kernel : decode code 374 = .ok (.iconst 0, 1))
theorem e_Law_law_374 (L st : List Value) (g : px_G) : rn k_Law_law 374 L st g = rn k_Law_law 375 L (.int 0 :: st) g := rn_ipush (i := .iconst 0) dd_Law_law_374 rfl rfl (by decide)
theorem dd_Law_law_375 : decode (px_rw k_Law_law).2.1 375 = .ok (.laload, 1) := (by decide +kernel : decode code 375 = .ok (.laload, 1))
theorem e_Law_law_375 (L : List Value) (i : Int32) (p : Nat) (st : List Value) (T : TS) (hp : (sh p).1 = 1) : rn k_Law_law 375 L (.int i :: .ref p :: st) (enc T) = if px_in i (sh p).2 then rn k_Law_law 376 L (.long (T.2.1 p i.toNatClampNeg) :: st) (enc T) else none := rn_lald dd_Law_law_375 (Prod.ext hp rfl)
theorem dd_Law_law_376 : decode (px_rw k_Law_law).2.1 376 = .ok (.iload 6, 2) := (by decide +kernel : decode code 376 = .ok (.iload 6, 2))
theorem e_Law_law_376 (a0 a1 a2 a3 a4 a5 : Value) (x : Int32) (st : List Value) (g : px_G) : rn k_Law_law 376 [a0, a1, a2, a3, a4, a5, .int x] st g = rn k_Law_law 378 [a0, a1, a2, a3, a4, a5, .int x] (.int x :: st) g := rn_next dd_Law_law_376 rfl
theorem dd_Law_law_378 : decode (px_rw k_Law_law).2.1 378 = .ok (.i2l, 1) := (by decide +kernel : decode code 378 = .ok (.i2l, 1))
theorem e_Law_law_378 (L : List Value) (x : Int32) (st : List Value) (g : px_G) : rn k_Law_law 378 L (.int x :: st) g = rn k_Law_law 379 L (.long x.toInt64 :: st) g := rn_next dd_Law_law_378 rfl
theorem dd_Law_law_379 : decode (px_rw k_Law_law).2.1 379 = .ok (.lcmp, 1) := (by decide +kernel : decode code 379 = .ok (.lcmp, 1))
theorem e_Law_law_379 (L : List Value) (x y : Int64) (st : List Value) (g : px_G) : rn k_Law_law 379 L (.long y :: .long x :: st) g = rn k_Law_law 380 L (.int (lg_cmp x y) :: st) g := rn_next dd_Law_law_379 rfl
theorem dd_Law_law_380 : decode (px_rw k_Law_law).2.1 380 = .ok (.ifCond .eq 5, 3) := (by decide +kernel : decode code 380 = .ok (.ifCond .eq 5, 3))
theorem e_Law_law_380 (L : List Value) (x : Int32) (st : List Value) (g : px_G) : rn k_Law_law 380 L (.int x :: st) g = if x = 0 then rn k_Law_law 385 L st g else rn k_Law_law 383 L st g := rn_ifeq dd_Law_law_380 (by decide)
theorem dd_Law_law_383 : decode (px_rw k_Law_law).2.1 383 = .ok (.iconst 0, 1) := (by decide +kernel : decode code 383 = .ok (.iconst 0, 1))
theorem e_Law_law_383 (L st : List Value) (g : px_G) : rn k_Law_law 383 L st g = rn k_Law_law 384 L (.int 0 :: st) g := rn_ipush (i := .iconst 0) dd_Law_law_383 rfl rfl (by decide)
theorem dd_Law_law_384 : decode (px_rw k_Law_law).2.1 384 = .ok (.ireturn, 1) := (by decide +kernel : decode code 384 = .ok (.ireturn, 1))
theorem e_Law_law_384 (L : List Value) (v : Int32) (g : px_G) (hv : v = 0 ∨ v = 1) : rn k_Law_law 384 L [.int v] g = some (some (.int v), g) := rn_zret dd_Law_law_384 rfl hv
theorem dd_Law_law_385 : decode (px_rw k_Law_law).2.1 385 = .ok (.goto 1376, 3) := (by decide +kernel : decode code 385 = .ok (.goto 1376, 3))
theorem e_Law_law_385 (L st : List Value) (g : px_G) : rn k_Law_law 385 L st g = rn k_Law_law 1761 L st g := rn_goto dd_Law_law_385 (by decide)
theorem dd_Law_law_388 : decode (px_rw k_Law_law).2.1 388 = .ok (.aload_n 1, 1) := (by decide +kernel : decode code 388 = .ok (.aload_n 1, 1))
theorem e_Law_law_388 (a0 a2 a3 a4 a5 a6 : Value) (x : Nat) (st : List Value) (g : px_G) : rn k_Law_law 388 [a0, .ref x, a2, a3, a4, a5, a6] st g = rn k_Law_law 389 [a0, .ref x, a2, a3, a4, a5, a6] (.ref x :: st) g := rn_next dd_Law_law_388 rfl
theorem dd_Law_law_389 : decode (px_rw k_Law_law).2.1 389 = .ok (.aload_n 0, 1) := (by decide +kernel : decode code 389 = .ok (.aload_n 0, 1))
theorem e_Law_law_389 (a1 a2 a3 a4 a5 a6 : Value) (x : Nat) (st : List Value) (g : px_G) : rn k_Law_law 389 [.ref x, a1, a2, a3, a4, a5, a6] st g = rn k_Law_law 390 [.ref x, a1, a2, a3, a4, a5, a6] (.ref x :: st) g := rn_next dd_Law_law_389 rfl
theorem dd_Law_law_390 : decode (px_rw k_Law_law).2.1 390 = .ok (.iload 4, 2) := (by decide +kernel : decode code 390 = .ok (.iload 4, 2))
theorem e_Law_law_390 (a0 a1 a2 a3 a5 a6 : Value) (x : Int32) (st : List Value) (g : px_G) : rn k_Law_law 390 [a0, a1, a2, a3, .int x, a5, a6] st g = rn k_Law_law 392 [a0, a1, a2, a3, .int x, a5, a6] (.int x :: st) g := rn_next dd_Law_law_390 rfl
theorem dd_Law_law_392 : decode (px_rw k_Law_law).2.1 392 = .ok (.iconst 1, 1) := (by decide +kernel : decode code 392 = .ok (.iconst 1, 1))
theorem e_Law_law_392 (L st : List Value) (g : px_G) : rn k_Law_law 392 L st g = rn k_Law_law 393 L (.int 1 :: st) g := rn_ipush (i := .iconst 1) dd_Law_law_392 rfl rfl (by decide)
theorem dd_Law_law_393 : decode (px_rw k_Law_law).2.1 393 = .ok (.iadd, 1) := (by decide +kernel : decode code 393 = .ok (.iadd, 1))
theorem e_Law_law_393 (L : List Value) (x y : Int32) (st : List Value) (g : px_G) : rn k_Law_law 393 L (.int y :: .int x :: st) g = rn k_Law_law 394 L (.int (x + y) :: st) g := rn_next dd_Law_law_393 rfl
theorem dd_Law_law_394 : decode (px_rw k_Law_law).2.1 394 = .ok (.iaload, 1) := (by decide +kernel : decode code 394 = .ok (.iaload, 1))
theorem e_Law_law_394 (L : List Value) (i : Int32) (p : Nat) (st : List Value) (T : TS) (hp : (sh p).1 = 0) : rn k_Law_law 394 L (.int i :: .ref p :: st) (enc T) = if px_in i (sh p).2 then rn k_Law_law 395 L (.int (T.1 p i.toNatClampNeg) :: st) (enc T) else none := rn_iald dd_Law_law_394 (Prod.ext hp rfl)
theorem e_Law_law_394S (L : List Value) (i : Int32) (st : List Value) (T : TS) : rn k_Law_law 394 L (.int i :: .ref 1002 :: st) (enc T) = if px_in i T.2.2.2 then rn k_Law_law 395 L (.int (T.1 1002 i.toNatClampNeg) :: st) (enc T) else none := rn_iaS dd_Law_law_394
theorem dd_Law_law_395 : decode (px_rw k_Law_law).2.1 395 = .ok (.aload_n 0, 1) := (by decide +kernel : decode code 395 = .ok (.aload_n 0, 1))
theorem e_Law_law_395 (a1 a2 a3 a4 a5 a6 : Value) (x : Nat) (st : List Value) (g : px_G) : rn k_Law_law 395 [.ref x, a1, a2, a3, a4, a5, a6] st g = rn k_Law_law 396 [.ref x, a1, a2, a3, a4, a5, a6] (.ref x :: st) g := rn_next dd_Law_law_395 rfl
theorem dd_Law_law_396 : decode (px_rw k_Law_law).2.1 396 = .ok (.iload 4, 2) := (by decide +kernel : decode code 396 = .ok (.iload 4, 2))
theorem e_Law_law_396 (a0 a1 a2 a3 a5 a6 : Value) (x : Int32) (st : List Value) (g : px_G) : rn k_Law_law 396 [a0, a1, a2, a3, .int x, a5, a6] st g = rn k_Law_law 398 [a0, a1, a2, a3, .int x, a5, a6] (.int x :: st) g := rn_next dd_Law_law_396 rfl
theorem dd_Law_law_398 : decode (px_rw k_Law_law).2.1 398 = .ok (.iconst 2, 1) := (by decide +kernel : decode code 398 = .ok (.iconst 2, 1))
theorem e_Law_law_398 (L st : List Value) (g : px_G) : rn k_Law_law 398 L st g = rn k_Law_law 399 L (.int 2 :: st) g := rn_ipush (i := .iconst 2) dd_Law_law_398 rfl rfl (by decide)
theorem dd_Law_law_399 : decode (px_rw k_Law_law).2.1 399 = .ok (.iadd, 1) := (by decide +kernel : decode code 399 = .ok (.iadd, 1))
theorem e_Law_law_399 (L : List Value) (x y : Int32) (st : List Value) (g : px_G) : rn k_Law_law 399 L (.int y :: .int x :: st) g = rn k_Law_law 400 L (.int (x + y) :: st) g := rn_next dd_Law_law_399 rfl
theorem dd_Law_law_400 : decode (px_rw k_Law_law).2.1 400 = .ok (.iaload, 1) := (by decide +kernel : decode code 400 = .ok (.iaload, 1))
theorem e_Law_law_400 (L : List Value) (i : Int32) (p : Nat) (st : List Value) (T : TS) (hp : (sh p).1 = 0) : rn k_Law_law 400 L (.int i :: .ref p :: st) (enc T) = if px_in i (sh p).2 then rn k_Law_law 401 L (.int (T.1 p i.toNatClampNeg) :: st) (enc T) else none := rn_iald dd_Law_law_400 (Prod.ext hp rfl)
theorem e_Law_law_400S (L : List Value) (i : Int32) (st : List Value) (T : TS) : rn k_Law_law 400 L (.int i :: .ref 1002 :: st) (enc T) = if px_in i T.2.2.2 then rn k_Law_law 401 L (.int (T.1 1002 i.toNatClampNeg) :: st) (enc T) else none := rn_iaS dd_Law_law_400
theorem dd_Law_law_401 : decode (px_rw k_Law_law).2.1 401 = .ok (.invokevirtual 47, 3) := (by decide +kernel : decode code 401 = .ok (.invokevirtual 47, 3))
theorem e_Law_law_401 (L : List Value) (i0 : Int32) (i1 : Int32)  (T : TS)  : rn k_Law_law 401 L [.int i1, .int i0, .ref 0] (enc T) = bd (cl k_Ds_brick [.ref 0, .int i0, .int i1] (enc T)) (fun r g' => rn k_Law_law 404 L (r.toList ++ []) g') := rn_callV (n := 13) (As := [.int i0, .int i1]) (rest := []) dd_Law_law_401 rfl (by decide) (by decide) rfl rfl (Nat.le_of_ble_eq_true rfl) (Nat.le_of_ble_eq_true rfl) rfl
theorem dd_Law_law_404 : decode (px_rw k_Law_law).2.1 404 = .ok (.aload_n 2, 1) := (by decide +kernel : decode code 404 = .ok (.aload_n 2, 1))
theorem e_Law_law_404 (a0 a1 a3 a4 a5 a6 : Value) (x : Nat) (st : List Value) (g : px_G) : rn k_Law_law 404 [a0, a1, .ref x, a3, a4, a5, a6] st g = rn k_Law_law 405 [a0, a1, .ref x, a3, a4, a5, a6] (.ref x :: st) g := rn_next dd_Law_law_404 rfl
theorem dd_Law_law_405 : decode (px_rw k_Law_law).2.1 405 = .ok (.aload_n 0, 1) := (by decide +kernel : decode code 405 = .ok (.aload_n 0, 1))
theorem e_Law_law_405 (a1 a2 a3 a4 a5 a6 : Value) (x : Nat) (st : List Value) (g : px_G) : rn k_Law_law 405 [.ref x, a1, a2, a3, a4, a5, a6] st g = rn k_Law_law 406 [.ref x, a1, a2, a3, a4, a5, a6] (.ref x :: st) g := rn_next dd_Law_law_405 rfl
theorem dd_Law_law_406 : decode (px_rw k_Law_law).2.1 406 = .ok (.iload 4, 2) := (by decide +kernel : decode code 406 = .ok (.iload 4, 2))
theorem e_Law_law_406 (a0 a1 a2 a3 a5 a6 : Value) (x : Int32) (st : List Value) (g : px_G) : rn k_Law_law 406 [a0, a1, a2, a3, .int x, a5, a6] st g = rn k_Law_law 408 [a0, a1, a2, a3, .int x, a5, a6] (.int x :: st) g := rn_next dd_Law_law_406 rfl
theorem dd_Law_law_408 : decode (px_rw k_Law_law).2.1 408 = .ok (.iconst 1, 1) := (by decide +kernel : decode code 408 = .ok (.iconst 1, 1))
theorem e_Law_law_408 (L st : List Value) (g : px_G) : rn k_Law_law 408 L st g = rn k_Law_law 409 L (.int 1 :: st) g := rn_ipush (i := .iconst 1) dd_Law_law_408 rfl rfl (by decide)
theorem dd_Law_law_409 : decode (px_rw k_Law_law).2.1 409 = .ok (.iadd, 1) := (by decide +kernel : decode code 409 = .ok (.iadd, 1))
theorem e_Law_law_409 (L : List Value) (x y : Int32) (st : List Value) (g : px_G) : rn k_Law_law 409 L (.int y :: .int x :: st) g = rn k_Law_law 410 L (.int (x + y) :: st) g := rn_next dd_Law_law_409 rfl
theorem dd_Law_law_410 : decode (px_rw k_Law_law).2.1 410 = .ok (.iaload, 1) := (by decide +kernel : decode code 410 = .ok (.iaload, 1))
theorem e_Law_law_410 (L : List Value) (i : Int32) (p : Nat) (st : List Value) (T : TS) (hp : (sh p).1 = 0) : rn k_Law_law 410 L (.int i :: .ref p :: st) (enc T) = if px_in i (sh p).2 then rn k_Law_law 411 L (.int (T.1 p i.toNatClampNeg) :: st) (enc T) else none := rn_iald dd_Law_law_410 (Prod.ext hp rfl)
theorem e_Law_law_410S (L : List Value) (i : Int32) (st : List Value) (T : TS) : rn k_Law_law 410 L (.int i :: .ref 1002 :: st) (enc T) = if px_in i T.2.2.2 then rn k_Law_law 411 L (.int (T.1 1002 i.toNatClampNeg) :: st) (enc T) else none := rn_iaS dd_Law_law_410
theorem dd_Law_law_411 : decode (px_rw k_Law_law).2.1 411 = .ok (.aload_n 0, 1) := (by decide +kernel : decode code 411 = .ok (.aload_n 0, 1))
theorem e_Law_law_411 (a1 a2 a3 a4 a5 a6 : Value) (x : Nat) (st : List Value) (g : px_G) : rn k_Law_law 411 [.ref x, a1, a2, a3, a4, a5, a6] st g = rn k_Law_law 412 [.ref x, a1, a2, a3, a4, a5, a6] (.ref x :: st) g := rn_next dd_Law_law_411 rfl
theorem dd_Law_law_412 : decode (px_rw k_Law_law).2.1 412 = .ok (.iload 4, 2) := (by decide +kernel : decode code 412 = .ok (.iload 4, 2))
theorem e_Law_law_412 (a0 a1 a2 a3 a5 a6 : Value) (x : Int32) (st : List Value) (g : px_G) : rn k_Law_law 412 [a0, a1, a2, a3, .int x, a5, a6] st g = rn k_Law_law 414 [a0, a1, a2, a3, .int x, a5, a6] (.int x :: st) g := rn_next dd_Law_law_412 rfl
theorem dd_Law_law_414 : decode (px_rw k_Law_law).2.1 414 = .ok (.iconst 2, 1) := (by decide +kernel : decode code 414 = .ok (.iconst 2, 1))
theorem e_Law_law_414 (L st : List Value) (g : px_G) : rn k_Law_law 414 L st g = rn k_Law_law 415 L (.int 2 :: st) g := rn_ipush (i := .iconst 2) dd_Law_law_414 rfl rfl (by decide)
theorem dd_Law_law_415 : decode (px_rw k_Law_law).2.1 415 = .ok (.iadd, 1) := (by decide +kernel : decode code 415 = .ok (.iadd, 1))
theorem e_Law_law_415 (L : List Value) (x y : Int32) (st : List Value) (g : px_G) : rn k_Law_law 415 L (.int y :: .int x :: st) g = rn k_Law_law 416 L (.int (x + y) :: st) g := rn_next dd_Law_law_415 rfl
theorem dd_Law_law_416 : decode (px_rw k_Law_law).2.1 416 = .ok (.iaload, 1) := (by decide +kernel : decode code 416 = .ok (.iaload, 1))
theorem e_Law_law_416 (L : List Value) (i : Int32) (p : Nat) (st : List Value) (T : TS) (hp : (sh p).1 = 0) : rn k_Law_law 416 L (.int i :: .ref p :: st) (enc T) = if px_in i (sh p).2 then rn k_Law_law 417 L (.int (T.1 p i.toNatClampNeg) :: st) (enc T) else none := rn_iald dd_Law_law_416 (Prod.ext hp rfl)
theorem e_Law_law_416S (L : List Value) (i : Int32) (st : List Value) (T : TS) : rn k_Law_law 416 L (.int i :: .ref 1002 :: st) (enc T) = if px_in i T.2.2.2 then rn k_Law_law 417 L (.int (T.1 1002 i.toNatClampNeg) :: st) (enc T) else none := rn_iaS dd_Law_law_416
theorem dd_Law_law_417 : decode (px_rw k_Law_law).2.1 417 = .ok (.invokevirtual 50, 3) := (by decide +kernel : decode code 417 = .ok (.invokevirtual 50, 3))
theorem e_Law_law_417 (L : List Value) (i0 : Int32) (i1 : Int32) (i100 : Int32)  (T : TS)  : rn k_Law_law 417 L [.int i1, .int i0, .ref 53, .int i100] (enc T) = bd (cl k_Dm_brick [.ref 53, .int i0, .int i1] (enc T)) (fun r g' => rn k_Law_law 420 L (r.toList ++ [.int i100]) g') := rn_callV (n := 52) (As := [.int i0, .int i1]) (rest := [.int i100]) dd_Law_law_417 rfl (by decide) (by decide) rfl rfl (Nat.le_of_ble_eq_true rfl) (Nat.le_of_ble_eq_true rfl) rfl
theorem dd_Law_law_420 : decode (px_rw k_Law_law).2.1 420 = .ok (.if_icmp .eq 1341, 3) := (by decide +kernel : decode code 420 = .ok (.if_icmp .eq 1341, 3))
theorem e_Law_law_420 (L : List Value) (x y : Int32) (st : List Value) (g : px_G) : rn k_Law_law 420 L (.int y :: .int x :: st) g = if x = y then rn k_Law_law 1761 L st g else rn k_Law_law 423 L st g := rn_iceq dd_Law_law_420 (by decide)
theorem dd_Law_law_423 : decode (px_rw k_Law_law).2.1 423 = .ok (.iconst 0, 1) := (by decide +kernel : decode code 423 = .ok (.iconst 0, 1))
theorem e_Law_law_423 (L st : List Value) (g : px_G) : rn k_Law_law 423 L st g = rn k_Law_law 424 L (.int 0 :: st) g := rn_ipush (i := .iconst 0) dd_Law_law_423 rfl rfl (by decide)
theorem dd_Law_law_424 : decode (px_rw k_Law_law).2.1 424 = .ok (.ireturn, 1) := (by decide +kernel : decode code 424 = .ok (.ireturn, 1))
theorem e_Law_law_424 (L : List Value) (v : Int32) (g : px_G) (hv : v = 0 ∨ v = 1) : rn k_Law_law 424 L [.int v] g = some (some (.int v), g) := rn_zret dd_Law_law_424 rfl hv
theorem dd_Law_law_425 : decode (px_rw k_Law_law).2.1 425 = .ok (.aload_n 1, 1) := (by decide +kernel : decode code 425 = .ok (.aload_n 1, 1))
theorem e_Law_law_425 (a0 a2 a3 a4 a5 a6 : Value) (x : Nat) (st : List Value) (g : px_G) : rn k_Law_law 425 [a0, .ref x, a2, a3, a4, a5, a6] st g = rn k_Law_law 426 [a0, .ref x, a2, a3, a4, a5, a6] (.ref x :: st) g := rn_next dd_Law_law_425 rfl
theorem dd_Law_law_426 : decode (px_rw k_Law_law).2.1 426 = .ok (.aload_n 0, 1) := (by decide +kernel : decode code 426 = .ok (.aload_n 0, 1))
theorem e_Law_law_426 (a1 a2 a3 a4 a5 a6 : Value) (x : Nat) (st : List Value) (g : px_G) : rn k_Law_law 426 [.ref x, a1, a2, a3, a4, a5, a6] st g = rn k_Law_law 427 [.ref x, a1, a2, a3, a4, a5, a6] (.ref x :: st) g := rn_next dd_Law_law_426 rfl
theorem dd_Law_law_427 : decode (px_rw k_Law_law).2.1 427 = .ok (.iload 4, 2) := (by decide +kernel : decode code 427 = .ok (.iload 4, 2))
theorem e_Law_law_427 (a0 a1 a2 a3 a5 a6 : Value) (x : Int32) (st : List Value) (g : px_G) : rn k_Law_law 427 [a0, a1, a2, a3, .int x, a5, a6] st g = rn k_Law_law 429 [a0, a1, a2, a3, .int x, a5, a6] (.int x :: st) g := rn_next dd_Law_law_427 rfl
theorem dd_Law_law_429 : decode (px_rw k_Law_law).2.1 429 = .ok (.iconst 1, 1) := (by decide +kernel : decode code 429 = .ok (.iconst 1, 1))
theorem e_Law_law_429 (L st : List Value) (g : px_G) : rn k_Law_law 429 L st g = rn k_Law_law 430 L (.int 1 :: st) g := rn_ipush (i := .iconst 1) dd_Law_law_429 rfl rfl (by decide)
theorem dd_Law_law_430 : decode (px_rw k_Law_law).2.1 430 = .ok (.iadd, 1) := (by decide +kernel : decode code 430 = .ok (.iadd, 1))
theorem e_Law_law_430 (L : List Value) (x y : Int32) (st : List Value) (g : px_G) : rn k_Law_law 430 L (.int y :: .int x :: st) g = rn k_Law_law 431 L (.int (x + y) :: st) g := rn_next dd_Law_law_430 rfl
theorem dd_Law_law_431 : decode (px_rw k_Law_law).2.1 431 = .ok (.iaload, 1) := (by decide +kernel : decode code 431 = .ok (.iaload, 1))
theorem e_Law_law_431 (L : List Value) (i : Int32) (p : Nat) (st : List Value) (T : TS) (hp : (sh p).1 = 0) : rn k_Law_law 431 L (.int i :: .ref p :: st) (enc T) = if px_in i (sh p).2 then rn k_Law_law 432 L (.int (T.1 p i.toNatClampNeg) :: st) (enc T) else none := rn_iald dd_Law_law_431 (Prod.ext hp rfl)
theorem e_Law_law_431S (L : List Value) (i : Int32) (st : List Value) (T : TS) : rn k_Law_law 431 L (.int i :: .ref 1002 :: st) (enc T) = if px_in i T.2.2.2 then rn k_Law_law 432 L (.int (T.1 1002 i.toNatClampNeg) :: st) (enc T) else none := rn_iaS dd_Law_law_431
theorem dd_Law_law_432 : decode (px_rw k_Law_law).2.1 432 = .ok (.aload_n 0, 1) := (by decide +kernel : decode code 432 = .ok (.aload_n 0, 1))
theorem e_Law_law_432 (a1 a2 a3 a4 a5 a6 : Value) (x : Nat) (st : List Value) (g : px_G) : rn k_Law_law 432 [.ref x, a1, a2, a3, a4, a5, a6] st g = rn k_Law_law 433 [.ref x, a1, a2, a3, a4, a5, a6] (.ref x :: st) g := rn_next dd_Law_law_432 rfl
theorem dd_Law_law_433 : decode (px_rw k_Law_law).2.1 433 = .ok (.iload 4, 2) := (by decide +kernel : decode code 433 = .ok (.iload 4, 2))
theorem e_Law_law_433 (a0 a1 a2 a3 a5 a6 : Value) (x : Int32) (st : List Value) (g : px_G) : rn k_Law_law 433 [a0, a1, a2, a3, .int x, a5, a6] st g = rn k_Law_law 435 [a0, a1, a2, a3, .int x, a5, a6] (.int x :: st) g := rn_next dd_Law_law_433 rfl
theorem dd_Law_law_435 : decode (px_rw k_Law_law).2.1 435 = .ok (.iconst 2, 1) := (by decide +kernel : decode code 435 = .ok (.iconst 2, 1))
theorem e_Law_law_435 (L st : List Value) (g : px_G) : rn k_Law_law 435 L st g = rn k_Law_law 436 L (.int 2 :: st) g := rn_ipush (i := .iconst 2) dd_Law_law_435 rfl rfl (by decide)
theorem dd_Law_law_436 : decode (px_rw k_Law_law).2.1 436 = .ok (.iadd, 1) := (by decide +kernel : decode code 436 = .ok (.iadd, 1))
theorem e_Law_law_436 (L : List Value) (x y : Int32) (st : List Value) (g : px_G) : rn k_Law_law 436 L (.int y :: .int x :: st) g = rn k_Law_law 437 L (.int (x + y) :: st) g := rn_next dd_Law_law_436 rfl
theorem dd_Law_law_437 : decode (px_rw k_Law_law).2.1 437 = .ok (.iaload, 1) := (by decide +kernel : decode code 437 = .ok (.iaload, 1))
theorem e_Law_law_437 (L : List Value) (i : Int32) (p : Nat) (st : List Value) (T : TS) (hp : (sh p).1 = 0) : rn k_Law_law 437 L (.int i :: .ref p :: st) (enc T) = if px_in i (sh p).2 then rn k_Law_law 438 L (.int (T.1 p i.toNatClampNeg) :: st) (enc T) else none := rn_iald dd_Law_law_437 (Prod.ext hp rfl)
theorem e_Law_law_437S (L : List Value) (i : Int32) (st : List Value) (T : TS) : rn k_Law_law 437 L (.int i :: .ref 1002 :: st) (enc T) = if px_in i T.2.2.2 then rn k_Law_law 438 L (.int (T.1 1002 i.toNatClampNeg) :: st) (enc T) else none := rn_iaS dd_Law_law_437
theorem dd_Law_law_438 : decode (px_rw k_Law_law).2.1 438 = .ok (.aload_n 0, 1) := (by decide +kernel : decode code 438 = .ok (.aload_n 0, 1))
theorem e_Law_law_438 (a1 a2 a3 a4 a5 a6 : Value) (x : Nat) (st : List Value) (g : px_G) : rn k_Law_law 438 [.ref x, a1, a2, a3, a4, a5, a6] st g = rn k_Law_law 439 [.ref x, a1, a2, a3, a4, a5, a6] (.ref x :: st) g := rn_next dd_Law_law_438 rfl
theorem dd_Law_law_439 : decode (px_rw k_Law_law).2.1 439 = .ok (.iload 4, 2) := (by decide +kernel : decode code 439 = .ok (.iload 4, 2))
theorem e_Law_law_439 (a0 a1 a2 a3 a5 a6 : Value) (x : Int32) (st : List Value) (g : px_G) : rn k_Law_law 439 [a0, a1, a2, a3, .int x, a5, a6] st g = rn k_Law_law 441 [a0, a1, a2, a3, .int x, a5, a6] (.int x :: st) g := rn_next dd_Law_law_439 rfl
theorem dd_Law_law_441 : decode (px_rw k_Law_law).2.1 441 = .ok (.iconst 3, 1) := (by decide +kernel : decode code 441 = .ok (.iconst 3, 1))
theorem e_Law_law_441 (L st : List Value) (g : px_G) : rn k_Law_law 441 L st g = rn k_Law_law 442 L (.int 3 :: st) g := rn_ipush (i := .iconst 3) dd_Law_law_441 rfl rfl (by decide)
theorem dd_Law_law_442 : decode (px_rw k_Law_law).2.1 442 = .ok (.iadd, 1) := (by decide +kernel : decode code 442 = .ok (.iadd, 1))
theorem e_Law_law_442 (L : List Value) (x y : Int32) (st : List Value) (g : px_G) : rn k_Law_law 442 L (.int y :: .int x :: st) g = rn k_Law_law 443 L (.int (x + y) :: st) g := rn_next dd_Law_law_442 rfl
theorem dd_Law_law_443 : decode (px_rw k_Law_law).2.1 443 = .ok (.iaload, 1) := (by decide +kernel : decode code 443 = .ok (.iaload, 1))
theorem e_Law_law_443 (L : List Value) (i : Int32) (p : Nat) (st : List Value) (T : TS) (hp : (sh p).1 = 0) : rn k_Law_law 443 L (.int i :: .ref p :: st) (enc T) = if px_in i (sh p).2 then rn k_Law_law 444 L (.int (T.1 p i.toNatClampNeg) :: st) (enc T) else none := rn_iald dd_Law_law_443 (Prod.ext hp rfl)
theorem e_Law_law_443S (L : List Value) (i : Int32) (st : List Value) (T : TS) : rn k_Law_law 443 L (.int i :: .ref 1002 :: st) (enc T) = if px_in i T.2.2.2 then rn k_Law_law 444 L (.int (T.1 1002 i.toNatClampNeg) :: st) (enc T) else none := rn_iaS dd_Law_law_443
theorem dd_Law_law_444 : decode (px_rw k_Law_law).2.1 444 = .ok (.aload_n 0, 1) := (by decide +kernel : decode code 444 = .ok (.aload_n 0, 1))
theorem e_Law_law_444 (a1 a2 a3 a4 a5 a6 : Value) (x : Nat) (st : List Value) (g : px_G) : rn k_Law_law 444 [.ref x, a1, a2, a3, a4, a5, a6] st g = rn k_Law_law 445 [.ref x, a1, a2, a3, a4, a5, a6] (.ref x :: st) g := rn_next dd_Law_law_444 rfl
theorem dd_Law_law_445 : decode (px_rw k_Law_law).2.1 445 = .ok (.iload 4, 2) := (by decide +kernel : decode code 445 = .ok (.iload 4, 2))
theorem e_Law_law_445 (a0 a1 a2 a3 a5 a6 : Value) (x : Int32) (st : List Value) (g : px_G) : rn k_Law_law 445 [a0, a1, a2, a3, .int x, a5, a6] st g = rn k_Law_law 447 [a0, a1, a2, a3, .int x, a5, a6] (.int x :: st) g := rn_next dd_Law_law_445 rfl
theorem dd_Law_law_447 : decode (px_rw k_Law_law).2.1 447 = .ok (.iconst 4, 1) := (by decide +kernel : decode code 447 = .ok (.iconst 4, 1))
theorem e_Law_law_447 (L st : List Value) (g : px_G) : rn k_Law_law 447 L st g = rn k_Law_law 448 L (.int 4 :: st) g := rn_ipush (i := .iconst 4) dd_Law_law_447 rfl rfl (by decide)
theorem dd_Law_law_448 : decode (px_rw k_Law_law).2.1 448 = .ok (.iadd, 1) := (by decide +kernel : decode code 448 = .ok (.iadd, 1))
theorem e_Law_law_448 (L : List Value) (x y : Int32) (st : List Value) (g : px_G) : rn k_Law_law 448 L (.int y :: .int x :: st) g = rn k_Law_law 449 L (.int (x + y) :: st) g := rn_next dd_Law_law_448 rfl
theorem dd_Law_law_449 : decode (px_rw k_Law_law).2.1 449 = .ok (.iaload, 1) := (by decide +kernel : decode code 449 = .ok (.iaload, 1))
theorem e_Law_law_449 (L : List Value) (i : Int32) (p : Nat) (st : List Value) (T : TS) (hp : (sh p).1 = 0) : rn k_Law_law 449 L (.int i :: .ref p :: st) (enc T) = if px_in i (sh p).2 then rn k_Law_law 450 L (.int (T.1 p i.toNatClampNeg) :: st) (enc T) else none := rn_iald dd_Law_law_449 (Prod.ext hp rfl)
theorem e_Law_law_449S (L : List Value) (i : Int32) (st : List Value) (T : TS) : rn k_Law_law 449 L (.int i :: .ref 1002 :: st) (enc T) = if px_in i T.2.2.2 then rn k_Law_law 450 L (.int (T.1 1002 i.toNatClampNeg) :: st) (enc T) else none := rn_iaS dd_Law_law_449
theorem dd_Law_law_450 : decode (px_rw k_Law_law).2.1 450 = .ok (.invokevirtual 51, 3) := (by decide +kernel : decode code 450 = .ok (.invokevirtual 51, 3))
theorem e_Law_law_450 (L : List Value) (i0 : Int32) (i1 : Int32) (i2 : Int32) (i3 : Int32)  (T : TS)  : rn k_Law_law 450 L [.int i3, .int i2, .int i1, .int i0, .ref 0] (enc T) = bd (cl k_Ds_home [.ref 0, .int i0, .int i1, .int i2, .int i3] (enc T)) (fun r g' => rn k_Law_law 453 L (r.toList ++ []) g') := rn_callV (n := 13) (As := [.int i0, .int i1, .int i2, .int i3]) (rest := []) dd_Law_law_450 rfl (by decide) (by decide) rfl rfl (Nat.le_of_ble_eq_true rfl) (Nat.le_of_ble_eq_true rfl) rfl
theorem dd_Law_law_453 : decode (px_rw k_Law_law).2.1 453 = .ok (.aload_n 2, 1) := (by decide +kernel : decode code 453 = .ok (.aload_n 2, 1))
theorem e_Law_law_453 (a0 a1 a3 a4 a5 a6 : Value) (x : Nat) (st : List Value) (g : px_G) : rn k_Law_law 453 [a0, a1, .ref x, a3, a4, a5, a6] st g = rn k_Law_law 454 [a0, a1, .ref x, a3, a4, a5, a6] (.ref x :: st) g := rn_next dd_Law_law_453 rfl
theorem dd_Law_law_454 : decode (px_rw k_Law_law).2.1 454 = .ok (.aload_n 0, 1) := (by decide +kernel : decode code 454 = .ok (.aload_n 0, 1))
theorem e_Law_law_454 (a1 a2 a3 a4 a5 a6 : Value) (x : Nat) (st : List Value) (g : px_G) : rn k_Law_law 454 [.ref x, a1, a2, a3, a4, a5, a6] st g = rn k_Law_law 455 [.ref x, a1, a2, a3, a4, a5, a6] (.ref x :: st) g := rn_next dd_Law_law_454 rfl
theorem dd_Law_law_455 : decode (px_rw k_Law_law).2.1 455 = .ok (.iload 4, 2) := (by decide +kernel : decode code 455 = .ok (.iload 4, 2))
theorem e_Law_law_455 (a0 a1 a2 a3 a5 a6 : Value) (x : Int32) (st : List Value) (g : px_G) : rn k_Law_law 455 [a0, a1, a2, a3, .int x, a5, a6] st g = rn k_Law_law 457 [a0, a1, a2, a3, .int x, a5, a6] (.int x :: st) g := rn_next dd_Law_law_455 rfl
theorem dd_Law_law_457 : decode (px_rw k_Law_law).2.1 457 = .ok (.iconst 1, 1) := (by decide +kernel : decode code 457 = .ok (.iconst 1, 1))
theorem e_Law_law_457 (L st : List Value) (g : px_G) : rn k_Law_law 457 L st g = rn k_Law_law 458 L (.int 1 :: st) g := rn_ipush (i := .iconst 1) dd_Law_law_457 rfl rfl (by decide)
theorem dd_Law_law_458 : decode (px_rw k_Law_law).2.1 458 = .ok (.iadd, 1) := (by decide +kernel : decode code 458 = .ok (.iadd, 1))
theorem e_Law_law_458 (L : List Value) (x y : Int32) (st : List Value) (g : px_G) : rn k_Law_law 458 L (.int y :: .int x :: st) g = rn k_Law_law 459 L (.int (x + y) :: st) g := rn_next dd_Law_law_458 rfl
theorem dd_Law_law_459 : decode (px_rw k_Law_law).2.1 459 = .ok (.iaload, 1) := (by decide +kernel : decode code 459 = .ok (.iaload, 1))
theorem e_Law_law_459 (L : List Value) (i : Int32) (p : Nat) (st : List Value) (T : TS) (hp : (sh p).1 = 0) : rn k_Law_law 459 L (.int i :: .ref p :: st) (enc T) = if px_in i (sh p).2 then rn k_Law_law 460 L (.int (T.1 p i.toNatClampNeg) :: st) (enc T) else none := rn_iald dd_Law_law_459 (Prod.ext hp rfl)
theorem e_Law_law_459S (L : List Value) (i : Int32) (st : List Value) (T : TS) : rn k_Law_law 459 L (.int i :: .ref 1002 :: st) (enc T) = if px_in i T.2.2.2 then rn k_Law_law 460 L (.int (T.1 1002 i.toNatClampNeg) :: st) (enc T) else none := rn_iaS dd_Law_law_459
theorem dd_Law_law_460 : decode (px_rw k_Law_law).2.1 460 = .ok (.aload_n 0, 1) := (by decide +kernel : decode code 460 = .ok (.aload_n 0, 1))
theorem e_Law_law_460 (a1 a2 a3 a4 a5 a6 : Value) (x : Nat) (st : List Value) (g : px_G) : rn k_Law_law 460 [.ref x, a1, a2, a3, a4, a5, a6] st g = rn k_Law_law 461 [.ref x, a1, a2, a3, a4, a5, a6] (.ref x :: st) g := rn_next dd_Law_law_460 rfl
theorem dd_Law_law_461 : decode (px_rw k_Law_law).2.1 461 = .ok (.iload 4, 2) := (by decide +kernel : decode code 461 = .ok (.iload 4, 2))
theorem e_Law_law_461 (a0 a1 a2 a3 a5 a6 : Value) (x : Int32) (st : List Value) (g : px_G) : rn k_Law_law 461 [a0, a1, a2, a3, .int x, a5, a6] st g = rn k_Law_law 463 [a0, a1, a2, a3, .int x, a5, a6] (.int x :: st) g := rn_next dd_Law_law_461 rfl
theorem dd_Law_law_463 : decode (px_rw k_Law_law).2.1 463 = .ok (.iconst 2, 1) := (by decide +kernel : decode code 463 = .ok (.iconst 2, 1))
theorem e_Law_law_463 (L st : List Value) (g : px_G) : rn k_Law_law 463 L st g = rn k_Law_law 464 L (.int 2 :: st) g := rn_ipush (i := .iconst 2) dd_Law_law_463 rfl rfl (by decide)
theorem dd_Law_law_464 : decode (px_rw k_Law_law).2.1 464 = .ok (.iadd, 1) := (by decide +kernel : decode code 464 = .ok (.iadd, 1))
theorem e_Law_law_464 (L : List Value) (x y : Int32) (st : List Value) (g : px_G) : rn k_Law_law 464 L (.int y :: .int x :: st) g = rn k_Law_law 465 L (.int (x + y) :: st) g := rn_next dd_Law_law_464 rfl
theorem dd_Law_law_465 : decode (px_rw k_Law_law).2.1 465 = .ok (.iaload, 1) := (by decide +kernel : decode code 465 = .ok (.iaload, 1))
theorem e_Law_law_465 (L : List Value) (i : Int32) (p : Nat) (st : List Value) (T : TS) (hp : (sh p).1 = 0) : rn k_Law_law 465 L (.int i :: .ref p :: st) (enc T) = if px_in i (sh p).2 then rn k_Law_law 466 L (.int (T.1 p i.toNatClampNeg) :: st) (enc T) else none := rn_iald dd_Law_law_465 (Prod.ext hp rfl)
theorem e_Law_law_465S (L : List Value) (i : Int32) (st : List Value) (T : TS) : rn k_Law_law 465 L (.int i :: .ref 1002 :: st) (enc T) = if px_in i T.2.2.2 then rn k_Law_law 466 L (.int (T.1 1002 i.toNatClampNeg) :: st) (enc T) else none := rn_iaS dd_Law_law_465
theorem dd_Law_law_466 : decode (px_rw k_Law_law).2.1 466 = .ok (.aload_n 0, 1) := (by decide +kernel : decode code 466 = .ok (.aload_n 0, 1))
theorem e_Law_law_466 (a1 a2 a3 a4 a5 a6 : Value) (x : Nat) (st : List Value) (g : px_G) : rn k_Law_law 466 [.ref x, a1, a2, a3, a4, a5, a6] st g = rn k_Law_law 467 [.ref x, a1, a2, a3, a4, a5, a6] (.ref x :: st) g := rn_next dd_Law_law_466 rfl
theorem dd_Law_law_467 : decode (px_rw k_Law_law).2.1 467 = .ok (.iload 4, 2) := (by decide +kernel : decode code 467 = .ok (.iload 4, 2))
theorem e_Law_law_467 (a0 a1 a2 a3 a5 a6 : Value) (x : Int32) (st : List Value) (g : px_G) : rn k_Law_law 467 [a0, a1, a2, a3, .int x, a5, a6] st g = rn k_Law_law 469 [a0, a1, a2, a3, .int x, a5, a6] (.int x :: st) g := rn_next dd_Law_law_467 rfl
theorem dd_Law_law_469 : decode (px_rw k_Law_law).2.1 469 = .ok (.iconst 3, 1) := (by decide +kernel : decode code 469 = .ok (.iconst 3, 1))
theorem e_Law_law_469 (L st : List Value) (g : px_G) : rn k_Law_law 469 L st g = rn k_Law_law 470 L (.int 3 :: st) g := rn_ipush (i := .iconst 3) dd_Law_law_469 rfl rfl (by decide)
theorem dd_Law_law_470 : decode (px_rw k_Law_law).2.1 470 = .ok (.iadd, 1) := (by decide +kernel : decode code 470 = .ok (.iadd, 1))
theorem e_Law_law_470 (L : List Value) (x y : Int32) (st : List Value) (g : px_G) : rn k_Law_law 470 L (.int y :: .int x :: st) g = rn k_Law_law 471 L (.int (x + y) :: st) g := rn_next dd_Law_law_470 rfl
theorem dd_Law_law_471 : decode (px_rw k_Law_law).2.1 471 = .ok (.iaload, 1) := (by decide +kernel : decode code 471 = .ok (.iaload, 1))
theorem e_Law_law_471 (L : List Value) (i : Int32) (p : Nat) (st : List Value) (T : TS) (hp : (sh p).1 = 0) : rn k_Law_law 471 L (.int i :: .ref p :: st) (enc T) = if px_in i (sh p).2 then rn k_Law_law 472 L (.int (T.1 p i.toNatClampNeg) :: st) (enc T) else none := rn_iald dd_Law_law_471 (Prod.ext hp rfl)
theorem e_Law_law_471S (L : List Value) (i : Int32) (st : List Value) (T : TS) : rn k_Law_law 471 L (.int i :: .ref 1002 :: st) (enc T) = if px_in i T.2.2.2 then rn k_Law_law 472 L (.int (T.1 1002 i.toNatClampNeg) :: st) (enc T) else none := rn_iaS dd_Law_law_471
theorem dd_Law_law_472 : decode (px_rw k_Law_law).2.1 472 = .ok (.aload_n 0, 1) := (by decide +kernel : decode code 472 = .ok (.aload_n 0, 1))
theorem e_Law_law_472 (a1 a2 a3 a4 a5 a6 : Value) (x : Nat) (st : List Value) (g : px_G) : rn k_Law_law 472 [.ref x, a1, a2, a3, a4, a5, a6] st g = rn k_Law_law 473 [.ref x, a1, a2, a3, a4, a5, a6] (.ref x :: st) g := rn_next dd_Law_law_472 rfl
theorem dd_Law_law_473 : decode (px_rw k_Law_law).2.1 473 = .ok (.iload 4, 2) := (by decide +kernel : decode code 473 = .ok (.iload 4, 2))
theorem e_Law_law_473 (a0 a1 a2 a3 a5 a6 : Value) (x : Int32) (st : List Value) (g : px_G) : rn k_Law_law 473 [a0, a1, a2, a3, .int x, a5, a6] st g = rn k_Law_law 475 [a0, a1, a2, a3, .int x, a5, a6] (.int x :: st) g := rn_next dd_Law_law_473 rfl
theorem dd_Law_law_475 : decode (px_rw k_Law_law).2.1 475 = .ok (.iconst 4, 1) := (by decide +kernel : decode code 475 = .ok (.iconst 4, 1))
theorem e_Law_law_475 (L st : List Value) (g : px_G) : rn k_Law_law 475 L st g = rn k_Law_law 476 L (.int 4 :: st) g := rn_ipush (i := .iconst 4) dd_Law_law_475 rfl rfl (by decide)
theorem dd_Law_law_476 : decode (px_rw k_Law_law).2.1 476 = .ok (.iadd, 1) := (by decide +kernel : decode code 476 = .ok (.iadd, 1))
theorem e_Law_law_476 (L : List Value) (x y : Int32) (st : List Value) (g : px_G) : rn k_Law_law 476 L (.int y :: .int x :: st) g = rn k_Law_law 477 L (.int (x + y) :: st) g := rn_next dd_Law_law_476 rfl
theorem dd_Law_law_477 : decode (px_rw k_Law_law).2.1 477 = .ok (.iaload, 1) := (by decide +kernel : decode code 477 = .ok (.iaload, 1))
theorem e_Law_law_477 (L : List Value) (i : Int32) (p : Nat) (st : List Value) (T : TS) (hp : (sh p).1 = 0) : rn k_Law_law 477 L (.int i :: .ref p :: st) (enc T) = if px_in i (sh p).2 then rn k_Law_law 478 L (.int (T.1 p i.toNatClampNeg) :: st) (enc T) else none := rn_iald dd_Law_law_477 (Prod.ext hp rfl)
theorem e_Law_law_477S (L : List Value) (i : Int32) (st : List Value) (T : TS) : rn k_Law_law 477 L (.int i :: .ref 1002 :: st) (enc T) = if px_in i T.2.2.2 then rn k_Law_law 478 L (.int (T.1 1002 i.toNatClampNeg) :: st) (enc T) else none := rn_iaS dd_Law_law_477
theorem dd_Law_law_478 : decode (px_rw k_Law_law).2.1 478 = .ok (.invokevirtual 55, 3) := (by decide +kernel : decode code 478 = .ok (.invokevirtual 55, 3))
theorem e_Law_law_478 (L : List Value) (i0 : Int32) (i1 : Int32) (i2 : Int32) (i3 : Int32) (i100 : Int32)  (T : TS)  : rn k_Law_law 478 L [.int i3, .int i2, .int i1, .int i0, .ref 53, .int i100] (enc T) = bd (cl k_Dm_home [.ref 53, .int i0, .int i1, .int i2, .int i3] (enc T)) (fun r g' => rn k_Law_law 481 L (r.toList ++ [.int i100]) g') := rn_callV (n := 52) (As := [.int i0, .int i1, .int i2, .int i3]) (rest := [.int i100]) dd_Law_law_478 rfl (by decide) (by decide) rfl rfl (Nat.le_of_ble_eq_true rfl) (Nat.le_of_ble_eq_true rfl) rfl
theorem dd_Law_law_481 : decode (px_rw k_Law_law).2.1 481 = .ok (.if_icmp .eq 1280, 3) := (by decide +kernel : decode code 481 = .ok (.if_icmp .eq 1280, 3))
theorem e_Law_law_481 (L : List Value) (x y : Int32) (st : List Value) (g : px_G) : rn k_Law_law 481 L (.int y :: .int x :: st) g = if x = y then rn k_Law_law 1761 L st g else rn k_Law_law 484 L st g := rn_iceq dd_Law_law_481 (by decide)
theorem dd_Law_law_484 : decode (px_rw k_Law_law).2.1 484 = .ok (.iconst 0, 1) := (by decide +kernel : decode code 484 = .ok (.iconst 0, 1))
theorem e_Law_law_484 (L st : List Value) (g : px_G) : rn k_Law_law 484 L st g = rn k_Law_law 485 L (.int 0 :: st) g := rn_ipush (i := .iconst 0) dd_Law_law_484 rfl rfl (by decide)
theorem dd_Law_law_485 : decode (px_rw k_Law_law).2.1 485 = .ok (.ireturn, 1) := (by decide +kernel : decode code 485 = .ok (.ireturn, 1))
theorem e_Law_law_485 (L : List Value) (v : Int32) (g : px_G) (hv : v = 0 ∨ v = 1) : rn k_Law_law 485 L [.int v] g = some (some (.int v), g) := rn_zret dd_Law_law_485 rfl hv
theorem dd_Law_law_486 : decode (px_rw k_Law_law).2.1 486 = .ok (.aload_n 1, 1) := (by decide +kernel : decode code 486 = .ok (.aload_n 1, 1))
theorem e_Law_law_486 (a0 a2 a3 a4 a5 a6 : Value) (x : Nat) (st : List Value) (g : px_G) : rn k_Law_law 486 [a0, .ref x, a2, a3, a4, a5, a6] st g = rn k_Law_law 487 [a0, .ref x, a2, a3, a4, a5, a6] (.ref x :: st) g := rn_next dd_Law_law_486 rfl
theorem dd_Law_law_487 : decode (px_rw k_Law_law).2.1 487 = .ok (.aload_n 0, 1) := (by decide +kernel : decode code 487 = .ok (.aload_n 0, 1))
theorem e_Law_law_487 (a1 a2 a3 a4 a5 a6 : Value) (x : Nat) (st : List Value) (g : px_G) : rn k_Law_law 487 [.ref x, a1, a2, a3, a4, a5, a6] st g = rn k_Law_law 488 [.ref x, a1, a2, a3, a4, a5, a6] (.ref x :: st) g := rn_next dd_Law_law_487 rfl
theorem dd_Law_law_488 : decode (px_rw k_Law_law).2.1 488 = .ok (.iload 4, 2) := (by decide +kernel : decode code 488 = .ok (.iload 4, 2))
theorem e_Law_law_488 (a0 a1 a2 a3 a5 a6 : Value) (x : Int32) (st : List Value) (g : px_G) : rn k_Law_law 488 [a0, a1, a2, a3, .int x, a5, a6] st g = rn k_Law_law 490 [a0, a1, a2, a3, .int x, a5, a6] (.int x :: st) g := rn_next dd_Law_law_488 rfl
theorem dd_Law_law_490 : decode (px_rw k_Law_law).2.1 490 = .ok (.iconst 1, 1) := (by decide +kernel : decode code 490 = .ok (.iconst 1, 1))
theorem e_Law_law_490 (L st : List Value) (g : px_G) : rn k_Law_law 490 L st g = rn k_Law_law 491 L (.int 1 :: st) g := rn_ipush (i := .iconst 1) dd_Law_law_490 rfl rfl (by decide)
theorem dd_Law_law_491 : decode (px_rw k_Law_law).2.1 491 = .ok (.iadd, 1) := (by decide +kernel : decode code 491 = .ok (.iadd, 1))
theorem e_Law_law_491 (L : List Value) (x y : Int32) (st : List Value) (g : px_G) : rn k_Law_law 491 L (.int y :: .int x :: st) g = rn k_Law_law 492 L (.int (x + y) :: st) g := rn_next dd_Law_law_491 rfl
theorem dd_Law_law_492 : decode (px_rw k_Law_law).2.1 492 = .ok (.iaload, 1) := (by decide +kernel : decode code 492 = .ok (.iaload, 1))
theorem e_Law_law_492 (L : List Value) (i : Int32) (p : Nat) (st : List Value) (T : TS) (hp : (sh p).1 = 0) : rn k_Law_law 492 L (.int i :: .ref p :: st) (enc T) = if px_in i (sh p).2 then rn k_Law_law 493 L (.int (T.1 p i.toNatClampNeg) :: st) (enc T) else none := rn_iald dd_Law_law_492 (Prod.ext hp rfl)
theorem e_Law_law_492S (L : List Value) (i : Int32) (st : List Value) (T : TS) : rn k_Law_law 492 L (.int i :: .ref 1002 :: st) (enc T) = if px_in i T.2.2.2 then rn k_Law_law 493 L (.int (T.1 1002 i.toNatClampNeg) :: st) (enc T) else none := rn_iaS dd_Law_law_492
theorem dd_Law_law_493 : decode (px_rw k_Law_law).2.1 493 = .ok (.aload_n 0, 1) := (by decide +kernel : decode code 493 = .ok (.aload_n 0, 1))
theorem e_Law_law_493 (a1 a2 a3 a4 a5 a6 : Value) (x : Nat) (st : List Value) (g : px_G) : rn k_Law_law 493 [.ref x, a1, a2, a3, a4, a5, a6] st g = rn k_Law_law 494 [.ref x, a1, a2, a3, a4, a5, a6] (.ref x :: st) g := rn_next dd_Law_law_493 rfl
theorem dd_Law_law_494 : decode (px_rw k_Law_law).2.1 494 = .ok (.iload 4, 2) := (by decide +kernel : decode code 494 = .ok (.iload 4, 2))
theorem e_Law_law_494 (a0 a1 a2 a3 a5 a6 : Value) (x : Int32) (st : List Value) (g : px_G) : rn k_Law_law 494 [a0, a1, a2, a3, .int x, a5, a6] st g = rn k_Law_law 496 [a0, a1, a2, a3, .int x, a5, a6] (.int x :: st) g := rn_next dd_Law_law_494 rfl
theorem dd_Law_law_496 : decode (px_rw k_Law_law).2.1 496 = .ok (.iconst 2, 1) := (by decide +kernel : decode code 496 = .ok (.iconst 2, 1))
theorem e_Law_law_496 (L st : List Value) (g : px_G) : rn k_Law_law 496 L st g = rn k_Law_law 497 L (.int 2 :: st) g := rn_ipush (i := .iconst 2) dd_Law_law_496 rfl rfl (by decide)
theorem dd_Law_law_497 : decode (px_rw k_Law_law).2.1 497 = .ok (.iadd, 1) := (by decide +kernel : decode code 497 = .ok (.iadd, 1))
theorem e_Law_law_497 (L : List Value) (x y : Int32) (st : List Value) (g : px_G) : rn k_Law_law 497 L (.int y :: .int x :: st) g = rn k_Law_law 498 L (.int (x + y) :: st) g := rn_next dd_Law_law_497 rfl
theorem dd_Law_law_498 : decode (px_rw k_Law_law).2.1 498 = .ok (.iaload, 1) := (by decide +kernel : decode code 498 = .ok (.iaload, 1))
theorem e_Law_law_498 (L : List Value) (i : Int32) (p : Nat) (st : List Value) (T : TS) (hp : (sh p).1 = 0) : rn k_Law_law 498 L (.int i :: .ref p :: st) (enc T) = if px_in i (sh p).2 then rn k_Law_law 499 L (.int (T.1 p i.toNatClampNeg) :: st) (enc T) else none := rn_iald dd_Law_law_498 (Prod.ext hp rfl)
theorem e_Law_law_498S (L : List Value) (i : Int32) (st : List Value) (T : TS) : rn k_Law_law 498 L (.int i :: .ref 1002 :: st) (enc T) = if px_in i T.2.2.2 then rn k_Law_law 499 L (.int (T.1 1002 i.toNatClampNeg) :: st) (enc T) else none := rn_iaS dd_Law_law_498
theorem dd_Law_law_499 : decode (px_rw k_Law_law).2.1 499 = .ok (.invokevirtual 56, 3) := (by decide +kernel : decode code 499 = .ok (.invokevirtual 56, 3))
theorem e_Law_law_499 (L : List Value) (i0 : Int32) (i1 : Int32)  (T : TS)  : rn k_Law_law 499 L [.int i1, .int i0, .ref 0] (enc T) = bd (cl k_Ds_reduced [.ref 0, .int i0, .int i1] (enc T)) (fun r g' => rn k_Law_law 502 L (r.toList ++ []) g') := rn_callV (n := 13) (As := [.int i0, .int i1]) (rest := []) dd_Law_law_499 rfl (by decide) (by decide) rfl rfl (Nat.le_of_ble_eq_true rfl) (Nat.le_of_ble_eq_true rfl) rfl
theorem dd_Law_law_502 : decode (px_rw k_Law_law).2.1 502 = .ok (.aload_n 2, 1) := (by decide +kernel : decode code 502 = .ok (.aload_n 2, 1))
theorem e_Law_law_502 (a0 a1 a3 a4 a5 a6 : Value) (x : Nat) (st : List Value) (g : px_G) : rn k_Law_law 502 [a0, a1, .ref x, a3, a4, a5, a6] st g = rn k_Law_law 503 [a0, a1, .ref x, a3, a4, a5, a6] (.ref x :: st) g := rn_next dd_Law_law_502 rfl
theorem dd_Law_law_503 : decode (px_rw k_Law_law).2.1 503 = .ok (.aload_n 0, 1) := (by decide +kernel : decode code 503 = .ok (.aload_n 0, 1))
theorem e_Law_law_503 (a1 a2 a3 a4 a5 a6 : Value) (x : Nat) (st : List Value) (g : px_G) : rn k_Law_law 503 [.ref x, a1, a2, a3, a4, a5, a6] st g = rn k_Law_law 504 [.ref x, a1, a2, a3, a4, a5, a6] (.ref x :: st) g := rn_next dd_Law_law_503 rfl
theorem dd_Law_law_504 : decode (px_rw k_Law_law).2.1 504 = .ok (.iload 4, 2) := (by decide +kernel : decode code 504 = .ok (.iload 4, 2))
theorem e_Law_law_504 (a0 a1 a2 a3 a5 a6 : Value) (x : Int32) (st : List Value) (g : px_G) : rn k_Law_law 504 [a0, a1, a2, a3, .int x, a5, a6] st g = rn k_Law_law 506 [a0, a1, a2, a3, .int x, a5, a6] (.int x :: st) g := rn_next dd_Law_law_504 rfl
theorem dd_Law_law_506 : decode (px_rw k_Law_law).2.1 506 = .ok (.iconst 1, 1) := (by decide +kernel : decode code 506 = .ok (.iconst 1, 1))
theorem e_Law_law_506 (L st : List Value) (g : px_G) : rn k_Law_law 506 L st g = rn k_Law_law 507 L (.int 1 :: st) g := rn_ipush (i := .iconst 1) dd_Law_law_506 rfl rfl (by decide)
theorem dd_Law_law_507 : decode (px_rw k_Law_law).2.1 507 = .ok (.iadd, 1) := (by decide +kernel : decode code 507 = .ok (.iadd, 1))
theorem e_Law_law_507 (L : List Value) (x y : Int32) (st : List Value) (g : px_G) : rn k_Law_law 507 L (.int y :: .int x :: st) g = rn k_Law_law 508 L (.int (x + y) :: st) g := rn_next dd_Law_law_507 rfl
theorem dd_Law_law_508 : decode (px_rw k_Law_law).2.1 508 = .ok (.iaload, 1) := (by decide +kernel : decode code 508 = .ok (.iaload, 1))
theorem e_Law_law_508 (L : List Value) (i : Int32) (p : Nat) (st : List Value) (T : TS) (hp : (sh p).1 = 0) : rn k_Law_law 508 L (.int i :: .ref p :: st) (enc T) = if px_in i (sh p).2 then rn k_Law_law 509 L (.int (T.1 p i.toNatClampNeg) :: st) (enc T) else none := rn_iald dd_Law_law_508 (Prod.ext hp rfl)
theorem e_Law_law_508S (L : List Value) (i : Int32) (st : List Value) (T : TS) : rn k_Law_law 508 L (.int i :: .ref 1002 :: st) (enc T) = if px_in i T.2.2.2 then rn k_Law_law 509 L (.int (T.1 1002 i.toNatClampNeg) :: st) (enc T) else none := rn_iaS dd_Law_law_508
theorem dd_Law_law_509 : decode (px_rw k_Law_law).2.1 509 = .ok (.aload_n 0, 1) := (by decide +kernel : decode code 509 = .ok (.aload_n 0, 1))
theorem e_Law_law_509 (a1 a2 a3 a4 a5 a6 : Value) (x : Nat) (st : List Value) (g : px_G) : rn k_Law_law 509 [.ref x, a1, a2, a3, a4, a5, a6] st g = rn k_Law_law 510 [.ref x, a1, a2, a3, a4, a5, a6] (.ref x :: st) g := rn_next dd_Law_law_509 rfl
theorem dd_Law_law_510 : decode (px_rw k_Law_law).2.1 510 = .ok (.iload 4, 2) := (by decide +kernel : decode code 510 = .ok (.iload 4, 2))
theorem e_Law_law_510 (a0 a1 a2 a3 a5 a6 : Value) (x : Int32) (st : List Value) (g : px_G) : rn k_Law_law 510 [a0, a1, a2, a3, .int x, a5, a6] st g = rn k_Law_law 512 [a0, a1, a2, a3, .int x, a5, a6] (.int x :: st) g := rn_next dd_Law_law_510 rfl
theorem dd_Law_law_512 : decode (px_rw k_Law_law).2.1 512 = .ok (.iconst 2, 1) := (by decide +kernel : decode code 512 = .ok (.iconst 2, 1))
theorem e_Law_law_512 (L st : List Value) (g : px_G) : rn k_Law_law 512 L st g = rn k_Law_law 513 L (.int 2 :: st) g := rn_ipush (i := .iconst 2) dd_Law_law_512 rfl rfl (by decide)
theorem dd_Law_law_513 : decode (px_rw k_Law_law).2.1 513 = .ok (.iadd, 1) := (by decide +kernel : decode code 513 = .ok (.iadd, 1))
theorem e_Law_law_513 (L : List Value) (x y : Int32) (st : List Value) (g : px_G) : rn k_Law_law 513 L (.int y :: .int x :: st) g = rn k_Law_law 514 L (.int (x + y) :: st) g := rn_next dd_Law_law_513 rfl
theorem dd_Law_law_514 : decode (px_rw k_Law_law).2.1 514 = .ok (.iaload, 1) := (by decide +kernel : decode code 514 = .ok (.iaload, 1))
theorem e_Law_law_514 (L : List Value) (i : Int32) (p : Nat) (st : List Value) (T : TS) (hp : (sh p).1 = 0) : rn k_Law_law 514 L (.int i :: .ref p :: st) (enc T) = if px_in i (sh p).2 then rn k_Law_law 515 L (.int (T.1 p i.toNatClampNeg) :: st) (enc T) else none := rn_iald dd_Law_law_514 (Prod.ext hp rfl)
theorem e_Law_law_514S (L : List Value) (i : Int32) (st : List Value) (T : TS) : rn k_Law_law 514 L (.int i :: .ref 1002 :: st) (enc T) = if px_in i T.2.2.2 then rn k_Law_law 515 L (.int (T.1 1002 i.toNatClampNeg) :: st) (enc T) else none := rn_iaS dd_Law_law_514
theorem dd_Law_law_515 : decode (px_rw k_Law_law).2.1 515 = .ok (.invokevirtual 59, 3) := (by decide +kernel : decode code 515 = .ok (.invokevirtual 59, 3))
theorem e_Law_law_515 (L : List Value) (i0 : Int32) (i1 : Int32) (i100 : Int32)  (T : TS)  : rn k_Law_law 515 L [.int i1, .int i0, .ref 53, .int i100] (enc T) = bd (cl k_Dm_reduced [.ref 53, .int i0, .int i1] (enc T)) (fun r g' => rn k_Law_law 518 L (r.toList ++ [.int i100]) g') := rn_callV (n := 52) (As := [.int i0, .int i1]) (rest := [.int i100]) dd_Law_law_515 rfl (by decide) (by decide) rfl rfl (Nat.le_of_ble_eq_true rfl) (Nat.le_of_ble_eq_true rfl) rfl
theorem dd_Law_law_518 : decode (px_rw k_Law_law).2.1 518 = .ok (.if_icmp .eq 1243, 3) := (by decide +kernel : decode code 518 = .ok (.if_icmp .eq 1243, 3))
theorem e_Law_law_518 (L : List Value) (x y : Int32) (st : List Value) (g : px_G) : rn k_Law_law 518 L (.int y :: .int x :: st) g = if x = y then rn k_Law_law 1761 L st g else rn k_Law_law 521 L st g := rn_iceq dd_Law_law_518 (by decide)
theorem dd_Law_law_521 : decode (px_rw k_Law_law).2.1 521 = .ok (.iconst 0, 1) := (by decide +kernel : decode code 521 = .ok (.iconst 0, 1))
theorem e_Law_law_521 (L st : List Value) (g : px_G) : rn k_Law_law 521 L st g = rn k_Law_law 522 L (.int 0 :: st) g := rn_ipush (i := .iconst 0) dd_Law_law_521 rfl rfl (by decide)
theorem dd_Law_law_522 : decode (px_rw k_Law_law).2.1 522 = .ok (.ireturn, 1) := (by decide +kernel : decode code 522 = .ok (.ireturn, 1))
theorem e_Law_law_522 (L : List Value) (v : Int32) (g : px_G) (hv : v = 0 ∨ v = 1) : rn k_Law_law 522 L [.int v] g = some (some (.int v), g) := rn_zret dd_Law_law_522 rfl hv
theorem dd_Law_law_523 : decode (px_rw k_Law_law).2.1 523 = .ok (.aload_n 1, 1) := (by decide +kernel : decode code 523 = .ok (.aload_n 1, 1))
theorem e_Law_law_523 (a0 a2 a3 a4 a5 a6 : Value) (x : Nat) (st : List Value) (g : px_G) : rn k_Law_law 523 [a0, .ref x, a2, a3, a4, a5, a6] st g = rn k_Law_law 524 [a0, .ref x, a2, a3, a4, a5, a6] (.ref x :: st) g := rn_next dd_Law_law_523 rfl
theorem dd_Law_law_524 : decode (px_rw k_Law_law).2.1 524 = .ok (.aload_n 0, 1) := (by decide +kernel : decode code 524 = .ok (.aload_n 0, 1))
theorem e_Law_law_524 (a1 a2 a3 a4 a5 a6 : Value) (x : Nat) (st : List Value) (g : px_G) : rn k_Law_law 524 [.ref x, a1, a2, a3, a4, a5, a6] st g = rn k_Law_law 525 [.ref x, a1, a2, a3, a4, a5, a6] (.ref x :: st) g := rn_next dd_Law_law_524 rfl
theorem dd_Law_law_525 : decode (px_rw k_Law_law).2.1 525 = .ok (.iload 4, 2) := (by decide +kernel : decode code 525 = .ok (.iload 4, 2))
theorem e_Law_law_525 (a0 a1 a2 a3 a5 a6 : Value) (x : Int32) (st : List Value) (g : px_G) : rn k_Law_law 525 [a0, a1, a2, a3, .int x, a5, a6] st g = rn k_Law_law 527 [a0, a1, a2, a3, .int x, a5, a6] (.int x :: st) g := rn_next dd_Law_law_525 rfl
theorem dd_Law_law_527 : decode (px_rw k_Law_law).2.1 527 = .ok (.iconst 1, 1) := (by decide +kernel : decode code 527 = .ok (.iconst 1, 1))
theorem e_Law_law_527 (L st : List Value) (g : px_G) : rn k_Law_law 527 L st g = rn k_Law_law 528 L (.int 1 :: st) g := rn_ipush (i := .iconst 1) dd_Law_law_527 rfl rfl (by decide)
theorem dd_Law_law_528 : decode (px_rw k_Law_law).2.1 528 = .ok (.iadd, 1) := (by decide +kernel : decode code 528 = .ok (.iadd, 1))
theorem e_Law_law_528 (L : List Value) (x y : Int32) (st : List Value) (g : px_G) : rn k_Law_law 528 L (.int y :: .int x :: st) g = rn k_Law_law 529 L (.int (x + y) :: st) g := rn_next dd_Law_law_528 rfl
theorem dd_Law_law_529 : decode (px_rw k_Law_law).2.1 529 = .ok (.iaload, 1) := (by decide +kernel : decode code 529 = .ok (.iaload, 1))
theorem e_Law_law_529 (L : List Value) (i : Int32) (p : Nat) (st : List Value) (T : TS) (hp : (sh p).1 = 0) : rn k_Law_law 529 L (.int i :: .ref p :: st) (enc T) = if px_in i (sh p).2 then rn k_Law_law 530 L (.int (T.1 p i.toNatClampNeg) :: st) (enc T) else none := rn_iald dd_Law_law_529 (Prod.ext hp rfl)
theorem e_Law_law_529S (L : List Value) (i : Int32) (st : List Value) (T : TS) : rn k_Law_law 529 L (.int i :: .ref 1002 :: st) (enc T) = if px_in i T.2.2.2 then rn k_Law_law 530 L (.int (T.1 1002 i.toNatClampNeg) :: st) (enc T) else none := rn_iaS dd_Law_law_529
theorem dd_Law_law_530 : decode (px_rw k_Law_law).2.1 530 = .ok (.aload_n 0, 1) := (by decide +kernel : decode code 530 = .ok (.aload_n 0, 1))
theorem e_Law_law_530 (a1 a2 a3 a4 a5 a6 : Value) (x : Nat) (st : List Value) (g : px_G) : rn k_Law_law 530 [.ref x, a1, a2, a3, a4, a5, a6] st g = rn k_Law_law 531 [.ref x, a1, a2, a3, a4, a5, a6] (.ref x :: st) g := rn_next dd_Law_law_530 rfl
theorem dd_Law_law_531 : decode (px_rw k_Law_law).2.1 531 = .ok (.iload 4, 2) := (by decide +kernel : decode code 531 = .ok (.iload 4, 2))
theorem e_Law_law_531 (a0 a1 a2 a3 a5 a6 : Value) (x : Int32) (st : List Value) (g : px_G) : rn k_Law_law 531 [a0, a1, a2, a3, .int x, a5, a6] st g = rn k_Law_law 533 [a0, a1, a2, a3, .int x, a5, a6] (.int x :: st) g := rn_next dd_Law_law_531 rfl
theorem dd_Law_law_533 : decode (px_rw k_Law_law).2.1 533 = .ok (.iconst 2, 1) := (by decide +kernel : decode code 533 = .ok (.iconst 2, 1))
theorem e_Law_law_533 (L st : List Value) (g : px_G) : rn k_Law_law 533 L st g = rn k_Law_law 534 L (.int 2 :: st) g := rn_ipush (i := .iconst 2) dd_Law_law_533 rfl rfl (by decide)
theorem dd_Law_law_534 : decode (px_rw k_Law_law).2.1 534 = .ok (.iadd, 1) := (by decide +kernel : decode code 534 = .ok (.iadd, 1))
theorem e_Law_law_534 (L : List Value) (x y : Int32) (st : List Value) (g : px_G) : rn k_Law_law 534 L (.int y :: .int x :: st) g = rn k_Law_law 535 L (.int (x + y) :: st) g := rn_next dd_Law_law_534 rfl
theorem dd_Law_law_535 : decode (px_rw k_Law_law).2.1 535 = .ok (.iaload, 1) := (by decide +kernel : decode code 535 = .ok (.iaload, 1))
theorem e_Law_law_535 (L : List Value) (i : Int32) (p : Nat) (st : List Value) (T : TS) (hp : (sh p).1 = 0) : rn k_Law_law 535 L (.int i :: .ref p :: st) (enc T) = if px_in i (sh p).2 then rn k_Law_law 536 L (.int (T.1 p i.toNatClampNeg) :: st) (enc T) else none := rn_iald dd_Law_law_535 (Prod.ext hp rfl)
theorem e_Law_law_535S (L : List Value) (i : Int32) (st : List Value) (T : TS) : rn k_Law_law 535 L (.int i :: .ref 1002 :: st) (enc T) = if px_in i T.2.2.2 then rn k_Law_law 536 L (.int (T.1 1002 i.toNatClampNeg) :: st) (enc T) else none := rn_iaS dd_Law_law_535
theorem dd_Law_law_536 : decode (px_rw k_Law_law).2.1 536 = .ok (.aload_n 0, 1) := (by decide +kernel : decode code 536 = .ok (.aload_n 0, 1))
theorem e_Law_law_536 (a1 a2 a3 a4 a5 a6 : Value) (x : Nat) (st : List Value) (g : px_G) : rn k_Law_law 536 [.ref x, a1, a2, a3, a4, a5, a6] st g = rn k_Law_law 537 [.ref x, a1, a2, a3, a4, a5, a6] (.ref x :: st) g := rn_next dd_Law_law_536 rfl
theorem dd_Law_law_537 : decode (px_rw k_Law_law).2.1 537 = .ok (.iload 4, 2) := (by decide +kernel : decode code 537 = .ok (.iload 4, 2))
theorem e_Law_law_537 (a0 a1 a2 a3 a5 a6 : Value) (x : Int32) (st : List Value) (g : px_G) : rn k_Law_law 537 [a0, a1, a2, a3, .int x, a5, a6] st g = rn k_Law_law 539 [a0, a1, a2, a3, .int x, a5, a6] (.int x :: st) g := rn_next dd_Law_law_537 rfl
theorem dd_Law_law_539 : decode (px_rw k_Law_law).2.1 539 = .ok (.iconst 3, 1) := (by decide +kernel : decode code 539 = .ok (.iconst 3, 1))
theorem e_Law_law_539 (L st : List Value) (g : px_G) : rn k_Law_law 539 L st g = rn k_Law_law 540 L (.int 3 :: st) g := rn_ipush (i := .iconst 3) dd_Law_law_539 rfl rfl (by decide)
theorem dd_Law_law_540 : decode (px_rw k_Law_law).2.1 540 = .ok (.iadd, 1) := (by decide +kernel : decode code 540 = .ok (.iadd, 1))
theorem e_Law_law_540 (L : List Value) (x y : Int32) (st : List Value) (g : px_G) : rn k_Law_law 540 L (.int y :: .int x :: st) g = rn k_Law_law 541 L (.int (x + y) :: st) g := rn_next dd_Law_law_540 rfl
theorem dd_Law_law_541 : decode (px_rw k_Law_law).2.1 541 = .ok (.iaload, 1) := (by decide +kernel : decode code 541 = .ok (.iaload, 1))
theorem e_Law_law_541 (L : List Value) (i : Int32) (p : Nat) (st : List Value) (T : TS) (hp : (sh p).1 = 0) : rn k_Law_law 541 L (.int i :: .ref p :: st) (enc T) = if px_in i (sh p).2 then rn k_Law_law 542 L (.int (T.1 p i.toNatClampNeg) :: st) (enc T) else none := rn_iald dd_Law_law_541 (Prod.ext hp rfl)
theorem e_Law_law_541S (L : List Value) (i : Int32) (st : List Value) (T : TS) : rn k_Law_law 541 L (.int i :: .ref 1002 :: st) (enc T) = if px_in i T.2.2.2 then rn k_Law_law 542 L (.int (T.1 1002 i.toNatClampNeg) :: st) (enc T) else none := rn_iaS dd_Law_law_541
theorem dd_Law_law_542 : decode (px_rw k_Law_law).2.1 542 = .ok (.invokevirtual 60, 3) := (by decide +kernel : decode code 542 = .ok (.invokevirtual 60, 3))
theorem e_Law_law_542 (L : List Value) (i0 : Int32) (i1 : Int32) (i2 : Int32)  (T : TS)  : rn k_Law_law 542 L [.int i2, .int i1, .int i0, .ref 0] (enc T) = bd (cl k_Ds_spot [.ref 0, .int i0, .int i1, .int i2] (enc T)) (fun r g' => rn k_Law_law 545 L (r.toList ++ []) g') := rn_callV (n := 13) (As := [.int i0, .int i1, .int i2]) (rest := []) dd_Law_law_542 rfl (by decide) (by decide) rfl rfl (Nat.le_of_ble_eq_true rfl) (Nat.le_of_ble_eq_true rfl) rfl
theorem dd_Law_law_545 : decode (px_rw k_Law_law).2.1 545 = .ok (.aload_n 2, 1) := (by decide +kernel : decode code 545 = .ok (.aload_n 2, 1))
theorem e_Law_law_545 (a0 a1 a3 a4 a5 a6 : Value) (x : Nat) (st : List Value) (g : px_G) : rn k_Law_law 545 [a0, a1, .ref x, a3, a4, a5, a6] st g = rn k_Law_law 546 [a0, a1, .ref x, a3, a4, a5, a6] (.ref x :: st) g := rn_next dd_Law_law_545 rfl
theorem dd_Law_law_546 : decode (px_rw k_Law_law).2.1 546 = .ok (.aload_n 0, 1) := (by decide +kernel : decode code 546 = .ok (.aload_n 0, 1))
theorem e_Law_law_546 (a1 a2 a3 a4 a5 a6 : Value) (x : Nat) (st : List Value) (g : px_G) : rn k_Law_law 546 [.ref x, a1, a2, a3, a4, a5, a6] st g = rn k_Law_law 547 [.ref x, a1, a2, a3, a4, a5, a6] (.ref x :: st) g := rn_next dd_Law_law_546 rfl
theorem dd_Law_law_547 : decode (px_rw k_Law_law).2.1 547 = .ok (.iload 4, 2) := (by decide +kernel : decode code 547 = .ok (.iload 4, 2))
theorem e_Law_law_547 (a0 a1 a2 a3 a5 a6 : Value) (x : Int32) (st : List Value) (g : px_G) : rn k_Law_law 547 [a0, a1, a2, a3, .int x, a5, a6] st g = rn k_Law_law 549 [a0, a1, a2, a3, .int x, a5, a6] (.int x :: st) g := rn_next dd_Law_law_547 rfl
theorem dd_Law_law_549 : decode (px_rw k_Law_law).2.1 549 = .ok (.iconst 1, 1) := (by decide +kernel : decode code 549 = .ok (.iconst 1, 1))
theorem e_Law_law_549 (L st : List Value) (g : px_G) : rn k_Law_law 549 L st g = rn k_Law_law 550 L (.int 1 :: st) g := rn_ipush (i := .iconst 1) dd_Law_law_549 rfl rfl (by decide)
theorem dd_Law_law_550 : decode (px_rw k_Law_law).2.1 550 = .ok (.iadd, 1) := (by decide +kernel : decode code 550 = .ok (.iadd, 1))
theorem e_Law_law_550 (L : List Value) (x y : Int32) (st : List Value) (g : px_G) : rn k_Law_law 550 L (.int y :: .int x :: st) g = rn k_Law_law 551 L (.int (x + y) :: st) g := rn_next dd_Law_law_550 rfl
theorem dd_Law_law_551 : decode (px_rw k_Law_law).2.1 551 = .ok (.iaload, 1) := (by decide +kernel : decode code 551 = .ok (.iaload, 1))
theorem e_Law_law_551 (L : List Value) (i : Int32) (p : Nat) (st : List Value) (T : TS) (hp : (sh p).1 = 0) : rn k_Law_law 551 L (.int i :: .ref p :: st) (enc T) = if px_in i (sh p).2 then rn k_Law_law 552 L (.int (T.1 p i.toNatClampNeg) :: st) (enc T) else none := rn_iald dd_Law_law_551 (Prod.ext hp rfl)
theorem e_Law_law_551S (L : List Value) (i : Int32) (st : List Value) (T : TS) : rn k_Law_law 551 L (.int i :: .ref 1002 :: st) (enc T) = if px_in i T.2.2.2 then rn k_Law_law 552 L (.int (T.1 1002 i.toNatClampNeg) :: st) (enc T) else none := rn_iaS dd_Law_law_551
theorem dd_Law_law_552 : decode (px_rw k_Law_law).2.1 552 = .ok (.aload_n 0, 1) := (by decide +kernel : decode code 552 = .ok (.aload_n 0, 1))
theorem e_Law_law_552 (a1 a2 a3 a4 a5 a6 : Value) (x : Nat) (st : List Value) (g : px_G) : rn k_Law_law 552 [.ref x, a1, a2, a3, a4, a5, a6] st g = rn k_Law_law 553 [.ref x, a1, a2, a3, a4, a5, a6] (.ref x :: st) g := rn_next dd_Law_law_552 rfl
theorem dd_Law_law_553 : decode (px_rw k_Law_law).2.1 553 = .ok (.iload 4, 2) := (by decide +kernel : decode code 553 = .ok (.iload 4, 2))
theorem e_Law_law_553 (a0 a1 a2 a3 a5 a6 : Value) (x : Int32) (st : List Value) (g : px_G) : rn k_Law_law 553 [a0, a1, a2, a3, .int x, a5, a6] st g = rn k_Law_law 555 [a0, a1, a2, a3, .int x, a5, a6] (.int x :: st) g := rn_next dd_Law_law_553 rfl
theorem dd_Law_law_555 : decode (px_rw k_Law_law).2.1 555 = .ok (.iconst 2, 1) := (by decide +kernel : decode code 555 = .ok (.iconst 2, 1))
theorem e_Law_law_555 (L st : List Value) (g : px_G) : rn k_Law_law 555 L st g = rn k_Law_law 556 L (.int 2 :: st) g := rn_ipush (i := .iconst 2) dd_Law_law_555 rfl rfl (by decide)
theorem dd_Law_law_556 : decode (px_rw k_Law_law).2.1 556 = .ok (.iadd, 1) := (by decide +kernel : decode code 556 = .ok (.iadd, 1))
theorem e_Law_law_556 (L : List Value) (x y : Int32) (st : List Value) (g : px_G) : rn k_Law_law 556 L (.int y :: .int x :: st) g = rn k_Law_law 557 L (.int (x + y) :: st) g := rn_next dd_Law_law_556 rfl
theorem dd_Law_law_557 : decode (px_rw k_Law_law).2.1 557 = .ok (.iaload, 1) := (by decide +kernel : decode code 557 = .ok (.iaload, 1))
theorem e_Law_law_557 (L : List Value) (i : Int32) (p : Nat) (st : List Value) (T : TS) (hp : (sh p).1 = 0) : rn k_Law_law 557 L (.int i :: .ref p :: st) (enc T) = if px_in i (sh p).2 then rn k_Law_law 558 L (.int (T.1 p i.toNatClampNeg) :: st) (enc T) else none := rn_iald dd_Law_law_557 (Prod.ext hp rfl)
theorem e_Law_law_557S (L : List Value) (i : Int32) (st : List Value) (T : TS) : rn k_Law_law 557 L (.int i :: .ref 1002 :: st) (enc T) = if px_in i T.2.2.2 then rn k_Law_law 558 L (.int (T.1 1002 i.toNatClampNeg) :: st) (enc T) else none := rn_iaS dd_Law_law_557
theorem dd_Law_law_558 : decode (px_rw k_Law_law).2.1 558 = .ok (.aload_n 0, 1) := (by decide +kernel : decode code 558 = .ok (.aload_n 0, 1))
theorem e_Law_law_558 (a1 a2 a3 a4 a5 a6 : Value) (x : Nat) (st : List Value) (g : px_G) : rn k_Law_law 558 [.ref x, a1, a2, a3, a4, a5, a6] st g = rn k_Law_law 559 [.ref x, a1, a2, a3, a4, a5, a6] (.ref x :: st) g := rn_next dd_Law_law_558 rfl
theorem dd_Law_law_559 : decode (px_rw k_Law_law).2.1 559 = .ok (.iload 4, 2) := (by decide +kernel : decode code 559 = .ok (.iload 4, 2))
theorem e_Law_law_559 (a0 a1 a2 a3 a5 a6 : Value) (x : Int32) (st : List Value) (g : px_G) : rn k_Law_law 559 [a0, a1, a2, a3, .int x, a5, a6] st g = rn k_Law_law 561 [a0, a1, a2, a3, .int x, a5, a6] (.int x :: st) g := rn_next dd_Law_law_559 rfl
theorem dd_Law_law_561 : decode (px_rw k_Law_law).2.1 561 = .ok (.iconst 3, 1) := (by decide +kernel : decode code 561 = .ok (.iconst 3, 1))
theorem e_Law_law_561 (L st : List Value) (g : px_G) : rn k_Law_law 561 L st g = rn k_Law_law 562 L (.int 3 :: st) g := rn_ipush (i := .iconst 3) dd_Law_law_561 rfl rfl (by decide)
theorem dd_Law_law_562 : decode (px_rw k_Law_law).2.1 562 = .ok (.iadd, 1) := (by decide +kernel : decode code 562 = .ok (.iadd, 1))
theorem e_Law_law_562 (L : List Value) (x y : Int32) (st : List Value) (g : px_G) : rn k_Law_law 562 L (.int y :: .int x :: st) g = rn k_Law_law 563 L (.int (x + y) :: st) g := rn_next dd_Law_law_562 rfl
theorem dd_Law_law_563 : decode (px_rw k_Law_law).2.1 563 = .ok (.iaload, 1) := (by decide +kernel : decode code 563 = .ok (.iaload, 1))
theorem e_Law_law_563 (L : List Value) (i : Int32) (p : Nat) (st : List Value) (T : TS) (hp : (sh p).1 = 0) : rn k_Law_law 563 L (.int i :: .ref p :: st) (enc T) = if px_in i (sh p).2 then rn k_Law_law 564 L (.int (T.1 p i.toNatClampNeg) :: st) (enc T) else none := rn_iald dd_Law_law_563 (Prod.ext hp rfl)
theorem e_Law_law_563S (L : List Value) (i : Int32) (st : List Value) (T : TS) : rn k_Law_law 563 L (.int i :: .ref 1002 :: st) (enc T) = if px_in i T.2.2.2 then rn k_Law_law 564 L (.int (T.1 1002 i.toNatClampNeg) :: st) (enc T) else none := rn_iaS dd_Law_law_563
theorem dd_Law_law_564 : decode (px_rw k_Law_law).2.1 564 = .ok (.invokevirtual 64, 3) := (by decide +kernel : decode code 564 = .ok (.invokevirtual 64, 3))
theorem e_Law_law_564 (L : List Value) (i0 : Int32) (i1 : Int32) (i2 : Int32) (i100 : Int32)  (T : TS)  : rn k_Law_law 564 L [.int i2, .int i1, .int i0, .ref 53, .int i100] (enc T) = bd (cl k_Dm_spot [.ref 53, .int i0, .int i1, .int i2] (enc T)) (fun r g' => rn k_Law_law 567 L (r.toList ++ [.int i100]) g') := rn_callV (n := 52) (As := [.int i0, .int i1, .int i2]) (rest := [.int i100]) dd_Law_law_564 rfl (by decide) (by decide) rfl rfl (Nat.le_of_ble_eq_true rfl) (Nat.le_of_ble_eq_true rfl) rfl
theorem dd_Law_law_567 : decode (px_rw k_Law_law).2.1 567 = .ok (.if_icmp .eq 1194, 3) := (by decide +kernel : decode code 567 = .ok (.if_icmp .eq 1194, 3))
theorem e_Law_law_567 (L : List Value) (x y : Int32) (st : List Value) (g : px_G) : rn k_Law_law 567 L (.int y :: .int x :: st) g = if x = y then rn k_Law_law 1761 L st g else rn k_Law_law 570 L st g := rn_iceq dd_Law_law_567 (by decide)
theorem dd_Law_law_570 : decode (px_rw k_Law_law).2.1 570 = .ok (.iconst 0, 1) := (by decide +kernel : decode code 570 = .ok (.iconst 0, 1))
theorem e_Law_law_570 (L st : List Value) (g : px_G) : rn k_Law_law 570 L st g = rn k_Law_law 571 L (.int 0 :: st) g := rn_ipush (i := .iconst 0) dd_Law_law_570 rfl rfl (by decide)
theorem dd_Law_law_571 : decode (px_rw k_Law_law).2.1 571 = .ok (.ireturn, 1) := (by decide +kernel : decode code 571 = .ok (.ireturn, 1))
theorem e_Law_law_571 (L : List Value) (v : Int32) (g : px_G) (hv : v = 0 ∨ v = 1) : rn k_Law_law 571 L [.int v] g = some (some (.int v), g) := rn_zret dd_Law_law_571 rfl hv
theorem dd_Law_law_572 : decode (px_rw k_Law_law).2.1 572 = .ok (.aload_n 1, 1) := (by decide +kernel : decode code 572 = .ok (.aload_n 1, 1))
theorem e_Law_law_572 (a0 a2 a3 a4 a5 a6 : Value) (x : Nat) (st : List Value) (g : px_G) : rn k_Law_law 572 [a0, .ref x, a2, a3, a4, a5, a6] st g = rn k_Law_law 573 [a0, .ref x, a2, a3, a4, a5, a6] (.ref x :: st) g := rn_next dd_Law_law_572 rfl
theorem dd_Law_law_573 : decode (px_rw k_Law_law).2.1 573 = .ok (.aload_n 0, 1) := (by decide +kernel : decode code 573 = .ok (.aload_n 0, 1))
theorem e_Law_law_573 (a1 a2 a3 a4 a5 a6 : Value) (x : Nat) (st : List Value) (g : px_G) : rn k_Law_law 573 [.ref x, a1, a2, a3, a4, a5, a6] st g = rn k_Law_law 574 [.ref x, a1, a2, a3, a4, a5, a6] (.ref x :: st) g := rn_next dd_Law_law_573 rfl
theorem dd_Law_law_574 : decode (px_rw k_Law_law).2.1 574 = .ok (.iload 4, 2) := (by decide +kernel : decode code 574 = .ok (.iload 4, 2))
theorem e_Law_law_574 (a0 a1 a2 a3 a5 a6 : Value) (x : Int32) (st : List Value) (g : px_G) : rn k_Law_law 574 [a0, a1, a2, a3, .int x, a5, a6] st g = rn k_Law_law 576 [a0, a1, a2, a3, .int x, a5, a6] (.int x :: st) g := rn_next dd_Law_law_574 rfl
theorem dd_Law_law_576 : decode (px_rw k_Law_law).2.1 576 = .ok (.iconst 1, 1) := (by decide +kernel : decode code 576 = .ok (.iconst 1, 1))
theorem e_Law_law_576 (L st : List Value) (g : px_G) : rn k_Law_law 576 L st g = rn k_Law_law 577 L (.int 1 :: st) g := rn_ipush (i := .iconst 1) dd_Law_law_576 rfl rfl (by decide)
theorem dd_Law_law_577 : decode (px_rw k_Law_law).2.1 577 = .ok (.iadd, 1) := (by decide +kernel : decode code 577 = .ok (.iadd, 1))
theorem e_Law_law_577 (L : List Value) (x y : Int32) (st : List Value) (g : px_G) : rn k_Law_law 577 L (.int y :: .int x :: st) g = rn k_Law_law 578 L (.int (x + y) :: st) g := rn_next dd_Law_law_577 rfl
theorem dd_Law_law_578 : decode (px_rw k_Law_law).2.1 578 = .ok (.iaload, 1) := (by decide +kernel : decode code 578 = .ok (.iaload, 1))
theorem e_Law_law_578 (L : List Value) (i : Int32) (p : Nat) (st : List Value) (T : TS) (hp : (sh p).1 = 0) : rn k_Law_law 578 L (.int i :: .ref p :: st) (enc T) = if px_in i (sh p).2 then rn k_Law_law 579 L (.int (T.1 p i.toNatClampNeg) :: st) (enc T) else none := rn_iald dd_Law_law_578 (Prod.ext hp rfl)
theorem e_Law_law_578S (L : List Value) (i : Int32) (st : List Value) (T : TS) : rn k_Law_law 578 L (.int i :: .ref 1002 :: st) (enc T) = if px_in i T.2.2.2 then rn k_Law_law 579 L (.int (T.1 1002 i.toNatClampNeg) :: st) (enc T) else none := rn_iaS dd_Law_law_578
theorem dd_Law_law_579 : decode (px_rw k_Law_law).2.1 579 = .ok (.aload_n 0, 1) := (by decide +kernel : decode code 579 = .ok (.aload_n 0, 1))
theorem e_Law_law_579 (a1 a2 a3 a4 a5 a6 : Value) (x : Nat) (st : List Value) (g : px_G) : rn k_Law_law 579 [.ref x, a1, a2, a3, a4, a5, a6] st g = rn k_Law_law 580 [.ref x, a1, a2, a3, a4, a5, a6] (.ref x :: st) g := rn_next dd_Law_law_579 rfl
theorem dd_Law_law_580 : decode (px_rw k_Law_law).2.1 580 = .ok (.iload 4, 2) := (by decide +kernel : decode code 580 = .ok (.iload 4, 2))
theorem e_Law_law_580 (a0 a1 a2 a3 a5 a6 : Value) (x : Int32) (st : List Value) (g : px_G) : rn k_Law_law 580 [a0, a1, a2, a3, .int x, a5, a6] st g = rn k_Law_law 582 [a0, a1, a2, a3, .int x, a5, a6] (.int x :: st) g := rn_next dd_Law_law_580 rfl
theorem dd_Law_law_582 : decode (px_rw k_Law_law).2.1 582 = .ok (.iconst 2, 1) := (by decide +kernel : decode code 582 = .ok (.iconst 2, 1))
theorem e_Law_law_582 (L st : List Value) (g : px_G) : rn k_Law_law 582 L st g = rn k_Law_law 583 L (.int 2 :: st) g := rn_ipush (i := .iconst 2) dd_Law_law_582 rfl rfl (by decide)
theorem dd_Law_law_583 : decode (px_rw k_Law_law).2.1 583 = .ok (.iadd, 1) := (by decide +kernel : decode code 583 = .ok (.iadd, 1))
theorem e_Law_law_583 (L : List Value) (x y : Int32) (st : List Value) (g : px_G) : rn k_Law_law 583 L (.int y :: .int x :: st) g = rn k_Law_law 584 L (.int (x + y) :: st) g := rn_next dd_Law_law_583 rfl
theorem dd_Law_law_584 : decode (px_rw k_Law_law).2.1 584 = .ok (.iaload, 1) := (by decide +kernel : decode code 584 = .ok (.iaload, 1))
theorem e_Law_law_584 (L : List Value) (i : Int32) (p : Nat) (st : List Value) (T : TS) (hp : (sh p).1 = 0) : rn k_Law_law 584 L (.int i :: .ref p :: st) (enc T) = if px_in i (sh p).2 then rn k_Law_law 585 L (.int (T.1 p i.toNatClampNeg) :: st) (enc T) else none := rn_iald dd_Law_law_584 (Prod.ext hp rfl)
theorem e_Law_law_584S (L : List Value) (i : Int32) (st : List Value) (T : TS) : rn k_Law_law 584 L (.int i :: .ref 1002 :: st) (enc T) = if px_in i T.2.2.2 then rn k_Law_law 585 L (.int (T.1 1002 i.toNatClampNeg) :: st) (enc T) else none := rn_iaS dd_Law_law_584
theorem dd_Law_law_585 : decode (px_rw k_Law_law).2.1 585 = .ok (.aload_n 0, 1) := (by decide +kernel : decode code 585 = .ok (.aload_n 0, 1))
theorem e_Law_law_585 (a1 a2 a3 a4 a5 a6 : Value) (x : Nat) (st : List Value) (g : px_G) : rn k_Law_law 585 [.ref x, a1, a2, a3, a4, a5, a6] st g = rn k_Law_law 586 [.ref x, a1, a2, a3, a4, a5, a6] (.ref x :: st) g := rn_next dd_Law_law_585 rfl
theorem dd_Law_law_586 : decode (px_rw k_Law_law).2.1 586 = .ok (.iload 4, 2) := (by decide +kernel : decode code 586 = .ok (.iload 4, 2))
theorem e_Law_law_586 (a0 a1 a2 a3 a5 a6 : Value) (x : Int32) (st : List Value) (g : px_G) : rn k_Law_law 586 [a0, a1, a2, a3, .int x, a5, a6] st g = rn k_Law_law 588 [a0, a1, a2, a3, .int x, a5, a6] (.int x :: st) g := rn_next dd_Law_law_586 rfl
theorem dd_Law_law_588 : decode (px_rw k_Law_law).2.1 588 = .ok (.iconst 3, 1) := (by decide +kernel : decode code 588 = .ok (.iconst 3, 1))
theorem e_Law_law_588 (L st : List Value) (g : px_G) : rn k_Law_law 588 L st g = rn k_Law_law 589 L (.int 3 :: st) g := rn_ipush (i := .iconst 3) dd_Law_law_588 rfl rfl (by decide)
theorem dd_Law_law_589 : decode (px_rw k_Law_law).2.1 589 = .ok (.iadd, 1) := (by decide +kernel : decode code 589 = .ok (.iadd, 1))
theorem e_Law_law_589 (L : List Value) (x y : Int32) (st : List Value) (g : px_G) : rn k_Law_law 589 L (.int y :: .int x :: st) g = rn k_Law_law 590 L (.int (x + y) :: st) g := rn_next dd_Law_law_589 rfl
theorem dd_Law_law_590 : decode (px_rw k_Law_law).2.1 590 = .ok (.iaload, 1) := (by decide +kernel : decode code 590 = .ok (.iaload, 1))
theorem e_Law_law_590 (L : List Value) (i : Int32) (p : Nat) (st : List Value) (T : TS) (hp : (sh p).1 = 0) : rn k_Law_law 590 L (.int i :: .ref p :: st) (enc T) = if px_in i (sh p).2 then rn k_Law_law 591 L (.int (T.1 p i.toNatClampNeg) :: st) (enc T) else none := rn_iald dd_Law_law_590 (Prod.ext hp rfl)
theorem e_Law_law_590S (L : List Value) (i : Int32) (st : List Value) (T : TS) : rn k_Law_law 590 L (.int i :: .ref 1002 :: st) (enc T) = if px_in i T.2.2.2 then rn k_Law_law 591 L (.int (T.1 1002 i.toNatClampNeg) :: st) (enc T) else none := rn_iaS dd_Law_law_590
theorem dd_Law_law_591 : decode (px_rw k_Law_law).2.1 591 = .ok (.invokevirtual 65, 3) := (by decide +kernel : decode code 591 = .ok (.invokevirtual 65, 3))
theorem e_Law_law_591 (L : List Value) (i0 : Int32) (i1 : Int32) (i2 : Int32)  (T : TS)  : rn k_Law_law 591 L [.int i2, .int i1, .int i0, .ref 0] (enc T) = bd (cl k_Ds_rank [.ref 0, .int i0, .int i1, .int i2] (enc T)) (fun r g' => rn k_Law_law 594 L (r.toList ++ []) g') := rn_callV (n := 13) (As := [.int i0, .int i1, .int i2]) (rest := []) dd_Law_law_591 rfl (by decide) (by decide) rfl rfl (Nat.le_of_ble_eq_true rfl) (Nat.le_of_ble_eq_true rfl) rfl
theorem dd_Law_law_594 : decode (px_rw k_Law_law).2.1 594 = .ok (.aload_n 2, 1) := (by decide +kernel : decode code 594 = .ok (.aload_n 2, 1))
theorem e_Law_law_594 (a0 a1 a3 a4 a5 a6 : Value) (x : Nat) (st : List Value) (g : px_G) : rn k_Law_law 594 [a0, a1, .ref x, a3, a4, a5, a6] st g = rn k_Law_law 595 [a0, a1, .ref x, a3, a4, a5, a6] (.ref x :: st) g := rn_next dd_Law_law_594 rfl
theorem dd_Law_law_595 : decode (px_rw k_Law_law).2.1 595 = .ok (.aload_n 0, 1) := (by decide +kernel : decode code 595 = .ok (.aload_n 0, 1))
theorem e_Law_law_595 (a1 a2 a3 a4 a5 a6 : Value) (x : Nat) (st : List Value) (g : px_G) : rn k_Law_law 595 [.ref x, a1, a2, a3, a4, a5, a6] st g = rn k_Law_law 596 [.ref x, a1, a2, a3, a4, a5, a6] (.ref x :: st) g := rn_next dd_Law_law_595 rfl
theorem dd_Law_law_596 : decode (px_rw k_Law_law).2.1 596 = .ok (.iload 4, 2) := (by decide +kernel : decode code 596 = .ok (.iload 4, 2))
theorem e_Law_law_596 (a0 a1 a2 a3 a5 a6 : Value) (x : Int32) (st : List Value) (g : px_G) : rn k_Law_law 596 [a0, a1, a2, a3, .int x, a5, a6] st g = rn k_Law_law 598 [a0, a1, a2, a3, .int x, a5, a6] (.int x :: st) g := rn_next dd_Law_law_596 rfl
theorem dd_Law_law_598 : decode (px_rw k_Law_law).2.1 598 = .ok (.iconst 1, 1) := (by decide +kernel : decode code 598 = .ok (.iconst 1, 1))
theorem e_Law_law_598 (L st : List Value) (g : px_G) : rn k_Law_law 598 L st g = rn k_Law_law 599 L (.int 1 :: st) g := rn_ipush (i := .iconst 1) dd_Law_law_598 rfl rfl (by decide)
theorem dd_Law_law_599 : decode (px_rw k_Law_law).2.1 599 = .ok (.iadd, 1) := (by decide +kernel : decode code 599 = .ok (.iadd, 1))
theorem e_Law_law_599 (L : List Value) (x y : Int32) (st : List Value) (g : px_G) : rn k_Law_law 599 L (.int y :: .int x :: st) g = rn k_Law_law 600 L (.int (x + y) :: st) g := rn_next dd_Law_law_599 rfl
theorem dd_Law_law_600 : decode (px_rw k_Law_law).2.1 600 = .ok (.iaload, 1) := (by decide +kernel : decode code 600 = .ok (.iaload, 1))
theorem e_Law_law_600 (L : List Value) (i : Int32) (p : Nat) (st : List Value) (T : TS) (hp : (sh p).1 = 0) : rn k_Law_law 600 L (.int i :: .ref p :: st) (enc T) = if px_in i (sh p).2 then rn k_Law_law 601 L (.int (T.1 p i.toNatClampNeg) :: st) (enc T) else none := rn_iald dd_Law_law_600 (Prod.ext hp rfl)
theorem e_Law_law_600S (L : List Value) (i : Int32) (st : List Value) (T : TS) : rn k_Law_law 600 L (.int i :: .ref 1002 :: st) (enc T) = if px_in i T.2.2.2 then rn k_Law_law 601 L (.int (T.1 1002 i.toNatClampNeg) :: st) (enc T) else none := rn_iaS dd_Law_law_600
theorem dd_Law_law_601 : decode (px_rw k_Law_law).2.1 601 = .ok (.aload_n 0, 1) := (by decide +kernel : decode code 601 = .ok (.aload_n 0, 1))
theorem e_Law_law_601 (a1 a2 a3 a4 a5 a6 : Value) (x : Nat) (st : List Value) (g : px_G) : rn k_Law_law 601 [.ref x, a1, a2, a3, a4, a5, a6] st g = rn k_Law_law 602 [.ref x, a1, a2, a3, a4, a5, a6] (.ref x :: st) g := rn_next dd_Law_law_601 rfl
theorem dd_Law_law_602 : decode (px_rw k_Law_law).2.1 602 = .ok (.iload 4, 2) := (by decide +kernel : decode code 602 = .ok (.iload 4, 2))
theorem e_Law_law_602 (a0 a1 a2 a3 a5 a6 : Value) (x : Int32) (st : List Value) (g : px_G) : rn k_Law_law 602 [a0, a1, a2, a3, .int x, a5, a6] st g = rn k_Law_law 604 [a0, a1, a2, a3, .int x, a5, a6] (.int x :: st) g := rn_next dd_Law_law_602 rfl
theorem dd_Law_law_604 : decode (px_rw k_Law_law).2.1 604 = .ok (.iconst 2, 1) := (by decide +kernel : decode code 604 = .ok (.iconst 2, 1))
theorem e_Law_law_604 (L st : List Value) (g : px_G) : rn k_Law_law 604 L st g = rn k_Law_law 605 L (.int 2 :: st) g := rn_ipush (i := .iconst 2) dd_Law_law_604 rfl rfl (by decide)
theorem dd_Law_law_605 : decode (px_rw k_Law_law).2.1 605 = .ok (.iadd, 1) := (by decide +kernel : decode code 605 = .ok (.iadd, 1))
theorem e_Law_law_605 (L : List Value) (x y : Int32) (st : List Value) (g : px_G) : rn k_Law_law 605 L (.int y :: .int x :: st) g = rn k_Law_law 606 L (.int (x + y) :: st) g := rn_next dd_Law_law_605 rfl
theorem dd_Law_law_606 : decode (px_rw k_Law_law).2.1 606 = .ok (.iaload, 1) := (by decide +kernel : decode code 606 = .ok (.iaload, 1))
theorem e_Law_law_606 (L : List Value) (i : Int32) (p : Nat) (st : List Value) (T : TS) (hp : (sh p).1 = 0) : rn k_Law_law 606 L (.int i :: .ref p :: st) (enc T) = if px_in i (sh p).2 then rn k_Law_law 607 L (.int (T.1 p i.toNatClampNeg) :: st) (enc T) else none := rn_iald dd_Law_law_606 (Prod.ext hp rfl)
theorem e_Law_law_606S (L : List Value) (i : Int32) (st : List Value) (T : TS) : rn k_Law_law 606 L (.int i :: .ref 1002 :: st) (enc T) = if px_in i T.2.2.2 then rn k_Law_law 607 L (.int (T.1 1002 i.toNatClampNeg) :: st) (enc T) else none := rn_iaS dd_Law_law_606
theorem dd_Law_law_607 : decode (px_rw k_Law_law).2.1 607 = .ok (.aload_n 0, 1) := (by decide +kernel : decode code 607 = .ok (.aload_n 0, 1))
theorem e_Law_law_607 (a1 a2 a3 a4 a5 a6 : Value) (x : Nat) (st : List Value) (g : px_G) : rn k_Law_law 607 [.ref x, a1, a2, a3, a4, a5, a6] st g = rn k_Law_law 608 [.ref x, a1, a2, a3, a4, a5, a6] (.ref x :: st) g := rn_next dd_Law_law_607 rfl
theorem dd_Law_law_608 : decode (px_rw k_Law_law).2.1 608 = .ok (.iload 4, 2) := (by decide +kernel : decode code 608 = .ok (.iload 4, 2))
theorem e_Law_law_608 (a0 a1 a2 a3 a5 a6 : Value) (x : Int32) (st : List Value) (g : px_G) : rn k_Law_law 608 [a0, a1, a2, a3, .int x, a5, a6] st g = rn k_Law_law 610 [a0, a1, a2, a3, .int x, a5, a6] (.int x :: st) g := rn_next dd_Law_law_608 rfl
theorem dd_Law_law_610 : decode (px_rw k_Law_law).2.1 610 = .ok (.iconst 3, 1) := (by decide +kernel : decode code 610 = .ok (.iconst 3, 1))
theorem e_Law_law_610 (L st : List Value) (g : px_G) : rn k_Law_law 610 L st g = rn k_Law_law 611 L (.int 3 :: st) g := rn_ipush (i := .iconst 3) dd_Law_law_610 rfl rfl (by decide)
theorem dd_Law_law_611 : decode (px_rw k_Law_law).2.1 611 = .ok (.iadd, 1) := (by decide +kernel : decode code 611 = .ok (.iadd, 1))
theorem e_Law_law_611 (L : List Value) (x y : Int32) (st : List Value) (g : px_G) : rn k_Law_law 611 L (.int y :: .int x :: st) g = rn k_Law_law 612 L (.int (x + y) :: st) g := rn_next dd_Law_law_611 rfl
theorem dd_Law_law_612 : decode (px_rw k_Law_law).2.1 612 = .ok (.iaload, 1) := (by decide +kernel : decode code 612 = .ok (.iaload, 1))
theorem e_Law_law_612 (L : List Value) (i : Int32) (p : Nat) (st : List Value) (T : TS) (hp : (sh p).1 = 0) : rn k_Law_law 612 L (.int i :: .ref p :: st) (enc T) = if px_in i (sh p).2 then rn k_Law_law 613 L (.int (T.1 p i.toNatClampNeg) :: st) (enc T) else none := rn_iald dd_Law_law_612 (Prod.ext hp rfl)
theorem e_Law_law_612S (L : List Value) (i : Int32) (st : List Value) (T : TS) : rn k_Law_law 612 L (.int i :: .ref 1002 :: st) (enc T) = if px_in i T.2.2.2 then rn k_Law_law 613 L (.int (T.1 1002 i.toNatClampNeg) :: st) (enc T) else none := rn_iaS dd_Law_law_612
theorem dd_Law_law_613 : decode (px_rw k_Law_law).2.1 613 = .ok (.invokevirtual 68, 3) := (by decide +kernel : decode code 613 = .ok (.invokevirtual 68, 3))
theorem e_Law_law_613 (L : List Value) (i0 : Int32) (i1 : Int32) (i2 : Int32) (i100 : Int32)  (T : TS)  : rn k_Law_law 613 L [.int i2, .int i1, .int i0, .ref 53, .int i100] (enc T) = bd (cl k_Dm_rank [.ref 53, .int i0, .int i1, .int i2] (enc T)) (fun r g' => rn k_Law_law 616 L (r.toList ++ [.int i100]) g') := rn_callV (n := 52) (As := [.int i0, .int i1, .int i2]) (rest := [.int i100]) dd_Law_law_613 rfl (by decide) (by decide) rfl rfl (Nat.le_of_ble_eq_true rfl) (Nat.le_of_ble_eq_true rfl) rfl
theorem dd_Law_law_616 : decode (px_rw k_Law_law).2.1 616 = .ok (.if_icmp .eq 1145, 3) := (by decide +kernel : decode code 616 = .ok (.if_icmp .eq 1145, 3))
theorem e_Law_law_616 (L : List Value) (x y : Int32) (st : List Value) (g : px_G) : rn k_Law_law 616 L (.int y :: .int x :: st) g = if x = y then rn k_Law_law 1761 L st g else rn k_Law_law 619 L st g := rn_iceq dd_Law_law_616 (by decide)
theorem dd_Law_law_619 : decode (px_rw k_Law_law).2.1 619 = .ok (.iconst 0, 1) := (by decide +kernel : decode code 619 = .ok (.iconst 0, 1))
theorem e_Law_law_619 (L st : List Value) (g : px_G) : rn k_Law_law 619 L st g = rn k_Law_law 620 L (.int 0 :: st) g := rn_ipush (i := .iconst 0) dd_Law_law_619 rfl rfl (by decide)
theorem dd_Law_law_620 : decode (px_rw k_Law_law).2.1 620 = .ok (.ireturn, 1) := (by decide +kernel : decode code 620 = .ok (.ireturn, 1))
theorem e_Law_law_620 (L : List Value) (v : Int32) (g : px_G) (hv : v = 0 ∨ v = 1) : rn k_Law_law 620 L [.int v] g = some (some (.int v), g) := rn_zret dd_Law_law_620 rfl hv
theorem dd_Law_law_621 : decode (px_rw k_Law_law).2.1 621 = .ok (.aload_n 1, 1) := (by decide +kernel : decode code 621 = .ok (.aload_n 1, 1))
theorem e_Law_law_621 (a0 a2 a3 a4 a5 a6 : Value) (x : Nat) (st : List Value) (g : px_G) : rn k_Law_law 621 [a0, .ref x, a2, a3, a4, a5, a6] st g = rn k_Law_law 622 [a0, .ref x, a2, a3, a4, a5, a6] (.ref x :: st) g := rn_next dd_Law_law_621 rfl
theorem dd_Law_law_622 : decode (px_rw k_Law_law).2.1 622 = .ok (.aload_n 0, 1) := (by decide +kernel : decode code 622 = .ok (.aload_n 0, 1))
theorem e_Law_law_622 (a1 a2 a3 a4 a5 a6 : Value) (x : Nat) (st : List Value) (g : px_G) : rn k_Law_law 622 [.ref x, a1, a2, a3, a4, a5, a6] st g = rn k_Law_law 623 [.ref x, a1, a2, a3, a4, a5, a6] (.ref x :: st) g := rn_next dd_Law_law_622 rfl
theorem dd_Law_law_623 : decode (px_rw k_Law_law).2.1 623 = .ok (.iload 4, 2) := (by decide +kernel : decode code 623 = .ok (.iload 4, 2))
theorem e_Law_law_623 (a0 a1 a2 a3 a5 a6 : Value) (x : Int32) (st : List Value) (g : px_G) : rn k_Law_law 623 [a0, a1, a2, a3, .int x, a5, a6] st g = rn k_Law_law 625 [a0, a1, a2, a3, .int x, a5, a6] (.int x :: st) g := rn_next dd_Law_law_623 rfl
theorem dd_Law_law_625 : decode (px_rw k_Law_law).2.1 625 = .ok (.iconst 1, 1) := (by decide +kernel : decode code 625 = .ok (.iconst 1, 1))
theorem e_Law_law_625 (L st : List Value) (g : px_G) : rn k_Law_law 625 L st g = rn k_Law_law 626 L (.int 1 :: st) g := rn_ipush (i := .iconst 1) dd_Law_law_625 rfl rfl (by decide)
theorem dd_Law_law_626 : decode (px_rw k_Law_law).2.1 626 = .ok (.iadd, 1) := (by decide +kernel : decode code 626 = .ok (.iadd, 1))
theorem e_Law_law_626 (L : List Value) (x y : Int32) (st : List Value) (g : px_G) : rn k_Law_law 626 L (.int y :: .int x :: st) g = rn k_Law_law 627 L (.int (x + y) :: st) g := rn_next dd_Law_law_626 rfl
theorem dd_Law_law_627 : decode (px_rw k_Law_law).2.1 627 = .ok (.iaload, 1) := (by decide +kernel : decode code 627 = .ok (.iaload, 1))
theorem e_Law_law_627 (L : List Value) (i : Int32) (p : Nat) (st : List Value) (T : TS) (hp : (sh p).1 = 0) : rn k_Law_law 627 L (.int i :: .ref p :: st) (enc T) = if px_in i (sh p).2 then rn k_Law_law 628 L (.int (T.1 p i.toNatClampNeg) :: st) (enc T) else none := rn_iald dd_Law_law_627 (Prod.ext hp rfl)
theorem e_Law_law_627S (L : List Value) (i : Int32) (st : List Value) (T : TS) : rn k_Law_law 627 L (.int i :: .ref 1002 :: st) (enc T) = if px_in i T.2.2.2 then rn k_Law_law 628 L (.int (T.1 1002 i.toNatClampNeg) :: st) (enc T) else none := rn_iaS dd_Law_law_627
theorem dd_Law_law_628 : decode (px_rw k_Law_law).2.1 628 = .ok (.aload_n 0, 1) := (by decide +kernel : decode code 628 = .ok (.aload_n 0, 1))
theorem e_Law_law_628 (a1 a2 a3 a4 a5 a6 : Value) (x : Nat) (st : List Value) (g : px_G) : rn k_Law_law 628 [.ref x, a1, a2, a3, a4, a5, a6] st g = rn k_Law_law 629 [.ref x, a1, a2, a3, a4, a5, a6] (.ref x :: st) g := rn_next dd_Law_law_628 rfl
theorem dd_Law_law_629 : decode (px_rw k_Law_law).2.1 629 = .ok (.iload 4, 2) := (by decide +kernel : decode code 629 = .ok (.iload 4, 2))
theorem e_Law_law_629 (a0 a1 a2 a3 a5 a6 : Value) (x : Int32) (st : List Value) (g : px_G) : rn k_Law_law 629 [a0, a1, a2, a3, .int x, a5, a6] st g = rn k_Law_law 631 [a0, a1, a2, a3, .int x, a5, a6] (.int x :: st) g := rn_next dd_Law_law_629 rfl
theorem dd_Law_law_631 : decode (px_rw k_Law_law).2.1 631 = .ok (.iconst 2, 1) := (by decide +kernel : decode code 631 = .ok (.iconst 2, 1))
theorem e_Law_law_631 (L st : List Value) (g : px_G) : rn k_Law_law 631 L st g = rn k_Law_law 632 L (.int 2 :: st) g := rn_ipush (i := .iconst 2) dd_Law_law_631 rfl rfl (by decide)
theorem dd_Law_law_632 : decode (px_rw k_Law_law).2.1 632 = .ok (.iadd, 1) := (by decide +kernel : decode code 632 = .ok (.iadd, 1))
theorem e_Law_law_632 (L : List Value) (x y : Int32) (st : List Value) (g : px_G) : rn k_Law_law 632 L (.int y :: .int x :: st) g = rn k_Law_law 633 L (.int (x + y) :: st) g := rn_next dd_Law_law_632 rfl
theorem dd_Law_law_633 : decode (px_rw k_Law_law).2.1 633 = .ok (.iaload, 1) := (by decide +kernel : decode code 633 = .ok (.iaload, 1))
theorem e_Law_law_633 (L : List Value) (i : Int32) (p : Nat) (st : List Value) (T : TS) (hp : (sh p).1 = 0) : rn k_Law_law 633 L (.int i :: .ref p :: st) (enc T) = if px_in i (sh p).2 then rn k_Law_law 634 L (.int (T.1 p i.toNatClampNeg) :: st) (enc T) else none := rn_iald dd_Law_law_633 (Prod.ext hp rfl)
theorem e_Law_law_633S (L : List Value) (i : Int32) (st : List Value) (T : TS) : rn k_Law_law 633 L (.int i :: .ref 1002 :: st) (enc T) = if px_in i T.2.2.2 then rn k_Law_law 634 L (.int (T.1 1002 i.toNatClampNeg) :: st) (enc T) else none := rn_iaS dd_Law_law_633
theorem dd_Law_law_634 : decode (px_rw k_Law_law).2.1 634 = .ok (.aload_n 0, 1) := (by decide +kernel : decode code 634 = .ok (.aload_n 0, 1))
theorem e_Law_law_634 (a1 a2 a3 a4 a5 a6 : Value) (x : Nat) (st : List Value) (g : px_G) : rn k_Law_law 634 [.ref x, a1, a2, a3, a4, a5, a6] st g = rn k_Law_law 635 [.ref x, a1, a2, a3, a4, a5, a6] (.ref x :: st) g := rn_next dd_Law_law_634 rfl
theorem dd_Law_law_635 : decode (px_rw k_Law_law).2.1 635 = .ok (.iload 4, 2) := (by decide +kernel : decode code 635 = .ok (.iload 4, 2))
theorem e_Law_law_635 (a0 a1 a2 a3 a5 a6 : Value) (x : Int32) (st : List Value) (g : px_G) : rn k_Law_law 635 [a0, a1, a2, a3, .int x, a5, a6] st g = rn k_Law_law 637 [a0, a1, a2, a3, .int x, a5, a6] (.int x :: st) g := rn_next dd_Law_law_635 rfl
theorem dd_Law_law_637 : decode (px_rw k_Law_law).2.1 637 = .ok (.iconst 3, 1) := (by decide +kernel : decode code 637 = .ok (.iconst 3, 1))
theorem e_Law_law_637 (L st : List Value) (g : px_G) : rn k_Law_law 637 L st g = rn k_Law_law 638 L (.int 3 :: st) g := rn_ipush (i := .iconst 3) dd_Law_law_637 rfl rfl (by decide)
theorem dd_Law_law_638 : decode (px_rw k_Law_law).2.1 638 = .ok (.iadd, 1) := (by decide +kernel : decode code 638 = .ok (.iadd, 1))
theorem e_Law_law_638 (L : List Value) (x y : Int32) (st : List Value) (g : px_G) : rn k_Law_law 638 L (.int y :: .int x :: st) g = rn k_Law_law 639 L (.int (x + y) :: st) g := rn_next dd_Law_law_638 rfl
theorem dd_Law_law_639 : decode (px_rw k_Law_law).2.1 639 = .ok (.iaload, 1) := (by decide +kernel : decode code 639 = .ok (.iaload, 1))
theorem e_Law_law_639 (L : List Value) (i : Int32) (p : Nat) (st : List Value) (T : TS) (hp : (sh p).1 = 0) : rn k_Law_law 639 L (.int i :: .ref p :: st) (enc T) = if px_in i (sh p).2 then rn k_Law_law 640 L (.int (T.1 p i.toNatClampNeg) :: st) (enc T) else none := rn_iald dd_Law_law_639 (Prod.ext hp rfl)
theorem e_Law_law_639S (L : List Value) (i : Int32) (st : List Value) (T : TS) : rn k_Law_law 639 L (.int i :: .ref 1002 :: st) (enc T) = if px_in i T.2.2.2 then rn k_Law_law 640 L (.int (T.1 1002 i.toNatClampNeg) :: st) (enc T) else none := rn_iaS dd_Law_law_639
theorem dd_Law_law_640 : decode (px_rw k_Law_law).2.1 640 = .ok (.invokevirtual 69, 3) := (by decide +kernel : decode code 640 = .ok (.invokevirtual 69, 3))
theorem e_Law_law_640 (L : List Value) (i0 : Int32) (i1 : Int32) (i2 : Int32)  (T : TS)  : rn k_Law_law 640 L [.int i2, .int i1, .int i0, .ref 0] (enc T) = bd (cl k_Ds_ranked [.ref 0, .int i0, .int i1, .int i2] (enc T)) (fun r g' => rn k_Law_law 643 L (r.toList ++ []) g') := rn_callV (n := 13) (As := [.int i0, .int i1, .int i2]) (rest := []) dd_Law_law_640 rfl (by decide) (by decide) rfl rfl (Nat.le_of_ble_eq_true rfl) (Nat.le_of_ble_eq_true rfl) rfl
theorem dd_Law_law_643 : decode (px_rw k_Law_law).2.1 643 = .ok (.aload_n 2, 1) := (by decide +kernel : decode code 643 = .ok (.aload_n 2, 1))
theorem e_Law_law_643 (a0 a1 a3 a4 a5 a6 : Value) (x : Nat) (st : List Value) (g : px_G) : rn k_Law_law 643 [a0, a1, .ref x, a3, a4, a5, a6] st g = rn k_Law_law 644 [a0, a1, .ref x, a3, a4, a5, a6] (.ref x :: st) g := rn_next dd_Law_law_643 rfl
theorem dd_Law_law_644 : decode (px_rw k_Law_law).2.1 644 = .ok (.aload_n 0, 1) := (by decide +kernel : decode code 644 = .ok (.aload_n 0, 1))
theorem e_Law_law_644 (a1 a2 a3 a4 a5 a6 : Value) (x : Nat) (st : List Value) (g : px_G) : rn k_Law_law 644 [.ref x, a1, a2, a3, a4, a5, a6] st g = rn k_Law_law 645 [.ref x, a1, a2, a3, a4, a5, a6] (.ref x :: st) g := rn_next dd_Law_law_644 rfl
theorem dd_Law_law_645 : decode (px_rw k_Law_law).2.1 645 = .ok (.iload 4, 2) := (by decide +kernel : decode code 645 = .ok (.iload 4, 2))
theorem e_Law_law_645 (a0 a1 a2 a3 a5 a6 : Value) (x : Int32) (st : List Value) (g : px_G) : rn k_Law_law 645 [a0, a1, a2, a3, .int x, a5, a6] st g = rn k_Law_law 647 [a0, a1, a2, a3, .int x, a5, a6] (.int x :: st) g := rn_next dd_Law_law_645 rfl
theorem dd_Law_law_647 : decode (px_rw k_Law_law).2.1 647 = .ok (.iconst 1, 1) := (by decide +kernel : decode code 647 = .ok (.iconst 1, 1))
theorem e_Law_law_647 (L st : List Value) (g : px_G) : rn k_Law_law 647 L st g = rn k_Law_law 648 L (.int 1 :: st) g := rn_ipush (i := .iconst 1) dd_Law_law_647 rfl rfl (by decide)
theorem dd_Law_law_648 : decode (px_rw k_Law_law).2.1 648 = .ok (.iadd, 1) := (by decide +kernel : decode code 648 = .ok (.iadd, 1))
theorem e_Law_law_648 (L : List Value) (x y : Int32) (st : List Value) (g : px_G) : rn k_Law_law 648 L (.int y :: .int x :: st) g = rn k_Law_law 649 L (.int (x + y) :: st) g := rn_next dd_Law_law_648 rfl
theorem dd_Law_law_649 : decode (px_rw k_Law_law).2.1 649 = .ok (.iaload, 1) := (by decide +kernel : decode code 649 = .ok (.iaload, 1))
theorem e_Law_law_649 (L : List Value) (i : Int32) (p : Nat) (st : List Value) (T : TS) (hp : (sh p).1 = 0) : rn k_Law_law 649 L (.int i :: .ref p :: st) (enc T) = if px_in i (sh p).2 then rn k_Law_law 650 L (.int (T.1 p i.toNatClampNeg) :: st) (enc T) else none := rn_iald dd_Law_law_649 (Prod.ext hp rfl)
theorem e_Law_law_649S (L : List Value) (i : Int32) (st : List Value) (T : TS) : rn k_Law_law 649 L (.int i :: .ref 1002 :: st) (enc T) = if px_in i T.2.2.2 then rn k_Law_law 650 L (.int (T.1 1002 i.toNatClampNeg) :: st) (enc T) else none := rn_iaS dd_Law_law_649
theorem dd_Law_law_650 : decode (px_rw k_Law_law).2.1 650 = .ok (.aload_n 0, 1) := (by decide +kernel : decode code 650 = .ok (.aload_n 0, 1))
theorem e_Law_law_650 (a1 a2 a3 a4 a5 a6 : Value) (x : Nat) (st : List Value) (g : px_G) : rn k_Law_law 650 [.ref x, a1, a2, a3, a4, a5, a6] st g = rn k_Law_law 651 [.ref x, a1, a2, a3, a4, a5, a6] (.ref x :: st) g := rn_next dd_Law_law_650 rfl
theorem dd_Law_law_651 : decode (px_rw k_Law_law).2.1 651 = .ok (.iload 4, 2) := (by decide +kernel : decode code 651 = .ok (.iload 4, 2))
theorem e_Law_law_651 (a0 a1 a2 a3 a5 a6 : Value) (x : Int32) (st : List Value) (g : px_G) : rn k_Law_law 651 [a0, a1, a2, a3, .int x, a5, a6] st g = rn k_Law_law 653 [a0, a1, a2, a3, .int x, a5, a6] (.int x :: st) g := rn_next dd_Law_law_651 rfl
theorem dd_Law_law_653 : decode (px_rw k_Law_law).2.1 653 = .ok (.iconst 2, 1) := (by decide +kernel : decode code 653 = .ok (.iconst 2, 1))
theorem e_Law_law_653 (L st : List Value) (g : px_G) : rn k_Law_law 653 L st g = rn k_Law_law 654 L (.int 2 :: st) g := rn_ipush (i := .iconst 2) dd_Law_law_653 rfl rfl (by decide)
theorem dd_Law_law_654 : decode (px_rw k_Law_law).2.1 654 = .ok (.iadd, 1) := (by decide +kernel : decode code 654 = .ok (.iadd, 1))
theorem e_Law_law_654 (L : List Value) (x y : Int32) (st : List Value) (g : px_G) : rn k_Law_law 654 L (.int y :: .int x :: st) g = rn k_Law_law 655 L (.int (x + y) :: st) g := rn_next dd_Law_law_654 rfl
theorem dd_Law_law_655 : decode (px_rw k_Law_law).2.1 655 = .ok (.iaload, 1) := (by decide +kernel : decode code 655 = .ok (.iaload, 1))
theorem e_Law_law_655 (L : List Value) (i : Int32) (p : Nat) (st : List Value) (T : TS) (hp : (sh p).1 = 0) : rn k_Law_law 655 L (.int i :: .ref p :: st) (enc T) = if px_in i (sh p).2 then rn k_Law_law 656 L (.int (T.1 p i.toNatClampNeg) :: st) (enc T) else none := rn_iald dd_Law_law_655 (Prod.ext hp rfl)
theorem e_Law_law_655S (L : List Value) (i : Int32) (st : List Value) (T : TS) : rn k_Law_law 655 L (.int i :: .ref 1002 :: st) (enc T) = if px_in i T.2.2.2 then rn k_Law_law 656 L (.int (T.1 1002 i.toNatClampNeg) :: st) (enc T) else none := rn_iaS dd_Law_law_655
theorem dd_Law_law_656 : decode (px_rw k_Law_law).2.1 656 = .ok (.aload_n 0, 1) := (by decide +kernel : decode code 656 = .ok (.aload_n 0, 1))
theorem e_Law_law_656 (a1 a2 a3 a4 a5 a6 : Value) (x : Nat) (st : List Value) (g : px_G) : rn k_Law_law 656 [.ref x, a1, a2, a3, a4, a5, a6] st g = rn k_Law_law 657 [.ref x, a1, a2, a3, a4, a5, a6] (.ref x :: st) g := rn_next dd_Law_law_656 rfl
theorem dd_Law_law_657 : decode (px_rw k_Law_law).2.1 657 = .ok (.iload 4, 2) := (by decide +kernel : decode code 657 = .ok (.iload 4, 2))
theorem e_Law_law_657 (a0 a1 a2 a3 a5 a6 : Value) (x : Int32) (st : List Value) (g : px_G) : rn k_Law_law 657 [a0, a1, a2, a3, .int x, a5, a6] st g = rn k_Law_law 659 [a0, a1, a2, a3, .int x, a5, a6] (.int x :: st) g := rn_next dd_Law_law_657 rfl
theorem dd_Law_law_659 : decode (px_rw k_Law_law).2.1 659 = .ok (.iconst 3, 1) := (by decide +kernel : decode code 659 = .ok (.iconst 3, 1))
theorem e_Law_law_659 (L st : List Value) (g : px_G) : rn k_Law_law 659 L st g = rn k_Law_law 660 L (.int 3 :: st) g := rn_ipush (i := .iconst 3) dd_Law_law_659 rfl rfl (by decide)
theorem dd_Law_law_660 : decode (px_rw k_Law_law).2.1 660 = .ok (.iadd, 1) := (by decide +kernel : decode code 660 = .ok (.iadd, 1))
theorem e_Law_law_660 (L : List Value) (x y : Int32) (st : List Value) (g : px_G) : rn k_Law_law 660 L (.int y :: .int x :: st) g = rn k_Law_law 661 L (.int (x + y) :: st) g := rn_next dd_Law_law_660 rfl
theorem dd_Law_law_661 : decode (px_rw k_Law_law).2.1 661 = .ok (.iaload, 1) := (by decide +kernel : decode code 661 = .ok (.iaload, 1))
theorem e_Law_law_661 (L : List Value) (i : Int32) (p : Nat) (st : List Value) (T : TS) (hp : (sh p).1 = 0) : rn k_Law_law 661 L (.int i :: .ref p :: st) (enc T) = if px_in i (sh p).2 then rn k_Law_law 662 L (.int (T.1 p i.toNatClampNeg) :: st) (enc T) else none := rn_iald dd_Law_law_661 (Prod.ext hp rfl)
theorem e_Law_law_661S (L : List Value) (i : Int32) (st : List Value) (T : TS) : rn k_Law_law 661 L (.int i :: .ref 1002 :: st) (enc T) = if px_in i T.2.2.2 then rn k_Law_law 662 L (.int (T.1 1002 i.toNatClampNeg) :: st) (enc T) else none := rn_iaS dd_Law_law_661
theorem dd_Law_law_662 : decode (px_rw k_Law_law).2.1 662 = .ok (.invokevirtual 72, 3) := (by decide +kernel : decode code 662 = .ok (.invokevirtual 72, 3))
theorem e_Law_law_662 (L : List Value) (i0 : Int32) (i1 : Int32) (i2 : Int32) (i100 : Int32)  (T : TS)  : rn k_Law_law 662 L [.int i2, .int i1, .int i0, .ref 53, .int i100] (enc T) = bd (cl k_Dm_ranked [.ref 53, .int i0, .int i1, .int i2] (enc T)) (fun r g' => rn k_Law_law 665 L (r.toList ++ [.int i100]) g') := rn_callV (n := 52) (As := [.int i0, .int i1, .int i2]) (rest := [.int i100]) dd_Law_law_662 rfl (by decide) (by decide) rfl rfl (Nat.le_of_ble_eq_true rfl) (Nat.le_of_ble_eq_true rfl) rfl
theorem dd_Law_law_665 : decode (px_rw k_Law_law).2.1 665 = .ok (.if_icmp .eq 1096, 3) := (by decide +kernel : decode code 665 = .ok (.if_icmp .eq 1096, 3))
theorem e_Law_law_665 (L : List Value) (x y : Int32) (st : List Value) (g : px_G) : rn k_Law_law 665 L (.int y :: .int x :: st) g = if x = y then rn k_Law_law 1761 L st g else rn k_Law_law 668 L st g := rn_iceq dd_Law_law_665 (by decide)
theorem dd_Law_law_668 : decode (px_rw k_Law_law).2.1 668 = .ok (.iconst 0, 1) := (by decide +kernel : decode code 668 = .ok (.iconst 0, 1))
theorem e_Law_law_668 (L st : List Value) (g : px_G) : rn k_Law_law 668 L st g = rn k_Law_law 669 L (.int 0 :: st) g := rn_ipush (i := .iconst 0) dd_Law_law_668 rfl rfl (by decide)
theorem dd_Law_law_669 : decode (px_rw k_Law_law).2.1 669 = .ok (.ireturn, 1) := (by decide +kernel : decode code 669 = .ok (.ireturn, 1))
theorem e_Law_law_669 (L : List Value) (v : Int32) (g : px_G) (hv : v = 0 ∨ v = 1) : rn k_Law_law 669 L [.int v] g = some (some (.int v), g) := rn_zret dd_Law_law_669 rfl hv
theorem dd_Law_law_670 : decode (px_rw k_Law_law).2.1 670 = .ok (.aload_n 1, 1) := (by decide +kernel : decode code 670 = .ok (.aload_n 1, 1))
theorem e_Law_law_670 (a0 a2 a3 a4 a5 a6 : Value) (x : Nat) (st : List Value) (g : px_G) : rn k_Law_law 670 [a0, .ref x, a2, a3, a4, a5, a6] st g = rn k_Law_law 671 [a0, .ref x, a2, a3, a4, a5, a6] (.ref x :: st) g := rn_next dd_Law_law_670 rfl
theorem dd_Law_law_671 : decode (px_rw k_Law_law).2.1 671 = .ok (.aload_n 0, 1) := (by decide +kernel : decode code 671 = .ok (.aload_n 0, 1))
theorem e_Law_law_671 (a1 a2 a3 a4 a5 a6 : Value) (x : Nat) (st : List Value) (g : px_G) : rn k_Law_law 671 [.ref x, a1, a2, a3, a4, a5, a6] st g = rn k_Law_law 672 [.ref x, a1, a2, a3, a4, a5, a6] (.ref x :: st) g := rn_next dd_Law_law_671 rfl
theorem dd_Law_law_672 : decode (px_rw k_Law_law).2.1 672 = .ok (.iload 4, 2) := (by decide +kernel : decode code 672 = .ok (.iload 4, 2))
theorem e_Law_law_672 (a0 a1 a2 a3 a5 a6 : Value) (x : Int32) (st : List Value) (g : px_G) : rn k_Law_law 672 [a0, a1, a2, a3, .int x, a5, a6] st g = rn k_Law_law 674 [a0, a1, a2, a3, .int x, a5, a6] (.int x :: st) g := rn_next dd_Law_law_672 rfl
theorem dd_Law_law_674 : decode (px_rw k_Law_law).2.1 674 = .ok (.iconst 1, 1) := (by decide +kernel : decode code 674 = .ok (.iconst 1, 1))
theorem e_Law_law_674 (L st : List Value) (g : px_G) : rn k_Law_law 674 L st g = rn k_Law_law 675 L (.int 1 :: st) g := rn_ipush (i := .iconst 1) dd_Law_law_674 rfl rfl (by decide)
theorem dd_Law_law_675 : decode (px_rw k_Law_law).2.1 675 = .ok (.iadd, 1) := (by decide +kernel : decode code 675 = .ok (.iadd, 1))
theorem e_Law_law_675 (L : List Value) (x y : Int32) (st : List Value) (g : px_G) : rn k_Law_law 675 L (.int y :: .int x :: st) g = rn k_Law_law 676 L (.int (x + y) :: st) g := rn_next dd_Law_law_675 rfl
theorem dd_Law_law_676 : decode (px_rw k_Law_law).2.1 676 = .ok (.iaload, 1) := (by decide +kernel : decode code 676 = .ok (.iaload, 1))
theorem e_Law_law_676 (L : List Value) (i : Int32) (p : Nat) (st : List Value) (T : TS) (hp : (sh p).1 = 0) : rn k_Law_law 676 L (.int i :: .ref p :: st) (enc T) = if px_in i (sh p).2 then rn k_Law_law 677 L (.int (T.1 p i.toNatClampNeg) :: st) (enc T) else none := rn_iald dd_Law_law_676 (Prod.ext hp rfl)
theorem e_Law_law_676S (L : List Value) (i : Int32) (st : List Value) (T : TS) : rn k_Law_law 676 L (.int i :: .ref 1002 :: st) (enc T) = if px_in i T.2.2.2 then rn k_Law_law 677 L (.int (T.1 1002 i.toNatClampNeg) :: st) (enc T) else none := rn_iaS dd_Law_law_676
theorem dd_Law_law_677 : decode (px_rw k_Law_law).2.1 677 = .ok (.aload_n 0, 1) := (by decide +kernel : decode code 677 = .ok (.aload_n 0, 1))
theorem e_Law_law_677 (a1 a2 a3 a4 a5 a6 : Value) (x : Nat) (st : List Value) (g : px_G) : rn k_Law_law 677 [.ref x, a1, a2, a3, a4, a5, a6] st g = rn k_Law_law 678 [.ref x, a1, a2, a3, a4, a5, a6] (.ref x :: st) g := rn_next dd_Law_law_677 rfl
theorem dd_Law_law_678 : decode (px_rw k_Law_law).2.1 678 = .ok (.iload 4, 2) := (by decide +kernel : decode code 678 = .ok (.iload 4, 2))
theorem e_Law_law_678 (a0 a1 a2 a3 a5 a6 : Value) (x : Int32) (st : List Value) (g : px_G) : rn k_Law_law 678 [a0, a1, a2, a3, .int x, a5, a6] st g = rn k_Law_law 680 [a0, a1, a2, a3, .int x, a5, a6] (.int x :: st) g := rn_next dd_Law_law_678 rfl
theorem dd_Law_law_680 : decode (px_rw k_Law_law).2.1 680 = .ok (.iconst 2, 1) := (by decide +kernel : decode code 680 = .ok (.iconst 2, 1))
theorem e_Law_law_680 (L st : List Value) (g : px_G) : rn k_Law_law 680 L st g = rn k_Law_law 681 L (.int 2 :: st) g := rn_ipush (i := .iconst 2) dd_Law_law_680 rfl rfl (by decide)
theorem dd_Law_law_681 : decode (px_rw k_Law_law).2.1 681 = .ok (.iadd, 1) := (by decide +kernel : decode code 681 = .ok (.iadd, 1))
theorem e_Law_law_681 (L : List Value) (x y : Int32) (st : List Value) (g : px_G) : rn k_Law_law 681 L (.int y :: .int x :: st) g = rn k_Law_law 682 L (.int (x + y) :: st) g := rn_next dd_Law_law_681 rfl
theorem dd_Law_law_682 : decode (px_rw k_Law_law).2.1 682 = .ok (.iaload, 1) := (by decide +kernel : decode code 682 = .ok (.iaload, 1))
theorem e_Law_law_682 (L : List Value) (i : Int32) (p : Nat) (st : List Value) (T : TS) (hp : (sh p).1 = 0) : rn k_Law_law 682 L (.int i :: .ref p :: st) (enc T) = if px_in i (sh p).2 then rn k_Law_law 683 L (.int (T.1 p i.toNatClampNeg) :: st) (enc T) else none := rn_iald dd_Law_law_682 (Prod.ext hp rfl)
theorem e_Law_law_682S (L : List Value) (i : Int32) (st : List Value) (T : TS) : rn k_Law_law 682 L (.int i :: .ref 1002 :: st) (enc T) = if px_in i T.2.2.2 then rn k_Law_law 683 L (.int (T.1 1002 i.toNatClampNeg) :: st) (enc T) else none := rn_iaS dd_Law_law_682
theorem dd_Law_law_683 : decode (px_rw k_Law_law).2.1 683 = .ok (.aload_n 0, 1) := (by decide +kernel : decode code 683 = .ok (.aload_n 0, 1))
theorem e_Law_law_683 (a1 a2 a3 a4 a5 a6 : Value) (x : Nat) (st : List Value) (g : px_G) : rn k_Law_law 683 [.ref x, a1, a2, a3, a4, a5, a6] st g = rn k_Law_law 684 [.ref x, a1, a2, a3, a4, a5, a6] (.ref x :: st) g := rn_next dd_Law_law_683 rfl
theorem dd_Law_law_684 : decode (px_rw k_Law_law).2.1 684 = .ok (.iload 4, 2) := (by decide +kernel : decode code 684 = .ok (.iload 4, 2))
theorem e_Law_law_684 (a0 a1 a2 a3 a5 a6 : Value) (x : Int32) (st : List Value) (g : px_G) : rn k_Law_law 684 [a0, a1, a2, a3, .int x, a5, a6] st g = rn k_Law_law 686 [a0, a1, a2, a3, .int x, a5, a6] (.int x :: st) g := rn_next dd_Law_law_684 rfl
theorem dd_Law_law_686 : decode (px_rw k_Law_law).2.1 686 = .ok (.iconst 3, 1) := (by decide +kernel : decode code 686 = .ok (.iconst 3, 1))
theorem e_Law_law_686 (L st : List Value) (g : px_G) : rn k_Law_law 686 L st g = rn k_Law_law 687 L (.int 3 :: st) g := rn_ipush (i := .iconst 3) dd_Law_law_686 rfl rfl (by decide)
theorem dd_Law_law_687 : decode (px_rw k_Law_law).2.1 687 = .ok (.iadd, 1) := (by decide +kernel : decode code 687 = .ok (.iadd, 1))
theorem e_Law_law_687 (L : List Value) (x y : Int32) (st : List Value) (g : px_G) : rn k_Law_law 687 L (.int y :: .int x :: st) g = rn k_Law_law 688 L (.int (x + y) :: st) g := rn_next dd_Law_law_687 rfl
theorem dd_Law_law_688 : decode (px_rw k_Law_law).2.1 688 = .ok (.iaload, 1) := (by decide +kernel : decode code 688 = .ok (.iaload, 1))
theorem e_Law_law_688 (L : List Value) (i : Int32) (p : Nat) (st : List Value) (T : TS) (hp : (sh p).1 = 0) : rn k_Law_law 688 L (.int i :: .ref p :: st) (enc T) = if px_in i (sh p).2 then rn k_Law_law 689 L (.int (T.1 p i.toNatClampNeg) :: st) (enc T) else none := rn_iald dd_Law_law_688 (Prod.ext hp rfl)
theorem e_Law_law_688S (L : List Value) (i : Int32) (st : List Value) (T : TS) : rn k_Law_law 688 L (.int i :: .ref 1002 :: st) (enc T) = if px_in i T.2.2.2 then rn k_Law_law 689 L (.int (T.1 1002 i.toNatClampNeg) :: st) (enc T) else none := rn_iaS dd_Law_law_688
theorem dd_Law_law_689 : decode (px_rw k_Law_law).2.1 689 = .ok (.invokevirtual 73, 3) := (by decide +kernel : decode code 689 = .ok (.invokevirtual 73, 3))
theorem e_Law_law_689 (L : List Value) (i0 : Int32) (i1 : Int32) (i2 : Int32)  (T : TS)  : rn k_Law_law 689 L [.int i2, .int i1, .int i0, .ref 0] (enc T) = bd (cl k_Ds_inked [.ref 0, .int i0, .int i1, .int i2] (enc T)) (fun r g' => rn k_Law_law 692 L (r.toList ++ []) g') := rn_callV (n := 13) (As := [.int i0, .int i1, .int i2]) (rest := []) dd_Law_law_689 rfl (by decide) (by decide) rfl rfl (Nat.le_of_ble_eq_true rfl) (Nat.le_of_ble_eq_true rfl) rfl
theorem dd_Law_law_692 : decode (px_rw k_Law_law).2.1 692 = .ok (.aload_n 2, 1) := (by decide +kernel : decode code 692 = .ok (.aload_n 2, 1))
theorem e_Law_law_692 (a0 a1 a3 a4 a5 a6 : Value) (x : Nat) (st : List Value) (g : px_G) : rn k_Law_law 692 [a0, a1, .ref x, a3, a4, a5, a6] st g = rn k_Law_law 693 [a0, a1, .ref x, a3, a4, a5, a6] (.ref x :: st) g := rn_next dd_Law_law_692 rfl
theorem dd_Law_law_693 : decode (px_rw k_Law_law).2.1 693 = .ok (.aload_n 0, 1) := (by decide +kernel : decode code 693 = .ok (.aload_n 0, 1))
theorem e_Law_law_693 (a1 a2 a3 a4 a5 a6 : Value) (x : Nat) (st : List Value) (g : px_G) : rn k_Law_law 693 [.ref x, a1, a2, a3, a4, a5, a6] st g = rn k_Law_law 694 [.ref x, a1, a2, a3, a4, a5, a6] (.ref x :: st) g := rn_next dd_Law_law_693 rfl
theorem dd_Law_law_694 : decode (px_rw k_Law_law).2.1 694 = .ok (.iload 4, 2) := (by decide +kernel : decode code 694 = .ok (.iload 4, 2))
theorem e_Law_law_694 (a0 a1 a2 a3 a5 a6 : Value) (x : Int32) (st : List Value) (g : px_G) : rn k_Law_law 694 [a0, a1, a2, a3, .int x, a5, a6] st g = rn k_Law_law 696 [a0, a1, a2, a3, .int x, a5, a6] (.int x :: st) g := rn_next dd_Law_law_694 rfl
theorem dd_Law_law_696 : decode (px_rw k_Law_law).2.1 696 = .ok (.iconst 1, 1) := (by decide +kernel : decode code 696 = .ok (.iconst 1, 1))
theorem e_Law_law_696 (L st : List Value) (g : px_G) : rn k_Law_law 696 L st g = rn k_Law_law 697 L (.int 1 :: st) g := rn_ipush (i := .iconst 1) dd_Law_law_696 rfl rfl (by decide)
theorem dd_Law_law_697 : decode (px_rw k_Law_law).2.1 697 = .ok (.iadd, 1) := (by decide +kernel : decode code 697 = .ok (.iadd, 1))
theorem e_Law_law_697 (L : List Value) (x y : Int32) (st : List Value) (g : px_G) : rn k_Law_law 697 L (.int y :: .int x :: st) g = rn k_Law_law 698 L (.int (x + y) :: st) g := rn_next dd_Law_law_697 rfl
theorem dd_Law_law_698 : decode (px_rw k_Law_law).2.1 698 = .ok (.iaload, 1) := (by decide +kernel : decode code 698 = .ok (.iaload, 1))
theorem e_Law_law_698 (L : List Value) (i : Int32) (p : Nat) (st : List Value) (T : TS) (hp : (sh p).1 = 0) : rn k_Law_law 698 L (.int i :: .ref p :: st) (enc T) = if px_in i (sh p).2 then rn k_Law_law 699 L (.int (T.1 p i.toNatClampNeg) :: st) (enc T) else none := rn_iald dd_Law_law_698 (Prod.ext hp rfl)
theorem e_Law_law_698S (L : List Value) (i : Int32) (st : List Value) (T : TS) : rn k_Law_law 698 L (.int i :: .ref 1002 :: st) (enc T) = if px_in i T.2.2.2 then rn k_Law_law 699 L (.int (T.1 1002 i.toNatClampNeg) :: st) (enc T) else none := rn_iaS dd_Law_law_698
theorem dd_Law_law_699 : decode (px_rw k_Law_law).2.1 699 = .ok (.aload_n 0, 1) := (by decide +kernel : decode code 699 = .ok (.aload_n 0, 1))
theorem e_Law_law_699 (a1 a2 a3 a4 a5 a6 : Value) (x : Nat) (st : List Value) (g : px_G) : rn k_Law_law 699 [.ref x, a1, a2, a3, a4, a5, a6] st g = rn k_Law_law 700 [.ref x, a1, a2, a3, a4, a5, a6] (.ref x :: st) g := rn_next dd_Law_law_699 rfl
theorem dd_Law_law_700 : decode (px_rw k_Law_law).2.1 700 = .ok (.iload 4, 2) := (by decide +kernel : decode code 700 = .ok (.iload 4, 2))
theorem e_Law_law_700 (a0 a1 a2 a3 a5 a6 : Value) (x : Int32) (st : List Value) (g : px_G) : rn k_Law_law 700 [a0, a1, a2, a3, .int x, a5, a6] st g = rn k_Law_law 702 [a0, a1, a2, a3, .int x, a5, a6] (.int x :: st) g := rn_next dd_Law_law_700 rfl
theorem dd_Law_law_702 : decode (px_rw k_Law_law).2.1 702 = .ok (.iconst 2, 1) := (by decide +kernel : decode code 702 = .ok (.iconst 2, 1))
theorem e_Law_law_702 (L st : List Value) (g : px_G) : rn k_Law_law 702 L st g = rn k_Law_law 703 L (.int 2 :: st) g := rn_ipush (i := .iconst 2) dd_Law_law_702 rfl rfl (by decide)
theorem dd_Law_law_703 : decode (px_rw k_Law_law).2.1 703 = .ok (.iadd, 1) := (by decide +kernel : decode code 703 = .ok (.iadd, 1))
theorem e_Law_law_703 (L : List Value) (x y : Int32) (st : List Value) (g : px_G) : rn k_Law_law 703 L (.int y :: .int x :: st) g = rn k_Law_law 704 L (.int (x + y) :: st) g := rn_next dd_Law_law_703 rfl
theorem dd_Law_law_704 : decode (px_rw k_Law_law).2.1 704 = .ok (.iaload, 1) := (by decide +kernel : decode code 704 = .ok (.iaload, 1))
theorem e_Law_law_704 (L : List Value) (i : Int32) (p : Nat) (st : List Value) (T : TS) (hp : (sh p).1 = 0) : rn k_Law_law 704 L (.int i :: .ref p :: st) (enc T) = if px_in i (sh p).2 then rn k_Law_law 705 L (.int (T.1 p i.toNatClampNeg) :: st) (enc T) else none := rn_iald dd_Law_law_704 (Prod.ext hp rfl)
theorem e_Law_law_704S (L : List Value) (i : Int32) (st : List Value) (T : TS) : rn k_Law_law 704 L (.int i :: .ref 1002 :: st) (enc T) = if px_in i T.2.2.2 then rn k_Law_law 705 L (.int (T.1 1002 i.toNatClampNeg) :: st) (enc T) else none := rn_iaS dd_Law_law_704
theorem dd_Law_law_705 : decode (px_rw k_Law_law).2.1 705 = .ok (.aload_n 0, 1) := (by decide +kernel : decode code 705 = .ok (.aload_n 0, 1))
theorem e_Law_law_705 (a1 a2 a3 a4 a5 a6 : Value) (x : Nat) (st : List Value) (g : px_G) : rn k_Law_law 705 [.ref x, a1, a2, a3, a4, a5, a6] st g = rn k_Law_law 706 [.ref x, a1, a2, a3, a4, a5, a6] (.ref x :: st) g := rn_next dd_Law_law_705 rfl
theorem dd_Law_law_706 : decode (px_rw k_Law_law).2.1 706 = .ok (.iload 4, 2) := (by decide +kernel : decode code 706 = .ok (.iload 4, 2))
theorem e_Law_law_706 (a0 a1 a2 a3 a5 a6 : Value) (x : Int32) (st : List Value) (g : px_G) : rn k_Law_law 706 [a0, a1, a2, a3, .int x, a5, a6] st g = rn k_Law_law 708 [a0, a1, a2, a3, .int x, a5, a6] (.int x :: st) g := rn_next dd_Law_law_706 rfl
theorem dd_Law_law_708 : decode (px_rw k_Law_law).2.1 708 = .ok (.iconst 3, 1) := (by decide +kernel : decode code 708 = .ok (.iconst 3, 1))
theorem e_Law_law_708 (L st : List Value) (g : px_G) : rn k_Law_law 708 L st g = rn k_Law_law 709 L (.int 3 :: st) g := rn_ipush (i := .iconst 3) dd_Law_law_708 rfl rfl (by decide)
theorem dd_Law_law_709 : decode (px_rw k_Law_law).2.1 709 = .ok (.iadd, 1) := (by decide +kernel : decode code 709 = .ok (.iadd, 1))
theorem e_Law_law_709 (L : List Value) (x y : Int32) (st : List Value) (g : px_G) : rn k_Law_law 709 L (.int y :: .int x :: st) g = rn k_Law_law 710 L (.int (x + y) :: st) g := rn_next dd_Law_law_709 rfl
theorem dd_Law_law_710 : decode (px_rw k_Law_law).2.1 710 = .ok (.iaload, 1) := (by decide +kernel : decode code 710 = .ok (.iaload, 1))
theorem e_Law_law_710 (L : List Value) (i : Int32) (p : Nat) (st : List Value) (T : TS) (hp : (sh p).1 = 0) : rn k_Law_law 710 L (.int i :: .ref p :: st) (enc T) = if px_in i (sh p).2 then rn k_Law_law 711 L (.int (T.1 p i.toNatClampNeg) :: st) (enc T) else none := rn_iald dd_Law_law_710 (Prod.ext hp rfl)
theorem e_Law_law_710S (L : List Value) (i : Int32) (st : List Value) (T : TS) : rn k_Law_law 710 L (.int i :: .ref 1002 :: st) (enc T) = if px_in i T.2.2.2 then rn k_Law_law 711 L (.int (T.1 1002 i.toNatClampNeg) :: st) (enc T) else none := rn_iaS dd_Law_law_710
theorem dd_Law_law_711 : decode (px_rw k_Law_law).2.1 711 = .ok (.invokevirtual 77, 3) := (by decide +kernel : decode code 711 = .ok (.invokevirtual 77, 3))
theorem e_Law_law_711 (L : List Value) (i0 : Int32) (i1 : Int32) (i2 : Int32) (i100 : Int32)  (T : TS)  : rn k_Law_law 711 L [.int i2, .int i1, .int i0, .ref 53, .int i100] (enc T) = bd (cl k_Dm_inked [.ref 53, .int i0, .int i1, .int i2] (enc T)) (fun r g' => rn k_Law_law 714 L (r.toList ++ [.int i100]) g') := rn_callV (n := 52) (As := [.int i0, .int i1, .int i2]) (rest := [.int i100]) dd_Law_law_711 rfl (by decide) (by decide) rfl rfl (Nat.le_of_ble_eq_true rfl) (Nat.le_of_ble_eq_true rfl) rfl
theorem dd_Law_law_714 : decode (px_rw k_Law_law).2.1 714 = .ok (.if_icmp .eq 1047, 3) := (by decide +kernel : decode code 714 = .ok (.if_icmp .eq 1047, 3))
theorem e_Law_law_714 (L : List Value) (x y : Int32) (st : List Value) (g : px_G) : rn k_Law_law 714 L (.int y :: .int x :: st) g = if x = y then rn k_Law_law 1761 L st g else rn k_Law_law 717 L st g := rn_iceq dd_Law_law_714 (by decide)
theorem dd_Law_law_717 : decode (px_rw k_Law_law).2.1 717 = .ok (.iconst 0, 1) := (by decide +kernel : decode code 717 = .ok (.iconst 0, 1))
theorem e_Law_law_717 (L st : List Value) (g : px_G) : rn k_Law_law 717 L st g = rn k_Law_law 718 L (.int 0 :: st) g := rn_ipush (i := .iconst 0) dd_Law_law_717 rfl rfl (by decide)
theorem dd_Law_law_718 : decode (px_rw k_Law_law).2.1 718 = .ok (.ireturn, 1) := (by decide +kernel : decode code 718 = .ok (.ireturn, 1))
theorem e_Law_law_718 (L : List Value) (v : Int32) (g : px_G) (hv : v = 0 ∨ v = 1) : rn k_Law_law 718 L [.int v] g = some (some (.int v), g) := rn_zret dd_Law_law_718 rfl hv
theorem dd_Law_law_719 : decode (px_rw k_Law_law).2.1 719 = .ok (.aload_n 1, 1) := (by decide +kernel : decode code 719 = .ok (.aload_n 1, 1))
theorem e_Law_law_719 (a0 a2 a3 a4 a5 a6 : Value) (x : Nat) (st : List Value) (g : px_G) : rn k_Law_law 719 [a0, .ref x, a2, a3, a4, a5, a6] st g = rn k_Law_law 720 [a0, .ref x, a2, a3, a4, a5, a6] (.ref x :: st) g := rn_next dd_Law_law_719 rfl
theorem dd_Law_law_720 : decode (px_rw k_Law_law).2.1 720 = .ok (.aload_n 0, 1) := (by decide +kernel : decode code 720 = .ok (.aload_n 0, 1))
theorem e_Law_law_720 (a1 a2 a3 a4 a5 a6 : Value) (x : Nat) (st : List Value) (g : px_G) : rn k_Law_law 720 [.ref x, a1, a2, a3, a4, a5, a6] st g = rn k_Law_law 721 [.ref x, a1, a2, a3, a4, a5, a6] (.ref x :: st) g := rn_next dd_Law_law_720 rfl
theorem dd_Law_law_721 : decode (px_rw k_Law_law).2.1 721 = .ok (.iload 4, 2) := (by decide +kernel : decode code 721 = .ok (.iload 4, 2))
theorem e_Law_law_721 (a0 a1 a2 a3 a5 a6 : Value) (x : Int32) (st : List Value) (g : px_G) : rn k_Law_law 721 [a0, a1, a2, a3, .int x, a5, a6] st g = rn k_Law_law 723 [a0, a1, a2, a3, .int x, a5, a6] (.int x :: st) g := rn_next dd_Law_law_721 rfl
theorem dd_Law_law_723 : decode (px_rw k_Law_law).2.1 723 = .ok (.iconst 1, 1) := (by decide +kernel : decode code 723 = .ok (.iconst 1, 1))
theorem e_Law_law_723 (L st : List Value) (g : px_G) : rn k_Law_law 723 L st g = rn k_Law_law 724 L (.int 1 :: st) g := rn_ipush (i := .iconst 1) dd_Law_law_723 rfl rfl (by decide)
theorem dd_Law_law_724 : decode (px_rw k_Law_law).2.1 724 = .ok (.iadd, 1) := (by decide +kernel : decode code 724 = .ok (.iadd, 1))
theorem e_Law_law_724 (L : List Value) (x y : Int32) (st : List Value) (g : px_G) : rn k_Law_law 724 L (.int y :: .int x :: st) g = rn k_Law_law 725 L (.int (x + y) :: st) g := rn_next dd_Law_law_724 rfl
theorem dd_Law_law_725 : decode (px_rw k_Law_law).2.1 725 = .ok (.iaload, 1) := (by decide +kernel : decode code 725 = .ok (.iaload, 1))
theorem e_Law_law_725 (L : List Value) (i : Int32) (p : Nat) (st : List Value) (T : TS) (hp : (sh p).1 = 0) : rn k_Law_law 725 L (.int i :: .ref p :: st) (enc T) = if px_in i (sh p).2 then rn k_Law_law 726 L (.int (T.1 p i.toNatClampNeg) :: st) (enc T) else none := rn_iald dd_Law_law_725 (Prod.ext hp rfl)
theorem e_Law_law_725S (L : List Value) (i : Int32) (st : List Value) (T : TS) : rn k_Law_law 725 L (.int i :: .ref 1002 :: st) (enc T) = if px_in i T.2.2.2 then rn k_Law_law 726 L (.int (T.1 1002 i.toNatClampNeg) :: st) (enc T) else none := rn_iaS dd_Law_law_725
theorem dd_Law_law_726 : decode (px_rw k_Law_law).2.1 726 = .ok (.aload_n 0, 1) := (by decide +kernel : decode code 726 = .ok (.aload_n 0, 1))
theorem e_Law_law_726 (a1 a2 a3 a4 a5 a6 : Value) (x : Nat) (st : List Value) (g : px_G) : rn k_Law_law 726 [.ref x, a1, a2, a3, a4, a5, a6] st g = rn k_Law_law 727 [.ref x, a1, a2, a3, a4, a5, a6] (.ref x :: st) g := rn_next dd_Law_law_726 rfl
theorem dd_Law_law_727 : decode (px_rw k_Law_law).2.1 727 = .ok (.iload 4, 2) := (by decide +kernel : decode code 727 = .ok (.iload 4, 2))
theorem e_Law_law_727 (a0 a1 a2 a3 a5 a6 : Value) (x : Int32) (st : List Value) (g : px_G) : rn k_Law_law 727 [a0, a1, a2, a3, .int x, a5, a6] st g = rn k_Law_law 729 [a0, a1, a2, a3, .int x, a5, a6] (.int x :: st) g := rn_next dd_Law_law_727 rfl
theorem dd_Law_law_729 : decode (px_rw k_Law_law).2.1 729 = .ok (.iconst 2, 1) := (by decide +kernel : decode code 729 = .ok (.iconst 2, 1))
theorem e_Law_law_729 (L st : List Value) (g : px_G) : rn k_Law_law 729 L st g = rn k_Law_law 730 L (.int 2 :: st) g := rn_ipush (i := .iconst 2) dd_Law_law_729 rfl rfl (by decide)
theorem dd_Law_law_730 : decode (px_rw k_Law_law).2.1 730 = .ok (.iadd, 1) := (by decide +kernel : decode code 730 = .ok (.iadd, 1))
theorem e_Law_law_730 (L : List Value) (x y : Int32) (st : List Value) (g : px_G) : rn k_Law_law 730 L (.int y :: .int x :: st) g = rn k_Law_law 731 L (.int (x + y) :: st) g := rn_next dd_Law_law_730 rfl
theorem dd_Law_law_731 : decode (px_rw k_Law_law).2.1 731 = .ok (.iaload, 1) := (by decide +kernel : decode code 731 = .ok (.iaload, 1))
theorem e_Law_law_731 (L : List Value) (i : Int32) (p : Nat) (st : List Value) (T : TS) (hp : (sh p).1 = 0) : rn k_Law_law 731 L (.int i :: .ref p :: st) (enc T) = if px_in i (sh p).2 then rn k_Law_law 732 L (.int (T.1 p i.toNatClampNeg) :: st) (enc T) else none := rn_iald dd_Law_law_731 (Prod.ext hp rfl)
theorem e_Law_law_731S (L : List Value) (i : Int32) (st : List Value) (T : TS) : rn k_Law_law 731 L (.int i :: .ref 1002 :: st) (enc T) = if px_in i T.2.2.2 then rn k_Law_law 732 L (.int (T.1 1002 i.toNatClampNeg) :: st) (enc T) else none := rn_iaS dd_Law_law_731
theorem dd_Law_law_732 : decode (px_rw k_Law_law).2.1 732 = .ok (.invokevirtual 78, 3) := (by decide +kernel : decode code 732 = .ok (.invokevirtual 78, 3))
theorem e_Law_law_732 (L : List Value) (i0 : Int32) (i1 : Int32)  (T : TS)  : rn k_Law_law 732 L [.int i1, .int i0, .ref 0] (enc T) = bd (cl k_Ds_dots [.ref 0, .int i0, .int i1] (enc T)) (fun r g' => rn k_Law_law 735 L (r.toList ++ []) g') := rn_callV (n := 13) (As := [.int i0, .int i1]) (rest := []) dd_Law_law_732 rfl (by decide) (by decide) rfl rfl (Nat.le_of_ble_eq_true rfl) (Nat.le_of_ble_eq_true rfl) rfl
theorem dd_Law_law_735 : decode (px_rw k_Law_law).2.1 735 = .ok (.aload_n 2, 1) := (by decide +kernel : decode code 735 = .ok (.aload_n 2, 1))
theorem e_Law_law_735 (a0 a1 a3 a4 a5 a6 : Value) (x : Nat) (st : List Value) (g : px_G) : rn k_Law_law 735 [a0, a1, .ref x, a3, a4, a5, a6] st g = rn k_Law_law 736 [a0, a1, .ref x, a3, a4, a5, a6] (.ref x :: st) g := rn_next dd_Law_law_735 rfl
theorem dd_Law_law_736 : decode (px_rw k_Law_law).2.1 736 = .ok (.aload_n 0, 1) := (by decide +kernel : decode code 736 = .ok (.aload_n 0, 1))
theorem e_Law_law_736 (a1 a2 a3 a4 a5 a6 : Value) (x : Nat) (st : List Value) (g : px_G) : rn k_Law_law 736 [.ref x, a1, a2, a3, a4, a5, a6] st g = rn k_Law_law 737 [.ref x, a1, a2, a3, a4, a5, a6] (.ref x :: st) g := rn_next dd_Law_law_736 rfl
theorem dd_Law_law_737 : decode (px_rw k_Law_law).2.1 737 = .ok (.iload 4, 2) := (by decide +kernel : decode code 737 = .ok (.iload 4, 2))
theorem e_Law_law_737 (a0 a1 a2 a3 a5 a6 : Value) (x : Int32) (st : List Value) (g : px_G) : rn k_Law_law 737 [a0, a1, a2, a3, .int x, a5, a6] st g = rn k_Law_law 739 [a0, a1, a2, a3, .int x, a5, a6] (.int x :: st) g := rn_next dd_Law_law_737 rfl
theorem dd_Law_law_739 : decode (px_rw k_Law_law).2.1 739 = .ok (.iconst 1, 1) := (by decide +kernel : decode code 739 = .ok (.iconst 1, 1))
theorem e_Law_law_739 (L st : List Value) (g : px_G) : rn k_Law_law 739 L st g = rn k_Law_law 740 L (.int 1 :: st) g := rn_ipush (i := .iconst 1) dd_Law_law_739 rfl rfl (by decide)
theorem dd_Law_law_740 : decode (px_rw k_Law_law).2.1 740 = .ok (.iadd, 1) := (by decide +kernel : decode code 740 = .ok (.iadd, 1))
theorem e_Law_law_740 (L : List Value) (x y : Int32) (st : List Value) (g : px_G) : rn k_Law_law 740 L (.int y :: .int x :: st) g = rn k_Law_law 741 L (.int (x + y) :: st) g := rn_next dd_Law_law_740 rfl
theorem dd_Law_law_741 : decode (px_rw k_Law_law).2.1 741 = .ok (.iaload, 1) := (by decide +kernel : decode code 741 = .ok (.iaload, 1))
theorem e_Law_law_741 (L : List Value) (i : Int32) (p : Nat) (st : List Value) (T : TS) (hp : (sh p).1 = 0) : rn k_Law_law 741 L (.int i :: .ref p :: st) (enc T) = if px_in i (sh p).2 then rn k_Law_law 742 L (.int (T.1 p i.toNatClampNeg) :: st) (enc T) else none := rn_iald dd_Law_law_741 (Prod.ext hp rfl)
theorem e_Law_law_741S (L : List Value) (i : Int32) (st : List Value) (T : TS) : rn k_Law_law 741 L (.int i :: .ref 1002 :: st) (enc T) = if px_in i T.2.2.2 then rn k_Law_law 742 L (.int (T.1 1002 i.toNatClampNeg) :: st) (enc T) else none := rn_iaS dd_Law_law_741
theorem dd_Law_law_742 : decode (px_rw k_Law_law).2.1 742 = .ok (.aload_n 0, 1) := (by decide +kernel : decode code 742 = .ok (.aload_n 0, 1))
theorem e_Law_law_742 (a1 a2 a3 a4 a5 a6 : Value) (x : Nat) (st : List Value) (g : px_G) : rn k_Law_law 742 [.ref x, a1, a2, a3, a4, a5, a6] st g = rn k_Law_law 743 [.ref x, a1, a2, a3, a4, a5, a6] (.ref x :: st) g := rn_next dd_Law_law_742 rfl
theorem dd_Law_law_743 : decode (px_rw k_Law_law).2.1 743 = .ok (.iload 4, 2) := (by decide +kernel : decode code 743 = .ok (.iload 4, 2))
theorem e_Law_law_743 (a0 a1 a2 a3 a5 a6 : Value) (x : Int32) (st : List Value) (g : px_G) : rn k_Law_law 743 [a0, a1, a2, a3, .int x, a5, a6] st g = rn k_Law_law 745 [a0, a1, a2, a3, .int x, a5, a6] (.int x :: st) g := rn_next dd_Law_law_743 rfl
theorem dd_Law_law_745 : decode (px_rw k_Law_law).2.1 745 = .ok (.iconst 2, 1) := (by decide +kernel : decode code 745 = .ok (.iconst 2, 1))
theorem e_Law_law_745 (L st : List Value) (g : px_G) : rn k_Law_law 745 L st g = rn k_Law_law 746 L (.int 2 :: st) g := rn_ipush (i := .iconst 2) dd_Law_law_745 rfl rfl (by decide)
theorem dd_Law_law_746 : decode (px_rw k_Law_law).2.1 746 = .ok (.iadd, 1) := (by decide +kernel : decode code 746 = .ok (.iadd, 1))
theorem e_Law_law_746 (L : List Value) (x y : Int32) (st : List Value) (g : px_G) : rn k_Law_law 746 L (.int y :: .int x :: st) g = rn k_Law_law 747 L (.int (x + y) :: st) g := rn_next dd_Law_law_746 rfl
theorem dd_Law_law_747 : decode (px_rw k_Law_law).2.1 747 = .ok (.iaload, 1) := (by decide +kernel : decode code 747 = .ok (.iaload, 1))
theorem e_Law_law_747 (L : List Value) (i : Int32) (p : Nat) (st : List Value) (T : TS) (hp : (sh p).1 = 0) : rn k_Law_law 747 L (.int i :: .ref p :: st) (enc T) = if px_in i (sh p).2 then rn k_Law_law 748 L (.int (T.1 p i.toNatClampNeg) :: st) (enc T) else none := rn_iald dd_Law_law_747 (Prod.ext hp rfl)
theorem e_Law_law_747S (L : List Value) (i : Int32) (st : List Value) (T : TS) : rn k_Law_law 747 L (.int i :: .ref 1002 :: st) (enc T) = if px_in i T.2.2.2 then rn k_Law_law 748 L (.int (T.1 1002 i.toNatClampNeg) :: st) (enc T) else none := rn_iaS dd_Law_law_747
theorem dd_Law_law_748 : decode (px_rw k_Law_law).2.1 748 = .ok (.invokevirtual 81, 3) := (by decide +kernel : decode code 748 = .ok (.invokevirtual 81, 3))
theorem e_Law_law_748 (L : List Value) (i0 : Int32) (i1 : Int32) (i100 : Int32)  (T : TS)  : rn k_Law_law 748 L [.int i1, .int i0, .ref 53, .int i100] (enc T) = bd (cl k_Dm_dots [.ref 53, .int i0, .int i1] (enc T)) (fun r g' => rn k_Law_law 751 L (r.toList ++ [.int i100]) g') := rn_callV (n := 52) (As := [.int i0, .int i1]) (rest := [.int i100]) dd_Law_law_748 rfl (by decide) (by decide) rfl rfl (Nat.le_of_ble_eq_true rfl) (Nat.le_of_ble_eq_true rfl) rfl
theorem dd_Law_law_751 : decode (px_rw k_Law_law).2.1 751 = .ok (.if_icmp .eq 1010, 3) := (by decide +kernel : decode code 751 = .ok (.if_icmp .eq 1010, 3))
theorem e_Law_law_751 (L : List Value) (x y : Int32) (st : List Value) (g : px_G) : rn k_Law_law 751 L (.int y :: .int x :: st) g = if x = y then rn k_Law_law 1761 L st g else rn k_Law_law 754 L st g := rn_iceq dd_Law_law_751 (by decide)
theorem dd_Law_law_754 : decode (px_rw k_Law_law).2.1 754 = .ok (.iconst 0, 1) := (by decide +kernel : decode code 754 = .ok (.iconst 0, 1))
theorem e_Law_law_754 (L st : List Value) (g : px_G) : rn k_Law_law 754 L st g = rn k_Law_law 755 L (.int 0 :: st) g := rn_ipush (i := .iconst 0) dd_Law_law_754 rfl rfl (by decide)
theorem dd_Law_law_755 : decode (px_rw k_Law_law).2.1 755 = .ok (.ireturn, 1) := (by decide +kernel : decode code 755 = .ok (.ireturn, 1))
theorem e_Law_law_755 (L : List Value) (v : Int32) (g : px_G) (hv : v = 0 ∨ v = 1) : rn k_Law_law 755 L [.int v] g = some (some (.int v), g) := rn_zret dd_Law_law_755 rfl hv
theorem dd_Law_law_756 : decode (px_rw k_Law_law).2.1 756 = .ok (.aload_n 1, 1) := (by decide +kernel : decode code 756 = .ok (.aload_n 1, 1))
theorem e_Law_law_756 (a0 a2 a3 a4 a5 a6 : Value) (x : Nat) (st : List Value) (g : px_G) : rn k_Law_law 756 [a0, .ref x, a2, a3, a4, a5, a6] st g = rn k_Law_law 757 [a0, .ref x, a2, a3, a4, a5, a6] (.ref x :: st) g := rn_next dd_Law_law_756 rfl
theorem dd_Law_law_757 : decode (px_rw k_Law_law).2.1 757 = .ok (.aload_n 0, 1) := (by decide +kernel : decode code 757 = .ok (.aload_n 0, 1))
theorem e_Law_law_757 (a1 a2 a3 a4 a5 a6 : Value) (x : Nat) (st : List Value) (g : px_G) : rn k_Law_law 757 [.ref x, a1, a2, a3, a4, a5, a6] st g = rn k_Law_law 758 [.ref x, a1, a2, a3, a4, a5, a6] (.ref x :: st) g := rn_next dd_Law_law_757 rfl
theorem dd_Law_law_758 : decode (px_rw k_Law_law).2.1 758 = .ok (.iload 4, 2) := (by decide +kernel : decode code 758 = .ok (.iload 4, 2))
theorem e_Law_law_758 (a0 a1 a2 a3 a5 a6 : Value) (x : Int32) (st : List Value) (g : px_G) : rn k_Law_law 758 [a0, a1, a2, a3, .int x, a5, a6] st g = rn k_Law_law 760 [a0, a1, a2, a3, .int x, a5, a6] (.int x :: st) g := rn_next dd_Law_law_758 rfl
theorem dd_Law_law_760 : decode (px_rw k_Law_law).2.1 760 = .ok (.iconst 1, 1) := (by decide +kernel : decode code 760 = .ok (.iconst 1, 1))
theorem e_Law_law_760 (L st : List Value) (g : px_G) : rn k_Law_law 760 L st g = rn k_Law_law 761 L (.int 1 :: st) g := rn_ipush (i := .iconst 1) dd_Law_law_760 rfl rfl (by decide)
theorem dd_Law_law_761 : decode (px_rw k_Law_law).2.1 761 = .ok (.iadd, 1) := (by decide +kernel : decode code 761 = .ok (.iadd, 1))
theorem e_Law_law_761 (L : List Value) (x y : Int32) (st : List Value) (g : px_G) : rn k_Law_law 761 L (.int y :: .int x :: st) g = rn k_Law_law 762 L (.int (x + y) :: st) g := rn_next dd_Law_law_761 rfl
theorem dd_Law_law_762 : decode (px_rw k_Law_law).2.1 762 = .ok (.iaload, 1) := (by decide +kernel : decode code 762 = .ok (.iaload, 1))
theorem e_Law_law_762 (L : List Value) (i : Int32) (p : Nat) (st : List Value) (T : TS) (hp : (sh p).1 = 0) : rn k_Law_law 762 L (.int i :: .ref p :: st) (enc T) = if px_in i (sh p).2 then rn k_Law_law 763 L (.int (T.1 p i.toNatClampNeg) :: st) (enc T) else none := rn_iald dd_Law_law_762 (Prod.ext hp rfl)
theorem e_Law_law_762S (L : List Value) (i : Int32) (st : List Value) (T : TS) : rn k_Law_law 762 L (.int i :: .ref 1002 :: st) (enc T) = if px_in i T.2.2.2 then rn k_Law_law 763 L (.int (T.1 1002 i.toNatClampNeg) :: st) (enc T) else none := rn_iaS dd_Law_law_762
theorem dd_Law_law_763 : decode (px_rw k_Law_law).2.1 763 = .ok (.aload_n 0, 1) := (by decide +kernel : decode code 763 = .ok (.aload_n 0, 1))
theorem e_Law_law_763 (a1 a2 a3 a4 a5 a6 : Value) (x : Nat) (st : List Value) (g : px_G) : rn k_Law_law 763 [.ref x, a1, a2, a3, a4, a5, a6] st g = rn k_Law_law 764 [.ref x, a1, a2, a3, a4, a5, a6] (.ref x :: st) g := rn_next dd_Law_law_763 rfl
theorem dd_Law_law_764 : decode (px_rw k_Law_law).2.1 764 = .ok (.iload 4, 2) := (by decide +kernel : decode code 764 = .ok (.iload 4, 2))
theorem e_Law_law_764 (a0 a1 a2 a3 a5 a6 : Value) (x : Int32) (st : List Value) (g : px_G) : rn k_Law_law 764 [a0, a1, a2, a3, .int x, a5, a6] st g = rn k_Law_law 766 [a0, a1, a2, a3, .int x, a5, a6] (.int x :: st) g := rn_next dd_Law_law_764 rfl
theorem dd_Law_law_766 : decode (px_rw k_Law_law).2.1 766 = .ok (.iconst 2, 1) := (by decide +kernel : decode code 766 = .ok (.iconst 2, 1))
theorem e_Law_law_766 (L st : List Value) (g : px_G) : rn k_Law_law 766 L st g = rn k_Law_law 767 L (.int 2 :: st) g := rn_ipush (i := .iconst 2) dd_Law_law_766 rfl rfl (by decide)
theorem dd_Law_law_767 : decode (px_rw k_Law_law).2.1 767 = .ok (.iadd, 1) := (by decide +kernel : decode code 767 = .ok (.iadd, 1))
theorem e_Law_law_767 (L : List Value) (x y : Int32) (st : List Value) (g : px_G) : rn k_Law_law 767 L (.int y :: .int x :: st) g = rn k_Law_law 768 L (.int (x + y) :: st) g := rn_next dd_Law_law_767 rfl
theorem dd_Law_law_768 : decode (px_rw k_Law_law).2.1 768 = .ok (.iaload, 1) := (by decide +kernel : decode code 768 = .ok (.iaload, 1))
theorem e_Law_law_768 (L : List Value) (i : Int32) (p : Nat) (st : List Value) (T : TS) (hp : (sh p).1 = 0) : rn k_Law_law 768 L (.int i :: .ref p :: st) (enc T) = if px_in i (sh p).2 then rn k_Law_law 769 L (.int (T.1 p i.toNatClampNeg) :: st) (enc T) else none := rn_iald dd_Law_law_768 (Prod.ext hp rfl)
theorem e_Law_law_768S (L : List Value) (i : Int32) (st : List Value) (T : TS) : rn k_Law_law 768 L (.int i :: .ref 1002 :: st) (enc T) = if px_in i T.2.2.2 then rn k_Law_law 769 L (.int (T.1 1002 i.toNatClampNeg) :: st) (enc T) else none := rn_iaS dd_Law_law_768
theorem dd_Law_law_769 : decode (px_rw k_Law_law).2.1 769 = .ok (.invokevirtual 82, 3) := (by decide +kernel : decode code 769 = .ok (.invokevirtual 82, 3))
theorem e_Law_law_769 (L : List Value) (i0 : Int32) (i1 : Int32)  (T : TS)  : rn k_Law_law 769 L [.int i1, .int i0, .ref 0] (enc T) = bd (cl k_Ds_grown [.ref 0, .int i0, .int i1] (enc T)) (fun r g' => rn k_Law_law 772 L (r.toList ++ []) g') := rn_callV (n := 13) (As := [.int i0, .int i1]) (rest := []) dd_Law_law_769 rfl (by decide) (by decide) rfl rfl (Nat.le_of_ble_eq_true rfl) (Nat.le_of_ble_eq_true rfl) rfl
theorem dd_Law_law_772 : decode (px_rw k_Law_law).2.1 772 = .ok (.aload_n 2, 1) := (by decide +kernel : decode code 772 = .ok (.aload_n 2, 1))
theorem e_Law_law_772 (a0 a1 a3 a4 a5 a6 : Value) (x : Nat) (st : List Value) (g : px_G) : rn k_Law_law 772 [a0, a1, .ref x, a3, a4, a5, a6] st g = rn k_Law_law 773 [a0, a1, .ref x, a3, a4, a5, a6] (.ref x :: st) g := rn_next dd_Law_law_772 rfl
theorem dd_Law_law_773 : decode (px_rw k_Law_law).2.1 773 = .ok (.aload_n 0, 1) := (by decide +kernel : decode code 773 = .ok (.aload_n 0, 1))
theorem e_Law_law_773 (a1 a2 a3 a4 a5 a6 : Value) (x : Nat) (st : List Value) (g : px_G) : rn k_Law_law 773 [.ref x, a1, a2, a3, a4, a5, a6] st g = rn k_Law_law 774 [.ref x, a1, a2, a3, a4, a5, a6] (.ref x :: st) g := rn_next dd_Law_law_773 rfl
theorem dd_Law_law_774 : decode (px_rw k_Law_law).2.1 774 = .ok (.iload 4, 2) := (by decide +kernel : decode code 774 = .ok (.iload 4, 2))
theorem e_Law_law_774 (a0 a1 a2 a3 a5 a6 : Value) (x : Int32) (st : List Value) (g : px_G) : rn k_Law_law 774 [a0, a1, a2, a3, .int x, a5, a6] st g = rn k_Law_law 776 [a0, a1, a2, a3, .int x, a5, a6] (.int x :: st) g := rn_next dd_Law_law_774 rfl
theorem dd_Law_law_776 : decode (px_rw k_Law_law).2.1 776 = .ok (.iconst 1, 1) := (by decide +kernel : decode code 776 = .ok (.iconst 1, 1))
theorem e_Law_law_776 (L st : List Value) (g : px_G) : rn k_Law_law 776 L st g = rn k_Law_law 777 L (.int 1 :: st) g := rn_ipush (i := .iconst 1) dd_Law_law_776 rfl rfl (by decide)
theorem dd_Law_law_777 : decode (px_rw k_Law_law).2.1 777 = .ok (.iadd, 1) := (by decide +kernel : decode code 777 = .ok (.iadd, 1))
theorem e_Law_law_777 (L : List Value) (x y : Int32) (st : List Value) (g : px_G) : rn k_Law_law 777 L (.int y :: .int x :: st) g = rn k_Law_law 778 L (.int (x + y) :: st) g := rn_next dd_Law_law_777 rfl
theorem dd_Law_law_778 : decode (px_rw k_Law_law).2.1 778 = .ok (.iaload, 1) := (by decide +kernel : decode code 778 = .ok (.iaload, 1))
theorem e_Law_law_778 (L : List Value) (i : Int32) (p : Nat) (st : List Value) (T : TS) (hp : (sh p).1 = 0) : rn k_Law_law 778 L (.int i :: .ref p :: st) (enc T) = if px_in i (sh p).2 then rn k_Law_law 779 L (.int (T.1 p i.toNatClampNeg) :: st) (enc T) else none := rn_iald dd_Law_law_778 (Prod.ext hp rfl)
theorem e_Law_law_778S (L : List Value) (i : Int32) (st : List Value) (T : TS) : rn k_Law_law 778 L (.int i :: .ref 1002 :: st) (enc T) = if px_in i T.2.2.2 then rn k_Law_law 779 L (.int (T.1 1002 i.toNatClampNeg) :: st) (enc T) else none := rn_iaS dd_Law_law_778
theorem dd_Law_law_779 : decode (px_rw k_Law_law).2.1 779 = .ok (.aload_n 0, 1) := (by decide +kernel : decode code 779 = .ok (.aload_n 0, 1))
theorem e_Law_law_779 (a1 a2 a3 a4 a5 a6 : Value) (x : Nat) (st : List Value) (g : px_G) : rn k_Law_law 779 [.ref x, a1, a2, a3, a4, a5, a6] st g = rn k_Law_law 780 [.ref x, a1, a2, a3, a4, a5, a6] (.ref x :: st) g := rn_next dd_Law_law_779 rfl
theorem dd_Law_law_780 : decode (px_rw k_Law_law).2.1 780 = .ok (.iload 4, 2) := (by decide +kernel : decode code 780 = .ok (.iload 4, 2))
theorem e_Law_law_780 (a0 a1 a2 a3 a5 a6 : Value) (x : Int32) (st : List Value) (g : px_G) : rn k_Law_law 780 [a0, a1, a2, a3, .int x, a5, a6] st g = rn k_Law_law 782 [a0, a1, a2, a3, .int x, a5, a6] (.int x :: st) g := rn_next dd_Law_law_780 rfl
theorem dd_Law_law_782 : decode (px_rw k_Law_law).2.1 782 = .ok (.iconst 2, 1) := (by decide +kernel : decode code 782 = .ok (.iconst 2, 1))
theorem e_Law_law_782 (L st : List Value) (g : px_G) : rn k_Law_law 782 L st g = rn k_Law_law 783 L (.int 2 :: st) g := rn_ipush (i := .iconst 2) dd_Law_law_782 rfl rfl (by decide)
theorem dd_Law_law_783 : decode (px_rw k_Law_law).2.1 783 = .ok (.iadd, 1) := (by decide +kernel : decode code 783 = .ok (.iadd, 1))
theorem e_Law_law_783 (L : List Value) (x y : Int32) (st : List Value) (g : px_G) : rn k_Law_law 783 L (.int y :: .int x :: st) g = rn k_Law_law 784 L (.int (x + y) :: st) g := rn_next dd_Law_law_783 rfl
theorem dd_Law_law_784 : decode (px_rw k_Law_law).2.1 784 = .ok (.iaload, 1) := (by decide +kernel : decode code 784 = .ok (.iaload, 1))
theorem e_Law_law_784 (L : List Value) (i : Int32) (p : Nat) (st : List Value) (T : TS) (hp : (sh p).1 = 0) : rn k_Law_law 784 L (.int i :: .ref p :: st) (enc T) = if px_in i (sh p).2 then rn k_Law_law 785 L (.int (T.1 p i.toNatClampNeg) :: st) (enc T) else none := rn_iald dd_Law_law_784 (Prod.ext hp rfl)
theorem e_Law_law_784S (L : List Value) (i : Int32) (st : List Value) (T : TS) : rn k_Law_law 784 L (.int i :: .ref 1002 :: st) (enc T) = if px_in i T.2.2.2 then rn k_Law_law 785 L (.int (T.1 1002 i.toNatClampNeg) :: st) (enc T) else none := rn_iaS dd_Law_law_784
theorem dd_Law_law_785 : decode (px_rw k_Law_law).2.1 785 = .ok (.invokevirtual 85, 3) := (by decide +kernel : decode code 785 = .ok (.invokevirtual 85, 3))
theorem e_Law_law_785 (L : List Value) (i0 : Int32) (i1 : Int32) (i100 : Int32)  (T : TS)  : rn k_Law_law 785 L [.int i1, .int i0, .ref 53, .int i100] (enc T) = bd (cl k_Dm_grown [.ref 53, .int i0, .int i1] (enc T)) (fun r g' => rn k_Law_law 788 L (r.toList ++ [.int i100]) g') := rn_callV (n := 52) (As := [.int i0, .int i1]) (rest := [.int i100]) dd_Law_law_785 rfl (by decide) (by decide) rfl rfl (Nat.le_of_ble_eq_true rfl) (Nat.le_of_ble_eq_true rfl) rfl
theorem dd_Law_law_788 : decode (px_rw k_Law_law).2.1 788 = .ok (.if_icmp .eq 973, 3) := (by decide +kernel : decode code 788 = .ok (.if_icmp .eq 973, 3))
theorem e_Law_law_788 (L : List Value) (x y : Int32) (st : List Value) (g : px_G) : rn k_Law_law 788 L (.int y :: .int x :: st) g = if x = y then rn k_Law_law 1761 L st g else rn k_Law_law 791 L st g := rn_iceq dd_Law_law_788 (by decide)
theorem dd_Law_law_791 : decode (px_rw k_Law_law).2.1 791 = .ok (.iconst 0, 1) := (by decide +kernel : decode code 791 = .ok (.iconst 0, 1))
theorem e_Law_law_791 (L st : List Value) (g : px_G) : rn k_Law_law 791 L st g = rn k_Law_law 792 L (.int 0 :: st) g := rn_ipush (i := .iconst 0) dd_Law_law_791 rfl rfl (by decide)
theorem dd_Law_law_792 : decode (px_rw k_Law_law).2.1 792 = .ok (.ireturn, 1) := (by decide +kernel : decode code 792 = .ok (.ireturn, 1))
theorem e_Law_law_792 (L : List Value) (v : Int32) (g : px_G) (hv : v = 0 ∨ v = 1) : rn k_Law_law 792 L [.int v] g = some (some (.int v), g) := rn_zret dd_Law_law_792 rfl hv
theorem dd_Law_law_793 : decode (px_rw k_Law_law).2.1 793 = .ok (.aload_n 1, 1) := (by decide +kernel : decode code 793 = .ok (.aload_n 1, 1))
theorem e_Law_law_793 (a0 a2 a3 a4 a5 a6 : Value) (x : Nat) (st : List Value) (g : px_G) : rn k_Law_law 793 [a0, .ref x, a2, a3, a4, a5, a6] st g = rn k_Law_law 794 [a0, .ref x, a2, a3, a4, a5, a6] (.ref x :: st) g := rn_next dd_Law_law_793 rfl
theorem dd_Law_law_794 : decode (px_rw k_Law_law).2.1 794 = .ok (.aload_n 0, 1) := (by decide +kernel : decode code 794 = .ok (.aload_n 0, 1))
theorem e_Law_law_794 (a1 a2 a3 a4 a5 a6 : Value) (x : Nat) (st : List Value) (g : px_G) : rn k_Law_law 794 [.ref x, a1, a2, a3, a4, a5, a6] st g = rn k_Law_law 795 [.ref x, a1, a2, a3, a4, a5, a6] (.ref x :: st) g := rn_next dd_Law_law_794 rfl
theorem dd_Law_law_795 : decode (px_rw k_Law_law).2.1 795 = .ok (.iload 4, 2) := (by decide +kernel : decode code 795 = .ok (.iload 4, 2))
theorem e_Law_law_795 (a0 a1 a2 a3 a5 a6 : Value) (x : Int32) (st : List Value) (g : px_G) : rn k_Law_law 795 [a0, a1, a2, a3, .int x, a5, a6] st g = rn k_Law_law 797 [a0, a1, a2, a3, .int x, a5, a6] (.int x :: st) g := rn_next dd_Law_law_795 rfl
theorem dd_Law_law_797 : decode (px_rw k_Law_law).2.1 797 = .ok (.iconst 1, 1) := (by decide +kernel : decode code 797 = .ok (.iconst 1, 1))
theorem e_Law_law_797 (L st : List Value) (g : px_G) : rn k_Law_law 797 L st g = rn k_Law_law 798 L (.int 1 :: st) g := rn_ipush (i := .iconst 1) dd_Law_law_797 rfl rfl (by decide)
theorem dd_Law_law_798 : decode (px_rw k_Law_law).2.1 798 = .ok (.iadd, 1) := (by decide +kernel : decode code 798 = .ok (.iadd, 1))
theorem e_Law_law_798 (L : List Value) (x y : Int32) (st : List Value) (g : px_G) : rn k_Law_law 798 L (.int y :: .int x :: st) g = rn k_Law_law 799 L (.int (x + y) :: st) g := rn_next dd_Law_law_798 rfl
theorem dd_Law_law_799 : decode (px_rw k_Law_law).2.1 799 = .ok (.iaload, 1) := (by decide +kernel : decode code 799 = .ok (.iaload, 1))
theorem e_Law_law_799 (L : List Value) (i : Int32) (p : Nat) (st : List Value) (T : TS) (hp : (sh p).1 = 0) : rn k_Law_law 799 L (.int i :: .ref p :: st) (enc T) = if px_in i (sh p).2 then rn k_Law_law 800 L (.int (T.1 p i.toNatClampNeg) :: st) (enc T) else none := rn_iald dd_Law_law_799 (Prod.ext hp rfl)
theorem e_Law_law_799S (L : List Value) (i : Int32) (st : List Value) (T : TS) : rn k_Law_law 799 L (.int i :: .ref 1002 :: st) (enc T) = if px_in i T.2.2.2 then rn k_Law_law 800 L (.int (T.1 1002 i.toNatClampNeg) :: st) (enc T) else none := rn_iaS dd_Law_law_799
theorem dd_Law_law_800 : decode (px_rw k_Law_law).2.1 800 = .ok (.aload_n 0, 1) := (by decide +kernel : decode code 800 = .ok (.aload_n 0, 1))
theorem e_Law_law_800 (a1 a2 a3 a4 a5 a6 : Value) (x : Nat) (st : List Value) (g : px_G) : rn k_Law_law 800 [.ref x, a1, a2, a3, a4, a5, a6] st g = rn k_Law_law 801 [.ref x, a1, a2, a3, a4, a5, a6] (.ref x :: st) g := rn_next dd_Law_law_800 rfl
theorem dd_Law_law_801 : decode (px_rw k_Law_law).2.1 801 = .ok (.iload 4, 2) := (by decide +kernel : decode code 801 = .ok (.iload 4, 2))
theorem e_Law_law_801 (a0 a1 a2 a3 a5 a6 : Value) (x : Int32) (st : List Value) (g : px_G) : rn k_Law_law 801 [a0, a1, a2, a3, .int x, a5, a6] st g = rn k_Law_law 803 [a0, a1, a2, a3, .int x, a5, a6] (.int x :: st) g := rn_next dd_Law_law_801 rfl
theorem dd_Law_law_803 : decode (px_rw k_Law_law).2.1 803 = .ok (.iconst 2, 1) := (by decide +kernel : decode code 803 = .ok (.iconst 2, 1))
theorem e_Law_law_803 (L st : List Value) (g : px_G) : rn k_Law_law 803 L st g = rn k_Law_law 804 L (.int 2 :: st) g := rn_ipush (i := .iconst 2) dd_Law_law_803 rfl rfl (by decide)
theorem dd_Law_law_804 : decode (px_rw k_Law_law).2.1 804 = .ok (.iadd, 1) := (by decide +kernel : decode code 804 = .ok (.iadd, 1))
theorem e_Law_law_804 (L : List Value) (x y : Int32) (st : List Value) (g : px_G) : rn k_Law_law 804 L (.int y :: .int x :: st) g = rn k_Law_law 805 L (.int (x + y) :: st) g := rn_next dd_Law_law_804 rfl
theorem dd_Law_law_805 : decode (px_rw k_Law_law).2.1 805 = .ok (.iaload, 1) := (by decide +kernel : decode code 805 = .ok (.iaload, 1))
theorem e_Law_law_805 (L : List Value) (i : Int32) (p : Nat) (st : List Value) (T : TS) (hp : (sh p).1 = 0) : rn k_Law_law 805 L (.int i :: .ref p :: st) (enc T) = if px_in i (sh p).2 then rn k_Law_law 806 L (.int (T.1 p i.toNatClampNeg) :: st) (enc T) else none := rn_iald dd_Law_law_805 (Prod.ext hp rfl)
theorem e_Law_law_805S (L : List Value) (i : Int32) (st : List Value) (T : TS) : rn k_Law_law 805 L (.int i :: .ref 1002 :: st) (enc T) = if px_in i T.2.2.2 then rn k_Law_law 806 L (.int (T.1 1002 i.toNatClampNeg) :: st) (enc T) else none := rn_iaS dd_Law_law_805
theorem dd_Law_law_806 : decode (px_rw k_Law_law).2.1 806 = .ok (.invokevirtual 86, 3) := (by decide +kernel : decode code 806 = .ok (.invokevirtual 86, 3))
theorem e_Law_law_806 (L : List Value) (i0 : Int32) (i1 : Int32)  (T : TS)  : rn k_Law_law 806 L [.int i1, .int i0, .ref 0] (enc T) = bd (cl k_Ds_slope [.ref 0, .int i0, .int i1] (enc T)) (fun r g' => rn k_Law_law 809 L (r.toList ++ []) g') := rn_callV (n := 13) (As := [.int i0, .int i1]) (rest := []) dd_Law_law_806 rfl (by decide) (by decide) rfl rfl (Nat.le_of_ble_eq_true rfl) (Nat.le_of_ble_eq_true rfl) rfl
theorem dd_Law_law_809 : decode (px_rw k_Law_law).2.1 809 = .ok (.aload_n 2, 1) := (by decide +kernel : decode code 809 = .ok (.aload_n 2, 1))
theorem e_Law_law_809 (a0 a1 a3 a4 a5 a6 : Value) (x : Nat) (st : List Value) (g : px_G) : rn k_Law_law 809 [a0, a1, .ref x, a3, a4, a5, a6] st g = rn k_Law_law 810 [a0, a1, .ref x, a3, a4, a5, a6] (.ref x :: st) g := rn_next dd_Law_law_809 rfl
theorem dd_Law_law_810 : decode (px_rw k_Law_law).2.1 810 = .ok (.aload_n 0, 1) := (by decide +kernel : decode code 810 = .ok (.aload_n 0, 1))
theorem e_Law_law_810 (a1 a2 a3 a4 a5 a6 : Value) (x : Nat) (st : List Value) (g : px_G) : rn k_Law_law 810 [.ref x, a1, a2, a3, a4, a5, a6] st g = rn k_Law_law 811 [.ref x, a1, a2, a3, a4, a5, a6] (.ref x :: st) g := rn_next dd_Law_law_810 rfl
theorem dd_Law_law_811 : decode (px_rw k_Law_law).2.1 811 = .ok (.iload 4, 2) := (by decide +kernel : decode code 811 = .ok (.iload 4, 2))
theorem e_Law_law_811 (a0 a1 a2 a3 a5 a6 : Value) (x : Int32) (st : List Value) (g : px_G) : rn k_Law_law 811 [a0, a1, a2, a3, .int x, a5, a6] st g = rn k_Law_law 813 [a0, a1, a2, a3, .int x, a5, a6] (.int x :: st) g := rn_next dd_Law_law_811 rfl
theorem dd_Law_law_813 : decode (px_rw k_Law_law).2.1 813 = .ok (.iconst 1, 1) := (by decide +kernel : decode code 813 = .ok (.iconst 1, 1))
theorem e_Law_law_813 (L st : List Value) (g : px_G) : rn k_Law_law 813 L st g = rn k_Law_law 814 L (.int 1 :: st) g := rn_ipush (i := .iconst 1) dd_Law_law_813 rfl rfl (by decide)
theorem dd_Law_law_814 : decode (px_rw k_Law_law).2.1 814 = .ok (.iadd, 1) := (by decide +kernel : decode code 814 = .ok (.iadd, 1))
theorem e_Law_law_814 (L : List Value) (x y : Int32) (st : List Value) (g : px_G) : rn k_Law_law 814 L (.int y :: .int x :: st) g = rn k_Law_law 815 L (.int (x + y) :: st) g := rn_next dd_Law_law_814 rfl
theorem dd_Law_law_815 : decode (px_rw k_Law_law).2.1 815 = .ok (.iaload, 1) := (by decide +kernel : decode code 815 = .ok (.iaload, 1))
theorem e_Law_law_815 (L : List Value) (i : Int32) (p : Nat) (st : List Value) (T : TS) (hp : (sh p).1 = 0) : rn k_Law_law 815 L (.int i :: .ref p :: st) (enc T) = if px_in i (sh p).2 then rn k_Law_law 816 L (.int (T.1 p i.toNatClampNeg) :: st) (enc T) else none := rn_iald dd_Law_law_815 (Prod.ext hp rfl)
theorem e_Law_law_815S (L : List Value) (i : Int32) (st : List Value) (T : TS) : rn k_Law_law 815 L (.int i :: .ref 1002 :: st) (enc T) = if px_in i T.2.2.2 then rn k_Law_law 816 L (.int (T.1 1002 i.toNatClampNeg) :: st) (enc T) else none := rn_iaS dd_Law_law_815
theorem dd_Law_law_816 : decode (px_rw k_Law_law).2.1 816 = .ok (.aload_n 0, 1) := (by decide +kernel : decode code 816 = .ok (.aload_n 0, 1))
theorem e_Law_law_816 (a1 a2 a3 a4 a5 a6 : Value) (x : Nat) (st : List Value) (g : px_G) : rn k_Law_law 816 [.ref x, a1, a2, a3, a4, a5, a6] st g = rn k_Law_law 817 [.ref x, a1, a2, a3, a4, a5, a6] (.ref x :: st) g := rn_next dd_Law_law_816 rfl
theorem dd_Law_law_817 : decode (px_rw k_Law_law).2.1 817 = .ok (.iload 4, 2) := (by decide +kernel : decode code 817 = .ok (.iload 4, 2))
theorem e_Law_law_817 (a0 a1 a2 a3 a5 a6 : Value) (x : Int32) (st : List Value) (g : px_G) : rn k_Law_law 817 [a0, a1, a2, a3, .int x, a5, a6] st g = rn k_Law_law 819 [a0, a1, a2, a3, .int x, a5, a6] (.int x :: st) g := rn_next dd_Law_law_817 rfl
theorem dd_Law_law_819 : decode (px_rw k_Law_law).2.1 819 = .ok (.iconst 2, 1) := (by decide +kernel : decode code 819 = .ok (.iconst 2, 1))
theorem e_Law_law_819 (L st : List Value) (g : px_G) : rn k_Law_law 819 L st g = rn k_Law_law 820 L (.int 2 :: st) g := rn_ipush (i := .iconst 2) dd_Law_law_819 rfl rfl (by decide)
theorem dd_Law_law_820 : decode (px_rw k_Law_law).2.1 820 = .ok (.iadd, 1) := (by decide +kernel : decode code 820 = .ok (.iadd, 1))
theorem e_Law_law_820 (L : List Value) (x y : Int32) (st : List Value) (g : px_G) : rn k_Law_law 820 L (.int y :: .int x :: st) g = rn k_Law_law 821 L (.int (x + y) :: st) g := rn_next dd_Law_law_820 rfl
theorem dd_Law_law_821 : decode (px_rw k_Law_law).2.1 821 = .ok (.iaload, 1) := (by decide +kernel : decode code 821 = .ok (.iaload, 1))
theorem e_Law_law_821 (L : List Value) (i : Int32) (p : Nat) (st : List Value) (T : TS) (hp : (sh p).1 = 0) : rn k_Law_law 821 L (.int i :: .ref p :: st) (enc T) = if px_in i (sh p).2 then rn k_Law_law 822 L (.int (T.1 p i.toNatClampNeg) :: st) (enc T) else none := rn_iald dd_Law_law_821 (Prod.ext hp rfl)
theorem e_Law_law_821S (L : List Value) (i : Int32) (st : List Value) (T : TS) : rn k_Law_law 821 L (.int i :: .ref 1002 :: st) (enc T) = if px_in i T.2.2.2 then rn k_Law_law 822 L (.int (T.1 1002 i.toNatClampNeg) :: st) (enc T) else none := rn_iaS dd_Law_law_821
theorem dd_Law_law_822 : decode (px_rw k_Law_law).2.1 822 = .ok (.invokevirtual 89, 3) := (by decide +kernel : decode code 822 = .ok (.invokevirtual 89, 3))
theorem e_Law_law_822 (L : List Value) (i0 : Int32) (i1 : Int32) (i100 : Int32)  (T : TS)  : rn k_Law_law 822 L [.int i1, .int i0, .ref 53, .int i100] (enc T) = bd (cl k_Dm_slope [.ref 53, .int i0, .int i1] (enc T)) (fun r g' => rn k_Law_law 825 L (r.toList ++ [.int i100]) g') := rn_callV (n := 52) (As := [.int i0, .int i1]) (rest := [.int i100]) dd_Law_law_822 rfl (by decide) (by decide) rfl rfl (Nat.le_of_ble_eq_true rfl) (Nat.le_of_ble_eq_true rfl) rfl
theorem dd_Law_law_825 : decode (px_rw k_Law_law).2.1 825 = .ok (.if_icmp .eq 936, 3) := (by decide +kernel : decode code 825 = .ok (.if_icmp .eq 936, 3))
theorem e_Law_law_825 (L : List Value) (x y : Int32) (st : List Value) (g : px_G) : rn k_Law_law 825 L (.int y :: .int x :: st) g = if x = y then rn k_Law_law 1761 L st g else rn k_Law_law 828 L st g := rn_iceq dd_Law_law_825 (by decide)
theorem dd_Law_law_828 : decode (px_rw k_Law_law).2.1 828 = .ok (.iconst 0, 1) := (by decide +kernel : decode code 828 = .ok (.iconst 0, 1))
theorem e_Law_law_828 (L st : List Value) (g : px_G) : rn k_Law_law 828 L st g = rn k_Law_law 829 L (.int 0 :: st) g := rn_ipush (i := .iconst 0) dd_Law_law_828 rfl rfl (by decide)
theorem dd_Law_law_829 : decode (px_rw k_Law_law).2.1 829 = .ok (.ireturn, 1) := (by decide +kernel : decode code 829 = .ok (.ireturn, 1))
theorem e_Law_law_829 (L : List Value) (v : Int32) (g : px_G) (hv : v = 0 ∨ v = 1) : rn k_Law_law 829 L [.int v] g = some (some (.int v), g) := rn_zret dd_Law_law_829 rfl hv
theorem dd_Law_law_830 : decode (px_rw k_Law_law).2.1 830 = .ok (.aload_n 1, 1) := (by decide +kernel : decode code 830 = .ok (.aload_n 1, 1))
theorem e_Law_law_830 (a0 a2 a3 a4 a5 a6 : Value) (x : Nat) (st : List Value) (g : px_G) : rn k_Law_law 830 [a0, .ref x, a2, a3, a4, a5, a6] st g = rn k_Law_law 831 [a0, .ref x, a2, a3, a4, a5, a6] (.ref x :: st) g := rn_next dd_Law_law_830 rfl
theorem dd_Law_law_831 : decode (px_rw k_Law_law).2.1 831 = .ok (.aload_n 0, 1) := (by decide +kernel : decode code 831 = .ok (.aload_n 0, 1))
theorem e_Law_law_831 (a1 a2 a3 a4 a5 a6 : Value) (x : Nat) (st : List Value) (g : px_G) : rn k_Law_law 831 [.ref x, a1, a2, a3, a4, a5, a6] st g = rn k_Law_law 832 [.ref x, a1, a2, a3, a4, a5, a6] (.ref x :: st) g := rn_next dd_Law_law_831 rfl
theorem dd_Law_law_832 : decode (px_rw k_Law_law).2.1 832 = .ok (.iload 4, 2) := (by decide +kernel : decode code 832 = .ok (.iload 4, 2))
theorem e_Law_law_832 (a0 a1 a2 a3 a5 a6 : Value) (x : Int32) (st : List Value) (g : px_G) : rn k_Law_law 832 [a0, a1, a2, a3, .int x, a5, a6] st g = rn k_Law_law 834 [a0, a1, a2, a3, .int x, a5, a6] (.int x :: st) g := rn_next dd_Law_law_832 rfl
theorem dd_Law_law_834 : decode (px_rw k_Law_law).2.1 834 = .ok (.iconst 1, 1) := (by decide +kernel : decode code 834 = .ok (.iconst 1, 1))
theorem e_Law_law_834 (L st : List Value) (g : px_G) : rn k_Law_law 834 L st g = rn k_Law_law 835 L (.int 1 :: st) g := rn_ipush (i := .iconst 1) dd_Law_law_834 rfl rfl (by decide)
theorem dd_Law_law_835 : decode (px_rw k_Law_law).2.1 835 = .ok (.iadd, 1) := (by decide +kernel : decode code 835 = .ok (.iadd, 1))
theorem e_Law_law_835 (L : List Value) (x y : Int32) (st : List Value) (g : px_G) : rn k_Law_law 835 L (.int y :: .int x :: st) g = rn k_Law_law 836 L (.int (x + y) :: st) g := rn_next dd_Law_law_835 rfl
theorem dd_Law_law_836 : decode (px_rw k_Law_law).2.1 836 = .ok (.iaload, 1) := (by decide +kernel : decode code 836 = .ok (.iaload, 1))
theorem e_Law_law_836 (L : List Value) (i : Int32) (p : Nat) (st : List Value) (T : TS) (hp : (sh p).1 = 0) : rn k_Law_law 836 L (.int i :: .ref p :: st) (enc T) = if px_in i (sh p).2 then rn k_Law_law 837 L (.int (T.1 p i.toNatClampNeg) :: st) (enc T) else none := rn_iald dd_Law_law_836 (Prod.ext hp rfl)
theorem e_Law_law_836S (L : List Value) (i : Int32) (st : List Value) (T : TS) : rn k_Law_law 836 L (.int i :: .ref 1002 :: st) (enc T) = if px_in i T.2.2.2 then rn k_Law_law 837 L (.int (T.1 1002 i.toNatClampNeg) :: st) (enc T) else none := rn_iaS dd_Law_law_836
theorem dd_Law_law_837 : decode (px_rw k_Law_law).2.1 837 = .ok (.aload_n 0, 1) := (by decide +kernel : decode code 837 = .ok (.aload_n 0, 1))
theorem e_Law_law_837 (a1 a2 a3 a4 a5 a6 : Value) (x : Nat) (st : List Value) (g : px_G) : rn k_Law_law 837 [.ref x, a1, a2, a3, a4, a5, a6] st g = rn k_Law_law 838 [.ref x, a1, a2, a3, a4, a5, a6] (.ref x :: st) g := rn_next dd_Law_law_837 rfl
theorem dd_Law_law_838 : decode (px_rw k_Law_law).2.1 838 = .ok (.iload 4, 2) := (by decide +kernel : decode code 838 = .ok (.iload 4, 2))
theorem e_Law_law_838 (a0 a1 a2 a3 a5 a6 : Value) (x : Int32) (st : List Value) (g : px_G) : rn k_Law_law 838 [a0, a1, a2, a3, .int x, a5, a6] st g = rn k_Law_law 840 [a0, a1, a2, a3, .int x, a5, a6] (.int x :: st) g := rn_next dd_Law_law_838 rfl
theorem dd_Law_law_840 : decode (px_rw k_Law_law).2.1 840 = .ok (.iconst 2, 1) := (by decide +kernel : decode code 840 = .ok (.iconst 2, 1))
theorem e_Law_law_840 (L st : List Value) (g : px_G) : rn k_Law_law 840 L st g = rn k_Law_law 841 L (.int 2 :: st) g := rn_ipush (i := .iconst 2) dd_Law_law_840 rfl rfl (by decide)
theorem dd_Law_law_841 : decode (px_rw k_Law_law).2.1 841 = .ok (.iadd, 1) := (by decide +kernel : decode code 841 = .ok (.iadd, 1))
theorem e_Law_law_841 (L : List Value) (x y : Int32) (st : List Value) (g : px_G) : rn k_Law_law 841 L (.int y :: .int x :: st) g = rn k_Law_law 842 L (.int (x + y) :: st) g := rn_next dd_Law_law_841 rfl
theorem dd_Law_law_842 : decode (px_rw k_Law_law).2.1 842 = .ok (.iaload, 1) := (by decide +kernel : decode code 842 = .ok (.iaload, 1))
theorem e_Law_law_842 (L : List Value) (i : Int32) (p : Nat) (st : List Value) (T : TS) (hp : (sh p).1 = 0) : rn k_Law_law 842 L (.int i :: .ref p :: st) (enc T) = if px_in i (sh p).2 then rn k_Law_law 843 L (.int (T.1 p i.toNatClampNeg) :: st) (enc T) else none := rn_iald dd_Law_law_842 (Prod.ext hp rfl)
theorem e_Law_law_842S (L : List Value) (i : Int32) (st : List Value) (T : TS) : rn k_Law_law 842 L (.int i :: .ref 1002 :: st) (enc T) = if px_in i T.2.2.2 then rn k_Law_law 843 L (.int (T.1 1002 i.toNatClampNeg) :: st) (enc T) else none := rn_iaS dd_Law_law_842
theorem dd_Law_law_843 : decode (px_rw k_Law_law).2.1 843 = .ok (.aload_n 0, 1) := (by decide +kernel : decode code 843 = .ok (.aload_n 0, 1))
theorem e_Law_law_843 (a1 a2 a3 a4 a5 a6 : Value) (x : Nat) (st : List Value) (g : px_G) : rn k_Law_law 843 [.ref x, a1, a2, a3, a4, a5, a6] st g = rn k_Law_law 844 [.ref x, a1, a2, a3, a4, a5, a6] (.ref x :: st) g := rn_next dd_Law_law_843 rfl
theorem dd_Law_law_844 : decode (px_rw k_Law_law).2.1 844 = .ok (.iload 4, 2) := (by decide +kernel : decode code 844 = .ok (.iload 4, 2))
theorem e_Law_law_844 (a0 a1 a2 a3 a5 a6 : Value) (x : Int32) (st : List Value) (g : px_G) : rn k_Law_law 844 [a0, a1, a2, a3, .int x, a5, a6] st g = rn k_Law_law 846 [a0, a1, a2, a3, .int x, a5, a6] (.int x :: st) g := rn_next dd_Law_law_844 rfl
theorem dd_Law_law_846 : decode (px_rw k_Law_law).2.1 846 = .ok (.iconst 3, 1) := (by decide +kernel : decode code 846 = .ok (.iconst 3, 1))
theorem e_Law_law_846 (L st : List Value) (g : px_G) : rn k_Law_law 846 L st g = rn k_Law_law 847 L (.int 3 :: st) g := rn_ipush (i := .iconst 3) dd_Law_law_846 rfl rfl (by decide)
theorem dd_Law_law_847 : decode (px_rw k_Law_law).2.1 847 = .ok (.iadd, 1) := (by decide +kernel : decode code 847 = .ok (.iadd, 1))
theorem e_Law_law_847 (L : List Value) (x y : Int32) (st : List Value) (g : px_G) : rn k_Law_law 847 L (.int y :: .int x :: st) g = rn k_Law_law 848 L (.int (x + y) :: st) g := rn_next dd_Law_law_847 rfl
theorem dd_Law_law_848 : decode (px_rw k_Law_law).2.1 848 = .ok (.iaload, 1) := (by decide +kernel : decode code 848 = .ok (.iaload, 1))
theorem e_Law_law_848 (L : List Value) (i : Int32) (p : Nat) (st : List Value) (T : TS) (hp : (sh p).1 = 0) : rn k_Law_law 848 L (.int i :: .ref p :: st) (enc T) = if px_in i (sh p).2 then rn k_Law_law 849 L (.int (T.1 p i.toNatClampNeg) :: st) (enc T) else none := rn_iald dd_Law_law_848 (Prod.ext hp rfl)
theorem e_Law_law_848S (L : List Value) (i : Int32) (st : List Value) (T : TS) : rn k_Law_law 848 L (.int i :: .ref 1002 :: st) (enc T) = if px_in i T.2.2.2 then rn k_Law_law 849 L (.int (T.1 1002 i.toNatClampNeg) :: st) (enc T) else none := rn_iaS dd_Law_law_848
theorem dd_Law_law_849 : decode (px_rw k_Law_law).2.1 849 = .ok (.invokevirtual 90, 3) := (by decide +kernel : decode code 849 = .ok (.invokevirtual 90, 3))
theorem e_Law_law_849 (L : List Value) (i0 : Int32) (i1 : Int32) (i2 : Int32)  (T : TS)  : rn k_Law_law 849 L [.int i2, .int i1, .int i0, .ref 0] (enc T) = bd (cl k_Ds_turn [.ref 0, .int i0, .int i1, .int i2] (enc T)) (fun r g' => rn k_Law_law 852 L (r.toList ++ []) g') := rn_callV (n := 13) (As := [.int i0, .int i1, .int i2]) (rest := []) dd_Law_law_849 rfl (by decide) (by decide) rfl rfl (Nat.le_of_ble_eq_true rfl) (Nat.le_of_ble_eq_true rfl) rfl
theorem dd_Law_law_852 : decode (px_rw k_Law_law).2.1 852 = .ok (.aload_n 2, 1) := (by decide +kernel : decode code 852 = .ok (.aload_n 2, 1))
theorem e_Law_law_852 (a0 a1 a3 a4 a5 a6 : Value) (x : Nat) (st : List Value) (g : px_G) : rn k_Law_law 852 [a0, a1, .ref x, a3, a4, a5, a6] st g = rn k_Law_law 853 [a0, a1, .ref x, a3, a4, a5, a6] (.ref x :: st) g := rn_next dd_Law_law_852 rfl
theorem dd_Law_law_853 : decode (px_rw k_Law_law).2.1 853 = .ok (.aload_n 0, 1) := (by decide +kernel : decode code 853 = .ok (.aload_n 0, 1))
theorem e_Law_law_853 (a1 a2 a3 a4 a5 a6 : Value) (x : Nat) (st : List Value) (g : px_G) : rn k_Law_law 853 [.ref x, a1, a2, a3, a4, a5, a6] st g = rn k_Law_law 854 [.ref x, a1, a2, a3, a4, a5, a6] (.ref x :: st) g := rn_next dd_Law_law_853 rfl
theorem dd_Law_law_854 : decode (px_rw k_Law_law).2.1 854 = .ok (.iload 4, 2) := (by decide +kernel : decode code 854 = .ok (.iload 4, 2))
theorem e_Law_law_854 (a0 a1 a2 a3 a5 a6 : Value) (x : Int32) (st : List Value) (g : px_G) : rn k_Law_law 854 [a0, a1, a2, a3, .int x, a5, a6] st g = rn k_Law_law 856 [a0, a1, a2, a3, .int x, a5, a6] (.int x :: st) g := rn_next dd_Law_law_854 rfl
theorem dd_Law_law_856 : decode (px_rw k_Law_law).2.1 856 = .ok (.iconst 1, 1) := (by decide +kernel : decode code 856 = .ok (.iconst 1, 1))
theorem e_Law_law_856 (L st : List Value) (g : px_G) : rn k_Law_law 856 L st g = rn k_Law_law 857 L (.int 1 :: st) g := rn_ipush (i := .iconst 1) dd_Law_law_856 rfl rfl (by decide)
theorem dd_Law_law_857 : decode (px_rw k_Law_law).2.1 857 = .ok (.iadd, 1) := (by decide +kernel : decode code 857 = .ok (.iadd, 1))
theorem e_Law_law_857 (L : List Value) (x y : Int32) (st : List Value) (g : px_G) : rn k_Law_law 857 L (.int y :: .int x :: st) g = rn k_Law_law 858 L (.int (x + y) :: st) g := rn_next dd_Law_law_857 rfl
theorem dd_Law_law_858 : decode (px_rw k_Law_law).2.1 858 = .ok (.iaload, 1) := (by decide +kernel : decode code 858 = .ok (.iaload, 1))
theorem e_Law_law_858 (L : List Value) (i : Int32) (p : Nat) (st : List Value) (T : TS) (hp : (sh p).1 = 0) : rn k_Law_law 858 L (.int i :: .ref p :: st) (enc T) = if px_in i (sh p).2 then rn k_Law_law 859 L (.int (T.1 p i.toNatClampNeg) :: st) (enc T) else none := rn_iald dd_Law_law_858 (Prod.ext hp rfl)
theorem e_Law_law_858S (L : List Value) (i : Int32) (st : List Value) (T : TS) : rn k_Law_law 858 L (.int i :: .ref 1002 :: st) (enc T) = if px_in i T.2.2.2 then rn k_Law_law 859 L (.int (T.1 1002 i.toNatClampNeg) :: st) (enc T) else none := rn_iaS dd_Law_law_858
theorem dd_Law_law_859 : decode (px_rw k_Law_law).2.1 859 = .ok (.aload_n 0, 1) := (by decide +kernel : decode code 859 = .ok (.aload_n 0, 1))
theorem e_Law_law_859 (a1 a2 a3 a4 a5 a6 : Value) (x : Nat) (st : List Value) (g : px_G) : rn k_Law_law 859 [.ref x, a1, a2, a3, a4, a5, a6] st g = rn k_Law_law 860 [.ref x, a1, a2, a3, a4, a5, a6] (.ref x :: st) g := rn_next dd_Law_law_859 rfl
theorem dd_Law_law_860 : decode (px_rw k_Law_law).2.1 860 = .ok (.iload 4, 2) := (by decide +kernel : decode code 860 = .ok (.iload 4, 2))
theorem e_Law_law_860 (a0 a1 a2 a3 a5 a6 : Value) (x : Int32) (st : List Value) (g : px_G) : rn k_Law_law 860 [a0, a1, a2, a3, .int x, a5, a6] st g = rn k_Law_law 862 [a0, a1, a2, a3, .int x, a5, a6] (.int x :: st) g := rn_next dd_Law_law_860 rfl
theorem dd_Law_law_862 : decode (px_rw k_Law_law).2.1 862 = .ok (.iconst 2, 1) := (by decide +kernel : decode code 862 = .ok (.iconst 2, 1))
theorem e_Law_law_862 (L st : List Value) (g : px_G) : rn k_Law_law 862 L st g = rn k_Law_law 863 L (.int 2 :: st) g := rn_ipush (i := .iconst 2) dd_Law_law_862 rfl rfl (by decide)
theorem dd_Law_law_863 : decode (px_rw k_Law_law).2.1 863 = .ok (.iadd, 1) := (by decide +kernel : decode code 863 = .ok (.iadd, 1))
theorem e_Law_law_863 (L : List Value) (x y : Int32) (st : List Value) (g : px_G) : rn k_Law_law 863 L (.int y :: .int x :: st) g = rn k_Law_law 864 L (.int (x + y) :: st) g := rn_next dd_Law_law_863 rfl
theorem dd_Law_law_864 : decode (px_rw k_Law_law).2.1 864 = .ok (.iaload, 1) := (by decide +kernel : decode code 864 = .ok (.iaload, 1))
theorem e_Law_law_864 (L : List Value) (i : Int32) (p : Nat) (st : List Value) (T : TS) (hp : (sh p).1 = 0) : rn k_Law_law 864 L (.int i :: .ref p :: st) (enc T) = if px_in i (sh p).2 then rn k_Law_law 865 L (.int (T.1 p i.toNatClampNeg) :: st) (enc T) else none := rn_iald dd_Law_law_864 (Prod.ext hp rfl)
theorem e_Law_law_864S (L : List Value) (i : Int32) (st : List Value) (T : TS) : rn k_Law_law 864 L (.int i :: .ref 1002 :: st) (enc T) = if px_in i T.2.2.2 then rn k_Law_law 865 L (.int (T.1 1002 i.toNatClampNeg) :: st) (enc T) else none := rn_iaS dd_Law_law_864
theorem dd_Law_law_865 : decode (px_rw k_Law_law).2.1 865 = .ok (.aload_n 0, 1) := (by decide +kernel : decode code 865 = .ok (.aload_n 0, 1))
theorem e_Law_law_865 (a1 a2 a3 a4 a5 a6 : Value) (x : Nat) (st : List Value) (g : px_G) : rn k_Law_law 865 [.ref x, a1, a2, a3, a4, a5, a6] st g = rn k_Law_law 866 [.ref x, a1, a2, a3, a4, a5, a6] (.ref x :: st) g := rn_next dd_Law_law_865 rfl
theorem dd_Law_law_866 : decode (px_rw k_Law_law).2.1 866 = .ok (.iload 4, 2) := (by decide +kernel : decode code 866 = .ok (.iload 4, 2))
theorem e_Law_law_866 (a0 a1 a2 a3 a5 a6 : Value) (x : Int32) (st : List Value) (g : px_G) : rn k_Law_law 866 [a0, a1, a2, a3, .int x, a5, a6] st g = rn k_Law_law 868 [a0, a1, a2, a3, .int x, a5, a6] (.int x :: st) g := rn_next dd_Law_law_866 rfl
theorem dd_Law_law_868 : decode (px_rw k_Law_law).2.1 868 = .ok (.iconst 3, 1) := (by decide +kernel : decode code 868 = .ok (.iconst 3, 1))
theorem e_Law_law_868 (L st : List Value) (g : px_G) : rn k_Law_law 868 L st g = rn k_Law_law 869 L (.int 3 :: st) g := rn_ipush (i := .iconst 3) dd_Law_law_868 rfl rfl (by decide)
theorem dd_Law_law_869 : decode (px_rw k_Law_law).2.1 869 = .ok (.iadd, 1) := (by decide +kernel : decode code 869 = .ok (.iadd, 1))
theorem e_Law_law_869 (L : List Value) (x y : Int32) (st : List Value) (g : px_G) : rn k_Law_law 869 L (.int y :: .int x :: st) g = rn k_Law_law 870 L (.int (x + y) :: st) g := rn_next dd_Law_law_869 rfl
theorem dd_Law_law_870 : decode (px_rw k_Law_law).2.1 870 = .ok (.iaload, 1) := (by decide +kernel : decode code 870 = .ok (.iaload, 1))
theorem e_Law_law_870 (L : List Value) (i : Int32) (p : Nat) (st : List Value) (T : TS) (hp : (sh p).1 = 0) : rn k_Law_law 870 L (.int i :: .ref p :: st) (enc T) = if px_in i (sh p).2 then rn k_Law_law 871 L (.int (T.1 p i.toNatClampNeg) :: st) (enc T) else none := rn_iald dd_Law_law_870 (Prod.ext hp rfl)
theorem e_Law_law_870S (L : List Value) (i : Int32) (st : List Value) (T : TS) : rn k_Law_law 870 L (.int i :: .ref 1002 :: st) (enc T) = if px_in i T.2.2.2 then rn k_Law_law 871 L (.int (T.1 1002 i.toNatClampNeg) :: st) (enc T) else none := rn_iaS dd_Law_law_870
theorem dd_Law_law_871 : decode (px_rw k_Law_law).2.1 871 = .ok (.invokevirtual 93, 3) := (by decide +kernel : decode code 871 = .ok (.invokevirtual 93, 3))
theorem e_Law_law_871 (L : List Value) (i0 : Int32) (i1 : Int32) (i2 : Int32) (i100 : Int32)  (T : TS)  : rn k_Law_law 871 L [.int i2, .int i1, .int i0, .ref 53, .int i100] (enc T) = bd (cl k_Dm_turn [.ref 53, .int i0, .int i1, .int i2] (enc T)) (fun r g' => rn k_Law_law 874 L (r.toList ++ [.int i100]) g') := rn_callV (n := 52) (As := [.int i0, .int i1, .int i2]) (rest := [.int i100]) dd_Law_law_871 rfl (by decide) (by decide) rfl rfl (Nat.le_of_ble_eq_true rfl) (Nat.le_of_ble_eq_true rfl) rfl
theorem dd_Law_law_874 : decode (px_rw k_Law_law).2.1 874 = .ok (.if_icmp .eq 887, 3) := (by decide +kernel : decode code 874 = .ok (.if_icmp .eq 887, 3))
theorem e_Law_law_874 (L : List Value) (x y : Int32) (st : List Value) (g : px_G) : rn k_Law_law 874 L (.int y :: .int x :: st) g = if x = y then rn k_Law_law 1761 L st g else rn k_Law_law 877 L st g := rn_iceq dd_Law_law_874 (by decide)
theorem dd_Law_law_877 : decode (px_rw k_Law_law).2.1 877 = .ok (.iconst 0, 1) := (by decide +kernel : decode code 877 = .ok (.iconst 0, 1))
theorem e_Law_law_877 (L st : List Value) (g : px_G) : rn k_Law_law 877 L st g = rn k_Law_law 878 L (.int 0 :: st) g := rn_ipush (i := .iconst 0) dd_Law_law_877 rfl rfl (by decide)
theorem dd_Law_law_878 : decode (px_rw k_Law_law).2.1 878 = .ok (.ireturn, 1) := (by decide +kernel : decode code 878 = .ok (.ireturn, 1))
theorem e_Law_law_878 (L : List Value) (v : Int32) (g : px_G) (hv : v = 0 ∨ v = 1) : rn k_Law_law 878 L [.int v] g = some (some (.int v), g) := rn_zret dd_Law_law_878 rfl hv
theorem dd_Law_law_879 : decode (px_rw k_Law_law).2.1 879 = .ok (.aload_n 1, 1) := (by decide +kernel : decode code 879 = .ok (.aload_n 1, 1))
theorem e_Law_law_879 (a0 a2 a3 a4 a5 a6 : Value) (x : Nat) (st : List Value) (g : px_G) : rn k_Law_law 879 [a0, .ref x, a2, a3, a4, a5, a6] st g = rn k_Law_law 880 [a0, .ref x, a2, a3, a4, a5, a6] (.ref x :: st) g := rn_next dd_Law_law_879 rfl
theorem dd_Law_law_880 : decode (px_rw k_Law_law).2.1 880 = .ok (.aload_n 0, 1) := (by decide +kernel : decode code 880 = .ok (.aload_n 0, 1))
theorem e_Law_law_880 (a1 a2 a3 a4 a5 a6 : Value) (x : Nat) (st : List Value) (g : px_G) : rn k_Law_law 880 [.ref x, a1, a2, a3, a4, a5, a6] st g = rn k_Law_law 881 [.ref x, a1, a2, a3, a4, a5, a6] (.ref x :: st) g := rn_next dd_Law_law_880 rfl
theorem dd_Law_law_881 : decode (px_rw k_Law_law).2.1 881 = .ok (.iload 4, 2) := (by decide +kernel : decode code 881 = .ok (.iload 4, 2))
theorem e_Law_law_881 (a0 a1 a2 a3 a5 a6 : Value) (x : Int32) (st : List Value) (g : px_G) : rn k_Law_law 881 [a0, a1, a2, a3, .int x, a5, a6] st g = rn k_Law_law 883 [a0, a1, a2, a3, .int x, a5, a6] (.int x :: st) g := rn_next dd_Law_law_881 rfl
theorem dd_Law_law_883 : decode (px_rw k_Law_law).2.1 883 = .ok (.iconst 1, 1) := (by decide +kernel : decode code 883 = .ok (.iconst 1, 1))
theorem e_Law_law_883 (L st : List Value) (g : px_G) : rn k_Law_law 883 L st g = rn k_Law_law 884 L (.int 1 :: st) g := rn_ipush (i := .iconst 1) dd_Law_law_883 rfl rfl (by decide)
theorem dd_Law_law_884 : decode (px_rw k_Law_law).2.1 884 = .ok (.iadd, 1) := (by decide +kernel : decode code 884 = .ok (.iadd, 1))
theorem e_Law_law_884 (L : List Value) (x y : Int32) (st : List Value) (g : px_G) : rn k_Law_law 884 L (.int y :: .int x :: st) g = rn k_Law_law 885 L (.int (x + y) :: st) g := rn_next dd_Law_law_884 rfl
theorem dd_Law_law_885 : decode (px_rw k_Law_law).2.1 885 = .ok (.iaload, 1) := (by decide +kernel : decode code 885 = .ok (.iaload, 1))
theorem e_Law_law_885 (L : List Value) (i : Int32) (p : Nat) (st : List Value) (T : TS) (hp : (sh p).1 = 0) : rn k_Law_law 885 L (.int i :: .ref p :: st) (enc T) = if px_in i (sh p).2 then rn k_Law_law 886 L (.int (T.1 p i.toNatClampNeg) :: st) (enc T) else none := rn_iald dd_Law_law_885 (Prod.ext hp rfl)
theorem e_Law_law_885S (L : List Value) (i : Int32) (st : List Value) (T : TS) : rn k_Law_law 885 L (.int i :: .ref 1002 :: st) (enc T) = if px_in i T.2.2.2 then rn k_Law_law 886 L (.int (T.1 1002 i.toNatClampNeg) :: st) (enc T) else none := rn_iaS dd_Law_law_885
theorem dd_Law_law_886 : decode (px_rw k_Law_law).2.1 886 = .ok (.aload_n 0, 1) := (by decide +kernel : decode code 886 = .ok (.aload_n 0, 1))
theorem e_Law_law_886 (a1 a2 a3 a4 a5 a6 : Value) (x : Nat) (st : List Value) (g : px_G) : rn k_Law_law 886 [.ref x, a1, a2, a3, a4, a5, a6] st g = rn k_Law_law 887 [.ref x, a1, a2, a3, a4, a5, a6] (.ref x :: st) g := rn_next dd_Law_law_886 rfl
theorem dd_Law_law_887 : decode (px_rw k_Law_law).2.1 887 = .ok (.iload 4, 2) := (by decide +kernel : decode code 887 = .ok (.iload 4, 2))
theorem e_Law_law_887 (a0 a1 a2 a3 a5 a6 : Value) (x : Int32) (st : List Value) (g : px_G) : rn k_Law_law 887 [a0, a1, a2, a3, .int x, a5, a6] st g = rn k_Law_law 889 [a0, a1, a2, a3, .int x, a5, a6] (.int x :: st) g := rn_next dd_Law_law_887 rfl
theorem dd_Law_law_889 : decode (px_rw k_Law_law).2.1 889 = .ok (.iconst 2, 1) := (by decide +kernel : decode code 889 = .ok (.iconst 2, 1))
theorem e_Law_law_889 (L st : List Value) (g : px_G) : rn k_Law_law 889 L st g = rn k_Law_law 890 L (.int 2 :: st) g := rn_ipush (i := .iconst 2) dd_Law_law_889 rfl rfl (by decide)
theorem dd_Law_law_890 : decode (px_rw k_Law_law).2.1 890 = .ok (.iadd, 1) := (by decide +kernel : decode code 890 = .ok (.iadd, 1))
theorem e_Law_law_890 (L : List Value) (x y : Int32) (st : List Value) (g : px_G) : rn k_Law_law 890 L (.int y :: .int x :: st) g = rn k_Law_law 891 L (.int (x + y) :: st) g := rn_next dd_Law_law_890 rfl
theorem dd_Law_law_891 : decode (px_rw k_Law_law).2.1 891 = .ok (.iaload, 1) := (by decide +kernel : decode code 891 = .ok (.iaload, 1))
theorem e_Law_law_891 (L : List Value) (i : Int32) (p : Nat) (st : List Value) (T : TS) (hp : (sh p).1 = 0) : rn k_Law_law 891 L (.int i :: .ref p :: st) (enc T) = if px_in i (sh p).2 then rn k_Law_law 892 L (.int (T.1 p i.toNatClampNeg) :: st) (enc T) else none := rn_iald dd_Law_law_891 (Prod.ext hp rfl)
theorem e_Law_law_891S (L : List Value) (i : Int32) (st : List Value) (T : TS) : rn k_Law_law 891 L (.int i :: .ref 1002 :: st) (enc T) = if px_in i T.2.2.2 then rn k_Law_law 892 L (.int (T.1 1002 i.toNatClampNeg) :: st) (enc T) else none := rn_iaS dd_Law_law_891
theorem dd_Law_law_892 : decode (px_rw k_Law_law).2.1 892 = .ok (.aload_n 0, 1) := (by decide +kernel : decode code 892 = .ok (.aload_n 0, 1))
theorem e_Law_law_892 (a1 a2 a3 a4 a5 a6 : Value) (x : Nat) (st : List Value) (g : px_G) : rn k_Law_law 892 [.ref x, a1, a2, a3, a4, a5, a6] st g = rn k_Law_law 893 [.ref x, a1, a2, a3, a4, a5, a6] (.ref x :: st) g := rn_next dd_Law_law_892 rfl
theorem dd_Law_law_893 : decode (px_rw k_Law_law).2.1 893 = .ok (.iload 4, 2) := (by decide +kernel : decode code 893 = .ok (.iload 4, 2))
theorem e_Law_law_893 (a0 a1 a2 a3 a5 a6 : Value) (x : Int32) (st : List Value) (g : px_G) : rn k_Law_law 893 [a0, a1, a2, a3, .int x, a5, a6] st g = rn k_Law_law 895 [a0, a1, a2, a3, .int x, a5, a6] (.int x :: st) g := rn_next dd_Law_law_893 rfl
theorem dd_Law_law_895 : decode (px_rw k_Law_law).2.1 895 = .ok (.iconst 3, 1) := (by decide +kernel : decode code 895 = .ok (.iconst 3, 1))
theorem e_Law_law_895 (L st : List Value) (g : px_G) : rn k_Law_law 895 L st g = rn k_Law_law 896 L (.int 3 :: st) g := rn_ipush (i := .iconst 3) dd_Law_law_895 rfl rfl (by decide)
theorem dd_Law_law_896 : decode (px_rw k_Law_law).2.1 896 = .ok (.iadd, 1) := (by decide +kernel : decode code 896 = .ok (.iadd, 1))
theorem e_Law_law_896 (L : List Value) (x y : Int32) (st : List Value) (g : px_G) : rn k_Law_law 896 L (.int y :: .int x :: st) g = rn k_Law_law 897 L (.int (x + y) :: st) g := rn_next dd_Law_law_896 rfl
theorem dd_Law_law_897 : decode (px_rw k_Law_law).2.1 897 = .ok (.iaload, 1) := (by decide +kernel : decode code 897 = .ok (.iaload, 1))
theorem e_Law_law_897 (L : List Value) (i : Int32) (p : Nat) (st : List Value) (T : TS) (hp : (sh p).1 = 0) : rn k_Law_law 897 L (.int i :: .ref p :: st) (enc T) = if px_in i (sh p).2 then rn k_Law_law 898 L (.int (T.1 p i.toNatClampNeg) :: st) (enc T) else none := rn_iald dd_Law_law_897 (Prod.ext hp rfl)
theorem e_Law_law_897S (L : List Value) (i : Int32) (st : List Value) (T : TS) : rn k_Law_law 897 L (.int i :: .ref 1002 :: st) (enc T) = if px_in i T.2.2.2 then rn k_Law_law 898 L (.int (T.1 1002 i.toNatClampNeg) :: st) (enc T) else none := rn_iaS dd_Law_law_897
theorem dd_Law_law_898 : decode (px_rw k_Law_law).2.1 898 = .ok (.invokevirtual 94, 3) := (by decide +kernel : decode code 898 = .ok (.invokevirtual 94, 3))
theorem e_Law_law_898 (L : List Value) (i0 : Int32) (i1 : Int32) (i2 : Int32)  (T : TS)  : rn k_Law_law 898 L [.int i2, .int i1, .int i0, .ref 0] (enc T) = bd (cl k_Ds_beat [.ref 0, .int i0, .int i1, .int i2] (enc T)) (fun r g' => rn k_Law_law 901 L (r.toList ++ []) g') := rn_callV (n := 13) (As := [.int i0, .int i1, .int i2]) (rest := []) dd_Law_law_898 rfl (by decide) (by decide) rfl rfl (Nat.le_of_ble_eq_true rfl) (Nat.le_of_ble_eq_true rfl) rfl
theorem dd_Law_law_901 : decode (px_rw k_Law_law).2.1 901 = .ok (.aload_n 2, 1) := (by decide +kernel : decode code 901 = .ok (.aload_n 2, 1))
theorem e_Law_law_901 (a0 a1 a3 a4 a5 a6 : Value) (x : Nat) (st : List Value) (g : px_G) : rn k_Law_law 901 [a0, a1, .ref x, a3, a4, a5, a6] st g = rn k_Law_law 902 [a0, a1, .ref x, a3, a4, a5, a6] (.ref x :: st) g := rn_next dd_Law_law_901 rfl
theorem dd_Law_law_902 : decode (px_rw k_Law_law).2.1 902 = .ok (.aload_n 0, 1) := (by decide +kernel : decode code 902 = .ok (.aload_n 0, 1))
theorem e_Law_law_902 (a1 a2 a3 a4 a5 a6 : Value) (x : Nat) (st : List Value) (g : px_G) : rn k_Law_law 902 [.ref x, a1, a2, a3, a4, a5, a6] st g = rn k_Law_law 903 [.ref x, a1, a2, a3, a4, a5, a6] (.ref x :: st) g := rn_next dd_Law_law_902 rfl
theorem dd_Law_law_903 : decode (px_rw k_Law_law).2.1 903 = .ok (.iload 4, 2) := (by decide +kernel : decode code 903 = .ok (.iload 4, 2))
theorem e_Law_law_903 (a0 a1 a2 a3 a5 a6 : Value) (x : Int32) (st : List Value) (g : px_G) : rn k_Law_law 903 [a0, a1, a2, a3, .int x, a5, a6] st g = rn k_Law_law 905 [a0, a1, a2, a3, .int x, a5, a6] (.int x :: st) g := rn_next dd_Law_law_903 rfl
theorem dd_Law_law_905 : decode (px_rw k_Law_law).2.1 905 = .ok (.iconst 1, 1) := (by decide +kernel : decode code 905 = .ok (.iconst 1, 1))
theorem e_Law_law_905 (L st : List Value) (g : px_G) : rn k_Law_law 905 L st g = rn k_Law_law 906 L (.int 1 :: st) g := rn_ipush (i := .iconst 1) dd_Law_law_905 rfl rfl (by decide)
theorem dd_Law_law_906 : decode (px_rw k_Law_law).2.1 906 = .ok (.iadd, 1) := (by decide +kernel : decode code 906 = .ok (.iadd, 1))
theorem e_Law_law_906 (L : List Value) (x y : Int32) (st : List Value) (g : px_G) : rn k_Law_law 906 L (.int y :: .int x :: st) g = rn k_Law_law 907 L (.int (x + y) :: st) g := rn_next dd_Law_law_906 rfl
theorem dd_Law_law_907 : decode (px_rw k_Law_law).2.1 907 = .ok (.iaload, 1) := (by decide +kernel : decode code 907 = .ok (.iaload, 1))
theorem e_Law_law_907 (L : List Value) (i : Int32) (p : Nat) (st : List Value) (T : TS) (hp : (sh p).1 = 0) : rn k_Law_law 907 L (.int i :: .ref p :: st) (enc T) = if px_in i (sh p).2 then rn k_Law_law 908 L (.int (T.1 p i.toNatClampNeg) :: st) (enc T) else none := rn_iald dd_Law_law_907 (Prod.ext hp rfl)
theorem e_Law_law_907S (L : List Value) (i : Int32) (st : List Value) (T : TS) : rn k_Law_law 907 L (.int i :: .ref 1002 :: st) (enc T) = if px_in i T.2.2.2 then rn k_Law_law 908 L (.int (T.1 1002 i.toNatClampNeg) :: st) (enc T) else none := rn_iaS dd_Law_law_907
theorem dd_Law_law_908 : decode (px_rw k_Law_law).2.1 908 = .ok (.aload_n 0, 1) := (by decide +kernel : decode code 908 = .ok (.aload_n 0, 1))
theorem e_Law_law_908 (a1 a2 a3 a4 a5 a6 : Value) (x : Nat) (st : List Value) (g : px_G) : rn k_Law_law 908 [.ref x, a1, a2, a3, a4, a5, a6] st g = rn k_Law_law 909 [.ref x, a1, a2, a3, a4, a5, a6] (.ref x :: st) g := rn_next dd_Law_law_908 rfl
theorem dd_Law_law_909 : decode (px_rw k_Law_law).2.1 909 = .ok (.iload 4, 2) := (by decide +kernel : decode code 909 = .ok (.iload 4, 2))
theorem e_Law_law_909 (a0 a1 a2 a3 a5 a6 : Value) (x : Int32) (st : List Value) (g : px_G) : rn k_Law_law 909 [a0, a1, a2, a3, .int x, a5, a6] st g = rn k_Law_law 911 [a0, a1, a2, a3, .int x, a5, a6] (.int x :: st) g := rn_next dd_Law_law_909 rfl
theorem dd_Law_law_911 : decode (px_rw k_Law_law).2.1 911 = .ok (.iconst 2, 1) := (by decide +kernel : decode code 911 = .ok (.iconst 2, 1))
theorem e_Law_law_911 (L st : List Value) (g : px_G) : rn k_Law_law 911 L st g = rn k_Law_law 912 L (.int 2 :: st) g := rn_ipush (i := .iconst 2) dd_Law_law_911 rfl rfl (by decide)
theorem dd_Law_law_912 : decode (px_rw k_Law_law).2.1 912 = .ok (.iadd, 1) := (by decide +kernel : decode code 912 = .ok (.iadd, 1))
theorem e_Law_law_912 (L : List Value) (x y : Int32) (st : List Value) (g : px_G) : rn k_Law_law 912 L (.int y :: .int x :: st) g = rn k_Law_law 913 L (.int (x + y) :: st) g := rn_next dd_Law_law_912 rfl
theorem dd_Law_law_913 : decode (px_rw k_Law_law).2.1 913 = .ok (.iaload, 1) := (by decide +kernel : decode code 913 = .ok (.iaload, 1))
theorem e_Law_law_913 (L : List Value) (i : Int32) (p : Nat) (st : List Value) (T : TS) (hp : (sh p).1 = 0) : rn k_Law_law 913 L (.int i :: .ref p :: st) (enc T) = if px_in i (sh p).2 then rn k_Law_law 914 L (.int (T.1 p i.toNatClampNeg) :: st) (enc T) else none := rn_iald dd_Law_law_913 (Prod.ext hp rfl)
theorem e_Law_law_913S (L : List Value) (i : Int32) (st : List Value) (T : TS) : rn k_Law_law 913 L (.int i :: .ref 1002 :: st) (enc T) = if px_in i T.2.2.2 then rn k_Law_law 914 L (.int (T.1 1002 i.toNatClampNeg) :: st) (enc T) else none := rn_iaS dd_Law_law_913
theorem dd_Law_law_914 : decode (px_rw k_Law_law).2.1 914 = .ok (.aload_n 0, 1) := (by decide +kernel : decode code 914 = .ok (.aload_n 0, 1))
theorem e_Law_law_914 (a1 a2 a3 a4 a5 a6 : Value) (x : Nat) (st : List Value) (g : px_G) : rn k_Law_law 914 [.ref x, a1, a2, a3, a4, a5, a6] st g = rn k_Law_law 915 [.ref x, a1, a2, a3, a4, a5, a6] (.ref x :: st) g := rn_next dd_Law_law_914 rfl
theorem dd_Law_law_915 : decode (px_rw k_Law_law).2.1 915 = .ok (.iload 4, 2) := (by decide +kernel : decode code 915 = .ok (.iload 4, 2))
theorem e_Law_law_915 (a0 a1 a2 a3 a5 a6 : Value) (x : Int32) (st : List Value) (g : px_G) : rn k_Law_law 915 [a0, a1, a2, a3, .int x, a5, a6] st g = rn k_Law_law 917 [a0, a1, a2, a3, .int x, a5, a6] (.int x :: st) g := rn_next dd_Law_law_915 rfl
theorem dd_Law_law_917 : decode (px_rw k_Law_law).2.1 917 = .ok (.iconst 3, 1) := (by decide +kernel : decode code 917 = .ok (.iconst 3, 1))
theorem e_Law_law_917 (L st : List Value) (g : px_G) : rn k_Law_law 917 L st g = rn k_Law_law 918 L (.int 3 :: st) g := rn_ipush (i := .iconst 3) dd_Law_law_917 rfl rfl (by decide)
theorem dd_Law_law_918 : decode (px_rw k_Law_law).2.1 918 = .ok (.iadd, 1) := (by decide +kernel : decode code 918 = .ok (.iadd, 1))
theorem e_Law_law_918 (L : List Value) (x y : Int32) (st : List Value) (g : px_G) : rn k_Law_law 918 L (.int y :: .int x :: st) g = rn k_Law_law 919 L (.int (x + y) :: st) g := rn_next dd_Law_law_918 rfl
theorem dd_Law_law_919 : decode (px_rw k_Law_law).2.1 919 = .ok (.iaload, 1) := (by decide +kernel : decode code 919 = .ok (.iaload, 1))
theorem e_Law_law_919 (L : List Value) (i : Int32) (p : Nat) (st : List Value) (T : TS) (hp : (sh p).1 = 0) : rn k_Law_law 919 L (.int i :: .ref p :: st) (enc T) = if px_in i (sh p).2 then rn k_Law_law 920 L (.int (T.1 p i.toNatClampNeg) :: st) (enc T) else none := rn_iald dd_Law_law_919 (Prod.ext hp rfl)
theorem e_Law_law_919S (L : List Value) (i : Int32) (st : List Value) (T : TS) : rn k_Law_law 919 L (.int i :: .ref 1002 :: st) (enc T) = if px_in i T.2.2.2 then rn k_Law_law 920 L (.int (T.1 1002 i.toNatClampNeg) :: st) (enc T) else none := rn_iaS dd_Law_law_919
theorem dd_Law_law_920 : decode (px_rw k_Law_law).2.1 920 = .ok (.invokevirtual 97, 3) := (by decide +kernel : decode code 920 = .ok (.invokevirtual 97, 3))
theorem e_Law_law_920 (L : List Value) (i0 : Int32) (i1 : Int32) (i2 : Int32) (i100 : Int32)  (T : TS)  : rn k_Law_law 920 L [.int i2, .int i1, .int i0, .ref 53, .int i100] (enc T) = bd (cl k_Dm_beat [.ref 53, .int i0, .int i1, .int i2] (enc T)) (fun r g' => rn k_Law_law 923 L (r.toList ++ [.int i100]) g') := rn_callV (n := 52) (As := [.int i0, .int i1, .int i2]) (rest := [.int i100]) dd_Law_law_920 rfl (by decide) (by decide) rfl rfl (Nat.le_of_ble_eq_true rfl) (Nat.le_of_ble_eq_true rfl) rfl
theorem dd_Law_law_923 : decode (px_rw k_Law_law).2.1 923 = .ok (.if_icmp .eq 838, 3) := (by decide +kernel : decode code 923 = .ok (.if_icmp .eq 838, 3))
theorem e_Law_law_923 (L : List Value) (x y : Int32) (st : List Value) (g : px_G) : rn k_Law_law 923 L (.int y :: .int x :: st) g = if x = y then rn k_Law_law 1761 L st g else rn k_Law_law 926 L st g := rn_iceq dd_Law_law_923 (by decide)
theorem dd_Law_law_926 : decode (px_rw k_Law_law).2.1 926 = .ok (.iconst 0, 1) := (by decide +kernel : decode code 926 = .ok (.iconst 0, 1))
theorem e_Law_law_926 (L st : List Value) (g : px_G) : rn k_Law_law 926 L st g = rn k_Law_law 927 L (.int 0 :: st) g := rn_ipush (i := .iconst 0) dd_Law_law_926 rfl rfl (by decide)
theorem dd_Law_law_927 : decode (px_rw k_Law_law).2.1 927 = .ok (.ireturn, 1) := (by decide +kernel : decode code 927 = .ok (.ireturn, 1))
theorem e_Law_law_927 (L : List Value) (v : Int32) (g : px_G) (hv : v = 0 ∨ v = 1) : rn k_Law_law 927 L [.int v] g = some (some (.int v), g) := rn_zret dd_Law_law_927 rfl hv
theorem dd_Law_law_928 : decode (px_rw k_Law_law).2.1 928 = .ok (.aload_n 1, 1) := (by decide +kernel : decode code 928 = .ok (.aload_n 1, 1))
theorem e_Law_law_928 (a0 a2 a3 a4 a5 a6 : Value) (x : Nat) (st : List Value) (g : px_G) : rn k_Law_law 928 [a0, .ref x, a2, a3, a4, a5, a6] st g = rn k_Law_law 929 [a0, .ref x, a2, a3, a4, a5, a6] (.ref x :: st) g := rn_next dd_Law_law_928 rfl
theorem dd_Law_law_929 : decode (px_rw k_Law_law).2.1 929 = .ok (.aload_n 0, 1) := (by decide +kernel : decode code 929 = .ok (.aload_n 0, 1))
theorem e_Law_law_929 (a1 a2 a3 a4 a5 a6 : Value) (x : Nat) (st : List Value) (g : px_G) : rn k_Law_law 929 [.ref x, a1, a2, a3, a4, a5, a6] st g = rn k_Law_law 930 [.ref x, a1, a2, a3, a4, a5, a6] (.ref x :: st) g := rn_next dd_Law_law_929 rfl
theorem dd_Law_law_930 : decode (px_rw k_Law_law).2.1 930 = .ok (.iload 4, 2) := (by decide +kernel : decode code 930 = .ok (.iload 4, 2))
theorem e_Law_law_930 (a0 a1 a2 a3 a5 a6 : Value) (x : Int32) (st : List Value) (g : px_G) : rn k_Law_law 930 [a0, a1, a2, a3, .int x, a5, a6] st g = rn k_Law_law 932 [a0, a1, a2, a3, .int x, a5, a6] (.int x :: st) g := rn_next dd_Law_law_930 rfl
theorem dd_Law_law_932 : decode (px_rw k_Law_law).2.1 932 = .ok (.iconst 1, 1) := (by decide +kernel : decode code 932 = .ok (.iconst 1, 1))
theorem e_Law_law_932 (L st : List Value) (g : px_G) : rn k_Law_law 932 L st g = rn k_Law_law 933 L (.int 1 :: st) g := rn_ipush (i := .iconst 1) dd_Law_law_932 rfl rfl (by decide)
theorem dd_Law_law_933 : decode (px_rw k_Law_law).2.1 933 = .ok (.iadd, 1) := (by decide +kernel : decode code 933 = .ok (.iadd, 1))
theorem e_Law_law_933 (L : List Value) (x y : Int32) (st : List Value) (g : px_G) : rn k_Law_law 933 L (.int y :: .int x :: st) g = rn k_Law_law 934 L (.int (x + y) :: st) g := rn_next dd_Law_law_933 rfl
theorem dd_Law_law_934 : decode (px_rw k_Law_law).2.1 934 = .ok (.iaload, 1) := (by decide +kernel : decode code 934 = .ok (.iaload, 1))
theorem e_Law_law_934 (L : List Value) (i : Int32) (p : Nat) (st : List Value) (T : TS) (hp : (sh p).1 = 0) : rn k_Law_law 934 L (.int i :: .ref p :: st) (enc T) = if px_in i (sh p).2 then rn k_Law_law 935 L (.int (T.1 p i.toNatClampNeg) :: st) (enc T) else none := rn_iald dd_Law_law_934 (Prod.ext hp rfl)
theorem e_Law_law_934S (L : List Value) (i : Int32) (st : List Value) (T : TS) : rn k_Law_law 934 L (.int i :: .ref 1002 :: st) (enc T) = if px_in i T.2.2.2 then rn k_Law_law 935 L (.int (T.1 1002 i.toNatClampNeg) :: st) (enc T) else none := rn_iaS dd_Law_law_934
theorem dd_Law_law_935 : decode (px_rw k_Law_law).2.1 935 = .ok (.aload_n 0, 1) := (by decide +kernel : decode code 935 = .ok (.aload_n 0, 1))
theorem e_Law_law_935 (a1 a2 a3 a4 a5 a6 : Value) (x : Nat) (st : List Value) (g : px_G) : rn k_Law_law 935 [.ref x, a1, a2, a3, a4, a5, a6] st g = rn k_Law_law 936 [.ref x, a1, a2, a3, a4, a5, a6] (.ref x :: st) g := rn_next dd_Law_law_935 rfl
theorem dd_Law_law_936 : decode (px_rw k_Law_law).2.1 936 = .ok (.iload 4, 2) := (by decide +kernel : decode code 936 = .ok (.iload 4, 2))
theorem e_Law_law_936 (a0 a1 a2 a3 a5 a6 : Value) (x : Int32) (st : List Value) (g : px_G) : rn k_Law_law 936 [a0, a1, a2, a3, .int x, a5, a6] st g = rn k_Law_law 938 [a0, a1, a2, a3, .int x, a5, a6] (.int x :: st) g := rn_next dd_Law_law_936 rfl
theorem dd_Law_law_938 : decode (px_rw k_Law_law).2.1 938 = .ok (.iconst 2, 1) := (by decide +kernel : decode code 938 = .ok (.iconst 2, 1))
theorem e_Law_law_938 (L st : List Value) (g : px_G) : rn k_Law_law 938 L st g = rn k_Law_law 939 L (.int 2 :: st) g := rn_ipush (i := .iconst 2) dd_Law_law_938 rfl rfl (by decide)
theorem dd_Law_law_939 : decode (px_rw k_Law_law).2.1 939 = .ok (.iadd, 1) := (by decide +kernel : decode code 939 = .ok (.iadd, 1))
theorem e_Law_law_939 (L : List Value) (x y : Int32) (st : List Value) (g : px_G) : rn k_Law_law 939 L (.int y :: .int x :: st) g = rn k_Law_law 940 L (.int (x + y) :: st) g := rn_next dd_Law_law_939 rfl
theorem dd_Law_law_940 : decode (px_rw k_Law_law).2.1 940 = .ok (.iaload, 1) := (by decide +kernel : decode code 940 = .ok (.iaload, 1))
theorem e_Law_law_940 (L : List Value) (i : Int32) (p : Nat) (st : List Value) (T : TS) (hp : (sh p).1 = 0) : rn k_Law_law 940 L (.int i :: .ref p :: st) (enc T) = if px_in i (sh p).2 then rn k_Law_law 941 L (.int (T.1 p i.toNatClampNeg) :: st) (enc T) else none := rn_iald dd_Law_law_940 (Prod.ext hp rfl)
theorem e_Law_law_940S (L : List Value) (i : Int32) (st : List Value) (T : TS) : rn k_Law_law 940 L (.int i :: .ref 1002 :: st) (enc T) = if px_in i T.2.2.2 then rn k_Law_law 941 L (.int (T.1 1002 i.toNatClampNeg) :: st) (enc T) else none := rn_iaS dd_Law_law_940
theorem dd_Law_law_941 : decode (px_rw k_Law_law).2.1 941 = .ok (.aload_n 0, 1) := (by decide +kernel : decode code 941 = .ok (.aload_n 0, 1))
theorem e_Law_law_941 (a1 a2 a3 a4 a5 a6 : Value) (x : Nat) (st : List Value) (g : px_G) : rn k_Law_law 941 [.ref x, a1, a2, a3, a4, a5, a6] st g = rn k_Law_law 942 [.ref x, a1, a2, a3, a4, a5, a6] (.ref x :: st) g := rn_next dd_Law_law_941 rfl
theorem dd_Law_law_942 : decode (px_rw k_Law_law).2.1 942 = .ok (.iload 4, 2) := (by decide +kernel : decode code 942 = .ok (.iload 4, 2))
theorem e_Law_law_942 (a0 a1 a2 a3 a5 a6 : Value) (x : Int32) (st : List Value) (g : px_G) : rn k_Law_law 942 [a0, a1, a2, a3, .int x, a5, a6] st g = rn k_Law_law 944 [a0, a1, a2, a3, .int x, a5, a6] (.int x :: st) g := rn_next dd_Law_law_942 rfl
theorem dd_Law_law_944 : decode (px_rw k_Law_law).2.1 944 = .ok (.iconst 3, 1) := (by decide +kernel : decode code 944 = .ok (.iconst 3, 1))
theorem e_Law_law_944 (L st : List Value) (g : px_G) : rn k_Law_law 944 L st g = rn k_Law_law 945 L (.int 3 :: st) g := rn_ipush (i := .iconst 3) dd_Law_law_944 rfl rfl (by decide)
theorem dd_Law_law_945 : decode (px_rw k_Law_law).2.1 945 = .ok (.iadd, 1) := (by decide +kernel : decode code 945 = .ok (.iadd, 1))
theorem e_Law_law_945 (L : List Value) (x y : Int32) (st : List Value) (g : px_G) : rn k_Law_law 945 L (.int y :: .int x :: st) g = rn k_Law_law 946 L (.int (x + y) :: st) g := rn_next dd_Law_law_945 rfl
theorem dd_Law_law_946 : decode (px_rw k_Law_law).2.1 946 = .ok (.iaload, 1) := (by decide +kernel : decode code 946 = .ok (.iaload, 1))
theorem e_Law_law_946 (L : List Value) (i : Int32) (p : Nat) (st : List Value) (T : TS) (hp : (sh p).1 = 0) : rn k_Law_law 946 L (.int i :: .ref p :: st) (enc T) = if px_in i (sh p).2 then rn k_Law_law 947 L (.int (T.1 p i.toNatClampNeg) :: st) (enc T) else none := rn_iald dd_Law_law_946 (Prod.ext hp rfl)
theorem e_Law_law_946S (L : List Value) (i : Int32) (st : List Value) (T : TS) : rn k_Law_law 946 L (.int i :: .ref 1002 :: st) (enc T) = if px_in i T.2.2.2 then rn k_Law_law 947 L (.int (T.1 1002 i.toNatClampNeg) :: st) (enc T) else none := rn_iaS dd_Law_law_946
theorem dd_Law_law_947 : decode (px_rw k_Law_law).2.1 947 = .ok (.invokevirtual 98, 3) := (by decide +kernel : decode code 947 = .ok (.invokevirtual 98, 3))
theorem e_Law_law_947 (L : List Value) (i0 : Int32) (i1 : Int32) (i2 : Int32)  (T : TS)  : rn k_Law_law 947 L [.int i2, .int i1, .int i0, .ref 0] (enc T) = bd (cl k_Ds_far [.ref 0, .int i0, .int i1, .int i2] (enc T)) (fun r g' => rn k_Law_law 950 L (r.toList ++ []) g') := rn_callV (n := 13) (As := [.int i0, .int i1, .int i2]) (rest := []) dd_Law_law_947 rfl (by decide) (by decide) rfl rfl (Nat.le_of_ble_eq_true rfl) (Nat.le_of_ble_eq_true rfl) rfl
theorem dd_Law_law_950 : decode (px_rw k_Law_law).2.1 950 = .ok (.aload_n 2, 1) := (by decide +kernel : decode code 950 = .ok (.aload_n 2, 1))
theorem e_Law_law_950 (a0 a1 a3 a4 a5 a6 : Value) (x : Nat) (st : List Value) (g : px_G) : rn k_Law_law 950 [a0, a1, .ref x, a3, a4, a5, a6] st g = rn k_Law_law 951 [a0, a1, .ref x, a3, a4, a5, a6] (.ref x :: st) g := rn_next dd_Law_law_950 rfl
theorem dd_Law_law_951 : decode (px_rw k_Law_law).2.1 951 = .ok (.aload_n 0, 1) := (by decide +kernel : decode code 951 = .ok (.aload_n 0, 1))
theorem e_Law_law_951 (a1 a2 a3 a4 a5 a6 : Value) (x : Nat) (st : List Value) (g : px_G) : rn k_Law_law 951 [.ref x, a1, a2, a3, a4, a5, a6] st g = rn k_Law_law 952 [.ref x, a1, a2, a3, a4, a5, a6] (.ref x :: st) g := rn_next dd_Law_law_951 rfl
theorem dd_Law_law_952 : decode (px_rw k_Law_law).2.1 952 = .ok (.iload 4, 2) := (by decide +kernel : decode code 952 = .ok (.iload 4, 2))
theorem e_Law_law_952 (a0 a1 a2 a3 a5 a6 : Value) (x : Int32) (st : List Value) (g : px_G) : rn k_Law_law 952 [a0, a1, a2, a3, .int x, a5, a6] st g = rn k_Law_law 954 [a0, a1, a2, a3, .int x, a5, a6] (.int x :: st) g := rn_next dd_Law_law_952 rfl
theorem dd_Law_law_954 : decode (px_rw k_Law_law).2.1 954 = .ok (.iconst 1, 1) := (by decide +kernel : decode code 954 = .ok (.iconst 1, 1))
theorem e_Law_law_954 (L st : List Value) (g : px_G) : rn k_Law_law 954 L st g = rn k_Law_law 955 L (.int 1 :: st) g := rn_ipush (i := .iconst 1) dd_Law_law_954 rfl rfl (by decide)
theorem dd_Law_law_955 : decode (px_rw k_Law_law).2.1 955 = .ok (.iadd, 1) := (by decide +kernel : decode code 955 = .ok (.iadd, 1))
theorem e_Law_law_955 (L : List Value) (x y : Int32) (st : List Value) (g : px_G) : rn k_Law_law 955 L (.int y :: .int x :: st) g = rn k_Law_law 956 L (.int (x + y) :: st) g := rn_next dd_Law_law_955 rfl
theorem dd_Law_law_956 : decode (px_rw k_Law_law).2.1 956 = .ok (.iaload, 1) := (by decide +kernel : decode code 956 = .ok (.iaload, 1))
theorem e_Law_law_956 (L : List Value) (i : Int32) (p : Nat) (st : List Value) (T : TS) (hp : (sh p).1 = 0) : rn k_Law_law 956 L (.int i :: .ref p :: st) (enc T) = if px_in i (sh p).2 then rn k_Law_law 957 L (.int (T.1 p i.toNatClampNeg) :: st) (enc T) else none := rn_iald dd_Law_law_956 (Prod.ext hp rfl)
theorem e_Law_law_956S (L : List Value) (i : Int32) (st : List Value) (T : TS) : rn k_Law_law 956 L (.int i :: .ref 1002 :: st) (enc T) = if px_in i T.2.2.2 then rn k_Law_law 957 L (.int (T.1 1002 i.toNatClampNeg) :: st) (enc T) else none := rn_iaS dd_Law_law_956
theorem dd_Law_law_957 : decode (px_rw k_Law_law).2.1 957 = .ok (.aload_n 0, 1) := (by decide +kernel : decode code 957 = .ok (.aload_n 0, 1))
theorem e_Law_law_957 (a1 a2 a3 a4 a5 a6 : Value) (x : Nat) (st : List Value) (g : px_G) : rn k_Law_law 957 [.ref x, a1, a2, a3, a4, a5, a6] st g = rn k_Law_law 958 [.ref x, a1, a2, a3, a4, a5, a6] (.ref x :: st) g := rn_next dd_Law_law_957 rfl
theorem dd_Law_law_958 : decode (px_rw k_Law_law).2.1 958 = .ok (.iload 4, 2) := (by decide +kernel : decode code 958 = .ok (.iload 4, 2))
theorem e_Law_law_958 (a0 a1 a2 a3 a5 a6 : Value) (x : Int32) (st : List Value) (g : px_G) : rn k_Law_law 958 [a0, a1, a2, a3, .int x, a5, a6] st g = rn k_Law_law 960 [a0, a1, a2, a3, .int x, a5, a6] (.int x :: st) g := rn_next dd_Law_law_958 rfl
theorem dd_Law_law_960 : decode (px_rw k_Law_law).2.1 960 = .ok (.iconst 2, 1) := (by decide +kernel : decode code 960 = .ok (.iconst 2, 1))
theorem e_Law_law_960 (L st : List Value) (g : px_G) : rn k_Law_law 960 L st g = rn k_Law_law 961 L (.int 2 :: st) g := rn_ipush (i := .iconst 2) dd_Law_law_960 rfl rfl (by decide)
theorem dd_Law_law_961 : decode (px_rw k_Law_law).2.1 961 = .ok (.iadd, 1) := (by decide +kernel : decode code 961 = .ok (.iadd, 1))
theorem e_Law_law_961 (L : List Value) (x y : Int32) (st : List Value) (g : px_G) : rn k_Law_law 961 L (.int y :: .int x :: st) g = rn k_Law_law 962 L (.int (x + y) :: st) g := rn_next dd_Law_law_961 rfl
theorem dd_Law_law_962 : decode (px_rw k_Law_law).2.1 962 = .ok (.iaload, 1) := (by decide +kernel : decode code 962 = .ok (.iaload, 1))
theorem e_Law_law_962 (L : List Value) (i : Int32) (p : Nat) (st : List Value) (T : TS) (hp : (sh p).1 = 0) : rn k_Law_law 962 L (.int i :: .ref p :: st) (enc T) = if px_in i (sh p).2 then rn k_Law_law 963 L (.int (T.1 p i.toNatClampNeg) :: st) (enc T) else none := rn_iald dd_Law_law_962 (Prod.ext hp rfl)
theorem e_Law_law_962S (L : List Value) (i : Int32) (st : List Value) (T : TS) : rn k_Law_law 962 L (.int i :: .ref 1002 :: st) (enc T) = if px_in i T.2.2.2 then rn k_Law_law 963 L (.int (T.1 1002 i.toNatClampNeg) :: st) (enc T) else none := rn_iaS dd_Law_law_962
theorem dd_Law_law_963 : decode (px_rw k_Law_law).2.1 963 = .ok (.aload_n 0, 1) := (by decide +kernel : decode code 963 = .ok (.aload_n 0, 1))
theorem e_Law_law_963 (a1 a2 a3 a4 a5 a6 : Value) (x : Nat) (st : List Value) (g : px_G) : rn k_Law_law 963 [.ref x, a1, a2, a3, a4, a5, a6] st g = rn k_Law_law 964 [.ref x, a1, a2, a3, a4, a5, a6] (.ref x :: st) g := rn_next dd_Law_law_963 rfl
theorem dd_Law_law_964 : decode (px_rw k_Law_law).2.1 964 = .ok (.iload 4, 2) := (by decide +kernel : decode code 964 = .ok (.iload 4, 2))
theorem e_Law_law_964 (a0 a1 a2 a3 a5 a6 : Value) (x : Int32) (st : List Value) (g : px_G) : rn k_Law_law 964 [a0, a1, a2, a3, .int x, a5, a6] st g = rn k_Law_law 966 [a0, a1, a2, a3, .int x, a5, a6] (.int x :: st) g := rn_next dd_Law_law_964 rfl
theorem dd_Law_law_966 : decode (px_rw k_Law_law).2.1 966 = .ok (.iconst 3, 1) := (by decide +kernel : decode code 966 = .ok (.iconst 3, 1))
theorem e_Law_law_966 (L st : List Value) (g : px_G) : rn k_Law_law 966 L st g = rn k_Law_law 967 L (.int 3 :: st) g := rn_ipush (i := .iconst 3) dd_Law_law_966 rfl rfl (by decide)
theorem dd_Law_law_967 : decode (px_rw k_Law_law).2.1 967 = .ok (.iadd, 1) := (by decide +kernel : decode code 967 = .ok (.iadd, 1))
theorem e_Law_law_967 (L : List Value) (x y : Int32) (st : List Value) (g : px_G) : rn k_Law_law 967 L (.int y :: .int x :: st) g = rn k_Law_law 968 L (.int (x + y) :: st) g := rn_next dd_Law_law_967 rfl
theorem dd_Law_law_968 : decode (px_rw k_Law_law).2.1 968 = .ok (.iaload, 1) := (by decide +kernel : decode code 968 = .ok (.iaload, 1))
theorem e_Law_law_968 (L : List Value) (i : Int32) (p : Nat) (st : List Value) (T : TS) (hp : (sh p).1 = 0) : rn k_Law_law 968 L (.int i :: .ref p :: st) (enc T) = if px_in i (sh p).2 then rn k_Law_law 969 L (.int (T.1 p i.toNatClampNeg) :: st) (enc T) else none := rn_iald dd_Law_law_968 (Prod.ext hp rfl)
theorem e_Law_law_968S (L : List Value) (i : Int32) (st : List Value) (T : TS) : rn k_Law_law 968 L (.int i :: .ref 1002 :: st) (enc T) = if px_in i T.2.2.2 then rn k_Law_law 969 L (.int (T.1 1002 i.toNatClampNeg) :: st) (enc T) else none := rn_iaS dd_Law_law_968
theorem dd_Law_law_969 : decode (px_rw k_Law_law).2.1 969 = .ok (.invokevirtual 102, 3) := (by decide +kernel : decode code 969 = .ok (.invokevirtual 102, 3))
theorem e_Law_law_969 (L : List Value) (i0 : Int32) (i1 : Int32) (i2 : Int32) (j100 : Int64)  (T : TS)  : rn k_Law_law 969 L [.int i2, .int i1, .int i0, .ref 53, .long j100] (enc T) = bd (cl k_Dm_far_III [.ref 53, .int i0, .int i1, .int i2] (enc T)) (fun r g' => rn k_Law_law 972 L (r.toList ++ [.long j100]) g') := rn_callV (n := 52) (As := [.int i0, .int i1, .int i2]) (rest := [.long j100]) dd_Law_law_969 rfl (by decide) (by decide) rfl rfl (Nat.le_of_ble_eq_true rfl) (Nat.le_of_ble_eq_true rfl) rfl
theorem dd_Law_law_972 : decode (px_rw k_Law_law).2.1 972 = .ok (.lcmp, 1) := (by decide +kernel : decode code 972 = .ok (.lcmp, 1))
theorem e_Law_law_972 (L : List Value) (x y : Int64) (st : List Value) (g : px_G) : rn k_Law_law 972 L (.long y :: .long x :: st) g = rn k_Law_law 973 L (.int (lg_cmp x y) :: st) g := rn_next dd_Law_law_972 rfl
theorem dd_Law_law_973 : decode (px_rw k_Law_law).2.1 973 = .ok (.ifCond .eq 788, 3) := (by decide +kernel : decode code 973 = .ok (.ifCond .eq 788, 3))
theorem e_Law_law_973 (L : List Value) (x : Int32) (st : List Value) (g : px_G) : rn k_Law_law 973 L (.int x :: st) g = if x = 0 then rn k_Law_law 1761 L st g else rn k_Law_law 976 L st g := rn_ifeq dd_Law_law_973 (by decide)
theorem dd_Law_law_976 : decode (px_rw k_Law_law).2.1 976 = .ok (.iconst 0, 1) := (by decide +kernel : decode code 976 = .ok (.iconst 0, 1))
theorem e_Law_law_976 (L st : List Value) (g : px_G) : rn k_Law_law 976 L st g = rn k_Law_law 977 L (.int 0 :: st) g := rn_ipush (i := .iconst 0) dd_Law_law_976 rfl rfl (by decide)
theorem dd_Law_law_977 : decode (px_rw k_Law_law).2.1 977 = .ok (.ireturn, 1) := (by decide +kernel : decode code 977 = .ok (.ireturn, 1))
theorem e_Law_law_977 (L : List Value) (v : Int32) (g : px_G) (hv : v = 0 ∨ v = 1) : rn k_Law_law 977 L [.int v] g = some (some (.int v), g) := rn_zret dd_Law_law_977 rfl hv
theorem dd_Law_law_978 : decode (px_rw k_Law_law).2.1 978 = .ok (.aload_n 1, 1) := (by decide +kernel : decode code 978 = .ok (.aload_n 1, 1))
theorem e_Law_law_978 (a0 a2 a3 a4 a5 a6 : Value) (x : Nat) (st : List Value) (g : px_G) : rn k_Law_law 978 [a0, .ref x, a2, a3, a4, a5, a6] st g = rn k_Law_law 979 [a0, .ref x, a2, a3, a4, a5, a6] (.ref x :: st) g := rn_next dd_Law_law_978 rfl
theorem dd_Law_law_979 : decode (px_rw k_Law_law).2.1 979 = .ok (.aload_n 0, 1) := (by decide +kernel : decode code 979 = .ok (.aload_n 0, 1))
theorem e_Law_law_979 (a1 a2 a3 a4 a5 a6 : Value) (x : Nat) (st : List Value) (g : px_G) : rn k_Law_law 979 [.ref x, a1, a2, a3, a4, a5, a6] st g = rn k_Law_law 980 [.ref x, a1, a2, a3, a4, a5, a6] (.ref x :: st) g := rn_next dd_Law_law_979 rfl
theorem dd_Law_law_980 : decode (px_rw k_Law_law).2.1 980 = .ok (.iload 4, 2) := (by decide +kernel : decode code 980 = .ok (.iload 4, 2))
theorem e_Law_law_980 (a0 a1 a2 a3 a5 a6 : Value) (x : Int32) (st : List Value) (g : px_G) : rn k_Law_law 980 [a0, a1, a2, a3, .int x, a5, a6] st g = rn k_Law_law 982 [a0, a1, a2, a3, .int x, a5, a6] (.int x :: st) g := rn_next dd_Law_law_980 rfl
theorem dd_Law_law_982 : decode (px_rw k_Law_law).2.1 982 = .ok (.iconst 1, 1) := (by decide +kernel : decode code 982 = .ok (.iconst 1, 1))
theorem e_Law_law_982 (L st : List Value) (g : px_G) : rn k_Law_law 982 L st g = rn k_Law_law 983 L (.int 1 :: st) g := rn_ipush (i := .iconst 1) dd_Law_law_982 rfl rfl (by decide)
theorem dd_Law_law_983 : decode (px_rw k_Law_law).2.1 983 = .ok (.iadd, 1) := (by decide +kernel : decode code 983 = .ok (.iadd, 1))
theorem e_Law_law_983 (L : List Value) (x y : Int32) (st : List Value) (g : px_G) : rn k_Law_law 983 L (.int y :: .int x :: st) g = rn k_Law_law 984 L (.int (x + y) :: st) g := rn_next dd_Law_law_983 rfl
theorem dd_Law_law_984 : decode (px_rw k_Law_law).2.1 984 = .ok (.iaload, 1) := (by decide +kernel : decode code 984 = .ok (.iaload, 1))
theorem e_Law_law_984 (L : List Value) (i : Int32) (p : Nat) (st : List Value) (T : TS) (hp : (sh p).1 = 0) : rn k_Law_law 984 L (.int i :: .ref p :: st) (enc T) = if px_in i (sh p).2 then rn k_Law_law 985 L (.int (T.1 p i.toNatClampNeg) :: st) (enc T) else none := rn_iald dd_Law_law_984 (Prod.ext hp rfl)
theorem e_Law_law_984S (L : List Value) (i : Int32) (st : List Value) (T : TS) : rn k_Law_law 984 L (.int i :: .ref 1002 :: st) (enc T) = if px_in i T.2.2.2 then rn k_Law_law 985 L (.int (T.1 1002 i.toNatClampNeg) :: st) (enc T) else none := rn_iaS dd_Law_law_984
theorem dd_Law_law_985 : decode (px_rw k_Law_law).2.1 985 = .ok (.aload_n 0, 1) := (by decide +kernel : decode code 985 = .ok (.aload_n 0, 1))
theorem e_Law_law_985 (a1 a2 a3 a4 a5 a6 : Value) (x : Nat) (st : List Value) (g : px_G) : rn k_Law_law 985 [.ref x, a1, a2, a3, a4, a5, a6] st g = rn k_Law_law 986 [.ref x, a1, a2, a3, a4, a5, a6] (.ref x :: st) g := rn_next dd_Law_law_985 rfl
theorem dd_Law_law_986 : decode (px_rw k_Law_law).2.1 986 = .ok (.iload 4, 2) := (by decide +kernel : decode code 986 = .ok (.iload 4, 2))
theorem e_Law_law_986 (a0 a1 a2 a3 a5 a6 : Value) (x : Int32) (st : List Value) (g : px_G) : rn k_Law_law 986 [a0, a1, a2, a3, .int x, a5, a6] st g = rn k_Law_law 988 [a0, a1, a2, a3, .int x, a5, a6] (.int x :: st) g := rn_next dd_Law_law_986 rfl
theorem dd_Law_law_988 : decode (px_rw k_Law_law).2.1 988 = .ok (.iconst 2, 1) := (by decide +kernel : decode code 988 = .ok (.iconst 2, 1))
theorem e_Law_law_988 (L st : List Value) (g : px_G) : rn k_Law_law 988 L st g = rn k_Law_law 989 L (.int 2 :: st) g := rn_ipush (i := .iconst 2) dd_Law_law_988 rfl rfl (by decide)
theorem dd_Law_law_989 : decode (px_rw k_Law_law).2.1 989 = .ok (.iadd, 1) := (by decide +kernel : decode code 989 = .ok (.iadd, 1))
theorem e_Law_law_989 (L : List Value) (x y : Int32) (st : List Value) (g : px_G) : rn k_Law_law 989 L (.int y :: .int x :: st) g = rn k_Law_law 990 L (.int (x + y) :: st) g := rn_next dd_Law_law_989 rfl
theorem dd_Law_law_990 : decode (px_rw k_Law_law).2.1 990 = .ok (.iaload, 1) := (by decide +kernel : decode code 990 = .ok (.iaload, 1))
theorem e_Law_law_990 (L : List Value) (i : Int32) (p : Nat) (st : List Value) (T : TS) (hp : (sh p).1 = 0) : rn k_Law_law 990 L (.int i :: .ref p :: st) (enc T) = if px_in i (sh p).2 then rn k_Law_law 991 L (.int (T.1 p i.toNatClampNeg) :: st) (enc T) else none := rn_iald dd_Law_law_990 (Prod.ext hp rfl)
theorem e_Law_law_990S (L : List Value) (i : Int32) (st : List Value) (T : TS) : rn k_Law_law 990 L (.int i :: .ref 1002 :: st) (enc T) = if px_in i T.2.2.2 then rn k_Law_law 991 L (.int (T.1 1002 i.toNatClampNeg) :: st) (enc T) else none := rn_iaS dd_Law_law_990
theorem dd_Law_law_991 : decode (px_rw k_Law_law).2.1 991 = .ok (.invokevirtual 103, 3) := (by decide +kernel : decode code 991 = .ok (.invokevirtual 103, 3))
theorem e_Law_law_991 (L : List Value) (i0 : Int32) (i1 : Int32)  (T : TS)  : rn k_Law_law 991 L [.int i1, .int i0, .ref 0] (enc T) = bd (cl k_Ds_common [.ref 0, .int i0, .int i1] (enc T)) (fun r g' => rn k_Law_law 994 L (r.toList ++ []) g') := rn_callV (n := 13) (As := [.int i0, .int i1]) (rest := []) dd_Law_law_991 rfl (by decide) (by decide) rfl rfl (Nat.le_of_ble_eq_true rfl) (Nat.le_of_ble_eq_true rfl) rfl
theorem dd_Law_law_994 : decode (px_rw k_Law_law).2.1 994 = .ok (.aload_n 2, 1) := (by decide +kernel : decode code 994 = .ok (.aload_n 2, 1))
theorem e_Law_law_994 (a0 a1 a3 a4 a5 a6 : Value) (x : Nat) (st : List Value) (g : px_G) : rn k_Law_law 994 [a0, a1, .ref x, a3, a4, a5, a6] st g = rn k_Law_law 995 [a0, a1, .ref x, a3, a4, a5, a6] (.ref x :: st) g := rn_next dd_Law_law_994 rfl
theorem dd_Law_law_995 : decode (px_rw k_Law_law).2.1 995 = .ok (.aload_n 0, 1) := (by decide +kernel : decode code 995 = .ok (.aload_n 0, 1))
theorem e_Law_law_995 (a1 a2 a3 a4 a5 a6 : Value) (x : Nat) (st : List Value) (g : px_G) : rn k_Law_law 995 [.ref x, a1, a2, a3, a4, a5, a6] st g = rn k_Law_law 996 [.ref x, a1, a2, a3, a4, a5, a6] (.ref x :: st) g := rn_next dd_Law_law_995 rfl
theorem dd_Law_law_996 : decode (px_rw k_Law_law).2.1 996 = .ok (.iload 4, 2) := (by decide +kernel : decode code 996 = .ok (.iload 4, 2))
theorem e_Law_law_996 (a0 a1 a2 a3 a5 a6 : Value) (x : Int32) (st : List Value) (g : px_G) : rn k_Law_law 996 [a0, a1, a2, a3, .int x, a5, a6] st g = rn k_Law_law 998 [a0, a1, a2, a3, .int x, a5, a6] (.int x :: st) g := rn_next dd_Law_law_996 rfl
theorem dd_Law_law_998 : decode (px_rw k_Law_law).2.1 998 = .ok (.iconst 1, 1) := (by decide +kernel : decode code 998 = .ok (.iconst 1, 1))
theorem e_Law_law_998 (L st : List Value) (g : px_G) : rn k_Law_law 998 L st g = rn k_Law_law 999 L (.int 1 :: st) g := rn_ipush (i := .iconst 1) dd_Law_law_998 rfl rfl (by decide)
theorem dd_Law_law_999 : decode (px_rw k_Law_law).2.1 999 = .ok (.iadd, 1) := (by decide +kernel : decode code 999 = .ok (.iadd, 1))
theorem e_Law_law_999 (L : List Value) (x y : Int32) (st : List Value) (g : px_G) : rn k_Law_law 999 L (.int y :: .int x :: st) g = rn k_Law_law 1000 L (.int (x + y) :: st) g := rn_next dd_Law_law_999 rfl
theorem dd_Law_law_1000 : decode (px_rw k_Law_law).2.1 1000 = .ok (.iaload, 1) := (by decide +kernel : decode code 1000 = .ok (.iaload, 1))
theorem e_Law_law_1000 (L : List Value) (i : Int32) (p : Nat) (st : List Value) (T : TS) (hp : (sh p).1 = 0) : rn k_Law_law 1000 L (.int i :: .ref p :: st) (enc T) = if px_in i (sh p).2 then rn k_Law_law 1001 L (.int (T.1 p i.toNatClampNeg) :: st) (enc T) else none := rn_iald dd_Law_law_1000 (Prod.ext hp rfl)
theorem e_Law_law_1000S (L : List Value) (i : Int32) (st : List Value) (T : TS) : rn k_Law_law 1000 L (.int i :: .ref 1002 :: st) (enc T) = if px_in i T.2.2.2 then rn k_Law_law 1001 L (.int (T.1 1002 i.toNatClampNeg) :: st) (enc T) else none := rn_iaS dd_Law_law_1000
theorem dd_Law_law_1001 : decode (px_rw k_Law_law).2.1 1001 = .ok (.aload_n 0, 1) := (by decide +kernel : decode code 1001 = .ok (.aload_n 0, 1))
theorem e_Law_law_1001 (a1 a2 a3 a4 a5 a6 : Value) (x : Nat) (st : List Value) (g : px_G) : rn k_Law_law 1001 [.ref x, a1, a2, a3, a4, a5, a6] st g = rn k_Law_law 1002 [.ref x, a1, a2, a3, a4, a5, a6] (.ref x :: st) g := rn_next dd_Law_law_1001 rfl
theorem dd_Law_law_1002 : decode (px_rw k_Law_law).2.1 1002 = .ok (.iload 4, 2) := (by decide +kernel : decode code 1002 = .ok (.iload 4, 2))
theorem e_Law_law_1002 (a0 a1 a2 a3 a5 a6 : Value) (x : Int32) (st : List Value) (g : px_G) : rn k_Law_law 1002 [a0, a1, a2, a3, .int x, a5, a6] st g = rn k_Law_law 1004 [a0, a1, a2, a3, .int x, a5, a6] (.int x :: st) g := rn_next dd_Law_law_1002 rfl
theorem dd_Law_law_1004 : decode (px_rw k_Law_law).2.1 1004 = .ok (.iconst 2, 1) := (by decide +kernel : decode code 1004 = .ok (.iconst 2, 1))
theorem e_Law_law_1004 (L st : List Value) (g : px_G) : rn k_Law_law 1004 L st g = rn k_Law_law 1005 L (.int 2 :: st) g := rn_ipush (i := .iconst 2) dd_Law_law_1004 rfl rfl (by decide)
theorem dd_Law_law_1005 : decode (px_rw k_Law_law).2.1 1005 = .ok (.iadd, 1) := (by decide +kernel : decode code 1005 = .ok (.iadd, 1))
theorem e_Law_law_1005 (L : List Value) (x y : Int32) (st : List Value) (g : px_G) : rn k_Law_law 1005 L (.int y :: .int x :: st) g = rn k_Law_law 1006 L (.int (x + y) :: st) g := rn_next dd_Law_law_1005 rfl
theorem dd_Law_law_1006 : decode (px_rw k_Law_law).2.1 1006 = .ok (.iaload, 1) := (by decide +kernel : decode code 1006 = .ok (.iaload, 1))
theorem e_Law_law_1006 (L : List Value) (i : Int32) (p : Nat) (st : List Value) (T : TS) (hp : (sh p).1 = 0) : rn k_Law_law 1006 L (.int i :: .ref p :: st) (enc T) = if px_in i (sh p).2 then rn k_Law_law 1007 L (.int (T.1 p i.toNatClampNeg) :: st) (enc T) else none := rn_iald dd_Law_law_1006 (Prod.ext hp rfl)
theorem e_Law_law_1006S (L : List Value) (i : Int32) (st : List Value) (T : TS) : rn k_Law_law 1006 L (.int i :: .ref 1002 :: st) (enc T) = if px_in i T.2.2.2 then rn k_Law_law 1007 L (.int (T.1 1002 i.toNatClampNeg) :: st) (enc T) else none := rn_iaS dd_Law_law_1006
theorem dd_Law_law_1007 : decode (px_rw k_Law_law).2.1 1007 = .ok (.invokevirtual 107, 3) := (by decide +kernel : decode code 1007 = .ok (.invokevirtual 107, 3))
theorem e_Law_law_1007 (L : List Value) (i0 : Int32) (i1 : Int32) (j100 : Int64)  (T : TS)  : rn k_Law_law 1007 L [.int i1, .int i0, .ref 53, .long j100] (enc T) = bd (cl k_Dm_common [.ref 53, .int i0, .int i1] (enc T)) (fun r g' => rn k_Law_law 1010 L (r.toList ++ [.long j100]) g') := rn_callV (n := 52) (As := [.int i0, .int i1]) (rest := [.long j100]) dd_Law_law_1007 rfl (by decide) (by decide) rfl rfl (Nat.le_of_ble_eq_true rfl) (Nat.le_of_ble_eq_true rfl) rfl
theorem dd_Law_law_1010 : decode (px_rw k_Law_law).2.1 1010 = .ok (.lcmp, 1) := (by decide +kernel : decode code 1010 = .ok (.lcmp, 1))
theorem e_Law_law_1010 (L : List Value) (x y : Int64) (st : List Value) (g : px_G) : rn k_Law_law 1010 L (.long y :: .long x :: st) g = rn k_Law_law 1011 L (.int (lg_cmp x y) :: st) g := rn_next dd_Law_law_1010 rfl
theorem dd_Law_law_1011 : decode (px_rw k_Law_law).2.1 1011 = .ok (.ifCond .eq 750, 3) := (by decide +kernel : decode code 1011 = .ok (.ifCond .eq 750, 3))
theorem e_Law_law_1011 (L : List Value) (x : Int32) (st : List Value) (g : px_G) : rn k_Law_law 1011 L (.int x :: st) g = if x = 0 then rn k_Law_law 1761 L st g else rn k_Law_law 1014 L st g := rn_ifeq dd_Law_law_1011 (by decide)
theorem dd_Law_law_1014 : decode (px_rw k_Law_law).2.1 1014 = .ok (.iconst 0, 1) := (by decide +kernel : decode code 1014 = .ok (.iconst 0, 1))
theorem e_Law_law_1014 (L st : List Value) (g : px_G) : rn k_Law_law 1014 L st g = rn k_Law_law 1015 L (.int 0 :: st) g := rn_ipush (i := .iconst 0) dd_Law_law_1014 rfl rfl (by decide)
theorem dd_Law_law_1015 : decode (px_rw k_Law_law).2.1 1015 = .ok (.ireturn, 1) := (by decide +kernel : decode code 1015 = .ok (.ireturn, 1))
theorem e_Law_law_1015 (L : List Value) (v : Int32) (g : px_G) (hv : v = 0 ∨ v = 1) : rn k_Law_law 1015 L [.int v] g = some (some (.int v), g) := rn_zret dd_Law_law_1015 rfl hv
theorem dd_Law_law_1016 : decode (px_rw k_Law_law).2.1 1016 = .ok (.aload_n 1, 1) := (by decide +kernel : decode code 1016 = .ok (.aload_n 1, 1))
theorem e_Law_law_1016 (a0 a2 a3 a4 a5 a6 : Value) (x : Nat) (st : List Value) (g : px_G) : rn k_Law_law 1016 [a0, .ref x, a2, a3, a4, a5, a6] st g = rn k_Law_law 1017 [a0, .ref x, a2, a3, a4, a5, a6] (.ref x :: st) g := rn_next dd_Law_law_1016 rfl
theorem dd_Law_law_1017 : decode (px_rw k_Law_law).2.1 1017 = .ok (.aload_n 0, 1) := (by decide +kernel : decode code 1017 = .ok (.aload_n 0, 1))
theorem e_Law_law_1017 (a1 a2 a3 a4 a5 a6 : Value) (x : Nat) (st : List Value) (g : px_G) : rn k_Law_law 1017 [.ref x, a1, a2, a3, a4, a5, a6] st g = rn k_Law_law 1018 [.ref x, a1, a2, a3, a4, a5, a6] (.ref x :: st) g := rn_next dd_Law_law_1017 rfl
theorem dd_Law_law_1018 : decode (px_rw k_Law_law).2.1 1018 = .ok (.iload 4, 2) := (by decide +kernel : decode code 1018 = .ok (.iload 4, 2))
theorem e_Law_law_1018 (a0 a1 a2 a3 a5 a6 : Value) (x : Int32) (st : List Value) (g : px_G) : rn k_Law_law 1018 [a0, a1, a2, a3, .int x, a5, a6] st g = rn k_Law_law 1020 [a0, a1, a2, a3, .int x, a5, a6] (.int x :: st) g := rn_next dd_Law_law_1018 rfl
theorem dd_Law_law_1020 : decode (px_rw k_Law_law).2.1 1020 = .ok (.iconst 1, 1) := (by decide +kernel : decode code 1020 = .ok (.iconst 1, 1))
theorem e_Law_law_1020 (L st : List Value) (g : px_G) : rn k_Law_law 1020 L st g = rn k_Law_law 1021 L (.int 1 :: st) g := rn_ipush (i := .iconst 1) dd_Law_law_1020 rfl rfl (by decide)
theorem dd_Law_law_1021 : decode (px_rw k_Law_law).2.1 1021 = .ok (.iadd, 1) := (by decide +kernel : decode code 1021 = .ok (.iadd, 1))
theorem e_Law_law_1021 (L : List Value) (x y : Int32) (st : List Value) (g : px_G) : rn k_Law_law 1021 L (.int y :: .int x :: st) g = rn k_Law_law 1022 L (.int (x + y) :: st) g := rn_next dd_Law_law_1021 rfl
theorem dd_Law_law_1022 : decode (px_rw k_Law_law).2.1 1022 = .ok (.iaload, 1) := (by decide +kernel : decode code 1022 = .ok (.iaload, 1))
theorem e_Law_law_1022 (L : List Value) (i : Int32) (p : Nat) (st : List Value) (T : TS) (hp : (sh p).1 = 0) : rn k_Law_law 1022 L (.int i :: .ref p :: st) (enc T) = if px_in i (sh p).2 then rn k_Law_law 1023 L (.int (T.1 p i.toNatClampNeg) :: st) (enc T) else none := rn_iald dd_Law_law_1022 (Prod.ext hp rfl)
theorem e_Law_law_1022S (L : List Value) (i : Int32) (st : List Value) (T : TS) : rn k_Law_law 1022 L (.int i :: .ref 1002 :: st) (enc T) = if px_in i T.2.2.2 then rn k_Law_law 1023 L (.int (T.1 1002 i.toNatClampNeg) :: st) (enc T) else none := rn_iaS dd_Law_law_1022
theorem dd_Law_law_1023 : decode (px_rw k_Law_law).2.1 1023 = .ok (.aload_n 0, 1) := (by decide +kernel : decode code 1023 = .ok (.aload_n 0, 1))
theorem e_Law_law_1023 (a1 a2 a3 a4 a5 a6 : Value) (x : Nat) (st : List Value) (g : px_G) : rn k_Law_law 1023 [.ref x, a1, a2, a3, a4, a5, a6] st g = rn k_Law_law 1024 [.ref x, a1, a2, a3, a4, a5, a6] (.ref x :: st) g := rn_next dd_Law_law_1023 rfl
theorem dd_Law_law_1024 : decode (px_rw k_Law_law).2.1 1024 = .ok (.iload 4, 2) := (by decide +kernel : decode code 1024 = .ok (.iload 4, 2))
theorem e_Law_law_1024 (a0 a1 a2 a3 a5 a6 : Value) (x : Int32) (st : List Value) (g : px_G) : rn k_Law_law 1024 [a0, a1, a2, a3, .int x, a5, a6] st g = rn k_Law_law 1026 [a0, a1, a2, a3, .int x, a5, a6] (.int x :: st) g := rn_next dd_Law_law_1024 rfl
theorem dd_Law_law_1026 : decode (px_rw k_Law_law).2.1 1026 = .ok (.iconst 2, 1) := (by decide +kernel : decode code 1026 = .ok (.iconst 2, 1))
theorem e_Law_law_1026 (L st : List Value) (g : px_G) : rn k_Law_law 1026 L st g = rn k_Law_law 1027 L (.int 2 :: st) g := rn_ipush (i := .iconst 2) dd_Law_law_1026 rfl rfl (by decide)
theorem dd_Law_law_1027 : decode (px_rw k_Law_law).2.1 1027 = .ok (.iadd, 1) := (by decide +kernel : decode code 1027 = .ok (.iadd, 1))
theorem e_Law_law_1027 (L : List Value) (x y : Int32) (st : List Value) (g : px_G) : rn k_Law_law 1027 L (.int y :: .int x :: st) g = rn k_Law_law 1028 L (.int (x + y) :: st) g := rn_next dd_Law_law_1027 rfl
theorem dd_Law_law_1028 : decode (px_rw k_Law_law).2.1 1028 = .ok (.iaload, 1) := (by decide +kernel : decode code 1028 = .ok (.iaload, 1))
theorem e_Law_law_1028 (L : List Value) (i : Int32) (p : Nat) (st : List Value) (T : TS) (hp : (sh p).1 = 0) : rn k_Law_law 1028 L (.int i :: .ref p :: st) (enc T) = if px_in i (sh p).2 then rn k_Law_law 1029 L (.int (T.1 p i.toNatClampNeg) :: st) (enc T) else none := rn_iald dd_Law_law_1028 (Prod.ext hp rfl)
theorem e_Law_law_1028S (L : List Value) (i : Int32) (st : List Value) (T : TS) : rn k_Law_law 1028 L (.int i :: .ref 1002 :: st) (enc T) = if px_in i T.2.2.2 then rn k_Law_law 1029 L (.int (T.1 1002 i.toNatClampNeg) :: st) (enc T) else none := rn_iaS dd_Law_law_1028
theorem dd_Law_law_1029 : decode (px_rw k_Law_law).2.1 1029 = .ok (.invokevirtual 108, 3) := (by decide +kernel : decode code 1029 = .ok (.invokevirtual 108, 3))
theorem e_Law_law_1029 (L : List Value) (i0 : Int32) (i1 : Int32)  (T : TS)  : rn k_Law_law 1029 L [.int i1, .int i0, .ref 0] (enc T) = bd (cl k_Ds_inCell [.ref 0, .int i0, .int i1] (enc T)) (fun r g' => rn k_Law_law 1032 L (r.toList ++ []) g') := rn_callV (n := 13) (As := [.int i0, .int i1]) (rest := []) dd_Law_law_1029 rfl (by decide) (by decide) rfl rfl (Nat.le_of_ble_eq_true rfl) (Nat.le_of_ble_eq_true rfl) rfl
theorem dd_Law_law_1032 : decode (px_rw k_Law_law).2.1 1032 = .ok (.aload_n 2, 1) := (by decide +kernel : decode code 1032 = .ok (.aload_n 2, 1))
theorem e_Law_law_1032 (a0 a1 a3 a4 a5 a6 : Value) (x : Nat) (st : List Value) (g : px_G) : rn k_Law_law 1032 [a0, a1, .ref x, a3, a4, a5, a6] st g = rn k_Law_law 1033 [a0, a1, .ref x, a3, a4, a5, a6] (.ref x :: st) g := rn_next dd_Law_law_1032 rfl
theorem dd_Law_law_1033 : decode (px_rw k_Law_law).2.1 1033 = .ok (.aload_n 0, 1) := (by decide +kernel : decode code 1033 = .ok (.aload_n 0, 1))
theorem e_Law_law_1033 (a1 a2 a3 a4 a5 a6 : Value) (x : Nat) (st : List Value) (g : px_G) : rn k_Law_law 1033 [.ref x, a1, a2, a3, a4, a5, a6] st g = rn k_Law_law 1034 [.ref x, a1, a2, a3, a4, a5, a6] (.ref x :: st) g := rn_next dd_Law_law_1033 rfl
theorem dd_Law_law_1034 : decode (px_rw k_Law_law).2.1 1034 = .ok (.iload 4, 2) := (by decide +kernel : decode code 1034 = .ok (.iload 4, 2))
theorem e_Law_law_1034 (a0 a1 a2 a3 a5 a6 : Value) (x : Int32) (st : List Value) (g : px_G) : rn k_Law_law 1034 [a0, a1, a2, a3, .int x, a5, a6] st g = rn k_Law_law 1036 [a0, a1, a2, a3, .int x, a5, a6] (.int x :: st) g := rn_next dd_Law_law_1034 rfl
theorem dd_Law_law_1036 : decode (px_rw k_Law_law).2.1 1036 = .ok (.iconst 1, 1) := (by decide +kernel : decode code 1036 = .ok (.iconst 1, 1))
theorem e_Law_law_1036 (L st : List Value) (g : px_G) : rn k_Law_law 1036 L st g = rn k_Law_law 1037 L (.int 1 :: st) g := rn_ipush (i := .iconst 1) dd_Law_law_1036 rfl rfl (by decide)
theorem dd_Law_law_1037 : decode (px_rw k_Law_law).2.1 1037 = .ok (.iadd, 1) := (by decide +kernel : decode code 1037 = .ok (.iadd, 1))
theorem e_Law_law_1037 (L : List Value) (x y : Int32) (st : List Value) (g : px_G) : rn k_Law_law 1037 L (.int y :: .int x :: st) g = rn k_Law_law 1038 L (.int (x + y) :: st) g := rn_next dd_Law_law_1037 rfl
theorem dd_Law_law_1038 : decode (px_rw k_Law_law).2.1 1038 = .ok (.iaload, 1) := (by decide +kernel : decode code 1038 = .ok (.iaload, 1))
theorem e_Law_law_1038 (L : List Value) (i : Int32) (p : Nat) (st : List Value) (T : TS) (hp : (sh p).1 = 0) : rn k_Law_law 1038 L (.int i :: .ref p :: st) (enc T) = if px_in i (sh p).2 then rn k_Law_law 1039 L (.int (T.1 p i.toNatClampNeg) :: st) (enc T) else none := rn_iald dd_Law_law_1038 (Prod.ext hp rfl)
theorem e_Law_law_1038S (L : List Value) (i : Int32) (st : List Value) (T : TS) : rn k_Law_law 1038 L (.int i :: .ref 1002 :: st) (enc T) = if px_in i T.2.2.2 then rn k_Law_law 1039 L (.int (T.1 1002 i.toNatClampNeg) :: st) (enc T) else none := rn_iaS dd_Law_law_1038
theorem dd_Law_law_1039 : decode (px_rw k_Law_law).2.1 1039 = .ok (.aload_n 0, 1) := (by decide +kernel : decode code 1039 = .ok (.aload_n 0, 1))
theorem e_Law_law_1039 (a1 a2 a3 a4 a5 a6 : Value) (x : Nat) (st : List Value) (g : px_G) : rn k_Law_law 1039 [.ref x, a1, a2, a3, a4, a5, a6] st g = rn k_Law_law 1040 [.ref x, a1, a2, a3, a4, a5, a6] (.ref x :: st) g := rn_next dd_Law_law_1039 rfl
theorem dd_Law_law_1040 : decode (px_rw k_Law_law).2.1 1040 = .ok (.iload 4, 2) := (by decide +kernel : decode code 1040 = .ok (.iload 4, 2))
theorem e_Law_law_1040 (a0 a1 a2 a3 a5 a6 : Value) (x : Int32) (st : List Value) (g : px_G) : rn k_Law_law 1040 [a0, a1, a2, a3, .int x, a5, a6] st g = rn k_Law_law 1042 [a0, a1, a2, a3, .int x, a5, a6] (.int x :: st) g := rn_next dd_Law_law_1040 rfl
theorem dd_Law_law_1042 : decode (px_rw k_Law_law).2.1 1042 = .ok (.iconst 2, 1) := (by decide +kernel : decode code 1042 = .ok (.iconst 2, 1))
theorem e_Law_law_1042 (L st : List Value) (g : px_G) : rn k_Law_law 1042 L st g = rn k_Law_law 1043 L (.int 2 :: st) g := rn_ipush (i := .iconst 2) dd_Law_law_1042 rfl rfl (by decide)
theorem dd_Law_law_1043 : decode (px_rw k_Law_law).2.1 1043 = .ok (.iadd, 1) := (by decide +kernel : decode code 1043 = .ok (.iadd, 1))
theorem e_Law_law_1043 (L : List Value) (x y : Int32) (st : List Value) (g : px_G) : rn k_Law_law 1043 L (.int y :: .int x :: st) g = rn k_Law_law 1044 L (.int (x + y) :: st) g := rn_next dd_Law_law_1043 rfl
theorem dd_Law_law_1044 : decode (px_rw k_Law_law).2.1 1044 = .ok (.iaload, 1) := (by decide +kernel : decode code 1044 = .ok (.iaload, 1))
theorem e_Law_law_1044 (L : List Value) (i : Int32) (p : Nat) (st : List Value) (T : TS) (hp : (sh p).1 = 0) : rn k_Law_law 1044 L (.int i :: .ref p :: st) (enc T) = if px_in i (sh p).2 then rn k_Law_law 1045 L (.int (T.1 p i.toNatClampNeg) :: st) (enc T) else none := rn_iald dd_Law_law_1044 (Prod.ext hp rfl)
theorem e_Law_law_1044S (L : List Value) (i : Int32) (st : List Value) (T : TS) : rn k_Law_law 1044 L (.int i :: .ref 1002 :: st) (enc T) = if px_in i T.2.2.2 then rn k_Law_law 1045 L (.int (T.1 1002 i.toNatClampNeg) :: st) (enc T) else none := rn_iaS dd_Law_law_1044
theorem dd_Law_law_1045 : decode (px_rw k_Law_law).2.1 1045 = .ok (.invokevirtual 111, 3) := (by decide +kernel : decode code 1045 = .ok (.invokevirtual 111, 3))
theorem e_Law_law_1045 (L : List Value) (i0 : Int32) (i1 : Int32) (j100 : Int64)  (T : TS)  : rn k_Law_law 1045 L [.int i1, .int i0, .ref 53, .long j100] (enc T) = bd (cl k_Dm_inCell [.ref 53, .int i0, .int i1] (enc T)) (fun r g' => rn k_Law_law 1048 L (r.toList ++ [.long j100]) g') := rn_callV (n := 52) (As := [.int i0, .int i1]) (rest := [.long j100]) dd_Law_law_1045 rfl (by decide) (by decide) rfl rfl (Nat.le_of_ble_eq_true rfl) (Nat.le_of_ble_eq_true rfl) rfl
theorem dd_Law_law_1048 : decode (px_rw k_Law_law).2.1 1048 = .ok (.lcmp, 1) := (by decide +kernel : decode code 1048 = .ok (.lcmp, 1))
theorem e_Law_law_1048 (L : List Value) (x y : Int64) (st : List Value) (g : px_G) : rn k_Law_law 1048 L (.long y :: .long x :: st) g = rn k_Law_law 1049 L (.int (lg_cmp x y) :: st) g := rn_next dd_Law_law_1048 rfl
theorem dd_Law_law_1049 : decode (px_rw k_Law_law).2.1 1049 = .ok (.ifCond .eq 712, 3) := (by decide +kernel : decode code 1049 = .ok (.ifCond .eq 712, 3))
theorem e_Law_law_1049 (L : List Value) (x : Int32) (st : List Value) (g : px_G) : rn k_Law_law 1049 L (.int x :: st) g = if x = 0 then rn k_Law_law 1761 L st g else rn k_Law_law 1052 L st g := rn_ifeq dd_Law_law_1049 (by decide)
theorem dd_Law_law_1052 : decode (px_rw k_Law_law).2.1 1052 = .ok (.iconst 0, 1) := (by decide +kernel : decode code 1052 = .ok (.iconst 0, 1))
theorem e_Law_law_1052 (L st : List Value) (g : px_G) : rn k_Law_law 1052 L st g = rn k_Law_law 1053 L (.int 0 :: st) g := rn_ipush (i := .iconst 0) dd_Law_law_1052 rfl rfl (by decide)
theorem dd_Law_law_1053 : decode (px_rw k_Law_law).2.1 1053 = .ok (.ireturn, 1) := (by decide +kernel : decode code 1053 = .ok (.ireturn, 1))
theorem e_Law_law_1053 (L : List Value) (v : Int32) (g : px_G) (hv : v = 0 ∨ v = 1) : rn k_Law_law 1053 L [.int v] g = some (some (.int v), g) := rn_zret dd_Law_law_1053 rfl hv
theorem dd_Law_law_1054 : decode (px_rw k_Law_law).2.1 1054 = .ok (.aload_n 1, 1) := (by decide +kernel : decode code 1054 = .ok (.aload_n 1, 1))
theorem e_Law_law_1054 (a0 a2 a3 a4 a5 a6 : Value) (x : Nat) (st : List Value) (g : px_G) : rn k_Law_law 1054 [a0, .ref x, a2, a3, a4, a5, a6] st g = rn k_Law_law 1055 [a0, .ref x, a2, a3, a4, a5, a6] (.ref x :: st) g := rn_next dd_Law_law_1054 rfl
theorem dd_Law_law_1055 : decode (px_rw k_Law_law).2.1 1055 = .ok (.aload_n 0, 1) := (by decide +kernel : decode code 1055 = .ok (.aload_n 0, 1))
theorem e_Law_law_1055 (a1 a2 a3 a4 a5 a6 : Value) (x : Nat) (st : List Value) (g : px_G) : rn k_Law_law 1055 [.ref x, a1, a2, a3, a4, a5, a6] st g = rn k_Law_law 1056 [.ref x, a1, a2, a3, a4, a5, a6] (.ref x :: st) g := rn_next dd_Law_law_1055 rfl
theorem dd_Law_law_1056 : decode (px_rw k_Law_law).2.1 1056 = .ok (.iload 4, 2) := (by decide +kernel : decode code 1056 = .ok (.iload 4, 2))
theorem e_Law_law_1056 (a0 a1 a2 a3 a5 a6 : Value) (x : Int32) (st : List Value) (g : px_G) : rn k_Law_law 1056 [a0, a1, a2, a3, .int x, a5, a6] st g = rn k_Law_law 1058 [a0, a1, a2, a3, .int x, a5, a6] (.int x :: st) g := rn_next dd_Law_law_1056 rfl
theorem dd_Law_law_1058 : decode (px_rw k_Law_law).2.1 1058 = .ok (.iconst 1, 1) := (by decide +kernel : decode code 1058 = .ok (.iconst 1, 1))
theorem e_Law_law_1058 (L st : List Value) (g : px_G) : rn k_Law_law 1058 L st g = rn k_Law_law 1059 L (.int 1 :: st) g := rn_ipush (i := .iconst 1) dd_Law_law_1058 rfl rfl (by decide)
theorem dd_Law_law_1059 : decode (px_rw k_Law_law).2.1 1059 = .ok (.iadd, 1) := (by decide +kernel : decode code 1059 = .ok (.iadd, 1))
theorem e_Law_law_1059 (L : List Value) (x y : Int32) (st : List Value) (g : px_G) : rn k_Law_law 1059 L (.int y :: .int x :: st) g = rn k_Law_law 1060 L (.int (x + y) :: st) g := rn_next dd_Law_law_1059 rfl
theorem dd_Law_law_1060 : decode (px_rw k_Law_law).2.1 1060 = .ok (.iaload, 1) := (by decide +kernel : decode code 1060 = .ok (.iaload, 1))
theorem e_Law_law_1060 (L : List Value) (i : Int32) (p : Nat) (st : List Value) (T : TS) (hp : (sh p).1 = 0) : rn k_Law_law 1060 L (.int i :: .ref p :: st) (enc T) = if px_in i (sh p).2 then rn k_Law_law 1061 L (.int (T.1 p i.toNatClampNeg) :: st) (enc T) else none := rn_iald dd_Law_law_1060 (Prod.ext hp rfl)
theorem e_Law_law_1060S (L : List Value) (i : Int32) (st : List Value) (T : TS) : rn k_Law_law 1060 L (.int i :: .ref 1002 :: st) (enc T) = if px_in i T.2.2.2 then rn k_Law_law 1061 L (.int (T.1 1002 i.toNatClampNeg) :: st) (enc T) else none := rn_iaS dd_Law_law_1060
theorem dd_Law_law_1061 : decode (px_rw k_Law_law).2.1 1061 = .ok (.aload_n 0, 1) := (by decide +kernel : decode code 1061 = .ok (.aload_n 0, 1))
theorem e_Law_law_1061 (a1 a2 a3 a4 a5 a6 : Value) (x : Nat) (st : List Value) (g : px_G) : rn k_Law_law 1061 [.ref x, a1, a2, a3, a4, a5, a6] st g = rn k_Law_law 1062 [.ref x, a1, a2, a3, a4, a5, a6] (.ref x :: st) g := rn_next dd_Law_law_1061 rfl
theorem dd_Law_law_1062 : decode (px_rw k_Law_law).2.1 1062 = .ok (.iload 4, 2) := (by decide +kernel : decode code 1062 = .ok (.iload 4, 2))
theorem e_Law_law_1062 (a0 a1 a2 a3 a5 a6 : Value) (x : Int32) (st : List Value) (g : px_G) : rn k_Law_law 1062 [a0, a1, a2, a3, .int x, a5, a6] st g = rn k_Law_law 1064 [a0, a1, a2, a3, .int x, a5, a6] (.int x :: st) g := rn_next dd_Law_law_1062 rfl
theorem dd_Law_law_1064 : decode (px_rw k_Law_law).2.1 1064 = .ok (.iconst 2, 1) := (by decide +kernel : decode code 1064 = .ok (.iconst 2, 1))
theorem e_Law_law_1064 (L st : List Value) (g : px_G) : rn k_Law_law 1064 L st g = rn k_Law_law 1065 L (.int 2 :: st) g := rn_ipush (i := .iconst 2) dd_Law_law_1064 rfl rfl (by decide)
theorem dd_Law_law_1065 : decode (px_rw k_Law_law).2.1 1065 = .ok (.iadd, 1) := (by decide +kernel : decode code 1065 = .ok (.iadd, 1))
theorem e_Law_law_1065 (L : List Value) (x y : Int32) (st : List Value) (g : px_G) : rn k_Law_law 1065 L (.int y :: .int x :: st) g = rn k_Law_law 1066 L (.int (x + y) :: st) g := rn_next dd_Law_law_1065 rfl
theorem dd_Law_law_1066 : decode (px_rw k_Law_law).2.1 1066 = .ok (.iaload, 1) := (by decide +kernel : decode code 1066 = .ok (.iaload, 1))
theorem e_Law_law_1066 (L : List Value) (i : Int32) (p : Nat) (st : List Value) (T : TS) (hp : (sh p).1 = 0) : rn k_Law_law 1066 L (.int i :: .ref p :: st) (enc T) = if px_in i (sh p).2 then rn k_Law_law 1067 L (.int (T.1 p i.toNatClampNeg) :: st) (enc T) else none := rn_iald dd_Law_law_1066 (Prod.ext hp rfl)
theorem e_Law_law_1066S (L : List Value) (i : Int32) (st : List Value) (T : TS) : rn k_Law_law 1066 L (.int i :: .ref 1002 :: st) (enc T) = if px_in i T.2.2.2 then rn k_Law_law 1067 L (.int (T.1 1002 i.toNatClampNeg) :: st) (enc T) else none := rn_iaS dd_Law_law_1066
theorem dd_Law_law_1067 : decode (px_rw k_Law_law).2.1 1067 = .ok (.invokevirtual 112, 3) := (by decide +kernel : decode code 1067 = .ok (.invokevirtual 112, 3))
theorem e_Law_law_1067 (L : List Value) (i0 : Int32) (i1 : Int32)  (T : TS)  : rn k_Law_law 1067 L [.int i1, .int i0, .ref 0] (enc T) = bd (cl k_Ds_overlay [.ref 0, .int i0, .int i1] (enc T)) (fun r g' => rn k_Law_law 1070 L (r.toList ++ []) g') := rn_callV (n := 13) (As := [.int i0, .int i1]) (rest := []) dd_Law_law_1067 rfl (by decide) (by decide) rfl rfl (Nat.le_of_ble_eq_true rfl) (Nat.le_of_ble_eq_true rfl) rfl
theorem dd_Law_law_1070 : decode (px_rw k_Law_law).2.1 1070 = .ok (.aload_n 2, 1) := (by decide +kernel : decode code 1070 = .ok (.aload_n 2, 1))
theorem e_Law_law_1070 (a0 a1 a3 a4 a5 a6 : Value) (x : Nat) (st : List Value) (g : px_G) : rn k_Law_law 1070 [a0, a1, .ref x, a3, a4, a5, a6] st g = rn k_Law_law 1071 [a0, a1, .ref x, a3, a4, a5, a6] (.ref x :: st) g := rn_next dd_Law_law_1070 rfl
theorem dd_Law_law_1071 : decode (px_rw k_Law_law).2.1 1071 = .ok (.aload_n 0, 1) := (by decide +kernel : decode code 1071 = .ok (.aload_n 0, 1))
theorem e_Law_law_1071 (a1 a2 a3 a4 a5 a6 : Value) (x : Nat) (st : List Value) (g : px_G) : rn k_Law_law 1071 [.ref x, a1, a2, a3, a4, a5, a6] st g = rn k_Law_law 1072 [.ref x, a1, a2, a3, a4, a5, a6] (.ref x :: st) g := rn_next dd_Law_law_1071 rfl
theorem dd_Law_law_1072 : decode (px_rw k_Law_law).2.1 1072 = .ok (.iload 4, 2) := (by decide +kernel : decode code 1072 = .ok (.iload 4, 2))
theorem e_Law_law_1072 (a0 a1 a2 a3 a5 a6 : Value) (x : Int32) (st : List Value) (g : px_G) : rn k_Law_law 1072 [a0, a1, a2, a3, .int x, a5, a6] st g = rn k_Law_law 1074 [a0, a1, a2, a3, .int x, a5, a6] (.int x :: st) g := rn_next dd_Law_law_1072 rfl
theorem dd_Law_law_1074 : decode (px_rw k_Law_law).2.1 1074 = .ok (.iconst 1, 1) := (by decide +kernel : decode code 1074 = .ok (.iconst 1, 1))
theorem e_Law_law_1074 (L st : List Value) (g : px_G) : rn k_Law_law 1074 L st g = rn k_Law_law 1075 L (.int 1 :: st) g := rn_ipush (i := .iconst 1) dd_Law_law_1074 rfl rfl (by decide)
theorem dd_Law_law_1075 : decode (px_rw k_Law_law).2.1 1075 = .ok (.iadd, 1) := (by decide +kernel : decode code 1075 = .ok (.iadd, 1))
theorem e_Law_law_1075 (L : List Value) (x y : Int32) (st : List Value) (g : px_G) : rn k_Law_law 1075 L (.int y :: .int x :: st) g = rn k_Law_law 1076 L (.int (x + y) :: st) g := rn_next dd_Law_law_1075 rfl
theorem dd_Law_law_1076 : decode (px_rw k_Law_law).2.1 1076 = .ok (.iaload, 1) := (by decide +kernel : decode code 1076 = .ok (.iaload, 1))
theorem e_Law_law_1076 (L : List Value) (i : Int32) (p : Nat) (st : List Value) (T : TS) (hp : (sh p).1 = 0) : rn k_Law_law 1076 L (.int i :: .ref p :: st) (enc T) = if px_in i (sh p).2 then rn k_Law_law 1077 L (.int (T.1 p i.toNatClampNeg) :: st) (enc T) else none := rn_iald dd_Law_law_1076 (Prod.ext hp rfl)
theorem e_Law_law_1076S (L : List Value) (i : Int32) (st : List Value) (T : TS) : rn k_Law_law 1076 L (.int i :: .ref 1002 :: st) (enc T) = if px_in i T.2.2.2 then rn k_Law_law 1077 L (.int (T.1 1002 i.toNatClampNeg) :: st) (enc T) else none := rn_iaS dd_Law_law_1076
theorem dd_Law_law_1077 : decode (px_rw k_Law_law).2.1 1077 = .ok (.aload_n 0, 1) := (by decide +kernel : decode code 1077 = .ok (.aload_n 0, 1))
theorem e_Law_law_1077 (a1 a2 a3 a4 a5 a6 : Value) (x : Nat) (st : List Value) (g : px_G) : rn k_Law_law 1077 [.ref x, a1, a2, a3, a4, a5, a6] st g = rn k_Law_law 1078 [.ref x, a1, a2, a3, a4, a5, a6] (.ref x :: st) g := rn_next dd_Law_law_1077 rfl
theorem dd_Law_law_1078 : decode (px_rw k_Law_law).2.1 1078 = .ok (.iload 4, 2) := (by decide +kernel : decode code 1078 = .ok (.iload 4, 2))
theorem e_Law_law_1078 (a0 a1 a2 a3 a5 a6 : Value) (x : Int32) (st : List Value) (g : px_G) : rn k_Law_law 1078 [a0, a1, a2, a3, .int x, a5, a6] st g = rn k_Law_law 1080 [a0, a1, a2, a3, .int x, a5, a6] (.int x :: st) g := rn_next dd_Law_law_1078 rfl
theorem dd_Law_law_1080 : decode (px_rw k_Law_law).2.1 1080 = .ok (.iconst 2, 1) := (by decide +kernel : decode code 1080 = .ok (.iconst 2, 1))
theorem e_Law_law_1080 (L st : List Value) (g : px_G) : rn k_Law_law 1080 L st g = rn k_Law_law 1081 L (.int 2 :: st) g := rn_ipush (i := .iconst 2) dd_Law_law_1080 rfl rfl (by decide)
theorem dd_Law_law_1081 : decode (px_rw k_Law_law).2.1 1081 = .ok (.iadd, 1) := (by decide +kernel : decode code 1081 = .ok (.iadd, 1))
theorem e_Law_law_1081 (L : List Value) (x y : Int32) (st : List Value) (g : px_G) : rn k_Law_law 1081 L (.int y :: .int x :: st) g = rn k_Law_law 1082 L (.int (x + y) :: st) g := rn_next dd_Law_law_1081 rfl
theorem dd_Law_law_1082 : decode (px_rw k_Law_law).2.1 1082 = .ok (.iaload, 1) := (by decide +kernel : decode code 1082 = .ok (.iaload, 1))
theorem e_Law_law_1082 (L : List Value) (i : Int32) (p : Nat) (st : List Value) (T : TS) (hp : (sh p).1 = 0) : rn k_Law_law 1082 L (.int i :: .ref p :: st) (enc T) = if px_in i (sh p).2 then rn k_Law_law 1083 L (.int (T.1 p i.toNatClampNeg) :: st) (enc T) else none := rn_iald dd_Law_law_1082 (Prod.ext hp rfl)
theorem e_Law_law_1082S (L : List Value) (i : Int32) (st : List Value) (T : TS) : rn k_Law_law 1082 L (.int i :: .ref 1002 :: st) (enc T) = if px_in i T.2.2.2 then rn k_Law_law 1083 L (.int (T.1 1002 i.toNatClampNeg) :: st) (enc T) else none := rn_iaS dd_Law_law_1082
theorem dd_Law_law_1083 : decode (px_rw k_Law_law).2.1 1083 = .ok (.invokevirtual 115, 3) := (by decide +kernel : decode code 1083 = .ok (.invokevirtual 115, 3))
theorem e_Law_law_1083 (L : List Value) (i0 : Int32) (i1 : Int32) (i100 : Int32)  (T : TS)  : rn k_Law_law 1083 L [.int i1, .int i0, .ref 53, .int i100] (enc T) = bd (cl k_Dm_overlay [.ref 53, .int i0, .int i1] (enc T)) (fun r g' => rn k_Law_law 1086 L (r.toList ++ [.int i100]) g') := rn_callV (n := 52) (As := [.int i0, .int i1]) (rest := [.int i100]) dd_Law_law_1083 rfl (by decide) (by decide) rfl rfl (Nat.le_of_ble_eq_true rfl) (Nat.le_of_ble_eq_true rfl) rfl
theorem dd_Law_law_1086 : decode (px_rw k_Law_law).2.1 1086 = .ok (.if_icmp .eq 675, 3) := (by decide +kernel : decode code 1086 = .ok (.if_icmp .eq 675, 3))
theorem e_Law_law_1086 (L : List Value) (x y : Int32) (st : List Value) (g : px_G) : rn k_Law_law 1086 L (.int y :: .int x :: st) g = if x = y then rn k_Law_law 1761 L st g else rn k_Law_law 1089 L st g := rn_iceq dd_Law_law_1086 (by decide)
theorem dd_Law_law_1089 : decode (px_rw k_Law_law).2.1 1089 = .ok (.iconst 0, 1) := (by decide +kernel : decode code 1089 = .ok (.iconst 0, 1))
theorem e_Law_law_1089 (L st : List Value) (g : px_G) : rn k_Law_law 1089 L st g = rn k_Law_law 1090 L (.int 0 :: st) g := rn_ipush (i := .iconst 0) dd_Law_law_1089 rfl rfl (by decide)
theorem dd_Law_law_1090 : decode (px_rw k_Law_law).2.1 1090 = .ok (.ireturn, 1) := (by decide +kernel : decode code 1090 = .ok (.ireturn, 1))
theorem e_Law_law_1090 (L : List Value) (v : Int32) (g : px_G) (hv : v = 0 ∨ v = 1) : rn k_Law_law 1090 L [.int v] g = some (some (.int v), g) := rn_zret dd_Law_law_1090 rfl hv
theorem dd_Law_law_1091 : decode (px_rw k_Law_law).2.1 1091 = .ok (.aload_n 1, 1) := (by decide +kernel : decode code 1091 = .ok (.aload_n 1, 1))
theorem e_Law_law_1091 (a0 a2 a3 a4 a5 a6 : Value) (x : Nat) (st : List Value) (g : px_G) : rn k_Law_law 1091 [a0, .ref x, a2, a3, a4, a5, a6] st g = rn k_Law_law 1092 [a0, .ref x, a2, a3, a4, a5, a6] (.ref x :: st) g := rn_next dd_Law_law_1091 rfl
theorem dd_Law_law_1092 : decode (px_rw k_Law_law).2.1 1092 = .ok (.aload_n 0, 1) := (by decide +kernel : decode code 1092 = .ok (.aload_n 0, 1))
theorem e_Law_law_1092 (a1 a2 a3 a4 a5 a6 : Value) (x : Nat) (st : List Value) (g : px_G) : rn k_Law_law 1092 [.ref x, a1, a2, a3, a4, a5, a6] st g = rn k_Law_law 1093 [.ref x, a1, a2, a3, a4, a5, a6] (.ref x :: st) g := rn_next dd_Law_law_1092 rfl
theorem dd_Law_law_1093 : decode (px_rw k_Law_law).2.1 1093 = .ok (.iload 4, 2) := (by decide +kernel : decode code 1093 = .ok (.iload 4, 2))
theorem e_Law_law_1093 (a0 a1 a2 a3 a5 a6 : Value) (x : Int32) (st : List Value) (g : px_G) : rn k_Law_law 1093 [a0, a1, a2, a3, .int x, a5, a6] st g = rn k_Law_law 1095 [a0, a1, a2, a3, .int x, a5, a6] (.int x :: st) g := rn_next dd_Law_law_1093 rfl
theorem dd_Law_law_1095 : decode (px_rw k_Law_law).2.1 1095 = .ok (.iconst 1, 1) := (by decide +kernel : decode code 1095 = .ok (.iconst 1, 1))
theorem e_Law_law_1095 (L st : List Value) (g : px_G) : rn k_Law_law 1095 L st g = rn k_Law_law 1096 L (.int 1 :: st) g := rn_ipush (i := .iconst 1) dd_Law_law_1095 rfl rfl (by decide)
theorem dd_Law_law_1096 : decode (px_rw k_Law_law).2.1 1096 = .ok (.iadd, 1) := (by decide +kernel : decode code 1096 = .ok (.iadd, 1))
theorem e_Law_law_1096 (L : List Value) (x y : Int32) (st : List Value) (g : px_G) : rn k_Law_law 1096 L (.int y :: .int x :: st) g = rn k_Law_law 1097 L (.int (x + y) :: st) g := rn_next dd_Law_law_1096 rfl
theorem dd_Law_law_1097 : decode (px_rw k_Law_law).2.1 1097 = .ok (.iaload, 1) := (by decide +kernel : decode code 1097 = .ok (.iaload, 1))
theorem e_Law_law_1097 (L : List Value) (i : Int32) (p : Nat) (st : List Value) (T : TS) (hp : (sh p).1 = 0) : rn k_Law_law 1097 L (.int i :: .ref p :: st) (enc T) = if px_in i (sh p).2 then rn k_Law_law 1098 L (.int (T.1 p i.toNatClampNeg) :: st) (enc T) else none := rn_iald dd_Law_law_1097 (Prod.ext hp rfl)
theorem e_Law_law_1097S (L : List Value) (i : Int32) (st : List Value) (T : TS) : rn k_Law_law 1097 L (.int i :: .ref 1002 :: st) (enc T) = if px_in i T.2.2.2 then rn k_Law_law 1098 L (.int (T.1 1002 i.toNatClampNeg) :: st) (enc T) else none := rn_iaS dd_Law_law_1097
theorem dd_Law_law_1098 : decode (px_rw k_Law_law).2.1 1098 = .ok (.aload_n 0, 1) := (by decide +kernel : decode code 1098 = .ok (.aload_n 0, 1))
theorem e_Law_law_1098 (a1 a2 a3 a4 a5 a6 : Value) (x : Nat) (st : List Value) (g : px_G) : rn k_Law_law 1098 [.ref x, a1, a2, a3, a4, a5, a6] st g = rn k_Law_law 1099 [.ref x, a1, a2, a3, a4, a5, a6] (.ref x :: st) g := rn_next dd_Law_law_1098 rfl
theorem dd_Law_law_1099 : decode (px_rw k_Law_law).2.1 1099 = .ok (.iload 4, 2) := (by decide +kernel : decode code 1099 = .ok (.iload 4, 2))
theorem e_Law_law_1099 (a0 a1 a2 a3 a5 a6 : Value) (x : Int32) (st : List Value) (g : px_G) : rn k_Law_law 1099 [a0, a1, a2, a3, .int x, a5, a6] st g = rn k_Law_law 1101 [a0, a1, a2, a3, .int x, a5, a6] (.int x :: st) g := rn_next dd_Law_law_1099 rfl
theorem dd_Law_law_1101 : decode (px_rw k_Law_law).2.1 1101 = .ok (.iconst 2, 1) := (by decide +kernel : decode code 1101 = .ok (.iconst 2, 1))
theorem e_Law_law_1101 (L st : List Value) (g : px_G) : rn k_Law_law 1101 L st g = rn k_Law_law 1102 L (.int 2 :: st) g := rn_ipush (i := .iconst 2) dd_Law_law_1101 rfl rfl (by decide)
theorem dd_Law_law_1102 : decode (px_rw k_Law_law).2.1 1102 = .ok (.iadd, 1) := (by decide +kernel : decode code 1102 = .ok (.iadd, 1))
theorem e_Law_law_1102 (L : List Value) (x y : Int32) (st : List Value) (g : px_G) : rn k_Law_law 1102 L (.int y :: .int x :: st) g = rn k_Law_law 1103 L (.int (x + y) :: st) g := rn_next dd_Law_law_1102 rfl
theorem dd_Law_law_1103 : decode (px_rw k_Law_law).2.1 1103 = .ok (.iaload, 1) := (by decide +kernel : decode code 1103 = .ok (.iaload, 1))
theorem e_Law_law_1103 (L : List Value) (i : Int32) (p : Nat) (st : List Value) (T : TS) (hp : (sh p).1 = 0) : rn k_Law_law 1103 L (.int i :: .ref p :: st) (enc T) = if px_in i (sh p).2 then rn k_Law_law 1104 L (.int (T.1 p i.toNatClampNeg) :: st) (enc T) else none := rn_iald dd_Law_law_1103 (Prod.ext hp rfl)
theorem e_Law_law_1103S (L : List Value) (i : Int32) (st : List Value) (T : TS) : rn k_Law_law 1103 L (.int i :: .ref 1002 :: st) (enc T) = if px_in i T.2.2.2 then rn k_Law_law 1104 L (.int (T.1 1002 i.toNatClampNeg) :: st) (enc T) else none := rn_iaS dd_Law_law_1103
theorem dd_Law_law_1104 : decode (px_rw k_Law_law).2.1 1104 = .ok (.aload_n 0, 1) := (by decide +kernel : decode code 1104 = .ok (.aload_n 0, 1))
theorem e_Law_law_1104 (a1 a2 a3 a4 a5 a6 : Value) (x : Nat) (st : List Value) (g : px_G) : rn k_Law_law 1104 [.ref x, a1, a2, a3, a4, a5, a6] st g = rn k_Law_law 1105 [.ref x, a1, a2, a3, a4, a5, a6] (.ref x :: st) g := rn_next dd_Law_law_1104 rfl
theorem dd_Law_law_1105 : decode (px_rw k_Law_law).2.1 1105 = .ok (.iload 4, 2) := (by decide +kernel : decode code 1105 = .ok (.iload 4, 2))
theorem e_Law_law_1105 (a0 a1 a2 a3 a5 a6 : Value) (x : Int32) (st : List Value) (g : px_G) : rn k_Law_law 1105 [a0, a1, a2, a3, .int x, a5, a6] st g = rn k_Law_law 1107 [a0, a1, a2, a3, .int x, a5, a6] (.int x :: st) g := rn_next dd_Law_law_1105 rfl
theorem dd_Law_law_1107 : decode (px_rw k_Law_law).2.1 1107 = .ok (.iconst 3, 1) := (by decide +kernel : decode code 1107 = .ok (.iconst 3, 1))
theorem e_Law_law_1107 (L st : List Value) (g : px_G) : rn k_Law_law 1107 L st g = rn k_Law_law 1108 L (.int 3 :: st) g := rn_ipush (i := .iconst 3) dd_Law_law_1107 rfl rfl (by decide)
theorem dd_Law_law_1108 : decode (px_rw k_Law_law).2.1 1108 = .ok (.iadd, 1) := (by decide +kernel : decode code 1108 = .ok (.iadd, 1))
theorem e_Law_law_1108 (L : List Value) (x y : Int32) (st : List Value) (g : px_G) : rn k_Law_law 1108 L (.int y :: .int x :: st) g = rn k_Law_law 1109 L (.int (x + y) :: st) g := rn_next dd_Law_law_1108 rfl
theorem dd_Law_law_1109 : decode (px_rw k_Law_law).2.1 1109 = .ok (.iaload, 1) := (by decide +kernel : decode code 1109 = .ok (.iaload, 1))
theorem e_Law_law_1109 (L : List Value) (i : Int32) (p : Nat) (st : List Value) (T : TS) (hp : (sh p).1 = 0) : rn k_Law_law 1109 L (.int i :: .ref p :: st) (enc T) = if px_in i (sh p).2 then rn k_Law_law 1110 L (.int (T.1 p i.toNatClampNeg) :: st) (enc T) else none := rn_iald dd_Law_law_1109 (Prod.ext hp rfl)
theorem e_Law_law_1109S (L : List Value) (i : Int32) (st : List Value) (T : TS) : rn k_Law_law 1109 L (.int i :: .ref 1002 :: st) (enc T) = if px_in i T.2.2.2 then rn k_Law_law 1110 L (.int (T.1 1002 i.toNatClampNeg) :: st) (enc T) else none := rn_iaS dd_Law_law_1109
theorem dd_Law_law_1110 : decode (px_rw k_Law_law).2.1 1110 = .ok (.aload_n 0, 1) := (by decide +kernel : decode code 1110 = .ok (.aload_n 0, 1))
theorem e_Law_law_1110 (a1 a2 a3 a4 a5 a6 : Value) (x : Nat) (st : List Value) (g : px_G) : rn k_Law_law 1110 [.ref x, a1, a2, a3, a4, a5, a6] st g = rn k_Law_law 1111 [.ref x, a1, a2, a3, a4, a5, a6] (.ref x :: st) g := rn_next dd_Law_law_1110 rfl
theorem dd_Law_law_1111 : decode (px_rw k_Law_law).2.1 1111 = .ok (.iload 4, 2) := (by decide +kernel : decode code 1111 = .ok (.iload 4, 2))
theorem e_Law_law_1111 (a0 a1 a2 a3 a5 a6 : Value) (x : Int32) (st : List Value) (g : px_G) : rn k_Law_law 1111 [a0, a1, a2, a3, .int x, a5, a6] st g = rn k_Law_law 1113 [a0, a1, a2, a3, .int x, a5, a6] (.int x :: st) g := rn_next dd_Law_law_1111 rfl
theorem dd_Law_law_1113 : decode (px_rw k_Law_law).2.1 1113 = .ok (.iconst 4, 1) := (by decide +kernel : decode code 1113 = .ok (.iconst 4, 1))
theorem e_Law_law_1113 (L st : List Value) (g : px_G) : rn k_Law_law 1113 L st g = rn k_Law_law 1114 L (.int 4 :: st) g := rn_ipush (i := .iconst 4) dd_Law_law_1113 rfl rfl (by decide)
theorem dd_Law_law_1114 : decode (px_rw k_Law_law).2.1 1114 = .ok (.iadd, 1) := (by decide +kernel : decode code 1114 = .ok (.iadd, 1))
theorem e_Law_law_1114 (L : List Value) (x y : Int32) (st : List Value) (g : px_G) : rn k_Law_law 1114 L (.int y :: .int x :: st) g = rn k_Law_law 1115 L (.int (x + y) :: st) g := rn_next dd_Law_law_1114 rfl
theorem dd_Law_law_1115 : decode (px_rw k_Law_law).2.1 1115 = .ok (.iaload, 1) := (by decide +kernel : decode code 1115 = .ok (.iaload, 1))
theorem e_Law_law_1115 (L : List Value) (i : Int32) (p : Nat) (st : List Value) (T : TS) (hp : (sh p).1 = 0) : rn k_Law_law 1115 L (.int i :: .ref p :: st) (enc T) = if px_in i (sh p).2 then rn k_Law_law 1116 L (.int (T.1 p i.toNatClampNeg) :: st) (enc T) else none := rn_iald dd_Law_law_1115 (Prod.ext hp rfl)
theorem e_Law_law_1115S (L : List Value) (i : Int32) (st : List Value) (T : TS) : rn k_Law_law 1115 L (.int i :: .ref 1002 :: st) (enc T) = if px_in i T.2.2.2 then rn k_Law_law 1116 L (.int (T.1 1002 i.toNatClampNeg) :: st) (enc T) else none := rn_iaS dd_Law_law_1115
theorem dd_Law_law_1116 : decode (px_rw k_Law_law).2.1 1116 = .ok (.aload_n 0, 1) := (by decide +kernel : decode code 1116 = .ok (.aload_n 0, 1))
theorem e_Law_law_1116 (a1 a2 a3 a4 a5 a6 : Value) (x : Nat) (st : List Value) (g : px_G) : rn k_Law_law 1116 [.ref x, a1, a2, a3, a4, a5, a6] st g = rn k_Law_law 1117 [.ref x, a1, a2, a3, a4, a5, a6] (.ref x :: st) g := rn_next dd_Law_law_1116 rfl
theorem dd_Law_law_1117 : decode (px_rw k_Law_law).2.1 1117 = .ok (.iload 4, 2) := (by decide +kernel : decode code 1117 = .ok (.iload 4, 2))
theorem e_Law_law_1117 (a0 a1 a2 a3 a5 a6 : Value) (x : Int32) (st : List Value) (g : px_G) : rn k_Law_law 1117 [a0, a1, a2, a3, .int x, a5, a6] st g = rn k_Law_law 1119 [a0, a1, a2, a3, .int x, a5, a6] (.int x :: st) g := rn_next dd_Law_law_1117 rfl
theorem dd_Law_law_1119 : decode (px_rw k_Law_law).2.1 1119 = .ok (.iconst 5, 1) := (by decide +kernel : decode code 1119 = .ok (.iconst 5, 1))
theorem e_Law_law_1119 (L st : List Value) (g : px_G) : rn k_Law_law 1119 L st g = rn k_Law_law 1120 L (.int 5 :: st) g := rn_ipush (i := .iconst 5) dd_Law_law_1119 rfl rfl (by decide)
theorem dd_Law_law_1120 : decode (px_rw k_Law_law).2.1 1120 = .ok (.iadd, 1) := (by decide +kernel : decode code 1120 = .ok (.iadd, 1))
theorem e_Law_law_1120 (L : List Value) (x y : Int32) (st : List Value) (g : px_G) : rn k_Law_law 1120 L (.int y :: .int x :: st) g = rn k_Law_law 1121 L (.int (x + y) :: st) g := rn_next dd_Law_law_1120 rfl
theorem dd_Law_law_1121 : decode (px_rw k_Law_law).2.1 1121 = .ok (.iaload, 1) := (by decide +kernel : decode code 1121 = .ok (.iaload, 1))
theorem e_Law_law_1121 (L : List Value) (i : Int32) (p : Nat) (st : List Value) (T : TS) (hp : (sh p).1 = 0) : rn k_Law_law 1121 L (.int i :: .ref p :: st) (enc T) = if px_in i (sh p).2 then rn k_Law_law 1122 L (.int (T.1 p i.toNatClampNeg) :: st) (enc T) else none := rn_iald dd_Law_law_1121 (Prod.ext hp rfl)
theorem e_Law_law_1121S (L : List Value) (i : Int32) (st : List Value) (T : TS) : rn k_Law_law 1121 L (.int i :: .ref 1002 :: st) (enc T) = if px_in i T.2.2.2 then rn k_Law_law 1122 L (.int (T.1 1002 i.toNatClampNeg) :: st) (enc T) else none := rn_iaS dd_Law_law_1121
theorem dd_Law_law_1122 : decode (px_rw k_Law_law).2.1 1122 = .ok (.aload_n 0, 1) := (by decide +kernel : decode code 1122 = .ok (.aload_n 0, 1))
theorem e_Law_law_1122 (a1 a2 a3 a4 a5 a6 : Value) (x : Nat) (st : List Value) (g : px_G) : rn k_Law_law 1122 [.ref x, a1, a2, a3, a4, a5, a6] st g = rn k_Law_law 1123 [.ref x, a1, a2, a3, a4, a5, a6] (.ref x :: st) g := rn_next dd_Law_law_1122 rfl
theorem dd_Law_law_1123 : decode (px_rw k_Law_law).2.1 1123 = .ok (.iload 4, 2) := (by decide +kernel : decode code 1123 = .ok (.iload 4, 2))
theorem e_Law_law_1123 (a0 a1 a2 a3 a5 a6 : Value) (x : Int32) (st : List Value) (g : px_G) : rn k_Law_law 1123 [a0, a1, a2, a3, .int x, a5, a6] st g = rn k_Law_law 1125 [a0, a1, a2, a3, .int x, a5, a6] (.int x :: st) g := rn_next dd_Law_law_1123 rfl
theorem dd_Law_law_1125 : decode (px_rw k_Law_law).2.1 1125 = .ok (.bipush 6, 2) := (by decide +kernel : decode code 1125 = .ok (.bipush 6, 2))
theorem e_Law_law_1125 (L st : List Value) (g : px_G) : rn k_Law_law 1125 L st g = rn k_Law_law 1127 L (.int 6 :: st) g := rn_ipush (i := .bipush 6) dd_Law_law_1125 rfl rfl (by decide)
theorem dd_Law_law_1127 : decode (px_rw k_Law_law).2.1 1127 = .ok (.iadd, 1) := (by decide +kernel : decode code 1127 = .ok (.iadd, 1))
theorem e_Law_law_1127 (L : List Value) (x y : Int32) (st : List Value) (g : px_G) : rn k_Law_law 1127 L (.int y :: .int x :: st) g = rn k_Law_law 1128 L (.int (x + y) :: st) g := rn_next dd_Law_law_1127 rfl
theorem dd_Law_law_1128 : decode (px_rw k_Law_law).2.1 1128 = .ok (.iaload, 1) := (by decide +kernel : decode code 1128 = .ok (.iaload, 1))
theorem e_Law_law_1128 (L : List Value) (i : Int32) (p : Nat) (st : List Value) (T : TS) (hp : (sh p).1 = 0) : rn k_Law_law 1128 L (.int i :: .ref p :: st) (enc T) = if px_in i (sh p).2 then rn k_Law_law 1129 L (.int (T.1 p i.toNatClampNeg) :: st) (enc T) else none := rn_iald dd_Law_law_1128 (Prod.ext hp rfl)
theorem e_Law_law_1128S (L : List Value) (i : Int32) (st : List Value) (T : TS) : rn k_Law_law 1128 L (.int i :: .ref 1002 :: st) (enc T) = if px_in i T.2.2.2 then rn k_Law_law 1129 L (.int (T.1 1002 i.toNatClampNeg) :: st) (enc T) else none := rn_iaS dd_Law_law_1128
theorem dd_Law_law_1129 : decode (px_rw k_Law_law).2.1 1129 = .ok (.invokevirtual 116, 3) := (by decide +kernel : decode code 1129 = .ok (.invokevirtual 116, 3))
theorem e_Law_law_1129 (L : List Value) (i0 : Int32) (i1 : Int32) (i2 : Int32) (i3 : Int32) (i4 : Int32) (i5 : Int32)  (T : TS)  : rn k_Law_law 1129 L [.int i5, .int i4, .int i3, .int i2, .int i1, .int i0, .ref 0] (enc T) = bd (cl k_Ds_window [.ref 0, .int i0, .int i1, .int i2, .int i3, .int i4, .int i5] (enc T)) (fun r g' => rn k_Law_law 1132 L (r.toList ++ []) g') := rn_callV (n := 13) (As := [.int i0, .int i1, .int i2, .int i3, .int i4, .int i5]) (rest := []) dd_Law_law_1129 rfl (by decide) (by decide) rfl rfl (Nat.le_of_ble_eq_true rfl) (Nat.le_of_ble_eq_true rfl) rfl
theorem dd_Law_law_1132 : decode (px_rw k_Law_law).2.1 1132 = .ok (.aload_n 2, 1) := (by decide +kernel : decode code 1132 = .ok (.aload_n 2, 1))
theorem e_Law_law_1132 (a0 a1 a3 a4 a5 a6 : Value) (x : Nat) (st : List Value) (g : px_G) : rn k_Law_law 1132 [a0, a1, .ref x, a3, a4, a5, a6] st g = rn k_Law_law 1133 [a0, a1, .ref x, a3, a4, a5, a6] (.ref x :: st) g := rn_next dd_Law_law_1132 rfl
theorem dd_Law_law_1133 : decode (px_rw k_Law_law).2.1 1133 = .ok (.aload_n 0, 1) := (by decide +kernel : decode code 1133 = .ok (.aload_n 0, 1))
theorem e_Law_law_1133 (a1 a2 a3 a4 a5 a6 : Value) (x : Nat) (st : List Value) (g : px_G) : rn k_Law_law 1133 [.ref x, a1, a2, a3, a4, a5, a6] st g = rn k_Law_law 1134 [.ref x, a1, a2, a3, a4, a5, a6] (.ref x :: st) g := rn_next dd_Law_law_1133 rfl
theorem dd_Law_law_1134 : decode (px_rw k_Law_law).2.1 1134 = .ok (.iload 4, 2) := (by decide +kernel : decode code 1134 = .ok (.iload 4, 2))
theorem e_Law_law_1134 (a0 a1 a2 a3 a5 a6 : Value) (x : Int32) (st : List Value) (g : px_G) : rn k_Law_law 1134 [a0, a1, a2, a3, .int x, a5, a6] st g = rn k_Law_law 1136 [a0, a1, a2, a3, .int x, a5, a6] (.int x :: st) g := rn_next dd_Law_law_1134 rfl
theorem dd_Law_law_1136 : decode (px_rw k_Law_law).2.1 1136 = .ok (.iconst 1, 1) := (by decide +kernel : decode code 1136 = .ok (.iconst 1, 1))
theorem e_Law_law_1136 (L st : List Value) (g : px_G) : rn k_Law_law 1136 L st g = rn k_Law_law 1137 L (.int 1 :: st) g := rn_ipush (i := .iconst 1) dd_Law_law_1136 rfl rfl (by decide)
theorem dd_Law_law_1137 : decode (px_rw k_Law_law).2.1 1137 = .ok (.iadd, 1) := (by decide +kernel : decode code 1137 = .ok (.iadd, 1))
theorem e_Law_law_1137 (L : List Value) (x y : Int32) (st : List Value) (g : px_G) : rn k_Law_law 1137 L (.int y :: .int x :: st) g = rn k_Law_law 1138 L (.int (x + y) :: st) g := rn_next dd_Law_law_1137 rfl
theorem dd_Law_law_1138 : decode (px_rw k_Law_law).2.1 1138 = .ok (.iaload, 1) := (by decide +kernel : decode code 1138 = .ok (.iaload, 1))
theorem e_Law_law_1138 (L : List Value) (i : Int32) (p : Nat) (st : List Value) (T : TS) (hp : (sh p).1 = 0) : rn k_Law_law 1138 L (.int i :: .ref p :: st) (enc T) = if px_in i (sh p).2 then rn k_Law_law 1139 L (.int (T.1 p i.toNatClampNeg) :: st) (enc T) else none := rn_iald dd_Law_law_1138 (Prod.ext hp rfl)
theorem e_Law_law_1138S (L : List Value) (i : Int32) (st : List Value) (T : TS) : rn k_Law_law 1138 L (.int i :: .ref 1002 :: st) (enc T) = if px_in i T.2.2.2 then rn k_Law_law 1139 L (.int (T.1 1002 i.toNatClampNeg) :: st) (enc T) else none := rn_iaS dd_Law_law_1138
theorem dd_Law_law_1139 : decode (px_rw k_Law_law).2.1 1139 = .ok (.aload_n 0, 1) := (by decide +kernel : decode code 1139 = .ok (.aload_n 0, 1))
theorem e_Law_law_1139 (a1 a2 a3 a4 a5 a6 : Value) (x : Nat) (st : List Value) (g : px_G) : rn k_Law_law 1139 [.ref x, a1, a2, a3, a4, a5, a6] st g = rn k_Law_law 1140 [.ref x, a1, a2, a3, a4, a5, a6] (.ref x :: st) g := rn_next dd_Law_law_1139 rfl
theorem dd_Law_law_1140 : decode (px_rw k_Law_law).2.1 1140 = .ok (.iload 4, 2) := (by decide +kernel : decode code 1140 = .ok (.iload 4, 2))
theorem e_Law_law_1140 (a0 a1 a2 a3 a5 a6 : Value) (x : Int32) (st : List Value) (g : px_G) : rn k_Law_law 1140 [a0, a1, a2, a3, .int x, a5, a6] st g = rn k_Law_law 1142 [a0, a1, a2, a3, .int x, a5, a6] (.int x :: st) g := rn_next dd_Law_law_1140 rfl
theorem dd_Law_law_1142 : decode (px_rw k_Law_law).2.1 1142 = .ok (.iconst 2, 1) := (by decide +kernel : decode code 1142 = .ok (.iconst 2, 1))
theorem e_Law_law_1142 (L st : List Value) (g : px_G) : rn k_Law_law 1142 L st g = rn k_Law_law 1143 L (.int 2 :: st) g := rn_ipush (i := .iconst 2) dd_Law_law_1142 rfl rfl (by decide)
theorem dd_Law_law_1143 : decode (px_rw k_Law_law).2.1 1143 = .ok (.iadd, 1) := (by decide +kernel : decode code 1143 = .ok (.iadd, 1))
theorem e_Law_law_1143 (L : List Value) (x y : Int32) (st : List Value) (g : px_G) : rn k_Law_law 1143 L (.int y :: .int x :: st) g = rn k_Law_law 1144 L (.int (x + y) :: st) g := rn_next dd_Law_law_1143 rfl
theorem dd_Law_law_1144 : decode (px_rw k_Law_law).2.1 1144 = .ok (.iaload, 1) := (by decide +kernel : decode code 1144 = .ok (.iaload, 1))
theorem e_Law_law_1144 (L : List Value) (i : Int32) (p : Nat) (st : List Value) (T : TS) (hp : (sh p).1 = 0) : rn k_Law_law 1144 L (.int i :: .ref p :: st) (enc T) = if px_in i (sh p).2 then rn k_Law_law 1145 L (.int (T.1 p i.toNatClampNeg) :: st) (enc T) else none := rn_iald dd_Law_law_1144 (Prod.ext hp rfl)
theorem e_Law_law_1144S (L : List Value) (i : Int32) (st : List Value) (T : TS) : rn k_Law_law 1144 L (.int i :: .ref 1002 :: st) (enc T) = if px_in i T.2.2.2 then rn k_Law_law 1145 L (.int (T.1 1002 i.toNatClampNeg) :: st) (enc T) else none := rn_iaS dd_Law_law_1144
theorem dd_Law_law_1145 : decode (px_rw k_Law_law).2.1 1145 = .ok (.aload_n 0, 1) := (by decide +kernel : decode code 1145 = .ok (.aload_n 0, 1))
theorem e_Law_law_1145 (a1 a2 a3 a4 a5 a6 : Value) (x : Nat) (st : List Value) (g : px_G) : rn k_Law_law 1145 [.ref x, a1, a2, a3, a4, a5, a6] st g = rn k_Law_law 1146 [.ref x, a1, a2, a3, a4, a5, a6] (.ref x :: st) g := rn_next dd_Law_law_1145 rfl
theorem dd_Law_law_1146 : decode (px_rw k_Law_law).2.1 1146 = .ok (.iload 4, 2) := (by decide +kernel : decode code 1146 = .ok (.iload 4, 2))
theorem e_Law_law_1146 (a0 a1 a2 a3 a5 a6 : Value) (x : Int32) (st : List Value) (g : px_G) : rn k_Law_law 1146 [a0, a1, a2, a3, .int x, a5, a6] st g = rn k_Law_law 1148 [a0, a1, a2, a3, .int x, a5, a6] (.int x :: st) g := rn_next dd_Law_law_1146 rfl
theorem dd_Law_law_1148 : decode (px_rw k_Law_law).2.1 1148 = .ok (.iconst 3, 1) := (by decide +kernel : decode code 1148 = .ok (.iconst 3, 1))
theorem e_Law_law_1148 (L st : List Value) (g : px_G) : rn k_Law_law 1148 L st g = rn k_Law_law 1149 L (.int 3 :: st) g := rn_ipush (i := .iconst 3) dd_Law_law_1148 rfl rfl (by decide)
theorem dd_Law_law_1149 : decode (px_rw k_Law_law).2.1 1149 = .ok (.iadd, 1) := (by decide +kernel : decode code 1149 = .ok (.iadd, 1))
theorem e_Law_law_1149 (L : List Value) (x y : Int32) (st : List Value) (g : px_G) : rn k_Law_law 1149 L (.int y :: .int x :: st) g = rn k_Law_law 1150 L (.int (x + y) :: st) g := rn_next dd_Law_law_1149 rfl
theorem dd_Law_law_1150 : decode (px_rw k_Law_law).2.1 1150 = .ok (.iaload, 1) := (by decide +kernel : decode code 1150 = .ok (.iaload, 1))
theorem e_Law_law_1150 (L : List Value) (i : Int32) (p : Nat) (st : List Value) (T : TS) (hp : (sh p).1 = 0) : rn k_Law_law 1150 L (.int i :: .ref p :: st) (enc T) = if px_in i (sh p).2 then rn k_Law_law 1151 L (.int (T.1 p i.toNatClampNeg) :: st) (enc T) else none := rn_iald dd_Law_law_1150 (Prod.ext hp rfl)
theorem e_Law_law_1150S (L : List Value) (i : Int32) (st : List Value) (T : TS) : rn k_Law_law 1150 L (.int i :: .ref 1002 :: st) (enc T) = if px_in i T.2.2.2 then rn k_Law_law 1151 L (.int (T.1 1002 i.toNatClampNeg) :: st) (enc T) else none := rn_iaS dd_Law_law_1150
theorem dd_Law_law_1151 : decode (px_rw k_Law_law).2.1 1151 = .ok (.aload_n 0, 1) := (by decide +kernel : decode code 1151 = .ok (.aload_n 0, 1))
theorem e_Law_law_1151 (a1 a2 a3 a4 a5 a6 : Value) (x : Nat) (st : List Value) (g : px_G) : rn k_Law_law 1151 [.ref x, a1, a2, a3, a4, a5, a6] st g = rn k_Law_law 1152 [.ref x, a1, a2, a3, a4, a5, a6] (.ref x :: st) g := rn_next dd_Law_law_1151 rfl
theorem dd_Law_law_1152 : decode (px_rw k_Law_law).2.1 1152 = .ok (.iload 4, 2) := (by decide +kernel : decode code 1152 = .ok (.iload 4, 2))
theorem e_Law_law_1152 (a0 a1 a2 a3 a5 a6 : Value) (x : Int32) (st : List Value) (g : px_G) : rn k_Law_law 1152 [a0, a1, a2, a3, .int x, a5, a6] st g = rn k_Law_law 1154 [a0, a1, a2, a3, .int x, a5, a6] (.int x :: st) g := rn_next dd_Law_law_1152 rfl
theorem dd_Law_law_1154 : decode (px_rw k_Law_law).2.1 1154 = .ok (.iconst 4, 1) := (by decide +kernel : decode code 1154 = .ok (.iconst 4, 1))
theorem e_Law_law_1154 (L st : List Value) (g : px_G) : rn k_Law_law 1154 L st g = rn k_Law_law 1155 L (.int 4 :: st) g := rn_ipush (i := .iconst 4) dd_Law_law_1154 rfl rfl (by decide)
theorem dd_Law_law_1155 : decode (px_rw k_Law_law).2.1 1155 = .ok (.iadd, 1) := (by decide +kernel : decode code 1155 = .ok (.iadd, 1))
theorem e_Law_law_1155 (L : List Value) (x y : Int32) (st : List Value) (g : px_G) : rn k_Law_law 1155 L (.int y :: .int x :: st) g = rn k_Law_law 1156 L (.int (x + y) :: st) g := rn_next dd_Law_law_1155 rfl
theorem dd_Law_law_1156 : decode (px_rw k_Law_law).2.1 1156 = .ok (.iaload, 1) := (by decide +kernel : decode code 1156 = .ok (.iaload, 1))
theorem e_Law_law_1156 (L : List Value) (i : Int32) (p : Nat) (st : List Value) (T : TS) (hp : (sh p).1 = 0) : rn k_Law_law 1156 L (.int i :: .ref p :: st) (enc T) = if px_in i (sh p).2 then rn k_Law_law 1157 L (.int (T.1 p i.toNatClampNeg) :: st) (enc T) else none := rn_iald dd_Law_law_1156 (Prod.ext hp rfl)
theorem e_Law_law_1156S (L : List Value) (i : Int32) (st : List Value) (T : TS) : rn k_Law_law 1156 L (.int i :: .ref 1002 :: st) (enc T) = if px_in i T.2.2.2 then rn k_Law_law 1157 L (.int (T.1 1002 i.toNatClampNeg) :: st) (enc T) else none := rn_iaS dd_Law_law_1156
theorem dd_Law_law_1157 : decode (px_rw k_Law_law).2.1 1157 = .ok (.aload_n 0, 1) := (by decide +kernel : decode code 1157 = .ok (.aload_n 0, 1))
theorem e_Law_law_1157 (a1 a2 a3 a4 a5 a6 : Value) (x : Nat) (st : List Value) (g : px_G) : rn k_Law_law 1157 [.ref x, a1, a2, a3, a4, a5, a6] st g = rn k_Law_law 1158 [.ref x, a1, a2, a3, a4, a5, a6] (.ref x :: st) g := rn_next dd_Law_law_1157 rfl
theorem dd_Law_law_1158 : decode (px_rw k_Law_law).2.1 1158 = .ok (.iload 4, 2) := (by decide +kernel : decode code 1158 = .ok (.iload 4, 2))
theorem e_Law_law_1158 (a0 a1 a2 a3 a5 a6 : Value) (x : Int32) (st : List Value) (g : px_G) : rn k_Law_law 1158 [a0, a1, a2, a3, .int x, a5, a6] st g = rn k_Law_law 1160 [a0, a1, a2, a3, .int x, a5, a6] (.int x :: st) g := rn_next dd_Law_law_1158 rfl
theorem dd_Law_law_1160 : decode (px_rw k_Law_law).2.1 1160 = .ok (.iconst 5, 1) := (by decide +kernel : decode code 1160 = .ok (.iconst 5, 1))
theorem e_Law_law_1160 (L st : List Value) (g : px_G) : rn k_Law_law 1160 L st g = rn k_Law_law 1161 L (.int 5 :: st) g := rn_ipush (i := .iconst 5) dd_Law_law_1160 rfl rfl (by decide)
theorem dd_Law_law_1161 : decode (px_rw k_Law_law).2.1 1161 = .ok (.iadd, 1) := (by decide +kernel : decode code 1161 = .ok (.iadd, 1))
theorem e_Law_law_1161 (L : List Value) (x y : Int32) (st : List Value) (g : px_G) : rn k_Law_law 1161 L (.int y :: .int x :: st) g = rn k_Law_law 1162 L (.int (x + y) :: st) g := rn_next dd_Law_law_1161 rfl
theorem dd_Law_law_1162 : decode (px_rw k_Law_law).2.1 1162 = .ok (.iaload, 1) := (by decide +kernel : decode code 1162 = .ok (.iaload, 1))
theorem e_Law_law_1162 (L : List Value) (i : Int32) (p : Nat) (st : List Value) (T : TS) (hp : (sh p).1 = 0) : rn k_Law_law 1162 L (.int i :: .ref p :: st) (enc T) = if px_in i (sh p).2 then rn k_Law_law 1163 L (.int (T.1 p i.toNatClampNeg) :: st) (enc T) else none := rn_iald dd_Law_law_1162 (Prod.ext hp rfl)
theorem e_Law_law_1162S (L : List Value) (i : Int32) (st : List Value) (T : TS) : rn k_Law_law 1162 L (.int i :: .ref 1002 :: st) (enc T) = if px_in i T.2.2.2 then rn k_Law_law 1163 L (.int (T.1 1002 i.toNatClampNeg) :: st) (enc T) else none := rn_iaS dd_Law_law_1162
theorem dd_Law_law_1163 : decode (px_rw k_Law_law).2.1 1163 = .ok (.aload_n 0, 1) := (by decide +kernel : decode code 1163 = .ok (.aload_n 0, 1))
theorem e_Law_law_1163 (a1 a2 a3 a4 a5 a6 : Value) (x : Nat) (st : List Value) (g : px_G) : rn k_Law_law 1163 [.ref x, a1, a2, a3, a4, a5, a6] st g = rn k_Law_law 1164 [.ref x, a1, a2, a3, a4, a5, a6] (.ref x :: st) g := rn_next dd_Law_law_1163 rfl
theorem dd_Law_law_1164 : decode (px_rw k_Law_law).2.1 1164 = .ok (.iload 4, 2) := (by decide +kernel : decode code 1164 = .ok (.iload 4, 2))
theorem e_Law_law_1164 (a0 a1 a2 a3 a5 a6 : Value) (x : Int32) (st : List Value) (g : px_G) : rn k_Law_law 1164 [a0, a1, a2, a3, .int x, a5, a6] st g = rn k_Law_law 1166 [a0, a1, a2, a3, .int x, a5, a6] (.int x :: st) g := rn_next dd_Law_law_1164 rfl
theorem dd_Law_law_1166 : decode (px_rw k_Law_law).2.1 1166 = .ok (.bipush 6, 2) := (by decide +kernel : decode code 1166 = .ok (.bipush 6, 2))
theorem e_Law_law_1166 (L st : List Value) (g : px_G) : rn k_Law_law 1166 L st g = rn k_Law_law 1168 L (.int 6 :: st) g := rn_ipush (i := .bipush 6) dd_Law_law_1166 rfl rfl (by decide)
theorem dd_Law_law_1168 : decode (px_rw k_Law_law).2.1 1168 = .ok (.iadd, 1) := (by decide +kernel : decode code 1168 = .ok (.iadd, 1))
theorem e_Law_law_1168 (L : List Value) (x y : Int32) (st : List Value) (g : px_G) : rn k_Law_law 1168 L (.int y :: .int x :: st) g = rn k_Law_law 1169 L (.int (x + y) :: st) g := rn_next dd_Law_law_1168 rfl
theorem dd_Law_law_1169 : decode (px_rw k_Law_law).2.1 1169 = .ok (.iaload, 1) := (by decide +kernel : decode code 1169 = .ok (.iaload, 1))
theorem e_Law_law_1169 (L : List Value) (i : Int32) (p : Nat) (st : List Value) (T : TS) (hp : (sh p).1 = 0) : rn k_Law_law 1169 L (.int i :: .ref p :: st) (enc T) = if px_in i (sh p).2 then rn k_Law_law 1170 L (.int (T.1 p i.toNatClampNeg) :: st) (enc T) else none := rn_iald dd_Law_law_1169 (Prod.ext hp rfl)
theorem e_Law_law_1169S (L : List Value) (i : Int32) (st : List Value) (T : TS) : rn k_Law_law 1169 L (.int i :: .ref 1002 :: st) (enc T) = if px_in i T.2.2.2 then rn k_Law_law 1170 L (.int (T.1 1002 i.toNatClampNeg) :: st) (enc T) else none := rn_iaS dd_Law_law_1169
theorem dd_Law_law_1170 : decode (px_rw k_Law_law).2.1 1170 = .ok (.invokevirtual 120, 3) := (by decide +kernel : decode code 1170 = .ok (.invokevirtual 120, 3))
theorem e_Law_law_1170 (L : List Value) (i0 : Int32) (i1 : Int32) (i2 : Int32) (i3 : Int32) (i4 : Int32) (i5 : Int32) (i100 : Int32)  (T : TS)  : rn k_Law_law 1170 L [.int i5, .int i4, .int i3, .int i2, .int i1, .int i0, .ref 53, .int i100] (enc T) = bd (cl k_Dm_window [.ref 53, .int i0, .int i1, .int i2, .int i3, .int i4, .int i5] (enc T)) (fun r g' => rn k_Law_law 1173 L (r.toList ++ [.int i100]) g') := rn_callV (n := 52) (As := [.int i0, .int i1, .int i2, .int i3, .int i4, .int i5]) (rest := [.int i100]) dd_Law_law_1170 rfl (by decide) (by decide) rfl rfl (Nat.le_of_ble_eq_true rfl) (Nat.le_of_ble_eq_true rfl) rfl
theorem dd_Law_law_1173 : decode (px_rw k_Law_law).2.1 1173 = .ok (.if_icmp .eq 588, 3) := (by decide +kernel : decode code 1173 = .ok (.if_icmp .eq 588, 3))
theorem e_Law_law_1173 (L : List Value) (x y : Int32) (st : List Value) (g : px_G) : rn k_Law_law 1173 L (.int y :: .int x :: st) g = if x = y then rn k_Law_law 1761 L st g else rn k_Law_law 1176 L st g := rn_iceq dd_Law_law_1173 (by decide)
theorem dd_Law_law_1176 : decode (px_rw k_Law_law).2.1 1176 = .ok (.iconst 0, 1) := (by decide +kernel : decode code 1176 = .ok (.iconst 0, 1))
theorem e_Law_law_1176 (L st : List Value) (g : px_G) : rn k_Law_law 1176 L st g = rn k_Law_law 1177 L (.int 0 :: st) g := rn_ipush (i := .iconst 0) dd_Law_law_1176 rfl rfl (by decide)
theorem dd_Law_law_1177 : decode (px_rw k_Law_law).2.1 1177 = .ok (.ireturn, 1) := (by decide +kernel : decode code 1177 = .ok (.ireturn, 1))
theorem e_Law_law_1177 (L : List Value) (v : Int32) (g : px_G) (hv : v = 0 ∨ v = 1) : rn k_Law_law 1177 L [.int v] g = some (some (.int v), g) := rn_zret dd_Law_law_1177 rfl hv
theorem dd_Law_law_1178 : decode (px_rw k_Law_law).2.1 1178 = .ok (.aload_n 1, 1) := (by decide +kernel : decode code 1178 = .ok (.aload_n 1, 1))
theorem e_Law_law_1178 (a0 a2 a3 a4 a5 a6 : Value) (x : Nat) (st : List Value) (g : px_G) : rn k_Law_law 1178 [a0, .ref x, a2, a3, a4, a5, a6] st g = rn k_Law_law 1179 [a0, .ref x, a2, a3, a4, a5, a6] (.ref x :: st) g := rn_next dd_Law_law_1178 rfl
theorem dd_Law_law_1179 : decode (px_rw k_Law_law).2.1 1179 = .ok (.aload_n 0, 1) := (by decide +kernel : decode code 1179 = .ok (.aload_n 0, 1))
theorem e_Law_law_1179 (a1 a2 a3 a4 a5 a6 : Value) (x : Nat) (st : List Value) (g : px_G) : rn k_Law_law 1179 [.ref x, a1, a2, a3, a4, a5, a6] st g = rn k_Law_law 1180 [.ref x, a1, a2, a3, a4, a5, a6] (.ref x :: st) g := rn_next dd_Law_law_1179 rfl
theorem dd_Law_law_1180 : decode (px_rw k_Law_law).2.1 1180 = .ok (.iload 4, 2) := (by decide +kernel : decode code 1180 = .ok (.iload 4, 2))
theorem e_Law_law_1180 (a0 a1 a2 a3 a5 a6 : Value) (x : Int32) (st : List Value) (g : px_G) : rn k_Law_law 1180 [a0, a1, a2, a3, .int x, a5, a6] st g = rn k_Law_law 1182 [a0, a1, a2, a3, .int x, a5, a6] (.int x :: st) g := rn_next dd_Law_law_1180 rfl
theorem dd_Law_law_1182 : decode (px_rw k_Law_law).2.1 1182 = .ok (.iconst 1, 1) := (by decide +kernel : decode code 1182 = .ok (.iconst 1, 1))
theorem e_Law_law_1182 (L st : List Value) (g : px_G) : rn k_Law_law 1182 L st g = rn k_Law_law 1183 L (.int 1 :: st) g := rn_ipush (i := .iconst 1) dd_Law_law_1182 rfl rfl (by decide)
theorem dd_Law_law_1183 : decode (px_rw k_Law_law).2.1 1183 = .ok (.iadd, 1) := (by decide +kernel : decode code 1183 = .ok (.iadd, 1))
theorem e_Law_law_1183 (L : List Value) (x y : Int32) (st : List Value) (g : px_G) : rn k_Law_law 1183 L (.int y :: .int x :: st) g = rn k_Law_law 1184 L (.int (x + y) :: st) g := rn_next dd_Law_law_1183 rfl
theorem dd_Law_law_1184 : decode (px_rw k_Law_law).2.1 1184 = .ok (.iaload, 1) := (by decide +kernel : decode code 1184 = .ok (.iaload, 1))
theorem e_Law_law_1184 (L : List Value) (i : Int32) (p : Nat) (st : List Value) (T : TS) (hp : (sh p).1 = 0) : rn k_Law_law 1184 L (.int i :: .ref p :: st) (enc T) = if px_in i (sh p).2 then rn k_Law_law 1185 L (.int (T.1 p i.toNatClampNeg) :: st) (enc T) else none := rn_iald dd_Law_law_1184 (Prod.ext hp rfl)
theorem e_Law_law_1184S (L : List Value) (i : Int32) (st : List Value) (T : TS) : rn k_Law_law 1184 L (.int i :: .ref 1002 :: st) (enc T) = if px_in i T.2.2.2 then rn k_Law_law 1185 L (.int (T.1 1002 i.toNatClampNeg) :: st) (enc T) else none := rn_iaS dd_Law_law_1184
theorem dd_Law_law_1185 : decode (px_rw k_Law_law).2.1 1185 = .ok (.aload_n 0, 1) := (by decide +kernel : decode code 1185 = .ok (.aload_n 0, 1))
theorem e_Law_law_1185 (a1 a2 a3 a4 a5 a6 : Value) (x : Nat) (st : List Value) (g : px_G) : rn k_Law_law 1185 [.ref x, a1, a2, a3, a4, a5, a6] st g = rn k_Law_law 1186 [.ref x, a1, a2, a3, a4, a5, a6] (.ref x :: st) g := rn_next dd_Law_law_1185 rfl
theorem dd_Law_law_1186 : decode (px_rw k_Law_law).2.1 1186 = .ok (.iload 4, 2) := (by decide +kernel : decode code 1186 = .ok (.iload 4, 2))
theorem e_Law_law_1186 (a0 a1 a2 a3 a5 a6 : Value) (x : Int32) (st : List Value) (g : px_G) : rn k_Law_law 1186 [a0, a1, a2, a3, .int x, a5, a6] st g = rn k_Law_law 1188 [a0, a1, a2, a3, .int x, a5, a6] (.int x :: st) g := rn_next dd_Law_law_1186 rfl
theorem dd_Law_law_1188 : decode (px_rw k_Law_law).2.1 1188 = .ok (.iconst 2, 1) := (by decide +kernel : decode code 1188 = .ok (.iconst 2, 1))
theorem e_Law_law_1188 (L st : List Value) (g : px_G) : rn k_Law_law 1188 L st g = rn k_Law_law 1189 L (.int 2 :: st) g := rn_ipush (i := .iconst 2) dd_Law_law_1188 rfl rfl (by decide)
theorem dd_Law_law_1189 : decode (px_rw k_Law_law).2.1 1189 = .ok (.iadd, 1) := (by decide +kernel : decode code 1189 = .ok (.iadd, 1))
theorem e_Law_law_1189 (L : List Value) (x y : Int32) (st : List Value) (g : px_G) : rn k_Law_law 1189 L (.int y :: .int x :: st) g = rn k_Law_law 1190 L (.int (x + y) :: st) g := rn_next dd_Law_law_1189 rfl
theorem dd_Law_law_1190 : decode (px_rw k_Law_law).2.1 1190 = .ok (.iaload, 1) := (by decide +kernel : decode code 1190 = .ok (.iaload, 1))
theorem e_Law_law_1190 (L : List Value) (i : Int32) (p : Nat) (st : List Value) (T : TS) (hp : (sh p).1 = 0) : rn k_Law_law 1190 L (.int i :: .ref p :: st) (enc T) = if px_in i (sh p).2 then rn k_Law_law 1191 L (.int (T.1 p i.toNatClampNeg) :: st) (enc T) else none := rn_iald dd_Law_law_1190 (Prod.ext hp rfl)
theorem e_Law_law_1190S (L : List Value) (i : Int32) (st : List Value) (T : TS) : rn k_Law_law 1190 L (.int i :: .ref 1002 :: st) (enc T) = if px_in i T.2.2.2 then rn k_Law_law 1191 L (.int (T.1 1002 i.toNatClampNeg) :: st) (enc T) else none := rn_iaS dd_Law_law_1190
theorem dd_Law_law_1191 : decode (px_rw k_Law_law).2.1 1191 = .ok (.aload_n 0, 1) := (by decide +kernel : decode code 1191 = .ok (.aload_n 0, 1))
theorem e_Law_law_1191 (a1 a2 a3 a4 a5 a6 : Value) (x : Nat) (st : List Value) (g : px_G) : rn k_Law_law 1191 [.ref x, a1, a2, a3, a4, a5, a6] st g = rn k_Law_law 1192 [.ref x, a1, a2, a3, a4, a5, a6] (.ref x :: st) g := rn_next dd_Law_law_1191 rfl
theorem dd_Law_law_1192 : decode (px_rw k_Law_law).2.1 1192 = .ok (.iload 4, 2) := (by decide +kernel : decode code 1192 = .ok (.iload 4, 2))
theorem e_Law_law_1192 (a0 a1 a2 a3 a5 a6 : Value) (x : Int32) (st : List Value) (g : px_G) : rn k_Law_law 1192 [a0, a1, a2, a3, .int x, a5, a6] st g = rn k_Law_law 1194 [a0, a1, a2, a3, .int x, a5, a6] (.int x :: st) g := rn_next dd_Law_law_1192 rfl
theorem dd_Law_law_1194 : decode (px_rw k_Law_law).2.1 1194 = .ok (.iconst 3, 1) := (by decide +kernel : decode code 1194 = .ok (.iconst 3, 1))
theorem e_Law_law_1194 (L st : List Value) (g : px_G) : rn k_Law_law 1194 L st g = rn k_Law_law 1195 L (.int 3 :: st) g := rn_ipush (i := .iconst 3) dd_Law_law_1194 rfl rfl (by decide)
theorem dd_Law_law_1195 : decode (px_rw k_Law_law).2.1 1195 = .ok (.iadd, 1) := (by decide +kernel : decode code 1195 = .ok (.iadd, 1))
theorem e_Law_law_1195 (L : List Value) (x y : Int32) (st : List Value) (g : px_G) : rn k_Law_law 1195 L (.int y :: .int x :: st) g = rn k_Law_law 1196 L (.int (x + y) :: st) g := rn_next dd_Law_law_1195 rfl
theorem dd_Law_law_1196 : decode (px_rw k_Law_law).2.1 1196 = .ok (.iaload, 1) := (by decide +kernel : decode code 1196 = .ok (.iaload, 1))
theorem e_Law_law_1196 (L : List Value) (i : Int32) (p : Nat) (st : List Value) (T : TS) (hp : (sh p).1 = 0) : rn k_Law_law 1196 L (.int i :: .ref p :: st) (enc T) = if px_in i (sh p).2 then rn k_Law_law 1197 L (.int (T.1 p i.toNatClampNeg) :: st) (enc T) else none := rn_iald dd_Law_law_1196 (Prod.ext hp rfl)
theorem e_Law_law_1196S (L : List Value) (i : Int32) (st : List Value) (T : TS) : rn k_Law_law 1196 L (.int i :: .ref 1002 :: st) (enc T) = if px_in i T.2.2.2 then rn k_Law_law 1197 L (.int (T.1 1002 i.toNatClampNeg) :: st) (enc T) else none := rn_iaS dd_Law_law_1196
theorem dd_Law_law_1197 : decode (px_rw k_Law_law).2.1 1197 = .ok (.aload_n 0, 1) := (by decide +kernel : decode code 1197 = .ok (.aload_n 0, 1))
theorem e_Law_law_1197 (a1 a2 a3 a4 a5 a6 : Value) (x : Nat) (st : List Value) (g : px_G) : rn k_Law_law 1197 [.ref x, a1, a2, a3, a4, a5, a6] st g = rn k_Law_law 1198 [.ref x, a1, a2, a3, a4, a5, a6] (.ref x :: st) g := rn_next dd_Law_law_1197 rfl
theorem dd_Law_law_1198 : decode (px_rw k_Law_law).2.1 1198 = .ok (.iload 4, 2) := (by decide +kernel : decode code 1198 = .ok (.iload 4, 2))
theorem e_Law_law_1198 (a0 a1 a2 a3 a5 a6 : Value) (x : Int32) (st : List Value) (g : px_G) : rn k_Law_law 1198 [a0, a1, a2, a3, .int x, a5, a6] st g = rn k_Law_law 1200 [a0, a1, a2, a3, .int x, a5, a6] (.int x :: st) g := rn_next dd_Law_law_1198 rfl
theorem dd_Law_law_1200 : decode (px_rw k_Law_law).2.1 1200 = .ok (.iconst 4, 1) := (by decide +kernel : decode code 1200 = .ok (.iconst 4, 1))
theorem e_Law_law_1200 (L st : List Value) (g : px_G) : rn k_Law_law 1200 L st g = rn k_Law_law 1201 L (.int 4 :: st) g := rn_ipush (i := .iconst 4) dd_Law_law_1200 rfl rfl (by decide)
theorem dd_Law_law_1201 : decode (px_rw k_Law_law).2.1 1201 = .ok (.iadd, 1) := (by decide +kernel : decode code 1201 = .ok (.iadd, 1))
theorem e_Law_law_1201 (L : List Value) (x y : Int32) (st : List Value) (g : px_G) : rn k_Law_law 1201 L (.int y :: .int x :: st) g = rn k_Law_law 1202 L (.int (x + y) :: st) g := rn_next dd_Law_law_1201 rfl
theorem dd_Law_law_1202 : decode (px_rw k_Law_law).2.1 1202 = .ok (.iaload, 1) := (by decide +kernel : decode code 1202 = .ok (.iaload, 1))
theorem e_Law_law_1202 (L : List Value) (i : Int32) (p : Nat) (st : List Value) (T : TS) (hp : (sh p).1 = 0) : rn k_Law_law 1202 L (.int i :: .ref p :: st) (enc T) = if px_in i (sh p).2 then rn k_Law_law 1203 L (.int (T.1 p i.toNatClampNeg) :: st) (enc T) else none := rn_iald dd_Law_law_1202 (Prod.ext hp rfl)
theorem e_Law_law_1202S (L : List Value) (i : Int32) (st : List Value) (T : TS) : rn k_Law_law 1202 L (.int i :: .ref 1002 :: st) (enc T) = if px_in i T.2.2.2 then rn k_Law_law 1203 L (.int (T.1 1002 i.toNatClampNeg) :: st) (enc T) else none := rn_iaS dd_Law_law_1202
theorem dd_Law_law_1203 : decode (px_rw k_Law_law).2.1 1203 = .ok (.invokevirtual 121, 3) := (by decide +kernel : decode code 1203 = .ok (.invokevirtual 121, 3))
theorem e_Law_law_1203 (L : List Value) (i0 : Int32) (i1 : Int32) (i2 : Int32) (i3 : Int32)  (T : TS)  : rn k_Law_law 1203 L [.int i3, .int i2, .int i1, .int i0, .ref 0] (enc T) = bd (cl k_Ds_densest [.ref 0, .int i0, .int i1, .int i2, .int i3] (enc T)) (fun r g' => rn k_Law_law 1206 L (r.toList ++ []) g') := rn_callV (n := 13) (As := [.int i0, .int i1, .int i2, .int i3]) (rest := []) dd_Law_law_1203 rfl (by decide) (by decide) rfl rfl (Nat.le_of_ble_eq_true rfl) (Nat.le_of_ble_eq_true rfl) rfl
theorem dd_Law_law_1206 : decode (px_rw k_Law_law).2.1 1206 = .ok (.aload_n 2, 1) := (by decide +kernel : decode code 1206 = .ok (.aload_n 2, 1))
theorem e_Law_law_1206 (a0 a1 a3 a4 a5 a6 : Value) (x : Nat) (st : List Value) (g : px_G) : rn k_Law_law 1206 [a0, a1, .ref x, a3, a4, a5, a6] st g = rn k_Law_law 1207 [a0, a1, .ref x, a3, a4, a5, a6] (.ref x :: st) g := rn_next dd_Law_law_1206 rfl
theorem dd_Law_law_1207 : decode (px_rw k_Law_law).2.1 1207 = .ok (.aload_n 0, 1) := (by decide +kernel : decode code 1207 = .ok (.aload_n 0, 1))
theorem e_Law_law_1207 (a1 a2 a3 a4 a5 a6 : Value) (x : Nat) (st : List Value) (g : px_G) : rn k_Law_law 1207 [.ref x, a1, a2, a3, a4, a5, a6] st g = rn k_Law_law 1208 [.ref x, a1, a2, a3, a4, a5, a6] (.ref x :: st) g := rn_next dd_Law_law_1207 rfl
theorem dd_Law_law_1208 : decode (px_rw k_Law_law).2.1 1208 = .ok (.iload 4, 2) := (by decide +kernel : decode code 1208 = .ok (.iload 4, 2))
theorem e_Law_law_1208 (a0 a1 a2 a3 a5 a6 : Value) (x : Int32) (st : List Value) (g : px_G) : rn k_Law_law 1208 [a0, a1, a2, a3, .int x, a5, a6] st g = rn k_Law_law 1210 [a0, a1, a2, a3, .int x, a5, a6] (.int x :: st) g := rn_next dd_Law_law_1208 rfl
theorem dd_Law_law_1210 : decode (px_rw k_Law_law).2.1 1210 = .ok (.iconst 1, 1) := (by decide +kernel : decode code 1210 = .ok (.iconst 1, 1))
theorem e_Law_law_1210 (L st : List Value) (g : px_G) : rn k_Law_law 1210 L st g = rn k_Law_law 1211 L (.int 1 :: st) g := rn_ipush (i := .iconst 1) dd_Law_law_1210 rfl rfl (by decide)
theorem dd_Law_law_1211 : decode (px_rw k_Law_law).2.1 1211 = .ok (.iadd, 1) := (by decide +kernel : decode code 1211 = .ok (.iadd, 1))
theorem e_Law_law_1211 (L : List Value) (x y : Int32) (st : List Value) (g : px_G) : rn k_Law_law 1211 L (.int y :: .int x :: st) g = rn k_Law_law 1212 L (.int (x + y) :: st) g := rn_next dd_Law_law_1211 rfl
theorem dd_Law_law_1212 : decode (px_rw k_Law_law).2.1 1212 = .ok (.iaload, 1) := (by decide +kernel : decode code 1212 = .ok (.iaload, 1))
theorem e_Law_law_1212 (L : List Value) (i : Int32) (p : Nat) (st : List Value) (T : TS) (hp : (sh p).1 = 0) : rn k_Law_law 1212 L (.int i :: .ref p :: st) (enc T) = if px_in i (sh p).2 then rn k_Law_law 1213 L (.int (T.1 p i.toNatClampNeg) :: st) (enc T) else none := rn_iald dd_Law_law_1212 (Prod.ext hp rfl)
theorem e_Law_law_1212S (L : List Value) (i : Int32) (st : List Value) (T : TS) : rn k_Law_law 1212 L (.int i :: .ref 1002 :: st) (enc T) = if px_in i T.2.2.2 then rn k_Law_law 1213 L (.int (T.1 1002 i.toNatClampNeg) :: st) (enc T) else none := rn_iaS dd_Law_law_1212
theorem dd_Law_law_1213 : decode (px_rw k_Law_law).2.1 1213 = .ok (.aload_n 0, 1) := (by decide +kernel : decode code 1213 = .ok (.aload_n 0, 1))
theorem e_Law_law_1213 (a1 a2 a3 a4 a5 a6 : Value) (x : Nat) (st : List Value) (g : px_G) : rn k_Law_law 1213 [.ref x, a1, a2, a3, a4, a5, a6] st g = rn k_Law_law 1214 [.ref x, a1, a2, a3, a4, a5, a6] (.ref x :: st) g := rn_next dd_Law_law_1213 rfl
theorem dd_Law_law_1214 : decode (px_rw k_Law_law).2.1 1214 = .ok (.iload 4, 2) := (by decide +kernel : decode code 1214 = .ok (.iload 4, 2))
theorem e_Law_law_1214 (a0 a1 a2 a3 a5 a6 : Value) (x : Int32) (st : List Value) (g : px_G) : rn k_Law_law 1214 [a0, a1, a2, a3, .int x, a5, a6] st g = rn k_Law_law 1216 [a0, a1, a2, a3, .int x, a5, a6] (.int x :: st) g := rn_next dd_Law_law_1214 rfl
theorem dd_Law_law_1216 : decode (px_rw k_Law_law).2.1 1216 = .ok (.iconst 2, 1) := (by decide +kernel : decode code 1216 = .ok (.iconst 2, 1))
theorem e_Law_law_1216 (L st : List Value) (g : px_G) : rn k_Law_law 1216 L st g = rn k_Law_law 1217 L (.int 2 :: st) g := rn_ipush (i := .iconst 2) dd_Law_law_1216 rfl rfl (by decide)
theorem dd_Law_law_1217 : decode (px_rw k_Law_law).2.1 1217 = .ok (.iadd, 1) := (by decide +kernel : decode code 1217 = .ok (.iadd, 1))
theorem e_Law_law_1217 (L : List Value) (x y : Int32) (st : List Value) (g : px_G) : rn k_Law_law 1217 L (.int y :: .int x :: st) g = rn k_Law_law 1218 L (.int (x + y) :: st) g := rn_next dd_Law_law_1217 rfl
theorem dd_Law_law_1218 : decode (px_rw k_Law_law).2.1 1218 = .ok (.iaload, 1) := (by decide +kernel : decode code 1218 = .ok (.iaload, 1))
theorem e_Law_law_1218 (L : List Value) (i : Int32) (p : Nat) (st : List Value) (T : TS) (hp : (sh p).1 = 0) : rn k_Law_law 1218 L (.int i :: .ref p :: st) (enc T) = if px_in i (sh p).2 then rn k_Law_law 1219 L (.int (T.1 p i.toNatClampNeg) :: st) (enc T) else none := rn_iald dd_Law_law_1218 (Prod.ext hp rfl)
theorem e_Law_law_1218S (L : List Value) (i : Int32) (st : List Value) (T : TS) : rn k_Law_law 1218 L (.int i :: .ref 1002 :: st) (enc T) = if px_in i T.2.2.2 then rn k_Law_law 1219 L (.int (T.1 1002 i.toNatClampNeg) :: st) (enc T) else none := rn_iaS dd_Law_law_1218
theorem dd_Law_law_1219 : decode (px_rw k_Law_law).2.1 1219 = .ok (.aload_n 0, 1) := (by decide +kernel : decode code 1219 = .ok (.aload_n 0, 1))
theorem e_Law_law_1219 (a1 a2 a3 a4 a5 a6 : Value) (x : Nat) (st : List Value) (g : px_G) : rn k_Law_law 1219 [.ref x, a1, a2, a3, a4, a5, a6] st g = rn k_Law_law 1220 [.ref x, a1, a2, a3, a4, a5, a6] (.ref x :: st) g := rn_next dd_Law_law_1219 rfl
theorem dd_Law_law_1220 : decode (px_rw k_Law_law).2.1 1220 = .ok (.iload 4, 2) := (by decide +kernel : decode code 1220 = .ok (.iload 4, 2))
theorem e_Law_law_1220 (a0 a1 a2 a3 a5 a6 : Value) (x : Int32) (st : List Value) (g : px_G) : rn k_Law_law 1220 [a0, a1, a2, a3, .int x, a5, a6] st g = rn k_Law_law 1222 [a0, a1, a2, a3, .int x, a5, a6] (.int x :: st) g := rn_next dd_Law_law_1220 rfl
theorem dd_Law_law_1222 : decode (px_rw k_Law_law).2.1 1222 = .ok (.iconst 3, 1) := (by decide +kernel : decode code 1222 = .ok (.iconst 3, 1))
theorem e_Law_law_1222 (L st : List Value) (g : px_G) : rn k_Law_law 1222 L st g = rn k_Law_law 1223 L (.int 3 :: st) g := rn_ipush (i := .iconst 3) dd_Law_law_1222 rfl rfl (by decide)
theorem dd_Law_law_1223 : decode (px_rw k_Law_law).2.1 1223 = .ok (.iadd, 1) := (by decide +kernel : decode code 1223 = .ok (.iadd, 1))
theorem e_Law_law_1223 (L : List Value) (x y : Int32) (st : List Value) (g : px_G) : rn k_Law_law 1223 L (.int y :: .int x :: st) g = rn k_Law_law 1224 L (.int (x + y) :: st) g := rn_next dd_Law_law_1223 rfl
theorem dd_Law_law_1224 : decode (px_rw k_Law_law).2.1 1224 = .ok (.iaload, 1) := (by decide +kernel : decode code 1224 = .ok (.iaload, 1))
theorem e_Law_law_1224 (L : List Value) (i : Int32) (p : Nat) (st : List Value) (T : TS) (hp : (sh p).1 = 0) : rn k_Law_law 1224 L (.int i :: .ref p :: st) (enc T) = if px_in i (sh p).2 then rn k_Law_law 1225 L (.int (T.1 p i.toNatClampNeg) :: st) (enc T) else none := rn_iald dd_Law_law_1224 (Prod.ext hp rfl)
theorem e_Law_law_1224S (L : List Value) (i : Int32) (st : List Value) (T : TS) : rn k_Law_law 1224 L (.int i :: .ref 1002 :: st) (enc T) = if px_in i T.2.2.2 then rn k_Law_law 1225 L (.int (T.1 1002 i.toNatClampNeg) :: st) (enc T) else none := rn_iaS dd_Law_law_1224
theorem dd_Law_law_1225 : decode (px_rw k_Law_law).2.1 1225 = .ok (.aload_n 0, 1) := (by decide +kernel : decode code 1225 = .ok (.aload_n 0, 1))
theorem e_Law_law_1225 (a1 a2 a3 a4 a5 a6 : Value) (x : Nat) (st : List Value) (g : px_G) : rn k_Law_law 1225 [.ref x, a1, a2, a3, a4, a5, a6] st g = rn k_Law_law 1226 [.ref x, a1, a2, a3, a4, a5, a6] (.ref x :: st) g := rn_next dd_Law_law_1225 rfl
theorem dd_Law_law_1226 : decode (px_rw k_Law_law).2.1 1226 = .ok (.iload 4, 2) := (by decide +kernel : decode code 1226 = .ok (.iload 4, 2))
theorem e_Law_law_1226 (a0 a1 a2 a3 a5 a6 : Value) (x : Int32) (st : List Value) (g : px_G) : rn k_Law_law 1226 [a0, a1, a2, a3, .int x, a5, a6] st g = rn k_Law_law 1228 [a0, a1, a2, a3, .int x, a5, a6] (.int x :: st) g := rn_next dd_Law_law_1226 rfl
theorem dd_Law_law_1228 : decode (px_rw k_Law_law).2.1 1228 = .ok (.iconst 4, 1) := (by decide +kernel : decode code 1228 = .ok (.iconst 4, 1))
theorem e_Law_law_1228 (L st : List Value) (g : px_G) : rn k_Law_law 1228 L st g = rn k_Law_law 1229 L (.int 4 :: st) g := rn_ipush (i := .iconst 4) dd_Law_law_1228 rfl rfl (by decide)
theorem dd_Law_law_1229 : decode (px_rw k_Law_law).2.1 1229 = .ok (.iadd, 1) := (by decide +kernel : decode code 1229 = .ok (.iadd, 1))
theorem e_Law_law_1229 (L : List Value) (x y : Int32) (st : List Value) (g : px_G) : rn k_Law_law 1229 L (.int y :: .int x :: st) g = rn k_Law_law 1230 L (.int (x + y) :: st) g := rn_next dd_Law_law_1229 rfl
theorem dd_Law_law_1230 : decode (px_rw k_Law_law).2.1 1230 = .ok (.iaload, 1) := (by decide +kernel : decode code 1230 = .ok (.iaload, 1))
theorem e_Law_law_1230 (L : List Value) (i : Int32) (p : Nat) (st : List Value) (T : TS) (hp : (sh p).1 = 0) : rn k_Law_law 1230 L (.int i :: .ref p :: st) (enc T) = if px_in i (sh p).2 then rn k_Law_law 1231 L (.int (T.1 p i.toNatClampNeg) :: st) (enc T) else none := rn_iald dd_Law_law_1230 (Prod.ext hp rfl)
theorem e_Law_law_1230S (L : List Value) (i : Int32) (st : List Value) (T : TS) : rn k_Law_law 1230 L (.int i :: .ref 1002 :: st) (enc T) = if px_in i T.2.2.2 then rn k_Law_law 1231 L (.int (T.1 1002 i.toNatClampNeg) :: st) (enc T) else none := rn_iaS dd_Law_law_1230
theorem dd_Law_law_1231 : decode (px_rw k_Law_law).2.1 1231 = .ok (.invokevirtual 124, 3) := (by decide +kernel : decode code 1231 = .ok (.invokevirtual 124, 3))
theorem e_Law_law_1231 (L : List Value) (i0 : Int32) (i1 : Int32) (i2 : Int32) (i3 : Int32) (i100 : Int32)  (T : TS)  : rn k_Law_law 1231 L [.int i3, .int i2, .int i1, .int i0, .ref 53, .int i100] (enc T) = bd (cl k_Dm_densest [.ref 53, .int i0, .int i1, .int i2, .int i3] (enc T)) (fun r g' => rn k_Law_law 1234 L (r.toList ++ [.int i100]) g') := rn_callV (n := 52) (As := [.int i0, .int i1, .int i2, .int i3]) (rest := [.int i100]) dd_Law_law_1231 rfl (by decide) (by decide) rfl rfl (Nat.le_of_ble_eq_true rfl) (Nat.le_of_ble_eq_true rfl) rfl
theorem dd_Law_law_1234 : decode (px_rw k_Law_law).2.1 1234 = .ok (.if_icmp .eq 527, 3) := (by decide +kernel : decode code 1234 = .ok (.if_icmp .eq 527, 3))
theorem e_Law_law_1234 (L : List Value) (x y : Int32) (st : List Value) (g : px_G) : rn k_Law_law 1234 L (.int y :: .int x :: st) g = if x = y then rn k_Law_law 1761 L st g else rn k_Law_law 1237 L st g := rn_iceq dd_Law_law_1234 (by decide)
theorem dd_Law_law_1237 : decode (px_rw k_Law_law).2.1 1237 = .ok (.iconst 0, 1) := (by decide +kernel : decode code 1237 = .ok (.iconst 0, 1))
theorem e_Law_law_1237 (L st : List Value) (g : px_G) : rn k_Law_law 1237 L st g = rn k_Law_law 1238 L (.int 0 :: st) g := rn_ipush (i := .iconst 0) dd_Law_law_1237 rfl rfl (by decide)
theorem dd_Law_law_1238 : decode (px_rw k_Law_law).2.1 1238 = .ok (.ireturn, 1) := (by decide +kernel : decode code 1238 = .ok (.ireturn, 1))
theorem e_Law_law_1238 (L : List Value) (v : Int32) (g : px_G) (hv : v = 0 ∨ v = 1) : rn k_Law_law 1238 L [.int v] g = some (some (.int v), g) := rn_zret dd_Law_law_1238 rfl hv
theorem dd_Law_law_1239 : decode (px_rw k_Law_law).2.1 1239 = .ok (.aload_n 1, 1) := (by decide +kernel : decode code 1239 = .ok (.aload_n 1, 1))
theorem e_Law_law_1239 (a0 a2 a3 a4 a5 a6 : Value) (x : Nat) (st : List Value) (g : px_G) : rn k_Law_law 1239 [a0, .ref x, a2, a3, a4, a5, a6] st g = rn k_Law_law 1240 [a0, .ref x, a2, a3, a4, a5, a6] (.ref x :: st) g := rn_next dd_Law_law_1239 rfl
theorem dd_Law_law_1240 : decode (px_rw k_Law_law).2.1 1240 = .ok (.aload_n 0, 1) := (by decide +kernel : decode code 1240 = .ok (.aload_n 0, 1))
theorem e_Law_law_1240 (a1 a2 a3 a4 a5 a6 : Value) (x : Nat) (st : List Value) (g : px_G) : rn k_Law_law 1240 [.ref x, a1, a2, a3, a4, a5, a6] st g = rn k_Law_law 1241 [.ref x, a1, a2, a3, a4, a5, a6] (.ref x :: st) g := rn_next dd_Law_law_1240 rfl
theorem dd_Law_law_1241 : decode (px_rw k_Law_law).2.1 1241 = .ok (.iload 4, 2) := (by decide +kernel : decode code 1241 = .ok (.iload 4, 2))
theorem e_Law_law_1241 (a0 a1 a2 a3 a5 a6 : Value) (x : Int32) (st : List Value) (g : px_G) : rn k_Law_law 1241 [a0, a1, a2, a3, .int x, a5, a6] st g = rn k_Law_law 1243 [a0, a1, a2, a3, .int x, a5, a6] (.int x :: st) g := rn_next dd_Law_law_1241 rfl
theorem dd_Law_law_1243 : decode (px_rw k_Law_law).2.1 1243 = .ok (.iconst 1, 1) := (by decide +kernel : decode code 1243 = .ok (.iconst 1, 1))
theorem e_Law_law_1243 (L st : List Value) (g : px_G) : rn k_Law_law 1243 L st g = rn k_Law_law 1244 L (.int 1 :: st) g := rn_ipush (i := .iconst 1) dd_Law_law_1243 rfl rfl (by decide)
theorem dd_Law_law_1244 : decode (px_rw k_Law_law).2.1 1244 = .ok (.iadd, 1) := (by decide +kernel : decode code 1244 = .ok (.iadd, 1))
theorem e_Law_law_1244 (L : List Value) (x y : Int32) (st : List Value) (g : px_G) : rn k_Law_law 1244 L (.int y :: .int x :: st) g = rn k_Law_law 1245 L (.int (x + y) :: st) g := rn_next dd_Law_law_1244 rfl
theorem dd_Law_law_1245 : decode (px_rw k_Law_law).2.1 1245 = .ok (.iaload, 1) := (by decide +kernel : decode code 1245 = .ok (.iaload, 1))
theorem e_Law_law_1245 (L : List Value) (i : Int32) (p : Nat) (st : List Value) (T : TS) (hp : (sh p).1 = 0) : rn k_Law_law 1245 L (.int i :: .ref p :: st) (enc T) = if px_in i (sh p).2 then rn k_Law_law 1246 L (.int (T.1 p i.toNatClampNeg) :: st) (enc T) else none := rn_iald dd_Law_law_1245 (Prod.ext hp rfl)
theorem e_Law_law_1245S (L : List Value) (i : Int32) (st : List Value) (T : TS) : rn k_Law_law 1245 L (.int i :: .ref 1002 :: st) (enc T) = if px_in i T.2.2.2 then rn k_Law_law 1246 L (.int (T.1 1002 i.toNatClampNeg) :: st) (enc T) else none := rn_iaS dd_Law_law_1245
theorem dd_Law_law_1246 : decode (px_rw k_Law_law).2.1 1246 = .ok (.aload_n 0, 1) := (by decide +kernel : decode code 1246 = .ok (.aload_n 0, 1))
theorem e_Law_law_1246 (a1 a2 a3 a4 a5 a6 : Value) (x : Nat) (st : List Value) (g : px_G) : rn k_Law_law 1246 [.ref x, a1, a2, a3, a4, a5, a6] st g = rn k_Law_law 1247 [.ref x, a1, a2, a3, a4, a5, a6] (.ref x :: st) g := rn_next dd_Law_law_1246 rfl
theorem dd_Law_law_1247 : decode (px_rw k_Law_law).2.1 1247 = .ok (.iload 4, 2) := (by decide +kernel : decode code 1247 = .ok (.iload 4, 2))
theorem e_Law_law_1247 (a0 a1 a2 a3 a5 a6 : Value) (x : Int32) (st : List Value) (g : px_G) : rn k_Law_law 1247 [a0, a1, a2, a3, .int x, a5, a6] st g = rn k_Law_law 1249 [a0, a1, a2, a3, .int x, a5, a6] (.int x :: st) g := rn_next dd_Law_law_1247 rfl
theorem dd_Law_law_1249 : decode (px_rw k_Law_law).2.1 1249 = .ok (.iconst 2, 1) := (by decide +kernel : decode code 1249 = .ok (.iconst 2, 1))
theorem e_Law_law_1249 (L st : List Value) (g : px_G) : rn k_Law_law 1249 L st g = rn k_Law_law 1250 L (.int 2 :: st) g := rn_ipush (i := .iconst 2) dd_Law_law_1249 rfl rfl (by decide)
theorem dd_Law_law_1250 : decode (px_rw k_Law_law).2.1 1250 = .ok (.iadd, 1) := (by decide +kernel : decode code 1250 = .ok (.iadd, 1))
theorem e_Law_law_1250 (L : List Value) (x y : Int32) (st : List Value) (g : px_G) : rn k_Law_law 1250 L (.int y :: .int x :: st) g = rn k_Law_law 1251 L (.int (x + y) :: st) g := rn_next dd_Law_law_1250 rfl
theorem dd_Law_law_1251 : decode (px_rw k_Law_law).2.1 1251 = .ok (.iaload, 1) := (by decide +kernel : decode code 1251 = .ok (.iaload, 1))
theorem e_Law_law_1251 (L : List Value) (i : Int32) (p : Nat) (st : List Value) (T : TS) (hp : (sh p).1 = 0) : rn k_Law_law 1251 L (.int i :: .ref p :: st) (enc T) = if px_in i (sh p).2 then rn k_Law_law 1252 L (.int (T.1 p i.toNatClampNeg) :: st) (enc T) else none := rn_iald dd_Law_law_1251 (Prod.ext hp rfl)
theorem e_Law_law_1251S (L : List Value) (i : Int32) (st : List Value) (T : TS) : rn k_Law_law 1251 L (.int i :: .ref 1002 :: st) (enc T) = if px_in i T.2.2.2 then rn k_Law_law 1252 L (.int (T.1 1002 i.toNatClampNeg) :: st) (enc T) else none := rn_iaS dd_Law_law_1251
theorem dd_Law_law_1252 : decode (px_rw k_Law_law).2.1 1252 = .ok (.aload_n 0, 1) := (by decide +kernel : decode code 1252 = .ok (.aload_n 0, 1))
theorem e_Law_law_1252 (a1 a2 a3 a4 a5 a6 : Value) (x : Nat) (st : List Value) (g : px_G) : rn k_Law_law 1252 [.ref x, a1, a2, a3, a4, a5, a6] st g = rn k_Law_law 1253 [.ref x, a1, a2, a3, a4, a5, a6] (.ref x :: st) g := rn_next dd_Law_law_1252 rfl
theorem dd_Law_law_1253 : decode (px_rw k_Law_law).2.1 1253 = .ok (.iload 4, 2) := (by decide +kernel : decode code 1253 = .ok (.iload 4, 2))
theorem e_Law_law_1253 (a0 a1 a2 a3 a5 a6 : Value) (x : Int32) (st : List Value) (g : px_G) : rn k_Law_law 1253 [a0, a1, a2, a3, .int x, a5, a6] st g = rn k_Law_law 1255 [a0, a1, a2, a3, .int x, a5, a6] (.int x :: st) g := rn_next dd_Law_law_1253 rfl
theorem dd_Law_law_1255 : decode (px_rw k_Law_law).2.1 1255 = .ok (.iconst 3, 1) := (by decide +kernel : decode code 1255 = .ok (.iconst 3, 1))
theorem e_Law_law_1255 (L st : List Value) (g : px_G) : rn k_Law_law 1255 L st g = rn k_Law_law 1256 L (.int 3 :: st) g := rn_ipush (i := .iconst 3) dd_Law_law_1255 rfl rfl (by decide)
theorem dd_Law_law_1256 : decode (px_rw k_Law_law).2.1 1256 = .ok (.iadd, 1) := (by decide +kernel : decode code 1256 = .ok (.iadd, 1))
theorem e_Law_law_1256 (L : List Value) (x y : Int32) (st : List Value) (g : px_G) : rn k_Law_law 1256 L (.int y :: .int x :: st) g = rn k_Law_law 1257 L (.int (x + y) :: st) g := rn_next dd_Law_law_1256 rfl
theorem dd_Law_law_1257 : decode (px_rw k_Law_law).2.1 1257 = .ok (.iaload, 1) := (by decide +kernel : decode code 1257 = .ok (.iaload, 1))
theorem e_Law_law_1257 (L : List Value) (i : Int32) (p : Nat) (st : List Value) (T : TS) (hp : (sh p).1 = 0) : rn k_Law_law 1257 L (.int i :: .ref p :: st) (enc T) = if px_in i (sh p).2 then rn k_Law_law 1258 L (.int (T.1 p i.toNatClampNeg) :: st) (enc T) else none := rn_iald dd_Law_law_1257 (Prod.ext hp rfl)
theorem e_Law_law_1257S (L : List Value) (i : Int32) (st : List Value) (T : TS) : rn k_Law_law 1257 L (.int i :: .ref 1002 :: st) (enc T) = if px_in i T.2.2.2 then rn k_Law_law 1258 L (.int (T.1 1002 i.toNatClampNeg) :: st) (enc T) else none := rn_iaS dd_Law_law_1257
theorem dd_Law_law_1258 : decode (px_rw k_Law_law).2.1 1258 = .ok (.invokevirtual 125, 3) := (by decide +kernel : decode code 1258 = .ok (.invokevirtual 125, 3))
theorem e_Law_law_1258 (L : List Value) (i0 : Int32) (i1 : Int32) (i2 : Int32)  (T : TS)  : rn k_Law_law 1258 L [.int i2, .int i1, .int i0, .ref 0] (enc T) = bd (cl k_Ds_next [.ref 0, .int i0, .int i1, .int i2] (enc T)) (fun r g' => rn k_Law_law 1261 L (r.toList ++ []) g') := rn_callV (n := 13) (As := [.int i0, .int i1, .int i2]) (rest := []) dd_Law_law_1258 rfl (by decide) (by decide) rfl rfl (Nat.le_of_ble_eq_true rfl) (Nat.le_of_ble_eq_true rfl) rfl
theorem dd_Law_law_1261 : decode (px_rw k_Law_law).2.1 1261 = .ok (.aload_n 2, 1) := (by decide +kernel : decode code 1261 = .ok (.aload_n 2, 1))
theorem e_Law_law_1261 (a0 a1 a3 a4 a5 a6 : Value) (x : Nat) (st : List Value) (g : px_G) : rn k_Law_law 1261 [a0, a1, .ref x, a3, a4, a5, a6] st g = rn k_Law_law 1262 [a0, a1, .ref x, a3, a4, a5, a6] (.ref x :: st) g := rn_next dd_Law_law_1261 rfl
theorem dd_Law_law_1262 : decode (px_rw k_Law_law).2.1 1262 = .ok (.aload_n 0, 1) := (by decide +kernel : decode code 1262 = .ok (.aload_n 0, 1))
theorem e_Law_law_1262 (a1 a2 a3 a4 a5 a6 : Value) (x : Nat) (st : List Value) (g : px_G) : rn k_Law_law 1262 [.ref x, a1, a2, a3, a4, a5, a6] st g = rn k_Law_law 1263 [.ref x, a1, a2, a3, a4, a5, a6] (.ref x :: st) g := rn_next dd_Law_law_1262 rfl
theorem dd_Law_law_1263 : decode (px_rw k_Law_law).2.1 1263 = .ok (.iload 4, 2) := (by decide +kernel : decode code 1263 = .ok (.iload 4, 2))
theorem e_Law_law_1263 (a0 a1 a2 a3 a5 a6 : Value) (x : Int32) (st : List Value) (g : px_G) : rn k_Law_law 1263 [a0, a1, a2, a3, .int x, a5, a6] st g = rn k_Law_law 1265 [a0, a1, a2, a3, .int x, a5, a6] (.int x :: st) g := rn_next dd_Law_law_1263 rfl
theorem dd_Law_law_1265 : decode (px_rw k_Law_law).2.1 1265 = .ok (.iconst 1, 1) := (by decide +kernel : decode code 1265 = .ok (.iconst 1, 1))
theorem e_Law_law_1265 (L st : List Value) (g : px_G) : rn k_Law_law 1265 L st g = rn k_Law_law 1266 L (.int 1 :: st) g := rn_ipush (i := .iconst 1) dd_Law_law_1265 rfl rfl (by decide)
theorem dd_Law_law_1266 : decode (px_rw k_Law_law).2.1 1266 = .ok (.iadd, 1) := (by decide +kernel : decode code 1266 = .ok (.iadd, 1))
theorem e_Law_law_1266 (L : List Value) (x y : Int32) (st : List Value) (g : px_G) : rn k_Law_law 1266 L (.int y :: .int x :: st) g = rn k_Law_law 1267 L (.int (x + y) :: st) g := rn_next dd_Law_law_1266 rfl
theorem dd_Law_law_1267 : decode (px_rw k_Law_law).2.1 1267 = .ok (.iaload, 1) := (by decide +kernel : decode code 1267 = .ok (.iaload, 1))
theorem e_Law_law_1267 (L : List Value) (i : Int32) (p : Nat) (st : List Value) (T : TS) (hp : (sh p).1 = 0) : rn k_Law_law 1267 L (.int i :: .ref p :: st) (enc T) = if px_in i (sh p).2 then rn k_Law_law 1268 L (.int (T.1 p i.toNatClampNeg) :: st) (enc T) else none := rn_iald dd_Law_law_1267 (Prod.ext hp rfl)
theorem e_Law_law_1267S (L : List Value) (i : Int32) (st : List Value) (T : TS) : rn k_Law_law 1267 L (.int i :: .ref 1002 :: st) (enc T) = if px_in i T.2.2.2 then rn k_Law_law 1268 L (.int (T.1 1002 i.toNatClampNeg) :: st) (enc T) else none := rn_iaS dd_Law_law_1267
theorem dd_Law_law_1268 : decode (px_rw k_Law_law).2.1 1268 = .ok (.aload_n 0, 1) := (by decide +kernel : decode code 1268 = .ok (.aload_n 0, 1))
theorem e_Law_law_1268 (a1 a2 a3 a4 a5 a6 : Value) (x : Nat) (st : List Value) (g : px_G) : rn k_Law_law 1268 [.ref x, a1, a2, a3, a4, a5, a6] st g = rn k_Law_law 1269 [.ref x, a1, a2, a3, a4, a5, a6] (.ref x :: st) g := rn_next dd_Law_law_1268 rfl
theorem dd_Law_law_1269 : decode (px_rw k_Law_law).2.1 1269 = .ok (.iload 4, 2) := (by decide +kernel : decode code 1269 = .ok (.iload 4, 2))
theorem e_Law_law_1269 (a0 a1 a2 a3 a5 a6 : Value) (x : Int32) (st : List Value) (g : px_G) : rn k_Law_law 1269 [a0, a1, a2, a3, .int x, a5, a6] st g = rn k_Law_law 1271 [a0, a1, a2, a3, .int x, a5, a6] (.int x :: st) g := rn_next dd_Law_law_1269 rfl
theorem dd_Law_law_1271 : decode (px_rw k_Law_law).2.1 1271 = .ok (.iconst 2, 1) := (by decide +kernel : decode code 1271 = .ok (.iconst 2, 1))
theorem e_Law_law_1271 (L st : List Value) (g : px_G) : rn k_Law_law 1271 L st g = rn k_Law_law 1272 L (.int 2 :: st) g := rn_ipush (i := .iconst 2) dd_Law_law_1271 rfl rfl (by decide)
theorem dd_Law_law_1272 : decode (px_rw k_Law_law).2.1 1272 = .ok (.iadd, 1) := (by decide +kernel : decode code 1272 = .ok (.iadd, 1))
theorem e_Law_law_1272 (L : List Value) (x y : Int32) (st : List Value) (g : px_G) : rn k_Law_law 1272 L (.int y :: .int x :: st) g = rn k_Law_law 1273 L (.int (x + y) :: st) g := rn_next dd_Law_law_1272 rfl
theorem dd_Law_law_1273 : decode (px_rw k_Law_law).2.1 1273 = .ok (.iaload, 1) := (by decide +kernel : decode code 1273 = .ok (.iaload, 1))
theorem e_Law_law_1273 (L : List Value) (i : Int32) (p : Nat) (st : List Value) (T : TS) (hp : (sh p).1 = 0) : rn k_Law_law 1273 L (.int i :: .ref p :: st) (enc T) = if px_in i (sh p).2 then rn k_Law_law 1274 L (.int (T.1 p i.toNatClampNeg) :: st) (enc T) else none := rn_iald dd_Law_law_1273 (Prod.ext hp rfl)
theorem e_Law_law_1273S (L : List Value) (i : Int32) (st : List Value) (T : TS) : rn k_Law_law 1273 L (.int i :: .ref 1002 :: st) (enc T) = if px_in i T.2.2.2 then rn k_Law_law 1274 L (.int (T.1 1002 i.toNatClampNeg) :: st) (enc T) else none := rn_iaS dd_Law_law_1273
theorem dd_Law_law_1274 : decode (px_rw k_Law_law).2.1 1274 = .ok (.aload_n 0, 1) := (by decide +kernel : decode code 1274 = .ok (.aload_n 0, 1))
theorem e_Law_law_1274 (a1 a2 a3 a4 a5 a6 : Value) (x : Nat) (st : List Value) (g : px_G) : rn k_Law_law 1274 [.ref x, a1, a2, a3, a4, a5, a6] st g = rn k_Law_law 1275 [.ref x, a1, a2, a3, a4, a5, a6] (.ref x :: st) g := rn_next dd_Law_law_1274 rfl
theorem dd_Law_law_1275 : decode (px_rw k_Law_law).2.1 1275 = .ok (.iload 4, 2) := (by decide +kernel : decode code 1275 = .ok (.iload 4, 2))
theorem e_Law_law_1275 (a0 a1 a2 a3 a5 a6 : Value) (x : Int32) (st : List Value) (g : px_G) : rn k_Law_law 1275 [a0, a1, a2, a3, .int x, a5, a6] st g = rn k_Law_law 1277 [a0, a1, a2, a3, .int x, a5, a6] (.int x :: st) g := rn_next dd_Law_law_1275 rfl
theorem dd_Law_law_1277 : decode (px_rw k_Law_law).2.1 1277 = .ok (.iconst 3, 1) := (by decide +kernel : decode code 1277 = .ok (.iconst 3, 1))
theorem e_Law_law_1277 (L st : List Value) (g : px_G) : rn k_Law_law 1277 L st g = rn k_Law_law 1278 L (.int 3 :: st) g := rn_ipush (i := .iconst 3) dd_Law_law_1277 rfl rfl (by decide)
theorem dd_Law_law_1278 : decode (px_rw k_Law_law).2.1 1278 = .ok (.iadd, 1) := (by decide +kernel : decode code 1278 = .ok (.iadd, 1))
theorem e_Law_law_1278 (L : List Value) (x y : Int32) (st : List Value) (g : px_G) : rn k_Law_law 1278 L (.int y :: .int x :: st) g = rn k_Law_law 1279 L (.int (x + y) :: st) g := rn_next dd_Law_law_1278 rfl
theorem dd_Law_law_1279 : decode (px_rw k_Law_law).2.1 1279 = .ok (.iaload, 1) := (by decide +kernel : decode code 1279 = .ok (.iaload, 1))
theorem e_Law_law_1279 (L : List Value) (i : Int32) (p : Nat) (st : List Value) (T : TS) (hp : (sh p).1 = 0) : rn k_Law_law 1279 L (.int i :: .ref p :: st) (enc T) = if px_in i (sh p).2 then rn k_Law_law 1280 L (.int (T.1 p i.toNatClampNeg) :: st) (enc T) else none := rn_iald dd_Law_law_1279 (Prod.ext hp rfl)
theorem e_Law_law_1279S (L : List Value) (i : Int32) (st : List Value) (T : TS) : rn k_Law_law 1279 L (.int i :: .ref 1002 :: st) (enc T) = if px_in i T.2.2.2 then rn k_Law_law 1280 L (.int (T.1 1002 i.toNatClampNeg) :: st) (enc T) else none := rn_iaS dd_Law_law_1279
theorem dd_Law_law_1280 : decode (px_rw k_Law_law).2.1 1280 = .ok (.invokevirtual 128, 3) := (by decide +kernel : decode code 1280 = .ok (.invokevirtual 128, 3))
theorem e_Law_law_1280 (L : List Value) (i0 : Int32) (i1 : Int32) (i2 : Int32) (i100 : Int32)  (T : TS)  : rn k_Law_law 1280 L [.int i2, .int i1, .int i0, .ref 53, .int i100] (enc T) = bd (cl k_Dm_next [.ref 53, .int i0, .int i1, .int i2] (enc T)) (fun r g' => rn k_Law_law 1283 L (r.toList ++ [.int i100]) g') := rn_callV (n := 52) (As := [.int i0, .int i1, .int i2]) (rest := [.int i100]) dd_Law_law_1280 rfl (by decide) (by decide) rfl rfl (Nat.le_of_ble_eq_true rfl) (Nat.le_of_ble_eq_true rfl) rfl
theorem dd_Law_law_1283 : decode (px_rw k_Law_law).2.1 1283 = .ok (.if_icmp .eq 478, 3) := (by decide +kernel : decode code 1283 = .ok (.if_icmp .eq 478, 3))
theorem e_Law_law_1283 (L : List Value) (x y : Int32) (st : List Value) (g : px_G) : rn k_Law_law 1283 L (.int y :: .int x :: st) g = if x = y then rn k_Law_law 1761 L st g else rn k_Law_law 1286 L st g := rn_iceq dd_Law_law_1283 (by decide)
theorem dd_Law_law_1286 : decode (px_rw k_Law_law).2.1 1286 = .ok (.iconst 0, 1) := (by decide +kernel : decode code 1286 = .ok (.iconst 0, 1))
theorem e_Law_law_1286 (L st : List Value) (g : px_G) : rn k_Law_law 1286 L st g = rn k_Law_law 1287 L (.int 0 :: st) g := rn_ipush (i := .iconst 0) dd_Law_law_1286 rfl rfl (by decide)
theorem dd_Law_law_1287 : decode (px_rw k_Law_law).2.1 1287 = .ok (.ireturn, 1) := (by decide +kernel : decode code 1287 = .ok (.ireturn, 1))
theorem e_Law_law_1287 (L : List Value) (v : Int32) (g : px_G) (hv : v = 0 ∨ v = 1) : rn k_Law_law 1287 L [.int v] g = some (some (.int v), g) := rn_zret dd_Law_law_1287 rfl hv
theorem dd_Law_law_1288 : decode (px_rw k_Law_law).2.1 1288 = .ok (.aload_n 1, 1) := (by decide +kernel : decode code 1288 = .ok (.aload_n 1, 1))
theorem e_Law_law_1288 (a0 a2 a3 a4 a5 a6 : Value) (x : Nat) (st : List Value) (g : px_G) : rn k_Law_law 1288 [a0, .ref x, a2, a3, a4, a5, a6] st g = rn k_Law_law 1289 [a0, .ref x, a2, a3, a4, a5, a6] (.ref x :: st) g := rn_next dd_Law_law_1288 rfl
theorem dd_Law_law_1289 : decode (px_rw k_Law_law).2.1 1289 = .ok (.aload_n 0, 1) := (by decide +kernel : decode code 1289 = .ok (.aload_n 0, 1))
theorem e_Law_law_1289 (a1 a2 a3 a4 a5 a6 : Value) (x : Nat) (st : List Value) (g : px_G) : rn k_Law_law 1289 [.ref x, a1, a2, a3, a4, a5, a6] st g = rn k_Law_law 1290 [.ref x, a1, a2, a3, a4, a5, a6] (.ref x :: st) g := rn_next dd_Law_law_1289 rfl
theorem dd_Law_law_1290 : decode (px_rw k_Law_law).2.1 1290 = .ok (.iload 4, 2) := (by decide +kernel : decode code 1290 = .ok (.iload 4, 2))
theorem e_Law_law_1290 (a0 a1 a2 a3 a5 a6 : Value) (x : Int32) (st : List Value) (g : px_G) : rn k_Law_law 1290 [a0, a1, a2, a3, .int x, a5, a6] st g = rn k_Law_law 1292 [a0, a1, a2, a3, .int x, a5, a6] (.int x :: st) g := rn_next dd_Law_law_1290 rfl
theorem dd_Law_law_1292 : decode (px_rw k_Law_law).2.1 1292 = .ok (.iconst 1, 1) := (by decide +kernel : decode code 1292 = .ok (.iconst 1, 1))
theorem e_Law_law_1292 (L st : List Value) (g : px_G) : rn k_Law_law 1292 L st g = rn k_Law_law 1293 L (.int 1 :: st) g := rn_ipush (i := .iconst 1) dd_Law_law_1292 rfl rfl (by decide)
theorem dd_Law_law_1293 : decode (px_rw k_Law_law).2.1 1293 = .ok (.iadd, 1) := (by decide +kernel : decode code 1293 = .ok (.iadd, 1))
theorem e_Law_law_1293 (L : List Value) (x y : Int32) (st : List Value) (g : px_G) : rn k_Law_law 1293 L (.int y :: .int x :: st) g = rn k_Law_law 1294 L (.int (x + y) :: st) g := rn_next dd_Law_law_1293 rfl
theorem dd_Law_law_1294 : decode (px_rw k_Law_law).2.1 1294 = .ok (.iaload, 1) := (by decide +kernel : decode code 1294 = .ok (.iaload, 1))
theorem e_Law_law_1294 (L : List Value) (i : Int32) (p : Nat) (st : List Value) (T : TS) (hp : (sh p).1 = 0) : rn k_Law_law 1294 L (.int i :: .ref p :: st) (enc T) = if px_in i (sh p).2 then rn k_Law_law 1295 L (.int (T.1 p i.toNatClampNeg) :: st) (enc T) else none := rn_iald dd_Law_law_1294 (Prod.ext hp rfl)
theorem e_Law_law_1294S (L : List Value) (i : Int32) (st : List Value) (T : TS) : rn k_Law_law 1294 L (.int i :: .ref 1002 :: st) (enc T) = if px_in i T.2.2.2 then rn k_Law_law 1295 L (.int (T.1 1002 i.toNatClampNeg) :: st) (enc T) else none := rn_iaS dd_Law_law_1294
theorem dd_Law_law_1295 : decode (px_rw k_Law_law).2.1 1295 = .ok (.aload_n 0, 1) := (by decide +kernel : decode code 1295 = .ok (.aload_n 0, 1))
theorem e_Law_law_1295 (a1 a2 a3 a4 a5 a6 : Value) (x : Nat) (st : List Value) (g : px_G) : rn k_Law_law 1295 [.ref x, a1, a2, a3, a4, a5, a6] st g = rn k_Law_law 1296 [.ref x, a1, a2, a3, a4, a5, a6] (.ref x :: st) g := rn_next dd_Law_law_1295 rfl
theorem dd_Law_law_1296 : decode (px_rw k_Law_law).2.1 1296 = .ok (.iload 4, 2) := (by decide +kernel : decode code 1296 = .ok (.iload 4, 2))
theorem e_Law_law_1296 (a0 a1 a2 a3 a5 a6 : Value) (x : Int32) (st : List Value) (g : px_G) : rn k_Law_law 1296 [a0, a1, a2, a3, .int x, a5, a6] st g = rn k_Law_law 1298 [a0, a1, a2, a3, .int x, a5, a6] (.int x :: st) g := rn_next dd_Law_law_1296 rfl
theorem dd_Law_law_1298 : decode (px_rw k_Law_law).2.1 1298 = .ok (.iconst 2, 1) := (by decide +kernel : decode code 1298 = .ok (.iconst 2, 1))
theorem e_Law_law_1298 (L st : List Value) (g : px_G) : rn k_Law_law 1298 L st g = rn k_Law_law 1299 L (.int 2 :: st) g := rn_ipush (i := .iconst 2) dd_Law_law_1298 rfl rfl (by decide)
theorem dd_Law_law_1299 : decode (px_rw k_Law_law).2.1 1299 = .ok (.iadd, 1) := (by decide +kernel : decode code 1299 = .ok (.iadd, 1))
theorem e_Law_law_1299 (L : List Value) (x y : Int32) (st : List Value) (g : px_G) : rn k_Law_law 1299 L (.int y :: .int x :: st) g = rn k_Law_law 1300 L (.int (x + y) :: st) g := rn_next dd_Law_law_1299 rfl
theorem dd_Law_law_1300 : decode (px_rw k_Law_law).2.1 1300 = .ok (.iaload, 1) := (by decide +kernel : decode code 1300 = .ok (.iaload, 1))
theorem e_Law_law_1300 (L : List Value) (i : Int32) (p : Nat) (st : List Value) (T : TS) (hp : (sh p).1 = 0) : rn k_Law_law 1300 L (.int i :: .ref p :: st) (enc T) = if px_in i (sh p).2 then rn k_Law_law 1301 L (.int (T.1 p i.toNatClampNeg) :: st) (enc T) else none := rn_iald dd_Law_law_1300 (Prod.ext hp rfl)
theorem e_Law_law_1300S (L : List Value) (i : Int32) (st : List Value) (T : TS) : rn k_Law_law 1300 L (.int i :: .ref 1002 :: st) (enc T) = if px_in i T.2.2.2 then rn k_Law_law 1301 L (.int (T.1 1002 i.toNatClampNeg) :: st) (enc T) else none := rn_iaS dd_Law_law_1300
theorem dd_Law_law_1301 : decode (px_rw k_Law_law).2.1 1301 = .ok (.aload_n 0, 1) := (by decide +kernel : decode code 1301 = .ok (.aload_n 0, 1))
theorem e_Law_law_1301 (a1 a2 a3 a4 a5 a6 : Value) (x : Nat) (st : List Value) (g : px_G) : rn k_Law_law 1301 [.ref x, a1, a2, a3, a4, a5, a6] st g = rn k_Law_law 1302 [.ref x, a1, a2, a3, a4, a5, a6] (.ref x :: st) g := rn_next dd_Law_law_1301 rfl
theorem dd_Law_law_1302 : decode (px_rw k_Law_law).2.1 1302 = .ok (.iload 4, 2) := (by decide +kernel : decode code 1302 = .ok (.iload 4, 2))
theorem e_Law_law_1302 (a0 a1 a2 a3 a5 a6 : Value) (x : Int32) (st : List Value) (g : px_G) : rn k_Law_law 1302 [a0, a1, a2, a3, .int x, a5, a6] st g = rn k_Law_law 1304 [a0, a1, a2, a3, .int x, a5, a6] (.int x :: st) g := rn_next dd_Law_law_1302 rfl
theorem dd_Law_law_1304 : decode (px_rw k_Law_law).2.1 1304 = .ok (.iconst 3, 1) := (by decide +kernel : decode code 1304 = .ok (.iconst 3, 1))
theorem e_Law_law_1304 (L st : List Value) (g : px_G) : rn k_Law_law 1304 L st g = rn k_Law_law 1305 L (.int 3 :: st) g := rn_ipush (i := .iconst 3) dd_Law_law_1304 rfl rfl (by decide)
theorem dd_Law_law_1305 : decode (px_rw k_Law_law).2.1 1305 = .ok (.iadd, 1) := (by decide +kernel : decode code 1305 = .ok (.iadd, 1))
theorem e_Law_law_1305 (L : List Value) (x y : Int32) (st : List Value) (g : px_G) : rn k_Law_law 1305 L (.int y :: .int x :: st) g = rn k_Law_law 1306 L (.int (x + y) :: st) g := rn_next dd_Law_law_1305 rfl
theorem dd_Law_law_1306 : decode (px_rw k_Law_law).2.1 1306 = .ok (.iaload, 1) := (by decide +kernel : decode code 1306 = .ok (.iaload, 1))
theorem e_Law_law_1306 (L : List Value) (i : Int32) (p : Nat) (st : List Value) (T : TS) (hp : (sh p).1 = 0) : rn k_Law_law 1306 L (.int i :: .ref p :: st) (enc T) = if px_in i (sh p).2 then rn k_Law_law 1307 L (.int (T.1 p i.toNatClampNeg) :: st) (enc T) else none := rn_iald dd_Law_law_1306 (Prod.ext hp rfl)
theorem e_Law_law_1306S (L : List Value) (i : Int32) (st : List Value) (T : TS) : rn k_Law_law 1306 L (.int i :: .ref 1002 :: st) (enc T) = if px_in i T.2.2.2 then rn k_Law_law 1307 L (.int (T.1 1002 i.toNatClampNeg) :: st) (enc T) else none := rn_iaS dd_Law_law_1306
theorem dd_Law_law_1307 : decode (px_rw k_Law_law).2.1 1307 = .ok (.aload_n 0, 1) := (by decide +kernel : decode code 1307 = .ok (.aload_n 0, 1))
theorem e_Law_law_1307 (a1 a2 a3 a4 a5 a6 : Value) (x : Nat) (st : List Value) (g : px_G) : rn k_Law_law 1307 [.ref x, a1, a2, a3, a4, a5, a6] st g = rn k_Law_law 1308 [.ref x, a1, a2, a3, a4, a5, a6] (.ref x :: st) g := rn_next dd_Law_law_1307 rfl
theorem dd_Law_law_1308 : decode (px_rw k_Law_law).2.1 1308 = .ok (.iload 4, 2) := (by decide +kernel : decode code 1308 = .ok (.iload 4, 2))
theorem e_Law_law_1308 (a0 a1 a2 a3 a5 a6 : Value) (x : Int32) (st : List Value) (g : px_G) : rn k_Law_law 1308 [a0, a1, a2, a3, .int x, a5, a6] st g = rn k_Law_law 1310 [a0, a1, a2, a3, .int x, a5, a6] (.int x :: st) g := rn_next dd_Law_law_1308 rfl
theorem dd_Law_law_1310 : decode (px_rw k_Law_law).2.1 1310 = .ok (.iconst 4, 1) := (by decide +kernel : decode code 1310 = .ok (.iconst 4, 1))
theorem e_Law_law_1310 (L st : List Value) (g : px_G) : rn k_Law_law 1310 L st g = rn k_Law_law 1311 L (.int 4 :: st) g := rn_ipush (i := .iconst 4) dd_Law_law_1310 rfl rfl (by decide)
theorem dd_Law_law_1311 : decode (px_rw k_Law_law).2.1 1311 = .ok (.iadd, 1) := (by decide +kernel : decode code 1311 = .ok (.iadd, 1))
theorem e_Law_law_1311 (L : List Value) (x y : Int32) (st : List Value) (g : px_G) : rn k_Law_law 1311 L (.int y :: .int x :: st) g = rn k_Law_law 1312 L (.int (x + y) :: st) g := rn_next dd_Law_law_1311 rfl
theorem dd_Law_law_1312 : decode (px_rw k_Law_law).2.1 1312 = .ok (.iaload, 1) := (by decide +kernel : decode code 1312 = .ok (.iaload, 1))
theorem e_Law_law_1312 (L : List Value) (i : Int32) (p : Nat) (st : List Value) (T : TS) (hp : (sh p).1 = 0) : rn k_Law_law 1312 L (.int i :: .ref p :: st) (enc T) = if px_in i (sh p).2 then rn k_Law_law 1313 L (.int (T.1 p i.toNatClampNeg) :: st) (enc T) else none := rn_iald dd_Law_law_1312 (Prod.ext hp rfl)
theorem e_Law_law_1312S (L : List Value) (i : Int32) (st : List Value) (T : TS) : rn k_Law_law 1312 L (.int i :: .ref 1002 :: st) (enc T) = if px_in i T.2.2.2 then rn k_Law_law 1313 L (.int (T.1 1002 i.toNatClampNeg) :: st) (enc T) else none := rn_iaS dd_Law_law_1312
theorem dd_Law_law_1313 : decode (px_rw k_Law_law).2.1 1313 = .ok (.ifCond .eq 7, 3) := (by decide +kernel : decode code 1313 = .ok (.ifCond .eq 7, 3))
theorem e_Law_law_1313 (L : List Value) (x : Int32) (st : List Value) (g : px_G) : rn k_Law_law 1313 L (.int x :: st) g = if x = 0 then rn k_Law_law 1320 L st g else rn k_Law_law 1316 L st g := rn_ifeq dd_Law_law_1313 (by decide)
theorem dd_Law_law_1316 : decode (px_rw k_Law_law).2.1 1316 = .ok (.iconst 1, 1) := (by decide +kernel : decode code 1316 = .ok (.iconst 1, 1))
theorem e_Law_law_1316 (L st : List Value) (g : px_G) : rn k_Law_law 1316 L st g = rn k_Law_law 1317 L (.int 1 :: st) g := rn_ipush (i := .iconst 1) dd_Law_law_1316 rfl rfl (by decide)
theorem dd_Law_law_1317 : decode (px_rw k_Law_law).2.1 1317 = .ok (.goto 4, 3) := (by decide +kernel : decode code 1317 = .ok (.goto 4, 3))
theorem e_Law_law_1317 (L st : List Value) (g : px_G) : rn k_Law_law 1317 L st g = rn k_Law_law 1321 L st g := rn_goto dd_Law_law_1317 (by decide)
theorem dd_Law_law_1320 : decode (px_rw k_Law_law).2.1 1320 = .ok (.iconst 0, 1) := (by decide +kernel : decode code 1320 = .ok (.iconst 0, 1))
theorem e_Law_law_1320 (L st : List Value) (g : px_G) : rn k_Law_law 1320 L st g = rn k_Law_law 1321 L (.int 0 :: st) g := rn_ipush (i := .iconst 0) dd_Law_law_1320 rfl rfl (by decide)
theorem dd_Law_law_1321 : decode (px_rw k_Law_law).2.1 1321 = .ok (.aload_n 0, 1) := (by decide +kernel : decode code 1321 = .ok (.aload_n 0, 1))
theorem e_Law_law_1321 (a1 a2 a3 a4 a5 a6 : Value) (x : Nat) (st : List Value) (g : px_G) : rn k_Law_law 1321 [.ref x, a1, a2, a3, a4, a5, a6] st g = rn k_Law_law 1322 [.ref x, a1, a2, a3, a4, a5, a6] (.ref x :: st) g := rn_next dd_Law_law_1321 rfl
theorem dd_Law_law_1322 : decode (px_rw k_Law_law).2.1 1322 = .ok (.iload 4, 2) := (by decide +kernel : decode code 1322 = .ok (.iload 4, 2))
theorem e_Law_law_1322 (a0 a1 a2 a3 a5 a6 : Value) (x : Int32) (st : List Value) (g : px_G) : rn k_Law_law 1322 [a0, a1, a2, a3, .int x, a5, a6] st g = rn k_Law_law 1324 [a0, a1, a2, a3, .int x, a5, a6] (.int x :: st) g := rn_next dd_Law_law_1322 rfl
theorem dd_Law_law_1324 : decode (px_rw k_Law_law).2.1 1324 = .ok (.iconst 5, 1) := (by decide +kernel : decode code 1324 = .ok (.iconst 5, 1))
theorem e_Law_law_1324 (L st : List Value) (g : px_G) : rn k_Law_law 1324 L st g = rn k_Law_law 1325 L (.int 5 :: st) g := rn_ipush (i := .iconst 5) dd_Law_law_1324 rfl rfl (by decide)
theorem dd_Law_law_1325 : decode (px_rw k_Law_law).2.1 1325 = .ok (.iadd, 1) := (by decide +kernel : decode code 1325 = .ok (.iadd, 1))
theorem e_Law_law_1325 (L : List Value) (x y : Int32) (st : List Value) (g : px_G) : rn k_Law_law 1325 L (.int y :: .int x :: st) g = rn k_Law_law 1326 L (.int (x + y) :: st) g := rn_next dd_Law_law_1325 rfl
theorem dd_Law_law_1326 : decode (px_rw k_Law_law).2.1 1326 = .ok (.iaload, 1) := (by decide +kernel : decode code 1326 = .ok (.iaload, 1))
theorem e_Law_law_1326 (L : List Value) (i : Int32) (p : Nat) (st : List Value) (T : TS) (hp : (sh p).1 = 0) : rn k_Law_law 1326 L (.int i :: .ref p :: st) (enc T) = if px_in i (sh p).2 then rn k_Law_law 1327 L (.int (T.1 p i.toNatClampNeg) :: st) (enc T) else none := rn_iald dd_Law_law_1326 (Prod.ext hp rfl)
theorem e_Law_law_1326S (L : List Value) (i : Int32) (st : List Value) (T : TS) : rn k_Law_law 1326 L (.int i :: .ref 1002 :: st) (enc T) = if px_in i T.2.2.2 then rn k_Law_law 1327 L (.int (T.1 1002 i.toNatClampNeg) :: st) (enc T) else none := rn_iaS dd_Law_law_1326
theorem dd_Law_law_1327 : decode (px_rw k_Law_law).2.1 1327 = .ok (.aload_n 0, 1) := (by decide +kernel : decode code 1327 = .ok (.aload_n 0, 1))
theorem e_Law_law_1327 (a1 a2 a3 a4 a5 a6 : Value) (x : Nat) (st : List Value) (g : px_G) : rn k_Law_law 1327 [.ref x, a1, a2, a3, a4, a5, a6] st g = rn k_Law_law 1328 [.ref x, a1, a2, a3, a4, a5, a6] (.ref x :: st) g := rn_next dd_Law_law_1327 rfl
theorem dd_Law_law_1328 : decode (px_rw k_Law_law).2.1 1328 = .ok (.iload 4, 2) := (by decide +kernel : decode code 1328 = .ok (.iload 4, 2))
theorem e_Law_law_1328 (a0 a1 a2 a3 a5 a6 : Value) (x : Int32) (st : List Value) (g : px_G) : rn k_Law_law 1328 [a0, a1, a2, a3, .int x, a5, a6] st g = rn k_Law_law 1330 [a0, a1, a2, a3, .int x, a5, a6] (.int x :: st) g := rn_next dd_Law_law_1328 rfl
theorem dd_Law_law_1330 : decode (px_rw k_Law_law).2.1 1330 = .ok (.bipush 6, 2) := (by decide +kernel : decode code 1330 = .ok (.bipush 6, 2))
theorem e_Law_law_1330 (L st : List Value) (g : px_G) : rn k_Law_law 1330 L st g = rn k_Law_law 1332 L (.int 6 :: st) g := rn_ipush (i := .bipush 6) dd_Law_law_1330 rfl rfl (by decide)
theorem dd_Law_law_1332 : decode (px_rw k_Law_law).2.1 1332 = .ok (.iadd, 1) := (by decide +kernel : decode code 1332 = .ok (.iadd, 1))
theorem e_Law_law_1332 (L : List Value) (x y : Int32) (st : List Value) (g : px_G) : rn k_Law_law 1332 L (.int y :: .int x :: st) g = rn k_Law_law 1333 L (.int (x + y) :: st) g := rn_next dd_Law_law_1332 rfl
theorem dd_Law_law_1333 : decode (px_rw k_Law_law).2.1 1333 = .ok (.iaload, 1) := (by decide +kernel : decode code 1333 = .ok (.iaload, 1))
theorem e_Law_law_1333 (L : List Value) (i : Int32) (p : Nat) (st : List Value) (T : TS) (hp : (sh p).1 = 0) : rn k_Law_law 1333 L (.int i :: .ref p :: st) (enc T) = if px_in i (sh p).2 then rn k_Law_law 1334 L (.int (T.1 p i.toNatClampNeg) :: st) (enc T) else none := rn_iald dd_Law_law_1333 (Prod.ext hp rfl)
theorem e_Law_law_1333S (L : List Value) (i : Int32) (st : List Value) (T : TS) : rn k_Law_law 1333 L (.int i :: .ref 1002 :: st) (enc T) = if px_in i T.2.2.2 then rn k_Law_law 1334 L (.int (T.1 1002 i.toNatClampNeg) :: st) (enc T) else none := rn_iaS dd_Law_law_1333
theorem dd_Law_law_1334 : decode (px_rw k_Law_law).2.1 1334 = .ok (.invokevirtual 129, 3) := (by decide +kernel : decode code 1334 = .ok (.invokevirtual 129, 3))
theorem e_Law_law_1334 (L : List Value) (i0 : Int32) (i1 : Int32) (i2 : Int32) (i3 : Int32) (i4 : Int32) (i5 : Int32)  (T : TS)  : rn k_Law_law 1334 L [.int i5, .int i4, .int i3, .int i2, .int i1, .int i0, .ref 0] (enc T) = bd (cl k_Ds_choose [.ref 0, .int i0, .int i1, .int i2, .int i3, .int i4, .int i5] (enc T)) (fun r g' => rn k_Law_law 1337 L (r.toList ++ []) g') := rn_callV (n := 13) (As := [.int i0, .int i1, .int i2, .int i3, .int i4, .int i5]) (rest := []) dd_Law_law_1334 rfl (by decide) (by decide) rfl rfl (Nat.le_of_ble_eq_true rfl) (Nat.le_of_ble_eq_true rfl) rfl
theorem dd_Law_law_1337 : decode (px_rw k_Law_law).2.1 1337 = .ok (.aload_n 2, 1) := (by decide +kernel : decode code 1337 = .ok (.aload_n 2, 1))
theorem e_Law_law_1337 (a0 a1 a3 a4 a5 a6 : Value) (x : Nat) (st : List Value) (g : px_G) : rn k_Law_law 1337 [a0, a1, .ref x, a3, a4, a5, a6] st g = rn k_Law_law 1338 [a0, a1, .ref x, a3, a4, a5, a6] (.ref x :: st) g := rn_next dd_Law_law_1337 rfl
theorem dd_Law_law_1338 : decode (px_rw k_Law_law).2.1 1338 = .ok (.aload_n 0, 1) := (by decide +kernel : decode code 1338 = .ok (.aload_n 0, 1))
theorem e_Law_law_1338 (a1 a2 a3 a4 a5 a6 : Value) (x : Nat) (st : List Value) (g : px_G) : rn k_Law_law 1338 [.ref x, a1, a2, a3, a4, a5, a6] st g = rn k_Law_law 1339 [.ref x, a1, a2, a3, a4, a5, a6] (.ref x :: st) g := rn_next dd_Law_law_1338 rfl
theorem dd_Law_law_1339 : decode (px_rw k_Law_law).2.1 1339 = .ok (.iload 4, 2) := (by decide +kernel : decode code 1339 = .ok (.iload 4, 2))
theorem e_Law_law_1339 (a0 a1 a2 a3 a5 a6 : Value) (x : Int32) (st : List Value) (g : px_G) : rn k_Law_law 1339 [a0, a1, a2, a3, .int x, a5, a6] st g = rn k_Law_law 1341 [a0, a1, a2, a3, .int x, a5, a6] (.int x :: st) g := rn_next dd_Law_law_1339 rfl
theorem dd_Law_law_1341 : decode (px_rw k_Law_law).2.1 1341 = .ok (.iconst 1, 1) := (by decide +kernel : decode code 1341 = .ok (.iconst 1, 1))
theorem e_Law_law_1341 (L st : List Value) (g : px_G) : rn k_Law_law 1341 L st g = rn k_Law_law 1342 L (.int 1 :: st) g := rn_ipush (i := .iconst 1) dd_Law_law_1341 rfl rfl (by decide)
theorem dd_Law_law_1342 : decode (px_rw k_Law_law).2.1 1342 = .ok (.iadd, 1) := (by decide +kernel : decode code 1342 = .ok (.iadd, 1))
theorem e_Law_law_1342 (L : List Value) (x y : Int32) (st : List Value) (g : px_G) : rn k_Law_law 1342 L (.int y :: .int x :: st) g = rn k_Law_law 1343 L (.int (x + y) :: st) g := rn_next dd_Law_law_1342 rfl
theorem dd_Law_law_1343 : decode (px_rw k_Law_law).2.1 1343 = .ok (.iaload, 1) := (by decide +kernel : decode code 1343 = .ok (.iaload, 1))
theorem e_Law_law_1343 (L : List Value) (i : Int32) (p : Nat) (st : List Value) (T : TS) (hp : (sh p).1 = 0) : rn k_Law_law 1343 L (.int i :: .ref p :: st) (enc T) = if px_in i (sh p).2 then rn k_Law_law 1344 L (.int (T.1 p i.toNatClampNeg) :: st) (enc T) else none := rn_iald dd_Law_law_1343 (Prod.ext hp rfl)
theorem e_Law_law_1343S (L : List Value) (i : Int32) (st : List Value) (T : TS) : rn k_Law_law 1343 L (.int i :: .ref 1002 :: st) (enc T) = if px_in i T.2.2.2 then rn k_Law_law 1344 L (.int (T.1 1002 i.toNatClampNeg) :: st) (enc T) else none := rn_iaS dd_Law_law_1343
theorem dd_Law_law_1344 : decode (px_rw k_Law_law).2.1 1344 = .ok (.aload_n 0, 1) := (by decide +kernel : decode code 1344 = .ok (.aload_n 0, 1))
theorem e_Law_law_1344 (a1 a2 a3 a4 a5 a6 : Value) (x : Nat) (st : List Value) (g : px_G) : rn k_Law_law 1344 [.ref x, a1, a2, a3, a4, a5, a6] st g = rn k_Law_law 1345 [.ref x, a1, a2, a3, a4, a5, a6] (.ref x :: st) g := rn_next dd_Law_law_1344 rfl
theorem dd_Law_law_1345 : decode (px_rw k_Law_law).2.1 1345 = .ok (.iload 4, 2) := (by decide +kernel : decode code 1345 = .ok (.iload 4, 2))
theorem e_Law_law_1345 (a0 a1 a2 a3 a5 a6 : Value) (x : Int32) (st : List Value) (g : px_G) : rn k_Law_law 1345 [a0, a1, a2, a3, .int x, a5, a6] st g = rn k_Law_law 1347 [a0, a1, a2, a3, .int x, a5, a6] (.int x :: st) g := rn_next dd_Law_law_1345 rfl
theorem dd_Law_law_1347 : decode (px_rw k_Law_law).2.1 1347 = .ok (.iconst 2, 1) := (by decide +kernel : decode code 1347 = .ok (.iconst 2, 1))
theorem e_Law_law_1347 (L st : List Value) (g : px_G) : rn k_Law_law 1347 L st g = rn k_Law_law 1348 L (.int 2 :: st) g := rn_ipush (i := .iconst 2) dd_Law_law_1347 rfl rfl (by decide)
theorem dd_Law_law_1348 : decode (px_rw k_Law_law).2.1 1348 = .ok (.iadd, 1) := (by decide +kernel : decode code 1348 = .ok (.iadd, 1))
theorem e_Law_law_1348 (L : List Value) (x y : Int32) (st : List Value) (g : px_G) : rn k_Law_law 1348 L (.int y :: .int x :: st) g = rn k_Law_law 1349 L (.int (x + y) :: st) g := rn_next dd_Law_law_1348 rfl
theorem dd_Law_law_1349 : decode (px_rw k_Law_law).2.1 1349 = .ok (.iaload, 1) := (by decide +kernel : decode code 1349 = .ok (.iaload, 1))
theorem e_Law_law_1349 (L : List Value) (i : Int32) (p : Nat) (st : List Value) (T : TS) (hp : (sh p).1 = 0) : rn k_Law_law 1349 L (.int i :: .ref p :: st) (enc T) = if px_in i (sh p).2 then rn k_Law_law 1350 L (.int (T.1 p i.toNatClampNeg) :: st) (enc T) else none := rn_iald dd_Law_law_1349 (Prod.ext hp rfl)
theorem e_Law_law_1349S (L : List Value) (i : Int32) (st : List Value) (T : TS) : rn k_Law_law 1349 L (.int i :: .ref 1002 :: st) (enc T) = if px_in i T.2.2.2 then rn k_Law_law 1350 L (.int (T.1 1002 i.toNatClampNeg) :: st) (enc T) else none := rn_iaS dd_Law_law_1349
theorem dd_Law_law_1350 : decode (px_rw k_Law_law).2.1 1350 = .ok (.aload_n 0, 1) := (by decide +kernel : decode code 1350 = .ok (.aload_n 0, 1))
theorem e_Law_law_1350 (a1 a2 a3 a4 a5 a6 : Value) (x : Nat) (st : List Value) (g : px_G) : rn k_Law_law 1350 [.ref x, a1, a2, a3, a4, a5, a6] st g = rn k_Law_law 1351 [.ref x, a1, a2, a3, a4, a5, a6] (.ref x :: st) g := rn_next dd_Law_law_1350 rfl
theorem dd_Law_law_1351 : decode (px_rw k_Law_law).2.1 1351 = .ok (.iload 4, 2) := (by decide +kernel : decode code 1351 = .ok (.iload 4, 2))
theorem e_Law_law_1351 (a0 a1 a2 a3 a5 a6 : Value) (x : Int32) (st : List Value) (g : px_G) : rn k_Law_law 1351 [a0, a1, a2, a3, .int x, a5, a6] st g = rn k_Law_law 1353 [a0, a1, a2, a3, .int x, a5, a6] (.int x :: st) g := rn_next dd_Law_law_1351 rfl
theorem dd_Law_law_1353 : decode (px_rw k_Law_law).2.1 1353 = .ok (.iconst 3, 1) := (by decide +kernel : decode code 1353 = .ok (.iconst 3, 1))
theorem e_Law_law_1353 (L st : List Value) (g : px_G) : rn k_Law_law 1353 L st g = rn k_Law_law 1354 L (.int 3 :: st) g := rn_ipush (i := .iconst 3) dd_Law_law_1353 rfl rfl (by decide)
theorem dd_Law_law_1354 : decode (px_rw k_Law_law).2.1 1354 = .ok (.iadd, 1) := (by decide +kernel : decode code 1354 = .ok (.iadd, 1))
theorem e_Law_law_1354 (L : List Value) (x y : Int32) (st : List Value) (g : px_G) : rn k_Law_law 1354 L (.int y :: .int x :: st) g = rn k_Law_law 1355 L (.int (x + y) :: st) g := rn_next dd_Law_law_1354 rfl
theorem dd_Law_law_1355 : decode (px_rw k_Law_law).2.1 1355 = .ok (.iaload, 1) := (by decide +kernel : decode code 1355 = .ok (.iaload, 1))
theorem e_Law_law_1355 (L : List Value) (i : Int32) (p : Nat) (st : List Value) (T : TS) (hp : (sh p).1 = 0) : rn k_Law_law 1355 L (.int i :: .ref p :: st) (enc T) = if px_in i (sh p).2 then rn k_Law_law 1356 L (.int (T.1 p i.toNatClampNeg) :: st) (enc T) else none := rn_iald dd_Law_law_1355 (Prod.ext hp rfl)
theorem e_Law_law_1355S (L : List Value) (i : Int32) (st : List Value) (T : TS) : rn k_Law_law 1355 L (.int i :: .ref 1002 :: st) (enc T) = if px_in i T.2.2.2 then rn k_Law_law 1356 L (.int (T.1 1002 i.toNatClampNeg) :: st) (enc T) else none := rn_iaS dd_Law_law_1355
theorem dd_Law_law_1356 : decode (px_rw k_Law_law).2.1 1356 = .ok (.aload_n 0, 1) := (by decide +kernel : decode code 1356 = .ok (.aload_n 0, 1))
theorem e_Law_law_1356 (a1 a2 a3 a4 a5 a6 : Value) (x : Nat) (st : List Value) (g : px_G) : rn k_Law_law 1356 [.ref x, a1, a2, a3, a4, a5, a6] st g = rn k_Law_law 1357 [.ref x, a1, a2, a3, a4, a5, a6] (.ref x :: st) g := rn_next dd_Law_law_1356 rfl
theorem dd_Law_law_1357 : decode (px_rw k_Law_law).2.1 1357 = .ok (.iload 4, 2) := (by decide +kernel : decode code 1357 = .ok (.iload 4, 2))
theorem e_Law_law_1357 (a0 a1 a2 a3 a5 a6 : Value) (x : Int32) (st : List Value) (g : px_G) : rn k_Law_law 1357 [a0, a1, a2, a3, .int x, a5, a6] st g = rn k_Law_law 1359 [a0, a1, a2, a3, .int x, a5, a6] (.int x :: st) g := rn_next dd_Law_law_1357 rfl
theorem dd_Law_law_1359 : decode (px_rw k_Law_law).2.1 1359 = .ok (.iconst 4, 1) := (by decide +kernel : decode code 1359 = .ok (.iconst 4, 1))
theorem e_Law_law_1359 (L st : List Value) (g : px_G) : rn k_Law_law 1359 L st g = rn k_Law_law 1360 L (.int 4 :: st) g := rn_ipush (i := .iconst 4) dd_Law_law_1359 rfl rfl (by decide)
theorem dd_Law_law_1360 : decode (px_rw k_Law_law).2.1 1360 = .ok (.iadd, 1) := (by decide +kernel : decode code 1360 = .ok (.iadd, 1))
theorem e_Law_law_1360 (L : List Value) (x y : Int32) (st : List Value) (g : px_G) : rn k_Law_law 1360 L (.int y :: .int x :: st) g = rn k_Law_law 1361 L (.int (x + y) :: st) g := rn_next dd_Law_law_1360 rfl
theorem dd_Law_law_1361 : decode (px_rw k_Law_law).2.1 1361 = .ok (.iaload, 1) := (by decide +kernel : decode code 1361 = .ok (.iaload, 1))
theorem e_Law_law_1361 (L : List Value) (i : Int32) (p : Nat) (st : List Value) (T : TS) (hp : (sh p).1 = 0) : rn k_Law_law 1361 L (.int i :: .ref p :: st) (enc T) = if px_in i (sh p).2 then rn k_Law_law 1362 L (.int (T.1 p i.toNatClampNeg) :: st) (enc T) else none := rn_iald dd_Law_law_1361 (Prod.ext hp rfl)
theorem e_Law_law_1361S (L : List Value) (i : Int32) (st : List Value) (T : TS) : rn k_Law_law 1361 L (.int i :: .ref 1002 :: st) (enc T) = if px_in i T.2.2.2 then rn k_Law_law 1362 L (.int (T.1 1002 i.toNatClampNeg) :: st) (enc T) else none := rn_iaS dd_Law_law_1361
theorem dd_Law_law_1362 : decode (px_rw k_Law_law).2.1 1362 = .ok (.ifCond .eq 7, 3) := (by decide +kernel : decode code 1362 = .ok (.ifCond .eq 7, 3))
theorem e_Law_law_1362 (L : List Value) (x : Int32) (st : List Value) (g : px_G) : rn k_Law_law 1362 L (.int x :: st) g = if x = 0 then rn k_Law_law 1369 L st g else rn k_Law_law 1365 L st g := rn_ifeq dd_Law_law_1362 (by decide)
theorem dd_Law_law_1365 : decode (px_rw k_Law_law).2.1 1365 = .ok (.iconst 1, 1) := (by decide +kernel : decode code 1365 = .ok (.iconst 1, 1))
theorem e_Law_law_1365 (L st : List Value) (g : px_G) : rn k_Law_law 1365 L st g = rn k_Law_law 1366 L (.int 1 :: st) g := rn_ipush (i := .iconst 1) dd_Law_law_1365 rfl rfl (by decide)
theorem dd_Law_law_1366 : decode (px_rw k_Law_law).2.1 1366 = .ok (.goto 4, 3) := (by decide +kernel : decode code 1366 = .ok (.goto 4, 3))
theorem e_Law_law_1366 (L st : List Value) (g : px_G) : rn k_Law_law 1366 L st g = rn k_Law_law 1370 L st g := rn_goto dd_Law_law_1366 (by decide)
theorem dd_Law_law_1369 : decode (px_rw k_Law_law).2.1 1369 = .ok (.iconst 0, 1) := (by decide +kernel : decode code 1369 = .ok (.iconst 0, 1))
theorem e_Law_law_1369 (L st : List Value) (g : px_G) : rn k_Law_law 1369 L st g = rn k_Law_law 1370 L (.int 0 :: st) g := rn_ipush (i := .iconst 0) dd_Law_law_1369 rfl rfl (by decide)
theorem dd_Law_law_1370 : decode (px_rw k_Law_law).2.1 1370 = .ok (.aload_n 0, 1) := (by decide +kernel : decode code 1370 = .ok (.aload_n 0, 1))
theorem e_Law_law_1370 (a1 a2 a3 a4 a5 a6 : Value) (x : Nat) (st : List Value) (g : px_G) : rn k_Law_law 1370 [.ref x, a1, a2, a3, a4, a5, a6] st g = rn k_Law_law 1371 [.ref x, a1, a2, a3, a4, a5, a6] (.ref x :: st) g := rn_next dd_Law_law_1370 rfl
theorem dd_Law_law_1371 : decode (px_rw k_Law_law).2.1 1371 = .ok (.iload 4, 2) := (by decide +kernel : decode code 1371 = .ok (.iload 4, 2))
theorem e_Law_law_1371 (a0 a1 a2 a3 a5 a6 : Value) (x : Int32) (st : List Value) (g : px_G) : rn k_Law_law 1371 [a0, a1, a2, a3, .int x, a5, a6] st g = rn k_Law_law 1373 [a0, a1, a2, a3, .int x, a5, a6] (.int x :: st) g := rn_next dd_Law_law_1371 rfl
theorem dd_Law_law_1373 : decode (px_rw k_Law_law).2.1 1373 = .ok (.iconst 5, 1) := (by decide +kernel : decode code 1373 = .ok (.iconst 5, 1))
theorem e_Law_law_1373 (L st : List Value) (g : px_G) : rn k_Law_law 1373 L st g = rn k_Law_law 1374 L (.int 5 :: st) g := rn_ipush (i := .iconst 5) dd_Law_law_1373 rfl rfl (by decide)
theorem dd_Law_law_1374 : decode (px_rw k_Law_law).2.1 1374 = .ok (.iadd, 1) := (by decide +kernel : decode code 1374 = .ok (.iadd, 1))
theorem e_Law_law_1374 (L : List Value) (x y : Int32) (st : List Value) (g : px_G) : rn k_Law_law 1374 L (.int y :: .int x :: st) g = rn k_Law_law 1375 L (.int (x + y) :: st) g := rn_next dd_Law_law_1374 rfl
theorem dd_Law_law_1375 : decode (px_rw k_Law_law).2.1 1375 = .ok (.iaload, 1) := (by decide +kernel : decode code 1375 = .ok (.iaload, 1))
theorem e_Law_law_1375 (L : List Value) (i : Int32) (p : Nat) (st : List Value) (T : TS) (hp : (sh p).1 = 0) : rn k_Law_law 1375 L (.int i :: .ref p :: st) (enc T) = if px_in i (sh p).2 then rn k_Law_law 1376 L (.int (T.1 p i.toNatClampNeg) :: st) (enc T) else none := rn_iald dd_Law_law_1375 (Prod.ext hp rfl)
theorem e_Law_law_1375S (L : List Value) (i : Int32) (st : List Value) (T : TS) : rn k_Law_law 1375 L (.int i :: .ref 1002 :: st) (enc T) = if px_in i T.2.2.2 then rn k_Law_law 1376 L (.int (T.1 1002 i.toNatClampNeg) :: st) (enc T) else none := rn_iaS dd_Law_law_1375
theorem dd_Law_law_1376 : decode (px_rw k_Law_law).2.1 1376 = .ok (.aload_n 0, 1) := (by decide +kernel : decode code 1376 = .ok (.aload_n 0, 1))
theorem e_Law_law_1376 (a1 a2 a3 a4 a5 a6 : Value) (x : Nat) (st : List Value) (g : px_G) : rn k_Law_law 1376 [.ref x, a1, a2, a3, a4, a5, a6] st g = rn k_Law_law 1377 [.ref x, a1, a2, a3, a4, a5, a6] (.ref x :: st) g := rn_next dd_Law_law_1376 rfl
theorem dd_Law_law_1377 : decode (px_rw k_Law_law).2.1 1377 = .ok (.iload 4, 2) := (by decide +kernel : decode code 1377 = .ok (.iload 4, 2))
theorem e_Law_law_1377 (a0 a1 a2 a3 a5 a6 : Value) (x : Int32) (st : List Value) (g : px_G) : rn k_Law_law 1377 [a0, a1, a2, a3, .int x, a5, a6] st g = rn k_Law_law 1379 [a0, a1, a2, a3, .int x, a5, a6] (.int x :: st) g := rn_next dd_Law_law_1377 rfl
theorem dd_Law_law_1379 : decode (px_rw k_Law_law).2.1 1379 = .ok (.bipush 6, 2) := (by decide +kernel : decode code 1379 = .ok (.bipush 6, 2))
theorem e_Law_law_1379 (L st : List Value) (g : px_G) : rn k_Law_law 1379 L st g = rn k_Law_law 1381 L (.int 6 :: st) g := rn_ipush (i := .bipush 6) dd_Law_law_1379 rfl rfl (by decide)
theorem dd_Law_law_1381 : decode (px_rw k_Law_law).2.1 1381 = .ok (.iadd, 1) := (by decide +kernel : decode code 1381 = .ok (.iadd, 1))
theorem e_Law_law_1381 (L : List Value) (x y : Int32) (st : List Value) (g : px_G) : rn k_Law_law 1381 L (.int y :: .int x :: st) g = rn k_Law_law 1382 L (.int (x + y) :: st) g := rn_next dd_Law_law_1381 rfl
theorem dd_Law_law_1382 : decode (px_rw k_Law_law).2.1 1382 = .ok (.iaload, 1) := (by decide +kernel : decode code 1382 = .ok (.iaload, 1))
theorem e_Law_law_1382 (L : List Value) (i : Int32) (p : Nat) (st : List Value) (T : TS) (hp : (sh p).1 = 0) : rn k_Law_law 1382 L (.int i :: .ref p :: st) (enc T) = if px_in i (sh p).2 then rn k_Law_law 1383 L (.int (T.1 p i.toNatClampNeg) :: st) (enc T) else none := rn_iald dd_Law_law_1382 (Prod.ext hp rfl)
theorem e_Law_law_1382S (L : List Value) (i : Int32) (st : List Value) (T : TS) : rn k_Law_law 1382 L (.int i :: .ref 1002 :: st) (enc T) = if px_in i T.2.2.2 then rn k_Law_law 1383 L (.int (T.1 1002 i.toNatClampNeg) :: st) (enc T) else none := rn_iaS dd_Law_law_1382
theorem dd_Law_law_1383 : decode (px_rw k_Law_law).2.1 1383 = .ok (.invokevirtual 133, 3) := (by decide +kernel : decode code 1383 = .ok (.invokevirtual 133, 3))
theorem e_Law_law_1383 (L : List Value) (i0 : Int32) (i1 : Int32) (i2 : Int32) (i3 : Int32) (i4 : Int32) (i5 : Int32) (i100 : Int32)  (T : TS)  : rn k_Law_law 1383 L [.int i5, .int i4, .int i3, .int i2, .int i1, .int i0, .ref 53, .int i100] (enc T) = bd (cl k_Dm_choose [.ref 53, .int i0, .int i1, .int i2, .int i3, .int i4, .int i5] (enc T)) (fun r g' => rn k_Law_law 1386 L (r.toList ++ [.int i100]) g') := rn_callV (n := 52) (As := [.int i0, .int i1, .int i2, .int i3, .int i4, .int i5]) (rest := [.int i100]) dd_Law_law_1383 rfl (by decide) (by decide) rfl rfl (Nat.le_of_ble_eq_true rfl) (Nat.le_of_ble_eq_true rfl) rfl
theorem dd_Law_law_1386 : decode (px_rw k_Law_law).2.1 1386 = .ok (.if_icmp .eq 375, 3) := (by decide +kernel : decode code 1386 = .ok (.if_icmp .eq 375, 3))
theorem e_Law_law_1386 (L : List Value) (x y : Int32) (st : List Value) (g : px_G) : rn k_Law_law 1386 L (.int y :: .int x :: st) g = if x = y then rn k_Law_law 1761 L st g else rn k_Law_law 1389 L st g := rn_iceq dd_Law_law_1386 (by decide)
theorem dd_Law_law_1389 : decode (px_rw k_Law_law).2.1 1389 = .ok (.iconst 0, 1) := (by decide +kernel : decode code 1389 = .ok (.iconst 0, 1))
theorem e_Law_law_1389 (L st : List Value) (g : px_G) : rn k_Law_law 1389 L st g = rn k_Law_law 1390 L (.int 0 :: st) g := rn_ipush (i := .iconst 0) dd_Law_law_1389 rfl rfl (by decide)
theorem dd_Law_law_1390 : decode (px_rw k_Law_law).2.1 1390 = .ok (.ireturn, 1) := (by decide +kernel : decode code 1390 = .ok (.ireturn, 1))
theorem e_Law_law_1390 (L : List Value) (v : Int32) (g : px_G) (hv : v = 0 ∨ v = 1) : rn k_Law_law 1390 L [.int v] g = some (some (.int v), g) := rn_zret dd_Law_law_1390 rfl hv
theorem dd_Law_law_1391 : decode (px_rw k_Law_law).2.1 1391 = .ok (.aload_n 1, 1) := (by decide +kernel : decode code 1391 = .ok (.aload_n 1, 1))
theorem e_Law_law_1391 (a0 a2 a3 a4 a5 a6 : Value) (x : Nat) (st : List Value) (g : px_G) : rn k_Law_law 1391 [a0, .ref x, a2, a3, a4, a5, a6] st g = rn k_Law_law 1392 [a0, .ref x, a2, a3, a4, a5, a6] (.ref x :: st) g := rn_next dd_Law_law_1391 rfl
theorem dd_Law_law_1392 : decode (px_rw k_Law_law).2.1 1392 = .ok (.aload_n 0, 1) := (by decide +kernel : decode code 1392 = .ok (.aload_n 0, 1))
theorem e_Law_law_1392 (a1 a2 a3 a4 a5 a6 : Value) (x : Nat) (st : List Value) (g : px_G) : rn k_Law_law 1392 [.ref x, a1, a2, a3, a4, a5, a6] st g = rn k_Law_law 1393 [.ref x, a1, a2, a3, a4, a5, a6] (.ref x :: st) g := rn_next dd_Law_law_1392 rfl
theorem dd_Law_law_1393 : decode (px_rw k_Law_law).2.1 1393 = .ok (.iload 4, 2) := (by decide +kernel : decode code 1393 = .ok (.iload 4, 2))
theorem e_Law_law_1393 (a0 a1 a2 a3 a5 a6 : Value) (x : Int32) (st : List Value) (g : px_G) : rn k_Law_law 1393 [a0, a1, a2, a3, .int x, a5, a6] st g = rn k_Law_law 1395 [a0, a1, a2, a3, .int x, a5, a6] (.int x :: st) g := rn_next dd_Law_law_1393 rfl
theorem dd_Law_law_1395 : decode (px_rw k_Law_law).2.1 1395 = .ok (.iconst 1, 1) := (by decide +kernel : decode code 1395 = .ok (.iconst 1, 1))
theorem e_Law_law_1395 (L st : List Value) (g : px_G) : rn k_Law_law 1395 L st g = rn k_Law_law 1396 L (.int 1 :: st) g := rn_ipush (i := .iconst 1) dd_Law_law_1395 rfl rfl (by decide)
theorem dd_Law_law_1396 : decode (px_rw k_Law_law).2.1 1396 = .ok (.iadd, 1) := (by decide +kernel : decode code 1396 = .ok (.iadd, 1))
theorem e_Law_law_1396 (L : List Value) (x y : Int32) (st : List Value) (g : px_G) : rn k_Law_law 1396 L (.int y :: .int x :: st) g = rn k_Law_law 1397 L (.int (x + y) :: st) g := rn_next dd_Law_law_1396 rfl
theorem dd_Law_law_1397 : decode (px_rw k_Law_law).2.1 1397 = .ok (.iaload, 1) := (by decide +kernel : decode code 1397 = .ok (.iaload, 1))
theorem e_Law_law_1397 (L : List Value) (i : Int32) (p : Nat) (st : List Value) (T : TS) (hp : (sh p).1 = 0) : rn k_Law_law 1397 L (.int i :: .ref p :: st) (enc T) = if px_in i (sh p).2 then rn k_Law_law 1398 L (.int (T.1 p i.toNatClampNeg) :: st) (enc T) else none := rn_iald dd_Law_law_1397 (Prod.ext hp rfl)
theorem e_Law_law_1397S (L : List Value) (i : Int32) (st : List Value) (T : TS) : rn k_Law_law 1397 L (.int i :: .ref 1002 :: st) (enc T) = if px_in i T.2.2.2 then rn k_Law_law 1398 L (.int (T.1 1002 i.toNatClampNeg) :: st) (enc T) else none := rn_iaS dd_Law_law_1397
theorem dd_Law_law_1398 : decode (px_rw k_Law_law).2.1 1398 = .ok (.aload_n 0, 1) := (by decide +kernel : decode code 1398 = .ok (.aload_n 0, 1))
theorem e_Law_law_1398 (a1 a2 a3 a4 a5 a6 : Value) (x : Nat) (st : List Value) (g : px_G) : rn k_Law_law 1398 [.ref x, a1, a2, a3, a4, a5, a6] st g = rn k_Law_law 1399 [.ref x, a1, a2, a3, a4, a5, a6] (.ref x :: st) g := rn_next dd_Law_law_1398 rfl
theorem dd_Law_law_1399 : decode (px_rw k_Law_law).2.1 1399 = .ok (.iload 4, 2) := (by decide +kernel : decode code 1399 = .ok (.iload 4, 2))
theorem e_Law_law_1399 (a0 a1 a2 a3 a5 a6 : Value) (x : Int32) (st : List Value) (g : px_G) : rn k_Law_law 1399 [a0, a1, a2, a3, .int x, a5, a6] st g = rn k_Law_law 1401 [a0, a1, a2, a3, .int x, a5, a6] (.int x :: st) g := rn_next dd_Law_law_1399 rfl
theorem dd_Law_law_1401 : decode (px_rw k_Law_law).2.1 1401 = .ok (.iconst 2, 1) := (by decide +kernel : decode code 1401 = .ok (.iconst 2, 1))
theorem e_Law_law_1401 (L st : List Value) (g : px_G) : rn k_Law_law 1401 L st g = rn k_Law_law 1402 L (.int 2 :: st) g := rn_ipush (i := .iconst 2) dd_Law_law_1401 rfl rfl (by decide)
theorem dd_Law_law_1402 : decode (px_rw k_Law_law).2.1 1402 = .ok (.iadd, 1) := (by decide +kernel : decode code 1402 = .ok (.iadd, 1))
theorem e_Law_law_1402 (L : List Value) (x y : Int32) (st : List Value) (g : px_G) : rn k_Law_law 1402 L (.int y :: .int x :: st) g = rn k_Law_law 1403 L (.int (x + y) :: st) g := rn_next dd_Law_law_1402 rfl
theorem dd_Law_law_1403 : decode (px_rw k_Law_law).2.1 1403 = .ok (.iaload, 1) := (by decide +kernel : decode code 1403 = .ok (.iaload, 1))
theorem e_Law_law_1403 (L : List Value) (i : Int32) (p : Nat) (st : List Value) (T : TS) (hp : (sh p).1 = 0) : rn k_Law_law 1403 L (.int i :: .ref p :: st) (enc T) = if px_in i (sh p).2 then rn k_Law_law 1404 L (.int (T.1 p i.toNatClampNeg) :: st) (enc T) else none := rn_iald dd_Law_law_1403 (Prod.ext hp rfl)
theorem e_Law_law_1403S (L : List Value) (i : Int32) (st : List Value) (T : TS) : rn k_Law_law 1403 L (.int i :: .ref 1002 :: st) (enc T) = if px_in i T.2.2.2 then rn k_Law_law 1404 L (.int (T.1 1002 i.toNatClampNeg) :: st) (enc T) else none := rn_iaS dd_Law_law_1403
theorem dd_Law_law_1404 : decode (px_rw k_Law_law).2.1 1404 = .ok (.invokevirtual 134, 3) := (by decide +kernel : decode code 1404 = .ok (.invokevirtual 134, 3))
theorem e_Law_law_1404 (L : List Value) (i0 : Int32) (i1 : Int32)  (T : TS)  : rn k_Law_law 1404 L [.int i1, .int i0, .ref 0] (enc T) = bd (cl k_Ds_bestTurn [.ref 0, .int i0, .int i1] (enc T)) (fun r g' => rn k_Law_law 1407 L (r.toList ++ []) g') := rn_callV (n := 13) (As := [.int i0, .int i1]) (rest := []) dd_Law_law_1404 rfl (by decide) (by decide) rfl rfl (Nat.le_of_ble_eq_true rfl) (Nat.le_of_ble_eq_true rfl) rfl
theorem dd_Law_law_1407 : decode (px_rw k_Law_law).2.1 1407 = .ok (.aload_n 2, 1) := (by decide +kernel : decode code 1407 = .ok (.aload_n 2, 1))
theorem e_Law_law_1407 (a0 a1 a3 a4 a5 a6 : Value) (x : Nat) (st : List Value) (g : px_G) : rn k_Law_law 1407 [a0, a1, .ref x, a3, a4, a5, a6] st g = rn k_Law_law 1408 [a0, a1, .ref x, a3, a4, a5, a6] (.ref x :: st) g := rn_next dd_Law_law_1407 rfl
theorem dd_Law_law_1408 : decode (px_rw k_Law_law).2.1 1408 = .ok (.aload_n 0, 1) := (by decide +kernel : decode code 1408 = .ok (.aload_n 0, 1))
theorem e_Law_law_1408 (a1 a2 a3 a4 a5 a6 : Value) (x : Nat) (st : List Value) (g : px_G) : rn k_Law_law 1408 [.ref x, a1, a2, a3, a4, a5, a6] st g = rn k_Law_law 1409 [.ref x, a1, a2, a3, a4, a5, a6] (.ref x :: st) g := rn_next dd_Law_law_1408 rfl
theorem dd_Law_law_1409 : decode (px_rw k_Law_law).2.1 1409 = .ok (.iload 4, 2) := (by decide +kernel : decode code 1409 = .ok (.iload 4, 2))
theorem e_Law_law_1409 (a0 a1 a2 a3 a5 a6 : Value) (x : Int32) (st : List Value) (g : px_G) : rn k_Law_law 1409 [a0, a1, a2, a3, .int x, a5, a6] st g = rn k_Law_law 1411 [a0, a1, a2, a3, .int x, a5, a6] (.int x :: st) g := rn_next dd_Law_law_1409 rfl
theorem dd_Law_law_1411 : decode (px_rw k_Law_law).2.1 1411 = .ok (.iconst 1, 1) := (by decide +kernel : decode code 1411 = .ok (.iconst 1, 1))
theorem e_Law_law_1411 (L st : List Value) (g : px_G) : rn k_Law_law 1411 L st g = rn k_Law_law 1412 L (.int 1 :: st) g := rn_ipush (i := .iconst 1) dd_Law_law_1411 rfl rfl (by decide)
theorem dd_Law_law_1412 : decode (px_rw k_Law_law).2.1 1412 = .ok (.iadd, 1) := (by decide +kernel : decode code 1412 = .ok (.iadd, 1))
theorem e_Law_law_1412 (L : List Value) (x y : Int32) (st : List Value) (g : px_G) : rn k_Law_law 1412 L (.int y :: .int x :: st) g = rn k_Law_law 1413 L (.int (x + y) :: st) g := rn_next dd_Law_law_1412 rfl
theorem dd_Law_law_1413 : decode (px_rw k_Law_law).2.1 1413 = .ok (.iaload, 1) := (by decide +kernel : decode code 1413 = .ok (.iaload, 1))
theorem e_Law_law_1413 (L : List Value) (i : Int32) (p : Nat) (st : List Value) (T : TS) (hp : (sh p).1 = 0) : rn k_Law_law 1413 L (.int i :: .ref p :: st) (enc T) = if px_in i (sh p).2 then rn k_Law_law 1414 L (.int (T.1 p i.toNatClampNeg) :: st) (enc T) else none := rn_iald dd_Law_law_1413 (Prod.ext hp rfl)
theorem e_Law_law_1413S (L : List Value) (i : Int32) (st : List Value) (T : TS) : rn k_Law_law 1413 L (.int i :: .ref 1002 :: st) (enc T) = if px_in i T.2.2.2 then rn k_Law_law 1414 L (.int (T.1 1002 i.toNatClampNeg) :: st) (enc T) else none := rn_iaS dd_Law_law_1413
theorem dd_Law_law_1414 : decode (px_rw k_Law_law).2.1 1414 = .ok (.aload_n 0, 1) := (by decide +kernel : decode code 1414 = .ok (.aload_n 0, 1))
theorem e_Law_law_1414 (a1 a2 a3 a4 a5 a6 : Value) (x : Nat) (st : List Value) (g : px_G) : rn k_Law_law 1414 [.ref x, a1, a2, a3, a4, a5, a6] st g = rn k_Law_law 1415 [.ref x, a1, a2, a3, a4, a5, a6] (.ref x :: st) g := rn_next dd_Law_law_1414 rfl
theorem dd_Law_law_1415 : decode (px_rw k_Law_law).2.1 1415 = .ok (.iload 4, 2) := (by decide +kernel : decode code 1415 = .ok (.iload 4, 2))
theorem e_Law_law_1415 (a0 a1 a2 a3 a5 a6 : Value) (x : Int32) (st : List Value) (g : px_G) : rn k_Law_law 1415 [a0, a1, a2, a3, .int x, a5, a6] st g = rn k_Law_law 1417 [a0, a1, a2, a3, .int x, a5, a6] (.int x :: st) g := rn_next dd_Law_law_1415 rfl
theorem dd_Law_law_1417 : decode (px_rw k_Law_law).2.1 1417 = .ok (.iconst 2, 1) := (by decide +kernel : decode code 1417 = .ok (.iconst 2, 1))
theorem e_Law_law_1417 (L st : List Value) (g : px_G) : rn k_Law_law 1417 L st g = rn k_Law_law 1418 L (.int 2 :: st) g := rn_ipush (i := .iconst 2) dd_Law_law_1417 rfl rfl (by decide)
theorem dd_Law_law_1418 : decode (px_rw k_Law_law).2.1 1418 = .ok (.iadd, 1) := (by decide +kernel : decode code 1418 = .ok (.iadd, 1))
theorem e_Law_law_1418 (L : List Value) (x y : Int32) (st : List Value) (g : px_G) : rn k_Law_law 1418 L (.int y :: .int x :: st) g = rn k_Law_law 1419 L (.int (x + y) :: st) g := rn_next dd_Law_law_1418 rfl
theorem dd_Law_law_1419 : decode (px_rw k_Law_law).2.1 1419 = .ok (.iaload, 1) := (by decide +kernel : decode code 1419 = .ok (.iaload, 1))
theorem e_Law_law_1419 (L : List Value) (i : Int32) (p : Nat) (st : List Value) (T : TS) (hp : (sh p).1 = 0) : rn k_Law_law 1419 L (.int i :: .ref p :: st) (enc T) = if px_in i (sh p).2 then rn k_Law_law 1420 L (.int (T.1 p i.toNatClampNeg) :: st) (enc T) else none := rn_iald dd_Law_law_1419 (Prod.ext hp rfl)
theorem e_Law_law_1419S (L : List Value) (i : Int32) (st : List Value) (T : TS) : rn k_Law_law 1419 L (.int i :: .ref 1002 :: st) (enc T) = if px_in i T.2.2.2 then rn k_Law_law 1420 L (.int (T.1 1002 i.toNatClampNeg) :: st) (enc T) else none := rn_iaS dd_Law_law_1419
theorem dd_Law_law_1420 : decode (px_rw k_Law_law).2.1 1420 = .ok (.invokevirtual 137, 3) := (by decide +kernel : decode code 1420 = .ok (.invokevirtual 137, 3))
theorem e_Law_law_1420 (L : List Value) (i0 : Int32) (i1 : Int32) (i100 : Int32)  (T : TS)  : rn k_Law_law 1420 L [.int i1, .int i0, .ref 53, .int i100] (enc T) = bd (cl k_Dm_bestTurn [.ref 53, .int i0, .int i1] (enc T)) (fun r g' => rn k_Law_law 1423 L (r.toList ++ [.int i100]) g') := rn_callV (n := 52) (As := [.int i0, .int i1]) (rest := [.int i100]) dd_Law_law_1420 rfl (by decide) (by decide) rfl rfl (Nat.le_of_ble_eq_true rfl) (Nat.le_of_ble_eq_true rfl) rfl
theorem dd_Law_law_1423 : decode (px_rw k_Law_law).2.1 1423 = .ok (.if_icmp .eq 338, 3) := (by decide +kernel : decode code 1423 = .ok (.if_icmp .eq 338, 3))
theorem e_Law_law_1423 (L : List Value) (x y : Int32) (st : List Value) (g : px_G) : rn k_Law_law 1423 L (.int y :: .int x :: st) g = if x = y then rn k_Law_law 1761 L st g else rn k_Law_law 1426 L st g := rn_iceq dd_Law_law_1423 (by decide)
theorem dd_Law_law_1426 : decode (px_rw k_Law_law).2.1 1426 = .ok (.iconst 0, 1) := (by decide +kernel : decode code 1426 = .ok (.iconst 0, 1))
theorem e_Law_law_1426 (L st : List Value) (g : px_G) : rn k_Law_law 1426 L st g = rn k_Law_law 1427 L (.int 0 :: st) g := rn_ipush (i := .iconst 0) dd_Law_law_1426 rfl rfl (by decide)
theorem dd_Law_law_1427 : decode (px_rw k_Law_law).2.1 1427 = .ok (.ireturn, 1) := (by decide +kernel : decode code 1427 = .ok (.ireturn, 1))
theorem e_Law_law_1427 (L : List Value) (v : Int32) (g : px_G) (hv : v = 0 ∨ v = 1) : rn k_Law_law 1427 L [.int v] g = some (some (.int v), g) := rn_zret dd_Law_law_1427 rfl hv
theorem dd_Law_law_1428 : decode (px_rw k_Law_law).2.1 1428 = .ok (.aload_n 1, 1) := (by decide +kernel : decode code 1428 = .ok (.aload_n 1, 1))
theorem e_Law_law_1428 (a0 a2 a3 a4 a5 a6 : Value) (x : Nat) (st : List Value) (g : px_G) : rn k_Law_law 1428 [a0, .ref x, a2, a3, a4, a5, a6] st g = rn k_Law_law 1429 [a0, .ref x, a2, a3, a4, a5, a6] (.ref x :: st) g := rn_next dd_Law_law_1428 rfl
theorem dd_Law_law_1429 : decode (px_rw k_Law_law).2.1 1429 = .ok (.aload_n 0, 1) := (by decide +kernel : decode code 1429 = .ok (.aload_n 0, 1))
theorem e_Law_law_1429 (a1 a2 a3 a4 a5 a6 : Value) (x : Nat) (st : List Value) (g : px_G) : rn k_Law_law 1429 [.ref x, a1, a2, a3, a4, a5, a6] st g = rn k_Law_law 1430 [.ref x, a1, a2, a3, a4, a5, a6] (.ref x :: st) g := rn_next dd_Law_law_1429 rfl
theorem dd_Law_law_1430 : decode (px_rw k_Law_law).2.1 1430 = .ok (.iload 4, 2) := (by decide +kernel : decode code 1430 = .ok (.iload 4, 2))
theorem e_Law_law_1430 (a0 a1 a2 a3 a5 a6 : Value) (x : Int32) (st : List Value) (g : px_G) : rn k_Law_law 1430 [a0, a1, a2, a3, .int x, a5, a6] st g = rn k_Law_law 1432 [a0, a1, a2, a3, .int x, a5, a6] (.int x :: st) g := rn_next dd_Law_law_1430 rfl
theorem dd_Law_law_1432 : decode (px_rw k_Law_law).2.1 1432 = .ok (.iconst 1, 1) := (by decide +kernel : decode code 1432 = .ok (.iconst 1, 1))
theorem e_Law_law_1432 (L st : List Value) (g : px_G) : rn k_Law_law 1432 L st g = rn k_Law_law 1433 L (.int 1 :: st) g := rn_ipush (i := .iconst 1) dd_Law_law_1432 rfl rfl (by decide)
theorem dd_Law_law_1433 : decode (px_rw k_Law_law).2.1 1433 = .ok (.iadd, 1) := (by decide +kernel : decode code 1433 = .ok (.iadd, 1))
theorem e_Law_law_1433 (L : List Value) (x y : Int32) (st : List Value) (g : px_G) : rn k_Law_law 1433 L (.int y :: .int x :: st) g = rn k_Law_law 1434 L (.int (x + y) :: st) g := rn_next dd_Law_law_1433 rfl
theorem dd_Law_law_1434 : decode (px_rw k_Law_law).2.1 1434 = .ok (.iaload, 1) := (by decide +kernel : decode code 1434 = .ok (.iaload, 1))
theorem e_Law_law_1434 (L : List Value) (i : Int32) (p : Nat) (st : List Value) (T : TS) (hp : (sh p).1 = 0) : rn k_Law_law 1434 L (.int i :: .ref p :: st) (enc T) = if px_in i (sh p).2 then rn k_Law_law 1435 L (.int (T.1 p i.toNatClampNeg) :: st) (enc T) else none := rn_iald dd_Law_law_1434 (Prod.ext hp rfl)
theorem e_Law_law_1434S (L : List Value) (i : Int32) (st : List Value) (T : TS) : rn k_Law_law 1434 L (.int i :: .ref 1002 :: st) (enc T) = if px_in i T.2.2.2 then rn k_Law_law 1435 L (.int (T.1 1002 i.toNatClampNeg) :: st) (enc T) else none := rn_iaS dd_Law_law_1434
theorem dd_Law_law_1435 : decode (px_rw k_Law_law).2.1 1435 = .ok (.aload_n 0, 1) := (by decide +kernel : decode code 1435 = .ok (.aload_n 0, 1))
theorem e_Law_law_1435 (a1 a2 a3 a4 a5 a6 : Value) (x : Nat) (st : List Value) (g : px_G) : rn k_Law_law 1435 [.ref x, a1, a2, a3, a4, a5, a6] st g = rn k_Law_law 1436 [.ref x, a1, a2, a3, a4, a5, a6] (.ref x :: st) g := rn_next dd_Law_law_1435 rfl
theorem dd_Law_law_1436 : decode (px_rw k_Law_law).2.1 1436 = .ok (.iload 4, 2) := (by decide +kernel : decode code 1436 = .ok (.iload 4, 2))
theorem e_Law_law_1436 (a0 a1 a2 a3 a5 a6 : Value) (x : Int32) (st : List Value) (g : px_G) : rn k_Law_law 1436 [a0, a1, a2, a3, .int x, a5, a6] st g = rn k_Law_law 1438 [a0, a1, a2, a3, .int x, a5, a6] (.int x :: st) g := rn_next dd_Law_law_1436 rfl
theorem dd_Law_law_1438 : decode (px_rw k_Law_law).2.1 1438 = .ok (.iconst 2, 1) := (by decide +kernel : decode code 1438 = .ok (.iconst 2, 1))
theorem e_Law_law_1438 (L st : List Value) (g : px_G) : rn k_Law_law 1438 L st g = rn k_Law_law 1439 L (.int 2 :: st) g := rn_ipush (i := .iconst 2) dd_Law_law_1438 rfl rfl (by decide)
theorem dd_Law_law_1439 : decode (px_rw k_Law_law).2.1 1439 = .ok (.iadd, 1) := (by decide +kernel : decode code 1439 = .ok (.iadd, 1))
theorem e_Law_law_1439 (L : List Value) (x y : Int32) (st : List Value) (g : px_G) : rn k_Law_law 1439 L (.int y :: .int x :: st) g = rn k_Law_law 1440 L (.int (x + y) :: st) g := rn_next dd_Law_law_1439 rfl
theorem dd_Law_law_1440 : decode (px_rw k_Law_law).2.1 1440 = .ok (.iaload, 1) := (by decide +kernel : decode code 1440 = .ok (.iaload, 1))
theorem e_Law_law_1440 (L : List Value) (i : Int32) (p : Nat) (st : List Value) (T : TS) (hp : (sh p).1 = 0) : rn k_Law_law 1440 L (.int i :: .ref p :: st) (enc T) = if px_in i (sh p).2 then rn k_Law_law 1441 L (.int (T.1 p i.toNatClampNeg) :: st) (enc T) else none := rn_iald dd_Law_law_1440 (Prod.ext hp rfl)
theorem e_Law_law_1440S (L : List Value) (i : Int32) (st : List Value) (T : TS) : rn k_Law_law 1440 L (.int i :: .ref 1002 :: st) (enc T) = if px_in i T.2.2.2 then rn k_Law_law 1441 L (.int (T.1 1002 i.toNatClampNeg) :: st) (enc T) else none := rn_iaS dd_Law_law_1440
theorem dd_Law_law_1441 : decode (px_rw k_Law_law).2.1 1441 = .ok (.aload_n 0, 1) := (by decide +kernel : decode code 1441 = .ok (.aload_n 0, 1))
theorem e_Law_law_1441 (a1 a2 a3 a4 a5 a6 : Value) (x : Nat) (st : List Value) (g : px_G) : rn k_Law_law 1441 [.ref x, a1, a2, a3, a4, a5, a6] st g = rn k_Law_law 1442 [.ref x, a1, a2, a3, a4, a5, a6] (.ref x :: st) g := rn_next dd_Law_law_1441 rfl
theorem dd_Law_law_1442 : decode (px_rw k_Law_law).2.1 1442 = .ok (.iload 4, 2) := (by decide +kernel : decode code 1442 = .ok (.iload 4, 2))
theorem e_Law_law_1442 (a0 a1 a2 a3 a5 a6 : Value) (x : Int32) (st : List Value) (g : px_G) : rn k_Law_law 1442 [a0, a1, a2, a3, .int x, a5, a6] st g = rn k_Law_law 1444 [a0, a1, a2, a3, .int x, a5, a6] (.int x :: st) g := rn_next dd_Law_law_1442 rfl
theorem dd_Law_law_1444 : decode (px_rw k_Law_law).2.1 1444 = .ok (.iconst 3, 1) := (by decide +kernel : decode code 1444 = .ok (.iconst 3, 1))
theorem e_Law_law_1444 (L st : List Value) (g : px_G) : rn k_Law_law 1444 L st g = rn k_Law_law 1445 L (.int 3 :: st) g := rn_ipush (i := .iconst 3) dd_Law_law_1444 rfl rfl (by decide)
theorem dd_Law_law_1445 : decode (px_rw k_Law_law).2.1 1445 = .ok (.iadd, 1) := (by decide +kernel : decode code 1445 = .ok (.iadd, 1))
theorem e_Law_law_1445 (L : List Value) (x y : Int32) (st : List Value) (g : px_G) : rn k_Law_law 1445 L (.int y :: .int x :: st) g = rn k_Law_law 1446 L (.int (x + y) :: st) g := rn_next dd_Law_law_1445 rfl
theorem dd_Law_law_1446 : decode (px_rw k_Law_law).2.1 1446 = .ok (.iaload, 1) := (by decide +kernel : decode code 1446 = .ok (.iaload, 1))
theorem e_Law_law_1446 (L : List Value) (i : Int32) (p : Nat) (st : List Value) (T : TS) (hp : (sh p).1 = 0) : rn k_Law_law 1446 L (.int i :: .ref p :: st) (enc T) = if px_in i (sh p).2 then rn k_Law_law 1447 L (.int (T.1 p i.toNatClampNeg) :: st) (enc T) else none := rn_iald dd_Law_law_1446 (Prod.ext hp rfl)
theorem e_Law_law_1446S (L : List Value) (i : Int32) (st : List Value) (T : TS) : rn k_Law_law 1446 L (.int i :: .ref 1002 :: st) (enc T) = if px_in i T.2.2.2 then rn k_Law_law 1447 L (.int (T.1 1002 i.toNatClampNeg) :: st) (enc T) else none := rn_iaS dd_Law_law_1446
theorem dd_Law_law_1447 : decode (px_rw k_Law_law).2.1 1447 = .ok (.aload_n 0, 1) := (by decide +kernel : decode code 1447 = .ok (.aload_n 0, 1))
theorem e_Law_law_1447 (a1 a2 a3 a4 a5 a6 : Value) (x : Nat) (st : List Value) (g : px_G) : rn k_Law_law 1447 [.ref x, a1, a2, a3, a4, a5, a6] st g = rn k_Law_law 1448 [.ref x, a1, a2, a3, a4, a5, a6] (.ref x :: st) g := rn_next dd_Law_law_1447 rfl
theorem dd_Law_law_1448 : decode (px_rw k_Law_law).2.1 1448 = .ok (.iload 4, 2) := (by decide +kernel : decode code 1448 = .ok (.iload 4, 2))
theorem e_Law_law_1448 (a0 a1 a2 a3 a5 a6 : Value) (x : Int32) (st : List Value) (g : px_G) : rn k_Law_law 1448 [a0, a1, a2, a3, .int x, a5, a6] st g = rn k_Law_law 1450 [a0, a1, a2, a3, .int x, a5, a6] (.int x :: st) g := rn_next dd_Law_law_1448 rfl
theorem dd_Law_law_1450 : decode (px_rw k_Law_law).2.1 1450 = .ok (.iconst 4, 1) := (by decide +kernel : decode code 1450 = .ok (.iconst 4, 1))
theorem e_Law_law_1450 (L st : List Value) (g : px_G) : rn k_Law_law 1450 L st g = rn k_Law_law 1451 L (.int 4 :: st) g := rn_ipush (i := .iconst 4) dd_Law_law_1450 rfl rfl (by decide)
theorem dd_Law_law_1451 : decode (px_rw k_Law_law).2.1 1451 = .ok (.iadd, 1) := (by decide +kernel : decode code 1451 = .ok (.iadd, 1))
theorem e_Law_law_1451 (L : List Value) (x y : Int32) (st : List Value) (g : px_G) : rn k_Law_law 1451 L (.int y :: .int x :: st) g = rn k_Law_law 1452 L (.int (x + y) :: st) g := rn_next dd_Law_law_1451 rfl
theorem dd_Law_law_1452 : decode (px_rw k_Law_law).2.1 1452 = .ok (.iaload, 1) := (by decide +kernel : decode code 1452 = .ok (.iaload, 1))
theorem e_Law_law_1452 (L : List Value) (i : Int32) (p : Nat) (st : List Value) (T : TS) (hp : (sh p).1 = 0) : rn k_Law_law 1452 L (.int i :: .ref p :: st) (enc T) = if px_in i (sh p).2 then rn k_Law_law 1453 L (.int (T.1 p i.toNatClampNeg) :: st) (enc T) else none := rn_iald dd_Law_law_1452 (Prod.ext hp rfl)
theorem e_Law_law_1452S (L : List Value) (i : Int32) (st : List Value) (T : TS) : rn k_Law_law 1452 L (.int i :: .ref 1002 :: st) (enc T) = if px_in i T.2.2.2 then rn k_Law_law 1453 L (.int (T.1 1002 i.toNatClampNeg) :: st) (enc T) else none := rn_iaS dd_Law_law_1452
theorem dd_Law_law_1453 : decode (px_rw k_Law_law).2.1 1453 = .ok (.aload_n 0, 1) := (by decide +kernel : decode code 1453 = .ok (.aload_n 0, 1))
theorem e_Law_law_1453 (a1 a2 a3 a4 a5 a6 : Value) (x : Nat) (st : List Value) (g : px_G) : rn k_Law_law 1453 [.ref x, a1, a2, a3, a4, a5, a6] st g = rn k_Law_law 1454 [.ref x, a1, a2, a3, a4, a5, a6] (.ref x :: st) g := rn_next dd_Law_law_1453 rfl
theorem dd_Law_law_1454 : decode (px_rw k_Law_law).2.1 1454 = .ok (.iload 4, 2) := (by decide +kernel : decode code 1454 = .ok (.iload 4, 2))
theorem e_Law_law_1454 (a0 a1 a2 a3 a5 a6 : Value) (x : Int32) (st : List Value) (g : px_G) : rn k_Law_law 1454 [a0, a1, a2, a3, .int x, a5, a6] st g = rn k_Law_law 1456 [a0, a1, a2, a3, .int x, a5, a6] (.int x :: st) g := rn_next dd_Law_law_1454 rfl
theorem dd_Law_law_1456 : decode (px_rw k_Law_law).2.1 1456 = .ok (.iconst 5, 1) := (by decide +kernel : decode code 1456 = .ok (.iconst 5, 1))
theorem e_Law_law_1456 (L st : List Value) (g : px_G) : rn k_Law_law 1456 L st g = rn k_Law_law 1457 L (.int 5 :: st) g := rn_ipush (i := .iconst 5) dd_Law_law_1456 rfl rfl (by decide)
theorem dd_Law_law_1457 : decode (px_rw k_Law_law).2.1 1457 = .ok (.iadd, 1) := (by decide +kernel : decode code 1457 = .ok (.iadd, 1))
theorem e_Law_law_1457 (L : List Value) (x y : Int32) (st : List Value) (g : px_G) : rn k_Law_law 1457 L (.int y :: .int x :: st) g = rn k_Law_law 1458 L (.int (x + y) :: st) g := rn_next dd_Law_law_1457 rfl
theorem dd_Law_law_1458 : decode (px_rw k_Law_law).2.1 1458 = .ok (.iaload, 1) := (by decide +kernel : decode code 1458 = .ok (.iaload, 1))
theorem e_Law_law_1458 (L : List Value) (i : Int32) (p : Nat) (st : List Value) (T : TS) (hp : (sh p).1 = 0) : rn k_Law_law 1458 L (.int i :: .ref p :: st) (enc T) = if px_in i (sh p).2 then rn k_Law_law 1459 L (.int (T.1 p i.toNatClampNeg) :: st) (enc T) else none := rn_iald dd_Law_law_1458 (Prod.ext hp rfl)
theorem e_Law_law_1458S (L : List Value) (i : Int32) (st : List Value) (T : TS) : rn k_Law_law 1458 L (.int i :: .ref 1002 :: st) (enc T) = if px_in i T.2.2.2 then rn k_Law_law 1459 L (.int (T.1 1002 i.toNatClampNeg) :: st) (enc T) else none := rn_iaS dd_Law_law_1458
theorem dd_Law_law_1459 : decode (px_rw k_Law_law).2.1 1459 = .ok (.invokevirtual 138, 3) := (by decide +kernel : decode code 1459 = .ok (.invokevirtual 138, 3))
theorem e_Law_law_1459 (L : List Value) (i0 : Int32) (i1 : Int32) (i2 : Int32) (i3 : Int32) (i4 : Int32)  (T : TS)  : rn k_Law_law 1459 L [.int i4, .int i3, .int i2, .int i1, .int i0, .ref 0] (enc T) = bd (cl k_Ds_screen [.ref 0, .int i0, .int i1, .int i2, .int i3, .int i4] (enc T)) (fun r g' => rn k_Law_law 1462 L (r.toList ++ []) g') := rn_callV (n := 13) (As := [.int i0, .int i1, .int i2, .int i3, .int i4]) (rest := []) dd_Law_law_1459 rfl (by decide) (by decide) rfl rfl (Nat.le_of_ble_eq_true rfl) (Nat.le_of_ble_eq_true rfl) rfl
theorem dd_Law_law_1462 : decode (px_rw k_Law_law).2.1 1462 = .ok (.aload_n 2, 1) := (by decide +kernel : decode code 1462 = .ok (.aload_n 2, 1))
theorem e_Law_law_1462 (a0 a1 a3 a4 a5 a6 : Value) (x : Nat) (st : List Value) (g : px_G) : rn k_Law_law 1462 [a0, a1, .ref x, a3, a4, a5, a6] st g = rn k_Law_law 1463 [a0, a1, .ref x, a3, a4, a5, a6] (.ref x :: st) g := rn_next dd_Law_law_1462 rfl
theorem dd_Law_law_1463 : decode (px_rw k_Law_law).2.1 1463 = .ok (.aload_n 0, 1) := (by decide +kernel : decode code 1463 = .ok (.aload_n 0, 1))
theorem e_Law_law_1463 (a1 a2 a3 a4 a5 a6 : Value) (x : Nat) (st : List Value) (g : px_G) : rn k_Law_law 1463 [.ref x, a1, a2, a3, a4, a5, a6] st g = rn k_Law_law 1464 [.ref x, a1, a2, a3, a4, a5, a6] (.ref x :: st) g := rn_next dd_Law_law_1463 rfl
theorem dd_Law_law_1464 : decode (px_rw k_Law_law).2.1 1464 = .ok (.iload 4, 2) := (by decide +kernel : decode code 1464 = .ok (.iload 4, 2))
theorem e_Law_law_1464 (a0 a1 a2 a3 a5 a6 : Value) (x : Int32) (st : List Value) (g : px_G) : rn k_Law_law 1464 [a0, a1, a2, a3, .int x, a5, a6] st g = rn k_Law_law 1466 [a0, a1, a2, a3, .int x, a5, a6] (.int x :: st) g := rn_next dd_Law_law_1464 rfl
theorem dd_Law_law_1466 : decode (px_rw k_Law_law).2.1 1466 = .ok (.iconst 1, 1) := (by decide +kernel : decode code 1466 = .ok (.iconst 1, 1))
theorem e_Law_law_1466 (L st : List Value) (g : px_G) : rn k_Law_law 1466 L st g = rn k_Law_law 1467 L (.int 1 :: st) g := rn_ipush (i := .iconst 1) dd_Law_law_1466 rfl rfl (by decide)
theorem dd_Law_law_1467 : decode (px_rw k_Law_law).2.1 1467 = .ok (.iadd, 1) := (by decide +kernel : decode code 1467 = .ok (.iadd, 1))
theorem e_Law_law_1467 (L : List Value) (x y : Int32) (st : List Value) (g : px_G) : rn k_Law_law 1467 L (.int y :: .int x :: st) g = rn k_Law_law 1468 L (.int (x + y) :: st) g := rn_next dd_Law_law_1467 rfl
theorem dd_Law_law_1468 : decode (px_rw k_Law_law).2.1 1468 = .ok (.iaload, 1) := (by decide +kernel : decode code 1468 = .ok (.iaload, 1))
theorem e_Law_law_1468 (L : List Value) (i : Int32) (p : Nat) (st : List Value) (T : TS) (hp : (sh p).1 = 0) : rn k_Law_law 1468 L (.int i :: .ref p :: st) (enc T) = if px_in i (sh p).2 then rn k_Law_law 1469 L (.int (T.1 p i.toNatClampNeg) :: st) (enc T) else none := rn_iald dd_Law_law_1468 (Prod.ext hp rfl)
theorem e_Law_law_1468S (L : List Value) (i : Int32) (st : List Value) (T : TS) : rn k_Law_law 1468 L (.int i :: .ref 1002 :: st) (enc T) = if px_in i T.2.2.2 then rn k_Law_law 1469 L (.int (T.1 1002 i.toNatClampNeg) :: st) (enc T) else none := rn_iaS dd_Law_law_1468
theorem dd_Law_law_1469 : decode (px_rw k_Law_law).2.1 1469 = .ok (.aload_n 0, 1) := (by decide +kernel : decode code 1469 = .ok (.aload_n 0, 1))
theorem e_Law_law_1469 (a1 a2 a3 a4 a5 a6 : Value) (x : Nat) (st : List Value) (g : px_G) : rn k_Law_law 1469 [.ref x, a1, a2, a3, a4, a5, a6] st g = rn k_Law_law 1470 [.ref x, a1, a2, a3, a4, a5, a6] (.ref x :: st) g := rn_next dd_Law_law_1469 rfl
theorem dd_Law_law_1470 : decode (px_rw k_Law_law).2.1 1470 = .ok (.iload 4, 2) := (by decide +kernel : decode code 1470 = .ok (.iload 4, 2))
theorem e_Law_law_1470 (a0 a1 a2 a3 a5 a6 : Value) (x : Int32) (st : List Value) (g : px_G) : rn k_Law_law 1470 [a0, a1, a2, a3, .int x, a5, a6] st g = rn k_Law_law 1472 [a0, a1, a2, a3, .int x, a5, a6] (.int x :: st) g := rn_next dd_Law_law_1470 rfl
theorem dd_Law_law_1472 : decode (px_rw k_Law_law).2.1 1472 = .ok (.iconst 2, 1) := (by decide +kernel : decode code 1472 = .ok (.iconst 2, 1))
theorem e_Law_law_1472 (L st : List Value) (g : px_G) : rn k_Law_law 1472 L st g = rn k_Law_law 1473 L (.int 2 :: st) g := rn_ipush (i := .iconst 2) dd_Law_law_1472 rfl rfl (by decide)
theorem dd_Law_law_1473 : decode (px_rw k_Law_law).2.1 1473 = .ok (.iadd, 1) := (by decide +kernel : decode code 1473 = .ok (.iadd, 1))
theorem e_Law_law_1473 (L : List Value) (x y : Int32) (st : List Value) (g : px_G) : rn k_Law_law 1473 L (.int y :: .int x :: st) g = rn k_Law_law 1474 L (.int (x + y) :: st) g := rn_next dd_Law_law_1473 rfl
theorem dd_Law_law_1474 : decode (px_rw k_Law_law).2.1 1474 = .ok (.iaload, 1) := (by decide +kernel : decode code 1474 = .ok (.iaload, 1))
theorem e_Law_law_1474 (L : List Value) (i : Int32) (p : Nat) (st : List Value) (T : TS) (hp : (sh p).1 = 0) : rn k_Law_law 1474 L (.int i :: .ref p :: st) (enc T) = if px_in i (sh p).2 then rn k_Law_law 1475 L (.int (T.1 p i.toNatClampNeg) :: st) (enc T) else none := rn_iald dd_Law_law_1474 (Prod.ext hp rfl)
theorem e_Law_law_1474S (L : List Value) (i : Int32) (st : List Value) (T : TS) : rn k_Law_law 1474 L (.int i :: .ref 1002 :: st) (enc T) = if px_in i T.2.2.2 then rn k_Law_law 1475 L (.int (T.1 1002 i.toNatClampNeg) :: st) (enc T) else none := rn_iaS dd_Law_law_1474
theorem dd_Law_law_1475 : decode (px_rw k_Law_law).2.1 1475 = .ok (.aload_n 0, 1) := (by decide +kernel : decode code 1475 = .ok (.aload_n 0, 1))
theorem e_Law_law_1475 (a1 a2 a3 a4 a5 a6 : Value) (x : Nat) (st : List Value) (g : px_G) : rn k_Law_law 1475 [.ref x, a1, a2, a3, a4, a5, a6] st g = rn k_Law_law 1476 [.ref x, a1, a2, a3, a4, a5, a6] (.ref x :: st) g := rn_next dd_Law_law_1475 rfl
theorem dd_Law_law_1476 : decode (px_rw k_Law_law).2.1 1476 = .ok (.iload 4, 2) := (by decide +kernel : decode code 1476 = .ok (.iload 4, 2))
theorem e_Law_law_1476 (a0 a1 a2 a3 a5 a6 : Value) (x : Int32) (st : List Value) (g : px_G) : rn k_Law_law 1476 [a0, a1, a2, a3, .int x, a5, a6] st g = rn k_Law_law 1478 [a0, a1, a2, a3, .int x, a5, a6] (.int x :: st) g := rn_next dd_Law_law_1476 rfl
theorem dd_Law_law_1478 : decode (px_rw k_Law_law).2.1 1478 = .ok (.iconst 3, 1) := (by decide +kernel : decode code 1478 = .ok (.iconst 3, 1))
theorem e_Law_law_1478 (L st : List Value) (g : px_G) : rn k_Law_law 1478 L st g = rn k_Law_law 1479 L (.int 3 :: st) g := rn_ipush (i := .iconst 3) dd_Law_law_1478 rfl rfl (by decide)
theorem dd_Law_law_1479 : decode (px_rw k_Law_law).2.1 1479 = .ok (.iadd, 1) := (by decide +kernel : decode code 1479 = .ok (.iadd, 1))
theorem e_Law_law_1479 (L : List Value) (x y : Int32) (st : List Value) (g : px_G) : rn k_Law_law 1479 L (.int y :: .int x :: st) g = rn k_Law_law 1480 L (.int (x + y) :: st) g := rn_next dd_Law_law_1479 rfl
theorem dd_Law_law_1480 : decode (px_rw k_Law_law).2.1 1480 = .ok (.iaload, 1) := (by decide +kernel : decode code 1480 = .ok (.iaload, 1))
theorem e_Law_law_1480 (L : List Value) (i : Int32) (p : Nat) (st : List Value) (T : TS) (hp : (sh p).1 = 0) : rn k_Law_law 1480 L (.int i :: .ref p :: st) (enc T) = if px_in i (sh p).2 then rn k_Law_law 1481 L (.int (T.1 p i.toNatClampNeg) :: st) (enc T) else none := rn_iald dd_Law_law_1480 (Prod.ext hp rfl)
theorem e_Law_law_1480S (L : List Value) (i : Int32) (st : List Value) (T : TS) : rn k_Law_law 1480 L (.int i :: .ref 1002 :: st) (enc T) = if px_in i T.2.2.2 then rn k_Law_law 1481 L (.int (T.1 1002 i.toNatClampNeg) :: st) (enc T) else none := rn_iaS dd_Law_law_1480
theorem dd_Law_law_1481 : decode (px_rw k_Law_law).2.1 1481 = .ok (.aload_n 0, 1) := (by decide +kernel : decode code 1481 = .ok (.aload_n 0, 1))
theorem e_Law_law_1481 (a1 a2 a3 a4 a5 a6 : Value) (x : Nat) (st : List Value) (g : px_G) : rn k_Law_law 1481 [.ref x, a1, a2, a3, a4, a5, a6] st g = rn k_Law_law 1482 [.ref x, a1, a2, a3, a4, a5, a6] (.ref x :: st) g := rn_next dd_Law_law_1481 rfl
theorem dd_Law_law_1482 : decode (px_rw k_Law_law).2.1 1482 = .ok (.iload 4, 2) := (by decide +kernel : decode code 1482 = .ok (.iload 4, 2))
theorem e_Law_law_1482 (a0 a1 a2 a3 a5 a6 : Value) (x : Int32) (st : List Value) (g : px_G) : rn k_Law_law 1482 [a0, a1, a2, a3, .int x, a5, a6] st g = rn k_Law_law 1484 [a0, a1, a2, a3, .int x, a5, a6] (.int x :: st) g := rn_next dd_Law_law_1482 rfl
theorem dd_Law_law_1484 : decode (px_rw k_Law_law).2.1 1484 = .ok (.iconst 4, 1) := (by decide +kernel : decode code 1484 = .ok (.iconst 4, 1))
theorem e_Law_law_1484 (L st : List Value) (g : px_G) : rn k_Law_law 1484 L st g = rn k_Law_law 1485 L (.int 4 :: st) g := rn_ipush (i := .iconst 4) dd_Law_law_1484 rfl rfl (by decide)
theorem dd_Law_law_1485 : decode (px_rw k_Law_law).2.1 1485 = .ok (.iadd, 1) := (by decide +kernel : decode code 1485 = .ok (.iadd, 1))
theorem e_Law_law_1485 (L : List Value) (x y : Int32) (st : List Value) (g : px_G) : rn k_Law_law 1485 L (.int y :: .int x :: st) g = rn k_Law_law 1486 L (.int (x + y) :: st) g := rn_next dd_Law_law_1485 rfl
theorem dd_Law_law_1486 : decode (px_rw k_Law_law).2.1 1486 = .ok (.iaload, 1) := (by decide +kernel : decode code 1486 = .ok (.iaload, 1))
theorem e_Law_law_1486 (L : List Value) (i : Int32) (p : Nat) (st : List Value) (T : TS) (hp : (sh p).1 = 0) : rn k_Law_law 1486 L (.int i :: .ref p :: st) (enc T) = if px_in i (sh p).2 then rn k_Law_law 1487 L (.int (T.1 p i.toNatClampNeg) :: st) (enc T) else none := rn_iald dd_Law_law_1486 (Prod.ext hp rfl)
theorem e_Law_law_1486S (L : List Value) (i : Int32) (st : List Value) (T : TS) : rn k_Law_law 1486 L (.int i :: .ref 1002 :: st) (enc T) = if px_in i T.2.2.2 then rn k_Law_law 1487 L (.int (T.1 1002 i.toNatClampNeg) :: st) (enc T) else none := rn_iaS dd_Law_law_1486
theorem dd_Law_law_1487 : decode (px_rw k_Law_law).2.1 1487 = .ok (.aload_n 0, 1) := (by decide +kernel : decode code 1487 = .ok (.aload_n 0, 1))
theorem e_Law_law_1487 (a1 a2 a3 a4 a5 a6 : Value) (x : Nat) (st : List Value) (g : px_G) : rn k_Law_law 1487 [.ref x, a1, a2, a3, a4, a5, a6] st g = rn k_Law_law 1488 [.ref x, a1, a2, a3, a4, a5, a6] (.ref x :: st) g := rn_next dd_Law_law_1487 rfl
theorem dd_Law_law_1488 : decode (px_rw k_Law_law).2.1 1488 = .ok (.iload 4, 2) := (by decide +kernel : decode code 1488 = .ok (.iload 4, 2))
theorem e_Law_law_1488 (a0 a1 a2 a3 a5 a6 : Value) (x : Int32) (st : List Value) (g : px_G) : rn k_Law_law 1488 [a0, a1, a2, a3, .int x, a5, a6] st g = rn k_Law_law 1490 [a0, a1, a2, a3, .int x, a5, a6] (.int x :: st) g := rn_next dd_Law_law_1488 rfl
theorem dd_Law_law_1490 : decode (px_rw k_Law_law).2.1 1490 = .ok (.iconst 5, 1) := (by decide +kernel : decode code 1490 = .ok (.iconst 5, 1))
theorem e_Law_law_1490 (L st : List Value) (g : px_G) : rn k_Law_law 1490 L st g = rn k_Law_law 1491 L (.int 5 :: st) g := rn_ipush (i := .iconst 5) dd_Law_law_1490 rfl rfl (by decide)
theorem dd_Law_law_1491 : decode (px_rw k_Law_law).2.1 1491 = .ok (.iadd, 1) := (by decide +kernel : decode code 1491 = .ok (.iadd, 1))
theorem e_Law_law_1491 (L : List Value) (x y : Int32) (st : List Value) (g : px_G) : rn k_Law_law 1491 L (.int y :: .int x :: st) g = rn k_Law_law 1492 L (.int (x + y) :: st) g := rn_next dd_Law_law_1491 rfl
theorem dd_Law_law_1492 : decode (px_rw k_Law_law).2.1 1492 = .ok (.iaload, 1) := (by decide +kernel : decode code 1492 = .ok (.iaload, 1))
theorem e_Law_law_1492 (L : List Value) (i : Int32) (p : Nat) (st : List Value) (T : TS) (hp : (sh p).1 = 0) : rn k_Law_law 1492 L (.int i :: .ref p :: st) (enc T) = if px_in i (sh p).2 then rn k_Law_law 1493 L (.int (T.1 p i.toNatClampNeg) :: st) (enc T) else none := rn_iald dd_Law_law_1492 (Prod.ext hp rfl)
theorem e_Law_law_1492S (L : List Value) (i : Int32) (st : List Value) (T : TS) : rn k_Law_law 1492 L (.int i :: .ref 1002 :: st) (enc T) = if px_in i T.2.2.2 then rn k_Law_law 1493 L (.int (T.1 1002 i.toNatClampNeg) :: st) (enc T) else none := rn_iaS dd_Law_law_1492
theorem dd_Law_law_1493 : decode (px_rw k_Law_law).2.1 1493 = .ok (.invokevirtual 141, 3) := (by decide +kernel : decode code 1493 = .ok (.invokevirtual 141, 3))
theorem e_Law_law_1493 (L : List Value) (i0 : Int32) (i1 : Int32) (i2 : Int32) (i3 : Int32) (i4 : Int32) (i100 : Int32)  (T : TS)  : rn k_Law_law 1493 L [.int i4, .int i3, .int i2, .int i1, .int i0, .ref 53, .int i100] (enc T) = bd (cl k_Dm_screen [.ref 53, .int i0, .int i1, .int i2, .int i3, .int i4] (enc T)) (fun r g' => rn k_Law_law 1496 L (r.toList ++ [.int i100]) g') := rn_callV (n := 52) (As := [.int i0, .int i1, .int i2, .int i3, .int i4]) (rest := [.int i100]) dd_Law_law_1493 rfl (by decide) (by decide) rfl rfl (Nat.le_of_ble_eq_true rfl) (Nat.le_of_ble_eq_true rfl) rfl
theorem dd_Law_law_1496 : decode (px_rw k_Law_law).2.1 1496 = .ok (.if_icmp .eq 265, 3) := (by decide +kernel : decode code 1496 = .ok (.if_icmp .eq 265, 3))
theorem e_Law_law_1496 (L : List Value) (x y : Int32) (st : List Value) (g : px_G) : rn k_Law_law 1496 L (.int y :: .int x :: st) g = if x = y then rn k_Law_law 1761 L st g else rn k_Law_law 1499 L st g := rn_iceq dd_Law_law_1496 (by decide)
theorem dd_Law_law_1499 : decode (px_rw k_Law_law).2.1 1499 = .ok (.iconst 0, 1) := (by decide +kernel : decode code 1499 = .ok (.iconst 0, 1))
theorem e_Law_law_1499 (L st : List Value) (g : px_G) : rn k_Law_law 1499 L st g = rn k_Law_law 1500 L (.int 0 :: st) g := rn_ipush (i := .iconst 0) dd_Law_law_1499 rfl rfl (by decide)
theorem dd_Law_law_1500 : decode (px_rw k_Law_law).2.1 1500 = .ok (.ireturn, 1) := (by decide +kernel : decode code 1500 = .ok (.ireturn, 1))
theorem e_Law_law_1500 (L : List Value) (v : Int32) (g : px_G) (hv : v = 0 ∨ v = 1) : rn k_Law_law 1500 L [.int v] g = some (some (.int v), g) := rn_zret dd_Law_law_1500 rfl hv
theorem dd_Law_law_1501 : decode (px_rw k_Law_law).2.1 1501 = .ok (.aload_n 1, 1) := (by decide +kernel : decode code 1501 = .ok (.aload_n 1, 1))
theorem e_Law_law_1501 (a0 a2 a3 a4 a5 a6 : Value) (x : Nat) (st : List Value) (g : px_G) : rn k_Law_law 1501 [a0, .ref x, a2, a3, a4, a5, a6] st g = rn k_Law_law 1502 [a0, .ref x, a2, a3, a4, a5, a6] (.ref x :: st) g := rn_next dd_Law_law_1501 rfl
theorem dd_Law_law_1502 : decode (px_rw k_Law_law).2.1 1502 = .ok (.aload_n 0, 1) := (by decide +kernel : decode code 1502 = .ok (.aload_n 0, 1))
theorem e_Law_law_1502 (a1 a2 a3 a4 a5 a6 : Value) (x : Nat) (st : List Value) (g : px_G) : rn k_Law_law 1502 [.ref x, a1, a2, a3, a4, a5, a6] st g = rn k_Law_law 1503 [.ref x, a1, a2, a3, a4, a5, a6] (.ref x :: st) g := rn_next dd_Law_law_1502 rfl
theorem dd_Law_law_1503 : decode (px_rw k_Law_law).2.1 1503 = .ok (.iload 4, 2) := (by decide +kernel : decode code 1503 = .ok (.iload 4, 2))
theorem e_Law_law_1503 (a0 a1 a2 a3 a5 a6 : Value) (x : Int32) (st : List Value) (g : px_G) : rn k_Law_law 1503 [a0, a1, a2, a3, .int x, a5, a6] st g = rn k_Law_law 1505 [a0, a1, a2, a3, .int x, a5, a6] (.int x :: st) g := rn_next dd_Law_law_1503 rfl
theorem dd_Law_law_1505 : decode (px_rw k_Law_law).2.1 1505 = .ok (.iconst 1, 1) := (by decide +kernel : decode code 1505 = .ok (.iconst 1, 1))
theorem e_Law_law_1505 (L st : List Value) (g : px_G) : rn k_Law_law 1505 L st g = rn k_Law_law 1506 L (.int 1 :: st) g := rn_ipush (i := .iconst 1) dd_Law_law_1505 rfl rfl (by decide)
theorem dd_Law_law_1506 : decode (px_rw k_Law_law).2.1 1506 = .ok (.iadd, 1) := (by decide +kernel : decode code 1506 = .ok (.iadd, 1))
theorem e_Law_law_1506 (L : List Value) (x y : Int32) (st : List Value) (g : px_G) : rn k_Law_law 1506 L (.int y :: .int x :: st) g = rn k_Law_law 1507 L (.int (x + y) :: st) g := rn_next dd_Law_law_1506 rfl
theorem dd_Law_law_1507 : decode (px_rw k_Law_law).2.1 1507 = .ok (.iaload, 1) := (by decide +kernel : decode code 1507 = .ok (.iaload, 1))
theorem e_Law_law_1507 (L : List Value) (i : Int32) (p : Nat) (st : List Value) (T : TS) (hp : (sh p).1 = 0) : rn k_Law_law 1507 L (.int i :: .ref p :: st) (enc T) = if px_in i (sh p).2 then rn k_Law_law 1508 L (.int (T.1 p i.toNatClampNeg) :: st) (enc T) else none := rn_iald dd_Law_law_1507 (Prod.ext hp rfl)
theorem e_Law_law_1507S (L : List Value) (i : Int32) (st : List Value) (T : TS) : rn k_Law_law 1507 L (.int i :: .ref 1002 :: st) (enc T) = if px_in i T.2.2.2 then rn k_Law_law 1508 L (.int (T.1 1002 i.toNatClampNeg) :: st) (enc T) else none := rn_iaS dd_Law_law_1507
theorem dd_Law_law_1508 : decode (px_rw k_Law_law).2.1 1508 = .ok (.aload_n 0, 1) := (by decide +kernel : decode code 1508 = .ok (.aload_n 0, 1))
theorem e_Law_law_1508 (a1 a2 a3 a4 a5 a6 : Value) (x : Nat) (st : List Value) (g : px_G) : rn k_Law_law 1508 [.ref x, a1, a2, a3, a4, a5, a6] st g = rn k_Law_law 1509 [.ref x, a1, a2, a3, a4, a5, a6] (.ref x :: st) g := rn_next dd_Law_law_1508 rfl
theorem dd_Law_law_1509 : decode (px_rw k_Law_law).2.1 1509 = .ok (.iload 4, 2) := (by decide +kernel : decode code 1509 = .ok (.iload 4, 2))
theorem e_Law_law_1509 (a0 a1 a2 a3 a5 a6 : Value) (x : Int32) (st : List Value) (g : px_G) : rn k_Law_law 1509 [a0, a1, a2, a3, .int x, a5, a6] st g = rn k_Law_law 1511 [a0, a1, a2, a3, .int x, a5, a6] (.int x :: st) g := rn_next dd_Law_law_1509 rfl
theorem dd_Law_law_1511 : decode (px_rw k_Law_law).2.1 1511 = .ok (.iconst 2, 1) := (by decide +kernel : decode code 1511 = .ok (.iconst 2, 1))
theorem e_Law_law_1511 (L st : List Value) (g : px_G) : rn k_Law_law 1511 L st g = rn k_Law_law 1512 L (.int 2 :: st) g := rn_ipush (i := .iconst 2) dd_Law_law_1511 rfl rfl (by decide)
theorem dd_Law_law_1512 : decode (px_rw k_Law_law).2.1 1512 = .ok (.iadd, 1) := (by decide +kernel : decode code 1512 = .ok (.iadd, 1))
theorem e_Law_law_1512 (L : List Value) (x y : Int32) (st : List Value) (g : px_G) : rn k_Law_law 1512 L (.int y :: .int x :: st) g = rn k_Law_law 1513 L (.int (x + y) :: st) g := rn_next dd_Law_law_1512 rfl
theorem dd_Law_law_1513 : decode (px_rw k_Law_law).2.1 1513 = .ok (.iaload, 1) := (by decide +kernel : decode code 1513 = .ok (.iaload, 1))
theorem e_Law_law_1513 (L : List Value) (i : Int32) (p : Nat) (st : List Value) (T : TS) (hp : (sh p).1 = 0) : rn k_Law_law 1513 L (.int i :: .ref p :: st) (enc T) = if px_in i (sh p).2 then rn k_Law_law 1514 L (.int (T.1 p i.toNatClampNeg) :: st) (enc T) else none := rn_iald dd_Law_law_1513 (Prod.ext hp rfl)
theorem e_Law_law_1513S (L : List Value) (i : Int32) (st : List Value) (T : TS) : rn k_Law_law 1513 L (.int i :: .ref 1002 :: st) (enc T) = if px_in i T.2.2.2 then rn k_Law_law 1514 L (.int (T.1 1002 i.toNatClampNeg) :: st) (enc T) else none := rn_iaS dd_Law_law_1513
theorem dd_Law_law_1514 : decode (px_rw k_Law_law).2.1 1514 = .ok (.invokevirtual 142, 3) := (by decide +kernel : decode code 1514 = .ok (.invokevirtual 142, 3))
theorem e_Law_law_1514 (L : List Value) (i0 : Int32) (i1 : Int32)  (T : TS)  : rn k_Law_law 1514 L [.int i1, .int i0, .ref 0] (enc T) = bd (cl k_Ds_shape [.ref 0, .int i0, .int i1] (enc T)) (fun r g' => rn k_Law_law 1517 L (r.toList ++ []) g') := rn_callV (n := 13) (As := [.int i0, .int i1]) (rest := []) dd_Law_law_1514 rfl (by decide) (by decide) rfl rfl (Nat.le_of_ble_eq_true rfl) (Nat.le_of_ble_eq_true rfl) rfl
theorem dd_Law_law_1517 : decode (px_rw k_Law_law).2.1 1517 = .ok (.aload_n 2, 1) := (by decide +kernel : decode code 1517 = .ok (.aload_n 2, 1))
theorem e_Law_law_1517 (a0 a1 a3 a4 a5 a6 : Value) (x : Nat) (st : List Value) (g : px_G) : rn k_Law_law 1517 [a0, a1, .ref x, a3, a4, a5, a6] st g = rn k_Law_law 1518 [a0, a1, .ref x, a3, a4, a5, a6] (.ref x :: st) g := rn_next dd_Law_law_1517 rfl
theorem dd_Law_law_1518 : decode (px_rw k_Law_law).2.1 1518 = .ok (.aload_n 0, 1) := (by decide +kernel : decode code 1518 = .ok (.aload_n 0, 1))
theorem e_Law_law_1518 (a1 a2 a3 a4 a5 a6 : Value) (x : Nat) (st : List Value) (g : px_G) : rn k_Law_law 1518 [.ref x, a1, a2, a3, a4, a5, a6] st g = rn k_Law_law 1519 [.ref x, a1, a2, a3, a4, a5, a6] (.ref x :: st) g := rn_next dd_Law_law_1518 rfl
theorem dd_Law_law_1519 : decode (px_rw k_Law_law).2.1 1519 = .ok (.iload 4, 2) := (by decide +kernel : decode code 1519 = .ok (.iload 4, 2))
theorem e_Law_law_1519 (a0 a1 a2 a3 a5 a6 : Value) (x : Int32) (st : List Value) (g : px_G) : rn k_Law_law 1519 [a0, a1, a2, a3, .int x, a5, a6] st g = rn k_Law_law 1521 [a0, a1, a2, a3, .int x, a5, a6] (.int x :: st) g := rn_next dd_Law_law_1519 rfl
theorem dd_Law_law_1521 : decode (px_rw k_Law_law).2.1 1521 = .ok (.iconst 1, 1) := (by decide +kernel : decode code 1521 = .ok (.iconst 1, 1))
theorem e_Law_law_1521 (L st : List Value) (g : px_G) : rn k_Law_law 1521 L st g = rn k_Law_law 1522 L (.int 1 :: st) g := rn_ipush (i := .iconst 1) dd_Law_law_1521 rfl rfl (by decide)
theorem dd_Law_law_1522 : decode (px_rw k_Law_law).2.1 1522 = .ok (.iadd, 1) := (by decide +kernel : decode code 1522 = .ok (.iadd, 1))
theorem e_Law_law_1522 (L : List Value) (x y : Int32) (st : List Value) (g : px_G) : rn k_Law_law 1522 L (.int y :: .int x :: st) g = rn k_Law_law 1523 L (.int (x + y) :: st) g := rn_next dd_Law_law_1522 rfl
theorem dd_Law_law_1523 : decode (px_rw k_Law_law).2.1 1523 = .ok (.iaload, 1) := (by decide +kernel : decode code 1523 = .ok (.iaload, 1))
theorem e_Law_law_1523 (L : List Value) (i : Int32) (p : Nat) (st : List Value) (T : TS) (hp : (sh p).1 = 0) : rn k_Law_law 1523 L (.int i :: .ref p :: st) (enc T) = if px_in i (sh p).2 then rn k_Law_law 1524 L (.int (T.1 p i.toNatClampNeg) :: st) (enc T) else none := rn_iald dd_Law_law_1523 (Prod.ext hp rfl)
theorem e_Law_law_1523S (L : List Value) (i : Int32) (st : List Value) (T : TS) : rn k_Law_law 1523 L (.int i :: .ref 1002 :: st) (enc T) = if px_in i T.2.2.2 then rn k_Law_law 1524 L (.int (T.1 1002 i.toNatClampNeg) :: st) (enc T) else none := rn_iaS dd_Law_law_1523
theorem dd_Law_law_1524 : decode (px_rw k_Law_law).2.1 1524 = .ok (.aload_n 0, 1) := (by decide +kernel : decode code 1524 = .ok (.aload_n 0, 1))
theorem e_Law_law_1524 (a1 a2 a3 a4 a5 a6 : Value) (x : Nat) (st : List Value) (g : px_G) : rn k_Law_law 1524 [.ref x, a1, a2, a3, a4, a5, a6] st g = rn k_Law_law 1525 [.ref x, a1, a2, a3, a4, a5, a6] (.ref x :: st) g := rn_next dd_Law_law_1524 rfl
theorem dd_Law_law_1525 : decode (px_rw k_Law_law).2.1 1525 = .ok (.iload 4, 2) := (by decide +kernel : decode code 1525 = .ok (.iload 4, 2))
theorem e_Law_law_1525 (a0 a1 a2 a3 a5 a6 : Value) (x : Int32) (st : List Value) (g : px_G) : rn k_Law_law 1525 [a0, a1, a2, a3, .int x, a5, a6] st g = rn k_Law_law 1527 [a0, a1, a2, a3, .int x, a5, a6] (.int x :: st) g := rn_next dd_Law_law_1525 rfl
theorem dd_Law_law_1527 : decode (px_rw k_Law_law).2.1 1527 = .ok (.iconst 2, 1) := (by decide +kernel : decode code 1527 = .ok (.iconst 2, 1))
theorem e_Law_law_1527 (L st : List Value) (g : px_G) : rn k_Law_law 1527 L st g = rn k_Law_law 1528 L (.int 2 :: st) g := rn_ipush (i := .iconst 2) dd_Law_law_1527 rfl rfl (by decide)
theorem dd_Law_law_1528 : decode (px_rw k_Law_law).2.1 1528 = .ok (.iadd, 1) := (by decide +kernel : decode code 1528 = .ok (.iadd, 1))
theorem e_Law_law_1528 (L : List Value) (x y : Int32) (st : List Value) (g : px_G) : rn k_Law_law 1528 L (.int y :: .int x :: st) g = rn k_Law_law 1529 L (.int (x + y) :: st) g := rn_next dd_Law_law_1528 rfl
theorem dd_Law_law_1529 : decode (px_rw k_Law_law).2.1 1529 = .ok (.iaload, 1) := (by decide +kernel : decode code 1529 = .ok (.iaload, 1))
theorem e_Law_law_1529 (L : List Value) (i : Int32) (p : Nat) (st : List Value) (T : TS) (hp : (sh p).1 = 0) : rn k_Law_law 1529 L (.int i :: .ref p :: st) (enc T) = if px_in i (sh p).2 then rn k_Law_law 1530 L (.int (T.1 p i.toNatClampNeg) :: st) (enc T) else none := rn_iald dd_Law_law_1529 (Prod.ext hp rfl)
theorem e_Law_law_1529S (L : List Value) (i : Int32) (st : List Value) (T : TS) : rn k_Law_law 1529 L (.int i :: .ref 1002 :: st) (enc T) = if px_in i T.2.2.2 then rn k_Law_law 1530 L (.int (T.1 1002 i.toNatClampNeg) :: st) (enc T) else none := rn_iaS dd_Law_law_1529
theorem dd_Law_law_1530 : decode (px_rw k_Law_law).2.1 1530 = .ok (.invokevirtual 145, 3) := (by decide +kernel : decode code 1530 = .ok (.invokevirtual 145, 3))
theorem e_Law_law_1530 (L : List Value) (i0 : Int32) (i1 : Int32) (i100 : Int32)  (T : TS)  : rn k_Law_law 1530 L [.int i1, .int i0, .ref 53, .int i100] (enc T) = bd (cl k_Dm_shape [.ref 53, .int i0, .int i1] (enc T)) (fun r g' => rn k_Law_law 1533 L (r.toList ++ [.int i100]) g') := rn_callV (n := 52) (As := [.int i0, .int i1]) (rest := [.int i100]) dd_Law_law_1530 rfl (by decide) (by decide) rfl rfl (Nat.le_of_ble_eq_true rfl) (Nat.le_of_ble_eq_true rfl) rfl
theorem dd_Law_law_1533 : decode (px_rw k_Law_law).2.1 1533 = .ok (.if_icmp .eq 228, 3) := (by decide +kernel : decode code 1533 = .ok (.if_icmp .eq 228, 3))
theorem e_Law_law_1533 (L : List Value) (x y : Int32) (st : List Value) (g : px_G) : rn k_Law_law 1533 L (.int y :: .int x :: st) g = if x = y then rn k_Law_law 1761 L st g else rn k_Law_law 1536 L st g := rn_iceq dd_Law_law_1533 (by decide)
theorem dd_Law_law_1536 : decode (px_rw k_Law_law).2.1 1536 = .ok (.iconst 0, 1) := (by decide +kernel : decode code 1536 = .ok (.iconst 0, 1))
theorem e_Law_law_1536 (L st : List Value) (g : px_G) : rn k_Law_law 1536 L st g = rn k_Law_law 1537 L (.int 0 :: st) g := rn_ipush (i := .iconst 0) dd_Law_law_1536 rfl rfl (by decide)
theorem dd_Law_law_1537 : decode (px_rw k_Law_law).2.1 1537 = .ok (.ireturn, 1) := (by decide +kernel : decode code 1537 = .ok (.ireturn, 1))
theorem e_Law_law_1537 (L : List Value) (v : Int32) (g : px_G) (hv : v = 0 ∨ v = 1) : rn k_Law_law 1537 L [.int v] g = some (some (.int v), g) := rn_zret dd_Law_law_1537 rfl hv
theorem dd_Law_law_1538 : decode (px_rw k_Law_law).2.1 1538 = .ok (.aload_n 1, 1) := (by decide +kernel : decode code 1538 = .ok (.aload_n 1, 1))
theorem e_Law_law_1538 (a0 a2 a3 a4 a5 a6 : Value) (x : Nat) (st : List Value) (g : px_G) : rn k_Law_law 1538 [a0, .ref x, a2, a3, a4, a5, a6] st g = rn k_Law_law 1539 [a0, .ref x, a2, a3, a4, a5, a6] (.ref x :: st) g := rn_next dd_Law_law_1538 rfl
theorem dd_Law_law_1539 : decode (px_rw k_Law_law).2.1 1539 = .ok (.aload_n 0, 1) := (by decide +kernel : decode code 1539 = .ok (.aload_n 0, 1))
theorem e_Law_law_1539 (a1 a2 a3 a4 a5 a6 : Value) (x : Nat) (st : List Value) (g : px_G) : rn k_Law_law 1539 [.ref x, a1, a2, a3, a4, a5, a6] st g = rn k_Law_law 1540 [.ref x, a1, a2, a3, a4, a5, a6] (.ref x :: st) g := rn_next dd_Law_law_1539 rfl
theorem dd_Law_law_1540 : decode (px_rw k_Law_law).2.1 1540 = .ok (.iload 4, 2) := (by decide +kernel : decode code 1540 = .ok (.iload 4, 2))
theorem e_Law_law_1540 (a0 a1 a2 a3 a5 a6 : Value) (x : Int32) (st : List Value) (g : px_G) : rn k_Law_law 1540 [a0, a1, a2, a3, .int x, a5, a6] st g = rn k_Law_law 1542 [a0, a1, a2, a3, .int x, a5, a6] (.int x :: st) g := rn_next dd_Law_law_1540 rfl
theorem dd_Law_law_1542 : decode (px_rw k_Law_law).2.1 1542 = .ok (.iconst 1, 1) := (by decide +kernel : decode code 1542 = .ok (.iconst 1, 1))
theorem e_Law_law_1542 (L st : List Value) (g : px_G) : rn k_Law_law 1542 L st g = rn k_Law_law 1543 L (.int 1 :: st) g := rn_ipush (i := .iconst 1) dd_Law_law_1542 rfl rfl (by decide)
theorem dd_Law_law_1543 : decode (px_rw k_Law_law).2.1 1543 = .ok (.iadd, 1) := (by decide +kernel : decode code 1543 = .ok (.iadd, 1))
theorem e_Law_law_1543 (L : List Value) (x y : Int32) (st : List Value) (g : px_G) : rn k_Law_law 1543 L (.int y :: .int x :: st) g = rn k_Law_law 1544 L (.int (x + y) :: st) g := rn_next dd_Law_law_1543 rfl
theorem dd_Law_law_1544 : decode (px_rw k_Law_law).2.1 1544 = .ok (.iaload, 1) := (by decide +kernel : decode code 1544 = .ok (.iaload, 1))
theorem e_Law_law_1544 (L : List Value) (i : Int32) (p : Nat) (st : List Value) (T : TS) (hp : (sh p).1 = 0) : rn k_Law_law 1544 L (.int i :: .ref p :: st) (enc T) = if px_in i (sh p).2 then rn k_Law_law 1545 L (.int (T.1 p i.toNatClampNeg) :: st) (enc T) else none := rn_iald dd_Law_law_1544 (Prod.ext hp rfl)
theorem e_Law_law_1544S (L : List Value) (i : Int32) (st : List Value) (T : TS) : rn k_Law_law 1544 L (.int i :: .ref 1002 :: st) (enc T) = if px_in i T.2.2.2 then rn k_Law_law 1545 L (.int (T.1 1002 i.toNatClampNeg) :: st) (enc T) else none := rn_iaS dd_Law_law_1544
theorem dd_Law_law_1545 : decode (px_rw k_Law_law).2.1 1545 = .ok (.aload_n 0, 1) := (by decide +kernel : decode code 1545 = .ok (.aload_n 0, 1))
theorem e_Law_law_1545 (a1 a2 a3 a4 a5 a6 : Value) (x : Nat) (st : List Value) (g : px_G) : rn k_Law_law 1545 [.ref x, a1, a2, a3, a4, a5, a6] st g = rn k_Law_law 1546 [.ref x, a1, a2, a3, a4, a5, a6] (.ref x :: st) g := rn_next dd_Law_law_1545 rfl
theorem dd_Law_law_1546 : decode (px_rw k_Law_law).2.1 1546 = .ok (.iload 4, 2) := (by decide +kernel : decode code 1546 = .ok (.iload 4, 2))
theorem e_Law_law_1546 (a0 a1 a2 a3 a5 a6 : Value) (x : Int32) (st : List Value) (g : px_G) : rn k_Law_law 1546 [a0, a1, a2, a3, .int x, a5, a6] st g = rn k_Law_law 1548 [a0, a1, a2, a3, .int x, a5, a6] (.int x :: st) g := rn_next dd_Law_law_1546 rfl
theorem dd_Law_law_1548 : decode (px_rw k_Law_law).2.1 1548 = .ok (.iconst 2, 1) := (by decide +kernel : decode code 1548 = .ok (.iconst 2, 1))
theorem e_Law_law_1548 (L st : List Value) (g : px_G) : rn k_Law_law 1548 L st g = rn k_Law_law 1549 L (.int 2 :: st) g := rn_ipush (i := .iconst 2) dd_Law_law_1548 rfl rfl (by decide)
theorem dd_Law_law_1549 : decode (px_rw k_Law_law).2.1 1549 = .ok (.iadd, 1) := (by decide +kernel : decode code 1549 = .ok (.iadd, 1))
theorem e_Law_law_1549 (L : List Value) (x y : Int32) (st : List Value) (g : px_G) : rn k_Law_law 1549 L (.int y :: .int x :: st) g = rn k_Law_law 1550 L (.int (x + y) :: st) g := rn_next dd_Law_law_1549 rfl
theorem dd_Law_law_1550 : decode (px_rw k_Law_law).2.1 1550 = .ok (.iaload, 1) := (by decide +kernel : decode code 1550 = .ok (.iaload, 1))
theorem e_Law_law_1550 (L : List Value) (i : Int32) (p : Nat) (st : List Value) (T : TS) (hp : (sh p).1 = 0) : rn k_Law_law 1550 L (.int i :: .ref p :: st) (enc T) = if px_in i (sh p).2 then rn k_Law_law 1551 L (.int (T.1 p i.toNatClampNeg) :: st) (enc T) else none := rn_iald dd_Law_law_1550 (Prod.ext hp rfl)
theorem e_Law_law_1550S (L : List Value) (i : Int32) (st : List Value) (T : TS) : rn k_Law_law 1550 L (.int i :: .ref 1002 :: st) (enc T) = if px_in i T.2.2.2 then rn k_Law_law 1551 L (.int (T.1 1002 i.toNatClampNeg) :: st) (enc T) else none := rn_iaS dd_Law_law_1550
theorem dd_Law_law_1551 : decode (px_rw k_Law_law).2.1 1551 = .ok (.invokevirtual 146, 3) := (by decide +kernel : decode code 1551 = .ok (.invokevirtual 146, 3))
theorem e_Law_law_1551 (L : List Value) (i0 : Int32) (i1 : Int32)  (T : TS)  : rn k_Law_law 1551 L [.int i1, .int i0, .ref 0] (enc T) = bd (cl k_Ds_tone [.ref 0, .int i0, .int i1] (enc T)) (fun r g' => rn k_Law_law 1554 L (r.toList ++ []) g') := rn_callV (n := 13) (As := [.int i0, .int i1]) (rest := []) dd_Law_law_1551 rfl (by decide) (by decide) rfl rfl (Nat.le_of_ble_eq_true rfl) (Nat.le_of_ble_eq_true rfl) rfl
theorem dd_Law_law_1554 : decode (px_rw k_Law_law).2.1 1554 = .ok (.aload_n 2, 1) := (by decide +kernel : decode code 1554 = .ok (.aload_n 2, 1))
theorem e_Law_law_1554 (a0 a1 a3 a4 a5 a6 : Value) (x : Nat) (st : List Value) (g : px_G) : rn k_Law_law 1554 [a0, a1, .ref x, a3, a4, a5, a6] st g = rn k_Law_law 1555 [a0, a1, .ref x, a3, a4, a5, a6] (.ref x :: st) g := rn_next dd_Law_law_1554 rfl
theorem dd_Law_law_1555 : decode (px_rw k_Law_law).2.1 1555 = .ok (.aload_n 0, 1) := (by decide +kernel : decode code 1555 = .ok (.aload_n 0, 1))
theorem e_Law_law_1555 (a1 a2 a3 a4 a5 a6 : Value) (x : Nat) (st : List Value) (g : px_G) : rn k_Law_law 1555 [.ref x, a1, a2, a3, a4, a5, a6] st g = rn k_Law_law 1556 [.ref x, a1, a2, a3, a4, a5, a6] (.ref x :: st) g := rn_next dd_Law_law_1555 rfl
theorem dd_Law_law_1556 : decode (px_rw k_Law_law).2.1 1556 = .ok (.iload 4, 2) := (by decide +kernel : decode code 1556 = .ok (.iload 4, 2))
theorem e_Law_law_1556 (a0 a1 a2 a3 a5 a6 : Value) (x : Int32) (st : List Value) (g : px_G) : rn k_Law_law 1556 [a0, a1, a2, a3, .int x, a5, a6] st g = rn k_Law_law 1558 [a0, a1, a2, a3, .int x, a5, a6] (.int x :: st) g := rn_next dd_Law_law_1556 rfl
theorem dd_Law_law_1558 : decode (px_rw k_Law_law).2.1 1558 = .ok (.iconst 1, 1) := (by decide +kernel : decode code 1558 = .ok (.iconst 1, 1))
theorem e_Law_law_1558 (L st : List Value) (g : px_G) : rn k_Law_law 1558 L st g = rn k_Law_law 1559 L (.int 1 :: st) g := rn_ipush (i := .iconst 1) dd_Law_law_1558 rfl rfl (by decide)
theorem dd_Law_law_1559 : decode (px_rw k_Law_law).2.1 1559 = .ok (.iadd, 1) := (by decide +kernel : decode code 1559 = .ok (.iadd, 1))
theorem e_Law_law_1559 (L : List Value) (x y : Int32) (st : List Value) (g : px_G) : rn k_Law_law 1559 L (.int y :: .int x :: st) g = rn k_Law_law 1560 L (.int (x + y) :: st) g := rn_next dd_Law_law_1559 rfl
theorem dd_Law_law_1560 : decode (px_rw k_Law_law).2.1 1560 = .ok (.iaload, 1) := (by decide +kernel : decode code 1560 = .ok (.iaload, 1))
theorem e_Law_law_1560 (L : List Value) (i : Int32) (p : Nat) (st : List Value) (T : TS) (hp : (sh p).1 = 0) : rn k_Law_law 1560 L (.int i :: .ref p :: st) (enc T) = if px_in i (sh p).2 then rn k_Law_law 1561 L (.int (T.1 p i.toNatClampNeg) :: st) (enc T) else none := rn_iald dd_Law_law_1560 (Prod.ext hp rfl)
theorem e_Law_law_1560S (L : List Value) (i : Int32) (st : List Value) (T : TS) : rn k_Law_law 1560 L (.int i :: .ref 1002 :: st) (enc T) = if px_in i T.2.2.2 then rn k_Law_law 1561 L (.int (T.1 1002 i.toNatClampNeg) :: st) (enc T) else none := rn_iaS dd_Law_law_1560
theorem dd_Law_law_1561 : decode (px_rw k_Law_law).2.1 1561 = .ok (.aload_n 0, 1) := (by decide +kernel : decode code 1561 = .ok (.aload_n 0, 1))
theorem e_Law_law_1561 (a1 a2 a3 a4 a5 a6 : Value) (x : Nat) (st : List Value) (g : px_G) : rn k_Law_law 1561 [.ref x, a1, a2, a3, a4, a5, a6] st g = rn k_Law_law 1562 [.ref x, a1, a2, a3, a4, a5, a6] (.ref x :: st) g := rn_next dd_Law_law_1561 rfl
theorem dd_Law_law_1562 : decode (px_rw k_Law_law).2.1 1562 = .ok (.iload 4, 2) := (by decide +kernel : decode code 1562 = .ok (.iload 4, 2))
theorem e_Law_law_1562 (a0 a1 a2 a3 a5 a6 : Value) (x : Int32) (st : List Value) (g : px_G) : rn k_Law_law 1562 [a0, a1, a2, a3, .int x, a5, a6] st g = rn k_Law_law 1564 [a0, a1, a2, a3, .int x, a5, a6] (.int x :: st) g := rn_next dd_Law_law_1562 rfl
theorem dd_Law_law_1564 : decode (px_rw k_Law_law).2.1 1564 = .ok (.iconst 2, 1) := (by decide +kernel : decode code 1564 = .ok (.iconst 2, 1))
theorem e_Law_law_1564 (L st : List Value) (g : px_G) : rn k_Law_law 1564 L st g = rn k_Law_law 1565 L (.int 2 :: st) g := rn_ipush (i := .iconst 2) dd_Law_law_1564 rfl rfl (by decide)
theorem dd_Law_law_1565 : decode (px_rw k_Law_law).2.1 1565 = .ok (.iadd, 1) := (by decide +kernel : decode code 1565 = .ok (.iadd, 1))
theorem e_Law_law_1565 (L : List Value) (x y : Int32) (st : List Value) (g : px_G) : rn k_Law_law 1565 L (.int y :: .int x :: st) g = rn k_Law_law 1566 L (.int (x + y) :: st) g := rn_next dd_Law_law_1565 rfl
theorem dd_Law_law_1566 : decode (px_rw k_Law_law).2.1 1566 = .ok (.iaload, 1) := (by decide +kernel : decode code 1566 = .ok (.iaload, 1))
theorem e_Law_law_1566 (L : List Value) (i : Int32) (p : Nat) (st : List Value) (T : TS) (hp : (sh p).1 = 0) : rn k_Law_law 1566 L (.int i :: .ref p :: st) (enc T) = if px_in i (sh p).2 then rn k_Law_law 1567 L (.int (T.1 p i.toNatClampNeg) :: st) (enc T) else none := rn_iald dd_Law_law_1566 (Prod.ext hp rfl)
theorem e_Law_law_1566S (L : List Value) (i : Int32) (st : List Value) (T : TS) : rn k_Law_law 1566 L (.int i :: .ref 1002 :: st) (enc T) = if px_in i T.2.2.2 then rn k_Law_law 1567 L (.int (T.1 1002 i.toNatClampNeg) :: st) (enc T) else none := rn_iaS dd_Law_law_1566
theorem dd_Law_law_1567 : decode (px_rw k_Law_law).2.1 1567 = .ok (.invokevirtual 149, 3) := (by decide +kernel : decode code 1567 = .ok (.invokevirtual 149, 3))
theorem e_Law_law_1567 (L : List Value) (i0 : Int32) (i1 : Int32) (i100 : Int32)  (T : TS)  : rn k_Law_law 1567 L [.int i1, .int i0, .ref 53, .int i100] (enc T) = bd (cl k_Dm_tone [.ref 53, .int i0, .int i1] (enc T)) (fun r g' => rn k_Law_law 1570 L (r.toList ++ [.int i100]) g') := rn_callV (n := 52) (As := [.int i0, .int i1]) (rest := [.int i100]) dd_Law_law_1567 rfl (by decide) (by decide) rfl rfl (Nat.le_of_ble_eq_true rfl) (Nat.le_of_ble_eq_true rfl) rfl
theorem dd_Law_law_1570 : decode (px_rw k_Law_law).2.1 1570 = .ok (.if_icmp .eq 191, 3) := (by decide +kernel : decode code 1570 = .ok (.if_icmp .eq 191, 3))
theorem e_Law_law_1570 (L : List Value) (x y : Int32) (st : List Value) (g : px_G) : rn k_Law_law 1570 L (.int y :: .int x :: st) g = if x = y then rn k_Law_law 1761 L st g else rn k_Law_law 1573 L st g := rn_iceq dd_Law_law_1570 (by decide)
theorem dd_Law_law_1573 : decode (px_rw k_Law_law).2.1 1573 = .ok (.iconst 0, 1) := (by decide +kernel : decode code 1573 = .ok (.iconst 0, 1))
theorem e_Law_law_1573 (L st : List Value) (g : px_G) : rn k_Law_law 1573 L st g = rn k_Law_law 1574 L (.int 0 :: st) g := rn_ipush (i := .iconst 0) dd_Law_law_1573 rfl rfl (by decide)
theorem dd_Law_law_1574 : decode (px_rw k_Law_law).2.1 1574 = .ok (.ireturn, 1) := (by decide +kernel : decode code 1574 = .ok (.ireturn, 1))
theorem e_Law_law_1574 (L : List Value) (v : Int32) (g : px_G) (hv : v = 0 ∨ v = 1) : rn k_Law_law 1574 L [.int v] g = some (some (.int v), g) := rn_zret dd_Law_law_1574 rfl hv
theorem dd_Law_law_1575 : decode (px_rw k_Law_law).2.1 1575 = .ok (.aload_n 1, 1) := (by decide +kernel : decode code 1575 = .ok (.aload_n 1, 1))
theorem e_Law_law_1575 (a0 a2 a3 a4 a5 a6 : Value) (x : Nat) (st : List Value) (g : px_G) : rn k_Law_law 1575 [a0, .ref x, a2, a3, a4, a5, a6] st g = rn k_Law_law 1576 [a0, .ref x, a2, a3, a4, a5, a6] (.ref x :: st) g := rn_next dd_Law_law_1575 rfl
theorem dd_Law_law_1576 : decode (px_rw k_Law_law).2.1 1576 = .ok (.aload_n 0, 1) := (by decide +kernel : decode code 1576 = .ok (.aload_n 0, 1))
theorem e_Law_law_1576 (a1 a2 a3 a4 a5 a6 : Value) (x : Nat) (st : List Value) (g : px_G) : rn k_Law_law 1576 [.ref x, a1, a2, a3, a4, a5, a6] st g = rn k_Law_law 1577 [.ref x, a1, a2, a3, a4, a5, a6] (.ref x :: st) g := rn_next dd_Law_law_1576 rfl
theorem dd_Law_law_1577 : decode (px_rw k_Law_law).2.1 1577 = .ok (.iload 4, 2) := (by decide +kernel : decode code 1577 = .ok (.iload 4, 2))
theorem e_Law_law_1577 (a0 a1 a2 a3 a5 a6 : Value) (x : Int32) (st : List Value) (g : px_G) : rn k_Law_law 1577 [a0, a1, a2, a3, .int x, a5, a6] st g = rn k_Law_law 1579 [a0, a1, a2, a3, .int x, a5, a6] (.int x :: st) g := rn_next dd_Law_law_1577 rfl
theorem dd_Law_law_1579 : decode (px_rw k_Law_law).2.1 1579 = .ok (.iconst 1, 1) := (by decide +kernel : decode code 1579 = .ok (.iconst 1, 1))
theorem e_Law_law_1579 (L st : List Value) (g : px_G) : rn k_Law_law 1579 L st g = rn k_Law_law 1580 L (.int 1 :: st) g := rn_ipush (i := .iconst 1) dd_Law_law_1579 rfl rfl (by decide)
theorem dd_Law_law_1580 : decode (px_rw k_Law_law).2.1 1580 = .ok (.iadd, 1) := (by decide +kernel : decode code 1580 = .ok (.iadd, 1))
theorem e_Law_law_1580 (L : List Value) (x y : Int32) (st : List Value) (g : px_G) : rn k_Law_law 1580 L (.int y :: .int x :: st) g = rn k_Law_law 1581 L (.int (x + y) :: st) g := rn_next dd_Law_law_1580 rfl
theorem dd_Law_law_1581 : decode (px_rw k_Law_law).2.1 1581 = .ok (.iaload, 1) := (by decide +kernel : decode code 1581 = .ok (.iaload, 1))
theorem e_Law_law_1581 (L : List Value) (i : Int32) (p : Nat) (st : List Value) (T : TS) (hp : (sh p).1 = 0) : rn k_Law_law 1581 L (.int i :: .ref p :: st) (enc T) = if px_in i (sh p).2 then rn k_Law_law 1582 L (.int (T.1 p i.toNatClampNeg) :: st) (enc T) else none := rn_iald dd_Law_law_1581 (Prod.ext hp rfl)
theorem e_Law_law_1581S (L : List Value) (i : Int32) (st : List Value) (T : TS) : rn k_Law_law 1581 L (.int i :: .ref 1002 :: st) (enc T) = if px_in i T.2.2.2 then rn k_Law_law 1582 L (.int (T.1 1002 i.toNatClampNeg) :: st) (enc T) else none := rn_iaS dd_Law_law_1581
theorem dd_Law_law_1582 : decode (px_rw k_Law_law).2.1 1582 = .ok (.aload_n 0, 1) := (by decide +kernel : decode code 1582 = .ok (.aload_n 0, 1))
theorem e_Law_law_1582 (a1 a2 a3 a4 a5 a6 : Value) (x : Nat) (st : List Value) (g : px_G) : rn k_Law_law 1582 [.ref x, a1, a2, a3, a4, a5, a6] st g = rn k_Law_law 1583 [.ref x, a1, a2, a3, a4, a5, a6] (.ref x :: st) g := rn_next dd_Law_law_1582 rfl
theorem dd_Law_law_1583 : decode (px_rw k_Law_law).2.1 1583 = .ok (.iload 4, 2) := (by decide +kernel : decode code 1583 = .ok (.iload 4, 2))
theorem e_Law_law_1583 (a0 a1 a2 a3 a5 a6 : Value) (x : Int32) (st : List Value) (g : px_G) : rn k_Law_law 1583 [a0, a1, a2, a3, .int x, a5, a6] st g = rn k_Law_law 1585 [a0, a1, a2, a3, .int x, a5, a6] (.int x :: st) g := rn_next dd_Law_law_1583 rfl
theorem dd_Law_law_1585 : decode (px_rw k_Law_law).2.1 1585 = .ok (.iconst 2, 1) := (by decide +kernel : decode code 1585 = .ok (.iconst 2, 1))
theorem e_Law_law_1585 (L st : List Value) (g : px_G) : rn k_Law_law 1585 L st g = rn k_Law_law 1586 L (.int 2 :: st) g := rn_ipush (i := .iconst 2) dd_Law_law_1585 rfl rfl (by decide)
theorem dd_Law_law_1586 : decode (px_rw k_Law_law).2.1 1586 = .ok (.iadd, 1) := (by decide +kernel : decode code 1586 = .ok (.iadd, 1))
theorem e_Law_law_1586 (L : List Value) (x y : Int32) (st : List Value) (g : px_G) : rn k_Law_law 1586 L (.int y :: .int x :: st) g = rn k_Law_law 1587 L (.int (x + y) :: st) g := rn_next dd_Law_law_1586 rfl
theorem dd_Law_law_1587 : decode (px_rw k_Law_law).2.1 1587 = .ok (.iaload, 1) := (by decide +kernel : decode code 1587 = .ok (.iaload, 1))
theorem e_Law_law_1587 (L : List Value) (i : Int32) (p : Nat) (st : List Value) (T : TS) (hp : (sh p).1 = 0) : rn k_Law_law 1587 L (.int i :: .ref p :: st) (enc T) = if px_in i (sh p).2 then rn k_Law_law 1588 L (.int (T.1 p i.toNatClampNeg) :: st) (enc T) else none := rn_iald dd_Law_law_1587 (Prod.ext hp rfl)
theorem e_Law_law_1587S (L : List Value) (i : Int32) (st : List Value) (T : TS) : rn k_Law_law 1587 L (.int i :: .ref 1002 :: st) (enc T) = if px_in i T.2.2.2 then rn k_Law_law 1588 L (.int (T.1 1002 i.toNatClampNeg) :: st) (enc T) else none := rn_iaS dd_Law_law_1587
theorem dd_Law_law_1588 : decode (px_rw k_Law_law).2.1 1588 = .ok (.aload_n 0, 1) := (by decide +kernel : decode code 1588 = .ok (.aload_n 0, 1))
theorem e_Law_law_1588 (a1 a2 a3 a4 a5 a6 : Value) (x : Nat) (st : List Value) (g : px_G) : rn k_Law_law 1588 [.ref x, a1, a2, a3, a4, a5, a6] st g = rn k_Law_law 1589 [.ref x, a1, a2, a3, a4, a5, a6] (.ref x :: st) g := rn_next dd_Law_law_1588 rfl
theorem dd_Law_law_1589 : decode (px_rw k_Law_law).2.1 1589 = .ok (.iload 4, 2) := (by decide +kernel : decode code 1589 = .ok (.iload 4, 2))
theorem e_Law_law_1589 (a0 a1 a2 a3 a5 a6 : Value) (x : Int32) (st : List Value) (g : px_G) : rn k_Law_law 1589 [a0, a1, a2, a3, .int x, a5, a6] st g = rn k_Law_law 1591 [a0, a1, a2, a3, .int x, a5, a6] (.int x :: st) g := rn_next dd_Law_law_1589 rfl
theorem dd_Law_law_1591 : decode (px_rw k_Law_law).2.1 1591 = .ok (.iconst 3, 1) := (by decide +kernel : decode code 1591 = .ok (.iconst 3, 1))
theorem e_Law_law_1591 (L st : List Value) (g : px_G) : rn k_Law_law 1591 L st g = rn k_Law_law 1592 L (.int 3 :: st) g := rn_ipush (i := .iconst 3) dd_Law_law_1591 rfl rfl (by decide)
theorem dd_Law_law_1592 : decode (px_rw k_Law_law).2.1 1592 = .ok (.iadd, 1) := (by decide +kernel : decode code 1592 = .ok (.iadd, 1))
theorem e_Law_law_1592 (L : List Value) (x y : Int32) (st : List Value) (g : px_G) : rn k_Law_law 1592 L (.int y :: .int x :: st) g = rn k_Law_law 1593 L (.int (x + y) :: st) g := rn_next dd_Law_law_1592 rfl
theorem dd_Law_law_1593 : decode (px_rw k_Law_law).2.1 1593 = .ok (.iaload, 1) := (by decide +kernel : decode code 1593 = .ok (.iaload, 1))
theorem e_Law_law_1593 (L : List Value) (i : Int32) (p : Nat) (st : List Value) (T : TS) (hp : (sh p).1 = 0) : rn k_Law_law 1593 L (.int i :: .ref p :: st) (enc T) = if px_in i (sh p).2 then rn k_Law_law 1594 L (.int (T.1 p i.toNatClampNeg) :: st) (enc T) else none := rn_iald dd_Law_law_1593 (Prod.ext hp rfl)
theorem e_Law_law_1593S (L : List Value) (i : Int32) (st : List Value) (T : TS) : rn k_Law_law 1593 L (.int i :: .ref 1002 :: st) (enc T) = if px_in i T.2.2.2 then rn k_Law_law 1594 L (.int (T.1 1002 i.toNatClampNeg) :: st) (enc T) else none := rn_iaS dd_Law_law_1593
theorem dd_Law_law_1594 : decode (px_rw k_Law_law).2.1 1594 = .ok (.invokevirtual 150, 3) := (by decide +kernel : decode code 1594 = .ok (.invokevirtual 150, 3))
theorem e_Law_law_1594 (L : List Value) (i0 : Int32) (i1 : Int32) (i2 : Int32)  (T : TS)  : rn k_Law_law 1594 L [.int i2, .int i1, .int i0, .ref 0] (enc T) = bd (cl k_Ds_offset [.ref 0, .int i0, .int i1, .int i2] (enc T)) (fun r g' => rn k_Law_law 1597 L (r.toList ++ []) g') := rn_callV (n := 13) (As := [.int i0, .int i1, .int i2]) (rest := []) dd_Law_law_1594 rfl (by decide) (by decide) rfl rfl (Nat.le_of_ble_eq_true rfl) (Nat.le_of_ble_eq_true rfl) rfl
theorem dd_Law_law_1597 : decode (px_rw k_Law_law).2.1 1597 = .ok (.aload_n 2, 1) := (by decide +kernel : decode code 1597 = .ok (.aload_n 2, 1))
theorem e_Law_law_1597 (a0 a1 a3 a4 a5 a6 : Value) (x : Nat) (st : List Value) (g : px_G) : rn k_Law_law 1597 [a0, a1, .ref x, a3, a4, a5, a6] st g = rn k_Law_law 1598 [a0, a1, .ref x, a3, a4, a5, a6] (.ref x :: st) g := rn_next dd_Law_law_1597 rfl
theorem dd_Law_law_1598 : decode (px_rw k_Law_law).2.1 1598 = .ok (.aload_n 0, 1) := (by decide +kernel : decode code 1598 = .ok (.aload_n 0, 1))
theorem e_Law_law_1598 (a1 a2 a3 a4 a5 a6 : Value) (x : Nat) (st : List Value) (g : px_G) : rn k_Law_law 1598 [.ref x, a1, a2, a3, a4, a5, a6] st g = rn k_Law_law 1599 [.ref x, a1, a2, a3, a4, a5, a6] (.ref x :: st) g := rn_next dd_Law_law_1598 rfl
theorem dd_Law_law_1599 : decode (px_rw k_Law_law).2.1 1599 = .ok (.iload 4, 2) := (by decide +kernel : decode code 1599 = .ok (.iload 4, 2))
theorem e_Law_law_1599 (a0 a1 a2 a3 a5 a6 : Value) (x : Int32) (st : List Value) (g : px_G) : rn k_Law_law 1599 [a0, a1, a2, a3, .int x, a5, a6] st g = rn k_Law_law 1601 [a0, a1, a2, a3, .int x, a5, a6] (.int x :: st) g := rn_next dd_Law_law_1599 rfl
theorem dd_Law_law_1601 : decode (px_rw k_Law_law).2.1 1601 = .ok (.iconst 1, 1) := (by decide +kernel : decode code 1601 = .ok (.iconst 1, 1))
theorem e_Law_law_1601 (L st : List Value) (g : px_G) : rn k_Law_law 1601 L st g = rn k_Law_law 1602 L (.int 1 :: st) g := rn_ipush (i := .iconst 1) dd_Law_law_1601 rfl rfl (by decide)
theorem dd_Law_law_1602 : decode (px_rw k_Law_law).2.1 1602 = .ok (.iadd, 1) := (by decide +kernel : decode code 1602 = .ok (.iadd, 1))
theorem e_Law_law_1602 (L : List Value) (x y : Int32) (st : List Value) (g : px_G) : rn k_Law_law 1602 L (.int y :: .int x :: st) g = rn k_Law_law 1603 L (.int (x + y) :: st) g := rn_next dd_Law_law_1602 rfl
theorem dd_Law_law_1603 : decode (px_rw k_Law_law).2.1 1603 = .ok (.iaload, 1) := (by decide +kernel : decode code 1603 = .ok (.iaload, 1))
theorem e_Law_law_1603 (L : List Value) (i : Int32) (p : Nat) (st : List Value) (T : TS) (hp : (sh p).1 = 0) : rn k_Law_law 1603 L (.int i :: .ref p :: st) (enc T) = if px_in i (sh p).2 then rn k_Law_law 1604 L (.int (T.1 p i.toNatClampNeg) :: st) (enc T) else none := rn_iald dd_Law_law_1603 (Prod.ext hp rfl)
theorem e_Law_law_1603S (L : List Value) (i : Int32) (st : List Value) (T : TS) : rn k_Law_law 1603 L (.int i :: .ref 1002 :: st) (enc T) = if px_in i T.2.2.2 then rn k_Law_law 1604 L (.int (T.1 1002 i.toNatClampNeg) :: st) (enc T) else none := rn_iaS dd_Law_law_1603
theorem dd_Law_law_1604 : decode (px_rw k_Law_law).2.1 1604 = .ok (.aload_n 0, 1) := (by decide +kernel : decode code 1604 = .ok (.aload_n 0, 1))
theorem e_Law_law_1604 (a1 a2 a3 a4 a5 a6 : Value) (x : Nat) (st : List Value) (g : px_G) : rn k_Law_law 1604 [.ref x, a1, a2, a3, a4, a5, a6] st g = rn k_Law_law 1605 [.ref x, a1, a2, a3, a4, a5, a6] (.ref x :: st) g := rn_next dd_Law_law_1604 rfl
theorem dd_Law_law_1605 : decode (px_rw k_Law_law).2.1 1605 = .ok (.iload 4, 2) := (by decide +kernel : decode code 1605 = .ok (.iload 4, 2))
theorem e_Law_law_1605 (a0 a1 a2 a3 a5 a6 : Value) (x : Int32) (st : List Value) (g : px_G) : rn k_Law_law 1605 [a0, a1, a2, a3, .int x, a5, a6] st g = rn k_Law_law 1607 [a0, a1, a2, a3, .int x, a5, a6] (.int x :: st) g := rn_next dd_Law_law_1605 rfl
theorem dd_Law_law_1607 : decode (px_rw k_Law_law).2.1 1607 = .ok (.iconst 2, 1) := (by decide +kernel : decode code 1607 = .ok (.iconst 2, 1))
theorem e_Law_law_1607 (L st : List Value) (g : px_G) : rn k_Law_law 1607 L st g = rn k_Law_law 1608 L (.int 2 :: st) g := rn_ipush (i := .iconst 2) dd_Law_law_1607 rfl rfl (by decide)
theorem dd_Law_law_1608 : decode (px_rw k_Law_law).2.1 1608 = .ok (.iadd, 1) := (by decide +kernel : decode code 1608 = .ok (.iadd, 1))
theorem e_Law_law_1608 (L : List Value) (x y : Int32) (st : List Value) (g : px_G) : rn k_Law_law 1608 L (.int y :: .int x :: st) g = rn k_Law_law 1609 L (.int (x + y) :: st) g := rn_next dd_Law_law_1608 rfl
theorem dd_Law_law_1609 : decode (px_rw k_Law_law).2.1 1609 = .ok (.iaload, 1) := (by decide +kernel : decode code 1609 = .ok (.iaload, 1))
theorem e_Law_law_1609 (L : List Value) (i : Int32) (p : Nat) (st : List Value) (T : TS) (hp : (sh p).1 = 0) : rn k_Law_law 1609 L (.int i :: .ref p :: st) (enc T) = if px_in i (sh p).2 then rn k_Law_law 1610 L (.int (T.1 p i.toNatClampNeg) :: st) (enc T) else none := rn_iald dd_Law_law_1609 (Prod.ext hp rfl)
theorem e_Law_law_1609S (L : List Value) (i : Int32) (st : List Value) (T : TS) : rn k_Law_law 1609 L (.int i :: .ref 1002 :: st) (enc T) = if px_in i T.2.2.2 then rn k_Law_law 1610 L (.int (T.1 1002 i.toNatClampNeg) :: st) (enc T) else none := rn_iaS dd_Law_law_1609
theorem dd_Law_law_1610 : decode (px_rw k_Law_law).2.1 1610 = .ok (.aload_n 0, 1) := (by decide +kernel : decode code 1610 = .ok (.aload_n 0, 1))
theorem e_Law_law_1610 (a1 a2 a3 a4 a5 a6 : Value) (x : Nat) (st : List Value) (g : px_G) : rn k_Law_law 1610 [.ref x, a1, a2, a3, a4, a5, a6] st g = rn k_Law_law 1611 [.ref x, a1, a2, a3, a4, a5, a6] (.ref x :: st) g := rn_next dd_Law_law_1610 rfl
theorem dd_Law_law_1611 : decode (px_rw k_Law_law).2.1 1611 = .ok (.iload 4, 2) := (by decide +kernel : decode code 1611 = .ok (.iload 4, 2))
theorem e_Law_law_1611 (a0 a1 a2 a3 a5 a6 : Value) (x : Int32) (st : List Value) (g : px_G) : rn k_Law_law 1611 [a0, a1, a2, a3, .int x, a5, a6] st g = rn k_Law_law 1613 [a0, a1, a2, a3, .int x, a5, a6] (.int x :: st) g := rn_next dd_Law_law_1611 rfl
theorem dd_Law_law_1613 : decode (px_rw k_Law_law).2.1 1613 = .ok (.iconst 3, 1) := (by decide +kernel : decode code 1613 = .ok (.iconst 3, 1))
theorem e_Law_law_1613 (L st : List Value) (g : px_G) : rn k_Law_law 1613 L st g = rn k_Law_law 1614 L (.int 3 :: st) g := rn_ipush (i := .iconst 3) dd_Law_law_1613 rfl rfl (by decide)
theorem dd_Law_law_1614 : decode (px_rw k_Law_law).2.1 1614 = .ok (.iadd, 1) := (by decide +kernel : decode code 1614 = .ok (.iadd, 1))
theorem e_Law_law_1614 (L : List Value) (x y : Int32) (st : List Value) (g : px_G) : rn k_Law_law 1614 L (.int y :: .int x :: st) g = rn k_Law_law 1615 L (.int (x + y) :: st) g := rn_next dd_Law_law_1614 rfl
theorem dd_Law_law_1615 : decode (px_rw k_Law_law).2.1 1615 = .ok (.iaload, 1) := (by decide +kernel : decode code 1615 = .ok (.iaload, 1))
theorem e_Law_law_1615 (L : List Value) (i : Int32) (p : Nat) (st : List Value) (T : TS) (hp : (sh p).1 = 0) : rn k_Law_law 1615 L (.int i :: .ref p :: st) (enc T) = if px_in i (sh p).2 then rn k_Law_law 1616 L (.int (T.1 p i.toNatClampNeg) :: st) (enc T) else none := rn_iald dd_Law_law_1615 (Prod.ext hp rfl)
theorem e_Law_law_1615S (L : List Value) (i : Int32) (st : List Value) (T : TS) : rn k_Law_law 1615 L (.int i :: .ref 1002 :: st) (enc T) = if px_in i T.2.2.2 then rn k_Law_law 1616 L (.int (T.1 1002 i.toNatClampNeg) :: st) (enc T) else none := rn_iaS dd_Law_law_1615
theorem dd_Law_law_1616 : decode (px_rw k_Law_law).2.1 1616 = .ok (.invokevirtual 153, 3) := (by decide +kernel : decode code 1616 = .ok (.invokevirtual 153, 3))
theorem e_Law_law_1616 (L : List Value) (i0 : Int32) (i1 : Int32) (i2 : Int32) (i100 : Int32)  (T : TS)  : rn k_Law_law 1616 L [.int i2, .int i1, .int i0, .ref 53, .int i100] (enc T) = bd (cl k_Dm_offset [.ref 53, .int i0, .int i1, .int i2] (enc T)) (fun r g' => rn k_Law_law 1619 L (r.toList ++ [.int i100]) g') := rn_callV (n := 52) (As := [.int i0, .int i1, .int i2]) (rest := [.int i100]) dd_Law_law_1616 rfl (by decide) (by decide) rfl rfl (Nat.le_of_ble_eq_true rfl) (Nat.le_of_ble_eq_true rfl) rfl
theorem dd_Law_law_1619 : decode (px_rw k_Law_law).2.1 1619 = .ok (.if_icmp .eq 142, 3) := (by decide +kernel : decode code 1619 = .ok (.if_icmp .eq 142, 3))
theorem e_Law_law_1619 (L : List Value) (x y : Int32) (st : List Value) (g : px_G) : rn k_Law_law 1619 L (.int y :: .int x :: st) g = if x = y then rn k_Law_law 1761 L st g else rn k_Law_law 1622 L st g := rn_iceq dd_Law_law_1619 (by decide)
theorem dd_Law_law_1622 : decode (px_rw k_Law_law).2.1 1622 = .ok (.iconst 0, 1) := (by decide +kernel : decode code 1622 = .ok (.iconst 0, 1))
theorem e_Law_law_1622 (L st : List Value) (g : px_G) : rn k_Law_law 1622 L st g = rn k_Law_law 1623 L (.int 0 :: st) g := rn_ipush (i := .iconst 0) dd_Law_law_1622 rfl rfl (by decide)
theorem dd_Law_law_1623 : decode (px_rw k_Law_law).2.1 1623 = .ok (.ireturn, 1) := (by decide +kernel : decode code 1623 = .ok (.ireturn, 1))
theorem e_Law_law_1623 (L : List Value) (v : Int32) (g : px_G) (hv : v = 0 ∨ v = 1) : rn k_Law_law 1623 L [.int v] g = some (some (.int v), g) := rn_zret dd_Law_law_1623 rfl hv
theorem dd_Law_law_1624 : decode (px_rw k_Law_law).2.1 1624 = .ok (.aload_n 1, 1) := (by decide +kernel : decode code 1624 = .ok (.aload_n 1, 1))
theorem e_Law_law_1624 (a0 a2 a3 a4 a5 a6 : Value) (x : Nat) (st : List Value) (g : px_G) : rn k_Law_law 1624 [a0, .ref x, a2, a3, a4, a5, a6] st g = rn k_Law_law 1625 [a0, .ref x, a2, a3, a4, a5, a6] (.ref x :: st) g := rn_next dd_Law_law_1624 rfl
theorem dd_Law_law_1625 : decode (px_rw k_Law_law).2.1 1625 = .ok (.aload_n 0, 1) := (by decide +kernel : decode code 1625 = .ok (.aload_n 0, 1))
theorem e_Law_law_1625 (a1 a2 a3 a4 a5 a6 : Value) (x : Nat) (st : List Value) (g : px_G) : rn k_Law_law 1625 [.ref x, a1, a2, a3, a4, a5, a6] st g = rn k_Law_law 1626 [.ref x, a1, a2, a3, a4, a5, a6] (.ref x :: st) g := rn_next dd_Law_law_1625 rfl
theorem dd_Law_law_1626 : decode (px_rw k_Law_law).2.1 1626 = .ok (.iload 4, 2) := (by decide +kernel : decode code 1626 = .ok (.iload 4, 2))
theorem e_Law_law_1626 (a0 a1 a2 a3 a5 a6 : Value) (x : Int32) (st : List Value) (g : px_G) : rn k_Law_law 1626 [a0, a1, a2, a3, .int x, a5, a6] st g = rn k_Law_law 1628 [a0, a1, a2, a3, .int x, a5, a6] (.int x :: st) g := rn_next dd_Law_law_1626 rfl
theorem dd_Law_law_1628 : decode (px_rw k_Law_law).2.1 1628 = .ok (.iconst 1, 1) := (by decide +kernel : decode code 1628 = .ok (.iconst 1, 1))
theorem e_Law_law_1628 (L st : List Value) (g : px_G) : rn k_Law_law 1628 L st g = rn k_Law_law 1629 L (.int 1 :: st) g := rn_ipush (i := .iconst 1) dd_Law_law_1628 rfl rfl (by decide)
theorem dd_Law_law_1629 : decode (px_rw k_Law_law).2.1 1629 = .ok (.iadd, 1) := (by decide +kernel : decode code 1629 = .ok (.iadd, 1))
theorem e_Law_law_1629 (L : List Value) (x y : Int32) (st : List Value) (g : px_G) : rn k_Law_law 1629 L (.int y :: .int x :: st) g = rn k_Law_law 1630 L (.int (x + y) :: st) g := rn_next dd_Law_law_1629 rfl
theorem dd_Law_law_1630 : decode (px_rw k_Law_law).2.1 1630 = .ok (.iaload, 1) := (by decide +kernel : decode code 1630 = .ok (.iaload, 1))
theorem e_Law_law_1630 (L : List Value) (i : Int32) (p : Nat) (st : List Value) (T : TS) (hp : (sh p).1 = 0) : rn k_Law_law 1630 L (.int i :: .ref p :: st) (enc T) = if px_in i (sh p).2 then rn k_Law_law 1631 L (.int (T.1 p i.toNatClampNeg) :: st) (enc T) else none := rn_iald dd_Law_law_1630 (Prod.ext hp rfl)
theorem e_Law_law_1630S (L : List Value) (i : Int32) (st : List Value) (T : TS) : rn k_Law_law 1630 L (.int i :: .ref 1002 :: st) (enc T) = if px_in i T.2.2.2 then rn k_Law_law 1631 L (.int (T.1 1002 i.toNatClampNeg) :: st) (enc T) else none := rn_iaS dd_Law_law_1630
theorem dd_Law_law_1631 : decode (px_rw k_Law_law).2.1 1631 = .ok (.aload_n 0, 1) := (by decide +kernel : decode code 1631 = .ok (.aload_n 0, 1))
theorem e_Law_law_1631 (a1 a2 a3 a4 a5 a6 : Value) (x : Nat) (st : List Value) (g : px_G) : rn k_Law_law 1631 [.ref x, a1, a2, a3, a4, a5, a6] st g = rn k_Law_law 1632 [.ref x, a1, a2, a3, a4, a5, a6] (.ref x :: st) g := rn_next dd_Law_law_1631 rfl
theorem dd_Law_law_1632 : decode (px_rw k_Law_law).2.1 1632 = .ok (.iload 4, 2) := (by decide +kernel : decode code 1632 = .ok (.iload 4, 2))
theorem e_Law_law_1632 (a0 a1 a2 a3 a5 a6 : Value) (x : Int32) (st : List Value) (g : px_G) : rn k_Law_law 1632 [a0, a1, a2, a3, .int x, a5, a6] st g = rn k_Law_law 1634 [a0, a1, a2, a3, .int x, a5, a6] (.int x :: st) g := rn_next dd_Law_law_1632 rfl
theorem dd_Law_law_1634 : decode (px_rw k_Law_law).2.1 1634 = .ok (.iconst 2, 1) := (by decide +kernel : decode code 1634 = .ok (.iconst 2, 1))
theorem e_Law_law_1634 (L st : List Value) (g : px_G) : rn k_Law_law 1634 L st g = rn k_Law_law 1635 L (.int 2 :: st) g := rn_ipush (i := .iconst 2) dd_Law_law_1634 rfl rfl (by decide)
theorem dd_Law_law_1635 : decode (px_rw k_Law_law).2.1 1635 = .ok (.iadd, 1) := (by decide +kernel : decode code 1635 = .ok (.iadd, 1))
theorem e_Law_law_1635 (L : List Value) (x y : Int32) (st : List Value) (g : px_G) : rn k_Law_law 1635 L (.int y :: .int x :: st) g = rn k_Law_law 1636 L (.int (x + y) :: st) g := rn_next dd_Law_law_1635 rfl
theorem dd_Law_law_1636 : decode (px_rw k_Law_law).2.1 1636 = .ok (.iaload, 1) := (by decide +kernel : decode code 1636 = .ok (.iaload, 1))
theorem e_Law_law_1636 (L : List Value) (i : Int32) (p : Nat) (st : List Value) (T : TS) (hp : (sh p).1 = 0) : rn k_Law_law 1636 L (.int i :: .ref p :: st) (enc T) = if px_in i (sh p).2 then rn k_Law_law 1637 L (.int (T.1 p i.toNatClampNeg) :: st) (enc T) else none := rn_iald dd_Law_law_1636 (Prod.ext hp rfl)
theorem e_Law_law_1636S (L : List Value) (i : Int32) (st : List Value) (T : TS) : rn k_Law_law 1636 L (.int i :: .ref 1002 :: st) (enc T) = if px_in i T.2.2.2 then rn k_Law_law 1637 L (.int (T.1 1002 i.toNatClampNeg) :: st) (enc T) else none := rn_iaS dd_Law_law_1636
theorem dd_Law_law_1637 : decode (px_rw k_Law_law).2.1 1637 = .ok (.invokevirtual 154, 3) := (by decide +kernel : decode code 1637 = .ok (.invokevirtual 154, 3))
theorem e_Law_law_1637 (L : List Value) (i0 : Int32) (i1 : Int32)  (T : TS)  : rn k_Law_law 1637 L [.int i1, .int i0, .ref 0] (enc T) = bd (cl k_Ds_swap [.ref 0, .int i0, .int i1] (enc T)) (fun r g' => rn k_Law_law 1640 L (r.toList ++ []) g') := rn_callV (n := 13) (As := [.int i0, .int i1]) (rest := []) dd_Law_law_1637 rfl (by decide) (by decide) rfl rfl (Nat.le_of_ble_eq_true rfl) (Nat.le_of_ble_eq_true rfl) rfl
theorem dd_Law_law_1640 : decode (px_rw k_Law_law).2.1 1640 = .ok (.aload_n 2, 1) := (by decide +kernel : decode code 1640 = .ok (.aload_n 2, 1))
theorem e_Law_law_1640 (a0 a1 a3 a4 a5 a6 : Value) (x : Nat) (st : List Value) (g : px_G) : rn k_Law_law 1640 [a0, a1, .ref x, a3, a4, a5, a6] st g = rn k_Law_law 1641 [a0, a1, .ref x, a3, a4, a5, a6] (.ref x :: st) g := rn_next dd_Law_law_1640 rfl
theorem dd_Law_law_1641 : decode (px_rw k_Law_law).2.1 1641 = .ok (.aload_n 0, 1) := (by decide +kernel : decode code 1641 = .ok (.aload_n 0, 1))
theorem e_Law_law_1641 (a1 a2 a3 a4 a5 a6 : Value) (x : Nat) (st : List Value) (g : px_G) : rn k_Law_law 1641 [.ref x, a1, a2, a3, a4, a5, a6] st g = rn k_Law_law 1642 [.ref x, a1, a2, a3, a4, a5, a6] (.ref x :: st) g := rn_next dd_Law_law_1641 rfl
theorem dd_Law_law_1642 : decode (px_rw k_Law_law).2.1 1642 = .ok (.iload 4, 2) := (by decide +kernel : decode code 1642 = .ok (.iload 4, 2))
theorem e_Law_law_1642 (a0 a1 a2 a3 a5 a6 : Value) (x : Int32) (st : List Value) (g : px_G) : rn k_Law_law 1642 [a0, a1, a2, a3, .int x, a5, a6] st g = rn k_Law_law 1644 [a0, a1, a2, a3, .int x, a5, a6] (.int x :: st) g := rn_next dd_Law_law_1642 rfl
theorem dd_Law_law_1644 : decode (px_rw k_Law_law).2.1 1644 = .ok (.iconst 1, 1) := (by decide +kernel : decode code 1644 = .ok (.iconst 1, 1))
theorem e_Law_law_1644 (L st : List Value) (g : px_G) : rn k_Law_law 1644 L st g = rn k_Law_law 1645 L (.int 1 :: st) g := rn_ipush (i := .iconst 1) dd_Law_law_1644 rfl rfl (by decide)
theorem dd_Law_law_1645 : decode (px_rw k_Law_law).2.1 1645 = .ok (.iadd, 1) := (by decide +kernel : decode code 1645 = .ok (.iadd, 1))
theorem e_Law_law_1645 (L : List Value) (x y : Int32) (st : List Value) (g : px_G) : rn k_Law_law 1645 L (.int y :: .int x :: st) g = rn k_Law_law 1646 L (.int (x + y) :: st) g := rn_next dd_Law_law_1645 rfl
theorem dd_Law_law_1646 : decode (px_rw k_Law_law).2.1 1646 = .ok (.iaload, 1) := (by decide +kernel : decode code 1646 = .ok (.iaload, 1))
theorem e_Law_law_1646 (L : List Value) (i : Int32) (p : Nat) (st : List Value) (T : TS) (hp : (sh p).1 = 0) : rn k_Law_law 1646 L (.int i :: .ref p :: st) (enc T) = if px_in i (sh p).2 then rn k_Law_law 1647 L (.int (T.1 p i.toNatClampNeg) :: st) (enc T) else none := rn_iald dd_Law_law_1646 (Prod.ext hp rfl)
theorem e_Law_law_1646S (L : List Value) (i : Int32) (st : List Value) (T : TS) : rn k_Law_law 1646 L (.int i :: .ref 1002 :: st) (enc T) = if px_in i T.2.2.2 then rn k_Law_law 1647 L (.int (T.1 1002 i.toNatClampNeg) :: st) (enc T) else none := rn_iaS dd_Law_law_1646
theorem dd_Law_law_1647 : decode (px_rw k_Law_law).2.1 1647 = .ok (.aload_n 0, 1) := (by decide +kernel : decode code 1647 = .ok (.aload_n 0, 1))
theorem e_Law_law_1647 (a1 a2 a3 a4 a5 a6 : Value) (x : Nat) (st : List Value) (g : px_G) : rn k_Law_law 1647 [.ref x, a1, a2, a3, a4, a5, a6] st g = rn k_Law_law 1648 [.ref x, a1, a2, a3, a4, a5, a6] (.ref x :: st) g := rn_next dd_Law_law_1647 rfl
theorem dd_Law_law_1648 : decode (px_rw k_Law_law).2.1 1648 = .ok (.iload 4, 2) := (by decide +kernel : decode code 1648 = .ok (.iload 4, 2))
theorem e_Law_law_1648 (a0 a1 a2 a3 a5 a6 : Value) (x : Int32) (st : List Value) (g : px_G) : rn k_Law_law 1648 [a0, a1, a2, a3, .int x, a5, a6] st g = rn k_Law_law 1650 [a0, a1, a2, a3, .int x, a5, a6] (.int x :: st) g := rn_next dd_Law_law_1648 rfl
theorem dd_Law_law_1650 : decode (px_rw k_Law_law).2.1 1650 = .ok (.iconst 2, 1) := (by decide +kernel : decode code 1650 = .ok (.iconst 2, 1))
theorem e_Law_law_1650 (L st : List Value) (g : px_G) : rn k_Law_law 1650 L st g = rn k_Law_law 1651 L (.int 2 :: st) g := rn_ipush (i := .iconst 2) dd_Law_law_1650 rfl rfl (by decide)
theorem dd_Law_law_1651 : decode (px_rw k_Law_law).2.1 1651 = .ok (.iadd, 1) := (by decide +kernel : decode code 1651 = .ok (.iadd, 1))
theorem e_Law_law_1651 (L : List Value) (x y : Int32) (st : List Value) (g : px_G) : rn k_Law_law 1651 L (.int y :: .int x :: st) g = rn k_Law_law 1652 L (.int (x + y) :: st) g := rn_next dd_Law_law_1651 rfl
theorem dd_Law_law_1652 : decode (px_rw k_Law_law).2.1 1652 = .ok (.iaload, 1) := (by decide +kernel : decode code 1652 = .ok (.iaload, 1))
theorem e_Law_law_1652 (L : List Value) (i : Int32) (p : Nat) (st : List Value) (T : TS) (hp : (sh p).1 = 0) : rn k_Law_law 1652 L (.int i :: .ref p :: st) (enc T) = if px_in i (sh p).2 then rn k_Law_law 1653 L (.int (T.1 p i.toNatClampNeg) :: st) (enc T) else none := rn_iald dd_Law_law_1652 (Prod.ext hp rfl)
theorem e_Law_law_1652S (L : List Value) (i : Int32) (st : List Value) (T : TS) : rn k_Law_law 1652 L (.int i :: .ref 1002 :: st) (enc T) = if px_in i T.2.2.2 then rn k_Law_law 1653 L (.int (T.1 1002 i.toNatClampNeg) :: st) (enc T) else none := rn_iaS dd_Law_law_1652
theorem dd_Law_law_1653 : decode (px_rw k_Law_law).2.1 1653 = .ok (.invokevirtual 158, 3) := (by decide +kernel : decode code 1653 = .ok (.invokevirtual 158, 3))
theorem e_Law_law_1653 (L : List Value) (i0 : Int32) (i1 : Int32) (i100 : Int32)  (T : TS)  : rn k_Law_law 1653 L [.int i1, .int i0, .ref 53, .int i100] (enc T) = bd (cl k_Dm_swap [.ref 53, .int i0, .int i1] (enc T)) (fun r g' => rn k_Law_law 1656 L (r.toList ++ [.int i100]) g') := rn_callV (n := 52) (As := [.int i0, .int i1]) (rest := [.int i100]) dd_Law_law_1653 rfl (by decide) (by decide) rfl rfl (Nat.le_of_ble_eq_true rfl) (Nat.le_of_ble_eq_true rfl) rfl
theorem dd_Law_law_1656 : decode (px_rw k_Law_law).2.1 1656 = .ok (.if_icmp .eq 105, 3) := (by decide +kernel : decode code 1656 = .ok (.if_icmp .eq 105, 3))
theorem e_Law_law_1656 (L : List Value) (x y : Int32) (st : List Value) (g : px_G) : rn k_Law_law 1656 L (.int y :: .int x :: st) g = if x = y then rn k_Law_law 1761 L st g else rn k_Law_law 1659 L st g := rn_iceq dd_Law_law_1656 (by decide)
theorem dd_Law_law_1659 : decode (px_rw k_Law_law).2.1 1659 = .ok (.iconst 0, 1) := (by decide +kernel : decode code 1659 = .ok (.iconst 0, 1))
theorem e_Law_law_1659 (L st : List Value) (g : px_G) : rn k_Law_law 1659 L st g = rn k_Law_law 1660 L (.int 0 :: st) g := rn_ipush (i := .iconst 0) dd_Law_law_1659 rfl rfl (by decide)
theorem dd_Law_law_1660 : decode (px_rw k_Law_law).2.1 1660 = .ok (.ireturn, 1) := (by decide +kernel : decode code 1660 = .ok (.ireturn, 1))
theorem e_Law_law_1660 (L : List Value) (v : Int32) (g : px_G) (hv : v = 0 ∨ v = 1) : rn k_Law_law 1660 L [.int v] g = some (some (.int v), g) := rn_zret dd_Law_law_1660 rfl hv
theorem dd_Law_law_1661 : decode (px_rw k_Law_law).2.1 1661 = .ok (.aload_n 1, 1) := (by decide +kernel : decode code 1661 = .ok (.aload_n 1, 1))
theorem e_Law_law_1661 (a0 a2 a3 a4 a5 a6 : Value) (x : Nat) (st : List Value) (g : px_G) : rn k_Law_law 1661 [a0, .ref x, a2, a3, a4, a5, a6] st g = rn k_Law_law 1662 [a0, .ref x, a2, a3, a4, a5, a6] (.ref x :: st) g := rn_next dd_Law_law_1661 rfl
theorem dd_Law_law_1662 : decode (px_rw k_Law_law).2.1 1662 = .ok (.aload_n 0, 1) := (by decide +kernel : decode code 1662 = .ok (.aload_n 0, 1))
theorem e_Law_law_1662 (a1 a2 a3 a4 a5 a6 : Value) (x : Nat) (st : List Value) (g : px_G) : rn k_Law_law 1662 [.ref x, a1, a2, a3, a4, a5, a6] st g = rn k_Law_law 1663 [.ref x, a1, a2, a3, a4, a5, a6] (.ref x :: st) g := rn_next dd_Law_law_1662 rfl
theorem dd_Law_law_1663 : decode (px_rw k_Law_law).2.1 1663 = .ok (.iload 4, 2) := (by decide +kernel : decode code 1663 = .ok (.iload 4, 2))
theorem e_Law_law_1663 (a0 a1 a2 a3 a5 a6 : Value) (x : Int32) (st : List Value) (g : px_G) : rn k_Law_law 1663 [a0, a1, a2, a3, .int x, a5, a6] st g = rn k_Law_law 1665 [a0, a1, a2, a3, .int x, a5, a6] (.int x :: st) g := rn_next dd_Law_law_1663 rfl
theorem dd_Law_law_1665 : decode (px_rw k_Law_law).2.1 1665 = .ok (.iconst 1, 1) := (by decide +kernel : decode code 1665 = .ok (.iconst 1, 1))
theorem e_Law_law_1665 (L st : List Value) (g : px_G) : rn k_Law_law 1665 L st g = rn k_Law_law 1666 L (.int 1 :: st) g := rn_ipush (i := .iconst 1) dd_Law_law_1665 rfl rfl (by decide)
theorem dd_Law_law_1666 : decode (px_rw k_Law_law).2.1 1666 = .ok (.iadd, 1) := (by decide +kernel : decode code 1666 = .ok (.iadd, 1))
theorem e_Law_law_1666 (L : List Value) (x y : Int32) (st : List Value) (g : px_G) : rn k_Law_law 1666 L (.int y :: .int x :: st) g = rn k_Law_law 1667 L (.int (x + y) :: st) g := rn_next dd_Law_law_1666 rfl
theorem dd_Law_law_1667 : decode (px_rw k_Law_law).2.1 1667 = .ok (.iaload, 1) := (by decide +kernel : decode code 1667 = .ok (.iaload, 1))
theorem e_Law_law_1667 (L : List Value) (i : Int32) (p : Nat) (st : List Value) (T : TS) (hp : (sh p).1 = 0) : rn k_Law_law 1667 L (.int i :: .ref p :: st) (enc T) = if px_in i (sh p).2 then rn k_Law_law 1668 L (.int (T.1 p i.toNatClampNeg) :: st) (enc T) else none := rn_iald dd_Law_law_1667 (Prod.ext hp rfl)
theorem e_Law_law_1667S (L : List Value) (i : Int32) (st : List Value) (T : TS) : rn k_Law_law 1667 L (.int i :: .ref 1002 :: st) (enc T) = if px_in i T.2.2.2 then rn k_Law_law 1668 L (.int (T.1 1002 i.toNatClampNeg) :: st) (enc T) else none := rn_iaS dd_Law_law_1667
theorem dd_Law_law_1668 : decode (px_rw k_Law_law).2.1 1668 = .ok (.invokevirtual 159, 3) := (by decide +kernel : decode code 1668 = .ok (.invokevirtual 159, 3))
theorem e_Law_law_1668 (L : List Value) (i0 : Int32)  (T : TS)  : rn k_Law_law 1668 L [.int i0, .ref 0] (enc T) = bd (cl k_Ds_drop [.ref 0, .int i0] (enc T)) (fun r g' => rn k_Law_law 1671 L (r.toList ++ []) g') := rn_callV (n := 13) (As := [.int i0]) (rest := []) dd_Law_law_1668 rfl (by decide) (by decide) rfl rfl (Nat.le_of_ble_eq_true rfl) (Nat.le_of_ble_eq_true rfl) rfl
theorem dd_Law_law_1671 : decode (px_rw k_Law_law).2.1 1671 = .ok (.aload_n 2, 1) := (by decide +kernel : decode code 1671 = .ok (.aload_n 2, 1))
theorem e_Law_law_1671 (a0 a1 a3 a4 a5 a6 : Value) (x : Nat) (st : List Value) (g : px_G) : rn k_Law_law 1671 [a0, a1, .ref x, a3, a4, a5, a6] st g = rn k_Law_law 1672 [a0, a1, .ref x, a3, a4, a5, a6] (.ref x :: st) g := rn_next dd_Law_law_1671 rfl
theorem dd_Law_law_1672 : decode (px_rw k_Law_law).2.1 1672 = .ok (.aload_n 0, 1) := (by decide +kernel : decode code 1672 = .ok (.aload_n 0, 1))
theorem e_Law_law_1672 (a1 a2 a3 a4 a5 a6 : Value) (x : Nat) (st : List Value) (g : px_G) : rn k_Law_law 1672 [.ref x, a1, a2, a3, a4, a5, a6] st g = rn k_Law_law 1673 [.ref x, a1, a2, a3, a4, a5, a6] (.ref x :: st) g := rn_next dd_Law_law_1672 rfl
theorem dd_Law_law_1673 : decode (px_rw k_Law_law).2.1 1673 = .ok (.iload 4, 2) := (by decide +kernel : decode code 1673 = .ok (.iload 4, 2))
theorem e_Law_law_1673 (a0 a1 a2 a3 a5 a6 : Value) (x : Int32) (st : List Value) (g : px_G) : rn k_Law_law 1673 [a0, a1, a2, a3, .int x, a5, a6] st g = rn k_Law_law 1675 [a0, a1, a2, a3, .int x, a5, a6] (.int x :: st) g := rn_next dd_Law_law_1673 rfl
theorem dd_Law_law_1675 : decode (px_rw k_Law_law).2.1 1675 = .ok (.iconst 1, 1) := (by decide +kernel : decode code 1675 = .ok (.iconst 1, 1))
theorem e_Law_law_1675 (L st : List Value) (g : px_G) : rn k_Law_law 1675 L st g = rn k_Law_law 1676 L (.int 1 :: st) g := rn_ipush (i := .iconst 1) dd_Law_law_1675 rfl rfl (by decide)
theorem dd_Law_law_1676 : decode (px_rw k_Law_law).2.1 1676 = .ok (.iadd, 1) := (by decide +kernel : decode code 1676 = .ok (.iadd, 1))
theorem e_Law_law_1676 (L : List Value) (x y : Int32) (st : List Value) (g : px_G) : rn k_Law_law 1676 L (.int y :: .int x :: st) g = rn k_Law_law 1677 L (.int (x + y) :: st) g := rn_next dd_Law_law_1676 rfl
theorem dd_Law_law_1677 : decode (px_rw k_Law_law).2.1 1677 = .ok (.iaload, 1) := (by decide +kernel : decode code 1677 = .ok (.iaload, 1))
theorem e_Law_law_1677 (L : List Value) (i : Int32) (p : Nat) (st : List Value) (T : TS) (hp : (sh p).1 = 0) : rn k_Law_law 1677 L (.int i :: .ref p :: st) (enc T) = if px_in i (sh p).2 then rn k_Law_law 1678 L (.int (T.1 p i.toNatClampNeg) :: st) (enc T) else none := rn_iald dd_Law_law_1677 (Prod.ext hp rfl)
theorem e_Law_law_1677S (L : List Value) (i : Int32) (st : List Value) (T : TS) : rn k_Law_law 1677 L (.int i :: .ref 1002 :: st) (enc T) = if px_in i T.2.2.2 then rn k_Law_law 1678 L (.int (T.1 1002 i.toNatClampNeg) :: st) (enc T) else none := rn_iaS dd_Law_law_1677
theorem dd_Law_law_1678 : decode (px_rw k_Law_law).2.1 1678 = .ok (.invokevirtual 163, 3) := (by decide +kernel : decode code 1678 = .ok (.invokevirtual 163, 3))
theorem e_Law_law_1678 (L : List Value) (i0 : Int32) (i100 : Int32)  (T : TS)  : rn k_Law_law 1678 L [.int i0, .ref 53, .int i100] (enc T) = bd (cl k_Dm_drop [.ref 53, .int i0] (enc T)) (fun r g' => rn k_Law_law 1681 L (r.toList ++ [.int i100]) g') := rn_callV (n := 52) (As := [.int i0]) (rest := [.int i100]) dd_Law_law_1678 rfl (by decide) (by decide) rfl rfl (Nat.le_of_ble_eq_true rfl) (Nat.le_of_ble_eq_true rfl) rfl
theorem dd_Law_law_1681 : decode (px_rw k_Law_law).2.1 1681 = .ok (.if_icmp .eq 80, 3) := (by decide +kernel : decode code 1681 = .ok (.if_icmp .eq 80, 3))
theorem e_Law_law_1681 (L : List Value) (x y : Int32) (st : List Value) (g : px_G) : rn k_Law_law 1681 L (.int y :: .int x :: st) g = if x = y then rn k_Law_law 1761 L st g else rn k_Law_law 1684 L st g := rn_iceq dd_Law_law_1681 (by decide)
theorem dd_Law_law_1684 : decode (px_rw k_Law_law).2.1 1684 = .ok (.iconst 0, 1) := (by decide +kernel : decode code 1684 = .ok (.iconst 0, 1))
theorem e_Law_law_1684 (L st : List Value) (g : px_G) : rn k_Law_law 1684 L st g = rn k_Law_law 1685 L (.int 0 :: st) g := rn_ipush (i := .iconst 0) dd_Law_law_1684 rfl rfl (by decide)
theorem dd_Law_law_1685 : decode (px_rw k_Law_law).2.1 1685 = .ok (.ireturn, 1) := (by decide +kernel : decode code 1685 = .ok (.ireturn, 1))
theorem e_Law_law_1685 (L : List Value) (v : Int32) (g : px_G) (hv : v = 0 ∨ v = 1) : rn k_Law_law 1685 L [.int v] g = some (some (.int v), g) := rn_zret dd_Law_law_1685 rfl hv
theorem dd_Law_law_1686 : decode (px_rw k_Law_law).2.1 1686 = .ok (.aload_n 1, 1) := (by decide +kernel : decode code 1686 = .ok (.aload_n 1, 1))
theorem e_Law_law_1686 (a0 a2 a3 a4 a5 a6 : Value) (x : Nat) (st : List Value) (g : px_G) : rn k_Law_law 1686 [a0, .ref x, a2, a3, a4, a5, a6] st g = rn k_Law_law 1687 [a0, .ref x, a2, a3, a4, a5, a6] (.ref x :: st) g := rn_next dd_Law_law_1686 rfl
theorem dd_Law_law_1687 : decode (px_rw k_Law_law).2.1 1687 = .ok (.aload_n 0, 1) := (by decide +kernel : decode code 1687 = .ok (.aload_n 0, 1))
theorem e_Law_law_1687 (a1 a2 a3 a4 a5 a6 : Value) (x : Nat) (st : List Value) (g : px_G) : rn k_Law_law 1687 [.ref x, a1, a2, a3, a4, a5, a6] st g = rn k_Law_law 1688 [.ref x, a1, a2, a3, a4, a5, a6] (.ref x :: st) g := rn_next dd_Law_law_1687 rfl
theorem dd_Law_law_1688 : decode (px_rw k_Law_law).2.1 1688 = .ok (.iload 4, 2) := (by decide +kernel : decode code 1688 = .ok (.iload 4, 2))
theorem e_Law_law_1688 (a0 a1 a2 a3 a5 a6 : Value) (x : Int32) (st : List Value) (g : px_G) : rn k_Law_law 1688 [a0, a1, a2, a3, .int x, a5, a6] st g = rn k_Law_law 1690 [a0, a1, a2, a3, .int x, a5, a6] (.int x :: st) g := rn_next dd_Law_law_1688 rfl
theorem dd_Law_law_1690 : decode (px_rw k_Law_law).2.1 1690 = .ok (.iconst 1, 1) := (by decide +kernel : decode code 1690 = .ok (.iconst 1, 1))
theorem e_Law_law_1690 (L st : List Value) (g : px_G) : rn k_Law_law 1690 L st g = rn k_Law_law 1691 L (.int 1 :: st) g := rn_ipush (i := .iconst 1) dd_Law_law_1690 rfl rfl (by decide)
theorem dd_Law_law_1691 : decode (px_rw k_Law_law).2.1 1691 = .ok (.iadd, 1) := (by decide +kernel : decode code 1691 = .ok (.iadd, 1))
theorem e_Law_law_1691 (L : List Value) (x y : Int32) (st : List Value) (g : px_G) : rn k_Law_law 1691 L (.int y :: .int x :: st) g = rn k_Law_law 1692 L (.int (x + y) :: st) g := rn_next dd_Law_law_1691 rfl
theorem dd_Law_law_1692 : decode (px_rw k_Law_law).2.1 1692 = .ok (.iaload, 1) := (by decide +kernel : decode code 1692 = .ok (.iaload, 1))
theorem e_Law_law_1692 (L : List Value) (i : Int32) (p : Nat) (st : List Value) (T : TS) (hp : (sh p).1 = 0) : rn k_Law_law 1692 L (.int i :: .ref p :: st) (enc T) = if px_in i (sh p).2 then rn k_Law_law 1693 L (.int (T.1 p i.toNatClampNeg) :: st) (enc T) else none := rn_iald dd_Law_law_1692 (Prod.ext hp rfl)
theorem e_Law_law_1692S (L : List Value) (i : Int32) (st : List Value) (T : TS) : rn k_Law_law 1692 L (.int i :: .ref 1002 :: st) (enc T) = if px_in i T.2.2.2 then rn k_Law_law 1693 L (.int (T.1 1002 i.toNatClampNeg) :: st) (enc T) else none := rn_iaS dd_Law_law_1692
theorem dd_Law_law_1693 : decode (px_rw k_Law_law).2.1 1693 = .ok (.invokevirtual 164, 3) := (by decide +kernel : decode code 1693 = .ok (.invokevirtual 164, 3))
theorem e_Law_law_1693 (L : List Value) (i0 : Int32)  (T : TS)  : rn k_Law_law 1693 L [.int i0, .ref 0] (enc T) = bd (cl k_Ds_status [.ref 0, .int i0] (enc T)) (fun r g' => rn k_Law_law 1696 L (r.toList ++ []) g') := rn_callV (n := 13) (As := [.int i0]) (rest := []) dd_Law_law_1693 rfl (by decide) (by decide) rfl rfl (Nat.le_of_ble_eq_true rfl) (Nat.le_of_ble_eq_true rfl) rfl
theorem dd_Law_law_1696 : decode (px_rw k_Law_law).2.1 1696 = .ok (.aload_n 2, 1) := (by decide +kernel : decode code 1696 = .ok (.aload_n 2, 1))
theorem e_Law_law_1696 (a0 a1 a3 a4 a5 a6 : Value) (x : Nat) (st : List Value) (g : px_G) : rn k_Law_law 1696 [a0, a1, .ref x, a3, a4, a5, a6] st g = rn k_Law_law 1697 [a0, a1, .ref x, a3, a4, a5, a6] (.ref x :: st) g := rn_next dd_Law_law_1696 rfl
theorem dd_Law_law_1697 : decode (px_rw k_Law_law).2.1 1697 = .ok (.aload_n 0, 1) := (by decide +kernel : decode code 1697 = .ok (.aload_n 0, 1))
theorem e_Law_law_1697 (a1 a2 a3 a4 a5 a6 : Value) (x : Nat) (st : List Value) (g : px_G) : rn k_Law_law 1697 [.ref x, a1, a2, a3, a4, a5, a6] st g = rn k_Law_law 1698 [.ref x, a1, a2, a3, a4, a5, a6] (.ref x :: st) g := rn_next dd_Law_law_1697 rfl
theorem dd_Law_law_1698 : decode (px_rw k_Law_law).2.1 1698 = .ok (.iload 4, 2) := (by decide +kernel : decode code 1698 = .ok (.iload 4, 2))
theorem e_Law_law_1698 (a0 a1 a2 a3 a5 a6 : Value) (x : Int32) (st : List Value) (g : px_G) : rn k_Law_law 1698 [a0, a1, a2, a3, .int x, a5, a6] st g = rn k_Law_law 1700 [a0, a1, a2, a3, .int x, a5, a6] (.int x :: st) g := rn_next dd_Law_law_1698 rfl
theorem dd_Law_law_1700 : decode (px_rw k_Law_law).2.1 1700 = .ok (.iconst 1, 1) := (by decide +kernel : decode code 1700 = .ok (.iconst 1, 1))
theorem e_Law_law_1700 (L st : List Value) (g : px_G) : rn k_Law_law 1700 L st g = rn k_Law_law 1701 L (.int 1 :: st) g := rn_ipush (i := .iconst 1) dd_Law_law_1700 rfl rfl (by decide)
theorem dd_Law_law_1701 : decode (px_rw k_Law_law).2.1 1701 = .ok (.iadd, 1) := (by decide +kernel : decode code 1701 = .ok (.iadd, 1))
theorem e_Law_law_1701 (L : List Value) (x y : Int32) (st : List Value) (g : px_G) : rn k_Law_law 1701 L (.int y :: .int x :: st) g = rn k_Law_law 1702 L (.int (x + y) :: st) g := rn_next dd_Law_law_1701 rfl
theorem dd_Law_law_1702 : decode (px_rw k_Law_law).2.1 1702 = .ok (.iaload, 1) := (by decide +kernel : decode code 1702 = .ok (.iaload, 1))
theorem e_Law_law_1702 (L : List Value) (i : Int32) (p : Nat) (st : List Value) (T : TS) (hp : (sh p).1 = 0) : rn k_Law_law 1702 L (.int i :: .ref p :: st) (enc T) = if px_in i (sh p).2 then rn k_Law_law 1703 L (.int (T.1 p i.toNatClampNeg) :: st) (enc T) else none := rn_iald dd_Law_law_1702 (Prod.ext hp rfl)
theorem e_Law_law_1702S (L : List Value) (i : Int32) (st : List Value) (T : TS) : rn k_Law_law 1702 L (.int i :: .ref 1002 :: st) (enc T) = if px_in i T.2.2.2 then rn k_Law_law 1703 L (.int (T.1 1002 i.toNatClampNeg) :: st) (enc T) else none := rn_iaS dd_Law_law_1702
theorem dd_Law_law_1703 : decode (px_rw k_Law_law).2.1 1703 = .ok (.invokevirtual 167, 3) := (by decide +kernel : decode code 1703 = .ok (.invokevirtual 167, 3))
theorem e_Law_law_1703 (L : List Value) (i0 : Int32) (i100 : Int32)  (T : TS)  : rn k_Law_law 1703 L [.int i0, .ref 53, .int i100] (enc T) = bd (cl k_Dm_status [.ref 53, .int i0] (enc T)) (fun r g' => rn k_Law_law 1706 L (r.toList ++ [.int i100]) g') := rn_callV (n := 52) (As := [.int i0]) (rest := [.int i100]) dd_Law_law_1703 rfl (by decide) (by decide) rfl rfl (Nat.le_of_ble_eq_true rfl) (Nat.le_of_ble_eq_true rfl) rfl
theorem dd_Law_law_1706 : decode (px_rw k_Law_law).2.1 1706 = .ok (.if_icmp .eq 55, 3) := (by decide +kernel : decode code 1706 = .ok (.if_icmp .eq 55, 3))
theorem e_Law_law_1706 (L : List Value) (x y : Int32) (st : List Value) (g : px_G) : rn k_Law_law 1706 L (.int y :: .int x :: st) g = if x = y then rn k_Law_law 1761 L st g else rn k_Law_law 1709 L st g := rn_iceq dd_Law_law_1706 (by decide)
theorem dd_Law_law_1709 : decode (px_rw k_Law_law).2.1 1709 = .ok (.iconst 0, 1) := (by decide +kernel : decode code 1709 = .ok (.iconst 0, 1))
theorem e_Law_law_1709 (L st : List Value) (g : px_G) : rn k_Law_law 1709 L st g = rn k_Law_law 1710 L (.int 0 :: st) g := rn_ipush (i := .iconst 0) dd_Law_law_1709 rfl rfl (by decide)
theorem dd_Law_law_1710 : decode (px_rw k_Law_law).2.1 1710 = .ok (.ireturn, 1) := (by decide +kernel : decode code 1710 = .ok (.ireturn, 1))
theorem e_Law_law_1710 (L : List Value) (v : Int32) (g : px_G) (hv : v = 0 ∨ v = 1) : rn k_Law_law 1710 L [.int v] g = some (some (.int v), g) := rn_zret dd_Law_law_1710 rfl hv
theorem dd_Law_law_1711 : decode (px_rw k_Law_law).2.1 1711 = .ok (.aload_n 1, 1) := (by decide +kernel : decode code 1711 = .ok (.aload_n 1, 1))
theorem e_Law_law_1711 (a0 a2 a3 a4 a5 a6 : Value) (x : Nat) (st : List Value) (g : px_G) : rn k_Law_law 1711 [a0, .ref x, a2, a3, a4, a5, a6] st g = rn k_Law_law 1712 [a0, .ref x, a2, a3, a4, a5, a6] (.ref x :: st) g := rn_next dd_Law_law_1711 rfl
theorem dd_Law_law_1712 : decode (px_rw k_Law_law).2.1 1712 = .ok (.aload_n 0, 1) := (by decide +kernel : decode code 1712 = .ok (.aload_n 0, 1))
theorem e_Law_law_1712 (a1 a2 a3 a4 a5 a6 : Value) (x : Nat) (st : List Value) (g : px_G) : rn k_Law_law 1712 [.ref x, a1, a2, a3, a4, a5, a6] st g = rn k_Law_law 1713 [.ref x, a1, a2, a3, a4, a5, a6] (.ref x :: st) g := rn_next dd_Law_law_1712 rfl
theorem dd_Law_law_1713 : decode (px_rw k_Law_law).2.1 1713 = .ok (.iload 4, 2) := (by decide +kernel : decode code 1713 = .ok (.iload 4, 2))
theorem e_Law_law_1713 (a0 a1 a2 a3 a5 a6 : Value) (x : Int32) (st : List Value) (g : px_G) : rn k_Law_law 1713 [a0, a1, a2, a3, .int x, a5, a6] st g = rn k_Law_law 1715 [a0, a1, a2, a3, .int x, a5, a6] (.int x :: st) g := rn_next dd_Law_law_1713 rfl
theorem dd_Law_law_1715 : decode (px_rw k_Law_law).2.1 1715 = .ok (.iconst 1, 1) := (by decide +kernel : decode code 1715 = .ok (.iconst 1, 1))
theorem e_Law_law_1715 (L st : List Value) (g : px_G) : rn k_Law_law 1715 L st g = rn k_Law_law 1716 L (.int 1 :: st) g := rn_ipush (i := .iconst 1) dd_Law_law_1715 rfl rfl (by decide)
theorem dd_Law_law_1716 : decode (px_rw k_Law_law).2.1 1716 = .ok (.iadd, 1) := (by decide +kernel : decode code 1716 = .ok (.iadd, 1))
theorem e_Law_law_1716 (L : List Value) (x y : Int32) (st : List Value) (g : px_G) : rn k_Law_law 1716 L (.int y :: .int x :: st) g = rn k_Law_law 1717 L (.int (x + y) :: st) g := rn_next dd_Law_law_1716 rfl
theorem dd_Law_law_1717 : decode (px_rw k_Law_law).2.1 1717 = .ok (.iaload, 1) := (by decide +kernel : decode code 1717 = .ok (.iaload, 1))
theorem e_Law_law_1717 (L : List Value) (i : Int32) (p : Nat) (st : List Value) (T : TS) (hp : (sh p).1 = 0) : rn k_Law_law 1717 L (.int i :: .ref p :: st) (enc T) = if px_in i (sh p).2 then rn k_Law_law 1718 L (.int (T.1 p i.toNatClampNeg) :: st) (enc T) else none := rn_iald dd_Law_law_1717 (Prod.ext hp rfl)
theorem e_Law_law_1717S (L : List Value) (i : Int32) (st : List Value) (T : TS) : rn k_Law_law 1717 L (.int i :: .ref 1002 :: st) (enc T) = if px_in i T.2.2.2 then rn k_Law_law 1718 L (.int (T.1 1002 i.toNatClampNeg) :: st) (enc T) else none := rn_iaS dd_Law_law_1717
theorem dd_Law_law_1718 : decode (px_rw k_Law_law).2.1 1718 = .ok (.invokevirtual 168, 3) := (by decide +kernel : decode code 1718 = .ok (.invokevirtual 168, 3))
theorem e_Law_law_1718 (L : List Value) (i0 : Int32)  (T : TS)  : rn k_Law_law 1718 L [.int i0, .ref 0] (enc T) = bd (cl k_Ds_most [.ref 0, .int i0] (enc T)) (fun r g' => rn k_Law_law 1721 L (r.toList ++ []) g') := rn_callV (n := 13) (As := [.int i0]) (rest := []) dd_Law_law_1718 rfl (by decide) (by decide) rfl rfl (Nat.le_of_ble_eq_true rfl) (Nat.le_of_ble_eq_true rfl) rfl
theorem dd_Law_law_1721 : decode (px_rw k_Law_law).2.1 1721 = .ok (.aload_n 2, 1) := (by decide +kernel : decode code 1721 = .ok (.aload_n 2, 1))
theorem e_Law_law_1721 (a0 a1 a3 a4 a5 a6 : Value) (x : Nat) (st : List Value) (g : px_G) : rn k_Law_law 1721 [a0, a1, .ref x, a3, a4, a5, a6] st g = rn k_Law_law 1722 [a0, a1, .ref x, a3, a4, a5, a6] (.ref x :: st) g := rn_next dd_Law_law_1721 rfl
theorem dd_Law_law_1722 : decode (px_rw k_Law_law).2.1 1722 = .ok (.aload_n 0, 1) := (by decide +kernel : decode code 1722 = .ok (.aload_n 0, 1))
theorem e_Law_law_1722 (a1 a2 a3 a4 a5 a6 : Value) (x : Nat) (st : List Value) (g : px_G) : rn k_Law_law 1722 [.ref x, a1, a2, a3, a4, a5, a6] st g = rn k_Law_law 1723 [.ref x, a1, a2, a3, a4, a5, a6] (.ref x :: st) g := rn_next dd_Law_law_1722 rfl
theorem dd_Law_law_1723 : decode (px_rw k_Law_law).2.1 1723 = .ok (.iload 4, 2) := (by decide +kernel : decode code 1723 = .ok (.iload 4, 2))
theorem e_Law_law_1723 (a0 a1 a2 a3 a5 a6 : Value) (x : Int32) (st : List Value) (g : px_G) : rn k_Law_law 1723 [a0, a1, a2, a3, .int x, a5, a6] st g = rn k_Law_law 1725 [a0, a1, a2, a3, .int x, a5, a6] (.int x :: st) g := rn_next dd_Law_law_1723 rfl
theorem dd_Law_law_1725 : decode (px_rw k_Law_law).2.1 1725 = .ok (.iconst 1, 1) := (by decide +kernel : decode code 1725 = .ok (.iconst 1, 1))
theorem e_Law_law_1725 (L st : List Value) (g : px_G) : rn k_Law_law 1725 L st g = rn k_Law_law 1726 L (.int 1 :: st) g := rn_ipush (i := .iconst 1) dd_Law_law_1725 rfl rfl (by decide)
theorem dd_Law_law_1726 : decode (px_rw k_Law_law).2.1 1726 = .ok (.iadd, 1) := (by decide +kernel : decode code 1726 = .ok (.iadd, 1))
theorem e_Law_law_1726 (L : List Value) (x y : Int32) (st : List Value) (g : px_G) : rn k_Law_law 1726 L (.int y :: .int x :: st) g = rn k_Law_law 1727 L (.int (x + y) :: st) g := rn_next dd_Law_law_1726 rfl
theorem dd_Law_law_1727 : decode (px_rw k_Law_law).2.1 1727 = .ok (.iaload, 1) := (by decide +kernel : decode code 1727 = .ok (.iaload, 1))
theorem e_Law_law_1727 (L : List Value) (i : Int32) (p : Nat) (st : List Value) (T : TS) (hp : (sh p).1 = 0) : rn k_Law_law 1727 L (.int i :: .ref p :: st) (enc T) = if px_in i (sh p).2 then rn k_Law_law 1728 L (.int (T.1 p i.toNatClampNeg) :: st) (enc T) else none := rn_iald dd_Law_law_1727 (Prod.ext hp rfl)
theorem e_Law_law_1727S (L : List Value) (i : Int32) (st : List Value) (T : TS) : rn k_Law_law 1727 L (.int i :: .ref 1002 :: st) (enc T) = if px_in i T.2.2.2 then rn k_Law_law 1728 L (.int (T.1 1002 i.toNatClampNeg) :: st) (enc T) else none := rn_iaS dd_Law_law_1727
theorem dd_Law_law_1728 : decode (px_rw k_Law_law).2.1 1728 = .ok (.invokevirtual 171, 3) := (by decide +kernel : decode code 1728 = .ok (.invokevirtual 171, 3))
theorem e_Law_law_1728 (L : List Value) (i0 : Int32) (i100 : Int32)  (T : TS)  : rn k_Law_law 1728 L [.int i0, .ref 53, .int i100] (enc T) = bd (cl k_Dm_most [.ref 53, .int i0] (enc T)) (fun r g' => rn k_Law_law 1731 L (r.toList ++ [.int i100]) g') := rn_callV (n := 52) (As := [.int i0]) (rest := [.int i100]) dd_Law_law_1728 rfl (by decide) (by decide) rfl rfl (Nat.le_of_ble_eq_true rfl) (Nat.le_of_ble_eq_true rfl) rfl
theorem dd_Law_law_1731 : decode (px_rw k_Law_law).2.1 1731 = .ok (.if_icmp .eq 30, 3) := (by decide +kernel : decode code 1731 = .ok (.if_icmp .eq 30, 3))
theorem e_Law_law_1731 (L : List Value) (x y : Int32) (st : List Value) (g : px_G) : rn k_Law_law 1731 L (.int y :: .int x :: st) g = if x = y then rn k_Law_law 1761 L st g else rn k_Law_law 1734 L st g := rn_iceq dd_Law_law_1731 (by decide)
theorem dd_Law_law_1734 : decode (px_rw k_Law_law).2.1 1734 = .ok (.iconst 0, 1) := (by decide +kernel : decode code 1734 = .ok (.iconst 0, 1))
theorem e_Law_law_1734 (L st : List Value) (g : px_G) : rn k_Law_law 1734 L st g = rn k_Law_law 1735 L (.int 0 :: st) g := rn_ipush (i := .iconst 0) dd_Law_law_1734 rfl rfl (by decide)
theorem dd_Law_law_1735 : decode (px_rw k_Law_law).2.1 1735 = .ok (.ireturn, 1) := (by decide +kernel : decode code 1735 = .ok (.ireturn, 1))
theorem e_Law_law_1735 (L : List Value) (v : Int32) (g : px_G) (hv : v = 0 ∨ v = 1) : rn k_Law_law 1735 L [.int v] g = some (some (.int v), g) := rn_zret dd_Law_law_1735 rfl hv
theorem dd_Law_law_1736 : decode (px_rw k_Law_law).2.1 1736 = .ok (.aload_n 1, 1) := (by decide +kernel : decode code 1736 = .ok (.aload_n 1, 1))
theorem e_Law_law_1736 (a0 a2 a3 a4 a5 a6 : Value) (x : Nat) (st : List Value) (g : px_G) : rn k_Law_law 1736 [a0, .ref x, a2, a3, a4, a5, a6] st g = rn k_Law_law 1737 [a0, .ref x, a2, a3, a4, a5, a6] (.ref x :: st) g := rn_next dd_Law_law_1736 rfl
theorem dd_Law_law_1737 : decode (px_rw k_Law_law).2.1 1737 = .ok (.aload_n 0, 1) := (by decide +kernel : decode code 1737 = .ok (.aload_n 0, 1))
theorem e_Law_law_1737 (a1 a2 a3 a4 a5 a6 : Value) (x : Nat) (st : List Value) (g : px_G) : rn k_Law_law 1737 [.ref x, a1, a2, a3, a4, a5, a6] st g = rn k_Law_law 1738 [.ref x, a1, a2, a3, a4, a5, a6] (.ref x :: st) g := rn_next dd_Law_law_1737 rfl
theorem dd_Law_law_1738 : decode (px_rw k_Law_law).2.1 1738 = .ok (.iload 4, 2) := (by decide +kernel : decode code 1738 = .ok (.iload 4, 2))
theorem e_Law_law_1738 (a0 a1 a2 a3 a5 a6 : Value) (x : Int32) (st : List Value) (g : px_G) : rn k_Law_law 1738 [a0, a1, a2, a3, .int x, a5, a6] st g = rn k_Law_law 1740 [a0, a1, a2, a3, .int x, a5, a6] (.int x :: st) g := rn_next dd_Law_law_1738 rfl
theorem dd_Law_law_1740 : decode (px_rw k_Law_law).2.1 1740 = .ok (.iconst 1, 1) := (by decide +kernel : decode code 1740 = .ok (.iconst 1, 1))
theorem e_Law_law_1740 (L st : List Value) (g : px_G) : rn k_Law_law 1740 L st g = rn k_Law_law 1741 L (.int 1 :: st) g := rn_ipush (i := .iconst 1) dd_Law_law_1740 rfl rfl (by decide)
theorem dd_Law_law_1741 : decode (px_rw k_Law_law).2.1 1741 = .ok (.iadd, 1) := (by decide +kernel : decode code 1741 = .ok (.iadd, 1))
theorem e_Law_law_1741 (L : List Value) (x y : Int32) (st : List Value) (g : px_G) : rn k_Law_law 1741 L (.int y :: .int x :: st) g = rn k_Law_law 1742 L (.int (x + y) :: st) g := rn_next dd_Law_law_1741 rfl
theorem dd_Law_law_1742 : decode (px_rw k_Law_law).2.1 1742 = .ok (.iaload, 1) := (by decide +kernel : decode code 1742 = .ok (.iaload, 1))
theorem e_Law_law_1742 (L : List Value) (i : Int32) (p : Nat) (st : List Value) (T : TS) (hp : (sh p).1 = 0) : rn k_Law_law 1742 L (.int i :: .ref p :: st) (enc T) = if px_in i (sh p).2 then rn k_Law_law 1743 L (.int (T.1 p i.toNatClampNeg) :: st) (enc T) else none := rn_iald dd_Law_law_1742 (Prod.ext hp rfl)
theorem e_Law_law_1742S (L : List Value) (i : Int32) (st : List Value) (T : TS) : rn k_Law_law 1742 L (.int i :: .ref 1002 :: st) (enc T) = if px_in i T.2.2.2 then rn k_Law_law 1743 L (.int (T.1 1002 i.toNatClampNeg) :: st) (enc T) else none := rn_iaS dd_Law_law_1742
theorem dd_Law_law_1743 : decode (px_rw k_Law_law).2.1 1743 = .ok (.invokevirtual 172, 3) := (by decide +kernel : decode code 1743 = .ok (.invokevirtual 172, 3))
theorem e_Law_law_1743 (L : List Value) (i0 : Int32)  (T : TS)  : rn k_Law_law 1743 L [.int i0, .ref 0] (enc T) = bd (cl k_Ds_count [.ref 0, .int i0] (enc T)) (fun r g' => rn k_Law_law 1746 L (r.toList ++ []) g') := rn_callV (n := 13) (As := [.int i0]) (rest := []) dd_Law_law_1743 rfl (by decide) (by decide) rfl rfl (Nat.le_of_ble_eq_true rfl) (Nat.le_of_ble_eq_true rfl) rfl
theorem dd_Law_law_1746 : decode (px_rw k_Law_law).2.1 1746 = .ok (.aload_n 2, 1) := (by decide +kernel : decode code 1746 = .ok (.aload_n 2, 1))
theorem e_Law_law_1746 (a0 a1 a3 a4 a5 a6 : Value) (x : Nat) (st : List Value) (g : px_G) : rn k_Law_law 1746 [a0, a1, .ref x, a3, a4, a5, a6] st g = rn k_Law_law 1747 [a0, a1, .ref x, a3, a4, a5, a6] (.ref x :: st) g := rn_next dd_Law_law_1746 rfl
theorem dd_Law_law_1747 : decode (px_rw k_Law_law).2.1 1747 = .ok (.aload_n 0, 1) := (by decide +kernel : decode code 1747 = .ok (.aload_n 0, 1))
theorem e_Law_law_1747 (a1 a2 a3 a4 a5 a6 : Value) (x : Nat) (st : List Value) (g : px_G) : rn k_Law_law 1747 [.ref x, a1, a2, a3, a4, a5, a6] st g = rn k_Law_law 1748 [.ref x, a1, a2, a3, a4, a5, a6] (.ref x :: st) g := rn_next dd_Law_law_1747 rfl
theorem dd_Law_law_1748 : decode (px_rw k_Law_law).2.1 1748 = .ok (.iload 4, 2) := (by decide +kernel : decode code 1748 = .ok (.iload 4, 2))
theorem e_Law_law_1748 (a0 a1 a2 a3 a5 a6 : Value) (x : Int32) (st : List Value) (g : px_G) : rn k_Law_law 1748 [a0, a1, a2, a3, .int x, a5, a6] st g = rn k_Law_law 1750 [a0, a1, a2, a3, .int x, a5, a6] (.int x :: st) g := rn_next dd_Law_law_1748 rfl
theorem dd_Law_law_1750 : decode (px_rw k_Law_law).2.1 1750 = .ok (.iconst 1, 1) := (by decide +kernel : decode code 1750 = .ok (.iconst 1, 1))
theorem e_Law_law_1750 (L st : List Value) (g : px_G) : rn k_Law_law 1750 L st g = rn k_Law_law 1751 L (.int 1 :: st) g := rn_ipush (i := .iconst 1) dd_Law_law_1750 rfl rfl (by decide)
theorem dd_Law_law_1751 : decode (px_rw k_Law_law).2.1 1751 = .ok (.iadd, 1) := (by decide +kernel : decode code 1751 = .ok (.iadd, 1))
theorem e_Law_law_1751 (L : List Value) (x y : Int32) (st : List Value) (g : px_G) : rn k_Law_law 1751 L (.int y :: .int x :: st) g = rn k_Law_law 1752 L (.int (x + y) :: st) g := rn_next dd_Law_law_1751 rfl
theorem dd_Law_law_1752 : decode (px_rw k_Law_law).2.1 1752 = .ok (.iaload, 1) := (by decide +kernel : decode code 1752 = .ok (.iaload, 1))
theorem e_Law_law_1752 (L : List Value) (i : Int32) (p : Nat) (st : List Value) (T : TS) (hp : (sh p).1 = 0) : rn k_Law_law 1752 L (.int i :: .ref p :: st) (enc T) = if px_in i (sh p).2 then rn k_Law_law 1753 L (.int (T.1 p i.toNatClampNeg) :: st) (enc T) else none := rn_iald dd_Law_law_1752 (Prod.ext hp rfl)
theorem e_Law_law_1752S (L : List Value) (i : Int32) (st : List Value) (T : TS) : rn k_Law_law 1752 L (.int i :: .ref 1002 :: st) (enc T) = if px_in i T.2.2.2 then rn k_Law_law 1753 L (.int (T.1 1002 i.toNatClampNeg) :: st) (enc T) else none := rn_iaS dd_Law_law_1752
theorem dd_Law_law_1753 : decode (px_rw k_Law_law).2.1 1753 = .ok (.invokevirtual 175, 3) := (by decide +kernel : decode code 1753 = .ok (.invokevirtual 175, 3))
theorem e_Law_law_1753 (L : List Value) (i0 : Int32) (i100 : Int32)  (T : TS)  : rn k_Law_law 1753 L [.int i0, .ref 53, .int i100] (enc T) = bd (cl k_Dm_count [.ref 53, .int i0] (enc T)) (fun r g' => rn k_Law_law 1756 L (r.toList ++ [.int i100]) g') := rn_callV (n := 52) (As := [.int i0]) (rest := [.int i100]) dd_Law_law_1753 rfl (by decide) (by decide) rfl rfl (Nat.le_of_ble_eq_true rfl) (Nat.le_of_ble_eq_true rfl) rfl
theorem dd_Law_law_1756 : decode (px_rw k_Law_law).2.1 1756 = .ok (.if_icmp .eq 5, 3) := (by decide +kernel : decode code 1756 = .ok (.if_icmp .eq 5, 3))
theorem e_Law_law_1756 (L : List Value) (x y : Int32) (st : List Value) (g : px_G) : rn k_Law_law 1756 L (.int y :: .int x :: st) g = if x = y then rn k_Law_law 1761 L st g else rn k_Law_law 1759 L st g := rn_iceq dd_Law_law_1756 (by decide)
theorem dd_Law_law_1759 : decode (px_rw k_Law_law).2.1 1759 = .ok (.iconst 0, 1) := (by decide +kernel : decode code 1759 = .ok (.iconst 0, 1))
theorem e_Law_law_1759 (L st : List Value) (g : px_G) : rn k_Law_law 1759 L st g = rn k_Law_law 1760 L (.int 0 :: st) g := rn_ipush (i := .iconst 0) dd_Law_law_1759 rfl rfl (by decide)
theorem dd_Law_law_1760 : decode (px_rw k_Law_law).2.1 1760 = .ok (.ireturn, 1) := (by decide +kernel : decode code 1760 = .ok (.ireturn, 1))
theorem e_Law_law_1760 (L : List Value) (v : Int32) (g : px_G) (hv : v = 0 ∨ v = 1) : rn k_Law_law 1760 L [.int v] g = some (some (.int v), g) := rn_zret dd_Law_law_1760 rfl hv
theorem dd_Law_law_1761 : decode (px_rw k_Law_law).2.1 1761 = .ok (.iinc 4 7, 3) := (by decide +kernel : decode code 1761 = .ok (.iinc 4 7, 3))
theorem e_Law_law_1761 (a0 a1 a2 a3 a5 a6 : Value) (x : Int32) (st : List Value) (g : px_G) : rn k_Law_law 1761 [a0, a1, a2, a3, .int x, a5, a6] st g = rn k_Law_law 1764 [a0, a1, a2, px_kill a3, .int (x + 7), a5, a6] st g := rn_next dd_Law_law_1761 rfl
theorem dd_Law_law_1764 : decode (px_rw k_Law_law).2.1 1764 = .ok (.goto (-1741), 3) := (by decide +kernel : decode code 1764 = .ok (.goto (-1741), 3))
theorem e_Law_law_1764 (L st : List Value) (g : px_G) : rn k_Law_law 1764 L st g = rn k_Law_law 23 L st g := rn_goto dd_Law_law_1764 (by decide)
theorem dd_Law_law_1767 : decode (px_rw k_Law_law).2.1 1767 = .ok (.iconst 1, 1) := (by decide +kernel : decode code 1767 = .ok (.iconst 1, 1))
theorem e_Law_law_1767 (L st : List Value) (g : px_G) : rn k_Law_law 1767 L st g = rn k_Law_law 1768 L (.int 1 :: st) g := rn_ipush (i := .iconst 1) dd_Law_law_1767 rfl rfl (by decide)
theorem dd_Law_law_1768 : decode (px_rw k_Law_law).2.1 1768 = .ok (.ireturn, 1) := (by decide +kernel : decode code 1768 = .ok (.ireturn, 1))
theorem e_Law_law_1768 (L : List Value) (v : Int32) (g : px_G) (hv : v = 0 ∨ v = 1) : rn k_Law_law 1768 L [.int v] g = some (some (.int v), g) := rn_zret dd_Law_law_1768 rfl hv
