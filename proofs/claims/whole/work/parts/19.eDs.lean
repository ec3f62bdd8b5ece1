theorem c_Ds_feed (r0 : Nat) (i1 : Int32) (i2 : Int32) (i3 : Int32) (i4 : Int32) (i5 : Int32) (g : px_G) : cl k_Ds_feed [.ref r0, .int i1, .int i2, .int i3, .int i4, .int i5] g = rn k_Ds_feed 0 [.ref r0, .int i1, .int i2, .int i3, .int i4, .int i5, .null] [] g := rfl
theorem dd_Ds_feed_0 : decode (px_rw k_Ds_feed).2.1 0 = .ok (.iload_n 1, 1) := (by decide +kernel : decode prog_1_method_2_code 0 = .ok (.iload_n 1, 1))
theorem e_Ds_feed_0 (a0 a2 a3 a4 a5 a6 : Value) (x : Int32) (st : List Value) (g : px_G) : rn k_Ds_feed 0 [a0, .int x, a2, a3, a4, a5, a6] st g = rn k_Ds_feed 1 [a0, .int x, a2, a3, a4, a5, a6] (.int x :: st) g := rn_next dd_Ds_feed_0 rfl
theorem dd_Ds_feed_1 : decode (px_rw k_Ds_feed).2.1 1 = .ok (.invokestatic 78, 3) := (by decide +kernel : decode prog_1_method_2_code 1 = .ok (.invokestatic 78, 3))
theorem e_Ds_feed_1 (L : List Value) (i0 : Int32) (g : px_G) : rn k_Ds_feed 1 L [.int i0] g = bd (cl k_Ds_bytesIn [.int i0] g) (fun r g' => rn k_Ds_feed 4 L (r.toList ++ []) g') := rn_callS (As := [.int i0]) (rest := []) dd_Ds_feed_1 rfl (by decide) rfl rfl (Nat.le_of_ble_eq_true rfl) (Nat.le_of_ble_eq_true rfl)
theorem dd_Ds_feed_4 : decode (px_rw k_Ds_feed).2.1 4 = .ok (.iload_n 2, 1) := (by decide +kernel : decode prog_1_method_2_code 4 = .ok (.iload_n 2, 1))
theorem e_Ds_feed_4 (a0 a1 a3 a4 a5 a6 : Value) (x : Int32) (st : List Value) (g : px_G) : rn k_Ds_feed 4 [a0, a1, .int x, a3, a4, a5, a6] st g = rn k_Ds_feed 5 [a0, a1, .int x, a3, a4, a5, a6] (.int x :: st) g := rn_next dd_Ds_feed_4 rfl
theorem dd_Ds_feed_5 : decode (px_rw k_Ds_feed).2.1 5 = .ok (.invokestatic 78, 3) := (by decide +kernel : decode prog_1_method_2_code 5 = .ok (.invokestatic 78, 3))
theorem e_Ds_feed_5 (L : List Value) (i0 : Int32) (i100 : Int32) (g : px_G) : rn k_Ds_feed 5 L [.int i0, .int i100] g = bd (cl k_Ds_bytesIn [.int i0] g) (fun r g' => rn k_Ds_feed 8 L (r.toList ++ [.int i100]) g') := rn_callS (As := [.int i0]) (rest := [.int i100]) dd_Ds_feed_5 rfl (by decide) rfl rfl (Nat.le_of_ble_eq_true rfl) (Nat.le_of_ble_eq_true rfl)
theorem dd_Ds_feed_8 : decode (px_rw k_Ds_feed).2.1 8 = .ok (.iadd, 1) := (by decide +kernel : decode prog_1_method_2_code 8 = .ok (.iadd, 1))
theorem e_Ds_feed_8 (L : List Value) (x y : Int32) (st : List Value) (g : px_G) : rn k_Ds_feed 8 L (.int y :: .int x :: st) g = rn k_Ds_feed 9 L (.int (x + y) :: st) g := rn_next dd_Ds_feed_8 rfl
theorem dd_Ds_feed_9 : decode (px_rw k_Ds_feed).2.1 9 = .ok (.iload_n 3, 1) := (by decide +kernel : decode prog_1_method_2_code 9 = .ok (.iload_n 3, 1))
theorem e_Ds_feed_9 (a0 a1 a2 a4 a5 a6 : Value) (x : Int32) (st : List Value) (g : px_G) : rn k_Ds_feed 9 [a0, a1, a2, .int x, a4, a5, a6] st g = rn k_Ds_feed 10 [a0, a1, a2, .int x, a4, a5, a6] (.int x :: st) g := rn_next dd_Ds_feed_9 rfl
theorem dd_Ds_feed_10 : decode (px_rw k_Ds_feed).2.1 10 = .ok (.invokestatic 78, 3) := (by decide +kernel : decode prog_1_method_2_code 10 = .ok (.invokestatic 78, 3))
theorem e_Ds_feed_10 (L : List Value) (i0 : Int32) (i100 : Int32) (g : px_G) : rn k_Ds_feed 10 L [.int i0, .int i100] g = bd (cl k_Ds_bytesIn [.int i0] g) (fun r g' => rn k_Ds_feed 13 L (r.toList ++ [.int i100]) g') := rn_callS (As := [.int i0]) (rest := [.int i100]) dd_Ds_feed_10 rfl (by decide) rfl rfl (Nat.le_of_ble_eq_true rfl) (Nat.le_of_ble_eq_true rfl)
theorem dd_Ds_feed_13 : decode (px_rw k_Ds_feed).2.1 13 = .ok (.iadd, 1) := (by decide +kernel : decode prog_1_method_2_code 13 = .ok (.iadd, 1))
theorem e_Ds_feed_13 (L : List Value) (x y : Int32) (st : List Value) (g : px_G) : rn k_Ds_feed 13 L (.int y :: .int x :: st) g = rn k_Ds_feed 14 L (.int (x + y) :: st) g := rn_next dd_Ds_feed_13 rfl
theorem dd_Ds_feed_14 : decode (px_rw k_Ds_feed).2.1 14 = .ok (.iload 4, 2) := (by decide +kernel : decode prog_1_method_2_code 14 = .ok (.iload 4, 2))
theorem e_Ds_feed_14 (a0 a1 a2 a3 a5 a6 : Value) (x : Int32) (st : List Value) (g : px_G) : rn k_Ds_feed 14 [a0, a1, a2, a3, .int x, a5, a6] st g = rn k_Ds_feed 16 [a0, a1, a2, a3, .int x, a5, a6] (.int x :: st) g := rn_next dd_Ds_feed_14 rfl
theorem dd_Ds_feed_16 : decode (px_rw k_Ds_feed).2.1 16 = .ok (.invokestatic 78, 3) := (by decide +kernel : decode prog_1_method_2_code 16 = .ok (.invokestatic 78, 3))
theorem e_Ds_feed_16 (L : List Value) (i0 : Int32) (i100 : Int32) (g : px_G) : rn k_Ds_feed 16 L [.int i0, .int i100] g = bd (cl k_Ds_bytesIn [.int i0] g) (fun r g' => rn k_Ds_feed 19 L (r.toList ++ [.int i100]) g') := rn_callS (As := [.int i0]) (rest := [.int i100]) dd_Ds_feed_16 rfl (by decide) rfl rfl (Nat.le_of_ble_eq_true rfl) (Nat.le_of_ble_eq_true rfl)
theorem dd_Ds_feed_19 : decode (px_rw k_Ds_feed).2.1 19 = .ok (.iadd, 1) := (by decide +kernel : decode prog_1_method_2_code 19 = .ok (.iadd, 1))
theorem e_Ds_feed_19 (L : List Value) (x y : Int32) (st : List Value) (g : px_G) : rn k_Ds_feed 19 L (.int y :: .int x :: st) g = rn k_Ds_feed 20 L (.int (x + y) :: st) g := rn_next dd_Ds_feed_19 rfl
theorem dd_Ds_feed_20 : decode (px_rw k_Ds_feed).2.1 20 = .ok (.iload 5, 2) := (by decide +kernel : decode prog_1_method_2_code 20 = .ok (.iload 5, 2))
theorem e_Ds_feed_20 (a0 a1 a2 a3 a4 a6 : Value) (x : Int32) (st : List Value) (g : px_G) : rn k_Ds_feed 20 [a0, a1, a2, a3, a4, .int x, a6] st g = rn k_Ds_feed 22 [a0, a1, a2, a3, a4, .int x, a6] (.int x :: st) g := rn_next dd_Ds_feed_20 rfl
theorem dd_Ds_feed_22 : decode (px_rw k_Ds_feed).2.1 22 = .ok (.invokestatic 78, 3) := (by decide +kernel : decode prog_1_method_2_code 22 = .ok (.invokestatic 78, 3))
theorem e_Ds_feed_22 (L : List Value) (i0 : Int32) (i100 : Int32) (g : px_G) : rn k_Ds_feed 22 L [.int i0, .int i100] g = bd (cl k_Ds_bytesIn [.int i0] g) (fun r g' => rn k_Ds_feed 25 L (r.toList ++ [.int i100]) g') := rn_callS (As := [.int i0]) (rest := [.int i100]) dd_Ds_feed_22 rfl (by decide) rfl rfl (Nat.le_of_ble_eq_true rfl) (Nat.le_of_ble_eq_true rfl)
theorem dd_Ds_feed_25 : decode (px_rw k_Ds_feed).2.1 25 = .ok (.iadd, 1) := (by decide +kernel : decode prog_1_method_2_code 25 = .ok (.iadd, 1))
theorem e_Ds_feed_25 (L : List Value) (x y : Int32) (st : List Value) (g : px_G) : rn k_Ds_feed 25 L (.int y :: .int x :: st) g = rn k_Ds_feed 26 L (.int (x + y) :: st) g := rn_next dd_Ds_feed_25 rfl
theorem dd_Ds_feed_26 : decode (px_rw k_Ds_feed).2.1 26 = .ok (.istore 6, 2) := (by decide +kernel : decode prog_1_method_2_code 26 = .ok (.istore 6, 2))
theorem e_Ds_feed_26 (a0 a1 a2 a3 a4 a5 a6 : Value) (x : Int32) (st : List Value) (g : px_G) : rn k_Ds_feed 26 [a0, a1, a2, a3, a4, a5, a6] (.int x :: st) g = rn k_Ds_feed 28 [a0, a1, a2, a3, a4, px_kill a5, .int x] st g := rn_next dd_Ds_feed_26 rfl
theorem dd_Ds_feed_28 : decode (px_rw k_Ds_feed).2.1 28 = .ok (.aload_n 0, 1) := (by decide +kernel : decode prog_1_method_2_code 28 = .ok (.aload_n 0, 1))
theorem e_Ds_feed_28 (a1 a2 a3 a4 a5 a6 : Value) (x : Nat) (st : List Value) (g : px_G) : rn k_Ds_feed 28 [.ref x, a1, a2, a3, a4, a5, a6] st g = rn k_Ds_feed 29 [.ref x, a1, a2, a3, a4, a5, a6] (.ref x :: st) g := rn_next dd_Ds_feed_28 rfl
theorem dd_Ds_feed_29 : decode (px_rw k_Ds_feed).2.1 29 = .ok (.getfield 10, 3) := (by decide +kernel : decode prog_1_method_2_code 29 = .ok (.getfield 10, 3))
theorem e_Ds_feed_29 (L st : List Value) (T : TS) : rn k_Ds_feed 29 L (.ref 0 :: st) (enc T) = rn k_Ds_feed 32 L (.ref 1 :: st) (enc T) := rn_getO (n := 13) dd_Ds_feed_29 rfl (by decide) (by decide) (by decide) rfl rfl
theorem dd_Ds_feed_32 : decode (px_rw k_Ds_feed).2.1 32 = .ok (.getfield 82, 3) := (by decide +kernel : decode prog_1_method_2_code 32 = .ok (.getfield 82, 3))
theorem e_Ds_feed_32 (L st : List Value) (T : TS) : rn k_Ds_feed 32 L (.ref 1 :: st) (enc T) = rn k_Ds_feed 35 L (.int (T.1 1 1) :: st) (enc T) := rn_getI (n := 2) dd_Ds_feed_32 rfl (by decide) (by decide) (by decide) rfl rfl
theorem dd_Ds_feed_35 : decode (px_rw k_Ds_feed).2.1 35 = .ok (.iload 6, 2) := (by decide +kernel : decode prog_1_method_2_code 35 = .ok (.iload 6, 2))
theorem e_Ds_feed_35 (a0 a1 a2 a3 a4 a5 : Value) (x : Int32) (st : List Value) (g : px_G) : rn k_Ds_feed 35 [a0, a1, a2, a3, a4, a5, .int x] st g = rn k_Ds_feed 37 [a0, a1, a2, a3, a4, a5, .int x] (.int x :: st) g := rn_next dd_Ds_feed_35 rfl
theorem dd_Ds_feed_37 : decode (px_rw k_Ds_feed).2.1 37 = .ok (.iadd, 1) := (by decide +kernel : decode prog_1_method_2_code 37 = .ok (.iadd, 1))
theorem e_Ds_feed_37 (L : List Value) (x y : Int32) (st : List Value) (g : px_G) : rn k_Ds_feed 37 L (.int y :: .int x :: st) g = rn k_Ds_feed 38 L (.int (x + y) :: st) g := rn_next dd_Ds_feed_37 rfl
theorem dd_Ds_feed_38 : decode (px_rw k_Ds_feed).2.1 38 = .ok (.sipush 160, 3) := (by decide +kernel : decode prog_1_method_2_code 38 = .ok (.sipush 160, 3))
theorem e_Ds_feed_38 (L st : List Value) (g : px_G) : rn k_Ds_feed 38 L st g = rn k_Ds_feed 41 L (.int 160 :: st) g := rn_ipush (i := .sipush 160) dd_Ds_feed_38 rfl rfl (by decide)
theorem dd_Ds_feed_41 : decode (px_rw k_Ds_feed).2.1 41 = .ok (.if_icmp .le 5, 3) := (by decide +kernel : decode prog_1_method_2_code 41 = .ok (.if_icmp .le 5, 3))
theorem e_Ds_feed_41 (L : List Value) (x y : Int32) (st : List Value) (g : px_G) : rn k_Ds_feed 41 L (.int y :: .int x :: st) g = if x ≤ y then rn k_Ds_feed 46 L st g else rn k_Ds_feed 44 L st g := rn_icle dd_Ds_feed_41 (by decide)
theorem dd_Ds_feed_44 : decode (px_rw k_Ds_feed).2.1 44 = .ok (.iconst (-1), 1) := (by decide +kernel : decode prog_1_method_2_code 44 = .ok (.iconst (-1), 1))
theorem e_Ds_feed_44 (L st : List Value) (g : px_G) : rn k_Ds_feed 44 L st g = rn k_Ds_feed 45 L (.int (-1) :: st) g := rn_ipush (i := .iconst (-1)) dd_Ds_feed_44 rfl rfl (by decide)
theorem dd_Ds_feed_45 : decode (px_rw k_Ds_feed).2.1 45 = .ok (.ireturn, 1) := (by decide +kernel : decode prog_1_method_2_code 45 = .ok (.ireturn, 1))
theorem e_Ds_feed_45 (L : List Value) (v : Int32) (g : px_G) : rn k_Ds_feed 45 L [.int v] g = some (some (.int v), g) := rn_iret dd_Ds_feed_45 rfl
theorem dd_Ds_feed_46 : decode (px_rw k_Ds_feed).2.1 46 = .ok (.aload_n 0, 1) := (by decide +kernel : decode prog_1_method_2_code 46 = .ok (.aload_n 0, 1))
theorem e_Ds_feed_46 (a1 a2 a3 a4 a5 a6 : Value) (x : Nat) (st : List Value) (g : px_G) : rn k_Ds_feed 46 [.ref x, a1, a2, a3, a4, a5, a6] st g = rn k_Ds_feed 47 [.ref x, a1, a2, a3, a4, a5, a6] (.ref x :: st) g := rn_next dd_Ds_feed_46 rfl
theorem dd_Ds_feed_47 : decode (px_rw k_Ds_feed).2.1 47 = .ok (.getfield 10, 3) := (by decide +kernel : decode prog_1_method_2_code 47 = .ok (.getfield 10, 3))
theorem e_Ds_feed_47 (L st : List Value) (T : TS) : rn k_Ds_feed 47 L (.ref 0 :: st) (enc T) = rn k_Ds_feed 50 L (.ref 1 :: st) (enc T) := rn_getO (n := 13) dd_Ds_feed_47 rfl (by decide) (by decide) (by decide) rfl rfl
theorem dd_Ds_feed_50 : decode (px_rw k_Ds_feed).2.1 50 = .ok (.iload_n 1, 1) := (by decide +kernel : decode prog_1_method_2_code 50 = .ok (.iload_n 1, 1))
theorem e_Ds_feed_50 (a0 a2 a3 a4 a5 a6 : Value) (x : Int32) (st : List Value) (g : px_G) : rn k_Ds_feed 50 [a0, .int x, a2, a3, a4, a5, a6] st g = rn k_Ds_feed 51 [a0, .int x, a2, a3, a4, a5, a6] (.int x :: st) g := rn_next dd_Ds_feed_50 rfl
theorem dd_Ds_feed_51 : decode (px_rw k_Ds_feed).2.1 51 = .ok (.invokevirtual 86, 3) := (by decide +kernel : decode prog_1_method_2_code 51 = .ok (.invokevirtual 86, 3))
theorem e_Ds_feed_51 (L : List Value) (i0 : Int32)  (T : TS)  : rn k_Ds_feed 51 L [.int i0, .ref 1] (enc T) = bd (cl k_Tape_put [.ref 1, .int i0] (enc T)) (fun r g' => rn k_Ds_feed 54 L (r.toList ++ []) g') := rn_callV (n := 2) (As := [.int i0]) (rest := []) dd_Ds_feed_51 rfl (by decide) (by decide) rfl rfl (Nat.le_of_ble_eq_true rfl) (Nat.le_of_ble_eq_true rfl) rfl
theorem dd_Ds_feed_54 : decode (px_rw k_Ds_feed).2.1 54 = .ok (.aload_n 0, 1) := (by decide +kernel : decode prog_1_method_2_code 54 = .ok (.aload_n 0, 1))
theorem e_Ds_feed_54 (a1 a2 a3 a4 a5 a6 : Value) (x : Nat) (st : List Value) (g : px_G) : rn k_Ds_feed 54 [.ref x, a1, a2, a3, a4, a5, a6] st g = rn k_Ds_feed 55 [.ref x, a1, a2, a3, a4, a5, a6] (.ref x :: st) g := rn_next dd_Ds_feed_54 rfl
theorem dd_Ds_feed_55 : decode (px_rw k_Ds_feed).2.1 55 = .ok (.getfield 10, 3) := (by decide +kernel : decode prog_1_method_2_code 55 = .ok (.getfield 10, 3))
theorem e_Ds_feed_55 (L st : List Value) (T : TS) : rn k_Ds_feed 55 L (.ref 0 :: st) (enc T) = rn k_Ds_feed 58 L (.ref 1 :: st) (enc T) := rn_getO (n := 13) dd_Ds_feed_55 rfl (by decide) (by decide) (by decide) rfl rfl
theorem dd_Ds_feed_58 : decode (px_rw k_Ds_feed).2.1 58 = .ok (.iload_n 2, 1) := (by decide +kernel : decode prog_1_method_2_code 58 = .ok (.iload_n 2, 1))
theorem e_Ds_feed_58 (a0 a1 a3 a4 a5 a6 : Value) (x : Int32) (st : List Value) (g : px_G) : rn k_Ds_feed 58 [a0, a1, .int x, a3, a4, a5, a6] st g = rn k_Ds_feed 59 [a0, a1, .int x, a3, a4, a5, a6] (.int x :: st) g := rn_next dd_Ds_feed_58 rfl
theorem dd_Ds_feed_59 : decode (px_rw k_Ds_feed).2.1 59 = .ok (.invokevirtual 86, 3) := (by decide +kernel : decode prog_1_method_2_code 59 = .ok (.invokevirtual 86, 3))
theorem e_Ds_feed_59 (L : List Value) (i0 : Int32)  (T : TS)  : rn k_Ds_feed 59 L [.int i0, .ref 1] (enc T) = bd (cl k_Tape_put [.ref 1, .int i0] (enc T)) (fun r g' => rn k_Ds_feed 62 L (r.toList ++ []) g') := rn_callV (n := 2) (As := [.int i0]) (rest := []) dd_Ds_feed_59 rfl (by decide) (by decide) rfl rfl (Nat.le_of_ble_eq_true rfl) (Nat.le_of_ble_eq_true rfl) rfl
theorem dd_Ds_feed_62 : decode (px_rw k_Ds_feed).2.1 62 = .ok (.aload_n 0, 1) := (by decide +kernel : decode prog_1_method_2_code 62 = .ok (.aload_n 0, 1))
theorem e_Ds_feed_62 (a1 a2 a3 a4 a5 a6 : Value) (x : Nat) (st : List Value) (g : px_G) : rn k_Ds_feed 62 [.ref x, a1, a2, a3, a4, a5, a6] st g = rn k_Ds_feed 63 [.ref x, a1, a2, a3, a4, a5, a6] (.ref x :: st) g := rn_next dd_Ds_feed_62 rfl
theorem dd_Ds_feed_63 : decode (px_rw k_Ds_feed).2.1 63 = .ok (.getfield 10, 3) := (by decide +kernel : decode prog_1_method_2_code 63 = .ok (.getfield 10, 3))
theorem e_Ds_feed_63 (L st : List Value) (T : TS) : rn k_Ds_feed 63 L (.ref 0 :: st) (enc T) = rn k_Ds_feed 66 L (.ref 1 :: st) (enc T) := rn_getO (n := 13) dd_Ds_feed_63 rfl (by decide) (by decide) (by decide) rfl rfl
theorem dd_Ds_feed_66 : decode (px_rw k_Ds_feed).2.1 66 = .ok (.iload_n 3, 1) := (by decide +kernel : decode prog_1_method_2_code 66 = .ok (.iload_n 3, 1))
theorem e_Ds_feed_66 (a0 a1 a2 a4 a5 a6 : Value) (x : Int32) (st : List Value) (g : px_G) : rn k_Ds_feed 66 [a0, a1, a2, .int x, a4, a5, a6] st g = rn k_Ds_feed 67 [a0, a1, a2, .int x, a4, a5, a6] (.int x :: st) g := rn_next dd_Ds_feed_66 rfl
theorem dd_Ds_feed_67 : decode (px_rw k_Ds_feed).2.1 67 = .ok (.invokevirtual 86, 3) := (by decide +kernel : decode prog_1_method_2_code 67 = .ok (.invokevirtual 86, 3))
theorem e_Ds_feed_67 (L : List Value) (i0 : Int32)  (T : TS)  : rn k_Ds_feed 67 L [.int i0, .ref 1] (enc T) = bd (cl k_Tape_put [.ref 1, .int i0] (enc T)) (fun r g' => rn k_Ds_feed 70 L (r.toList ++ []) g') := rn_callV (n := 2) (As := [.int i0]) (rest := []) dd_Ds_feed_67 rfl (by decide) (by decide) rfl rfl (Nat.le_of_ble_eq_true rfl) (Nat.le_of_ble_eq_true rfl) rfl
theorem dd_Ds_feed_70 : decode (px_rw k_Ds_feed).2.1 70 = .ok (.aload_n 0, 1) := (by decide +kernel : decode prog_1_method_2_code 70 = .ok (.aload_n 0, 1))
theorem e_Ds_feed_70 (a1 a2 a3 a4 a5 a6 : Value) (x : Nat) (st : List Value) (g : px_G) : rn k_Ds_feed 70 [.ref x, a1, a2, a3, a4, a5, a6] st g = rn k_Ds_feed 71 [.ref x, a1, a2, a3, a4, a5, a6] (.ref x :: st) g := rn_next dd_Ds_feed_70 rfl
theorem dd_Ds_feed_71 : decode (px_rw k_Ds_feed).2.1 71 = .ok (.getfield 10, 3) := (by decide +kernel : decode prog_1_method_2_code 71 = .ok (.getfield 10, 3))
theorem e_Ds_feed_71 (L st : List Value) (T : TS) : rn k_Ds_feed 71 L (.ref 0 :: st) (enc T) = rn k_Ds_feed 74 L (.ref 1 :: st) (enc T) := rn_getO (n := 13) dd_Ds_feed_71 rfl (by decide) (by decide) (by decide) rfl rfl
theorem dd_Ds_feed_74 : decode (px_rw k_Ds_feed).2.1 74 = .ok (.iload 4, 2) := (by decide +kernel : decode prog_1_method_2_code 74 = .ok (.iload 4, 2))
theorem e_Ds_feed_74 (a0 a1 a2 a3 a5 a6 : Value) (x : Int32) (st : List Value) (g : px_G) : rn k_Ds_feed 74 [a0, a1, a2, a3, .int x, a5, a6] st g = rn k_Ds_feed 76 [a0, a1, a2, a3, .int x, a5, a6] (.int x :: st) g := rn_next dd_Ds_feed_74 rfl
theorem dd_Ds_feed_76 : decode (px_rw k_Ds_feed).2.1 76 = .ok (.invokevirtual 86, 3) := (by decide +kernel : decode prog_1_method_2_code 76 = .ok (.invokevirtual 86, 3))
theorem e_Ds_feed_76 (L : List Value) (i0 : Int32)  (T : TS)  : rn k_Ds_feed 76 L [.int i0, .ref 1] (enc T) = bd (cl k_Tape_put [.ref 1, .int i0] (enc T)) (fun r g' => rn k_Ds_feed 79 L (r.toList ++ []) g') := rn_callV (n := 2) (As := [.int i0]) (rest := []) dd_Ds_feed_76 rfl (by decide) (by decide) rfl rfl (Nat.le_of_ble_eq_true rfl) (Nat.le_of_ble_eq_true rfl) rfl
theorem dd_Ds_feed_79 : decode (px_rw k_Ds_feed).2.1 79 = .ok (.aload_n 0, 1) := (by decide +kernel : decode prog_1_method_2_code 79 = .ok (.aload_n 0, 1))
theorem e_Ds_feed_79 (a1 a2 a3 a4 a5 a6 : Value) (x : Nat) (st : List Value) (g : px_G) : rn k_Ds_feed 79 [.ref x, a1, a2, a3, a4, a5, a6] st g = rn k_Ds_feed 80 [.ref x, a1, a2, a3, a4, a5, a6] (.ref x :: st) g := rn_next dd_Ds_feed_79 rfl
theorem dd_Ds_feed_80 : decode (px_rw k_Ds_feed).2.1 80 = .ok (.getfield 10, 3) := (by decide +kernel : decode prog_1_method_2_code 80 = .ok (.getfield 10, 3))
theorem e_Ds_feed_80 (L st : List Value) (T : TS) : rn k_Ds_feed 80 L (.ref 0 :: st) (enc T) = rn k_Ds_feed 83 L (.ref 1 :: st) (enc T) := rn_getO (n := 13) dd_Ds_feed_80 rfl (by decide) (by decide) (by decide) rfl rfl
theorem dd_Ds_feed_83 : decode (px_rw k_Ds_feed).2.1 83 = .ok (.iload 5, 2) := (by decide +kernel : decode prog_1_method_2_code 83 = .ok (.iload 5, 2))
theorem e_Ds_feed_83 (a0 a1 a2 a3 a4 a6 : Value) (x : Int32) (st : List Value) (g : px_G) : rn k_Ds_feed 83 [a0, a1, a2, a3, a4, .int x, a6] st g = rn k_Ds_feed 85 [a0, a1, a2, a3, a4, .int x, a6] (.int x :: st) g := rn_next dd_Ds_feed_83 rfl
theorem dd_Ds_feed_85 : decode (px_rw k_Ds_feed).2.1 85 = .ok (.invokevirtual 86, 3) := (by decide +kernel : decode prog_1_method_2_code 85 = .ok (.invokevirtual 86, 3))
theorem e_Ds_feed_85 (L : List Value) (i0 : Int32)  (T : TS)  : rn k_Ds_feed 85 L [.int i0, .ref 1] (enc T) = bd (cl k_Tape_put [.ref 1, .int i0] (enc T)) (fun r g' => rn k_Ds_feed 88 L (r.toList ++ []) g') := rn_callV (n := 2) (As := [.int i0]) (rest := []) dd_Ds_feed_85 rfl (by decide) (by decide) rfl rfl (Nat.le_of_ble_eq_true rfl) (Nat.le_of_ble_eq_true rfl) rfl
theorem dd_Ds_feed_88 : decode (px_rw k_Ds_feed).2.1 88 = .ok (.aload_n 0, 1) := (by decide +kernel : decode prog_1_method_2_code 88 = .ok (.aload_n 0, 1))
theorem e_Ds_feed_88 (a1 a2 a3 a4 a5 a6 : Value) (x : Nat) (st : List Value) (g : px_G) : rn k_Ds_feed 88 [.ref x, a1, a2, a3, a4, a5, a6] st g = rn k_Ds_feed 89 [.ref x, a1, a2, a3, a4, a5, a6] (.ref x :: st) g := rn_next dd_Ds_feed_88 rfl
theorem dd_Ds_feed_89 : decode (px_rw k_Ds_feed).2.1 89 = .ok (.getfield 10, 3) := (by decide +kernel : decode prog_1_method_2_code 89 = .ok (.getfield 10, 3))
theorem e_Ds_feed_89 (L st : List Value) (T : TS) : rn k_Ds_feed 89 L (.ref 0 :: st) (enc T) = rn k_Ds_feed 92 L (.ref 1 :: st) (enc T) := rn_getO (n := 13) dd_Ds_feed_89 rfl (by decide) (by decide) (by decide) rfl rfl
theorem dd_Ds_feed_92 : decode (px_rw k_Ds_feed).2.1 92 = .ok (.getfield 82, 3) := (by decide +kernel : decode prog_1_method_2_code 92 = .ok (.getfield 82, 3))
theorem e_Ds_feed_92 (L st : List Value) (T : TS) : rn k_Ds_feed 92 L (.ref 1 :: st) (enc T) = rn k_Ds_feed 95 L (.int (T.1 1 1) :: st) (enc T) := rn_getI (n := 2) dd_Ds_feed_92 rfl (by decide) (by decide) (by decide) rfl rfl
theorem dd_Ds_feed_95 : decode (px_rw k_Ds_feed).2.1 95 = .ok (.ireturn, 1) := (by decide +kernel : decode prog_1_method_2_code 95 = .ok (.ireturn, 1))
theorem e_Ds_feed_95 (L : List Value) (v : Int32) (g : px_G) : rn k_Ds_feed 95 L [.int v] g = some (some (.int v), g) := rn_iret dd_Ds_feed_95 rfl
theorem c_Ds_bytesIn (i0 : Int32) (g : px_G) : cl k_Ds_bytesIn [.int i0] g = rn k_Ds_bytesIn 0 [.int i0, .null, .null] [] g := rfl
theorem dd_Ds_bytesIn_0 : decode (px_rw k_Ds_bytesIn).2.1 0 = .ok (.iconst 0, 1) := (by decide +kernel : decode prog_1_method_56_code 0 = .ok (.iconst 0, 1))
theorem e_Ds_bytesIn_0 (L st : List Value) (g : px_G) : rn k_Ds_bytesIn 0 L st g = rn k_Ds_bytesIn 1 L (.int 0 :: st) g := rn_ipush (i := .iconst 0) dd_Ds_bytesIn_0 rfl rfl (by decide)
theorem dd_Ds_bytesIn_1 : decode (px_rw k_Ds_bytesIn).2.1 1 = .ok (.istore_n 1, 1) := (by decide +kernel : decode prog_1_method_56_code 1 = .ok (.istore_n 1, 1))
theorem e_Ds_bytesIn_1 (a0 a1 a2 : Value) (x : Int32) (st : List Value) (g : px_G) : rn k_Ds_bytesIn 1 [a0, a1, a2] (.int x :: st) g = rn k_Ds_bytesIn 2 [px_kill a0, .int x, a2] st g := rn_next dd_Ds_bytesIn_1 rfl
theorem dd_Ds_bytesIn_2 : decode (px_rw k_Ds_bytesIn).2.1 2 = .ok (.bipush 24, 2) := (by decide +kernel : decode prog_1_method_56_code 2 = .ok (.bipush 24, 2))
theorem e_Ds_bytesIn_2 (L st : List Value) (g : px_G) : rn k_Ds_bytesIn 2 L st g = rn k_Ds_bytesIn 4 L (.int 24 :: st) g := rn_ipush (i := .bipush 24) dd_Ds_bytesIn_2 rfl rfl (by decide)
theorem dd_Ds_bytesIn_4 : decode (px_rw k_Ds_bytesIn).2.1 4 = .ok (.istore_n 2, 1) := (by decide +kernel : decode prog_1_method_56_code 4 = .ok (.istore_n 2, 1))
theorem e_Ds_bytesIn_4 (a0 a1 a2 : Value) (x : Int32) (st : List Value) (g : px_G) : rn k_Ds_bytesIn 4 [a0, a1, a2] (.int x :: st) g = rn k_Ds_bytesIn 5 [a0, px_kill a1, .int x] st g := rn_next dd_Ds_bytesIn_4 rfl
theorem dd_Ds_bytesIn_5 : decode (px_rw k_Ds_bytesIn).2.1 5 = .ok (.iload_n 2, 1) := (by decide +kernel : decode prog_1_method_56_code 5 = .ok (.iload_n 2, 1))
theorem e_Ds_bytesIn_5 (a0 a1 : Value) (x : Int32) (st : List Value) (g : px_G) : rn k_Ds_bytesIn 5 [a0, a1, .int x] st g = rn k_Ds_bytesIn 6 [a0, a1, .int x] (.int x :: st) g := rn_next dd_Ds_bytesIn_5 rfl
theorem dd_Ds_bytesIn_6 : decode (px_rw k_Ds_bytesIn).2.1 6 = .ok (.ifCond .lt 22, 3) := (by decide +kernel : decode prog_1_method_56_code 6 = .ok (.ifCond .lt 22, 3))
theorem e_Ds_bytesIn_6 (L : List Value) (x : Int32) (st : List Value) (g : px_G) : rn k_Ds_bytesIn 6 L (.int x :: st) g = if x < 0 then rn k_Ds_bytesIn 28 L st g else rn k_Ds_bytesIn 9 L st g := rn_iflt dd_Ds_bytesIn_6 (by decide)
theorem dd_Ds_bytesIn_9 : decode (px_rw k_Ds_bytesIn).2.1 9 = .ok (.iload_n 0, 1) := (by decide +kernel : decode prog_1_method_56_code 9 = .ok (.iload_n 0, 1))
theorem e_Ds_bytesIn_9 (a1 a2 : Value) (x : Int32) (st : List Value) (g : px_G) : rn k_Ds_bytesIn 9 [.int x, a1, a2] st g = rn k_Ds_bytesIn 10 [.int x, a1, a2] (.int x :: st) g := rn_next dd_Ds_bytesIn_9 rfl
theorem dd_Ds_bytesIn_10 : decode (px_rw k_Ds_bytesIn).2.1 10 = .ok (.iload_n 2, 1) := (by decide +kernel : decode prog_1_method_56_code 10 = .ok (.iload_n 2, 1))
theorem e_Ds_bytesIn_10 (a0 a1 : Value) (x : Int32) (st : List Value) (g : px_G) : rn k_Ds_bytesIn 10 [a0, a1, .int x] st g = rn k_Ds_bytesIn 11 [a0, a1, .int x] (.int x :: st) g := rn_next dd_Ds_bytesIn_10 rfl
theorem dd_Ds_bytesIn_11 : decode (px_rw k_Ds_bytesIn).2.1 11 = .ok (.ishr, 1) := (by decide +kernel : decode prog_1_method_56_code 11 = .ok (.ishr, 1))
theorem e_Ds_bytesIn_11 (L : List Value) (x y : Int32) (st : List Value) (g : px_G) : rn k_Ds_bytesIn 11 L (.int y :: .int x :: st) g = rn k_Ds_bytesIn 12 L (.int (x >>> (y &&& 31)) :: st) g := rn_next dd_Ds_bytesIn_11 rfl
theorem dd_Ds_bytesIn_12 : decode (px_rw k_Ds_bytesIn).2.1 12 = .ok (.sipush 255, 3) := (by decide +kernel : decode prog_1_method_56_code 12 = .ok (.sipush 255, 3))
theorem e_Ds_bytesIn_12 (L st : List Value) (g : px_G) : rn k_Ds_bytesIn 12 L st g = rn k_Ds_bytesIn 15 L (.int 255 :: st) g := rn_ipush (i := .sipush 255) dd_Ds_bytesIn_12 rfl rfl (by decide)
theorem dd_Ds_bytesIn_15 : decode (px_rw k_Ds_bytesIn).2.1 15 = .ok (.iand, 1) := (by decide +kernel : decode prog_1_method_56_code 15 = .ok (.iand, 1))
theorem e_Ds_bytesIn_15 (L : List Value) (x y : Int32) (st : List Value) (g : px_G) : rn k_Ds_bytesIn 15 L (.int y :: .int x :: st) g = rn k_Ds_bytesIn 16 L (.int (x &&& y) :: st) g := rn_next dd_Ds_bytesIn_15 rfl
theorem dd_Ds_bytesIn_16 : decode (px_rw k_Ds_bytesIn).2.1 16 = .ok (.ifCond .eq 6, 3) := (by decide +kernel : decode prog_1_method_56_code 16 = .ok (.ifCond .eq 6, 3))
theorem e_Ds_bytesIn_16 (L : List Value) (x : Int32) (st : List Value) (g : px_G) : rn k_Ds_bytesIn 16 L (.int x :: st) g = if x = 0 then rn k_Ds_bytesIn 22 L st g else rn k_Ds_bytesIn 19 L st g := rn_ifeq dd_Ds_bytesIn_16 (by decide)
theorem dd_Ds_bytesIn_19 : decode (px_rw k_Ds_bytesIn).2.1 19 = .ok (.iinc 1 1, 3) := (by decide +kernel : decode prog_1_method_56_code 19 = .ok (.iinc 1 1, 3))
theorem e_Ds_bytesIn_19 (a0 a2 : Value) (x : Int32) (st : List Value) (g : px_G) : rn k_Ds_bytesIn 19 [a0, .int x, a2] st g = rn k_Ds_bytesIn 22 [px_kill a0, .int (x + 1), a2] st g := rn_next dd_Ds_bytesIn_19 rfl
theorem dd_Ds_bytesIn_22 : decode (px_rw k_Ds_bytesIn).2.1 22 = .ok (.iinc 2 (-8), 3) := (by decide +kernel : decode prog_1_method_56_code 22 = .ok (.iinc 2 (-8), 3))
theorem e_Ds_bytesIn_22 (a0 a1 : Value) (x : Int32) (st : List Value) (g : px_G) : rn k_Ds_bytesIn 22 [a0, a1, .int x] st g = rn k_Ds_bytesIn 25 [a0, px_kill a1, .int (x + (-8))] st g := rn_next dd_Ds_bytesIn_22 rfl
theorem dd_Ds_bytesIn_25 : decode (px_rw k_Ds_bytesIn).2.1 25 = .ok (.goto (-20), 3) := (by decide +kernel : decode prog_1_method_56_code 25 = .ok (.goto (-20), 3))
theorem e_Ds_bytesIn_25 (L st : List Value) (g : px_G) : rn k_Ds_bytesIn 25 L st g = rn k_Ds_bytesIn 5 L st g := rn_goto dd_Ds_bytesIn_25 (by decide)
theorem dd_Ds_bytesIn_28 : decode (px_rw k_Ds_bytesIn).2.1 28 = .ok (.iload_n 1, 1) := (by decide +kernel : decode prog_1_method_56_code 28 = .ok (.iload_n 1, 1))
theorem e_Ds_bytesIn_28 (a0 a2 : Value) (x : Int32) (st : List Value) (g : px_G) : rn k_Ds_bytesIn 28 [a0, .int x, a2] st g = rn k_Ds_bytesIn 29 [a0, .int x, a2] (.int x :: st) g := rn_next dd_Ds_bytesIn_28 rfl
theorem dd_Ds_bytesIn_29 : decode (px_rw k_Ds_bytesIn).2.1 29 = .ok (.ireturn, 1) := (by decide +kernel : decode prog_1_method_56_code 29 = .ok (.ireturn, 1))
theorem e_Ds_bytesIn_29 (L : List Value) (v : Int32) (g : px_G) : rn k_Ds_bytesIn 29 L [.int v] g = some (some (.int v), g) := rn_iret dd_Ds_bytesIn_29 rfl
theorem c_Ds_end (r0 : Nat) (i1 : Int32) (g : px_G) : cl k_Ds_end [.ref r0, .int i1] g = rn k_Ds_end 0 [.ref r0, .int i1] [] g := rfl
theorem dd_Ds_end_0 : decode (px_rw k_Ds_end).2.1 0 = .ok (.iload_n 1, 1) := (by decide +kernel : decode prog_1_method_3_code 0 = .ok (.iload_n 1, 1))
theorem e_Ds_end_0 (a0 : Value) (x : Int32) (st : List Value) (g : px_G) : rn k_Ds_end 0 [a0, .int x] st g = rn k_Ds_end 1 [a0, .int x] (.int x :: st) g := rn_next dd_Ds_end_0 rfl
theorem dd_Ds_end_1 : decode (px_rw k_Ds_end).2.1 1 = .ok (.ifCond .lt 14, 3) := (by decide +kernel : decode prog_1_method_3_code 1 = .ok (.ifCond .lt 14, 3))
theorem e_Ds_end_1 (L : List Value) (x : Int32) (st : List Value) (g : px_G) : rn k_Ds_end 1 L (.int x :: st) g = if x < 0 then rn k_Ds_end 15 L st g else rn k_Ds_end 4 L st g := rn_iflt dd_Ds_end_1 (by decide)
theorem dd_Ds_end_4 : decode (px_rw k_Ds_end).2.1 4 = .ok (.iload_n 1, 1) := (by decide +kernel : decode prog_1_method_3_code 4 = .ok (.iload_n 1, 1))
theorem e_Ds_end_4 (a0 : Value) (x : Int32) (st : List Value) (g : px_G) : rn k_Ds_end 4 [a0, .int x] st g = rn k_Ds_end 5 [a0, .int x] (.int x :: st) g := rn_next dd_Ds_end_4 rfl
theorem dd_Ds_end_5 : decode (px_rw k_Ds_end).2.1 5 = .ok (.aload_n 0, 1) := (by decide +kernel : decode prog_1_method_3_code 5 = .ok (.aload_n 0, 1))
theorem e_Ds_end_5 (a1 : Value) (x : Nat) (st : List Value) (g : px_G) : rn k_Ds_end 5 [.ref x, a1] st g = rn k_Ds_end 6 [.ref x, a1] (.ref x :: st) g := rn_next dd_Ds_end_5 rfl
theorem dd_Ds_end_6 : decode (px_rw k_Ds_end).2.1 6 = .ok (.getfield 10, 3) := (by decide +kernel : decode prog_1_method_3_code 6 = .ok (.getfield 10, 3))
theorem e_Ds_end_6 (L st : List Value) (T : TS) : rn k_Ds_end 6 L (.ref 0 :: st) (enc T) = rn k_Ds_end 9 L (.ref 1 :: st) (enc T) := rn_getO (n := 13) dd_Ds_end_6 rfl (by decide) (by decide) (by decide) rfl rfl
theorem dd_Ds_end_9 : decode (px_rw k_Ds_end).2.1 9 = .ok (.getfield 82, 3) := (by decide +kernel : decode prog_1_method_3_code 9 = .ok (.getfield 82, 3))
theorem e_Ds_end_9 (L st : List Value) (T : TS) : rn k_Ds_end 9 L (.ref 1 :: st) (enc T) = rn k_Ds_end 12 L (.int (T.1 1 1) :: st) (enc T) := rn_getI (n := 2) dd_Ds_end_9 rfl (by decide) (by decide) (by decide) rfl rfl
theorem dd_Ds_end_12 : decode (px_rw k_Ds_end).2.1 12 = .ok (.if_icmp .le 5, 3) := (by decide +kernel : decode prog_1_method_3_code 12 = .ok (.if_icmp .le 5, 3))
theorem e_Ds_end_12 (L : List Value) (x y : Int32) (st : List Value) (g : px_G) : rn k_Ds_end 12 L (.int y :: .int x :: st) g = if x ≤ y then rn k_Ds_end 17 L st g else rn k_Ds_end 15 L st g := rn_icle dd_Ds_end_12 (by decide)
theorem dd_Ds_end_15 : decode (px_rw k_Ds_end).2.1 15 = .ok (.iconst 0, 1) := (by decide +kernel : decode prog_1_method_3_code 15 = .ok (.iconst 0, 1))
theorem e_Ds_end_15 (L st : List Value) (g : px_G) : rn k_Ds_end 15 L st g = rn k_Ds_end 16 L (.int 0 :: st) g := rn_ipush (i := .iconst 0) dd_Ds_end_15 rfl rfl (by decide)
theorem dd_Ds_end_16 : decode (px_rw k_Ds_end).2.1 16 = .ok (.ireturn, 1) := (by decide +kernel : decode prog_1_method_3_code 16 = .ok (.ireturn, 1))
theorem e_Ds_end_16 (L : List Value) (v : Int32) (g : px_G) (hv : v = 0 ∨ v = 1) : rn k_Ds_end 16 L [.int v] g = some (some (.int v), g) := rn_zret dd_Ds_end_16 rfl hv
theorem dd_Ds_end_17 : decode (px_rw k_Ds_end).2.1 17 = .ok (.aload_n 0, 1) := (by decide +kernel : decode prog_1_method_3_code 17 = .ok (.aload_n 0, 1))
theorem e_Ds_end_17 (a1 : Value) (x : Nat) (st : List Value) (g : px_G) : rn k_Ds_end 17 [.ref x, a1] st g = rn k_Ds_end 18 [.ref x, a1] (.ref x :: st) g := rn_next dd_Ds_end_17 rfl
theorem dd_Ds_end_18 : decode (px_rw k_Ds_end).2.1 18 = .ok (.getfield 10, 3) := (by decide +kernel : decode prog_1_method_3_code 18 = .ok (.getfield 10, 3))
theorem e_Ds_end_18 (L st : List Value) (T : TS) : rn k_Ds_end 18 L (.ref 0 :: st) (enc T) = rn k_Ds_end 21 L (.ref 1 :: st) (enc T) := rn_getO (n := 13) dd_Ds_end_18 rfl (by decide) (by decide) (by decide) rfl rfl
theorem dd_Ds_end_21 : decode (px_rw k_Ds_end).2.1 21 = .ok (.iload_n 1, 1) := (by decide +kernel : decode prog_1_method_3_code 21 = .ok (.iload_n 1, 1))
theorem e_Ds_end_21 (a0 : Value) (x : Int32) (st : List Value) (g : px_G) : rn k_Ds_end 21 [a0, .int x] st g = rn k_Ds_end 22 [a0, .int x] (.int x :: st) g := rn_next dd_Ds_end_21 rfl
theorem dd_Ds_end_22 : decode (px_rw k_Ds_end).2.1 22 = .ok (.putfield 82, 3) := (by decide +kernel : decode prog_1_method_3_code 22 = .ok (.putfield 82, 3))
theorem e_Ds_end_22 (L : List Value) (x : Int32) (st : List Value) (T : TS) : rn k_Ds_end 22 L (.int x :: .ref 1 :: st) (enc T) = rn k_Ds_end 25 L st (enc (sI T 1 1 x)) := rn_putI (n := 2) dd_Ds_end_22 rfl (by decide) (by decide) (by decide) rfl rfl
theorem dd_Ds_end_25 : decode (px_rw k_Ds_end).2.1 25 = .ok (.iconst 1, 1) := (by decide +kernel : decode prog_1_method_3_code 25 = .ok (.iconst 1, 1))
theorem e_Ds_end_25 (L st : List Value) (g : px_G) : rn k_Ds_end 25 L st g = rn k_Ds_end 26 L (.int 1 :: st) g := rn_ipush (i := .iconst 1) dd_Ds_end_25 rfl rfl (by decide)
theorem dd_Ds_end_26 : decode (px_rw k_Ds_end).2.1 26 = .ok (.ireturn, 1) := (by decide +kernel : decode prog_1_method_3_code 26 = .ok (.ireturn, 1))
theorem e_Ds_end_26 (L : List Value) (v : Int32) (g : px_G) (hv : v = 0 ∨ v = 1) : rn k_Ds_end 26 L [.int v] g = some (some (.int v), g) := rn_zret dd_Ds_end_26 rfl hv
theorem c_Ds_fault (r0 : Nat) (g : px_G) : cl k_Ds_fault [.ref r0] g = rn k_Ds_fault 0 [.ref r0] [] g := rfl
theorem dd_Ds_fault_0 : decode (px_rw k_Ds_fault).2.1 0 = .ok (.aload_n 0, 1) := (by decide +kernel : decode prog_1_method_4_code 0 = .ok (.aload_n 0, 1))
theorem e_Ds_fault_0  (x : Nat) (st : List Value) (g : px_G) : rn k_Ds_fault 0 [.ref x] st g = rn k_Ds_fault 1 [.ref x] (.ref x :: st) g := rn_next dd_Ds_fault_0 rfl
theorem dd_Ds_fault_1 : decode (px_rw k_Ds_fault).2.1 1 = .ok (.getfield 21, 3) := (by decide +kernel : decode prog_1_method_4_code 1 = .ok (.getfield 21, 3))
theorem e_Ds_fault_1 (L st : List Value) (T : TS) : rn k_Ds_fault 1 L (.ref 0 :: st) (enc T) = rn k_Ds_fault 4 L (.ref 3 :: st) (enc T) := rn_getO (n := 13) dd_Ds_fault_1 rfl (by decide) (by decide) (by decide) rfl rfl
theorem dd_Ds_fault_4 : decode (px_rw k_Ds_fault).2.1 4 = .ok (.invokevirtual 90, 3) := (by decide +kernel : decode prog_1_method_4_code 4 = .ok (.invokevirtual 90, 3))
theorem e_Ds_fault_4 (L : List Value)   (T : TS)  : rn k_Ds_fault 4 L [.ref 3] (enc T) = bd (cl k_Reader_read [.ref 3] (enc T)) (fun r g' => rn k_Ds_fault 7 L (r.toList ++ []) g') := rn_callV (n := 7) (As := []) (rest := []) dd_Ds_fault_4 rfl (by decide) (by decide) rfl rfl (Nat.le_of_ble_eq_true rfl) (Nat.le_of_ble_eq_true rfl) rfl
theorem dd_Ds_fault_7 : decode (px_rw k_Ds_fault).2.1 7 = .ok (.aload_n 0, 1) := (by decide +kernel : decode prog_1_method_4_code 7 = .ok (.aload_n 0, 1))
theorem e_Ds_fault_7  (x : Nat) (st : List Value) (g : px_G) : rn k_Ds_fault 7 [.ref x] st g = rn k_Ds_fault 8 [.ref x] (.ref x :: st) g := rn_next dd_Ds_fault_7 rfl
theorem dd_Ds_fault_8 : decode (px_rw k_Ds_fault).2.1 8 = .ok (.getfield 21, 3) := (by decide +kernel : decode prog_1_method_4_code 8 = .ok (.getfield 21, 3))
theorem e_Ds_fault_8 (L st : List Value) (T : TS) : rn k_Ds_fault 8 L (.ref 0 :: st) (enc T) = rn k_Ds_fault 11 L (.ref 3 :: st) (enc T) := rn_getO (n := 13) dd_Ds_fault_8 rfl (by decide) (by decide) (by decide) rfl rfl
theorem dd_Ds_fault_11 : decode (px_rw k_Ds_fault).2.1 11 = .ok (.getfield 93, 3) := (by decide +kernel : decode prog_1_method_4_code 11 = .ok (.getfield 93, 3))
theorem e_Ds_fault_11 (L st : List Value) (T : TS) : rn k_Ds_fault 11 L (.ref 3 :: st) (enc T) = rn k_Ds_fault 14 L (.int (T.1 3 5) :: st) (enc T) := rn_getI (n := 7) dd_Ds_fault_11 rfl (by decide) (by decide) (by decide) rfl rfl
theorem dd_Ds_fault_14 : decode (px_rw k_Ds_fault).2.1 14 = .ok (.ireturn, 1) := (by decide +kernel : decode prog_1_method_4_code 14 = .ok (.ireturn, 1))
theorem e_Ds_fault_14 (L : List Value) (v : Int32) (g : px_G) : rn k_Ds_fault 14 L [.int v] g = some (some (.int v), g) := rn_iret dd_Ds_fault_14 rfl
theorem c_Ds_at (r0 : Nat) (i1 : Int32) (g : px_G) : cl k_Ds_at [.ref r0, .int i1] g = rn k_Ds_at 0 [.ref r0, .int i1] [] g := rfl
theorem dd_Ds_at_0 : decode (px_rw k_Ds_at).2.1 0 = .ok (.iload_n 1, 1) := (by decide +kernel : decode prog_1_method_57_code 0 = .ok (.iload_n 1, 1))
theorem e_Ds_at_0 (a0 : Value) (x : Int32) (st : List Value) (g : px_G) : rn k_Ds_at 0 [a0, .int x] st g = rn k_Ds_at 1 [a0, .int x] (.int x :: st) g := rn_next dd_Ds_at_0 rfl
theorem dd_Ds_at_1 : decode (px_rw k_Ds_at).2.1 1 = .ok (.ifCond .lt 15, 3) := (by decide +kernel : decode prog_1_method_57_code 1 = .ok (.ifCond .lt 15, 3))
theorem e_Ds_at_1 (L : List Value) (x : Int32) (st : List Value) (g : px_G) : rn k_Ds_at 1 L (.int x :: st) g = if x < 0 then rn k_Ds_at 16 L st g else rn k_Ds_at 4 L st g := rn_iflt dd_Ds_at_1 (by decide)
theorem dd_Ds_at_4 : decode (px_rw k_Ds_at).2.1 4 = .ok (.iload_n 1, 1) := (by decide +kernel : decode prog_1_method_57_code 4 = .ok (.iload_n 1, 1))
theorem e_Ds_at_4 (a0 : Value) (x : Int32) (st : List Value) (g : px_G) : rn k_Ds_at 4 [a0, .int x] st g = rn k_Ds_at 5 [a0, .int x] (.int x :: st) g := rn_next dd_Ds_at_4 rfl
theorem dd_Ds_at_5 : decode (px_rw k_Ds_at).2.1 5 = .ok (.aload_n 0, 1) := (by decide +kernel : decode prog_1_method_57_code 5 = .ok (.aload_n 0, 1))
theorem e_Ds_at_5 (a1 : Value) (x : Nat) (st : List Value) (g : px_G) : rn k_Ds_at 5 [.ref x, a1] st g = rn k_Ds_at 6 [.ref x, a1] (.ref x :: st) g := rn_next dd_Ds_at_5 rfl
theorem dd_Ds_at_6 : decode (px_rw k_Ds_at).2.1 6 = .ok (.arraylength, 1) := (by decide +kernel : decode prog_1_method_57_code 6 = .ok (.arraylength, 1))
theorem e_Ds_at_6 (L : List Value) (p : Nat) (st : List Value) (T : TS) (hp : (sh p).1 < 4) : rn k_Ds_at 6 L (.ref p :: st) (enc T) = rn k_Ds_at 7 L (.int (Int32.ofNat (sh p).2) :: st) (enc T) := rn_alen dd_Ds_at_6 hp rfl rfl
theorem dd_Ds_at_7 : decode (px_rw k_Ds_at).2.1 7 = .ok (.if_icmp .ge 9, 3) := (by decide +kernel : decode prog_1_method_57_code 7 = .ok (.if_icmp .ge 9, 3))
theorem e_Ds_at_7 (L : List Value) (x y : Int32) (st : List Value) (g : px_G) : rn k_Ds_at 7 L (.int y :: .int x :: st) g = if y ≤ x then rn k_Ds_at 16 L st g else rn k_Ds_at 10 L st g := rn_icge dd_Ds_at_7 (by decide)
theorem dd_Ds_at_10 : decode (px_rw k_Ds_at).2.1 10 = .ok (.aload_n 0, 1) := (by decide +kernel : decode prog_1_method_57_code 10 = .ok (.aload_n 0, 1))
theorem e_Ds_at_10 (a1 : Value) (x : Nat) (st : List Value) (g : px_G) : rn k_Ds_at 10 [.ref x, a1] st g = rn k_Ds_at 11 [.ref x, a1] (.ref x :: st) g := rn_next dd_Ds_at_10 rfl
theorem dd_Ds_at_11 : decode (px_rw k_Ds_at).2.1 11 = .ok (.iload_n 1, 1) := (by decide +kernel : decode prog_1_method_57_code 11 = .ok (.iload_n 1, 1))
theorem e_Ds_at_11 (a0 : Value) (x : Int32) (st : List Value) (g : px_G) : rn k_Ds_at 11 [a0, .int x] st g = rn k_Ds_at 12 [a0, .int x] (.int x :: st) g := rn_next dd_Ds_at_11 rfl
theorem dd_Ds_at_12 : decode (px_rw k_Ds_at).2.1 12 = .ok (.iaload, 1) := (by decide +kernel : decode prog_1_method_57_code 12 = .ok (.iaload, 1))
theorem e_Ds_at_12 (L : List Value) (i : Int32) (p : Nat) (st : List Value) (T : TS) (hp : (sh p).1 = 0) : rn k_Ds_at 12 L (.int i :: .ref p :: st) (enc T) = if px_in i (sh p).2 then rn k_Ds_at 13 L (.int (T.1 p i.toNatClampNeg) :: st) (enc T) else none := rn_iald dd_Ds_at_12 (Prod.ext hp rfl)
theorem dd_Ds_at_13 : decode (px_rw k_Ds_at).2.1 13 = .ok (.goto 4, 3) := (by decide +kernel : decode prog_1_method_57_code 13 = .ok (.goto 4, 3))
theorem e_Ds_at_13 (L st : List Value) (g : px_G) : rn k_Ds_at 13 L st g = rn k_Ds_at 17 L st g := rn_goto dd_Ds_at_13 (by decide)
theorem dd_Ds_at_16 : decode (px_rw k_Ds_at).2.1 16 = .ok (.iconst (-1), 1) := (by decide +kernel : decode prog_1_method_57_code 16 = .ok (.iconst (-1), 1))
theorem e_Ds_at_16 (L st : List Value) (g : px_G) : rn k_Ds_at 16 L st g = rn k_Ds_at 17 L (.int (-1) :: st) g := rn_ipush (i := .iconst (-1)) dd_Ds_at_16 rfl rfl (by decide)
theorem dd_Ds_at_17 : decode (px_rw k_Ds_at).2.1 17 = .ok (.ireturn, 1) := (by decide +kernel : decode prog_1_method_57_code 17 = .ok (.ireturn, 1))
theorem e_Ds_at_17 (L : List Value) (v : Int32) (g : px_G) : rn k_Ds_at 17 L [.int v] g = some (some (.int v), g) := rn_iret dd_Ds_at_17 rfl
theorem c_Ds_text (r0 : Nat) (g : px_G) : cl k_Ds_text [.ref r0] g = rn k_Ds_text 0 [.ref r0, .null] [] g := rfl
theorem dd_Ds_text_0 : decode (px_rw k_Ds_text).2.1 0 = .ok (.aload_n 0, 1) := (by decide +kernel : decode prog_1_method_5_code 0 = .ok (.aload_n 0, 1))
theorem e_Ds_text_0 (a1 : Value) (x : Nat) (st : List Value) (g : px_G) : rn k_Ds_text 0 [.ref x, a1] st g = rn k_Ds_text 1 [.ref x, a1] (.ref x :: st) g := rn_next dd_Ds_text_0 rfl
theorem dd_Ds_text_1 : decode (px_rw k_Ds_text).2.1 1 = .ok (.getfield 21, 3) := (by decide +kernel : decode prog_1_method_5_code 1 = .ok (.getfield 21, 3))
theorem e_Ds_text_1 (L st : List Value) (T : TS) : rn k_Ds_text 1 L (.ref 0 :: st) (enc T) = rn k_Ds_text 4 L (.ref 3 :: st) (enc T) := rn_getO (n := 13) dd_Ds_text_1 rfl (by decide) (by decide) (by decide) rfl rfl
theorem dd_Ds_text_4 : decode (px_rw k_Ds_text).2.1 4 = .ok (.invokevirtual 90, 3) := (by decide +kernel : decode prog_1_method_5_code 4 = .ok (.invokevirtual 90, 3))
theorem e_Ds_text_4 (L : List Value)   (T : TS)  : rn k_Ds_text 4 L [.ref 3] (enc T) = bd (cl k_Reader_read [.ref 3] (enc T)) (fun r g' => rn k_Ds_text 7 L (r.toList ++ []) g') := rn_callV (n := 7) (As := []) (rest := []) dd_Ds_text_4 rfl (by decide) (by decide) rfl rfl (Nat.le_of_ble_eq_true rfl) (Nat.le_of_ble_eq_true rfl) rfl
theorem dd_Ds_text_7 : decode (px_rw k_Ds_text).2.1 7 = .ok (.aload_n 0, 1) := (by decide +kernel : decode prog_1_method_5_code 7 = .ok (.aload_n 0, 1))
theorem e_Ds_text_7 (a1 : Value) (x : Nat) (st : List Value) (g : px_G) : rn k_Ds_text 7 [.ref x, a1] st g = rn k_Ds_text 8 [.ref x, a1] (.ref x :: st) g := rn_next dd_Ds_text_7 rfl
theorem dd_Ds_text_8 : decode (px_rw k_Ds_text).2.1 8 = .ok (.getfield 21, 3) := (by decide +kernel : decode prog_1_method_5_code 8 = .ok (.getfield 21, 3))
theorem e_Ds_text_8 (L st : List Value) (T : TS) : rn k_Ds_text 8 L (.ref 0 :: st) (enc T) = rn k_Ds_text 11 L (.ref 3 :: st) (enc T) := rn_getO (n := 13) dd_Ds_text_8 rfl (by decide) (by decide) (by decide) rfl rfl
theorem dd_Ds_text_11 : decode (px_rw k_Ds_text).2.1 11 = .ok (.getfield 93, 3) := (by decide +kernel : decode prog_1_method_5_code 11 = .ok (.getfield 93, 3))
theorem e_Ds_text_11 (L st : List Value) (T : TS) : rn k_Ds_text 11 L (.ref 3 :: st) (enc T) = rn k_Ds_text 14 L (.int (T.1 3 5) :: st) (enc T) := rn_getI (n := 7) dd_Ds_text_11 rfl (by decide) (by decide) (by decide) rfl rfl
theorem dd_Ds_text_14 : decode (px_rw k_Ds_text).2.1 14 = .ok (.iconst (-1), 1) := (by decide +kernel : decode prog_1_method_5_code 14 = .ok (.iconst (-1), 1))
theorem e_Ds_text_14 (L st : List Value) (g : px_G) : rn k_Ds_text 14 L st g = rn k_Ds_text 15 L (.int (-1) :: st) g := rn_ipush (i := .iconst (-1)) dd_Ds_text_14 rfl rfl (by decide)
theorem dd_Ds_text_15 : decode (px_rw k_Ds_text).2.1 15 = .ok (.if_icmp .eq 5, 3) := (by decide +kernel : decode prog_1_method_5_code 15 = .ok (.if_icmp .eq 5, 3))
theorem e_Ds_text_15 (L : List Value) (x y : Int32) (st : List Value) (g : px_G) : rn k_Ds_text 15 L (.int y :: .int x :: st) g = if x = y then rn k_Ds_text 20 L st g else rn k_Ds_text 18 L st g := rn_iceq dd_Ds_text_15 (by decide)
theorem dd_Ds_text_18 : decode (px_rw k_Ds_text).2.1 18 = .ok (.iconst (-1), 1) := (by decide +kernel : decode prog_1_method_5_code 18 = .ok (.iconst (-1), 1))
theorem e_Ds_text_18 (L st : List Value) (g : px_G) : rn k_Ds_text 18 L st g = rn k_Ds_text 19 L (.int (-1) :: st) g := rn_ipush (i := .iconst (-1)) dd_Ds_text_18 rfl rfl (by decide)
theorem dd_Ds_text_19 : decode (px_rw k_Ds_text).2.1 19 = .ok (.ireturn, 1) := (by decide +kernel : decode prog_1_method_5_code 19 = .ok (.ireturn, 1))
theorem e_Ds_text_19 (L : List Value) (v : Int32) (g : px_G) : rn k_Ds_text 19 L [.int v] g = some (some (.int v), g) := rn_iret dd_Ds_text_19 rfl
theorem dd_Ds_text_20 : decode (px_rw k_Ds_text).2.1 20 = .ok (.aload_n 0, 1) := (by decide +kernel : decode prog_1_method_5_code 20 = .ok (.aload_n 0, 1))
theorem e_Ds_text_20 (a1 : Value) (x : Nat) (st : List Value) (g : px_G) : rn k_Ds_text 20 [.ref x, a1] st g = rn k_Ds_text 21 [.ref x, a1] (.ref x :: st) g := rn_next dd_Ds_text_20 rfl
theorem dd_Ds_text_21 : decode (px_rw k_Ds_text).2.1 21 = .ok (.iconst 0, 1) := (by decide +kernel : decode prog_1_method_5_code 21 = .ok (.iconst 0, 1))
theorem e_Ds_text_21 (L st : List Value) (g : px_G) : rn k_Ds_text 21 L st g = rn k_Ds_text 22 L (.int 0 :: st) g := rn_ipush (i := .iconst 0) dd_Ds_text_21 rfl rfl (by decide)
theorem dd_Ds_text_22 : decode (px_rw k_Ds_text).2.1 22 = .ok (.putfield 96, 3) := (by decide +kernel : decode prog_1_method_5_code 22 = .ok (.putfield 96, 3))
theorem e_Ds_text_22 (L : List Value) (x : Int32) (st : List Value) (T : TS) : rn k_Ds_text 22 L (.int x :: .ref 0 :: st) (enc T) = rn k_Ds_text 25 L st (enc (sI T 0 3 x)) := rn_putI (n := 13) dd_Ds_text_22 rfl (by decide) (by decide) (by decide) rfl rfl
theorem dd_Ds_text_25 : decode (px_rw k_Ds_text).2.1 25 = .ok (.iconst 0, 1) := (by decide +kernel : decode prog_1_method_5_code 25 = .ok (.iconst 0, 1))
theorem e_Ds_text_25 (L st : List Value) (g : px_G) : rn k_Ds_text 25 L st g = rn k_Ds_text 26 L (.int 0 :: st) g := rn_ipush (i := .iconst 0) dd_Ds_text_25 rfl rfl (by decide)
theorem dd_Ds_text_26 : decode (px_rw k_Ds_text).2.1 26 = .ok (.istore_n 1, 1) := (by decide +kernel : decode prog_1_method_5_code 26 = .ok (.istore_n 1, 1))
theorem e_Ds_text_26 (a0 a1 : Value) (x : Int32) (st : List Value) (g : px_G) : rn k_Ds_text 26 [a0, a1] (.int x :: st) g = rn k_Ds_text 27 [px_kill a0, .int x] st g := rn_next dd_Ds_text_26 rfl
theorem dd_Ds_text_27 : decode (px_rw k_Ds_text).2.1 27 = .ok (.iload_n 1, 1) := (by decide +kernel : decode prog_1_method_5_code 27 = .ok (.iload_n 1, 1))
theorem e_Ds_text_27 (a0 : Value) (x : Int32) (st : List Value) (g : px_G) : rn k_Ds_text 27 [a0, .int x] st g = rn k_Ds_text 28 [a0, .int x] (.int x :: st) g := rn_next dd_Ds_text_27 rfl
theorem dd_Ds_text_28 : decode (px_rw k_Ds_text).2.1 28 = .ok (.aload_n 0, 1) := (by decide +kernel : decode prog_1_method_5_code 28 = .ok (.aload_n 0, 1))
theorem e_Ds_text_28 (a1 : Value) (x : Nat) (st : List Value) (g : px_G) : rn k_Ds_text 28 [.ref x, a1] st g = rn k_Ds_text 29 [.ref x, a1] (.ref x :: st) g := rn_next dd_Ds_text_28 rfl
theorem dd_Ds_text_29 : decode (px_rw k_Ds_text).2.1 29 = .ok (.getfield 21, 3) := (by decide +kernel : decode prog_1_method_5_code 29 = .ok (.getfield 21, 3))
theorem e_Ds_text_29 (L st : List Value) (T : TS) : rn k_Ds_text 29 L (.ref 0 :: st) (enc T) = rn k_Ds_text 32 L (.ref 3 :: st) (enc T) := rn_getO (n := 13) dd_Ds_text_29 rfl (by decide) (by decide) (by decide) rfl rfl
theorem dd_Ds_text_32 : decode (px_rw k_Ds_text).2.1 32 = .ok (.getfield 99, 3) := (by decide +kernel : decode prog_1_method_5_code 32 = .ok (.getfield 99, 3))
theorem e_Ds_text_32 (L st : List Value) (T : TS) : rn k_Ds_text 32 L (.ref 3 :: st) (enc T) = rn k_Ds_text 35 L (.int (T.1 3 4) :: st) (enc T) := rn_getI (n := 7) dd_Ds_text_32 rfl (by decide) (by decide) (by decide) rfl rfl
theorem dd_Ds_text_35 : decode (px_rw k_Ds_text).2.1 35 = .ok (.if_icmp .ge 14, 3) := (by decide +kernel : decode prog_1_method_5_code 35 = .ok (.if_icmp .ge 14, 3))
theorem e_Ds_text_35 (L : List Value) (x y : Int32) (st : List Value) (g : px_G) : rn k_Ds_text 35 L (.int y :: .int x :: st) g = if y ≤ x then rn k_Ds_text 49 L st g else rn k_Ds_text 38 L st g := rn_icge dd_Ds_text_35 (by decide)
theorem dd_Ds_text_38 : decode (px_rw k_Ds_text).2.1 38 = .ok (.aload_n 0, 1) := (by decide +kernel : decode prog_1_method_5_code 38 = .ok (.aload_n 0, 1))
theorem e_Ds_text_38 (a1 : Value) (x : Nat) (st : List Value) (g : px_G) : rn k_Ds_text 38 [.ref x, a1] st g = rn k_Ds_text 39 [.ref x, a1] (.ref x :: st) g := rn_next dd_Ds_text_38 rfl
theorem dd_Ds_text_39 : decode (px_rw k_Ds_text).2.1 39 = .ok (.iload_n 1, 1) := (by decide +kernel : decode prog_1_method_5_code 39 = .ok (.iload_n 1, 1))
theorem e_Ds_text_39 (a0 : Value) (x : Int32) (st : List Value) (g : px_G) : rn k_Ds_text 39 [a0, .int x] st g = rn k_Ds_text 40 [a0, .int x] (.int x :: st) g := rn_next dd_Ds_text_39 rfl
theorem dd_Ds_text_40 : decode (px_rw k_Ds_text).2.1 40 = .ok (.invokevirtual 102, 3) := (by decide +kernel : decode prog_1_method_5_code 40 = .ok (.invokevirtual 102, 3))
theorem e_Ds_text_40 (L : List Value) (i0 : Int32)  (T : TS)  : rn k_Ds_text 40 L [.int i0, .ref 0] (enc T) = bd (cl k_Ds_takeClause [.ref 0, .int i0] (enc T)) (fun r g' => rn k_Ds_text 43 L (r.toList ++ []) g') := rn_callV (n := 13) (As := [.int i0]) (rest := []) dd_Ds_text_40 rfl (by decide) (by decide) rfl rfl (Nat.le_of_ble_eq_true rfl) (Nat.le_of_ble_eq_true rfl) rfl
theorem dd_Ds_text_43 : decode (px_rw k_Ds_text).2.1 43 = .ok (.iinc 1 1, 3) := (by decide +kernel : decode prog_1_method_5_code 43 = .ok (.iinc 1 1, 3))
theorem e_Ds_text_43 (a0 : Value) (x : Int32) (st : List Value) (g : px_G) : rn k_Ds_text 43 [a0, .int x] st g = rn k_Ds_text 46 [px_kill a0, .int (x + 1)] st g := rn_next dd_Ds_text_43 rfl
theorem dd_Ds_text_46 : decode (px_rw k_Ds_text).2.1 46 = .ok (.goto (-19), 3) := (by decide +kernel : decode prog_1_method_5_code 46 = .ok (.goto (-19), 3))
theorem e_Ds_text_46 (L st : List Value) (g : px_G) : rn k_Ds_text 46 L st g = rn k_Ds_text 27 L st g := rn_goto dd_Ds_text_46 (by decide)
theorem dd_Ds_text_49 : decode (px_rw k_Ds_text).2.1 49 = .ok (.aload_n 0, 1) := (by decide +kernel : decode prog_1_method_5_code 49 = .ok (.aload_n 0, 1))
theorem e_Ds_text_49 (a1 : Value) (x : Nat) (st : List Value) (g : px_G) : rn k_Ds_text 49 [.ref x, a1] st g = rn k_Ds_text 50 [.ref x, a1] (.ref x :: st) g := rn_next dd_Ds_text_49 rfl
theorem dd_Ds_text_50 : decode (px_rw k_Ds_text).2.1 50 = .ok (.getfield 10, 3) := (by decide +kernel : decode prog_1_method_5_code 50 = .ok (.getfield 10, 3))
theorem e_Ds_text_50 (L st : List Value) (T : TS) : rn k_Ds_text 50 L (.ref 0 :: st) (enc T) = rn k_Ds_text 53 L (.ref 1 :: st) (enc T) := rn_getO (n := 13) dd_Ds_text_50 rfl (by decide) (by decide) (by decide) rfl rfl
theorem dd_Ds_text_53 : decode (px_rw k_Ds_text).2.1 53 = .ok (.iconst 0, 1) := (by decide +kernel : decode prog_1_method_5_code 53 = .ok (.iconst 0, 1))
theorem e_Ds_text_53 (L st : List Value) (g : px_G) : rn k_Ds_text 53 L st g = rn k_Ds_text 54 L (.int 0 :: st) g := rn_ipush (i := .iconst 0) dd_Ds_text_53 rfl rfl (by decide)
theorem dd_Ds_text_54 : decode (px_rw k_Ds_text).2.1 54 = .ok (.putfield 82, 3) := (by decide +kernel : decode prog_1_method_5_code 54 = .ok (.putfield 82, 3))
theorem e_Ds_text_54 (L : List Value) (x : Int32) (st : List Value) (T : TS) : rn k_Ds_text 54 L (.int x :: .ref 1 :: st) (enc T) = rn k_Ds_text 57 L st (enc (sI T 1 1 x)) := rn_putI (n := 2) dd_Ds_text_54 rfl (by decide) (by decide) (by decide) rfl rfl
theorem dd_Ds_text_57 : decode (px_rw k_Ds_text).2.1 57 = .ok (.aload_n 0, 1) := (by decide +kernel : decode prog_1_method_5_code 57 = .ok (.aload_n 0, 1))
theorem e_Ds_text_57 (a1 : Value) (x : Nat) (st : List Value) (g : px_G) : rn k_Ds_text 57 [.ref x, a1] st g = rn k_Ds_text 58 [.ref x, a1] (.ref x :: st) g := rn_next dd_Ds_text_57 rfl
theorem dd_Ds_text_58 : decode (px_rw k_Ds_text).2.1 58 = .ok (.getfield 96, 3) := (by decide +kernel : decode prog_1_method_5_code 58 = .ok (.getfield 96, 3))
theorem e_Ds_text_58 (L st : List Value) (T : TS) : rn k_Ds_text 58 L (.ref 0 :: st) (enc T) = rn k_Ds_text 61 L (.int (T.1 0 3) :: st) (enc T) := rn_getI (n := 13) dd_Ds_text_58 rfl (by decide) (by decide) (by decide) rfl rfl
theorem dd_Ds_text_61 : decode (px_rw k_Ds_text).2.1 61 = .ok (.ireturn, 1) := (by decide +kernel : decode prog_1_method_5_code 61 = .ok (.ireturn, 1))
theorem e_Ds_text_61 (L : List Value) (v : Int32) (g : px_G) : rn k_Ds_text 61 L [.int v] g = some (some (.int v), g) := rn_iret dd_Ds_text_61 rfl
theorem c_Ds_takeClause (r0 : Nat) (i1 : Int32) (g : px_G) : cl k_Ds_takeClause [.ref r0, .int i1] g = rn k_Ds_takeClause 0 [.ref r0, .int i1, .null, .null, .null, .null, .null] [] g := rfl
theorem dd_Ds_takeClause_0 : decode (px_rw k_Ds_takeClause).2.1 0 = .ok (.aload_n 0, 1) := (by decide +kernel : decode prog_1_method_6_code 0 = .ok (.aload_n 0, 1))
theorem e_Ds_takeClause_0 (a1 a2 a3 a4 a5 a6 : Value) (x : Nat) (st : List Value) (g : px_G) : rn k_Ds_takeClause 0 [.ref x, a1, a2, a3, a4, a5, a6] st g = rn k_Ds_takeClause 1 [.ref x, a1, a2, a3, a4, a5, a6] (.ref x :: st) g := rn_next dd_Ds_takeClause_0 rfl
theorem dd_Ds_takeClause_1 : decode (px_rw k_Ds_takeClause).2.1 1 = .ok (.getfield 21, 3) := (by decide +kernel : decode prog_1_method_6_code 1 = .ok (.getfield 21, 3))
theorem e_Ds_takeClause_1 (L st : List Value) (T : TS) : rn k_Ds_takeClause 1 L (.ref 0 :: st) (enc T) = rn k_Ds_takeClause 4 L (.ref 3 :: st) (enc T) := rn_getO (n := 13) dd_Ds_takeClause_1 rfl (by decide) (by decide) (by decide) rfl rfl
theorem dd_Ds_takeClause_4 : decode (px_rw k_Ds_takeClause).2.1 4 = .ok (.iload_n 1, 1) := (by decide +kernel : decode prog_1_method_6_code 4 = .ok (.iload_n 1, 1))
theorem e_Ds_takeClause_4 (a0 a2 a3 a4 a5 a6 : Value) (x : Int32) (st : List Value) (g : px_G) : rn k_Ds_takeClause 4 [a0, .int x, a2, a3, a4, a5, a6] st g = rn k_Ds_takeClause 5 [a0, .int x, a2, a3, a4, a5, a6] (.int x :: st) g := rn_next dd_Ds_takeClause_4 rfl
theorem dd_Ds_takeClause_5 : decode (px_rw k_Ds_takeClause).2.1 5 = .ok (.iconst 0, 1) := (by decide +kernel : decode prog_1_method_6_code 5 = .ok (.iconst 0, 1))
theorem e_Ds_takeClause_5 (L st : List Value) (g : px_G) : rn k_Ds_takeClause 5 L st g = rn k_Ds_takeClause 6 L (.int 0 :: st) g := rn_ipush (i := .iconst 0) dd_Ds_takeClause_5 rfl rfl (by decide)
theorem dd_Ds_takeClause_6 : decode (px_rw k_Ds_takeClause).2.1 6 = .ok (.invokevirtual 105, 3) := (by decide +kernel : decode prog_1_method_6_code 6 = .ok (.invokevirtual 105, 3))
theorem e_Ds_takeClause_6 (L : List Value) (i0 : Int32) (i1 : Int32)  (T : TS)  : rn k_Ds_takeClause 6 L [.int i1, .int i0, .ref 3] (enc T) = bd (cl k_Reader_told [.ref 3, .int i0, .int i1] (enc T)) (fun r g' => rn k_Ds_takeClause 9 L (r.toList ++ []) g') := rn_callV (n := 7) (As := [.int i0, .int i1]) (rest := []) dd_Ds_takeClause_6 rfl (by decide) (by decide) rfl rfl (Nat.le_of_ble_eq_true rfl) (Nat.le_of_ble_eq_true rfl) rfl
theorem dd_Ds_takeClause_9 : decode (px_rw k_Ds_takeClause).2.1 9 = .ok (.istore_n 2, 1) := (by decide +kernel : decode prog_1_method_6_code 9 = .ok (.istore_n 2, 1))
theorem e_Ds_takeClause_9 (a0 a1 a2 a3 a4 a5 a6 : Value) (x : Int32) (st : List Value) (g : px_G) : rn k_Ds_takeClause 9 [a0, a1, a2, a3, a4, a5, a6] (.int x :: st) g = rn k_Ds_takeClause 10 [a0, px_kill a1, .int x, a3, a4, a5, a6] st g := rn_next dd_Ds_takeClause_9 rfl
theorem dd_Ds_takeClause_10 : decode (px_rw k_Ds_takeClause).2.1 10 = .ok (.aload_n 0, 1) := (by decide +kernel : decode prog_1_method_6_code 10 = .ok (.aload_n 0, 1))
theorem e_Ds_takeClause_10 (a1 a2 a3 a4 a5 a6 : Value) (x : Nat) (st : List Value) (g : px_G) : rn k_Ds_takeClause 10 [.ref x, a1, a2, a3, a4, a5, a6] st g = rn k_Ds_takeClause 11 [.ref x, a1, a2, a3, a4, a5, a6] (.ref x :: st) g := rn_next dd_Ds_takeClause_10 rfl
theorem dd_Ds_takeClause_11 : decode (px_rw k_Ds_takeClause).2.1 11 = .ok (.getfield 21, 3) := (by decide +kernel : decode prog_1_method_6_code 11 = .ok (.getfield 21, 3))
theorem e_Ds_takeClause_11 (L st : List Value) (T : TS) : rn k_Ds_takeClause 11 L (.ref 0 :: st) (enc T) = rn k_Ds_takeClause 14 L (.ref 3 :: st) (enc T) := rn_getO (n := 13) dd_Ds_takeClause_11 rfl (by decide) (by decide) (by decide) rfl rfl
theorem dd_Ds_takeClause_14 : decode (px_rw k_Ds_takeClause).2.1 14 = .ok (.iload_n 1, 1) := (by decide +kernel : decode prog_1_method_6_code 14 = .ok (.iload_n 1, 1))
theorem e_Ds_takeClause_14 (a0 a2 a3 a4 a5 a6 : Value) (x : Int32) (st : List Value) (g : px_G) : rn k_Ds_takeClause 14 [a0, .int x, a2, a3, a4, a5, a6] st g = rn k_Ds_takeClause 15 [a0, .int x, a2, a3, a4, a5, a6] (.int x :: st) g := rn_next dd_Ds_takeClause_14 rfl
theorem dd_Ds_takeClause_15 : decode (px_rw k_Ds_takeClause).2.1 15 = .ok (.iconst 1, 1) := (by decide +kernel : decode prog_1_method_6_code 15 = .ok (.iconst 1, 1))
theorem e_Ds_takeClause_15 (L st : List Value) (g : px_G) : rn k_Ds_takeClause 15 L st g = rn k_Ds_takeClause 16 L (.int 1 :: st) g := rn_ipush (i := .iconst 1) dd_Ds_takeClause_15 rfl rfl (by decide)
theorem dd_Ds_takeClause_16 : decode (px_rw k_Ds_takeClause).2.1 16 = .ok (.invokevirtual 105, 3) := (by decide +kernel : decode prog_1_method_6_code 16 = .ok (.invokevirtual 105, 3))
theorem e_Ds_takeClause_16 (L : List Value) (i0 : Int32) (i1 : Int32)  (T : TS)  : rn k_Ds_takeClause 16 L [.int i1, .int i0, .ref 3] (enc T) = bd (cl k_Reader_told [.ref 3, .int i0, .int i1] (enc T)) (fun r g' => rn k_Ds_takeClause 19 L (r.toList ++ []) g') := rn_callV (n := 7) (As := [.int i0, .int i1]) (rest := []) dd_Ds_takeClause_16 rfl (by decide) (by decide) rfl rfl (Nat.le_of_ble_eq_true rfl) (Nat.le_of_ble_eq_true rfl) rfl
theorem dd_Ds_takeClause_19 : decode (px_rw k_Ds_takeClause).2.1 19 = .ok (.istore_n 3, 1) := (by decide +kernel : decode prog_1_method_6_code 19 = .ok (.istore_n 3, 1))
theorem e_Ds_takeClause_19 (a0 a1 a2 a3 a4 a5 a6 : Value) (x : Int32) (st : List Value) (g : px_G) : rn k_Ds_takeClause 19 [a0, a1, a2, a3, a4, a5, a6] (.int x :: st) g = rn k_Ds_takeClause 20 [a0, a1, px_kill a2, .int x, a4, a5, a6] st g := rn_next dd_Ds_takeClause_19 rfl
theorem dd_Ds_takeClause_20 : decode (px_rw k_Ds_takeClause).2.1 20 = .ok (.aload_n 0, 1) := (by decide +kernel : decode prog_1_method_6_code 20 = .ok (.aload_n 0, 1))
theorem e_Ds_takeClause_20 (a1 a2 a3 a4 a5 a6 : Value) (x : Nat) (st : List Value) (g : px_G) : rn k_Ds_takeClause 20 [.ref x, a1, a2, a3, a4, a5, a6] st g = rn k_Ds_takeClause 21 [.ref x, a1, a2, a3, a4, a5, a6] (.ref x :: st) g := rn_next dd_Ds_takeClause_20 rfl
theorem dd_Ds_takeClause_21 : decode (px_rw k_Ds_takeClause).2.1 21 = .ok (.getfield 21, 3) := (by decide +kernel : decode prog_1_method_6_code 21 = .ok (.getfield 21, 3))
theorem e_Ds_takeClause_21 (L st : List Value) (T : TS) : rn k_Ds_takeClause 21 L (.ref 0 :: st) (enc T) = rn k_Ds_takeClause 24 L (.ref 3 :: st) (enc T) := rn_getO (n := 13) dd_Ds_takeClause_21 rfl (by decide) (by decide) (by decide) rfl rfl
theorem dd_Ds_takeClause_24 : decode (px_rw k_Ds_takeClause).2.1 24 = .ok (.iload_n 1, 1) := (by decide +kernel : decode prog_1_method_6_code 24 = .ok (.iload_n 1, 1))
theorem e_Ds_takeClause_24 (a0 a2 a3 a4 a5 a6 : Value) (x : Int32) (st : List Value) (g : px_G) : rn k_Ds_takeClause 24 [a0, .int x, a2, a3, a4, a5, a6] st g = rn k_Ds_takeClause 25 [a0, .int x, a2, a3, a4, a5, a6] (.int x :: st) g := rn_next dd_Ds_takeClause_24 rfl
theorem dd_Ds_takeClause_25 : decode (px_rw k_Ds_takeClause).2.1 25 = .ok (.iconst 2, 1) := (by decide +kernel : decode prog_1_method_6_code 25 = .ok (.iconst 2, 1))
theorem e_Ds_takeClause_25 (L st : List Value) (g : px_G) : rn k_Ds_takeClause 25 L st g = rn k_Ds_takeClause 26 L (.int 2 :: st) g := rn_ipush (i := .iconst 2) dd_Ds_takeClause_25 rfl rfl (by decide)
theorem dd_Ds_takeClause_26 : decode (px_rw k_Ds_takeClause).2.1 26 = .ok (.invokevirtual 105, 3) := (by decide +kernel : decode prog_1_method_6_code 26 = .ok (.invokevirtual 105, 3))
theorem e_Ds_takeClause_26 (L : List Value) (i0 : Int32) (i1 : Int32)  (T : TS)  : rn k_Ds_takeClause 26 L [.int i1, .int i0, .ref 3] (enc T) = bd (cl k_Reader_told [.ref 3, .int i0, .int i1] (enc T)) (fun r g' => rn k_Ds_takeClause 29 L (r.toList ++ []) g') := rn_callV (n := 7) (As := [.int i0, .int i1]) (rest := []) dd_Ds_takeClause_26 rfl (by decide) (by decide) rfl rfl (Nat.le_of_ble_eq_true rfl) (Nat.le_of_ble_eq_true rfl) rfl
theorem dd_Ds_takeClause_29 : decode (px_rw k_Ds_takeClause).2.1 29 = .ok (.istore 4, 2) := (by decide +kernel : decode prog_1_method_6_code 29 = .ok (.istore 4, 2))
theorem e_Ds_takeClause_29 (a0 a1 a2 a3 a4 a5 a6 : Value) (x : Int32) (st : List Value) (g : px_G) : rn k_Ds_takeClause 29 [a0, a1, a2, a3, a4, a5, a6] (.int x :: st) g = rn k_Ds_takeClause 31 [a0, a1, a2, px_kill a3, .int x, a5, a6] st g := rn_next dd_Ds_takeClause_29 rfl
theorem dd_Ds_takeClause_31 : decode (px_rw k_Ds_takeClause).2.1 31 = .ok (.aload_n 0, 1) := (by decide +kernel : decode prog_1_method_6_code 31 = .ok (.aload_n 0, 1))
theorem e_Ds_takeClause_31 (a1 a2 a3 a4 a5 a6 : Value) (x : Nat) (st : List Value) (g : px_G) : rn k_Ds_takeClause 31 [.ref x, a1, a2, a3, a4, a5, a6] st g = rn k_Ds_takeClause 32 [.ref x, a1, a2, a3, a4, a5, a6] (.ref x :: st) g := rn_next dd_Ds_takeClause_31 rfl
theorem dd_Ds_takeClause_32 : decode (px_rw k_Ds_takeClause).2.1 32 = .ok (.getfield 21, 3) := (by decide +kernel : decode prog_1_method_6_code 32 = .ok (.getfield 21, 3))
theorem e_Ds_takeClause_32 (L st : List Value) (T : TS) : rn k_Ds_takeClause 32 L (.ref 0 :: st) (enc T) = rn k_Ds_takeClause 35 L (.ref 3 :: st) (enc T) := rn_getO (n := 13) dd_Ds_takeClause_32 rfl (by decide) (by decide) (by decide) rfl rfl
theorem dd_Ds_takeClause_35 : decode (px_rw k_Ds_takeClause).2.1 35 = .ok (.iload_n 1, 1) := (by decide +kernel : decode prog_1_method_6_code 35 = .ok (.iload_n 1, 1))
theorem e_Ds_takeClause_35 (a0 a2 a3 a4 a5 a6 : Value) (x : Int32) (st : List Value) (g : px_G) : rn k_Ds_takeClause 35 [a0, .int x, a2, a3, a4, a5, a6] st g = rn k_Ds_takeClause 36 [a0, .int x, a2, a3, a4, a5, a6] (.int x :: st) g := rn_next dd_Ds_takeClause_35 rfl
theorem dd_Ds_takeClause_36 : decode (px_rw k_Ds_takeClause).2.1 36 = .ok (.iconst 3, 1) := (by decide +kernel : decode prog_1_method_6_code 36 = .ok (.iconst 3, 1))
theorem e_Ds_takeClause_36 (L st : List Value) (g : px_G) : rn k_Ds_takeClause 36 L st g = rn k_Ds_takeClause 37 L (.int 3 :: st) g := rn_ipush (i := .iconst 3) dd_Ds_takeClause_36 rfl rfl (by decide)
theorem dd_Ds_takeClause_37 : decode (px_rw k_Ds_takeClause).2.1 37 = .ok (.invokevirtual 105, 3) := (by decide +kernel : decode prog_1_method_6_code 37 = .ok (.invokevirtual 105, 3))
theorem e_Ds_takeClause_37 (L : List Value) (i0 : Int32) (i1 : Int32)  (T : TS)  : rn k_Ds_takeClause 37 L [.int i1, .int i0, .ref 3] (enc T) = bd (cl k_Reader_told [.ref 3, .int i0, .int i1] (enc T)) (fun r g' => rn k_Ds_takeClause 40 L (r.toList ++ []) g') := rn_callV (n := 7) (As := [.int i0, .int i1]) (rest := []) dd_Ds_takeClause_37 rfl (by decide) (by decide) rfl rfl (Nat.le_of_ble_eq_true rfl) (Nat.le_of_ble_eq_true rfl) rfl
theorem dd_Ds_takeClause_40 : decode (px_rw k_Ds_takeClause).2.1 40 = .ok (.istore 5, 2) := (by decide +kernel : decode prog_1_method_6_code 40 = .ok (.istore 5, 2))
theorem e_Ds_takeClause_40 (a0 a1 a2 a3 a4 a5 a6 : Value) (x : Int32) (st : List Value) (g : px_G) : rn k_Ds_takeClause 40 [a0, a1, a2, a3, a4, a5, a6] (.int x :: st) g = rn k_Ds_takeClause 42 [a0, a1, a2, a3, px_kill a4, .int x, a6] st g := rn_next dd_Ds_takeClause_40 rfl
theorem dd_Ds_takeClause_42 : decode (px_rw k_Ds_takeClause).2.1 42 = .ok (.iload_n 2, 1) := (by decide +kernel : decode prog_1_method_6_code 42 = .ok (.iload_n 2, 1))
theorem e_Ds_takeClause_42 (a0 a1 a3 a4 a5 a6 : Value) (x : Int32) (st : List Value) (g : px_G) : rn k_Ds_takeClause 42 [a0, a1, .int x, a3, a4, a5, a6] st g = rn k_Ds_takeClause 43 [a0, a1, .int x, a3, a4, a5, a6] (.int x :: st) g := rn_next dd_Ds_takeClause_42 rfl
theorem dd_Ds_takeClause_43 : decode (px_rw k_Ds_takeClause).2.1 43 = .ok (.iload 5, 2) := (by decide +kernel : decode prog_1_method_6_code 43 = .ok (.iload 5, 2))
theorem e_Ds_takeClause_43 (a0 a1 a2 a3 a4 a6 : Value) (x : Int32) (st : List Value) (g : px_G) : rn k_Ds_takeClause 43 [a0, a1, a2, a3, a4, .int x, a6] st g = rn k_Ds_takeClause 45 [a0, a1, a2, a3, a4, .int x, a6] (.int x :: st) g := rn_next dd_Ds_takeClause_43 rfl
theorem dd_Ds_takeClause_45 : decode (px_rw k_Ds_takeClause).2.1 45 = .ok (.imul, 1) := (by decide +kernel : decode prog_1_method_6_code 45 = .ok (.imul, 1))
theorem e_Ds_takeClause_45 (L : List Value) (x y : Int32) (st : List Value) (g : px_G) : rn k_Ds_takeClause 45 L (.int y :: .int x :: st) g = rn k_Ds_takeClause 46 L (.int (x * y) :: st) g := rn_next dd_Ds_takeClause_45 rfl
theorem dd_Ds_takeClause_46 : decode (px_rw k_Ds_takeClause).2.1 46 = .ok (.iload_n 3, 1) := (by decide +kernel : decode prog_1_method_6_code 46 = .ok (.iload_n 3, 1))
theorem e_Ds_takeClause_46 (a0 a1 a2 a4 a5 a6 : Value) (x : Int32) (st : List Value) (g : px_G) : rn k_Ds_takeClause 46 [a0, a1, a2, .int x, a4, a5, a6] st g = rn k_Ds_takeClause 47 [a0, a1, a2, .int x, a4, a5, a6] (.int x :: st) g := rn_next dd_Ds_takeClause_46 rfl
theorem dd_Ds_takeClause_47 : decode (px_rw k_Ds_takeClause).2.1 47 = .ok (.iload 4, 2) := (by decide +kernel : decode prog_1_method_6_code 47 = .ok (.iload 4, 2))
theorem e_Ds_takeClause_47 (a0 a1 a2 a3 a5 a6 : Value) (x : Int32) (st : List Value) (g : px_G) : rn k_Ds_takeClause 47 [a0, a1, a2, a3, .int x, a5, a6] st g = rn k_Ds_takeClause 49 [a0, a1, a2, a3, .int x, a5, a6] (.int x :: st) g := rn_next dd_Ds_takeClause_47 rfl
theorem dd_Ds_takeClause_49 : decode (px_rw k_Ds_takeClause).2.1 49 = .ok (.imul, 1) := (by decide +kernel : decode prog_1_method_6_code 49 = .ok (.imul, 1))
theorem e_Ds_takeClause_49 (L : List Value) (x y : Int32) (st : List Value) (g : px_G) : rn k_Ds_takeClause 49 L (.int y :: .int x :: st) g = rn k_Ds_takeClause 50 L (.int (x * y) :: st) g := rn_next dd_Ds_takeClause_49 rfl
theorem dd_Ds_takeClause_50 : decode (px_rw k_Ds_takeClause).2.1 50 = .ok (.isub, 1) := (by decide +kernel : decode prog_1_method_6_code 50 = .ok (.isub, 1))
theorem e_Ds_takeClause_50 (L : List Value) (x y : Int32) (st : List Value) (g : px_G) : rn k_Ds_takeClause 50 L (.int y :: .int x :: st) g = rn k_Ds_takeClause 51 L (.int (x - y) :: st) g := rn_next dd_Ds_takeClause_50 rfl
theorem dd_Ds_takeClause_51 : decode (px_rw k_Ds_takeClause).2.1 51 = .ok (.invokestatic 109, 3) := (by decide +kernel : decode prog_1_method_6_code 51 = .ok (.invokestatic 109, 3))
theorem e_Ds_takeClause_51 (L : List Value) (i0 : Int32) (g : px_G) : rn k_Ds_takeClause 51 L [.int i0] g = bd (cl k_Ds_isCell [.int i0] g) (fun r g' => rn k_Ds_takeClause 54 L (r.toList ++ []) g') := rn_callS (As := [.int i0]) (rest := []) dd_Ds_takeClause_51 rfl (by decide) rfl rfl (Nat.le_of_ble_eq_true rfl) (Nat.le_of_ble_eq_true rfl)
theorem dd_Ds_takeClause_54 : decode (px_rw k_Ds_takeClause).2.1 54 = .ok (.ifCond .eq 15, 3) := (by decide +kernel : decode prog_1_method_6_code 54 = .ok (.ifCond .eq 15, 3))
theorem e_Ds_takeClause_54 (L : List Value) (x : Int32) (st : List Value) (g : px_G) : rn k_Ds_takeClause 54 L (.int x :: st) g = if x = 0 then rn k_Ds_takeClause 69 L st g else rn k_Ds_takeClause 57 L st g := rn_ifeq dd_Ds_takeClause_54 (by decide)
theorem dd_Ds_takeClause_57 : decode (px_rw k_Ds_takeClause).2.1 57 = .ok (.aload_n 0, 1) := (by decide +kernel : decode prog_1_method_6_code 57 = .ok (.aload_n 0, 1))
theorem e_Ds_takeClause_57 (a1 a2 a3 a4 a5 a6 : Value) (x : Nat) (st : List Value) (g : px_G) : rn k_Ds_takeClause 57 [.ref x, a1, a2, a3, a4, a5, a6] st g = rn k_Ds_takeClause 58 [.ref x, a1, a2, a3, a4, a5, a6] (.ref x :: st) g := rn_next dd_Ds_takeClause_57 rfl
theorem dd_Ds_takeClause_58 : decode (px_rw k_Ds_takeClause).2.1 58 = .ok (.getfield 96, 3) := (by decide +kernel : decode prog_1_method_6_code 58 = .ok (.getfield 96, 3))
theorem e_Ds_takeClause_58 (L st : List Value) (T : TS) : rn k_Ds_takeClause 58 L (.ref 0 :: st) (enc T) = rn k_Ds_takeClause 61 L (.int (T.1 0 3) :: st) (enc T) := rn_getI (n := 13) dd_Ds_takeClause_58 rfl (by decide) (by decide) (by decide) rfl rfl
theorem dd_Ds_takeClause_61 : decode (px_rw k_Ds_takeClause).2.1 61 = .ok (.aload_n 0, 1) := (by decide +kernel : decode prog_1_method_6_code 61 = .ok (.aload_n 0, 1))
theorem e_Ds_takeClause_61 (a1 a2 a3 a4 a5 a6 : Value) (x : Nat) (st : List Value) (g : px_G) : rn k_Ds_takeClause 61 [.ref x, a1, a2, a3, a4, a5, a6] st g = rn k_Ds_takeClause 62 [.ref x, a1, a2, a3, a4, a5, a6] (.ref x :: st) g := rn_next dd_Ds_takeClause_61 rfl
theorem dd_Ds_takeClause_62 : decode (px_rw k_Ds_takeClause).2.1 62 = .ok (.getfield 27, 3) := (by decide +kernel : decode prog_1_method_6_code 62 = .ok (.getfield 27, 3))
theorem e_Ds_takeClause_62 (L st : List Value) (T : TS) : rn k_Ds_takeClause 62 L (.ref 0 :: st) (enc T) = rn k_Ds_takeClause 65 L (.ref 5 :: st) (enc T) := rn_getA (n := 13) dd_Ds_takeClause_62 rfl (by decide) (by decide) (by decide) rfl rfl
theorem dd_Ds_takeClause_65 : decode (px_rw k_Ds_takeClause).2.1 65 = .ok (.arraylength, 1) := (by decide +kernel : decode prog_1_method_6_code 65 = .ok (.arraylength, 1))
theorem e_Ds_takeClause_65 (L : List Value) (p : Nat) (st : List Value) (T : TS) (hp : (sh p).1 < 4) : rn k_Ds_takeClause 65 L (.ref p :: st) (enc T) = rn k_Ds_takeClause 66 L (.int (Int32.ofNat (sh p).2) :: st) (enc T) := rn_alen dd_Ds_takeClause_65 hp rfl rfl
theorem dd_Ds_takeClause_66 : decode (px_rw k_Ds_takeClause).2.1 66 = .ok (.if_icmp .lt 4, 3) := (by decide +kernel : decode prog_1_method_6_code 66 = .ok (.if_icmp .lt 4, 3))
theorem e_Ds_takeClause_66 (L : List Value) (x y : Int32) (st : List Value) (g : px_G) : rn k_Ds_takeClause 66 L (.int y :: .int x :: st) g = if x < y then rn k_Ds_takeClause 70 L st g else rn k_Ds_takeClause 69 L st g := rn_iclt dd_Ds_takeClause_66 (by decide)
theorem dd_Ds_takeClause_69 : decode (px_rw k_Ds_takeClause).2.1 69 = .ok (.return_, 1) := (by decide +kernel : decode prog_1_method_6_code 69 = .ok (.return_, 1))
theorem e_Ds_takeClause_69 (L : List Value) (g : px_G) : rn k_Ds_takeClause 69 L [] g = some (none, g) := rn_vret dd_Ds_takeClause_69 rfl
theorem dd_Ds_takeClause_70 : decode (px_rw k_Ds_takeClause).2.1 70 = .ok (.aload_n 0, 1) := (by decide +kernel : decode prog_1_method_6_code 70 = .ok (.aload_n 0, 1))
theorem e_Ds_takeClause_70 (a1 a2 a3 a4 a5 a6 : Value) (x : Nat) (st : List Value) (g : px_G) : rn k_Ds_takeClause 70 [.ref x, a1, a2, a3, a4, a5, a6] st g = rn k_Ds_takeClause 71 [.ref x, a1, a2, a3, a4, a5, a6] (.ref x :: st) g := rn_next dd_Ds_takeClause_70 rfl
theorem dd_Ds_takeClause_71 : decode (px_rw k_Ds_takeClause).2.1 71 = .ok (.getfield 27, 3) := (by decide +kernel : decode prog_1_method_6_code 71 = .ok (.getfield 27, 3))
theorem e_Ds_takeClause_71 (L st : List Value) (T : TS) : rn k_Ds_takeClause 71 L (.ref 0 :: st) (enc T) = rn k_Ds_takeClause 74 L (.ref 5 :: st) (enc T) := rn_getA (n := 13) dd_Ds_takeClause_71 rfl (by decide) (by decide) (by decide) rfl rfl
theorem dd_Ds_takeClause_74 : decode (px_rw k_Ds_takeClause).2.1 74 = .ok (.aload_n 0, 1) := (by decide +kernel : decode prog_1_method_6_code 74 = .ok (.aload_n 0, 1))
theorem e_Ds_takeClause_74 (a1 a2 a3 a4 a5 a6 : Value) (x : Nat) (st : List Value) (g : px_G) : rn k_Ds_takeClause 74 [.ref x, a1, a2, a3, a4, a5, a6] st g = rn k_Ds_takeClause 75 [.ref x, a1, a2, a3, a4, a5, a6] (.ref x :: st) g := rn_next dd_Ds_takeClause_74 rfl
theorem dd_Ds_takeClause_75 : decode (px_rw k_Ds_takeClause).2.1 75 = .ok (.getfield 96, 3) := (by decide +kernel : decode prog_1_method_6_code 75 = .ok (.getfield 96, 3))
theorem e_Ds_takeClause_75 (L st : List Value) (T : TS) : rn k_Ds_takeClause 75 L (.ref 0 :: st) (enc T) = rn k_Ds_takeClause 78 L (.int (T.1 0 3) :: st) (enc T) := rn_getI (n := 13) dd_Ds_takeClause_75 rfl (by decide) (by decide) (by decide) rfl rfl
theorem dd_Ds_takeClause_78 : decode (px_rw k_Ds_takeClause).2.1 78 = .ok (.aaload, 1) := (by decide +kernel : decode prog_1_method_6_code 78 = .ok (.aaload, 1))
theorem e_Ds_takeClause_78 (L : List Value) (i : Int32) (p : Nat) (st : List Value) (T : TS) (hp : (sh p).1 = 3) : rn k_Ds_takeClause 78 L (.int i :: .ref p :: st) (enc T) = if px_in i (sh p).2 then rn k_Ds_takeClause 79 L (.ref (T.2.2.1 i.toNatClampNeg) :: st) (enc T) else none := rn_aald dd_Ds_takeClause_78 (Prod.ext hp rfl)
theorem dd_Ds_takeClause_79 : decode (px_rw k_Ds_takeClause).2.1 79 = .ok (.astore 6, 2) := (by decide +kernel : decode prog_1_method_6_code 79 = .ok (.astore 6, 2))
theorem e_Ds_takeClause_79 (a0 a1 a2 a3 a4 a5 a6 : Value) (x : Nat) (st : List Value) (g : px_G) : rn k_Ds_takeClause 79 [a0, a1, a2, a3, a4, a5, a6] (.ref x :: st) g = rn k_Ds_takeClause 81 [a0, a1, a2, a3, a4, px_kill a5, .ref x] st g := rn_next dd_Ds_takeClause_79 rfl
theorem dd_Ds_takeClause_81 : decode (px_rw k_Ds_takeClause).2.1 81 = .ok (.aload_n 0, 1) := (by decide +kernel : decode prog_1_method_6_code 81 = .ok (.aload_n 0, 1))
theorem e_Ds_takeClause_81 (a1 a2 a3 a4 a5 a6 : Value) (x : Nat) (st : List Value) (g : px_G) : rn k_Ds_takeClause 81 [.ref x, a1, a2, a3, a4, a5, a6] st g = rn k_Ds_takeClause 82 [.ref x, a1, a2, a3, a4, a5, a6] (.ref x :: st) g := rn_next dd_Ds_takeClause_81 rfl
theorem dd_Ds_takeClause_82 : decode (px_rw k_Ds_takeClause).2.1 82 = .ok (.dup, 1) := (by decide +kernel : decode prog_1_method_6_code 82 = .ok (.dup, 1))
theorem e_Ds_takeClause_82 (L : List Value) (x : Nat) (st : List Value) (g : px_G) : rn k_Ds_takeClause 82 L (.ref x :: st) g = rn k_Ds_takeClause 83 L (.ref x :: .ref x :: st) g := rn_next dd_Ds_takeClause_82 rfl
theorem dd_Ds_takeClause_83 : decode (px_rw k_Ds_takeClause).2.1 83 = .ok (.getfield 96, 3) := (by decide +kernel : decode prog_1_method_6_code 83 = .ok (.getfield 96, 3))
theorem e_Ds_takeClause_83 (L st : List Value) (T : TS) : rn k_Ds_takeClause 83 L (.ref 0 :: st) (enc T) = rn k_Ds_takeClause 86 L (.int (T.1 0 3) :: st) (enc T) := rn_getI (n := 13) dd_Ds_takeClause_83 rfl (by decide) (by decide) (by decide) rfl rfl
theorem dd_Ds_takeClause_86 : decode (px_rw k_Ds_takeClause).2.1 86 = .ok (.iconst 1, 1) := (by decide +kernel : decode prog_1_method_6_code 86 = .ok (.iconst 1, 1))
theorem e_Ds_takeClause_86 (L st : List Value) (g : px_G) : rn k_Ds_takeClause 86 L st g = rn k_Ds_takeClause 87 L (.int 1 :: st) g := rn_ipush (i := .iconst 1) dd_Ds_takeClause_86 rfl rfl (by decide)
theorem dd_Ds_takeClause_87 : decode (px_rw k_Ds_takeClause).2.1 87 = .ok (.iadd, 1) := (by decide +kernel : decode prog_1_method_6_code 87 = .ok (.iadd, 1))
theorem e_Ds_takeClause_87 (L : List Value) (x y : Int32) (st : List Value) (g : px_G) : rn k_Ds_takeClause 87 L (.int y :: .int x :: st) g = rn k_Ds_takeClause 88 L (.int (x + y) :: st) g := rn_next dd_Ds_takeClause_87 rfl
theorem dd_Ds_takeClause_88 : decode (px_rw k_Ds_takeClause).2.1 88 = .ok (.putfield 96, 3) := (by decide +kernel : decode prog_1_method_6_code 88 = .ok (.putfield 96, 3))
theorem e_Ds_takeClause_88 (L : List Value) (x : Int32) (st : List Value) (T : TS) : rn k_Ds_takeClause 88 L (.int x :: .ref 0 :: st) (enc T) = rn k_Ds_takeClause 91 L st (enc (sI T 0 3 x)) := rn_putI (n := 13) dd_Ds_takeClause_88 rfl (by decide) (by decide) (by decide) rfl rfl
theorem dd_Ds_takeClause_91 : decode (px_rw k_Ds_takeClause).2.1 91 = .ok (.aload 6, 2) := (by decide +kernel : decode prog_1_method_6_code 91 = .ok (.aload 6, 2))
theorem e_Ds_takeClause_91 (a0 a1 a2 a3 a4 a5 : Value) (x : Nat) (st : List Value) (g : px_G) : rn k_Ds_takeClause 91 [a0, a1, a2, a3, a4, a5, .ref x] st g = rn k_Ds_takeClause 93 [a0, a1, a2, a3, a4, a5, .ref x] (.ref x :: st) g := rn_next dd_Ds_takeClause_91 rfl
theorem dd_Ds_takeClause_93 : decode (px_rw k_Ds_takeClause).2.1 93 = .ok (.iload_n 2, 1) := (by decide +kernel : decode prog_1_method_6_code 93 = .ok (.iload_n 2, 1))
theorem e_Ds_takeClause_93 (a0 a1 a3 a4 a5 a6 : Value) (x : Int32) (st : List Value) (g : px_G) : rn k_Ds_takeClause 93 [a0, a1, .int x, a3, a4, a5, a6] st g = rn k_Ds_takeClause 94 [a0, a1, .int x, a3, a4, a5, a6] (.int x :: st) g := rn_next dd_Ds_takeClause_93 rfl
theorem dd_Ds_takeClause_94 : decode (px_rw k_Ds_takeClause).2.1 94 = .ok (.iload_n 3, 1) := (by decide +kernel : decode prog_1_method_6_code 94 = .ok (.iload_n 3, 1))
theorem e_Ds_takeClause_94 (a0 a1 a2 a4 a5 a6 : Value) (x : Int32) (st : List Value) (g : px_G) : rn k_Ds_takeClause 94 [a0, a1, a2, .int x, a4, a5, a6] st g = rn k_Ds_takeClause 95 [a0, a1, a2, .int x, a4, a5, a6] (.int x :: st) g := rn_next dd_Ds_takeClause_94 rfl
theorem dd_Ds_takeClause_95 : decode (px_rw k_Ds_takeClause).2.1 95 = .ok (.iload 4, 2) := (by decide +kernel : decode prog_1_method_6_code 95 = .ok (.iload 4, 2))
theorem e_Ds_takeClause_95 (a0 a1 a2 a3 a5 a6 : Value) (x : Int32) (st : List Value) (g : px_G) : rn k_Ds_takeClause 95 [a0, a1, a2, a3, .int x, a5, a6] st g = rn k_Ds_takeClause 97 [a0, a1, a2, a3, .int x, a5, a6] (.int x :: st) g := rn_next dd_Ds_takeClause_95 rfl
theorem dd_Ds_takeClause_97 : decode (px_rw k_Ds_takeClause).2.1 97 = .ok (.iload 5, 2) := (by decide +kernel : decode prog_1_method_6_code 97 = .ok (.iload 5, 2))
theorem e_Ds_takeClause_97 (a0 a1 a2 a3 a4 a6 : Value) (x : Int32) (st : List Value) (g : px_G) : rn k_Ds_takeClause 97 [a0, a1, a2, a3, a4, .int x, a6] st g = rn k_Ds_takeClause 99 [a0, a1, a2, a3, a4, .int x, a6] (.int x :: st) g := rn_next dd_Ds_takeClause_97 rfl
theorem dd_Ds_takeClause_99 : decode (px_rw k_Ds_takeClause).2.1 99 = .ok (.invokevirtual 113, 3) := (by decide +kernel : decode prog_1_method_6_code 99 = .ok (.invokevirtual 113, 3))
theorem e_Ds_takeClause_99 (L : List Value) (i0 : Int32) (i1 : Int32) (i2 : Int32) (i3 : Int32) (p : Nat) (T : TS) (hp : sh p = (104, 18)) : rn k_Ds_takeClause 99 L [.int i3, .int i2, .int i1, .int i0, .ref p] (enc T) = bd (cl k_Ink_takeScreen [.ref p, .int i0, .int i1, .int i2, .int i3] (enc T)) (fun r g' => rn k_Ds_takeClause 102 L (r.toList ++ []) g') := rn_callV (n := 18) (As := [.int i0, .int i1, .int i2, .int i3]) (rest := []) dd_Ds_takeClause_99 rfl (by decide) (by decide) rfl rfl (Nat.le_of_ble_eq_true rfl) (Nat.le_of_ble_eq_true rfl) hp
theorem dd_Ds_takeClause_102 : decode (px_rw k_Ds_takeClause).2.1 102 = .ok (.aload 6, 2) := (by decide +kernel : decode prog_1_method_6_code 102 = .ok (.aload 6, 2))
theorem e_Ds_takeClause_102 (a0 a1 a2 a3 a4 a5 : Value) (x : Nat) (st : List Value) (g : px_G) : rn k_Ds_takeClause 102 [a0, a1, a2, a3, a4, a5, .ref x] st g = rn k_Ds_takeClause 104 [a0, a1, a2, a3, a4, a5, .ref x] (.ref x :: st) g := rn_next dd_Ds_takeClause_102 rfl
theorem dd_Ds_takeClause_104 : decode (px_rw k_Ds_takeClause).2.1 104 = .ok (.aload_n 0, 1) := (by decide +kernel : decode prog_1_method_6_code 104 = .ok (.aload_n 0, 1))
theorem e_Ds_takeClause_104 (a1 a2 a3 a4 a5 a6 : Value) (x : Nat) (st : List Value) (g : px_G) : rn k_Ds_takeClause 104 [.ref x, a1, a2, a3, a4, a5, a6] st g = rn k_Ds_takeClause 105 [.ref x, a1, a2, a3, a4, a5, a6] (.ref x :: st) g := rn_next dd_Ds_takeClause_104 rfl
theorem dd_Ds_takeClause_105 : decode (px_rw k_Ds_takeClause).2.1 105 = .ok (.getfield 21, 3) := (by decide +kernel : decode prog_1_method_6_code 105 = .ok (.getfield 21, 3))
theorem e_Ds_takeClause_105 (L st : List Value) (T : TS) : rn k_Ds_takeClause 105 L (.ref 0 :: st) (enc T) = rn k_Ds_takeClause 108 L (.ref 3 :: st) (enc T) := rn_getO (n := 13) dd_Ds_takeClause_105 rfl (by decide) (by decide) (by decide) rfl rfl
theorem dd_Ds_takeClause_108 : decode (px_rw k_Ds_takeClause).2.1 108 = .ok (.iload_n 1, 1) := (by decide +kernel : decode prog_1_method_6_code 108 = .ok (.iload_n 1, 1))
theorem e_Ds_takeClause_108 (a0 a2 a3 a4 a5 a6 : Value) (x : Int32) (st : List Value) (g : px_G) : rn k_Ds_takeClause 108 [a0, .int x, a2, a3, a4, a5, a6] st g = rn k_Ds_takeClause 109 [a0, .int x, a2, a3, a4, a5, a6] (.int x :: st) g := rn_next dd_Ds_takeClause_108 rfl
theorem dd_Ds_takeClause_109 : decode (px_rw k_Ds_takeClause).2.1 109 = .ok (.iconst 4, 1) := (by decide +kernel : decode prog_1_method_6_code 109 = .ok (.iconst 4, 1))
theorem e_Ds_takeClause_109 (L st : List Value) (g : px_G) : rn k_Ds_takeClause 109 L st g = rn k_Ds_takeClause 110 L (.int 4 :: st) g := rn_ipush (i := .iconst 4) dd_Ds_takeClause_109 rfl rfl (by decide)
theorem dd_Ds_takeClause_110 : decode (px_rw k_Ds_takeClause).2.1 110 = .ok (.invokevirtual 105, 3) := (by decide +kernel : decode prog_1_method_6_code 110 = .ok (.invokevirtual 105, 3))
theorem e_Ds_takeClause_110 (L : List Value) (i0 : Int32) (i1 : Int32) (r100 : Nat)  (T : TS)  : rn k_Ds_takeClause 110 L [.int i1, .int i0, .ref 3, .ref r100] (enc T) = bd (cl k_Reader_told [.ref 3, .int i0, .int i1] (enc T)) (fun r g' => rn k_Ds_takeClause 113 L (r.toList ++ [.ref r100]) g') := rn_callV (n := 7) (As := [.int i0, .int i1]) (rest := [.ref r100]) dd_Ds_takeClause_110 rfl (by decide) (by decide) rfl rfl (Nat.le_of_ble_eq_true rfl) (Nat.le_of_ble_eq_true rfl) rfl
theorem dd_Ds_takeClause_113 : decode (px_rw k_Ds_takeClause).2.1 113 = .ok (.invokevirtual 117, 3) := (by decide +kernel : decode prog_1_method_6_code 113 = .ok (.invokevirtual 117, 3))
theorem e_Ds_takeClause_113 (L : List Value) (i0 : Int32) (p : Nat) (T : TS) (hp : sh p = (104, 18)) : rn k_Ds_takeClause 113 L [.int i0, .ref p] (enc T) = bd (cl k_Ink_takeSpot [.ref p, .int i0] (enc T)) (fun r g' => rn k_Ds_takeClause 116 L (r.toList ++ []) g') := rn_callV (n := 18) (As := [.int i0]) (rest := []) dd_Ds_takeClause_113 rfl (by decide) (by decide) rfl rfl (Nat.le_of_ble_eq_true rfl) (Nat.le_of_ble_eq_true rfl) hp
theorem dd_Ds_takeClause_116 : decode (px_rw k_Ds_takeClause).2.1 116 = .ok (.aload 6, 2) := (by decide +kernel : decode prog_1_method_6_code 116 = .ok (.aload 6, 2))
theorem e_Ds_takeClause_116 (a0 a1 a2 a3 a4 a5 : Value) (x : Nat) (st : List Value) (g : px_G) : rn k_Ds_takeClause 116 [a0, a1, a2, a3, a4, a5, .ref x] st g = rn k_Ds_takeClause 118 [a0, a1, a2, a3, a4, a5, .ref x] (.ref x :: st) g := rn_next dd_Ds_takeClause_116 rfl
theorem dd_Ds_takeClause_118 : decode (px_rw k_Ds_takeClause).2.1 118 = .ok (.aload_n 0, 1) := (by decide +kernel : decode prog_1_method_6_code 118 = .ok (.aload_n 0, 1))
theorem e_Ds_takeClause_118 (a1 a2 a3 a4 a5 a6 : Value) (x : Nat) (st : List Value) (g : px_G) : rn k_Ds_takeClause 118 [.ref x, a1, a2, a3, a4, a5, a6] st g = rn k_Ds_takeClause 119 [.ref x, a1, a2, a3, a4, a5, a6] (.ref x :: st) g := rn_next dd_Ds_takeClause_118 rfl
theorem dd_Ds_takeClause_119 : decode (px_rw k_Ds_takeClause).2.1 119 = .ok (.getfield 21, 3) := (by decide +kernel : decode prog_1_method_6_code 119 = .ok (.getfield 21, 3))
theorem e_Ds_takeClause_119 (L st : List Value) (T : TS) : rn k_Ds_takeClause 119 L (.ref 0 :: st) (enc T) = rn k_Ds_takeClause 122 L (.ref 3 :: st) (enc T) := rn_getO (n := 13) dd_Ds_takeClause_119 rfl (by decide) (by decide) (by decide) rfl rfl
theorem dd_Ds_takeClause_122 : decode (px_rw k_Ds_takeClause).2.1 122 = .ok (.iload_n 1, 1) := (by decide +kernel : decode prog_1_method_6_code 122 = .ok (.iload_n 1, 1))
theorem e_Ds_takeClause_122 (a0 a2 a3 a4 a5 a6 : Value) (x : Int32) (st : List Value) (g : px_G) : rn k_Ds_takeClause 122 [a0, .int x, a2, a3, a4, a5, a6] st g = rn k_Ds_takeClause 123 [a0, .int x, a2, a3, a4, a5, a6] (.int x :: st) g := rn_next dd_Ds_takeClause_122 rfl
theorem dd_Ds_takeClause_123 : decode (px_rw k_Ds_takeClause).2.1 123 = .ok (.iconst 5, 1) := (by decide +kernel : decode prog_1_method_6_code 123 = .ok (.iconst 5, 1))
theorem e_Ds_takeClause_123 (L st : List Value) (g : px_G) : rn k_Ds_takeClause 123 L st g = rn k_Ds_takeClause 124 L (.int 5 :: st) g := rn_ipush (i := .iconst 5) dd_Ds_takeClause_123 rfl rfl (by decide)
theorem dd_Ds_takeClause_124 : decode (px_rw k_Ds_takeClause).2.1 124 = .ok (.invokevirtual 105, 3) := (by decide +kernel : decode prog_1_method_6_code 124 = .ok (.invokevirtual 105, 3))
theorem e_Ds_takeClause_124 (L : List Value) (i0 : Int32) (i1 : Int32) (r100 : Nat)  (T : TS)  : rn k_Ds_takeClause 124 L [.int i1, .int i0, .ref 3, .ref r100] (enc T) = bd (cl k_Reader_told [.ref 3, .int i0, .int i1] (enc T)) (fun r g' => rn k_Ds_takeClause 127 L (r.toList ++ [.ref r100]) g') := rn_callV (n := 7) (As := [.int i0, .int i1]) (rest := [.ref r100]) dd_Ds_takeClause_124 rfl (by decide) (by decide) rfl rfl (Nat.le_of_ble_eq_true rfl) (Nat.le_of_ble_eq_true rfl) rfl
theorem dd_Ds_takeClause_127 : decode (px_rw k_Ds_takeClause).2.1 127 = .ok (.putfield 120, 3) := (by decide +kernel : decode prog_1_method_6_code 127 = .ok (.putfield 120, 3))
theorem e_Ds_takeClause_127 (L : List Value) (x : Int32) (p : Nat) (st : List Value) (T : TS) (hp : sh p = (104, 18)) : rn k_Ds_takeClause 127 L (.int x :: .ref p :: st) (enc T) = rn k_Ds_takeClause 130 L st (enc (sI T p 4 x)) := rn_putI (n := 18) dd_Ds_takeClause_127 rfl (by decide) (by decide) (by decide) rfl hp
theorem dd_Ds_takeClause_130 : decode (px_rw k_Ds_takeClause).2.1 130 = .ok (.aload 6, 2) := (by decide +kernel : decode prog_1_method_6_code 130 = .ok (.aload 6, 2))
theorem e_Ds_takeClause_130 (a0 a1 a2 a3 a4 a5 : Value) (x : Nat) (st : List Value) (g : px_G) : rn k_Ds_takeClause 130 [a0, a1, a2, a3, a4, a5, .ref x] st g = rn k_Ds_takeClause 132 [a0, a1, a2, a3, a4, a5, .ref x] (.ref x :: st) g := rn_next dd_Ds_takeClause_130 rfl
theorem dd_Ds_takeClause_132 : decode (px_rw k_Ds_takeClause).2.1 132 = .ok (.aload_n 0, 1) := (by decide +kernel : decode prog_1_method_6_code 132 = .ok (.aload_n 0, 1))
theorem e_Ds_takeClause_132 (a1 a2 a3 a4 a5 a6 : Value) (x : Nat) (st : List Value) (g : px_G) : rn k_Ds_takeClause 132 [.ref x, a1, a2, a3, a4, a5, a6] st g = rn k_Ds_takeClause 133 [.ref x, a1, a2, a3, a4, a5, a6] (.ref x :: st) g := rn_next dd_Ds_takeClause_132 rfl
theorem dd_Ds_takeClause_133 : decode (px_rw k_Ds_takeClause).2.1 133 = .ok (.getfield 21, 3) := (by decide +kernel : decode prog_1_method_6_code 133 = .ok (.getfield 21, 3))
theorem e_Ds_takeClause_133 (L st : List Value) (T : TS) : rn k_Ds_takeClause 133 L (.ref 0 :: st) (enc T) = rn k_Ds_takeClause 136 L (.ref 3 :: st) (enc T) := rn_getO (n := 13) dd_Ds_takeClause_133 rfl (by decide) (by decide) (by decide) rfl rfl
theorem dd_Ds_takeClause_136 : decode (px_rw k_Ds_takeClause).2.1 136 = .ok (.iload_n 1, 1) := (by decide +kernel : decode prog_1_method_6_code 136 = .ok (.iload_n 1, 1))
theorem e_Ds_takeClause_136 (a0 a2 a3 a4 a5 a6 : Value) (x : Int32) (st : List Value) (g : px_G) : rn k_Ds_takeClause 136 [a0, .int x, a2, a3, a4, a5, a6] st g = rn k_Ds_takeClause 137 [a0, .int x, a2, a3, a4, a5, a6] (.int x :: st) g := rn_next dd_Ds_takeClause_136 rfl
theorem dd_Ds_takeClause_137 : decode (px_rw k_Ds_takeClause).2.1 137 = .ok (.bipush 6, 2) := (by decide +kernel : decode prog_1_method_6_code 137 = .ok (.bipush 6, 2))
theorem e_Ds_takeClause_137 (L st : List Value) (g : px_G) : rn k_Ds_takeClause 137 L st g = rn k_Ds_takeClause 139 L (.int 6 :: st) g := rn_ipush (i := .bipush 6) dd_Ds_takeClause_137 rfl rfl (by decide)
theorem dd_Ds_takeClause_139 : decode (px_rw k_Ds_takeClause).2.1 139 = .ok (.invokevirtual 105, 3) := (by decide +kernel : decode prog_1_method_6_code 139 = .ok (.invokevirtual 105, 3))
theorem e_Ds_takeClause_139 (L : List Value) (i0 : Int32) (i1 : Int32) (r100 : Nat)  (T : TS)  : rn k_Ds_takeClause 139 L [.int i1, .int i0, .ref 3, .ref r100] (enc T) = bd (cl k_Reader_told [.ref 3, .int i0, .int i1] (enc T)) (fun r g' => rn k_Ds_takeClause 142 L (r.toList ++ [.ref r100]) g') := rn_callV (n := 7) (As := [.int i0, .int i1]) (rest := [.ref r100]) dd_Ds_takeClause_139 rfl (by decide) (by decide) rfl rfl (Nat.le_of_ble_eq_true rfl) (Nat.le_of_ble_eq_true rfl) rfl
theorem dd_Ds_takeClause_142 : decode (px_rw k_Ds_takeClause).2.1 142 = .ok (.putfield 123, 3) := (by decide +kernel : decode prog_1_method_6_code 142 = .ok (.putfield 123, 3))
theorem e_Ds_takeClause_142 (L : List Value) (x : Int32) (p : Nat) (st : List Value) (T : TS) (hp : sh p = (104, 18)) : rn k_Ds_takeClause 142 L (.int x :: .ref p :: st) (enc T) = rn k_Ds_takeClause 145 L st (enc (sI T p 5 x)) := rn_putI (n := 18) dd_Ds_takeClause_142 rfl (by decide) (by decide) (by decide) rfl hp
theorem dd_Ds_takeClause_145 : decode (px_rw k_Ds_takeClause).2.1 145 = .ok (.aload 6, 2) := (by decide +kernel : decode prog_1_method_6_code 145 = .ok (.aload 6, 2))
theorem e_Ds_takeClause_145 (a0 a1 a2 a3 a4 a5 : Value) (x : Nat) (st : List Value) (g : px_G) : rn k_Ds_takeClause 145 [a0, a1, a2, a3, a4, a5, .ref x] st g = rn k_Ds_takeClause 147 [a0, a1, a2, a3, a4, a5, .ref x] (.ref x :: st) g := rn_next dd_Ds_takeClause_145 rfl
theorem dd_Ds_takeClause_147 : decode (px_rw k_Ds_takeClause).2.1 147 = .ok (.aload_n 0, 1) := (by decide +kernel : decode prog_1_method_6_code 147 = .ok (.aload_n 0, 1))
theorem e_Ds_takeClause_147 (a1 a2 a3 a4 a5 a6 : Value) (x : Nat) (st : List Value) (g : px_G) : rn k_Ds_takeClause 147 [.ref x, a1, a2, a3, a4, a5, a6] st g = rn k_Ds_takeClause 148 [.ref x, a1, a2, a3, a4, a5, a6] (.ref x :: st) g := rn_next dd_Ds_takeClause_147 rfl
theorem dd_Ds_takeClause_148 : decode (px_rw k_Ds_takeClause).2.1 148 = .ok (.getfield 21, 3) := (by decide +kernel : decode prog_1_method_6_code 148 = .ok (.getfield 21, 3))
theorem e_Ds_takeClause_148 (L st : List Value) (T : TS) : rn k_Ds_takeClause 148 L (.ref 0 :: st) (enc T) = rn k_Ds_takeClause 151 L (.ref 3 :: st) (enc T) := rn_getO (n := 13) dd_Ds_takeClause_148 rfl (by decide) (by decide) (by decide) rfl rfl
theorem dd_Ds_takeClause_151 : decode (px_rw k_Ds_takeClause).2.1 151 = .ok (.iload_n 1, 1) := (by decide +kernel : decode prog_1_method_6_code 151 = .ok (.iload_n 1, 1))
theorem e_Ds_takeClause_151 (a0 a2 a3 a4 a5 a6 : Value) (x : Int32) (st : List Value) (g : px_G) : rn k_Ds_takeClause 151 [a0, .int x, a2, a3, a4, a5, a6] st g = rn k_Ds_takeClause 152 [a0, .int x, a2, a3, a4, a5, a6] (.int x :: st) g := rn_next dd_Ds_takeClause_151 rfl
theorem dd_Ds_takeClause_152 : decode (px_rw k_Ds_takeClause).2.1 152 = .ok (.bipush 7, 2) := (by decide +kernel : decode prog_1_method_6_code 152 = .ok (.bipush 7, 2))
theorem e_Ds_takeClause_152 (L st : List Value) (g : px_G) : rn k_Ds_takeClause 152 L st g = rn k_Ds_takeClause 154 L (.int 7 :: st) g := rn_ipush (i := .bipush 7) dd_Ds_takeClause_152 rfl rfl (by decide)
theorem dd_Ds_takeClause_154 : decode (px_rw k_Ds_takeClause).2.1 154 = .ok (.invokevirtual 105, 3) := (by decide +kernel : decode prog_1_method_6_code 154 = .ok (.invokevirtual 105, 3))
theorem e_Ds_takeClause_154 (L : List Value) (i0 : Int32) (i1 : Int32) (r100 : Nat)  (T : TS)  : rn k_Ds_takeClause 154 L [.int i1, .int i0, .ref 3, .ref r100] (enc T) = bd (cl k_Reader_told [.ref 3, .int i0, .int i1] (enc T)) (fun r g' => rn k_Ds_takeClause 157 L (r.toList ++ [.ref r100]) g') := rn_callV (n := 7) (As := [.int i0, .int i1]) (rest := [.ref r100]) dd_Ds_takeClause_154 rfl (by decide) (by decide) rfl rfl (Nat.le_of_ble_eq_true rfl) (Nat.le_of_ble_eq_true rfl) rfl
theorem dd_Ds_takeClause_157 : decode (px_rw k_Ds_takeClause).2.1 157 = .ok (.putfield 126, 3) := (by decide +kernel : decode prog_1_method_6_code 157 = .ok (.putfield 126, 3))
theorem e_Ds_takeClause_157 (L : List Value) (x : Int32) (p : Nat) (st : List Value) (T : TS) (hp : sh p = (104, 18)) : rn k_Ds_takeClause 157 L (.int x :: .ref p :: st) (enc T) = rn k_Ds_takeClause 160 L st (enc (sI T p 6 x)) := rn_putI (n := 18) dd_Ds_takeClause_157 rfl (by decide) (by decide) (by decide) rfl hp
theorem dd_Ds_takeClause_160 : decode (px_rw k_Ds_takeClause).2.1 160 = .ok (.return_, 1) := (by decide +kernel : decode prog_1_method_6_code 160 = .ok (.return_, 1))
theorem e_Ds_takeClause_160 (L : List Value) (g : px_G) : rn k_Ds_takeClause 160 L [] g = some (none, g) := rn_vret dd_Ds_takeClause_160 rfl
theorem c_Ds_isCell (i0 : Int32) (g : px_G) : cl k_Ds_isCell [.int i0] g = rn k_Ds_isCell 0 [.int i0] [] g := rfl
theorem dd_Ds_isCell_0 : decode (px_rw k_Ds_isCell).2.1 0 = .ok (.iload_n 0, 1) := (by decide +kernel : decode prog_1_method_55_code 0 = .ok (.iload_n 0, 1))
theorem e_Ds_isCell_0  (x : Int32) (st : List Value) (g : px_G) : rn k_Ds_isCell 0 [.int x] st g = rn k_Ds_isCell 1 [.int x] (.int x :: st) g := rn_next dd_Ds_isCell_0 rfl
theorem dd_Ds_isCell_1 : decode (px_rw k_Ds_isCell).2.1 1 = .ok (.ifCond .eq 17, 3) := (by decide +kernel : decode prog_1_method_55_code 1 = .ok (.ifCond .eq 17, 3))
theorem e_Ds_isCell_1 (L : List Value) (x : Int32) (st : List Value) (g : px_G) : rn k_Ds_isCell 1 L (.int x :: st) g = if x = 0 then rn k_Ds_isCell 18 L st g else rn k_Ds_isCell 4 L st g := rn_ifeq dd_Ds_isCell_1 (by decide)
theorem dd_Ds_isCell_4 : decode (px_rw k_Ds_isCell).2.1 4 = .ok (.iload_n 0, 1) := (by decide +kernel : decode prog_1_method_55_code 4 = .ok (.iload_n 0, 1))
theorem e_Ds_isCell_4  (x : Int32) (st : List Value) (g : px_G) : rn k_Ds_isCell 4 [.int x] st g = rn k_Ds_isCell 5 [.int x] (.int x :: st) g := rn_next dd_Ds_isCell_4 rfl
theorem dd_Ds_isCell_5 : decode (px_rw k_Ds_isCell).2.1 5 = .ok (.sipush 144, 3) := (by decide +kernel : decode prog_1_method_55_code 5 = .ok (.sipush 144, 3))
theorem e_Ds_isCell_5 (L st : List Value) (g : px_G) : rn k_Ds_isCell 5 L st g = rn k_Ds_isCell 8 L (.int 144 :: st) g := rn_ipush (i := .sipush 144) dd_Ds_isCell_5 rfl rfl (by decide)
theorem dd_Ds_isCell_8 : decode (px_rw k_Ds_isCell).2.1 8 = .ok (.invokestatic 345, 3) := (by decide +kernel : decode prog_1_method_55_code 8 = .ok (.invokestatic 345, 3))
theorem e_Ds_isCell_8 (L : List Value) (i0 : Int32) (i1 : Int32) (g : px_G) : rn k_Ds_isCell 8 L [.int i1, .int i0] g = bd (cl k_Ds_isWithin [.int i0, .int i1] g) (fun r g' => rn k_Ds_isCell 11 L (r.toList ++ []) g') := rn_callS (As := [.int i0, .int i1]) (rest := []) dd_Ds_isCell_8 rfl (by decide) rfl rfl (Nat.le_of_ble_eq_true rfl) (Nat.le_of_ble_eq_true rfl)
theorem dd_Ds_isCell_11 : decode (px_rw k_Ds_isCell).2.1 11 = .ok (.ifCond .eq 7, 3) := (by decide +kernel : decode prog_1_method_55_code 11 = .ok (.ifCond .eq 7, 3))
theorem e_Ds_isCell_11 (L : List Value) (x : Int32) (st : List Value) (g : px_G) : rn k_Ds_isCell 11 L (.int x :: st) g = if x = 0 then rn k_Ds_isCell 18 L st g else rn k_Ds_isCell 14 L st g := rn_ifeq dd_Ds_isCell_11 (by decide)
theorem dd_Ds_isCell_14 : decode (px_rw k_Ds_isCell).2.1 14 = .ok (.iconst 1, 1) := (by decide +kernel : decode prog_1_method_55_code 14 = .ok (.iconst 1, 1))
theorem e_Ds_isCell_14 (L st : List Value) (g : px_G) : rn k_Ds_isCell 14 L st g = rn k_Ds_isCell 15 L (.int 1 :: st) g := rn_ipush (i := .iconst 1) dd_Ds_isCell_14 rfl rfl (by decide)
theorem dd_Ds_isCell_15 : decode (px_rw k_Ds_isCell).2.1 15 = .ok (.goto 4, 3) := (by decide +kernel : decode prog_1_method_55_code 15 = .ok (.goto 4, 3))
theorem e_Ds_isCell_15 (L st : List Value) (g : px_G) : rn k_Ds_isCell 15 L st g = rn k_Ds_isCell 19 L st g := rn_goto dd_Ds_isCell_15 (by decide)
theorem dd_Ds_isCell_18 : decode (px_rw k_Ds_isCell).2.1 18 = .ok (.iconst 0, 1) := (by decide +kernel : decode prog_1_method_55_code 18 = .ok (.iconst 0, 1))
theorem e_Ds_isCell_18 (L st : List Value) (g : px_G) : rn k_Ds_isCell 18 L st g = rn k_Ds_isCell 19 L (.int 0 :: st) g := rn_ipush (i := .iconst 0) dd_Ds_isCell_18 rfl rfl (by decide)
theorem dd_Ds_isCell_19 : decode (px_rw k_Ds_isCell).2.1 19 = .ok (.ireturn, 1) := (by decide +kernel : decode prog_1_method_55_code 19 = .ok (.ireturn, 1))
theorem e_Ds_isCell_19 (L : List Value) (v : Int32) (g : px_G) (hv : v = 0 ∨ v = 1) : rn k_Ds_isCell 19 L [.int v] g = some (some (.int v), g) := rn_zret dd_Ds_isCell_19 rfl hv
theorem c_Ds_isWithin (i0 : Int32) (i1 : Int32) (g : px_G) : cl k_Ds_isWithin [.int i0, .int i1] g = rn k_Ds_isWithin 0 [.int i0, .int i1] [] g := rfl
theorem dd_Ds_isWithin_0 : decode (px_rw k_Ds_isWithin).2.1 0 = .ok (.iload_n 0, 1) := (by decide +kernel : decode prog_1_method_51_code 0 = .ok (.iload_n 0, 1))
theorem e_Ds_isWithin_0 (a1 : Value) (x : Int32) (st : List Value) (g : px_G) : rn k_Ds_isWithin 0 [.int x, a1] st g = rn k_Ds_isWithin 1 [.int x, a1] (.int x :: st) g := rn_next dd_Ds_isWithin_0 rfl
theorem dd_Ds_isWithin_1 : decode (px_rw k_Ds_isWithin).2.1 1 = .ok (.iload_n 1, 1) := (by decide +kernel : decode prog_1_method_51_code 1 = .ok (.iload_n 1, 1))
theorem e_Ds_isWithin_1 (a0 : Value) (x : Int32) (st : List Value) (g : px_G) : rn k_Ds_isWithin 1 [a0, .int x] st g = rn k_Ds_isWithin 2 [a0, .int x] (.int x :: st) g := rn_next dd_Ds_isWithin_1 rfl
theorem dd_Ds_isWithin_2 : decode (px_rw k_Ds_isWithin).2.1 2 = .ok (.ineg, 1) := (by decide +kernel : decode prog_1_method_51_code 2 = .ok (.ineg, 1))
theorem e_Ds_isWithin_2 (L : List Value) (x : Int32) (st : List Value) (g : px_G) : rn k_Ds_isWithin 2 L (.int x :: st) g = rn k_Ds_isWithin 3 L (.int (-x) :: st) g := rn_next dd_Ds_isWithin_2 rfl
theorem dd_Ds_isWithin_3 : decode (px_rw k_Ds_isWithin).2.1 3 = .ok (.if_icmp .lt 12, 3) := (by decide +kernel : decode prog_1_method_51_code 3 = .ok (.if_icmp .lt 12, 3))
theorem e_Ds_isWithin_3 (L : List Value) (x y : Int32) (st : List Value) (g : px_G) : rn k_Ds_isWithin 3 L (.int y :: .int x :: st) g = if x < y then rn k_Ds_isWithin 15 L st g else rn k_Ds_isWithin 6 L st g := rn_iclt dd_Ds_isWithin_3 (by decide)
theorem dd_Ds_isWithin_6 : decode (px_rw k_Ds_isWithin).2.1 6 = .ok (.iload_n 0, 1) := (by decide +kernel : decode prog_1_method_51_code 6 = .ok (.iload_n 0, 1))
theorem e_Ds_isWithin_6 (a1 : Value) (x : Int32) (st : List Value) (g : px_G) : rn k_Ds_isWithin 6 [.int x, a1] st g = rn k_Ds_isWithin 7 [.int x, a1] (.int x :: st) g := rn_next dd_Ds_isWithin_6 rfl
theorem dd_Ds_isWithin_7 : decode (px_rw k_Ds_isWithin).2.1 7 = .ok (.iload_n 1, 1) := (by decide +kernel : decode prog_1_method_51_code 7 = .ok (.iload_n 1, 1))
theorem e_Ds_isWithin_7 (a0 : Value) (x : Int32) (st : List Value) (g : px_G) : rn k_Ds_isWithin 7 [a0, .int x] st g = rn k_Ds_isWithin 8 [a0, .int x] (.int x :: st) g := rn_next dd_Ds_isWithin_7 rfl
theorem dd_Ds_isWithin_8 : decode (px_rw k_Ds_isWithin).2.1 8 = .ok (.if_icmp .gt 7, 3) := (by decide +kernel : decode prog_1_method_51_code 8 = .ok (.if_icmp .gt 7, 3))
theorem e_Ds_isWithin_8 (L : List Value) (x y : Int32) (st : List Value) (g : px_G) : rn k_Ds_isWithin 8 L (.int y :: .int x :: st) g = if y < x then rn k_Ds_isWithin 15 L st g else rn k_Ds_isWithin 11 L st g := rn_icgt dd_Ds_isWithin_8 (by decide)
theorem dd_Ds_isWithin_11 : decode (px_rw k_Ds_isWithin).2.1 11 = .ok (.iconst 1, 1) := (by decide +kernel : decode prog_1_method_51_code 11 = .ok (.iconst 1, 1))
theorem e_Ds_isWithin_11 (L st : List Value) (g : px_G) : rn k_Ds_isWithin 11 L st g = rn k_Ds_isWithin 12 L (.int 1 :: st) g := rn_ipush (i := .iconst 1) dd_Ds_isWithin_11 rfl rfl (by decide)
theorem dd_Ds_isWithin_12 : decode (px_rw k_Ds_isWithin).2.1 12 = .ok (.goto 4, 3) := (by decide +kernel : decode prog_1_method_51_code 12 = .ok (.goto 4, 3))
theorem e_Ds_isWithin_12 (L st : List Value) (g : px_G) : rn k_Ds_isWithin 12 L st g = rn k_Ds_isWithin 16 L st g := rn_goto dd_Ds_isWithin_12 (by decide)
theorem dd_Ds_isWithin_15 : decode (px_rw k_Ds_isWithin).2.1 15 = .ok (.iconst 0, 1) := (by decide +kernel : decode prog_1_method_51_code 15 = .ok (.iconst 0, 1))
theorem e_Ds_isWithin_15 (L st : List Value) (g : px_G) : rn k_Ds_isWithin 15 L st g = rn k_Ds_isWithin 16 L (.int 0 :: st) g := rn_ipush (i := .iconst 0) dd_Ds_isWithin_15 rfl rfl (by decide)
theorem dd_Ds_isWithin_16 : decode (px_rw k_Ds_isWithin).2.1 16 = .ok (.ireturn, 1) := (by decide +kernel : decode prog_1_method_51_code 16 = .ok (.ireturn, 1))
theorem e_Ds_isWithin_16 (L : List Value) (v : Int32) (g : px_G) (hv : v = 0 ∨ v = 1) : rn k_Ds_isWithin 16 L [.int v] g = some (some (.int v), g) := rn_zret dd_Ds_isWithin_16 rfl hv
theorem c_Ds_mod (j0 : Int64) (j1 : Int64) (g : px_G) : cl k_Ds_mod [.long j0, .long j1] g = rn k_Ds_mod 0 [.long j0, .null, .long j1, .null] [] g := rfl
theorem dd_Ds_mod_0 : decode (px_rw k_Ds_mod).2.1 0 = .ok (.lload_n 2, 1) := (by decide +kernel : decode prog_1_method_59_code 0 = .ok (.lload_n 2, 1))
theorem e_Ds_mod_0 (a0 a1 a3 : Value) (x : Int64) (st : List Value) (g : px_G) : rn k_Ds_mod 0 [a0, a1, .long x, a3] st g = rn k_Ds_mod 1 [a0, a1, .long x, a3] (.long x :: st) g := rn_next dd_Ds_mod_0 rfl
theorem dd_Ds_mod_1 : decode (px_rw k_Ds_mod).2.1 1 = .ok (.lconst 0, 1) := (by decide +kernel : decode prog_1_method_59_code 1 = .ok (.lconst 0, 1))
theorem e_Ds_mod_1 (L st : List Value) (g : px_G) : rn k_Ds_mod 1 L st g = rn k_Ds_mod 2 L (.long 0 :: st) g := rn_next dd_Ds_mod_1 rfl
theorem dd_Ds_mod_2 : decode (px_rw k_Ds_mod).2.1 2 = .ok (.lcmp, 1) := (by decide +kernel : decode prog_1_method_59_code 2 = .ok (.lcmp, 1))
theorem e_Ds_mod_2 (L : List Value) (x y : Int64) (st : List Value) (g : px_G) : rn k_Ds_mod 2 L (.long y :: .long x :: st) g = rn k_Ds_mod 3 L (.int (lg_cmp x y) :: st) g := rn_next dd_Ds_mod_2 rfl
theorem dd_Ds_mod_3 : decode (px_rw k_Ds_mod).2.1 3 = .ok (.ifCond .le 11, 3) := (by decide +kernel : decode prog_1_method_59_code 3 = .ok (.ifCond .le 11, 3))
theorem e_Ds_mod_3 (L : List Value) (x : Int32) (st : List Value) (g : px_G) : rn k_Ds_mod 3 L (.int x :: st) g = if x ≤ 0 then rn k_Ds_mod 14 L st g else rn k_Ds_mod 6 L st g := rn_ifle dd_Ds_mod_3 (by decide)
theorem dd_Ds_mod_6 : decode (px_rw k_Ds_mod).2.1 6 = .ok (.lload_n 0, 1) := (by decide +kernel : decode prog_1_method_59_code 6 = .ok (.lload_n 0, 1))
theorem e_Ds_mod_6 (a1 a2 a3 : Value) (x : Int64) (st : List Value) (g : px_G) : rn k_Ds_mod 6 [.long x, a1, a2, a3] st g = rn k_Ds_mod 7 [.long x, a1, a2, a3] (.long x :: st) g := rn_next dd_Ds_mod_6 rfl
theorem dd_Ds_mod_7 : decode (px_rw k_Ds_mod).2.1 7 = .ok (.lload_n 2, 1) := (by decide +kernel : decode prog_1_method_59_code 7 = .ok (.lload_n 2, 1))
theorem e_Ds_mod_7 (a0 a1 a3 : Value) (x : Int64) (st : List Value) (g : px_G) : rn k_Ds_mod 7 [a0, a1, .long x, a3] st g = rn k_Ds_mod 8 [a0, a1, .long x, a3] (.long x :: st) g := rn_next dd_Ds_mod_7 rfl
theorem dd_Ds_mod_8 : decode (px_rw k_Ds_mod).2.1 8 = .ok (.invokestatic 373, 3) := (by decide +kernel : decode prog_1_method_59_code 8 = .ok (.invokestatic 373, 3))
theorem e_Ds_mod_8 (L : List Value) (j0 : Int64) (j1 : Int64) (g : px_G) : rn k_Ds_mod 8 L [.long j1, .long j0] g = bd (cl k_Math_floorMod [.long j0, .long j1] g) (fun r g' => rn k_Ds_mod 11 L (r.toList ++ []) g') := rn_callS (As := [.long j0, .long j1]) (rest := []) dd_Ds_mod_8 rfl (by decide) rfl rfl (Nat.le_of_ble_eq_true rfl) (Nat.le_of_ble_eq_true rfl)
theorem dd_Ds_mod_11 : decode (px_rw k_Ds_mod).2.1 11 = .ok (.goto 4, 3) := (by decide +kernel : decode prog_1_method_59_code 11 = .ok (.goto 4, 3))
theorem e_Ds_mod_11 (L st : List Value) (g : px_G) : rn k_Ds_mod 11 L st g = rn k_Ds_mod 15 L st g := rn_goto dd_Ds_mod_11 (by decide)
theorem dd_Ds_mod_14 : decode (px_rw k_Ds_mod).2.1 14 = .ok (.lconst 0, 1) := (by decide +kernel : decode prog_1_method_59_code 14 = .ok (.lconst 0, 1))
theorem e_Ds_mod_14 (L st : List Value) (g : px_G) : rn k_Ds_mod 14 L st g = rn k_Ds_mod 15 L (.long 0 :: st) g := rn_next dd_Ds_mod_14 rfl
theorem dd_Ds_mod_15 : decode (px_rw k_Ds_mod).2.1 15 = .ok (.lreturn, 1) := (by decide +kernel : decode prog_1_method_59_code 15 = .ok (.lreturn, 1))
theorem e_Ds_mod_15 (L : List Value) (v : Int64) (g : px_G) : rn k_Ds_mod 15 L [.long v] g = some (some (.long v), g) := rn_lret dd_Ds_mod_15 rfl
theorem c_Ds_brick (r0 : Nat) (i1 : Int32) (i2 : Int32) (g : px_G) : cl k_Ds_brick [.ref r0, .int i1, .int i2] g = rn k_Ds_brick 0 [.ref r0, .int i1, .int i2, .null] [] g := rfl
theorem dd_Ds_brick_0 : decode (px_rw k_Ds_brick).2.1 0 = .ok (.aload_n 0, 1) := (by decide +kernel : decode prog_1_method_8_code 0 = .ok (.aload_n 0, 1))
theorem e_Ds_brick_0 (a1 a2 a3 : Value) (x : Nat) (st : List Value) (g : px_G) : rn k_Ds_brick 0 [.ref x, a1, a2, a3] st g = rn k_Ds_brick 1 [.ref x, a1, a2, a3] (.ref x :: st) g := rn_next dd_Ds_brick_0 rfl
theorem dd_Ds_brick_1 : decode (px_rw k_Ds_brick).2.1 1 = .ok (.iload_n 1, 1) := (by decide +kernel : decode prog_1_method_8_code 1 = .ok (.iload_n 1, 1))
theorem e_Ds_brick_1 (a0 a2 a3 : Value) (x : Int32) (st : List Value) (g : px_G) : rn k_Ds_brick 1 [a0, .int x, a2, a3] st g = rn k_Ds_brick 2 [a0, .int x, a2, a3] (.int x :: st) g := rn_next dd_Ds_brick_1 rfl
theorem dd_Ds_brick_2 : decode (px_rw k_Ds_brick).2.1 2 = .ok (.invokevirtual 129, 3) := (by decide +kernel : decode prog_1_method_8_code 2 = .ok (.invokevirtual 129, 3))
theorem e_Ds_brick_2 (L : List Value) (i0 : Int32)  (T : TS)  : rn k_Ds_brick 2 L [.int i0, .ref 0] (enc T) = bd (cl k_Ds_isInk [.ref 0, .int i0] (enc T)) (fun r g' => rn k_Ds_brick 5 L (r.toList ++ []) g') := rn_callV (n := 13) (As := [.int i0]) (rest := []) dd_Ds_brick_2 rfl (by decide) (by decide) rfl rfl (Nat.le_of_ble_eq_true rfl) (Nat.le_of_ble_eq_true rfl) rfl
theorem dd_Ds_brick_5 : decode (px_rw k_Ds_brick).2.1 5 = .ok (.ifCond .ne 6, 3) := (by decide +kernel : decode prog_1_method_8_code 5 = .ok (.ifCond .ne 6, 3))
theorem e_Ds_brick_5 (L : List Value) (x : Int32) (st : List Value) (g : px_G) : rn k_Ds_brick 5 L (.int x :: st) g = if x = 0 then rn k_Ds_brick 8 L st g else rn k_Ds_brick 11 L st g := rn_ifne dd_Ds_brick_5 (by decide)
theorem dd_Ds_brick_8 : decode (px_rw k_Ds_brick).2.1 8 = .ok (.ldc 164, 2) := (by decide +kernel : decode prog_1_method_8_code 8 = .ok (.ldc 164, 2))
theorem e_Ds_brick_8 (L st : List Value) (g : px_G) : rn k_Ds_brick 8 L st g = rn k_Ds_brick 10 L (.int (-1000000) :: st) g := rn_ldc (i := .ldc 164) (w := .int (Int32.ofInt (-1000000))) dd_Ds_brick_8 rfl rfl rfl rfl rfl (by decide)
theorem dd_Ds_brick_10 : decode (px_rw k_Ds_brick).2.1 10 = .ok (.ireturn, 1) := (by decide +kernel : decode prog_1_method_8_code 10 = .ok (.ireturn, 1))
theorem e_Ds_brick_10 (L : List Value) (v : Int32) (g : px_G) : rn k_Ds_brick 10 L [.int v] g = some (some (.int v), g) := rn_iret dd_Ds_brick_10 rfl
theorem dd_Ds_brick_11 : decode (px_rw k_Ds_brick).2.1 11 = .ok (.aload_n 0, 1) := (by decide +kernel : decode prog_1_method_8_code 11 = .ok (.aload_n 0, 1))
theorem e_Ds_brick_11 (a1 a2 a3 : Value) (x : Nat) (st : List Value) (g : px_G) : rn k_Ds_brick 11 [.ref x, a1, a2, a3] st g = rn k_Ds_brick 12 [.ref x, a1, a2, a3] (.ref x :: st) g := rn_next dd_Ds_brick_11 rfl
theorem dd_Ds_brick_12 : decode (px_rw k_Ds_brick).2.1 12 = .ok (.getfield 27, 3) := (by decide +kernel : decode prog_1_method_8_code 12 = .ok (.getfield 27, 3))
theorem e_Ds_brick_12 (L st : List Value) (T : TS) : rn k_Ds_brick 12 L (.ref 0 :: st) (enc T) = rn k_Ds_brick 15 L (.ref 5 :: st) (enc T) := rn_getA (n := 13) dd_Ds_brick_12 rfl (by decide) (by decide) (by decide) rfl rfl
theorem dd_Ds_brick_15 : decode (px_rw k_Ds_brick).2.1 15 = .ok (.iload_n 1, 1) := (by decide +kernel : decode prog_1_method_8_code 15 = .ok (.iload_n 1, 1))
theorem e_Ds_brick_15 (a0 a2 a3 : Value) (x : Int32) (st : List Value) (g : px_G) : rn k_Ds_brick 15 [a0, .int x, a2, a3] st g = rn k_Ds_brick 16 [a0, .int x, a2, a3] (.int x :: st) g := rn_next dd_Ds_brick_15 rfl
theorem dd_Ds_brick_16 : decode (px_rw k_Ds_brick).2.1 16 = .ok (.aaload, 1) := (by decide +kernel : decode prog_1_method_8_code 16 = .ok (.aaload, 1))
theorem e_Ds_brick_16 (L : List Value) (i : Int32) (p : Nat) (st : List Value) (T : TS) (hp : (sh p).1 = 3) : rn k_Ds_brick 16 L (.int i :: .ref p :: st) (enc T) = if px_in i (sh p).2 then rn k_Ds_brick 17 L (.ref (T.2.2.1 i.toNatClampNeg) :: st) (enc T) else none := rn_aald dd_Ds_brick_16 (Prod.ext hp rfl)
theorem dd_Ds_brick_17 : decode (px_rw k_Ds_brick).2.1 17 = .ok (.getfield 165, 3) := (by decide +kernel : decode prog_1_method_8_code 17 = .ok (.getfield 165, 3))
theorem e_Ds_brick_17 (L : List Value) (p : Nat) (st : List Value) (T : TS) (hp : sh p = (104, 18)) : rn k_Ds_brick 17 L (.ref p :: st) (enc T) = rn k_Ds_brick 20 L (.ref (p + 2) :: st) (enc T) := (rn_getO (n := 18) dd_Ds_brick_17 rfl (by decide) (by decide) (by decide) rfl hp).trans (by rw [ink_rf_1 hp])
theorem dd_Ds_brick_20 : decode (px_rw k_Ds_brick).2.1 20 = .ok (.astore_n 3, 1) := (by decide +kernel : decode prog_1_method_8_code 20 = .ok (.astore_n 3, 1))
theorem e_Ds_brick_20 (a0 a1 a2 a3 : Value) (x : Nat) (st : List Value) (g : px_G) : rn k_Ds_brick 20 [a0, a1, a2, a3] (.ref x :: st) g = rn k_Ds_brick 21 [a0, a1, px_kill a2, .ref x] st g := rn_next dd_Ds_brick_20 rfl
theorem dd_Ds_brick_21 : decode (px_rw k_Ds_brick).2.1 21 = .ok (.iload_n 2, 1) := (by decide +kernel : decode prog_1_method_8_code 21 = .ok (.iload_n 2, 1))
theorem e_Ds_brick_21 (a0 a1 a3 : Value) (x : Int32) (st : List Value) (g : px_G) : rn k_Ds_brick 21 [a0, a1, .int x, a3] st g = rn k_Ds_brick 22 [a0, a1, .int x, a3] (.int x :: st) g := rn_next dd_Ds_brick_21 rfl
theorem dd_Ds_brick_22 : decode (px_rw k_Ds_brick).2.1 22 = .ok (.tableswitch 44 0 2 #[26, 32, 38], 26) := (by decide +kernel : decode prog_1_method_8_code 22 = .ok (.tableswitch 44 0 2 #[26, 32, 38], 26))
theorem e_Ds_brick_22 (L : List Value) (x : Int32) (st : List Value) (g : px_G) : rn k_Ds_brick 22 L (.int x :: st) g = if x = 0 then rn k_Ds_brick 48 L st g else if x = 1 then rn k_Ds_brick 54 L st g else if x = 2 then rn k_Ds_brick 60 L st g else rn k_Ds_brick 66 L st g := by
  by_cases h0 : x = 0
  · rw [if_pos h0]; subst h0; exact rn_sw dd_Ds_brick_22 rfl (by decide)
  rw [if_neg h0]
  by_cases h1 : x = 1
  · rw [if_pos h1]; subst h1; exact rn_sw dd_Ds_brick_22 rfl (by decide)
  rw [if_neg h1]
  by_cases h2 : x = 2
  · rw [if_pos h2]; subst h2; exact rn_sw dd_Ds_brick_22 rfl (by decide)
  rw [if_neg h2]
  refine rn_sw dd_Ds_brick_22 (off := 44) (st' := st) ?_ (by decide)
  have n0 := lv_neT h0 (show (0 : Int32).toInt = 0 by decide)
  have n1 := lv_neT h1 (show (1 : Int32).toInt = 1 by decide)
  have n2 := lv_neT h2 (show (2 : Int32).toInt = 2 by decide)
  have hq : x.toInt < 0 ∨ 2 < x.toInt := by omega
  show (if x.toInt < 0 ∨ 2 < x.toInt then _ else _) = _
  rw [if_pos hq]
theorem dd_Ds_brick_48 : decode (px_rw k_Ds_brick).2.1 48 = .ok (.aload_n 3, 1) := (by decide +kernel : decode prog_1_method_8_code 48 = .ok (.aload_n 3, 1))
theorem e_Ds_brick_48 (a0 a1 a2 : Value) (x : Nat) (st : List Value) (g : px_G) : rn k_Ds_brick 48 [a0, a1, a2, .ref x] st g = rn k_Ds_brick 49 [a0, a1, a2, .ref x] (.ref x :: st) g := rn_next dd_Ds_brick_48 rfl
theorem dd_Ds_brick_49 : decode (px_rw k_Ds_brick).2.1 49 = .ok (.getfield 168, 3) := (by decide +kernel : decode prog_1_method_8_code 49 = .ok (.getfield 168, 3))
theorem e_Ds_brick_49 (L : List Value) (p : Nat) (st : List Value) (T : TS) (hp : sh p = (102, 3)) : rn k_Ds_brick 49 L (.ref p :: st) (enc T) = rn k_Ds_brick 52 L (.long (T.2.1 p 0) :: st) (enc T) := rn_getJ (n := 3) dd_Ds_brick_49 rfl (by decide) (by decide) (by decide) rfl hp
theorem dd_Ds_brick_52 : decode (px_rw k_Ds_brick).2.1 52 = .ok (.l2i, 1) := (by decide +kernel : decode prog_1_method_8_code 52 = .ok (.l2i, 1))
theorem e_Ds_brick_52 (L : List Value) (x : Int64) (st : List Value) (g : px_G) : rn k_Ds_brick 52 L (.long x :: st) g = rn k_Ds_brick 53 L (.int x.toInt32 :: st) g := rn_next dd_Ds_brick_52 rfl
theorem dd_Ds_brick_53 : decode (px_rw k_Ds_brick).2.1 53 = .ok (.ireturn, 1) := (by decide +kernel : decode prog_1_method_8_code 53 = .ok (.ireturn, 1))
theorem e_Ds_brick_53 (L : List Value) (v : Int32) (g : px_G) : rn k_Ds_brick 53 L [.int v] g = some (some (.int v), g) := rn_iret dd_Ds_brick_53 rfl
theorem dd_Ds_brick_54 : decode (px_rw k_Ds_brick).2.1 54 = .ok (.aload_n 3, 1) := (by decide +kernel : decode prog_1_method_8_code 54 = .ok (.aload_n 3, 1))
theorem e_Ds_brick_54 (a0 a1 a2 : Value) (x : Nat) (st : List Value) (g : px_G) : rn k_Ds_brick 54 [a0, a1, a2, .ref x] st g = rn k_Ds_brick 55 [a0, a1, a2, .ref x] (.ref x :: st) g := rn_next dd_Ds_brick_54 rfl
theorem dd_Ds_brick_55 : decode (px_rw k_Ds_brick).2.1 55 = .ok (.getfield 172, 3) := (by decide +kernel : decode prog_1_method_8_code 55 = .ok (.getfield 172, 3))
theorem e_Ds_brick_55 (L : List Value) (p : Nat) (st : List Value) (T : TS) (hp : sh p = (102, 3)) : rn k_Ds_brick 55 L (.ref p :: st) (enc T) = rn k_Ds_brick 58 L (.long (T.2.1 p 1) :: st) (enc T) := rn_getJ (n := 3) dd_Ds_brick_55 rfl (by decide) (by decide) (by decide) rfl hp
theorem dd_Ds_brick_58 : decode (px_rw k_Ds_brick).2.1 58 = .ok (.l2i, 1) := (by decide +kernel : decode prog_1_method_8_code 58 = .ok (.l2i, 1))
theorem e_Ds_brick_58 (L : List Value) (x : Int64) (st : List Value) (g : px_G) : rn k_Ds_brick 58 L (.long x :: st) g = rn k_Ds_brick 59 L (.int x.toInt32 :: st) g := rn_next dd_Ds_brick_58 rfl
theorem dd_Ds_brick_59 : decode (px_rw k_Ds_brick).2.1 59 = .ok (.ireturn, 1) := (by decide +kernel : decode prog_1_method_8_code 59 = .ok (.ireturn, 1))
theorem e_Ds_brick_59 (L : List Value) (v : Int32) (g : px_G) : rn k_Ds_brick 59 L [.int v] g = some (some (.int v), g) := rn_iret dd_Ds_brick_59 rfl
theorem dd_Ds_brick_60 : decode (px_rw k_Ds_brick).2.1 60 = .ok (.aload_n 3, 1) := (by decide +kernel : decode prog_1_method_8_code 60 = .ok (.aload_n 3, 1))
theorem e_Ds_brick_60 (a0 a1 a2 : Value) (x : Nat) (st : List Value) (g : px_G) : rn k_Ds_brick 60 [a0, a1, a2, .ref x] st g = rn k_Ds_brick 61 [a0, a1, a2, .ref x] (.ref x :: st) g := rn_next dd_Ds_brick_60 rfl
theorem dd_Ds_brick_61 : decode (px_rw k_Ds_brick).2.1 61 = .ok (.getfield 175, 3) := (by decide +kernel : decode prog_1_method_8_code 61 = .ok (.getfield 175, 3))
theorem e_Ds_brick_61 (L : List Value) (p : Nat) (st : List Value) (T : TS) (hp : sh p = (102, 3)) : rn k_Ds_brick 61 L (.ref p :: st) (enc T) = rn k_Ds_brick 64 L (.long (T.2.1 p 2) :: st) (enc T) := rn_getJ (n := 3) dd_Ds_brick_61 rfl (by decide) (by decide) (by decide) rfl hp
theorem dd_Ds_brick_64 : decode (px_rw k_Ds_brick).2.1 64 = .ok (.l2i, 1) := (by decide +kernel : decode prog_1_method_8_code 64 = .ok (.l2i, 1))
theorem e_Ds_brick_64 (L : List Value) (x : Int64) (st : List Value) (g : px_G) : rn k_Ds_brick 64 L (.long x :: st) g = rn k_Ds_brick 65 L (.int x.toInt32 :: st) g := rn_next dd_Ds_brick_64 rfl
theorem dd_Ds_brick_65 : decode (px_rw k_Ds_brick).2.1 65 = .ok (.ireturn, 1) := (by decide +kernel : decode prog_1_method_8_code 65 = .ok (.ireturn, 1))
theorem e_Ds_brick_65 (L : List Value) (v : Int32) (g : px_G) : rn k_Ds_brick 65 L [.int v] g = some (some (.int v), g) := rn_iret dd_Ds_brick_65 rfl
theorem dd_Ds_brick_66 : decode (px_rw k_Ds_brick).2.1 66 = .ok (.ldc 164, 2) := (by decide +kernel : decode prog_1_method_8_code 66 = .ok (.ldc 164, 2))
theorem e_Ds_brick_66 (L st : List Value) (g : px_G) : rn k_Ds_brick 66 L st g = rn k_Ds_brick 68 L (.int (-1000000) :: st) g := rn_ldc (i := .ldc 164) (w := .int (Int32.ofInt (-1000000))) dd_Ds_brick_66 rfl rfl rfl rfl rfl (by decide)
theorem dd_Ds_brick_68 : decode (px_rw k_Ds_brick).2.1 68 = .ok (.ireturn, 1) := (by decide +kernel : decode prog_1_method_8_code 68 = .ok (.ireturn, 1))
theorem e_Ds_brick_68 (L : List Value) (v : Int32) (g : px_G) : rn k_Ds_brick 68 L [.int v] g = some (some (.int v), g) := rn_iret dd_Ds_brick_68 rfl
theorem c_Ds_isInk (r0 : Nat) (i1 : Int32) (g : px_G) : cl k_Ds_isInk [.ref r0, .int i1] g = rn k_Ds_isInk 0 [.ref r0, .int i1] [] g := rfl
theorem dd_Ds_isInk_0 : decode (px_rw k_Ds_isInk).2.1 0 = .ok (.iload_n 1, 1) := (by decide +kernel : decode prog_1_method_48_code 0 = .ok (.iload_n 1, 1))
theorem e_Ds_isInk_0 (a0 : Value) (x : Int32) (st : List Value) (g : px_G) : rn k_Ds_isInk 0 [a0, .int x] st g = rn k_Ds_isInk 1 [a0, .int x] (.int x :: st) g := rn_next dd_Ds_isInk_0 rfl
theorem dd_Ds_isInk_1 : decode (px_rw k_Ds_isInk).2.1 1 = .ok (.ifCond .lt 20, 3) := (by decide +kernel : decode prog_1_method_48_code 1 = .ok (.ifCond .lt 20, 3))
theorem e_Ds_isInk_1 (L : List Value) (x : Int32) (st : List Value) (g : px_G) : rn k_Ds_isInk 1 L (.int x :: st) g = if x < 0 then rn k_Ds_isInk 21 L st g else rn k_Ds_isInk 4 L st g := rn_iflt dd_Ds_isInk_1 (by decide)
theorem dd_Ds_isInk_4 : decode (px_rw k_Ds_isInk).2.1 4 = .ok (.iload_n 1, 1) := (by decide +kernel : decode prog_1_method_48_code 4 = .ok (.iload_n 1, 1))
theorem e_Ds_isInk_4 (a0 : Value) (x : Int32) (st : List Value) (g : px_G) : rn k_Ds_isInk 4 [a0, .int x] st g = rn k_Ds_isInk 5 [a0, .int x] (.int x :: st) g := rn_next dd_Ds_isInk_4 rfl
theorem dd_Ds_isInk_5 : decode (px_rw k_Ds_isInk).2.1 5 = .ok (.aload_n 0, 1) := (by decide +kernel : decode prog_1_method_48_code 5 = .ok (.aload_n 0, 1))
theorem e_Ds_isInk_5 (a1 : Value) (x : Nat) (st : List Value) (g : px_G) : rn k_Ds_isInk 5 [.ref x, a1] st g = rn k_Ds_isInk 6 [.ref x, a1] (.ref x :: st) g := rn_next dd_Ds_isInk_5 rfl
theorem dd_Ds_isInk_6 : decode (px_rw k_Ds_isInk).2.1 6 = .ok (.getfield 96, 3) := (by decide +kernel : decode prog_1_method_48_code 6 = .ok (.getfield 96, 3))
theorem e_Ds_isInk_6 (L st : List Value) (T : TS) : rn k_Ds_isInk 6 L (.ref 0 :: st) (enc T) = rn k_Ds_isInk 9 L (.int (T.1 0 3) :: st) (enc T) := rn_getI (n := 13) dd_Ds_isInk_6 rfl (by decide) (by decide) (by decide) rfl rfl
theorem dd_Ds_isInk_9 : decode (px_rw k_Ds_isInk).2.1 9 = .ok (.if_icmp .ge 12, 3) := (by decide +kernel : decode prog_1_method_48_code 9 = .ok (.if_icmp .ge 12, 3))
theorem e_Ds_isInk_9 (L : List Value) (x y : Int32) (st : List Value) (g : px_G) : rn k_Ds_isInk 9 L (.int y :: .int x :: st) g = if y ≤ x then rn k_Ds_isInk 21 L st g else rn k_Ds_isInk 12 L st g := rn_icge dd_Ds_isInk_9 (by decide)
theorem dd_Ds_isInk_12 : decode (px_rw k_Ds_isInk).2.1 12 = .ok (.iload_n 1, 1) := (by decide +kernel : decode prog_1_method_48_code 12 = .ok (.iload_n 1, 1))
theorem e_Ds_isInk_12 (a0 : Value) (x : Int32) (st : List Value) (g : px_G) : rn k_Ds_isInk 12 [a0, .int x] st g = rn k_Ds_isInk 13 [a0, .int x] (.int x :: st) g := rn_next dd_Ds_isInk_12 rfl
theorem dd_Ds_isInk_13 : decode (px_rw k_Ds_isInk).2.1 13 = .ok (.iconst 4, 1) := (by decide +kernel : decode prog_1_method_48_code 13 = .ok (.iconst 4, 1))
theorem e_Ds_isInk_13 (L st : List Value) (g : px_G) : rn k_Ds_isInk 13 L st g = rn k_Ds_isInk 14 L (.int 4 :: st) g := rn_ipush (i := .iconst 4) dd_Ds_isInk_13 rfl rfl (by decide)
theorem dd_Ds_isInk_14 : decode (px_rw k_Ds_isInk).2.1 14 = .ok (.if_icmp .ge 7, 3) := (by decide +kernel : decode prog_1_method_48_code 14 = .ok (.if_icmp .ge 7, 3))
theorem e_Ds_isInk_14 (L : List Value) (x y : Int32) (st : List Value) (g : px_G) : rn k_Ds_isInk 14 L (.int y :: .int x :: st) g = if y ≤ x then rn k_Ds_isInk 21 L st g else rn k_Ds_isInk 17 L st g := rn_icge dd_Ds_isInk_14 (by decide)
theorem dd_Ds_isInk_17 : decode (px_rw k_Ds_isInk).2.1 17 = .ok (.iconst 1, 1) := (by decide +kernel : decode prog_1_method_48_code 17 = .ok (.iconst 1, 1))
theorem e_Ds_isInk_17 (L st : List Value) (g : px_G) : rn k_Ds_isInk 17 L st g = rn k_Ds_isInk 18 L (.int 1 :: st) g := rn_ipush (i := .iconst 1) dd_Ds_isInk_17 rfl rfl (by decide)
theorem dd_Ds_isInk_18 : decode (px_rw k_Ds_isInk).2.1 18 = .ok (.goto 4, 3) := (by decide +kernel : decode prog_1_method_48_code 18 = .ok (.goto 4, 3))
theorem e_Ds_isInk_18 (L st : List Value) (g : px_G) : rn k_Ds_isInk 18 L st g = rn k_Ds_isInk 22 L st g := rn_goto dd_Ds_isInk_18 (by decide)
theorem dd_Ds_isInk_21 : decode (px_rw k_Ds_isInk).2.1 21 = .ok (.iconst 0, 1) := (by decide +kernel : decode prog_1_method_48_code 21 = .ok (.iconst 0, 1))
theorem e_Ds_isInk_21 (L st : List Value) (g : px_G) : rn k_Ds_isInk 21 L st g = rn k_Ds_isInk 22 L (.int 0 :: st) g := rn_ipush (i := .iconst 0) dd_Ds_isInk_21 rfl rfl (by decide)
theorem dd_Ds_isInk_22 : decode (px_rw k_Ds_isInk).2.1 22 = .ok (.ireturn, 1) := (by decide +kernel : decode prog_1_method_48_code 22 = .ok (.ireturn, 1))
theorem e_Ds_isInk_22 (L : List Value) (v : Int32) (g : px_G) (hv : v = 0 ∨ v = 1) : rn k_Ds_isInk 22 L [.int v] g = some (some (.int v), g) := rn_zret dd_Ds_isInk_22 rfl hv
theorem c_Ds_home (r0 : Nat) (i1 : Int32) (i2 : Int32) (i3 : Int32) (i4 : Int32) (g : px_G) : cl k_Ds_home [.ref r0, .int i1, .int i2, .int i3, .int i4] g = rn k_Ds_home 0 [.ref r0, .int i1, .int i2, .int i3, .int i4, .null] [] g := rfl
theorem dd_Ds_home_0 : decode (px_rw k_Ds_home).2.1 0 = .ok (.aload_n 0, 1) := (by decide +kernel : decode prog_1_method_9_code 0 = .ok (.aload_n 0, 1))
theorem e_Ds_home_0 (a1 a2 a3 a4 a5 : Value) (x : Nat) (st : List Value) (g : px_G) : rn k_Ds_home 0 [.ref x, a1, a2, a3, a4, a5] st g = rn k_Ds_home 1 [.ref x, a1, a2, a3, a4, a5] (.ref x :: st) g := rn_next dd_Ds_home_0 rfl
theorem dd_Ds_home_1 : decode (px_rw k_Ds_home).2.1 1 = .ok (.iload_n 1, 1) := (by decide +kernel : decode prog_1_method_9_code 1 = .ok (.iload_n 1, 1))
theorem e_Ds_home_1 (a0 a2 a3 a4 a5 : Value) (x : Int32) (st : List Value) (g : px_G) : rn k_Ds_home 1 [a0, .int x, a2, a3, a4, a5] st g = rn k_Ds_home 2 [a0, .int x, a2, a3, a4, a5] (.int x :: st) g := rn_next dd_Ds_home_1 rfl
theorem dd_Ds_home_2 : decode (px_rw k_Ds_home).2.1 2 = .ok (.invokevirtual 129, 3) := (by decide +kernel : decode prog_1_method_9_code 2 = .ok (.invokevirtual 129, 3))
theorem e_Ds_home_2 (L : List Value) (i0 : Int32)  (T : TS)  : rn k_Ds_home 2 L [.int i0, .ref 0] (enc T) = bd (cl k_Ds_isInk [.ref 0, .int i0] (enc T)) (fun r g' => rn k_Ds_home 5 L (r.toList ++ []) g') := rn_callV (n := 13) (As := [.int i0]) (rest := []) dd_Ds_home_2 rfl (by decide) (by decide) rfl rfl (Nat.le_of_ble_eq_true rfl) (Nat.le_of_ble_eq_true rfl) rfl
theorem dd_Ds_home_5 : decode (px_rw k_Ds_home).2.1 5 = .ok (.ifCond .eq 19, 3) := (by decide +kernel : decode prog_1_method_9_code 5 = .ok (.ifCond .eq 19, 3))
theorem e_Ds_home_5 (L : List Value) (x : Int32) (st : List Value) (g : px_G) : rn k_Ds_home 5 L (.int x :: st) g = if x = 0 then rn k_Ds_home 24 L st g else rn k_Ds_home 8 L st g := rn_ifeq dd_Ds_home_5 (by decide)
theorem dd_Ds_home_8 : decode (px_rw k_Ds_home).2.1 8 = .ok (.iload_n 2, 1) := (by decide +kernel : decode prog_1_method_9_code 8 = .ok (.iload_n 2, 1))
theorem e_Ds_home_8 (a0 a1 a3 a4 a5 : Value) (x : Int32) (st : List Value) (g : px_G) : rn k_Ds_home 8 [a0, a1, .int x, a3, a4, a5] st g = rn k_Ds_home 9 [a0, a1, .int x, a3, a4, a5] (.int x :: st) g := rn_next dd_Ds_home_8 rfl
theorem dd_Ds_home_9 : decode (px_rw k_Ds_home).2.1 9 = .ok (.iload_n 3, 1) := (by decide +kernel : decode prog_1_method_9_code 9 = .ok (.iload_n 3, 1))
theorem e_Ds_home_9 (a0 a1 a2 a4 a5 : Value) (x : Int32) (st : List Value) (g : px_G) : rn k_Ds_home 9 [a0, a1, a2, .int x, a4, a5] st g = rn k_Ds_home 10 [a0, a1, a2, .int x, a4, a5] (.int x :: st) g := rn_next dd_Ds_home_9 rfl
theorem dd_Ds_home_10 : decode (px_rw k_Ds_home).2.1 10 = .ok (.invokestatic 178, 3) := (by decide +kernel : decode prog_1_method_9_code 10 = .ok (.invokestatic 178, 3))
theorem e_Ds_home_10 (L : List Value) (i0 : Int32) (i1 : Int32) (g : px_G) : rn k_Ds_home 10 L [.int i1, .int i0] g = bd (cl k_Ds_isPixel [.int i0, .int i1] g) (fun r g' => rn k_Ds_home 13 L (r.toList ++ []) g') := rn_callS (As := [.int i0, .int i1]) (rest := []) dd_Ds_home_10 rfl (by decide) rfl rfl (Nat.le_of_ble_eq_true rfl) (Nat.le_of_ble_eq_true rfl)
theorem dd_Ds_home_13 : decode (px_rw k_Ds_home).2.1 13 = .ok (.ifCond .eq 11, 3) := (by decide +kernel : decode prog_1_method_9_code 13 = .ok (.ifCond .eq 11, 3))
theorem e_Ds_home_13 (L : List Value) (x : Int32) (st : List Value) (g : px_G) : rn k_Ds_home 13 L (.int x :: st) g = if x = 0 then rn k_Ds_home 24 L st g else rn k_Ds_home 16 L st g := rn_ifeq dd_Ds_home_13 (by decide)
theorem dd_Ds_home_16 : decode (px_rw k_Ds_home).2.1 16 = .ok (.iload 4, 2) := (by decide +kernel : decode prog_1_method_9_code 16 = .ok (.iload 4, 2))
theorem e_Ds_home_16 (a0 a1 a2 a3 a5 : Value) (x : Int32) (st : List Value) (g : px_G) : rn k_Ds_home 16 [a0, a1, a2, a3, .int x, a5] st g = rn k_Ds_home 18 [a0, a1, a2, a3, .int x, a5] (.int x :: st) g := rn_next dd_Ds_home_16 rfl
theorem dd_Ds_home_18 : decode (px_rw k_Ds_home).2.1 18 = .ok (.invokestatic 182, 3) := (by decide +kernel : decode prog_1_method_9_code 18 = .ok (.invokestatic 182, 3))
theorem e_Ds_home_18 (L : List Value) (i0 : Int32) (g : px_G) : rn k_Ds_home 18 L [.int i0] g = bd (cl k_Ds_isAxis [.int i0] g) (fun r g' => rn k_Ds_home 21 L (r.toList ++ []) g') := rn_callS (As := [.int i0]) (rest := []) dd_Ds_home_18 rfl (by decide) rfl rfl (Nat.le_of_ble_eq_true rfl) (Nat.le_of_ble_eq_true rfl)
theorem dd_Ds_home_21 : decode (px_rw k_Ds_home).2.1 21 = .ok (.ifCond .ne 6, 3) := (by decide +kernel : decode prog_1_method_9_code 21 = .ok (.ifCond .ne 6, 3))
theorem e_Ds_home_21 (L : List Value) (x : Int32) (st : List Value) (g : px_G) : rn k_Ds_home 21 L (.int x :: st) g = if x = 0 then rn k_Ds_home 24 L st g else rn k_Ds_home 27 L st g := rn_ifne dd_Ds_home_21 (by decide)
theorem dd_Ds_home_24 : decode (px_rw k_Ds_home).2.1 24 = .ok (.ldc 164, 2) := (by decide +kernel : decode prog_1_method_9_code 24 = .ok (.ldc 164, 2))
theorem e_Ds_home_24 (L st : List Value) (g : px_G) : rn k_Ds_home 24 L st g = rn k_Ds_home 26 L (.int (-1000000) :: st) g := rn_ldc (i := .ldc 164) (w := .int (Int32.ofInt (-1000000))) dd_Ds_home_24 rfl rfl rfl rfl rfl (by decide)
theorem dd_Ds_home_26 : decode (px_rw k_Ds_home).2.1 26 = .ok (.ireturn, 1) := (by decide +kernel : decode prog_1_method_9_code 26 = .ok (.ireturn, 1))
theorem e_Ds_home_26 (L : List Value) (v : Int32) (g : px_G) : rn k_Ds_home 26 L [.int v] g = some (some (.int v), g) := rn_iret dd_Ds_home_26 rfl
theorem dd_Ds_home_27 : decode (px_rw k_Ds_home).2.1 27 = .ok (.aload_n 0, 1) := (by decide +kernel : decode prog_1_method_9_code 27 = .ok (.aload_n 0, 1))
theorem e_Ds_home_27 (a1 a2 a3 a4 a5 : Value) (x : Nat) (st : List Value) (g : px_G) : rn k_Ds_home 27 [.ref x, a1, a2, a3, a4, a5] st g = rn k_Ds_home 28 [.ref x, a1, a2, a3, a4, a5] (.ref x :: st) g := rn_next dd_Ds_home_27 rfl
theorem dd_Ds_home_28 : decode (px_rw k_Ds_home).2.1 28 = .ok (.getfield 27, 3) := (by decide +kernel : decode prog_1_method_9_code 28 = .ok (.getfield 27, 3))
theorem e_Ds_home_28 (L st : List Value) (T : TS) : rn k_Ds_home 28 L (.ref 0 :: st) (enc T) = rn k_Ds_home 31 L (.ref 5 :: st) (enc T) := rn_getA (n := 13) dd_Ds_home_28 rfl (by decide) (by decide) (by decide) rfl rfl
theorem dd_Ds_home_31 : decode (px_rw k_Ds_home).2.1 31 = .ok (.iload_n 1, 1) := (by decide +kernel : decode prog_1_method_9_code 31 = .ok (.iload_n 1, 1))
theorem e_Ds_home_31 (a0 a2 a3 a4 a5 : Value) (x : Int32) (st : List Value) (g : px_G) : rn k_Ds_home 31 [a0, .int x, a2, a3, a4, a5] st g = rn k_Ds_home 32 [a0, .int x, a2, a3, a4, a5] (.int x :: st) g := rn_next dd_Ds_home_31 rfl
theorem dd_Ds_home_32 : decode (px_rw k_Ds_home).2.1 32 = .ok (.aaload, 1) := (by decide +kernel : decode prog_1_method_9_code 32 = .ok (.aaload, 1))
theorem e_Ds_home_32 (L : List Value) (i : Int32) (p : Nat) (st : List Value) (T : TS) (hp : (sh p).1 = 3) : rn k_Ds_home 32 L (.int i :: .ref p :: st) (enc T) = if px_in i (sh p).2 then rn k_Ds_home 33 L (.ref (T.2.2.1 i.toNatClampNeg) :: st) (enc T) else none := rn_aald dd_Ds_home_32 (Prod.ext hp rfl)
theorem dd_Ds_home_33 : decode (px_rw k_Ds_home).2.1 33 = .ok (.astore 5, 2) := (by decide +kernel : decode prog_1_method_9_code 33 = .ok (.astore 5, 2))
theorem e_Ds_home_33 (a0 a1 a2 a3 a4 a5 : Value) (x : Nat) (st : List Value) (g : px_G) : rn k_Ds_home 33 [a0, a1, a2, a3, a4, a5] (.ref x :: st) g = rn k_Ds_home 35 [a0, a1, a2, a3, px_kill a4, .ref x] st g := rn_next dd_Ds_home_33 rfl
theorem dd_Ds_home_35 : decode (px_rw k_Ds_home).2.1 35 = .ok (.aload 5, 2) := (by decide +kernel : decode prog_1_method_9_code 35 = .ok (.aload 5, 2))
theorem e_Ds_home_35 (a0 a1 a2 a3 a4 : Value) (x : Nat) (st : List Value) (g : px_G) : rn k_Ds_home 35 [a0, a1, a2, a3, a4, .ref x] st g = rn k_Ds_home 37 [a0, a1, a2, a3, a4, .ref x] (.ref x :: st) g := rn_next dd_Ds_home_35 rfl
theorem dd_Ds_home_37 : decode (px_rw k_Ds_home).2.1 37 = .ok (.aload 5, 2) := (by decide +kernel : decode prog_1_method_9_code 37 = .ok (.aload 5, 2))
theorem e_Ds_home_37 (a0 a1 a2 a3 a4 : Value) (x : Nat) (st : List Value) (g : px_G) : rn k_Ds_home 37 [a0, a1, a2, a3, a4, .ref x] st g = rn k_Ds_home 39 [a0, a1, a2, a3, a4, .ref x] (.ref x :: st) g := rn_next dd_Ds_home_37 rfl
theorem dd_Ds_home_39 : decode (px_rw k_Ds_home).2.1 39 = .ok (.iload_n 2, 1) := (by decide +kernel : decode prog_1_method_9_code 39 = .ok (.iload_n 2, 1))
theorem e_Ds_home_39 (a0 a1 a3 a4 a5 : Value) (x : Int32) (st : List Value) (g : px_G) : rn k_Ds_home 39 [a0, a1, .int x, a3, a4, a5] st g = rn k_Ds_home 40 [a0, a1, .int x, a3, a4, a5] (.int x :: st) g := rn_next dd_Ds_home_39 rfl
theorem dd_Ds_home_40 : decode (px_rw k_Ds_home).2.1 40 = .ok (.iload_n 3, 1) := (by decide +kernel : decode prog_1_method_9_code 40 = .ok (.iload_n 3, 1))
theorem e_Ds_home_40 (a0 a1 a2 a4 a5 : Value) (x : Int32) (st : List Value) (g : px_G) : rn k_Ds_home 40 [a0, a1, a2, .int x, a4, a5] st g = rn k_Ds_home 41 [a0, a1, a2, .int x, a4, a5] (.int x :: st) g := rn_next dd_Ds_home_40 rfl
theorem dd_Ds_home_41 : decode (px_rw k_Ds_home).2.1 41 = .ok (.invokevirtual 185, 3) := (by decide +kernel : decode prog_1_method_9_code 41 = .ok (.invokevirtual 185, 3))
theorem e_Ds_home_41 (L : List Value) (i0 : Int32) (i1 : Int32) (r100 : Nat) (p : Nat) (T : TS) (hp : sh p = (104, 18)) : rn k_Ds_home 41 L [.int i1, .int i0, .ref p, .ref r100] (enc T) = bd (cl k_Ink_placeOf [.ref p, .int i0, .int i1] (enc T)) (fun r g' => rn k_Ds_home 44 L (r.toList ++ [.ref r100]) g') := rn_callV (n := 18) (As := [.int i0, .int i1]) (rest := [.ref r100]) dd_Ds_home_41 rfl (by decide) (by decide) rfl rfl (Nat.le_of_ble_eq_true rfl) (Nat.le_of_ble_eq_true rfl) hp
theorem dd_Ds_home_44 : decode (px_rw k_Ds_home).2.1 44 = .ok (.iload 4, 2) := (by decide +kernel : decode prog_1_method_9_code 44 = .ok (.iload 4, 2))
theorem e_Ds_home_44 (a0 a1 a2 a3 a5 : Value) (x : Int32) (st : List Value) (g : px_G) : rn k_Ds_home 44 [a0, a1, a2, a3, .int x, a5] st g = rn k_Ds_home 46 [a0, a1, a2, a3, .int x, a5] (.int x :: st) g := rn_next dd_Ds_home_44 rfl
theorem dd_Ds_home_46 : decode (px_rw k_Ds_home).2.1 46 = .ok (.invokevirtual 188, 3) := (by decide +kernel : decode prog_1_method_9_code 46 = .ok (.invokevirtual 188, 3))
theorem e_Ds_home_46 (L : List Value) (i0 : Int32) (i1 : Int32) (p : Nat) (T : TS) (hp : sh p = (104, 18)) : rn k_Ds_home 46 L [.int i1, .int i0, .ref p] (enc T) = bd (cl k_Ink_axisOf [.ref p, .int i0, .int i1] (enc T)) (fun r g' => rn k_Ds_home 49 L (r.toList ++ []) g') := rn_callV (n := 18) (As := [.int i0, .int i1]) (rest := []) dd_Ds_home_46 rfl (by decide) (by decide) rfl rfl (Nat.le_of_ble_eq_true rfl) (Nat.le_of_ble_eq_true rfl) hp
theorem dd_Ds_home_49 : decode (px_rw k_Ds_home).2.1 49 = .ok (.ireturn, 1) := (by decide +kernel : decode prog_1_method_9_code 49 = .ok (.ireturn, 1))
theorem e_Ds_home_49 (L : List Value) (v : Int32) (g : px_G) : rn k_Ds_home 49 L [.int v] g = some (some (.int v), g) := rn_iret dd_Ds_home_49 rfl
theorem c_Ds_isPixel (i0 : Int32) (i1 : Int32) (g : px_G) : cl k_Ds_isPixel [.int i0, .int i1] g = rn k_Ds_isPixel 0 [.int i0, .int i1] [] g := rfl
theorem dd_Ds_isPixel_0 : decode (px_rw k_Ds_isPixel).2.1 0 = .ok (.iload_n 0, 1) := (by decide +kernel : decode prog_1_method_52_code 0 = .ok (.iload_n 0, 1))
theorem e_Ds_isPixel_0 (a1 : Value) (x : Int32) (st : List Value) (g : px_G) : rn k_Ds_isPixel 0 [.int x, a1] st g = rn k_Ds_isPixel 1 [.int x, a1] (.int x :: st) g := rn_next dd_Ds_isPixel_0 rfl
theorem dd_Ds_isPixel_1 : decode (px_rw k_Ds_isPixel).2.1 1 = .ok (.sipush 9999, 3) := (by decide +kernel : decode prog_1_method_52_code 1 = .ok (.sipush 9999, 3))
theorem e_Ds_isPixel_1 (L st : List Value) (g : px_G) : rn k_Ds_isPixel 1 L st g = rn k_Ds_isPixel 4 L (.int 9999 :: st) g := rn_ipush (i := .sipush 9999) dd_Ds_isPixel_1 rfl rfl (by decide)
theorem dd_Ds_isPixel_4 : decode (px_rw k_Ds_isPixel).2.1 4 = .ok (.invokestatic 345, 3) := (by decide +kernel : decode prog_1_method_52_code 4 = .ok (.invokestatic 345, 3))
theorem e_Ds_isPixel_4 (L : List Value) (i0 : Int32) (i1 : Int32) (g : px_G) : rn k_Ds_isPixel 4 L [.int i1, .int i0] g = bd (cl k_Ds_isWithin [.int i0, .int i1] g) (fun r g' => rn k_Ds_isPixel 7 L (r.toList ++ []) g') := rn_callS (As := [.int i0, .int i1]) (rest := []) dd_Ds_isPixel_4 rfl (by decide) rfl rfl (Nat.le_of_ble_eq_true rfl) (Nat.le_of_ble_eq_true rfl)
theorem dd_Ds_isPixel_7 : decode (px_rw k_Ds_isPixel).2.1 7 = .ok (.ifCond .eq 17, 3) := (by decide +kernel : decode prog_1_method_52_code 7 = .ok (.ifCond .eq 17, 3))
theorem e_Ds_isPixel_7 (L : List Value) (x : Int32) (st : List Value) (g : px_G) : rn k_Ds_isPixel 7 L (.int x :: st) g = if x = 0 then rn k_Ds_isPixel 24 L st g else rn k_Ds_isPixel 10 L st g := rn_ifeq dd_Ds_isPixel_7 (by decide)
theorem dd_Ds_isPixel_10 : decode (px_rw k_Ds_isPixel).2.1 10 = .ok (.iload_n 1, 1) := (by decide +kernel : decode prog_1_method_52_code 10 = .ok (.iload_n 1, 1))
theorem e_Ds_isPixel_10 (a0 : Value) (x : Int32) (st : List Value) (g : px_G) : rn k_Ds_isPixel 10 [a0, .int x] st g = rn k_Ds_isPixel 11 [a0, .int x] (.int x :: st) g := rn_next dd_Ds_isPixel_10 rfl
theorem dd_Ds_isPixel_11 : decode (px_rw k_Ds_isPixel).2.1 11 = .ok (.sipush 9999, 3) := (by decide +kernel : decode prog_1_method_52_code 11 = .ok (.sipush 9999, 3))
theorem e_Ds_isPixel_11 (L st : List Value) (g : px_G) : rn k_Ds_isPixel 11 L st g = rn k_Ds_isPixel 14 L (.int 9999 :: st) g := rn_ipush (i := .sipush 9999) dd_Ds_isPixel_11 rfl rfl (by decide)
theorem dd_Ds_isPixel_14 : decode (px_rw k_Ds_isPixel).2.1 14 = .ok (.invokestatic 345, 3) := (by decide +kernel : decode prog_1_method_52_code 14 = .ok (.invokestatic 345, 3))
theorem e_Ds_isPixel_14 (L : List Value) (i0 : Int32) (i1 : Int32) (g : px_G) : rn k_Ds_isPixel 14 L [.int i1, .int i0] g = bd (cl k_Ds_isWithin [.int i0, .int i1] g) (fun r g' => rn k_Ds_isPixel 17 L (r.toList ++ []) g') := rn_callS (As := [.int i0, .int i1]) (rest := []) dd_Ds_isPixel_14 rfl (by decide) rfl rfl (Nat.le_of_ble_eq_true rfl) (Nat.le_of_ble_eq_true rfl)
theorem dd_Ds_isPixel_17 : decode (px_rw k_Ds_isPixel).2.1 17 = .ok (.ifCond .eq 7, 3) := (by decide +kernel : decode prog_1_method_52_code 17 = .ok (.ifCond .eq 7, 3))
theorem e_Ds_isPixel_17 (L : List Value) (x : Int32) (st : List Value) (g : px_G) : rn k_Ds_isPixel 17 L (.int x :: st) g = if x = 0 then rn k_Ds_isPixel 24 L st g else rn k_Ds_isPixel 20 L st g := rn_ifeq dd_Ds_isPixel_17 (by decide)
theorem dd_Ds_isPixel_20 : decode (px_rw k_Ds_isPixel).2.1 20 = .ok (.iconst 1, 1) := (by decide +kernel : decode prog_1_method_52_code 20 = .ok (.iconst 1, 1))
theorem e_Ds_isPixel_20 (L st : List Value) (g : px_G) : rn k_Ds_isPixel 20 L st g = rn k_Ds_isPixel 21 L (.int 1 :: st) g := rn_ipush (i := .iconst 1) dd_Ds_isPixel_20 rfl rfl (by decide)
theorem dd_Ds_isPixel_21 : decode (px_rw k_Ds_isPixel).2.1 21 = .ok (.goto 4, 3) := (by decide +kernel : decode prog_1_method_52_code 21 = .ok (.goto 4, 3))
theorem e_Ds_isPixel_21 (L st : List Value) (g : px_G) : rn k_Ds_isPixel 21 L st g = rn k_Ds_isPixel 25 L st g := rn_goto dd_Ds_isPixel_21 (by decide)
theorem dd_Ds_isPixel_24 : decode (px_rw k_Ds_isPixel).2.1 24 = .ok (.iconst 0, 1) := (by decide +kernel : decode prog_1_method_52_code 24 = .ok (.iconst 0, 1))
theorem e_Ds_isPixel_24 (L st : List Value) (g : px_G) : rn k_Ds_isPixel 24 L st g = rn k_Ds_isPixel 25 L (.int 0 :: st) g := rn_ipush (i := .iconst 0) dd_Ds_isPixel_24 rfl rfl (by decide)
theorem dd_Ds_isPixel_25 : decode (px_rw k_Ds_isPixel).2.1 25 = .ok (.ireturn, 1) := (by decide +kernel : decode prog_1_method_52_code 25 = .ok (.ireturn, 1))
theorem e_Ds_isPixel_25 (L : List Value) (v : Int32) (g : px_G) (hv : v = 0 ∨ v = 1) : rn k_Ds_isPixel 25 L [.int v] g = some (some (.int v), g) := rn_zret dd_Ds_isPixel_25 rfl hv
theorem c_Ds_isAxis (i0 : Int32) (g : px_G) : cl k_Ds_isAxis [.int i0] g = rn k_Ds_isAxis 0 [.int i0] [] g := rfl
theorem dd_Ds_isAxis_0 : decode (px_rw k_Ds_isAxis).2.1 0 = .ok (.iload_n 0, 1) := (by decide +kernel : decode prog_1_method_50_code 0 = .ok (.iload_n 0, 1))
theorem e_Ds_isAxis_0  (x : Int32) (st : List Value) (g : px_G) : rn k_Ds_isAxis 0 [.int x] st g = rn k_Ds_isAxis 1 [.int x] (.int x :: st) g := rn_next dd_Ds_isAxis_0 rfl
theorem dd_Ds_isAxis_1 : decode (px_rw k_Ds_isAxis).2.1 1 = .ok (.ifCond .eq 8, 3) := (by decide +kernel : decode prog_1_method_50_code 1 = .ok (.ifCond .eq 8, 3))
theorem e_Ds_isAxis_1 (L : List Value) (x : Int32) (st : List Value) (g : px_G) : rn k_Ds_isAxis 1 L (.int x :: st) g = if x = 0 then rn k_Ds_isAxis 9 L st g else rn k_Ds_isAxis 4 L st g := rn_ifeq dd_Ds_isAxis_1 (by decide)
theorem dd_Ds_isAxis_4 : decode (px_rw k_Ds_isAxis).2.1 4 = .ok (.iload_n 0, 1) := (by decide +kernel : decode prog_1_method_50_code 4 = .ok (.iload_n 0, 1))
theorem e_Ds_isAxis_4  (x : Int32) (st : List Value) (g : px_G) : rn k_Ds_isAxis 4 [.int x] st g = rn k_Ds_isAxis 5 [.int x] (.int x :: st) g := rn_next dd_Ds_isAxis_4 rfl
theorem dd_Ds_isAxis_5 : decode (px_rw k_Ds_isAxis).2.1 5 = .ok (.iconst 1, 1) := (by decide +kernel : decode prog_1_method_50_code 5 = .ok (.iconst 1, 1))
theorem e_Ds_isAxis_5 (L st : List Value) (g : px_G) : rn k_Ds_isAxis 5 L st g = rn k_Ds_isAxis 6 L (.int 1 :: st) g := rn_ipush (i := .iconst 1) dd_Ds_isAxis_5 rfl rfl (by decide)
theorem dd_Ds_isAxis_6 : decode (px_rw k_Ds_isAxis).2.1 6 = .ok (.if_icmp .ne 7, 3) := (by decide +kernel : decode prog_1_method_50_code 6 = .ok (.if_icmp .ne 7, 3))
theorem e_Ds_isAxis_6 (L : List Value) (x y : Int32) (st : List Value) (g : px_G) : rn k_Ds_isAxis 6 L (.int y :: .int x :: st) g = if x = y then rn k_Ds_isAxis 9 L st g else rn k_Ds_isAxis 13 L st g := rn_icne dd_Ds_isAxis_6 (by decide)
theorem dd_Ds_isAxis_9 : decode (px_rw k_Ds_isAxis).2.1 9 = .ok (.iconst 1, 1) := (by decide +kernel : decode prog_1_method_50_code 9 = .ok (.iconst 1, 1))
theorem e_Ds_isAxis_9 (L st : List Value) (g : px_G) : rn k_Ds_isAxis 9 L st g = rn k_Ds_isAxis 10 L (.int 1 :: st) g := rn_ipush (i := .iconst 1) dd_Ds_isAxis_9 rfl rfl (by decide)
theorem dd_Ds_isAxis_10 : decode (px_rw k_Ds_isAxis).2.1 10 = .ok (.goto 4, 3) := (by decide +kernel : decode prog_1_method_50_code 10 = .ok (.goto 4, 3))
theorem e_Ds_isAxis_10 (L st : List Value) (g : px_G) : rn k_Ds_isAxis 10 L st g = rn k_Ds_isAxis 14 L st g := rn_goto dd_Ds_isAxis_10 (by decide)
theorem dd_Ds_isAxis_13 : decode (px_rw k_Ds_isAxis).2.1 13 = .ok (.iconst 0, 1) := (by decide +kernel : decode prog_1_method_50_code 13 = .ok (.iconst 0, 1))
theorem e_Ds_isAxis_13 (L st : List Value) (g : px_G) : rn k_Ds_isAxis 13 L st g = rn k_Ds_isAxis 14 L (.int 0 :: st) g := rn_ipush (i := .iconst 0) dd_Ds_isAxis_13 rfl rfl (by decide)
theorem dd_Ds_isAxis_14 : decode (px_rw k_Ds_isAxis).2.1 14 = .ok (.ireturn, 1) := (by decide +kernel : decode prog_1_method_50_code 14 = .ok (.ireturn, 1))
theorem e_Ds_isAxis_14 (L : List Value) (v : Int32) (g : px_G) (hv : v = 0 ∨ v = 1) : rn k_Ds_isAxis 14 L [.int v] g = some (some (.int v), g) := rn_zret dd_Ds_isAxis_14 rfl hv
theorem c_Ds_div (j0 : Int64) (j1 : Int64) (g : px_G) : cl k_Ds_div [.long j0, .long j1] g = rn k_Ds_div 0 [.long j0, .null, .long j1, .null] [] g := rfl
theorem dd_Ds_div_0 : decode (px_rw k_Ds_div).2.1 0 = .ok (.lload_n 2, 1) := (by decide +kernel : decode prog_1_method_58_code 0 = .ok (.lload_n 2, 1))
theorem e_Ds_div_0 (a0 a1 a3 : Value) (x : Int64) (st : List Value) (g : px_G) : rn k_Ds_div 0 [a0, a1, .long x, a3] st g = rn k_Ds_div 1 [a0, a1, .long x, a3] (.long x :: st) g := rn_next dd_Ds_div_0 rfl
theorem dd_Ds_div_1 : decode (px_rw k_Ds_div).2.1 1 = .ok (.lconst 0, 1) := (by decide +kernel : decode prog_1_method_58_code 1 = .ok (.lconst 0, 1))
theorem e_Ds_div_1 (L st : List Value) (g : px_G) : rn k_Ds_div 1 L st g = rn k_Ds_div 2 L (.long 0 :: st) g := rn_next dd_Ds_div_1 rfl
theorem dd_Ds_div_2 : decode (px_rw k_Ds_div).2.1 2 = .ok (.lcmp, 1) := (by decide +kernel : decode prog_1_method_58_code 2 = .ok (.lcmp, 1))
theorem e_Ds_div_2 (L : List Value) (x y : Int64) (st : List Value) (g : px_G) : rn k_Ds_div 2 L (.long y :: .long x :: st) g = rn k_Ds_div 3 L (.int (lg_cmp x y) :: st) g := rn_next dd_Ds_div_2 rfl
theorem dd_Ds_div_3 : decode (px_rw k_Ds_div).2.1 3 = .ok (.ifCond .le 11, 3) := (by decide +kernel : decode prog_1_method_58_code 3 = .ok (.ifCond .le 11, 3))
theorem e_Ds_div_3 (L : List Value) (x : Int32) (st : List Value) (g : px_G) : rn k_Ds_div 3 L (.int x :: st) g = if x ≤ 0 then rn k_Ds_div 14 L st g else rn k_Ds_div 6 L st g := rn_ifle dd_Ds_div_3 (by decide)
theorem dd_Ds_div_6 : decode (px_rw k_Ds_div).2.1 6 = .ok (.lload_n 0, 1) := (by decide +kernel : decode prog_1_method_58_code 6 = .ok (.lload_n 0, 1))
theorem e_Ds_div_6 (a1 a2 a3 : Value) (x : Int64) (st : List Value) (g : px_G) : rn k_Ds_div 6 [.long x, a1, a2, a3] st g = rn k_Ds_div 7 [.long x, a1, a2, a3] (.long x :: st) g := rn_next dd_Ds_div_6 rfl
theorem dd_Ds_div_7 : decode (px_rw k_Ds_div).2.1 7 = .ok (.lload_n 2, 1) := (by decide +kernel : decode prog_1_method_58_code 7 = .ok (.lload_n 2, 1))
theorem e_Ds_div_7 (a0 a1 a3 : Value) (x : Int64) (st : List Value) (g : px_G) : rn k_Ds_div 7 [a0, a1, .long x, a3] st g = rn k_Ds_div 8 [a0, a1, .long x, a3] (.long x :: st) g := rn_next dd_Ds_div_7 rfl
theorem dd_Ds_div_8 : decode (px_rw k_Ds_div).2.1 8 = .ok (.invokestatic 370, 3) := (by decide +kernel : decode prog_1_method_58_code 8 = .ok (.invokestatic 370, 3))
theorem e_Ds_div_8 (L : List Value) (j0 : Int64) (j1 : Int64) (g : px_G) : rn k_Ds_div 8 L [.long j1, .long j0] g = bd (cl k_Math_floorDiv [.long j0, .long j1] g) (fun r g' => rn k_Ds_div 11 L (r.toList ++ []) g') := rn_callS (As := [.long j0, .long j1]) (rest := []) dd_Ds_div_8 rfl (by decide) rfl rfl (Nat.le_of_ble_eq_true rfl) (Nat.le_of_ble_eq_true rfl)
theorem dd_Ds_div_11 : decode (px_rw k_Ds_div).2.1 11 = .ok (.goto 4, 3) := (by decide +kernel : decode prog_1_method_58_code 11 = .ok (.goto 4, 3))
theorem e_Ds_div_11 (L st : List Value) (g : px_G) : rn k_Ds_div 11 L st g = rn k_Ds_div 15 L st g := rn_goto dd_Ds_div_11 (by decide)
theorem dd_Ds_div_14 : decode (px_rw k_Ds_div).2.1 14 = .ok (.lconst 0, 1) := (by decide +kernel : decode prog_1_method_58_code 14 = .ok (.lconst 0, 1))
theorem e_Ds_div_14 (L st : List Value) (g : px_G) : rn k_Ds_div 14 L st g = rn k_Ds_div 15 L (.long 0 :: st) g := rn_next dd_Ds_div_14 rfl
theorem dd_Ds_div_15 : decode (px_rw k_Ds_div).2.1 15 = .ok (.lreturn, 1) := (by decide +kernel : decode prog_1_method_58_code 15 = .ok (.lreturn, 1))
theorem e_Ds_div_15 (L : List Value) (v : Int64) (g : px_G) : rn k_Ds_div 15 L [.long v] g = some (some (.long v), g) := rn_lret dd_Ds_div_15 rfl
theorem c_Ds_reduced (r0 : Nat) (i1 : Int32) (i2 : Int32) (g : px_G) : cl k_Ds_reduced [.ref r0, .int i1, .int i2] g = rn k_Ds_reduced 0 [.ref r0, .int i1, .int i2] [] g := rfl
theorem dd_Ds_reduced_0 : decode (px_rw k_Ds_reduced).2.1 0 = .ok (.aload_n 0, 1) := (by decide +kernel : decode prog_1_method_10_code 0 = .ok (.aload_n 0, 1))
theorem e_Ds_reduced_0 (a1 a2 : Value) (x : Nat) (st : List Value) (g : px_G) : rn k_Ds_reduced 0 [.ref x, a1, a2] st g = rn k_Ds_reduced 1 [.ref x, a1, a2] (.ref x :: st) g := rn_next dd_Ds_reduced_0 rfl
theorem dd_Ds_reduced_1 : decode (px_rw k_Ds_reduced).2.1 1 = .ok (.iload_n 1, 1) := (by decide +kernel : decode prog_1_method_10_code 1 = .ok (.iload_n 1, 1))
theorem e_Ds_reduced_1 (a0 a2 : Value) (x : Int32) (st : List Value) (g : px_G) : rn k_Ds_reduced 1 [a0, .int x, a2] st g = rn k_Ds_reduced 2 [a0, .int x, a2] (.int x :: st) g := rn_next dd_Ds_reduced_1 rfl
theorem dd_Ds_reduced_2 : decode (px_rw k_Ds_reduced).2.1 2 = .ok (.invokevirtual 129, 3) := (by decide +kernel : decode prog_1_method_10_code 2 = .ok (.invokevirtual 129, 3))
theorem e_Ds_reduced_2 (L : List Value) (i0 : Int32)  (T : TS)  : rn k_Ds_reduced 2 L [.int i0, .ref 0] (enc T) = bd (cl k_Ds_isInk [.ref 0, .int i0] (enc T)) (fun r g' => rn k_Ds_reduced 5 L (r.toList ++ []) g') := rn_callV (n := 13) (As := [.int i0]) (rest := []) dd_Ds_reduced_2 rfl (by decide) (by decide) rfl rfl (Nat.le_of_ble_eq_true rfl) (Nat.le_of_ble_eq_true rfl) rfl
theorem dd_Ds_reduced_5 : decode (px_rw k_Ds_reduced).2.1 5 = .ok (.ifCond .eq 12, 3) := (by decide +kernel : decode prog_1_method_10_code 5 = .ok (.ifCond .eq 12, 3))
theorem e_Ds_reduced_5 (L : List Value) (x : Int32) (st : List Value) (g : px_G) : rn k_Ds_reduced 5 L (.int x :: st) g = if x = 0 then rn k_Ds_reduced 17 L st g else rn k_Ds_reduced 8 L st g := rn_ifeq dd_Ds_reduced_5 (by decide)
theorem dd_Ds_reduced_8 : decode (px_rw k_Ds_reduced).2.1 8 = .ok (.iload_n 2, 1) := (by decide +kernel : decode prog_1_method_10_code 8 = .ok (.iload_n 2, 1))
theorem e_Ds_reduced_8 (a0 a1 : Value) (x : Int32) (st : List Value) (g : px_G) : rn k_Ds_reduced 8 [a0, a1, .int x] st g = rn k_Ds_reduced 9 [a0, a1, .int x] (.int x :: st) g := rn_next dd_Ds_reduced_8 rfl
theorem dd_Ds_reduced_9 : decode (px_rw k_Ds_reduced).2.1 9 = .ok (.ifCond .lt 8, 3) := (by decide +kernel : decode prog_1_method_10_code 9 = .ok (.ifCond .lt 8, 3))
theorem e_Ds_reduced_9 (L : List Value) (x : Int32) (st : List Value) (g : px_G) : rn k_Ds_reduced 9 L (.int x :: st) g = if x < 0 then rn k_Ds_reduced 17 L st g else rn k_Ds_reduced 12 L st g := rn_iflt dd_Ds_reduced_9 (by decide)
theorem dd_Ds_reduced_12 : decode (px_rw k_Ds_reduced).2.1 12 = .ok (.iload_n 2, 1) := (by decide +kernel : decode prog_1_method_10_code 12 = .ok (.iload_n 2, 1))
theorem e_Ds_reduced_12 (a0 a1 : Value) (x : Int32) (st : List Value) (g : px_G) : rn k_Ds_reduced 12 [a0, a1, .int x] st g = rn k_Ds_reduced 13 [a0, a1, .int x] (.int x :: st) g := rn_next dd_Ds_reduced_12 rfl
theorem dd_Ds_reduced_13 : decode (px_rw k_Ds_reduced).2.1 13 = .ok (.iconst 3, 1) := (by decide +kernel : decode prog_1_method_10_code 13 = .ok (.iconst 3, 1))
theorem e_Ds_reduced_13 (L st : List Value) (g : px_G) : rn k_Ds_reduced 13 L st g = rn k_Ds_reduced 14 L (.int 3 :: st) g := rn_ipush (i := .iconst 3) dd_Ds_reduced_13 rfl rfl (by decide)
theorem dd_Ds_reduced_14 : decode (px_rw k_Ds_reduced).2.1 14 = .ok (.if_icmp .le 6, 3) := (by decide +kernel : decode prog_1_method_10_code 14 = .ok (.if_icmp .le 6, 3))
theorem e_Ds_reduced_14 (L : List Value) (x y : Int32) (st : List Value) (g : px_G) : rn k_Ds_reduced 14 L (.int y :: .int x :: st) g = if x ≤ y then rn k_Ds_reduced 20 L st g else rn k_Ds_reduced 17 L st g := rn_icle dd_Ds_reduced_14 (by decide)
theorem dd_Ds_reduced_17 : decode (px_rw k_Ds_reduced).2.1 17 = .ok (.ldc 164, 2) := (by decide +kernel : decode prog_1_method_10_code 17 = .ok (.ldc 164, 2))
theorem e_Ds_reduced_17 (L st : List Value) (g : px_G) : rn k_Ds_reduced 17 L st g = rn k_Ds_reduced 19 L (.int (-1000000) :: st) g := rn_ldc (i := .ldc 164) (w := .int (Int32.ofInt (-1000000))) dd_Ds_reduced_17 rfl rfl rfl rfl rfl (by decide)
theorem dd_Ds_reduced_19 : decode (px_rw k_Ds_reduced).2.1 19 = .ok (.ireturn, 1) := (by decide +kernel : decode prog_1_method_10_code 19 = .ok (.ireturn, 1))
theorem e_Ds_reduced_19 (L : List Value) (v : Int32) (g : px_G) : rn k_Ds_reduced 19 L [.int v] g = some (some (.int v), g) := rn_iret dd_Ds_reduced_19 rfl
theorem dd_Ds_reduced_20 : decode (px_rw k_Ds_reduced).2.1 20 = .ok (.aload_n 0, 1) := (by decide +kernel : decode prog_1_method_10_code 20 = .ok (.aload_n 0, 1))
theorem e_Ds_reduced_20 (a1 a2 : Value) (x : Nat) (st : List Value) (g : px_G) : rn k_Ds_reduced 20 [.ref x, a1, a2] st g = rn k_Ds_reduced 21 [.ref x, a1, a2] (.ref x :: st) g := rn_next dd_Ds_reduced_20 rfl
theorem dd_Ds_reduced_21 : decode (px_rw k_Ds_reduced).2.1 21 = .ok (.getfield 52, 3) := (by decide +kernel : decode prog_1_method_10_code 21 = .ok (.getfield 52, 3))
theorem e_Ds_reduced_21 (L st : List Value) (T : TS) : rn k_Ds_reduced 21 L (.ref 0 :: st) (enc T) = rn k_Ds_reduced 24 L (.ref 13 :: st) (enc T) := rn_getO (n := 13) dd_Ds_reduced_21 rfl (by decide) (by decide) (by decide) rfl rfl
theorem dd_Ds_reduced_24 : decode (px_rw k_Ds_reduced).2.1 24 = .ok (.aload_n 0, 1) := (by decide +kernel : decode prog_1_method_10_code 24 = .ok (.aload_n 0, 1))
theorem e_Ds_reduced_24 (a1 a2 : Value) (x : Nat) (st : List Value) (g : px_G) : rn k_Ds_reduced 24 [.ref x, a1, a2] st g = rn k_Ds_reduced 25 [.ref x, a1, a2] (.ref x :: st) g := rn_next dd_Ds_reduced_24 rfl
theorem dd_Ds_reduced_25 : decode (px_rw k_Ds_reduced).2.1 25 = .ok (.getfield 27, 3) := (by decide +kernel : decode prog_1_method_10_code 25 = .ok (.getfield 27, 3))
theorem e_Ds_reduced_25 (L st : List Value) (T : TS) : rn k_Ds_reduced 25 L (.ref 0 :: st) (enc T) = rn k_Ds_reduced 28 L (.ref 5 :: st) (enc T) := rn_getA (n := 13) dd_Ds_reduced_25 rfl (by decide) (by decide) (by decide) rfl rfl
theorem dd_Ds_reduced_28 : decode (px_rw k_Ds_reduced).2.1 28 = .ok (.iload_n 1, 1) := (by decide +kernel : decode prog_1_method_10_code 28 = .ok (.iload_n 1, 1))
theorem e_Ds_reduced_28 (a0 a2 : Value) (x : Int32) (st : List Value) (g : px_G) : rn k_Ds_reduced 28 [a0, .int x, a2] st g = rn k_Ds_reduced 29 [a0, .int x, a2] (.int x :: st) g := rn_next dd_Ds_reduced_28 rfl
theorem dd_Ds_reduced_29 : decode (px_rw k_Ds_reduced).2.1 29 = .ok (.aaload, 1) := (by decide +kernel : decode prog_1_method_10_code 29 = .ok (.aaload, 1))
theorem e_Ds_reduced_29 (L : List Value) (i : Int32) (p : Nat) (st : List Value) (T : TS) (hp : (sh p).1 = 3) : rn k_Ds_reduced 29 L (.int i :: .ref p :: st) (enc T) = if px_in i (sh p).2 then rn k_Ds_reduced 30 L (.ref (T.2.2.1 i.toNatClampNeg) :: st) (enc T) else none := rn_aald dd_Ds_reduced_29 (Prod.ext hp rfl)
theorem dd_Ds_reduced_30 : decode (px_rw k_Ds_reduced).2.1 30 = .ok (.getfield 165, 3) := (by decide +kernel : decode prog_1_method_10_code 30 = .ok (.getfield 165, 3))
theorem e_Ds_reduced_30 (L : List Value) (p : Nat) (st : List Value) (T : TS) (hp : sh p = (104, 18)) : rn k_Ds_reduced 30 L (.ref p :: st) (enc T) = rn k_Ds_reduced 33 L (.ref (p + 2) :: st) (enc T) := (rn_getO (n := 18) dd_Ds_reduced_30 rfl (by decide) (by decide) (by decide) rfl hp).trans (by rw [ink_rf_1 hp])
theorem dd_Ds_reduced_33 : decode (px_rw k_Ds_reduced).2.1 33 = .ok (.invokevirtual 191, 3) := (by decide +kernel : decode prog_1_method_10_code 33 = .ok (.invokevirtual 191, 3))
theorem e_Ds_reduced_33 (L : List Value) (r0 : Nat)  (T : TS)  : rn k_Ds_reduced 33 L [.ref r0, .ref 13] (enc T) = bd (cl k_Red_reduce [.ref 13, .ref r0] (enc T)) (fun r g' => rn k_Ds_reduced 36 L (r.toList ++ []) g') := rn_callV (n := 8) (As := [.ref r0]) (rest := []) dd_Ds_reduced_33 rfl (by decide) (by decide) rfl rfl (Nat.le_of_ble_eq_true rfl) (Nat.le_of_ble_eq_true rfl) rfl
theorem dd_Ds_reduced_36 : decode (px_rw k_Ds_reduced).2.1 36 = .ok (.aload_n 0, 1) := (by decide +kernel : decode prog_1_method_10_code 36 = .ok (.aload_n 0, 1))
theorem e_Ds_reduced_36 (a1 a2 : Value) (x : Nat) (st : List Value) (g : px_G) : rn k_Ds_reduced 36 [.ref x, a1, a2] st g = rn k_Ds_reduced 37 [.ref x, a1, a2] (.ref x :: st) g := rn_next dd_Ds_reduced_36 rfl
theorem dd_Ds_reduced_37 : decode (px_rw k_Ds_reduced).2.1 37 = .ok (.getfield 52, 3) := (by decide +kernel : decode prog_1_method_10_code 37 = .ok (.getfield 52, 3))
theorem e_Ds_reduced_37 (L st : List Value) (T : TS) : rn k_Ds_reduced 37 L (.ref 0 :: st) (enc T) = rn k_Ds_reduced 40 L (.ref 13 :: st) (enc T) := rn_getO (n := 13) dd_Ds_reduced_37 rfl (by decide) (by decide) (by decide) rfl rfl
theorem dd_Ds_reduced_40 : decode (px_rw k_Ds_reduced).2.1 40 = .ok (.iload_n 2, 1) := (by decide +kernel : decode prog_1_method_10_code 40 = .ok (.iload_n 2, 1))
theorem e_Ds_reduced_40 (a0 a1 : Value) (x : Int32) (st : List Value) (g : px_G) : rn k_Ds_reduced 40 [a0, a1, .int x] st g = rn k_Ds_reduced 41 [a0, a1, .int x] (.int x :: st) g := rn_next dd_Ds_reduced_40 rfl
theorem dd_Ds_reduced_41 : decode (px_rw k_Ds_reduced).2.1 41 = .ok (.invokevirtual 195, 3) := (by decide +kernel : decode prog_1_method_10_code 41 = .ok (.invokevirtual 195, 3))
theorem e_Ds_reduced_41 (L : List Value) (i0 : Int32)  (T : TS)  : rn k_Ds_reduced 41 L [.int i0, .ref 13] (enc T) = bd (cl k_Red_part [.ref 13, .int i0] (enc T)) (fun r g' => rn k_Ds_reduced 44 L (r.toList ++ []) g') := rn_callV (n := 8) (As := [.int i0]) (rest := []) dd_Ds_reduced_41 rfl (by decide) (by decide) rfl rfl (Nat.le_of_ble_eq_true rfl) (Nat.le_of_ble_eq_true rfl) rfl
theorem dd_Ds_reduced_44 : decode (px_rw k_Ds_reduced).2.1 44 = .ok (.l2i, 1) := (by decide +kernel : decode prog_1_method_10_code 44 = .ok (.l2i, 1))
theorem e_Ds_reduced_44 (L : List Value) (x : Int64) (st : List Value) (g : px_G) : rn k_Ds_reduced 44 L (.long x :: st) g = rn k_Ds_reduced 45 L (.int x.toInt32 :: st) g := rn_next dd_Ds_reduced_44 rfl
theorem dd_Ds_reduced_45 : decode (px_rw k_Ds_reduced).2.1 45 = .ok (.ireturn, 1) := (by decide +kernel : decode prog_1_method_10_code 45 = .ok (.ireturn, 1))
theorem e_Ds_reduced_45 (L : List Value) (v : Int32) (g : px_G) : rn k_Ds_reduced 45 L [.int v] g = some (some (.int v), g) := rn_iret dd_Ds_reduced_45 rfl
theorem c_Ds_spot (r0 : Nat) (i1 : Int32) (i2 : Int32) (i3 : Int32) (g : px_G) : cl k_Ds_spot [.ref r0, .int i1, .int i2, .int i3] g = rn k_Ds_spot 0 [.ref r0, .int i1, .int i2, .int i3, .null] [] g := rfl
theorem dd_Ds_spot_0 : decode (px_rw k_Ds_spot).2.1 0 = .ok (.aload_n 0, 1) := (by decide +kernel : decode prog_1_method_11_code 0 = .ok (.aload_n 0, 1))
theorem e_Ds_spot_0 (a1 a2 a3 a4 : Value) (x : Nat) (st : List Value) (g : px_G) : rn k_Ds_spot 0 [.ref x, a1, a2, a3, a4] st g = rn k_Ds_spot 1 [.ref x, a1, a2, a3, a4] (.ref x :: st) g := rn_next dd_Ds_spot_0 rfl
theorem dd_Ds_spot_1 : decode (px_rw k_Ds_spot).2.1 1 = .ok (.iload_n 1, 1) := (by decide +kernel : decode prog_1_method_11_code 1 = .ok (.iload_n 1, 1))
theorem e_Ds_spot_1 (a0 a2 a3 a4 : Value) (x : Int32) (st : List Value) (g : px_G) : rn k_Ds_spot 1 [a0, .int x, a2, a3, a4] st g = rn k_Ds_spot 2 [a0, .int x, a2, a3, a4] (.int x :: st) g := rn_next dd_Ds_spot_1 rfl
theorem dd_Ds_spot_2 : decode (px_rw k_Ds_spot).2.1 2 = .ok (.invokevirtual 129, 3) := (by decide +kernel : decode prog_1_method_11_code 2 = .ok (.invokevirtual 129, 3))
theorem e_Ds_spot_2 (L : List Value) (i0 : Int32)  (T : TS)  : rn k_Ds_spot 2 L [.int i0, .ref 0] (enc T) = bd (cl k_Ds_isInk [.ref 0, .int i0] (enc T)) (fun r g' => rn k_Ds_spot 5 L (r.toList ++ []) g') := rn_callV (n := 13) (As := [.int i0]) (rest := []) dd_Ds_spot_2 rfl (by decide) (by decide) rfl rfl (Nat.le_of_ble_eq_true rfl) (Nat.le_of_ble_eq_true rfl) rfl
theorem dd_Ds_spot_5 : decode (px_rw k_Ds_spot).2.1 5 = .ok (.ifCond .eq 11, 3) := (by decide +kernel : decode prog_1_method_11_code 5 = .ok (.ifCond .eq 11, 3))
theorem e_Ds_spot_5 (L : List Value) (x : Int32) (st : List Value) (g : px_G) : rn k_Ds_spot 5 L (.int x :: st) g = if x = 0 then rn k_Ds_spot 16 L st g else rn k_Ds_spot 8 L st g := rn_ifeq dd_Ds_spot_5 (by decide)
theorem dd_Ds_spot_8 : decode (px_rw k_Ds_spot).2.1 8 = .ok (.iload_n 2, 1) := (by decide +kernel : decode prog_1_method_11_code 8 = .ok (.iload_n 2, 1))
theorem e_Ds_spot_8 (a0 a1 a3 a4 : Value) (x : Int32) (st : List Value) (g : px_G) : rn k_Ds_spot 8 [a0, a1, .int x, a3, a4] st g = rn k_Ds_spot 9 [a0, a1, .int x, a3, a4] (.int x :: st) g := rn_next dd_Ds_spot_8 rfl
theorem dd_Ds_spot_9 : decode (px_rw k_Ds_spot).2.1 9 = .ok (.iload_n 3, 1) := (by decide +kernel : decode prog_1_method_11_code 9 = .ok (.iload_n 3, 1))
theorem e_Ds_spot_9 (a0 a1 a2 a4 : Value) (x : Int32) (st : List Value) (g : px_G) : rn k_Ds_spot 9 [a0, a1, a2, .int x, a4] st g = rn k_Ds_spot 10 [a0, a1, a2, .int x, a4] (.int x :: st) g := rn_next dd_Ds_spot_9 rfl
theorem dd_Ds_spot_10 : decode (px_rw k_Ds_spot).2.1 10 = .ok (.invokestatic 178, 3) := (by decide +kernel : decode prog_1_method_11_code 10 = .ok (.invokestatic 178, 3))
theorem e_Ds_spot_10 (L : List Value) (i0 : Int32) (i1 : Int32) (g : px_G) : rn k_Ds_spot 10 L [.int i1, .int i0] g = bd (cl k_Ds_isPixel [.int i0, .int i1] g) (fun r g' => rn k_Ds_spot 13 L (r.toList ++ []) g') := rn_callS (As := [.int i0, .int i1]) (rest := []) dd_Ds_spot_10 rfl (by decide) rfl rfl (Nat.le_of_ble_eq_true rfl) (Nat.le_of_ble_eq_true rfl)
theorem dd_Ds_spot_13 : decode (px_rw k_Ds_spot).2.1 13 = .ok (.ifCond .ne 5, 3) := (by decide +kernel : decode prog_1_method_11_code 13 = .ok (.ifCond .ne 5, 3))
theorem e_Ds_spot_13 (L : List Value) (x : Int32) (st : List Value) (g : px_G) : rn k_Ds_spot 13 L (.int x :: st) g = if x = 0 then rn k_Ds_spot 16 L st g else rn k_Ds_spot 18 L st g := rn_ifne dd_Ds_spot_13 (by decide)
theorem dd_Ds_spot_16 : decode (px_rw k_Ds_spot).2.1 16 = .ok (.iconst (-1), 1) := (by decide +kernel : decode prog_1_method_11_code 16 = .ok (.iconst (-1), 1))
theorem e_Ds_spot_16 (L st : List Value) (g : px_G) : rn k_Ds_spot 16 L st g = rn k_Ds_spot 17 L (.int (-1) :: st) g := rn_ipush (i := .iconst (-1)) dd_Ds_spot_16 rfl rfl (by decide)
theorem dd_Ds_spot_17 : decode (px_rw k_Ds_spot).2.1 17 = .ok (.ireturn, 1) := (by decide +kernel : decode prog_1_method_11_code 17 = .ok (.ireturn, 1))
theorem e_Ds_spot_17 (L : List Value) (v : Int32) (g : px_G) : rn k_Ds_spot 17 L [.int v] g = some (some (.int v), g) := rn_iret dd_Ds_spot_17 rfl
theorem dd_Ds_spot_18 : decode (px_rw k_Ds_spot).2.1 18 = .ok (.aload_n 0, 1) := (by decide +kernel : decode prog_1_method_11_code 18 = .ok (.aload_n 0, 1))
theorem e_Ds_spot_18 (a1 a2 a3 a4 : Value) (x : Nat) (st : List Value) (g : px_G) : rn k_Ds_spot 18 [.ref x, a1, a2, a3, a4] st g = rn k_Ds_spot 19 [.ref x, a1, a2, a3, a4] (.ref x :: st) g := rn_next dd_Ds_spot_18 rfl
theorem dd_Ds_spot_19 : decode (px_rw k_Ds_spot).2.1 19 = .ok (.getfield 27, 3) := (by decide +kernel : decode prog_1_method_11_code 19 = .ok (.getfield 27, 3))
theorem e_Ds_spot_19 (L st : List Value) (T : TS) : rn k_Ds_spot 19 L (.ref 0 :: st) (enc T) = rn k_Ds_spot 22 L (.ref 5 :: st) (enc T) := rn_getA (n := 13) dd_Ds_spot_19 rfl (by decide) (by decide) (by decide) rfl rfl
theorem dd_Ds_spot_22 : decode (px_rw k_Ds_spot).2.1 22 = .ok (.iload_n 1, 1) := (by decide +kernel : decode prog_1_method_11_code 22 = .ok (.iload_n 1, 1))
theorem e_Ds_spot_22 (a0 a2 a3 a4 : Value) (x : Int32) (st : List Value) (g : px_G) : rn k_Ds_spot 22 [a0, .int x, a2, a3, a4] st g = rn k_Ds_spot 23 [a0, .int x, a2, a3, a4] (.int x :: st) g := rn_next dd_Ds_spot_22 rfl
theorem dd_Ds_spot_23 : decode (px_rw k_Ds_spot).2.1 23 = .ok (.aaload, 1) := (by decide +kernel : decode prog_1_method_11_code 23 = .ok (.aaload, 1))
theorem e_Ds_spot_23 (L : List Value) (i : Int32) (p : Nat) (st : List Value) (T : TS) (hp : (sh p).1 = 3) : rn k_Ds_spot 23 L (.int i :: .ref p :: st) (enc T) = if px_in i (sh p).2 then rn k_Ds_spot 24 L (.ref (T.2.2.1 i.toNatClampNeg) :: st) (enc T) else none := rn_aald dd_Ds_spot_23 (Prod.ext hp rfl)
theorem dd_Ds_spot_24 : decode (px_rw k_Ds_spot).2.1 24 = .ok (.astore 4, 2) := (by decide +kernel : decode prog_1_method_11_code 24 = .ok (.astore 4, 2))
theorem e_Ds_spot_24 (a0 a1 a2 a3 a4 : Value) (x : Nat) (st : List Value) (g : px_G) : rn k_Ds_spot 24 [a0, a1, a2, a3, a4] (.ref x :: st) g = rn k_Ds_spot 26 [a0, a1, a2, px_kill a3, .ref x] st g := rn_next dd_Ds_spot_24 rfl
theorem dd_Ds_spot_26 : decode (px_rw k_Ds_spot).2.1 26 = .ok (.aload 4, 2) := (by decide +kernel : decode prog_1_method_11_code 26 = .ok (.aload 4, 2))
theorem e_Ds_spot_26 (a0 a1 a2 a3 : Value) (x : Nat) (st : List Value) (g : px_G) : rn k_Ds_spot 26 [a0, a1, a2, a3, .ref x] st g = rn k_Ds_spot 28 [a0, a1, a2, a3, .ref x] (.ref x :: st) g := rn_next dd_Ds_spot_26 rfl
theorem dd_Ds_spot_28 : decode (px_rw k_Ds_spot).2.1 28 = .ok (.invokevirtual 199, 3) := (by decide +kernel : decode prog_1_method_11_code 28 = .ok (.invokevirtual 199, 3))
theorem e_Ds_spot_28 (L : List Value)  (p : Nat) (T : TS) (hp : sh p = (104, 18)) : rn k_Ds_spot 28 L [.ref p] (enc T) = bd (cl k_Ink_sort [.ref p] (enc T)) (fun r g' => rn k_Ds_spot 31 L (r.toList ++ []) g') := rn_callV (n := 18) (As := []) (rest := []) dd_Ds_spot_28 rfl (by decide) (by decide) rfl rfl (Nat.le_of_ble_eq_true rfl) (Nat.le_of_ble_eq_true rfl) hp
theorem dd_Ds_spot_31 : decode (px_rw k_Ds_spot).2.1 31 = .ok (.aload 4, 2) := (by decide +kernel : decode prog_1_method_11_code 31 = .ok (.aload 4, 2))
theorem e_Ds_spot_31 (a0 a1 a2 a3 : Value) (x : Nat) (st : List Value) (g : px_G) : rn k_Ds_spot 31 [a0, a1, a2, a3, .ref x] st g = rn k_Ds_spot 33 [a0, a1, a2, a3, .ref x] (.ref x :: st) g := rn_next dd_Ds_spot_31 rfl
theorem dd_Ds_spot_33 : decode (px_rw k_Ds_spot).2.1 33 = .ok (.getfield 202, 3) := (by decide +kernel : decode prog_1_method_11_code 33 = .ok (.getfield 202, 3))
theorem e_Ds_spot_33 (L : List Value) (p : Nat) (st : List Value) (T : TS) (hp : sh p = (104, 18)) : rn k_Ds_spot 33 L (.ref p :: st) (enc T) = rn k_Ds_spot 36 L (.ref (p + 3) :: st) (enc T) := (rn_getA (n := 18) dd_Ds_spot_33 rfl (by decide) (by decide) (by decide) rfl hp).trans (by rw [ink_rf_7 hp])
theorem dd_Ds_spot_36 : decode (px_rw k_Ds_spot).2.1 36 = .ok (.aload 4, 2) := (by decide +kernel : decode prog_1_method_11_code 36 = .ok (.aload 4, 2))
theorem e_Ds_spot_36 (a0 a1 a2 a3 : Value) (x : Nat) (st : List Value) (g : px_G) : rn k_Ds_spot 36 [a0, a1, a2, a3, .ref x] st g = rn k_Ds_spot 38 [a0, a1, a2, a3, .ref x] (.ref x :: st) g := rn_next dd_Ds_spot_36 rfl
theorem dd_Ds_spot_38 : decode (px_rw k_Ds_spot).2.1 38 = .ok (.iload_n 2, 1) := (by decide +kernel : decode prog_1_method_11_code 38 = .ok (.iload_n 2, 1))
theorem e_Ds_spot_38 (a0 a1 a3 a4 : Value) (x : Int32) (st : List Value) (g : px_G) : rn k_Ds_spot 38 [a0, a1, .int x, a3, a4] st g = rn k_Ds_spot 39 [a0, a1, .int x, a3, a4] (.int x :: st) g := rn_next dd_Ds_spot_38 rfl
theorem dd_Ds_spot_39 : decode (px_rw k_Ds_spot).2.1 39 = .ok (.iload_n 3, 1) := (by decide +kernel : decode prog_1_method_11_code 39 = .ok (.iload_n 3, 1))
theorem e_Ds_spot_39 (a0 a1 a2 a4 : Value) (x : Int32) (st : List Value) (g : px_G) : rn k_Ds_spot 39 [a0, a1, a2, .int x, a4] st g = rn k_Ds_spot 40 [a0, a1, a2, .int x, a4] (.int x :: st) g := rn_next dd_Ds_spot_39 rfl
theorem dd_Ds_spot_40 : decode (px_rw k_Ds_spot).2.1 40 = .ok (.invokevirtual 185, 3) := (by decide +kernel : decode prog_1_method_11_code 40 = .ok (.invokevirtual 185, 3))
theorem e_Ds_spot_40 (L : List Value) (i0 : Int32) (i1 : Int32) (r100 : Nat) (p : Nat) (T : TS) (hp : sh p = (104, 18)) : rn k_Ds_spot 40 L [.int i1, .int i0, .ref p, .ref r100] (enc T) = bd (cl k_Ink_placeOf [.ref p, .int i0, .int i1] (enc T)) (fun r g' => rn k_Ds_spot 43 L (r.toList ++ [.ref r100]) g') := rn_callV (n := 18) (As := [.int i0, .int i1]) (rest := [.ref r100]) dd_Ds_spot_40 rfl (by decide) (by decide) rfl rfl (Nat.le_of_ble_eq_true rfl) (Nat.le_of_ble_eq_true rfl) hp
theorem dd_Ds_spot_43 : decode (px_rw k_Ds_spot).2.1 43 = .ok (.invokestatic 205, 3) := (by decide +kernel : decode prog_1_method_11_code 43 = .ok (.invokestatic 205, 3))
theorem e_Ds_spot_43 (L : List Value) (r0 : Nat) (i1 : Int32) (g : px_G) : rn k_Ds_spot 43 L [.int i1, .ref r0] g = bd (cl k_Ds_at [.ref r0, .int i1] g) (fun r g' => rn k_Ds_spot 46 L (r.toList ++ []) g') := rn_callS (As := [.ref r0, .int i1]) (rest := []) dd_Ds_spot_43 rfl (by decide) rfl rfl (Nat.le_of_ble_eq_true rfl) (Nat.le_of_ble_eq_true rfl)
theorem dd_Ds_spot_46 : decode (px_rw k_Ds_spot).2.1 46 = .ok (.ireturn, 1) := (by decide +kernel : decode prog_1_method_11_code 46 = .ok (.ireturn, 1))
theorem e_Ds_spot_46 (L : List Value) (v : Int32) (g : px_G) : rn k_Ds_spot 46 L [.int v] g = some (some (.int v), g) := rn_iret dd_Ds_spot_46 rfl
theorem c_Ds_rank (r0 : Nat) (i1 : Int32) (i2 : Int32) (i3 : Int32) (g : px_G) : cl k_Ds_rank [.ref r0, .int i1, .int i2, .int i3] g = rn k_Ds_rank 0 [.ref r0, .int i1, .int i2, .int i3, .null] [] g := rfl
theorem dd_Ds_rank_0 : decode (px_rw k_Ds_rank).2.1 0 = .ok (.aload_n 0, 1) := (by decide +kernel : decode prog_1_method_12_code 0 = .ok (.aload_n 0, 1))
theorem e_Ds_rank_0 (a1 a2 a3 a4 : Value) (x : Nat) (st : List Value) (g : px_G) : rn k_Ds_rank 0 [.ref x, a1, a2, a3, a4] st g = rn k_Ds_rank 1 [.ref x, a1, a2, a3, a4] (.ref x :: st) g := rn_next dd_Ds_rank_0 rfl
theorem dd_Ds_rank_1 : decode (px_rw k_Ds_rank).2.1 1 = .ok (.iload_n 1, 1) := (by decide +kernel : decode prog_1_method_12_code 1 = .ok (.iload_n 1, 1))
theorem e_Ds_rank_1 (a0 a2 a3 a4 : Value) (x : Int32) (st : List Value) (g : px_G) : rn k_Ds_rank 1 [a0, .int x, a2, a3, a4] st g = rn k_Ds_rank 2 [a0, .int x, a2, a3, a4] (.int x :: st) g := rn_next dd_Ds_rank_1 rfl
theorem dd_Ds_rank_2 : decode (px_rw k_Ds_rank).2.1 2 = .ok (.invokevirtual 129, 3) := (by decide +kernel : decode prog_1_method_12_code 2 = .ok (.invokevirtual 129, 3))
theorem e_Ds_rank_2 (L : List Value) (i0 : Int32)  (T : TS)  : rn k_Ds_rank 2 L [.int i0, .ref 0] (enc T) = bd (cl k_Ds_isInk [.ref 0, .int i0] (enc T)) (fun r g' => rn k_Ds_rank 5 L (r.toList ++ []) g') := rn_callV (n := 13) (As := [.int i0]) (rest := []) dd_Ds_rank_2 rfl (by decide) (by decide) rfl rfl (Nat.le_of_ble_eq_true rfl) (Nat.le_of_ble_eq_true rfl) rfl
theorem dd_Ds_rank_5 : decode (px_rw k_Ds_rank).2.1 5 = .ok (.ifCond .eq 11, 3) := (by decide +kernel : decode prog_1_method_12_code 5 = .ok (.ifCond .eq 11, 3))
theorem e_Ds_rank_5 (L : List Value) (x : Int32) (st : List Value) (g : px_G) : rn k_Ds_rank 5 L (.int x :: st) g = if x = 0 then rn k_Ds_rank 16 L st g else rn k_Ds_rank 8 L st g := rn_ifeq dd_Ds_rank_5 (by decide)
theorem dd_Ds_rank_8 : decode (px_rw k_Ds_rank).2.1 8 = .ok (.iload_n 2, 1) := (by decide +kernel : decode prog_1_method_12_code 8 = .ok (.iload_n 2, 1))
theorem e_Ds_rank_8 (a0 a1 a3 a4 : Value) (x : Int32) (st : List Value) (g : px_G) : rn k_Ds_rank 8 [a0, a1, .int x, a3, a4] st g = rn k_Ds_rank 9 [a0, a1, .int x, a3, a4] (.int x :: st) g := rn_next dd_Ds_rank_8 rfl
theorem dd_Ds_rank_9 : decode (px_rw k_Ds_rank).2.1 9 = .ok (.iload_n 3, 1) := (by decide +kernel : decode prog_1_method_12_code 9 = .ok (.iload_n 3, 1))
theorem e_Ds_rank_9 (a0 a1 a2 a4 : Value) (x : Int32) (st : List Value) (g : px_G) : rn k_Ds_rank 9 [a0, a1, a2, .int x, a4] st g = rn k_Ds_rank 10 [a0, a1, a2, .int x, a4] (.int x :: st) g := rn_next dd_Ds_rank_9 rfl
theorem dd_Ds_rank_10 : decode (px_rw k_Ds_rank).2.1 10 = .ok (.invokestatic 178, 3) := (by decide +kernel : decode prog_1_method_12_code 10 = .ok (.invokestatic 178, 3))
theorem e_Ds_rank_10 (L : List Value) (i0 : Int32) (i1 : Int32) (g : px_G) : rn k_Ds_rank 10 L [.int i1, .int i0] g = bd (cl k_Ds_isPixel [.int i0, .int i1] g) (fun r g' => rn k_Ds_rank 13 L (r.toList ++ []) g') := rn_callS (As := [.int i0, .int i1]) (rest := []) dd_Ds_rank_10 rfl (by decide) rfl rfl (Nat.le_of_ble_eq_true rfl) (Nat.le_of_ble_eq_true rfl)
theorem dd_Ds_rank_13 : decode (px_rw k_Ds_rank).2.1 13 = .ok (.ifCond .ne 5, 3) := (by decide +kernel : decode prog_1_method_12_code 13 = .ok (.ifCond .ne 5, 3))
theorem e_Ds_rank_13 (L : List Value) (x : Int32) (st : List Value) (g : px_G) : rn k_Ds_rank 13 L (.int x :: st) g = if x = 0 then rn k_Ds_rank 16 L st g else rn k_Ds_rank 18 L st g := rn_ifne dd_Ds_rank_13 (by decide)
theorem dd_Ds_rank_16 : decode (px_rw k_Ds_rank).2.1 16 = .ok (.iconst (-1), 1) := (by decide +kernel : decode prog_1_method_12_code 16 = .ok (.iconst (-1), 1))
theorem e_Ds_rank_16 (L st : List Value) (g : px_G) : rn k_Ds_rank 16 L st g = rn k_Ds_rank 17 L (.int (-1) :: st) g := rn_ipush (i := .iconst (-1)) dd_Ds_rank_16 rfl rfl (by decide)
theorem dd_Ds_rank_17 : decode (px_rw k_Ds_rank).2.1 17 = .ok (.ireturn, 1) := (by decide +kernel : decode prog_1_method_12_code 17 = .ok (.ireturn, 1))
theorem e_Ds_rank_17 (L : List Value) (v : Int32) (g : px_G) : rn k_Ds_rank 17 L [.int v] g = some (some (.int v), g) := rn_iret dd_Ds_rank_17 rfl
theorem dd_Ds_rank_18 : decode (px_rw k_Ds_rank).2.1 18 = .ok (.aload_n 0, 1) := (by decide +kernel : decode prog_1_method_12_code 18 = .ok (.aload_n 0, 1))
theorem e_Ds_rank_18 (a1 a2 a3 a4 : Value) (x : Nat) (st : List Value) (g : px_G) : rn k_Ds_rank 18 [.ref x, a1, a2, a3, a4] st g = rn k_Ds_rank 19 [.ref x, a1, a2, a3, a4] (.ref x :: st) g := rn_next dd_Ds_rank_18 rfl
theorem dd_Ds_rank_19 : decode (px_rw k_Ds_rank).2.1 19 = .ok (.getfield 27, 3) := (by decide +kernel : decode prog_1_method_12_code 19 = .ok (.getfield 27, 3))
theorem e_Ds_rank_19 (L st : List Value) (T : TS) : rn k_Ds_rank 19 L (.ref 0 :: st) (enc T) = rn k_Ds_rank 22 L (.ref 5 :: st) (enc T) := rn_getA (n := 13) dd_Ds_rank_19 rfl (by decide) (by decide) (by decide) rfl rfl
theorem dd_Ds_rank_22 : decode (px_rw k_Ds_rank).2.1 22 = .ok (.iload_n 1, 1) := (by decide +kernel : decode prog_1_method_12_code 22 = .ok (.iload_n 1, 1))
theorem e_Ds_rank_22 (a0 a2 a3 a4 : Value) (x : Int32) (st : List Value) (g : px_G) : rn k_Ds_rank 22 [a0, .int x, a2, a3, a4] st g = rn k_Ds_rank 23 [a0, .int x, a2, a3, a4] (.int x :: st) g := rn_next dd_Ds_rank_22 rfl
theorem dd_Ds_rank_23 : decode (px_rw k_Ds_rank).2.1 23 = .ok (.aaload, 1) := (by decide +kernel : decode prog_1_method_12_code 23 = .ok (.aaload, 1))
theorem e_Ds_rank_23 (L : List Value) (i : Int32) (p : Nat) (st : List Value) (T : TS) (hp : (sh p).1 = 3) : rn k_Ds_rank 23 L (.int i :: .ref p :: st) (enc T) = if px_in i (sh p).2 then rn k_Ds_rank 24 L (.ref (T.2.2.1 i.toNatClampNeg) :: st) (enc T) else none := rn_aald dd_Ds_rank_23 (Prod.ext hp rfl)
theorem dd_Ds_rank_24 : decode (px_rw k_Ds_rank).2.1 24 = .ok (.astore 4, 2) := (by decide +kernel : decode prog_1_method_12_code 24 = .ok (.astore 4, 2))
theorem e_Ds_rank_24 (a0 a1 a2 a3 a4 : Value) (x : Nat) (st : List Value) (g : px_G) : rn k_Ds_rank 24 [a0, a1, a2, a3, a4] (.ref x :: st) g = rn k_Ds_rank 26 [a0, a1, a2, px_kill a3, .ref x] st g := rn_next dd_Ds_rank_24 rfl
theorem dd_Ds_rank_26 : decode (px_rw k_Ds_rank).2.1 26 = .ok (.aload 4, 2) := (by decide +kernel : decode prog_1_method_12_code 26 = .ok (.aload 4, 2))
theorem e_Ds_rank_26 (a0 a1 a2 a3 : Value) (x : Nat) (st : List Value) (g : px_G) : rn k_Ds_rank 26 [a0, a1, a2, a3, .ref x] st g = rn k_Ds_rank 28 [a0, a1, a2, a3, .ref x] (.ref x :: st) g := rn_next dd_Ds_rank_26 rfl
theorem dd_Ds_rank_28 : decode (px_rw k_Ds_rank).2.1 28 = .ok (.invokevirtual 199, 3) := (by decide +kernel : decode prog_1_method_12_code 28 = .ok (.invokevirtual 199, 3))
theorem e_Ds_rank_28 (L : List Value)  (p : Nat) (T : TS) (hp : sh p = (104, 18)) : rn k_Ds_rank 28 L [.ref p] (enc T) = bd (cl k_Ink_sort [.ref p] (enc T)) (fun r g' => rn k_Ds_rank 31 L (r.toList ++ []) g') := rn_callV (n := 18) (As := []) (rest := []) dd_Ds_rank_28 rfl (by decide) (by decide) rfl rfl (Nat.le_of_ble_eq_true rfl) (Nat.le_of_ble_eq_true rfl) hp
theorem dd_Ds_rank_31 : decode (px_rw k_Ds_rank).2.1 31 = .ok (.aload 4, 2) := (by decide +kernel : decode prog_1_method_12_code 31 = .ok (.aload 4, 2))
theorem e_Ds_rank_31 (a0 a1 a2 a3 : Value) (x : Nat) (st : List Value) (g : px_G) : rn k_Ds_rank 31 [a0, a1, a2, a3, .ref x] st g = rn k_Ds_rank 33 [a0, a1, a2, a3, .ref x] (.ref x :: st) g := rn_next dd_Ds_rank_31 rfl
theorem dd_Ds_rank_33 : decode (px_rw k_Ds_rank).2.1 33 = .ok (.getfield 209, 3) := (by decide +kernel : decode prog_1_method_12_code 33 = .ok (.getfield 209, 3))
theorem e_Ds_rank_33 (L : List Value) (p : Nat) (st : List Value) (T : TS) (hp : sh p = (104, 18)) : rn k_Ds_rank 33 L (.ref p :: st) (enc T) = rn k_Ds_rank 36 L (.ref (p + 4) :: st) (enc T) := (rn_getA (n := 18) dd_Ds_rank_33 rfl (by decide) (by decide) (by decide) rfl hp).trans (by rw [ink_rf_8 hp])
theorem dd_Ds_rank_36 : decode (px_rw k_Ds_rank).2.1 36 = .ok (.aload 4, 2) := (by decide +kernel : decode prog_1_method_12_code 36 = .ok (.aload 4, 2))
theorem e_Ds_rank_36 (a0 a1 a2 a3 : Value) (x : Nat) (st : List Value) (g : px_G) : rn k_Ds_rank 36 [a0, a1, a2, a3, .ref x] st g = rn k_Ds_rank 38 [a0, a1, a2, a3, .ref x] (.ref x :: st) g := rn_next dd_Ds_rank_36 rfl
theorem dd_Ds_rank_38 : decode (px_rw k_Ds_rank).2.1 38 = .ok (.iload_n 2, 1) := (by decide +kernel : decode prog_1_method_12_code 38 = .ok (.iload_n 2, 1))
theorem e_Ds_rank_38 (a0 a1 a3 a4 : Value) (x : Int32) (st : List Value) (g : px_G) : rn k_Ds_rank 38 [a0, a1, .int x, a3, a4] st g = rn k_Ds_rank 39 [a0, a1, .int x, a3, a4] (.int x :: st) g := rn_next dd_Ds_rank_38 rfl
theorem dd_Ds_rank_39 : decode (px_rw k_Ds_rank).2.1 39 = .ok (.iload_n 3, 1) := (by decide +kernel : decode prog_1_method_12_code 39 = .ok (.iload_n 3, 1))
theorem e_Ds_rank_39 (a0 a1 a2 a4 : Value) (x : Int32) (st : List Value) (g : px_G) : rn k_Ds_rank 39 [a0, a1, a2, .int x, a4] st g = rn k_Ds_rank 40 [a0, a1, a2, .int x, a4] (.int x :: st) g := rn_next dd_Ds_rank_39 rfl
theorem dd_Ds_rank_40 : decode (px_rw k_Ds_rank).2.1 40 = .ok (.invokevirtual 185, 3) := (by decide +kernel : decode prog_1_method_12_code 40 = .ok (.invokevirtual 185, 3))
theorem e_Ds_rank_40 (L : List Value) (i0 : Int32) (i1 : Int32) (r100 : Nat) (p : Nat) (T : TS) (hp : sh p = (104, 18)) : rn k_Ds_rank 40 L [.int i1, .int i0, .ref p, .ref r100] (enc T) = bd (cl k_Ink_placeOf [.ref p, .int i0, .int i1] (enc T)) (fun r g' => rn k_Ds_rank 43 L (r.toList ++ [.ref r100]) g') := rn_callV (n := 18) (As := [.int i0, .int i1]) (rest := [.ref r100]) dd_Ds_rank_40 rfl (by decide) (by decide) rfl rfl (Nat.le_of_ble_eq_true rfl) (Nat.le_of_ble_eq_true rfl) hp
theorem dd_Ds_rank_43 : decode (px_rw k_Ds_rank).2.1 43 = .ok (.invokestatic 205, 3) := (by decide +kernel : decode prog_1_method_12_code 43 = .ok (.invokestatic 205, 3))
theorem e_Ds_rank_43 (L : List Value) (r0 : Nat) (i1 : Int32) (g : px_G) : rn k_Ds_rank 43 L [.int i1, .ref r0] g = bd (cl k_Ds_at [.ref r0, .int i1] g) (fun r g' => rn k_Ds_rank 46 L (r.toList ++ []) g') := rn_callS (As := [.ref r0, .int i1]) (rest := []) dd_Ds_rank_43 rfl (by decide) rfl rfl (Nat.le_of_ble_eq_true rfl) (Nat.le_of_ble_eq_true rfl)
theorem dd_Ds_rank_46 : decode (px_rw k_Ds_rank).2.1 46 = .ok (.ireturn, 1) := (by decide +kernel : decode prog_1_method_12_code 46 = .ok (.ireturn, 1))
theorem e_Ds_rank_46 (L : List Value) (v : Int32) (g : px_G) : rn k_Ds_rank 46 L [.int v] g = some (some (.int v), g) := rn_iret dd_Ds_rank_46 rfl
theorem c_Ds_ranked (r0 : Nat) (i1 : Int32) (i2 : Int32) (i3 : Int32) (g : px_G) : cl k_Ds_ranked [.ref r0, .int i1, .int i2, .int i3] g = rn k_Ds_ranked 0 [.ref r0, .int i1, .int i2, .int i3, .null] [] g := rfl
theorem dd_Ds_ranked_0 : decode (px_rw k_Ds_ranked).2.1 0 = .ok (.aload_n 0, 1) := (by decide +kernel : decode prog_1_method_13_code 0 = .ok (.aload_n 0, 1))
theorem e_Ds_ranked_0 (a1 a2 a3 a4 : Value) (x : Nat) (st : List Value) (g : px_G) : rn k_Ds_ranked 0 [.ref x, a1, a2, a3, a4] st g = rn k_Ds_ranked 1 [.ref x, a1, a2, a3, a4] (.ref x :: st) g := rn_next dd_Ds_ranked_0 rfl
theorem dd_Ds_ranked_1 : decode (px_rw k_Ds_ranked).2.1 1 = .ok (.iload_n 1, 1) := (by decide +kernel : decode prog_1_method_13_code 1 = .ok (.iload_n 1, 1))
theorem e_Ds_ranked_1 (a0 a2 a3 a4 : Value) (x : Int32) (st : List Value) (g : px_G) : rn k_Ds_ranked 1 [a0, .int x, a2, a3, a4] st g = rn k_Ds_ranked 2 [a0, .int x, a2, a3, a4] (.int x :: st) g := rn_next dd_Ds_ranked_1 rfl
theorem dd_Ds_ranked_2 : decode (px_rw k_Ds_ranked).2.1 2 = .ok (.invokevirtual 129, 3) := (by decide +kernel : decode prog_1_method_13_code 2 = .ok (.invokevirtual 129, 3))
theorem e_Ds_ranked_2 (L : List Value) (i0 : Int32)  (T : TS)  : rn k_Ds_ranked 2 L [.int i0, .ref 0] (enc T) = bd (cl k_Ds_isInk [.ref 0, .int i0] (enc T)) (fun r g' => rn k_Ds_ranked 5 L (r.toList ++ []) g') := rn_callV (n := 13) (As := [.int i0]) (rest := []) dd_Ds_ranked_2 rfl (by decide) (by decide) rfl rfl (Nat.le_of_ble_eq_true rfl) (Nat.le_of_ble_eq_true rfl) rfl
theorem dd_Ds_ranked_5 : decode (px_rw k_Ds_ranked).2.1 5 = .ok (.ifCond .eq 27, 3) := (by decide +kernel : decode prog_1_method_13_code 5 = .ok (.ifCond .eq 27, 3))
theorem e_Ds_ranked_5 (L : List Value) (x : Int32) (st : List Value) (g : px_G) : rn k_Ds_ranked 5 L (.int x :: st) g = if x = 0 then rn k_Ds_ranked 32 L st g else rn k_Ds_ranked 8 L st g := rn_ifeq dd_Ds_ranked_5 (by decide)
theorem dd_Ds_ranked_8 : decode (px_rw k_Ds_ranked).2.1 8 = .ok (.iload_n 3, 1) := (by decide +kernel : decode prog_1_method_13_code 8 = .ok (.iload_n 3, 1))
theorem e_Ds_ranked_8 (a0 a1 a2 a4 : Value) (x : Int32) (st : List Value) (g : px_G) : rn k_Ds_ranked 8 [a0, a1, a2, .int x, a4] st g = rn k_Ds_ranked 9 [a0, a1, a2, .int x, a4] (.int x :: st) g := rn_next dd_Ds_ranked_8 rfl
theorem dd_Ds_ranked_9 : decode (px_rw k_Ds_ranked).2.1 9 = .ok (.invokestatic 182, 3) := (by decide +kernel : decode prog_1_method_13_code 9 = .ok (.invokestatic 182, 3))
theorem e_Ds_ranked_9 (L : List Value) (i0 : Int32) (g : px_G) : rn k_Ds_ranked 9 L [.int i0] g = bd (cl k_Ds_isAxis [.int i0] g) (fun r g' => rn k_Ds_ranked 12 L (r.toList ++ []) g') := rn_callS (As := [.int i0]) (rest := []) dd_Ds_ranked_9 rfl (by decide) rfl rfl (Nat.le_of_ble_eq_true rfl) (Nat.le_of_ble_eq_true rfl)
theorem dd_Ds_ranked_12 : decode (px_rw k_Ds_ranked).2.1 12 = .ok (.ifCond .eq 20, 3) := (by decide +kernel : decode prog_1_method_13_code 12 = .ok (.ifCond .eq 20, 3))
theorem e_Ds_ranked_12 (L : List Value) (x : Int32) (st : List Value) (g : px_G) : rn k_Ds_ranked 12 L (.int x :: st) g = if x = 0 then rn k_Ds_ranked 32 L st g else rn k_Ds_ranked 15 L st g := rn_ifeq dd_Ds_ranked_12 (by decide)
theorem dd_Ds_ranked_15 : decode (px_rw k_Ds_ranked).2.1 15 = .ok (.iload_n 2, 1) := (by decide +kernel : decode prog_1_method_13_code 15 = .ok (.iload_n 2, 1))
theorem e_Ds_ranked_15 (a0 a1 a3 a4 : Value) (x : Int32) (st : List Value) (g : px_G) : rn k_Ds_ranked 15 [a0, a1, .int x, a3, a4] st g = rn k_Ds_ranked 16 [a0, a1, .int x, a3, a4] (.int x :: st) g := rn_next dd_Ds_ranked_15 rfl
theorem dd_Ds_ranked_16 : decode (px_rw k_Ds_ranked).2.1 16 = .ok (.ifCond .lt 16, 3) := (by decide +kernel : decode prog_1_method_13_code 16 = .ok (.ifCond .lt 16, 3))
theorem e_Ds_ranked_16 (L : List Value) (x : Int32) (st : List Value) (g : px_G) : rn k_Ds_ranked 16 L (.int x :: st) g = if x < 0 then rn k_Ds_ranked 32 L st g else rn k_Ds_ranked 19 L st g := rn_iflt dd_Ds_ranked_16 (by decide)
theorem dd_Ds_ranked_19 : decode (px_rw k_Ds_ranked).2.1 19 = .ok (.iload_n 2, 1) := (by decide +kernel : decode prog_1_method_13_code 19 = .ok (.iload_n 2, 1))
theorem e_Ds_ranked_19 (a0 a1 a3 a4 : Value) (x : Int32) (st : List Value) (g : px_G) : rn k_Ds_ranked 19 [a0, a1, .int x, a3, a4] st g = rn k_Ds_ranked 20 [a0, a1, .int x, a3, a4] (.int x :: st) g := rn_next dd_Ds_ranked_19 rfl
theorem dd_Ds_ranked_20 : decode (px_rw k_Ds_ranked).2.1 20 = .ok (.aload_n 0, 1) := (by decide +kernel : decode prog_1_method_13_code 20 = .ok (.aload_n 0, 1))
theorem e_Ds_ranked_20 (a1 a2 a3 a4 : Value) (x : Nat) (st : List Value) (g : px_G) : rn k_Ds_ranked 20 [.ref x, a1, a2, a3, a4] st g = rn k_Ds_ranked 21 [.ref x, a1, a2, a3, a4] (.ref x :: st) g := rn_next dd_Ds_ranked_20 rfl
theorem dd_Ds_ranked_21 : decode (px_rw k_Ds_ranked).2.1 21 = .ok (.getfield 27, 3) := (by decide +kernel : decode prog_1_method_13_code 21 = .ok (.getfield 27, 3))
theorem e_Ds_ranked_21 (L st : List Value) (T : TS) : rn k_Ds_ranked 21 L (.ref 0 :: st) (enc T) = rn k_Ds_ranked 24 L (.ref 5 :: st) (enc T) := rn_getA (n := 13) dd_Ds_ranked_21 rfl (by decide) (by decide) (by decide) rfl rfl
theorem dd_Ds_ranked_24 : decode (px_rw k_Ds_ranked).2.1 24 = .ok (.iload_n 1, 1) := (by decide +kernel : decode prog_1_method_13_code 24 = .ok (.iload_n 1, 1))
theorem e_Ds_ranked_24 (a0 a2 a3 a4 : Value) (x : Int32) (st : List Value) (g : px_G) : rn k_Ds_ranked 24 [a0, .int x, a2, a3, a4] st g = rn k_Ds_ranked 25 [a0, .int x, a2, a3, a4] (.int x :: st) g := rn_next dd_Ds_ranked_24 rfl
theorem dd_Ds_ranked_25 : decode (px_rw k_Ds_ranked).2.1 25 = .ok (.aaload, 1) := (by decide +kernel : decode prog_1_method_13_code 25 = .ok (.aaload, 1))
theorem e_Ds_ranked_25 (L : List Value) (i : Int32) (p : Nat) (st : List Value) (T : TS) (hp : (sh p).1 = 3) : rn k_Ds_ranked 25 L (.int i :: .ref p :: st) (enc T) = if px_in i (sh p).2 then rn k_Ds_ranked 26 L (.ref (T.2.2.1 i.toNatClampNeg) :: st) (enc T) else none := rn_aald dd_Ds_ranked_25 (Prod.ext hp rfl)
theorem dd_Ds_ranked_26 : decode (px_rw k_Ds_ranked).2.1 26 = .ok (.getfield 154, 3) := (by decide +kernel : decode prog_1_method_13_code 26 = .ok (.getfield 154, 3))
theorem e_Ds_ranked_26 (L : List Value) (p : Nat) (st : List Value) (T : TS) (hp : sh p = (104, 18)) : rn k_Ds_ranked 26 L (.ref p :: st) (enc T) = rn k_Ds_ranked 29 L (.int (T.1 p 2) :: st) (enc T) := rn_getI (n := 18) dd_Ds_ranked_26 rfl (by decide) (by decide) (by decide) rfl hp
theorem dd_Ds_ranked_29 : decode (px_rw k_Ds_ranked).2.1 29 = .ok (.if_icmp .lt 6, 3) := (by decide +kernel : decode prog_1_method_13_code 29 = .ok (.if_icmp .lt 6, 3))
theorem e_Ds_ranked_29 (L : List Value) (x y : Int32) (st : List Value) (g : px_G) : rn k_Ds_ranked 29 L (.int y :: .int x :: st) g = if x < y then rn k_Ds_ranked 35 L st g else rn k_Ds_ranked 32 L st g := rn_iclt dd_Ds_ranked_29 (by decide)
theorem dd_Ds_ranked_32 : decode (px_rw k_Ds_ranked).2.1 32 = .ok (.ldc 164, 2) := (by decide +kernel : decode prog_1_method_13_code 32 = .ok (.ldc 164, 2))
theorem e_Ds_ranked_32 (L st : List Value) (g : px_G) : rn k_Ds_ranked 32 L st g = rn k_Ds_ranked 34 L (.int (-1000000) :: st) g := rn_ldc (i := .ldc 164) (w := .int (Int32.ofInt (-1000000))) dd_Ds_ranked_32 rfl rfl rfl rfl rfl (by decide)
theorem dd_Ds_ranked_34 : decode (px_rw k_Ds_ranked).2.1 34 = .ok (.ireturn, 1) := (by decide +kernel : decode prog_1_method_13_code 34 = .ok (.ireturn, 1))
theorem e_Ds_ranked_34 (L : List Value) (v : Int32) (g : px_G) : rn k_Ds_ranked 34 L [.int v] g = some (some (.int v), g) := rn_iret dd_Ds_ranked_34 rfl
theorem dd_Ds_ranked_35 : decode (px_rw k_Ds_ranked).2.1 35 = .ok (.aload_n 0, 1) := (by decide +kernel : decode prog_1_method_13_code 35 = .ok (.aload_n 0, 1))
theorem e_Ds_ranked_35 (a1 a2 a3 a4 : Value) (x : Nat) (st : List Value) (g : px_G) : rn k_Ds_ranked 35 [.ref x, a1, a2, a3, a4] st g = rn k_Ds_ranked 36 [.ref x, a1, a2, a3, a4] (.ref x :: st) g := rn_next dd_Ds_ranked_35 rfl
theorem dd_Ds_ranked_36 : decode (px_rw k_Ds_ranked).2.1 36 = .ok (.getfield 27, 3) := (by decide +kernel : decode prog_1_method_13_code 36 = .ok (.getfield 27, 3))
theorem e_Ds_ranked_36 (L st : List Value) (T : TS) : rn k_Ds_ranked 36 L (.ref 0 :: st) (enc T) = rn k_Ds_ranked 39 L (.ref 5 :: st) (enc T) := rn_getA (n := 13) dd_Ds_ranked_36 rfl (by decide) (by decide) (by decide) rfl rfl
theorem dd_Ds_ranked_39 : decode (px_rw k_Ds_ranked).2.1 39 = .ok (.iload_n 1, 1) := (by decide +kernel : decode prog_1_method_13_code 39 = .ok (.iload_n 1, 1))
theorem e_Ds_ranked_39 (a0 a2 a3 a4 : Value) (x : Int32) (st : List Value) (g : px_G) : rn k_Ds_ranked 39 [a0, .int x, a2, a3, a4] st g = rn k_Ds_ranked 40 [a0, .int x, a2, a3, a4] (.int x :: st) g := rn_next dd_Ds_ranked_39 rfl
theorem dd_Ds_ranked_40 : decode (px_rw k_Ds_ranked).2.1 40 = .ok (.aaload, 1) := (by decide +kernel : decode prog_1_method_13_code 40 = .ok (.aaload, 1))
theorem e_Ds_ranked_40 (L : List Value) (i : Int32) (p : Nat) (st : List Value) (T : TS) (hp : (sh p).1 = 3) : rn k_Ds_ranked 40 L (.int i :: .ref p :: st) (enc T) = if px_in i (sh p).2 then rn k_Ds_ranked 41 L (.ref (T.2.2.1 i.toNatClampNeg) :: st) (enc T) else none := rn_aald dd_Ds_ranked_40 (Prod.ext hp rfl)
theorem dd_Ds_ranked_41 : decode (px_rw k_Ds_ranked).2.1 41 = .ok (.astore 4, 2) := (by decide +kernel : decode prog_1_method_13_code 41 = .ok (.astore 4, 2))
theorem e_Ds_ranked_41 (a0 a1 a2 a3 a4 : Value) (x : Nat) (st : List Value) (g : px_G) : rn k_Ds_ranked 41 [a0, a1, a2, a3, a4] (.ref x :: st) g = rn k_Ds_ranked 43 [a0, a1, a2, px_kill a3, .ref x] st g := rn_next dd_Ds_ranked_41 rfl
theorem dd_Ds_ranked_43 : decode (px_rw k_Ds_ranked).2.1 43 = .ok (.aload 4, 2) := (by decide +kernel : decode prog_1_method_13_code 43 = .ok (.aload 4, 2))
theorem e_Ds_ranked_43 (a0 a1 a2 a3 : Value) (x : Nat) (st : List Value) (g : px_G) : rn k_Ds_ranked 43 [a0, a1, a2, a3, .ref x] st g = rn k_Ds_ranked 45 [a0, a1, a2, a3, .ref x] (.ref x :: st) g := rn_next dd_Ds_ranked_43 rfl
theorem dd_Ds_ranked_45 : decode (px_rw k_Ds_ranked).2.1 45 = .ok (.invokevirtual 199, 3) := (by decide +kernel : decode prog_1_method_13_code 45 = .ok (.invokevirtual 199, 3))
theorem e_Ds_ranked_45 (L : List Value)  (p : Nat) (T : TS) (hp : sh p = (104, 18)) : rn k_Ds_ranked 45 L [.ref p] (enc T) = bd (cl k_Ink_sort [.ref p] (enc T)) (fun r g' => rn k_Ds_ranked 48 L (r.toList ++ []) g') := rn_callV (n := 18) (As := []) (rest := []) dd_Ds_ranked_45 rfl (by decide) (by decide) rfl rfl (Nat.le_of_ble_eq_true rfl) (Nat.le_of_ble_eq_true rfl) hp
theorem dd_Ds_ranked_48 : decode (px_rw k_Ds_ranked).2.1 48 = .ok (.aload 4, 2) := (by decide +kernel : decode prog_1_method_13_code 48 = .ok (.aload 4, 2))
theorem e_Ds_ranked_48 (a0 a1 a2 a3 : Value) (x : Nat) (st : List Value) (g : px_G) : rn k_Ds_ranked 48 [a0, a1, a2, a3, .ref x] st g = rn k_Ds_ranked 50 [a0, a1, a2, a3, .ref x] (.ref x :: st) g := rn_next dd_Ds_ranked_48 rfl
theorem dd_Ds_ranked_50 : decode (px_rw k_Ds_ranked).2.1 50 = .ok (.aload 4, 2) := (by decide +kernel : decode prog_1_method_13_code 50 = .ok (.aload 4, 2))
theorem e_Ds_ranked_50 (a0 a1 a2 a3 : Value) (x : Nat) (st : List Value) (g : px_G) : rn k_Ds_ranked 50 [a0, a1, a2, a3, .ref x] st g = rn k_Ds_ranked 52 [a0, a1, a2, a3, .ref x] (.ref x :: st) g := rn_next dd_Ds_ranked_50 rfl
theorem dd_Ds_ranked_52 : decode (px_rw k_Ds_ranked).2.1 52 = .ok (.getfield 212, 3) := (by decide +kernel : decode prog_1_method_13_code 52 = .ok (.getfield 212, 3))
theorem e_Ds_ranked_52 (L : List Value) (p : Nat) (st : List Value) (T : TS) (hp : sh p = (104, 18)) : rn k_Ds_ranked 52 L (.ref p :: st) (enc T) = rn k_Ds_ranked 55 L (.ref (p + 5) :: st) (enc T) := (rn_getA (n := 18) dd_Ds_ranked_52 rfl (by decide) (by decide) (by decide) rfl hp).trans (by rw [ink_rf_9 hp])
theorem dd_Ds_ranked_55 : decode (px_rw k_Ds_ranked).2.1 55 = .ok (.iload_n 2, 1) := (by decide +kernel : decode prog_1_method_13_code 55 = .ok (.iload_n 2, 1))
theorem e_Ds_ranked_55 (a0 a1 a3 a4 : Value) (x : Int32) (st : List Value) (g : px_G) : rn k_Ds_ranked 55 [a0, a1, .int x, a3, a4] st g = rn k_Ds_ranked 56 [a0, a1, .int x, a3, a4] (.int x :: st) g := rn_next dd_Ds_ranked_55 rfl
theorem dd_Ds_ranked_56 : decode (px_rw k_Ds_ranked).2.1 56 = .ok (.invokestatic 205, 3) := (by decide +kernel : decode prog_1_method_13_code 56 = .ok (.invokestatic 205, 3))
theorem e_Ds_ranked_56 (L : List Value) (r0 : Nat) (i1 : Int32) (r100 : Nat) (g : px_G) : rn k_Ds_ranked 56 L [.int i1, .ref r0, .ref r100] g = bd (cl k_Ds_at [.ref r0, .int i1] g) (fun r g' => rn k_Ds_ranked 59 L (r.toList ++ [.ref r100]) g') := rn_callS (As := [.ref r0, .int i1]) (rest := [.ref r100]) dd_Ds_ranked_56 rfl (by decide) rfl rfl (Nat.le_of_ble_eq_true rfl) (Nat.le_of_ble_eq_true rfl)
theorem dd_Ds_ranked_59 : decode (px_rw k_Ds_ranked).2.1 59 = .ok (.iload_n 3, 1) := (by decide +kernel : decode prog_1_method_13_code 59 = .ok (.iload_n 3, 1))
theorem e_Ds_ranked_59 (a0 a1 a2 a4 : Value) (x : Int32) (st : List Value) (g : px_G) : rn k_Ds_ranked 59 [a0, a1, a2, .int x, a4] st g = rn k_Ds_ranked 60 [a0, a1, a2, .int x, a4] (.int x :: st) g := rn_next dd_Ds_ranked_59 rfl
theorem dd_Ds_ranked_60 : decode (px_rw k_Ds_ranked).2.1 60 = .ok (.invokevirtual 188, 3) := (by decide +kernel : decode prog_1_method_13_code 60 = .ok (.invokevirtual 188, 3))
theorem e_Ds_ranked_60 (L : List Value) (i0 : Int32) (i1 : Int32) (p : Nat) (T : TS) (hp : sh p = (104, 18)) : rn k_Ds_ranked 60 L [.int i1, .int i0, .ref p] (enc T) = bd (cl k_Ink_axisOf [.ref p, .int i0, .int i1] (enc T)) (fun r g' => rn k_Ds_ranked 63 L (r.toList ++ []) g') := rn_callV (n := 18) (As := [.int i0, .int i1]) (rest := []) dd_Ds_ranked_60 rfl (by decide) (by decide) rfl rfl (Nat.le_of_ble_eq_true rfl) (Nat.le_of_ble_eq_true rfl) hp
theorem dd_Ds_ranked_63 : decode (px_rw k_Ds_ranked).2.1 63 = .ok (.ireturn, 1) := (by decide +kernel : decode prog_1_method_13_code 63 = .ok (.ireturn, 1))
theorem e_Ds_ranked_63 (L : List Value) (v : Int32) (g : px_G) : rn k_Ds_ranked 63 L [.int v] g = some (some (.int v), g) := rn_iret dd_Ds_ranked_63 rfl
theorem c_Ds_inked (r0 : Nat) (i1 : Int32) (i2 : Int32) (i3 : Int32) (g : px_G) : cl k_Ds_inked [.ref r0, .int i1, .int i2, .int i3] g = rn k_Ds_inked 0 [.ref r0, .int i1, .int i2, .int i3] [] g := rfl
theorem dd_Ds_inked_0 : decode (px_rw k_Ds_inked).2.1 0 = .ok (.aload_n 0, 1) := (by decide +kernel : decode prog_1_method_14_code 0 = .ok (.aload_n 0, 1))
theorem e_Ds_inked_0 (a1 a2 a3 : Value) (x : Nat) (st : List Value) (g : px_G) : rn k_Ds_inked 0 [.ref x, a1, a2, a3] st g = rn k_Ds_inked 1 [.ref x, a1, a2, a3] (.ref x :: st) g := rn_next dd_Ds_inked_0 rfl
theorem dd_Ds_inked_1 : decode (px_rw k_Ds_inked).2.1 1 = .ok (.iload_n 1, 1) := (by decide +kernel : decode prog_1_method_14_code 1 = .ok (.iload_n 1, 1))
theorem e_Ds_inked_1 (a0 a2 a3 : Value) (x : Int32) (st : List Value) (g : px_G) : rn k_Ds_inked 1 [a0, .int x, a2, a3] st g = rn k_Ds_inked 2 [a0, .int x, a2, a3] (.int x :: st) g := rn_next dd_Ds_inked_1 rfl
theorem dd_Ds_inked_2 : decode (px_rw k_Ds_inked).2.1 2 = .ok (.invokevirtual 129, 3) := (by decide +kernel : decode prog_1_method_14_code 2 = .ok (.invokevirtual 129, 3))
theorem e_Ds_inked_2 (L : List Value) (i0 : Int32)  (T : TS)  : rn k_Ds_inked 2 L [.int i0, .ref 0] (enc T) = bd (cl k_Ds_isInk [.ref 0, .int i0] (enc T)) (fun r g' => rn k_Ds_inked 5 L (r.toList ++ []) g') := rn_callV (n := 13) (As := [.int i0]) (rest := []) dd_Ds_inked_2 rfl (by decide) (by decide) rfl rfl (Nat.le_of_ble_eq_true rfl) (Nat.le_of_ble_eq_true rfl) rfl
theorem dd_Ds_inked_5 : decode (px_rw k_Ds_inked).2.1 5 = .ok (.ifCond .eq 11, 3) := (by decide +kernel : decode prog_1_method_14_code 5 = .ok (.ifCond .eq 11, 3))
theorem e_Ds_inked_5 (L : List Value) (x : Int32) (st : List Value) (g : px_G) : rn k_Ds_inked 5 L (.int x :: st) g = if x = 0 then rn k_Ds_inked 16 L st g else rn k_Ds_inked 8 L st g := rn_ifeq dd_Ds_inked_5 (by decide)
theorem dd_Ds_inked_8 : decode (px_rw k_Ds_inked).2.1 8 = .ok (.iload_n 2, 1) := (by decide +kernel : decode prog_1_method_14_code 8 = .ok (.iload_n 2, 1))
theorem e_Ds_inked_8 (a0 a1 a3 : Value) (x : Int32) (st : List Value) (g : px_G) : rn k_Ds_inked 8 [a0, a1, .int x, a3] st g = rn k_Ds_inked 9 [a0, a1, .int x, a3] (.int x :: st) g := rn_next dd_Ds_inked_8 rfl
theorem dd_Ds_inked_9 : decode (px_rw k_Ds_inked).2.1 9 = .ok (.iload_n 3, 1) := (by decide +kernel : decode prog_1_method_14_code 9 = .ok (.iload_n 3, 1))
theorem e_Ds_inked_9 (a0 a1 a2 : Value) (x : Int32) (st : List Value) (g : px_G) : rn k_Ds_inked 9 [a0, a1, a2, .int x] st g = rn k_Ds_inked 10 [a0, a1, a2, .int x] (.int x :: st) g := rn_next dd_Ds_inked_9 rfl
theorem dd_Ds_inked_10 : decode (px_rw k_Ds_inked).2.1 10 = .ok (.invokestatic 178, 3) := (by decide +kernel : decode prog_1_method_14_code 10 = .ok (.invokestatic 178, 3))
theorem e_Ds_inked_10 (L : List Value) (i0 : Int32) (i1 : Int32) (g : px_G) : rn k_Ds_inked 10 L [.int i1, .int i0] g = bd (cl k_Ds_isPixel [.int i0, .int i1] g) (fun r g' => rn k_Ds_inked 13 L (r.toList ++ []) g') := rn_callS (As := [.int i0, .int i1]) (rest := []) dd_Ds_inked_10 rfl (by decide) rfl rfl (Nat.le_of_ble_eq_true rfl) (Nat.le_of_ble_eq_true rfl)
theorem dd_Ds_inked_13 : decode (px_rw k_Ds_inked).2.1 13 = .ok (.ifCond .ne 5, 3) := (by decide +kernel : decode prog_1_method_14_code 13 = .ok (.ifCond .ne 5, 3))
theorem e_Ds_inked_13 (L : List Value) (x : Int32) (st : List Value) (g : px_G) : rn k_Ds_inked 13 L (.int x :: st) g = if x = 0 then rn k_Ds_inked 16 L st g else rn k_Ds_inked 18 L st g := rn_ifne dd_Ds_inked_13 (by decide)
theorem dd_Ds_inked_16 : decode (px_rw k_Ds_inked).2.1 16 = .ok (.iconst 0, 1) := (by decide +kernel : decode prog_1_method_14_code 16 = .ok (.iconst 0, 1))
theorem e_Ds_inked_16 (L st : List Value) (g : px_G) : rn k_Ds_inked 16 L st g = rn k_Ds_inked 17 L (.int 0 :: st) g := rn_ipush (i := .iconst 0) dd_Ds_inked_16 rfl rfl (by decide)
theorem dd_Ds_inked_17 : decode (px_rw k_Ds_inked).2.1 17 = .ok (.ireturn, 1) := (by decide +kernel : decode prog_1_method_14_code 17 = .ok (.ireturn, 1))
theorem e_Ds_inked_17 (L : List Value) (v : Int32) (g : px_G) (hv : v = 0 ∨ v = 1) : rn k_Ds_inked 17 L [.int v] g = some (some (.int v), g) := rn_zret dd_Ds_inked_17 rfl hv
theorem dd_Ds_inked_18 : decode (px_rw k_Ds_inked).2.1 18 = .ok (.aload_n 0, 1) := (by decide +kernel : decode prog_1_method_14_code 18 = .ok (.aload_n 0, 1))
theorem e_Ds_inked_18 (a1 a2 a3 : Value) (x : Nat) (st : List Value) (g : px_G) : rn k_Ds_inked 18 [.ref x, a1, a2, a3] st g = rn k_Ds_inked 19 [.ref x, a1, a2, a3] (.ref x :: st) g := rn_next dd_Ds_inked_18 rfl
theorem dd_Ds_inked_19 : decode (px_rw k_Ds_inked).2.1 19 = .ok (.getfield 27, 3) := (by decide +kernel : decode prog_1_method_14_code 19 = .ok (.getfield 27, 3))
theorem e_Ds_inked_19 (L st : List Value) (T : TS) : rn k_Ds_inked 19 L (.ref 0 :: st) (enc T) = rn k_Ds_inked 22 L (.ref 5 :: st) (enc T) := rn_getA (n := 13) dd_Ds_inked_19 rfl (by decide) (by decide) (by decide) rfl rfl
theorem dd_Ds_inked_22 : decode (px_rw k_Ds_inked).2.1 22 = .ok (.iload_n 1, 1) := (by decide +kernel : decode prog_1_method_14_code 22 = .ok (.iload_n 1, 1))
theorem e_Ds_inked_22 (a0 a2 a3 : Value) (x : Int32) (st : List Value) (g : px_G) : rn k_Ds_inked 22 [a0, .int x, a2, a3] st g = rn k_Ds_inked 23 [a0, .int x, a2, a3] (.int x :: st) g := rn_next dd_Ds_inked_22 rfl
theorem dd_Ds_inked_23 : decode (px_rw k_Ds_inked).2.1 23 = .ok (.aaload, 1) := (by decide +kernel : decode prog_1_method_14_code 23 = .ok (.aaload, 1))
theorem e_Ds_inked_23 (L : List Value) (i : Int32) (p : Nat) (st : List Value) (T : TS) (hp : (sh p).1 = 3) : rn k_Ds_inked 23 L (.int i :: .ref p :: st) (enc T) = if px_in i (sh p).2 then rn k_Ds_inked 24 L (.ref (T.2.2.1 i.toNatClampNeg) :: st) (enc T) else none := rn_aald dd_Ds_inked_23 (Prod.ext hp rfl)
theorem dd_Ds_inked_24 : decode (px_rw k_Ds_inked).2.1 24 = .ok (.iload_n 2, 1) := (by decide +kernel : decode prog_1_method_14_code 24 = .ok (.iload_n 2, 1))
theorem e_Ds_inked_24 (a0 a1 a3 : Value) (x : Int32) (st : List Value) (g : px_G) : rn k_Ds_inked 24 [a0, a1, .int x, a3] st g = rn k_Ds_inked 25 [a0, a1, .int x, a3] (.int x :: st) g := rn_next dd_Ds_inked_24 rfl
theorem dd_Ds_inked_25 : decode (px_rw k_Ds_inked).2.1 25 = .ok (.iload_n 3, 1) := (by decide +kernel : decode prog_1_method_14_code 25 = .ok (.iload_n 3, 1))
theorem e_Ds_inked_25 (a0 a1 a2 : Value) (x : Int32) (st : List Value) (g : px_G) : rn k_Ds_inked 25 [a0, a1, a2, .int x] st g = rn k_Ds_inked 26 [a0, a1, a2, .int x] (.int x :: st) g := rn_next dd_Ds_inked_25 rfl
theorem dd_Ds_inked_26 : decode (px_rw k_Ds_inked).2.1 26 = .ok (.invokevirtual 215, 3) := (by decide +kernel : decode prog_1_method_14_code 26 = .ok (.invokevirtual 215, 3))
theorem e_Ds_inked_26 (L : List Value) (i0 : Int32) (i1 : Int32) (p : Nat) (T : TS) (hp : sh p = (104, 18)) : rn k_Ds_inked 26 L [.int i1, .int i0, .ref p] (enc T) = bd (cl k_Ink_startRow [.ref p, .int i0, .int i1] (enc T)) (fun r g' => rn k_Ds_inked 29 L (r.toList ++ []) g') := rn_callV (n := 18) (As := [.int i0, .int i1]) (rest := []) dd_Ds_inked_26 rfl (by decide) (by decide) rfl rfl (Nat.le_of_ble_eq_true rfl) (Nat.le_of_ble_eq_true rfl) hp
theorem dd_Ds_inked_29 : decode (px_rw k_Ds_inked).2.1 29 = .ok (.aload_n 0, 1) := (by decide +kernel : decode prog_1_method_14_code 29 = .ok (.aload_n 0, 1))
theorem e_Ds_inked_29 (a1 a2 a3 : Value) (x : Nat) (st : List Value) (g : px_G) : rn k_Ds_inked 29 [.ref x, a1, a2, a3] st g = rn k_Ds_inked 30 [.ref x, a1, a2, a3] (.ref x :: st) g := rn_next dd_Ds_inked_29 rfl
theorem dd_Ds_inked_30 : decode (px_rw k_Ds_inked).2.1 30 = .ok (.getfield 27, 3) := (by decide +kernel : decode prog_1_method_14_code 30 = .ok (.getfield 27, 3))
theorem e_Ds_inked_30 (L st : List Value) (T : TS) : rn k_Ds_inked 30 L (.ref 0 :: st) (enc T) = rn k_Ds_inked 33 L (.ref 5 :: st) (enc T) := rn_getA (n := 13) dd_Ds_inked_30 rfl (by decide) (by decide) (by decide) rfl rfl
theorem dd_Ds_inked_33 : decode (px_rw k_Ds_inked).2.1 33 = .ok (.iload_n 1, 1) := (by decide +kernel : decode prog_1_method_14_code 33 = .ok (.iload_n 1, 1))
theorem e_Ds_inked_33 (a0 a2 a3 : Value) (x : Int32) (st : List Value) (g : px_G) : rn k_Ds_inked 33 [a0, .int x, a2, a3] st g = rn k_Ds_inked 34 [a0, .int x, a2, a3] (.int x :: st) g := rn_next dd_Ds_inked_33 rfl
theorem dd_Ds_inked_34 : decode (px_rw k_Ds_inked).2.1 34 = .ok (.aaload, 1) := (by decide +kernel : decode prog_1_method_14_code 34 = .ok (.aaload, 1))
theorem e_Ds_inked_34 (L : List Value) (i : Int32) (p : Nat) (st : List Value) (T : TS) (hp : (sh p).1 = 3) : rn k_Ds_inked 34 L (.int i :: .ref p :: st) (enc T) = if px_in i (sh p).2 then rn k_Ds_inked 35 L (.ref (T.2.2.1 i.toNatClampNeg) :: st) (enc T) else none := rn_aald dd_Ds_inked_34 (Prod.ext hp rfl)
theorem dd_Ds_inked_35 : decode (px_rw k_Ds_inked).2.1 35 = .ok (.invokevirtual 219, 3) := (by decide +kernel : decode prog_1_method_14_code 35 = .ok (.invokevirtual 219, 3))
theorem e_Ds_inked_35 (L : List Value)  (p : Nat) (T : TS) (hp : sh p = (104, 18)) : rn k_Ds_inked 35 L [.ref p] (enc T) = bd (cl k_Ink_passPixel [.ref p] (enc T)) (fun r g' => rn k_Ds_inked 38 L (r.toList ++ []) g') := rn_callV (n := 18) (As := []) (rest := []) dd_Ds_inked_35 rfl (by decide) (by decide) rfl rfl (Nat.le_of_ble_eq_true rfl) (Nat.le_of_ble_eq_true rfl) hp
theorem dd_Ds_inked_38 : decode (px_rw k_Ds_inked).2.1 38 = .ok (.ireturn, 1) := (by decide +kernel : decode prog_1_method_14_code 38 = .ok (.ireturn, 1))
theorem e_Ds_inked_38 (L : List Value) (v : Int32) (g : px_G) (hv : v = 0 ∨ v = 1) : rn k_Ds_inked 38 L [.int v] g = some (some (.int v), g) := rn_zret dd_Ds_inked_38 rfl hv
theorem c_Ds_dots (r0 : Nat) (i1 : Int32) (i2 : Int32) (g : px_G) : cl k_Ds_dots [.ref r0, .int i1, .int i2] g = rn k_Ds_dots 0 [.ref r0, .int i1, .int i2] [] g := rfl
theorem dd_Ds_dots_0 : decode (px_rw k_Ds_dots).2.1 0 = .ok (.aload_n 0, 1) := (by decide +kernel : decode prog_1_method_15_code 0 = .ok (.aload_n 0, 1))
theorem e_Ds_dots_0 (a1 a2 : Value) (x : Nat) (st : List Value) (g : px_G) : rn k_Ds_dots 0 [.ref x, a1, a2] st g = rn k_Ds_dots 1 [.ref x, a1, a2] (.ref x :: st) g := rn_next dd_Ds_dots_0 rfl
theorem dd_Ds_dots_1 : decode (px_rw k_Ds_dots).2.1 1 = .ok (.iload_n 1, 1) := (by decide +kernel : decode prog_1_method_15_code 1 = .ok (.iload_n 1, 1))
theorem e_Ds_dots_1 (a0 a2 : Value) (x : Int32) (st : List Value) (g : px_G) : rn k_Ds_dots 1 [a0, .int x, a2] st g = rn k_Ds_dots 2 [a0, .int x, a2] (.int x :: st) g := rn_next dd_Ds_dots_1 rfl
theorem dd_Ds_dots_2 : decode (px_rw k_Ds_dots).2.1 2 = .ok (.invokevirtual 129, 3) := (by decide +kernel : decode prog_1_method_15_code 2 = .ok (.invokevirtual 129, 3))
theorem e_Ds_dots_2 (L : List Value) (i0 : Int32)  (T : TS)  : rn k_Ds_dots 2 L [.int i0, .ref 0] (enc T) = bd (cl k_Ds_isInk [.ref 0, .int i0] (enc T)) (fun r g' => rn k_Ds_dots 5 L (r.toList ++ []) g') := rn_callV (n := 13) (As := [.int i0]) (rest := []) dd_Ds_dots_2 rfl (by decide) (by decide) rfl rfl (Nat.le_of_ble_eq_true rfl) (Nat.le_of_ble_eq_true rfl) rfl
theorem dd_Ds_dots_5 : decode (px_rw k_Ds_dots).2.1 5 = .ok (.ifCond .eq 20, 3) := (by decide +kernel : decode prog_1_method_15_code 5 = .ok (.ifCond .eq 20, 3))
theorem e_Ds_dots_5 (L : List Value) (x : Int32) (st : List Value) (g : px_G) : rn k_Ds_dots 5 L (.int x :: st) g = if x = 0 then rn k_Ds_dots 25 L st g else rn k_Ds_dots 8 L st g := rn_ifeq dd_Ds_dots_5 (by decide)
theorem dd_Ds_dots_8 : decode (px_rw k_Ds_dots).2.1 8 = .ok (.iload_n 2, 1) := (by decide +kernel : decode prog_1_method_15_code 8 = .ok (.iload_n 2, 1))
theorem e_Ds_dots_8 (a0 a1 : Value) (x : Int32) (st : List Value) (g : px_G) : rn k_Ds_dots 8 [a0, a1, .int x] st g = rn k_Ds_dots 9 [a0, a1, .int x] (.int x :: st) g := rn_next dd_Ds_dots_8 rfl
theorem dd_Ds_dots_9 : decode (px_rw k_Ds_dots).2.1 9 = .ok (.ifCond .lt 16, 3) := (by decide +kernel : decode prog_1_method_15_code 9 = .ok (.ifCond .lt 16, 3))
theorem e_Ds_dots_9 (L : List Value) (x : Int32) (st : List Value) (g : px_G) : rn k_Ds_dots 9 L (.int x :: st) g = if x < 0 then rn k_Ds_dots 25 L st g else rn k_Ds_dots 12 L st g := rn_iflt dd_Ds_dots_9 (by decide)
theorem dd_Ds_dots_12 : decode (px_rw k_Ds_dots).2.1 12 = .ok (.iload_n 2, 1) := (by decide +kernel : decode prog_1_method_15_code 12 = .ok (.iload_n 2, 1))
theorem e_Ds_dots_12 (a0 a1 : Value) (x : Int32) (st : List Value) (g : px_G) : rn k_Ds_dots 12 [a0, a1, .int x] st g = rn k_Ds_dots 13 [a0, a1, .int x] (.int x :: st) g := rn_next dd_Ds_dots_12 rfl
theorem dd_Ds_dots_13 : decode (px_rw k_Ds_dots).2.1 13 = .ok (.aload_n 0, 1) := (by decide +kernel : decode prog_1_method_15_code 13 = .ok (.aload_n 0, 1))
theorem e_Ds_dots_13 (a1 a2 : Value) (x : Nat) (st : List Value) (g : px_G) : rn k_Ds_dots 13 [.ref x, a1, a2] st g = rn k_Ds_dots 14 [.ref x, a1, a2] (.ref x :: st) g := rn_next dd_Ds_dots_13 rfl
theorem dd_Ds_dots_14 : decode (px_rw k_Ds_dots).2.1 14 = .ok (.getfield 27, 3) := (by decide +kernel : decode prog_1_method_15_code 14 = .ok (.getfield 27, 3))
theorem e_Ds_dots_14 (L st : List Value) (T : TS) : rn k_Ds_dots 14 L (.ref 0 :: st) (enc T) = rn k_Ds_dots 17 L (.ref 5 :: st) (enc T) := rn_getA (n := 13) dd_Ds_dots_14 rfl (by decide) (by decide) (by decide) rfl rfl
theorem dd_Ds_dots_17 : decode (px_rw k_Ds_dots).2.1 17 = .ok (.iload_n 1, 1) := (by decide +kernel : decode prog_1_method_15_code 17 = .ok (.iload_n 1, 1))
theorem e_Ds_dots_17 (a0 a2 : Value) (x : Int32) (st : List Value) (g : px_G) : rn k_Ds_dots 17 [a0, .int x, a2] st g = rn k_Ds_dots 18 [a0, .int x, a2] (.int x :: st) g := rn_next dd_Ds_dots_17 rfl
theorem dd_Ds_dots_18 : decode (px_rw k_Ds_dots).2.1 18 = .ok (.aaload, 1) := (by decide +kernel : decode prog_1_method_15_code 18 = .ok (.aaload, 1))
theorem e_Ds_dots_18 (L : List Value) (i : Int32) (p : Nat) (st : List Value) (T : TS) (hp : (sh p).1 = 3) : rn k_Ds_dots 18 L (.int i :: .ref p :: st) (enc T) = if px_in i (sh p).2 then rn k_Ds_dots 19 L (.ref (T.2.2.1 i.toNatClampNeg) :: st) (enc T) else none := rn_aald dd_Ds_dots_18 (Prod.ext hp rfl)
theorem dd_Ds_dots_19 : decode (px_rw k_Ds_dots).2.1 19 = .ok (.getfield 154, 3) := (by decide +kernel : decode prog_1_method_15_code 19 = .ok (.getfield 154, 3))
theorem e_Ds_dots_19 (L : List Value) (p : Nat) (st : List Value) (T : TS) (hp : sh p = (104, 18)) : rn k_Ds_dots 19 L (.ref p :: st) (enc T) = rn k_Ds_dots 22 L (.int (T.1 p 2) :: st) (enc T) := rn_getI (n := 18) dd_Ds_dots_19 rfl (by decide) (by decide) (by decide) rfl hp
theorem dd_Ds_dots_22 : decode (px_rw k_Ds_dots).2.1 22 = .ok (.if_icmp .le 5, 3) := (by decide +kernel : decode prog_1_method_15_code 22 = .ok (.if_icmp .le 5, 3))
theorem e_Ds_dots_22 (L : List Value) (x y : Int32) (st : List Value) (g : px_G) : rn k_Ds_dots 22 L (.int y :: .int x :: st) g = if x ≤ y then rn k_Ds_dots 27 L st g else rn k_Ds_dots 25 L st g := rn_icle dd_Ds_dots_22 (by decide)
theorem dd_Ds_dots_25 : decode (px_rw k_Ds_dots).2.1 25 = .ok (.iconst (-1), 1) := (by decide +kernel : decode prog_1_method_15_code 25 = .ok (.iconst (-1), 1))
theorem e_Ds_dots_25 (L st : List Value) (g : px_G) : rn k_Ds_dots 25 L st g = rn k_Ds_dots 26 L (.int (-1) :: st) g := rn_ipush (i := .iconst (-1)) dd_Ds_dots_25 rfl rfl (by decide)
theorem dd_Ds_dots_26 : decode (px_rw k_Ds_dots).2.1 26 = .ok (.ireturn, 1) := (by decide +kernel : decode prog_1_method_15_code 26 = .ok (.ireturn, 1))
theorem e_Ds_dots_26 (L : List Value) (v : Int32) (g : px_G) : rn k_Ds_dots 26 L [.int v] g = some (some (.int v), g) := rn_iret dd_Ds_dots_26 rfl
theorem dd_Ds_dots_27 : decode (px_rw k_Ds_dots).2.1 27 = .ok (.aload_n 0, 1) := (by decide +kernel : decode prog_1_method_15_code 27 = .ok (.aload_n 0, 1))
theorem e_Ds_dots_27 (a1 a2 : Value) (x : Nat) (st : List Value) (g : px_G) : rn k_Ds_dots 27 [.ref x, a1, a2] st g = rn k_Ds_dots 28 [.ref x, a1, a2] (.ref x :: st) g := rn_next dd_Ds_dots_27 rfl
theorem dd_Ds_dots_28 : decode (px_rw k_Ds_dots).2.1 28 = .ok (.getfield 38, 3) := (by decide +kernel : decode prog_1_method_15_code 28 = .ok (.getfield 38, 3))
theorem e_Ds_dots_28 (L st : List Value) (T : TS) : rn k_Ds_dots 28 L (.ref 0 :: st) (enc T) = rn k_Ds_dots 31 L (.ref 7 :: st) (enc T) := rn_getO (n := 13) dd_Ds_dots_28 rfl (by decide) (by decide) (by decide) rfl rfl
theorem dd_Ds_dots_31 : decode (px_rw k_Ds_dots).2.1 31 = .ok (.aload_n 0, 1) := (by decide +kernel : decode prog_1_method_15_code 31 = .ok (.aload_n 0, 1))
theorem e_Ds_dots_31 (a1 a2 : Value) (x : Nat) (st : List Value) (g : px_G) : rn k_Ds_dots 31 [.ref x, a1, a2] st g = rn k_Ds_dots 32 [.ref x, a1, a2] (.ref x :: st) g := rn_next dd_Ds_dots_31 rfl
theorem dd_Ds_dots_32 : decode (px_rw k_Ds_dots).2.1 32 = .ok (.getfield 27, 3) := (by decide +kernel : decode prog_1_method_15_code 32 = .ok (.getfield 27, 3))
theorem e_Ds_dots_32 (L st : List Value) (T : TS) : rn k_Ds_dots 32 L (.ref 0 :: st) (enc T) = rn k_Ds_dots 35 L (.ref 5 :: st) (enc T) := rn_getA (n := 13) dd_Ds_dots_32 rfl (by decide) (by decide) (by decide) rfl rfl
theorem dd_Ds_dots_35 : decode (px_rw k_Ds_dots).2.1 35 = .ok (.iload_n 1, 1) := (by decide +kernel : decode prog_1_method_15_code 35 = .ok (.iload_n 1, 1))
theorem e_Ds_dots_35 (a0 a2 : Value) (x : Int32) (st : List Value) (g : px_G) : rn k_Ds_dots 35 [a0, .int x, a2] st g = rn k_Ds_dots 36 [a0, .int x, a2] (.int x :: st) g := rn_next dd_Ds_dots_35 rfl
theorem dd_Ds_dots_36 : decode (px_rw k_Ds_dots).2.1 36 = .ok (.aaload, 1) := (by decide +kernel : decode prog_1_method_15_code 36 = .ok (.aaload, 1))
theorem e_Ds_dots_36 (L : List Value) (i : Int32) (p : Nat) (st : List Value) (T : TS) (hp : (sh p).1 = 3) : rn k_Ds_dots 36 L (.int i :: .ref p :: st) (enc T) = if px_in i (sh p).2 then rn k_Ds_dots 37 L (.ref (T.2.2.1 i.toNatClampNeg) :: st) (enc T) else none := rn_aald dd_Ds_dots_36 (Prod.ext hp rfl)
theorem dd_Ds_dots_37 : decode (px_rw k_Ds_dots).2.1 37 = .ok (.invokevirtual 223, 3) := (by decide +kernel : decode prog_1_method_15_code 37 = .ok (.invokevirtual 223, 3))
theorem e_Ds_dots_37 (L : List Value) (r0 : Nat)  (T : TS)  : rn k_Ds_dots 37 L [.ref r0, .ref 7] (enc T) = bd (cl k_Growth_grow [.ref 7, .ref r0] (enc T)) (fun r g' => rn k_Ds_dots 40 L (r.toList ++ []) g') := rn_callV (n := 11) (As := [.ref r0]) (rest := []) dd_Ds_dots_37 rfl (by decide) (by decide) rfl rfl (Nat.le_of_ble_eq_true rfl) (Nat.le_of_ble_eq_true rfl) rfl
theorem dd_Ds_dots_40 : decode (px_rw k_Ds_dots).2.1 40 = .ok (.aload_n 0, 1) := (by decide +kernel : decode prog_1_method_15_code 40 = .ok (.aload_n 0, 1))
theorem e_Ds_dots_40 (a1 a2 : Value) (x : Nat) (st : List Value) (g : px_G) : rn k_Ds_dots 40 [.ref x, a1, a2] st g = rn k_Ds_dots 41 [.ref x, a1, a2] (.ref x :: st) g := rn_next dd_Ds_dots_40 rfl
theorem dd_Ds_dots_41 : decode (px_rw k_Ds_dots).2.1 41 = .ok (.getfield 27, 3) := (by decide +kernel : decode prog_1_method_15_code 41 = .ok (.getfield 27, 3))
theorem e_Ds_dots_41 (L st : List Value) (T : TS) : rn k_Ds_dots 41 L (.ref 0 :: st) (enc T) = rn k_Ds_dots 44 L (.ref 5 :: st) (enc T) := rn_getA (n := 13) dd_Ds_dots_41 rfl (by decide) (by decide) (by decide) rfl rfl
theorem dd_Ds_dots_44 : decode (px_rw k_Ds_dots).2.1 44 = .ok (.iload_n 1, 1) := (by decide +kernel : decode prog_1_method_15_code 44 = .ok (.iload_n 1, 1))
theorem e_Ds_dots_44 (a0 a2 : Value) (x : Int32) (st : List Value) (g : px_G) : rn k_Ds_dots 44 [a0, .int x, a2] st g = rn k_Ds_dots 45 [a0, .int x, a2] (.int x :: st) g := rn_next dd_Ds_dots_44 rfl
theorem dd_Ds_dots_45 : decode (px_rw k_Ds_dots).2.1 45 = .ok (.aaload, 1) := (by decide +kernel : decode prog_1_method_15_code 45 = .ok (.aaload, 1))
theorem e_Ds_dots_45 (L : List Value) (i : Int32) (p : Nat) (st : List Value) (T : TS) (hp : (sh p).1 = 3) : rn k_Ds_dots 45 L (.int i :: .ref p :: st) (enc T) = if px_in i (sh p).2 then rn k_Ds_dots 46 L (.ref (T.2.2.1 i.toNatClampNeg) :: st) (enc T) else none := rn_aald dd_Ds_dots_45 (Prod.ext hp rfl)
theorem dd_Ds_dots_46 : decode (px_rw k_Ds_dots).2.1 46 = .ok (.getfield 227, 3) := (by decide +kernel : decode prog_1_method_15_code 46 = .ok (.getfield 227, 3))
theorem e_Ds_dots_46 (L : List Value) (p : Nat) (st : List Value) (T : TS) (hp : sh p = (104, 18)) : rn k_Ds_dots 46 L (.ref p :: st) (enc T) = rn k_Ds_dots 49 L (.ref (p + 6) :: st) (enc T) := (rn_getA (n := 18) dd_Ds_dots_46 rfl (by decide) (by decide) (by decide) rfl hp).trans (by rw [ink_rf_10 hp])
theorem dd_Ds_dots_49 : decode (px_rw k_Ds_dots).2.1 49 = .ok (.iload_n 2, 1) := (by decide +kernel : decode prog_1_method_15_code 49 = .ok (.iload_n 2, 1))
theorem e_Ds_dots_49 (a0 a1 : Value) (x : Int32) (st : List Value) (g : px_G) : rn k_Ds_dots 49 [a0, a1, .int x] st g = rn k_Ds_dots 50 [a0, a1, .int x] (.int x :: st) g := rn_next dd_Ds_dots_49 rfl
theorem dd_Ds_dots_50 : decode (px_rw k_Ds_dots).2.1 50 = .ok (.invokestatic 205, 3) := (by decide +kernel : decode prog_1_method_15_code 50 = .ok (.invokestatic 205, 3))
theorem e_Ds_dots_50 (L : List Value) (r0 : Nat) (i1 : Int32) (g : px_G) : rn k_Ds_dots 50 L [.int i1, .ref r0] g = bd (cl k_Ds_at [.ref r0, .int i1] g) (fun r g' => rn k_Ds_dots 53 L (r.toList ++ []) g') := rn_callS (As := [.ref r0, .int i1]) (rest := []) dd_Ds_dots_50 rfl (by decide) rfl rfl (Nat.le_of_ble_eq_true rfl) (Nat.le_of_ble_eq_true rfl)
theorem dd_Ds_dots_53 : decode (px_rw k_Ds_dots).2.1 53 = .ok (.ireturn, 1) := (by decide +kernel : decode prog_1_method_15_code 53 = .ok (.ireturn, 1))
theorem e_Ds_dots_53 (L : List Value) (v : Int32) (g : px_G) : rn k_Ds_dots 53 L [.int v] g = some (some (.int v), g) := rn_iret dd_Ds_dots_53 rfl
theorem c_Ds_grown (r0 : Nat) (i1 : Int32) (i2 : Int32) (g : px_G) : cl k_Ds_grown [.ref r0, .int i1, .int i2] g = rn k_Ds_grown 0 [.ref r0, .int i1, .int i2] [] g := rfl
theorem dd_Ds_grown_0 : decode (px_rw k_Ds_grown).2.1 0 = .ok (.aload_n 0, 1) := (by decide +kernel : decode prog_1_method_16_code 0 = .ok (.aload_n 0, 1))
theorem e_Ds_grown_0 (a1 a2 : Value) (x : Nat) (st : List Value) (g : px_G) : rn k_Ds_grown 0 [.ref x, a1, a2] st g = rn k_Ds_grown 1 [.ref x, a1, a2] (.ref x :: st) g := rn_next dd_Ds_grown_0 rfl
theorem dd_Ds_grown_1 : decode (px_rw k_Ds_grown).2.1 1 = .ok (.iload_n 1, 1) := (by decide +kernel : decode prog_1_method_16_code 1 = .ok (.iload_n 1, 1))
theorem e_Ds_grown_1 (a0 a2 : Value) (x : Int32) (st : List Value) (g : px_G) : rn k_Ds_grown 1 [a0, .int x, a2] st g = rn k_Ds_grown 2 [a0, .int x, a2] (.int x :: st) g := rn_next dd_Ds_grown_1 rfl
theorem dd_Ds_grown_2 : decode (px_rw k_Ds_grown).2.1 2 = .ok (.invokevirtual 129, 3) := (by decide +kernel : decode prog_1_method_16_code 2 = .ok (.invokevirtual 129, 3))
theorem e_Ds_grown_2 (L : List Value) (i0 : Int32)  (T : TS)  : rn k_Ds_grown 2 L [.int i0, .ref 0] (enc T) = bd (cl k_Ds_isInk [.ref 0, .int i0] (enc T)) (fun r g' => rn k_Ds_grown 5 L (r.toList ++ []) g') := rn_callV (n := 13) (As := [.int i0]) (rest := []) dd_Ds_grown_2 rfl (by decide) (by decide) rfl rfl (Nat.le_of_ble_eq_true rfl) (Nat.le_of_ble_eq_true rfl) rfl
theorem dd_Ds_grown_5 : decode (px_rw k_Ds_grown).2.1 5 = .ok (.ifCond .eq 10, 3) := (by decide +kernel : decode prog_1_method_16_code 5 = .ok (.ifCond .eq 10, 3))
theorem e_Ds_grown_5 (L : List Value) (x : Int32) (st : List Value) (g : px_G) : rn k_Ds_grown 5 L (.int x :: st) g = if x = 0 then rn k_Ds_grown 15 L st g else rn k_Ds_grown 8 L st g := rn_ifeq dd_Ds_grown_5 (by decide)
theorem dd_Ds_grown_8 : decode (px_rw k_Ds_grown).2.1 8 = .ok (.iload_n 2, 1) := (by decide +kernel : decode prog_1_method_16_code 8 = .ok (.iload_n 2, 1))
theorem e_Ds_grown_8 (a0 a1 : Value) (x : Int32) (st : List Value) (g : px_G) : rn k_Ds_grown 8 [a0, a1, .int x] st g = rn k_Ds_grown 9 [a0, a1, .int x] (.int x :: st) g := rn_next dd_Ds_grown_8 rfl
theorem dd_Ds_grown_9 : decode (px_rw k_Ds_grown).2.1 9 = .ok (.invokestatic 182, 3) := (by decide +kernel : decode prog_1_method_16_code 9 = .ok (.invokestatic 182, 3))
theorem e_Ds_grown_9 (L : List Value) (i0 : Int32) (g : px_G) : rn k_Ds_grown 9 L [.int i0] g = bd (cl k_Ds_isAxis [.int i0] g) (fun r g' => rn k_Ds_grown 12 L (r.toList ++ []) g') := rn_callS (As := [.int i0]) (rest := []) dd_Ds_grown_9 rfl (by decide) rfl rfl (Nat.le_of_ble_eq_true rfl) (Nat.le_of_ble_eq_true rfl)
theorem dd_Ds_grown_12 : decode (px_rw k_Ds_grown).2.1 12 = .ok (.ifCond .ne 5, 3) := (by decide +kernel : decode prog_1_method_16_code 12 = .ok (.ifCond .ne 5, 3))
theorem e_Ds_grown_12 (L : List Value) (x : Int32) (st : List Value) (g : px_G) : rn k_Ds_grown 12 L (.int x :: st) g = if x = 0 then rn k_Ds_grown 15 L st g else rn k_Ds_grown 17 L st g := rn_ifne dd_Ds_grown_12 (by decide)
theorem dd_Ds_grown_15 : decode (px_rw k_Ds_grown).2.1 15 = .ok (.iconst (-1), 1) := (by decide +kernel : decode prog_1_method_16_code 15 = .ok (.iconst (-1), 1))
theorem e_Ds_grown_15 (L st : List Value) (g : px_G) : rn k_Ds_grown 15 L st g = rn k_Ds_grown 16 L (.int (-1) :: st) g := rn_ipush (i := .iconst (-1)) dd_Ds_grown_15 rfl rfl (by decide)
theorem dd_Ds_grown_16 : decode (px_rw k_Ds_grown).2.1 16 = .ok (.ireturn, 1) := (by decide +kernel : decode prog_1_method_16_code 16 = .ok (.ireturn, 1))
theorem e_Ds_grown_16 (L : List Value) (v : Int32) (g : px_G) : rn k_Ds_grown 16 L [.int v] g = some (some (.int v), g) := rn_iret dd_Ds_grown_16 rfl
theorem dd_Ds_grown_17 : decode (px_rw k_Ds_grown).2.1 17 = .ok (.aload_n 0, 1) := (by decide +kernel : decode prog_1_method_16_code 17 = .ok (.aload_n 0, 1))
theorem e_Ds_grown_17 (a1 a2 : Value) (x : Nat) (st : List Value) (g : px_G) : rn k_Ds_grown 17 [.ref x, a1, a2] st g = rn k_Ds_grown 18 [.ref x, a1, a2] (.ref x :: st) g := rn_next dd_Ds_grown_17 rfl
theorem dd_Ds_grown_18 : decode (px_rw k_Ds_grown).2.1 18 = .ok (.getfield 38, 3) := (by decide +kernel : decode prog_1_method_16_code 18 = .ok (.getfield 38, 3))
theorem e_Ds_grown_18 (L st : List Value) (T : TS) : rn k_Ds_grown 18 L (.ref 0 :: st) (enc T) = rn k_Ds_grown 21 L (.ref 7 :: st) (enc T) := rn_getO (n := 13) dd_Ds_grown_18 rfl (by decide) (by decide) (by decide) rfl rfl
theorem dd_Ds_grown_21 : decode (px_rw k_Ds_grown).2.1 21 = .ok (.aload_n 0, 1) := (by decide +kernel : decode prog_1_method_16_code 21 = .ok (.aload_n 0, 1))
theorem e_Ds_grown_21 (a1 a2 : Value) (x : Nat) (st : List Value) (g : px_G) : rn k_Ds_grown 21 [.ref x, a1, a2] st g = rn k_Ds_grown 22 [.ref x, a1, a2] (.ref x :: st) g := rn_next dd_Ds_grown_21 rfl
theorem dd_Ds_grown_22 : decode (px_rw k_Ds_grown).2.1 22 = .ok (.getfield 27, 3) := (by decide +kernel : decode prog_1_method_16_code 22 = .ok (.getfield 27, 3))
theorem e_Ds_grown_22 (L st : List Value) (T : TS) : rn k_Ds_grown 22 L (.ref 0 :: st) (enc T) = rn k_Ds_grown 25 L (.ref 5 :: st) (enc T) := rn_getA (n := 13) dd_Ds_grown_22 rfl (by decide) (by decide) (by decide) rfl rfl
theorem dd_Ds_grown_25 : decode (px_rw k_Ds_grown).2.1 25 = .ok (.iload_n 1, 1) := (by decide +kernel : decode prog_1_method_16_code 25 = .ok (.iload_n 1, 1))
theorem e_Ds_grown_25 (a0 a2 : Value) (x : Int32) (st : List Value) (g : px_G) : rn k_Ds_grown 25 [a0, .int x, a2] st g = rn k_Ds_grown 26 [a0, .int x, a2] (.int x :: st) g := rn_next dd_Ds_grown_25 rfl
theorem dd_Ds_grown_26 : decode (px_rw k_Ds_grown).2.1 26 = .ok (.aaload, 1) := (by decide +kernel : decode prog_1_method_16_code 26 = .ok (.aaload, 1))
theorem e_Ds_grown_26 (L : List Value) (i : Int32) (p : Nat) (st : List Value) (T : TS) (hp : (sh p).1 = 3) : rn k_Ds_grown 26 L (.int i :: .ref p :: st) (enc T) = if px_in i (sh p).2 then rn k_Ds_grown 27 L (.ref (T.2.2.1 i.toNatClampNeg) :: st) (enc T) else none := rn_aald dd_Ds_grown_26 (Prod.ext hp rfl)
theorem dd_Ds_grown_27 : decode (px_rw k_Ds_grown).2.1 27 = .ok (.invokevirtual 223, 3) := (by decide +kernel : decode prog_1_method_16_code 27 = .ok (.invokevirtual 223, 3))
theorem e_Ds_grown_27 (L : List Value) (r0 : Nat)  (T : TS)  : rn k_Ds_grown 27 L [.ref r0, .ref 7] (enc T) = bd (cl k_Growth_grow [.ref 7, .ref r0] (enc T)) (fun r g' => rn k_Ds_grown 30 L (r.toList ++ []) g') := rn_callV (n := 11) (As := [.ref r0]) (rest := []) dd_Ds_grown_27 rfl (by decide) (by decide) rfl rfl (Nat.le_of_ble_eq_true rfl) (Nat.le_of_ble_eq_true rfl) rfl
theorem dd_Ds_grown_30 : decode (px_rw k_Ds_grown).2.1 30 = .ok (.iload_n 2, 1) := (by decide +kernel : decode prog_1_method_16_code 30 = .ok (.iload_n 2, 1))
theorem e_Ds_grown_30 (a0 a1 : Value) (x : Int32) (st : List Value) (g : px_G) : rn k_Ds_grown 30 [a0, a1, .int x] st g = rn k_Ds_grown 31 [a0, a1, .int x] (.int x :: st) g := rn_next dd_Ds_grown_30 rfl
theorem dd_Ds_grown_31 : decode (px_rw k_Ds_grown).2.1 31 = .ok (.ifCond .ne 15, 3) := (by decide +kernel : decode prog_1_method_16_code 31 = .ok (.ifCond .ne 15, 3))
theorem e_Ds_grown_31 (L : List Value) (x : Int32) (st : List Value) (g : px_G) : rn k_Ds_grown 31 L (.int x :: st) g = if x = 0 then rn k_Ds_grown 34 L st g else rn k_Ds_grown 46 L st g := rn_ifne dd_Ds_grown_31 (by decide)
theorem dd_Ds_grown_34 : decode (px_rw k_Ds_grown).2.1 34 = .ok (.aload_n 0, 1) := (by decide +kernel : decode prog_1_method_16_code 34 = .ok (.aload_n 0, 1))
theorem e_Ds_grown_34 (a1 a2 : Value) (x : Nat) (st : List Value) (g : px_G) : rn k_Ds_grown 34 [.ref x, a1, a2] st g = rn k_Ds_grown 35 [.ref x, a1, a2] (.ref x :: st) g := rn_next dd_Ds_grown_34 rfl
theorem dd_Ds_grown_35 : decode (px_rw k_Ds_grown).2.1 35 = .ok (.getfield 27, 3) := (by decide +kernel : decode prog_1_method_16_code 35 = .ok (.getfield 27, 3))
theorem e_Ds_grown_35 (L st : List Value) (T : TS) : rn k_Ds_grown 35 L (.ref 0 :: st) (enc T) = rn k_Ds_grown 38 L (.ref 5 :: st) (enc T) := rn_getA (n := 13) dd_Ds_grown_35 rfl (by decide) (by decide) (by decide) rfl rfl
theorem dd_Ds_grown_38 : decode (px_rw k_Ds_grown).2.1 38 = .ok (.iload_n 1, 1) := (by decide +kernel : decode prog_1_method_16_code 38 = .ok (.iload_n 1, 1))
theorem e_Ds_grown_38 (a0 a2 : Value) (x : Int32) (st : List Value) (g : px_G) : rn k_Ds_grown 38 [a0, .int x, a2] st g = rn k_Ds_grown 39 [a0, .int x, a2] (.int x :: st) g := rn_next dd_Ds_grown_38 rfl
theorem dd_Ds_grown_39 : decode (px_rw k_Ds_grown).2.1 39 = .ok (.aaload, 1) := (by decide +kernel : decode prog_1_method_16_code 39 = .ok (.aaload, 1))
theorem e_Ds_grown_39 (L : List Value) (i : Int32) (p : Nat) (st : List Value) (T : TS) (hp : (sh p).1 = 3) : rn k_Ds_grown 39 L (.int i :: .ref p :: st) (enc T) = if px_in i (sh p).2 then rn k_Ds_grown 40 L (.ref (T.2.2.1 i.toNatClampNeg) :: st) (enc T) else none := rn_aald dd_Ds_grown_39 (Prod.ext hp rfl)
theorem dd_Ds_grown_40 : decode (px_rw k_Ds_grown).2.1 40 = .ok (.getfield 230, 3) := (by decide +kernel : decode prog_1_method_16_code 40 = .ok (.getfield 230, 3))
theorem e_Ds_grown_40 (L : List Value) (p : Nat) (st : List Value) (T : TS) (hp : sh p = (104, 18)) : rn k_Ds_grown 40 L (.ref p :: st) (enc T) = rn k_Ds_grown 43 L (.int (T.1 p 11) :: st) (enc T) := rn_getI (n := 18) dd_Ds_grown_40 rfl (by decide) (by decide) (by decide) rfl hp
theorem dd_Ds_grown_43 : decode (px_rw k_Ds_grown).2.1 43 = .ok (.goto 12, 3) := (by decide +kernel : decode prog_1_method_16_code 43 = .ok (.goto 12, 3))
theorem e_Ds_grown_43 (L st : List Value) (g : px_G) : rn k_Ds_grown 43 L st g = rn k_Ds_grown 55 L st g := rn_goto dd_Ds_grown_43 (by decide)
theorem dd_Ds_grown_46 : decode (px_rw k_Ds_grown).2.1 46 = .ok (.aload_n 0, 1) := (by decide +kernel : decode prog_1_method_16_code 46 = .ok (.aload_n 0, 1))
theorem e_Ds_grown_46 (a1 a2 : Value) (x : Nat) (st : List Value) (g : px_G) : rn k_Ds_grown 46 [.ref x, a1, a2] st g = rn k_Ds_grown 47 [.ref x, a1, a2] (.ref x :: st) g := rn_next dd_Ds_grown_46 rfl
theorem dd_Ds_grown_47 : decode (px_rw k_Ds_grown).2.1 47 = .ok (.getfield 27, 3) := (by decide +kernel : decode prog_1_method_16_code 47 = .ok (.getfield 27, 3))
theorem e_Ds_grown_47 (L st : List Value) (T : TS) : rn k_Ds_grown 47 L (.ref 0 :: st) (enc T) = rn k_Ds_grown 50 L (.ref 5 :: st) (enc T) := rn_getA (n := 13) dd_Ds_grown_47 rfl (by decide) (by decide) (by decide) rfl rfl
theorem dd_Ds_grown_50 : decode (px_rw k_Ds_grown).2.1 50 = .ok (.iload_n 1, 1) := (by decide +kernel : decode prog_1_method_16_code 50 = .ok (.iload_n 1, 1))
theorem e_Ds_grown_50 (a0 a2 : Value) (x : Int32) (st : List Value) (g : px_G) : rn k_Ds_grown 50 [a0, .int x, a2] st g = rn k_Ds_grown 51 [a0, .int x, a2] (.int x :: st) g := rn_next dd_Ds_grown_50 rfl
theorem dd_Ds_grown_51 : decode (px_rw k_Ds_grown).2.1 51 = .ok (.aaload, 1) := (by decide +kernel : decode prog_1_method_16_code 51 = .ok (.aaload, 1))
theorem e_Ds_grown_51 (L : List Value) (i : Int32) (p : Nat) (st : List Value) (T : TS) (hp : (sh p).1 = 3) : rn k_Ds_grown 51 L (.int i :: .ref p :: st) (enc T) = if px_in i (sh p).2 then rn k_Ds_grown 52 L (.ref (T.2.2.1 i.toNatClampNeg) :: st) (enc T) else none := rn_aald dd_Ds_grown_51 (Prod.ext hp rfl)
theorem dd_Ds_grown_52 : decode (px_rw k_Ds_grown).2.1 52 = .ok (.getfield 233, 3) := (by decide +kernel : decode prog_1_method_16_code 52 = .ok (.getfield 233, 3))
theorem e_Ds_grown_52 (L : List Value) (p : Nat) (st : List Value) (T : TS) (hp : sh p = (104, 18)) : rn k_Ds_grown 52 L (.ref p :: st) (enc T) = rn k_Ds_grown 55 L (.int (T.1 p 12) :: st) (enc T) := rn_getI (n := 18) dd_Ds_grown_52 rfl (by decide) (by decide) (by decide) rfl hp
theorem dd_Ds_grown_55 : decode (px_rw k_Ds_grown).2.1 55 = .ok (.ireturn, 1) := (by decide +kernel : decode prog_1_method_16_code 55 = .ok (.ireturn, 1))
theorem e_Ds_grown_55 (L : List Value) (v : Int32) (g : px_G) : rn k_Ds_grown 55 L [.int v] g = some (some (.int v), g) := rn_iret dd_Ds_grown_55 rfl
theorem c_Ds_slope (r0 : Nat) (i1 : Int32) (i2 : Int32) (g : px_G) : cl k_Ds_slope [.ref r0, .int i1, .int i2] g = rn k_Ds_slope 0 [.ref r0, .int i1, .int i2, .null, .null, .null] [] g := rfl
theorem dd_Ds_slope_0 : decode (px_rw k_Ds_slope).2.1 0 = .ok (.aload_n 0, 1) := (by decide +kernel : decode prog_1_method_17_code 0 = .ok (.aload_n 0, 1))
theorem e_Ds_slope_0 (a1 a2 a3 a4 a5 : Value) (x : Nat) (st : List Value) (g : px_G) : rn k_Ds_slope 0 [.ref x, a1, a2, a3, a4, a5] st g = rn k_Ds_slope 1 [.ref x, a1, a2, a3, a4, a5] (.ref x :: st) g := rn_next dd_Ds_slope_0 rfl
theorem dd_Ds_slope_1 : decode (px_rw k_Ds_slope).2.1 1 = .ok (.iload_n 1, 1) := (by decide +kernel : decode prog_1_method_17_code 1 = .ok (.iload_n 1, 1))
theorem e_Ds_slope_1 (a0 a2 a3 a4 a5 : Value) (x : Int32) (st : List Value) (g : px_G) : rn k_Ds_slope 1 [a0, .int x, a2, a3, a4, a5] st g = rn k_Ds_slope 2 [a0, .int x, a2, a3, a4, a5] (.int x :: st) g := rn_next dd_Ds_slope_1 rfl
theorem dd_Ds_slope_2 : decode (px_rw k_Ds_slope).2.1 2 = .ok (.invokevirtual 129, 3) := (by decide +kernel : decode prog_1_method_17_code 2 = .ok (.invokevirtual 129, 3))
theorem e_Ds_slope_2 (L : List Value) (i0 : Int32)  (T : TS)  : rn k_Ds_slope 2 L [.int i0, .ref 0] (enc T) = bd (cl k_Ds_isInk [.ref 0, .int i0] (enc T)) (fun r g' => rn k_Ds_slope 5 L (r.toList ++ []) g') := rn_callV (n := 13) (As := [.int i0]) (rest := []) dd_Ds_slope_2 rfl (by decide) (by decide) rfl rfl (Nat.le_of_ble_eq_true rfl) (Nat.le_of_ble_eq_true rfl) rfl
theorem dd_Ds_slope_5 : decode (px_rw k_Ds_slope).2.1 5 = .ok (.ifCond .eq 10, 3) := (by decide +kernel : decode prog_1_method_17_code 5 = .ok (.ifCond .eq 10, 3))
theorem e_Ds_slope_5 (L : List Value) (x : Int32) (st : List Value) (g : px_G) : rn k_Ds_slope 5 L (.int x :: st) g = if x = 0 then rn k_Ds_slope 15 L st g else rn k_Ds_slope 8 L st g := rn_ifeq dd_Ds_slope_5 (by decide)
theorem dd_Ds_slope_8 : decode (px_rw k_Ds_slope).2.1 8 = .ok (.iload_n 2, 1) := (by decide +kernel : decode prog_1_method_17_code 8 = .ok (.iload_n 2, 1))
theorem e_Ds_slope_8 (a0 a1 a3 a4 a5 : Value) (x : Int32) (st : List Value) (g : px_G) : rn k_Ds_slope 8 [a0, a1, .int x, a3, a4, a5] st g = rn k_Ds_slope 9 [a0, a1, .int x, a3, a4, a5] (.int x :: st) g := rn_next dd_Ds_slope_8 rfl
theorem dd_Ds_slope_9 : decode (px_rw k_Ds_slope).2.1 9 = .ok (.invokestatic 182, 3) := (by decide +kernel : decode prog_1_method_17_code 9 = .ok (.invokestatic 182, 3))
theorem e_Ds_slope_9 (L : List Value) (i0 : Int32) (g : px_G) : rn k_Ds_slope 9 L [.int i0] g = bd (cl k_Ds_isAxis [.int i0] g) (fun r g' => rn k_Ds_slope 12 L (r.toList ++ []) g') := rn_callS (As := [.int i0]) (rest := []) dd_Ds_slope_9 rfl (by decide) rfl rfl (Nat.le_of_ble_eq_true rfl) (Nat.le_of_ble_eq_true rfl)
theorem dd_Ds_slope_12 : decode (px_rw k_Ds_slope).2.1 12 = .ok (.ifCond .ne 6, 3) := (by decide +kernel : decode prog_1_method_17_code 12 = .ok (.ifCond .ne 6, 3))
theorem e_Ds_slope_12 (L : List Value) (x : Int32) (st : List Value) (g : px_G) : rn k_Ds_slope 12 L (.int x :: st) g = if x = 0 then rn k_Ds_slope 15 L st g else rn k_Ds_slope 18 L st g := rn_ifne dd_Ds_slope_12 (by decide)
theorem dd_Ds_slope_15 : decode (px_rw k_Ds_slope).2.1 15 = .ok (.ldc 164, 2) := (by decide +kernel : decode prog_1_method_17_code 15 = .ok (.ldc 164, 2))
theorem e_Ds_slope_15 (L st : List Value) (g : px_G) : rn k_Ds_slope 15 L st g = rn k_Ds_slope 17 L (.int (-1000000) :: st) g := rn_ldc (i := .ldc 164) (w := .int (Int32.ofInt (-1000000))) dd_Ds_slope_15 rfl rfl rfl rfl rfl (by decide)
theorem dd_Ds_slope_17 : decode (px_rw k_Ds_slope).2.1 17 = .ok (.ireturn, 1) := (by decide +kernel : decode prog_1_method_17_code 17 = .ok (.ireturn, 1))
theorem e_Ds_slope_17 (L : List Value) (v : Int32) (g : px_G) : rn k_Ds_slope 17 L [.int v] g = some (some (.int v), g) := rn_iret dd_Ds_slope_17 rfl
theorem dd_Ds_slope_18 : decode (px_rw k_Ds_slope).2.1 18 = .ok (.aload_n 0, 1) := (by decide +kernel : decode prog_1_method_17_code 18 = .ok (.aload_n 0, 1))
theorem e_Ds_slope_18 (a1 a2 a3 a4 a5 : Value) (x : Nat) (st : List Value) (g : px_G) : rn k_Ds_slope 18 [.ref x, a1, a2, a3, a4, a5] st g = rn k_Ds_slope 19 [.ref x, a1, a2, a3, a4, a5] (.ref x :: st) g := rn_next dd_Ds_slope_18 rfl
theorem dd_Ds_slope_19 : decode (px_rw k_Ds_slope).2.1 19 = .ok (.getfield 27, 3) := (by decide +kernel : decode prog_1_method_17_code 19 = .ok (.getfield 27, 3))
theorem e_Ds_slope_19 (L st : List Value) (T : TS) : rn k_Ds_slope 19 L (.ref 0 :: st) (enc T) = rn k_Ds_slope 22 L (.ref 5 :: st) (enc T) := rn_getA (n := 13) dd_Ds_slope_19 rfl (by decide) (by decide) (by decide) rfl rfl
theorem dd_Ds_slope_22 : decode (px_rw k_Ds_slope).2.1 22 = .ok (.iload_n 1, 1) := (by decide +kernel : decode prog_1_method_17_code 22 = .ok (.iload_n 1, 1))
theorem e_Ds_slope_22 (a0 a2 a3 a4 a5 : Value) (x : Int32) (st : List Value) (g : px_G) : rn k_Ds_slope 22 [a0, .int x, a2, a3, a4, a5] st g = rn k_Ds_slope 23 [a0, .int x, a2, a3, a4, a5] (.int x :: st) g := rn_next dd_Ds_slope_22 rfl
theorem dd_Ds_slope_23 : decode (px_rw k_Ds_slope).2.1 23 = .ok (.aaload, 1) := (by decide +kernel : decode prog_1_method_17_code 23 = .ok (.aaload, 1))
theorem e_Ds_slope_23 (L : List Value) (i : Int32) (p : Nat) (st : List Value) (T : TS) (hp : (sh p).1 = 3) : rn k_Ds_slope 23 L (.int i :: .ref p :: st) (enc T) = if px_in i (sh p).2 then rn k_Ds_slope 24 L (.ref (T.2.2.1 i.toNatClampNeg) :: st) (enc T) else none := rn_aald dd_Ds_slope_23 (Prod.ext hp rfl)
theorem dd_Ds_slope_24 : decode (px_rw k_Ds_slope).2.1 24 = .ok (.getfield 139, 3) := (by decide +kernel : decode prog_1_method_17_code 24 = .ok (.getfield 139, 3))
theorem e_Ds_slope_24 (L : List Value) (p : Nat) (st : List Value) (T : TS) (hp : sh p = (104, 18)) : rn k_Ds_slope 24 L (.ref p :: st) (enc T) = rn k_Ds_slope 27 L (.ref (p + 1) :: st) (enc T) := (rn_getO (n := 18) dd_Ds_slope_24 rfl (by decide) (by decide) (by decide) rfl hp).trans (by rw [ink_rf_0 hp])
theorem dd_Ds_slope_27 : decode (px_rw k_Ds_slope).2.1 27 = .ok (.astore_n 3, 1) := (by decide +kernel : decode prog_1_method_17_code 27 = .ok (.astore_n 3, 1))
theorem e_Ds_slope_27 (a0 a1 a2 a3 a4 a5 : Value) (x : Nat) (st : List Value) (g : px_G) : rn k_Ds_slope 27 [a0, a1, a2, a3, a4, a5] (.ref x :: st) g = rn k_Ds_slope 28 [a0, a1, px_kill a2, .ref x, a4, a5] st g := rn_next dd_Ds_slope_27 rfl
theorem dd_Ds_slope_28 : decode (px_rw k_Ds_slope).2.1 28 = .ok (.aload_n 3, 1) := (by decide +kernel : decode prog_1_method_17_code 28 = .ok (.aload_n 3, 1))
theorem e_Ds_slope_28 (a0 a1 a2 a4 a5 : Value) (x : Nat) (st : List Value) (g : px_G) : rn k_Ds_slope 28 [a0, a1, a2, .ref x, a4, a5] st g = rn k_Ds_slope 29 [a0, a1, a2, .ref x, a4, a5] (.ref x :: st) g := rn_next dd_Ds_slope_28 rfl
theorem dd_Ds_slope_29 : decode (px_rw k_Ds_slope).2.1 29 = .ok (.getfield 142, 3) := (by decide +kernel : decode prog_1_method_17_code 29 = .ok (.getfield 142, 3))
theorem e_Ds_slope_29 (L : List Value) (p : Nat) (st : List Value) (T : TS) (hp : sh p = (107, 4)) : rn k_Ds_slope 29 L (.ref p :: st) (enc T) = rn k_Ds_slope 32 L (.int (T.1 p 0) :: st) (enc T) := rn_getI (n := 4) dd_Ds_slope_29 rfl (by decide) (by decide) (by decide) rfl hp
theorem dd_Ds_slope_32 : decode (px_rw k_Ds_slope).2.1 32 = .ok (.aload_n 3, 1) := (by decide +kernel : decode prog_1_method_17_code 32 = .ok (.aload_n 3, 1))
theorem e_Ds_slope_32 (a0 a1 a2 a4 a5 : Value) (x : Nat) (st : List Value) (g : px_G) : rn k_Ds_slope 32 [a0, a1, a2, .ref x, a4, a5] st g = rn k_Ds_slope 33 [a0, a1, a2, .ref x, a4, a5] (.ref x :: st) g := rn_next dd_Ds_slope_32 rfl
theorem dd_Ds_slope_33 : decode (px_rw k_Ds_slope).2.1 33 = .ok (.getfield 145, 3) := (by decide +kernel : decode prog_1_method_17_code 33 = .ok (.getfield 145, 3))
theorem e_Ds_slope_33 (L : List Value) (p : Nat) (st : List Value) (T : TS) (hp : sh p = (107, 4)) : rn k_Ds_slope 33 L (.ref p :: st) (enc T) = rn k_Ds_slope 36 L (.int (T.1 p 1) :: st) (enc T) := rn_getI (n := 4) dd_Ds_slope_33 rfl (by decide) (by decide) (by decide) rfl hp
theorem dd_Ds_slope_36 : decode (px_rw k_Ds_slope).2.1 36 = .ok (.invokestatic 236, 3) := (by decide +kernel : decode prog_1_method_17_code 36 = .ok (.invokestatic 236, 3))
theorem e_Ds_slope_36 (L : List Value) (i0 : Int32) (i1 : Int32) (g : px_G) : rn k_Ds_slope 36 L [.int i1, .int i0] g = bd (cl k_Ds_turnedX [.int i0, .int i1] g) (fun r g' => rn k_Ds_slope 39 L (r.toList ++ []) g') := rn_callS (As := [.int i0, .int i1]) (rest := []) dd_Ds_slope_36 rfl (by decide) rfl rfl (Nat.le_of_ble_eq_true rfl) (Nat.le_of_ble_eq_true rfl)
theorem dd_Ds_slope_39 : decode (px_rw k_Ds_slope).2.1 39 = .ok (.istore 4, 2) := (by decide +kernel : decode prog_1_method_17_code 39 = .ok (.istore 4, 2))
theorem e_Ds_slope_39 (a0 a1 a2 a3 a4 a5 : Value) (x : Int32) (st : List Value) (g : px_G) : rn k_Ds_slope 39 [a0, a1, a2, a3, a4, a5] (.int x :: st) g = rn k_Ds_slope 41 [a0, a1, a2, px_kill a3, .int x, a5] st g := rn_next dd_Ds_slope_39 rfl
theorem dd_Ds_slope_41 : decode (px_rw k_Ds_slope).2.1 41 = .ok (.aload_n 3, 1) := (by decide +kernel : decode prog_1_method_17_code 41 = .ok (.aload_n 3, 1))
theorem e_Ds_slope_41 (a0 a1 a2 a4 a5 : Value) (x : Nat) (st : List Value) (g : px_G) : rn k_Ds_slope 41 [a0, a1, a2, .ref x, a4, a5] st g = rn k_Ds_slope 42 [a0, a1, a2, .ref x, a4, a5] (.ref x :: st) g := rn_next dd_Ds_slope_41 rfl
theorem dd_Ds_slope_42 : decode (px_rw k_Ds_slope).2.1 42 = .ok (.getfield 142, 3) := (by decide +kernel : decode prog_1_method_17_code 42 = .ok (.getfield 142, 3))
theorem e_Ds_slope_42 (L : List Value) (p : Nat) (st : List Value) (T : TS) (hp : sh p = (107, 4)) : rn k_Ds_slope 42 L (.ref p :: st) (enc T) = rn k_Ds_slope 45 L (.int (T.1 p 0) :: st) (enc T) := rn_getI (n := 4) dd_Ds_slope_42 rfl (by decide) (by decide) (by decide) rfl hp
theorem dd_Ds_slope_45 : decode (px_rw k_Ds_slope).2.1 45 = .ok (.aload_n 3, 1) := (by decide +kernel : decode prog_1_method_17_code 45 = .ok (.aload_n 3, 1))
theorem e_Ds_slope_45 (a0 a1 a2 a4 a5 : Value) (x : Nat) (st : List Value) (g : px_G) : rn k_Ds_slope 45 [a0, a1, a2, .ref x, a4, a5] st g = rn k_Ds_slope 46 [a0, a1, a2, .ref x, a4, a5] (.ref x :: st) g := rn_next dd_Ds_slope_45 rfl
theorem dd_Ds_slope_46 : decode (px_rw k_Ds_slope).2.1 46 = .ok (.getfield 145, 3) := (by decide +kernel : decode prog_1_method_17_code 46 = .ok (.getfield 145, 3))
theorem e_Ds_slope_46 (L : List Value) (p : Nat) (st : List Value) (T : TS) (hp : sh p = (107, 4)) : rn k_Ds_slope 46 L (.ref p :: st) (enc T) = rn k_Ds_slope 49 L (.int (T.1 p 1) :: st) (enc T) := rn_getI (n := 4) dd_Ds_slope_46 rfl (by decide) (by decide) (by decide) rfl hp
theorem dd_Ds_slope_49 : decode (px_rw k_Ds_slope).2.1 49 = .ok (.invokestatic 239, 3) := (by decide +kernel : decode prog_1_method_17_code 49 = .ok (.invokestatic 239, 3))
theorem e_Ds_slope_49 (L : List Value) (i0 : Int32) (i1 : Int32) (g : px_G) : rn k_Ds_slope 49 L [.int i1, .int i0] g = bd (cl k_Ds_turnedY [.int i0, .int i1] g) (fun r g' => rn k_Ds_slope 52 L (r.toList ++ []) g') := rn_callS (As := [.int i0, .int i1]) (rest := []) dd_Ds_slope_49 rfl (by decide) rfl rfl (Nat.le_of_ble_eq_true rfl) (Nat.le_of_ble_eq_true rfl)
theorem dd_Ds_slope_52 : decode (px_rw k_Ds_slope).2.1 52 = .ok (.istore 5, 2) := (by decide +kernel : decode prog_1_method_17_code 52 = .ok (.istore 5, 2))
theorem e_Ds_slope_52 (a0 a1 a2 a3 a4 a5 : Value) (x : Int32) (st : List Value) (g : px_G) : rn k_Ds_slope 52 [a0, a1, a2, a3, a4, a5] (.int x :: st) g = rn k_Ds_slope 54 [a0, a1, a2, a3, px_kill a4, .int x] st g := rn_next dd_Ds_slope_52 rfl
theorem dd_Ds_slope_54 : decode (px_rw k_Ds_slope).2.1 54 = .ok (.iload_n 2, 1) := (by decide +kernel : decode prog_1_method_17_code 54 = .ok (.iload_n 2, 1))
theorem e_Ds_slope_54 (a0 a1 a3 a4 a5 : Value) (x : Int32) (st : List Value) (g : px_G) : rn k_Ds_slope 54 [a0, a1, .int x, a3, a4, a5] st g = rn k_Ds_slope 55 [a0, a1, .int x, a3, a4, a5] (.int x :: st) g := rn_next dd_Ds_slope_54 rfl
theorem dd_Ds_slope_55 : decode (px_rw k_Ds_slope).2.1 55 = .ok (.ifCond .ne 8, 3) := (by decide +kernel : decode prog_1_method_17_code 55 = .ok (.ifCond .ne 8, 3))
theorem e_Ds_slope_55 (L : List Value) (x : Int32) (st : List Value) (g : px_G) : rn k_Ds_slope 55 L (.int x :: st) g = if x = 0 then rn k_Ds_slope 58 L st g else rn k_Ds_slope 63 L st g := rn_ifne dd_Ds_slope_55 (by decide)
theorem dd_Ds_slope_58 : decode (px_rw k_Ds_slope).2.1 58 = .ok (.iload 4, 2) := (by decide +kernel : decode prog_1_method_17_code 58 = .ok (.iload 4, 2))
theorem e_Ds_slope_58 (a0 a1 a2 a3 a5 : Value) (x : Int32) (st : List Value) (g : px_G) : rn k_Ds_slope 58 [a0, a1, a2, a3, .int x, a5] st g = rn k_Ds_slope 60 [a0, a1, a2, a3, .int x, a5] (.int x :: st) g := rn_next dd_Ds_slope_58 rfl
theorem dd_Ds_slope_60 : decode (px_rw k_Ds_slope).2.1 60 = .ok (.goto 5, 3) := (by decide +kernel : decode prog_1_method_17_code 60 = .ok (.goto 5, 3))
theorem e_Ds_slope_60 (L st : List Value) (g : px_G) : rn k_Ds_slope 60 L st g = rn k_Ds_slope 65 L st g := rn_goto dd_Ds_slope_60 (by decide)
theorem dd_Ds_slope_63 : decode (px_rw k_Ds_slope).2.1 63 = .ok (.iload 5, 2) := (by decide +kernel : decode prog_1_method_17_code 63 = .ok (.iload 5, 2))
theorem e_Ds_slope_63 (a0 a1 a2 a3 a4 : Value) (x : Int32) (st : List Value) (g : px_G) : rn k_Ds_slope 63 [a0, a1, a2, a3, a4, .int x] st g = rn k_Ds_slope 65 [a0, a1, a2, a3, a4, .int x] (.int x :: st) g := rn_next dd_Ds_slope_63 rfl
theorem dd_Ds_slope_65 : decode (px_rw k_Ds_slope).2.1 65 = .ok (.iload 4, 2) := (by decide +kernel : decode prog_1_method_17_code 65 = .ok (.iload 4, 2))
theorem e_Ds_slope_65 (a0 a1 a2 a3 a5 : Value) (x : Int32) (st : List Value) (g : px_G) : rn k_Ds_slope 65 [a0, a1, a2, a3, .int x, a5] st g = rn k_Ds_slope 67 [a0, a1, a2, a3, .int x, a5] (.int x :: st) g := rn_next dd_Ds_slope_65 rfl
theorem dd_Ds_slope_67 : decode (px_rw k_Ds_slope).2.1 67 = .ok (.iload 5, 2) := (by decide +kernel : decode prog_1_method_17_code 67 = .ok (.iload 5, 2))
theorem e_Ds_slope_67 (a0 a1 a2 a3 a4 : Value) (x : Int32) (st : List Value) (g : px_G) : rn k_Ds_slope 67 [a0, a1, a2, a3, a4, .int x] st g = rn k_Ds_slope 69 [a0, a1, a2, a3, a4, .int x] (.int x :: st) g := rn_next dd_Ds_slope_67 rfl
theorem dd_Ds_slope_69 : decode (px_rw k_Ds_slope).2.1 69 = .ok (.invokestatic 242, 3) := (by decide +kernel : decode prog_1_method_17_code 69 = .ok (.invokestatic 242, 3))
theorem e_Ds_slope_69 (L : List Value) (i0 : Int32) (i1 : Int32) (i2 : Int32) (g : px_G) : rn k_Ds_slope 69 L [.int i2, .int i1, .int i0] g = bd (cl k_Ds_lowest [.int i0, .int i1, .int i2] g) (fun r g' => rn k_Ds_slope 72 L (r.toList ++ []) g') := rn_callS (As := [.int i0, .int i1, .int i2]) (rest := []) dd_Ds_slope_69 rfl (by decide) rfl rfl (Nat.le_of_ble_eq_true rfl) (Nat.le_of_ble_eq_true rfl)
theorem dd_Ds_slope_72 : decode (px_rw k_Ds_slope).2.1 72 = .ok (.ireturn, 1) := (by decide +kernel : decode prog_1_method_17_code 72 = .ok (.ireturn, 1))
theorem e_Ds_slope_72 (L : List Value) (v : Int32) (g : px_G) : rn k_Ds_slope 72 L [.int v] g = some (some (.int v), g) := rn_iret dd_Ds_slope_72 rfl
theorem c_Ds_turnedX (i0 : Int32) (i1 : Int32) (g : px_G) : cl k_Ds_turnedX [.int i0, .int i1] g = rn k_Ds_turnedX 0 [.int i0, .int i1] [] g := rfl
theorem dd_Ds_turnedX_0 : decode (px_rw k_Ds_turnedX).2.1 0 = .ok (.iload_n 0, 1) := (by decide +kernel : decode prog_1_method_64_code 0 = .ok (.iload_n 0, 1))
theorem e_Ds_turnedX_0 (a1 : Value) (x : Int32) (st : List Value) (g : px_G) : rn k_Ds_turnedX 0 [.int x, a1] st g = rn k_Ds_turnedX 1 [.int x, a1] (.int x :: st) g := rn_next dd_Ds_turnedX_0 rfl
theorem dd_Ds_turnedX_1 : decode (px_rw k_Ds_turnedX).2.1 1 = .ok (.ifCond .le 7, 3) := (by decide +kernel : decode prog_1_method_64_code 1 = .ok (.ifCond .le 7, 3))
theorem e_Ds_turnedX_1 (L : List Value) (x : Int32) (st : List Value) (g : px_G) : rn k_Ds_turnedX 1 L (.int x :: st) g = if x ≤ 0 then rn k_Ds_turnedX 8 L st g else rn k_Ds_turnedX 4 L st g := rn_ifle dd_Ds_turnedX_1 (by decide)
theorem dd_Ds_turnedX_4 : decode (px_rw k_Ds_turnedX).2.1 4 = .ok (.iload_n 1, 1) := (by decide +kernel : decode prog_1_method_64_code 4 = .ok (.iload_n 1, 1))
theorem e_Ds_turnedX_4 (a0 : Value) (x : Int32) (st : List Value) (g : px_G) : rn k_Ds_turnedX 4 [a0, .int x] st g = rn k_Ds_turnedX 5 [a0, .int x] (.int x :: st) g := rn_next dd_Ds_turnedX_4 rfl
theorem dd_Ds_turnedX_5 : decode (px_rw k_Ds_turnedX).2.1 5 = .ok (.ifCond .ge 11, 3) := (by decide +kernel : decode prog_1_method_64_code 5 = .ok (.ifCond .ge 11, 3))
theorem e_Ds_turnedX_5 (L : List Value) (x : Int32) (st : List Value) (g : px_G) : rn k_Ds_turnedX 5 L (.int x :: st) g = if 0 ≤ x then rn k_Ds_turnedX 16 L st g else rn k_Ds_turnedX 8 L st g := rn_ifge dd_Ds_turnedX_5 (by decide)
theorem dd_Ds_turnedX_8 : decode (px_rw k_Ds_turnedX).2.1 8 = .ok (.iload_n 0, 1) := (by decide +kernel : decode prog_1_method_64_code 8 = .ok (.iload_n 0, 1))
theorem e_Ds_turnedX_8 (a1 : Value) (x : Int32) (st : List Value) (g : px_G) : rn k_Ds_turnedX 8 [.int x, a1] st g = rn k_Ds_turnedX 9 [.int x, a1] (.int x :: st) g := rn_next dd_Ds_turnedX_8 rfl
theorem dd_Ds_turnedX_9 : decode (px_rw k_Ds_turnedX).2.1 9 = .ok (.ifCond .ge 14, 3) := (by decide +kernel : decode prog_1_method_64_code 9 = .ok (.ifCond .ge 14, 3))
theorem e_Ds_turnedX_9 (L : List Value) (x : Int32) (st : List Value) (g : px_G) : rn k_Ds_turnedX 9 L (.int x :: st) g = if 0 ≤ x then rn k_Ds_turnedX 23 L st g else rn k_Ds_turnedX 12 L st g := rn_ifge dd_Ds_turnedX_9 (by decide)
theorem dd_Ds_turnedX_12 : decode (px_rw k_Ds_turnedX).2.1 12 = .ok (.iload_n 1, 1) := (by decide +kernel : decode prog_1_method_64_code 12 = .ok (.iload_n 1, 1))
theorem e_Ds_turnedX_12 (a0 : Value) (x : Int32) (st : List Value) (g : px_G) : rn k_Ds_turnedX 12 [a0, .int x] st g = rn k_Ds_turnedX 13 [a0, .int x] (.int x :: st) g := rn_next dd_Ds_turnedX_12 rfl
theorem dd_Ds_turnedX_13 : decode (px_rw k_Ds_turnedX).2.1 13 = .ok (.ifCond .gt 10, 3) := (by decide +kernel : decode prog_1_method_64_code 13 = .ok (.ifCond .gt 10, 3))
theorem e_Ds_turnedX_13 (L : List Value) (x : Int32) (st : List Value) (g : px_G) : rn k_Ds_turnedX 13 L (.int x :: st) g = if 0 < x then rn k_Ds_turnedX 23 L st g else rn k_Ds_turnedX 16 L st g := rn_ifgt dd_Ds_turnedX_13 (by decide)
theorem dd_Ds_turnedX_16 : decode (px_rw k_Ds_turnedX).2.1 16 = .ok (.iload_n 0, 1) := (by decide +kernel : decode prog_1_method_64_code 16 = .ok (.iload_n 0, 1))
theorem e_Ds_turnedX_16 (a1 : Value) (x : Int32) (st : List Value) (g : px_G) : rn k_Ds_turnedX 16 [.int x, a1] st g = rn k_Ds_turnedX 17 [.int x, a1] (.int x :: st) g := rn_next dd_Ds_turnedX_16 rfl
theorem dd_Ds_turnedX_17 : decode (px_rw k_Ds_turnedX).2.1 17 = .ok (.invokestatic 351, 3) := (by decide +kernel : decode prog_1_method_64_code 17 = .ok (.invokestatic 351, 3))
theorem e_Ds_turnedX_17 (L : List Value) (i0 : Int32) (g : px_G) : rn k_Ds_turnedX 17 L [.int i0] g = bd (cl k_Math_abs_I [.int i0] g) (fun r g' => rn k_Ds_turnedX 20 L (r.toList ++ []) g') := rn_callS (As := [.int i0]) (rest := []) dd_Ds_turnedX_17 rfl (by decide) rfl rfl (Nat.le_of_ble_eq_true rfl) (Nat.le_of_ble_eq_true rfl)
theorem dd_Ds_turnedX_20 : decode (px_rw k_Ds_turnedX).2.1 20 = .ok (.goto 7, 3) := (by decide +kernel : decode prog_1_method_64_code 20 = .ok (.goto 7, 3))
theorem e_Ds_turnedX_20 (L st : List Value) (g : px_G) : rn k_Ds_turnedX 20 L st g = rn k_Ds_turnedX 27 L st g := rn_goto dd_Ds_turnedX_20 (by decide)
theorem dd_Ds_turnedX_23 : decode (px_rw k_Ds_turnedX).2.1 23 = .ok (.iload_n 1, 1) := (by decide +kernel : decode prog_1_method_64_code 23 = .ok (.iload_n 1, 1))
theorem e_Ds_turnedX_23 (a0 : Value) (x : Int32) (st : List Value) (g : px_G) : rn k_Ds_turnedX 23 [a0, .int x] st g = rn k_Ds_turnedX 24 [a0, .int x] (.int x :: st) g := rn_next dd_Ds_turnedX_23 rfl
theorem dd_Ds_turnedX_24 : decode (px_rw k_Ds_turnedX).2.1 24 = .ok (.invokestatic 351, 3) := (by decide +kernel : decode prog_1_method_64_code 24 = .ok (.invokestatic 351, 3))
theorem e_Ds_turnedX_24 (L : List Value) (i0 : Int32) (g : px_G) : rn k_Ds_turnedX 24 L [.int i0] g = bd (cl k_Math_abs_I [.int i0] g) (fun r g' => rn k_Ds_turnedX 27 L (r.toList ++ []) g') := rn_callS (As := [.int i0]) (rest := []) dd_Ds_turnedX_24 rfl (by decide) rfl rfl (Nat.le_of_ble_eq_true rfl) (Nat.le_of_ble_eq_true rfl)
theorem dd_Ds_turnedX_27 : decode (px_rw k_Ds_turnedX).2.1 27 = .ok (.ireturn, 1) := (by decide +kernel : decode prog_1_method_64_code 27 = .ok (.ireturn, 1))
theorem e_Ds_turnedX_27 (L : List Value) (v : Int32) (g : px_G) : rn k_Ds_turnedX 27 L [.int v] g = some (some (.int v), g) := rn_iret dd_Ds_turnedX_27 rfl
theorem c_Ds_turnedY (i0 : Int32) (i1 : Int32) (g : px_G) : cl k_Ds_turnedY [.int i0, .int i1] g = rn k_Ds_turnedY 0 [.int i0, .int i1] [] g := rfl
theorem dd_Ds_turnedY_0 : decode (px_rw k_Ds_turnedY).2.1 0 = .ok (.iload_n 0, 1) := (by decide +kernel : decode prog_1_method_65_code 0 = .ok (.iload_n 0, 1))
theorem e_Ds_turnedY_0 (a1 : Value) (x : Int32) (st : List Value) (g : px_G) : rn k_Ds_turnedY 0 [.int x, a1] st g = rn k_Ds_turnedY 1 [.int x, a1] (.int x :: st) g := rn_next dd_Ds_turnedY_0 rfl
theorem dd_Ds_turnedY_1 : decode (px_rw k_Ds_turnedY).2.1 1 = .ok (.ifCond .le 7, 3) := (by decide +kernel : decode prog_1_method_65_code 1 = .ok (.ifCond .le 7, 3))
theorem e_Ds_turnedY_1 (L : List Value) (x : Int32) (st : List Value) (g : px_G) : rn k_Ds_turnedY 1 L (.int x :: st) g = if x ≤ 0 then rn k_Ds_turnedY 8 L st g else rn k_Ds_turnedY 4 L st g := rn_ifle dd_Ds_turnedY_1 (by decide)
theorem dd_Ds_turnedY_4 : decode (px_rw k_Ds_turnedY).2.1 4 = .ok (.iload_n 1, 1) := (by decide +kernel : decode prog_1_method_65_code 4 = .ok (.iload_n 1, 1))
theorem e_Ds_turnedY_4 (a0 : Value) (x : Int32) (st : List Value) (g : px_G) : rn k_Ds_turnedY 4 [a0, .int x] st g = rn k_Ds_turnedY 5 [a0, .int x] (.int x :: st) g := rn_next dd_Ds_turnedY_4 rfl
theorem dd_Ds_turnedY_5 : decode (px_rw k_Ds_turnedY).2.1 5 = .ok (.ifCond .ge 11, 3) := (by decide +kernel : decode prog_1_method_65_code 5 = .ok (.ifCond .ge 11, 3))
theorem e_Ds_turnedY_5 (L : List Value) (x : Int32) (st : List Value) (g : px_G) : rn k_Ds_turnedY 5 L (.int x :: st) g = if 0 ≤ x then rn k_Ds_turnedY 16 L st g else rn k_Ds_turnedY 8 L st g := rn_ifge dd_Ds_turnedY_5 (by decide)
theorem dd_Ds_turnedY_8 : decode (px_rw k_Ds_turnedY).2.1 8 = .ok (.iload_n 0, 1) := (by decide +kernel : decode prog_1_method_65_code 8 = .ok (.iload_n 0, 1))
theorem e_Ds_turnedY_8 (a1 : Value) (x : Int32) (st : List Value) (g : px_G) : rn k_Ds_turnedY 8 [.int x, a1] st g = rn k_Ds_turnedY 9 [.int x, a1] (.int x :: st) g := rn_next dd_Ds_turnedY_8 rfl
theorem dd_Ds_turnedY_9 : decode (px_rw k_Ds_turnedY).2.1 9 = .ok (.ifCond .ge 14, 3) := (by decide +kernel : decode prog_1_method_65_code 9 = .ok (.ifCond .ge 14, 3))
theorem e_Ds_turnedY_9 (L : List Value) (x : Int32) (st : List Value) (g : px_G) : rn k_Ds_turnedY 9 L (.int x :: st) g = if 0 ≤ x then rn k_Ds_turnedY 23 L st g else rn k_Ds_turnedY 12 L st g := rn_ifge dd_Ds_turnedY_9 (by decide)
theorem dd_Ds_turnedY_12 : decode (px_rw k_Ds_turnedY).2.1 12 = .ok (.iload_n 1, 1) := (by decide +kernel : decode prog_1_method_65_code 12 = .ok (.iload_n 1, 1))
theorem e_Ds_turnedY_12 (a0 : Value) (x : Int32) (st : List Value) (g : px_G) : rn k_Ds_turnedY 12 [a0, .int x] st g = rn k_Ds_turnedY 13 [a0, .int x] (.int x :: st) g := rn_next dd_Ds_turnedY_12 rfl
theorem dd_Ds_turnedY_13 : decode (px_rw k_Ds_turnedY).2.1 13 = .ok (.ifCond .gt 10, 3) := (by decide +kernel : decode prog_1_method_65_code 13 = .ok (.ifCond .gt 10, 3))
theorem e_Ds_turnedY_13 (L : List Value) (x : Int32) (st : List Value) (g : px_G) : rn k_Ds_turnedY 13 L (.int x :: st) g = if 0 < x then rn k_Ds_turnedY 23 L st g else rn k_Ds_turnedY 16 L st g := rn_ifgt dd_Ds_turnedY_13 (by decide)
theorem dd_Ds_turnedY_16 : decode (px_rw k_Ds_turnedY).2.1 16 = .ok (.iload_n 1, 1) := (by decide +kernel : decode prog_1_method_65_code 16 = .ok (.iload_n 1, 1))
theorem e_Ds_turnedY_16 (a0 : Value) (x : Int32) (st : List Value) (g : px_G) : rn k_Ds_turnedY 16 [a0, .int x] st g = rn k_Ds_turnedY 17 [a0, .int x] (.int x :: st) g := rn_next dd_Ds_turnedY_16 rfl
theorem dd_Ds_turnedY_17 : decode (px_rw k_Ds_turnedY).2.1 17 = .ok (.invokestatic 351, 3) := (by decide +kernel : decode prog_1_method_65_code 17 = .ok (.invokestatic 351, 3))
theorem e_Ds_turnedY_17 (L : List Value) (i0 : Int32) (g : px_G) : rn k_Ds_turnedY 17 L [.int i0] g = bd (cl k_Math_abs_I [.int i0] g) (fun r g' => rn k_Ds_turnedY 20 L (r.toList ++ []) g') := rn_callS (As := [.int i0]) (rest := []) dd_Ds_turnedY_17 rfl (by decide) rfl rfl (Nat.le_of_ble_eq_true rfl) (Nat.le_of_ble_eq_true rfl)
theorem dd_Ds_turnedY_20 : decode (px_rw k_Ds_turnedY).2.1 20 = .ok (.goto 7, 3) := (by decide +kernel : decode prog_1_method_65_code 20 = .ok (.goto 7, 3))
theorem e_Ds_turnedY_20 (L st : List Value) (g : px_G) : rn k_Ds_turnedY 20 L st g = rn k_Ds_turnedY 27 L st g := rn_goto dd_Ds_turnedY_20 (by decide)
theorem dd_Ds_turnedY_23 : decode (px_rw k_Ds_turnedY).2.1 23 = .ok (.iload_n 0, 1) := (by decide +kernel : decode prog_1_method_65_code 23 = .ok (.iload_n 0, 1))
theorem e_Ds_turnedY_23 (a1 : Value) (x : Int32) (st : List Value) (g : px_G) : rn k_Ds_turnedY 23 [.int x, a1] st g = rn k_Ds_turnedY 24 [.int x, a1] (.int x :: st) g := rn_next dd_Ds_turnedY_23 rfl
theorem dd_Ds_turnedY_24 : decode (px_rw k_Ds_turnedY).2.1 24 = .ok (.invokestatic 351, 3) := (by decide +kernel : decode prog_1_method_65_code 24 = .ok (.invokestatic 351, 3))
theorem e_Ds_turnedY_24 (L : List Value) (i0 : Int32) (g : px_G) : rn k_Ds_turnedY 24 L [.int i0] g = bd (cl k_Math_abs_I [.int i0] g) (fun r g' => rn k_Ds_turnedY 27 L (r.toList ++ []) g') := rn_callS (As := [.int i0]) (rest := []) dd_Ds_turnedY_24 rfl (by decide) rfl rfl (Nat.le_of_ble_eq_true rfl) (Nat.le_of_ble_eq_true rfl)
theorem dd_Ds_turnedY_27 : decode (px_rw k_Ds_turnedY).2.1 27 = .ok (.ireturn, 1) := (by decide +kernel : decode prog_1_method_65_code 27 = .ok (.ireturn, 1))
theorem e_Ds_turnedY_27 (L : List Value) (v : Int32) (g : px_G) : rn k_Ds_turnedY 27 L [.int v] g = some (some (.int v), g) := rn_iret dd_Ds_turnedY_27 rfl
theorem c_Ds_lowest (i0 : Int32) (i1 : Int32) (i2 : Int32) (g : px_G) : cl k_Ds_lowest [.int i0, .int i1, .int i2] g = rn k_Ds_lowest 0 [.int i0, .int i1, .int i2] [] g := rfl
theorem dd_Ds_lowest_0 : decode (px_rw k_Ds_lowest).2.1 0 = .ok (.iload_n 0, 1) := (by decide +kernel : decode prog_1_method_62_code 0 = .ok (.iload_n 0, 1))
theorem e_Ds_lowest_0 (a1 a2 : Value) (x : Int32) (st : List Value) (g : px_G) : rn k_Ds_lowest 0 [.int x, a1, a2] st g = rn k_Ds_lowest 1 [.int x, a1, a2] (.int x :: st) g := rn_next dd_Ds_lowest_0 rfl
theorem dd_Ds_lowest_1 : decode (px_rw k_Ds_lowest).2.1 1 = .ok (.i2l, 1) := (by decide +kernel : decode prog_1_method_62_code 1 = .ok (.i2l, 1))
theorem e_Ds_lowest_1 (L : List Value) (x : Int32) (st : List Value) (g : px_G) : rn k_Ds_lowest 1 L (.int x :: st) g = rn k_Ds_lowest 2 L (.long x.toInt64 :: st) g := rn_next dd_Ds_lowest_1 rfl
theorem dd_Ds_lowest_2 : decode (px_rw k_Ds_lowest).2.1 2 = .ok (.iload_n 1, 1) := (by decide +kernel : decode prog_1_method_62_code 2 = .ok (.iload_n 1, 1))
theorem e_Ds_lowest_2 (a0 a2 : Value) (x : Int32) (st : List Value) (g : px_G) : rn k_Ds_lowest 2 [a0, .int x, a2] st g = rn k_Ds_lowest 3 [a0, .int x, a2] (.int x :: st) g := rn_next dd_Ds_lowest_2 rfl
theorem dd_Ds_lowest_3 : decode (px_rw k_Ds_lowest).2.1 3 = .ok (.i2l, 1) := (by decide +kernel : decode prog_1_method_62_code 3 = .ok (.i2l, 1))
theorem e_Ds_lowest_3 (L : List Value) (x : Int32) (st : List Value) (g : px_G) : rn k_Ds_lowest 3 L (.int x :: st) g = rn k_Ds_lowest 4 L (.long x.toInt64 :: st) g := rn_next dd_Ds_lowest_3 rfl
theorem dd_Ds_lowest_4 : decode (px_rw k_Ds_lowest).2.1 4 = .ok (.iload_n 2, 1) := (by decide +kernel : decode prog_1_method_62_code 4 = .ok (.iload_n 2, 1))
theorem e_Ds_lowest_4 (a0 a1 : Value) (x : Int32) (st : List Value) (g : px_G) : rn k_Ds_lowest 4 [a0, a1, .int x] st g = rn k_Ds_lowest 5 [a0, a1, .int x] (.int x :: st) g := rn_next dd_Ds_lowest_4 rfl
theorem dd_Ds_lowest_5 : decode (px_rw k_Ds_lowest).2.1 5 = .ok (.i2l, 1) := (by decide +kernel : decode prog_1_method_62_code 5 = .ok (.i2l, 1))
theorem e_Ds_lowest_5 (L : List Value) (x : Int32) (st : List Value) (g : px_G) : rn k_Ds_lowest 5 L (.int x :: st) g = rn k_Ds_lowest 6 L (.long x.toInt64 :: st) g := rn_next dd_Ds_lowest_5 rfl
theorem dd_Ds_lowest_6 : decode (px_rw k_Ds_lowest).2.1 6 = .ok (.invokestatic 378, 3) := (by decide +kernel : decode prog_1_method_62_code 6 = .ok (.invokestatic 378, 3))
theorem e_Ds_lowest_6 (L : List Value) (j0 : Int64) (j1 : Int64) (j100 : Int64) (g : px_G) : rn k_Ds_lowest 6 L [.long j1, .long j0, .long j100] g = bd (cl k_Ds_commonPart [.long j0, .long j1] g) (fun r g' => rn k_Ds_lowest 9 L (r.toList ++ [.long j100]) g') := rn_callS (As := [.long j0, .long j1]) (rest := [.long j100]) dd_Ds_lowest_6 rfl (by decide) rfl rfl (Nat.le_of_ble_eq_true rfl) (Nat.le_of_ble_eq_true rfl)
theorem dd_Ds_lowest_9 : decode (px_rw k_Ds_lowest).2.1 9 = .ok (.invokestatic 282, 3) := (by decide +kernel : decode prog_1_method_62_code 9 = .ok (.invokestatic 282, 3))
theorem e_Ds_lowest_9 (L : List Value) (j0 : Int64) (j1 : Int64) (g : px_G) : rn k_Ds_lowest 9 L [.long j1, .long j0] g = bd (cl k_Ds_div [.long j0, .long j1] g) (fun r g' => rn k_Ds_lowest 12 L (r.toList ++ []) g') := rn_callS (As := [.long j0, .long j1]) (rest := []) dd_Ds_lowest_9 rfl (by decide) rfl rfl (Nat.le_of_ble_eq_true rfl) (Nat.le_of_ble_eq_true rfl)
theorem dd_Ds_lowest_12 : decode (px_rw k_Ds_lowest).2.1 12 = .ok (.l2i, 1) := (by decide +kernel : decode prog_1_method_62_code 12 = .ok (.l2i, 1))
theorem e_Ds_lowest_12 (L : List Value) (x : Int64) (st : List Value) (g : px_G) : rn k_Ds_lowest 12 L (.long x :: st) g = rn k_Ds_lowest 13 L (.int x.toInt32 :: st) g := rn_next dd_Ds_lowest_12 rfl
theorem dd_Ds_lowest_13 : decode (px_rw k_Ds_lowest).2.1 13 = .ok (.ireturn, 1) := (by decide +kernel : decode prog_1_method_62_code 13 = .ok (.ireturn, 1))
theorem e_Ds_lowest_13 (L : List Value) (v : Int32) (g : px_G) : rn k_Ds_lowest 13 L [.int v] g = some (some (.int v), g) := rn_iret dd_Ds_lowest_13 rfl
theorem c_Ds_commonPart (j0 : Int64) (j1 : Int64) (g : px_G) : cl k_Ds_commonPart [.long j0, .long j1] g = rn k_Ds_commonPart 0 [.long j0, .null, .long j1, .null, .null, .null, .null, .null, .null, .null, .null] [] g := rfl
theorem dd_Ds_commonPart_0 : decode (px_rw k_Ds_commonPart).2.1 0 = .ok (.lload_n 0, 1) := (by decide +kernel : decode prog_1_method_60_code 0 = .ok (.lload_n 0, 1))
theorem e_Ds_commonPart_0 (a1 a2 a3 a4 a5 a6 a7 a8 a9 a10 : Value) (x : Int64) (st : List Value) (g : px_G) : rn k_Ds_commonPart 0 [.long x, a1, a2, a3, a4, a5, a6, a7, a8, a9, a10] st g = rn k_Ds_commonPart 1 [.long x, a1, a2, a3, a4, a5, a6, a7, a8, a9, a10] (.long x :: st) g := rn_next dd_Ds_commonPart_0 rfl
theorem dd_Ds_commonPart_1 : decode (px_rw k_Ds_commonPart).2.1 1 = .ok (.invokestatic 376, 3) := (by decide +kernel : decode prog_1_method_60_code 1 = .ok (.invokestatic 376, 3))
theorem e_Ds_commonPart_1 (L : List Value) (j0 : Int64) (g : px_G) : rn k_Ds_commonPart 1 L [.long j0] g = bd (cl k_Math_abs_J [.long j0] g) (fun r g' => rn k_Ds_commonPart 4 L (r.toList ++ []) g') := rn_callS (As := [.long j0]) (rest := []) dd_Ds_commonPart_1 rfl (by decide) rfl rfl (Nat.le_of_ble_eq_true rfl) (Nat.le_of_ble_eq_true rfl)
theorem dd_Ds_commonPart_4 : decode (px_rw k_Ds_commonPart).2.1 4 = .ok (.lstore 4, 2) := (by decide +kernel : decode prog_1_method_60_code 4 = .ok (.lstore 4, 2))
theorem e_Ds_commonPart_4 (a0 a1 a2 a3 a4 a5 a6 a7 a8 a9 a10 : Value) (x : Int64) (st : List Value) (g : px_G) : rn k_Ds_commonPart 4 [a0, a1, a2, a3, a4, a5, a6, a7, a8, a9, a10] (.long x :: st) g = rn k_Ds_commonPart 6 [a0, a1, a2, px_kill a3, .long x, .null, a6, a7, a8, a9, a10] st g := rn_next dd_Ds_commonPart_4 rfl
theorem dd_Ds_commonPart_6 : decode (px_rw k_Ds_commonPart).2.1 6 = .ok (.lload_n 2, 1) := (by decide +kernel : decode prog_1_method_60_code 6 = .ok (.lload_n 2, 1))
theorem e_Ds_commonPart_6 (a0 a1 a3 a4 a5 a6 a7 a8 a9 a10 : Value) (x : Int64) (st : List Value) (g : px_G) : rn k_Ds_commonPart 6 [a0, a1, .long x, a3, a4, a5, a6, a7, a8, a9, a10] st g = rn k_Ds_commonPart 7 [a0, a1, .long x, a3, a4, a5, a6, a7, a8, a9, a10] (.long x :: st) g := rn_next dd_Ds_commonPart_6 rfl
theorem dd_Ds_commonPart_7 : decode (px_rw k_Ds_commonPart).2.1 7 = .ok (.invokestatic 376, 3) := (by decide +kernel : decode prog_1_method_60_code 7 = .ok (.invokestatic 376, 3))
theorem e_Ds_commonPart_7 (L : List Value) (j0 : Int64) (g : px_G) : rn k_Ds_commonPart 7 L [.long j0] g = bd (cl k_Math_abs_J [.long j0] g) (fun r g' => rn k_Ds_commonPart 10 L (r.toList ++ []) g') := rn_callS (As := [.long j0]) (rest := []) dd_Ds_commonPart_7 rfl (by decide) rfl rfl (Nat.le_of_ble_eq_true rfl) (Nat.le_of_ble_eq_true rfl)
theorem dd_Ds_commonPart_10 : decode (px_rw k_Ds_commonPart).2.1 10 = .ok (.lstore 6, 2) := (by decide +kernel : decode prog_1_method_60_code 10 = .ok (.lstore 6, 2))
theorem e_Ds_commonPart_10 (a0 a1 a2 a3 a4 a5 a6 a7 a8 a9 a10 : Value) (x : Int64) (st : List Value) (g : px_G) : rn k_Ds_commonPart 10 [a0, a1, a2, a3, a4, a5, a6, a7, a8, a9, a10] (.long x :: st) g = rn k_Ds_commonPart 12 [a0, a1, a2, a3, a4, px_kill a5, .long x, .null, a8, a9, a10] st g := rn_next dd_Ds_commonPart_10 rfl
theorem dd_Ds_commonPart_12 : decode (px_rw k_Ds_commonPart).2.1 12 = .ok (.iconst 0, 1) := (by decide +kernel : decode prog_1_method_60_code 12 = .ok (.iconst 0, 1))
theorem e_Ds_commonPart_12 (L st : List Value) (g : px_G) : rn k_Ds_commonPart 12 L st g = rn k_Ds_commonPart 13 L (.int 0 :: st) g := rn_ipush (i := .iconst 0) dd_Ds_commonPart_12 rfl rfl (by decide)
theorem dd_Ds_commonPart_13 : decode (px_rw k_Ds_commonPart).2.1 13 = .ok (.istore 8, 2) := (by decide +kernel : decode prog_1_method_60_code 13 = .ok (.istore 8, 2))
theorem e_Ds_commonPart_13 (a0 a1 a2 a3 a4 a5 a6 a7 a8 a9 a10 : Value) (x : Int32) (st : List Value) (g : px_G) : rn k_Ds_commonPart 13 [a0, a1, a2, a3, a4, a5, a6, a7, a8, a9, a10] (.int x :: st) g = rn k_Ds_commonPart 15 [a0, a1, a2, a3, a4, a5, a6, px_kill a7, .int x, a9, a10] st g := rn_next dd_Ds_commonPart_13 rfl
theorem dd_Ds_commonPart_15 : decode (px_rw k_Ds_commonPart).2.1 15 = .ok (.iload 8, 2) := (by decide +kernel : decode prog_1_method_60_code 15 = .ok (.iload 8, 2))
theorem e_Ds_commonPart_15 (a0 a1 a2 a3 a4 a5 a6 a7 a9 a10 : Value) (x : Int32) (st : List Value) (g : px_G) : rn k_Ds_commonPart 15 [a0, a1, a2, a3, a4, a5, a6, a7, .int x, a9, a10] st g = rn k_Ds_commonPart 17 [a0, a1, a2, a3, a4, a5, a6, a7, .int x, a9, a10] (.int x :: st) g := rn_next dd_Ds_commonPart_15 rfl
theorem dd_Ds_commonPart_17 : decode (px_rw k_Ds_commonPart).2.1 17 = .ok (.sipush 200, 3) := (by decide +kernel : decode prog_1_method_60_code 17 = .ok (.sipush 200, 3))
theorem e_Ds_commonPart_17 (L st : List Value) (g : px_G) : rn k_Ds_commonPart 17 L st g = rn k_Ds_commonPart 20 L (.int 200 :: st) g := rn_ipush (i := .sipush 200) dd_Ds_commonPart_17 rfl rfl (by decide)
theorem dd_Ds_commonPart_20 : decode (px_rw k_Ds_commonPart).2.1 20 = .ok (.if_icmp .ge 31, 3) := (by decide +kernel : decode prog_1_method_60_code 20 = .ok (.if_icmp .ge 31, 3))
theorem e_Ds_commonPart_20 (L : List Value) (x y : Int32) (st : List Value) (g : px_G) : rn k_Ds_commonPart 20 L (.int y :: .int x :: st) g = if y ≤ x then rn k_Ds_commonPart 51 L st g else rn k_Ds_commonPart 23 L st g := rn_icge dd_Ds_commonPart_20 (by decide)
theorem dd_Ds_commonPart_23 : decode (px_rw k_Ds_commonPart).2.1 23 = .ok (.lload 6, 2) := (by decide +kernel : decode prog_1_method_60_code 23 = .ok (.lload 6, 2))
theorem e_Ds_commonPart_23 (a0 a1 a2 a3 a4 a5 a7 a8 a9 a10 : Value) (x : Int64) (st : List Value) (g : px_G) : rn k_Ds_commonPart 23 [a0, a1, a2, a3, a4, a5, .long x, a7, a8, a9, a10] st g = rn k_Ds_commonPart 25 [a0, a1, a2, a3, a4, a5, .long x, a7, a8, a9, a10] (.long x :: st) g := rn_next dd_Ds_commonPart_23 rfl
theorem dd_Ds_commonPart_25 : decode (px_rw k_Ds_commonPart).2.1 25 = .ok (.lconst 0, 1) := (by decide +kernel : decode prog_1_method_60_code 25 = .ok (.lconst 0, 1))
theorem e_Ds_commonPart_25 (L st : List Value) (g : px_G) : rn k_Ds_commonPart 25 L st g = rn k_Ds_commonPart 26 L (.long 0 :: st) g := rn_next dd_Ds_commonPart_25 rfl
theorem dd_Ds_commonPart_26 : decode (px_rw k_Ds_commonPart).2.1 26 = .ok (.lcmp, 1) := (by decide +kernel : decode prog_1_method_60_code 26 = .ok (.lcmp, 1))
theorem e_Ds_commonPart_26 (L : List Value) (x y : Int64) (st : List Value) (g : px_G) : rn k_Ds_commonPart 26 L (.long y :: .long x :: st) g = rn k_Ds_commonPart 27 L (.int (lg_cmp x y) :: st) g := rn_next dd_Ds_commonPart_26 rfl
theorem dd_Ds_commonPart_27 : decode (px_rw k_Ds_commonPart).2.1 27 = .ok (.ifCond .eq 24, 3) := (by decide +kernel : decode prog_1_method_60_code 27 = .ok (.ifCond .eq 24, 3))
theorem e_Ds_commonPart_27 (L : List Value) (x : Int32) (st : List Value) (g : px_G) : rn k_Ds_commonPart 27 L (.int x :: st) g = if x = 0 then rn k_Ds_commonPart 51 L st g else rn k_Ds_commonPart 30 L st g := rn_ifeq dd_Ds_commonPart_27 (by decide)
theorem dd_Ds_commonPart_30 : decode (px_rw k_Ds_commonPart).2.1 30 = .ok (.lload 4, 2) := (by decide +kernel : decode prog_1_method_60_code 30 = .ok (.lload 4, 2))
theorem e_Ds_commonPart_30 (a0 a1 a2 a3 a5 a6 a7 a8 a9 a10 : Value) (x : Int64) (st : List Value) (g : px_G) : rn k_Ds_commonPart 30 [a0, a1, a2, a3, .long x, a5, a6, a7, a8, a9, a10] st g = rn k_Ds_commonPart 32 [a0, a1, a2, a3, .long x, a5, a6, a7, a8, a9, a10] (.long x :: st) g := rn_next dd_Ds_commonPart_30 rfl
theorem dd_Ds_commonPart_32 : decode (px_rw k_Ds_commonPart).2.1 32 = .ok (.lload 6, 2) := (by decide +kernel : decode prog_1_method_60_code 32 = .ok (.lload 6, 2))
theorem e_Ds_commonPart_32 (a0 a1 a2 a3 a4 a5 a7 a8 a9 a10 : Value) (x : Int64) (st : List Value) (g : px_G) : rn k_Ds_commonPart 32 [a0, a1, a2, a3, a4, a5, .long x, a7, a8, a9, a10] st g = rn k_Ds_commonPart 34 [a0, a1, a2, a3, a4, a5, .long x, a7, a8, a9, a10] (.long x :: st) g := rn_next dd_Ds_commonPart_32 rfl
theorem dd_Ds_commonPart_34 : decode (px_rw k_Ds_commonPart).2.1 34 = .ok (.lrem, 1) := (by decide +kernel : decode prog_1_method_60_code 34 = .ok (.lrem, 1))
theorem e_Ds_commonPart_34 (L : List Value) (x y : Int64) (st : List Value) (g : px_G) (hy : ¬ y = 0) : rn k_Ds_commonPart 34 L (.long y :: .long x :: st) g = rn k_Ds_commonPart 35 L (.long (x - x / y * y) :: st) g := rn_dv (i := .lrem) dd_Ds_commonPart_34 rfl rfl hy
theorem dd_Ds_commonPart_35 : decode (px_rw k_Ds_commonPart).2.1 35 = .ok (.lstore 9, 2) := (by decide +kernel : decode prog_1_method_60_code 35 = .ok (.lstore 9, 2))
theorem e_Ds_commonPart_35 (a0 a1 a2 a3 a4 a5 a6 a7 a8 a9 a10 : Value) (x : Int64) (st : List Value) (g : px_G) : rn k_Ds_commonPart 35 [a0, a1, a2, a3, a4, a5, a6, a7, a8, a9, a10] (.long x :: st) g = rn k_Ds_commonPart 37 [a0, a1, a2, a3, a4, a5, a6, a7, px_kill a8, .long x, .null] st g := rn_next dd_Ds_commonPart_35 rfl
theorem dd_Ds_commonPart_37 : decode (px_rw k_Ds_commonPart).2.1 37 = .ok (.lload 6, 2) := (by decide +kernel : decode prog_1_method_60_code 37 = .ok (.lload 6, 2))
theorem e_Ds_commonPart_37 (a0 a1 a2 a3 a4 a5 a7 a8 a9 a10 : Value) (x : Int64) (st : List Value) (g : px_G) : rn k_Ds_commonPart 37 [a0, a1, a2, a3, a4, a5, .long x, a7, a8, a9, a10] st g = rn k_Ds_commonPart 39 [a0, a1, a2, a3, a4, a5, .long x, a7, a8, a9, a10] (.long x :: st) g := rn_next dd_Ds_commonPart_37 rfl
theorem dd_Ds_commonPart_39 : decode (px_rw k_Ds_commonPart).2.1 39 = .ok (.lstore 4, 2) := (by decide +kernel : decode prog_1_method_60_code 39 = .ok (.lstore 4, 2))
theorem e_Ds_commonPart_39 (a0 a1 a2 a3 a4 a5 a6 a7 a8 a9 a10 : Value) (x : Int64) (st : List Value) (g : px_G) : rn k_Ds_commonPart 39 [a0, a1, a2, a3, a4, a5, a6, a7, a8, a9, a10] (.long x :: st) g = rn k_Ds_commonPart 41 [a0, a1, a2, px_kill a3, .long x, .null, a6, a7, a8, a9, a10] st g := rn_next dd_Ds_commonPart_39 rfl
theorem dd_Ds_commonPart_41 : decode (px_rw k_Ds_commonPart).2.1 41 = .ok (.lload 9, 2) := (by decide +kernel : decode prog_1_method_60_code 41 = .ok (.lload 9, 2))
theorem e_Ds_commonPart_41 (a0 a1 a2 a3 a4 a5 a6 a7 a8 a10 : Value) (x : Int64) (st : List Value) (g : px_G) : rn k_Ds_commonPart 41 [a0, a1, a2, a3, a4, a5, a6, a7, a8, .long x, a10] st g = rn k_Ds_commonPart 43 [a0, a1, a2, a3, a4, a5, a6, a7, a8, .long x, a10] (.long x :: st) g := rn_next dd_Ds_commonPart_41 rfl
theorem dd_Ds_commonPart_43 : decode (px_rw k_Ds_commonPart).2.1 43 = .ok (.lstore 6, 2) := (by decide +kernel : decode prog_1_method_60_code 43 = .ok (.lstore 6, 2))
theorem e_Ds_commonPart_43 (a0 a1 a2 a3 a4 a5 a6 a7 a8 a9 a10 : Value) (x : Int64) (st : List Value) (g : px_G) : rn k_Ds_commonPart 43 [a0, a1, a2, a3, a4, a5, a6, a7, a8, a9, a10] (.long x :: st) g = rn k_Ds_commonPart 45 [a0, a1, a2, a3, a4, px_kill a5, .long x, .null, a8, a9, a10] st g := rn_next dd_Ds_commonPart_43 rfl
theorem dd_Ds_commonPart_45 : decode (px_rw k_Ds_commonPart).2.1 45 = .ok (.iinc 8 1, 3) := (by decide +kernel : decode prog_1_method_60_code 45 = .ok (.iinc 8 1, 3))
theorem e_Ds_commonPart_45 (a0 a1 a2 a3 a4 a5 a6 a7 a9 a10 : Value) (x : Int32) (st : List Value) (g : px_G) : rn k_Ds_commonPart 45 [a0, a1, a2, a3, a4, a5, a6, a7, .int x, a9, a10] st g = rn k_Ds_commonPart 48 [a0, a1, a2, a3, a4, a5, a6, px_kill a7, .int (x + 1), a9, a10] st g := rn_next dd_Ds_commonPart_45 rfl
theorem dd_Ds_commonPart_48 : decode (px_rw k_Ds_commonPart).2.1 48 = .ok (.goto (-33), 3) := (by decide +kernel : decode prog_1_method_60_code 48 = .ok (.goto (-33), 3))
theorem e_Ds_commonPart_48 (L st : List Value) (g : px_G) : rn k_Ds_commonPart 48 L st g = rn k_Ds_commonPart 15 L st g := rn_goto dd_Ds_commonPart_48 (by decide)
theorem dd_Ds_commonPart_51 : decode (px_rw k_Ds_commonPart).2.1 51 = .ok (.lload 4, 2) := (by decide +kernel : decode prog_1_method_60_code 51 = .ok (.lload 4, 2))
theorem e_Ds_commonPart_51 (a0 a1 a2 a3 a5 a6 a7 a8 a9 a10 : Value) (x : Int64) (st : List Value) (g : px_G) : rn k_Ds_commonPart 51 [a0, a1, a2, a3, .long x, a5, a6, a7, a8, a9, a10] st g = rn k_Ds_commonPart 53 [a0, a1, a2, a3, .long x, a5, a6, a7, a8, a9, a10] (.long x :: st) g := rn_next dd_Ds_commonPart_51 rfl
theorem dd_Ds_commonPart_53 : decode (px_rw k_Ds_commonPart).2.1 53 = .ok (.lreturn, 1) := (by decide +kernel : decode prog_1_method_60_code 53 = .ok (.lreturn, 1))
theorem e_Ds_commonPart_53 (L : List Value) (v : Int64) (g : px_G) : rn k_Ds_commonPart 53 L [.long v] g = some (some (.long v), g) := rn_lret dd_Ds_commonPart_53 rfl
theorem c_Ds_turn (r0 : Nat) (i1 : Int32) (i2 : Int32) (i3 : Int32) (g : px_G) : cl k_Ds_turn [.ref r0, .int i1, .int i2, .int i3] g = rn k_Ds_turn 0 [.ref r0, .int i1, .int i2, .int i3, .null, .null, .null, .null, .null, .null, .null] [] g := rfl
theorem dd_Ds_turn_0 : decode (px_rw k_Ds_turn).2.1 0 = .ok (.aload_n 0, 1) := (by decide +kernel : decode prog_1_method_18_code 0 = .ok (.aload_n 0, 1))
theorem e_Ds_turn_0 (a1 a2 a3 a4 a5 a6 a7 a8 a9 a10 : Value) (x : Nat) (st : List Value) (g : px_G) : rn k_Ds_turn 0 [.ref x, a1, a2, a3, a4, a5, a6, a7, a8, a9, a10] st g = rn k_Ds_turn 1 [.ref x, a1, a2, a3, a4, a5, a6, a7, a8, a9, a10] (.ref x :: st) g := rn_next dd_Ds_turn_0 rfl
theorem dd_Ds_turn_1 : decode (px_rw k_Ds_turn).2.1 1 = .ok (.iload_n 1, 1) := (by decide +kernel : decode prog_1_method_18_code 1 = .ok (.iload_n 1, 1))
theorem e_Ds_turn_1 (a0 a2 a3 a4 a5 a6 a7 a8 a9 a10 : Value) (x : Int32) (st : List Value) (g : px_G) : rn k_Ds_turn 1 [a0, .int x, a2, a3, a4, a5, a6, a7, a8, a9, a10] st g = rn k_Ds_turn 2 [a0, .int x, a2, a3, a4, a5, a6, a7, a8, a9, a10] (.int x :: st) g := rn_next dd_Ds_turn_1 rfl
theorem dd_Ds_turn_2 : decode (px_rw k_Ds_turn).2.1 2 = .ok (.invokevirtual 129, 3) := (by decide +kernel : decode prog_1_method_18_code 2 = .ok (.invokevirtual 129, 3))
theorem e_Ds_turn_2 (L : List Value) (i0 : Int32)  (T : TS)  : rn k_Ds_turn 2 L [.int i0, .ref 0] (enc T) = bd (cl k_Ds_isInk [.ref 0, .int i0] (enc T)) (fun r g' => rn k_Ds_turn 5 L (r.toList ++ []) g') := rn_callV (n := 13) (As := [.int i0]) (rest := []) dd_Ds_turn_2 rfl (by decide) (by decide) rfl rfl (Nat.le_of_ble_eq_true rfl) (Nat.le_of_ble_eq_true rfl) rfl
theorem dd_Ds_turn_5 : decode (px_rw k_Ds_turn).2.1 5 = .ok (.ifCond .eq 18, 3) := (by decide +kernel : decode prog_1_method_18_code 5 = .ok (.ifCond .eq 18, 3))
theorem e_Ds_turn_5 (L : List Value) (x : Int32) (st : List Value) (g : px_G) : rn k_Ds_turn 5 L (.int x :: st) g = if x = 0 then rn k_Ds_turn 23 L st g else rn k_Ds_turn 8 L st g := rn_ifeq dd_Ds_turn_5 (by decide)
theorem dd_Ds_turn_8 : decode (px_rw k_Ds_turn).2.1 8 = .ok (.aload_n 0, 1) := (by decide +kernel : decode prog_1_method_18_code 8 = .ok (.aload_n 0, 1))
theorem e_Ds_turn_8 (a1 a2 a3 a4 a5 a6 a7 a8 a9 a10 : Value) (x : Nat) (st : List Value) (g : px_G) : rn k_Ds_turn 8 [.ref x, a1, a2, a3, a4, a5, a6, a7, a8, a9, a10] st g = rn k_Ds_turn 9 [.ref x, a1, a2, a3, a4, a5, a6, a7, a8, a9, a10] (.ref x :: st) g := rn_next dd_Ds_turn_8 rfl
theorem dd_Ds_turn_9 : decode (px_rw k_Ds_turn).2.1 9 = .ok (.iload_n 2, 1) := (by decide +kernel : decode prog_1_method_18_code 9 = .ok (.iload_n 2, 1))
theorem e_Ds_turn_9 (a0 a1 a3 a4 a5 a6 a7 a8 a9 a10 : Value) (x : Int32) (st : List Value) (g : px_G) : rn k_Ds_turn 9 [a0, a1, .int x, a3, a4, a5, a6, a7, a8, a9, a10] st g = rn k_Ds_turn 10 [a0, a1, .int x, a3, a4, a5, a6, a7, a8, a9, a10] (.int x :: st) g := rn_next dd_Ds_turn_9 rfl
theorem dd_Ds_turn_10 : decode (px_rw k_Ds_turn).2.1 10 = .ok (.invokevirtual 129, 3) := (by decide +kernel : decode prog_1_method_18_code 10 = .ok (.invokevirtual 129, 3))
theorem e_Ds_turn_10 (L : List Value) (i0 : Int32)  (T : TS)  : rn k_Ds_turn 10 L [.int i0, .ref 0] (enc T) = bd (cl k_Ds_isInk [.ref 0, .int i0] (enc T)) (fun r g' => rn k_Ds_turn 13 L (r.toList ++ []) g') := rn_callV (n := 13) (As := [.int i0]) (rest := []) dd_Ds_turn_10 rfl (by decide) (by decide) rfl rfl (Nat.le_of_ble_eq_true rfl) (Nat.le_of_ble_eq_true rfl) rfl
theorem dd_Ds_turn_13 : decode (px_rw k_Ds_turn).2.1 13 = .ok (.ifCond .eq 10, 3) := (by decide +kernel : decode prog_1_method_18_code 13 = .ok (.ifCond .eq 10, 3))
theorem e_Ds_turn_13 (L : List Value) (x : Int32) (st : List Value) (g : px_G) : rn k_Ds_turn 13 L (.int x :: st) g = if x = 0 then rn k_Ds_turn 23 L st g else rn k_Ds_turn 16 L st g := rn_ifeq dd_Ds_turn_13 (by decide)
theorem dd_Ds_turn_16 : decode (px_rw k_Ds_turn).2.1 16 = .ok (.iload_n 3, 1) := (by decide +kernel : decode prog_1_method_18_code 16 = .ok (.iload_n 3, 1))
theorem e_Ds_turn_16 (a0 a1 a2 a4 a5 a6 a7 a8 a9 a10 : Value) (x : Int32) (st : List Value) (g : px_G) : rn k_Ds_turn 16 [a0, a1, a2, .int x, a4, a5, a6, a7, a8, a9, a10] st g = rn k_Ds_turn 17 [a0, a1, a2, .int x, a4, a5, a6, a7, a8, a9, a10] (.int x :: st) g := rn_next dd_Ds_turn_16 rfl
theorem dd_Ds_turn_17 : decode (px_rw k_Ds_turn).2.1 17 = .ok (.invokestatic 182, 3) := (by decide +kernel : decode prog_1_method_18_code 17 = .ok (.invokestatic 182, 3))
theorem e_Ds_turn_17 (L : List Value) (i0 : Int32) (g : px_G) : rn k_Ds_turn 17 L [.int i0] g = bd (cl k_Ds_isAxis [.int i0] g) (fun r g' => rn k_Ds_turn 20 L (r.toList ++ []) g') := rn_callS (As := [.int i0]) (rest := []) dd_Ds_turn_17 rfl (by decide) rfl rfl (Nat.le_of_ble_eq_true rfl) (Nat.le_of_ble_eq_true rfl)
theorem dd_Ds_turn_20 : decode (px_rw k_Ds_turn).2.1 20 = .ok (.ifCond .ne 6, 3) := (by decide +kernel : decode prog_1_method_18_code 20 = .ok (.ifCond .ne 6, 3))
theorem e_Ds_turn_20 (L : List Value) (x : Int32) (st : List Value) (g : px_G) : rn k_Ds_turn 20 L (.int x :: st) g = if x = 0 then rn k_Ds_turn 23 L st g else rn k_Ds_turn 26 L st g := rn_ifne dd_Ds_turn_20 (by decide)
theorem dd_Ds_turn_23 : decode (px_rw k_Ds_turn).2.1 23 = .ok (.ldc 164, 2) := (by decide +kernel : decode prog_1_method_18_code 23 = .ok (.ldc 164, 2))
theorem e_Ds_turn_23 (L st : List Value) (g : px_G) : rn k_Ds_turn 23 L st g = rn k_Ds_turn 25 L (.int (-1000000) :: st) g := rn_ldc (i := .ldc 164) (w := .int (Int32.ofInt (-1000000))) dd_Ds_turn_23 rfl rfl rfl rfl rfl (by decide)
theorem dd_Ds_turn_25 : decode (px_rw k_Ds_turn).2.1 25 = .ok (.ireturn, 1) := (by decide +kernel : decode prog_1_method_18_code 25 = .ok (.ireturn, 1))
theorem e_Ds_turn_25 (L : List Value) (v : Int32) (g : px_G) : rn k_Ds_turn 25 L [.int v] g = some (some (.int v), g) := rn_iret dd_Ds_turn_25 rfl
theorem dd_Ds_turn_26 : decode (px_rw k_Ds_turn).2.1 26 = .ok (.aload_n 0, 1) := (by decide +kernel : decode prog_1_method_18_code 26 = .ok (.aload_n 0, 1))
theorem e_Ds_turn_26 (a1 a2 a3 a4 a5 a6 a7 a8 a9 a10 : Value) (x : Nat) (st : List Value) (g : px_G) : rn k_Ds_turn 26 [.ref x, a1, a2, a3, a4, a5, a6, a7, a8, a9, a10] st g = rn k_Ds_turn 27 [.ref x, a1, a2, a3, a4, a5, a6, a7, a8, a9, a10] (.ref x :: st) g := rn_next dd_Ds_turn_26 rfl
theorem dd_Ds_turn_27 : decode (px_rw k_Ds_turn).2.1 27 = .ok (.getfield 27, 3) := (by decide +kernel : decode prog_1_method_18_code 27 = .ok (.getfield 27, 3))
theorem e_Ds_turn_27 (L st : List Value) (T : TS) : rn k_Ds_turn 27 L (.ref 0 :: st) (enc T) = rn k_Ds_turn 30 L (.ref 5 :: st) (enc T) := rn_getA (n := 13) dd_Ds_turn_27 rfl (by decide) (by decide) (by decide) rfl rfl
theorem dd_Ds_turn_30 : decode (px_rw k_Ds_turn).2.1 30 = .ok (.iload_n 1, 1) := (by decide +kernel : decode prog_1_method_18_code 30 = .ok (.iload_n 1, 1))
theorem e_Ds_turn_30 (a0 a2 a3 a4 a5 a6 a7 a8 a9 a10 : Value) (x : Int32) (st : List Value) (g : px_G) : rn k_Ds_turn 30 [a0, .int x, a2, a3, a4, a5, a6, a7, a8, a9, a10] st g = rn k_Ds_turn 31 [a0, .int x, a2, a3, a4, a5, a6, a7, a8, a9, a10] (.int x :: st) g := rn_next dd_Ds_turn_30 rfl
theorem dd_Ds_turn_31 : decode (px_rw k_Ds_turn).2.1 31 = .ok (.aaload, 1) := (by decide +kernel : decode prog_1_method_18_code 31 = .ok (.aaload, 1))
theorem e_Ds_turn_31 (L : List Value) (i : Int32) (p : Nat) (st : List Value) (T : TS) (hp : (sh p).1 = 3) : rn k_Ds_turn 31 L (.int i :: .ref p :: st) (enc T) = if px_in i (sh p).2 then rn k_Ds_turn 32 L (.ref (T.2.2.1 i.toNatClampNeg) :: st) (enc T) else none := rn_aald dd_Ds_turn_31 (Prod.ext hp rfl)
theorem dd_Ds_turn_32 : decode (px_rw k_Ds_turn).2.1 32 = .ok (.getfield 139, 3) := (by decide +kernel : decode prog_1_method_18_code 32 = .ok (.getfield 139, 3))
theorem e_Ds_turn_32 (L : List Value) (p : Nat) (st : List Value) (T : TS) (hp : sh p = (104, 18)) : rn k_Ds_turn 32 L (.ref p :: st) (enc T) = rn k_Ds_turn 35 L (.ref (p + 1) :: st) (enc T) := (rn_getO (n := 18) dd_Ds_turn_32 rfl (by decide) (by decide) (by decide) rfl hp).trans (by rw [ink_rf_0 hp])
theorem dd_Ds_turn_35 : decode (px_rw k_Ds_turn).2.1 35 = .ok (.astore 4, 2) := (by decide +kernel : decode prog_1_method_18_code 35 = .ok (.astore 4, 2))
theorem e_Ds_turn_35 (a0 a1 a2 a3 a4 a5 a6 a7 a8 a9 a10 : Value) (x : Nat) (st : List Value) (g : px_G) : rn k_Ds_turn 35 [a0, a1, a2, a3, a4, a5, a6, a7, a8, a9, a10] (.ref x :: st) g = rn k_Ds_turn 37 [a0, a1, a2, px_kill a3, .ref x, a5, a6, a7, a8, a9, a10] st g := rn_next dd_Ds_turn_35 rfl
theorem dd_Ds_turn_37 : decode (px_rw k_Ds_turn).2.1 37 = .ok (.aload_n 0, 1) := (by decide +kernel : decode prog_1_method_18_code 37 = .ok (.aload_n 0, 1))
theorem e_Ds_turn_37 (a1 a2 a3 a4 a5 a6 a7 a8 a9 a10 : Value) (x : Nat) (st : List Value) (g : px_G) : rn k_Ds_turn 37 [.ref x, a1, a2, a3, a4, a5, a6, a7, a8, a9, a10] st g = rn k_Ds_turn 38 [.ref x, a1, a2, a3, a4, a5, a6, a7, a8, a9, a10] (.ref x :: st) g := rn_next dd_Ds_turn_37 rfl
theorem dd_Ds_turn_38 : decode (px_rw k_Ds_turn).2.1 38 = .ok (.getfield 27, 3) := (by decide +kernel : decode prog_1_method_18_code 38 = .ok (.getfield 27, 3))
theorem e_Ds_turn_38 (L st : List Value) (T : TS) : rn k_Ds_turn 38 L (.ref 0 :: st) (enc T) = rn k_Ds_turn 41 L (.ref 5 :: st) (enc T) := rn_getA (n := 13) dd_Ds_turn_38 rfl (by decide) (by decide) (by decide) rfl rfl
theorem dd_Ds_turn_41 : decode (px_rw k_Ds_turn).2.1 41 = .ok (.iload_n 2, 1) := (by decide +kernel : decode prog_1_method_18_code 41 = .ok (.iload_n 2, 1))
theorem e_Ds_turn_41 (a0 a1 a3 a4 a5 a6 a7 a8 a9 a10 : Value) (x : Int32) (st : List Value) (g : px_G) : rn k_Ds_turn 41 [a0, a1, .int x, a3, a4, a5, a6, a7, a8, a9, a10] st g = rn k_Ds_turn 42 [a0, a1, .int x, a3, a4, a5, a6, a7, a8, a9, a10] (.int x :: st) g := rn_next dd_Ds_turn_41 rfl
theorem dd_Ds_turn_42 : decode (px_rw k_Ds_turn).2.1 42 = .ok (.aaload, 1) := (by decide +kernel : decode prog_1_method_18_code 42 = .ok (.aaload, 1))
theorem e_Ds_turn_42 (L : List Value) (i : Int32) (p : Nat) (st : List Value) (T : TS) (hp : (sh p).1 = 3) : rn k_Ds_turn 42 L (.int i :: .ref p :: st) (enc T) = if px_in i (sh p).2 then rn k_Ds_turn 43 L (.ref (T.2.2.1 i.toNatClampNeg) :: st) (enc T) else none := rn_aald dd_Ds_turn_42 (Prod.ext hp rfl)
theorem dd_Ds_turn_43 : decode (px_rw k_Ds_turn).2.1 43 = .ok (.getfield 139, 3) := (by decide +kernel : decode prog_1_method_18_code 43 = .ok (.getfield 139, 3))
theorem e_Ds_turn_43 (L : List Value) (p : Nat) (st : List Value) (T : TS) (hp : sh p = (104, 18)) : rn k_Ds_turn 43 L (.ref p :: st) (enc T) = rn k_Ds_turn 46 L (.ref (p + 1) :: st) (enc T) := (rn_getO (n := 18) dd_Ds_turn_43 rfl (by decide) (by decide) (by decide) rfl hp).trans (by rw [ink_rf_0 hp])
theorem dd_Ds_turn_46 : decode (px_rw k_Ds_turn).2.1 46 = .ok (.astore 5, 2) := (by decide +kernel : decode prog_1_method_18_code 46 = .ok (.astore 5, 2))
theorem e_Ds_turn_46 (a0 a1 a2 a3 a4 a5 a6 a7 a8 a9 a10 : Value) (x : Nat) (st : List Value) (g : px_G) : rn k_Ds_turn 46 [a0, a1, a2, a3, a4, a5, a6, a7, a8, a9, a10] (.ref x :: st) g = rn k_Ds_turn 48 [a0, a1, a2, a3, px_kill a4, .ref x, a6, a7, a8, a9, a10] st g := rn_next dd_Ds_turn_46 rfl
theorem dd_Ds_turn_48 : decode (px_rw k_Ds_turn).2.1 48 = .ok (.aload 4, 2) := (by decide +kernel : decode prog_1_method_18_code 48 = .ok (.aload 4, 2))
theorem e_Ds_turn_48 (a0 a1 a2 a3 a5 a6 a7 a8 a9 a10 : Value) (x : Nat) (st : List Value) (g : px_G) : rn k_Ds_turn 48 [a0, a1, a2, a3, .ref x, a5, a6, a7, a8, a9, a10] st g = rn k_Ds_turn 50 [a0, a1, a2, a3, .ref x, a5, a6, a7, a8, a9, a10] (.ref x :: st) g := rn_next dd_Ds_turn_48 rfl
theorem dd_Ds_turn_50 : decode (px_rw k_Ds_turn).2.1 50 = .ok (.getfield 142, 3) := (by decide +kernel : decode prog_1_method_18_code 50 = .ok (.getfield 142, 3))
theorem e_Ds_turn_50 (L : List Value) (p : Nat) (st : List Value) (T : TS) (hp : sh p = (107, 4)) : rn k_Ds_turn 50 L (.ref p :: st) (enc T) = rn k_Ds_turn 53 L (.int (T.1 p 0) :: st) (enc T) := rn_getI (n := 4) dd_Ds_turn_50 rfl (by decide) (by decide) (by decide) rfl hp
theorem dd_Ds_turn_53 : decode (px_rw k_Ds_turn).2.1 53 = .ok (.aload 5, 2) := (by decide +kernel : decode prog_1_method_18_code 53 = .ok (.aload 5, 2))
theorem e_Ds_turn_53 (a0 a1 a2 a3 a4 a6 a7 a8 a9 a10 : Value) (x : Nat) (st : List Value) (g : px_G) : rn k_Ds_turn 53 [a0, a1, a2, a3, a4, .ref x, a6, a7, a8, a9, a10] st g = rn k_Ds_turn 55 [a0, a1, a2, a3, a4, .ref x, a6, a7, a8, a9, a10] (.ref x :: st) g := rn_next dd_Ds_turn_53 rfl
theorem dd_Ds_turn_55 : decode (px_rw k_Ds_turn).2.1 55 = .ok (.getfield 142, 3) := (by decide +kernel : decode prog_1_method_18_code 55 = .ok (.getfield 142, 3))
theorem e_Ds_turn_55 (L : List Value) (p : Nat) (st : List Value) (T : TS) (hp : sh p = (107, 4)) : rn k_Ds_turn 55 L (.ref p :: st) (enc T) = rn k_Ds_turn 58 L (.int (T.1 p 0) :: st) (enc T) := rn_getI (n := 4) dd_Ds_turn_55 rfl (by decide) (by decide) (by decide) rfl hp
theorem dd_Ds_turn_58 : decode (px_rw k_Ds_turn).2.1 58 = .ok (.imul, 1) := (by decide +kernel : decode prog_1_method_18_code 58 = .ok (.imul, 1))
theorem e_Ds_turn_58 (L : List Value) (x y : Int32) (st : List Value) (g : px_G) : rn k_Ds_turn 58 L (.int y :: .int x :: st) g = rn k_Ds_turn 59 L (.int (x * y) :: st) g := rn_next dd_Ds_turn_58 rfl
theorem dd_Ds_turn_59 : decode (px_rw k_Ds_turn).2.1 59 = .ok (.aload 4, 2) := (by decide +kernel : decode prog_1_method_18_code 59 = .ok (.aload 4, 2))
theorem e_Ds_turn_59 (a0 a1 a2 a3 a5 a6 a7 a8 a9 a10 : Value) (x : Nat) (st : List Value) (g : px_G) : rn k_Ds_turn 59 [a0, a1, a2, a3, .ref x, a5, a6, a7, a8, a9, a10] st g = rn k_Ds_turn 61 [a0, a1, a2, a3, .ref x, a5, a6, a7, a8, a9, a10] (.ref x :: st) g := rn_next dd_Ds_turn_59 rfl
theorem dd_Ds_turn_61 : decode (px_rw k_Ds_turn).2.1 61 = .ok (.getfield 145, 3) := (by decide +kernel : decode prog_1_method_18_code 61 = .ok (.getfield 145, 3))
theorem e_Ds_turn_61 (L : List Value) (p : Nat) (st : List Value) (T : TS) (hp : sh p = (107, 4)) : rn k_Ds_turn 61 L (.ref p :: st) (enc T) = rn k_Ds_turn 64 L (.int (T.1 p 1) :: st) (enc T) := rn_getI (n := 4) dd_Ds_turn_61 rfl (by decide) (by decide) (by decide) rfl hp
theorem dd_Ds_turn_64 : decode (px_rw k_Ds_turn).2.1 64 = .ok (.aload 5, 2) := (by decide +kernel : decode prog_1_method_18_code 64 = .ok (.aload 5, 2))
theorem e_Ds_turn_64 (a0 a1 a2 a3 a4 a6 a7 a8 a9 a10 : Value) (x : Nat) (st : List Value) (g : px_G) : rn k_Ds_turn 64 [a0, a1, a2, a3, a4, .ref x, a6, a7, a8, a9, a10] st g = rn k_Ds_turn 66 [a0, a1, a2, a3, a4, .ref x, a6, a7, a8, a9, a10] (.ref x :: st) g := rn_next dd_Ds_turn_64 rfl
theorem dd_Ds_turn_66 : decode (px_rw k_Ds_turn).2.1 66 = .ok (.getfield 145, 3) := (by decide +kernel : decode prog_1_method_18_code 66 = .ok (.getfield 145, 3))
theorem e_Ds_turn_66 (L : List Value) (p : Nat) (st : List Value) (T : TS) (hp : sh p = (107, 4)) : rn k_Ds_turn 66 L (.ref p :: st) (enc T) = rn k_Ds_turn 69 L (.int (T.1 p 1) :: st) (enc T) := rn_getI (n := 4) dd_Ds_turn_66 rfl (by decide) (by decide) (by decide) rfl hp
theorem dd_Ds_turn_69 : decode (px_rw k_Ds_turn).2.1 69 = .ok (.imul, 1) := (by decide +kernel : decode prog_1_method_18_code 69 = .ok (.imul, 1))
theorem e_Ds_turn_69 (L : List Value) (x y : Int32) (st : List Value) (g : px_G) : rn k_Ds_turn 69 L (.int y :: .int x :: st) g = rn k_Ds_turn 70 L (.int (x * y) :: st) g := rn_next dd_Ds_turn_69 rfl
theorem dd_Ds_turn_70 : decode (px_rw k_Ds_turn).2.1 70 = .ok (.iadd, 1) := (by decide +kernel : decode prog_1_method_18_code 70 = .ok (.iadd, 1))
theorem e_Ds_turn_70 (L : List Value) (x y : Int32) (st : List Value) (g : px_G) : rn k_Ds_turn 70 L (.int y :: .int x :: st) g = rn k_Ds_turn 71 L (.int (x + y) :: st) g := rn_next dd_Ds_turn_70 rfl
theorem dd_Ds_turn_71 : decode (px_rw k_Ds_turn).2.1 71 = .ok (.istore 6, 2) := (by decide +kernel : decode prog_1_method_18_code 71 = .ok (.istore 6, 2))
theorem e_Ds_turn_71 (a0 a1 a2 a3 a4 a5 a6 a7 a8 a9 a10 : Value) (x : Int32) (st : List Value) (g : px_G) : rn k_Ds_turn 71 [a0, a1, a2, a3, a4, a5, a6, a7, a8, a9, a10] (.int x :: st) g = rn k_Ds_turn 73 [a0, a1, a2, a3, a4, px_kill a5, .int x, a7, a8, a9, a10] st g := rn_next dd_Ds_turn_71 rfl
theorem dd_Ds_turn_73 : decode (px_rw k_Ds_turn).2.1 73 = .ok (.aload 4, 2) := (by decide +kernel : decode prog_1_method_18_code 73 = .ok (.aload 4, 2))
theorem e_Ds_turn_73 (a0 a1 a2 a3 a5 a6 a7 a8 a9 a10 : Value) (x : Nat) (st : List Value) (g : px_G) : rn k_Ds_turn 73 [a0, a1, a2, a3, .ref x, a5, a6, a7, a8, a9, a10] st g = rn k_Ds_turn 75 [a0, a1, a2, a3, .ref x, a5, a6, a7, a8, a9, a10] (.ref x :: st) g := rn_next dd_Ds_turn_73 rfl
theorem dd_Ds_turn_75 : decode (px_rw k_Ds_turn).2.1 75 = .ok (.getfield 142, 3) := (by decide +kernel : decode prog_1_method_18_code 75 = .ok (.getfield 142, 3))
theorem e_Ds_turn_75 (L : List Value) (p : Nat) (st : List Value) (T : TS) (hp : sh p = (107, 4)) : rn k_Ds_turn 75 L (.ref p :: st) (enc T) = rn k_Ds_turn 78 L (.int (T.1 p 0) :: st) (enc T) := rn_getI (n := 4) dd_Ds_turn_75 rfl (by decide) (by decide) (by decide) rfl hp
theorem dd_Ds_turn_78 : decode (px_rw k_Ds_turn).2.1 78 = .ok (.aload 5, 2) := (by decide +kernel : decode prog_1_method_18_code 78 = .ok (.aload 5, 2))
theorem e_Ds_turn_78 (a0 a1 a2 a3 a4 a6 a7 a8 a9 a10 : Value) (x : Nat) (st : List Value) (g : px_G) : rn k_Ds_turn 78 [a0, a1, a2, a3, a4, .ref x, a6, a7, a8, a9, a10] st g = rn k_Ds_turn 80 [a0, a1, a2, a3, a4, .ref x, a6, a7, a8, a9, a10] (.ref x :: st) g := rn_next dd_Ds_turn_78 rfl
theorem dd_Ds_turn_80 : decode (px_rw k_Ds_turn).2.1 80 = .ok (.getfield 145, 3) := (by decide +kernel : decode prog_1_method_18_code 80 = .ok (.getfield 145, 3))
theorem e_Ds_turn_80 (L : List Value) (p : Nat) (st : List Value) (T : TS) (hp : sh p = (107, 4)) : rn k_Ds_turn 80 L (.ref p :: st) (enc T) = rn k_Ds_turn 83 L (.int (T.1 p 1) :: st) (enc T) := rn_getI (n := 4) dd_Ds_turn_80 rfl (by decide) (by decide) (by decide) rfl hp
theorem dd_Ds_turn_83 : decode (px_rw k_Ds_turn).2.1 83 = .ok (.imul, 1) := (by decide +kernel : decode prog_1_method_18_code 83 = .ok (.imul, 1))
theorem e_Ds_turn_83 (L : List Value) (x y : Int32) (st : List Value) (g : px_G) : rn k_Ds_turn 83 L (.int y :: .int x :: st) g = rn k_Ds_turn 84 L (.int (x * y) :: st) g := rn_next dd_Ds_turn_83 rfl
theorem dd_Ds_turn_84 : decode (px_rw k_Ds_turn).2.1 84 = .ok (.aload 4, 2) := (by decide +kernel : decode prog_1_method_18_code 84 = .ok (.aload 4, 2))
theorem e_Ds_turn_84 (a0 a1 a2 a3 a5 a6 a7 a8 a9 a10 : Value) (x : Nat) (st : List Value) (g : px_G) : rn k_Ds_turn 84 [a0, a1, a2, a3, .ref x, a5, a6, a7, a8, a9, a10] st g = rn k_Ds_turn 86 [a0, a1, a2, a3, .ref x, a5, a6, a7, a8, a9, a10] (.ref x :: st) g := rn_next dd_Ds_turn_84 rfl
theorem dd_Ds_turn_86 : decode (px_rw k_Ds_turn).2.1 86 = .ok (.getfield 145, 3) := (by decide +kernel : decode prog_1_method_18_code 86 = .ok (.getfield 145, 3))
theorem e_Ds_turn_86 (L : List Value) (p : Nat) (st : List Value) (T : TS) (hp : sh p = (107, 4)) : rn k_Ds_turn 86 L (.ref p :: st) (enc T) = rn k_Ds_turn 89 L (.int (T.1 p 1) :: st) (enc T) := rn_getI (n := 4) dd_Ds_turn_86 rfl (by decide) (by decide) (by decide) rfl hp
theorem dd_Ds_turn_89 : decode (px_rw k_Ds_turn).2.1 89 = .ok (.aload 5, 2) := (by decide +kernel : decode prog_1_method_18_code 89 = .ok (.aload 5, 2))
theorem e_Ds_turn_89 (a0 a1 a2 a3 a4 a6 a7 a8 a9 a10 : Value) (x : Nat) (st : List Value) (g : px_G) : rn k_Ds_turn 89 [a0, a1, a2, a3, a4, .ref x, a6, a7, a8, a9, a10] st g = rn k_Ds_turn 91 [a0, a1, a2, a3, a4, .ref x, a6, a7, a8, a9, a10] (.ref x :: st) g := rn_next dd_Ds_turn_89 rfl
theorem dd_Ds_turn_91 : decode (px_rw k_Ds_turn).2.1 91 = .ok (.getfield 142, 3) := (by decide +kernel : decode prog_1_method_18_code 91 = .ok (.getfield 142, 3))
theorem e_Ds_turn_91 (L : List Value) (p : Nat) (st : List Value) (T : TS) (hp : sh p = (107, 4)) : rn k_Ds_turn 91 L (.ref p :: st) (enc T) = rn k_Ds_turn 94 L (.int (T.1 p 0) :: st) (enc T) := rn_getI (n := 4) dd_Ds_turn_91 rfl (by decide) (by decide) (by decide) rfl hp
theorem dd_Ds_turn_94 : decode (px_rw k_Ds_turn).2.1 94 = .ok (.imul, 1) := (by decide +kernel : decode prog_1_method_18_code 94 = .ok (.imul, 1))
theorem e_Ds_turn_94 (L : List Value) (x y : Int32) (st : List Value) (g : px_G) : rn k_Ds_turn 94 L (.int y :: .int x :: st) g = rn k_Ds_turn 95 L (.int (x * y) :: st) g := rn_next dd_Ds_turn_94 rfl
theorem dd_Ds_turn_95 : decode (px_rw k_Ds_turn).2.1 95 = .ok (.isub, 1) := (by decide +kernel : decode prog_1_method_18_code 95 = .ok (.isub, 1))
theorem e_Ds_turn_95 (L : List Value) (x y : Int32) (st : List Value) (g : px_G) : rn k_Ds_turn 95 L (.int y :: .int x :: st) g = rn k_Ds_turn 96 L (.int (x - y) :: st) g := rn_next dd_Ds_turn_95 rfl
theorem dd_Ds_turn_96 : decode (px_rw k_Ds_turn).2.1 96 = .ok (.istore 7, 2) := (by decide +kernel : decode prog_1_method_18_code 96 = .ok (.istore 7, 2))
theorem e_Ds_turn_96 (a0 a1 a2 a3 a4 a5 a6 a7 a8 a9 a10 : Value) (x : Int32) (st : List Value) (g : px_G) : rn k_Ds_turn 96 [a0, a1, a2, a3, a4, a5, a6, a7, a8, a9, a10] (.int x :: st) g = rn k_Ds_turn 98 [a0, a1, a2, a3, a4, a5, px_kill a6, .int x, a8, a9, a10] st g := rn_next dd_Ds_turn_96 rfl
theorem dd_Ds_turn_98 : decode (px_rw k_Ds_turn).2.1 98 = .ok (.iload 6, 2) := (by decide +kernel : decode prog_1_method_18_code 98 = .ok (.iload 6, 2))
theorem e_Ds_turn_98 (a0 a1 a2 a3 a4 a5 a7 a8 a9 a10 : Value) (x : Int32) (st : List Value) (g : px_G) : rn k_Ds_turn 98 [a0, a1, a2, a3, a4, a5, .int x, a7, a8, a9, a10] st g = rn k_Ds_turn 100 [a0, a1, a2, a3, a4, a5, .int x, a7, a8, a9, a10] (.int x :: st) g := rn_next dd_Ds_turn_98 rfl
theorem dd_Ds_turn_100 : decode (px_rw k_Ds_turn).2.1 100 = .ok (.iload 7, 2) := (by decide +kernel : decode prog_1_method_18_code 100 = .ok (.iload 7, 2))
theorem e_Ds_turn_100 (a0 a1 a2 a3 a4 a5 a6 a8 a9 a10 : Value) (x : Int32) (st : List Value) (g : px_G) : rn k_Ds_turn 100 [a0, a1, a2, a3, a4, a5, a6, .int x, a8, a9, a10] st g = rn k_Ds_turn 102 [a0, a1, a2, a3, a4, a5, a6, .int x, a8, a9, a10] (.int x :: st) g := rn_next dd_Ds_turn_100 rfl
theorem dd_Ds_turn_102 : decode (px_rw k_Ds_turn).2.1 102 = .ok (.invokestatic 236, 3) := (by decide +kernel : decode prog_1_method_18_code 102 = .ok (.invokestatic 236, 3))
theorem e_Ds_turn_102 (L : List Value) (i0 : Int32) (i1 : Int32) (g : px_G) : rn k_Ds_turn 102 L [.int i1, .int i0] g = bd (cl k_Ds_turnedX [.int i0, .int i1] g) (fun r g' => rn k_Ds_turn 105 L (r.toList ++ []) g') := rn_callS (As := [.int i0, .int i1]) (rest := []) dd_Ds_turn_102 rfl (by decide) rfl rfl (Nat.le_of_ble_eq_true rfl) (Nat.le_of_ble_eq_true rfl)
theorem dd_Ds_turn_105 : decode (px_rw k_Ds_turn).2.1 105 = .ok (.istore 8, 2) := (by decide +kernel : decode prog_1_method_18_code 105 = .ok (.istore 8, 2))
theorem e_Ds_turn_105 (a0 a1 a2 a3 a4 a5 a6 a7 a8 a9 a10 : Value) (x : Int32) (st : List Value) (g : px_G) : rn k_Ds_turn 105 [a0, a1, a2, a3, a4, a5, a6, a7, a8, a9, a10] (.int x :: st) g = rn k_Ds_turn 107 [a0, a1, a2, a3, a4, a5, a6, px_kill a7, .int x, a9, a10] st g := rn_next dd_Ds_turn_105 rfl
theorem dd_Ds_turn_107 : decode (px_rw k_Ds_turn).2.1 107 = .ok (.iload 6, 2) := (by decide +kernel : decode prog_1_method_18_code 107 = .ok (.iload 6, 2))
theorem e_Ds_turn_107 (a0 a1 a2 a3 a4 a5 a7 a8 a9 a10 : Value) (x : Int32) (st : List Value) (g : px_G) : rn k_Ds_turn 107 [a0, a1, a2, a3, a4, a5, .int x, a7, a8, a9, a10] st g = rn k_Ds_turn 109 [a0, a1, a2, a3, a4, a5, .int x, a7, a8, a9, a10] (.int x :: st) g := rn_next dd_Ds_turn_107 rfl
theorem dd_Ds_turn_109 : decode (px_rw k_Ds_turn).2.1 109 = .ok (.iload 7, 2) := (by decide +kernel : decode prog_1_method_18_code 109 = .ok (.iload 7, 2))
theorem e_Ds_turn_109 (a0 a1 a2 a3 a4 a5 a6 a8 a9 a10 : Value) (x : Int32) (st : List Value) (g : px_G) : rn k_Ds_turn 109 [a0, a1, a2, a3, a4, a5, a6, .int x, a8, a9, a10] st g = rn k_Ds_turn 111 [a0, a1, a2, a3, a4, a5, a6, .int x, a8, a9, a10] (.int x :: st) g := rn_next dd_Ds_turn_109 rfl
theorem dd_Ds_turn_111 : decode (px_rw k_Ds_turn).2.1 111 = .ok (.invokestatic 239, 3) := (by decide +kernel : decode prog_1_method_18_code 111 = .ok (.invokestatic 239, 3))
theorem e_Ds_turn_111 (L : List Value) (i0 : Int32) (i1 : Int32) (g : px_G) : rn k_Ds_turn 111 L [.int i1, .int i0] g = bd (cl k_Ds_turnedY [.int i0, .int i1] g) (fun r g' => rn k_Ds_turn 114 L (r.toList ++ []) g') := rn_callS (As := [.int i0, .int i1]) (rest := []) dd_Ds_turn_111 rfl (by decide) rfl rfl (Nat.le_of_ble_eq_true rfl) (Nat.le_of_ble_eq_true rfl)
theorem dd_Ds_turn_114 : decode (px_rw k_Ds_turn).2.1 114 = .ok (.istore 9, 2) := (by decide +kernel : decode prog_1_method_18_code 114 = .ok (.istore 9, 2))
theorem e_Ds_turn_114 (a0 a1 a2 a3 a4 a5 a6 a7 a8 a9 a10 : Value) (x : Int32) (st : List Value) (g : px_G) : rn k_Ds_turn 114 [a0, a1, a2, a3, a4, a5, a6, a7, a8, a9, a10] (.int x :: st) g = rn k_Ds_turn 116 [a0, a1, a2, a3, a4, a5, a6, a7, px_kill a8, .int x, a10] st g := rn_next dd_Ds_turn_114 rfl
theorem dd_Ds_turn_116 : decode (px_rw k_Ds_turn).2.1 116 = .ok (.iload_n 3, 1) := (by decide +kernel : decode prog_1_method_18_code 116 = .ok (.iload_n 3, 1))
theorem e_Ds_turn_116 (a0 a1 a2 a4 a5 a6 a7 a8 a9 a10 : Value) (x : Int32) (st : List Value) (g : px_G) : rn k_Ds_turn 116 [a0, a1, a2, .int x, a4, a5, a6, a7, a8, a9, a10] st g = rn k_Ds_turn 117 [a0, a1, a2, .int x, a4, a5, a6, a7, a8, a9, a10] (.int x :: st) g := rn_next dd_Ds_turn_116 rfl
theorem dd_Ds_turn_117 : decode (px_rw k_Ds_turn).2.1 117 = .ok (.ifCond .ne 13, 3) := (by decide +kernel : decode prog_1_method_18_code 117 = .ok (.ifCond .ne 13, 3))
theorem e_Ds_turn_117 (L : List Value) (x : Int32) (st : List Value) (g : px_G) : rn k_Ds_turn 117 L (.int x :: st) g = if x = 0 then rn k_Ds_turn 120 L st g else rn k_Ds_turn 130 L st g := rn_ifne dd_Ds_turn_117 (by decide)
theorem dd_Ds_turn_120 : decode (px_rw k_Ds_turn).2.1 120 = .ok (.iload 8, 2) := (by decide +kernel : decode prog_1_method_18_code 120 = .ok (.iload 8, 2))
theorem e_Ds_turn_120 (a0 a1 a2 a3 a4 a5 a6 a7 a9 a10 : Value) (x : Int32) (st : List Value) (g : px_G) : rn k_Ds_turn 120 [a0, a1, a2, a3, a4, a5, a6, a7, .int x, a9, a10] st g = rn k_Ds_turn 122 [a0, a1, a2, a3, a4, a5, a6, a7, .int x, a9, a10] (.int x :: st) g := rn_next dd_Ds_turn_120 rfl
theorem dd_Ds_turn_122 : decode (px_rw k_Ds_turn).2.1 122 = .ok (.iload 9, 2) := (by decide +kernel : decode prog_1_method_18_code 122 = .ok (.iload 9, 2))
theorem e_Ds_turn_122 (a0 a1 a2 a3 a4 a5 a6 a7 a8 a10 : Value) (x : Int32) (st : List Value) (g : px_G) : rn k_Ds_turn 122 [a0, a1, a2, a3, a4, a5, a6, a7, a8, .int x, a10] st g = rn k_Ds_turn 124 [a0, a1, a2, a3, a4, a5, a6, a7, a8, .int x, a10] (.int x :: st) g := rn_next dd_Ds_turn_122 rfl
theorem dd_Ds_turn_124 : decode (px_rw k_Ds_turn).2.1 124 = .ok (.invokestatic 246, 3) := (by decide +kernel : decode prog_1_method_18_code 124 = .ok (.invokestatic 246, 3))
theorem e_Ds_turn_124 (L : List Value) (i0 : Int32) (i1 : Int32) (g : px_G) : rn k_Ds_turn 124 L [.int i1, .int i0] g = bd (cl k_Math_max_II [.int i0, .int i1] g) (fun r g' => rn k_Ds_turn 127 L (r.toList ++ []) g') := rn_callS (As := [.int i0, .int i1]) (rest := []) dd_Ds_turn_124 rfl (by decide) rfl rfl (Nat.le_of_ble_eq_true rfl) (Nat.le_of_ble_eq_true rfl)
theorem dd_Ds_turn_127 : decode (px_rw k_Ds_turn).2.1 127 = .ok (.goto 10, 3) := (by decide +kernel : decode prog_1_method_18_code 127 = .ok (.goto 10, 3))
theorem e_Ds_turn_127 (L st : List Value) (g : px_G) : rn k_Ds_turn 127 L st g = rn k_Ds_turn 137 L st g := rn_goto dd_Ds_turn_127 (by decide)
theorem dd_Ds_turn_130 : decode (px_rw k_Ds_turn).2.1 130 = .ok (.iload 8, 2) := (by decide +kernel : decode prog_1_method_18_code 130 = .ok (.iload 8, 2))
theorem e_Ds_turn_130 (a0 a1 a2 a3 a4 a5 a6 a7 a9 a10 : Value) (x : Int32) (st : List Value) (g : px_G) : rn k_Ds_turn 130 [a0, a1, a2, a3, a4, a5, a6, a7, .int x, a9, a10] st g = rn k_Ds_turn 132 [a0, a1, a2, a3, a4, a5, a6, a7, .int x, a9, a10] (.int x :: st) g := rn_next dd_Ds_turn_130 rfl
theorem dd_Ds_turn_132 : decode (px_rw k_Ds_turn).2.1 132 = .ok (.iload 9, 2) := (by decide +kernel : decode prog_1_method_18_code 132 = .ok (.iload 9, 2))
theorem e_Ds_turn_132 (a0 a1 a2 a3 a4 a5 a6 a7 a8 a10 : Value) (x : Int32) (st : List Value) (g : px_G) : rn k_Ds_turn 132 [a0, a1, a2, a3, a4, a5, a6, a7, a8, .int x, a10] st g = rn k_Ds_turn 134 [a0, a1, a2, a3, a4, a5, a6, a7, a8, .int x, a10] (.int x :: st) g := rn_next dd_Ds_turn_132 rfl
theorem dd_Ds_turn_134 : decode (px_rw k_Ds_turn).2.1 134 = .ok (.invokestatic 251, 3) := (by decide +kernel : decode prog_1_method_18_code 134 = .ok (.invokestatic 251, 3))
theorem e_Ds_turn_134 (L : List Value) (i0 : Int32) (i1 : Int32) (g : px_G) : rn k_Ds_turn 134 L [.int i1, .int i0] g = bd (cl k_Math_min_II [.int i0, .int i1] g) (fun r g' => rn k_Ds_turn 137 L (r.toList ++ []) g') := rn_callS (As := [.int i0, .int i1]) (rest := []) dd_Ds_turn_134 rfl (by decide) rfl rfl (Nat.le_of_ble_eq_true rfl) (Nat.le_of_ble_eq_true rfl)
theorem dd_Ds_turn_137 : decode (px_rw k_Ds_turn).2.1 137 = .ok (.istore 10, 2) := (by decide +kernel : decode prog_1_method_18_code 137 = .ok (.istore 10, 2))
theorem e_Ds_turn_137 (a0 a1 a2 a3 a4 a5 a6 a7 a8 a9 a10 : Value) (x : Int32) (st : List Value) (g : px_G) : rn k_Ds_turn 137 [a0, a1, a2, a3, a4, a5, a6, a7, a8, a9, a10] (.int x :: st) g = rn k_Ds_turn 139 [a0, a1, a2, a3, a4, a5, a6, a7, a8, px_kill a9, .int x] st g := rn_next dd_Ds_turn_137 rfl
theorem dd_Ds_turn_139 : decode (px_rw k_Ds_turn).2.1 139 = .ok (.iload 10, 2) := (by decide +kernel : decode prog_1_method_18_code 139 = .ok (.iload 10, 2))
theorem e_Ds_turn_139 (a0 a1 a2 a3 a4 a5 a6 a7 a8 a9 : Value) (x : Int32) (st : List Value) (g : px_G) : rn k_Ds_turn 139 [a0, a1, a2, a3, a4, a5, a6, a7, a8, a9, .int x] st g = rn k_Ds_turn 141 [a0, a1, a2, a3, a4, a5, a6, a7, a8, a9, .int x] (.int x :: st) g := rn_next dd_Ds_turn_139 rfl
theorem dd_Ds_turn_141 : decode (px_rw k_Ds_turn).2.1 141 = .ok (.iload 8, 2) := (by decide +kernel : decode prog_1_method_18_code 141 = .ok (.iload 8, 2))
theorem e_Ds_turn_141 (a0 a1 a2 a3 a4 a5 a6 a7 a9 a10 : Value) (x : Int32) (st : List Value) (g : px_G) : rn k_Ds_turn 141 [a0, a1, a2, a3, a4, a5, a6, a7, .int x, a9, a10] st g = rn k_Ds_turn 143 [a0, a1, a2, a3, a4, a5, a6, a7, .int x, a9, a10] (.int x :: st) g := rn_next dd_Ds_turn_141 rfl
theorem dd_Ds_turn_143 : decode (px_rw k_Ds_turn).2.1 143 = .ok (.iload 9, 2) := (by decide +kernel : decode prog_1_method_18_code 143 = .ok (.iload 9, 2))
theorem e_Ds_turn_143 (a0 a1 a2 a3 a4 a5 a6 a7 a8 a10 : Value) (x : Int32) (st : List Value) (g : px_G) : rn k_Ds_turn 143 [a0, a1, a2, a3, a4, a5, a6, a7, a8, .int x, a10] st g = rn k_Ds_turn 145 [a0, a1, a2, a3, a4, a5, a6, a7, a8, .int x, a10] (.int x :: st) g := rn_next dd_Ds_turn_143 rfl
theorem dd_Ds_turn_145 : decode (px_rw k_Ds_turn).2.1 145 = .ok (.invokestatic 242, 3) := (by decide +kernel : decode prog_1_method_18_code 145 = .ok (.invokestatic 242, 3))
theorem e_Ds_turn_145 (L : List Value) (i0 : Int32) (i1 : Int32) (i2 : Int32) (g : px_G) : rn k_Ds_turn 145 L [.int i2, .int i1, .int i0] g = bd (cl k_Ds_lowest [.int i0, .int i1, .int i2] g) (fun r g' => rn k_Ds_turn 148 L (r.toList ++ []) g') := rn_callS (As := [.int i0, .int i1, .int i2]) (rest := []) dd_Ds_turn_145 rfl (by decide) rfl rfl (Nat.le_of_ble_eq_true rfl) (Nat.le_of_ble_eq_true rfl)
theorem dd_Ds_turn_148 : decode (px_rw k_Ds_turn).2.1 148 = .ok (.ireturn, 1) := (by decide +kernel : decode prog_1_method_18_code 148 = .ok (.ireturn, 1))
theorem e_Ds_turn_148 (L : List Value) (v : Int32) (g : px_G) : rn k_Ds_turn 148 L [.int v] g = some (some (.int v), g) := rn_iret dd_Ds_turn_148 rfl
theorem c_Ds_beat (r0 : Nat) (i1 : Int32) (i2 : Int32) (i3 : Int32) (g : px_G) : cl k_Ds_beat [.ref r0, .int i1, .int i2, .int i3] g = rn k_Ds_beat 0 [.ref r0, .int i1, .int i2, .int i3] [] g := rfl
theorem dd_Ds_beat_0 : decode (px_rw k_Ds_beat).2.1 0 = .ok (.aload_n 0, 1) := (by decide +kernel : decode prog_1_method_19_code 0 = .ok (.aload_n 0, 1))
theorem e_Ds_beat_0 (a1 a2 a3 : Value) (x : Nat) (st : List Value) (g : px_G) : rn k_Ds_beat 0 [.ref x, a1, a2, a3] st g = rn k_Ds_beat 1 [.ref x, a1, a2, a3] (.ref x :: st) g := rn_next dd_Ds_beat_0 rfl
theorem dd_Ds_beat_1 : decode (px_rw k_Ds_beat).2.1 1 = .ok (.iload_n 1, 1) := (by decide +kernel : decode prog_1_method_19_code 1 = .ok (.iload_n 1, 1))
theorem e_Ds_beat_1 (a0 a2 a3 : Value) (x : Int32) (st : List Value) (g : px_G) : rn k_Ds_beat 1 [a0, .int x, a2, a3] st g = rn k_Ds_beat 2 [a0, .int x, a2, a3] (.int x :: st) g := rn_next dd_Ds_beat_1 rfl
theorem dd_Ds_beat_2 : decode (px_rw k_Ds_beat).2.1 2 = .ok (.invokevirtual 129, 3) := (by decide +kernel : decode prog_1_method_19_code 2 = .ok (.invokevirtual 129, 3))
theorem e_Ds_beat_2 (L : List Value) (i0 : Int32)  (T : TS)  : rn k_Ds_beat 2 L [.int i0, .ref 0] (enc T) = bd (cl k_Ds_isInk [.ref 0, .int i0] (enc T)) (fun r g' => rn k_Ds_beat 5 L (r.toList ++ []) g') := rn_callV (n := 13) (As := [.int i0]) (rest := []) dd_Ds_beat_2 rfl (by decide) (by decide) rfl rfl (Nat.le_of_ble_eq_true rfl) (Nat.le_of_ble_eq_true rfl) rfl
theorem dd_Ds_beat_5 : decode (px_rw k_Ds_beat).2.1 5 = .ok (.ifCond .eq 16, 3) := (by decide +kernel : decode prog_1_method_19_code 5 = .ok (.ifCond .eq 16, 3))
theorem e_Ds_beat_5 (L : List Value) (x : Int32) (st : List Value) (g : px_G) : rn k_Ds_beat 5 L (.int x :: st) g = if x = 0 then rn k_Ds_beat 21 L st g else rn k_Ds_beat 8 L st g := rn_ifeq dd_Ds_beat_5 (by decide)
theorem dd_Ds_beat_8 : decode (px_rw k_Ds_beat).2.1 8 = .ok (.aload_n 0, 1) := (by decide +kernel : decode prog_1_method_19_code 8 = .ok (.aload_n 0, 1))
theorem e_Ds_beat_8 (a1 a2 a3 : Value) (x : Nat) (st : List Value) (g : px_G) : rn k_Ds_beat 8 [.ref x, a1, a2, a3] st g = rn k_Ds_beat 9 [.ref x, a1, a2, a3] (.ref x :: st) g := rn_next dd_Ds_beat_8 rfl
theorem dd_Ds_beat_9 : decode (px_rw k_Ds_beat).2.1 9 = .ok (.iload_n 2, 1) := (by decide +kernel : decode prog_1_method_19_code 9 = .ok (.iload_n 2, 1))
theorem e_Ds_beat_9 (a0 a1 a3 : Value) (x : Int32) (st : List Value) (g : px_G) : rn k_Ds_beat 9 [a0, a1, .int x, a3] st g = rn k_Ds_beat 10 [a0, a1, .int x, a3] (.int x :: st) g := rn_next dd_Ds_beat_9 rfl
theorem dd_Ds_beat_10 : decode (px_rw k_Ds_beat).2.1 10 = .ok (.invokevirtual 129, 3) := (by decide +kernel : decode prog_1_method_19_code 10 = .ok (.invokevirtual 129, 3))
theorem e_Ds_beat_10 (L : List Value) (i0 : Int32)  (T : TS)  : rn k_Ds_beat 10 L [.int i0, .ref 0] (enc T) = bd (cl k_Ds_isInk [.ref 0, .int i0] (enc T)) (fun r g' => rn k_Ds_beat 13 L (r.toList ++ []) g') := rn_callV (n := 13) (As := [.int i0]) (rest := []) dd_Ds_beat_10 rfl (by decide) (by decide) rfl rfl (Nat.le_of_ble_eq_true rfl) (Nat.le_of_ble_eq_true rfl) rfl
theorem dd_Ds_beat_13 : decode (px_rw k_Ds_beat).2.1 13 = .ok (.ifCond .eq 8, 3) := (by decide +kernel : decode prog_1_method_19_code 13 = .ok (.ifCond .eq 8, 3))
theorem e_Ds_beat_13 (L : List Value) (x : Int32) (st : List Value) (g : px_G) : rn k_Ds_beat 13 L (.int x :: st) g = if x = 0 then rn k_Ds_beat 21 L st g else rn k_Ds_beat 16 L st g := rn_ifeq dd_Ds_beat_13 (by decide)
theorem dd_Ds_beat_16 : decode (px_rw k_Ds_beat).2.1 16 = .ok (.iload_n 1, 1) := (by decide +kernel : decode prog_1_method_19_code 16 = .ok (.iload_n 1, 1))
theorem e_Ds_beat_16 (a0 a2 a3 : Value) (x : Int32) (st : List Value) (g : px_G) : rn k_Ds_beat 16 [a0, .int x, a2, a3] st g = rn k_Ds_beat 17 [a0, .int x, a2, a3] (.int x :: st) g := rn_next dd_Ds_beat_16 rfl
theorem dd_Ds_beat_17 : decode (px_rw k_Ds_beat).2.1 17 = .ok (.iload_n 2, 1) := (by decide +kernel : decode prog_1_method_19_code 17 = .ok (.iload_n 2, 1))
theorem e_Ds_beat_17 (a0 a1 a3 : Value) (x : Int32) (st : List Value) (g : px_G) : rn k_Ds_beat 17 [a0, a1, .int x, a3] st g = rn k_Ds_beat 18 [a0, a1, .int x, a3] (.int x :: st) g := rn_next dd_Ds_beat_17 rfl
theorem dd_Ds_beat_18 : decode (px_rw k_Ds_beat).2.1 18 = .ok (.if_icmp .ne 6, 3) := (by decide +kernel : decode prog_1_method_19_code 18 = .ok (.if_icmp .ne 6, 3))
theorem e_Ds_beat_18 (L : List Value) (x y : Int32) (st : List Value) (g : px_G) : rn k_Ds_beat 18 L (.int y :: .int x :: st) g = if x = y then rn k_Ds_beat 21 L st g else rn k_Ds_beat 24 L st g := rn_icne dd_Ds_beat_18 (by decide)
theorem dd_Ds_beat_21 : decode (px_rw k_Ds_beat).2.1 21 = .ok (.ldc 164, 2) := (by decide +kernel : decode prog_1_method_19_code 21 = .ok (.ldc 164, 2))
theorem e_Ds_beat_21 (L st : List Value) (g : px_G) : rn k_Ds_beat 21 L st g = rn k_Ds_beat 23 L (.int (-1000000) :: st) g := rn_ldc (i := .ldc 164) (w := .int (Int32.ofInt (-1000000))) dd_Ds_beat_21 rfl rfl rfl rfl rfl (by decide)
theorem dd_Ds_beat_23 : decode (px_rw k_Ds_beat).2.1 23 = .ok (.ireturn, 1) := (by decide +kernel : decode prog_1_method_19_code 23 = .ok (.ireturn, 1))
theorem e_Ds_beat_23 (L : List Value) (v : Int32) (g : px_G) : rn k_Ds_beat 23 L [.int v] g = some (some (.int v), g) := rn_iret dd_Ds_beat_23 rfl
theorem dd_Ds_beat_24 : decode (px_rw k_Ds_beat).2.1 24 = .ok (.aload_n 0, 1) := (by decide +kernel : decode prog_1_method_19_code 24 = .ok (.aload_n 0, 1))
theorem e_Ds_beat_24 (a1 a2 a3 : Value) (x : Nat) (st : List Value) (g : px_G) : rn k_Ds_beat 24 [.ref x, a1, a2, a3] st g = rn k_Ds_beat 25 [.ref x, a1, a2, a3] (.ref x :: st) g := rn_next dd_Ds_beat_24 rfl
theorem dd_Ds_beat_25 : decode (px_rw k_Ds_beat).2.1 25 = .ok (.getfield 59, 3) := (by decide +kernel : decode prog_1_method_19_code 25 = .ok (.getfield 59, 3))
theorem e_Ds_beat_25 (L st : List Value) (T : TS) : rn k_Ds_beat 25 L (.ref 0 :: st) (enc T) = rn k_Ds_beat 28 L (.ref 14 :: st) (enc T) := rn_getO (n := 13) dd_Ds_beat_25 rfl (by decide) (by decide) (by decide) rfl rfl
theorem dd_Ds_beat_28 : decode (px_rw k_Ds_beat).2.1 28 = .ok (.aload_n 0, 1) := (by decide +kernel : decode prog_1_method_19_code 28 = .ok (.aload_n 0, 1))
theorem e_Ds_beat_28 (a1 a2 a3 : Value) (x : Nat) (st : List Value) (g : px_G) : rn k_Ds_beat 28 [.ref x, a1, a2, a3] st g = rn k_Ds_beat 29 [.ref x, a1, a2, a3] (.ref x :: st) g := rn_next dd_Ds_beat_28 rfl
theorem dd_Ds_beat_29 : decode (px_rw k_Ds_beat).2.1 29 = .ok (.getfield 27, 3) := (by decide +kernel : decode prog_1_method_19_code 29 = .ok (.getfield 27, 3))
theorem e_Ds_beat_29 (L st : List Value) (T : TS) : rn k_Ds_beat 29 L (.ref 0 :: st) (enc T) = rn k_Ds_beat 32 L (.ref 5 :: st) (enc T) := rn_getA (n := 13) dd_Ds_beat_29 rfl (by decide) (by decide) (by decide) rfl rfl
theorem dd_Ds_beat_32 : decode (px_rw k_Ds_beat).2.1 32 = .ok (.iload_n 1, 1) := (by decide +kernel : decode prog_1_method_19_code 32 = .ok (.iload_n 1, 1))
theorem e_Ds_beat_32 (a0 a2 a3 : Value) (x : Int32) (st : List Value) (g : px_G) : rn k_Ds_beat 32 [a0, .int x, a2, a3] st g = rn k_Ds_beat 33 [a0, .int x, a2, a3] (.int x :: st) g := rn_next dd_Ds_beat_32 rfl
theorem dd_Ds_beat_33 : decode (px_rw k_Ds_beat).2.1 33 = .ok (.aaload, 1) := (by decide +kernel : decode prog_1_method_19_code 33 = .ok (.aaload, 1))
theorem e_Ds_beat_33 (L : List Value) (i : Int32) (p : Nat) (st : List Value) (T : TS) (hp : (sh p).1 = 3) : rn k_Ds_beat 33 L (.int i :: .ref p :: st) (enc T) = if px_in i (sh p).2 then rn k_Ds_beat 34 L (.ref (T.2.2.1 i.toNatClampNeg) :: st) (enc T) else none := rn_aald dd_Ds_beat_33 (Prod.ext hp rfl)
theorem dd_Ds_beat_34 : decode (px_rw k_Ds_beat).2.1 34 = .ok (.getfield 139, 3) := (by decide +kernel : decode prog_1_method_19_code 34 = .ok (.getfield 139, 3))
theorem e_Ds_beat_34 (L : List Value) (p : Nat) (st : List Value) (T : TS) (hp : sh p = (104, 18)) : rn k_Ds_beat 34 L (.ref p :: st) (enc T) = rn k_Ds_beat 37 L (.ref (p + 1) :: st) (enc T) := (rn_getO (n := 18) dd_Ds_beat_34 rfl (by decide) (by decide) (by decide) rfl hp).trans (by rw [ink_rf_0 hp])
theorem dd_Ds_beat_37 : decode (px_rw k_Ds_beat).2.1 37 = .ok (.aload_n 0, 1) := (by decide +kernel : decode prog_1_method_19_code 37 = .ok (.aload_n 0, 1))
theorem e_Ds_beat_37 (a1 a2 a3 : Value) (x : Nat) (st : List Value) (g : px_G) : rn k_Ds_beat 37 [.ref x, a1, a2, a3] st g = rn k_Ds_beat 38 [.ref x, a1, a2, a3] (.ref x :: st) g := rn_next dd_Ds_beat_37 rfl
theorem dd_Ds_beat_38 : decode (px_rw k_Ds_beat).2.1 38 = .ok (.getfield 27, 3) := (by decide +kernel : decode prog_1_method_19_code 38 = .ok (.getfield 27, 3))
theorem e_Ds_beat_38 (L st : List Value) (T : TS) : rn k_Ds_beat 38 L (.ref 0 :: st) (enc T) = rn k_Ds_beat 41 L (.ref 5 :: st) (enc T) := rn_getA (n := 13) dd_Ds_beat_38 rfl (by decide) (by decide) (by decide) rfl rfl
theorem dd_Ds_beat_41 : decode (px_rw k_Ds_beat).2.1 41 = .ok (.iload_n 2, 1) := (by decide +kernel : decode prog_1_method_19_code 41 = .ok (.iload_n 2, 1))
theorem e_Ds_beat_41 (a0 a1 a3 : Value) (x : Int32) (st : List Value) (g : px_G) : rn k_Ds_beat 41 [a0, a1, .int x, a3] st g = rn k_Ds_beat 42 [a0, a1, .int x, a3] (.int x :: st) g := rn_next dd_Ds_beat_41 rfl
theorem dd_Ds_beat_42 : decode (px_rw k_Ds_beat).2.1 42 = .ok (.aaload, 1) := (by decide +kernel : decode prog_1_method_19_code 42 = .ok (.aaload, 1))
theorem e_Ds_beat_42 (L : List Value) (i : Int32) (p : Nat) (st : List Value) (T : TS) (hp : (sh p).1 = 3) : rn k_Ds_beat 42 L (.int i :: .ref p :: st) (enc T) = if px_in i (sh p).2 then rn k_Ds_beat 43 L (.ref (T.2.2.1 i.toNatClampNeg) :: st) (enc T) else none := rn_aald dd_Ds_beat_42 (Prod.ext hp rfl)
theorem dd_Ds_beat_43 : decode (px_rw k_Ds_beat).2.1 43 = .ok (.getfield 139, 3) := (by decide +kernel : decode prog_1_method_19_code 43 = .ok (.getfield 139, 3))
theorem e_Ds_beat_43 (L : List Value) (p : Nat) (st : List Value) (T : TS) (hp : sh p = (104, 18)) : rn k_Ds_beat 43 L (.ref p :: st) (enc T) = rn k_Ds_beat 46 L (.ref (p + 1) :: st) (enc T) := (rn_getO (n := 18) dd_Ds_beat_43 rfl (by decide) (by decide) (by decide) rfl hp).trans (by rw [ink_rf_0 hp])
theorem dd_Ds_beat_46 : decode (px_rw k_Ds_beat).2.1 46 = .ok (.invokevirtual 254, 3) := (by decide +kernel : decode prog_1_method_19_code 46 = .ok (.invokevirtual 254, 3))
theorem e_Ds_beat_46 (L : List Value) (r0 : Nat) (r1 : Nat) (p : Nat) (T : TS) (hp : sh p = (100, 7)) : rn k_Ds_beat 46 L [.ref r1, .ref r0, .ref p] (enc T) = bd (cl k_Beat_compare [.ref p, .ref r0, .ref r1] (enc T)) (fun r g' => rn k_Ds_beat 49 L (r.toList ++ []) g') := rn_callV (n := 7) (As := [.ref r0, .ref r1]) (rest := []) dd_Ds_beat_46 rfl (by decide) (by decide) rfl rfl (Nat.le_of_ble_eq_true rfl) (Nat.le_of_ble_eq_true rfl) hp
theorem dd_Ds_beat_49 : decode (px_rw k_Ds_beat).2.1 49 = .ok (.iload_n 3, 1) := (by decide +kernel : decode prog_1_method_19_code 49 = .ok (.iload_n 3, 1))
theorem e_Ds_beat_49 (a0 a1 a2 : Value) (x : Int32) (st : List Value) (g : px_G) : rn k_Ds_beat 49 [a0, a1, a2, .int x] st g = rn k_Ds_beat 50 [a0, a1, a2, .int x] (.int x :: st) g := rn_next dd_Ds_beat_49 rfl
theorem dd_Ds_beat_50 : decode (px_rw k_Ds_beat).2.1 50 = .ok (.tableswitch 82 0 4 #[34, 42, 50, 58, 66], 34) := (by decide +kernel : decode prog_1_method_19_code 50 = .ok (.tableswitch 82 0 4 #[34, 42, 50, 58, 66], 34))
theorem e_Ds_beat_50 (L : List Value) (x : Int32) (st : List Value) (g : px_G) : rn k_Ds_beat 50 L (.int x :: st) g = if x = 0 then rn k_Ds_beat 84 L st g else if x = 1 then rn k_Ds_beat 92 L st g else if x = 2 then rn k_Ds_beat 100 L st g else if x = 3 then rn k_Ds_beat 108 L st g else if x = 4 then rn k_Ds_beat 116 L st g else rn k_Ds_beat 132 L st g := by
  by_cases h0 : x = 0
  · rw [if_pos h0]; subst h0; exact rn_sw dd_Ds_beat_50 rfl (by decide)
  rw [if_neg h0]
  by_cases h1 : x = 1
  · rw [if_pos h1]; subst h1; exact rn_sw dd_Ds_beat_50 rfl (by decide)
  rw [if_neg h1]
  by_cases h2 : x = 2
  · rw [if_pos h2]; subst h2; exact rn_sw dd_Ds_beat_50 rfl (by decide)
  rw [if_neg h2]
  by_cases h3 : x = 3
  · rw [if_pos h3]; subst h3; exact rn_sw dd_Ds_beat_50 rfl (by decide)
  rw [if_neg h3]
  by_cases h4 : x = 4
  · rw [if_pos h4]; subst h4; exact rn_sw dd_Ds_beat_50 rfl (by decide)
  rw [if_neg h4]
  refine rn_sw dd_Ds_beat_50 (off := 82) (st' := st) ?_ (by decide)
  have n0 := lv_neT h0 (show (0 : Int32).toInt = 0 by decide)
  have n1 := lv_neT h1 (show (1 : Int32).toInt = 1 by decide)
  have n2 := lv_neT h2 (show (2 : Int32).toInt = 2 by decide)
  have n3 := lv_neT h3 (show (3 : Int32).toInt = 3 by decide)
  have n4 := lv_neT h4 (show (4 : Int32).toInt = 4 by decide)
  have hq : x.toInt < 0 ∨ 4 < x.toInt := by omega
  show (if x.toInt < 0 ∨ 4 < x.toInt then _ else _) = _
  rw [if_pos hq]
theorem dd_Ds_beat_84 : decode (px_rw k_Ds_beat).2.1 84 = .ok (.aload_n 0, 1) := (by decide +kernel : decode prog_1_method_19_code 84 = .ok (.aload_n 0, 1))
theorem e_Ds_beat_84 (a1 a2 a3 : Value) (x : Nat) (st : List Value) (g : px_G) : rn k_Ds_beat 84 [.ref x, a1, a2, a3] st g = rn k_Ds_beat 85 [.ref x, a1, a2, a3] (.ref x :: st) g := rn_next dd_Ds_beat_84 rfl
theorem dd_Ds_beat_85 : decode (px_rw k_Ds_beat).2.1 85 = .ok (.getfield 59, 3) := (by decide +kernel : decode prog_1_method_19_code 85 = .ok (.getfield 59, 3))
theorem e_Ds_beat_85 (L st : List Value) (T : TS) : rn k_Ds_beat 85 L (.ref 0 :: st) (enc T) = rn k_Ds_beat 88 L (.ref 14 :: st) (enc T) := rn_getO (n := 13) dd_Ds_beat_85 rfl (by decide) (by decide) (by decide) rfl rfl
theorem dd_Ds_beat_88 : decode (px_rw k_Ds_beat).2.1 88 = .ok (.getfield 258, 3) := (by decide +kernel : decode prog_1_method_19_code 88 = .ok (.getfield 258, 3))
theorem e_Ds_beat_88 (L : List Value) (p : Nat) (st : List Value) (T : TS) (hp : sh p = (100, 7)) : rn k_Ds_beat 88 L (.ref p :: st) (enc T) = rn k_Ds_beat 91 L (.int (T.1 p 0) :: st) (enc T) := rn_getI (n := 7) dd_Ds_beat_88 rfl (by decide) (by decide) (by decide) rfl hp
theorem dd_Ds_beat_91 : decode (px_rw k_Ds_beat).2.1 91 = .ok (.ireturn, 1) := (by decide +kernel : decode prog_1_method_19_code 91 = .ok (.ireturn, 1))
theorem e_Ds_beat_91 (L : List Value) (v : Int32) (g : px_G) : rn k_Ds_beat 91 L [.int v] g = some (some (.int v), g) := rn_iret dd_Ds_beat_91 rfl
theorem dd_Ds_beat_92 : decode (px_rw k_Ds_beat).2.1 92 = .ok (.aload_n 0, 1) := (by decide +kernel : decode prog_1_method_19_code 92 = .ok (.aload_n 0, 1))
theorem e_Ds_beat_92 (a1 a2 a3 : Value) (x : Nat) (st : List Value) (g : px_G) : rn k_Ds_beat 92 [.ref x, a1, a2, a3] st g = rn k_Ds_beat 93 [.ref x, a1, a2, a3] (.ref x :: st) g := rn_next dd_Ds_beat_92 rfl
theorem dd_Ds_beat_93 : decode (px_rw k_Ds_beat).2.1 93 = .ok (.getfield 59, 3) := (by decide +kernel : decode prog_1_method_19_code 93 = .ok (.getfield 59, 3))
theorem e_Ds_beat_93 (L st : List Value) (T : TS) : rn k_Ds_beat 93 L (.ref 0 :: st) (enc T) = rn k_Ds_beat 96 L (.ref 14 :: st) (enc T) := rn_getO (n := 13) dd_Ds_beat_93 rfl (by decide) (by decide) (by decide) rfl rfl
theorem dd_Ds_beat_96 : decode (px_rw k_Ds_beat).2.1 96 = .ok (.getfield 261, 3) := (by decide +kernel : decode prog_1_method_19_code 96 = .ok (.getfield 261, 3))
theorem e_Ds_beat_96 (L : List Value) (p : Nat) (st : List Value) (T : TS) (hp : sh p = (100, 7)) : rn k_Ds_beat 96 L (.ref p :: st) (enc T) = rn k_Ds_beat 99 L (.int (T.1 p 1) :: st) (enc T) := rn_getI (n := 7) dd_Ds_beat_96 rfl (by decide) (by decide) (by decide) rfl hp
theorem dd_Ds_beat_99 : decode (px_rw k_Ds_beat).2.1 99 = .ok (.ireturn, 1) := (by decide +kernel : decode prog_1_method_19_code 99 = .ok (.ireturn, 1))
theorem e_Ds_beat_99 (L : List Value) (v : Int32) (g : px_G) : rn k_Ds_beat 99 L [.int v] g = some (some (.int v), g) := rn_iret dd_Ds_beat_99 rfl
theorem dd_Ds_beat_100 : decode (px_rw k_Ds_beat).2.1 100 = .ok (.aload_n 0, 1) := (by decide +kernel : decode prog_1_method_19_code 100 = .ok (.aload_n 0, 1))
theorem e_Ds_beat_100 (a1 a2 a3 : Value) (x : Nat) (st : List Value) (g : px_G) : rn k_Ds_beat 100 [.ref x, a1, a2, a3] st g = rn k_Ds_beat 101 [.ref x, a1, a2, a3] (.ref x :: st) g := rn_next dd_Ds_beat_100 rfl
theorem dd_Ds_beat_101 : decode (px_rw k_Ds_beat).2.1 101 = .ok (.getfield 59, 3) := (by decide +kernel : decode prog_1_method_19_code 101 = .ok (.getfield 59, 3))
theorem e_Ds_beat_101 (L st : List Value) (T : TS) : rn k_Ds_beat 101 L (.ref 0 :: st) (enc T) = rn k_Ds_beat 104 L (.ref 14 :: st) (enc T) := rn_getO (n := 13) dd_Ds_beat_101 rfl (by decide) (by decide) (by decide) rfl rfl
theorem dd_Ds_beat_104 : decode (px_rw k_Ds_beat).2.1 104 = .ok (.getfield 264, 3) := (by decide +kernel : decode prog_1_method_19_code 104 = .ok (.getfield 264, 3))
theorem e_Ds_beat_104 (L : List Value) (p : Nat) (st : List Value) (T : TS) (hp : sh p = (100, 7)) : rn k_Ds_beat 104 L (.ref p :: st) (enc T) = rn k_Ds_beat 107 L (.int (T.1 p 2) :: st) (enc T) := rn_getI (n := 7) dd_Ds_beat_104 rfl (by decide) (by decide) (by decide) rfl hp
theorem dd_Ds_beat_107 : decode (px_rw k_Ds_beat).2.1 107 = .ok (.ireturn, 1) := (by decide +kernel : decode prog_1_method_19_code 107 = .ok (.ireturn, 1))
theorem e_Ds_beat_107 (L : List Value) (v : Int32) (g : px_G) : rn k_Ds_beat 107 L [.int v] g = some (some (.int v), g) := rn_iret dd_Ds_beat_107 rfl
theorem dd_Ds_beat_108 : decode (px_rw k_Ds_beat).2.1 108 = .ok (.aload_n 0, 1) := (by decide +kernel : decode prog_1_method_19_code 108 = .ok (.aload_n 0, 1))
theorem e_Ds_beat_108 (a1 a2 a3 : Value) (x : Nat) (st : List Value) (g : px_G) : rn k_Ds_beat 108 [.ref x, a1, a2, a3] st g = rn k_Ds_beat 109 [.ref x, a1, a2, a3] (.ref x :: st) g := rn_next dd_Ds_beat_108 rfl
theorem dd_Ds_beat_109 : decode (px_rw k_Ds_beat).2.1 109 = .ok (.getfield 59, 3) := (by decide +kernel : decode prog_1_method_19_code 109 = .ok (.getfield 59, 3))
theorem e_Ds_beat_109 (L st : List Value) (T : TS) : rn k_Ds_beat 109 L (.ref 0 :: st) (enc T) = rn k_Ds_beat 112 L (.ref 14 :: st) (enc T) := rn_getO (n := 13) dd_Ds_beat_109 rfl (by decide) (by decide) (by decide) rfl rfl
theorem dd_Ds_beat_112 : decode (px_rw k_Ds_beat).2.1 112 = .ok (.getfield 267, 3) := (by decide +kernel : decode prog_1_method_19_code 112 = .ok (.getfield 267, 3))
theorem e_Ds_beat_112 (L : List Value) (p : Nat) (st : List Value) (T : TS) (hp : sh p = (100, 7)) : rn k_Ds_beat 112 L (.ref p :: st) (enc T) = rn k_Ds_beat 115 L (.int (T.1 p 3) :: st) (enc T) := rn_getI (n := 7) dd_Ds_beat_112 rfl (by decide) (by decide) (by decide) rfl hp
theorem dd_Ds_beat_115 : decode (px_rw k_Ds_beat).2.1 115 = .ok (.ireturn, 1) := (by decide +kernel : decode prog_1_method_19_code 115 = .ok (.ireturn, 1))
theorem e_Ds_beat_115 (L : List Value) (v : Int32) (g : px_G) : rn k_Ds_beat 115 L [.int v] g = some (some (.int v), g) := rn_iret dd_Ds_beat_115 rfl
theorem dd_Ds_beat_116 : decode (px_rw k_Ds_beat).2.1 116 = .ok (.aload_n 0, 1) := (by decide +kernel : decode prog_1_method_19_code 116 = .ok (.aload_n 0, 1))
theorem e_Ds_beat_116 (a1 a2 a3 : Value) (x : Nat) (st : List Value) (g : px_G) : rn k_Ds_beat 116 [.ref x, a1, a2, a3] st g = rn k_Ds_beat 117 [.ref x, a1, a2, a3] (.ref x :: st) g := rn_next dd_Ds_beat_116 rfl
theorem dd_Ds_beat_117 : decode (px_rw k_Ds_beat).2.1 117 = .ok (.getfield 59, 3) := (by decide +kernel : decode prog_1_method_19_code 117 = .ok (.getfield 59, 3))
theorem e_Ds_beat_117 (L st : List Value) (T : TS) : rn k_Ds_beat 117 L (.ref 0 :: st) (enc T) = rn k_Ds_beat 120 L (.ref 14 :: st) (enc T) := rn_getO (n := 13) dd_Ds_beat_117 rfl (by decide) (by decide) (by decide) rfl rfl
theorem dd_Ds_beat_120 : decode (px_rw k_Ds_beat).2.1 120 = .ok (.getfield 270, 3) := (by decide +kernel : decode prog_1_method_19_code 120 = .ok (.getfield 270, 3))
theorem e_Ds_beat_120 (L : List Value) (p : Nat) (st : List Value) (T : TS) (hp : sh p = (100, 7)) : rn k_Ds_beat 120 L (.ref p :: st) (enc T) = rn k_Ds_beat 123 L (.int (T.1 p 4) :: st) (enc T) := rn_getZ (n := 7) dd_Ds_beat_120 rfl (by decide) (by decide) (by decide) rfl hp
theorem dd_Ds_beat_123 : decode (px_rw k_Ds_beat).2.1 123 = .ok (.ifCond .eq 7, 3) := (by decide +kernel : decode prog_1_method_19_code 123 = .ok (.ifCond .eq 7, 3))
theorem e_Ds_beat_123 (L : List Value) (x : Int32) (st : List Value) (g : px_G) : rn k_Ds_beat 123 L (.int x :: st) g = if x = 0 then rn k_Ds_beat 130 L st g else rn k_Ds_beat 126 L st g := rn_ifeq dd_Ds_beat_123 (by decide)
theorem dd_Ds_beat_126 : decode (px_rw k_Ds_beat).2.1 126 = .ok (.iconst 1, 1) := (by decide +kernel : decode prog_1_method_19_code 126 = .ok (.iconst 1, 1))
theorem e_Ds_beat_126 (L st : List Value) (g : px_G) : rn k_Ds_beat 126 L st g = rn k_Ds_beat 127 L (.int 1 :: st) g := rn_ipush (i := .iconst 1) dd_Ds_beat_126 rfl rfl (by decide)
theorem dd_Ds_beat_127 : decode (px_rw k_Ds_beat).2.1 127 = .ok (.goto 4, 3) := (by decide +kernel : decode prog_1_method_19_code 127 = .ok (.goto 4, 3))
theorem e_Ds_beat_127 (L st : List Value) (g : px_G) : rn k_Ds_beat 127 L st g = rn k_Ds_beat 131 L st g := rn_goto dd_Ds_beat_127 (by decide)
theorem dd_Ds_beat_130 : decode (px_rw k_Ds_beat).2.1 130 = .ok (.iconst 0, 1) := (by decide +kernel : decode prog_1_method_19_code 130 = .ok (.iconst 0, 1))
theorem e_Ds_beat_130 (L st : List Value) (g : px_G) : rn k_Ds_beat 130 L st g = rn k_Ds_beat 131 L (.int 0 :: st) g := rn_ipush (i := .iconst 0) dd_Ds_beat_130 rfl rfl (by decide)
theorem dd_Ds_beat_131 : decode (px_rw k_Ds_beat).2.1 131 = .ok (.ireturn, 1) := (by decide +kernel : decode prog_1_method_19_code 131 = .ok (.ireturn, 1))
theorem e_Ds_beat_131 (L : List Value) (v : Int32) (g : px_G) : rn k_Ds_beat 131 L [.int v] g = some (some (.int v), g) := rn_iret dd_Ds_beat_131 rfl
theorem dd_Ds_beat_132 : decode (px_rw k_Ds_beat).2.1 132 = .ok (.ldc 164, 2) := (by decide +kernel : decode prog_1_method_19_code 132 = .ok (.ldc 164, 2))
theorem e_Ds_beat_132 (L st : List Value) (g : px_G) : rn k_Ds_beat 132 L st g = rn k_Ds_beat 134 L (.int (-1000000) :: st) g := rn_ldc (i := .ldc 164) (w := .int (Int32.ofInt (-1000000))) dd_Ds_beat_132 rfl rfl rfl rfl rfl (by decide)
theorem dd_Ds_beat_134 : decode (px_rw k_Ds_beat).2.1 134 = .ok (.ireturn, 1) := (by decide +kernel : decode prog_1_method_19_code 134 = .ok (.ireturn, 1))
theorem e_Ds_beat_134 (L : List Value) (v : Int32) (g : px_G) : rn k_Ds_beat 134 L [.int v] g = some (some (.int v), g) := rn_iret dd_Ds_beat_134 rfl
theorem c_Ds_far (r0 : Nat) (i1 : Int32) (i2 : Int32) (i3 : Int32) (g : px_G) : cl k_Ds_far [.ref r0, .int i1, .int i2, .int i3] g = rn k_Ds_far 0 [.ref r0, .int i1, .int i2, .int i3] [] g := rfl
theorem dd_Ds_far_0 : decode (px_rw k_Ds_far).2.1 0 = .ok (.aload_n 0, 1) := (by decide +kernel : decode prog_1_method_20_code 0 = .ok (.aload_n 0, 1))
theorem e_Ds_far_0 (a1 a2 a3 : Value) (x : Nat) (st : List Value) (g : px_G) : rn k_Ds_far 0 [.ref x, a1, a2, a3] st g = rn k_Ds_far 1 [.ref x, a1, a2, a3] (.ref x :: st) g := rn_next dd_Ds_far_0 rfl
theorem dd_Ds_far_1 : decode (px_rw k_Ds_far).2.1 1 = .ok (.iload_n 1, 1) := (by decide +kernel : decode prog_1_method_20_code 1 = .ok (.iload_n 1, 1))
theorem e_Ds_far_1 (a0 a2 a3 : Value) (x : Int32) (st : List Value) (g : px_G) : rn k_Ds_far 1 [a0, .int x, a2, a3] st g = rn k_Ds_far 2 [a0, .int x, a2, a3] (.int x :: st) g := rn_next dd_Ds_far_1 rfl
theorem dd_Ds_far_2 : decode (px_rw k_Ds_far).2.1 2 = .ok (.invokevirtual 129, 3) := (by decide +kernel : decode prog_1_method_20_code 2 = .ok (.invokevirtual 129, 3))
theorem e_Ds_far_2 (L : List Value) (i0 : Int32)  (T : TS)  : rn k_Ds_far 2 L [.int i0, .ref 0] (enc T) = bd (cl k_Ds_isInk [.ref 0, .int i0] (enc T)) (fun r g' => rn k_Ds_far 5 L (r.toList ++ []) g') := rn_callV (n := 13) (As := [.int i0]) (rest := []) dd_Ds_far_2 rfl (by decide) (by decide) rfl rfl (Nat.le_of_ble_eq_true rfl) (Nat.le_of_ble_eq_true rfl) rfl
theorem dd_Ds_far_5 : decode (px_rw k_Ds_far).2.1 5 = .ok (.ifCond .eq 16, 3) := (by decide +kernel : decode prog_1_method_20_code 5 = .ok (.ifCond .eq 16, 3))
theorem e_Ds_far_5 (L : List Value) (x : Int32) (st : List Value) (g : px_G) : rn k_Ds_far 5 L (.int x :: st) g = if x = 0 then rn k_Ds_far 21 L st g else rn k_Ds_far 8 L st g := rn_ifeq dd_Ds_far_5 (by decide)
theorem dd_Ds_far_8 : decode (px_rw k_Ds_far).2.1 8 = .ok (.aload_n 0, 1) := (by decide +kernel : decode prog_1_method_20_code 8 = .ok (.aload_n 0, 1))
theorem e_Ds_far_8 (a1 a2 a3 : Value) (x : Nat) (st : List Value) (g : px_G) : rn k_Ds_far 8 [.ref x, a1, a2, a3] st g = rn k_Ds_far 9 [.ref x, a1, a2, a3] (.ref x :: st) g := rn_next dd_Ds_far_8 rfl
theorem dd_Ds_far_9 : decode (px_rw k_Ds_far).2.1 9 = .ok (.iload_n 2, 1) := (by decide +kernel : decode prog_1_method_20_code 9 = .ok (.iload_n 2, 1))
theorem e_Ds_far_9 (a0 a1 a3 : Value) (x : Int32) (st : List Value) (g : px_G) : rn k_Ds_far 9 [a0, a1, .int x, a3] st g = rn k_Ds_far 10 [a0, a1, .int x, a3] (.int x :: st) g := rn_next dd_Ds_far_9 rfl
theorem dd_Ds_far_10 : decode (px_rw k_Ds_far).2.1 10 = .ok (.invokevirtual 129, 3) := (by decide +kernel : decode prog_1_method_20_code 10 = .ok (.invokevirtual 129, 3))
theorem e_Ds_far_10 (L : List Value) (i0 : Int32)  (T : TS)  : rn k_Ds_far 10 L [.int i0, .ref 0] (enc T) = bd (cl k_Ds_isInk [.ref 0, .int i0] (enc T)) (fun r g' => rn k_Ds_far 13 L (r.toList ++ []) g') := rn_callV (n := 13) (As := [.int i0]) (rest := []) dd_Ds_far_10 rfl (by decide) (by decide) rfl rfl (Nat.le_of_ble_eq_true rfl) (Nat.le_of_ble_eq_true rfl) rfl
theorem dd_Ds_far_13 : decode (px_rw k_Ds_far).2.1 13 = .ok (.ifCond .eq 8, 3) := (by decide +kernel : decode prog_1_method_20_code 13 = .ok (.ifCond .eq 8, 3))
theorem e_Ds_far_13 (L : List Value) (x : Int32) (st : List Value) (g : px_G) : rn k_Ds_far 13 L (.int x :: st) g = if x = 0 then rn k_Ds_far 21 L st g else rn k_Ds_far 16 L st g := rn_ifeq dd_Ds_far_13 (by decide)
theorem dd_Ds_far_16 : decode (px_rw k_Ds_far).2.1 16 = .ok (.iload_n 1, 1) := (by decide +kernel : decode prog_1_method_20_code 16 = .ok (.iload_n 1, 1))
theorem e_Ds_far_16 (a0 a2 a3 : Value) (x : Int32) (st : List Value) (g : px_G) : rn k_Ds_far 16 [a0, .int x, a2, a3] st g = rn k_Ds_far 17 [a0, .int x, a2, a3] (.int x :: st) g := rn_next dd_Ds_far_16 rfl
theorem dd_Ds_far_17 : decode (px_rw k_Ds_far).2.1 17 = .ok (.iload_n 2, 1) := (by decide +kernel : decode prog_1_method_20_code 17 = .ok (.iload_n 2, 1))
theorem e_Ds_far_17 (a0 a1 a3 : Value) (x : Int32) (st : List Value) (g : px_G) : rn k_Ds_far 17 [a0, a1, .int x, a3] st g = rn k_Ds_far 18 [a0, a1, .int x, a3] (.int x :: st) g := rn_next dd_Ds_far_17 rfl
theorem dd_Ds_far_18 : decode (px_rw k_Ds_far).2.1 18 = .ok (.if_icmp .ne 7, 3) := (by decide +kernel : decode prog_1_method_20_code 18 = .ok (.if_icmp .ne 7, 3))
theorem e_Ds_far_18 (L : List Value) (x y : Int32) (st : List Value) (g : px_G) : rn k_Ds_far 18 L (.int y :: .int x :: st) g = if x = y then rn k_Ds_far 21 L st g else rn k_Ds_far 25 L st g := rn_icne dd_Ds_far_18 (by decide)
theorem dd_Ds_far_21 : decode (px_rw k_Ds_far).2.1 21 = .ok (.ldc2_w 274, 3) := (by decide +kernel : decode prog_1_method_20_code 21 = .ok (.ldc2_w 274, 3))
theorem e_Ds_far_21 (L st : List Value) (g : px_G) : rn k_Ds_far 21 L st g = rn k_Ds_far 24 L (.long (-1000000) :: st) g := rn_ldc (i := .ldc2_w 274) (w := .long (Int64.ofInt (-1000000))) dd_Ds_far_21 rfl rfl rfl rfl rfl (by decide)
theorem dd_Ds_far_24 : decode (px_rw k_Ds_far).2.1 24 = .ok (.lreturn, 1) := (by decide +kernel : decode prog_1_method_20_code 24 = .ok (.lreturn, 1))
theorem e_Ds_far_24 (L : List Value) (v : Int64) (g : px_G) : rn k_Ds_far 24 L [.long v] g = some (some (.long v), g) := rn_lret dd_Ds_far_24 rfl
theorem dd_Ds_far_25 : decode (px_rw k_Ds_far).2.1 25 = .ok (.aload_n 0, 1) := (by decide +kernel : decode prog_1_method_20_code 25 = .ok (.aload_n 0, 1))
theorem e_Ds_far_25 (a1 a2 a3 : Value) (x : Nat) (st : List Value) (g : px_G) : rn k_Ds_far 25 [.ref x, a1, a2, a3] st g = rn k_Ds_far 26 [.ref x, a1, a2, a3] (.ref x :: st) g := rn_next dd_Ds_far_25 rfl
theorem dd_Ds_far_26 : decode (px_rw k_Ds_far).2.1 26 = .ok (.getfield 59, 3) := (by decide +kernel : decode prog_1_method_20_code 26 = .ok (.getfield 59, 3))
theorem e_Ds_far_26 (L st : List Value) (T : TS) : rn k_Ds_far 26 L (.ref 0 :: st) (enc T) = rn k_Ds_far 29 L (.ref 14 :: st) (enc T) := rn_getO (n := 13) dd_Ds_far_26 rfl (by decide) (by decide) (by decide) rfl rfl
theorem dd_Ds_far_29 : decode (px_rw k_Ds_far).2.1 29 = .ok (.aload_n 0, 1) := (by decide +kernel : decode prog_1_method_20_code 29 = .ok (.aload_n 0, 1))
theorem e_Ds_far_29 (a1 a2 a3 : Value) (x : Nat) (st : List Value) (g : px_G) : rn k_Ds_far 29 [.ref x, a1, a2, a3] st g = rn k_Ds_far 30 [.ref x, a1, a2, a3] (.ref x :: st) g := rn_next dd_Ds_far_29 rfl
theorem dd_Ds_far_30 : decode (px_rw k_Ds_far).2.1 30 = .ok (.getfield 27, 3) := (by decide +kernel : decode prog_1_method_20_code 30 = .ok (.getfield 27, 3))
theorem e_Ds_far_30 (L st : List Value) (T : TS) : rn k_Ds_far 30 L (.ref 0 :: st) (enc T) = rn k_Ds_far 33 L (.ref 5 :: st) (enc T) := rn_getA (n := 13) dd_Ds_far_30 rfl (by decide) (by decide) (by decide) rfl rfl
theorem dd_Ds_far_33 : decode (px_rw k_Ds_far).2.1 33 = .ok (.iload_n 1, 1) := (by decide +kernel : decode prog_1_method_20_code 33 = .ok (.iload_n 1, 1))
theorem e_Ds_far_33 (a0 a2 a3 : Value) (x : Int32) (st : List Value) (g : px_G) : rn k_Ds_far 33 [a0, .int x, a2, a3] st g = rn k_Ds_far 34 [a0, .int x, a2, a3] (.int x :: st) g := rn_next dd_Ds_far_33 rfl
theorem dd_Ds_far_34 : decode (px_rw k_Ds_far).2.1 34 = .ok (.aaload, 1) := (by decide +kernel : decode prog_1_method_20_code 34 = .ok (.aaload, 1))
theorem e_Ds_far_34 (L : List Value) (i : Int32) (p : Nat) (st : List Value) (T : TS) (hp : (sh p).1 = 3) : rn k_Ds_far 34 L (.int i :: .ref p :: st) (enc T) = if px_in i (sh p).2 then rn k_Ds_far 35 L (.ref (T.2.2.1 i.toNatClampNeg) :: st) (enc T) else none := rn_aald dd_Ds_far_34 (Prod.ext hp rfl)
theorem dd_Ds_far_35 : decode (px_rw k_Ds_far).2.1 35 = .ok (.getfield 139, 3) := (by decide +kernel : decode prog_1_method_20_code 35 = .ok (.getfield 139, 3))
theorem e_Ds_far_35 (L : List Value) (p : Nat) (st : List Value) (T : TS) (hp : sh p = (104, 18)) : rn k_Ds_far 35 L (.ref p :: st) (enc T) = rn k_Ds_far 38 L (.ref (p + 1) :: st) (enc T) := (rn_getO (n := 18) dd_Ds_far_35 rfl (by decide) (by decide) (by decide) rfl hp).trans (by rw [ink_rf_0 hp])
theorem dd_Ds_far_38 : decode (px_rw k_Ds_far).2.1 38 = .ok (.aload_n 0, 1) := (by decide +kernel : decode prog_1_method_20_code 38 = .ok (.aload_n 0, 1))
theorem e_Ds_far_38 (a1 a2 a3 : Value) (x : Nat) (st : List Value) (g : px_G) : rn k_Ds_far 38 [.ref x, a1, a2, a3] st g = rn k_Ds_far 39 [.ref x, a1, a2, a3] (.ref x :: st) g := rn_next dd_Ds_far_38 rfl
theorem dd_Ds_far_39 : decode (px_rw k_Ds_far).2.1 39 = .ok (.getfield 27, 3) := (by decide +kernel : decode prog_1_method_20_code 39 = .ok (.getfield 27, 3))
theorem e_Ds_far_39 (L st : List Value) (T : TS) : rn k_Ds_far 39 L (.ref 0 :: st) (enc T) = rn k_Ds_far 42 L (.ref 5 :: st) (enc T) := rn_getA (n := 13) dd_Ds_far_39 rfl (by decide) (by decide) (by decide) rfl rfl
theorem dd_Ds_far_42 : decode (px_rw k_Ds_far).2.1 42 = .ok (.iload_n 2, 1) := (by decide +kernel : decode prog_1_method_20_code 42 = .ok (.iload_n 2, 1))
theorem e_Ds_far_42 (a0 a1 a3 : Value) (x : Int32) (st : List Value) (g : px_G) : rn k_Ds_far 42 [a0, a1, .int x, a3] st g = rn k_Ds_far 43 [a0, a1, .int x, a3] (.int x :: st) g := rn_next dd_Ds_far_42 rfl
theorem dd_Ds_far_43 : decode (px_rw k_Ds_far).2.1 43 = .ok (.aaload, 1) := (by decide +kernel : decode prog_1_method_20_code 43 = .ok (.aaload, 1))
theorem e_Ds_far_43 (L : List Value) (i : Int32) (p : Nat) (st : List Value) (T : TS) (hp : (sh p).1 = 3) : rn k_Ds_far 43 L (.int i :: .ref p :: st) (enc T) = if px_in i (sh p).2 then rn k_Ds_far 44 L (.ref (T.2.2.1 i.toNatClampNeg) :: st) (enc T) else none := rn_aald dd_Ds_far_43 (Prod.ext hp rfl)
theorem dd_Ds_far_44 : decode (px_rw k_Ds_far).2.1 44 = .ok (.getfield 139, 3) := (by decide +kernel : decode prog_1_method_20_code 44 = .ok (.getfield 139, 3))
theorem e_Ds_far_44 (L : List Value) (p : Nat) (st : List Value) (T : TS) (hp : sh p = (104, 18)) : rn k_Ds_far 44 L (.ref p :: st) (enc T) = rn k_Ds_far 47 L (.ref (p + 1) :: st) (enc T) := (rn_getO (n := 18) dd_Ds_far_44 rfl (by decide) (by decide) (by decide) rfl hp).trans (by rw [ink_rf_0 hp])
theorem dd_Ds_far_47 : decode (px_rw k_Ds_far).2.1 47 = .ok (.invokevirtual 254, 3) := (by decide +kernel : decode prog_1_method_20_code 47 = .ok (.invokevirtual 254, 3))
theorem e_Ds_far_47 (L : List Value) (r0 : Nat) (r1 : Nat) (p : Nat) (T : TS) (hp : sh p = (100, 7)) : rn k_Ds_far 47 L [.ref r1, .ref r0, .ref p] (enc T) = bd (cl k_Beat_compare [.ref p, .ref r0, .ref r1] (enc T)) (fun r g' => rn k_Ds_far 50 L (r.toList ++ []) g') := rn_callV (n := 7) (As := [.ref r0, .ref r1]) (rest := []) dd_Ds_far_47 rfl (by decide) (by decide) rfl rfl (Nat.le_of_ble_eq_true rfl) (Nat.le_of_ble_eq_true rfl) hp
theorem dd_Ds_far_50 : decode (px_rw k_Ds_far).2.1 50 = .ok (.iload_n 3, 1) := (by decide +kernel : decode prog_1_method_20_code 50 = .ok (.iload_n 3, 1))
theorem e_Ds_far_50 (a0 a1 a2 : Value) (x : Int32) (st : List Value) (g : px_G) : rn k_Ds_far 50 [a0, a1, a2, .int x] st g = rn k_Ds_far 51 [a0, a1, a2, .int x] (.int x :: st) g := rn_next dd_Ds_far_50 rfl
theorem dd_Ds_far_51 : decode (px_rw k_Ds_far).2.1 51 = .ok (.tableswitch 62 0 2 #[25, 33, 41], 25) := (by decide +kernel : decode prog_1_method_20_code 51 = .ok (.tableswitch 62 0 2 #[25, 33, 41], 25))
theorem e_Ds_far_51 (L : List Value) (x : Int32) (st : List Value) (g : px_G) : rn k_Ds_far 51 L (.int x :: st) g = if x = 0 then rn k_Ds_far 76 L st g else if x = 1 then rn k_Ds_far 84 L st g else if x = 2 then rn k_Ds_far 92 L st g else rn k_Ds_far 113 L st g := by
  by_cases h0 : x = 0
  · rw [if_pos h0]; subst h0; exact rn_sw dd_Ds_far_51 rfl (by decide)
  rw [if_neg h0]
  by_cases h1 : x = 1
  · rw [if_pos h1]; subst h1; exact rn_sw dd_Ds_far_51 rfl (by decide)
  rw [if_neg h1]
  by_cases h2 : x = 2
  · rw [if_pos h2]; subst h2; exact rn_sw dd_Ds_far_51 rfl (by decide)
  rw [if_neg h2]
  refine rn_sw dd_Ds_far_51 (off := 62) (st' := st) ?_ (by decide)
  have n0 := lv_neT h0 (show (0 : Int32).toInt = 0 by decide)
  have n1 := lv_neT h1 (show (1 : Int32).toInt = 1 by decide)
  have n2 := lv_neT h2 (show (2 : Int32).toInt = 2 by decide)
  have hq : x.toInt < 0 ∨ 2 < x.toInt := by omega
  show (if x.toInt < 0 ∨ 2 < x.toInt then _ else _) = _
  rw [if_pos hq]
theorem dd_Ds_far_76 : decode (px_rw k_Ds_far).2.1 76 = .ok (.aload_n 0, 1) := (by decide +kernel : decode prog_1_method_20_code 76 = .ok (.aload_n 0, 1))
theorem e_Ds_far_76 (a1 a2 a3 : Value) (x : Nat) (st : List Value) (g : px_G) : rn k_Ds_far 76 [.ref x, a1, a2, a3] st g = rn k_Ds_far 77 [.ref x, a1, a2, a3] (.ref x :: st) g := rn_next dd_Ds_far_76 rfl
theorem dd_Ds_far_77 : decode (px_rw k_Ds_far).2.1 77 = .ok (.getfield 59, 3) := (by decide +kernel : decode prog_1_method_20_code 77 = .ok (.getfield 59, 3))
theorem e_Ds_far_77 (L st : List Value) (T : TS) : rn k_Ds_far 77 L (.ref 0 :: st) (enc T) = rn k_Ds_far 80 L (.ref 14 :: st) (enc T) := rn_getO (n := 13) dd_Ds_far_77 rfl (by decide) (by decide) (by decide) rfl rfl
theorem dd_Ds_far_80 : decode (px_rw k_Ds_far).2.1 80 = .ok (.getfield 276, 3) := (by decide +kernel : decode prog_1_method_20_code 80 = .ok (.getfield 276, 3))
theorem e_Ds_far_80 (L : List Value) (p : Nat) (st : List Value) (T : TS) (hp : sh p = (100, 7)) : rn k_Ds_far 80 L (.ref p :: st) (enc T) = rn k_Ds_far 83 L (.long (T.2.1 p 5) :: st) (enc T) := rn_getJ (n := 7) dd_Ds_far_80 rfl (by decide) (by decide) (by decide) rfl hp
theorem dd_Ds_far_83 : decode (px_rw k_Ds_far).2.1 83 = .ok (.lreturn, 1) := (by decide +kernel : decode prog_1_method_20_code 83 = .ok (.lreturn, 1))
theorem e_Ds_far_83 (L : List Value) (v : Int64) (g : px_G) : rn k_Ds_far 83 L [.long v] g = some (some (.long v), g) := rn_lret dd_Ds_far_83 rfl
theorem dd_Ds_far_84 : decode (px_rw k_Ds_far).2.1 84 = .ok (.aload_n 0, 1) := (by decide +kernel : decode prog_1_method_20_code 84 = .ok (.aload_n 0, 1))
theorem e_Ds_far_84 (a1 a2 a3 : Value) (x : Nat) (st : List Value) (g : px_G) : rn k_Ds_far 84 [.ref x, a1, a2, a3] st g = rn k_Ds_far 85 [.ref x, a1, a2, a3] (.ref x :: st) g := rn_next dd_Ds_far_84 rfl
theorem dd_Ds_far_85 : decode (px_rw k_Ds_far).2.1 85 = .ok (.getfield 59, 3) := (by decide +kernel : decode prog_1_method_20_code 85 = .ok (.getfield 59, 3))
theorem e_Ds_far_85 (L st : List Value) (T : TS) : rn k_Ds_far 85 L (.ref 0 :: st) (enc T) = rn k_Ds_far 88 L (.ref 14 :: st) (enc T) := rn_getO (n := 13) dd_Ds_far_85 rfl (by decide) (by decide) (by decide) rfl rfl
theorem dd_Ds_far_88 : decode (px_rw k_Ds_far).2.1 88 = .ok (.getfield 279, 3) := (by decide +kernel : decode prog_1_method_20_code 88 = .ok (.getfield 279, 3))
theorem e_Ds_far_88 (L : List Value) (p : Nat) (st : List Value) (T : TS) (hp : sh p = (100, 7)) : rn k_Ds_far 88 L (.ref p :: st) (enc T) = rn k_Ds_far 91 L (.long (T.2.1 p 6) :: st) (enc T) := rn_getJ (n := 7) dd_Ds_far_88 rfl (by decide) (by decide) (by decide) rfl hp
theorem dd_Ds_far_91 : decode (px_rw k_Ds_far).2.1 91 = .ok (.lreturn, 1) := (by decide +kernel : decode prog_1_method_20_code 91 = .ok (.lreturn, 1))
theorem e_Ds_far_91 (L : List Value) (v : Int64) (g : px_G) : rn k_Ds_far 91 L [.long v] g = some (some (.long v), g) := rn_lret dd_Ds_far_91 rfl
theorem dd_Ds_far_92 : decode (px_rw k_Ds_far).2.1 92 = .ok (.aload_n 0, 1) := (by decide +kernel : decode prog_1_method_20_code 92 = .ok (.aload_n 0, 1))
theorem e_Ds_far_92 (a1 a2 a3 : Value) (x : Nat) (st : List Value) (g : px_G) : rn k_Ds_far 92 [.ref x, a1, a2, a3] st g = rn k_Ds_far 93 [.ref x, a1, a2, a3] (.ref x :: st) g := rn_next dd_Ds_far_92 rfl
theorem dd_Ds_far_93 : decode (px_rw k_Ds_far).2.1 93 = .ok (.getfield 59, 3) := (by decide +kernel : decode prog_1_method_20_code 93 = .ok (.getfield 59, 3))
theorem e_Ds_far_93 (L st : List Value) (T : TS) : rn k_Ds_far 93 L (.ref 0 :: st) (enc T) = rn k_Ds_far 96 L (.ref 14 :: st) (enc T) := rn_getO (n := 13) dd_Ds_far_93 rfl (by decide) (by decide) (by decide) rfl rfl
theorem dd_Ds_far_96 : decode (px_rw k_Ds_far).2.1 96 = .ok (.getfield 276, 3) := (by decide +kernel : decode prog_1_method_20_code 96 = .ok (.getfield 276, 3))
theorem e_Ds_far_96 (L : List Value) (p : Nat) (st : List Value) (T : TS) (hp : sh p = (100, 7)) : rn k_Ds_far 96 L (.ref p :: st) (enc T) = rn k_Ds_far 99 L (.long (T.2.1 p 5) :: st) (enc T) := rn_getJ (n := 7) dd_Ds_far_96 rfl (by decide) (by decide) (by decide) rfl hp
theorem dd_Ds_far_99 : decode (px_rw k_Ds_far).2.1 99 = .ok (.aload_n 0, 1) := (by decide +kernel : decode prog_1_method_20_code 99 = .ok (.aload_n 0, 1))
theorem e_Ds_far_99 (a1 a2 a3 : Value) (x : Nat) (st : List Value) (g : px_G) : rn k_Ds_far 99 [.ref x, a1, a2, a3] st g = rn k_Ds_far 100 [.ref x, a1, a2, a3] (.ref x :: st) g := rn_next dd_Ds_far_99 rfl
theorem dd_Ds_far_100 : decode (px_rw k_Ds_far).2.1 100 = .ok (.getfield 59, 3) := (by decide +kernel : decode prog_1_method_20_code 100 = .ok (.getfield 59, 3))
theorem e_Ds_far_100 (L st : List Value) (T : TS) : rn k_Ds_far 100 L (.ref 0 :: st) (enc T) = rn k_Ds_far 103 L (.ref 14 :: st) (enc T) := rn_getO (n := 13) dd_Ds_far_100 rfl (by decide) (by decide) (by decide) rfl rfl
theorem dd_Ds_far_103 : decode (px_rw k_Ds_far).2.1 103 = .ok (.getfield 279, 3) := (by decide +kernel : decode prog_1_method_20_code 103 = .ok (.getfield 279, 3))
theorem e_Ds_far_103 (L : List Value) (p : Nat) (st : List Value) (T : TS) (hp : sh p = (100, 7)) : rn k_Ds_far 103 L (.ref p :: st) (enc T) = rn k_Ds_far 106 L (.long (T.2.1 p 6) :: st) (enc T) := rn_getJ (n := 7) dd_Ds_far_103 rfl (by decide) (by decide) (by decide) rfl hp
theorem dd_Ds_far_106 : decode (px_rw k_Ds_far).2.1 106 = .ok (.invokestatic 282, 3) := (by decide +kernel : decode prog_1_method_20_code 106 = .ok (.invokestatic 282, 3))
theorem e_Ds_far_106 (L : List Value) (j0 : Int64) (j1 : Int64) (g : px_G) : rn k_Ds_far 106 L [.long j1, .long j0] g = bd (cl k_Ds_div [.long j0, .long j1] g) (fun r g' => rn k_Ds_far 109 L (r.toList ++ []) g') := rn_callS (As := [.long j0, .long j1]) (rest := []) dd_Ds_far_106 rfl (by decide) rfl rfl (Nat.le_of_ble_eq_true rfl) (Nat.le_of_ble_eq_true rfl)
theorem dd_Ds_far_109 : decode (px_rw k_Ds_far).2.1 109 = .ok (.invokestatic 286, 3) := (by decide +kernel : decode prog_1_method_20_code 109 = .ok (.invokestatic 286, 3))
theorem e_Ds_far_109 (L : List Value) (j0 : Int64) (g : px_G) : rn k_Ds_far 109 L [.long j0] g = bd (cl k_Ds_rootOf [.long j0] g) (fun r g' => rn k_Ds_far 112 L (r.toList ++ []) g') := rn_callS (As := [.long j0]) (rest := []) dd_Ds_far_109 rfl (by decide) rfl rfl (Nat.le_of_ble_eq_true rfl) (Nat.le_of_ble_eq_true rfl)
theorem dd_Ds_far_112 : decode (px_rw k_Ds_far).2.1 112 = .ok (.lreturn, 1) := (by decide +kernel : decode prog_1_method_20_code 112 = .ok (.lreturn, 1))
theorem e_Ds_far_112 (L : List Value) (v : Int64) (g : px_G) : rn k_Ds_far 112 L [.long v] g = some (some (.long v), g) := rn_lret dd_Ds_far_112 rfl
theorem dd_Ds_far_113 : decode (px_rw k_Ds_far).2.1 113 = .ok (.ldc2_w 274, 3) := (by decide +kernel : decode prog_1_method_20_code 113 = .ok (.ldc2_w 274, 3))
theorem e_Ds_far_113 (L st : List Value) (g : px_G) : rn k_Ds_far 113 L st g = rn k_Ds_far 116 L (.long (-1000000) :: st) g := rn_ldc (i := .ldc2_w 274) (w := .long (Int64.ofInt (-1000000))) dd_Ds_far_113 rfl rfl rfl rfl rfl (by decide)
theorem dd_Ds_far_116 : decode (px_rw k_Ds_far).2.1 116 = .ok (.lreturn, 1) := (by decide +kernel : decode prog_1_method_20_code 116 = .ok (.lreturn, 1))
theorem e_Ds_far_116 (L : List Value) (v : Int64) (g : px_G) : rn k_Ds_far 116 L [.long v] g = some (some (.long v), g) := rn_lret dd_Ds_far_116 rfl
theorem c_Ds_rootOf (j0 : Int64) (g : px_G) : cl k_Ds_rootOf [.long j0] g = rn k_Ds_rootOf 0 [.long j0, .null, .null, .null, .null, .null] [] g := rfl
theorem dd_Ds_rootOf_0 : decode (px_rw k_Ds_rootOf).2.1 0 = .ok (.lconst 0, 1) := (by decide +kernel : decode prog_1_method_63_code 0 = .ok (.lconst 0, 1))
theorem e_Ds_rootOf_0 (L st : List Value) (g : px_G) : rn k_Ds_rootOf 0 L st g = rn k_Ds_rootOf 1 L (.long 0 :: st) g := rn_next dd_Ds_rootOf_0 rfl
theorem dd_Ds_rootOf_1 : decode (px_rw k_Ds_rootOf).2.1 1 = .ok (.lstore_n 2, 1) := (by decide +kernel : decode prog_1_method_63_code 1 = .ok (.lstore_n 2, 1))
theorem e_Ds_rootOf_1 (a0 a1 a2 a3 a4 a5 : Value) (x : Int64) (st : List Value) (g : px_G) : rn k_Ds_rootOf 1 [a0, a1, a2, a3, a4, a5] (.long x :: st) g = rn k_Ds_rootOf 2 [a0, px_kill a1, .long x, .null, a4, a5] st g := rn_next dd_Ds_rootOf_1 rfl
theorem dd_Ds_rootOf_2 : decode (px_rw k_Ds_rootOf).2.1 2 = .ok (.ldc2_w 381, 3) := (by decide +kernel : decode prog_1_method_63_code 2 = .ok (.ldc2_w 381, 3))
theorem e_Ds_rootOf_2 (L st : List Value) (g : px_G) : rn k_Ds_rootOf 2 L st g = rn k_Ds_rootOf 5 L (.long 1073741824 :: st) g := rn_ldc (i := .ldc2_w 381) (w := .long (Int64.ofInt 1073741824)) dd_Ds_rootOf_2 rfl rfl rfl rfl rfl (by decide)
theorem dd_Ds_rootOf_5 : decode (px_rw k_Ds_rootOf).2.1 5 = .ok (.lstore 4, 2) := (by decide +kernel : decode prog_1_method_63_code 5 = .ok (.lstore 4, 2))
theorem e_Ds_rootOf_5 (a0 a1 a2 a3 a4 a5 : Value) (x : Int64) (st : List Value) (g : px_G) : rn k_Ds_rootOf 5 [a0, a1, a2, a3, a4, a5] (.long x :: st) g = rn k_Ds_rootOf 7 [a0, a1, a2, px_kill a3, .long x, .null] st g := rn_next dd_Ds_rootOf_5 rfl
theorem dd_Ds_rootOf_7 : decode (px_rw k_Ds_rootOf).2.1 7 = .ok (.lload 4, 2) := (by decide +kernel : decode prog_1_method_63_code 7 = .ok (.lload 4, 2))
theorem e_Ds_rootOf_7 (a0 a1 a2 a3 a5 : Value) (x : Int64) (st : List Value) (g : px_G) : rn k_Ds_rootOf 7 [a0, a1, a2, a3, .long x, a5] st g = rn k_Ds_rootOf 9 [a0, a1, a2, a3, .long x, a5] (.long x :: st) g := rn_next dd_Ds_rootOf_7 rfl
theorem dd_Ds_rootOf_9 : decode (px_rw k_Ds_rootOf).2.1 9 = .ok (.lconst 0, 1) := (by decide +kernel : decode prog_1_method_63_code 9 = .ok (.lconst 0, 1))
theorem e_Ds_rootOf_9 (L st : List Value) (g : px_G) : rn k_Ds_rootOf 9 L st g = rn k_Ds_rootOf 10 L (.long 0 :: st) g := rn_next dd_Ds_rootOf_9 rfl
theorem dd_Ds_rootOf_10 : decode (px_rw k_Ds_rootOf).2.1 10 = .ok (.lcmp, 1) := (by decide +kernel : decode prog_1_method_63_code 10 = .ok (.lcmp, 1))
theorem e_Ds_rootOf_10 (L : List Value) (x y : Int64) (st : List Value) (g : px_G) : rn k_Ds_rootOf 10 L (.long y :: .long x :: st) g = rn k_Ds_rootOf 11 L (.int (lg_cmp x y) :: st) g := rn_next dd_Ds_rootOf_10 rfl
theorem dd_Ds_rootOf_11 : decode (px_rw k_Ds_rootOf).2.1 11 = .ok (.ifCond .le 31, 3) := (by decide +kernel : decode prog_1_method_63_code 11 = .ok (.ifCond .le 31, 3))
theorem e_Ds_rootOf_11 (L : List Value) (x : Int32) (st : List Value) (g : px_G) : rn k_Ds_rootOf 11 L (.int x :: st) g = if x ≤ 0 then rn k_Ds_rootOf 42 L st g else rn k_Ds_rootOf 14 L st g := rn_ifle dd_Ds_rootOf_11 (by decide)
theorem dd_Ds_rootOf_14 : decode (px_rw k_Ds_rootOf).2.1 14 = .ok (.lload_n 2, 1) := (by decide +kernel : decode prog_1_method_63_code 14 = .ok (.lload_n 2, 1))
theorem e_Ds_rootOf_14 (a0 a1 a3 a4 a5 : Value) (x : Int64) (st : List Value) (g : px_G) : rn k_Ds_rootOf 14 [a0, a1, .long x, a3, a4, a5] st g = rn k_Ds_rootOf 15 [a0, a1, .long x, a3, a4, a5] (.long x :: st) g := rn_next dd_Ds_rootOf_14 rfl
theorem dd_Ds_rootOf_15 : decode (px_rw k_Ds_rootOf).2.1 15 = .ok (.lload 4, 2) := (by decide +kernel : decode prog_1_method_63_code 15 = .ok (.lload 4, 2))
theorem e_Ds_rootOf_15 (a0 a1 a2 a3 a5 : Value) (x : Int64) (st : List Value) (g : px_G) : rn k_Ds_rootOf 15 [a0, a1, a2, a3, .long x, a5] st g = rn k_Ds_rootOf 17 [a0, a1, a2, a3, .long x, a5] (.long x :: st) g := rn_next dd_Ds_rootOf_15 rfl
theorem dd_Ds_rootOf_17 : decode (px_rw k_Ds_rootOf).2.1 17 = .ok (.ladd, 1) := (by decide +kernel : decode prog_1_method_63_code 17 = .ok (.ladd, 1))
theorem e_Ds_rootOf_17 (L : List Value) (x y : Int64) (st : List Value) (g : px_G) : rn k_Ds_rootOf 17 L (.long y :: .long x :: st) g = rn k_Ds_rootOf 18 L (.long (x + y) :: st) g := rn_next dd_Ds_rootOf_17 rfl
theorem dd_Ds_rootOf_18 : decode (px_rw k_Ds_rootOf).2.1 18 = .ok (.lload_n 2, 1) := (by decide +kernel : decode prog_1_method_63_code 18 = .ok (.lload_n 2, 1))
theorem e_Ds_rootOf_18 (a0 a1 a3 a4 a5 : Value) (x : Int64) (st : List Value) (g : px_G) : rn k_Ds_rootOf 18 [a0, a1, .long x, a3, a4, a5] st g = rn k_Ds_rootOf 19 [a0, a1, .long x, a3, a4, a5] (.long x :: st) g := rn_next dd_Ds_rootOf_18 rfl
theorem dd_Ds_rootOf_19 : decode (px_rw k_Ds_rootOf).2.1 19 = .ok (.lload 4, 2) := (by decide +kernel : decode prog_1_method_63_code 19 = .ok (.lload 4, 2))
theorem e_Ds_rootOf_19 (a0 a1 a2 a3 a5 : Value) (x : Int64) (st : List Value) (g : px_G) : rn k_Ds_rootOf 19 [a0, a1, a2, a3, .long x, a5] st g = rn k_Ds_rootOf 21 [a0, a1, a2, a3, .long x, a5] (.long x :: st) g := rn_next dd_Ds_rootOf_19 rfl
theorem dd_Ds_rootOf_21 : decode (px_rw k_Ds_rootOf).2.1 21 = .ok (.ladd, 1) := (by decide +kernel : decode prog_1_method_63_code 21 = .ok (.ladd, 1))
theorem e_Ds_rootOf_21 (L : List Value) (x y : Int64) (st : List Value) (g : px_G) : rn k_Ds_rootOf 21 L (.long y :: .long x :: st) g = rn k_Ds_rootOf 22 L (.long (x + y) :: st) g := rn_next dd_Ds_rootOf_21 rfl
theorem dd_Ds_rootOf_22 : decode (px_rw k_Ds_rootOf).2.1 22 = .ok (.lmul, 1) := (by decide +kernel : decode prog_1_method_63_code 22 = .ok (.lmul, 1))
theorem e_Ds_rootOf_22 (L : List Value) (x y : Int64) (st : List Value) (g : px_G) : rn k_Ds_rootOf 22 L (.long y :: .long x :: st) g = rn k_Ds_rootOf 23 L (.long (x * y) :: st) g := rn_next dd_Ds_rootOf_22 rfl
theorem dd_Ds_rootOf_23 : decode (px_rw k_Ds_rootOf).2.1 23 = .ok (.lload_n 0, 1) := (by decide +kernel : decode prog_1_method_63_code 23 = .ok (.lload_n 0, 1))
theorem e_Ds_rootOf_23 (a1 a2 a3 a4 a5 : Value) (x : Int64) (st : List Value) (g : px_G) : rn k_Ds_rootOf 23 [.long x, a1, a2, a3, a4, a5] st g = rn k_Ds_rootOf 24 [.long x, a1, a2, a3, a4, a5] (.long x :: st) g := rn_next dd_Ds_rootOf_23 rfl
theorem dd_Ds_rootOf_24 : decode (px_rw k_Ds_rootOf).2.1 24 = .ok (.lcmp, 1) := (by decide +kernel : decode prog_1_method_63_code 24 = .ok (.lcmp, 1))
theorem e_Ds_rootOf_24 (L : List Value) (x y : Int64) (st : List Value) (g : px_G) : rn k_Ds_rootOf 24 L (.long y :: .long x :: st) g = rn k_Ds_rootOf 25 L (.int (lg_cmp x y) :: st) g := rn_next dd_Ds_rootOf_24 rfl
theorem dd_Ds_rootOf_25 : decode (px_rw k_Ds_rootOf).2.1 25 = .ok (.ifCond .gt 8, 3) := (by decide +kernel : decode prog_1_method_63_code 25 = .ok (.ifCond .gt 8, 3))
theorem e_Ds_rootOf_25 (L : List Value) (x : Int32) (st : List Value) (g : px_G) : rn k_Ds_rootOf 25 L (.int x :: st) g = if 0 < x then rn k_Ds_rootOf 33 L st g else rn k_Ds_rootOf 28 L st g := rn_ifgt dd_Ds_rootOf_25 (by decide)
theorem dd_Ds_rootOf_28 : decode (px_rw k_Ds_rootOf).2.1 28 = .ok (.lload_n 2, 1) := (by decide +kernel : decode prog_1_method_63_code 28 = .ok (.lload_n 2, 1))
theorem e_Ds_rootOf_28 (a0 a1 a3 a4 a5 : Value) (x : Int64) (st : List Value) (g : px_G) : rn k_Ds_rootOf 28 [a0, a1, .long x, a3, a4, a5] st g = rn k_Ds_rootOf 29 [a0, a1, .long x, a3, a4, a5] (.long x :: st) g := rn_next dd_Ds_rootOf_28 rfl
theorem dd_Ds_rootOf_29 : decode (px_rw k_Ds_rootOf).2.1 29 = .ok (.lload 4, 2) := (by decide +kernel : decode prog_1_method_63_code 29 = .ok (.lload 4, 2))
theorem e_Ds_rootOf_29 (a0 a1 a2 a3 a5 : Value) (x : Int64) (st : List Value) (g : px_G) : rn k_Ds_rootOf 29 [a0, a1, a2, a3, .long x, a5] st g = rn k_Ds_rootOf 31 [a0, a1, a2, a3, .long x, a5] (.long x :: st) g := rn_next dd_Ds_rootOf_29 rfl
theorem dd_Ds_rootOf_31 : decode (px_rw k_Ds_rootOf).2.1 31 = .ok (.ladd, 1) := (by decide +kernel : decode prog_1_method_63_code 31 = .ok (.ladd, 1))
theorem e_Ds_rootOf_31 (L : List Value) (x y : Int64) (st : List Value) (g : px_G) : rn k_Ds_rootOf 31 L (.long y :: .long x :: st) g = rn k_Ds_rootOf 32 L (.long (x + y) :: st) g := rn_next dd_Ds_rootOf_31 rfl
theorem dd_Ds_rootOf_32 : decode (px_rw k_Ds_rootOf).2.1 32 = .ok (.lstore_n 2, 1) := (by decide +kernel : decode prog_1_method_63_code 32 = .ok (.lstore_n 2, 1))
theorem e_Ds_rootOf_32 (a0 a1 a2 a3 a4 a5 : Value) (x : Int64) (st : List Value) (g : px_G) : rn k_Ds_rootOf 32 [a0, a1, a2, a3, a4, a5] (.long x :: st) g = rn k_Ds_rootOf 33 [a0, px_kill a1, .long x, .null, a4, a5] st g := rn_next dd_Ds_rootOf_32 rfl
theorem dd_Ds_rootOf_33 : decode (px_rw k_Ds_rootOf).2.1 33 = .ok (.lload 4, 2) := (by decide +kernel : decode prog_1_method_63_code 33 = .ok (.lload 4, 2))
theorem e_Ds_rootOf_33 (a0 a1 a2 a3 a5 : Value) (x : Int64) (st : List Value) (g : px_G) : rn k_Ds_rootOf 33 [a0, a1, a2, a3, .long x, a5] st g = rn k_Ds_rootOf 35 [a0, a1, a2, a3, .long x, a5] (.long x :: st) g := rn_next dd_Ds_rootOf_33 rfl
theorem dd_Ds_rootOf_35 : decode (px_rw k_Ds_rootOf).2.1 35 = .ok (.iconst 1, 1) := (by decide +kernel : decode prog_1_method_63_code 35 = .ok (.iconst 1, 1))
theorem e_Ds_rootOf_35 (L st : List Value) (g : px_G) : rn k_Ds_rootOf 35 L st g = rn k_Ds_rootOf 36 L (.int 1 :: st) g := rn_ipush (i := .iconst 1) dd_Ds_rootOf_35 rfl rfl (by decide)
theorem dd_Ds_rootOf_36 : decode (px_rw k_Ds_rootOf).2.1 36 = .ok (.lshr, 1) := (by decide +kernel : decode prog_1_method_63_code 36 = .ok (.lshr, 1))
theorem e_Ds_rootOf_36 (L : List Value) (x : Int64) (y : Int32) (st : List Value) (g : px_G) : rn k_Ds_rootOf 36 L (.int y :: .long x :: st) g = rn k_Ds_rootOf 37 L (.long (x >>> (y.toInt64 &&& 63)) :: st) g := rn_next dd_Ds_rootOf_36 rfl
theorem dd_Ds_rootOf_37 : decode (px_rw k_Ds_rootOf).2.1 37 = .ok (.lstore 4, 2) := (by decide +kernel : decode prog_1_method_63_code 37 = .ok (.lstore 4, 2))
theorem e_Ds_rootOf_37 (a0 a1 a2 a3 a4 a5 : Value) (x : Int64) (st : List Value) (g : px_G) : rn k_Ds_rootOf 37 [a0, a1, a2, a3, a4, a5] (.long x :: st) g = rn k_Ds_rootOf 39 [a0, a1, a2, px_kill a3, .long x, .null] st g := rn_next dd_Ds_rootOf_37 rfl
theorem dd_Ds_rootOf_39 : decode (px_rw k_Ds_rootOf).2.1 39 = .ok (.goto (-32), 3) := (by decide +kernel : decode prog_1_method_63_code 39 = .ok (.goto (-32), 3))
theorem e_Ds_rootOf_39 (L st : List Value) (g : px_G) : rn k_Ds_rootOf 39 L st g = rn k_Ds_rootOf 7 L st g := rn_goto dd_Ds_rootOf_39 (by decide)
theorem dd_Ds_rootOf_42 : decode (px_rw k_Ds_rootOf).2.1 42 = .ok (.lload_n 2, 1) := (by decide +kernel : decode prog_1_method_63_code 42 = .ok (.lload_n 2, 1))
theorem e_Ds_rootOf_42 (a0 a1 a3 a4 a5 : Value) (x : Int64) (st : List Value) (g : px_G) : rn k_Ds_rootOf 42 [a0, a1, .long x, a3, a4, a5] st g = rn k_Ds_rootOf 43 [a0, a1, .long x, a3, a4, a5] (.long x :: st) g := rn_next dd_Ds_rootOf_42 rfl
theorem dd_Ds_rootOf_43 : decode (px_rw k_Ds_rootOf).2.1 43 = .ok (.lreturn, 1) := (by decide +kernel : decode prog_1_method_63_code 43 = .ok (.lreturn, 1))
theorem e_Ds_rootOf_43 (L : List Value) (v : Int64) (g : px_G) : rn k_Ds_rootOf 43 L [.long v] g = some (some (.long v), g) := rn_lret dd_Ds_rootOf_43 rfl
theorem c_Ds_common (r0 : Nat) (i1 : Int32) (i2 : Int32) (g : px_G) : cl k_Ds_common [.ref r0, .int i1, .int i2] g = rn k_Ds_common 0 [.ref r0, .int i1, .int i2] [] g := rfl
theorem dd_Ds_common_0 : decode (px_rw k_Ds_common).2.1 0 = .ok (.aload_n 0, 1) := (by decide +kernel : decode prog_1_method_21_code 0 = .ok (.aload_n 0, 1))
theorem e_Ds_common_0 (a1 a2 : Value) (x : Nat) (st : List Value) (g : px_G) : rn k_Ds_common 0 [.ref x, a1, a2] st g = rn k_Ds_common 1 [.ref x, a1, a2] (.ref x :: st) g := rn_next dd_Ds_common_0 rfl
theorem dd_Ds_common_1 : decode (px_rw k_Ds_common).2.1 1 = .ok (.iload_n 1, 1) := (by decide +kernel : decode prog_1_method_21_code 1 = .ok (.iload_n 1, 1))
theorem e_Ds_common_1 (a0 a2 : Value) (x : Int32) (st : List Value) (g : px_G) : rn k_Ds_common 1 [a0, .int x, a2] st g = rn k_Ds_common 2 [a0, .int x, a2] (.int x :: st) g := rn_next dd_Ds_common_1 rfl
theorem dd_Ds_common_2 : decode (px_rw k_Ds_common).2.1 2 = .ok (.invokevirtual 290, 3) := (by decide +kernel : decode prog_1_method_21_code 2 = .ok (.invokevirtual 290, 3))
theorem e_Ds_common_2 (L : List Value) (i0 : Int32)  (T : TS)  : rn k_Ds_common 2 L [.int i0, .ref 0] (enc T) = bd (cl k_Ds_isSet [.ref 0, .int i0] (enc T)) (fun r g' => rn k_Ds_common 5 L (r.toList ++ []) g') := rn_callV (n := 13) (As := [.int i0]) (rest := []) dd_Ds_common_2 rfl (by decide) (by decide) rfl rfl (Nat.le_of_ble_eq_true rfl) (Nat.le_of_ble_eq_true rfl) rfl
theorem dd_Ds_common_5 : decode (px_rw k_Ds_common).2.1 5 = .ok (.ifCond .eq 17, 3) := (by decide +kernel : decode prog_1_method_21_code 5 = .ok (.ifCond .eq 17, 3))
theorem e_Ds_common_5 (L : List Value) (x : Int32) (st : List Value) (g : px_G) : rn k_Ds_common 5 L (.int x :: st) g = if x = 0 then rn k_Ds_common 22 L st g else rn k_Ds_common 8 L st g := rn_ifeq dd_Ds_common_5 (by decide)
theorem dd_Ds_common_8 : decode (px_rw k_Ds_common).2.1 8 = .ok (.iload_n 1, 1) := (by decide +kernel : decode prog_1_method_21_code 8 = .ok (.iload_n 1, 1))
theorem e_Ds_common_8 (a0 a2 : Value) (x : Int32) (st : List Value) (g : px_G) : rn k_Ds_common 8 [a0, .int x, a2] st g = rn k_Ds_common 9 [a0, .int x, a2] (.int x :: st) g := rn_next dd_Ds_common_8 rfl
theorem dd_Ds_common_9 : decode (px_rw k_Ds_common).2.1 9 = .ok (.ifCond .eq 13, 3) := (by decide +kernel : decode prog_1_method_21_code 9 = .ok (.ifCond .eq 13, 3))
theorem e_Ds_common_9 (L : List Value) (x : Int32) (st : List Value) (g : px_G) : rn k_Ds_common 9 L (.int x :: st) g = if x = 0 then rn k_Ds_common 22 L st g else rn k_Ds_common 12 L st g := rn_ifeq dd_Ds_common_9 (by decide)
theorem dd_Ds_common_12 : decode (px_rw k_Ds_common).2.1 12 = .ok (.iload_n 2, 1) := (by decide +kernel : decode prog_1_method_21_code 12 = .ok (.iload_n 2, 1))
theorem e_Ds_common_12 (a0 a1 : Value) (x : Int32) (st : List Value) (g : px_G) : rn k_Ds_common 12 [a0, a1, .int x] st g = rn k_Ds_common 13 [a0, a1, .int x] (.int x :: st) g := rn_next dd_Ds_common_12 rfl
theorem dd_Ds_common_13 : decode (px_rw k_Ds_common).2.1 13 = .ok (.ifCond .lt 9, 3) := (by decide +kernel : decode prog_1_method_21_code 13 = .ok (.ifCond .lt 9, 3))
theorem e_Ds_common_13 (L : List Value) (x : Int32) (st : List Value) (g : px_G) : rn k_Ds_common 13 L (.int x :: st) g = if x < 0 then rn k_Ds_common 22 L st g else rn k_Ds_common 16 L st g := rn_iflt dd_Ds_common_13 (by decide)
theorem dd_Ds_common_16 : decode (px_rw k_Ds_common).2.1 16 = .ok (.iload_n 2, 1) := (by decide +kernel : decode prog_1_method_21_code 16 = .ok (.iload_n 2, 1))
theorem e_Ds_common_16 (a0 a1 : Value) (x : Int32) (st : List Value) (g : px_G) : rn k_Ds_common 16 [a0, a1, .int x] st g = rn k_Ds_common 17 [a0, a1, .int x] (.int x :: st) g := rn_next dd_Ds_common_16 rfl
theorem dd_Ds_common_17 : decode (px_rw k_Ds_common).2.1 17 = .ok (.bipush 8, 2) := (by decide +kernel : decode prog_1_method_21_code 17 = .ok (.bipush 8, 2))
theorem e_Ds_common_17 (L st : List Value) (g : px_G) : rn k_Ds_common 17 L st g = rn k_Ds_common 19 L (.int 8 :: st) g := rn_ipush (i := .bipush 8) dd_Ds_common_17 rfl rfl (by decide)
theorem dd_Ds_common_19 : decode (px_rw k_Ds_common).2.1 19 = .ok (.if_icmp .le 7, 3) := (by decide +kernel : decode prog_1_method_21_code 19 = .ok (.if_icmp .le 7, 3))
theorem e_Ds_common_19 (L : List Value) (x y : Int32) (st : List Value) (g : px_G) : rn k_Ds_common 19 L (.int y :: .int x :: st) g = if x ≤ y then rn k_Ds_common 26 L st g else rn k_Ds_common 22 L st g := rn_icle dd_Ds_common_19 (by decide)
theorem dd_Ds_common_22 : decode (px_rw k_Ds_common).2.1 22 = .ok (.ldc2_w 274, 3) := (by decide +kernel : decode prog_1_method_21_code 22 = .ok (.ldc2_w 274, 3))
theorem e_Ds_common_22 (L st : List Value) (g : px_G) : rn k_Ds_common 22 L st g = rn k_Ds_common 25 L (.long (-1000000) :: st) g := rn_ldc (i := .ldc2_w 274) (w := .long (Int64.ofInt (-1000000))) dd_Ds_common_22 rfl rfl rfl rfl rfl (by decide)
theorem dd_Ds_common_25 : decode (px_rw k_Ds_common).2.1 25 = .ok (.lreturn, 1) := (by decide +kernel : decode prog_1_method_21_code 25 = .ok (.lreturn, 1))
theorem e_Ds_common_25 (L : List Value) (v : Int64) (g : px_G) : rn k_Ds_common 25 L [.long v] g = some (some (.long v), g) := rn_lret dd_Ds_common_25 rfl
theorem dd_Ds_common_26 : decode (px_rw k_Ds_common).2.1 26 = .ok (.aload_n 0, 1) := (by decide +kernel : decode prog_1_method_21_code 26 = .ok (.aload_n 0, 1))
theorem e_Ds_common_26 (a1 a2 : Value) (x : Nat) (st : List Value) (g : px_G) : rn k_Ds_common 26 [.ref x, a1, a2] st g = rn k_Ds_common 27 [.ref x, a1, a2] (.ref x :: st) g := rn_next dd_Ds_common_26 rfl
theorem dd_Ds_common_27 : decode (px_rw k_Ds_common).2.1 27 = .ok (.iload_n 1, 1) := (by decide +kernel : decode prog_1_method_21_code 27 = .ok (.iload_n 1, 1))
theorem e_Ds_common_27 (a0 a2 : Value) (x : Int32) (st : List Value) (g : px_G) : rn k_Ds_common 27 [a0, .int x, a2] st g = rn k_Ds_common 28 [a0, .int x, a2] (.int x :: st) g := rn_next dd_Ds_common_27 rfl
theorem dd_Ds_common_28 : decode (px_rw k_Ds_common).2.1 28 = .ok (.invokevirtual 293, 3) := (by decide +kernel : decode prog_1_method_21_code 28 = .ok (.invokevirtual 293, 3))
theorem e_Ds_common_28 (L : List Value) (i0 : Int32)  (T : TS)  : rn k_Ds_common 28 L [.int i0, .ref 0] (enc T) = bd (cl k_Ds_meet [.ref 0, .int i0] (enc T)) (fun r g' => rn k_Ds_common 31 L (r.toList ++ []) g') := rn_callV (n := 13) (As := [.int i0]) (rest := []) dd_Ds_common_28 rfl (by decide) (by decide) rfl rfl (Nat.le_of_ble_eq_true rfl) (Nat.le_of_ble_eq_true rfl) rfl
theorem dd_Ds_common_31 : decode (px_rw k_Ds_common).2.1 31 = .ok (.iload_n 2, 1) := (by decide +kernel : decode prog_1_method_21_code 31 = .ok (.iload_n 2, 1))
theorem e_Ds_common_31 (a0 a1 : Value) (x : Int32) (st : List Value) (g : px_G) : rn k_Ds_common 31 [a0, a1, .int x] st g = rn k_Ds_common 32 [a0, a1, .int x] (.int x :: st) g := rn_next dd_Ds_common_31 rfl
theorem dd_Ds_common_32 : decode (px_rw k_Ds_common).2.1 32 = .ok (.tableswitch 100 0 8 #[52, 68, 76, 84, 100, 100, 100, 100, 92], 52) := (by decide +kernel : decode prog_1_method_21_code 32 = .ok (.tableswitch 100 0 8 #[52, 68, 76, 84, 100, 100, 100, 100, 92], 52))
theorem e_Ds_common_32 (L : List Value) (x : Int32) (st : List Value) (g : px_G) : rn k_Ds_common 32 L (.int x :: st) g = if x = 0 then rn k_Ds_common 84 L st g else if x = 1 then rn k_Ds_common 100 L st g else if x = 2 then rn k_Ds_common 108 L st g else if x = 3 then rn k_Ds_common 116 L st g else if x = 4 then rn k_Ds_common 132 L st g else if x = 5 then rn k_Ds_common 132 L st g else if x = 6 then rn k_Ds_common 132 L st g else if x = 7 then rn k_Ds_common 132 L st g else if x = 8 then rn k_Ds_common 124 L st g else rn k_Ds_common 132 L st g := by
  by_cases h0 : x = 0
  · rw [if_pos h0]; subst h0; exact rn_sw dd_Ds_common_32 rfl (by decide)
  rw [if_neg h0]
  by_cases h1 : x = 1
  · rw [if_pos h1]; subst h1; exact rn_sw dd_Ds_common_32 rfl (by decide)
  rw [if_neg h1]
  by_cases h2 : x = 2
  · rw [if_pos h2]; subst h2; exact rn_sw dd_Ds_common_32 rfl (by decide)
  rw [if_neg h2]
  by_cases h3 : x = 3
  · rw [if_pos h3]; subst h3; exact rn_sw dd_Ds_common_32 rfl (by decide)
  rw [if_neg h3]
  by_cases h4 : x = 4
  · rw [if_pos h4]; subst h4; exact rn_sw dd_Ds_common_32 rfl (by decide)
  rw [if_neg h4]
  by_cases h5 : x = 5
  · rw [if_pos h5]; subst h5; exact rn_sw dd_Ds_common_32 rfl (by decide)
  rw [if_neg h5]
  by_cases h6 : x = 6
  · rw [if_pos h6]; subst h6; exact rn_sw dd_Ds_common_32 rfl (by decide)
  rw [if_neg h6]
  by_cases h7 : x = 7
  · rw [if_pos h7]; subst h7; exact rn_sw dd_Ds_common_32 rfl (by decide)
  rw [if_neg h7]
  by_cases h8 : x = 8
  · rw [if_pos h8]; subst h8; exact rn_sw dd_Ds_common_32 rfl (by decide)
  rw [if_neg h8]
  refine rn_sw dd_Ds_common_32 (off := 100) (st' := st) ?_ (by decide)
  have n0 := lv_neT h0 (show (0 : Int32).toInt = 0 by decide)
  have n1 := lv_neT h1 (show (1 : Int32).toInt = 1 by decide)
  have n2 := lv_neT h2 (show (2 : Int32).toInt = 2 by decide)
  have n3 := lv_neT h3 (show (3 : Int32).toInt = 3 by decide)
  have n4 := lv_neT h4 (show (4 : Int32).toInt = 4 by decide)
  have n5 := lv_neT h5 (show (5 : Int32).toInt = 5 by decide)
  have n6 := lv_neT h6 (show (6 : Int32).toInt = 6 by decide)
  have n7 := lv_neT h7 (show (7 : Int32).toInt = 7 by decide)
  have n8 := lv_neT h8 (show (8 : Int32).toInt = 8 by decide)
  have hq : x.toInt < 0 ∨ 8 < x.toInt := by omega
  show (if x.toInt < 0 ∨ 8 < x.toInt then _ else _) = _
  rw [if_pos hq]
theorem dd_Ds_common_84 : decode (px_rw k_Ds_common).2.1 84 = .ok (.aload_n 0, 1) := (by decide +kernel : decode prog_1_method_21_code 84 = .ok (.aload_n 0, 1))
theorem e_Ds_common_84 (a1 a2 : Value) (x : Nat) (st : List Value) (g : px_G) : rn k_Ds_common 84 [.ref x, a1, a2] st g = rn k_Ds_common 85 [.ref x, a1, a2] (.ref x :: st) g := rn_next dd_Ds_common_84 rfl
theorem dd_Ds_common_85 : decode (px_rw k_Ds_common).2.1 85 = .ok (.getfield 45, 3) := (by decide +kernel : decode prog_1_method_21_code 85 = .ok (.getfield 45, 3))
theorem e_Ds_common_85 (L st : List Value) (T : TS) : rn k_Ds_common 85 L (.ref 0 :: st) (enc T) = rn k_Ds_common 88 L (.ref 12 :: st) (enc T) := rn_getO (n := 13) dd_Ds_common_85 rfl (by decide) (by decide) (by decide) rfl rfl
theorem dd_Ds_common_88 : decode (px_rw k_Ds_common).2.1 88 = .ok (.getfield 168, 3) := (by decide +kernel : decode prog_1_method_21_code 88 = .ok (.getfield 168, 3))
theorem e_Ds_common_88 (L : List Value) (p : Nat) (st : List Value) (T : TS) (hp : sh p = (102, 3)) : rn k_Ds_common 88 L (.ref p :: st) (enc T) = rn k_Ds_common 91 L (.long (T.2.1 p 0) :: st) (enc T) := rn_getJ (n := 3) dd_Ds_common_88 rfl (by decide) (by decide) (by decide) rfl hp
theorem dd_Ds_common_91 : decode (px_rw k_Ds_common).2.1 91 = .ok (.aload_n 0, 1) := (by decide +kernel : decode prog_1_method_21_code 91 = .ok (.aload_n 0, 1))
theorem e_Ds_common_91 (a1 a2 : Value) (x : Nat) (st : List Value) (g : px_G) : rn k_Ds_common 91 [.ref x, a1, a2] st g = rn k_Ds_common 92 [.ref x, a1, a2] (.ref x :: st) g := rn_next dd_Ds_common_91 rfl
theorem dd_Ds_common_92 : decode (px_rw k_Ds_common).2.1 92 = .ok (.getfield 45, 3) := (by decide +kernel : decode prog_1_method_21_code 92 = .ok (.getfield 45, 3))
theorem e_Ds_common_92 (L st : List Value) (T : TS) : rn k_Ds_common 92 L (.ref 0 :: st) (enc T) = rn k_Ds_common 95 L (.ref 12 :: st) (enc T) := rn_getO (n := 13) dd_Ds_common_92 rfl (by decide) (by decide) (by decide) rfl rfl
theorem dd_Ds_common_95 : decode (px_rw k_Ds_common).2.1 95 = .ok (.getfield 172, 3) := (by decide +kernel : decode prog_1_method_21_code 95 = .ok (.getfield 172, 3))
theorem e_Ds_common_95 (L : List Value) (p : Nat) (st : List Value) (T : TS) (hp : sh p = (102, 3)) : rn k_Ds_common 95 L (.ref p :: st) (enc T) = rn k_Ds_common 98 L (.long (T.2.1 p 1) :: st) (enc T) := rn_getJ (n := 3) dd_Ds_common_95 rfl (by decide) (by decide) (by decide) rfl hp
theorem dd_Ds_common_98 : decode (px_rw k_Ds_common).2.1 98 = .ok (.lmul, 1) := (by decide +kernel : decode prog_1_method_21_code 98 = .ok (.lmul, 1))
theorem e_Ds_common_98 (L : List Value) (x y : Int64) (st : List Value) (g : px_G) : rn k_Ds_common 98 L (.long y :: .long x :: st) g = rn k_Ds_common 99 L (.long (x * y) :: st) g := rn_next dd_Ds_common_98 rfl
theorem dd_Ds_common_99 : decode (px_rw k_Ds_common).2.1 99 = .ok (.lreturn, 1) := (by decide +kernel : decode prog_1_method_21_code 99 = .ok (.lreturn, 1))
theorem e_Ds_common_99 (L : List Value) (v : Int64) (g : px_G) : rn k_Ds_common 99 L [.long v] g = some (some (.long v), g) := rn_lret dd_Ds_common_99 rfl
theorem dd_Ds_common_100 : decode (px_rw k_Ds_common).2.1 100 = .ok (.aload_n 0, 1) := (by decide +kernel : decode prog_1_method_21_code 100 = .ok (.aload_n 0, 1))
theorem e_Ds_common_100 (a1 a2 : Value) (x : Nat) (st : List Value) (g : px_G) : rn k_Ds_common 100 [.ref x, a1, a2] st g = rn k_Ds_common 101 [.ref x, a1, a2] (.ref x :: st) g := rn_next dd_Ds_common_100 rfl
theorem dd_Ds_common_101 : decode (px_rw k_Ds_common).2.1 101 = .ok (.getfield 45, 3) := (by decide +kernel : decode prog_1_method_21_code 101 = .ok (.getfield 45, 3))
theorem e_Ds_common_101 (L st : List Value) (T : TS) : rn k_Ds_common 101 L (.ref 0 :: st) (enc T) = rn k_Ds_common 104 L (.ref 12 :: st) (enc T) := rn_getO (n := 13) dd_Ds_common_101 rfl (by decide) (by decide) (by decide) rfl rfl
theorem dd_Ds_common_104 : decode (px_rw k_Ds_common).2.1 104 = .ok (.getfield 168, 3) := (by decide +kernel : decode prog_1_method_21_code 104 = .ok (.getfield 168, 3))
theorem e_Ds_common_104 (L : List Value) (p : Nat) (st : List Value) (T : TS) (hp : sh p = (102, 3)) : rn k_Ds_common 104 L (.ref p :: st) (enc T) = rn k_Ds_common 107 L (.long (T.2.1 p 0) :: st) (enc T) := rn_getJ (n := 3) dd_Ds_common_104 rfl (by decide) (by decide) (by decide) rfl hp
theorem dd_Ds_common_107 : decode (px_rw k_Ds_common).2.1 107 = .ok (.lreturn, 1) := (by decide +kernel : decode prog_1_method_21_code 107 = .ok (.lreturn, 1))
theorem e_Ds_common_107 (L : List Value) (v : Int64) (g : px_G) : rn k_Ds_common 107 L [.long v] g = some (some (.long v), g) := rn_lret dd_Ds_common_107 rfl
theorem dd_Ds_common_108 : decode (px_rw k_Ds_common).2.1 108 = .ok (.aload_n 0, 1) := (by decide +kernel : decode prog_1_method_21_code 108 = .ok (.aload_n 0, 1))
theorem e_Ds_common_108 (a1 a2 : Value) (x : Nat) (st : List Value) (g : px_G) : rn k_Ds_common 108 [.ref x, a1, a2] st g = rn k_Ds_common 109 [.ref x, a1, a2] (.ref x :: st) g := rn_next dd_Ds_common_108 rfl
theorem dd_Ds_common_109 : decode (px_rw k_Ds_common).2.1 109 = .ok (.getfield 45, 3) := (by decide +kernel : decode prog_1_method_21_code 109 = .ok (.getfield 45, 3))
theorem e_Ds_common_109 (L st : List Value) (T : TS) : rn k_Ds_common 109 L (.ref 0 :: st) (enc T) = rn k_Ds_common 112 L (.ref 12 :: st) (enc T) := rn_getO (n := 13) dd_Ds_common_109 rfl (by decide) (by decide) (by decide) rfl rfl
theorem dd_Ds_common_112 : decode (px_rw k_Ds_common).2.1 112 = .ok (.getfield 172, 3) := (by decide +kernel : decode prog_1_method_21_code 112 = .ok (.getfield 172, 3))
theorem e_Ds_common_112 (L : List Value) (p : Nat) (st : List Value) (T : TS) (hp : sh p = (102, 3)) : rn k_Ds_common 112 L (.ref p :: st) (enc T) = rn k_Ds_common 115 L (.long (T.2.1 p 1) :: st) (enc T) := rn_getJ (n := 3) dd_Ds_common_112 rfl (by decide) (by decide) (by decide) rfl hp
theorem dd_Ds_common_115 : decode (px_rw k_Ds_common).2.1 115 = .ok (.lreturn, 1) := (by decide +kernel : decode prog_1_method_21_code 115 = .ok (.lreturn, 1))
theorem e_Ds_common_115 (L : List Value) (v : Int64) (g : px_G) : rn k_Ds_common 115 L [.long v] g = some (some (.long v), g) := rn_lret dd_Ds_common_115 rfl
theorem dd_Ds_common_116 : decode (px_rw k_Ds_common).2.1 116 = .ok (.aload_n 0, 1) := (by decide +kernel : decode prog_1_method_21_code 116 = .ok (.aload_n 0, 1))
theorem e_Ds_common_116 (a1 a2 : Value) (x : Nat) (st : List Value) (g : px_G) : rn k_Ds_common 116 [.ref x, a1, a2] st g = rn k_Ds_common 117 [.ref x, a1, a2] (.ref x :: st) g := rn_next dd_Ds_common_116 rfl
theorem dd_Ds_common_117 : decode (px_rw k_Ds_common).2.1 117 = .ok (.getfield 45, 3) := (by decide +kernel : decode prog_1_method_21_code 117 = .ok (.getfield 45, 3))
theorem e_Ds_common_117 (L st : List Value) (T : TS) : rn k_Ds_common 117 L (.ref 0 :: st) (enc T) = rn k_Ds_common 120 L (.ref 12 :: st) (enc T) := rn_getO (n := 13) dd_Ds_common_117 rfl (by decide) (by decide) (by decide) rfl rfl
theorem dd_Ds_common_120 : decode (px_rw k_Ds_common).2.1 120 = .ok (.getfield 175, 3) := (by decide +kernel : decode prog_1_method_21_code 120 = .ok (.getfield 175, 3))
theorem e_Ds_common_120 (L : List Value) (p : Nat) (st : List Value) (T : TS) (hp : sh p = (102, 3)) : rn k_Ds_common 120 L (.ref p :: st) (enc T) = rn k_Ds_common 123 L (.long (T.2.1 p 2) :: st) (enc T) := rn_getJ (n := 3) dd_Ds_common_120 rfl (by decide) (by decide) (by decide) rfl hp
theorem dd_Ds_common_123 : decode (px_rw k_Ds_common).2.1 123 = .ok (.lreturn, 1) := (by decide +kernel : decode prog_1_method_21_code 123 = .ok (.lreturn, 1))
theorem e_Ds_common_123 (L : List Value) (v : Int64) (g : px_G) : rn k_Ds_common 123 L [.long v] g = some (some (.long v), g) := rn_lret dd_Ds_common_123 rfl
theorem dd_Ds_common_124 : decode (px_rw k_Ds_common).2.1 124 = .ok (.aload_n 0, 1) := (by decide +kernel : decode prog_1_method_21_code 124 = .ok (.aload_n 0, 1))
theorem e_Ds_common_124 (a1 a2 : Value) (x : Nat) (st : List Value) (g : px_G) : rn k_Ds_common 124 [.ref x, a1, a2] st g = rn k_Ds_common 125 [.ref x, a1, a2] (.ref x :: st) g := rn_next dd_Ds_common_124 rfl
theorem dd_Ds_common_125 : decode (px_rw k_Ds_common).2.1 125 = .ok (.getfield 45, 3) := (by decide +kernel : decode prog_1_method_21_code 125 = .ok (.getfield 45, 3))
theorem e_Ds_common_125 (L st : List Value) (T : TS) : rn k_Ds_common 125 L (.ref 0 :: st) (enc T) = rn k_Ds_common 128 L (.ref 12 :: st) (enc T) := rn_getO (n := 13) dd_Ds_common_125 rfl (by decide) (by decide) (by decide) rfl rfl
theorem dd_Ds_common_128 : decode (px_rw k_Ds_common).2.1 128 = .ok (.invokevirtual 296, 3) := (by decide +kernel : decode prog_1_method_21_code 128 = .ok (.invokevirtual 296, 3))
theorem e_Ds_common_128 (L : List Value)  (p : Nat) (T : TS) (hp : sh p = (102, 3)) : rn k_Ds_common 128 L [.ref p] (enc T) = bd (cl k_Grid_supercell [.ref p] (enc T)) (fun r g' => rn k_Ds_common 131 L (r.toList ++ []) g') := rn_callV (n := 3) (As := []) (rest := []) dd_Ds_common_128 rfl (by decide) (by decide) rfl rfl (Nat.le_of_ble_eq_true rfl) (Nat.le_of_ble_eq_true rfl) hp
theorem dd_Ds_common_131 : decode (px_rw k_Ds_common).2.1 131 = .ok (.lreturn, 1) := (by decide +kernel : decode prog_1_method_21_code 131 = .ok (.lreturn, 1))
theorem e_Ds_common_131 (L : List Value) (v : Int64) (g : px_G) : rn k_Ds_common 131 L [.long v] g = some (some (.long v), g) := rn_lret dd_Ds_common_131 rfl
theorem dd_Ds_common_132 : decode (px_rw k_Ds_common).2.1 132 = .ok (.aload_n 0, 1) := (by decide +kernel : decode prog_1_method_21_code 132 = .ok (.aload_n 0, 1))
theorem e_Ds_common_132 (a1 a2 : Value) (x : Nat) (st : List Value) (g : px_G) : rn k_Ds_common 132 [.ref x, a1, a2] st g = rn k_Ds_common 133 [.ref x, a1, a2] (.ref x :: st) g := rn_next dd_Ds_common_132 rfl
theorem dd_Ds_common_133 : decode (px_rw k_Ds_common).2.1 133 = .ok (.getfield 52, 3) := (by decide +kernel : decode prog_1_method_21_code 133 = .ok (.getfield 52, 3))
theorem e_Ds_common_133 (L st : List Value) (T : TS) : rn k_Ds_common 133 L (.ref 0 :: st) (enc T) = rn k_Ds_common 136 L (.ref 13 :: st) (enc T) := rn_getO (n := 13) dd_Ds_common_133 rfl (by decide) (by decide) (by decide) rfl rfl
theorem dd_Ds_common_136 : decode (px_rw k_Ds_common).2.1 136 = .ok (.aload_n 0, 1) := (by decide +kernel : decode prog_1_method_21_code 136 = .ok (.aload_n 0, 1))
theorem e_Ds_common_136 (a1 a2 : Value) (x : Nat) (st : List Value) (g : px_G) : rn k_Ds_common 136 [.ref x, a1, a2] st g = rn k_Ds_common 137 [.ref x, a1, a2] (.ref x :: st) g := rn_next dd_Ds_common_136 rfl
theorem dd_Ds_common_137 : decode (px_rw k_Ds_common).2.1 137 = .ok (.getfield 45, 3) := (by decide +kernel : decode prog_1_method_21_code 137 = .ok (.getfield 45, 3))
theorem e_Ds_common_137 (L st : List Value) (T : TS) : rn k_Ds_common 137 L (.ref 0 :: st) (enc T) = rn k_Ds_common 140 L (.ref 12 :: st) (enc T) := rn_getO (n := 13) dd_Ds_common_137 rfl (by decide) (by decide) (by decide) rfl rfl
theorem dd_Ds_common_140 : decode (px_rw k_Ds_common).2.1 140 = .ok (.invokevirtual 191, 3) := (by decide +kernel : decode prog_1_method_21_code 140 = .ok (.invokevirtual 191, 3))
theorem e_Ds_common_140 (L : List Value) (r0 : Nat)  (T : TS)  : rn k_Ds_common 140 L [.ref r0, .ref 13] (enc T) = bd (cl k_Red_reduce [.ref 13, .ref r0] (enc T)) (fun r g' => rn k_Ds_common 143 L (r.toList ++ []) g') := rn_callV (n := 8) (As := [.ref r0]) (rest := []) dd_Ds_common_140 rfl (by decide) (by decide) rfl rfl (Nat.le_of_ble_eq_true rfl) (Nat.le_of_ble_eq_true rfl) rfl
theorem dd_Ds_common_143 : decode (px_rw k_Ds_common).2.1 143 = .ok (.aload_n 0, 1) := (by decide +kernel : decode prog_1_method_21_code 143 = .ok (.aload_n 0, 1))
theorem e_Ds_common_143 (a1 a2 : Value) (x : Nat) (st : List Value) (g : px_G) : rn k_Ds_common 143 [.ref x, a1, a2] st g = rn k_Ds_common 144 [.ref x, a1, a2] (.ref x :: st) g := rn_next dd_Ds_common_143 rfl
theorem dd_Ds_common_144 : decode (px_rw k_Ds_common).2.1 144 = .ok (.getfield 52, 3) := (by decide +kernel : decode prog_1_method_21_code 144 = .ok (.getfield 52, 3))
theorem e_Ds_common_144 (L st : List Value) (T : TS) : rn k_Ds_common 144 L (.ref 0 :: st) (enc T) = rn k_Ds_common 147 L (.ref 13 :: st) (enc T) := rn_getO (n := 13) dd_Ds_common_144 rfl (by decide) (by decide) (by decide) rfl rfl
theorem dd_Ds_common_147 : decode (px_rw k_Ds_common).2.1 147 = .ok (.iload_n 2, 1) := (by decide +kernel : decode prog_1_method_21_code 147 = .ok (.iload_n 2, 1))
theorem e_Ds_common_147 (a0 a1 : Value) (x : Int32) (st : List Value) (g : px_G) : rn k_Ds_common 147 [a0, a1, .int x] st g = rn k_Ds_common 148 [a0, a1, .int x] (.int x :: st) g := rn_next dd_Ds_common_147 rfl
theorem dd_Ds_common_148 : decode (px_rw k_Ds_common).2.1 148 = .ok (.iconst 4, 1) := (by decide +kernel : decode prog_1_method_21_code 148 = .ok (.iconst 4, 1))
theorem e_Ds_common_148 (L st : List Value) (g : px_G) : rn k_Ds_common 148 L st g = rn k_Ds_common 149 L (.int 4 :: st) g := rn_ipush (i := .iconst 4) dd_Ds_common_148 rfl rfl (by decide)
theorem dd_Ds_common_149 : decode (px_rw k_Ds_common).2.1 149 = .ok (.isub, 1) := (by decide +kernel : decode prog_1_method_21_code 149 = .ok (.isub, 1))
theorem e_Ds_common_149 (L : List Value) (x y : Int32) (st : List Value) (g : px_G) : rn k_Ds_common 149 L (.int y :: .int x :: st) g = rn k_Ds_common 150 L (.int (x - y) :: st) g := rn_next dd_Ds_common_149 rfl
theorem dd_Ds_common_150 : decode (px_rw k_Ds_common).2.1 150 = .ok (.invokevirtual 195, 3) := (by decide +kernel : decode prog_1_method_21_code 150 = .ok (.invokevirtual 195, 3))
theorem e_Ds_common_150 (L : List Value) (i0 : Int32)  (T : TS)  : rn k_Ds_common 150 L [.int i0, .ref 13] (enc T) = bd (cl k_Red_part [.ref 13, .int i0] (enc T)) (fun r g' => rn k_Ds_common 153 L (r.toList ++ []) g') := rn_callV (n := 8) (As := [.int i0]) (rest := []) dd_Ds_common_150 rfl (by decide) (by decide) rfl rfl (Nat.le_of_ble_eq_true rfl) (Nat.le_of_ble_eq_true rfl) rfl
theorem dd_Ds_common_153 : decode (px_rw k_Ds_common).2.1 153 = .ok (.lreturn, 1) := (by decide +kernel : decode prog_1_method_21_code 153 = .ok (.lreturn, 1))
theorem e_Ds_common_153 (L : List Value) (v : Int64) (g : px_G) : rn k_Ds_common 153 L [.long v] g = some (some (.long v), g) := rn_lret dd_Ds_common_153 rfl
theorem c_Ds_isSet (r0 : Nat) (i1 : Int32) (g : px_G) : cl k_Ds_isSet [.ref r0, .int i1] g = rn k_Ds_isSet 0 [.ref r0, .int i1] [] g := rfl
theorem dd_Ds_isSet_0 : decode (px_rw k_Ds_isSet).2.1 0 = .ok (.iload_n 1, 1) := (by decide +kernel : decode prog_1_method_49_code 0 = .ok (.iload_n 1, 1))
theorem e_Ds_isSet_0 (a0 : Value) (x : Int32) (st : List Value) (g : px_G) : rn k_Ds_isSet 0 [a0, .int x] st g = rn k_Ds_isSet 1 [a0, .int x] (.int x :: st) g := rn_next dd_Ds_isSet_0 rfl
theorem dd_Ds_isSet_1 : decode (px_rw k_Ds_isSet).2.1 1 = .ok (.ifCond .lt 17, 3) := (by decide +kernel : decode prog_1_method_49_code 1 = .ok (.ifCond .lt 17, 3))
theorem e_Ds_isSet_1 (L : List Value) (x : Int32) (st : List Value) (g : px_G) : rn k_Ds_isSet 1 L (.int x :: st) g = if x < 0 then rn k_Ds_isSet 18 L st g else rn k_Ds_isSet 4 L st g := rn_iflt dd_Ds_isSet_1 (by decide)
theorem dd_Ds_isSet_4 : decode (px_rw k_Ds_isSet).2.1 4 = .ok (.iload_n 1, 1) := (by decide +kernel : decode prog_1_method_49_code 4 = .ok (.iload_n 1, 1))
theorem e_Ds_isSet_4 (a0 : Value) (x : Int32) (st : List Value) (g : px_G) : rn k_Ds_isSet 4 [a0, .int x] st g = rn k_Ds_isSet 5 [a0, .int x] (.int x :: st) g := rn_next dd_Ds_isSet_4 rfl
theorem dd_Ds_isSet_5 : decode (px_rw k_Ds_isSet).2.1 5 = .ok (.iconst 1, 1) := (by decide +kernel : decode prog_1_method_49_code 5 = .ok (.iconst 1, 1))
theorem e_Ds_isSet_5 (L st : List Value) (g : px_G) : rn k_Ds_isSet 5 L st g = rn k_Ds_isSet 6 L (.int 1 :: st) g := rn_ipush (i := .iconst 1) dd_Ds_isSet_5 rfl rfl (by decide)
theorem dd_Ds_isSet_6 : decode (px_rw k_Ds_isSet).2.1 6 = .ok (.aload_n 0, 1) := (by decide +kernel : decode prog_1_method_49_code 6 = .ok (.aload_n 0, 1))
theorem e_Ds_isSet_6 (a1 : Value) (x : Nat) (st : List Value) (g : px_G) : rn k_Ds_isSet 6 [.ref x, a1] st g = rn k_Ds_isSet 7 [.ref x, a1] (.ref x :: st) g := rn_next dd_Ds_isSet_6 rfl
theorem dd_Ds_isSet_7 : decode (px_rw k_Ds_isSet).2.1 7 = .ok (.getfield 96, 3) := (by decide +kernel : decode prog_1_method_49_code 7 = .ok (.getfield 96, 3))
theorem e_Ds_isSet_7 (L st : List Value) (T : TS) : rn k_Ds_isSet 7 L (.ref 0 :: st) (enc T) = rn k_Ds_isSet 10 L (.int (T.1 0 3) :: st) (enc T) := rn_getI (n := 13) dd_Ds_isSet_7 rfl (by decide) (by decide) (by decide) rfl rfl
theorem dd_Ds_isSet_10 : decode (px_rw k_Ds_isSet).2.1 10 = .ok (.ishl, 1) := (by decide +kernel : decode prog_1_method_49_code 10 = .ok (.ishl, 1))
theorem e_Ds_isSet_10 (L : List Value) (x y : Int32) (st : List Value) (g : px_G) : rn k_Ds_isSet 10 L (.int y :: .int x :: st) g = rn k_Ds_isSet 11 L (.int (x <<< (y &&& 31)) :: st) g := rn_next dd_Ds_isSet_10 rfl
theorem dd_Ds_isSet_11 : decode (px_rw k_Ds_isSet).2.1 11 = .ok (.if_icmp .ge 7, 3) := (by decide +kernel : decode prog_1_method_49_code 11 = .ok (.if_icmp .ge 7, 3))
theorem e_Ds_isSet_11 (L : List Value) (x y : Int32) (st : List Value) (g : px_G) : rn k_Ds_isSet 11 L (.int y :: .int x :: st) g = if y ≤ x then rn k_Ds_isSet 18 L st g else rn k_Ds_isSet 14 L st g := rn_icge dd_Ds_isSet_11 (by decide)
theorem dd_Ds_isSet_14 : decode (px_rw k_Ds_isSet).2.1 14 = .ok (.iconst 1, 1) := (by decide +kernel : decode prog_1_method_49_code 14 = .ok (.iconst 1, 1))
theorem e_Ds_isSet_14 (L st : List Value) (g : px_G) : rn k_Ds_isSet 14 L st g = rn k_Ds_isSet 15 L (.int 1 :: st) g := rn_ipush (i := .iconst 1) dd_Ds_isSet_14 rfl rfl (by decide)
theorem dd_Ds_isSet_15 : decode (px_rw k_Ds_isSet).2.1 15 = .ok (.goto 4, 3) := (by decide +kernel : decode prog_1_method_49_code 15 = .ok (.goto 4, 3))
theorem e_Ds_isSet_15 (L st : List Value) (g : px_G) : rn k_Ds_isSet 15 L st g = rn k_Ds_isSet 19 L st g := rn_goto dd_Ds_isSet_15 (by decide)
theorem dd_Ds_isSet_18 : decode (px_rw k_Ds_isSet).2.1 18 = .ok (.iconst 0, 1) := (by decide +kernel : decode prog_1_method_49_code 18 = .ok (.iconst 0, 1))
theorem e_Ds_isSet_18 (L st : List Value) (g : px_G) : rn k_Ds_isSet 18 L st g = rn k_Ds_isSet 19 L (.int 0 :: st) g := rn_ipush (i := .iconst 0) dd_Ds_isSet_18 rfl rfl (by decide)
theorem dd_Ds_isSet_19 : decode (px_rw k_Ds_isSet).2.1 19 = .ok (.ireturn, 1) := (by decide +kernel : decode prog_1_method_49_code 19 = .ok (.ireturn, 1))
theorem e_Ds_isSet_19 (L : List Value) (v : Int32) (g : px_G) (hv : v = 0 ∨ v = 1) : rn k_Ds_isSet 19 L [.int v] g = some (some (.int v), g) := rn_zret dd_Ds_isSet_19 rfl hv
theorem c_Ds_meet (r0 : Nat) (i1 : Int32) (g : px_G) : cl k_Ds_meet [.ref r0, .int i1] g = rn k_Ds_meet 0 [.ref r0, .int i1, .null] [] g := rfl
theorem dd_Ds_meet_0 : decode (px_rw k_Ds_meet).2.1 0 = .ok (.aload_n 0, 1) := (by decide +kernel : decode prog_1_method_23_code 0 = .ok (.aload_n 0, 1))
theorem e_Ds_meet_0 (a1 a2 : Value) (x : Nat) (st : List Value) (g : px_G) : rn k_Ds_meet 0 [.ref x, a1, a2] st g = rn k_Ds_meet 1 [.ref x, a1, a2] (.ref x :: st) g := rn_next dd_Ds_meet_0 rfl
theorem dd_Ds_meet_1 : decode (px_rw k_Ds_meet).2.1 1 = .ok (.getfield 45, 3) := (by decide +kernel : decode prog_1_method_23_code 1 = .ok (.getfield 45, 3))
theorem e_Ds_meet_1 (L st : List Value) (T : TS) : rn k_Ds_meet 1 L (.ref 0 :: st) (enc T) = rn k_Ds_meet 4 L (.ref 12 :: st) (enc T) := rn_getO (n := 13) dd_Ds_meet_1 rfl (by decide) (by decide) (by decide) rfl rfl
theorem dd_Ds_meet_4 : decode (px_rw k_Ds_meet).2.1 4 = .ok (.invokevirtual 300, 3) := (by decide +kernel : decode prog_1_method_23_code 4 = .ok (.invokevirtual 300, 3))
theorem e_Ds_meet_4 (L : List Value)  (p : Nat) (T : TS) (hp : sh p = (102, 3)) : rn k_Ds_meet 4 L [.ref p] (enc T) = bd (cl k_Grid_takeAll [.ref p] (enc T)) (fun r g' => rn k_Ds_meet 7 L (r.toList ++ []) g') := rn_callV (n := 3) (As := []) (rest := []) dd_Ds_meet_4 rfl (by decide) (by decide) rfl rfl (Nat.le_of_ble_eq_true rfl) (Nat.le_of_ble_eq_true rfl) hp
theorem dd_Ds_meet_7 : decode (px_rw k_Ds_meet).2.1 7 = .ok (.iconst 0, 1) := (by decide +kernel : decode prog_1_method_23_code 7 = .ok (.iconst 0, 1))
theorem e_Ds_meet_7 (L st : List Value) (g : px_G) : rn k_Ds_meet 7 L st g = rn k_Ds_meet 8 L (.int 0 :: st) g := rn_ipush (i := .iconst 0) dd_Ds_meet_7 rfl rfl (by decide)
theorem dd_Ds_meet_8 : decode (px_rw k_Ds_meet).2.1 8 = .ok (.istore_n 2, 1) := (by decide +kernel : decode prog_1_method_23_code 8 = .ok (.istore_n 2, 1))
theorem e_Ds_meet_8 (a0 a1 a2 : Value) (x : Int32) (st : List Value) (g : px_G) : rn k_Ds_meet 8 [a0, a1, a2] (.int x :: st) g = rn k_Ds_meet 9 [a0, px_kill a1, .int x] st g := rn_next dd_Ds_meet_8 rfl
theorem dd_Ds_meet_9 : decode (px_rw k_Ds_meet).2.1 9 = .ok (.iload_n 2, 1) := (by decide +kernel : decode prog_1_method_23_code 9 = .ok (.iload_n 2, 1))
theorem e_Ds_meet_9 (a0 a1 : Value) (x : Int32) (st : List Value) (g : px_G) : rn k_Ds_meet 9 [a0, a1, .int x] st g = rn k_Ds_meet 10 [a0, a1, .int x] (.int x :: st) g := rn_next dd_Ds_meet_9 rfl
theorem dd_Ds_meet_10 : decode (px_rw k_Ds_meet).2.1 10 = .ok (.aload_n 0, 1) := (by decide +kernel : decode prog_1_method_23_code 10 = .ok (.aload_n 0, 1))
theorem e_Ds_meet_10 (a1 a2 : Value) (x : Nat) (st : List Value) (g : px_G) : rn k_Ds_meet 10 [.ref x, a1, a2] st g = rn k_Ds_meet 11 [.ref x, a1, a2] (.ref x :: st) g := rn_next dd_Ds_meet_10 rfl
theorem dd_Ds_meet_11 : decode (px_rw k_Ds_meet).2.1 11 = .ok (.getfield 96, 3) := (by decide +kernel : decode prog_1_method_23_code 11 = .ok (.getfield 96, 3))
theorem e_Ds_meet_11 (L st : List Value) (T : TS) : rn k_Ds_meet 11 L (.ref 0 :: st) (enc T) = rn k_Ds_meet 14 L (.int (T.1 0 3) :: st) (enc T) := rn_getI (n := 13) dd_Ds_meet_11 rfl (by decide) (by decide) (by decide) rfl rfl
theorem dd_Ds_meet_14 : decode (px_rw k_Ds_meet).2.1 14 = .ok (.if_icmp .ge 34, 3) := (by decide +kernel : decode prog_1_method_23_code 14 = .ok (.if_icmp .ge 34, 3))
theorem e_Ds_meet_14 (L : List Value) (x y : Int32) (st : List Value) (g : px_G) : rn k_Ds_meet 14 L (.int y :: .int x :: st) g = if y ≤ x then rn k_Ds_meet 48 L st g else rn k_Ds_meet 17 L st g := rn_icge dd_Ds_meet_14 (by decide)
theorem dd_Ds_meet_17 : decode (px_rw k_Ds_meet).2.1 17 = .ok (.iload_n 1, 1) := (by decide +kernel : decode prog_1_method_23_code 17 = .ok (.iload_n 1, 1))
theorem e_Ds_meet_17 (a0 a2 : Value) (x : Int32) (st : List Value) (g : px_G) : rn k_Ds_meet 17 [a0, .int x, a2] st g = rn k_Ds_meet 18 [a0, .int x, a2] (.int x :: st) g := rn_next dd_Ds_meet_17 rfl
theorem dd_Ds_meet_18 : decode (px_rw k_Ds_meet).2.1 18 = .ok (.iload_n 2, 1) := (by decide +kernel : decode prog_1_method_23_code 18 = .ok (.iload_n 2, 1))
theorem e_Ds_meet_18 (a0 a1 : Value) (x : Int32) (st : List Value) (g : px_G) : rn k_Ds_meet 18 [a0, a1, .int x] st g = rn k_Ds_meet 19 [a0, a1, .int x] (.int x :: st) g := rn_next dd_Ds_meet_18 rfl
theorem dd_Ds_meet_19 : decode (px_rw k_Ds_meet).2.1 19 = .ok (.ishr, 1) := (by decide +kernel : decode prog_1_method_23_code 19 = .ok (.ishr, 1))
theorem e_Ds_meet_19 (L : List Value) (x y : Int32) (st : List Value) (g : px_G) : rn k_Ds_meet 19 L (.int y :: .int x :: st) g = rn k_Ds_meet 20 L (.int (x >>> (y &&& 31)) :: st) g := rn_next dd_Ds_meet_19 rfl
theorem dd_Ds_meet_20 : decode (px_rw k_Ds_meet).2.1 20 = .ok (.iconst 1, 1) := (by decide +kernel : decode prog_1_method_23_code 20 = .ok (.iconst 1, 1))
theorem e_Ds_meet_20 (L st : List Value) (g : px_G) : rn k_Ds_meet 20 L st g = rn k_Ds_meet 21 L (.int 1 :: st) g := rn_ipush (i := .iconst 1) dd_Ds_meet_20 rfl rfl (by decide)
theorem dd_Ds_meet_21 : decode (px_rw k_Ds_meet).2.1 21 = .ok (.iand, 1) := (by decide +kernel : decode prog_1_method_23_code 21 = .ok (.iand, 1))
theorem e_Ds_meet_21 (L : List Value) (x y : Int32) (st : List Value) (g : px_G) : rn k_Ds_meet 21 L (.int y :: .int x :: st) g = rn k_Ds_meet 22 L (.int (x &&& y) :: st) g := rn_next dd_Ds_meet_21 rfl
theorem dd_Ds_meet_22 : decode (px_rw k_Ds_meet).2.1 22 = .ok (.iconst 1, 1) := (by decide +kernel : decode prog_1_method_23_code 22 = .ok (.iconst 1, 1))
theorem e_Ds_meet_22 (L st : List Value) (g : px_G) : rn k_Ds_meet 22 L st g = rn k_Ds_meet 23 L (.int 1 :: st) g := rn_ipush (i := .iconst 1) dd_Ds_meet_22 rfl rfl (by decide)
theorem dd_Ds_meet_23 : decode (px_rw k_Ds_meet).2.1 23 = .ok (.if_icmp .ne 19, 3) := (by decide +kernel : decode prog_1_method_23_code 23 = .ok (.if_icmp .ne 19, 3))
theorem e_Ds_meet_23 (L : List Value) (x y : Int32) (st : List Value) (g : px_G) : rn k_Ds_meet 23 L (.int y :: .int x :: st) g = if x = y then rn k_Ds_meet 26 L st g else rn k_Ds_meet 42 L st g := rn_icne dd_Ds_meet_23 (by decide)
theorem dd_Ds_meet_26 : decode (px_rw k_Ds_meet).2.1 26 = .ok (.aload_n 0, 1) := (by decide +kernel : decode prog_1_method_23_code 26 = .ok (.aload_n 0, 1))
theorem e_Ds_meet_26 (a1 a2 : Value) (x : Nat) (st : List Value) (g : px_G) : rn k_Ds_meet 26 [.ref x, a1, a2] st g = rn k_Ds_meet 27 [.ref x, a1, a2] (.ref x :: st) g := rn_next dd_Ds_meet_26 rfl
theorem dd_Ds_meet_27 : decode (px_rw k_Ds_meet).2.1 27 = .ok (.getfield 45, 3) := (by decide +kernel : decode prog_1_method_23_code 27 = .ok (.getfield 45, 3))
theorem e_Ds_meet_27 (L st : List Value) (T : TS) : rn k_Ds_meet 27 L (.ref 0 :: st) (enc T) = rn k_Ds_meet 30 L (.ref 12 :: st) (enc T) := rn_getO (n := 13) dd_Ds_meet_27 rfl (by decide) (by decide) (by decide) rfl rfl
theorem dd_Ds_meet_30 : decode (px_rw k_Ds_meet).2.1 30 = .ok (.aload_n 0, 1) := (by decide +kernel : decode prog_1_method_23_code 30 = .ok (.aload_n 0, 1))
theorem e_Ds_meet_30 (a1 a2 : Value) (x : Nat) (st : List Value) (g : px_G) : rn k_Ds_meet 30 [.ref x, a1, a2] st g = rn k_Ds_meet 31 [.ref x, a1, a2] (.ref x :: st) g := rn_next dd_Ds_meet_30 rfl
theorem dd_Ds_meet_31 : decode (px_rw k_Ds_meet).2.1 31 = .ok (.getfield 27, 3) := (by decide +kernel : decode prog_1_method_23_code 31 = .ok (.getfield 27, 3))
theorem e_Ds_meet_31 (L st : List Value) (T : TS) : rn k_Ds_meet 31 L (.ref 0 :: st) (enc T) = rn k_Ds_meet 34 L (.ref 5 :: st) (enc T) := rn_getA (n := 13) dd_Ds_meet_31 rfl (by decide) (by decide) (by decide) rfl rfl
theorem dd_Ds_meet_34 : decode (px_rw k_Ds_meet).2.1 34 = .ok (.iload_n 2, 1) := (by decide +kernel : decode prog_1_method_23_code 34 = .ok (.iload_n 2, 1))
theorem e_Ds_meet_34 (a0 a1 : Value) (x : Int32) (st : List Value) (g : px_G) : rn k_Ds_meet 34 [a0, a1, .int x] st g = rn k_Ds_meet 35 [a0, a1, .int x] (.int x :: st) g := rn_next dd_Ds_meet_34 rfl
theorem dd_Ds_meet_35 : decode (px_rw k_Ds_meet).2.1 35 = .ok (.aaload, 1) := (by decide +kernel : decode prog_1_method_23_code 35 = .ok (.aaload, 1))
theorem e_Ds_meet_35 (L : List Value) (i : Int32) (p : Nat) (st : List Value) (T : TS) (hp : (sh p).1 = 3) : rn k_Ds_meet 35 L (.int i :: .ref p :: st) (enc T) = if px_in i (sh p).2 then rn k_Ds_meet 36 L (.ref (T.2.2.1 i.toNatClampNeg) :: st) (enc T) else none := rn_aald dd_Ds_meet_35 (Prod.ext hp rfl)
theorem dd_Ds_meet_36 : decode (px_rw k_Ds_meet).2.1 36 = .ok (.getfield 165, 3) := (by decide +kernel : decode prog_1_method_23_code 36 = .ok (.getfield 165, 3))
theorem e_Ds_meet_36 (L : List Value) (p : Nat) (st : List Value) (T : TS) (hp : sh p = (104, 18)) : rn k_Ds_meet 36 L (.ref p :: st) (enc T) = rn k_Ds_meet 39 L (.ref (p + 2) :: st) (enc T) := (rn_getO (n := 18) dd_Ds_meet_36 rfl (by decide) (by decide) (by decide) rfl hp).trans (by rw [ink_rf_1 hp])
theorem dd_Ds_meet_39 : decode (px_rw k_Ds_meet).2.1 39 = .ok (.invokevirtual 303, 3) := (by decide +kernel : decode prog_1_method_23_code 39 = .ok (.invokevirtual 303, 3))
theorem e_Ds_meet_39 (L : List Value) (r0 : Nat) (p : Nat) (T : TS) (hp : sh p = (102, 3)) : rn k_Ds_meet 39 L [.ref r0, .ref p] (enc T) = bd (cl k_Grid_meet [.ref p, .ref r0] (enc T)) (fun r g' => rn k_Ds_meet 42 L (r.toList ++ []) g') := rn_callV (n := 3) (As := [.ref r0]) (rest := []) dd_Ds_meet_39 rfl (by decide) (by decide) rfl rfl (Nat.le_of_ble_eq_true rfl) (Nat.le_of_ble_eq_true rfl) hp
theorem dd_Ds_meet_42 : decode (px_rw k_Ds_meet).2.1 42 = .ok (.iinc 2 1, 3) := (by decide +kernel : decode prog_1_method_23_code 42 = .ok (.iinc 2 1, 3))
theorem e_Ds_meet_42 (a0 a1 : Value) (x : Int32) (st : List Value) (g : px_G) : rn k_Ds_meet 42 [a0, a1, .int x] st g = rn k_Ds_meet 45 [a0, px_kill a1, .int (x + 1)] st g := rn_next dd_Ds_meet_42 rfl
theorem dd_Ds_meet_45 : decode (px_rw k_Ds_meet).2.1 45 = .ok (.goto (-36), 3) := (by decide +kernel : decode prog_1_method_23_code 45 = .ok (.goto (-36), 3))
theorem e_Ds_meet_45 (L st : List Value) (g : px_G) : rn k_Ds_meet 45 L st g = rn k_Ds_meet 9 L st g := rn_goto dd_Ds_meet_45 (by decide)
theorem dd_Ds_meet_48 : decode (px_rw k_Ds_meet).2.1 48 = .ok (.return_, 1) := (by decide +kernel : decode prog_1_method_23_code 48 = .ok (.return_, 1))
theorem e_Ds_meet_48 (L : List Value) (g : px_G) : rn k_Ds_meet 48 L [] g = some (none, g) := rn_vret dd_Ds_meet_48 rfl
theorem c_Ds_commonMultiple (j0 : Int64) (j1 : Int64) (g : px_G) : cl k_Ds_commonMultiple [.long j0, .long j1] g = rn k_Ds_commonMultiple 0 [.long j0, .null, .long j1, .null] [] g := rfl
theorem dd_Ds_commonMultiple_0 : decode (px_rw k_Ds_commonMultiple).2.1 0 = .ok (.lload_n 0, 1) := (by decide +kernel : decode prog_1_method_61_code 0 = .ok (.lload_n 0, 1))
theorem e_Ds_commonMultiple_0 (a1 a2 a3 : Value) (x : Int64) (st : List Value) (g : px_G) : rn k_Ds_commonMultiple 0 [.long x, a1, a2, a3] st g = rn k_Ds_commonMultiple 1 [.long x, a1, a2, a3] (.long x :: st) g := rn_next dd_Ds_commonMultiple_0 rfl
theorem dd_Ds_commonMultiple_1 : decode (px_rw k_Ds_commonMultiple).2.1 1 = .ok (.lload_n 0, 1) := (by decide +kernel : decode prog_1_method_61_code 1 = .ok (.lload_n 0, 1))
theorem e_Ds_commonMultiple_1 (a1 a2 a3 : Value) (x : Int64) (st : List Value) (g : px_G) : rn k_Ds_commonMultiple 1 [.long x, a1, a2, a3] st g = rn k_Ds_commonMultiple 2 [.long x, a1, a2, a3] (.long x :: st) g := rn_next dd_Ds_commonMultiple_1 rfl
theorem dd_Ds_commonMultiple_2 : decode (px_rw k_Ds_commonMultiple).2.1 2 = .ok (.lload_n 2, 1) := (by decide +kernel : decode prog_1_method_61_code 2 = .ok (.lload_n 2, 1))
theorem e_Ds_commonMultiple_2 (a0 a1 a3 : Value) (x : Int64) (st : List Value) (g : px_G) : rn k_Ds_commonMultiple 2 [a0, a1, .long x, a3] st g = rn k_Ds_commonMultiple 3 [a0, a1, .long x, a3] (.long x :: st) g := rn_next dd_Ds_commonMultiple_2 rfl
theorem dd_Ds_commonMultiple_3 : decode (px_rw k_Ds_commonMultiple).2.1 3 = .ok (.invokestatic 378, 3) := (by decide +kernel : decode prog_1_method_61_code 3 = .ok (.invokestatic 378, 3))
theorem e_Ds_commonMultiple_3 (L : List Value) (j0 : Int64) (j1 : Int64) (j100 : Int64) (g : px_G) : rn k_Ds_commonMultiple 3 L [.long j1, .long j0, .long j100] g = bd (cl k_Ds_commonPart [.long j0, .long j1] g) (fun r g' => rn k_Ds_commonMultiple 6 L (r.toList ++ [.long j100]) g') := rn_callS (As := [.long j0, .long j1]) (rest := [.long j100]) dd_Ds_commonMultiple_3 rfl (by decide) rfl rfl (Nat.le_of_ble_eq_true rfl) (Nat.le_of_ble_eq_true rfl)
theorem dd_Ds_commonMultiple_6 : decode (px_rw k_Ds_commonMultiple).2.1 6 = .ok (.invokestatic 282, 3) := (by decide +kernel : decode prog_1_method_61_code 6 = .ok (.invokestatic 282, 3))
theorem e_Ds_commonMultiple_6 (L : List Value) (j0 : Int64) (j1 : Int64) (g : px_G) : rn k_Ds_commonMultiple 6 L [.long j1, .long j0] g = bd (cl k_Ds_div [.long j0, .long j1] g) (fun r g' => rn k_Ds_commonMultiple 9 L (r.toList ++ []) g') := rn_callS (As := [.long j0, .long j1]) (rest := []) dd_Ds_commonMultiple_6 rfl (by decide) rfl rfl (Nat.le_of_ble_eq_true rfl) (Nat.le_of_ble_eq_true rfl)
theorem dd_Ds_commonMultiple_9 : decode (px_rw k_Ds_commonMultiple).2.1 9 = .ok (.lload_n 2, 1) := (by decide +kernel : decode prog_1_method_61_code 9 = .ok (.lload_n 2, 1))
theorem e_Ds_commonMultiple_9 (a0 a1 a3 : Value) (x : Int64) (st : List Value) (g : px_G) : rn k_Ds_commonMultiple 9 [a0, a1, .long x, a3] st g = rn k_Ds_commonMultiple 10 [a0, a1, .long x, a3] (.long x :: st) g := rn_next dd_Ds_commonMultiple_9 rfl
theorem dd_Ds_commonMultiple_10 : decode (px_rw k_Ds_commonMultiple).2.1 10 = .ok (.lmul, 1) := (by decide +kernel : decode prog_1_method_61_code 10 = .ok (.lmul, 1))
theorem e_Ds_commonMultiple_10 (L : List Value) (x y : Int64) (st : List Value) (g : px_G) : rn k_Ds_commonMultiple 10 L (.long y :: .long x :: st) g = rn k_Ds_commonMultiple 11 L (.long (x * y) :: st) g := rn_next dd_Ds_commonMultiple_10 rfl
theorem dd_Ds_commonMultiple_11 : decode (px_rw k_Ds_commonMultiple).2.1 11 = .ok (.lreturn, 1) := (by decide +kernel : decode prog_1_method_61_code 11 = .ok (.lreturn, 1))
theorem e_Ds_commonMultiple_11 (L : List Value) (v : Int64) (g : px_G) : rn k_Ds_commonMultiple 11 L [.long v] g = some (some (.long v), g) := rn_lret dd_Ds_commonMultiple_11 rfl
theorem c_Ds_inCell (r0 : Nat) (i1 : Int32) (i2 : Int32) (g : px_G) : cl k_Ds_inCell [.ref r0, .int i1, .int i2] g = rn k_Ds_inCell 0 [.ref r0, .int i1, .int i2, .null, .null] [] g := rfl
theorem dd_Ds_inCell_0 : decode (px_rw k_Ds_inCell).2.1 0 = .ok (.aload_n 0, 1) := (by decide +kernel : decode prog_1_method_22_code 0 = .ok (.aload_n 0, 1))
theorem e_Ds_inCell_0 (a1 a2 a3 a4 : Value) (x : Nat) (st : List Value) (g : px_G) : rn k_Ds_inCell 0 [.ref x, a1, a2, a3, a4] st g = rn k_Ds_inCell 1 [.ref x, a1, a2, a3, a4] (.ref x :: st) g := rn_next dd_Ds_inCell_0 rfl
theorem dd_Ds_inCell_1 : decode (px_rw k_Ds_inCell).2.1 1 = .ok (.iload_n 1, 1) := (by decide +kernel : decode prog_1_method_22_code 1 = .ok (.iload_n 1, 1))
theorem e_Ds_inCell_1 (a0 a2 a3 a4 : Value) (x : Int32) (st : List Value) (g : px_G) : rn k_Ds_inCell 1 [a0, .int x, a2, a3, a4] st g = rn k_Ds_inCell 2 [a0, .int x, a2, a3, a4] (.int x :: st) g := rn_next dd_Ds_inCell_1 rfl
theorem dd_Ds_inCell_2 : decode (px_rw k_Ds_inCell).2.1 2 = .ok (.invokevirtual 290, 3) := (by decide +kernel : decode prog_1_method_22_code 2 = .ok (.invokevirtual 290, 3))
theorem e_Ds_inCell_2 (L : List Value) (i0 : Int32)  (T : TS)  : rn k_Ds_inCell 2 L [.int i0, .ref 0] (enc T) = bd (cl k_Ds_isSet [.ref 0, .int i0] (enc T)) (fun r g' => rn k_Ds_inCell 5 L (r.toList ++ []) g') := rn_callV (n := 13) (As := [.int i0]) (rest := []) dd_Ds_inCell_2 rfl (by decide) (by decide) rfl rfl (Nat.le_of_ble_eq_true rfl) (Nat.le_of_ble_eq_true rfl) rfl
theorem dd_Ds_inCell_5 : decode (px_rw k_Ds_inCell).2.1 5 = .ok (.ifCond .eq 19, 3) := (by decide +kernel : decode prog_1_method_22_code 5 = .ok (.ifCond .eq 19, 3))
theorem e_Ds_inCell_5 (L : List Value) (x : Int32) (st : List Value) (g : px_G) : rn k_Ds_inCell 5 L (.int x :: st) g = if x = 0 then rn k_Ds_inCell 24 L st g else rn k_Ds_inCell 8 L st g := rn_ifeq dd_Ds_inCell_5 (by decide)
theorem dd_Ds_inCell_8 : decode (px_rw k_Ds_inCell).2.1 8 = .ok (.aload_n 0, 1) := (by decide +kernel : decode prog_1_method_22_code 8 = .ok (.aload_n 0, 1))
theorem e_Ds_inCell_8 (a1 a2 a3 a4 : Value) (x : Nat) (st : List Value) (g : px_G) : rn k_Ds_inCell 8 [.ref x, a1, a2, a3, a4] st g = rn k_Ds_inCell 9 [.ref x, a1, a2, a3, a4] (.ref x :: st) g := rn_next dd_Ds_inCell_8 rfl
theorem dd_Ds_inCell_9 : decode (px_rw k_Ds_inCell).2.1 9 = .ok (.iload_n 2, 1) := (by decide +kernel : decode prog_1_method_22_code 9 = .ok (.iload_n 2, 1))
theorem e_Ds_inCell_9 (a0 a1 a3 a4 : Value) (x : Int32) (st : List Value) (g : px_G) : rn k_Ds_inCell 9 [a0, a1, .int x, a3, a4] st g = rn k_Ds_inCell 10 [a0, a1, .int x, a3, a4] (.int x :: st) g := rn_next dd_Ds_inCell_9 rfl
theorem dd_Ds_inCell_10 : decode (px_rw k_Ds_inCell).2.1 10 = .ok (.invokevirtual 129, 3) := (by decide +kernel : decode prog_1_method_22_code 10 = .ok (.invokevirtual 129, 3))
theorem e_Ds_inCell_10 (L : List Value) (i0 : Int32)  (T : TS)  : rn k_Ds_inCell 10 L [.int i0, .ref 0] (enc T) = bd (cl k_Ds_isInk [.ref 0, .int i0] (enc T)) (fun r g' => rn k_Ds_inCell 13 L (r.toList ++ []) g') := rn_callV (n := 13) (As := [.int i0]) (rest := []) dd_Ds_inCell_10 rfl (by decide) (by decide) rfl rfl (Nat.le_of_ble_eq_true rfl) (Nat.le_of_ble_eq_true rfl) rfl
theorem dd_Ds_inCell_13 : decode (px_rw k_Ds_inCell).2.1 13 = .ok (.ifCond .eq 11, 3) := (by decide +kernel : decode prog_1_method_22_code 13 = .ok (.ifCond .eq 11, 3))
theorem e_Ds_inCell_13 (L : List Value) (x : Int32) (st : List Value) (g : px_G) : rn k_Ds_inCell 13 L (.int x :: st) g = if x = 0 then rn k_Ds_inCell 24 L st g else rn k_Ds_inCell 16 L st g := rn_ifeq dd_Ds_inCell_13 (by decide)
theorem dd_Ds_inCell_16 : decode (px_rw k_Ds_inCell).2.1 16 = .ok (.iload_n 1, 1) := (by decide +kernel : decode prog_1_method_22_code 16 = .ok (.iload_n 1, 1))
theorem e_Ds_inCell_16 (a0 a2 a3 a4 : Value) (x : Int32) (st : List Value) (g : px_G) : rn k_Ds_inCell 16 [a0, .int x, a2, a3, a4] st g = rn k_Ds_inCell 17 [a0, .int x, a2, a3, a4] (.int x :: st) g := rn_next dd_Ds_inCell_16 rfl
theorem dd_Ds_inCell_17 : decode (px_rw k_Ds_inCell).2.1 17 = .ok (.iload_n 2, 1) := (by decide +kernel : decode prog_1_method_22_code 17 = .ok (.iload_n 2, 1))
theorem e_Ds_inCell_17 (a0 a1 a3 a4 : Value) (x : Int32) (st : List Value) (g : px_G) : rn k_Ds_inCell 17 [a0, a1, .int x, a3, a4] st g = rn k_Ds_inCell 18 [a0, a1, .int x, a3, a4] (.int x :: st) g := rn_next dd_Ds_inCell_17 rfl
theorem dd_Ds_inCell_18 : decode (px_rw k_Ds_inCell).2.1 18 = .ok (.ishr, 1) := (by decide +kernel : decode prog_1_method_22_code 18 = .ok (.ishr, 1))
theorem e_Ds_inCell_18 (L : List Value) (x y : Int32) (st : List Value) (g : px_G) : rn k_Ds_inCell 18 L (.int y :: .int x :: st) g = rn k_Ds_inCell 19 L (.int (x >>> (y &&& 31)) :: st) g := rn_next dd_Ds_inCell_18 rfl
theorem dd_Ds_inCell_19 : decode (px_rw k_Ds_inCell).2.1 19 = .ok (.iconst 1, 1) := (by decide +kernel : decode prog_1_method_22_code 19 = .ok (.iconst 1, 1))
theorem e_Ds_inCell_19 (L st : List Value) (g : px_G) : rn k_Ds_inCell 19 L st g = rn k_Ds_inCell 20 L (.int 1 :: st) g := rn_ipush (i := .iconst 1) dd_Ds_inCell_19 rfl rfl (by decide)
theorem dd_Ds_inCell_20 : decode (px_rw k_Ds_inCell).2.1 20 = .ok (.iand, 1) := (by decide +kernel : decode prog_1_method_22_code 20 = .ok (.iand, 1))
theorem e_Ds_inCell_20 (L : List Value) (x y : Int32) (st : List Value) (g : px_G) : rn k_Ds_inCell 20 L (.int y :: .int x :: st) g = rn k_Ds_inCell 21 L (.int (x &&& y) :: st) g := rn_next dd_Ds_inCell_20 rfl
theorem dd_Ds_inCell_21 : decode (px_rw k_Ds_inCell).2.1 21 = .ok (.ifCond .ne 7, 3) := (by decide +kernel : decode prog_1_method_22_code 21 = .ok (.ifCond .ne 7, 3))
theorem e_Ds_inCell_21 (L : List Value) (x : Int32) (st : List Value) (g : px_G) : rn k_Ds_inCell 21 L (.int x :: st) g = if x = 0 then rn k_Ds_inCell 24 L st g else rn k_Ds_inCell 28 L st g := rn_ifne dd_Ds_inCell_21 (by decide)
theorem dd_Ds_inCell_24 : decode (px_rw k_Ds_inCell).2.1 24 = .ok (.ldc2_w 274, 3) := (by decide +kernel : decode prog_1_method_22_code 24 = .ok (.ldc2_w 274, 3))
theorem e_Ds_inCell_24 (L st : List Value) (g : px_G) : rn k_Ds_inCell 24 L st g = rn k_Ds_inCell 27 L (.long (-1000000) :: st) g := rn_ldc (i := .ldc2_w 274) (w := .long (Int64.ofInt (-1000000))) dd_Ds_inCell_24 rfl rfl rfl rfl rfl (by decide)
theorem dd_Ds_inCell_27 : decode (px_rw k_Ds_inCell).2.1 27 = .ok (.lreturn, 1) := (by decide +kernel : decode prog_1_method_22_code 27 = .ok (.lreturn, 1))
theorem e_Ds_inCell_27 (L : List Value) (v : Int64) (g : px_G) : rn k_Ds_inCell 27 L [.long v] g = some (some (.long v), g) := rn_lret dd_Ds_inCell_27 rfl
theorem dd_Ds_inCell_28 : decode (px_rw k_Ds_inCell).2.1 28 = .ok (.aload_n 0, 1) := (by decide +kernel : decode prog_1_method_22_code 28 = .ok (.aload_n 0, 1))
theorem e_Ds_inCell_28 (a1 a2 a3 a4 : Value) (x : Nat) (st : List Value) (g : px_G) : rn k_Ds_inCell 28 [.ref x, a1, a2, a3, a4] st g = rn k_Ds_inCell 29 [.ref x, a1, a2, a3, a4] (.ref x :: st) g := rn_next dd_Ds_inCell_28 rfl
theorem dd_Ds_inCell_29 : decode (px_rw k_Ds_inCell).2.1 29 = .ok (.iload_n 1, 1) := (by decide +kernel : decode prog_1_method_22_code 29 = .ok (.iload_n 1, 1))
theorem e_Ds_inCell_29 (a0 a2 a3 a4 : Value) (x : Int32) (st : List Value) (g : px_G) : rn k_Ds_inCell 29 [a0, .int x, a2, a3, a4] st g = rn k_Ds_inCell 30 [a0, .int x, a2, a3, a4] (.int x :: st) g := rn_next dd_Ds_inCell_29 rfl
theorem dd_Ds_inCell_30 : decode (px_rw k_Ds_inCell).2.1 30 = .ok (.invokevirtual 293, 3) := (by decide +kernel : decode prog_1_method_22_code 30 = .ok (.invokevirtual 293, 3))
theorem e_Ds_inCell_30 (L : List Value) (i0 : Int32)  (T : TS)  : rn k_Ds_inCell 30 L [.int i0, .ref 0] (enc T) = bd (cl k_Ds_meet [.ref 0, .int i0] (enc T)) (fun r g' => rn k_Ds_inCell 33 L (r.toList ++ []) g') := rn_callV (n := 13) (As := [.int i0]) (rest := []) dd_Ds_inCell_30 rfl (by decide) (by decide) rfl rfl (Nat.le_of_ble_eq_true rfl) (Nat.le_of_ble_eq_true rfl) rfl
theorem dd_Ds_inCell_33 : decode (px_rw k_Ds_inCell).2.1 33 = .ok (.aload_n 0, 1) := (by decide +kernel : decode prog_1_method_22_code 33 = .ok (.aload_n 0, 1))
theorem e_Ds_inCell_33 (a1 a2 a3 a4 : Value) (x : Nat) (st : List Value) (g : px_G) : rn k_Ds_inCell 33 [.ref x, a1, a2, a3, a4] st g = rn k_Ds_inCell 34 [.ref x, a1, a2, a3, a4] (.ref x :: st) g := rn_next dd_Ds_inCell_33 rfl
theorem dd_Ds_inCell_34 : decode (px_rw k_Ds_inCell).2.1 34 = .ok (.getfield 45, 3) := (by decide +kernel : decode prog_1_method_22_code 34 = .ok (.getfield 45, 3))
theorem e_Ds_inCell_34 (L st : List Value) (T : TS) : rn k_Ds_inCell 34 L (.ref 0 :: st) (enc T) = rn k_Ds_inCell 37 L (.ref 12 :: st) (enc T) := rn_getO (n := 13) dd_Ds_inCell_34 rfl (by decide) (by decide) (by decide) rfl rfl
theorem dd_Ds_inCell_37 : decode (px_rw k_Ds_inCell).2.1 37 = .ok (.invokevirtual 296, 3) := (by decide +kernel : decode prog_1_method_22_code 37 = .ok (.invokevirtual 296, 3))
theorem e_Ds_inCell_37 (L : List Value)  (p : Nat) (T : TS) (hp : sh p = (102, 3)) : rn k_Ds_inCell 37 L [.ref p] (enc T) = bd (cl k_Grid_supercell [.ref p] (enc T)) (fun r g' => rn k_Ds_inCell 40 L (r.toList ++ []) g') := rn_callV (n := 3) (As := []) (rest := []) dd_Ds_inCell_37 rfl (by decide) (by decide) rfl rfl (Nat.le_of_ble_eq_true rfl) (Nat.le_of_ble_eq_true rfl) hp
theorem dd_Ds_inCell_40 : decode (px_rw k_Ds_inCell).2.1 40 = .ok (.lstore_n 3, 1) := (by decide +kernel : decode prog_1_method_22_code 40 = .ok (.lstore_n 3, 1))
theorem e_Ds_inCell_40 (a0 a1 a2 a3 a4 : Value) (x : Int64) (st : List Value) (g : px_G) : rn k_Ds_inCell 40 [a0, a1, a2, a3, a4] (.long x :: st) g = rn k_Ds_inCell 41 [a0, a1, px_kill a2, .long x, .null] st g := rn_next dd_Ds_inCell_40 rfl
theorem dd_Ds_inCell_41 : decode (px_rw k_Ds_inCell).2.1 41 = .ok (.lload_n 3, 1) := (by decide +kernel : decode prog_1_method_22_code 41 = .ok (.lload_n 3, 1))
theorem e_Ds_inCell_41 (a0 a1 a2 a4 : Value) (x : Int64) (st : List Value) (g : px_G) : rn k_Ds_inCell 41 [a0, a1, a2, .long x, a4] st g = rn k_Ds_inCell 42 [a0, a1, a2, .long x, a4] (.long x :: st) g := rn_next dd_Ds_inCell_41 rfl
theorem dd_Ds_inCell_42 : decode (px_rw k_Ds_inCell).2.1 42 = .ok (.lload_n 3, 1) := (by decide +kernel : decode prog_1_method_22_code 42 = .ok (.lload_n 3, 1))
theorem e_Ds_inCell_42 (a0 a1 a2 a4 : Value) (x : Int64) (st : List Value) (g : px_G) : rn k_Ds_inCell 42 [a0, a1, a2, .long x, a4] st g = rn k_Ds_inCell 43 [a0, a1, a2, .long x, a4] (.long x :: st) g := rn_next dd_Ds_inCell_42 rfl
theorem dd_Ds_inCell_43 : decode (px_rw k_Ds_inCell).2.1 43 = .ok (.lmul, 1) := (by decide +kernel : decode prog_1_method_22_code 43 = .ok (.lmul, 1))
theorem e_Ds_inCell_43 (L : List Value) (x y : Int64) (st : List Value) (g : px_G) : rn k_Ds_inCell 43 L (.long y :: .long x :: st) g = rn k_Ds_inCell 44 L (.long (x * y) :: st) g := rn_next dd_Ds_inCell_43 rfl
theorem dd_Ds_inCell_44 : decode (px_rw k_Ds_inCell).2.1 44 = .ok (.aload_n 0, 1) := (by decide +kernel : decode prog_1_method_22_code 44 = .ok (.aload_n 0, 1))
theorem e_Ds_inCell_44 (a1 a2 a3 a4 : Value) (x : Nat) (st : List Value) (g : px_G) : rn k_Ds_inCell 44 [.ref x, a1, a2, a3, a4] st g = rn k_Ds_inCell 45 [.ref x, a1, a2, a3, a4] (.ref x :: st) g := rn_next dd_Ds_inCell_44 rfl
theorem dd_Ds_inCell_45 : decode (px_rw k_Ds_inCell).2.1 45 = .ok (.getfield 27, 3) := (by decide +kernel : decode prog_1_method_22_code 45 = .ok (.getfield 27, 3))
theorem e_Ds_inCell_45 (L st : List Value) (T : TS) : rn k_Ds_inCell 45 L (.ref 0 :: st) (enc T) = rn k_Ds_inCell 48 L (.ref 5 :: st) (enc T) := rn_getA (n := 13) dd_Ds_inCell_45 rfl (by decide) (by decide) (by decide) rfl rfl
theorem dd_Ds_inCell_48 : decode (px_rw k_Ds_inCell).2.1 48 = .ok (.iload_n 2, 1) := (by decide +kernel : decode prog_1_method_22_code 48 = .ok (.iload_n 2, 1))
theorem e_Ds_inCell_48 (a0 a1 a3 a4 : Value) (x : Int32) (st : List Value) (g : px_G) : rn k_Ds_inCell 48 [a0, a1, .int x, a3, a4] st g = rn k_Ds_inCell 49 [a0, a1, .int x, a3, a4] (.int x :: st) g := rn_next dd_Ds_inCell_48 rfl
theorem dd_Ds_inCell_49 : decode (px_rw k_Ds_inCell).2.1 49 = .ok (.aaload, 1) := (by decide +kernel : decode prog_1_method_22_code 49 = .ok (.aaload, 1))
theorem e_Ds_inCell_49 (L : List Value) (i : Int32) (p : Nat) (st : List Value) (T : TS) (hp : (sh p).1 = 3) : rn k_Ds_inCell 49 L (.int i :: .ref p :: st) (enc T) = if px_in i (sh p).2 then rn k_Ds_inCell 50 L (.ref (T.2.2.1 i.toNatClampNeg) :: st) (enc T) else none := rn_aald dd_Ds_inCell_49 (Prod.ext hp rfl)
theorem dd_Ds_inCell_50 : decode (px_rw k_Ds_inCell).2.1 50 = .ok (.getfield 154, 3) := (by decide +kernel : decode prog_1_method_22_code 50 = .ok (.getfield 154, 3))
theorem e_Ds_inCell_50 (L : List Value) (p : Nat) (st : List Value) (T : TS) (hp : sh p = (104, 18)) : rn k_Ds_inCell 50 L (.ref p :: st) (enc T) = rn k_Ds_inCell 53 L (.int (T.1 p 2) :: st) (enc T) := rn_getI (n := 18) dd_Ds_inCell_50 rfl (by decide) (by decide) (by decide) rfl hp
theorem dd_Ds_inCell_53 : decode (px_rw k_Ds_inCell).2.1 53 = .ok (.i2l, 1) := (by decide +kernel : decode prog_1_method_22_code 53 = .ok (.i2l, 1))
theorem e_Ds_inCell_53 (L : List Value) (x : Int32) (st : List Value) (g : px_G) : rn k_Ds_inCell 53 L (.int x :: st) g = rn k_Ds_inCell 54 L (.long x.toInt64 :: st) g := rn_next dd_Ds_inCell_53 rfl
theorem dd_Ds_inCell_54 : decode (px_rw k_Ds_inCell).2.1 54 = .ok (.invokestatic 282, 3) := (by decide +kernel : decode prog_1_method_22_code 54 = .ok (.invokestatic 282, 3))
theorem e_Ds_inCell_54 (L : List Value) (j0 : Int64) (j1 : Int64) (g : px_G) : rn k_Ds_inCell 54 L [.long j1, .long j0] g = bd (cl k_Ds_div [.long j0, .long j1] g) (fun r g' => rn k_Ds_inCell 57 L (r.toList ++ []) g') := rn_callS (As := [.long j0, .long j1]) (rest := []) dd_Ds_inCell_54 rfl (by decide) rfl rfl (Nat.le_of_ble_eq_true rfl) (Nat.le_of_ble_eq_true rfl)
theorem dd_Ds_inCell_57 : decode (px_rw k_Ds_inCell).2.1 57 = .ok (.lreturn, 1) := (by decide +kernel : decode prog_1_method_22_code 57 = .ok (.lreturn, 1))
theorem e_Ds_inCell_57 (L : List Value) (v : Int64) (g : px_G) : rn k_Ds_inCell 57 L [.long v] g = some (some (.long v), g) := rn_lret dd_Ds_inCell_57 rfl
theorem c_Ds_overlay (r0 : Nat) (i1 : Int32) (i2 : Int32) (g : px_G) : cl k_Ds_overlay [.ref r0, .int i1, .int i2] g = rn k_Ds_overlay 0 [.ref r0, .int i1, .int i2] [] g := rfl
theorem dd_Ds_overlay_0 : decode (px_rw k_Ds_overlay).2.1 0 = .ok (.iload_n 1, 1) := (by decide +kernel : decode prog_1_method_24_code 0 = .ok (.iload_n 1, 1))
theorem e_Ds_overlay_0 (a0 a2 : Value) (x : Int32) (st : List Value) (g : px_G) : rn k_Ds_overlay 0 [a0, .int x, a2] st g = rn k_Ds_overlay 1 [a0, .int x, a2] (.int x :: st) g := rn_next dd_Ds_overlay_0 rfl
theorem dd_Ds_overlay_1 : decode (px_rw k_Ds_overlay).2.1 1 = .ok (.iload_n 2, 1) := (by decide +kernel : decode prog_1_method_24_code 1 = .ok (.iload_n 2, 1))
theorem e_Ds_overlay_1 (a0 a1 : Value) (x : Int32) (st : List Value) (g : px_G) : rn k_Ds_overlay 1 [a0, a1, .int x] st g = rn k_Ds_overlay 2 [a0, a1, .int x] (.int x :: st) g := rn_next dd_Ds_overlay_1 rfl
theorem dd_Ds_overlay_2 : decode (px_rw k_Ds_overlay).2.1 2 = .ok (.invokestatic 178, 3) := (by decide +kernel : decode prog_1_method_24_code 2 = .ok (.invokestatic 178, 3))
theorem e_Ds_overlay_2 (L : List Value) (i0 : Int32) (i1 : Int32) (g : px_G) : rn k_Ds_overlay 2 L [.int i1, .int i0] g = bd (cl k_Ds_isPixel [.int i0, .int i1] g) (fun r g' => rn k_Ds_overlay 5 L (r.toList ++ []) g') := rn_callS (As := [.int i0, .int i1]) (rest := []) dd_Ds_overlay_2 rfl (by decide) rfl rfl (Nat.le_of_ble_eq_true rfl) (Nat.le_of_ble_eq_true rfl)
theorem dd_Ds_overlay_5 : decode (px_rw k_Ds_overlay).2.1 5 = .ok (.ifCond .ne 5, 3) := (by decide +kernel : decode prog_1_method_24_code 5 = .ok (.ifCond .ne 5, 3))
theorem e_Ds_overlay_5 (L : List Value) (x : Int32) (st : List Value) (g : px_G) : rn k_Ds_overlay 5 L (.int x :: st) g = if x = 0 then rn k_Ds_overlay 8 L st g else rn k_Ds_overlay 10 L st g := rn_ifne dd_Ds_overlay_5 (by decide)
theorem dd_Ds_overlay_8 : decode (px_rw k_Ds_overlay).2.1 8 = .ok (.iconst (-1), 1) := (by decide +kernel : decode prog_1_method_24_code 8 = .ok (.iconst (-1), 1))
theorem e_Ds_overlay_8 (L st : List Value) (g : px_G) : rn k_Ds_overlay 8 L st g = rn k_Ds_overlay 9 L (.int (-1) :: st) g := rn_ipush (i := .iconst (-1)) dd_Ds_overlay_8 rfl rfl (by decide)
theorem dd_Ds_overlay_9 : decode (px_rw k_Ds_overlay).2.1 9 = .ok (.ireturn, 1) := (by decide +kernel : decode prog_1_method_24_code 9 = .ok (.ireturn, 1))
theorem e_Ds_overlay_9 (L : List Value) (v : Int32) (g : px_G) : rn k_Ds_overlay 9 L [.int v] g = some (some (.int v), g) := rn_iret dd_Ds_overlay_9 rfl
theorem dd_Ds_overlay_10 : decode (px_rw k_Ds_overlay).2.1 10 = .ok (.aload_n 0, 1) := (by decide +kernel : decode prog_1_method_24_code 10 = .ok (.aload_n 0, 1))
theorem e_Ds_overlay_10 (a1 a2 : Value) (x : Nat) (st : List Value) (g : px_G) : rn k_Ds_overlay 10 [.ref x, a1, a2] st g = rn k_Ds_overlay 11 [.ref x, a1, a2] (.ref x :: st) g := rn_next dd_Ds_overlay_10 rfl
theorem dd_Ds_overlay_11 : decode (px_rw k_Ds_overlay).2.1 11 = .ok (.iload_n 1, 1) := (by decide +kernel : decode prog_1_method_24_code 11 = .ok (.iload_n 1, 1))
theorem e_Ds_overlay_11 (a0 a2 : Value) (x : Int32) (st : List Value) (g : px_G) : rn k_Ds_overlay 11 [a0, .int x, a2] st g = rn k_Ds_overlay 12 [a0, .int x, a2] (.int x :: st) g := rn_next dd_Ds_overlay_11 rfl
theorem dd_Ds_overlay_12 : decode (px_rw k_Ds_overlay).2.1 12 = .ok (.iload_n 2, 1) := (by decide +kernel : decode prog_1_method_24_code 12 = .ok (.iload_n 2, 1))
theorem e_Ds_overlay_12 (a0 a1 : Value) (x : Int32) (st : List Value) (g : px_G) : rn k_Ds_overlay 12 [a0, a1, .int x] st g = rn k_Ds_overlay 13 [a0, a1, .int x] (.int x :: st) g := rn_next dd_Ds_overlay_12 rfl
theorem dd_Ds_overlay_13 : decode (px_rw k_Ds_overlay).2.1 13 = .ok (.invokevirtual 305, 3) := (by decide +kernel : decode prog_1_method_24_code 13 = .ok (.invokevirtual 305, 3))
theorem e_Ds_overlay_13 (L : List Value) (i0 : Int32) (i1 : Int32)  (T : TS)  : rn k_Ds_overlay 13 L [.int i1, .int i0, .ref 0] (enc T) = bd (cl k_Ds_startRow [.ref 0, .int i0, .int i1] (enc T)) (fun r g' => rn k_Ds_overlay 16 L (r.toList ++ []) g') := rn_callV (n := 13) (As := [.int i0, .int i1]) (rest := []) dd_Ds_overlay_13 rfl (by decide) (by decide) rfl rfl (Nat.le_of_ble_eq_true rfl) (Nat.le_of_ble_eq_true rfl) rfl
theorem dd_Ds_overlay_16 : decode (px_rw k_Ds_overlay).2.1 16 = .ok (.aload_n 0, 1) := (by decide +kernel : decode prog_1_method_24_code 16 = .ok (.aload_n 0, 1))
theorem e_Ds_overlay_16 (a1 a2 : Value) (x : Nat) (st : List Value) (g : px_G) : rn k_Ds_overlay 16 [.ref x, a1, a2] st g = rn k_Ds_overlay 17 [.ref x, a1, a2] (.ref x :: st) g := rn_next dd_Ds_overlay_16 rfl
theorem dd_Ds_overlay_17 : decode (px_rw k_Ds_overlay).2.1 17 = .ok (.invokevirtual 306, 3) := (by decide +kernel : decode prog_1_method_24_code 17 = .ok (.invokevirtual 306, 3))
theorem e_Ds_overlay_17 (L : List Value)   (T : TS)  : rn k_Ds_overlay 17 L [.ref 0] (enc T) = bd (cl k_Ds_passPixel [.ref 0] (enc T)) (fun r g' => rn k_Ds_overlay 20 L (r.toList ++ []) g') := rn_callV (n := 13) (As := []) (rest := []) dd_Ds_overlay_17 rfl (by decide) (by decide) rfl rfl (Nat.le_of_ble_eq_true rfl) (Nat.le_of_ble_eq_true rfl) rfl
theorem dd_Ds_overlay_20 : decode (px_rw k_Ds_overlay).2.1 20 = .ok (.ireturn, 1) := (by decide +kernel : decode prog_1_method_24_code 20 = .ok (.ireturn, 1))
theorem e_Ds_overlay_20 (L : List Value) (v : Int32) (g : px_G) : rn k_Ds_overlay 20 L [.int v] g = some (some (.int v), g) := rn_iret dd_Ds_overlay_20 rfl
theorem c_Ds_startRow (r0 : Nat) (i1 : Int32) (i2 : Int32) (g : px_G) : cl k_Ds_startRow [.ref r0, .int i1, .int i2] g = rn k_Ds_startRow 0 [.ref r0, .int i1, .int i2, .null] [] g := rfl
theorem dd_Ds_startRow_0 : decode (px_rw k_Ds_startRow).2.1 0 = .ok (.iconst 0, 1) := (by decide +kernel : decode prog_1_method_28_code 0 = .ok (.iconst 0, 1))
theorem e_Ds_startRow_0 (L st : List Value) (g : px_G) : rn k_Ds_startRow 0 L st g = rn k_Ds_startRow 1 L (.int 0 :: st) g := rn_ipush (i := .iconst 0) dd_Ds_startRow_0 rfl rfl (by decide)
theorem dd_Ds_startRow_1 : decode (px_rw k_Ds_startRow).2.1 1 = .ok (.istore_n 3, 1) := (by decide +kernel : decode prog_1_method_28_code 1 = .ok (.istore_n 3, 1))
theorem e_Ds_startRow_1 (a0 a1 a2 a3 : Value) (x : Int32) (st : List Value) (g : px_G) : rn k_Ds_startRow 1 [a0, a1, a2, a3] (.int x :: st) g = rn k_Ds_startRow 2 [a0, a1, px_kill a2, .int x] st g := rn_next dd_Ds_startRow_1 rfl
theorem dd_Ds_startRow_2 : decode (px_rw k_Ds_startRow).2.1 2 = .ok (.iload_n 3, 1) := (by decide +kernel : decode prog_1_method_28_code 2 = .ok (.iload_n 3, 1))
theorem e_Ds_startRow_2 (a0 a1 a2 : Value) (x : Int32) (st : List Value) (g : px_G) : rn k_Ds_startRow 2 [a0, a1, a2, .int x] st g = rn k_Ds_startRow 3 [a0, a1, a2, .int x] (.int x :: st) g := rn_next dd_Ds_startRow_2 rfl
theorem dd_Ds_startRow_3 : decode (px_rw k_Ds_startRow).2.1 3 = .ok (.aload_n 0, 1) := (by decide +kernel : decode prog_1_method_28_code 3 = .ok (.aload_n 0, 1))
theorem e_Ds_startRow_3 (a1 a2 a3 : Value) (x : Nat) (st : List Value) (g : px_G) : rn k_Ds_startRow 3 [.ref x, a1, a2, a3] st g = rn k_Ds_startRow 4 [.ref x, a1, a2, a3] (.ref x :: st) g := rn_next dd_Ds_startRow_3 rfl
theorem dd_Ds_startRow_4 : decode (px_rw k_Ds_startRow).2.1 4 = .ok (.getfield 96, 3) := (by decide +kernel : decode prog_1_method_28_code 4 = .ok (.getfield 96, 3))
theorem e_Ds_startRow_4 (L st : List Value) (T : TS) : rn k_Ds_startRow 4 L (.ref 0 :: st) (enc T) = rn k_Ds_startRow 7 L (.int (T.1 0 3) :: st) (enc T) := rn_getI (n := 13) dd_Ds_startRow_4 rfl (by decide) (by decide) (by decide) rfl rfl
theorem dd_Ds_startRow_7 : decode (px_rw k_Ds_startRow).2.1 7 = .ok (.if_icmp .ge 20, 3) := (by decide +kernel : decode prog_1_method_28_code 7 = .ok (.if_icmp .ge 20, 3))
theorem e_Ds_startRow_7 (L : List Value) (x y : Int32) (st : List Value) (g : px_G) : rn k_Ds_startRow 7 L (.int y :: .int x :: st) g = if y ≤ x then rn k_Ds_startRow 27 L st g else rn k_Ds_startRow 10 L st g := rn_icge dd_Ds_startRow_7 (by decide)
theorem dd_Ds_startRow_10 : decode (px_rw k_Ds_startRow).2.1 10 = .ok (.aload_n 0, 1) := (by decide +kernel : decode prog_1_method_28_code 10 = .ok (.aload_n 0, 1))
theorem e_Ds_startRow_10 (a1 a2 a3 : Value) (x : Nat) (st : List Value) (g : px_G) : rn k_Ds_startRow 10 [.ref x, a1, a2, a3] st g = rn k_Ds_startRow 11 [.ref x, a1, a2, a3] (.ref x :: st) g := rn_next dd_Ds_startRow_10 rfl
theorem dd_Ds_startRow_11 : decode (px_rw k_Ds_startRow).2.1 11 = .ok (.getfield 27, 3) := (by decide +kernel : decode prog_1_method_28_code 11 = .ok (.getfield 27, 3))
theorem e_Ds_startRow_11 (L st : List Value) (T : TS) : rn k_Ds_startRow 11 L (.ref 0 :: st) (enc T) = rn k_Ds_startRow 14 L (.ref 5 :: st) (enc T) := rn_getA (n := 13) dd_Ds_startRow_11 rfl (by decide) (by decide) (by decide) rfl rfl
theorem dd_Ds_startRow_14 : decode (px_rw k_Ds_startRow).2.1 14 = .ok (.iload_n 3, 1) := (by decide +kernel : decode prog_1_method_28_code 14 = .ok (.iload_n 3, 1))
theorem e_Ds_startRow_14 (a0 a1 a2 : Value) (x : Int32) (st : List Value) (g : px_G) : rn k_Ds_startRow 14 [a0, a1, a2, .int x] st g = rn k_Ds_startRow 15 [a0, a1, a2, .int x] (.int x :: st) g := rn_next dd_Ds_startRow_14 rfl
theorem dd_Ds_startRow_15 : decode (px_rw k_Ds_startRow).2.1 15 = .ok (.aaload, 1) := (by decide +kernel : decode prog_1_method_28_code 15 = .ok (.aaload, 1))
theorem e_Ds_startRow_15 (L : List Value) (i : Int32) (p : Nat) (st : List Value) (T : TS) (hp : (sh p).1 = 3) : rn k_Ds_startRow 15 L (.int i :: .ref p :: st) (enc T) = if px_in i (sh p).2 then rn k_Ds_startRow 16 L (.ref (T.2.2.1 i.toNatClampNeg) :: st) (enc T) else none := rn_aald dd_Ds_startRow_15 (Prod.ext hp rfl)
theorem dd_Ds_startRow_16 : decode (px_rw k_Ds_startRow).2.1 16 = .ok (.iload_n 1, 1) := (by decide +kernel : decode prog_1_method_28_code 16 = .ok (.iload_n 1, 1))
theorem e_Ds_startRow_16 (a0 a2 a3 : Value) (x : Int32) (st : List Value) (g : px_G) : rn k_Ds_startRow 16 [a0, .int x, a2, a3] st g = rn k_Ds_startRow 17 [a0, .int x, a2, a3] (.int x :: st) g := rn_next dd_Ds_startRow_16 rfl
theorem dd_Ds_startRow_17 : decode (px_rw k_Ds_startRow).2.1 17 = .ok (.iload_n 2, 1) := (by decide +kernel : decode prog_1_method_28_code 17 = .ok (.iload_n 2, 1))
theorem e_Ds_startRow_17 (a0 a1 a3 : Value) (x : Int32) (st : List Value) (g : px_G) : rn k_Ds_startRow 17 [a0, a1, .int x, a3] st g = rn k_Ds_startRow 18 [a0, a1, .int x, a3] (.int x :: st) g := rn_next dd_Ds_startRow_17 rfl
theorem dd_Ds_startRow_18 : decode (px_rw k_Ds_startRow).2.1 18 = .ok (.invokevirtual 215, 3) := (by decide +kernel : decode prog_1_method_28_code 18 = .ok (.invokevirtual 215, 3))
theorem e_Ds_startRow_18 (L : List Value) (i0 : Int32) (i1 : Int32) (p : Nat) (T : TS) (hp : sh p = (104, 18)) : rn k_Ds_startRow 18 L [.int i1, .int i0, .ref p] (enc T) = bd (cl k_Ink_startRow [.ref p, .int i0, .int i1] (enc T)) (fun r g' => rn k_Ds_startRow 21 L (r.toList ++ []) g') := rn_callV (n := 18) (As := [.int i0, .int i1]) (rest := []) dd_Ds_startRow_18 rfl (by decide) (by decide) rfl rfl (Nat.le_of_ble_eq_true rfl) (Nat.le_of_ble_eq_true rfl) hp
theorem dd_Ds_startRow_21 : decode (px_rw k_Ds_startRow).2.1 21 = .ok (.iinc 3 1, 3) := (by decide +kernel : decode prog_1_method_28_code 21 = .ok (.iinc 3 1, 3))
theorem e_Ds_startRow_21 (a0 a1 a2 : Value) (x : Int32) (st : List Value) (g : px_G) : rn k_Ds_startRow 21 [a0, a1, a2, .int x] st g = rn k_Ds_startRow 24 [a0, a1, px_kill a2, .int (x + 1)] st g := rn_next dd_Ds_startRow_21 rfl
theorem dd_Ds_startRow_24 : decode (px_rw k_Ds_startRow).2.1 24 = .ok (.goto (-22), 3) := (by decide +kernel : decode prog_1_method_28_code 24 = .ok (.goto (-22), 3))
theorem e_Ds_startRow_24 (L st : List Value) (g : px_G) : rn k_Ds_startRow 24 L st g = rn k_Ds_startRow 2 L st g := rn_goto dd_Ds_startRow_24 (by decide)
theorem dd_Ds_startRow_27 : decode (px_rw k_Ds_startRow).2.1 27 = .ok (.return_, 1) := (by decide +kernel : decode prog_1_method_28_code 27 = .ok (.return_, 1))
theorem e_Ds_startRow_27 (L : List Value) (g : px_G) : rn k_Ds_startRow 27 L [] g = some (none, g) := rn_vret dd_Ds_startRow_27 rfl
theorem c_Ds_passPixel (r0 : Nat) (g : px_G) : cl k_Ds_passPixel [.ref r0] g = rn k_Ds_passPixel 0 [.ref r0, .null, .null] [] g := rfl
theorem dd_Ds_passPixel_0 : decode (px_rw k_Ds_passPixel).2.1 0 = .ok (.iconst 0, 1) := (by decide +kernel : decode prog_1_method_29_code 0 = .ok (.iconst 0, 1))
theorem e_Ds_passPixel_0 (L st : List Value) (g : px_G) : rn k_Ds_passPixel 0 L st g = rn k_Ds_passPixel 1 L (.int 0 :: st) g := rn_ipush (i := .iconst 0) dd_Ds_passPixel_0 rfl rfl (by decide)
theorem dd_Ds_passPixel_1 : decode (px_rw k_Ds_passPixel).2.1 1 = .ok (.istore_n 1, 1) := (by decide +kernel : decode prog_1_method_29_code 1 = .ok (.istore_n 1, 1))
theorem e_Ds_passPixel_1 (a0 a1 a2 : Value) (x : Int32) (st : List Value) (g : px_G) : rn k_Ds_passPixel 1 [a0, a1, a2] (.int x :: st) g = rn k_Ds_passPixel 2 [px_kill a0, .int x, a2] st g := rn_next dd_Ds_passPixel_1 rfl
theorem dd_Ds_passPixel_2 : decode (px_rw k_Ds_passPixel).2.1 2 = .ok (.iconst 0, 1) := (by decide +kernel : decode prog_1_method_29_code 2 = .ok (.iconst 0, 1))
theorem e_Ds_passPixel_2 (L st : List Value) (g : px_G) : rn k_Ds_passPixel 2 L st g = rn k_Ds_passPixel 3 L (.int 0 :: st) g := rn_ipush (i := .iconst 0) dd_Ds_passPixel_2 rfl rfl (by decide)
theorem dd_Ds_passPixel_3 : decode (px_rw k_Ds_passPixel).2.1 3 = .ok (.istore_n 2, 1) := (by decide +kernel : decode prog_1_method_29_code 3 = .ok (.istore_n 2, 1))
theorem e_Ds_passPixel_3 (a0 a1 a2 : Value) (x : Int32) (st : List Value) (g : px_G) : rn k_Ds_passPixel 3 [a0, a1, a2] (.int x :: st) g = rn k_Ds_passPixel 4 [a0, px_kill a1, .int x] st g := rn_next dd_Ds_passPixel_3 rfl
theorem dd_Ds_passPixel_4 : decode (px_rw k_Ds_passPixel).2.1 4 = .ok (.iload_n 2, 1) := (by decide +kernel : decode prog_1_method_29_code 4 = .ok (.iload_n 2, 1))
theorem e_Ds_passPixel_4 (a0 a1 : Value) (x : Int32) (st : List Value) (g : px_G) : rn k_Ds_passPixel 4 [a0, a1, .int x] st g = rn k_Ds_passPixel 5 [a0, a1, .int x] (.int x :: st) g := rn_next dd_Ds_passPixel_4 rfl
theorem dd_Ds_passPixel_5 : decode (px_rw k_Ds_passPixel).2.1 5 = .ok (.aload_n 0, 1) := (by decide +kernel : decode prog_1_method_29_code 5 = .ok (.aload_n 0, 1))
theorem e_Ds_passPixel_5 (a1 a2 : Value) (x : Nat) (st : List Value) (g : px_G) : rn k_Ds_passPixel 5 [.ref x, a1, a2] st g = rn k_Ds_passPixel 6 [.ref x, a1, a2] (.ref x :: st) g := rn_next dd_Ds_passPixel_5 rfl
theorem dd_Ds_passPixel_6 : decode (px_rw k_Ds_passPixel).2.1 6 = .ok (.getfield 96, 3) := (by decide +kernel : decode prog_1_method_29_code 6 = .ok (.getfield 96, 3))
theorem e_Ds_passPixel_6 (L st : List Value) (T : TS) : rn k_Ds_passPixel 6 L (.ref 0 :: st) (enc T) = rn k_Ds_passPixel 9 L (.int (T.1 0 3) :: st) (enc T) := rn_getI (n := 13) dd_Ds_passPixel_6 rfl (by decide) (by decide) (by decide) rfl rfl
theorem dd_Ds_passPixel_9 : decode (px_rw k_Ds_passPixel).2.1 9 = .ok (.if_icmp .ge 27, 3) := (by decide +kernel : decode prog_1_method_29_code 9 = .ok (.if_icmp .ge 27, 3))
theorem e_Ds_passPixel_9 (L : List Value) (x y : Int32) (st : List Value) (g : px_G) : rn k_Ds_passPixel 9 L (.int y :: .int x :: st) g = if y ≤ x then rn k_Ds_passPixel 36 L st g else rn k_Ds_passPixel 12 L st g := rn_icge dd_Ds_passPixel_9 (by decide)
theorem dd_Ds_passPixel_12 : decode (px_rw k_Ds_passPixel).2.1 12 = .ok (.aload_n 0, 1) := (by decide +kernel : decode prog_1_method_29_code 12 = .ok (.aload_n 0, 1))
theorem e_Ds_passPixel_12 (a1 a2 : Value) (x : Nat) (st : List Value) (g : px_G) : rn k_Ds_passPixel 12 [.ref x, a1, a2] st g = rn k_Ds_passPixel 13 [.ref x, a1, a2] (.ref x :: st) g := rn_next dd_Ds_passPixel_12 rfl
theorem dd_Ds_passPixel_13 : decode (px_rw k_Ds_passPixel).2.1 13 = .ok (.getfield 27, 3) := (by decide +kernel : decode prog_1_method_29_code 13 = .ok (.getfield 27, 3))
theorem e_Ds_passPixel_13 (L st : List Value) (T : TS) : rn k_Ds_passPixel 13 L (.ref 0 :: st) (enc T) = rn k_Ds_passPixel 16 L (.ref 5 :: st) (enc T) := rn_getA (n := 13) dd_Ds_passPixel_13 rfl (by decide) (by decide) (by decide) rfl rfl
theorem dd_Ds_passPixel_16 : decode (px_rw k_Ds_passPixel).2.1 16 = .ok (.iload_n 2, 1) := (by decide +kernel : decode prog_1_method_29_code 16 = .ok (.iload_n 2, 1))
theorem e_Ds_passPixel_16 (a0 a1 : Value) (x : Int32) (st : List Value) (g : px_G) : rn k_Ds_passPixel 16 [a0, a1, .int x] st g = rn k_Ds_passPixel 17 [a0, a1, .int x] (.int x :: st) g := rn_next dd_Ds_passPixel_16 rfl
theorem dd_Ds_passPixel_17 : decode (px_rw k_Ds_passPixel).2.1 17 = .ok (.aaload, 1) := (by decide +kernel : decode prog_1_method_29_code 17 = .ok (.aaload, 1))
theorem e_Ds_passPixel_17 (L : List Value) (i : Int32) (p : Nat) (st : List Value) (T : TS) (hp : (sh p).1 = 3) : rn k_Ds_passPixel 17 L (.int i :: .ref p :: st) (enc T) = if px_in i (sh p).2 then rn k_Ds_passPixel 18 L (.ref (T.2.2.1 i.toNatClampNeg) :: st) (enc T) else none := rn_aald dd_Ds_passPixel_17 (Prod.ext hp rfl)
theorem dd_Ds_passPixel_18 : decode (px_rw k_Ds_passPixel).2.1 18 = .ok (.invokevirtual 219, 3) := (by decide +kernel : decode prog_1_method_29_code 18 = .ok (.invokevirtual 219, 3))
theorem e_Ds_passPixel_18 (L : List Value)  (p : Nat) (T : TS) (hp : sh p = (104, 18)) : rn k_Ds_passPixel 18 L [.ref p] (enc T) = bd (cl k_Ink_passPixel [.ref p] (enc T)) (fun r g' => rn k_Ds_passPixel 21 L (r.toList ++ []) g') := rn_callV (n := 18) (As := []) (rest := []) dd_Ds_passPixel_18 rfl (by decide) (by decide) rfl rfl (Nat.le_of_ble_eq_true rfl) (Nat.le_of_ble_eq_true rfl) hp
theorem dd_Ds_passPixel_21 : decode (px_rw k_Ds_passPixel).2.1 21 = .ok (.ifCond .eq 9, 3) := (by decide +kernel : decode prog_1_method_29_code 21 = .ok (.ifCond .eq 9, 3))
theorem e_Ds_passPixel_21 (L : List Value) (x : Int32) (st : List Value) (g : px_G) : rn k_Ds_passPixel 21 L (.int x :: st) g = if x = 0 then rn k_Ds_passPixel 30 L st g else rn k_Ds_passPixel 24 L st g := rn_ifeq dd_Ds_passPixel_21 (by decide)
theorem dd_Ds_passPixel_24 : decode (px_rw k_Ds_passPixel).2.1 24 = .ok (.iload_n 1, 1) := (by decide +kernel : decode prog_1_method_29_code 24 = .ok (.iload_n 1, 1))
theorem e_Ds_passPixel_24 (a0 a2 : Value) (x : Int32) (st : List Value) (g : px_G) : rn k_Ds_passPixel 24 [a0, .int x, a2] st g = rn k_Ds_passPixel 25 [a0, .int x, a2] (.int x :: st) g := rn_next dd_Ds_passPixel_24 rfl
theorem dd_Ds_passPixel_25 : decode (px_rw k_Ds_passPixel).2.1 25 = .ok (.iconst 1, 1) := (by decide +kernel : decode prog_1_method_29_code 25 = .ok (.iconst 1, 1))
theorem e_Ds_passPixel_25 (L st : List Value) (g : px_G) : rn k_Ds_passPixel 25 L st g = rn k_Ds_passPixel 26 L (.int 1 :: st) g := rn_ipush (i := .iconst 1) dd_Ds_passPixel_25 rfl rfl (by decide)
theorem dd_Ds_passPixel_26 : decode (px_rw k_Ds_passPixel).2.1 26 = .ok (.iload_n 2, 1) := (by decide +kernel : decode prog_1_method_29_code 26 = .ok (.iload_n 2, 1))
theorem e_Ds_passPixel_26 (a0 a1 : Value) (x : Int32) (st : List Value) (g : px_G) : rn k_Ds_passPixel 26 [a0, a1, .int x] st g = rn k_Ds_passPixel 27 [a0, a1, .int x] (.int x :: st) g := rn_next dd_Ds_passPixel_26 rfl
theorem dd_Ds_passPixel_27 : decode (px_rw k_Ds_passPixel).2.1 27 = .ok (.ishl, 1) := (by decide +kernel : decode prog_1_method_29_code 27 = .ok (.ishl, 1))
theorem e_Ds_passPixel_27 (L : List Value) (x y : Int32) (st : List Value) (g : px_G) : rn k_Ds_passPixel 27 L (.int y :: .int x :: st) g = rn k_Ds_passPixel 28 L (.int (x <<< (y &&& 31)) :: st) g := rn_next dd_Ds_passPixel_27 rfl
theorem dd_Ds_passPixel_28 : decode (px_rw k_Ds_passPixel).2.1 28 = .ok (.ior, 1) := (by decide +kernel : decode prog_1_method_29_code 28 = .ok (.ior, 1))
theorem e_Ds_passPixel_28 (L : List Value) (x y : Int32) (st : List Value) (g : px_G) : rn k_Ds_passPixel 28 L (.int y :: .int x :: st) g = rn k_Ds_passPixel 29 L (.int (x ||| y) :: st) g := rn_next dd_Ds_passPixel_28 rfl
theorem dd_Ds_passPixel_29 : decode (px_rw k_Ds_passPixel).2.1 29 = .ok (.istore_n 1, 1) := (by decide +kernel : decode prog_1_method_29_code 29 = .ok (.istore_n 1, 1))
theorem e_Ds_passPixel_29 (a0 a1 a2 : Value) (x : Int32) (st : List Value) (g : px_G) : rn k_Ds_passPixel 29 [a0, a1, a2] (.int x :: st) g = rn k_Ds_passPixel 30 [px_kill a0, .int x, a2] st g := rn_next dd_Ds_passPixel_29 rfl
theorem dd_Ds_passPixel_30 : decode (px_rw k_Ds_passPixel).2.1 30 = .ok (.iinc 2 1, 3) := (by decide +kernel : decode prog_1_method_29_code 30 = .ok (.iinc 2 1, 3))
theorem e_Ds_passPixel_30 (a0 a1 : Value) (x : Int32) (st : List Value) (g : px_G) : rn k_Ds_passPixel 30 [a0, a1, .int x] st g = rn k_Ds_passPixel 33 [a0, px_kill a1, .int (x + 1)] st g := rn_next dd_Ds_passPixel_30 rfl
theorem dd_Ds_passPixel_33 : decode (px_rw k_Ds_passPixel).2.1 33 = .ok (.goto (-29), 3) := (by decide +kernel : decode prog_1_method_29_code 33 = .ok (.goto (-29), 3))
theorem e_Ds_passPixel_33 (L st : List Value) (g : px_G) : rn k_Ds_passPixel 33 L st g = rn k_Ds_passPixel 4 L st g := rn_goto dd_Ds_passPixel_33 (by decide)
theorem dd_Ds_passPixel_36 : decode (px_rw k_Ds_passPixel).2.1 36 = .ok (.iload_n 1, 1) := (by decide +kernel : decode prog_1_method_29_code 36 = .ok (.iload_n 1, 1))
theorem e_Ds_passPixel_36 (a0 a2 : Value) (x : Int32) (st : List Value) (g : px_G) : rn k_Ds_passPixel 36 [a0, .int x, a2] st g = rn k_Ds_passPixel 37 [a0, .int x, a2] (.int x :: st) g := rn_next dd_Ds_passPixel_36 rfl
theorem dd_Ds_passPixel_37 : decode (px_rw k_Ds_passPixel).2.1 37 = .ok (.ireturn, 1) := (by decide +kernel : decode prog_1_method_29_code 37 = .ok (.ireturn, 1))
theorem e_Ds_passPixel_37 (L : List Value) (v : Int32) (g : px_G) : rn k_Ds_passPixel 37 L [.int v] g = some (some (.int v), g) := rn_iret dd_Ds_passPixel_37 rfl
theorem c_Ds_window (r0 : Nat) (i1 : Int32) (i2 : Int32) (i3 : Int32) (i4 : Int32) (i5 : Int32) (i6 : Int32) (g : px_G) : cl k_Ds_window [.ref r0, .int i1, .int i2, .int i3, .int i4, .int i5, .int i6] g = rn k_Ds_window 0 [.ref r0, .int i1, .int i2, .int i3, .int i4, .int i5, .int i6, .null, .null, .null, .null] [] g := rfl
theorem dd_Ds_window_0 : decode (px_rw k_Ds_window).2.1 0 = .ok (.iload_n 1, 1) := (by decide +kernel : decode prog_1_method_25_code 0 = .ok (.iload_n 1, 1))
theorem e_Ds_window_0 (a0 a2 a3 a4 a5 a6 a7 a8 a9 a10 : Value) (x : Int32) (st : List Value) (g : px_G) : rn k_Ds_window 0 [a0, .int x, a2, a3, a4, a5, a6, a7, a8, a9, a10] st g = rn k_Ds_window 1 [a0, .int x, a2, a3, a4, a5, a6, a7, a8, a9, a10] (.int x :: st) g := rn_next dd_Ds_window_0 rfl
theorem dd_Ds_window_1 : decode (px_rw k_Ds_window).2.1 1 = .ok (.iload_n 2, 1) := (by decide +kernel : decode prog_1_method_25_code 1 = .ok (.iload_n 2, 1))
theorem e_Ds_window_1 (a0 a1 a3 a4 a5 a6 a7 a8 a9 a10 : Value) (x : Int32) (st : List Value) (g : px_G) : rn k_Ds_window 1 [a0, a1, .int x, a3, a4, a5, a6, a7, a8, a9, a10] st g = rn k_Ds_window 2 [a0, a1, .int x, a3, a4, a5, a6, a7, a8, a9, a10] (.int x :: st) g := rn_next dd_Ds_window_1 rfl
theorem dd_Ds_window_2 : decode (px_rw k_Ds_window).2.1 2 = .ok (.iload_n 3, 1) := (by decide +kernel : decode prog_1_method_25_code 2 = .ok (.iload_n 3, 1))
theorem e_Ds_window_2 (a0 a1 a2 a4 a5 a6 a7 a8 a9 a10 : Value) (x : Int32) (st : List Value) (g : px_G) : rn k_Ds_window 2 [a0, a1, a2, .int x, a4, a5, a6, a7, a8, a9, a10] st g = rn k_Ds_window 3 [a0, a1, a2, .int x, a4, a5, a6, a7, a8, a9, a10] (.int x :: st) g := rn_next dd_Ds_window_2 rfl
theorem dd_Ds_window_3 : decode (px_rw k_Ds_window).2.1 3 = .ok (.iload 4, 2) := (by decide +kernel : decode prog_1_method_25_code 3 = .ok (.iload 4, 2))
theorem e_Ds_window_3 (a0 a1 a2 a3 a5 a6 a7 a8 a9 a10 : Value) (x : Int32) (st : List Value) (g : px_G) : rn k_Ds_window 3 [a0, a1, a2, a3, .int x, a5, a6, a7, a8, a9, a10] st g = rn k_Ds_window 5 [a0, a1, a2, a3, .int x, a5, a6, a7, a8, a9, a10] (.int x :: st) g := rn_next dd_Ds_window_3 rfl
theorem dd_Ds_window_5 : decode (px_rw k_Ds_window).2.1 5 = .ok (.invokestatic 308, 3) := (by decide +kernel : decode prog_1_method_25_code 5 = .ok (.invokestatic 308, 3))
theorem e_Ds_window_5 (L : List Value) (i0 : Int32) (i1 : Int32) (i2 : Int32) (i3 : Int32) (g : px_G) : rn k_Ds_window 5 L [.int i3, .int i2, .int i1, .int i0] g = bd (cl k_Ds_isWindow [.int i0, .int i1, .int i2, .int i3] g) (fun r g' => rn k_Ds_window 8 L (r.toList ++ []) g') := rn_callS (As := [.int i0, .int i1, .int i2, .int i3]) (rest := []) dd_Ds_window_5 rfl (by decide) rfl rfl (Nat.le_of_ble_eq_true rfl) (Nat.le_of_ble_eq_true rfl)
theorem dd_Ds_window_8 : decode (px_rw k_Ds_window).2.1 8 = .ok (.ifCond .eq 11, 3) := (by decide +kernel : decode prog_1_method_25_code 8 = .ok (.ifCond .eq 11, 3))
theorem e_Ds_window_8 (L : List Value) (x : Int32) (st : List Value) (g : px_G) : rn k_Ds_window 8 L (.int x :: st) g = if x = 0 then rn k_Ds_window 19 L st g else rn k_Ds_window 11 L st g := rn_ifeq dd_Ds_window_8 (by decide)
theorem dd_Ds_window_11 : decode (px_rw k_Ds_window).2.1 11 = .ok (.iload 5, 2) := (by decide +kernel : decode prog_1_method_25_code 11 = .ok (.iload 5, 2))
theorem e_Ds_window_11 (a0 a1 a2 a3 a4 a6 a7 a8 a9 a10 : Value) (x : Int32) (st : List Value) (g : px_G) : rn k_Ds_window 11 [a0, a1, a2, a3, a4, .int x, a6, a7, a8, a9, a10] st g = rn k_Ds_window 13 [a0, a1, a2, a3, a4, .int x, a6, a7, a8, a9, a10] (.int x :: st) g := rn_next dd_Ds_window_11 rfl
theorem dd_Ds_window_13 : decode (px_rw k_Ds_window).2.1 13 = .ok (.invokestatic 182, 3) := (by decide +kernel : decode prog_1_method_25_code 13 = .ok (.invokestatic 182, 3))
theorem e_Ds_window_13 (L : List Value) (i0 : Int32) (g : px_G) : rn k_Ds_window 13 L [.int i0] g = bd (cl k_Ds_isAxis [.int i0] g) (fun r g' => rn k_Ds_window 16 L (r.toList ++ []) g') := rn_callS (As := [.int i0]) (rest := []) dd_Ds_window_13 rfl (by decide) rfl rfl (Nat.le_of_ble_eq_true rfl) (Nat.le_of_ble_eq_true rfl)
theorem dd_Ds_window_16 : decode (px_rw k_Ds_window).2.1 16 = .ok (.ifCond .ne 5, 3) := (by decide +kernel : decode prog_1_method_25_code 16 = .ok (.ifCond .ne 5, 3))
theorem e_Ds_window_16 (L : List Value) (x : Int32) (st : List Value) (g : px_G) : rn k_Ds_window 16 L (.int x :: st) g = if x = 0 then rn k_Ds_window 19 L st g else rn k_Ds_window 21 L st g := rn_ifne dd_Ds_window_16 (by decide)
theorem dd_Ds_window_19 : decode (px_rw k_Ds_window).2.1 19 = .ok (.iconst (-1), 1) := (by decide +kernel : decode prog_1_method_25_code 19 = .ok (.iconst (-1), 1))
theorem e_Ds_window_19 (L st : List Value) (g : px_G) : rn k_Ds_window 19 L st g = rn k_Ds_window 20 L (.int (-1) :: st) g := rn_ipush (i := .iconst (-1)) dd_Ds_window_19 rfl rfl (by decide)
theorem dd_Ds_window_20 : decode (px_rw k_Ds_window).2.1 20 = .ok (.ireturn, 1) := (by decide +kernel : decode prog_1_method_25_code 20 = .ok (.ireturn, 1))
theorem e_Ds_window_20 (L : List Value) (v : Int32) (g : px_G) : rn k_Ds_window 20 L [.int v] g = some (some (.int v), g) := rn_iret dd_Ds_window_20 rfl
theorem dd_Ds_window_21 : decode (px_rw k_Ds_window).2.1 21 = .ok (.iload 5, 2) := (by decide +kernel : decode prog_1_method_25_code 21 = .ok (.iload 5, 2))
theorem e_Ds_window_21 (a0 a1 a2 a3 a4 a6 a7 a8 a9 a10 : Value) (x : Int32) (st : List Value) (g : px_G) : rn k_Ds_window 21 [a0, a1, a2, a3, a4, .int x, a6, a7, a8, a9, a10] st g = rn k_Ds_window 23 [a0, a1, a2, a3, a4, .int x, a6, a7, a8, a9, a10] (.int x :: st) g := rn_next dd_Ds_window_21 rfl
theorem dd_Ds_window_23 : decode (px_rw k_Ds_window).2.1 23 = .ok (.ifCond .ne 20, 3) := (by decide +kernel : decode prog_1_method_25_code 23 = .ok (.ifCond .ne 20, 3))
theorem e_Ds_window_23 (L : List Value) (x : Int32) (st : List Value) (g : px_G) : rn k_Ds_window 23 L (.int x :: st) g = if x = 0 then rn k_Ds_window 26 L st g else rn k_Ds_window 43 L st g := rn_ifne dd_Ds_window_23 (by decide)
theorem dd_Ds_window_26 : decode (px_rw k_Ds_window).2.1 26 = .ok (.iload 6, 2) := (by decide +kernel : decode prog_1_method_25_code 26 = .ok (.iload 6, 2))
theorem e_Ds_window_26 (a0 a1 a2 a3 a4 a5 a7 a8 a9 a10 : Value) (x : Int32) (st : List Value) (g : px_G) : rn k_Ds_window 26 [a0, a1, a2, a3, a4, a5, .int x, a7, a8, a9, a10] st g = rn k_Ds_window 28 [a0, a1, a2, a3, a4, a5, .int x, a7, a8, a9, a10] (.int x :: st) g := rn_next dd_Ds_window_26 rfl
theorem dd_Ds_window_28 : decode (px_rw k_Ds_window).2.1 28 = .ok (.ifCond .lt 24, 3) := (by decide +kernel : decode prog_1_method_25_code 28 = .ok (.ifCond .lt 24, 3))
theorem e_Ds_window_28 (L : List Value) (x : Int32) (st : List Value) (g : px_G) : rn k_Ds_window 28 L (.int x :: st) g = if x < 0 then rn k_Ds_window 52 L st g else rn k_Ds_window 31 L st g := rn_iflt dd_Ds_window_28 (by decide)
theorem dd_Ds_window_31 : decode (px_rw k_Ds_window).2.1 31 = .ok (.iload 6, 2) := (by decide +kernel : decode prog_1_method_25_code 31 = .ok (.iload 6, 2))
theorem e_Ds_window_31 (a0 a1 a2 a3 a4 a5 a7 a8 a9 a10 : Value) (x : Int32) (st : List Value) (g : px_G) : rn k_Ds_window 31 [a0, a1, a2, a3, a4, a5, .int x, a7, a8, a9, a10] st g = rn k_Ds_window 33 [a0, a1, a2, a3, a4, a5, .int x, a7, a8, a9, a10] (.int x :: st) g := rn_next dd_Ds_window_31 rfl
theorem dd_Ds_window_33 : decode (px_rw k_Ds_window).2.1 33 = .ok (.aload_n 0, 1) := (by decide +kernel : decode prog_1_method_25_code 33 = .ok (.aload_n 0, 1))
theorem e_Ds_window_33 (a1 a2 a3 a4 a5 a6 a7 a8 a9 a10 : Value) (x : Nat) (st : List Value) (g : px_G) : rn k_Ds_window 33 [.ref x, a1, a2, a3, a4, a5, a6, a7, a8, a9, a10] st g = rn k_Ds_window 34 [.ref x, a1, a2, a3, a4, a5, a6, a7, a8, a9, a10] (.ref x :: st) g := rn_next dd_Ds_window_33 rfl
theorem dd_Ds_window_34 : decode (px_rw k_Ds_window).2.1 34 = .ok (.getfield 96, 3) := (by decide +kernel : decode prog_1_method_25_code 34 = .ok (.getfield 96, 3))
theorem e_Ds_window_34 (L st : List Value) (T : TS) : rn k_Ds_window 34 L (.ref 0 :: st) (enc T) = rn k_Ds_window 37 L (.int (T.1 0 3) :: st) (enc T) := rn_getI (n := 13) dd_Ds_window_34 rfl (by decide) (by decide) (by decide) rfl rfl
theorem dd_Ds_window_37 : decode (px_rw k_Ds_window).2.1 37 = .ok (.if_icmp .le 17, 3) := (by decide +kernel : decode prog_1_method_25_code 37 = .ok (.if_icmp .le 17, 3))
theorem e_Ds_window_37 (L : List Value) (x y : Int32) (st : List Value) (g : px_G) : rn k_Ds_window 37 L (.int y :: .int x :: st) g = if x ≤ y then rn k_Ds_window 54 L st g else rn k_Ds_window 40 L st g := rn_icle dd_Ds_window_37 (by decide)
theorem dd_Ds_window_40 : decode (px_rw k_Ds_window).2.1 40 = .ok (.goto 12, 3) := (by decide +kernel : decode prog_1_method_25_code 40 = .ok (.goto 12, 3))
theorem e_Ds_window_40 (L st : List Value) (g : px_G) : rn k_Ds_window 40 L st g = rn k_Ds_window 52 L st g := rn_goto dd_Ds_window_40 (by decide)
theorem dd_Ds_window_43 : decode (px_rw k_Ds_window).2.1 43 = .ok (.aload_n 0, 1) := (by decide +kernel : decode prog_1_method_25_code 43 = .ok (.aload_n 0, 1))
theorem e_Ds_window_43 (a1 a2 a3 a4 a5 a6 a7 a8 a9 a10 : Value) (x : Nat) (st : List Value) (g : px_G) : rn k_Ds_window 43 [.ref x, a1, a2, a3, a4, a5, a6, a7, a8, a9, a10] st g = rn k_Ds_window 44 [.ref x, a1, a2, a3, a4, a5, a6, a7, a8, a9, a10] (.ref x :: st) g := rn_next dd_Ds_window_43 rfl
theorem dd_Ds_window_44 : decode (px_rw k_Ds_window).2.1 44 = .ok (.iload 6, 2) := (by decide +kernel : decode prog_1_method_25_code 44 = .ok (.iload 6, 2))
theorem e_Ds_window_44 (a0 a1 a2 a3 a4 a5 a7 a8 a9 a10 : Value) (x : Int32) (st : List Value) (g : px_G) : rn k_Ds_window 44 [a0, a1, a2, a3, a4, a5, .int x, a7, a8, a9, a10] st g = rn k_Ds_window 46 [a0, a1, a2, a3, a4, a5, .int x, a7, a8, a9, a10] (.int x :: st) g := rn_next dd_Ds_window_44 rfl
theorem dd_Ds_window_46 : decode (px_rw k_Ds_window).2.1 46 = .ok (.invokevirtual 290, 3) := (by decide +kernel : decode prog_1_method_25_code 46 = .ok (.invokevirtual 290, 3))
theorem e_Ds_window_46 (L : List Value) (i0 : Int32)  (T : TS)  : rn k_Ds_window 46 L [.int i0, .ref 0] (enc T) = bd (cl k_Ds_isSet [.ref 0, .int i0] (enc T)) (fun r g' => rn k_Ds_window 49 L (r.toList ++ []) g') := rn_callV (n := 13) (As := [.int i0]) (rest := []) dd_Ds_window_46 rfl (by decide) (by decide) rfl rfl (Nat.le_of_ble_eq_true rfl) (Nat.le_of_ble_eq_true rfl) rfl
theorem dd_Ds_window_49 : decode (px_rw k_Ds_window).2.1 49 = .ok (.ifCond .ne 5, 3) := (by decide +kernel : decode prog_1_method_25_code 49 = .ok (.ifCond .ne 5, 3))
theorem e_Ds_window_49 (L : List Value) (x : Int32) (st : List Value) (g : px_G) : rn k_Ds_window 49 L (.int x :: st) g = if x = 0 then rn k_Ds_window 52 L st g else rn k_Ds_window 54 L st g := rn_ifne dd_Ds_window_49 (by decide)
theorem dd_Ds_window_52 : decode (px_rw k_Ds_window).2.1 52 = .ok (.iconst (-1), 1) := (by decide +kernel : decode prog_1_method_25_code 52 = .ok (.iconst (-1), 1))
theorem e_Ds_window_52 (L st : List Value) (g : px_G) : rn k_Ds_window 52 L st g = rn k_Ds_window 53 L (.int (-1) :: st) g := rn_ipush (i := .iconst (-1)) dd_Ds_window_52 rfl rfl (by decide)
theorem dd_Ds_window_53 : decode (px_rw k_Ds_window).2.1 53 = .ok (.ireturn, 1) := (by decide +kernel : decode prog_1_method_25_code 53 = .ok (.ireturn, 1))
theorem e_Ds_window_53 (L : List Value) (v : Int32) (g : px_G) : rn k_Ds_window 53 L [.int v] g = some (some (.int v), g) := rn_iret dd_Ds_window_53 rfl
theorem dd_Ds_window_54 : decode (px_rw k_Ds_window).2.1 54 = .ok (.iconst 0, 1) := (by decide +kernel : decode prog_1_method_25_code 54 = .ok (.iconst 0, 1))
theorem e_Ds_window_54 (L st : List Value) (g : px_G) : rn k_Ds_window 54 L st g = rn k_Ds_window 55 L (.int 0 :: st) g := rn_ipush (i := .iconst 0) dd_Ds_window_54 rfl rfl (by decide)
theorem dd_Ds_window_55 : decode (px_rw k_Ds_window).2.1 55 = .ok (.istore 7, 2) := (by decide +kernel : decode prog_1_method_25_code 55 = .ok (.istore 7, 2))
theorem e_Ds_window_55 (a0 a1 a2 a3 a4 a5 a6 a7 a8 a9 a10 : Value) (x : Int32) (st : List Value) (g : px_G) : rn k_Ds_window 55 [a0, a1, a2, a3, a4, a5, a6, a7, a8, a9, a10] (.int x :: st) g = rn k_Ds_window 57 [a0, a1, a2, a3, a4, a5, px_kill a6, .int x, a8, a9, a10] st g := rn_next dd_Ds_window_55 rfl
theorem dd_Ds_window_57 : decode (px_rw k_Ds_window).2.1 57 = .ok (.iconst 0, 1) := (by decide +kernel : decode prog_1_method_25_code 57 = .ok (.iconst 0, 1))
theorem e_Ds_window_57 (L st : List Value) (g : px_G) : rn k_Ds_window 57 L st g = rn k_Ds_window 58 L (.int 0 :: st) g := rn_ipush (i := .iconst 0) dd_Ds_window_57 rfl rfl (by decide)
theorem dd_Ds_window_58 : decode (px_rw k_Ds_window).2.1 58 = .ok (.istore 8, 2) := (by decide +kernel : decode prog_1_method_25_code 58 = .ok (.istore 8, 2))
theorem e_Ds_window_58 (a0 a1 a2 a3 a4 a5 a6 a7 a8 a9 a10 : Value) (x : Int32) (st : List Value) (g : px_G) : rn k_Ds_window 58 [a0, a1, a2, a3, a4, a5, a6, a7, a8, a9, a10] (.int x :: st) g = rn k_Ds_window 60 [a0, a1, a2, a3, a4, a5, a6, px_kill a7, .int x, a9, a10] st g := rn_next dd_Ds_window_58 rfl
theorem dd_Ds_window_60 : decode (px_rw k_Ds_window).2.1 60 = .ok (.iload 8, 2) := (by decide +kernel : decode prog_1_method_25_code 60 = .ok (.iload 8, 2))
theorem e_Ds_window_60 (a0 a1 a2 a3 a4 a5 a6 a7 a9 a10 : Value) (x : Int32) (st : List Value) (g : px_G) : rn k_Ds_window 60 [a0, a1, a2, a3, a4, a5, a6, a7, .int x, a9, a10] st g = rn k_Ds_window 62 [a0, a1, a2, a3, a4, a5, a6, a7, .int x, a9, a10] (.int x :: st) g := rn_next dd_Ds_window_60 rfl
theorem dd_Ds_window_62 : decode (px_rw k_Ds_window).2.1 62 = .ok (.iload 4, 2) := (by decide +kernel : decode prog_1_method_25_code 62 = .ok (.iload 4, 2))
theorem e_Ds_window_62 (a0 a1 a2 a3 a5 a6 a7 a8 a9 a10 : Value) (x : Int32) (st : List Value) (g : px_G) : rn k_Ds_window 62 [a0, a1, a2, a3, .int x, a5, a6, a7, a8, a9, a10] st g = rn k_Ds_window 64 [a0, a1, a2, a3, .int x, a5, a6, a7, a8, a9, a10] (.int x :: st) g := rn_next dd_Ds_window_62 rfl
theorem dd_Ds_window_64 : decode (px_rw k_Ds_window).2.1 64 = .ok (.if_icmp .ge 62, 3) := (by decide +kernel : decode prog_1_method_25_code 64 = .ok (.if_icmp .ge 62, 3))
theorem e_Ds_window_64 (L : List Value) (x y : Int32) (st : List Value) (g : px_G) : rn k_Ds_window 64 L (.int y :: .int x :: st) g = if y ≤ x then rn k_Ds_window 126 L st g else rn k_Ds_window 67 L st g := rn_icge dd_Ds_window_64 (by decide)
theorem dd_Ds_window_67 : decode (px_rw k_Ds_window).2.1 67 = .ok (.aload_n 0, 1) := (by decide +kernel : decode prog_1_method_25_code 67 = .ok (.aload_n 0, 1))
theorem e_Ds_window_67 (a1 a2 a3 a4 a5 a6 a7 a8 a9 a10 : Value) (x : Nat) (st : List Value) (g : px_G) : rn k_Ds_window 67 [.ref x, a1, a2, a3, a4, a5, a6, a7, a8, a9, a10] st g = rn k_Ds_window 68 [.ref x, a1, a2, a3, a4, a5, a6, a7, a8, a9, a10] (.ref x :: st) g := rn_next dd_Ds_window_67 rfl
theorem dd_Ds_window_68 : decode (px_rw k_Ds_window).2.1 68 = .ok (.iload_n 1, 1) := (by decide +kernel : decode prog_1_method_25_code 68 = .ok (.iload_n 1, 1))
theorem e_Ds_window_68 (a0 a2 a3 a4 a5 a6 a7 a8 a9 a10 : Value) (x : Int32) (st : List Value) (g : px_G) : rn k_Ds_window 68 [a0, .int x, a2, a3, a4, a5, a6, a7, a8, a9, a10] st g = rn k_Ds_window 69 [a0, .int x, a2, a3, a4, a5, a6, a7, a8, a9, a10] (.int x :: st) g := rn_next dd_Ds_window_68 rfl
theorem dd_Ds_window_69 : decode (px_rw k_Ds_window).2.1 69 = .ok (.iload_n 2, 1) := (by decide +kernel : decode prog_1_method_25_code 69 = .ok (.iload_n 2, 1))
theorem e_Ds_window_69 (a0 a1 a3 a4 a5 a6 a7 a8 a9 a10 : Value) (x : Int32) (st : List Value) (g : px_G) : rn k_Ds_window 69 [a0, a1, .int x, a3, a4, a5, a6, a7, a8, a9, a10] st g = rn k_Ds_window 70 [a0, a1, .int x, a3, a4, a5, a6, a7, a8, a9, a10] (.int x :: st) g := rn_next dd_Ds_window_69 rfl
theorem dd_Ds_window_70 : decode (px_rw k_Ds_window).2.1 70 = .ok (.iload 8, 2) := (by decide +kernel : decode prog_1_method_25_code 70 = .ok (.iload 8, 2))
theorem e_Ds_window_70 (a0 a1 a2 a3 a4 a5 a6 a7 a9 a10 : Value) (x : Int32) (st : List Value) (g : px_G) : rn k_Ds_window 70 [a0, a1, a2, a3, a4, a5, a6, a7, .int x, a9, a10] st g = rn k_Ds_window 72 [a0, a1, a2, a3, a4, a5, a6, a7, .int x, a9, a10] (.int x :: st) g := rn_next dd_Ds_window_70 rfl
theorem dd_Ds_window_72 : decode (px_rw k_Ds_window).2.1 72 = .ok (.iadd, 1) := (by decide +kernel : decode prog_1_method_25_code 72 = .ok (.iadd, 1))
theorem e_Ds_window_72 (L : List Value) (x y : Int32) (st : List Value) (g : px_G) : rn k_Ds_window 72 L (.int y :: .int x :: st) g = rn k_Ds_window 73 L (.int (x + y) :: st) g := rn_next dd_Ds_window_72 rfl
theorem dd_Ds_window_73 : decode (px_rw k_Ds_window).2.1 73 = .ok (.invokevirtual 305, 3) := (by decide +kernel : decode prog_1_method_25_code 73 = .ok (.invokevirtual 305, 3))
theorem e_Ds_window_73 (L : List Value) (i0 : Int32) (i1 : Int32)  (T : TS)  : rn k_Ds_window 73 L [.int i1, .int i0, .ref 0] (enc T) = bd (cl k_Ds_startRow [.ref 0, .int i0, .int i1] (enc T)) (fun r g' => rn k_Ds_window 76 L (r.toList ++ []) g') := rn_callV (n := 13) (As := [.int i0, .int i1]) (rest := []) dd_Ds_window_73 rfl (by decide) (by decide) rfl rfl (Nat.le_of_ble_eq_true rfl) (Nat.le_of_ble_eq_true rfl) rfl
theorem dd_Ds_window_76 : decode (px_rw k_Ds_window).2.1 76 = .ok (.iconst 0, 1) := (by decide +kernel : decode prog_1_method_25_code 76 = .ok (.iconst 0, 1))
theorem e_Ds_window_76 (L st : List Value) (g : px_G) : rn k_Ds_window 76 L st g = rn k_Ds_window 77 L (.int 0 :: st) g := rn_ipush (i := .iconst 0) dd_Ds_window_76 rfl rfl (by decide)
theorem dd_Ds_window_77 : decode (px_rw k_Ds_window).2.1 77 = .ok (.istore 9, 2) := (by decide +kernel : decode prog_1_method_25_code 77 = .ok (.istore 9, 2))
theorem e_Ds_window_77 (a0 a1 a2 a3 a4 a5 a6 a7 a8 a9 a10 : Value) (x : Int32) (st : List Value) (g : px_G) : rn k_Ds_window 77 [a0, a1, a2, a3, a4, a5, a6, a7, a8, a9, a10] (.int x :: st) g = rn k_Ds_window 79 [a0, a1, a2, a3, a4, a5, a6, a7, px_kill a8, .int x, a10] st g := rn_next dd_Ds_window_77 rfl
theorem dd_Ds_window_79 : decode (px_rw k_Ds_window).2.1 79 = .ok (.iload 9, 2) := (by decide +kernel : decode prog_1_method_25_code 79 = .ok (.iload 9, 2))
theorem e_Ds_window_79 (a0 a1 a2 a3 a4 a5 a6 a7 a8 a10 : Value) (x : Int32) (st : List Value) (g : px_G) : rn k_Ds_window 79 [a0, a1, a2, a3, a4, a5, a6, a7, a8, .int x, a10] st g = rn k_Ds_window 81 [a0, a1, a2, a3, a4, a5, a6, a7, a8, .int x, a10] (.int x :: st) g := rn_next dd_Ds_window_79 rfl
theorem dd_Ds_window_81 : decode (px_rw k_Ds_window).2.1 81 = .ok (.iload_n 3, 1) := (by decide +kernel : decode prog_1_method_25_code 81 = .ok (.iload_n 3, 1))
theorem e_Ds_window_81 (a0 a1 a2 a4 a5 a6 a7 a8 a9 a10 : Value) (x : Int32) (st : List Value) (g : px_G) : rn k_Ds_window 81 [a0, a1, a2, .int x, a4, a5, a6, a7, a8, a9, a10] st g = rn k_Ds_window 82 [a0, a1, a2, .int x, a4, a5, a6, a7, a8, a9, a10] (.int x :: st) g := rn_next dd_Ds_window_81 rfl
theorem dd_Ds_window_82 : decode (px_rw k_Ds_window).2.1 82 = .ok (.if_icmp .ge 38, 3) := (by decide +kernel : decode prog_1_method_25_code 82 = .ok (.if_icmp .ge 38, 3))
theorem e_Ds_window_82 (L : List Value) (x y : Int32) (st : List Value) (g : px_G) : rn k_Ds_window 82 L (.int y :: .int x :: st) g = if y ≤ x then rn k_Ds_window 120 L st g else rn k_Ds_window 85 L st g := rn_icge dd_Ds_window_82 (by decide)
theorem dd_Ds_window_85 : decode (px_rw k_Ds_window).2.1 85 = .ok (.aload_n 0, 1) := (by decide +kernel : decode prog_1_method_25_code 85 = .ok (.aload_n 0, 1))
theorem e_Ds_window_85 (a1 a2 a3 a4 a5 a6 a7 a8 a9 a10 : Value) (x : Nat) (st : List Value) (g : px_G) : rn k_Ds_window 85 [.ref x, a1, a2, a3, a4, a5, a6, a7, a8, a9, a10] st g = rn k_Ds_window 86 [.ref x, a1, a2, a3, a4, a5, a6, a7, a8, a9, a10] (.ref x :: st) g := rn_next dd_Ds_window_85 rfl
theorem dd_Ds_window_86 : decode (px_rw k_Ds_window).2.1 86 = .ok (.invokevirtual 306, 3) := (by decide +kernel : decode prog_1_method_25_code 86 = .ok (.invokevirtual 306, 3))
theorem e_Ds_window_86 (L : List Value)   (T : TS)  : rn k_Ds_window 86 L [.ref 0] (enc T) = bd (cl k_Ds_passPixel [.ref 0] (enc T)) (fun r g' => rn k_Ds_window 89 L (r.toList ++ []) g') := rn_callV (n := 13) (As := []) (rest := []) dd_Ds_window_86 rfl (by decide) (by decide) rfl rfl (Nat.le_of_ble_eq_true rfl) (Nat.le_of_ble_eq_true rfl) rfl
theorem dd_Ds_window_89 : decode (px_rw k_Ds_window).2.1 89 = .ok (.istore 10, 2) := (by decide +kernel : decode prog_1_method_25_code 89 = .ok (.istore 10, 2))
theorem e_Ds_window_89 (a0 a1 a2 a3 a4 a5 a6 a7 a8 a9 a10 : Value) (x : Int32) (st : List Value) (g : px_G) : rn k_Ds_window 89 [a0, a1, a2, a3, a4, a5, a6, a7, a8, a9, a10] (.int x :: st) g = rn k_Ds_window 91 [a0, a1, a2, a3, a4, a5, a6, a7, a8, px_kill a9, .int x] st g := rn_next dd_Ds_window_89 rfl
theorem dd_Ds_window_91 : decode (px_rw k_Ds_window).2.1 91 = .ok (.iload 6, 2) := (by decide +kernel : decode prog_1_method_25_code 91 = .ok (.iload 6, 2))
theorem e_Ds_window_91 (a0 a1 a2 a3 a4 a5 a7 a8 a9 a10 : Value) (x : Int32) (st : List Value) (g : px_G) : rn k_Ds_window 91 [a0, a1, a2, a3, a4, a5, .int x, a7, a8, a9, a10] st g = rn k_Ds_window 93 [a0, a1, a2, a3, a4, a5, .int x, a7, a8, a9, a10] (.int x :: st) g := rn_next dd_Ds_window_91 rfl
theorem dd_Ds_window_93 : decode (px_rw k_Ds_window).2.1 93 = .ok (.iload 5, 2) := (by decide +kernel : decode prog_1_method_25_code 93 = .ok (.iload 5, 2))
theorem e_Ds_window_93 (a0 a1 a2 a3 a4 a6 a7 a8 a9 a10 : Value) (x : Int32) (st : List Value) (g : px_G) : rn k_Ds_window 93 [a0, a1, a2, a3, a4, .int x, a6, a7, a8, a9, a10] st g = rn k_Ds_window 95 [a0, a1, a2, a3, a4, .int x, a6, a7, a8, a9, a10] (.int x :: st) g := rn_next dd_Ds_window_93 rfl
theorem dd_Ds_window_95 : decode (px_rw k_Ds_window).2.1 95 = .ok (.ifCond .ne 11, 3) := (by decide +kernel : decode prog_1_method_25_code 95 = .ok (.ifCond .ne 11, 3))
theorem e_Ds_window_95 (L : List Value) (x : Int32) (st : List Value) (g : px_G) : rn k_Ds_window 95 L (.int x :: st) g = if x = 0 then rn k_Ds_window 98 L st g else rn k_Ds_window 106 L st g := rn_ifne dd_Ds_window_95 (by decide)
theorem dd_Ds_window_98 : decode (px_rw k_Ds_window).2.1 98 = .ok (.iload 10, 2) := (by decide +kernel : decode prog_1_method_25_code 98 = .ok (.iload 10, 2))
theorem e_Ds_window_98 (a0 a1 a2 a3 a4 a5 a6 a7 a8 a9 : Value) (x : Int32) (st : List Value) (g : px_G) : rn k_Ds_window 98 [a0, a1, a2, a3, a4, a5, a6, a7, a8, a9, .int x] st g = rn k_Ds_window 100 [a0, a1, a2, a3, a4, a5, a6, a7, a8, a9, .int x] (.int x :: st) g := rn_next dd_Ds_window_98 rfl
theorem dd_Ds_window_100 : decode (px_rw k_Ds_window).2.1 100 = .ok (.invokestatic 312, 3) := (by decide +kernel : decode prog_1_method_25_code 100 = .ok (.invokestatic 312, 3))
theorem e_Ds_window_100 (L : List Value) (i0 : Int32) (i100 : Int32) (g : px_G) : rn k_Ds_window 100 L [.int i0, .int i100] g = bd (cl k_Integer_bitCount [.int i0] g) (fun r g' => rn k_Ds_window 103 L (r.toList ++ [.int i100]) g') := rn_callS (As := [.int i0]) (rest := [.int i100]) dd_Ds_window_100 rfl (by decide) rfl rfl (Nat.le_of_ble_eq_true rfl) (Nat.le_of_ble_eq_true rfl)
theorem dd_Ds_window_103 : decode (px_rw k_Ds_window).2.1 103 = .ok (.goto 5, 3) := (by decide +kernel : decode prog_1_method_25_code 103 = .ok (.goto 5, 3))
theorem e_Ds_window_103 (L st : List Value) (g : px_G) : rn k_Ds_window 103 L st g = rn k_Ds_window 108 L st g := rn_goto dd_Ds_window_103 (by decide)
theorem dd_Ds_window_106 : decode (px_rw k_Ds_window).2.1 106 = .ok (.iload 10, 2) := (by decide +kernel : decode prog_1_method_25_code 106 = .ok (.iload 10, 2))
theorem e_Ds_window_106 (a0 a1 a2 a3 a4 a5 a6 a7 a8 a9 : Value) (x : Int32) (st : List Value) (g : px_G) : rn k_Ds_window 106 [a0, a1, a2, a3, a4, a5, a6, a7, a8, a9, .int x] st g = rn k_Ds_window 108 [a0, a1, a2, a3, a4, a5, a6, a7, a8, a9, .int x] (.int x :: st) g := rn_next dd_Ds_window_106 rfl
theorem dd_Ds_window_108 : decode (px_rw k_Ds_window).2.1 108 = .ok (.if_icmp .ne 6, 3) := (by decide +kernel : decode prog_1_method_25_code 108 = .ok (.if_icmp .ne 6, 3))
theorem e_Ds_window_108 (L : List Value) (x y : Int32) (st : List Value) (g : px_G) : rn k_Ds_window 108 L (.int y :: .int x :: st) g = if x = y then rn k_Ds_window 111 L st g else rn k_Ds_window 114 L st g := rn_icne dd_Ds_window_108 (by decide)
theorem dd_Ds_window_111 : decode (px_rw k_Ds_window).2.1 111 = .ok (.iinc 7 1, 3) := (by decide +kernel : decode prog_1_method_25_code 111 = .ok (.iinc 7 1, 3))
theorem e_Ds_window_111 (a0 a1 a2 a3 a4 a5 a6 a8 a9 a10 : Value) (x : Int32) (st : List Value) (g : px_G) : rn k_Ds_window 111 [a0, a1, a2, a3, a4, a5, a6, .int x, a8, a9, a10] st g = rn k_Ds_window 114 [a0, a1, a2, a3, a4, a5, px_kill a6, .int (x + 1), a8, a9, a10] st g := rn_next dd_Ds_window_111 rfl
theorem dd_Ds_window_114 : decode (px_rw k_Ds_window).2.1 114 = .ok (.iinc 9 1, 3) := (by decide +kernel : decode prog_1_method_25_code 114 = .ok (.iinc 9 1, 3))
theorem e_Ds_window_114 (a0 a1 a2 a3 a4 a5 a6 a7 a8 a10 : Value) (x : Int32) (st : List Value) (g : px_G) : rn k_Ds_window 114 [a0, a1, a2, a3, a4, a5, a6, a7, a8, .int x, a10] st g = rn k_Ds_window 117 [a0, a1, a2, a3, a4, a5, a6, a7, px_kill a8, .int (x + 1), a10] st g := rn_next dd_Ds_window_114 rfl
theorem dd_Ds_window_117 : decode (px_rw k_Ds_window).2.1 117 = .ok (.goto (-38), 3) := (by decide +kernel : decode prog_1_method_25_code 117 = .ok (.goto (-38), 3))
theorem e_Ds_window_117 (L st : List Value) (g : px_G) : rn k_Ds_window 117 L st g = rn k_Ds_window 79 L st g := rn_goto dd_Ds_window_117 (by decide)
theorem dd_Ds_window_120 : decode (px_rw k_Ds_window).2.1 120 = .ok (.iinc 8 1, 3) := (by decide +kernel : decode prog_1_method_25_code 120 = .ok (.iinc 8 1, 3))
theorem e_Ds_window_120 (a0 a1 a2 a3 a4 a5 a6 a7 a9 a10 : Value) (x : Int32) (st : List Value) (g : px_G) : rn k_Ds_window 120 [a0, a1, a2, a3, a4, a5, a6, a7, .int x, a9, a10] st g = rn k_Ds_window 123 [a0, a1, a2, a3, a4, a5, a6, px_kill a7, .int (x + 1), a9, a10] st g := rn_next dd_Ds_window_120 rfl
theorem dd_Ds_window_123 : decode (px_rw k_Ds_window).2.1 123 = .ok (.goto (-63), 3) := (by decide +kernel : decode prog_1_method_25_code 123 = .ok (.goto (-63), 3))
theorem e_Ds_window_123 (L st : List Value) (g : px_G) : rn k_Ds_window 123 L st g = rn k_Ds_window 60 L st g := rn_goto dd_Ds_window_123 (by decide)
theorem dd_Ds_window_126 : decode (px_rw k_Ds_window).2.1 126 = .ok (.iload 7, 2) := (by decide +kernel : decode prog_1_method_25_code 126 = .ok (.iload 7, 2))
theorem e_Ds_window_126 (a0 a1 a2 a3 a4 a5 a6 a8 a9 a10 : Value) (x : Int32) (st : List Value) (g : px_G) : rn k_Ds_window 126 [a0, a1, a2, a3, a4, a5, a6, .int x, a8, a9, a10] st g = rn k_Ds_window 128 [a0, a1, a2, a3, a4, a5, a6, .int x, a8, a9, a10] (.int x :: st) g := rn_next dd_Ds_window_126 rfl
theorem dd_Ds_window_128 : decode (px_rw k_Ds_window).2.1 128 = .ok (.ireturn, 1) := (by decide +kernel : decode prog_1_method_25_code 128 = .ok (.ireturn, 1))
theorem e_Ds_window_128 (L : List Value) (v : Int32) (g : px_G) : rn k_Ds_window 128 L [.int v] g = some (some (.int v), g) := rn_iret dd_Ds_window_128 rfl
theorem c_Ds_isWindow (i0 : Int32) (i1 : Int32) (i2 : Int32) (i3 : Int32) (g : px_G) : cl k_Ds_isWindow [.int i0, .int i1, .int i2, .int i3] g = rn k_Ds_isWindow 0 [.int i0, .int i1, .int i2, .int i3] [] g := rfl
theorem dd_Ds_isWindow_0 : decode (px_rw k_Ds_isWindow).2.1 0 = .ok (.iload_n 0, 1) := (by decide +kernel : decode prog_1_method_54_code 0 = .ok (.iload_n 0, 1))
theorem e_Ds_isWindow_0 (a1 a2 a3 : Value) (x : Int32) (st : List Value) (g : px_G) : rn k_Ds_isWindow 0 [.int x, a1, a2, a3] st g = rn k_Ds_isWindow 1 [.int x, a1, a2, a3] (.int x :: st) g := rn_next dd_Ds_isWindow_0 rfl
theorem dd_Ds_isWindow_1 : decode (px_rw k_Ds_isWindow).2.1 1 = .ok (.iload_n 1, 1) := (by decide +kernel : decode prog_1_method_54_code 1 = .ok (.iload_n 1, 1))
theorem e_Ds_isWindow_1 (a0 a2 a3 : Value) (x : Int32) (st : List Value) (g : px_G) : rn k_Ds_isWindow 1 [a0, .int x, a2, a3] st g = rn k_Ds_isWindow 2 [a0, .int x, a2, a3] (.int x :: st) g := rn_next dd_Ds_isWindow_1 rfl
theorem dd_Ds_isWindow_2 : decode (px_rw k_Ds_isWindow).2.1 2 = .ok (.invokestatic 317, 3) := (by decide +kernel : decode prog_1_method_54_code 2 = .ok (.invokestatic 317, 3))
theorem e_Ds_isWindow_2 (L : List Value) (i0 : Int32) (i1 : Int32) (g : px_G) : rn k_Ds_isWindow 2 L [.int i1, .int i0] g = bd (cl k_Ds_isCorner [.int i0, .int i1] g) (fun r g' => rn k_Ds_isWindow 5 L (r.toList ++ []) g') := rn_callS (As := [.int i0, .int i1]) (rest := []) dd_Ds_isWindow_2 rfl (by decide) rfl rfl (Nat.le_of_ble_eq_true rfl) (Nat.le_of_ble_eq_true rfl)
theorem dd_Ds_isWindow_5 : decode (px_rw k_Ds_isWindow).2.1 5 = .ok (.ifCond .eq 29, 3) := (by decide +kernel : decode prog_1_method_54_code 5 = .ok (.ifCond .eq 29, 3))
theorem e_Ds_isWindow_5 (L : List Value) (x : Int32) (st : List Value) (g : px_G) : rn k_Ds_isWindow 5 L (.int x :: st) g = if x = 0 then rn k_Ds_isWindow 34 L st g else rn k_Ds_isWindow 8 L st g := rn_ifeq dd_Ds_isWindow_5 (by decide)
theorem dd_Ds_isWindow_8 : decode (px_rw k_Ds_isWindow).2.1 8 = .ok (.iload_n 2, 1) := (by decide +kernel : decode prog_1_method_54_code 8 = .ok (.iload_n 2, 1))
theorem e_Ds_isWindow_8 (a0 a1 a3 : Value) (x : Int32) (st : List Value) (g : px_G) : rn k_Ds_isWindow 8 [a0, a1, .int x, a3] st g = rn k_Ds_isWindow 9 [a0, a1, .int x, a3] (.int x :: st) g := rn_next dd_Ds_isWindow_8 rfl
theorem dd_Ds_isWindow_9 : decode (px_rw k_Ds_isWindow).2.1 9 = .ok (.iconst 1, 1) := (by decide +kernel : decode prog_1_method_54_code 9 = .ok (.iconst 1, 1))
theorem e_Ds_isWindow_9 (L st : List Value) (g : px_G) : rn k_Ds_isWindow 9 L st g = rn k_Ds_isWindow 10 L (.int 1 :: st) g := rn_ipush (i := .iconst 1) dd_Ds_isWindow_9 rfl rfl (by decide)
theorem dd_Ds_isWindow_10 : decode (px_rw k_Ds_isWindow).2.1 10 = .ok (.if_icmp .lt 24, 3) := (by decide +kernel : decode prog_1_method_54_code 10 = .ok (.if_icmp .lt 24, 3))
theorem e_Ds_isWindow_10 (L : List Value) (x y : Int32) (st : List Value) (g : px_G) : rn k_Ds_isWindow 10 L (.int y :: .int x :: st) g = if x < y then rn k_Ds_isWindow 34 L st g else rn k_Ds_isWindow 13 L st g := rn_iclt dd_Ds_isWindow_10 (by decide)
theorem dd_Ds_isWindow_13 : decode (px_rw k_Ds_isWindow).2.1 13 = .ok (.iload_n 2, 1) := (by decide +kernel : decode prog_1_method_54_code 13 = .ok (.iload_n 2, 1))
theorem e_Ds_isWindow_13 (a0 a1 a3 : Value) (x : Int32) (st : List Value) (g : px_G) : rn k_Ds_isWindow 13 [a0, a1, .int x, a3] st g = rn k_Ds_isWindow 14 [a0, a1, .int x, a3] (.int x :: st) g := rn_next dd_Ds_isWindow_13 rfl
theorem dd_Ds_isWindow_14 : decode (px_rw k_Ds_isWindow).2.1 14 = .ok (.bipush 32, 2) := (by decide +kernel : decode prog_1_method_54_code 14 = .ok (.bipush 32, 2))
theorem e_Ds_isWindow_14 (L st : List Value) (g : px_G) : rn k_Ds_isWindow 14 L st g = rn k_Ds_isWindow 16 L (.int 32 :: st) g := rn_ipush (i := .bipush 32) dd_Ds_isWindow_14 rfl rfl (by decide)
theorem dd_Ds_isWindow_16 : decode (px_rw k_Ds_isWindow).2.1 16 = .ok (.if_icmp .gt 18, 3) := (by decide +kernel : decode prog_1_method_54_code 16 = .ok (.if_icmp .gt 18, 3))
theorem e_Ds_isWindow_16 (L : List Value) (x y : Int32) (st : List Value) (g : px_G) : rn k_Ds_isWindow 16 L (.int y :: .int x :: st) g = if y < x then rn k_Ds_isWindow 34 L st g else rn k_Ds_isWindow 19 L st g := rn_icgt dd_Ds_isWindow_16 (by decide)
theorem dd_Ds_isWindow_19 : decode (px_rw k_Ds_isWindow).2.1 19 = .ok (.iload_n 3, 1) := (by decide +kernel : decode prog_1_method_54_code 19 = .ok (.iload_n 3, 1))
theorem e_Ds_isWindow_19 (a0 a1 a2 : Value) (x : Int32) (st : List Value) (g : px_G) : rn k_Ds_isWindow 19 [a0, a1, a2, .int x] st g = rn k_Ds_isWindow 20 [a0, a1, a2, .int x] (.int x :: st) g := rn_next dd_Ds_isWindow_19 rfl
theorem dd_Ds_isWindow_20 : decode (px_rw k_Ds_isWindow).2.1 20 = .ok (.iconst 1, 1) := (by decide +kernel : decode prog_1_method_54_code 20 = .ok (.iconst 1, 1))
theorem e_Ds_isWindow_20 (L st : List Value) (g : px_G) : rn k_Ds_isWindow 20 L st g = rn k_Ds_isWindow 21 L (.int 1 :: st) g := rn_ipush (i := .iconst 1) dd_Ds_isWindow_20 rfl rfl (by decide)
theorem dd_Ds_isWindow_21 : decode (px_rw k_Ds_isWindow).2.1 21 = .ok (.if_icmp .lt 13, 3) := (by decide +kernel : decode prog_1_method_54_code 21 = .ok (.if_icmp .lt 13, 3))
theorem e_Ds_isWindow_21 (L : List Value) (x y : Int32) (st : List Value) (g : px_G) : rn k_Ds_isWindow 21 L (.int y :: .int x :: st) g = if x < y then rn k_Ds_isWindow 34 L st g else rn k_Ds_isWindow 24 L st g := rn_iclt dd_Ds_isWindow_21 (by decide)
theorem dd_Ds_isWindow_24 : decode (px_rw k_Ds_isWindow).2.1 24 = .ok (.iload_n 3, 1) := (by decide +kernel : decode prog_1_method_54_code 24 = .ok (.iload_n 3, 1))
theorem e_Ds_isWindow_24 (a0 a1 a2 : Value) (x : Int32) (st : List Value) (g : px_G) : rn k_Ds_isWindow 24 [a0, a1, a2, .int x] st g = rn k_Ds_isWindow 25 [a0, a1, a2, .int x] (.int x :: st) g := rn_next dd_Ds_isWindow_24 rfl
theorem dd_Ds_isWindow_25 : decode (px_rw k_Ds_isWindow).2.1 25 = .ok (.bipush 32, 2) := (by decide +kernel : decode prog_1_method_54_code 25 = .ok (.bipush 32, 2))
theorem e_Ds_isWindow_25 (L st : List Value) (g : px_G) : rn k_Ds_isWindow 25 L st g = rn k_Ds_isWindow 27 L (.int 32 :: st) g := rn_ipush (i := .bipush 32) dd_Ds_isWindow_25 rfl rfl (by decide)
theorem dd_Ds_isWindow_27 : decode (px_rw k_Ds_isWindow).2.1 27 = .ok (.if_icmp .gt 7, 3) := (by decide +kernel : decode prog_1_method_54_code 27 = .ok (.if_icmp .gt 7, 3))
theorem e_Ds_isWindow_27 (L : List Value) (x y : Int32) (st : List Value) (g : px_G) : rn k_Ds_isWindow 27 L (.int y :: .int x :: st) g = if y < x then rn k_Ds_isWindow 34 L st g else rn k_Ds_isWindow 30 L st g := rn_icgt dd_Ds_isWindow_27 (by decide)
theorem dd_Ds_isWindow_30 : decode (px_rw k_Ds_isWindow).2.1 30 = .ok (.iconst 1, 1) := (by decide +kernel : decode prog_1_method_54_code 30 = .ok (.iconst 1, 1))
theorem e_Ds_isWindow_30 (L st : List Value) (g : px_G) : rn k_Ds_isWindow 30 L st g = rn k_Ds_isWindow 31 L (.int 1 :: st) g := rn_ipush (i := .iconst 1) dd_Ds_isWindow_30 rfl rfl (by decide)
theorem dd_Ds_isWindow_31 : decode (px_rw k_Ds_isWindow).2.1 31 = .ok (.goto 4, 3) := (by decide +kernel : decode prog_1_method_54_code 31 = .ok (.goto 4, 3))
theorem e_Ds_isWindow_31 (L st : List Value) (g : px_G) : rn k_Ds_isWindow 31 L st g = rn k_Ds_isWindow 35 L st g := rn_goto dd_Ds_isWindow_31 (by decide)
theorem dd_Ds_isWindow_34 : decode (px_rw k_Ds_isWindow).2.1 34 = .ok (.iconst 0, 1) := (by decide +kernel : decode prog_1_method_54_code 34 = .ok (.iconst 0, 1))
theorem e_Ds_isWindow_34 (L st : List Value) (g : px_G) : rn k_Ds_isWindow 34 L st g = rn k_Ds_isWindow 35 L (.int 0 :: st) g := rn_ipush (i := .iconst 0) dd_Ds_isWindow_34 rfl rfl (by decide)
theorem dd_Ds_isWindow_35 : decode (px_rw k_Ds_isWindow).2.1 35 = .ok (.ireturn, 1) := (by decide +kernel : decode prog_1_method_54_code 35 = .ok (.ireturn, 1))
theorem e_Ds_isWindow_35 (L : List Value) (v : Int32) (g : px_G) (hv : v = 0 ∨ v = 1) : rn k_Ds_isWindow 35 L [.int v] g = some (some (.int v), g) := rn_zret dd_Ds_isWindow_35 rfl hv
theorem c_Ds_isCorner (i0 : Int32) (i1 : Int32) (g : px_G) : cl k_Ds_isCorner [.int i0, .int i1] g = rn k_Ds_isCorner 0 [.int i0, .int i1] [] g := rfl
theorem dd_Ds_isCorner_0 : decode (px_rw k_Ds_isCorner).2.1 0 = .ok (.iload_n 0, 1) := (by decide +kernel : decode prog_1_method_53_code 0 = .ok (.iload_n 0, 1))
theorem e_Ds_isCorner_0 (a1 : Value) (x : Int32) (st : List Value) (g : px_G) : rn k_Ds_isCorner 0 [.int x, a1] st g = rn k_Ds_isCorner 1 [.int x, a1] (.int x :: st) g := rn_next dd_Ds_isCorner_0 rfl
theorem dd_Ds_isCorner_1 : decode (px_rw k_Ds_isCorner).2.1 1 = .ok (.sipush 999, 3) := (by decide +kernel : decode prog_1_method_53_code 1 = .ok (.sipush 999, 3))
theorem e_Ds_isCorner_1 (L st : List Value) (g : px_G) : rn k_Ds_isCorner 1 L st g = rn k_Ds_isCorner 4 L (.int 999 :: st) g := rn_ipush (i := .sipush 999) dd_Ds_isCorner_1 rfl rfl (by decide)
theorem dd_Ds_isCorner_4 : decode (px_rw k_Ds_isCorner).2.1 4 = .ok (.invokestatic 345, 3) := (by decide +kernel : decode prog_1_method_53_code 4 = .ok (.invokestatic 345, 3))
theorem e_Ds_isCorner_4 (L : List Value) (i0 : Int32) (i1 : Int32) (g : px_G) : rn k_Ds_isCorner 4 L [.int i1, .int i0] g = bd (cl k_Ds_isWithin [.int i0, .int i1] g) (fun r g' => rn k_Ds_isCorner 7 L (r.toList ++ []) g') := rn_callS (As := [.int i0, .int i1]) (rest := []) dd_Ds_isCorner_4 rfl (by decide) rfl rfl (Nat.le_of_ble_eq_true rfl) (Nat.le_of_ble_eq_true rfl)
theorem dd_Ds_isCorner_7 : decode (px_rw k_Ds_isCorner).2.1 7 = .ok (.ifCond .eq 17, 3) := (by decide +kernel : decode prog_1_method_53_code 7 = .ok (.ifCond .eq 17, 3))
theorem e_Ds_isCorner_7 (L : List Value) (x : Int32) (st : List Value) (g : px_G) : rn k_Ds_isCorner 7 L (.int x :: st) g = if x = 0 then rn k_Ds_isCorner 24 L st g else rn k_Ds_isCorner 10 L st g := rn_ifeq dd_Ds_isCorner_7 (by decide)
theorem dd_Ds_isCorner_10 : decode (px_rw k_Ds_isCorner).2.1 10 = .ok (.iload_n 1, 1) := (by decide +kernel : decode prog_1_method_53_code 10 = .ok (.iload_n 1, 1))
theorem e_Ds_isCorner_10 (a0 : Value) (x : Int32) (st : List Value) (g : px_G) : rn k_Ds_isCorner 10 [a0, .int x] st g = rn k_Ds_isCorner 11 [a0, .int x] (.int x :: st) g := rn_next dd_Ds_isCorner_10 rfl
theorem dd_Ds_isCorner_11 : decode (px_rw k_Ds_isCorner).2.1 11 = .ok (.sipush 999, 3) := (by decide +kernel : decode prog_1_method_53_code 11 = .ok (.sipush 999, 3))
theorem e_Ds_isCorner_11 (L st : List Value) (g : px_G) : rn k_Ds_isCorner 11 L st g = rn k_Ds_isCorner 14 L (.int 999 :: st) g := rn_ipush (i := .sipush 999) dd_Ds_isCorner_11 rfl rfl (by decide)
theorem dd_Ds_isCorner_14 : decode (px_rw k_Ds_isCorner).2.1 14 = .ok (.invokestatic 345, 3) := (by decide +kernel : decode prog_1_method_53_code 14 = .ok (.invokestatic 345, 3))
theorem e_Ds_isCorner_14 (L : List Value) (i0 : Int32) (i1 : Int32) (g : px_G) : rn k_Ds_isCorner 14 L [.int i1, .int i0] g = bd (cl k_Ds_isWithin [.int i0, .int i1] g) (fun r g' => rn k_Ds_isCorner 17 L (r.toList ++ []) g') := rn_callS (As := [.int i0, .int i1]) (rest := []) dd_Ds_isCorner_14 rfl (by decide) rfl rfl (Nat.le_of_ble_eq_true rfl) (Nat.le_of_ble_eq_true rfl)
theorem dd_Ds_isCorner_17 : decode (px_rw k_Ds_isCorner).2.1 17 = .ok (.ifCond .eq 7, 3) := (by decide +kernel : decode prog_1_method_53_code 17 = .ok (.ifCond .eq 7, 3))
theorem e_Ds_isCorner_17 (L : List Value) (x : Int32) (st : List Value) (g : px_G) : rn k_Ds_isCorner 17 L (.int x :: st) g = if x = 0 then rn k_Ds_isCorner 24 L st g else rn k_Ds_isCorner 20 L st g := rn_ifeq dd_Ds_isCorner_17 (by decide)
theorem dd_Ds_isCorner_20 : decode (px_rw k_Ds_isCorner).2.1 20 = .ok (.iconst 1, 1) := (by decide +kernel : decode prog_1_method_53_code 20 = .ok (.iconst 1, 1))
theorem e_Ds_isCorner_20 (L st : List Value) (g : px_G) : rn k_Ds_isCorner 20 L st g = rn k_Ds_isCorner 21 L (.int 1 :: st) g := rn_ipush (i := .iconst 1) dd_Ds_isCorner_20 rfl rfl (by decide)
theorem dd_Ds_isCorner_21 : decode (px_rw k_Ds_isCorner).2.1 21 = .ok (.goto 4, 3) := (by decide +kernel : decode prog_1_method_53_code 21 = .ok (.goto 4, 3))
theorem e_Ds_isCorner_21 (L st : List Value) (g : px_G) : rn k_Ds_isCorner 21 L st g = rn k_Ds_isCorner 25 L st g := rn_goto dd_Ds_isCorner_21 (by decide)
theorem dd_Ds_isCorner_24 : decode (px_rw k_Ds_isCorner).2.1 24 = .ok (.iconst 0, 1) := (by decide +kernel : decode prog_1_method_53_code 24 = .ok (.iconst 0, 1))
theorem e_Ds_isCorner_24 (L st : List Value) (g : px_G) : rn k_Ds_isCorner 24 L st g = rn k_Ds_isCorner 25 L (.int 0 :: st) g := rn_ipush (i := .iconst 0) dd_Ds_isCorner_24 rfl rfl (by decide)
theorem dd_Ds_isCorner_25 : decode (px_rw k_Ds_isCorner).2.1 25 = .ok (.ireturn, 1) := (by decide +kernel : decode prog_1_method_53_code 25 = .ok (.ireturn, 1))
theorem e_Ds_isCorner_25 (L : List Value) (v : Int32) (g : px_G) (hv : v = 0 ∨ v = 1) : rn k_Ds_isCorner 25 L [.int v] g = some (some (.int v), g) := rn_zret dd_Ds_isCorner_25 rfl hv
theorem c_Ds_densest (r0 : Nat) (i1 : Int32) (i2 : Int32) (i3 : Int32) (i4 : Int32) (g : px_G) : cl k_Ds_densest [.ref r0, .int i1, .int i2, .int i3, .int i4] g = rn k_Ds_densest 0 [.ref r0, .int i1, .int i2, .int i3, .int i4, .null, .null, .null] [] g := rfl
theorem dd_Ds_densest_0 : decode (px_rw k_Ds_densest).2.1 0 = .ok (.iload_n 1, 1) := (by decide +kernel : decode prog_1_method_26_code 0 = .ok (.iload_n 1, 1))
theorem e_Ds_densest_0 (a0 a2 a3 a4 a5 a6 a7 : Value) (x : Int32) (st : List Value) (g : px_G) : rn k_Ds_densest 0 [a0, .int x, a2, a3, a4, a5, a6, a7] st g = rn k_Ds_densest 1 [a0, .int x, a2, a3, a4, a5, a6, a7] (.int x :: st) g := rn_next dd_Ds_densest_0 rfl
theorem dd_Ds_densest_1 : decode (px_rw k_Ds_densest).2.1 1 = .ok (.iload_n 2, 1) := (by decide +kernel : decode prog_1_method_26_code 1 = .ok (.iload_n 2, 1))
theorem e_Ds_densest_1 (a0 a1 a3 a4 a5 a6 a7 : Value) (x : Int32) (st : List Value) (g : px_G) : rn k_Ds_densest 1 [a0, a1, .int x, a3, a4, a5, a6, a7] st g = rn k_Ds_densest 2 [a0, a1, .int x, a3, a4, a5, a6, a7] (.int x :: st) g := rn_next dd_Ds_densest_1 rfl
theorem dd_Ds_densest_2 : decode (px_rw k_Ds_densest).2.1 2 = .ok (.iload_n 3, 1) := (by decide +kernel : decode prog_1_method_26_code 2 = .ok (.iload_n 3, 1))
theorem e_Ds_densest_2 (a0 a1 a2 a4 a5 a6 a7 : Value) (x : Int32) (st : List Value) (g : px_G) : rn k_Ds_densest 2 [a0, a1, a2, .int x, a4, a5, a6, a7] st g = rn k_Ds_densest 3 [a0, a1, a2, .int x, a4, a5, a6, a7] (.int x :: st) g := rn_next dd_Ds_densest_2 rfl
theorem dd_Ds_densest_3 : decode (px_rw k_Ds_densest).2.1 3 = .ok (.iload 4, 2) := (by decide +kernel : decode prog_1_method_26_code 3 = .ok (.iload 4, 2))
theorem e_Ds_densest_3 (a0 a1 a2 a3 a5 a6 a7 : Value) (x : Int32) (st : List Value) (g : px_G) : rn k_Ds_densest 3 [a0, a1, a2, a3, .int x, a5, a6, a7] st g = rn k_Ds_densest 5 [a0, a1, a2, a3, .int x, a5, a6, a7] (.int x :: st) g := rn_next dd_Ds_densest_3 rfl
theorem dd_Ds_densest_5 : decode (px_rw k_Ds_densest).2.1 5 = .ok (.invokestatic 308, 3) := (by decide +kernel : decode prog_1_method_26_code 5 = .ok (.invokestatic 308, 3))
theorem e_Ds_densest_5 (L : List Value) (i0 : Int32) (i1 : Int32) (i2 : Int32) (i3 : Int32) (g : px_G) : rn k_Ds_densest 5 L [.int i3, .int i2, .int i1, .int i0] g = bd (cl k_Ds_isWindow [.int i0, .int i1, .int i2, .int i3] g) (fun r g' => rn k_Ds_densest 8 L (r.toList ++ []) g') := rn_callS (As := [.int i0, .int i1, .int i2, .int i3]) (rest := []) dd_Ds_densest_5 rfl (by decide) rfl rfl (Nat.le_of_ble_eq_true rfl) (Nat.le_of_ble_eq_true rfl)
theorem dd_Ds_densest_8 : decode (px_rw k_Ds_densest).2.1 8 = .ok (.ifCond .ne 5, 3) := (by decide +kernel : decode prog_1_method_26_code 8 = .ok (.ifCond .ne 5, 3))
theorem e_Ds_densest_8 (L : List Value) (x : Int32) (st : List Value) (g : px_G) : rn k_Ds_densest 8 L (.int x :: st) g = if x = 0 then rn k_Ds_densest 11 L st g else rn k_Ds_densest 13 L st g := rn_ifne dd_Ds_densest_8 (by decide)
theorem dd_Ds_densest_11 : decode (px_rw k_Ds_densest).2.1 11 = .ok (.iconst (-1), 1) := (by decide +kernel : decode prog_1_method_26_code 11 = .ok (.iconst (-1), 1))
theorem e_Ds_densest_11 (L st : List Value) (g : px_G) : rn k_Ds_densest 11 L st g = rn k_Ds_densest 12 L (.int (-1) :: st) g := rn_ipush (i := .iconst (-1)) dd_Ds_densest_11 rfl rfl (by decide)
theorem dd_Ds_densest_12 : decode (px_rw k_Ds_densest).2.1 12 = .ok (.ireturn, 1) := (by decide +kernel : decode prog_1_method_26_code 12 = .ok (.ireturn, 1))
theorem e_Ds_densest_12 (L : List Value) (v : Int32) (g : px_G) : rn k_Ds_densest 12 L [.int v] g = some (some (.int v), g) := rn_iret dd_Ds_densest_12 rfl
theorem dd_Ds_densest_13 : decode (px_rw k_Ds_densest).2.1 13 = .ok (.iconst 0, 1) := (by decide +kernel : decode prog_1_method_26_code 13 = .ok (.iconst 0, 1))
theorem e_Ds_densest_13 (L st : List Value) (g : px_G) : rn k_Ds_densest 13 L st g = rn k_Ds_densest 14 L (.int 0 :: st) g := rn_ipush (i := .iconst 0) dd_Ds_densest_13 rfl rfl (by decide)
theorem dd_Ds_densest_14 : decode (px_rw k_Ds_densest).2.1 14 = .ok (.istore 5, 2) := (by decide +kernel : decode prog_1_method_26_code 14 = .ok (.istore 5, 2))
theorem e_Ds_densest_14 (a0 a1 a2 a3 a4 a5 a6 a7 : Value) (x : Int32) (st : List Value) (g : px_G) : rn k_Ds_densest 14 [a0, a1, a2, a3, a4, a5, a6, a7] (.int x :: st) g = rn k_Ds_densest 16 [a0, a1, a2, a3, px_kill a4, .int x, a6, a7] st g := rn_next dd_Ds_densest_14 rfl
theorem dd_Ds_densest_16 : decode (px_rw k_Ds_densest).2.1 16 = .ok (.iconst 0, 1) := (by decide +kernel : decode prog_1_method_26_code 16 = .ok (.iconst 0, 1))
theorem e_Ds_densest_16 (L st : List Value) (g : px_G) : rn k_Ds_densest 16 L st g = rn k_Ds_densest 17 L (.int 0 :: st) g := rn_ipush (i := .iconst 0) dd_Ds_densest_16 rfl rfl (by decide)
theorem dd_Ds_densest_17 : decode (px_rw k_Ds_densest).2.1 17 = .ok (.istore 6, 2) := (by decide +kernel : decode prog_1_method_26_code 17 = .ok (.istore 6, 2))
theorem e_Ds_densest_17 (a0 a1 a2 a3 a4 a5 a6 a7 : Value) (x : Int32) (st : List Value) (g : px_G) : rn k_Ds_densest 17 [a0, a1, a2, a3, a4, a5, a6, a7] (.int x :: st) g = rn k_Ds_densest 19 [a0, a1, a2, a3, a4, px_kill a5, .int x, a7] st g := rn_next dd_Ds_densest_17 rfl
theorem dd_Ds_densest_19 : decode (px_rw k_Ds_densest).2.1 19 = .ok (.iload 6, 2) := (by decide +kernel : decode prog_1_method_26_code 19 = .ok (.iload 6, 2))
theorem e_Ds_densest_19 (a0 a1 a2 a3 a4 a5 a7 : Value) (x : Int32) (st : List Value) (g : px_G) : rn k_Ds_densest 19 [a0, a1, a2, a3, a4, a5, .int x, a7] st g = rn k_Ds_densest 21 [a0, a1, a2, a3, a4, a5, .int x, a7] (.int x :: st) g := rn_next dd_Ds_densest_19 rfl
theorem dd_Ds_densest_21 : decode (px_rw k_Ds_densest).2.1 21 = .ok (.iload 4, 2) := (by decide +kernel : decode prog_1_method_26_code 21 = .ok (.iload 4, 2))
theorem e_Ds_densest_21 (a0 a1 a2 a3 a5 a6 a7 : Value) (x : Int32) (st : List Value) (g : px_G) : rn k_Ds_densest 21 [a0, a1, a2, a3, .int x, a5, a6, a7] st g = rn k_Ds_densest 23 [a0, a1, a2, a3, .int x, a5, a6, a7] (.int x :: st) g := rn_next dd_Ds_densest_21 rfl
theorem dd_Ds_densest_23 : decode (px_rw k_Ds_densest).2.1 23 = .ok (.if_icmp .ge 47, 3) := (by decide +kernel : decode prog_1_method_26_code 23 = .ok (.if_icmp .ge 47, 3))
theorem e_Ds_densest_23 (L : List Value) (x y : Int32) (st : List Value) (g : px_G) : rn k_Ds_densest 23 L (.int y :: .int x :: st) g = if y ≤ x then rn k_Ds_densest 70 L st g else rn k_Ds_densest 26 L st g := rn_icge dd_Ds_densest_23 (by decide)
theorem dd_Ds_densest_26 : decode (px_rw k_Ds_densest).2.1 26 = .ok (.aload_n 0, 1) := (by decide +kernel : decode prog_1_method_26_code 26 = .ok (.aload_n 0, 1))
theorem e_Ds_densest_26 (a1 a2 a3 a4 a5 a6 a7 : Value) (x : Nat) (st : List Value) (g : px_G) : rn k_Ds_densest 26 [.ref x, a1, a2, a3, a4, a5, a6, a7] st g = rn k_Ds_densest 27 [.ref x, a1, a2, a3, a4, a5, a6, a7] (.ref x :: st) g := rn_next dd_Ds_densest_26 rfl
theorem dd_Ds_densest_27 : decode (px_rw k_Ds_densest).2.1 27 = .ok (.iload_n 1, 1) := (by decide +kernel : decode prog_1_method_26_code 27 = .ok (.iload_n 1, 1))
theorem e_Ds_densest_27 (a0 a2 a3 a4 a5 a6 a7 : Value) (x : Int32) (st : List Value) (g : px_G) : rn k_Ds_densest 27 [a0, .int x, a2, a3, a4, a5, a6, a7] st g = rn k_Ds_densest 28 [a0, .int x, a2, a3, a4, a5, a6, a7] (.int x :: st) g := rn_next dd_Ds_densest_27 rfl
theorem dd_Ds_densest_28 : decode (px_rw k_Ds_densest).2.1 28 = .ok (.iload_n 2, 1) := (by decide +kernel : decode prog_1_method_26_code 28 = .ok (.iload_n 2, 1))
theorem e_Ds_densest_28 (a0 a1 a3 a4 a5 a6 a7 : Value) (x : Int32) (st : List Value) (g : px_G) : rn k_Ds_densest 28 [a0, a1, .int x, a3, a4, a5, a6, a7] st g = rn k_Ds_densest 29 [a0, a1, .int x, a3, a4, a5, a6, a7] (.int x :: st) g := rn_next dd_Ds_densest_28 rfl
theorem dd_Ds_densest_29 : decode (px_rw k_Ds_densest).2.1 29 = .ok (.iload 6, 2) := (by decide +kernel : decode prog_1_method_26_code 29 = .ok (.iload 6, 2))
theorem e_Ds_densest_29 (a0 a1 a2 a3 a4 a5 a7 : Value) (x : Int32) (st : List Value) (g : px_G) : rn k_Ds_densest 29 [a0, a1, a2, a3, a4, a5, .int x, a7] st g = rn k_Ds_densest 31 [a0, a1, a2, a3, a4, a5, .int x, a7] (.int x :: st) g := rn_next dd_Ds_densest_29 rfl
theorem dd_Ds_densest_31 : decode (px_rw k_Ds_densest).2.1 31 = .ok (.iadd, 1) := (by decide +kernel : decode prog_1_method_26_code 31 = .ok (.iadd, 1))
theorem e_Ds_densest_31 (L : List Value) (x y : Int32) (st : List Value) (g : px_G) : rn k_Ds_densest 31 L (.int y :: .int x :: st) g = rn k_Ds_densest 32 L (.int (x + y) :: st) g := rn_next dd_Ds_densest_31 rfl
theorem dd_Ds_densest_32 : decode (px_rw k_Ds_densest).2.1 32 = .ok (.invokevirtual 305, 3) := (by decide +kernel : decode prog_1_method_26_code 32 = .ok (.invokevirtual 305, 3))
theorem e_Ds_densest_32 (L : List Value) (i0 : Int32) (i1 : Int32)  (T : TS)  : rn k_Ds_densest 32 L [.int i1, .int i0, .ref 0] (enc T) = bd (cl k_Ds_startRow [.ref 0, .int i0, .int i1] (enc T)) (fun r g' => rn k_Ds_densest 35 L (r.toList ++ []) g') := rn_callV (n := 13) (As := [.int i0, .int i1]) (rest := []) dd_Ds_densest_32 rfl (by decide) (by decide) rfl rfl (Nat.le_of_ble_eq_true rfl) (Nat.le_of_ble_eq_true rfl) rfl
theorem dd_Ds_densest_35 : decode (px_rw k_Ds_densest).2.1 35 = .ok (.iconst 0, 1) := (by decide +kernel : decode prog_1_method_26_code 35 = .ok (.iconst 0, 1))
theorem e_Ds_densest_35 (L st : List Value) (g : px_G) : rn k_Ds_densest 35 L st g = rn k_Ds_densest 36 L (.int 0 :: st) g := rn_ipush (i := .iconst 0) dd_Ds_densest_35 rfl rfl (by decide)
theorem dd_Ds_densest_36 : decode (px_rw k_Ds_densest).2.1 36 = .ok (.istore 7, 2) := (by decide +kernel : decode prog_1_method_26_code 36 = .ok (.istore 7, 2))
theorem e_Ds_densest_36 (a0 a1 a2 a3 a4 a5 a6 a7 : Value) (x : Int32) (st : List Value) (g : px_G) : rn k_Ds_densest 36 [a0, a1, a2, a3, a4, a5, a6, a7] (.int x :: st) g = rn k_Ds_densest 38 [a0, a1, a2, a3, a4, a5, px_kill a6, .int x] st g := rn_next dd_Ds_densest_36 rfl
theorem dd_Ds_densest_38 : decode (px_rw k_Ds_densest).2.1 38 = .ok (.iload 7, 2) := (by decide +kernel : decode prog_1_method_26_code 38 = .ok (.iload 7, 2))
theorem e_Ds_densest_38 (a0 a1 a2 a3 a4 a5 a6 : Value) (x : Int32) (st : List Value) (g : px_G) : rn k_Ds_densest 38 [a0, a1, a2, a3, a4, a5, a6, .int x] st g = rn k_Ds_densest 40 [a0, a1, a2, a3, a4, a5, a6, .int x] (.int x :: st) g := rn_next dd_Ds_densest_38 rfl
theorem dd_Ds_densest_40 : decode (px_rw k_Ds_densest).2.1 40 = .ok (.iload_n 3, 1) := (by decide +kernel : decode prog_1_method_26_code 40 = .ok (.iload_n 3, 1))
theorem e_Ds_densest_40 (a0 a1 a2 a4 a5 a6 a7 : Value) (x : Int32) (st : List Value) (g : px_G) : rn k_Ds_densest 40 [a0, a1, a2, .int x, a4, a5, a6, a7] st g = rn k_Ds_densest 41 [a0, a1, a2, .int x, a4, a5, a6, a7] (.int x :: st) g := rn_next dd_Ds_densest_40 rfl
theorem dd_Ds_densest_41 : decode (px_rw k_Ds_densest).2.1 41 = .ok (.if_icmp .ge 23, 3) := (by decide +kernel : decode prog_1_method_26_code 41 = .ok (.if_icmp .ge 23, 3))
theorem e_Ds_densest_41 (L : List Value) (x y : Int32) (st : List Value) (g : px_G) : rn k_Ds_densest 41 L (.int y :: .int x :: st) g = if y ≤ x then rn k_Ds_densest 64 L st g else rn k_Ds_densest 44 L st g := rn_icge dd_Ds_densest_41 (by decide)
theorem dd_Ds_densest_44 : decode (px_rw k_Ds_densest).2.1 44 = .ok (.iload 5, 2) := (by decide +kernel : decode prog_1_method_26_code 44 = .ok (.iload 5, 2))
theorem e_Ds_densest_44 (a0 a1 a2 a3 a4 a6 a7 : Value) (x : Int32) (st : List Value) (g : px_G) : rn k_Ds_densest 44 [a0, a1, a2, a3, a4, .int x, a6, a7] st g = rn k_Ds_densest 46 [a0, a1, a2, a3, a4, .int x, a6, a7] (.int x :: st) g := rn_next dd_Ds_densest_44 rfl
theorem dd_Ds_densest_46 : decode (px_rw k_Ds_densest).2.1 46 = .ok (.aload_n 0, 1) := (by decide +kernel : decode prog_1_method_26_code 46 = .ok (.aload_n 0, 1))
theorem e_Ds_densest_46 (a1 a2 a3 a4 a5 a6 a7 : Value) (x : Nat) (st : List Value) (g : px_G) : rn k_Ds_densest 46 [.ref x, a1, a2, a3, a4, a5, a6, a7] st g = rn k_Ds_densest 47 [.ref x, a1, a2, a3, a4, a5, a6, a7] (.ref x :: st) g := rn_next dd_Ds_densest_46 rfl
theorem dd_Ds_densest_47 : decode (px_rw k_Ds_densest).2.1 47 = .ok (.invokevirtual 306, 3) := (by decide +kernel : decode prog_1_method_26_code 47 = .ok (.invokevirtual 306, 3))
theorem e_Ds_densest_47 (L : List Value) (i100 : Int32)  (T : TS)  : rn k_Ds_densest 47 L [.ref 0, .int i100] (enc T) = bd (cl k_Ds_passPixel [.ref 0] (enc T)) (fun r g' => rn k_Ds_densest 50 L (r.toList ++ [.int i100]) g') := rn_callV (n := 13) (As := []) (rest := [.int i100]) dd_Ds_densest_47 rfl (by decide) (by decide) rfl rfl (Nat.le_of_ble_eq_true rfl) (Nat.le_of_ble_eq_true rfl) rfl
theorem dd_Ds_densest_50 : decode (px_rw k_Ds_densest).2.1 50 = .ok (.invokestatic 312, 3) := (by decide +kernel : decode prog_1_method_26_code 50 = .ok (.invokestatic 312, 3))
theorem e_Ds_densest_50 (L : List Value) (i0 : Int32) (i100 : Int32) (g : px_G) : rn k_Ds_densest 50 L [.int i0, .int i100] g = bd (cl k_Integer_bitCount [.int i0] g) (fun r g' => rn k_Ds_densest 53 L (r.toList ++ [.int i100]) g') := rn_callS (As := [.int i0]) (rest := [.int i100]) dd_Ds_densest_50 rfl (by decide) rfl rfl (Nat.le_of_ble_eq_true rfl) (Nat.le_of_ble_eq_true rfl)
theorem dd_Ds_densest_53 : decode (px_rw k_Ds_densest).2.1 53 = .ok (.invokestatic 246, 3) := (by decide +kernel : decode prog_1_method_26_code 53 = .ok (.invokestatic 246, 3))
theorem e_Ds_densest_53 (L : List Value) (i0 : Int32) (i1 : Int32) (g : px_G) : rn k_Ds_densest 53 L [.int i1, .int i0] g = bd (cl k_Math_max_II [.int i0, .int i1] g) (fun r g' => rn k_Ds_densest 56 L (r.toList ++ []) g') := rn_callS (As := [.int i0, .int i1]) (rest := []) dd_Ds_densest_53 rfl (by decide) rfl rfl (Nat.le_of_ble_eq_true rfl) (Nat.le_of_ble_eq_true rfl)
theorem dd_Ds_densest_56 : decode (px_rw k_Ds_densest).2.1 56 = .ok (.istore 5, 2) := (by decide +kernel : decode prog_1_method_26_code 56 = .ok (.istore 5, 2))
theorem e_Ds_densest_56 (a0 a1 a2 a3 a4 a5 a6 a7 : Value) (x : Int32) (st : List Value) (g : px_G) : rn k_Ds_densest 56 [a0, a1, a2, a3, a4, a5, a6, a7] (.int x :: st) g = rn k_Ds_densest 58 [a0, a1, a2, a3, px_kill a4, .int x, a6, a7] st g := rn_next dd_Ds_densest_56 rfl
theorem dd_Ds_densest_58 : decode (px_rw k_Ds_densest).2.1 58 = .ok (.iinc 7 1, 3) := (by decide +kernel : decode prog_1_method_26_code 58 = .ok (.iinc 7 1, 3))
theorem e_Ds_densest_58 (a0 a1 a2 a3 a4 a5 a6 : Value) (x : Int32) (st : List Value) (g : px_G) : rn k_Ds_densest 58 [a0, a1, a2, a3, a4, a5, a6, .int x] st g = rn k_Ds_densest 61 [a0, a1, a2, a3, a4, a5, px_kill a6, .int (x + 1)] st g := rn_next dd_Ds_densest_58 rfl
theorem dd_Ds_densest_61 : decode (px_rw k_Ds_densest).2.1 61 = .ok (.goto (-23), 3) := (by decide +kernel : decode prog_1_method_26_code 61 = .ok (.goto (-23), 3))
theorem e_Ds_densest_61 (L st : List Value) (g : px_G) : rn k_Ds_densest 61 L st g = rn k_Ds_densest 38 L st g := rn_goto dd_Ds_densest_61 (by decide)
theorem dd_Ds_densest_64 : decode (px_rw k_Ds_densest).2.1 64 = .ok (.iinc 6 1, 3) := (by decide +kernel : decode prog_1_method_26_code 64 = .ok (.iinc 6 1, 3))
theorem e_Ds_densest_64 (a0 a1 a2 a3 a4 a5 a7 : Value) (x : Int32) (st : List Value) (g : px_G) : rn k_Ds_densest 64 [a0, a1, a2, a3, a4, a5, .int x, a7] st g = rn k_Ds_densest 67 [a0, a1, a2, a3, a4, px_kill a5, .int (x + 1), a7] st g := rn_next dd_Ds_densest_64 rfl
theorem dd_Ds_densest_67 : decode (px_rw k_Ds_densest).2.1 67 = .ok (.goto (-48), 3) := (by decide +kernel : decode prog_1_method_26_code 67 = .ok (.goto (-48), 3))
theorem e_Ds_densest_67 (L st : List Value) (g : px_G) : rn k_Ds_densest 67 L st g = rn k_Ds_densest 19 L st g := rn_goto dd_Ds_densest_67 (by decide)
theorem dd_Ds_densest_70 : decode (px_rw k_Ds_densest).2.1 70 = .ok (.iload 5, 2) := (by decide +kernel : decode prog_1_method_26_code 70 = .ok (.iload 5, 2))
theorem e_Ds_densest_70 (a0 a1 a2 a3 a4 a6 a7 : Value) (x : Int32) (st : List Value) (g : px_G) : rn k_Ds_densest 70 [a0, a1, a2, a3, a4, .int x, a6, a7] st g = rn k_Ds_densest 72 [a0, a1, a2, a3, a4, .int x, a6, a7] (.int x :: st) g := rn_next dd_Ds_densest_70 rfl
theorem dd_Ds_densest_72 : decode (px_rw k_Ds_densest).2.1 72 = .ok (.ireturn, 1) := (by decide +kernel : decode prog_1_method_26_code 72 = .ok (.ireturn, 1))
theorem e_Ds_densest_72 (L : List Value) (v : Int32) (g : px_G) : rn k_Ds_densest 72 L [.int v] g = some (some (.int v), g) := rn_iret dd_Ds_densest_72 rfl
theorem c_Ds_next (r0 : Nat) (i1 : Int32) (i2 : Int32) (i3 : Int32) (g : px_G) : cl k_Ds_next [.ref r0, .int i1, .int i2, .int i3] g = rn k_Ds_next 0 [.ref r0, .int i1, .int i2, .int i3, .null] [] g := rfl
theorem dd_Ds_next_0 : decode (px_rw k_Ds_next).2.1 0 = .ok (.iload_n 1, 1) := (by decide +kernel : decode prog_1_method_27_code 0 = .ok (.iload_n 1, 1))
theorem e_Ds_next_0 (a0 a2 a3 a4 : Value) (x : Int32) (st : List Value) (g : px_G) : rn k_Ds_next 0 [a0, .int x, a2, a3, a4] st g = rn k_Ds_next 1 [a0, .int x, a2, a3, a4] (.int x :: st) g := rn_next dd_Ds_next_0 rfl
theorem dd_Ds_next_1 : decode (px_rw k_Ds_next).2.1 1 = .ok (.iload_n 2, 1) := (by decide +kernel : decode prog_1_method_27_code 1 = .ok (.iload_n 2, 1))
theorem e_Ds_next_1 (a0 a1 a3 a4 : Value) (x : Int32) (st : List Value) (g : px_G) : rn k_Ds_next 1 [a0, a1, .int x, a3, a4] st g = rn k_Ds_next 2 [a0, a1, .int x, a3, a4] (.int x :: st) g := rn_next dd_Ds_next_1 rfl
theorem dd_Ds_next_2 : decode (px_rw k_Ds_next).2.1 2 = .ok (.invokestatic 317, 3) := (by decide +kernel : decode prog_1_method_27_code 2 = .ok (.invokestatic 317, 3))
theorem e_Ds_next_2 (L : List Value) (i0 : Int32) (i1 : Int32) (g : px_G) : rn k_Ds_next 2 L [.int i1, .int i0] g = bd (cl k_Ds_isCorner [.int i0, .int i1] g) (fun r g' => rn k_Ds_next 5 L (r.toList ++ []) g') := rn_callS (As := [.int i0, .int i1]) (rest := []) dd_Ds_next_2 rfl (by decide) rfl rfl (Nat.le_of_ble_eq_true rfl) (Nat.le_of_ble_eq_true rfl)
theorem dd_Ds_next_5 : decode (px_rw k_Ds_next).2.1 5 = .ok (.ifCond .eq 13, 3) := (by decide +kernel : decode prog_1_method_27_code 5 = .ok (.ifCond .eq 13, 3))
theorem e_Ds_next_5 (L : List Value) (x : Int32) (st : List Value) (g : px_G) : rn k_Ds_next 5 L (.int x :: st) g = if x = 0 then rn k_Ds_next 18 L st g else rn k_Ds_next 8 L st g := rn_ifeq dd_Ds_next_5 (by decide)
theorem dd_Ds_next_8 : decode (px_rw k_Ds_next).2.1 8 = .ok (.iload_n 3, 1) := (by decide +kernel : decode prog_1_method_27_code 8 = .ok (.iload_n 3, 1))
theorem e_Ds_next_8 (a0 a1 a2 a4 : Value) (x : Int32) (st : List Value) (g : px_G) : rn k_Ds_next 8 [a0, a1, a2, .int x, a4] st g = rn k_Ds_next 9 [a0, a1, a2, .int x, a4] (.int x :: st) g := rn_next dd_Ds_next_8 rfl
theorem dd_Ds_next_9 : decode (px_rw k_Ds_next).2.1 9 = .ok (.ifCond .lt 9, 3) := (by decide +kernel : decode prog_1_method_27_code 9 = .ok (.ifCond .lt 9, 3))
theorem e_Ds_next_9 (L : List Value) (x : Int32) (st : List Value) (g : px_G) : rn k_Ds_next 9 L (.int x :: st) g = if x < 0 then rn k_Ds_next 18 L st g else rn k_Ds_next 12 L st g := rn_iflt dd_Ds_next_9 (by decide)
theorem dd_Ds_next_12 : decode (px_rw k_Ds_next).2.1 12 = .ok (.iload_n 3, 1) := (by decide +kernel : decode prog_1_method_27_code 12 = .ok (.iload_n 3, 1))
theorem e_Ds_next_12 (a0 a1 a2 a4 : Value) (x : Int32) (st : List Value) (g : px_G) : rn k_Ds_next 12 [a0, a1, a2, .int x, a4] st g = rn k_Ds_next 13 [a0, a1, a2, .int x, a4] (.int x :: st) g := rn_next dd_Ds_next_12 rfl
theorem dd_Ds_next_13 : decode (px_rw k_Ds_next).2.1 13 = .ok (.bipush 15, 2) := (by decide +kernel : decode prog_1_method_27_code 13 = .ok (.bipush 15, 2))
theorem e_Ds_next_13 (L st : List Value) (g : px_G) : rn k_Ds_next 13 L st g = rn k_Ds_next 15 L (.int 15 :: st) g := rn_ipush (i := .bipush 15) dd_Ds_next_13 rfl rfl (by decide)
theorem dd_Ds_next_15 : decode (px_rw k_Ds_next).2.1 15 = .ok (.if_icmp .le 5, 3) := (by decide +kernel : decode prog_1_method_27_code 15 = .ok (.if_icmp .le 5, 3))
theorem e_Ds_next_15 (L : List Value) (x y : Int32) (st : List Value) (g : px_G) : rn k_Ds_next 15 L (.int y :: .int x :: st) g = if x ≤ y then rn k_Ds_next 20 L st g else rn k_Ds_next 18 L st g := rn_icle dd_Ds_next_15 (by decide)
theorem dd_Ds_next_18 : decode (px_rw k_Ds_next).2.1 18 = .ok (.iconst (-1), 1) := (by decide +kernel : decode prog_1_method_27_code 18 = .ok (.iconst (-1), 1))
theorem e_Ds_next_18 (L st : List Value) (g : px_G) : rn k_Ds_next 18 L st g = rn k_Ds_next 19 L (.int (-1) :: st) g := rn_ipush (i := .iconst (-1)) dd_Ds_next_18 rfl rfl (by decide)
theorem dd_Ds_next_19 : decode (px_rw k_Ds_next).2.1 19 = .ok (.ireturn, 1) := (by decide +kernel : decode prog_1_method_27_code 19 = .ok (.ireturn, 1))
theorem e_Ds_next_19 (L : List Value) (v : Int32) (g : px_G) : rn k_Ds_next 19 L [.int v] g = some (some (.int v), g) := rn_iret dd_Ds_next_19 rfl
theorem dd_Ds_next_20 : decode (px_rw k_Ds_next).2.1 20 = .ok (.aload_n 0, 1) := (by decide +kernel : decode prog_1_method_27_code 20 = .ok (.aload_n 0, 1))
theorem e_Ds_next_20 (a1 a2 a3 a4 : Value) (x : Nat) (st : List Value) (g : px_G) : rn k_Ds_next 20 [.ref x, a1, a2, a3, a4] st g = rn k_Ds_next 21 [.ref x, a1, a2, a3, a4] (.ref x :: st) g := rn_next dd_Ds_next_20 rfl
theorem dd_Ds_next_21 : decode (px_rw k_Ds_next).2.1 21 = .ok (.iload_n 1, 1) := (by decide +kernel : decode prog_1_method_27_code 21 = .ok (.iload_n 1, 1))
theorem e_Ds_next_21 (a0 a2 a3 a4 : Value) (x : Int32) (st : List Value) (g : px_G) : rn k_Ds_next 21 [a0, .int x, a2, a3, a4] st g = rn k_Ds_next 22 [a0, .int x, a2, a3, a4] (.int x :: st) g := rn_next dd_Ds_next_21 rfl
theorem dd_Ds_next_22 : decode (px_rw k_Ds_next).2.1 22 = .ok (.iload_n 2, 1) := (by decide +kernel : decode prog_1_method_27_code 22 = .ok (.iload_n 2, 1))
theorem e_Ds_next_22 (a0 a1 a3 a4 : Value) (x : Int32) (st : List Value) (g : px_G) : rn k_Ds_next 22 [a0, a1, .int x, a3, a4] st g = rn k_Ds_next 23 [a0, a1, .int x, a3, a4] (.int x :: st) g := rn_next dd_Ds_next_22 rfl
theorem dd_Ds_next_23 : decode (px_rw k_Ds_next).2.1 23 = .ok (.invokevirtual 305, 3) := (by decide +kernel : decode prog_1_method_27_code 23 = .ok (.invokevirtual 305, 3))
theorem e_Ds_next_23 (L : List Value) (i0 : Int32) (i1 : Int32)  (T : TS)  : rn k_Ds_next 23 L [.int i1, .int i0, .ref 0] (enc T) = bd (cl k_Ds_startRow [.ref 0, .int i0, .int i1] (enc T)) (fun r g' => rn k_Ds_next 26 L (r.toList ++ []) g') := rn_callV (n := 13) (As := [.int i0, .int i1]) (rest := []) dd_Ds_next_23 rfl (by decide) (by decide) rfl rfl (Nat.le_of_ble_eq_true rfl) (Nat.le_of_ble_eq_true rfl) rfl
theorem dd_Ds_next_26 : decode (px_rw k_Ds_next).2.1 26 = .ok (.iconst 0, 1) := (by decide +kernel : decode prog_1_method_27_code 26 = .ok (.iconst 0, 1))
theorem e_Ds_next_26 (L st : List Value) (g : px_G) : rn k_Ds_next 26 L st g = rn k_Ds_next 27 L (.int 0 :: st) g := rn_ipush (i := .iconst 0) dd_Ds_next_26 rfl rfl (by decide)
theorem dd_Ds_next_27 : decode (px_rw k_Ds_next).2.1 27 = .ok (.istore 4, 2) := (by decide +kernel : decode prog_1_method_27_code 27 = .ok (.istore 4, 2))
theorem e_Ds_next_27 (a0 a1 a2 a3 a4 : Value) (x : Int32) (st : List Value) (g : px_G) : rn k_Ds_next 27 [a0, a1, a2, a3, a4] (.int x :: st) g = rn k_Ds_next 29 [a0, a1, a2, px_kill a3, .int x] st g := rn_next dd_Ds_next_27 rfl
theorem dd_Ds_next_29 : decode (px_rw k_Ds_next).2.1 29 = .ok (.iload 4, 2) := (by decide +kernel : decode prog_1_method_27_code 29 = .ok (.iload 4, 2))
theorem e_Ds_next_29 (a0 a1 a2 a3 : Value) (x : Int32) (st : List Value) (g : px_G) : rn k_Ds_next 29 [a0, a1, a2, a3, .int x] st g = rn k_Ds_next 31 [a0, a1, a2, a3, .int x] (.int x :: st) g := rn_next dd_Ds_next_29 rfl
theorem dd_Ds_next_31 : decode (px_rw k_Ds_next).2.1 31 = .ok (.sipush 999, 3) := (by decide +kernel : decode prog_1_method_27_code 31 = .ok (.sipush 999, 3))
theorem e_Ds_next_31 (L st : List Value) (g : px_G) : rn k_Ds_next 31 L st g = rn k_Ds_next 34 L (.int 999 :: st) g := rn_ipush (i := .sipush 999) dd_Ds_next_31 rfl rfl (by decide)
theorem dd_Ds_next_34 : decode (px_rw k_Ds_next).2.1 34 = .ok (.if_icmp .gt 20, 3) := (by decide +kernel : decode prog_1_method_27_code 34 = .ok (.if_icmp .gt 20, 3))
theorem e_Ds_next_34 (L : List Value) (x y : Int32) (st : List Value) (g : px_G) : rn k_Ds_next 34 L (.int y :: .int x :: st) g = if y < x then rn k_Ds_next 54 L st g else rn k_Ds_next 37 L st g := rn_icgt dd_Ds_next_34 (by decide)
theorem dd_Ds_next_37 : decode (px_rw k_Ds_next).2.1 37 = .ok (.aload_n 0, 1) := (by decide +kernel : decode prog_1_method_27_code 37 = .ok (.aload_n 0, 1))
theorem e_Ds_next_37 (a1 a2 a3 a4 : Value) (x : Nat) (st : List Value) (g : px_G) : rn k_Ds_next 37 [.ref x, a1, a2, a3, a4] st g = rn k_Ds_next 38 [.ref x, a1, a2, a3, a4] (.ref x :: st) g := rn_next dd_Ds_next_37 rfl
theorem dd_Ds_next_38 : decode (px_rw k_Ds_next).2.1 38 = .ok (.invokevirtual 306, 3) := (by decide +kernel : decode prog_1_method_27_code 38 = .ok (.invokevirtual 306, 3))
theorem e_Ds_next_38 (L : List Value)   (T : TS)  : rn k_Ds_next 38 L [.ref 0] (enc T) = bd (cl k_Ds_passPixel [.ref 0] (enc T)) (fun r g' => rn k_Ds_next 41 L (r.toList ++ []) g') := rn_callV (n := 13) (As := []) (rest := []) dd_Ds_next_38 rfl (by decide) (by decide) rfl rfl (Nat.le_of_ble_eq_true rfl) (Nat.le_of_ble_eq_true rfl) rfl
theorem dd_Ds_next_41 : decode (px_rw k_Ds_next).2.1 41 = .ok (.iload_n 3, 1) := (by decide +kernel : decode prog_1_method_27_code 41 = .ok (.iload_n 3, 1))
theorem e_Ds_next_41 (a0 a1 a2 a4 : Value) (x : Int32) (st : List Value) (g : px_G) : rn k_Ds_next 41 [a0, a1, a2, .int x, a4] st g = rn k_Ds_next 42 [a0, a1, a2, .int x, a4] (.int x :: st) g := rn_next dd_Ds_next_41 rfl
theorem dd_Ds_next_42 : decode (px_rw k_Ds_next).2.1 42 = .ok (.if_icmp .ne 6, 3) := (by decide +kernel : decode prog_1_method_27_code 42 = .ok (.if_icmp .ne 6, 3))
theorem e_Ds_next_42 (L : List Value) (x y : Int32) (st : List Value) (g : px_G) : rn k_Ds_next 42 L (.int y :: .int x :: st) g = if x = y then rn k_Ds_next 45 L st g else rn k_Ds_next 48 L st g := rn_icne dd_Ds_next_42 (by decide)
theorem dd_Ds_next_45 : decode (px_rw k_Ds_next).2.1 45 = .ok (.iload 4, 2) := (by decide +kernel : decode prog_1_method_27_code 45 = .ok (.iload 4, 2))
theorem e_Ds_next_45 (a0 a1 a2 a3 : Value) (x : Int32) (st : List Value) (g : px_G) : rn k_Ds_next 45 [a0, a1, a2, a3, .int x] st g = rn k_Ds_next 47 [a0, a1, a2, a3, .int x] (.int x :: st) g := rn_next dd_Ds_next_45 rfl
theorem dd_Ds_next_47 : decode (px_rw k_Ds_next).2.1 47 = .ok (.ireturn, 1) := (by decide +kernel : decode prog_1_method_27_code 47 = .ok (.ireturn, 1))
theorem e_Ds_next_47 (L : List Value) (v : Int32) (g : px_G) : rn k_Ds_next 47 L [.int v] g = some (some (.int v), g) := rn_iret dd_Ds_next_47 rfl
theorem dd_Ds_next_48 : decode (px_rw k_Ds_next).2.1 48 = .ok (.iinc 4 1, 3) := (by decide +kernel : decode prog_1_method_27_code 48 = .ok (.iinc 4 1, 3))
theorem e_Ds_next_48 (a0 a1 a2 a3 : Value) (x : Int32) (st : List Value) (g : px_G) : rn k_Ds_next 48 [a0, a1, a2, a3, .int x] st g = rn k_Ds_next 51 [a0, a1, a2, px_kill a3, .int (x + 1)] st g := rn_next dd_Ds_next_48 rfl
theorem dd_Ds_next_51 : decode (px_rw k_Ds_next).2.1 51 = .ok (.goto (-22), 3) := (by decide +kernel : decode prog_1_method_27_code 51 = .ok (.goto (-22), 3))
theorem e_Ds_next_51 (L st : List Value) (g : px_G) : rn k_Ds_next 51 L st g = rn k_Ds_next 29 L st g := rn_goto dd_Ds_next_51 (by decide)
theorem dd_Ds_next_54 : decode (px_rw k_Ds_next).2.1 54 = .ok (.iconst (-1), 1) := (by decide +kernel : decode prog_1_method_27_code 54 = .ok (.iconst (-1), 1))
theorem e_Ds_next_54 (L st : List Value) (g : px_G) : rn k_Ds_next 54 L st g = rn k_Ds_next 55 L (.int (-1) :: st) g := rn_ipush (i := .iconst (-1)) dd_Ds_next_54 rfl rfl (by decide)
theorem dd_Ds_next_55 : decode (px_rw k_Ds_next).2.1 55 = .ok (.ireturn, 1) := (by decide +kernel : decode prog_1_method_27_code 55 = .ok (.ireturn, 1))
theorem e_Ds_next_55 (L : List Value) (v : Int32) (g : px_G) : rn k_Ds_next 55 L [.int v] g = some (some (.int v), g) := rn_iret dd_Ds_next_55 rfl
theorem c_Ds_choose (r0 : Nat) (i1 : Int32) (i2 : Int32) (i3 : Int32) (i4 : Int32) (i5 : Int32) (i6 : Int32) (g : px_G) : cl k_Ds_choose [.ref r0, .int i1, .int i2, .int i3, .int i4, .int i5, .int i6] g = rn k_Ds_choose 0 [.ref r0, .int i1, .int i2, .int i3, .int i4, .int i5, .int i6] [] g := rfl
theorem dd_Ds_choose_0 : decode (px_rw k_Ds_choose).2.1 0 = .ok (.iload_n 1, 1) := (by decide +kernel : decode prog_1_method_30_code 0 = .ok (.iload_n 1, 1))
theorem e_Ds_choose_0 (a0 a2 a3 a4 a5 a6 : Value) (x : Int32) (st : List Value) (g : px_G) : rn k_Ds_choose 0 [a0, .int x, a2, a3, a4, a5, a6] st g = rn k_Ds_choose 1 [a0, .int x, a2, a3, a4, a5, a6] (.int x :: st) g := rn_next dd_Ds_choose_0 rfl
theorem dd_Ds_choose_1 : decode (px_rw k_Ds_choose).2.1 1 = .ok (.iconst 2, 1) := (by decide +kernel : decode prog_1_method_30_code 1 = .ok (.iconst 2, 1))
theorem e_Ds_choose_1 (L st : List Value) (g : px_G) : rn k_Ds_choose 1 L st g = rn k_Ds_choose 2 L (.int 2 :: st) g := rn_ipush (i := .iconst 2) dd_Ds_choose_1 rfl rfl (by decide)
theorem dd_Ds_choose_2 : decode (px_rw k_Ds_choose).2.1 2 = .ok (.if_icmp .lt 27, 3) := (by decide +kernel : decode prog_1_method_30_code 2 = .ok (.if_icmp .lt 27, 3))
theorem e_Ds_choose_2 (L : List Value) (x y : Int32) (st : List Value) (g : px_G) : rn k_Ds_choose 2 L (.int y :: .int x :: st) g = if x < y then rn k_Ds_choose 29 L st g else rn k_Ds_choose 5 L st g := rn_iclt dd_Ds_choose_2 (by decide)
theorem dd_Ds_choose_5 : decode (px_rw k_Ds_choose).2.1 5 = .ok (.iload_n 1, 1) := (by decide +kernel : decode prog_1_method_30_code 5 = .ok (.iload_n 1, 1))
theorem e_Ds_choose_5 (a0 a2 a3 a4 a5 a6 : Value) (x : Int32) (st : List Value) (g : px_G) : rn k_Ds_choose 5 [a0, .int x, a2, a3, a4, a5, a6] st g = rn k_Ds_choose 6 [a0, .int x, a2, a3, a4, a5, a6] (.int x :: st) g := rn_next dd_Ds_choose_5 rfl
theorem dd_Ds_choose_6 : decode (px_rw k_Ds_choose).2.1 6 = .ok (.iconst 3, 1) := (by decide +kernel : decode prog_1_method_30_code 6 = .ok (.iconst 3, 1))
theorem e_Ds_choose_6 (L st : List Value) (g : px_G) : rn k_Ds_choose 6 L st g = rn k_Ds_choose 7 L (.int 3 :: st) g := rn_ipush (i := .iconst 3) dd_Ds_choose_6 rfl rfl (by decide)
theorem dd_Ds_choose_7 : decode (px_rw k_Ds_choose).2.1 7 = .ok (.if_icmp .gt 22, 3) := (by decide +kernel : decode prog_1_method_30_code 7 = .ok (.if_icmp .gt 22, 3))
theorem e_Ds_choose_7 (L : List Value) (x y : Int32) (st : List Value) (g : px_G) : rn k_Ds_choose 7 L (.int y :: .int x :: st) g = if y < x then rn k_Ds_choose 29 L st g else rn k_Ds_choose 10 L st g := rn_icgt dd_Ds_choose_7 (by decide)
theorem dd_Ds_choose_10 : decode (px_rw k_Ds_choose).2.1 10 = .ok (.iload 5, 2) := (by decide +kernel : decode prog_1_method_30_code 10 = .ok (.iload 5, 2))
theorem e_Ds_choose_10 (a0 a1 a2 a3 a4 a6 : Value) (x : Int32) (st : List Value) (g : px_G) : rn k_Ds_choose 10 [a0, a1, a2, a3, a4, .int x, a6] st g = rn k_Ds_choose 12 [a0, a1, a2, a3, a4, .int x, a6] (.int x :: st) g := rn_next dd_Ds_choose_10 rfl
theorem dd_Ds_choose_12 : decode (px_rw k_Ds_choose).2.1 12 = .ok (.ifCond .lt 17, 3) := (by decide +kernel : decode prog_1_method_30_code 12 = .ok (.ifCond .lt 17, 3))
theorem e_Ds_choose_12 (L : List Value) (x : Int32) (st : List Value) (g : px_G) : rn k_Ds_choose 12 L (.int x :: st) g = if x < 0 then rn k_Ds_choose 29 L st g else rn k_Ds_choose 15 L st g := rn_iflt dd_Ds_choose_12 (by decide)
theorem dd_Ds_choose_15 : decode (px_rw k_Ds_choose).2.1 15 = .ok (.iload 5, 2) := (by decide +kernel : decode prog_1_method_30_code 15 = .ok (.iload 5, 2))
theorem e_Ds_choose_15 (a0 a1 a2 a3 a4 a6 : Value) (x : Int32) (st : List Value) (g : px_G) : rn k_Ds_choose 15 [a0, a1, a2, a3, a4, .int x, a6] st g = rn k_Ds_choose 17 [a0, a1, a2, a3, a4, .int x, a6] (.int x :: st) g := rn_next dd_Ds_choose_15 rfl
theorem dd_Ds_choose_17 : decode (px_rw k_Ds_choose).2.1 17 = .ok (.iload_n 1, 1) := (by decide +kernel : decode prog_1_method_30_code 17 = .ok (.iload_n 1, 1))
theorem e_Ds_choose_17 (a0 a2 a3 a4 a5 a6 : Value) (x : Int32) (st : List Value) (g : px_G) : rn k_Ds_choose 17 [a0, .int x, a2, a3, a4, a5, a6] st g = rn k_Ds_choose 18 [a0, .int x, a2, a3, a4, a5, a6] (.int x :: st) g := rn_next dd_Ds_choose_17 rfl
theorem dd_Ds_choose_18 : decode (px_rw k_Ds_choose).2.1 18 = .ok (.if_icmp .ge 11, 3) := (by decide +kernel : decode prog_1_method_30_code 18 = .ok (.if_icmp .ge 11, 3))
theorem e_Ds_choose_18 (L : List Value) (x y : Int32) (st : List Value) (g : px_G) : rn k_Ds_choose 18 L (.int y :: .int x :: st) g = if y ≤ x then rn k_Ds_choose 29 L st g else rn k_Ds_choose 21 L st g := rn_icge dd_Ds_choose_18 (by decide)
theorem dd_Ds_choose_21 : decode (px_rw k_Ds_choose).2.1 21 = .ok (.iload 6, 2) := (by decide +kernel : decode prog_1_method_30_code 21 = .ok (.iload 6, 2))
theorem e_Ds_choose_21 (a0 a1 a2 a3 a4 a5 : Value) (x : Int32) (st : List Value) (g : px_G) : rn k_Ds_choose 21 [a0, a1, a2, a3, a4, a5, .int x] st g = rn k_Ds_choose 23 [a0, a1, a2, a3, a4, a5, .int x] (.int x :: st) g := rn_next dd_Ds_choose_21 rfl
theorem dd_Ds_choose_23 : decode (px_rw k_Ds_choose).2.1 23 = .ok (.invokestatic 182, 3) := (by decide +kernel : decode prog_1_method_30_code 23 = .ok (.invokestatic 182, 3))
theorem e_Ds_choose_23 (L : List Value) (i0 : Int32) (g : px_G) : rn k_Ds_choose 23 L [.int i0] g = bd (cl k_Ds_isAxis [.int i0] g) (fun r g' => rn k_Ds_choose 26 L (r.toList ++ []) g') := rn_callS (As := [.int i0]) (rest := []) dd_Ds_choose_23 rfl (by decide) rfl rfl (Nat.le_of_ble_eq_true rfl) (Nat.le_of_ble_eq_true rfl)
theorem dd_Ds_choose_26 : decode (px_rw k_Ds_choose).2.1 26 = .ok (.ifCond .ne 5, 3) := (by decide +kernel : decode prog_1_method_30_code 26 = .ok (.ifCond .ne 5, 3))
theorem e_Ds_choose_26 (L : List Value) (x : Int32) (st : List Value) (g : px_G) : rn k_Ds_choose 26 L (.int x :: st) g = if x = 0 then rn k_Ds_choose 29 L st g else rn k_Ds_choose 31 L st g := rn_ifne dd_Ds_choose_26 (by decide)
theorem dd_Ds_choose_29 : decode (px_rw k_Ds_choose).2.1 29 = .ok (.iconst (-1), 1) := (by decide +kernel : decode prog_1_method_30_code 29 = .ok (.iconst (-1), 1))
theorem e_Ds_choose_29 (L st : List Value) (g : px_G) : rn k_Ds_choose 29 L st g = rn k_Ds_choose 30 L (.int (-1) :: st) g := rn_ipush (i := .iconst (-1)) dd_Ds_choose_29 rfl rfl (by decide)
theorem dd_Ds_choose_30 : decode (px_rw k_Ds_choose).2.1 30 = .ok (.ireturn, 1) := (by decide +kernel : decode prog_1_method_30_code 30 = .ok (.ireturn, 1))
theorem e_Ds_choose_30 (L : List Value) (v : Int32) (g : px_G) : rn k_Ds_choose 30 L [.int v] g = some (some (.int v), g) := rn_iret dd_Ds_choose_30 rfl
theorem dd_Ds_choose_31 : decode (px_rw k_Ds_choose).2.1 31 = .ok (.iload_n 2, 1) := (by decide +kernel : decode prog_1_method_30_code 31 = .ok (.iload_n 2, 1))
theorem e_Ds_choose_31 (a0 a1 a3 a4 a5 a6 : Value) (x : Int32) (st : List Value) (g : px_G) : rn k_Ds_choose 31 [a0, a1, .int x, a3, a4, a5, a6] st g = rn k_Ds_choose 32 [a0, a1, .int x, a3, a4, a5, a6] (.int x :: st) g := rn_next dd_Ds_choose_31 rfl
theorem dd_Ds_choose_32 : decode (px_rw k_Ds_choose).2.1 32 = .ok (.iconst 1, 1) := (by decide +kernel : decode prog_1_method_30_code 32 = .ok (.iconst 1, 1))
theorem e_Ds_choose_32 (L st : List Value) (g : px_G) : rn k_Ds_choose 32 L st g = rn k_Ds_choose 33 L (.int 1 :: st) g := rn_ipush (i := .iconst 1) dd_Ds_choose_32 rfl rfl (by decide)
theorem dd_Ds_choose_33 : decode (px_rw k_Ds_choose).2.1 33 = .ok (.if_icmp .lt 30, 3) := (by decide +kernel : decode prog_1_method_30_code 33 = .ok (.if_icmp .lt 30, 3))
theorem e_Ds_choose_33 (L : List Value) (x y : Int32) (st : List Value) (g : px_G) : rn k_Ds_choose 33 L (.int y :: .int x :: st) g = if x < y then rn k_Ds_choose 63 L st g else rn k_Ds_choose 36 L st g := rn_iclt dd_Ds_choose_33 (by decide)
theorem dd_Ds_choose_36 : decode (px_rw k_Ds_choose).2.1 36 = .ok (.iload_n 2, 1) := (by decide +kernel : decode prog_1_method_30_code 36 = .ok (.iload_n 2, 1))
theorem e_Ds_choose_36 (a0 a1 a3 a4 a5 a6 : Value) (x : Int32) (st : List Value) (g : px_G) : rn k_Ds_choose 36 [a0, a1, .int x, a3, a4, a5, a6] st g = rn k_Ds_choose 37 [a0, a1, .int x, a3, a4, a5, a6] (.int x :: st) g := rn_next dd_Ds_choose_36 rfl
theorem dd_Ds_choose_37 : decode (px_rw k_Ds_choose).2.1 37 = .ok (.sipush 144, 3) := (by decide +kernel : decode prog_1_method_30_code 37 = .ok (.sipush 144, 3))
theorem e_Ds_choose_37 (L st : List Value) (g : px_G) : rn k_Ds_choose 37 L st g = rn k_Ds_choose 40 L (.int 144 :: st) g := rn_ipush (i := .sipush 144) dd_Ds_choose_37 rfl rfl (by decide)
theorem dd_Ds_choose_40 : decode (px_rw k_Ds_choose).2.1 40 = .ok (.if_icmp .gt 23, 3) := (by decide +kernel : decode prog_1_method_30_code 40 = .ok (.if_icmp .gt 23, 3))
theorem e_Ds_choose_40 (L : List Value) (x y : Int32) (st : List Value) (g : px_G) : rn k_Ds_choose 40 L (.int y :: .int x :: st) g = if y < x then rn k_Ds_choose 63 L st g else rn k_Ds_choose 43 L st g := rn_icgt dd_Ds_choose_40 (by decide)
theorem dd_Ds_choose_43 : decode (px_rw k_Ds_choose).2.1 43 = .ok (.iload_n 3, 1) := (by decide +kernel : decode prog_1_method_30_code 43 = .ok (.iload_n 3, 1))
theorem e_Ds_choose_43 (a0 a1 a2 a4 a5 a6 : Value) (x : Int32) (st : List Value) (g : px_G) : rn k_Ds_choose 43 [a0, a1, a2, .int x, a4, a5, a6] st g = rn k_Ds_choose 44 [a0, a1, a2, .int x, a4, a5, a6] (.int x :: st) g := rn_next dd_Ds_choose_43 rfl
theorem dd_Ds_choose_44 : decode (px_rw k_Ds_choose).2.1 44 = .ok (.iconst 1, 1) := (by decide +kernel : decode prog_1_method_30_code 44 = .ok (.iconst 1, 1))
theorem e_Ds_choose_44 (L st : List Value) (g : px_G) : rn k_Ds_choose 44 L st g = rn k_Ds_choose 45 L (.int 1 :: st) g := rn_ipush (i := .iconst 1) dd_Ds_choose_44 rfl rfl (by decide)
theorem dd_Ds_choose_45 : decode (px_rw k_Ds_choose).2.1 45 = .ok (.if_icmp .lt 18, 3) := (by decide +kernel : decode prog_1_method_30_code 45 = .ok (.if_icmp .lt 18, 3))
theorem e_Ds_choose_45 (L : List Value) (x y : Int32) (st : List Value) (g : px_G) : rn k_Ds_choose 45 L (.int y :: .int x :: st) g = if x < y then rn k_Ds_choose 63 L st g else rn k_Ds_choose 48 L st g := rn_iclt dd_Ds_choose_45 (by decide)
theorem dd_Ds_choose_48 : decode (px_rw k_Ds_choose).2.1 48 = .ok (.iload_n 3, 1) := (by decide +kernel : decode prog_1_method_30_code 48 = .ok (.iload_n 3, 1))
theorem e_Ds_choose_48 (a0 a1 a2 a4 a5 a6 : Value) (x : Int32) (st : List Value) (g : px_G) : rn k_Ds_choose 48 [a0, a1, a2, .int x, a4, a5, a6] st g = rn k_Ds_choose 49 [a0, a1, a2, .int x, a4, a5, a6] (.int x :: st) g := rn_next dd_Ds_choose_48 rfl
theorem dd_Ds_choose_49 : decode (px_rw k_Ds_choose).2.1 49 = .ok (.sipush 144, 3) := (by decide +kernel : decode prog_1_method_30_code 49 = .ok (.sipush 144, 3))
theorem e_Ds_choose_49 (L st : List Value) (g : px_G) : rn k_Ds_choose 49 L st g = rn k_Ds_choose 52 L (.int 144 :: st) g := rn_ipush (i := .sipush 144) dd_Ds_choose_49 rfl rfl (by decide)
theorem dd_Ds_choose_52 : decode (px_rw k_Ds_choose).2.1 52 = .ok (.if_icmp .gt 11, 3) := (by decide +kernel : decode prog_1_method_30_code 52 = .ok (.if_icmp .gt 11, 3))
theorem e_Ds_choose_52 (L : List Value) (x y : Int32) (st : List Value) (g : px_G) : rn k_Ds_choose 52 L (.int y :: .int x :: st) g = if y < x then rn k_Ds_choose 63 L st g else rn k_Ds_choose 55 L st g := rn_icgt dd_Ds_choose_52 (by decide)
theorem dd_Ds_choose_55 : decode (px_rw k_Ds_choose).2.1 55 = .ok (.iload_n 3, 1) := (by decide +kernel : decode prog_1_method_30_code 55 = .ok (.iload_n 3, 1))
theorem e_Ds_choose_55 (a0 a1 a2 a4 a5 a6 : Value) (x : Int32) (st : List Value) (g : px_G) : rn k_Ds_choose 55 [a0, a1, a2, .int x, a4, a5, a6] st g = rn k_Ds_choose 56 [a0, a1, a2, .int x, a4, a5, a6] (.int x :: st) g := rn_next dd_Ds_choose_55 rfl
theorem dd_Ds_choose_56 : decode (px_rw k_Ds_choose).2.1 56 = .ok (.iload_n 2, 1) := (by decide +kernel : decode prog_1_method_30_code 56 = .ok (.iload_n 2, 1))
theorem e_Ds_choose_56 (a0 a1 a3 a4 a5 a6 : Value) (x : Int32) (st : List Value) (g : px_G) : rn k_Ds_choose 56 [a0, a1, .int x, a3, a4, a5, a6] st g = rn k_Ds_choose 57 [a0, a1, .int x, a3, a4, a5, a6] (.int x :: st) g := rn_next dd_Ds_choose_56 rfl
theorem dd_Ds_choose_57 : decode (px_rw k_Ds_choose).2.1 57 = .ok (.isub, 1) := (by decide +kernel : decode prog_1_method_30_code 57 = .ok (.isub, 1))
theorem e_Ds_choose_57 (L : List Value) (x y : Int32) (st : List Value) (g : px_G) : rn k_Ds_choose 57 L (.int y :: .int x :: st) g = rn k_Ds_choose 58 L (.int (x - y) :: st) g := rn_next dd_Ds_choose_57 rfl
theorem dd_Ds_choose_58 : decode (px_rw k_Ds_choose).2.1 58 = .ok (.bipush 20, 2) := (by decide +kernel : decode prog_1_method_30_code 58 = .ok (.bipush 20, 2))
theorem e_Ds_choose_58 (L st : List Value) (g : px_G) : rn k_Ds_choose 58 L st g = rn k_Ds_choose 60 L (.int 20 :: st) g := rn_ipush (i := .bipush 20) dd_Ds_choose_58 rfl rfl (by decide)
theorem dd_Ds_choose_60 : decode (px_rw k_Ds_choose).2.1 60 = .ok (.if_icmp .le 5, 3) := (by decide +kernel : decode prog_1_method_30_code 60 = .ok (.if_icmp .le 5, 3))
theorem e_Ds_choose_60 (L : List Value) (x y : Int32) (st : List Value) (g : px_G) : rn k_Ds_choose 60 L (.int y :: .int x :: st) g = if x ≤ y then rn k_Ds_choose 65 L st g else rn k_Ds_choose 63 L st g := rn_icle dd_Ds_choose_60 (by decide)
theorem dd_Ds_choose_63 : decode (px_rw k_Ds_choose).2.1 63 = .ok (.iconst (-1), 1) := (by decide +kernel : decode prog_1_method_30_code 63 = .ok (.iconst (-1), 1))
theorem e_Ds_choose_63 (L st : List Value) (g : px_G) : rn k_Ds_choose 63 L st g = rn k_Ds_choose 64 L (.int (-1) :: st) g := rn_ipush (i := .iconst (-1)) dd_Ds_choose_63 rfl rfl (by decide)
theorem dd_Ds_choose_64 : decode (px_rw k_Ds_choose).2.1 64 = .ok (.ireturn, 1) := (by decide +kernel : decode prog_1_method_30_code 64 = .ok (.ireturn, 1))
theorem e_Ds_choose_64 (L : List Value) (v : Int32) (g : px_G) : rn k_Ds_choose 64 L [.int v] g = some (some (.int v), g) := rn_iret dd_Ds_choose_64 rfl
theorem dd_Ds_choose_65 : decode (px_rw k_Ds_choose).2.1 65 = .ok (.aload_n 0, 1) := (by decide +kernel : decode prog_1_method_30_code 65 = .ok (.aload_n 0, 1))
theorem e_Ds_choose_65 (a1 a2 a3 a4 a5 a6 : Value) (x : Nat) (st : List Value) (g : px_G) : rn k_Ds_choose 65 [.ref x, a1, a2, a3, a4, a5, a6] st g = rn k_Ds_choose 66 [.ref x, a1, a2, a3, a4, a5, a6] (.ref x :: st) g := rn_next dd_Ds_choose_65 rfl
theorem dd_Ds_choose_66 : decode (px_rw k_Ds_choose).2.1 66 = .ok (.getfield 66, 3) := (by decide +kernel : decode prog_1_method_30_code 66 = .ok (.getfield 66, 3))
theorem e_Ds_choose_66 (L st : List Value) (T : TS) : rn k_Ds_choose 66 L (.ref 0 :: st) (enc T) = rn k_Ds_choose 69 L (.ref 15 :: st) (enc T) := rn_getO (n := 13) dd_Ds_choose_66 rfl (by decide) (by decide) (by decide) rfl rfl
theorem dd_Ds_choose_69 : decode (px_rw k_Ds_choose).2.1 69 = .ok (.iload_n 1, 1) := (by decide +kernel : decode prog_1_method_30_code 69 = .ok (.iload_n 1, 1))
theorem e_Ds_choose_69 (a0 a2 a3 a4 a5 a6 : Value) (x : Int32) (st : List Value) (g : px_G) : rn k_Ds_choose 69 [a0, .int x, a2, a3, a4, a5, a6] st g = rn k_Ds_choose 70 [a0, .int x, a2, a3, a4, a5, a6] (.int x :: st) g := rn_next dd_Ds_choose_69 rfl
theorem dd_Ds_choose_70 : decode (px_rw k_Ds_choose).2.1 70 = .ok (.iload_n 2, 1) := (by decide +kernel : decode prog_1_method_30_code 70 = .ok (.iload_n 2, 1))
theorem e_Ds_choose_70 (a0 a1 a3 a4 a5 a6 : Value) (x : Int32) (st : List Value) (g : px_G) : rn k_Ds_choose 70 [a0, a1, .int x, a3, a4, a5, a6] st g = rn k_Ds_choose 71 [a0, a1, .int x, a3, a4, a5, a6] (.int x :: st) g := rn_next dd_Ds_choose_70 rfl
theorem dd_Ds_choose_71 : decode (px_rw k_Ds_choose).2.1 71 = .ok (.iload_n 3, 1) := (by decide +kernel : decode prog_1_method_30_code 71 = .ok (.iload_n 3, 1))
theorem e_Ds_choose_71 (a0 a1 a2 a4 a5 a6 : Value) (x : Int32) (st : List Value) (g : px_G) : rn k_Ds_choose 71 [a0, a1, a2, .int x, a4, a5, a6] st g = rn k_Ds_choose 72 [a0, a1, a2, .int x, a4, a5, a6] (.int x :: st) g := rn_next dd_Ds_choose_71 rfl
theorem dd_Ds_choose_72 : decode (px_rw k_Ds_choose).2.1 72 = .ok (.iload 4, 2) := (by decide +kernel : decode prog_1_method_30_code 72 = .ok (.iload 4, 2))
theorem e_Ds_choose_72 (a0 a1 a2 a3 a5 a6 : Value) (x : Int32) (st : List Value) (g : px_G) : rn k_Ds_choose 72 [a0, a1, a2, a3, .int x, a5, a6] st g = rn k_Ds_choose 74 [a0, a1, a2, a3, .int x, a5, a6] (.int x :: st) g := rn_next dd_Ds_choose_72 rfl
theorem dd_Ds_choose_74 : decode (px_rw k_Ds_choose).2.1 74 = .ok (.invokevirtual 320, 3) := (by decide +kernel : decode prog_1_method_30_code 74 = .ok (.invokevirtual 320, 3))
theorem e_Ds_choose_74 (L : List Value) (i0 : Int32) (i1 : Int32) (i2 : Int32) (i3 : Int32)  (T : TS)  : rn k_Ds_choose 74 L [.int i3, .int i2, .int i1, .int i0, .ref 15] (enc T) = bd (cl k_Chooser_pick [.ref 15, .int i0, .int i1, .int i2, .int i3] (enc T)) (fun r g' => rn k_Ds_choose 77 L (r.toList ++ []) g') := rn_callV (n := 14) (As := [.int i0, .int i1, .int i2, .int i3]) (rest := []) dd_Ds_choose_74 rfl (by decide) (by decide) rfl rfl (Nat.le_of_ble_eq_true rfl) (Nat.le_of_ble_eq_true rfl) rfl
theorem dd_Ds_choose_77 : decode (px_rw k_Ds_choose).2.1 77 = .ok (.aload_n 0, 1) := (by decide +kernel : decode prog_1_method_30_code 77 = .ok (.aload_n 0, 1))
theorem e_Ds_choose_77 (a1 a2 a3 a4 a5 a6 : Value) (x : Nat) (st : List Value) (g : px_G) : rn k_Ds_choose 77 [.ref x, a1, a2, a3, a4, a5, a6] st g = rn k_Ds_choose 78 [.ref x, a1, a2, a3, a4, a5, a6] (.ref x :: st) g := rn_next dd_Ds_choose_77 rfl
theorem dd_Ds_choose_78 : decode (px_rw k_Ds_choose).2.1 78 = .ok (.getfield 66, 3) := (by decide +kernel : decode prog_1_method_30_code 78 = .ok (.getfield 66, 3))
theorem e_Ds_choose_78 (L st : List Value) (T : TS) : rn k_Ds_choose 78 L (.ref 0 :: st) (enc T) = rn k_Ds_choose 81 L (.ref 15 :: st) (enc T) := rn_getO (n := 13) dd_Ds_choose_78 rfl (by decide) (by decide) (by decide) rfl rfl
theorem dd_Ds_choose_81 : decode (px_rw k_Ds_choose).2.1 81 = .ok (.iload 5, 2) := (by decide +kernel : decode prog_1_method_30_code 81 = .ok (.iload 5, 2))
theorem e_Ds_choose_81 (a0 a1 a2 a3 a4 a6 : Value) (x : Int32) (st : List Value) (g : px_G) : rn k_Ds_choose 81 [a0, a1, a2, a3, a4, .int x, a6] st g = rn k_Ds_choose 83 [a0, a1, a2, a3, a4, .int x, a6] (.int x :: st) g := rn_next dd_Ds_choose_81 rfl
theorem dd_Ds_choose_83 : decode (px_rw k_Ds_choose).2.1 83 = .ok (.iload 6, 2) := (by decide +kernel : decode prog_1_method_30_code 83 = .ok (.iload 6, 2))
theorem e_Ds_choose_83 (a0 a1 a2 a3 a4 a5 : Value) (x : Int32) (st : List Value) (g : px_G) : rn k_Ds_choose 83 [a0, a1, a2, a3, a4, a5, .int x] st g = rn k_Ds_choose 85 [a0, a1, a2, a3, a4, a5, .int x] (.int x :: st) g := rn_next dd_Ds_choose_83 rfl
theorem dd_Ds_choose_85 : decode (px_rw k_Ds_choose).2.1 85 = .ok (.invokevirtual 324, 3) := (by decide +kernel : decode prog_1_method_30_code 85 = .ok (.invokevirtual 324, 3))
theorem e_Ds_choose_85 (L : List Value) (i0 : Int32) (i1 : Int32)  (T : TS)  : rn k_Ds_choose 85 L [.int i1, .int i0, .ref 15] (enc T) = bd (cl k_Chooser_part [.ref 15, .int i0, .int i1] (enc T)) (fun r g' => rn k_Ds_choose 88 L (r.toList ++ []) g') := rn_callV (n := 14) (As := [.int i0, .int i1]) (rest := []) dd_Ds_choose_85 rfl (by decide) (by decide) rfl rfl (Nat.le_of_ble_eq_true rfl) (Nat.le_of_ble_eq_true rfl) rfl
theorem dd_Ds_choose_88 : decode (px_rw k_Ds_choose).2.1 88 = .ok (.ireturn, 1) := (by decide +kernel : decode prog_1_method_30_code 88 = .ok (.ireturn, 1))
theorem e_Ds_choose_88 (L : List Value) (v : Int32) (g : px_G) : rn k_Ds_choose 88 L [.int v] g = some (some (.int v), g) := rn_iret dd_Ds_choose_88 rfl
theorem c_Ds_isFarther (j0 : Int64) (j1 : Int64) (j2 : Int64) (j3 : Int64) (g : px_G) : cl k_Ds_isFarther [.long j0, .long j1, .long j2, .long j3] g = rn k_Ds_isFarther 0 [.long j0, .null, .long j1, .null, .long j2, .null, .long j3, .null] [] g := rfl
theorem dd_Ds_isFarther_0 : decode (px_rw k_Ds_isFarther).2.1 0 = .ok (.lload_n 0, 1) := (by decide +kernel : decode prog_1_method_66_code 0 = .ok (.lload_n 0, 1))
theorem e_Ds_isFarther_0 (a1 a2 a3 a4 a5 a6 a7 : Value) (x : Int64) (st : List Value) (g : px_G) : rn k_Ds_isFarther 0 [.long x, a1, a2, a3, a4, a5, a6, a7] st g = rn k_Ds_isFarther 1 [.long x, a1, a2, a3, a4, a5, a6, a7] (.long x :: st) g := rn_next dd_Ds_isFarther_0 rfl
theorem dd_Ds_isFarther_1 : decode (px_rw k_Ds_isFarther).2.1 1 = .ok (.lload 6, 2) := (by decide +kernel : decode prog_1_method_66_code 1 = .ok (.lload 6, 2))
theorem e_Ds_isFarther_1 (a0 a1 a2 a3 a4 a5 a7 : Value) (x : Int64) (st : List Value) (g : px_G) : rn k_Ds_isFarther 1 [a0, a1, a2, a3, a4, a5, .long x, a7] st g = rn k_Ds_isFarther 3 [a0, a1, a2, a3, a4, a5, .long x, a7] (.long x :: st) g := rn_next dd_Ds_isFarther_1 rfl
theorem dd_Ds_isFarther_3 : decode (px_rw k_Ds_isFarther).2.1 3 = .ok (.lmul, 1) := (by decide +kernel : decode prog_1_method_66_code 3 = .ok (.lmul, 1))
theorem e_Ds_isFarther_3 (L : List Value) (x y : Int64) (st : List Value) (g : px_G) : rn k_Ds_isFarther 3 L (.long y :: .long x :: st) g = rn k_Ds_isFarther 4 L (.long (x * y) :: st) g := rn_next dd_Ds_isFarther_3 rfl
theorem dd_Ds_isFarther_4 : decode (px_rw k_Ds_isFarther).2.1 4 = .ok (.lload 4, 2) := (by decide +kernel : decode prog_1_method_66_code 4 = .ok (.lload 4, 2))
theorem e_Ds_isFarther_4 (a0 a1 a2 a3 a5 a6 a7 : Value) (x : Int64) (st : List Value) (g : px_G) : rn k_Ds_isFarther 4 [a0, a1, a2, a3, .long x, a5, a6, a7] st g = rn k_Ds_isFarther 6 [a0, a1, a2, a3, .long x, a5, a6, a7] (.long x :: st) g := rn_next dd_Ds_isFarther_4 rfl
theorem dd_Ds_isFarther_6 : decode (px_rw k_Ds_isFarther).2.1 6 = .ok (.lload_n 2, 1) := (by decide +kernel : decode prog_1_method_66_code 6 = .ok (.lload_n 2, 1))
theorem e_Ds_isFarther_6 (a0 a1 a3 a4 a5 a6 a7 : Value) (x : Int64) (st : List Value) (g : px_G) : rn k_Ds_isFarther 6 [a0, a1, .long x, a3, a4, a5, a6, a7] st g = rn k_Ds_isFarther 7 [a0, a1, .long x, a3, a4, a5, a6, a7] (.long x :: st) g := rn_next dd_Ds_isFarther_6 rfl
theorem dd_Ds_isFarther_7 : decode (px_rw k_Ds_isFarther).2.1 7 = .ok (.lmul, 1) := (by decide +kernel : decode prog_1_method_66_code 7 = .ok (.lmul, 1))
theorem e_Ds_isFarther_7 (L : List Value) (x y : Int64) (st : List Value) (g : px_G) : rn k_Ds_isFarther 7 L (.long y :: .long x :: st) g = rn k_Ds_isFarther 8 L (.long (x * y) :: st) g := rn_next dd_Ds_isFarther_7 rfl
theorem dd_Ds_isFarther_8 : decode (px_rw k_Ds_isFarther).2.1 8 = .ok (.lcmp, 1) := (by decide +kernel : decode prog_1_method_66_code 8 = .ok (.lcmp, 1))
theorem e_Ds_isFarther_8 (L : List Value) (x y : Int64) (st : List Value) (g : px_G) : rn k_Ds_isFarther 8 L (.long y :: .long x :: st) g = rn k_Ds_isFarther 9 L (.int (lg_cmp x y) :: st) g := rn_next dd_Ds_isFarther_8 rfl
theorem dd_Ds_isFarther_9 : decode (px_rw k_Ds_isFarther).2.1 9 = .ok (.ifCond .le 7, 3) := (by decide +kernel : decode prog_1_method_66_code 9 = .ok (.ifCond .le 7, 3))
theorem e_Ds_isFarther_9 (L : List Value) (x : Int32) (st : List Value) (g : px_G) : rn k_Ds_isFarther 9 L (.int x :: st) g = if x ≤ 0 then rn k_Ds_isFarther 16 L st g else rn k_Ds_isFarther 12 L st g := rn_ifle dd_Ds_isFarther_9 (by decide)
theorem dd_Ds_isFarther_12 : decode (px_rw k_Ds_isFarther).2.1 12 = .ok (.iconst 1, 1) := (by decide +kernel : decode prog_1_method_66_code 12 = .ok (.iconst 1, 1))
theorem e_Ds_isFarther_12 (L st : List Value) (g : px_G) : rn k_Ds_isFarther 12 L st g = rn k_Ds_isFarther 13 L (.int 1 :: st) g := rn_ipush (i := .iconst 1) dd_Ds_isFarther_12 rfl rfl (by decide)
theorem dd_Ds_isFarther_13 : decode (px_rw k_Ds_isFarther).2.1 13 = .ok (.goto 4, 3) := (by decide +kernel : decode prog_1_method_66_code 13 = .ok (.goto 4, 3))
theorem e_Ds_isFarther_13 (L st : List Value) (g : px_G) : rn k_Ds_isFarther 13 L st g = rn k_Ds_isFarther 17 L st g := rn_goto dd_Ds_isFarther_13 (by decide)
theorem dd_Ds_isFarther_16 : decode (px_rw k_Ds_isFarther).2.1 16 = .ok (.iconst 0, 1) := (by decide +kernel : decode prog_1_method_66_code 16 = .ok (.iconst 0, 1))
theorem e_Ds_isFarther_16 (L st : List Value) (g : px_G) : rn k_Ds_isFarther 16 L st g = rn k_Ds_isFarther 17 L (.int 0 :: st) g := rn_ipush (i := .iconst 0) dd_Ds_isFarther_16 rfl rfl (by decide)
theorem dd_Ds_isFarther_17 : decode (px_rw k_Ds_isFarther).2.1 17 = .ok (.ireturn, 1) := (by decide +kernel : decode prog_1_method_66_code 17 = .ok (.ireturn, 1))
theorem e_Ds_isFarther_17 (L : List Value) (v : Int32) (g : px_G) (hv : v = 0 ∨ v = 1) : rn k_Ds_isFarther 17 L [.int v] g = some (some (.int v), g) := rn_zret dd_Ds_isFarther_17 rfl hv
theorem c_Ds_bestTurn (r0 : Nat) (i1 : Int32) (i2 : Int32) (g : px_G) : cl k_Ds_bestTurn [.ref r0, .int i1, .int i2] g = rn k_Ds_bestTurn 0 [.ref r0, .int i1, .int i2, .null, .null, .null, .null, .null, .null, .null, .null] [] g := rfl
theorem dd_Ds_bestTurn_0 : decode (px_rw k_Ds_bestTurn).2.1 0 = .ok (.aload_n 0, 1) := (by decide +kernel : decode prog_1_method_31_code 0 = .ok (.aload_n 0, 1))
theorem e_Ds_bestTurn_0 (a1 a2 a3 a4 a5 a6 a7 a8 a9 a10 : Value) (x : Nat) (st : List Value) (g : px_G) : rn k_Ds_bestTurn 0 [.ref x, a1, a2, a3, a4, a5, a6, a7, a8, a9, a10] st g = rn k_Ds_bestTurn 1 [.ref x, a1, a2, a3, a4, a5, a6, a7, a8, a9, a10] (.ref x :: st) g := rn_next dd_Ds_bestTurn_0 rfl
theorem dd_Ds_bestTurn_1 : decode (px_rw k_Ds_bestTurn).2.1 1 = .ok (.iload_n 1, 1) := (by decide +kernel : decode prog_1_method_31_code 1 = .ok (.iload_n 1, 1))
theorem e_Ds_bestTurn_1 (a0 a2 a3 a4 a5 a6 a7 a8 a9 a10 : Value) (x : Int32) (st : List Value) (g : px_G) : rn k_Ds_bestTurn 1 [a0, .int x, a2, a3, a4, a5, a6, a7, a8, a9, a10] st g = rn k_Ds_bestTurn 2 [a0, .int x, a2, a3, a4, a5, a6, a7, a8, a9, a10] (.int x :: st) g := rn_next dd_Ds_bestTurn_1 rfl
theorem dd_Ds_bestTurn_2 : decode (px_rw k_Ds_bestTurn).2.1 2 = .ok (.invokevirtual 129, 3) := (by decide +kernel : decode prog_1_method_31_code 2 = .ok (.invokevirtual 129, 3))
theorem e_Ds_bestTurn_2 (L : List Value) (i0 : Int32)  (T : TS)  : rn k_Ds_bestTurn 2 L [.int i0, .ref 0] (enc T) = bd (cl k_Ds_isInk [.ref 0, .int i0] (enc T)) (fun r g' => rn k_Ds_bestTurn 5 L (r.toList ++ []) g') := rn_callV (n := 13) (As := [.int i0]) (rest := []) dd_Ds_bestTurn_2 rfl (by decide) (by decide) rfl rfl (Nat.le_of_ble_eq_true rfl) (Nat.le_of_ble_eq_true rfl) rfl
theorem dd_Ds_bestTurn_5 : decode (px_rw k_Ds_bestTurn).2.1 5 = .ok (.ifCond .eq 18, 3) := (by decide +kernel : decode prog_1_method_31_code 5 = .ok (.ifCond .eq 18, 3))
theorem e_Ds_bestTurn_5 (L : List Value) (x : Int32) (st : List Value) (g : px_G) : rn k_Ds_bestTurn 5 L (.int x :: st) g = if x = 0 then rn k_Ds_bestTurn 23 L st g else rn k_Ds_bestTurn 8 L st g := rn_ifeq dd_Ds_bestTurn_5 (by decide)
theorem dd_Ds_bestTurn_8 : decode (px_rw k_Ds_bestTurn).2.1 8 = .ok (.iload_n 2, 1) := (by decide +kernel : decode prog_1_method_31_code 8 = .ok (.iload_n 2, 1))
theorem e_Ds_bestTurn_8 (a0 a1 a3 a4 a5 a6 a7 a8 a9 a10 : Value) (x : Int32) (st : List Value) (g : px_G) : rn k_Ds_bestTurn 8 [a0, a1, .int x, a3, a4, a5, a6, a7, a8, a9, a10] st g = rn k_Ds_bestTurn 9 [a0, a1, .int x, a3, a4, a5, a6, a7, a8, a9, a10] (.int x :: st) g := rn_next dd_Ds_bestTurn_8 rfl
theorem dd_Ds_bestTurn_9 : decode (px_rw k_Ds_bestTurn).2.1 9 = .ok (.invokestatic 182, 3) := (by decide +kernel : decode prog_1_method_31_code 9 = .ok (.invokestatic 182, 3))
theorem e_Ds_bestTurn_9 (L : List Value) (i0 : Int32) (g : px_G) : rn k_Ds_bestTurn 9 L [.int i0] g = bd (cl k_Ds_isAxis [.int i0] g) (fun r g' => rn k_Ds_bestTurn 12 L (r.toList ++ []) g') := rn_callS (As := [.int i0]) (rest := []) dd_Ds_bestTurn_9 rfl (by decide) rfl rfl (Nat.le_of_ble_eq_true rfl) (Nat.le_of_ble_eq_true rfl)
theorem dd_Ds_bestTurn_12 : decode (px_rw k_Ds_bestTurn).2.1 12 = .ok (.ifCond .eq 11, 3) := (by decide +kernel : decode prog_1_method_31_code 12 = .ok (.ifCond .eq 11, 3))
theorem e_Ds_bestTurn_12 (L : List Value) (x : Int32) (st : List Value) (g : px_G) : rn k_Ds_bestTurn 12 L (.int x :: st) g = if x = 0 then rn k_Ds_bestTurn 23 L st g else rn k_Ds_bestTurn 15 L st g := rn_ifeq dd_Ds_bestTurn_12 (by decide)
theorem dd_Ds_bestTurn_15 : decode (px_rw k_Ds_bestTurn).2.1 15 = .ok (.aload_n 0, 1) := (by decide +kernel : decode prog_1_method_31_code 15 = .ok (.aload_n 0, 1))
theorem e_Ds_bestTurn_15 (a1 a2 a3 a4 a5 a6 a7 a8 a9 a10 : Value) (x : Nat) (st : List Value) (g : px_G) : rn k_Ds_bestTurn 15 [.ref x, a1, a2, a3, a4, a5, a6, a7, a8, a9, a10] st g = rn k_Ds_bestTurn 16 [.ref x, a1, a2, a3, a4, a5, a6, a7, a8, a9, a10] (.ref x :: st) g := rn_next dd_Ds_bestTurn_15 rfl
theorem dd_Ds_bestTurn_16 : decode (px_rw k_Ds_bestTurn).2.1 16 = .ok (.getfield 96, 3) := (by decide +kernel : decode prog_1_method_31_code 16 = .ok (.getfield 96, 3))
theorem e_Ds_bestTurn_16 (L st : List Value) (T : TS) : rn k_Ds_bestTurn 16 L (.ref 0 :: st) (enc T) = rn k_Ds_bestTurn 19 L (.int (T.1 0 3) :: st) (enc T) := rn_getI (n := 13) dd_Ds_bestTurn_16 rfl (by decide) (by decide) (by decide) rfl rfl
theorem dd_Ds_bestTurn_19 : decode (px_rw k_Ds_bestTurn).2.1 19 = .ok (.iconst 2, 1) := (by decide +kernel : decode prog_1_method_31_code 19 = .ok (.iconst 2, 1))
theorem e_Ds_bestTurn_19 (L st : List Value) (g : px_G) : rn k_Ds_bestTurn 19 L st g = rn k_Ds_bestTurn 20 L (.int 2 :: st) g := rn_ipush (i := .iconst 2) dd_Ds_bestTurn_19 rfl rfl (by decide)
theorem dd_Ds_bestTurn_20 : decode (px_rw k_Ds_bestTurn).2.1 20 = .ok (.if_icmp .ge 5, 3) := (by decide +kernel : decode prog_1_method_31_code 20 = .ok (.if_icmp .ge 5, 3))
theorem e_Ds_bestTurn_20 (L : List Value) (x y : Int32) (st : List Value) (g : px_G) : rn k_Ds_bestTurn 20 L (.int y :: .int x :: st) g = if y ≤ x then rn k_Ds_bestTurn 25 L st g else rn k_Ds_bestTurn 23 L st g := rn_icge dd_Ds_bestTurn_20 (by decide)
theorem dd_Ds_bestTurn_23 : decode (px_rw k_Ds_bestTurn).2.1 23 = .ok (.iconst (-1), 1) := (by decide +kernel : decode prog_1_method_31_code 23 = .ok (.iconst (-1), 1))
theorem e_Ds_bestTurn_23 (L st : List Value) (g : px_G) : rn k_Ds_bestTurn 23 L st g = rn k_Ds_bestTurn 24 L (.int (-1) :: st) g := rn_ipush (i := .iconst (-1)) dd_Ds_bestTurn_23 rfl rfl (by decide)
theorem dd_Ds_bestTurn_24 : decode (px_rw k_Ds_bestTurn).2.1 24 = .ok (.ireturn, 1) := (by decide +kernel : decode prog_1_method_31_code 24 = .ok (.ireturn, 1))
theorem e_Ds_bestTurn_24 (L : List Value) (v : Int32) (g : px_G) : rn k_Ds_bestTurn 24 L [.int v] g = some (some (.int v), g) := rn_iret dd_Ds_bestTurn_24 rfl
theorem dd_Ds_bestTurn_25 : decode (px_rw k_Ds_bestTurn).2.1 25 = .ok (.iconst (-1), 1) := (by decide +kernel : decode prog_1_method_31_code 25 = .ok (.iconst (-1), 1))
theorem e_Ds_bestTurn_25 (L st : List Value) (g : px_G) : rn k_Ds_bestTurn 25 L st g = rn k_Ds_bestTurn 26 L (.int (-1) :: st) g := rn_ipush (i := .iconst (-1)) dd_Ds_bestTurn_25 rfl rfl (by decide)
theorem dd_Ds_bestTurn_26 : decode (px_rw k_Ds_bestTurn).2.1 26 = .ok (.istore_n 3, 1) := (by decide +kernel : decode prog_1_method_31_code 26 = .ok (.istore_n 3, 1))
theorem e_Ds_bestTurn_26 (a0 a1 a2 a3 a4 a5 a6 a7 a8 a9 a10 : Value) (x : Int32) (st : List Value) (g : px_G) : rn k_Ds_bestTurn 26 [a0, a1, a2, a3, a4, a5, a6, a7, a8, a9, a10] (.int x :: st) g = rn k_Ds_bestTurn 27 [a0, a1, px_kill a2, .int x, a4, a5, a6, a7, a8, a9, a10] st g := rn_next dd_Ds_bestTurn_26 rfl
theorem dd_Ds_bestTurn_27 : decode (px_rw k_Ds_bestTurn).2.1 27 = .ok (.iconst (-1), 1) := (by decide +kernel : decode prog_1_method_31_code 27 = .ok (.iconst (-1), 1))
theorem e_Ds_bestTurn_27 (L st : List Value) (g : px_G) : rn k_Ds_bestTurn 27 L st g = rn k_Ds_bestTurn 28 L (.int (-1) :: st) g := rn_ipush (i := .iconst (-1)) dd_Ds_bestTurn_27 rfl rfl (by decide)
theorem dd_Ds_bestTurn_28 : decode (px_rw k_Ds_bestTurn).2.1 28 = .ok (.istore 4, 2) := (by decide +kernel : decode prog_1_method_31_code 28 = .ok (.istore 4, 2))
theorem e_Ds_bestTurn_28 (a0 a1 a2 a3 a4 a5 a6 a7 a8 a9 a10 : Value) (x : Int32) (st : List Value) (g : px_G) : rn k_Ds_bestTurn 28 [a0, a1, a2, a3, a4, a5, a6, a7, a8, a9, a10] (.int x :: st) g = rn k_Ds_bestTurn 30 [a0, a1, a2, px_kill a3, .int x, a5, a6, a7, a8, a9, a10] st g := rn_next dd_Ds_bestTurn_28 rfl
theorem dd_Ds_bestTurn_30 : decode (px_rw k_Ds_bestTurn).2.1 30 = .ok (.lconst 0, 1) := (by decide +kernel : decode prog_1_method_31_code 30 = .ok (.lconst 0, 1))
theorem e_Ds_bestTurn_30 (L st : List Value) (g : px_G) : rn k_Ds_bestTurn 30 L st g = rn k_Ds_bestTurn 31 L (.long 0 :: st) g := rn_next dd_Ds_bestTurn_30 rfl
theorem dd_Ds_bestTurn_31 : decode (px_rw k_Ds_bestTurn).2.1 31 = .ok (.lstore 5, 2) := (by decide +kernel : decode prog_1_method_31_code 31 = .ok (.lstore 5, 2))
theorem e_Ds_bestTurn_31 (a0 a1 a2 a3 a4 a5 a6 a7 a8 a9 a10 : Value) (x : Int64) (st : List Value) (g : px_G) : rn k_Ds_bestTurn 31 [a0, a1, a2, a3, a4, a5, a6, a7, a8, a9, a10] (.long x :: st) g = rn k_Ds_bestTurn 33 [a0, a1, a2, a3, px_kill a4, .long x, .null, a7, a8, a9, a10] st g := rn_next dd_Ds_bestTurn_31 rfl
theorem dd_Ds_bestTurn_33 : decode (px_rw k_Ds_bestTurn).2.1 33 = .ok (.lconst 1, 1) := (by decide +kernel : decode prog_1_method_31_code 33 = .ok (.lconst 1, 1))
theorem e_Ds_bestTurn_33 (L st : List Value) (g : px_G) : rn k_Ds_bestTurn 33 L st g = rn k_Ds_bestTurn 34 L (.long 1 :: st) g := rn_next dd_Ds_bestTurn_33 rfl
theorem dd_Ds_bestTurn_34 : decode (px_rw k_Ds_bestTurn).2.1 34 = .ok (.lstore 7, 2) := (by decide +kernel : decode prog_1_method_31_code 34 = .ok (.lstore 7, 2))
theorem e_Ds_bestTurn_34 (a0 a1 a2 a3 a4 a5 a6 a7 a8 a9 a10 : Value) (x : Int64) (st : List Value) (g : px_G) : rn k_Ds_bestTurn 34 [a0, a1, a2, a3, a4, a5, a6, a7, a8, a9, a10] (.long x :: st) g = rn k_Ds_bestTurn 36 [a0, a1, a2, a3, a4, a5, px_kill a6, .long x, .null, a9, a10] st g := rn_next dd_Ds_bestTurn_34 rfl
theorem dd_Ds_bestTurn_36 : decode (px_rw k_Ds_bestTurn).2.1 36 = .ok (.iconst 1, 1) := (by decide +kernel : decode prog_1_method_31_code 36 = .ok (.iconst 1, 1))
theorem e_Ds_bestTurn_36 (L st : List Value) (g : px_G) : rn k_Ds_bestTurn 36 L st g = rn k_Ds_bestTurn 37 L (.int 1 :: st) g := rn_ipush (i := .iconst 1) dd_Ds_bestTurn_36 rfl rfl (by decide)
theorem dd_Ds_bestTurn_37 : decode (px_rw k_Ds_bestTurn).2.1 37 = .ok (.istore 9, 2) := (by decide +kernel : decode prog_1_method_31_code 37 = .ok (.istore 9, 2))
theorem e_Ds_bestTurn_37 (a0 a1 a2 a3 a4 a5 a6 a7 a8 a9 a10 : Value) (x : Int32) (st : List Value) (g : px_G) : rn k_Ds_bestTurn 37 [a0, a1, a2, a3, a4, a5, a6, a7, a8, a9, a10] (.int x :: st) g = rn k_Ds_bestTurn 39 [a0, a1, a2, a3, a4, a5, a6, a7, px_kill a8, .int x, a10] st g := rn_next dd_Ds_bestTurn_37 rfl
theorem dd_Ds_bestTurn_39 : decode (px_rw k_Ds_bestTurn).2.1 39 = .ok (.iload 9, 2) := (by decide +kernel : decode prog_1_method_31_code 39 = .ok (.iload 9, 2))
theorem e_Ds_bestTurn_39 (a0 a1 a2 a3 a4 a5 a6 a7 a8 a10 : Value) (x : Int32) (st : List Value) (g : px_G) : rn k_Ds_bestTurn 39 [a0, a1, a2, a3, a4, a5, a6, a7, a8, .int x, a10] st g = rn k_Ds_bestTurn 41 [a0, a1, a2, a3, a4, a5, a6, a7, a8, .int x, a10] (.int x :: st) g := rn_next dd_Ds_bestTurn_39 rfl
theorem dd_Ds_bestTurn_41 : decode (px_rw k_Ds_bestTurn).2.1 41 = .ok (.bipush 12, 2) := (by decide +kernel : decode prog_1_method_31_code 41 = .ok (.bipush 12, 2))
theorem e_Ds_bestTurn_41 (L st : List Value) (g : px_G) : rn k_Ds_bestTurn 41 L st g = rn k_Ds_bestTurn 43 L (.int 12 :: st) g := rn_ipush (i := .bipush 12) dd_Ds_bestTurn_41 rfl rfl (by decide)
theorem dd_Ds_bestTurn_43 : decode (px_rw k_Ds_bestTurn).2.1 43 = .ok (.if_icmp .gt 104, 3) := (by decide +kernel : decode prog_1_method_31_code 43 = .ok (.if_icmp .gt 104, 3))
theorem e_Ds_bestTurn_43 (L : List Value) (x y : Int32) (st : List Value) (g : px_G) : rn k_Ds_bestTurn 43 L (.int y :: .int x :: st) g = if y < x then rn k_Ds_bestTurn 147 L st g else rn k_Ds_bestTurn 46 L st g := rn_icgt dd_Ds_bestTurn_43 (by decide)
theorem dd_Ds_bestTurn_46 : decode (px_rw k_Ds_bestTurn).2.1 46 = .ok (.iconst 0, 1) := (by decide +kernel : decode prog_1_method_31_code 46 = .ok (.iconst 0, 1))
theorem e_Ds_bestTurn_46 (L st : List Value) (g : px_G) : rn k_Ds_bestTurn 46 L st g = rn k_Ds_bestTurn 47 L (.int 0 :: st) g := rn_ipush (i := .iconst 0) dd_Ds_bestTurn_46 rfl rfl (by decide)
theorem dd_Ds_bestTurn_47 : decode (px_rw k_Ds_bestTurn).2.1 47 = .ok (.istore 10, 2) := (by decide +kernel : decode prog_1_method_31_code 47 = .ok (.istore 10, 2))
theorem e_Ds_bestTurn_47 (a0 a1 a2 a3 a4 a5 a6 a7 a8 a9 a10 : Value) (x : Int32) (st : List Value) (g : px_G) : rn k_Ds_bestTurn 47 [a0, a1, a2, a3, a4, a5, a6, a7, a8, a9, a10] (.int x :: st) g = rn k_Ds_bestTurn 49 [a0, a1, a2, a3, a4, a5, a6, a7, a8, px_kill a9, .int x] st g := rn_next dd_Ds_bestTurn_47 rfl
theorem dd_Ds_bestTurn_49 : decode (px_rw k_Ds_bestTurn).2.1 49 = .ok (.iload 10, 2) := (by decide +kernel : decode prog_1_method_31_code 49 = .ok (.iload 10, 2))
theorem e_Ds_bestTurn_49 (a0 a1 a2 a3 a4 a5 a6 a7 a8 a9 : Value) (x : Int32) (st : List Value) (g : px_G) : rn k_Ds_bestTurn 49 [a0, a1, a2, a3, a4, a5, a6, a7, a8, a9, .int x] st g = rn k_Ds_bestTurn 51 [a0, a1, a2, a3, a4, a5, a6, a7, a8, a9, .int x] (.int x :: st) g := rn_next dd_Ds_bestTurn_49 rfl
theorem dd_Ds_bestTurn_51 : decode (px_rw k_Ds_bestTurn).2.1 51 = .ok (.bipush 12, 2) := (by decide +kernel : decode prog_1_method_31_code 51 = .ok (.bipush 12, 2))
theorem e_Ds_bestTurn_51 (L st : List Value) (g : px_G) : rn k_Ds_bestTurn 51 L st g = rn k_Ds_bestTurn 53 L (.int 12 :: st) g := rn_ipush (i := .bipush 12) dd_Ds_bestTurn_51 rfl rfl (by decide)
theorem dd_Ds_bestTurn_53 : decode (px_rw k_Ds_bestTurn).2.1 53 = .ok (.if_icmp .gt 88, 3) := (by decide +kernel : decode prog_1_method_31_code 53 = .ok (.if_icmp .gt 88, 3))
theorem e_Ds_bestTurn_53 (L : List Value) (x y : Int32) (st : List Value) (g : px_G) : rn k_Ds_bestTurn 53 L (.int y :: .int x :: st) g = if y < x then rn k_Ds_bestTurn 141 L st g else rn k_Ds_bestTurn 56 L st g := rn_icgt dd_Ds_bestTurn_53 (by decide)
theorem dd_Ds_bestTurn_56 : decode (px_rw k_Ds_bestTurn).2.1 56 = .ok (.iload 9, 2) := (by decide +kernel : decode prog_1_method_31_code 56 = .ok (.iload 9, 2))
theorem e_Ds_bestTurn_56 (a0 a1 a2 a3 a4 a5 a6 a7 a8 a10 : Value) (x : Int32) (st : List Value) (g : px_G) : rn k_Ds_bestTurn 56 [a0, a1, a2, a3, a4, a5, a6, a7, a8, .int x, a10] st g = rn k_Ds_bestTurn 58 [a0, a1, a2, a3, a4, a5, a6, a7, a8, .int x, a10] (.int x :: st) g := rn_next dd_Ds_bestTurn_56 rfl
theorem dd_Ds_bestTurn_58 : decode (px_rw k_Ds_bestTurn).2.1 58 = .ok (.iload 9, 2) := (by decide +kernel : decode prog_1_method_31_code 58 = .ok (.iload 9, 2))
theorem e_Ds_bestTurn_58 (a0 a1 a2 a3 a4 a5 a6 a7 a8 a10 : Value) (x : Int32) (st : List Value) (g : px_G) : rn k_Ds_bestTurn 58 [a0, a1, a2, a3, a4, a5, a6, a7, a8, .int x, a10] st g = rn k_Ds_bestTurn 60 [a0, a1, a2, a3, a4, a5, a6, a7, a8, .int x, a10] (.int x :: st) g := rn_next dd_Ds_bestTurn_58 rfl
theorem dd_Ds_bestTurn_60 : decode (px_rw k_Ds_bestTurn).2.1 60 = .ok (.imul, 1) := (by decide +kernel : decode prog_1_method_31_code 60 = .ok (.imul, 1))
theorem e_Ds_bestTurn_60 (L : List Value) (x y : Int32) (st : List Value) (g : px_G) : rn k_Ds_bestTurn 60 L (.int y :: .int x :: st) g = rn k_Ds_bestTurn 61 L (.int (x * y) :: st) g := rn_next dd_Ds_bestTurn_60 rfl
theorem dd_Ds_bestTurn_61 : decode (px_rw k_Ds_bestTurn).2.1 61 = .ok (.iload 10, 2) := (by decide +kernel : decode prog_1_method_31_code 61 = .ok (.iload 10, 2))
theorem e_Ds_bestTurn_61 (a0 a1 a2 a3 a4 a5 a6 a7 a8 a9 : Value) (x : Int32) (st : List Value) (g : px_G) : rn k_Ds_bestTurn 61 [a0, a1, a2, a3, a4, a5, a6, a7, a8, a9, .int x] st g = rn k_Ds_bestTurn 63 [a0, a1, a2, a3, a4, a5, a6, a7, a8, a9, .int x] (.int x :: st) g := rn_next dd_Ds_bestTurn_61 rfl
theorem dd_Ds_bestTurn_63 : decode (px_rw k_Ds_bestTurn).2.1 63 = .ok (.iload 10, 2) := (by decide +kernel : decode prog_1_method_31_code 63 = .ok (.iload 10, 2))
theorem e_Ds_bestTurn_63 (a0 a1 a2 a3 a4 a5 a6 a7 a8 a9 : Value) (x : Int32) (st : List Value) (g : px_G) : rn k_Ds_bestTurn 63 [a0, a1, a2, a3, a4, a5, a6, a7, a8, a9, .int x] st g = rn k_Ds_bestTurn 65 [a0, a1, a2, a3, a4, a5, a6, a7, a8, a9, .int x] (.int x :: st) g := rn_next dd_Ds_bestTurn_63 rfl
theorem dd_Ds_bestTurn_65 : decode (px_rw k_Ds_bestTurn).2.1 65 = .ok (.imul, 1) := (by decide +kernel : decode prog_1_method_31_code 65 = .ok (.imul, 1))
theorem e_Ds_bestTurn_65 (L : List Value) (x y : Int32) (st : List Value) (g : px_G) : rn k_Ds_bestTurn 65 L (.int y :: .int x :: st) g = rn k_Ds_bestTurn 66 L (.int (x * y) :: st) g := rn_next dd_Ds_bestTurn_65 rfl
theorem dd_Ds_bestTurn_66 : decode (px_rw k_Ds_bestTurn).2.1 66 = .ok (.iadd, 1) := (by decide +kernel : decode prog_1_method_31_code 66 = .ok (.iadd, 1))
theorem e_Ds_bestTurn_66 (L : List Value) (x y : Int32) (st : List Value) (g : px_G) : rn k_Ds_bestTurn 66 L (.int y :: .int x :: st) g = rn k_Ds_bestTurn 67 L (.int (x + y) :: st) g := rn_next dd_Ds_bestTurn_66 rfl
theorem dd_Ds_bestTurn_67 : decode (px_rw k_Ds_bestTurn).2.1 67 = .ok (.aload_n 0, 1) := (by decide +kernel : decode prog_1_method_31_code 67 = .ok (.aload_n 0, 1))
theorem e_Ds_bestTurn_67 (a1 a2 a3 a4 a5 a6 a7 a8 a9 a10 : Value) (x : Nat) (st : List Value) (g : px_G) : rn k_Ds_bestTurn 67 [.ref x, a1, a2, a3, a4, a5, a6, a7, a8, a9, a10] st g = rn k_Ds_bestTurn 68 [.ref x, a1, a2, a3, a4, a5, a6, a7, a8, a9, a10] (.ref x :: st) g := rn_next dd_Ds_bestTurn_67 rfl
theorem dd_Ds_bestTurn_68 : decode (px_rw k_Ds_bestTurn).2.1 68 = .ok (.getfield 27, 3) := (by decide +kernel : decode prog_1_method_31_code 68 = .ok (.getfield 27, 3))
theorem e_Ds_bestTurn_68 (L st : List Value) (T : TS) : rn k_Ds_bestTurn 68 L (.ref 0 :: st) (enc T) = rn k_Ds_bestTurn 71 L (.ref 5 :: st) (enc T) := rn_getA (n := 13) dd_Ds_bestTurn_68 rfl (by decide) (by decide) (by decide) rfl rfl
theorem dd_Ds_bestTurn_71 : decode (px_rw k_Ds_bestTurn).2.1 71 = .ok (.iload_n 1, 1) := (by decide +kernel : decode prog_1_method_31_code 71 = .ok (.iload_n 1, 1))
theorem e_Ds_bestTurn_71 (a0 a2 a3 a4 a5 a6 a7 a8 a9 a10 : Value) (x : Int32) (st : List Value) (g : px_G) : rn k_Ds_bestTurn 71 [a0, .int x, a2, a3, a4, a5, a6, a7, a8, a9, a10] st g = rn k_Ds_bestTurn 72 [a0, .int x, a2, a3, a4, a5, a6, a7, a8, a9, a10] (.int x :: st) g := rn_next dd_Ds_bestTurn_71 rfl
theorem dd_Ds_bestTurn_72 : decode (px_rw k_Ds_bestTurn).2.1 72 = .ok (.aaload, 1) := (by decide +kernel : decode prog_1_method_31_code 72 = .ok (.aaload, 1))
theorem e_Ds_bestTurn_72 (L : List Value) (i : Int32) (p : Nat) (st : List Value) (T : TS) (hp : (sh p).1 = 3) : rn k_Ds_bestTurn 72 L (.int i :: .ref p :: st) (enc T) = if px_in i (sh p).2 then rn k_Ds_bestTurn 73 L (.ref (T.2.2.1 i.toNatClampNeg) :: st) (enc T) else none := rn_aald dd_Ds_bestTurn_72 (Prod.ext hp rfl)
theorem dd_Ds_bestTurn_73 : decode (px_rw k_Ds_bestTurn).2.1 73 = .ok (.getfield 154, 3) := (by decide +kernel : decode prog_1_method_31_code 73 = .ok (.getfield 154, 3))
theorem e_Ds_bestTurn_73 (L : List Value) (p : Nat) (st : List Value) (T : TS) (hp : sh p = (104, 18)) : rn k_Ds_bestTurn 73 L (.ref p :: st) (enc T) = rn k_Ds_bestTurn 76 L (.int (T.1 p 2) :: st) (enc T) := rn_getI (n := 18) dd_Ds_bestTurn_73 rfl (by decide) (by decide) (by decide) rfl hp
theorem dd_Ds_bestTurn_76 : decode (px_rw k_Ds_bestTurn).2.1 76 = .ok (.if_icmp .eq 6, 3) := (by decide +kernel : decode prog_1_method_31_code 76 = .ok (.if_icmp .eq 6, 3))
theorem e_Ds_bestTurn_76 (L : List Value) (x y : Int32) (st : List Value) (g : px_G) : rn k_Ds_bestTurn 76 L (.int y :: .int x :: st) g = if x = y then rn k_Ds_bestTurn 82 L st g else rn k_Ds_bestTurn 79 L st g := rn_iceq dd_Ds_bestTurn_76 (by decide)
theorem dd_Ds_bestTurn_79 : decode (px_rw k_Ds_bestTurn).2.1 79 = .ok (.goto 56, 3) := (by decide +kernel : decode prog_1_method_31_code 79 = .ok (.goto 56, 3))
theorem e_Ds_bestTurn_79 (L st : List Value) (g : px_G) : rn k_Ds_bestTurn 79 L st g = rn k_Ds_bestTurn 135 L st g := rn_goto dd_Ds_bestTurn_79 (by decide)
theorem dd_Ds_bestTurn_82 : decode (px_rw k_Ds_bestTurn).2.1 82 = .ok (.aload_n 0, 1) := (by decide +kernel : decode prog_1_method_31_code 82 = .ok (.aload_n 0, 1))
theorem e_Ds_bestTurn_82 (a1 a2 a3 a4 a5 a6 a7 a8 a9 a10 : Value) (x : Nat) (st : List Value) (g : px_G) : rn k_Ds_bestTurn 82 [.ref x, a1, a2, a3, a4, a5, a6, a7, a8, a9, a10] st g = rn k_Ds_bestTurn 83 [.ref x, a1, a2, a3, a4, a5, a6, a7, a8, a9, a10] (.ref x :: st) g := rn_next dd_Ds_bestTurn_82 rfl
theorem dd_Ds_bestTurn_83 : decode (px_rw k_Ds_bestTurn).2.1 83 = .ok (.getfield 73, 3) := (by decide +kernel : decode prog_1_method_31_code 83 = .ok (.getfield 73, 3))
theorem e_Ds_bestTurn_83 (L st : List Value) (T : TS) : rn k_Ds_bestTurn 83 L (.ref 0 :: st) (enc T) = rn k_Ds_bestTurn 86 L (.ref 24 :: st) (enc T) := rn_getO (n := 13) dd_Ds_bestTurn_83 rfl (by decide) (by decide) (by decide) rfl rfl
theorem dd_Ds_bestTurn_86 : decode (px_rw k_Ds_bestTurn).2.1 86 = .ok (.iload 9, 2) := (by decide +kernel : decode prog_1_method_31_code 86 = .ok (.iload 9, 2))
theorem e_Ds_bestTurn_86 (a0 a1 a2 a3 a4 a5 a6 a7 a8 a10 : Value) (x : Int32) (st : List Value) (g : px_G) : rn k_Ds_bestTurn 86 [a0, a1, a2, a3, a4, a5, a6, a7, a8, .int x, a10] st g = rn k_Ds_bestTurn 88 [a0, a1, a2, a3, a4, a5, a6, a7, a8, .int x, a10] (.int x :: st) g := rn_next dd_Ds_bestTurn_86 rfl
theorem dd_Ds_bestTurn_88 : decode (px_rw k_Ds_bestTurn).2.1 88 = .ok (.iload 10, 2) := (by decide +kernel : decode prog_1_method_31_code 88 = .ok (.iload 10, 2))
theorem e_Ds_bestTurn_88 (a0 a1 a2 a3 a4 a5 a6 a7 a8 a9 : Value) (x : Int32) (st : List Value) (g : px_G) : rn k_Ds_bestTurn 88 [a0, a1, a2, a3, a4, a5, a6, a7, a8, a9, .int x] st g = rn k_Ds_bestTurn 90 [a0, a1, a2, a3, a4, a5, a6, a7, a8, a9, .int x] (.int x :: st) g := rn_next dd_Ds_bestTurn_88 rfl
theorem dd_Ds_bestTurn_90 : decode (px_rw k_Ds_bestTurn).2.1 90 = .ok (.invokevirtual 326, 3) := (by decide +kernel : decode prog_1_method_31_code 90 = .ok (.invokevirtual 326, 3))
theorem e_Ds_bestTurn_90 (L : List Value) (i0 : Int32) (i1 : Int32) (p : Nat) (T : TS) (hp : sh p = (107, 4)) : rn k_Ds_bestTurn 90 L [.int i1, .int i0, .ref p] (enc T) = bd (cl k_Screen_takeSquare [.ref p, .int i0, .int i1] (enc T)) (fun r g' => rn k_Ds_bestTurn 93 L (r.toList ++ []) g') := rn_callV (n := 4) (As := [.int i0, .int i1]) (rest := []) dd_Ds_bestTurn_90 rfl (by decide) (by decide) rfl rfl (Nat.le_of_ble_eq_true rfl) (Nat.le_of_ble_eq_true rfl) hp
theorem dd_Ds_bestTurn_93 : decode (px_rw k_Ds_bestTurn).2.1 93 = .ok (.aload_n 0, 1) := (by decide +kernel : decode prog_1_method_31_code 93 = .ok (.aload_n 0, 1))
theorem e_Ds_bestTurn_93 (a1 a2 a3 a4 a5 a6 a7 a8 a9 a10 : Value) (x : Nat) (st : List Value) (g : px_G) : rn k_Ds_bestTurn 93 [.ref x, a1, a2, a3, a4, a5, a6, a7, a8, a9, a10] st g = rn k_Ds_bestTurn 94 [.ref x, a1, a2, a3, a4, a5, a6, a7, a8, a9, a10] (.ref x :: st) g := rn_next dd_Ds_bestTurn_93 rfl
theorem dd_Ds_bestTurn_94 : decode (px_rw k_Ds_bestTurn).2.1 94 = .ok (.iload_n 1, 1) := (by decide +kernel : decode prog_1_method_31_code 94 = .ok (.iload_n 1, 1))
theorem e_Ds_bestTurn_94 (a0 a2 a3 a4 a5 a6 a7 a8 a9 a10 : Value) (x : Int32) (st : List Value) (g : px_G) : rn k_Ds_bestTurn 94 [a0, .int x, a2, a3, a4, a5, a6, a7, a8, a9, a10] st g = rn k_Ds_bestTurn 95 [a0, .int x, a2, a3, a4, a5, a6, a7, a8, a9, a10] (.int x :: st) g := rn_next dd_Ds_bestTurn_94 rfl
theorem dd_Ds_bestTurn_95 : decode (px_rw k_Ds_bestTurn).2.1 95 = .ok (.invokevirtual 329, 3) := (by decide +kernel : decode prog_1_method_31_code 95 = .ok (.invokevirtual 329, 3))
theorem e_Ds_bestTurn_95 (L : List Value) (i0 : Int32)  (T : TS)  : rn k_Ds_bestTurn 95 L [.int i0, .ref 0] (enc T) = bd (cl k_Ds_leastFarBeside [.ref 0, .int i0] (enc T)) (fun r g' => rn k_Ds_bestTurn 98 L (r.toList ++ []) g') := rn_callV (n := 13) (As := [.int i0]) (rest := []) dd_Ds_bestTurn_95 rfl (by decide) (by decide) rfl rfl (Nat.le_of_ble_eq_true rfl) (Nat.le_of_ble_eq_true rfl) rfl
theorem dd_Ds_bestTurn_98 : decode (px_rw k_Ds_bestTurn).2.1 98 = .ok (.aload_n 0, 1) := (by decide +kernel : decode prog_1_method_31_code 98 = .ok (.aload_n 0, 1))
theorem e_Ds_bestTurn_98 (a1 a2 a3 a4 a5 a6 a7 a8 a9 a10 : Value) (x : Nat) (st : List Value) (g : px_G) : rn k_Ds_bestTurn 98 [.ref x, a1, a2, a3, a4, a5, a6, a7, a8, a9, a10] st g = rn k_Ds_bestTurn 99 [.ref x, a1, a2, a3, a4, a5, a6, a7, a8, a9, a10] (.ref x :: st) g := rn_next dd_Ds_bestTurn_98 rfl
theorem dd_Ds_bestTurn_99 : decode (px_rw k_Ds_bestTurn).2.1 99 = .ok (.getfield 332, 3) := (by decide +kernel : decode prog_1_method_31_code 99 = .ok (.getfield 332, 3))
theorem e_Ds_bestTurn_99 (L st : List Value) (T : TS) : rn k_Ds_bestTurn 99 L (.ref 0 :: st) (enc T) = rn k_Ds_bestTurn 102 L (.long (T.2.1 0 11) :: st) (enc T) := rn_getJ (n := 13) dd_Ds_bestTurn_99 rfl (by decide) (by decide) (by decide) rfl rfl
theorem dd_Ds_bestTurn_102 : decode (px_rw k_Ds_bestTurn).2.1 102 = .ok (.aload_n 0, 1) := (by decide +kernel : decode prog_1_method_31_code 102 = .ok (.aload_n 0, 1))
theorem e_Ds_bestTurn_102 (a1 a2 a3 a4 a5 a6 a7 a8 a9 a10 : Value) (x : Nat) (st : List Value) (g : px_G) : rn k_Ds_bestTurn 102 [.ref x, a1, a2, a3, a4, a5, a6, a7, a8, a9, a10] st g = rn k_Ds_bestTurn 103 [.ref x, a1, a2, a3, a4, a5, a6, a7, a8, a9, a10] (.ref x :: st) g := rn_next dd_Ds_bestTurn_102 rfl
theorem dd_Ds_bestTurn_103 : decode (px_rw k_Ds_bestTurn).2.1 103 = .ok (.getfield 335, 3) := (by decide +kernel : decode prog_1_method_31_code 103 = .ok (.getfield 335, 3))
theorem e_Ds_bestTurn_103 (L st : List Value) (T : TS) : rn k_Ds_bestTurn 103 L (.ref 0 :: st) (enc T) = rn k_Ds_bestTurn 106 L (.long (T.2.1 0 12) :: st) (enc T) := rn_getJ (n := 13) dd_Ds_bestTurn_103 rfl (by decide) (by decide) (by decide) rfl rfl
theorem dd_Ds_bestTurn_106 : decode (px_rw k_Ds_bestTurn).2.1 106 = .ok (.lload 5, 2) := (by decide +kernel : decode prog_1_method_31_code 106 = .ok (.lload 5, 2))
theorem e_Ds_bestTurn_106 (a0 a1 a2 a3 a4 a6 a7 a8 a9 a10 : Value) (x : Int64) (st : List Value) (g : px_G) : rn k_Ds_bestTurn 106 [a0, a1, a2, a3, a4, .long x, a6, a7, a8, a9, a10] st g = rn k_Ds_bestTurn 108 [a0, a1, a2, a3, a4, .long x, a6, a7, a8, a9, a10] (.long x :: st) g := rn_next dd_Ds_bestTurn_106 rfl
theorem dd_Ds_bestTurn_108 : decode (px_rw k_Ds_bestTurn).2.1 108 = .ok (.lload 7, 2) := (by decide +kernel : decode prog_1_method_31_code 108 = .ok (.lload 7, 2))
theorem e_Ds_bestTurn_108 (a0 a1 a2 a3 a4 a5 a6 a8 a9 a10 : Value) (x : Int64) (st : List Value) (g : px_G) : rn k_Ds_bestTurn 108 [a0, a1, a2, a3, a4, a5, a6, .long x, a8, a9, a10] st g = rn k_Ds_bestTurn 110 [a0, a1, a2, a3, a4, a5, a6, .long x, a8, a9, a10] (.long x :: st) g := rn_next dd_Ds_bestTurn_108 rfl
theorem dd_Ds_bestTurn_110 : decode (px_rw k_Ds_bestTurn).2.1 110 = .ok (.invokestatic 338, 3) := (by decide +kernel : decode prog_1_method_31_code 110 = .ok (.invokestatic 338, 3))
theorem e_Ds_bestTurn_110 (L : List Value) (j0 : Int64) (j1 : Int64) (j2 : Int64) (j3 : Int64) (g : px_G) : rn k_Ds_bestTurn 110 L [.long j3, .long j2, .long j1, .long j0] g = bd (cl k_Ds_isFarther [.long j0, .long j1, .long j2, .long j3] g) (fun r g' => rn k_Ds_bestTurn 113 L (r.toList ++ []) g') := rn_callS (As := [.long j0, .long j1, .long j2, .long j3]) (rest := []) dd_Ds_bestTurn_110 rfl (by decide) rfl rfl (Nat.le_of_ble_eq_true rfl) (Nat.le_of_ble_eq_true rfl)
theorem dd_Ds_bestTurn_113 : decode (px_rw k_Ds_bestTurn).2.1 113 = .ok (.ifCond .eq 22, 3) := (by decide +kernel : decode prog_1_method_31_code 113 = .ok (.ifCond .eq 22, 3))
theorem e_Ds_bestTurn_113 (L : List Value) (x : Int32) (st : List Value) (g : px_G) : rn k_Ds_bestTurn 113 L (.int x :: st) g = if x = 0 then rn k_Ds_bestTurn 135 L st g else rn k_Ds_bestTurn 116 L st g := rn_ifeq dd_Ds_bestTurn_113 (by decide)
theorem dd_Ds_bestTurn_116 : decode (px_rw k_Ds_bestTurn).2.1 116 = .ok (.aload_n 0, 1) := (by decide +kernel : decode prog_1_method_31_code 116 = .ok (.aload_n 0, 1))
theorem e_Ds_bestTurn_116 (a1 a2 a3 a4 a5 a6 a7 a8 a9 a10 : Value) (x : Nat) (st : List Value) (g : px_G) : rn k_Ds_bestTurn 116 [.ref x, a1, a2, a3, a4, a5, a6, a7, a8, a9, a10] st g = rn k_Ds_bestTurn 117 [.ref x, a1, a2, a3, a4, a5, a6, a7, a8, a9, a10] (.ref x :: st) g := rn_next dd_Ds_bestTurn_116 rfl
theorem dd_Ds_bestTurn_117 : decode (px_rw k_Ds_bestTurn).2.1 117 = .ok (.getfield 332, 3) := (by decide +kernel : decode prog_1_method_31_code 117 = .ok (.getfield 332, 3))
theorem e_Ds_bestTurn_117 (L st : List Value) (T : TS) : rn k_Ds_bestTurn 117 L (.ref 0 :: st) (enc T) = rn k_Ds_bestTurn 120 L (.long (T.2.1 0 11) :: st) (enc T) := rn_getJ (n := 13) dd_Ds_bestTurn_117 rfl (by decide) (by decide) (by decide) rfl rfl
theorem dd_Ds_bestTurn_120 : decode (px_rw k_Ds_bestTurn).2.1 120 = .ok (.lstore 5, 2) := (by decide +kernel : decode prog_1_method_31_code 120 = .ok (.lstore 5, 2))
theorem e_Ds_bestTurn_120 (a0 a1 a2 a3 a4 a5 a6 a7 a8 a9 a10 : Value) (x : Int64) (st : List Value) (g : px_G) : rn k_Ds_bestTurn 120 [a0, a1, a2, a3, a4, a5, a6, a7, a8, a9, a10] (.long x :: st) g = rn k_Ds_bestTurn 122 [a0, a1, a2, a3, px_kill a4, .long x, .null, a7, a8, a9, a10] st g := rn_next dd_Ds_bestTurn_120 rfl
theorem dd_Ds_bestTurn_122 : decode (px_rw k_Ds_bestTurn).2.1 122 = .ok (.aload_n 0, 1) := (by decide +kernel : decode prog_1_method_31_code 122 = .ok (.aload_n 0, 1))
theorem e_Ds_bestTurn_122 (a1 a2 a3 a4 a5 a6 a7 a8 a9 a10 : Value) (x : Nat) (st : List Value) (g : px_G) : rn k_Ds_bestTurn 122 [.ref x, a1, a2, a3, a4, a5, a6, a7, a8, a9, a10] st g = rn k_Ds_bestTurn 123 [.ref x, a1, a2, a3, a4, a5, a6, a7, a8, a9, a10] (.ref x :: st) g := rn_next dd_Ds_bestTurn_122 rfl
theorem dd_Ds_bestTurn_123 : decode (px_rw k_Ds_bestTurn).2.1 123 = .ok (.getfield 335, 3) := (by decide +kernel : decode prog_1_method_31_code 123 = .ok (.getfield 335, 3))
theorem e_Ds_bestTurn_123 (L st : List Value) (T : TS) : rn k_Ds_bestTurn 123 L (.ref 0 :: st) (enc T) = rn k_Ds_bestTurn 126 L (.long (T.2.1 0 12) :: st) (enc T) := rn_getJ (n := 13) dd_Ds_bestTurn_123 rfl (by decide) (by decide) (by decide) rfl rfl
theorem dd_Ds_bestTurn_126 : decode (px_rw k_Ds_bestTurn).2.1 126 = .ok (.lstore 7, 2) := (by decide +kernel : decode prog_1_method_31_code 126 = .ok (.lstore 7, 2))
theorem e_Ds_bestTurn_126 (a0 a1 a2 a3 a4 a5 a6 a7 a8 a9 a10 : Value) (x : Int64) (st : List Value) (g : px_G) : rn k_Ds_bestTurn 126 [a0, a1, a2, a3, a4, a5, a6, a7, a8, a9, a10] (.long x :: st) g = rn k_Ds_bestTurn 128 [a0, a1, a2, a3, a4, a5, px_kill a6, .long x, .null, a9, a10] st g := rn_next dd_Ds_bestTurn_126 rfl
theorem dd_Ds_bestTurn_128 : decode (px_rw k_Ds_bestTurn).2.1 128 = .ok (.iload 9, 2) := (by decide +kernel : decode prog_1_method_31_code 128 = .ok (.iload 9, 2))
theorem e_Ds_bestTurn_128 (a0 a1 a2 a3 a4 a5 a6 a7 a8 a10 : Value) (x : Int32) (st : List Value) (g : px_G) : rn k_Ds_bestTurn 128 [a0, a1, a2, a3, a4, a5, a6, a7, a8, .int x, a10] st g = rn k_Ds_bestTurn 130 [a0, a1, a2, a3, a4, a5, a6, a7, a8, .int x, a10] (.int x :: st) g := rn_next dd_Ds_bestTurn_128 rfl
theorem dd_Ds_bestTurn_130 : decode (px_rw k_Ds_bestTurn).2.1 130 = .ok (.istore_n 3, 1) := (by decide +kernel : decode prog_1_method_31_code 130 = .ok (.istore_n 3, 1))
theorem e_Ds_bestTurn_130 (a0 a1 a2 a3 a4 a5 a6 a7 a8 a9 a10 : Value) (x : Int32) (st : List Value) (g : px_G) : rn k_Ds_bestTurn 130 [a0, a1, a2, a3, a4, a5, a6, a7, a8, a9, a10] (.int x :: st) g = rn k_Ds_bestTurn 131 [a0, a1, px_kill a2, .int x, a4, a5, a6, a7, a8, a9, a10] st g := rn_next dd_Ds_bestTurn_130 rfl
theorem dd_Ds_bestTurn_131 : decode (px_rw k_Ds_bestTurn).2.1 131 = .ok (.iload 10, 2) := (by decide +kernel : decode prog_1_method_31_code 131 = .ok (.iload 10, 2))
theorem e_Ds_bestTurn_131 (a0 a1 a2 a3 a4 a5 a6 a7 a8 a9 : Value) (x : Int32) (st : List Value) (g : px_G) : rn k_Ds_bestTurn 131 [a0, a1, a2, a3, a4, a5, a6, a7, a8, a9, .int x] st g = rn k_Ds_bestTurn 133 [a0, a1, a2, a3, a4, a5, a6, a7, a8, a9, .int x] (.int x :: st) g := rn_next dd_Ds_bestTurn_131 rfl
theorem dd_Ds_bestTurn_133 : decode (px_rw k_Ds_bestTurn).2.1 133 = .ok (.istore 4, 2) := (by decide +kernel : decode prog_1_method_31_code 133 = .ok (.istore 4, 2))
theorem e_Ds_bestTurn_133 (a0 a1 a2 a3 a4 a5 a6 a7 a8 a9 a10 : Value) (x : Int32) (st : List Value) (g : px_G) : rn k_Ds_bestTurn 133 [a0, a1, a2, a3, a4, a5, a6, a7, a8, a9, a10] (.int x :: st) g = rn k_Ds_bestTurn 135 [a0, a1, a2, px_kill a3, .int x, a5, a6, a7, a8, a9, a10] st g := rn_next dd_Ds_bestTurn_133 rfl
theorem dd_Ds_bestTurn_135 : decode (px_rw k_Ds_bestTurn).2.1 135 = .ok (.iinc 10 1, 3) := (by decide +kernel : decode prog_1_method_31_code 135 = .ok (.iinc 10 1, 3))
theorem e_Ds_bestTurn_135 (a0 a1 a2 a3 a4 a5 a6 a7 a8 a9 : Value) (x : Int32) (st : List Value) (g : px_G) : rn k_Ds_bestTurn 135 [a0, a1, a2, a3, a4, a5, a6, a7, a8, a9, .int x] st g = rn k_Ds_bestTurn 138 [a0, a1, a2, a3, a4, a5, a6, a7, a8, px_kill a9, .int (x + 1)] st g := rn_next dd_Ds_bestTurn_135 rfl
theorem dd_Ds_bestTurn_138 : decode (px_rw k_Ds_bestTurn).2.1 138 = .ok (.goto (-89), 3) := (by decide +kernel : decode prog_1_method_31_code 138 = .ok (.goto (-89), 3))
theorem e_Ds_bestTurn_138 (L st : List Value) (g : px_G) : rn k_Ds_bestTurn 138 L st g = rn k_Ds_bestTurn 49 L st g := rn_goto dd_Ds_bestTurn_138 (by decide)
theorem dd_Ds_bestTurn_141 : decode (px_rw k_Ds_bestTurn).2.1 141 = .ok (.iinc 9 1, 3) := (by decide +kernel : decode prog_1_method_31_code 141 = .ok (.iinc 9 1, 3))
theorem e_Ds_bestTurn_141 (a0 a1 a2 a3 a4 a5 a6 a7 a8 a10 : Value) (x : Int32) (st : List Value) (g : px_G) : rn k_Ds_bestTurn 141 [a0, a1, a2, a3, a4, a5, a6, a7, a8, .int x, a10] st g = rn k_Ds_bestTurn 144 [a0, a1, a2, a3, a4, a5, a6, a7, px_kill a8, .int (x + 1), a10] st g := rn_next dd_Ds_bestTurn_141 rfl
theorem dd_Ds_bestTurn_144 : decode (px_rw k_Ds_bestTurn).2.1 144 = .ok (.goto (-105), 3) := (by decide +kernel : decode prog_1_method_31_code 144 = .ok (.goto (-105), 3))
theorem e_Ds_bestTurn_144 (L st : List Value) (g : px_G) : rn k_Ds_bestTurn 144 L st g = rn k_Ds_bestTurn 39 L st g := rn_goto dd_Ds_bestTurn_144 (by decide)
theorem dd_Ds_bestTurn_147 : decode (px_rw k_Ds_bestTurn).2.1 147 = .ok (.iload_n 2, 1) := (by decide +kernel : decode prog_1_method_31_code 147 = .ok (.iload_n 2, 1))
theorem e_Ds_bestTurn_147 (a0 a1 a3 a4 a5 a6 a7 a8 a9 a10 : Value) (x : Int32) (st : List Value) (g : px_G) : rn k_Ds_bestTurn 147 [a0, a1, .int x, a3, a4, a5, a6, a7, a8, a9, a10] st g = rn k_Ds_bestTurn 148 [a0, a1, .int x, a3, a4, a5, a6, a7, a8, a9, a10] (.int x :: st) g := rn_next dd_Ds_bestTurn_147 rfl
theorem dd_Ds_bestTurn_148 : decode (px_rw k_Ds_bestTurn).2.1 148 = .ok (.ifCond .ne 7, 3) := (by decide +kernel : decode prog_1_method_31_code 148 = .ok (.ifCond .ne 7, 3))
theorem e_Ds_bestTurn_148 (L : List Value) (x : Int32) (st : List Value) (g : px_G) : rn k_Ds_bestTurn 148 L (.int x :: st) g = if x = 0 then rn k_Ds_bestTurn 151 L st g else rn k_Ds_bestTurn 155 L st g := rn_ifne dd_Ds_bestTurn_148 (by decide)
theorem dd_Ds_bestTurn_151 : decode (px_rw k_Ds_bestTurn).2.1 151 = .ok (.iload_n 3, 1) := (by decide +kernel : decode prog_1_method_31_code 151 = .ok (.iload_n 3, 1))
theorem e_Ds_bestTurn_151 (a0 a1 a2 a4 a5 a6 a7 a8 a9 a10 : Value) (x : Int32) (st : List Value) (g : px_G) : rn k_Ds_bestTurn 151 [a0, a1, a2, .int x, a4, a5, a6, a7, a8, a9, a10] st g = rn k_Ds_bestTurn 152 [a0, a1, a2, .int x, a4, a5, a6, a7, a8, a9, a10] (.int x :: st) g := rn_next dd_Ds_bestTurn_151 rfl
theorem dd_Ds_bestTurn_152 : decode (px_rw k_Ds_bestTurn).2.1 152 = .ok (.goto 5, 3) := (by decide +kernel : decode prog_1_method_31_code 152 = .ok (.goto 5, 3))
theorem e_Ds_bestTurn_152 (L st : List Value) (g : px_G) : rn k_Ds_bestTurn 152 L st g = rn k_Ds_bestTurn 157 L st g := rn_goto dd_Ds_bestTurn_152 (by decide)
theorem dd_Ds_bestTurn_155 : decode (px_rw k_Ds_bestTurn).2.1 155 = .ok (.iload 4, 2) := (by decide +kernel : decode prog_1_method_31_code 155 = .ok (.iload 4, 2))
theorem e_Ds_bestTurn_155 (a0 a1 a2 a3 a5 a6 a7 a8 a9 a10 : Value) (x : Int32) (st : List Value) (g : px_G) : rn k_Ds_bestTurn 155 [a0, a1, a2, a3, .int x, a5, a6, a7, a8, a9, a10] st g = rn k_Ds_bestTurn 157 [a0, a1, a2, a3, .int x, a5, a6, a7, a8, a9, a10] (.int x :: st) g := rn_next dd_Ds_bestTurn_155 rfl
theorem dd_Ds_bestTurn_157 : decode (px_rw k_Ds_bestTurn).2.1 157 = .ok (.ireturn, 1) := (by decide +kernel : decode prog_1_method_31_code 157 = .ok (.ireturn, 1))
theorem e_Ds_bestTurn_157 (L : List Value) (v : Int32) (g : px_G) : rn k_Ds_bestTurn 157 L [.int v] g = some (some (.int v), g) := rn_iret dd_Ds_bestTurn_157 rfl
theorem c_Ds_leastFarBeside (r0 : Nat) (i1 : Int32) (g : px_G) : cl k_Ds_leastFarBeside [.ref r0, .int i1] g = rn k_Ds_leastFarBeside 0 [.ref r0, .int i1, .null] [] g := rfl
theorem dd_Ds_leastFarBeside_0 : decode (px_rw k_Ds_leastFarBeside).2.1 0 = .ok (.aload_n 0, 1) := (by decide +kernel : decode prog_1_method_32_code 0 = .ok (.aload_n 0, 1))
theorem e_Ds_leastFarBeside_0 (a1 a2 : Value) (x : Nat) (st : List Value) (g : px_G) : rn k_Ds_leastFarBeside 0 [.ref x, a1, a2] st g = rn k_Ds_leastFarBeside 1 [.ref x, a1, a2] (.ref x :: st) g := rn_next dd_Ds_leastFarBeside_0 rfl
theorem dd_Ds_leastFarBeside_1 : decode (px_rw k_Ds_leastFarBeside).2.1 1 = .ok (.lconst 1, 1) := (by decide +kernel : decode prog_1_method_32_code 1 = .ok (.lconst 1, 1))
theorem e_Ds_leastFarBeside_1 (L st : List Value) (g : px_G) : rn k_Ds_leastFarBeside 1 L st g = rn k_Ds_leastFarBeside 2 L (.long 1 :: st) g := rn_next dd_Ds_leastFarBeside_1 rfl
theorem dd_Ds_leastFarBeside_2 : decode (px_rw k_Ds_leastFarBeside).2.1 2 = .ok (.putfield 332, 3) := (by decide +kernel : decode prog_1_method_32_code 2 = .ok (.putfield 332, 3))
theorem e_Ds_leastFarBeside_2 (L : List Value) (x : Int64) (st : List Value) (T : TS) : rn k_Ds_leastFarBeside 2 L (.long x :: .ref 0 :: st) (enc T) = rn k_Ds_leastFarBeside 5 L st (enc (sJ T 0 11 x)) := rn_putJ (n := 13) dd_Ds_leastFarBeside_2 rfl (by decide) (by decide) (by decide) rfl rfl
theorem dd_Ds_leastFarBeside_5 : decode (px_rw k_Ds_leastFarBeside).2.1 5 = .ok (.aload_n 0, 1) := (by decide +kernel : decode prog_1_method_32_code 5 = .ok (.aload_n 0, 1))
theorem e_Ds_leastFarBeside_5 (a1 a2 : Value) (x : Nat) (st : List Value) (g : px_G) : rn k_Ds_leastFarBeside 5 [.ref x, a1, a2] st g = rn k_Ds_leastFarBeside 6 [.ref x, a1, a2] (.ref x :: st) g := rn_next dd_Ds_leastFarBeside_5 rfl
theorem dd_Ds_leastFarBeside_6 : decode (px_rw k_Ds_leastFarBeside).2.1 6 = .ok (.lconst 0, 1) := (by decide +kernel : decode prog_1_method_32_code 6 = .ok (.lconst 0, 1))
theorem e_Ds_leastFarBeside_6 (L st : List Value) (g : px_G) : rn k_Ds_leastFarBeside 6 L st g = rn k_Ds_leastFarBeside 7 L (.long 0 :: st) g := rn_next dd_Ds_leastFarBeside_6 rfl
theorem dd_Ds_leastFarBeside_7 : decode (px_rw k_Ds_leastFarBeside).2.1 7 = .ok (.putfield 335, 3) := (by decide +kernel : decode prog_1_method_32_code 7 = .ok (.putfield 335, 3))
theorem e_Ds_leastFarBeside_7 (L : List Value) (x : Int64) (st : List Value) (T : TS) : rn k_Ds_leastFarBeside 7 L (.long x :: .ref 0 :: st) (enc T) = rn k_Ds_leastFarBeside 10 L st (enc (sJ T 0 12 x)) := rn_putJ (n := 13) dd_Ds_leastFarBeside_7 rfl (by decide) (by decide) (by decide) rfl rfl
theorem dd_Ds_leastFarBeside_10 : decode (px_rw k_Ds_leastFarBeside).2.1 10 = .ok (.iconst 0, 1) := (by decide +kernel : decode prog_1_method_32_code 10 = .ok (.iconst 0, 1))
theorem e_Ds_leastFarBeside_10 (L st : List Value) (g : px_G) : rn k_Ds_leastFarBeside 10 L st g = rn k_Ds_leastFarBeside 11 L (.int 0 :: st) g := rn_ipush (i := .iconst 0) dd_Ds_leastFarBeside_10 rfl rfl (by decide)
theorem dd_Ds_leastFarBeside_11 : decode (px_rw k_Ds_leastFarBeside).2.1 11 = .ok (.istore_n 2, 1) := (by decide +kernel : decode prog_1_method_32_code 11 = .ok (.istore_n 2, 1))
theorem e_Ds_leastFarBeside_11 (a0 a1 a2 : Value) (x : Int32) (st : List Value) (g : px_G) : rn k_Ds_leastFarBeside 11 [a0, a1, a2] (.int x :: st) g = rn k_Ds_leastFarBeside 12 [a0, px_kill a1, .int x] st g := rn_next dd_Ds_leastFarBeside_11 rfl
theorem dd_Ds_leastFarBeside_12 : decode (px_rw k_Ds_leastFarBeside).2.1 12 = .ok (.iload_n 2, 1) := (by decide +kernel : decode prog_1_method_32_code 12 = .ok (.iload_n 2, 1))
theorem e_Ds_leastFarBeside_12 (a0 a1 : Value) (x : Int32) (st : List Value) (g : px_G) : rn k_Ds_leastFarBeside 12 [a0, a1, .int x] st g = rn k_Ds_leastFarBeside 13 [a0, a1, .int x] (.int x :: st) g := rn_next dd_Ds_leastFarBeside_12 rfl
theorem dd_Ds_leastFarBeside_13 : decode (px_rw k_Ds_leastFarBeside).2.1 13 = .ok (.aload_n 0, 1) := (by decide +kernel : decode prog_1_method_32_code 13 = .ok (.aload_n 0, 1))
theorem e_Ds_leastFarBeside_13 (a1 a2 : Value) (x : Nat) (st : List Value) (g : px_G) : rn k_Ds_leastFarBeside 13 [.ref x, a1, a2] st g = rn k_Ds_leastFarBeside 14 [.ref x, a1, a2] (.ref x :: st) g := rn_next dd_Ds_leastFarBeside_13 rfl
theorem dd_Ds_leastFarBeside_14 : decode (px_rw k_Ds_leastFarBeside).2.1 14 = .ok (.getfield 96, 3) := (by decide +kernel : decode prog_1_method_32_code 14 = .ok (.getfield 96, 3))
theorem e_Ds_leastFarBeside_14 (L st : List Value) (T : TS) : rn k_Ds_leastFarBeside 14 L (.ref 0 :: st) (enc T) = rn k_Ds_leastFarBeside 17 L (.int (T.1 0 3) :: st) (enc T) := rn_getI (n := 13) dd_Ds_leastFarBeside_14 rfl (by decide) (by decide) (by decide) rfl rfl
theorem dd_Ds_leastFarBeside_17 : decode (px_rw k_Ds_leastFarBeside).2.1 17 = .ok (.if_icmp .ge 97, 3) := (by decide +kernel : decode prog_1_method_32_code 17 = .ok (.if_icmp .ge 97, 3))
theorem e_Ds_leastFarBeside_17 (L : List Value) (x y : Int32) (st : List Value) (g : px_G) : rn k_Ds_leastFarBeside 17 L (.int y :: .int x :: st) g = if y ≤ x then rn k_Ds_leastFarBeside 114 L st g else rn k_Ds_leastFarBeside 20 L st g := rn_icge dd_Ds_leastFarBeside_17 (by decide)
theorem dd_Ds_leastFarBeside_20 : decode (px_rw k_Ds_leastFarBeside).2.1 20 = .ok (.iload_n 2, 1) := (by decide +kernel : decode prog_1_method_32_code 20 = .ok (.iload_n 2, 1))
theorem e_Ds_leastFarBeside_20 (a0 a1 : Value) (x : Int32) (st : List Value) (g : px_G) : rn k_Ds_leastFarBeside 20 [a0, a1, .int x] st g = rn k_Ds_leastFarBeside 21 [a0, a1, .int x] (.int x :: st) g := rn_next dd_Ds_leastFarBeside_20 rfl
theorem dd_Ds_leastFarBeside_21 : decode (px_rw k_Ds_leastFarBeside).2.1 21 = .ok (.iload_n 1, 1) := (by decide +kernel : decode prog_1_method_32_code 21 = .ok (.iload_n 1, 1))
theorem e_Ds_leastFarBeside_21 (a0 a2 : Value) (x : Int32) (st : List Value) (g : px_G) : rn k_Ds_leastFarBeside 21 [a0, .int x, a2] st g = rn k_Ds_leastFarBeside 22 [a0, .int x, a2] (.int x :: st) g := rn_next dd_Ds_leastFarBeside_21 rfl
theorem dd_Ds_leastFarBeside_22 : decode (px_rw k_Ds_leastFarBeside).2.1 22 = .ok (.if_icmp .ne 6, 3) := (by decide +kernel : decode prog_1_method_32_code 22 = .ok (.if_icmp .ne 6, 3))
theorem e_Ds_leastFarBeside_22 (L : List Value) (x y : Int32) (st : List Value) (g : px_G) : rn k_Ds_leastFarBeside 22 L (.int y :: .int x :: st) g = if x = y then rn k_Ds_leastFarBeside 25 L st g else rn k_Ds_leastFarBeside 28 L st g := rn_icne dd_Ds_leastFarBeside_22 (by decide)
theorem dd_Ds_leastFarBeside_25 : decode (px_rw k_Ds_leastFarBeside).2.1 25 = .ok (.goto 83, 3) := (by decide +kernel : decode prog_1_method_32_code 25 = .ok (.goto 83, 3))
theorem e_Ds_leastFarBeside_25 (L st : List Value) (g : px_G) : rn k_Ds_leastFarBeside 25 L st g = rn k_Ds_leastFarBeside 108 L st g := rn_goto dd_Ds_leastFarBeside_25 (by decide)
theorem dd_Ds_leastFarBeside_28 : decode (px_rw k_Ds_leastFarBeside).2.1 28 = .ok (.aload_n 0, 1) := (by decide +kernel : decode prog_1_method_32_code 28 = .ok (.aload_n 0, 1))
theorem e_Ds_leastFarBeside_28 (a1 a2 : Value) (x : Nat) (st : List Value) (g : px_G) : rn k_Ds_leastFarBeside 28 [.ref x, a1, a2] st g = rn k_Ds_leastFarBeside 29 [.ref x, a1, a2] (.ref x :: st) g := rn_next dd_Ds_leastFarBeside_28 rfl
theorem dd_Ds_leastFarBeside_29 : decode (px_rw k_Ds_leastFarBeside).2.1 29 = .ok (.getfield 59, 3) := (by decide +kernel : decode prog_1_method_32_code 29 = .ok (.getfield 59, 3))
theorem e_Ds_leastFarBeside_29 (L st : List Value) (T : TS) : rn k_Ds_leastFarBeside 29 L (.ref 0 :: st) (enc T) = rn k_Ds_leastFarBeside 32 L (.ref 14 :: st) (enc T) := rn_getO (n := 13) dd_Ds_leastFarBeside_29 rfl (by decide) (by decide) (by decide) rfl rfl
theorem dd_Ds_leastFarBeside_32 : decode (px_rw k_Ds_leastFarBeside).2.1 32 = .ok (.aload_n 0, 1) := (by decide +kernel : decode prog_1_method_32_code 32 = .ok (.aload_n 0, 1))
theorem e_Ds_leastFarBeside_32 (a1 a2 : Value) (x : Nat) (st : List Value) (g : px_G) : rn k_Ds_leastFarBeside 32 [.ref x, a1, a2] st g = rn k_Ds_leastFarBeside 33 [.ref x, a1, a2] (.ref x :: st) g := rn_next dd_Ds_leastFarBeside_32 rfl
theorem dd_Ds_leastFarBeside_33 : decode (px_rw k_Ds_leastFarBeside).2.1 33 = .ok (.getfield 73, 3) := (by decide +kernel : decode prog_1_method_32_code 33 = .ok (.getfield 73, 3))
theorem e_Ds_leastFarBeside_33 (L st : List Value) (T : TS) : rn k_Ds_leastFarBeside 33 L (.ref 0 :: st) (enc T) = rn k_Ds_leastFarBeside 36 L (.ref 24 :: st) (enc T) := rn_getO (n := 13) dd_Ds_leastFarBeside_33 rfl (by decide) (by decide) (by decide) rfl rfl
theorem dd_Ds_leastFarBeside_36 : decode (px_rw k_Ds_leastFarBeside).2.1 36 = .ok (.aload_n 0, 1) := (by decide +kernel : decode prog_1_method_32_code 36 = .ok (.aload_n 0, 1))
theorem e_Ds_leastFarBeside_36 (a1 a2 : Value) (x : Nat) (st : List Value) (g : px_G) : rn k_Ds_leastFarBeside 36 [.ref x, a1, a2] st g = rn k_Ds_leastFarBeside 37 [.ref x, a1, a2] (.ref x :: st) g := rn_next dd_Ds_leastFarBeside_36 rfl
theorem dd_Ds_leastFarBeside_37 : decode (px_rw k_Ds_leastFarBeside).2.1 37 = .ok (.getfield 27, 3) := (by decide +kernel : decode prog_1_method_32_code 37 = .ok (.getfield 27, 3))
theorem e_Ds_leastFarBeside_37 (L st : List Value) (T : TS) : rn k_Ds_leastFarBeside 37 L (.ref 0 :: st) (enc T) = rn k_Ds_leastFarBeside 40 L (.ref 5 :: st) (enc T) := rn_getA (n := 13) dd_Ds_leastFarBeside_37 rfl (by decide) (by decide) (by decide) rfl rfl
theorem dd_Ds_leastFarBeside_40 : decode (px_rw k_Ds_leastFarBeside).2.1 40 = .ok (.iload_n 2, 1) := (by decide +kernel : decode prog_1_method_32_code 40 = .ok (.iload_n 2, 1))
theorem e_Ds_leastFarBeside_40 (a0 a1 : Value) (x : Int32) (st : List Value) (g : px_G) : rn k_Ds_leastFarBeside 40 [a0, a1, .int x] st g = rn k_Ds_leastFarBeside 41 [a0, a1, .int x] (.int x :: st) g := rn_next dd_Ds_leastFarBeside_40 rfl
theorem dd_Ds_leastFarBeside_41 : decode (px_rw k_Ds_leastFarBeside).2.1 41 = .ok (.aaload, 1) := (by decide +kernel : decode prog_1_method_32_code 41 = .ok (.aaload, 1))
theorem e_Ds_leastFarBeside_41 (L : List Value) (i : Int32) (p : Nat) (st : List Value) (T : TS) (hp : (sh p).1 = 3) : rn k_Ds_leastFarBeside 41 L (.int i :: .ref p :: st) (enc T) = if px_in i (sh p).2 then rn k_Ds_leastFarBeside 42 L (.ref (T.2.2.1 i.toNatClampNeg) :: st) (enc T) else none := rn_aald dd_Ds_leastFarBeside_41 (Prod.ext hp rfl)
theorem dd_Ds_leastFarBeside_42 : decode (px_rw k_Ds_leastFarBeside).2.1 42 = .ok (.getfield 139, 3) := (by decide +kernel : decode prog_1_method_32_code 42 = .ok (.getfield 139, 3))
theorem e_Ds_leastFarBeside_42 (L : List Value) (p : Nat) (st : List Value) (T : TS) (hp : sh p = (104, 18)) : rn k_Ds_leastFarBeside 42 L (.ref p :: st) (enc T) = rn k_Ds_leastFarBeside 45 L (.ref (p + 1) :: st) (enc T) := (rn_getO (n := 18) dd_Ds_leastFarBeside_42 rfl (by decide) (by decide) (by decide) rfl hp).trans (by rw [ink_rf_0 hp])
theorem dd_Ds_leastFarBeside_45 : decode (px_rw k_Ds_leastFarBeside).2.1 45 = .ok (.invokevirtual 254, 3) := (by decide +kernel : decode prog_1_method_32_code 45 = .ok (.invokevirtual 254, 3))
theorem e_Ds_leastFarBeside_45 (L : List Value) (r0 : Nat) (r1 : Nat) (p : Nat) (T : TS) (hp : sh p = (100, 7)) : rn k_Ds_leastFarBeside 45 L [.ref r1, .ref r0, .ref p] (enc T) = bd (cl k_Beat_compare [.ref p, .ref r0, .ref r1] (enc T)) (fun r g' => rn k_Ds_leastFarBeside 48 L (r.toList ++ []) g') := rn_callV (n := 7) (As := [.ref r0, .ref r1]) (rest := []) dd_Ds_leastFarBeside_45 rfl (by decide) (by decide) rfl rfl (Nat.le_of_ble_eq_true rfl) (Nat.le_of_ble_eq_true rfl) hp
theorem dd_Ds_leastFarBeside_48 : decode (px_rw k_Ds_leastFarBeside).2.1 48 = .ok (.aload_n 0, 1) := (by decide +kernel : decode prog_1_method_32_code 48 = .ok (.aload_n 0, 1))
theorem e_Ds_leastFarBeside_48 (a1 a2 : Value) (x : Nat) (st : List Value) (g : px_G) : rn k_Ds_leastFarBeside 48 [.ref x, a1, a2] st g = rn k_Ds_leastFarBeside 49 [.ref x, a1, a2] (.ref x :: st) g := rn_next dd_Ds_leastFarBeside_48 rfl
theorem dd_Ds_leastFarBeside_49 : decode (px_rw k_Ds_leastFarBeside).2.1 49 = .ok (.getfield 59, 3) := (by decide +kernel : decode prog_1_method_32_code 49 = .ok (.getfield 59, 3))
theorem e_Ds_leastFarBeside_49 (L st : List Value) (T : TS) : rn k_Ds_leastFarBeside 49 L (.ref 0 :: st) (enc T) = rn k_Ds_leastFarBeside 52 L (.ref 14 :: st) (enc T) := rn_getO (n := 13) dd_Ds_leastFarBeside_49 rfl (by decide) (by decide) (by decide) rfl rfl
theorem dd_Ds_leastFarBeside_52 : decode (px_rw k_Ds_leastFarBeside).2.1 52 = .ok (.getfield 270, 3) := (by decide +kernel : decode prog_1_method_32_code 52 = .ok (.getfield 270, 3))
theorem e_Ds_leastFarBeside_52 (L : List Value) (p : Nat) (st : List Value) (T : TS) (hp : sh p = (100, 7)) : rn k_Ds_leastFarBeside 52 L (.ref p :: st) (enc T) = rn k_Ds_leastFarBeside 55 L (.int (T.1 p 4) :: st) (enc T) := rn_getZ (n := 7) dd_Ds_leastFarBeside_52 rfl (by decide) (by decide) (by decide) rfl hp
theorem dd_Ds_leastFarBeside_55 : decode (px_rw k_Ds_leastFarBeside).2.1 55 = .ok (.ifCond .ne 53, 3) := (by decide +kernel : decode prog_1_method_32_code 55 = .ok (.ifCond .ne 53, 3))
theorem e_Ds_leastFarBeside_55 (L : List Value) (x : Int32) (st : List Value) (g : px_G) : rn k_Ds_leastFarBeside 55 L (.int x :: st) g = if x = 0 then rn k_Ds_leastFarBeside 58 L st g else rn k_Ds_leastFarBeside 108 L st g := rn_ifne dd_Ds_leastFarBeside_55 (by decide)
theorem dd_Ds_leastFarBeside_58 : decode (px_rw k_Ds_leastFarBeside).2.1 58 = .ok (.aload_n 0, 1) := (by decide +kernel : decode prog_1_method_32_code 58 = .ok (.aload_n 0, 1))
theorem e_Ds_leastFarBeside_58 (a1 a2 : Value) (x : Nat) (st : List Value) (g : px_G) : rn k_Ds_leastFarBeside 58 [.ref x, a1, a2] st g = rn k_Ds_leastFarBeside 59 [.ref x, a1, a2] (.ref x :: st) g := rn_next dd_Ds_leastFarBeside_58 rfl
theorem dd_Ds_leastFarBeside_59 : decode (px_rw k_Ds_leastFarBeside).2.1 59 = .ok (.getfield 332, 3) := (by decide +kernel : decode prog_1_method_32_code 59 = .ok (.getfield 332, 3))
theorem e_Ds_leastFarBeside_59 (L st : List Value) (T : TS) : rn k_Ds_leastFarBeside 59 L (.ref 0 :: st) (enc T) = rn k_Ds_leastFarBeside 62 L (.long (T.2.1 0 11) :: st) (enc T) := rn_getJ (n := 13) dd_Ds_leastFarBeside_59 rfl (by decide) (by decide) (by decide) rfl rfl
theorem dd_Ds_leastFarBeside_62 : decode (px_rw k_Ds_leastFarBeside).2.1 62 = .ok (.aload_n 0, 1) := (by decide +kernel : decode prog_1_method_32_code 62 = .ok (.aload_n 0, 1))
theorem e_Ds_leastFarBeside_62 (a1 a2 : Value) (x : Nat) (st : List Value) (g : px_G) : rn k_Ds_leastFarBeside 62 [.ref x, a1, a2] st g = rn k_Ds_leastFarBeside 63 [.ref x, a1, a2] (.ref x :: st) g := rn_next dd_Ds_leastFarBeside_62 rfl
theorem dd_Ds_leastFarBeside_63 : decode (px_rw k_Ds_leastFarBeside).2.1 63 = .ok (.getfield 335, 3) := (by decide +kernel : decode prog_1_method_32_code 63 = .ok (.getfield 335, 3))
theorem e_Ds_leastFarBeside_63 (L st : List Value) (T : TS) : rn k_Ds_leastFarBeside 63 L (.ref 0 :: st) (enc T) = rn k_Ds_leastFarBeside 66 L (.long (T.2.1 0 12) :: st) (enc T) := rn_getJ (n := 13) dd_Ds_leastFarBeside_63 rfl (by decide) (by decide) (by decide) rfl rfl
theorem dd_Ds_leastFarBeside_66 : decode (px_rw k_Ds_leastFarBeside).2.1 66 = .ok (.aload_n 0, 1) := (by decide +kernel : decode prog_1_method_32_code 66 = .ok (.aload_n 0, 1))
theorem e_Ds_leastFarBeside_66 (a1 a2 : Value) (x : Nat) (st : List Value) (g : px_G) : rn k_Ds_leastFarBeside 66 [.ref x, a1, a2] st g = rn k_Ds_leastFarBeside 67 [.ref x, a1, a2] (.ref x :: st) g := rn_next dd_Ds_leastFarBeside_66 rfl
theorem dd_Ds_leastFarBeside_67 : decode (px_rw k_Ds_leastFarBeside).2.1 67 = .ok (.getfield 59, 3) := (by decide +kernel : decode prog_1_method_32_code 67 = .ok (.getfield 59, 3))
theorem e_Ds_leastFarBeside_67 (L st : List Value) (T : TS) : rn k_Ds_leastFarBeside 67 L (.ref 0 :: st) (enc T) = rn k_Ds_leastFarBeside 70 L (.ref 14 :: st) (enc T) := rn_getO (n := 13) dd_Ds_leastFarBeside_67 rfl (by decide) (by decide) (by decide) rfl rfl
theorem dd_Ds_leastFarBeside_70 : decode (px_rw k_Ds_leastFarBeside).2.1 70 = .ok (.getfield 276, 3) := (by decide +kernel : decode prog_1_method_32_code 70 = .ok (.getfield 276, 3))
theorem e_Ds_leastFarBeside_70 (L : List Value) (p : Nat) (st : List Value) (T : TS) (hp : sh p = (100, 7)) : rn k_Ds_leastFarBeside 70 L (.ref p :: st) (enc T) = rn k_Ds_leastFarBeside 73 L (.long (T.2.1 p 5) :: st) (enc T) := rn_getJ (n := 7) dd_Ds_leastFarBeside_70 rfl (by decide) (by decide) (by decide) rfl hp
theorem dd_Ds_leastFarBeside_73 : decode (px_rw k_Ds_leastFarBeside).2.1 73 = .ok (.aload_n 0, 1) := (by decide +kernel : decode prog_1_method_32_code 73 = .ok (.aload_n 0, 1))
theorem e_Ds_leastFarBeside_73 (a1 a2 : Value) (x : Nat) (st : List Value) (g : px_G) : rn k_Ds_leastFarBeside 73 [.ref x, a1, a2] st g = rn k_Ds_leastFarBeside 74 [.ref x, a1, a2] (.ref x :: st) g := rn_next dd_Ds_leastFarBeside_73 rfl
theorem dd_Ds_leastFarBeside_74 : decode (px_rw k_Ds_leastFarBeside).2.1 74 = .ok (.getfield 59, 3) := (by decide +kernel : decode prog_1_method_32_code 74 = .ok (.getfield 59, 3))
theorem e_Ds_leastFarBeside_74 (L st : List Value) (T : TS) : rn k_Ds_leastFarBeside 74 L (.ref 0 :: st) (enc T) = rn k_Ds_leastFarBeside 77 L (.ref 14 :: st) (enc T) := rn_getO (n := 13) dd_Ds_leastFarBeside_74 rfl (by decide) (by decide) (by decide) rfl rfl
theorem dd_Ds_leastFarBeside_77 : decode (px_rw k_Ds_leastFarBeside).2.1 77 = .ok (.getfield 279, 3) := (by decide +kernel : decode prog_1_method_32_code 77 = .ok (.getfield 279, 3))
theorem e_Ds_leastFarBeside_77 (L : List Value) (p : Nat) (st : List Value) (T : TS) (hp : sh p = (100, 7)) : rn k_Ds_leastFarBeside 77 L (.ref p :: st) (enc T) = rn k_Ds_leastFarBeside 80 L (.long (T.2.1 p 6) :: st) (enc T) := rn_getJ (n := 7) dd_Ds_leastFarBeside_77 rfl (by decide) (by decide) (by decide) rfl hp
theorem dd_Ds_leastFarBeside_80 : decode (px_rw k_Ds_leastFarBeside).2.1 80 = .ok (.invokestatic 338, 3) := (by decide +kernel : decode prog_1_method_32_code 80 = .ok (.invokestatic 338, 3))
theorem e_Ds_leastFarBeside_80 (L : List Value) (j0 : Int64) (j1 : Int64) (j2 : Int64) (j3 : Int64) (g : px_G) : rn k_Ds_leastFarBeside 80 L [.long j3, .long j2, .long j1, .long j0] g = bd (cl k_Ds_isFarther [.long j0, .long j1, .long j2, .long j3] g) (fun r g' => rn k_Ds_leastFarBeside 83 L (r.toList ++ []) g') := rn_callS (As := [.long j0, .long j1, .long j2, .long j3]) (rest := []) dd_Ds_leastFarBeside_80 rfl (by decide) rfl rfl (Nat.le_of_ble_eq_true rfl) (Nat.le_of_ble_eq_true rfl)
theorem dd_Ds_leastFarBeside_83 : decode (px_rw k_Ds_leastFarBeside).2.1 83 = .ok (.ifCond .eq 25, 3) := (by decide +kernel : decode prog_1_method_32_code 83 = .ok (.ifCond .eq 25, 3))
theorem e_Ds_leastFarBeside_83 (L : List Value) (x : Int32) (st : List Value) (g : px_G) : rn k_Ds_leastFarBeside 83 L (.int x :: st) g = if x = 0 then rn k_Ds_leastFarBeside 108 L st g else rn k_Ds_leastFarBeside 86 L st g := rn_ifeq dd_Ds_leastFarBeside_83 (by decide)
theorem dd_Ds_leastFarBeside_86 : decode (px_rw k_Ds_leastFarBeside).2.1 86 = .ok (.aload_n 0, 1) := (by decide +kernel : decode prog_1_method_32_code 86 = .ok (.aload_n 0, 1))
theorem e_Ds_leastFarBeside_86 (a1 a2 : Value) (x : Nat) (st : List Value) (g : px_G) : rn k_Ds_leastFarBeside 86 [.ref x, a1, a2] st g = rn k_Ds_leastFarBeside 87 [.ref x, a1, a2] (.ref x :: st) g := rn_next dd_Ds_leastFarBeside_86 rfl
theorem dd_Ds_leastFarBeside_87 : decode (px_rw k_Ds_leastFarBeside).2.1 87 = .ok (.aload_n 0, 1) := (by decide +kernel : decode prog_1_method_32_code 87 = .ok (.aload_n 0, 1))
theorem e_Ds_leastFarBeside_87 (a1 a2 : Value) (x : Nat) (st : List Value) (g : px_G) : rn k_Ds_leastFarBeside 87 [.ref x, a1, a2] st g = rn k_Ds_leastFarBeside 88 [.ref x, a1, a2] (.ref x :: st) g := rn_next dd_Ds_leastFarBeside_87 rfl
theorem dd_Ds_leastFarBeside_88 : decode (px_rw k_Ds_leastFarBeside).2.1 88 = .ok (.getfield 59, 3) := (by decide +kernel : decode prog_1_method_32_code 88 = .ok (.getfield 59, 3))
theorem e_Ds_leastFarBeside_88 (L st : List Value) (T : TS) : rn k_Ds_leastFarBeside 88 L (.ref 0 :: st) (enc T) = rn k_Ds_leastFarBeside 91 L (.ref 14 :: st) (enc T) := rn_getO (n := 13) dd_Ds_leastFarBeside_88 rfl (by decide) (by decide) (by decide) rfl rfl
theorem dd_Ds_leastFarBeside_91 : decode (px_rw k_Ds_leastFarBeside).2.1 91 = .ok (.getfield 276, 3) := (by decide +kernel : decode prog_1_method_32_code 91 = .ok (.getfield 276, 3))
theorem e_Ds_leastFarBeside_91 (L : List Value) (p : Nat) (st : List Value) (T : TS) (hp : sh p = (100, 7)) : rn k_Ds_leastFarBeside 91 L (.ref p :: st) (enc T) = rn k_Ds_leastFarBeside 94 L (.long (T.2.1 p 5) :: st) (enc T) := rn_getJ (n := 7) dd_Ds_leastFarBeside_91 rfl (by decide) (by decide) (by decide) rfl hp
theorem dd_Ds_leastFarBeside_94 : decode (px_rw k_Ds_leastFarBeside).2.1 94 = .ok (.putfield 332, 3) := (by decide +kernel : decode prog_1_method_32_code 94 = .ok (.putfield 332, 3))
theorem e_Ds_leastFarBeside_94 (L : List Value) (x : Int64) (st : List Value) (T : TS) : rn k_Ds_leastFarBeside 94 L (.long x :: .ref 0 :: st) (enc T) = rn k_Ds_leastFarBeside 97 L st (enc (sJ T 0 11 x)) := rn_putJ (n := 13) dd_Ds_leastFarBeside_94 rfl (by decide) (by decide) (by decide) rfl rfl
theorem dd_Ds_leastFarBeside_97 : decode (px_rw k_Ds_leastFarBeside).2.1 97 = .ok (.aload_n 0, 1) := (by decide +kernel : decode prog_1_method_32_code 97 = .ok (.aload_n 0, 1))
theorem e_Ds_leastFarBeside_97 (a1 a2 : Value) (x : Nat) (st : List Value) (g : px_G) : rn k_Ds_leastFarBeside 97 [.ref x, a1, a2] st g = rn k_Ds_leastFarBeside 98 [.ref x, a1, a2] (.ref x :: st) g := rn_next dd_Ds_leastFarBeside_97 rfl
theorem dd_Ds_leastFarBeside_98 : decode (px_rw k_Ds_leastFarBeside).2.1 98 = .ok (.aload_n 0, 1) := (by decide +kernel : decode prog_1_method_32_code 98 = .ok (.aload_n 0, 1))
theorem e_Ds_leastFarBeside_98 (a1 a2 : Value) (x : Nat) (st : List Value) (g : px_G) : rn k_Ds_leastFarBeside 98 [.ref x, a1, a2] st g = rn k_Ds_leastFarBeside 99 [.ref x, a1, a2] (.ref x :: st) g := rn_next dd_Ds_leastFarBeside_98 rfl
theorem dd_Ds_leastFarBeside_99 : decode (px_rw k_Ds_leastFarBeside).2.1 99 = .ok (.getfield 59, 3) := (by decide +kernel : decode prog_1_method_32_code 99 = .ok (.getfield 59, 3))
theorem e_Ds_leastFarBeside_99 (L st : List Value) (T : TS) : rn k_Ds_leastFarBeside 99 L (.ref 0 :: st) (enc T) = rn k_Ds_leastFarBeside 102 L (.ref 14 :: st) (enc T) := rn_getO (n := 13) dd_Ds_leastFarBeside_99 rfl (by decide) (by decide) (by decide) rfl rfl
theorem dd_Ds_leastFarBeside_102 : decode (px_rw k_Ds_leastFarBeside).2.1 102 = .ok (.getfield 279, 3) := (by decide +kernel : decode prog_1_method_32_code 102 = .ok (.getfield 279, 3))
theorem e_Ds_leastFarBeside_102 (L : List Value) (p : Nat) (st : List Value) (T : TS) (hp : sh p = (100, 7)) : rn k_Ds_leastFarBeside 102 L (.ref p :: st) (enc T) = rn k_Ds_leastFarBeside 105 L (.long (T.2.1 p 6) :: st) (enc T) := rn_getJ (n := 7) dd_Ds_leastFarBeside_102 rfl (by decide) (by decide) (by decide) rfl hp
theorem dd_Ds_leastFarBeside_105 : decode (px_rw k_Ds_leastFarBeside).2.1 105 = .ok (.putfield 335, 3) := (by decide +kernel : decode prog_1_method_32_code 105 = .ok (.putfield 335, 3))
theorem e_Ds_leastFarBeside_105 (L : List Value) (x : Int64) (st : List Value) (T : TS) : rn k_Ds_leastFarBeside 105 L (.long x :: .ref 0 :: st) (enc T) = rn k_Ds_leastFarBeside 108 L st (enc (sJ T 0 12 x)) := rn_putJ (n := 13) dd_Ds_leastFarBeside_105 rfl (by decide) (by decide) (by decide) rfl rfl
theorem dd_Ds_leastFarBeside_108 : decode (px_rw k_Ds_leastFarBeside).2.1 108 = .ok (.iinc 2 1, 3) := (by decide +kernel : decode prog_1_method_32_code 108 = .ok (.iinc 2 1, 3))
theorem e_Ds_leastFarBeside_108 (a0 a1 : Value) (x : Int32) (st : List Value) (g : px_G) : rn k_Ds_leastFarBeside 108 [a0, a1, .int x] st g = rn k_Ds_leastFarBeside 111 [a0, px_kill a1, .int (x + 1)] st g := rn_next dd_Ds_leastFarBeside_108 rfl
theorem dd_Ds_leastFarBeside_111 : decode (px_rw k_Ds_leastFarBeside).2.1 111 = .ok (.goto (-99), 3) := (by decide +kernel : decode prog_1_method_32_code 111 = .ok (.goto (-99), 3))
theorem e_Ds_leastFarBeside_111 (L st : List Value) (g : px_G) : rn k_Ds_leastFarBeside 111 L st g = rn k_Ds_leastFarBeside 12 L st g := rn_goto dd_Ds_leastFarBeside_111 (by decide)
theorem dd_Ds_leastFarBeside_114 : decode (px_rw k_Ds_leastFarBeside).2.1 114 = .ok (.return_, 1) := (by decide +kernel : decode prog_1_method_32_code 114 = .ok (.return_, 1))
theorem e_Ds_leastFarBeside_114 (L : List Value) (g : px_G) : rn k_Ds_leastFarBeside 114 L [] g = some (none, g) := rn_vret dd_Ds_leastFarBeside_114 rfl
theorem c_Ds_screen (r0 : Nat) (i1 : Int32) (i2 : Int32) (i3 : Int32) (i4 : Int32) (i5 : Int32) (g : px_G) : cl k_Ds_screen [.ref r0, .int i1, .int i2, .int i3, .int i4, .int i5] g = rn k_Ds_screen 0 [.ref r0, .int i1, .int i2, .int i3, .int i4, .int i5, .null, .null] [] g := rfl
theorem dd_Ds_screen_0 : decode (px_rw k_Ds_screen).2.1 0 = .ok (.aload_n 0, 1) := (by decide +kernel : decode prog_1_method_33_code 0 = .ok (.aload_n 0, 1))
theorem e_Ds_screen_0 (a1 a2 a3 a4 a5 a6 a7 : Value) (x : Nat) (st : List Value) (g : px_G) : rn k_Ds_screen 0 [.ref x, a1, a2, a3, a4, a5, a6, a7] st g = rn k_Ds_screen 1 [.ref x, a1, a2, a3, a4, a5, a6, a7] (.ref x :: st) g := rn_next dd_Ds_screen_0 rfl
theorem dd_Ds_screen_1 : decode (px_rw k_Ds_screen).2.1 1 = .ok (.iload_n 1, 1) := (by decide +kernel : decode prog_1_method_33_code 1 = .ok (.iload_n 1, 1))
theorem e_Ds_screen_1 (a0 a2 a3 a4 a5 a6 a7 : Value) (x : Int32) (st : List Value) (g : px_G) : rn k_Ds_screen 1 [a0, .int x, a2, a3, a4, a5, a6, a7] st g = rn k_Ds_screen 2 [a0, .int x, a2, a3, a4, a5, a6, a7] (.int x :: st) g := rn_next dd_Ds_screen_1 rfl
theorem dd_Ds_screen_2 : decode (px_rw k_Ds_screen).2.1 2 = .ok (.invokevirtual 129, 3) := (by decide +kernel : decode prog_1_method_33_code 2 = .ok (.invokevirtual 129, 3))
theorem e_Ds_screen_2 (L : List Value) (i0 : Int32)  (T : TS)  : rn k_Ds_screen 2 L [.int i0, .ref 0] (enc T) = bd (cl k_Ds_isInk [.ref 0, .int i0] (enc T)) (fun r g' => rn k_Ds_screen 5 L (r.toList ++ []) g') := rn_callV (n := 13) (As := [.int i0]) (rest := []) dd_Ds_screen_2 rfl (by decide) (by decide) rfl rfl (Nat.le_of_ble_eq_true rfl) (Nat.le_of_ble_eq_true rfl) rfl
theorem dd_Ds_screen_5 : decode (px_rw k_Ds_screen).2.1 5 = .ok (.ifCond .ne 9, 3) := (by decide +kernel : decode prog_1_method_33_code 5 = .ok (.ifCond .ne 9, 3))
theorem e_Ds_screen_5 (L : List Value) (x : Int32) (st : List Value) (g : px_G) : rn k_Ds_screen 5 L (.int x :: st) g = if x = 0 then rn k_Ds_screen 8 L st g else rn k_Ds_screen 14 L st g := rn_ifne dd_Ds_screen_5 (by decide)
theorem dd_Ds_screen_8 : decode (px_rw k_Ds_screen).2.1 8 = .ok (.aload_n 0, 1) := (by decide +kernel : decode prog_1_method_33_code 8 = .ok (.aload_n 0, 1))
theorem e_Ds_screen_8 (a1 a2 a3 a4 a5 a6 a7 : Value) (x : Nat) (st : List Value) (g : px_G) : rn k_Ds_screen 8 [.ref x, a1, a2, a3, a4, a5, a6, a7] st g = rn k_Ds_screen 9 [.ref x, a1, a2, a3, a4, a5, a6, a7] (.ref x :: st) g := rn_next dd_Ds_screen_8 rfl
theorem dd_Ds_screen_9 : decode (px_rw k_Ds_screen).2.1 9 = .ok (.iconst 0, 1) := (by decide +kernel : decode prog_1_method_33_code 9 = .ok (.iconst 0, 1))
theorem e_Ds_screen_9 (L st : List Value) (g : px_G) : rn k_Ds_screen 9 L st g = rn k_Ds_screen 10 L (.int 0 :: st) g := rn_ipush (i := .iconst 0) dd_Ds_screen_9 rfl rfl (by decide)
theorem dd_Ds_screen_10 : decode (px_rw k_Ds_screen).2.1 10 = .ok (.invokevirtual 342, 3) := (by decide +kernel : decode prog_1_method_33_code 10 = .ok (.invokevirtual 342, 3))
theorem e_Ds_screen_10 (L : List Value) (i0 : Int32)  (T : TS)  : rn k_Ds_screen 10 L [.int i0, .ref 0] (enc T) = bd (cl k_Ds_refuse [.ref 0, .int i0] (enc T)) (fun r g' => rn k_Ds_screen 13 L (r.toList ++ []) g') := rn_callV (n := 13) (As := [.int i0]) (rest := []) dd_Ds_screen_10 rfl (by decide) (by decide) rfl rfl (Nat.le_of_ble_eq_true rfl) (Nat.le_of_ble_eq_true rfl) rfl
theorem dd_Ds_screen_13 : decode (px_rw k_Ds_screen).2.1 13 = .ok (.ireturn, 1) := (by decide +kernel : decode prog_1_method_33_code 13 = .ok (.ireturn, 1))
theorem e_Ds_screen_13 (L : List Value) (v : Int32) (g : px_G) : rn k_Ds_screen 13 L [.int v] g = some (some (.int v), g) := rn_iret dd_Ds_screen_13 rfl
theorem dd_Ds_screen_14 : decode (px_rw k_Ds_screen).2.1 14 = .ok (.iload_n 2, 1) := (by decide +kernel : decode prog_1_method_33_code 14 = .ok (.iload_n 2, 1))
theorem e_Ds_screen_14 (a0 a1 a3 a4 a5 a6 a7 : Value) (x : Int32) (st : List Value) (g : px_G) : rn k_Ds_screen 14 [a0, a1, .int x, a3, a4, a5, a6, a7] st g = rn k_Ds_screen 15 [a0, a1, .int x, a3, a4, a5, a6, a7] (.int x :: st) g := rn_next dd_Ds_screen_14 rfl
theorem dd_Ds_screen_15 : decode (px_rw k_Ds_screen).2.1 15 = .ok (.bipush 12, 2) := (by decide +kernel : decode prog_1_method_33_code 15 = .ok (.bipush 12, 2))
theorem e_Ds_screen_15 (L st : List Value) (g : px_G) : rn k_Ds_screen 15 L st g = rn k_Ds_screen 17 L (.int 12 :: st) g := rn_ipush (i := .bipush 12) dd_Ds_screen_15 rfl rfl (by decide)
theorem dd_Ds_screen_17 : decode (px_rw k_Ds_screen).2.1 17 = .ok (.invokestatic 345, 3) := (by decide +kernel : decode prog_1_method_33_code 17 = .ok (.invokestatic 345, 3))
theorem e_Ds_screen_17 (L : List Value) (i0 : Int32) (i1 : Int32) (g : px_G) : rn k_Ds_screen 17 L [.int i1, .int i0] g = bd (cl k_Ds_isWithin [.int i0, .int i1] g) (fun r g' => rn k_Ds_screen 20 L (r.toList ++ []) g') := rn_callS (As := [.int i0, .int i1]) (rest := []) dd_Ds_screen_17 rfl (by decide) rfl rfl (Nat.le_of_ble_eq_true rfl) (Nat.le_of_ble_eq_true rfl)
theorem dd_Ds_screen_20 : decode (px_rw k_Ds_screen).2.1 20 = .ok (.ifCond .eq 47, 3) := (by decide +kernel : decode prog_1_method_33_code 20 = .ok (.ifCond .eq 47, 3))
theorem e_Ds_screen_20 (L : List Value) (x : Int32) (st : List Value) (g : px_G) : rn k_Ds_screen 20 L (.int x :: st) g = if x = 0 then rn k_Ds_screen 67 L st g else rn k_Ds_screen 23 L st g := rn_ifeq dd_Ds_screen_20 (by decide)
theorem dd_Ds_screen_23 : decode (px_rw k_Ds_screen).2.1 23 = .ok (.iload_n 3, 1) := (by decide +kernel : decode prog_1_method_33_code 23 = .ok (.iload_n 3, 1))
theorem e_Ds_screen_23 (a0 a1 a2 a4 a5 a6 a7 : Value) (x : Int32) (st : List Value) (g : px_G) : rn k_Ds_screen 23 [a0, a1, a2, .int x, a4, a5, a6, a7] st g = rn k_Ds_screen 24 [a0, a1, a2, .int x, a4, a5, a6, a7] (.int x :: st) g := rn_next dd_Ds_screen_23 rfl
theorem dd_Ds_screen_24 : decode (px_rw k_Ds_screen).2.1 24 = .ok (.bipush 12, 2) := (by decide +kernel : decode prog_1_method_33_code 24 = .ok (.bipush 12, 2))
theorem e_Ds_screen_24 (L st : List Value) (g : px_G) : rn k_Ds_screen 24 L st g = rn k_Ds_screen 26 L (.int 12 :: st) g := rn_ipush (i := .bipush 12) dd_Ds_screen_24 rfl rfl (by decide)
theorem dd_Ds_screen_26 : decode (px_rw k_Ds_screen).2.1 26 = .ok (.invokestatic 345, 3) := (by decide +kernel : decode prog_1_method_33_code 26 = .ok (.invokestatic 345, 3))
theorem e_Ds_screen_26 (L : List Value) (i0 : Int32) (i1 : Int32) (g : px_G) : rn k_Ds_screen 26 L [.int i1, .int i0] g = bd (cl k_Ds_isWithin [.int i0, .int i1] g) (fun r g' => rn k_Ds_screen 29 L (r.toList ++ []) g') := rn_callS (As := [.int i0, .int i1]) (rest := []) dd_Ds_screen_26 rfl (by decide) rfl rfl (Nat.le_of_ble_eq_true rfl) (Nat.le_of_ble_eq_true rfl)
theorem dd_Ds_screen_29 : decode (px_rw k_Ds_screen).2.1 29 = .ok (.ifCond .eq 38, 3) := (by decide +kernel : decode prog_1_method_33_code 29 = .ok (.ifCond .eq 38, 3))
theorem e_Ds_screen_29 (L : List Value) (x : Int32) (st : List Value) (g : px_G) : rn k_Ds_screen 29 L (.int x :: st) g = if x = 0 then rn k_Ds_screen 67 L st g else rn k_Ds_screen 32 L st g := rn_ifeq dd_Ds_screen_29 (by decide)
theorem dd_Ds_screen_32 : decode (px_rw k_Ds_screen).2.1 32 = .ok (.iload 4, 2) := (by decide +kernel : decode prog_1_method_33_code 32 = .ok (.iload 4, 2))
theorem e_Ds_screen_32 (a0 a1 a2 a3 a5 a6 a7 : Value) (x : Int32) (st : List Value) (g : px_G) : rn k_Ds_screen 32 [a0, a1, a2, a3, .int x, a5, a6, a7] st g = rn k_Ds_screen 34 [a0, a1, a2, a3, .int x, a5, a6, a7] (.int x :: st) g := rn_next dd_Ds_screen_32 rfl
theorem dd_Ds_screen_34 : decode (px_rw k_Ds_screen).2.1 34 = .ok (.bipush 12, 2) := (by decide +kernel : decode prog_1_method_33_code 34 = .ok (.bipush 12, 2))
theorem e_Ds_screen_34 (L st : List Value) (g : px_G) : rn k_Ds_screen 34 L st g = rn k_Ds_screen 36 L (.int 12 :: st) g := rn_ipush (i := .bipush 12) dd_Ds_screen_34 rfl rfl (by decide)
theorem dd_Ds_screen_36 : decode (px_rw k_Ds_screen).2.1 36 = .ok (.invokestatic 345, 3) := (by decide +kernel : decode prog_1_method_33_code 36 = .ok (.invokestatic 345, 3))
theorem e_Ds_screen_36 (L : List Value) (i0 : Int32) (i1 : Int32) (g : px_G) : rn k_Ds_screen 36 L [.int i1, .int i0] g = bd (cl k_Ds_isWithin [.int i0, .int i1] g) (fun r g' => rn k_Ds_screen 39 L (r.toList ++ []) g') := rn_callS (As := [.int i0, .int i1]) (rest := []) dd_Ds_screen_36 rfl (by decide) rfl rfl (Nat.le_of_ble_eq_true rfl) (Nat.le_of_ble_eq_true rfl)
theorem dd_Ds_screen_39 : decode (px_rw k_Ds_screen).2.1 39 = .ok (.ifCond .eq 28, 3) := (by decide +kernel : decode prog_1_method_33_code 39 = .ok (.ifCond .eq 28, 3))
theorem e_Ds_screen_39 (L : List Value) (x : Int32) (st : List Value) (g : px_G) : rn k_Ds_screen 39 L (.int x :: st) g = if x = 0 then rn k_Ds_screen 67 L st g else rn k_Ds_screen 42 L st g := rn_ifeq dd_Ds_screen_39 (by decide)
theorem dd_Ds_screen_42 : decode (px_rw k_Ds_screen).2.1 42 = .ok (.iload 5, 2) := (by decide +kernel : decode prog_1_method_33_code 42 = .ok (.iload 5, 2))
theorem e_Ds_screen_42 (a0 a1 a2 a3 a4 a6 a7 : Value) (x : Int32) (st : List Value) (g : px_G) : rn k_Ds_screen 42 [a0, a1, a2, a3, a4, .int x, a6, a7] st g = rn k_Ds_screen 44 [a0, a1, a2, a3, a4, .int x, a6, a7] (.int x :: st) g := rn_next dd_Ds_screen_42 rfl
theorem dd_Ds_screen_44 : decode (px_rw k_Ds_screen).2.1 44 = .ok (.bipush 12, 2) := (by decide +kernel : decode prog_1_method_33_code 44 = .ok (.bipush 12, 2))
theorem e_Ds_screen_44 (L st : List Value) (g : px_G) : rn k_Ds_screen 44 L st g = rn k_Ds_screen 46 L (.int 12 :: st) g := rn_ipush (i := .bipush 12) dd_Ds_screen_44 rfl rfl (by decide)
theorem dd_Ds_screen_46 : decode (px_rw k_Ds_screen).2.1 46 = .ok (.invokestatic 345, 3) := (by decide +kernel : decode prog_1_method_33_code 46 = .ok (.invokestatic 345, 3))
theorem e_Ds_screen_46 (L : List Value) (i0 : Int32) (i1 : Int32) (g : px_G) : rn k_Ds_screen 46 L [.int i1, .int i0] g = bd (cl k_Ds_isWithin [.int i0, .int i1] g) (fun r g' => rn k_Ds_screen 49 L (r.toList ++ []) g') := rn_callS (As := [.int i0, .int i1]) (rest := []) dd_Ds_screen_46 rfl (by decide) rfl rfl (Nat.le_of_ble_eq_true rfl) (Nat.le_of_ble_eq_true rfl)
theorem dd_Ds_screen_49 : decode (px_rw k_Ds_screen).2.1 49 = .ok (.ifCond .eq 18, 3) := (by decide +kernel : decode prog_1_method_33_code 49 = .ok (.ifCond .eq 18, 3))
theorem e_Ds_screen_49 (L : List Value) (x : Int32) (st : List Value) (g : px_G) : rn k_Ds_screen 49 L (.int x :: st) g = if x = 0 then rn k_Ds_screen 67 L st g else rn k_Ds_screen 52 L st g := rn_ifeq dd_Ds_screen_49 (by decide)
theorem dd_Ds_screen_52 : decode (px_rw k_Ds_screen).2.1 52 = .ok (.iload_n 2, 1) := (by decide +kernel : decode prog_1_method_33_code 52 = .ok (.iload_n 2, 1))
theorem e_Ds_screen_52 (a0 a1 a3 a4 a5 a6 a7 : Value) (x : Int32) (st : List Value) (g : px_G) : rn k_Ds_screen 52 [a0, a1, .int x, a3, a4, a5, a6, a7] st g = rn k_Ds_screen 53 [a0, a1, .int x, a3, a4, a5, a6, a7] (.int x :: st) g := rn_next dd_Ds_screen_52 rfl
theorem dd_Ds_screen_53 : decode (px_rw k_Ds_screen).2.1 53 = .ok (.iload 5, 2) := (by decide +kernel : decode prog_1_method_33_code 53 = .ok (.iload 5, 2))
theorem e_Ds_screen_53 (a0 a1 a2 a3 a4 a6 a7 : Value) (x : Int32) (st : List Value) (g : px_G) : rn k_Ds_screen 53 [a0, a1, a2, a3, a4, .int x, a6, a7] st g = rn k_Ds_screen 55 [a0, a1, a2, a3, a4, .int x, a6, a7] (.int x :: st) g := rn_next dd_Ds_screen_53 rfl
theorem dd_Ds_screen_55 : decode (px_rw k_Ds_screen).2.1 55 = .ok (.imul, 1) := (by decide +kernel : decode prog_1_method_33_code 55 = .ok (.imul, 1))
theorem e_Ds_screen_55 (L : List Value) (x y : Int32) (st : List Value) (g : px_G) : rn k_Ds_screen 55 L (.int y :: .int x :: st) g = rn k_Ds_screen 56 L (.int (x * y) :: st) g := rn_next dd_Ds_screen_55 rfl
theorem dd_Ds_screen_56 : decode (px_rw k_Ds_screen).2.1 56 = .ok (.iload_n 3, 1) := (by decide +kernel : decode prog_1_method_33_code 56 = .ok (.iload_n 3, 1))
theorem e_Ds_screen_56 (a0 a1 a2 a4 a5 a6 a7 : Value) (x : Int32) (st : List Value) (g : px_G) : rn k_Ds_screen 56 [a0, a1, a2, .int x, a4, a5, a6, a7] st g = rn k_Ds_screen 57 [a0, a1, a2, .int x, a4, a5, a6, a7] (.int x :: st) g := rn_next dd_Ds_screen_56 rfl
theorem dd_Ds_screen_57 : decode (px_rw k_Ds_screen).2.1 57 = .ok (.iload 4, 2) := (by decide +kernel : decode prog_1_method_33_code 57 = .ok (.iload 4, 2))
theorem e_Ds_screen_57 (a0 a1 a2 a3 a5 a6 a7 : Value) (x : Int32) (st : List Value) (g : px_G) : rn k_Ds_screen 57 [a0, a1, a2, a3, .int x, a5, a6, a7] st g = rn k_Ds_screen 59 [a0, a1, a2, a3, .int x, a5, a6, a7] (.int x :: st) g := rn_next dd_Ds_screen_57 rfl
theorem dd_Ds_screen_59 : decode (px_rw k_Ds_screen).2.1 59 = .ok (.imul, 1) := (by decide +kernel : decode prog_1_method_33_code 59 = .ok (.imul, 1))
theorem e_Ds_screen_59 (L : List Value) (x y : Int32) (st : List Value) (g : px_G) : rn k_Ds_screen 59 L (.int y :: .int x :: st) g = rn k_Ds_screen 60 L (.int (x * y) :: st) g := rn_next dd_Ds_screen_59 rfl
theorem dd_Ds_screen_60 : decode (px_rw k_Ds_screen).2.1 60 = .ok (.isub, 1) := (by decide +kernel : decode prog_1_method_33_code 60 = .ok (.isub, 1))
theorem e_Ds_screen_60 (L : List Value) (x y : Int32) (st : List Value) (g : px_G) : rn k_Ds_screen 60 L (.int y :: .int x :: st) g = rn k_Ds_screen 61 L (.int (x - y) :: st) g := rn_next dd_Ds_screen_60 rfl
theorem dd_Ds_screen_61 : decode (px_rw k_Ds_screen).2.1 61 = .ok (.invokestatic 109, 3) := (by decide +kernel : decode prog_1_method_33_code 61 = .ok (.invokestatic 109, 3))
theorem e_Ds_screen_61 (L : List Value) (i0 : Int32) (g : px_G) : rn k_Ds_screen 61 L [.int i0] g = bd (cl k_Ds_isCell [.int i0] g) (fun r g' => rn k_Ds_screen 64 L (r.toList ++ []) g') := rn_callS (As := [.int i0]) (rest := []) dd_Ds_screen_61 rfl (by decide) rfl rfl (Nat.le_of_ble_eq_true rfl) (Nat.le_of_ble_eq_true rfl)
theorem dd_Ds_screen_64 : decode (px_rw k_Ds_screen).2.1 64 = .ok (.ifCond .ne 9, 3) := (by decide +kernel : decode prog_1_method_33_code 64 = .ok (.ifCond .ne 9, 3))
theorem e_Ds_screen_64 (L : List Value) (x : Int32) (st : List Value) (g : px_G) : rn k_Ds_screen 64 L (.int x :: st) g = if x = 0 then rn k_Ds_screen 67 L st g else rn k_Ds_screen 73 L st g := rn_ifne dd_Ds_screen_64 (by decide)
theorem dd_Ds_screen_67 : decode (px_rw k_Ds_screen).2.1 67 = .ok (.aload_n 0, 1) := (by decide +kernel : decode prog_1_method_33_code 67 = .ok (.aload_n 0, 1))
theorem e_Ds_screen_67 (a1 a2 a3 a4 a5 a6 a7 : Value) (x : Nat) (st : List Value) (g : px_G) : rn k_Ds_screen 67 [.ref x, a1, a2, a3, a4, a5, a6, a7] st g = rn k_Ds_screen 68 [.ref x, a1, a2, a3, a4, a5, a6, a7] (.ref x :: st) g := rn_next dd_Ds_screen_67 rfl
theorem dd_Ds_screen_68 : decode (px_rw k_Ds_screen).2.1 68 = .ok (.iconst 1, 1) := (by decide +kernel : decode prog_1_method_33_code 68 = .ok (.iconst 1, 1))
theorem e_Ds_screen_68 (L st : List Value) (g : px_G) : rn k_Ds_screen 68 L st g = rn k_Ds_screen 69 L (.int 1 :: st) g := rn_ipush (i := .iconst 1) dd_Ds_screen_68 rfl rfl (by decide)
theorem dd_Ds_screen_69 : decode (px_rw k_Ds_screen).2.1 69 = .ok (.invokevirtual 342, 3) := (by decide +kernel : decode prog_1_method_33_code 69 = .ok (.invokevirtual 342, 3))
theorem e_Ds_screen_69 (L : List Value) (i0 : Int32)  (T : TS)  : rn k_Ds_screen 69 L [.int i0, .ref 0] (enc T) = bd (cl k_Ds_refuse [.ref 0, .int i0] (enc T)) (fun r g' => rn k_Ds_screen 72 L (r.toList ++ []) g') := rn_callV (n := 13) (As := [.int i0]) (rest := []) dd_Ds_screen_69 rfl (by decide) (by decide) rfl rfl (Nat.le_of_ble_eq_true rfl) (Nat.le_of_ble_eq_true rfl) rfl
theorem dd_Ds_screen_72 : decode (px_rw k_Ds_screen).2.1 72 = .ok (.ireturn, 1) := (by decide +kernel : decode prog_1_method_33_code 72 = .ok (.ireturn, 1))
theorem e_Ds_screen_72 (L : List Value) (v : Int32) (g : px_G) : rn k_Ds_screen 72 L [.int v] g = some (some (.int v), g) := rn_iret dd_Ds_screen_72 rfl
theorem dd_Ds_screen_73 : decode (px_rw k_Ds_screen).2.1 73 = .ok (.aload_n 0, 1) := (by decide +kernel : decode prog_1_method_33_code 73 = .ok (.aload_n 0, 1))
theorem e_Ds_screen_73 (a1 a2 a3 a4 a5 a6 a7 : Value) (x : Nat) (st : List Value) (g : px_G) : rn k_Ds_screen 73 [.ref x, a1, a2, a3, a4, a5, a6, a7] st g = rn k_Ds_screen 74 [.ref x, a1, a2, a3, a4, a5, a6, a7] (.ref x :: st) g := rn_next dd_Ds_screen_73 rfl
theorem dd_Ds_screen_74 : decode (px_rw k_Ds_screen).2.1 74 = .ok (.getfield 27, 3) := (by decide +kernel : decode prog_1_method_33_code 74 = .ok (.getfield 27, 3))
theorem e_Ds_screen_74 (L st : List Value) (T : TS) : rn k_Ds_screen 74 L (.ref 0 :: st) (enc T) = rn k_Ds_screen 77 L (.ref 5 :: st) (enc T) := rn_getA (n := 13) dd_Ds_screen_74 rfl (by decide) (by decide) (by decide) rfl rfl
theorem dd_Ds_screen_77 : decode (px_rw k_Ds_screen).2.1 77 = .ok (.iload_n 1, 1) := (by decide +kernel : decode prog_1_method_33_code 77 = .ok (.iload_n 1, 1))
theorem e_Ds_screen_77 (a0 a2 a3 a4 a5 a6 a7 : Value) (x : Int32) (st : List Value) (g : px_G) : rn k_Ds_screen 77 [a0, .int x, a2, a3, a4, a5, a6, a7] st g = rn k_Ds_screen 78 [a0, .int x, a2, a3, a4, a5, a6, a7] (.int x :: st) g := rn_next dd_Ds_screen_77 rfl
theorem dd_Ds_screen_78 : decode (px_rw k_Ds_screen).2.1 78 = .ok (.aaload, 1) := (by decide +kernel : decode prog_1_method_33_code 78 = .ok (.aaload, 1))
theorem e_Ds_screen_78 (L : List Value) (i : Int32) (p : Nat) (st : List Value) (T : TS) (hp : (sh p).1 = 3) : rn k_Ds_screen 78 L (.int i :: .ref p :: st) (enc T) = if px_in i (sh p).2 then rn k_Ds_screen 79 L (.ref (T.2.2.1 i.toNatClampNeg) :: st) (enc T) else none := rn_aald dd_Ds_screen_78 (Prod.ext hp rfl)
theorem dd_Ds_screen_79 : decode (px_rw k_Ds_screen).2.1 79 = .ok (.astore 6, 2) := (by decide +kernel : decode prog_1_method_33_code 79 = .ok (.astore 6, 2))
theorem e_Ds_screen_79 (a0 a1 a2 a3 a4 a5 a6 a7 : Value) (x : Nat) (st : List Value) (g : px_G) : rn k_Ds_screen 79 [a0, a1, a2, a3, a4, a5, a6, a7] (.ref x :: st) g = rn k_Ds_screen 81 [a0, a1, a2, a3, a4, px_kill a5, .ref x, a7] st g := rn_next dd_Ds_screen_79 rfl
theorem dd_Ds_screen_81 : decode (px_rw k_Ds_screen).2.1 81 = .ok (.aload 6, 2) := (by decide +kernel : decode prog_1_method_33_code 81 = .ok (.aload 6, 2))
theorem e_Ds_screen_81 (a0 a1 a2 a3 a4 a5 a7 : Value) (x : Nat) (st : List Value) (g : px_G) : rn k_Ds_screen 81 [a0, a1, a2, a3, a4, a5, .ref x, a7] st g = rn k_Ds_screen 83 [a0, a1, a2, a3, a4, a5, .ref x, a7] (.ref x :: st) g := rn_next dd_Ds_screen_81 rfl
theorem dd_Ds_screen_83 : decode (px_rw k_Ds_screen).2.1 83 = .ok (.getfield 139, 3) := (by decide +kernel : decode prog_1_method_33_code 83 = .ok (.getfield 139, 3))
theorem e_Ds_screen_83 (L : List Value) (p : Nat) (st : List Value) (T : TS) (hp : sh p = (104, 18)) : rn k_Ds_screen 83 L (.ref p :: st) (enc T) = rn k_Ds_screen 86 L (.ref (p + 1) :: st) (enc T) := (rn_getO (n := 18) dd_Ds_screen_83 rfl (by decide) (by decide) (by decide) rfl hp).trans (by rw [ink_rf_0 hp])
theorem dd_Ds_screen_86 : decode (px_rw k_Ds_screen).2.1 86 = .ok (.iload_n 2, 1) := (by decide +kernel : decode prog_1_method_33_code 86 = .ok (.iload_n 2, 1))
theorem e_Ds_screen_86 (a0 a1 a3 a4 a5 a6 a7 : Value) (x : Int32) (st : List Value) (g : px_G) : rn k_Ds_screen 86 [a0, a1, .int x, a3, a4, a5, a6, a7] st g = rn k_Ds_screen 87 [a0, a1, .int x, a3, a4, a5, a6, a7] (.int x :: st) g := rn_next dd_Ds_screen_86 rfl
theorem dd_Ds_screen_87 : decode (px_rw k_Ds_screen).2.1 87 = .ok (.iload_n 3, 1) := (by decide +kernel : decode prog_1_method_33_code 87 = .ok (.iload_n 3, 1))
theorem e_Ds_screen_87 (a0 a1 a2 a4 a5 a6 a7 : Value) (x : Int32) (st : List Value) (g : px_G) : rn k_Ds_screen 87 [a0, a1, a2, .int x, a4, a5, a6, a7] st g = rn k_Ds_screen 88 [a0, a1, a2, .int x, a4, a5, a6, a7] (.int x :: st) g := rn_next dd_Ds_screen_87 rfl
theorem dd_Ds_screen_88 : decode (px_rw k_Ds_screen).2.1 88 = .ok (.iload 4, 2) := (by decide +kernel : decode prog_1_method_33_code 88 = .ok (.iload 4, 2))
theorem e_Ds_screen_88 (a0 a1 a2 a3 a5 a6 a7 : Value) (x : Int32) (st : List Value) (g : px_G) : rn k_Ds_screen 88 [a0, a1, a2, a3, .int x, a5, a6, a7] st g = rn k_Ds_screen 90 [a0, a1, a2, a3, .int x, a5, a6, a7] (.int x :: st) g := rn_next dd_Ds_screen_88 rfl
theorem dd_Ds_screen_90 : decode (px_rw k_Ds_screen).2.1 90 = .ok (.iload 5, 2) := (by decide +kernel : decode prog_1_method_33_code 90 = .ok (.iload 5, 2))
theorem e_Ds_screen_90 (a0 a1 a2 a3 a4 a6 a7 : Value) (x : Int32) (st : List Value) (g : px_G) : rn k_Ds_screen 90 [a0, a1, a2, a3, a4, .int x, a6, a7] st g = rn k_Ds_screen 92 [a0, a1, a2, a3, a4, .int x, a6, a7] (.int x :: st) g := rn_next dd_Ds_screen_90 rfl
theorem dd_Ds_screen_92 : decode (px_rw k_Ds_screen).2.1 92 = .ok (.invokevirtual 348, 3) := (by decide +kernel : decode prog_1_method_33_code 92 = .ok (.invokevirtual 348, 3))
theorem e_Ds_screen_92 (L : List Value) (i0 : Int32) (i1 : Int32) (i2 : Int32) (i3 : Int32) (p : Nat) (T : TS) (hp : sh p = (107, 4)) : rn k_Ds_screen 92 L [.int i3, .int i2, .int i1, .int i0, .ref p] (enc T) = bd (cl k_Screen_isTold [.ref p, .int i0, .int i1, .int i2, .int i3] (enc T)) (fun r g' => rn k_Ds_screen 95 L (r.toList ++ []) g') := rn_callV (n := 4) (As := [.int i0, .int i1, .int i2, .int i3]) (rest := []) dd_Ds_screen_92 rfl (by decide) (by decide) rfl rfl (Nat.le_of_ble_eq_true rfl) (Nat.le_of_ble_eq_true rfl) hp
theorem dd_Ds_screen_95 : decode (px_rw k_Ds_screen).2.1 95 = .ok (.ifCond .eq 9, 3) := (by decide +kernel : decode prog_1_method_33_code 95 = .ok (.ifCond .eq 9, 3))
theorem e_Ds_screen_95 (L : List Value) (x : Int32) (st : List Value) (g : px_G) : rn k_Ds_screen 95 L (.int x :: st) g = if x = 0 then rn k_Ds_screen 104 L st g else rn k_Ds_screen 98 L st g := rn_ifeq dd_Ds_screen_95 (by decide)
theorem dd_Ds_screen_98 : decode (px_rw k_Ds_screen).2.1 98 = .ok (.aload_n 0, 1) := (by decide +kernel : decode prog_1_method_33_code 98 = .ok (.aload_n 0, 1))
theorem e_Ds_screen_98 (a1 a2 a3 a4 a5 a6 a7 : Value) (x : Nat) (st : List Value) (g : px_G) : rn k_Ds_screen 98 [.ref x, a1, a2, a3, a4, a5, a6, a7] st g = rn k_Ds_screen 99 [.ref x, a1, a2, a3, a4, a5, a6, a7] (.ref x :: st) g := rn_next dd_Ds_screen_98 rfl
theorem dd_Ds_screen_99 : decode (px_rw k_Ds_screen).2.1 99 = .ok (.iconst 2, 1) := (by decide +kernel : decode prog_1_method_33_code 99 = .ok (.iconst 2, 1))
theorem e_Ds_screen_99 (L st : List Value) (g : px_G) : rn k_Ds_screen 99 L st g = rn k_Ds_screen 100 L (.int 2 :: st) g := rn_ipush (i := .iconst 2) dd_Ds_screen_99 rfl rfl (by decide)
theorem dd_Ds_screen_100 : decode (px_rw k_Ds_screen).2.1 100 = .ok (.invokevirtual 342, 3) := (by decide +kernel : decode prog_1_method_33_code 100 = .ok (.invokevirtual 342, 3))
theorem e_Ds_screen_100 (L : List Value) (i0 : Int32)  (T : TS)  : rn k_Ds_screen 100 L [.int i0, .ref 0] (enc T) = bd (cl k_Ds_refuse [.ref 0, .int i0] (enc T)) (fun r g' => rn k_Ds_screen 103 L (r.toList ++ []) g') := rn_callV (n := 13) (As := [.int i0]) (rest := []) dd_Ds_screen_100 rfl (by decide) (by decide) rfl rfl (Nat.le_of_ble_eq_true rfl) (Nat.le_of_ble_eq_true rfl) rfl
theorem dd_Ds_screen_103 : decode (px_rw k_Ds_screen).2.1 103 = .ok (.ireturn, 1) := (by decide +kernel : decode prog_1_method_33_code 103 = .ok (.ireturn, 1))
theorem e_Ds_screen_103 (L : List Value) (v : Int32) (g : px_G) : rn k_Ds_screen 103 L [.int v] g = some (some (.int v), g) := rn_iret dd_Ds_screen_103 rfl
theorem dd_Ds_screen_104 : decode (px_rw k_Ds_screen).2.1 104 = .ok (.aload 6, 2) := (by decide +kernel : decode prog_1_method_33_code 104 = .ok (.aload 6, 2))
theorem e_Ds_screen_104 (a0 a1 a2 a3 a4 a5 a7 : Value) (x : Nat) (st : List Value) (g : px_G) : rn k_Ds_screen 104 [a0, a1, a2, a3, a4, a5, .ref x, a7] st g = rn k_Ds_screen 106 [a0, a1, a2, a3, a4, a5, .ref x, a7] (.ref x :: st) g := rn_next dd_Ds_screen_104 rfl
theorem dd_Ds_screen_106 : decode (px_rw k_Ds_screen).2.1 106 = .ok (.getfield 154, 3) := (by decide +kernel : decode prog_1_method_33_code 106 = .ok (.getfield 154, 3))
theorem e_Ds_screen_106 (L : List Value) (p : Nat) (st : List Value) (T : TS) (hp : sh p = (104, 18)) : rn k_Ds_screen 106 L (.ref p :: st) (enc T) = rn k_Ds_screen 109 L (.int (T.1 p 2) :: st) (enc T) := rn_getI (n := 18) dd_Ds_screen_106 rfl (by decide) (by decide) (by decide) rfl hp
theorem dd_Ds_screen_109 : decode (px_rw k_Ds_screen).2.1 109 = .ok (.istore 7, 2) := (by decide +kernel : decode prog_1_method_33_code 109 = .ok (.istore 7, 2))
theorem e_Ds_screen_109 (a0 a1 a2 a3 a4 a5 a6 a7 : Value) (x : Int32) (st : List Value) (g : px_G) : rn k_Ds_screen 109 [a0, a1, a2, a3, a4, a5, a6, a7] (.int x :: st) g = rn k_Ds_screen 111 [a0, a1, a2, a3, a4, a5, px_kill a6, .int x] st g := rn_next dd_Ds_screen_109 rfl
theorem dd_Ds_screen_111 : decode (px_rw k_Ds_screen).2.1 111 = .ok (.aload 6, 2) := (by decide +kernel : decode prog_1_method_33_code 111 = .ok (.aload 6, 2))
theorem e_Ds_screen_111 (a0 a1 a2 a3 a4 a5 a7 : Value) (x : Nat) (st : List Value) (g : px_G) : rn k_Ds_screen 111 [a0, a1, a2, a3, a4, a5, .ref x, a7] st g = rn k_Ds_screen 113 [a0, a1, a2, a3, a4, a5, .ref x, a7] (.ref x :: st) g := rn_next dd_Ds_screen_111 rfl
theorem dd_Ds_screen_113 : decode (px_rw k_Ds_screen).2.1 113 = .ok (.iload_n 2, 1) := (by decide +kernel : decode prog_1_method_33_code 113 = .ok (.iload_n 2, 1))
theorem e_Ds_screen_113 (a0 a1 a3 a4 a5 a6 a7 : Value) (x : Int32) (st : List Value) (g : px_G) : rn k_Ds_screen 113 [a0, a1, .int x, a3, a4, a5, a6, a7] st g = rn k_Ds_screen 114 [a0, a1, .int x, a3, a4, a5, a6, a7] (.int x :: st) g := rn_next dd_Ds_screen_113 rfl
theorem dd_Ds_screen_114 : decode (px_rw k_Ds_screen).2.1 114 = .ok (.iload_n 3, 1) := (by decide +kernel : decode prog_1_method_33_code 114 = .ok (.iload_n 3, 1))
theorem e_Ds_screen_114 (a0 a1 a2 a4 a5 a6 a7 : Value) (x : Int32) (st : List Value) (g : px_G) : rn k_Ds_screen 114 [a0, a1, a2, .int x, a4, a5, a6, a7] st g = rn k_Ds_screen 115 [a0, a1, a2, .int x, a4, a5, a6, a7] (.int x :: st) g := rn_next dd_Ds_screen_114 rfl
theorem dd_Ds_screen_115 : decode (px_rw k_Ds_screen).2.1 115 = .ok (.iload 4, 2) := (by decide +kernel : decode prog_1_method_33_code 115 = .ok (.iload 4, 2))
theorem e_Ds_screen_115 (a0 a1 a2 a3 a5 a6 a7 : Value) (x : Int32) (st : List Value) (g : px_G) : rn k_Ds_screen 115 [a0, a1, a2, a3, .int x, a5, a6, a7] st g = rn k_Ds_screen 117 [a0, a1, a2, a3, .int x, a5, a6, a7] (.int x :: st) g := rn_next dd_Ds_screen_115 rfl
theorem dd_Ds_screen_117 : decode (px_rw k_Ds_screen).2.1 117 = .ok (.iload 5, 2) := (by decide +kernel : decode prog_1_method_33_code 117 = .ok (.iload 5, 2))
theorem e_Ds_screen_117 (a0 a1 a2 a3 a4 a6 a7 : Value) (x : Int32) (st : List Value) (g : px_G) : rn k_Ds_screen 117 [a0, a1, a2, a3, a4, .int x, a6, a7] st g = rn k_Ds_screen 119 [a0, a1, a2, a3, a4, .int x, a6, a7] (.int x :: st) g := rn_next dd_Ds_screen_117 rfl
theorem dd_Ds_screen_119 : decode (px_rw k_Ds_screen).2.1 119 = .ok (.invokevirtual 113, 3) := (by decide +kernel : decode prog_1_method_33_code 119 = .ok (.invokevirtual 113, 3))
theorem e_Ds_screen_119 (L : List Value) (i0 : Int32) (i1 : Int32) (i2 : Int32) (i3 : Int32) (p : Nat) (T : TS) (hp : sh p = (104, 18)) : rn k_Ds_screen 119 L [.int i3, .int i2, .int i1, .int i0, .ref p] (enc T) = bd (cl k_Ink_takeScreen [.ref p, .int i0, .int i1, .int i2, .int i3] (enc T)) (fun r g' => rn k_Ds_screen 122 L (r.toList ++ []) g') := rn_callV (n := 18) (As := [.int i0, .int i1, .int i2, .int i3]) (rest := []) dd_Ds_screen_119 rfl (by decide) (by decide) rfl rfl (Nat.le_of_ble_eq_true rfl) (Nat.le_of_ble_eq_true rfl) hp
theorem dd_Ds_screen_122 : decode (px_rw k_Ds_screen).2.1 122 = .ok (.iload 7, 2) := (by decide +kernel : decode prog_1_method_33_code 122 = .ok (.iload 7, 2))
theorem e_Ds_screen_122 (a0 a1 a2 a3 a4 a5 a6 : Value) (x : Int32) (st : List Value) (g : px_G) : rn k_Ds_screen 122 [a0, a1, a2, a3, a4, a5, a6, .int x] st g = rn k_Ds_screen 124 [a0, a1, a2, a3, a4, a5, a6, .int x] (.int x :: st) g := rn_next dd_Ds_screen_122 rfl
theorem dd_Ds_screen_124 : decode (px_rw k_Ds_screen).2.1 124 = .ok (.ireturn, 1) := (by decide +kernel : decode prog_1_method_33_code 124 = .ok (.ireturn, 1))
theorem e_Ds_screen_124 (L : List Value) (v : Int32) (g : px_G) : rn k_Ds_screen 124 L [.int v] g = some (some (.int v), g) := rn_iret dd_Ds_screen_124 rfl
theorem c_Ds_refuse (r0 : Nat) (i1 : Int32) (g : px_G) : cl k_Ds_refuse [.ref r0, .int i1] g = rn k_Ds_refuse 0 [.ref r0, .int i1] [] g := rfl
theorem dd_Ds_refuse_0 : decode (px_rw k_Ds_refuse).2.1 0 = .ok (.aload_n 0, 1) := (by decide +kernel : decode prog_1_method_39_code 0 = .ok (.aload_n 0, 1))
theorem e_Ds_refuse_0 (a1 : Value) (x : Nat) (st : List Value) (g : px_G) : rn k_Ds_refuse 0 [.ref x, a1] st g = rn k_Ds_refuse 1 [.ref x, a1] (.ref x :: st) g := rn_next dd_Ds_refuse_0 rfl
theorem dd_Ds_refuse_1 : decode (px_rw k_Ds_refuse).2.1 1 = .ok (.getfield 31, 3) := (by decide +kernel : decode prog_1_method_39_code 1 = .ok (.getfield 31, 3))
theorem e_Ds_refuse_1 (L st : List Value) (T : TS) : rn k_Ds_refuse 1 L (.ref 0 :: st) (enc T) = rn k_Ds_refuse 4 L (.ref 6 :: st) (enc T) := rn_getA (n := 13) dd_Ds_refuse_1 rfl (by decide) (by decide) (by decide) rfl rfl
theorem dd_Ds_refuse_4 : decode (px_rw k_Ds_refuse).2.1 4 = .ok (.iload_n 1, 1) := (by decide +kernel : decode prog_1_method_39_code 4 = .ok (.iload_n 1, 1))
theorem e_Ds_refuse_4 (a0 : Value) (x : Int32) (st : List Value) (g : px_G) : rn k_Ds_refuse 4 [a0, .int x] st g = rn k_Ds_refuse 5 [a0, .int x] (.int x :: st) g := rn_next dd_Ds_refuse_4 rfl
theorem dd_Ds_refuse_5 : decode (px_rw k_Ds_refuse).2.1 5 = .ok (.dup2, 1) := (by decide +kernel : decode prog_1_method_39_code 5 = .ok (.dup2, 1))
theorem e_Ds_refuse_5 (L : List Value) (x : Int32) (p : Nat) (st : List Value) (g : px_G) : rn k_Ds_refuse 5 L (.int x :: .ref p :: st) g = rn k_Ds_refuse 6 L (.int x :: .ref p :: .int x :: .ref p :: st) g := rn_next dd_Ds_refuse_5 rfl
theorem dd_Ds_refuse_6 : decode (px_rw k_Ds_refuse).2.1 6 = .ok (.iaload, 1) := (by decide +kernel : decode prog_1_method_39_code 6 = .ok (.iaload, 1))
theorem e_Ds_refuse_6 (L : List Value) (i : Int32) (p : Nat) (st : List Value) (T : TS) (hp : (sh p).1 = 0) : rn k_Ds_refuse 6 L (.int i :: .ref p :: st) (enc T) = if px_in i (sh p).2 then rn k_Ds_refuse 7 L (.int (T.1 p i.toNatClampNeg) :: st) (enc T) else none := rn_iald dd_Ds_refuse_6 (Prod.ext hp rfl)
theorem dd_Ds_refuse_7 : decode (px_rw k_Ds_refuse).2.1 7 = .ok (.iconst 1, 1) := (by decide +kernel : decode prog_1_method_39_code 7 = .ok (.iconst 1, 1))
theorem e_Ds_refuse_7 (L st : List Value) (g : px_G) : rn k_Ds_refuse 7 L st g = rn k_Ds_refuse 8 L (.int 1 :: st) g := rn_ipush (i := .iconst 1) dd_Ds_refuse_7 rfl rfl (by decide)
theorem dd_Ds_refuse_8 : decode (px_rw k_Ds_refuse).2.1 8 = .ok (.iadd, 1) := (by decide +kernel : decode prog_1_method_39_code 8 = .ok (.iadd, 1))
theorem e_Ds_refuse_8 (L : List Value) (x y : Int32) (st : List Value) (g : px_G) : rn k_Ds_refuse 8 L (.int y :: .int x :: st) g = rn k_Ds_refuse 9 L (.int (x + y) :: st) g := rn_next dd_Ds_refuse_8 rfl
theorem dd_Ds_refuse_9 : decode (px_rw k_Ds_refuse).2.1 9 = .ok (.iastore, 1) := (by decide +kernel : decode prog_1_method_39_code 9 = .ok (.iastore, 1))
theorem e_Ds_refuse_9 (L : List Value) (x : Int32) (i : Int32) (p : Nat) (st : List Value) (T : TS) (hp : (sh p).1 = 0) : rn k_Ds_refuse 9 L (.int x :: .int i :: .ref p :: st) (enc T) = if px_in i (sh p).2 then rn k_Ds_refuse 10 L st (enc (sI T p i.toNatClampNeg x)) else none := rn_iast dd_Ds_refuse_9 (Prod.ext hp rfl)
theorem dd_Ds_refuse_10 : decode (px_rw k_Ds_refuse).2.1 10 = .ok (.iconst (-1), 1) := (by decide +kernel : decode prog_1_method_39_code 10 = .ok (.iconst (-1), 1))
theorem e_Ds_refuse_10 (L st : List Value) (g : px_G) : rn k_Ds_refuse 10 L st g = rn k_Ds_refuse 11 L (.int (-1) :: st) g := rn_ipush (i := .iconst (-1)) dd_Ds_refuse_10 rfl rfl (by decide)
theorem dd_Ds_refuse_11 : decode (px_rw k_Ds_refuse).2.1 11 = .ok (.ireturn, 1) := (by decide +kernel : decode prog_1_method_39_code 11 = .ok (.ireturn, 1))
theorem e_Ds_refuse_11 (L : List Value) (v : Int32) (g : px_G) : rn k_Ds_refuse 11 L [.int v] g = some (some (.int v), g) := rn_iret dd_Ds_refuse_11 rfl
theorem c_Ds_shape (r0 : Nat) (i1 : Int32) (i2 : Int32) (g : px_G) : cl k_Ds_shape [.ref r0, .int i1, .int i2] g = rn k_Ds_shape 0 [.ref r0, .int i1, .int i2, .null] [] g := rfl
theorem dd_Ds_shape_0 : decode (px_rw k_Ds_shape).2.1 0 = .ok (.aload_n 0, 1) := (by decide +kernel : decode prog_1_method_34_code 0 = .ok (.aload_n 0, 1))
theorem e_Ds_shape_0 (a1 a2 a3 : Value) (x : Nat) (st : List Value) (g : px_G) : rn k_Ds_shape 0 [.ref x, a1, a2, a3] st g = rn k_Ds_shape 1 [.ref x, a1, a2, a3] (.ref x :: st) g := rn_next dd_Ds_shape_0 rfl
theorem dd_Ds_shape_1 : decode (px_rw k_Ds_shape).2.1 1 = .ok (.iload_n 1, 1) := (by decide +kernel : decode prog_1_method_34_code 1 = .ok (.iload_n 1, 1))
theorem e_Ds_shape_1 (a0 a2 a3 : Value) (x : Int32) (st : List Value) (g : px_G) : rn k_Ds_shape 1 [a0, .int x, a2, a3] st g = rn k_Ds_shape 2 [a0, .int x, a2, a3] (.int x :: st) g := rn_next dd_Ds_shape_1 rfl
theorem dd_Ds_shape_2 : decode (px_rw k_Ds_shape).2.1 2 = .ok (.invokevirtual 129, 3) := (by decide +kernel : decode prog_1_method_34_code 2 = .ok (.invokevirtual 129, 3))
theorem e_Ds_shape_2 (L : List Value) (i0 : Int32)  (T : TS)  : rn k_Ds_shape 2 L [.int i0, .ref 0] (enc T) = bd (cl k_Ds_isInk [.ref 0, .int i0] (enc T)) (fun r g' => rn k_Ds_shape 5 L (r.toList ++ []) g') := rn_callV (n := 13) (As := [.int i0]) (rest := []) dd_Ds_shape_2 rfl (by decide) (by decide) rfl rfl (Nat.le_of_ble_eq_true rfl) (Nat.le_of_ble_eq_true rfl) rfl
theorem dd_Ds_shape_5 : decode (px_rw k_Ds_shape).2.1 5 = .ok (.ifCond .ne 9, 3) := (by decide +kernel : decode prog_1_method_34_code 5 = .ok (.ifCond .ne 9, 3))
theorem e_Ds_shape_5 (L : List Value) (x : Int32) (st : List Value) (g : px_G) : rn k_Ds_shape 5 L (.int x :: st) g = if x = 0 then rn k_Ds_shape 8 L st g else rn k_Ds_shape 14 L st g := rn_ifne dd_Ds_shape_5 (by decide)
theorem dd_Ds_shape_8 : decode (px_rw k_Ds_shape).2.1 8 = .ok (.aload_n 0, 1) := (by decide +kernel : decode prog_1_method_34_code 8 = .ok (.aload_n 0, 1))
theorem e_Ds_shape_8 (a1 a2 a3 : Value) (x : Nat) (st : List Value) (g : px_G) : rn k_Ds_shape 8 [.ref x, a1, a2, a3] st g = rn k_Ds_shape 9 [.ref x, a1, a2, a3] (.ref x :: st) g := rn_next dd_Ds_shape_8 rfl
theorem dd_Ds_shape_9 : decode (px_rw k_Ds_shape).2.1 9 = .ok (.iconst 0, 1) := (by decide +kernel : decode prog_1_method_34_code 9 = .ok (.iconst 0, 1))
theorem e_Ds_shape_9 (L st : List Value) (g : px_G) : rn k_Ds_shape 9 L st g = rn k_Ds_shape 10 L (.int 0 :: st) g := rn_ipush (i := .iconst 0) dd_Ds_shape_9 rfl rfl (by decide)
theorem dd_Ds_shape_10 : decode (px_rw k_Ds_shape).2.1 10 = .ok (.invokevirtual 342, 3) := (by decide +kernel : decode prog_1_method_34_code 10 = .ok (.invokevirtual 342, 3))
theorem e_Ds_shape_10 (L : List Value) (i0 : Int32)  (T : TS)  : rn k_Ds_shape 10 L [.int i0, .ref 0] (enc T) = bd (cl k_Ds_refuse [.ref 0, .int i0] (enc T)) (fun r g' => rn k_Ds_shape 13 L (r.toList ++ []) g') := rn_callV (n := 13) (As := [.int i0]) (rest := []) dd_Ds_shape_10 rfl (by decide) (by decide) rfl rfl (Nat.le_of_ble_eq_true rfl) (Nat.le_of_ble_eq_true rfl) rfl
theorem dd_Ds_shape_13 : decode (px_rw k_Ds_shape).2.1 13 = .ok (.ireturn, 1) := (by decide +kernel : decode prog_1_method_34_code 13 = .ok (.ireturn, 1))
theorem e_Ds_shape_13 (L : List Value) (v : Int32) (g : px_G) : rn k_Ds_shape 13 L [.int v] g = some (some (.int v), g) := rn_iret dd_Ds_shape_13 rfl
theorem dd_Ds_shape_14 : decode (px_rw k_Ds_shape).2.1 14 = .ok (.iload_n 2, 1) := (by decide +kernel : decode prog_1_method_34_code 14 = .ok (.iload_n 2, 1))
theorem e_Ds_shape_14 (a0 a1 a3 : Value) (x : Int32) (st : List Value) (g : px_G) : rn k_Ds_shape 14 [a0, a1, .int x, a3] st g = rn k_Ds_shape 15 [a0, a1, .int x, a3] (.int x :: st) g := rn_next dd_Ds_shape_14 rfl
theorem dd_Ds_shape_15 : decode (px_rw k_Ds_shape).2.1 15 = .ok (.ifCond .lt 8, 3) := (by decide +kernel : decode prog_1_method_34_code 15 = .ok (.ifCond .lt 8, 3))
theorem e_Ds_shape_15 (L : List Value) (x : Int32) (st : List Value) (g : px_G) : rn k_Ds_shape 15 L (.int x :: st) g = if x < 0 then rn k_Ds_shape 23 L st g else rn k_Ds_shape 18 L st g := rn_iflt dd_Ds_shape_15 (by decide)
theorem dd_Ds_shape_18 : decode (px_rw k_Ds_shape).2.1 18 = .ok (.iload_n 2, 1) := (by decide +kernel : decode prog_1_method_34_code 18 = .ok (.iload_n 2, 1))
theorem e_Ds_shape_18 (a0 a1 a3 : Value) (x : Int32) (st : List Value) (g : px_G) : rn k_Ds_shape 18 [a0, a1, .int x, a3] st g = rn k_Ds_shape 19 [a0, a1, .int x, a3] (.int x :: st) g := rn_next dd_Ds_shape_18 rfl
theorem dd_Ds_shape_19 : decode (px_rw k_Ds_shape).2.1 19 = .ok (.iconst 2, 1) := (by decide +kernel : decode prog_1_method_34_code 19 = .ok (.iconst 2, 1))
theorem e_Ds_shape_19 (L st : List Value) (g : px_G) : rn k_Ds_shape 19 L st g = rn k_Ds_shape 20 L (.int 2 :: st) g := rn_ipush (i := .iconst 2) dd_Ds_shape_19 rfl rfl (by decide)
theorem dd_Ds_shape_20 : decode (px_rw k_Ds_shape).2.1 20 = .ok (.if_icmp .le 9, 3) := (by decide +kernel : decode prog_1_method_34_code 20 = .ok (.if_icmp .le 9, 3))
theorem e_Ds_shape_20 (L : List Value) (x y : Int32) (st : List Value) (g : px_G) : rn k_Ds_shape 20 L (.int y :: .int x :: st) g = if x ≤ y then rn k_Ds_shape 29 L st g else rn k_Ds_shape 23 L st g := rn_icle dd_Ds_shape_20 (by decide)
theorem dd_Ds_shape_23 : decode (px_rw k_Ds_shape).2.1 23 = .ok (.aload_n 0, 1) := (by decide +kernel : decode prog_1_method_34_code 23 = .ok (.aload_n 0, 1))
theorem e_Ds_shape_23 (a1 a2 a3 : Value) (x : Nat) (st : List Value) (g : px_G) : rn k_Ds_shape 23 [.ref x, a1, a2, a3] st g = rn k_Ds_shape 24 [.ref x, a1, a2, a3] (.ref x :: st) g := rn_next dd_Ds_shape_23 rfl
theorem dd_Ds_shape_24 : decode (px_rw k_Ds_shape).2.1 24 = .ok (.iconst 1, 1) := (by decide +kernel : decode prog_1_method_34_code 24 = .ok (.iconst 1, 1))
theorem e_Ds_shape_24 (L st : List Value) (g : px_G) : rn k_Ds_shape 24 L st g = rn k_Ds_shape 25 L (.int 1 :: st) g := rn_ipush (i := .iconst 1) dd_Ds_shape_24 rfl rfl (by decide)
theorem dd_Ds_shape_25 : decode (px_rw k_Ds_shape).2.1 25 = .ok (.invokevirtual 342, 3) := (by decide +kernel : decode prog_1_method_34_code 25 = .ok (.invokevirtual 342, 3))
theorem e_Ds_shape_25 (L : List Value) (i0 : Int32)  (T : TS)  : rn k_Ds_shape 25 L [.int i0, .ref 0] (enc T) = bd (cl k_Ds_refuse [.ref 0, .int i0] (enc T)) (fun r g' => rn k_Ds_shape 28 L (r.toList ++ []) g') := rn_callV (n := 13) (As := [.int i0]) (rest := []) dd_Ds_shape_25 rfl (by decide) (by decide) rfl rfl (Nat.le_of_ble_eq_true rfl) (Nat.le_of_ble_eq_true rfl) rfl
theorem dd_Ds_shape_28 : decode (px_rw k_Ds_shape).2.1 28 = .ok (.ireturn, 1) := (by decide +kernel : decode prog_1_method_34_code 28 = .ok (.ireturn, 1))
theorem e_Ds_shape_28 (L : List Value) (v : Int32) (g : px_G) : rn k_Ds_shape 28 L [.int v] g = some (some (.int v), g) := rn_iret dd_Ds_shape_28 rfl
theorem dd_Ds_shape_29 : decode (px_rw k_Ds_shape).2.1 29 = .ok (.aload_n 0, 1) := (by decide +kernel : decode prog_1_method_34_code 29 = .ok (.aload_n 0, 1))
theorem e_Ds_shape_29 (a1 a2 a3 : Value) (x : Nat) (st : List Value) (g : px_G) : rn k_Ds_shape 29 [.ref x, a1, a2, a3] st g = rn k_Ds_shape 30 [.ref x, a1, a2, a3] (.ref x :: st) g := rn_next dd_Ds_shape_29 rfl
theorem dd_Ds_shape_30 : decode (px_rw k_Ds_shape).2.1 30 = .ok (.getfield 27, 3) := (by decide +kernel : decode prog_1_method_34_code 30 = .ok (.getfield 27, 3))
theorem e_Ds_shape_30 (L st : List Value) (T : TS) : rn k_Ds_shape 30 L (.ref 0 :: st) (enc T) = rn k_Ds_shape 33 L (.ref 5 :: st) (enc T) := rn_getA (n := 13) dd_Ds_shape_30 rfl (by decide) (by decide) (by decide) rfl rfl
theorem dd_Ds_shape_33 : decode (px_rw k_Ds_shape).2.1 33 = .ok (.iload_n 1, 1) := (by decide +kernel : decode prog_1_method_34_code 33 = .ok (.iload_n 1, 1))
theorem e_Ds_shape_33 (a0 a2 a3 : Value) (x : Int32) (st : List Value) (g : px_G) : rn k_Ds_shape 33 [a0, .int x, a2, a3] st g = rn k_Ds_shape 34 [a0, .int x, a2, a3] (.int x :: st) g := rn_next dd_Ds_shape_33 rfl
theorem dd_Ds_shape_34 : decode (px_rw k_Ds_shape).2.1 34 = .ok (.aaload, 1) := (by decide +kernel : decode prog_1_method_34_code 34 = .ok (.aaload, 1))
theorem e_Ds_shape_34 (L : List Value) (i : Int32) (p : Nat) (st : List Value) (T : TS) (hp : (sh p).1 = 3) : rn k_Ds_shape 34 L (.int i :: .ref p :: st) (enc T) = if px_in i (sh p).2 then rn k_Ds_shape 35 L (.ref (T.2.2.1 i.toNatClampNeg) :: st) (enc T) else none := rn_aald dd_Ds_shape_34 (Prod.ext hp rfl)
theorem dd_Ds_shape_35 : decode (px_rw k_Ds_shape).2.1 35 = .ok (.getfield 157, 3) := (by decide +kernel : decode prog_1_method_34_code 35 = .ok (.getfield 157, 3))
theorem e_Ds_shape_35 (L : List Value) (p : Nat) (st : List Value) (T : TS) (hp : sh p = (104, 18)) : rn k_Ds_shape 35 L (.ref p :: st) (enc T) = rn k_Ds_shape 38 L (.int (T.1 p 3) :: st) (enc T) := rn_getI (n := 18) dd_Ds_shape_35 rfl (by decide) (by decide) (by decide) rfl hp
theorem dd_Ds_shape_38 : decode (px_rw k_Ds_shape).2.1 38 = .ok (.istore_n 3, 1) := (by decide +kernel : decode prog_1_method_34_code 38 = .ok (.istore_n 3, 1))
theorem e_Ds_shape_38 (a0 a1 a2 a3 : Value) (x : Int32) (st : List Value) (g : px_G) : rn k_Ds_shape 38 [a0, a1, a2, a3] (.int x :: st) g = rn k_Ds_shape 39 [a0, a1, px_kill a2, .int x] st g := rn_next dd_Ds_shape_38 rfl
theorem dd_Ds_shape_39 : decode (px_rw k_Ds_shape).2.1 39 = .ok (.iload_n 3, 1) := (by decide +kernel : decode prog_1_method_34_code 39 = .ok (.iload_n 3, 1))
theorem e_Ds_shape_39 (a0 a1 a2 : Value) (x : Int32) (st : List Value) (g : px_G) : rn k_Ds_shape 39 [a0, a1, a2, .int x] st g = rn k_Ds_shape 40 [a0, a1, a2, .int x] (.int x :: st) g := rn_next dd_Ds_shape_39 rfl
theorem dd_Ds_shape_40 : decode (px_rw k_Ds_shape).2.1 40 = .ok (.iload_n 2, 1) := (by decide +kernel : decode prog_1_method_34_code 40 = .ok (.iload_n 2, 1))
theorem e_Ds_shape_40 (a0 a1 a3 : Value) (x : Int32) (st : List Value) (g : px_G) : rn k_Ds_shape 40 [a0, a1, .int x, a3] st g = rn k_Ds_shape 41 [a0, a1, .int x, a3] (.int x :: st) g := rn_next dd_Ds_shape_40 rfl
theorem dd_Ds_shape_41 : decode (px_rw k_Ds_shape).2.1 41 = .ok (.if_icmp .ne 9, 3) := (by decide +kernel : decode prog_1_method_34_code 41 = .ok (.if_icmp .ne 9, 3))
theorem e_Ds_shape_41 (L : List Value) (x y : Int32) (st : List Value) (g : px_G) : rn k_Ds_shape 41 L (.int y :: .int x :: st) g = if x = y then rn k_Ds_shape 44 L st g else rn k_Ds_shape 50 L st g := rn_icne dd_Ds_shape_41 (by decide)
theorem dd_Ds_shape_44 : decode (px_rw k_Ds_shape).2.1 44 = .ok (.aload_n 0, 1) := (by decide +kernel : decode prog_1_method_34_code 44 = .ok (.aload_n 0, 1))
theorem e_Ds_shape_44 (a1 a2 a3 : Value) (x : Nat) (st : List Value) (g : px_G) : rn k_Ds_shape 44 [.ref x, a1, a2, a3] st g = rn k_Ds_shape 45 [.ref x, a1, a2, a3] (.ref x :: st) g := rn_next dd_Ds_shape_44 rfl
theorem dd_Ds_shape_45 : decode (px_rw k_Ds_shape).2.1 45 = .ok (.iconst 2, 1) := (by decide +kernel : decode prog_1_method_34_code 45 = .ok (.iconst 2, 1))
theorem e_Ds_shape_45 (L st : List Value) (g : px_G) : rn k_Ds_shape 45 L st g = rn k_Ds_shape 46 L (.int 2 :: st) g := rn_ipush (i := .iconst 2) dd_Ds_shape_45 rfl rfl (by decide)
theorem dd_Ds_shape_46 : decode (px_rw k_Ds_shape).2.1 46 = .ok (.invokevirtual 342, 3) := (by decide +kernel : decode prog_1_method_34_code 46 = .ok (.invokevirtual 342, 3))
theorem e_Ds_shape_46 (L : List Value) (i0 : Int32)  (T : TS)  : rn k_Ds_shape 46 L [.int i0, .ref 0] (enc T) = bd (cl k_Ds_refuse [.ref 0, .int i0] (enc T)) (fun r g' => rn k_Ds_shape 49 L (r.toList ++ []) g') := rn_callV (n := 13) (As := [.int i0]) (rest := []) dd_Ds_shape_46 rfl (by decide) (by decide) rfl rfl (Nat.le_of_ble_eq_true rfl) (Nat.le_of_ble_eq_true rfl) rfl
theorem dd_Ds_shape_49 : decode (px_rw k_Ds_shape).2.1 49 = .ok (.ireturn, 1) := (by decide +kernel : decode prog_1_method_34_code 49 = .ok (.ireturn, 1))
theorem e_Ds_shape_49 (L : List Value) (v : Int32) (g : px_G) : rn k_Ds_shape 49 L [.int v] g = some (some (.int v), g) := rn_iret dd_Ds_shape_49 rfl
theorem dd_Ds_shape_50 : decode (px_rw k_Ds_shape).2.1 50 = .ok (.aload_n 0, 1) := (by decide +kernel : decode prog_1_method_34_code 50 = .ok (.aload_n 0, 1))
theorem e_Ds_shape_50 (a1 a2 a3 : Value) (x : Nat) (st : List Value) (g : px_G) : rn k_Ds_shape 50 [.ref x, a1, a2, a3] st g = rn k_Ds_shape 51 [.ref x, a1, a2, a3] (.ref x :: st) g := rn_next dd_Ds_shape_50 rfl
theorem dd_Ds_shape_51 : decode (px_rw k_Ds_shape).2.1 51 = .ok (.getfield 27, 3) := (by decide +kernel : decode prog_1_method_34_code 51 = .ok (.getfield 27, 3))
theorem e_Ds_shape_51 (L st : List Value) (T : TS) : rn k_Ds_shape 51 L (.ref 0 :: st) (enc T) = rn k_Ds_shape 54 L (.ref 5 :: st) (enc T) := rn_getA (n := 13) dd_Ds_shape_51 rfl (by decide) (by decide) (by decide) rfl rfl
theorem dd_Ds_shape_54 : decode (px_rw k_Ds_shape).2.1 54 = .ok (.iload_n 1, 1) := (by decide +kernel : decode prog_1_method_34_code 54 = .ok (.iload_n 1, 1))
theorem e_Ds_shape_54 (a0 a2 a3 : Value) (x : Int32) (st : List Value) (g : px_G) : rn k_Ds_shape 54 [a0, .int x, a2, a3] st g = rn k_Ds_shape 55 [a0, .int x, a2, a3] (.int x :: st) g := rn_next dd_Ds_shape_54 rfl
theorem dd_Ds_shape_55 : decode (px_rw k_Ds_shape).2.1 55 = .ok (.aaload, 1) := (by decide +kernel : decode prog_1_method_34_code 55 = .ok (.aaload, 1))
theorem e_Ds_shape_55 (L : List Value) (i : Int32) (p : Nat) (st : List Value) (T : TS) (hp : (sh p).1 = 3) : rn k_Ds_shape 55 L (.int i :: .ref p :: st) (enc T) = if px_in i (sh p).2 then rn k_Ds_shape 56 L (.ref (T.2.2.1 i.toNatClampNeg) :: st) (enc T) else none := rn_aald dd_Ds_shape_55 (Prod.ext hp rfl)
theorem dd_Ds_shape_56 : decode (px_rw k_Ds_shape).2.1 56 = .ok (.iload_n 2, 1) := (by decide +kernel : decode prog_1_method_34_code 56 = .ok (.iload_n 2, 1))
theorem e_Ds_shape_56 (a0 a1 a3 : Value) (x : Int32) (st : List Value) (g : px_G) : rn k_Ds_shape 56 [a0, a1, .int x, a3] st g = rn k_Ds_shape 57 [a0, a1, .int x, a3] (.int x :: st) g := rn_next dd_Ds_shape_56 rfl
theorem dd_Ds_shape_57 : decode (px_rw k_Ds_shape).2.1 57 = .ok (.invokevirtual 117, 3) := (by decide +kernel : decode prog_1_method_34_code 57 = .ok (.invokevirtual 117, 3))
theorem e_Ds_shape_57 (L : List Value) (i0 : Int32) (p : Nat) (T : TS) (hp : sh p = (104, 18)) : rn k_Ds_shape 57 L [.int i0, .ref p] (enc T) = bd (cl k_Ink_takeSpot [.ref p, .int i0] (enc T)) (fun r g' => rn k_Ds_shape 60 L (r.toList ++ []) g') := rn_callV (n := 18) (As := [.int i0]) (rest := []) dd_Ds_shape_57 rfl (by decide) (by decide) rfl rfl (Nat.le_of_ble_eq_true rfl) (Nat.le_of_ble_eq_true rfl) hp
theorem dd_Ds_shape_60 : decode (px_rw k_Ds_shape).2.1 60 = .ok (.iload_n 3, 1) := (by decide +kernel : decode prog_1_method_34_code 60 = .ok (.iload_n 3, 1))
theorem e_Ds_shape_60 (a0 a1 a2 : Value) (x : Int32) (st : List Value) (g : px_G) : rn k_Ds_shape 60 [a0, a1, a2, .int x] st g = rn k_Ds_shape 61 [a0, a1, a2, .int x] (.int x :: st) g := rn_next dd_Ds_shape_60 rfl
theorem dd_Ds_shape_61 : decode (px_rw k_Ds_shape).2.1 61 = .ok (.ireturn, 1) := (by decide +kernel : decode prog_1_method_34_code 61 = .ok (.ireturn, 1))
theorem e_Ds_shape_61 (L : List Value) (v : Int32) (g : px_G) : rn k_Ds_shape 61 L [.int v] g = some (some (.int v), g) := rn_iret dd_Ds_shape_61 rfl
theorem c_Ds_tone (r0 : Nat) (i1 : Int32) (i2 : Int32) (g : px_G) : cl k_Ds_tone [.ref r0, .int i1, .int i2] g = rn k_Ds_tone 0 [.ref r0, .int i1, .int i2, .null] [] g := rfl
theorem dd_Ds_tone_0 : decode (px_rw k_Ds_tone).2.1 0 = .ok (.aload_n 0, 1) := (by decide +kernel : decode prog_1_method_35_code 0 = .ok (.aload_n 0, 1))
theorem e_Ds_tone_0 (a1 a2 a3 : Value) (x : Nat) (st : List Value) (g : px_G) : rn k_Ds_tone 0 [.ref x, a1, a2, a3] st g = rn k_Ds_tone 1 [.ref x, a1, a2, a3] (.ref x :: st) g := rn_next dd_Ds_tone_0 rfl
theorem dd_Ds_tone_1 : decode (px_rw k_Ds_tone).2.1 1 = .ok (.iload_n 1, 1) := (by decide +kernel : decode prog_1_method_35_code 1 = .ok (.iload_n 1, 1))
theorem e_Ds_tone_1 (a0 a2 a3 : Value) (x : Int32) (st : List Value) (g : px_G) : rn k_Ds_tone 1 [a0, .int x, a2, a3] st g = rn k_Ds_tone 2 [a0, .int x, a2, a3] (.int x :: st) g := rn_next dd_Ds_tone_1 rfl
theorem dd_Ds_tone_2 : decode (px_rw k_Ds_tone).2.1 2 = .ok (.invokevirtual 129, 3) := (by decide +kernel : decode prog_1_method_35_code 2 = .ok (.invokevirtual 129, 3))
theorem e_Ds_tone_2 (L : List Value) (i0 : Int32)  (T : TS)  : rn k_Ds_tone 2 L [.int i0, .ref 0] (enc T) = bd (cl k_Ds_isInk [.ref 0, .int i0] (enc T)) (fun r g' => rn k_Ds_tone 5 L (r.toList ++ []) g') := rn_callV (n := 13) (As := [.int i0]) (rest := []) dd_Ds_tone_2 rfl (by decide) (by decide) rfl rfl (Nat.le_of_ble_eq_true rfl) (Nat.le_of_ble_eq_true rfl) rfl
theorem dd_Ds_tone_5 : decode (px_rw k_Ds_tone).2.1 5 = .ok (.ifCond .ne 9, 3) := (by decide +kernel : decode prog_1_method_35_code 5 = .ok (.ifCond .ne 9, 3))
theorem e_Ds_tone_5 (L : List Value) (x : Int32) (st : List Value) (g : px_G) : rn k_Ds_tone 5 L (.int x :: st) g = if x = 0 then rn k_Ds_tone 8 L st g else rn k_Ds_tone 14 L st g := rn_ifne dd_Ds_tone_5 (by decide)
theorem dd_Ds_tone_8 : decode (px_rw k_Ds_tone).2.1 8 = .ok (.aload_n 0, 1) := (by decide +kernel : decode prog_1_method_35_code 8 = .ok (.aload_n 0, 1))
theorem e_Ds_tone_8 (a1 a2 a3 : Value) (x : Nat) (st : List Value) (g : px_G) : rn k_Ds_tone 8 [.ref x, a1, a2, a3] st g = rn k_Ds_tone 9 [.ref x, a1, a2, a3] (.ref x :: st) g := rn_next dd_Ds_tone_8 rfl
theorem dd_Ds_tone_9 : decode (px_rw k_Ds_tone).2.1 9 = .ok (.iconst 0, 1) := (by decide +kernel : decode prog_1_method_35_code 9 = .ok (.iconst 0, 1))
theorem e_Ds_tone_9 (L st : List Value) (g : px_G) : rn k_Ds_tone 9 L st g = rn k_Ds_tone 10 L (.int 0 :: st) g := rn_ipush (i := .iconst 0) dd_Ds_tone_9 rfl rfl (by decide)
theorem dd_Ds_tone_10 : decode (px_rw k_Ds_tone).2.1 10 = .ok (.invokevirtual 342, 3) := (by decide +kernel : decode prog_1_method_35_code 10 = .ok (.invokevirtual 342, 3))
theorem e_Ds_tone_10 (L : List Value) (i0 : Int32)  (T : TS)  : rn k_Ds_tone 10 L [.int i0, .ref 0] (enc T) = bd (cl k_Ds_refuse [.ref 0, .int i0] (enc T)) (fun r g' => rn k_Ds_tone 13 L (r.toList ++ []) g') := rn_callV (n := 13) (As := [.int i0]) (rest := []) dd_Ds_tone_10 rfl (by decide) (by decide) rfl rfl (Nat.le_of_ble_eq_true rfl) (Nat.le_of_ble_eq_true rfl) rfl
theorem dd_Ds_tone_13 : decode (px_rw k_Ds_tone).2.1 13 = .ok (.ireturn, 1) := (by decide +kernel : decode prog_1_method_35_code 13 = .ok (.ireturn, 1))
theorem e_Ds_tone_13 (L : List Value) (v : Int32) (g : px_G) : rn k_Ds_tone 13 L [.int v] g = some (some (.int v), g) := rn_iret dd_Ds_tone_13 rfl
theorem dd_Ds_tone_14 : decode (px_rw k_Ds_tone).2.1 14 = .ok (.iload_n 2, 1) := (by decide +kernel : decode prog_1_method_35_code 14 = .ok (.iload_n 2, 1))
theorem e_Ds_tone_14 (a0 a1 a3 : Value) (x : Int32) (st : List Value) (g : px_G) : rn k_Ds_tone 14 [a0, a1, .int x, a3] st g = rn k_Ds_tone 15 [a0, a1, .int x, a3] (.int x :: st) g := rn_next dd_Ds_tone_14 rfl
theorem dd_Ds_tone_15 : decode (px_rw k_Ds_tone).2.1 15 = .ok (.ifCond .lt 9, 3) := (by decide +kernel : decode prog_1_method_35_code 15 = .ok (.ifCond .lt 9, 3))
theorem e_Ds_tone_15 (L : List Value) (x : Int32) (st : List Value) (g : px_G) : rn k_Ds_tone 15 L (.int x :: st) g = if x < 0 then rn k_Ds_tone 24 L st g else rn k_Ds_tone 18 L st g := rn_iflt dd_Ds_tone_15 (by decide)
theorem dd_Ds_tone_18 : decode (px_rw k_Ds_tone).2.1 18 = .ok (.iload_n 2, 1) := (by decide +kernel : decode prog_1_method_35_code 18 = .ok (.iload_n 2, 1))
theorem e_Ds_tone_18 (a0 a1 a3 : Value) (x : Int32) (st : List Value) (g : px_G) : rn k_Ds_tone 18 [a0, a1, .int x, a3] st g = rn k_Ds_tone 19 [a0, a1, .int x, a3] (.int x :: st) g := rn_next dd_Ds_tone_18 rfl
theorem dd_Ds_tone_19 : decode (px_rw k_Ds_tone).2.1 19 = .ok (.bipush 100, 2) := (by decide +kernel : decode prog_1_method_35_code 19 = .ok (.bipush 100, 2))
theorem e_Ds_tone_19 (L st : List Value) (g : px_G) : rn k_Ds_tone 19 L st g = rn k_Ds_tone 21 L (.int 100 :: st) g := rn_ipush (i := .bipush 100) dd_Ds_tone_19 rfl rfl (by decide)
theorem dd_Ds_tone_21 : decode (px_rw k_Ds_tone).2.1 21 = .ok (.if_icmp .le 9, 3) := (by decide +kernel : decode prog_1_method_35_code 21 = .ok (.if_icmp .le 9, 3))
theorem e_Ds_tone_21 (L : List Value) (x y : Int32) (st : List Value) (g : px_G) : rn k_Ds_tone 21 L (.int y :: .int x :: st) g = if x ≤ y then rn k_Ds_tone 30 L st g else rn k_Ds_tone 24 L st g := rn_icle dd_Ds_tone_21 (by decide)
theorem dd_Ds_tone_24 : decode (px_rw k_Ds_tone).2.1 24 = .ok (.aload_n 0, 1) := (by decide +kernel : decode prog_1_method_35_code 24 = .ok (.aload_n 0, 1))
theorem e_Ds_tone_24 (a1 a2 a3 : Value) (x : Nat) (st : List Value) (g : px_G) : rn k_Ds_tone 24 [.ref x, a1, a2, a3] st g = rn k_Ds_tone 25 [.ref x, a1, a2, a3] (.ref x :: st) g := rn_next dd_Ds_tone_24 rfl
theorem dd_Ds_tone_25 : decode (px_rw k_Ds_tone).2.1 25 = .ok (.iconst 1, 1) := (by decide +kernel : decode prog_1_method_35_code 25 = .ok (.iconst 1, 1))
theorem e_Ds_tone_25 (L st : List Value) (g : px_G) : rn k_Ds_tone 25 L st g = rn k_Ds_tone 26 L (.int 1 :: st) g := rn_ipush (i := .iconst 1) dd_Ds_tone_25 rfl rfl (by decide)
theorem dd_Ds_tone_26 : decode (px_rw k_Ds_tone).2.1 26 = .ok (.invokevirtual 342, 3) := (by decide +kernel : decode prog_1_method_35_code 26 = .ok (.invokevirtual 342, 3))
theorem e_Ds_tone_26 (L : List Value) (i0 : Int32)  (T : TS)  : rn k_Ds_tone 26 L [.int i0, .ref 0] (enc T) = bd (cl k_Ds_refuse [.ref 0, .int i0] (enc T)) (fun r g' => rn k_Ds_tone 29 L (r.toList ++ []) g') := rn_callV (n := 13) (As := [.int i0]) (rest := []) dd_Ds_tone_26 rfl (by decide) (by decide) rfl rfl (Nat.le_of_ble_eq_true rfl) (Nat.le_of_ble_eq_true rfl) rfl
theorem dd_Ds_tone_29 : decode (px_rw k_Ds_tone).2.1 29 = .ok (.ireturn, 1) := (by decide +kernel : decode prog_1_method_35_code 29 = .ok (.ireturn, 1))
theorem e_Ds_tone_29 (L : List Value) (v : Int32) (g : px_G) : rn k_Ds_tone 29 L [.int v] g = some (some (.int v), g) := rn_iret dd_Ds_tone_29 rfl
theorem dd_Ds_tone_30 : decode (px_rw k_Ds_tone).2.1 30 = .ok (.aload_n 0, 1) := (by decide +kernel : decode prog_1_method_35_code 30 = .ok (.aload_n 0, 1))
theorem e_Ds_tone_30 (a1 a2 a3 : Value) (x : Nat) (st : List Value) (g : px_G) : rn k_Ds_tone 30 [.ref x, a1, a2, a3] st g = rn k_Ds_tone 31 [.ref x, a1, a2, a3] (.ref x :: st) g := rn_next dd_Ds_tone_30 rfl
theorem dd_Ds_tone_31 : decode (px_rw k_Ds_tone).2.1 31 = .ok (.getfield 27, 3) := (by decide +kernel : decode prog_1_method_35_code 31 = .ok (.getfield 27, 3))
theorem e_Ds_tone_31 (L st : List Value) (T : TS) : rn k_Ds_tone 31 L (.ref 0 :: st) (enc T) = rn k_Ds_tone 34 L (.ref 5 :: st) (enc T) := rn_getA (n := 13) dd_Ds_tone_31 rfl (by decide) (by decide) (by decide) rfl rfl
theorem dd_Ds_tone_34 : decode (px_rw k_Ds_tone).2.1 34 = .ok (.iload_n 1, 1) := (by decide +kernel : decode prog_1_method_35_code 34 = .ok (.iload_n 1, 1))
theorem e_Ds_tone_34 (a0 a2 a3 : Value) (x : Int32) (st : List Value) (g : px_G) : rn k_Ds_tone 34 [a0, .int x, a2, a3] st g = rn k_Ds_tone 35 [a0, .int x, a2, a3] (.int x :: st) g := rn_next dd_Ds_tone_34 rfl
theorem dd_Ds_tone_35 : decode (px_rw k_Ds_tone).2.1 35 = .ok (.aaload, 1) := (by decide +kernel : decode prog_1_method_35_code 35 = .ok (.aaload, 1))
theorem e_Ds_tone_35 (L : List Value) (i : Int32) (p : Nat) (st : List Value) (T : TS) (hp : (sh p).1 = 3) : rn k_Ds_tone 35 L (.int i :: .ref p :: st) (enc T) = if px_in i (sh p).2 then rn k_Ds_tone 36 L (.ref (T.2.2.1 i.toNatClampNeg) :: st) (enc T) else none := rn_aald dd_Ds_tone_35 (Prod.ext hp rfl)
theorem dd_Ds_tone_36 : decode (px_rw k_Ds_tone).2.1 36 = .ok (.getfield 120, 3) := (by decide +kernel : decode prog_1_method_35_code 36 = .ok (.getfield 120, 3))
theorem e_Ds_tone_36 (L : List Value) (p : Nat) (st : List Value) (T : TS) (hp : sh p = (104, 18)) : rn k_Ds_tone 36 L (.ref p :: st) (enc T) = rn k_Ds_tone 39 L (.int (T.1 p 4) :: st) (enc T) := rn_getI (n := 18) dd_Ds_tone_36 rfl (by decide) (by decide) (by decide) rfl hp
theorem dd_Ds_tone_39 : decode (px_rw k_Ds_tone).2.1 39 = .ok (.istore_n 3, 1) := (by decide +kernel : decode prog_1_method_35_code 39 = .ok (.istore_n 3, 1))
theorem e_Ds_tone_39 (a0 a1 a2 a3 : Value) (x : Int32) (st : List Value) (g : px_G) : rn k_Ds_tone 39 [a0, a1, a2, a3] (.int x :: st) g = rn k_Ds_tone 40 [a0, a1, px_kill a2, .int x] st g := rn_next dd_Ds_tone_39 rfl
theorem dd_Ds_tone_40 : decode (px_rw k_Ds_tone).2.1 40 = .ok (.iload_n 3, 1) := (by decide +kernel : decode prog_1_method_35_code 40 = .ok (.iload_n 3, 1))
theorem e_Ds_tone_40 (a0 a1 a2 : Value) (x : Int32) (st : List Value) (g : px_G) : rn k_Ds_tone 40 [a0, a1, a2, .int x] st g = rn k_Ds_tone 41 [a0, a1, a2, .int x] (.int x :: st) g := rn_next dd_Ds_tone_40 rfl
theorem dd_Ds_tone_41 : decode (px_rw k_Ds_tone).2.1 41 = .ok (.iload_n 2, 1) := (by decide +kernel : decode prog_1_method_35_code 41 = .ok (.iload_n 2, 1))
theorem e_Ds_tone_41 (a0 a1 a3 : Value) (x : Int32) (st : List Value) (g : px_G) : rn k_Ds_tone 41 [a0, a1, .int x, a3] st g = rn k_Ds_tone 42 [a0, a1, .int x, a3] (.int x :: st) g := rn_next dd_Ds_tone_41 rfl
theorem dd_Ds_tone_42 : decode (px_rw k_Ds_tone).2.1 42 = .ok (.if_icmp .ne 9, 3) := (by decide +kernel : decode prog_1_method_35_code 42 = .ok (.if_icmp .ne 9, 3))
theorem e_Ds_tone_42 (L : List Value) (x y : Int32) (st : List Value) (g : px_G) : rn k_Ds_tone 42 L (.int y :: .int x :: st) g = if x = y then rn k_Ds_tone 45 L st g else rn k_Ds_tone 51 L st g := rn_icne dd_Ds_tone_42 (by decide)
theorem dd_Ds_tone_45 : decode (px_rw k_Ds_tone).2.1 45 = .ok (.aload_n 0, 1) := (by decide +kernel : decode prog_1_method_35_code 45 = .ok (.aload_n 0, 1))
theorem e_Ds_tone_45 (a1 a2 a3 : Value) (x : Nat) (st : List Value) (g : px_G) : rn k_Ds_tone 45 [.ref x, a1, a2, a3] st g = rn k_Ds_tone 46 [.ref x, a1, a2, a3] (.ref x :: st) g := rn_next dd_Ds_tone_45 rfl
theorem dd_Ds_tone_46 : decode (px_rw k_Ds_tone).2.1 46 = .ok (.iconst 2, 1) := (by decide +kernel : decode prog_1_method_35_code 46 = .ok (.iconst 2, 1))
theorem e_Ds_tone_46 (L st : List Value) (g : px_G) : rn k_Ds_tone 46 L st g = rn k_Ds_tone 47 L (.int 2 :: st) g := rn_ipush (i := .iconst 2) dd_Ds_tone_46 rfl rfl (by decide)
theorem dd_Ds_tone_47 : decode (px_rw k_Ds_tone).2.1 47 = .ok (.invokevirtual 342, 3) := (by decide +kernel : decode prog_1_method_35_code 47 = .ok (.invokevirtual 342, 3))
theorem e_Ds_tone_47 (L : List Value) (i0 : Int32)  (T : TS)  : rn k_Ds_tone 47 L [.int i0, .ref 0] (enc T) = bd (cl k_Ds_refuse [.ref 0, .int i0] (enc T)) (fun r g' => rn k_Ds_tone 50 L (r.toList ++ []) g') := rn_callV (n := 13) (As := [.int i0]) (rest := []) dd_Ds_tone_47 rfl (by decide) (by decide) rfl rfl (Nat.le_of_ble_eq_true rfl) (Nat.le_of_ble_eq_true rfl) rfl
theorem dd_Ds_tone_50 : decode (px_rw k_Ds_tone).2.1 50 = .ok (.ireturn, 1) := (by decide +kernel : decode prog_1_method_35_code 50 = .ok (.ireturn, 1))
theorem e_Ds_tone_50 (L : List Value) (v : Int32) (g : px_G) : rn k_Ds_tone 50 L [.int v] g = some (some (.int v), g) := rn_iret dd_Ds_tone_50 rfl
theorem dd_Ds_tone_51 : decode (px_rw k_Ds_tone).2.1 51 = .ok (.aload_n 0, 1) := (by decide +kernel : decode prog_1_method_35_code 51 = .ok (.aload_n 0, 1))
theorem e_Ds_tone_51 (a1 a2 a3 : Value) (x : Nat) (st : List Value) (g : px_G) : rn k_Ds_tone 51 [.ref x, a1, a2, a3] st g = rn k_Ds_tone 52 [.ref x, a1, a2, a3] (.ref x :: st) g := rn_next dd_Ds_tone_51 rfl
theorem dd_Ds_tone_52 : decode (px_rw k_Ds_tone).2.1 52 = .ok (.getfield 27, 3) := (by decide +kernel : decode prog_1_method_35_code 52 = .ok (.getfield 27, 3))
theorem e_Ds_tone_52 (L st : List Value) (T : TS) : rn k_Ds_tone 52 L (.ref 0 :: st) (enc T) = rn k_Ds_tone 55 L (.ref 5 :: st) (enc T) := rn_getA (n := 13) dd_Ds_tone_52 rfl (by decide) (by decide) (by decide) rfl rfl
theorem dd_Ds_tone_55 : decode (px_rw k_Ds_tone).2.1 55 = .ok (.iload_n 1, 1) := (by decide +kernel : decode prog_1_method_35_code 55 = .ok (.iload_n 1, 1))
theorem e_Ds_tone_55 (a0 a2 a3 : Value) (x : Int32) (st : List Value) (g : px_G) : rn k_Ds_tone 55 [a0, .int x, a2, a3] st g = rn k_Ds_tone 56 [a0, .int x, a2, a3] (.int x :: st) g := rn_next dd_Ds_tone_55 rfl
theorem dd_Ds_tone_56 : decode (px_rw k_Ds_tone).2.1 56 = .ok (.aaload, 1) := (by decide +kernel : decode prog_1_method_35_code 56 = .ok (.aaload, 1))
theorem e_Ds_tone_56 (L : List Value) (i : Int32) (p : Nat) (st : List Value) (T : TS) (hp : (sh p).1 = 3) : rn k_Ds_tone 56 L (.int i :: .ref p :: st) (enc T) = if px_in i (sh p).2 then rn k_Ds_tone 57 L (.ref (T.2.2.1 i.toNatClampNeg) :: st) (enc T) else none := rn_aald dd_Ds_tone_56 (Prod.ext hp rfl)
theorem dd_Ds_tone_57 : decode (px_rw k_Ds_tone).2.1 57 = .ok (.iload_n 2, 1) := (by decide +kernel : decode prog_1_method_35_code 57 = .ok (.iload_n 2, 1))
theorem e_Ds_tone_57 (a0 a1 a3 : Value) (x : Int32) (st : List Value) (g : px_G) : rn k_Ds_tone 57 [a0, a1, .int x, a3] st g = rn k_Ds_tone 58 [a0, a1, .int x, a3] (.int x :: st) g := rn_next dd_Ds_tone_57 rfl
theorem dd_Ds_tone_58 : decode (px_rw k_Ds_tone).2.1 58 = .ok (.putfield 120, 3) := (by decide +kernel : decode prog_1_method_35_code 58 = .ok (.putfield 120, 3))
theorem e_Ds_tone_58 (L : List Value) (x : Int32) (p : Nat) (st : List Value) (T : TS) (hp : sh p = (104, 18)) : rn k_Ds_tone 58 L (.int x :: .ref p :: st) (enc T) = rn k_Ds_tone 61 L st (enc (sI T p 4 x)) := rn_putI (n := 18) dd_Ds_tone_58 rfl (by decide) (by decide) (by decide) rfl hp
theorem dd_Ds_tone_61 : decode (px_rw k_Ds_tone).2.1 61 = .ok (.iload_n 3, 1) := (by decide +kernel : decode prog_1_method_35_code 61 = .ok (.iload_n 3, 1))
theorem e_Ds_tone_61 (a0 a1 a2 : Value) (x : Int32) (st : List Value) (g : px_G) : rn k_Ds_tone 61 [a0, a1, a2, .int x] st g = rn k_Ds_tone 62 [a0, a1, a2, .int x] (.int x :: st) g := rn_next dd_Ds_tone_61 rfl
theorem dd_Ds_tone_62 : decode (px_rw k_Ds_tone).2.1 62 = .ok (.ireturn, 1) := (by decide +kernel : decode prog_1_method_35_code 62 = .ok (.ireturn, 1))
theorem e_Ds_tone_62 (L : List Value) (v : Int32) (g : px_G) : rn k_Ds_tone 62 L [.int v] g = some (some (.int v), g) := rn_iret dd_Ds_tone_62 rfl
theorem c_Ds_offset (r0 : Nat) (i1 : Int32) (i2 : Int32) (i3 : Int32) (g : px_G) : cl k_Ds_offset [.ref r0, .int i1, .int i2, .int i3] g = rn k_Ds_offset 0 [.ref r0, .int i1, .int i2, .int i3, .null, .null] [] g := rfl
theorem dd_Ds_offset_0 : decode (px_rw k_Ds_offset).2.1 0 = .ok (.aload_n 0, 1) := (by decide +kernel : decode prog_1_method_36_code 0 = .ok (.aload_n 0, 1))
theorem e_Ds_offset_0 (a1 a2 a3 a4 a5 : Value) (x : Nat) (st : List Value) (g : px_G) : rn k_Ds_offset 0 [.ref x, a1, a2, a3, a4, a5] st g = rn k_Ds_offset 1 [.ref x, a1, a2, a3, a4, a5] (.ref x :: st) g := rn_next dd_Ds_offset_0 rfl
theorem dd_Ds_offset_1 : decode (px_rw k_Ds_offset).2.1 1 = .ok (.iload_n 1, 1) := (by decide +kernel : decode prog_1_method_36_code 1 = .ok (.iload_n 1, 1))
theorem e_Ds_offset_1 (a0 a2 a3 a4 a5 : Value) (x : Int32) (st : List Value) (g : px_G) : rn k_Ds_offset 1 [a0, .int x, a2, a3, a4, a5] st g = rn k_Ds_offset 2 [a0, .int x, a2, a3, a4, a5] (.int x :: st) g := rn_next dd_Ds_offset_1 rfl
theorem dd_Ds_offset_2 : decode (px_rw k_Ds_offset).2.1 2 = .ok (.invokevirtual 129, 3) := (by decide +kernel : decode prog_1_method_36_code 2 = .ok (.invokevirtual 129, 3))
theorem e_Ds_offset_2 (L : List Value) (i0 : Int32)  (T : TS)  : rn k_Ds_offset 2 L [.int i0, .ref 0] (enc T) = bd (cl k_Ds_isInk [.ref 0, .int i0] (enc T)) (fun r g' => rn k_Ds_offset 5 L (r.toList ++ []) g') := rn_callV (n := 13) (As := [.int i0]) (rest := []) dd_Ds_offset_2 rfl (by decide) (by decide) rfl rfl (Nat.le_of_ble_eq_true rfl) (Nat.le_of_ble_eq_true rfl) rfl
theorem dd_Ds_offset_5 : decode (px_rw k_Ds_offset).2.1 5 = .ok (.ifCond .ne 9, 3) := (by decide +kernel : decode prog_1_method_36_code 5 = .ok (.ifCond .ne 9, 3))
theorem e_Ds_offset_5 (L : List Value) (x : Int32) (st : List Value) (g : px_G) : rn k_Ds_offset 5 L (.int x :: st) g = if x = 0 then rn k_Ds_offset 8 L st g else rn k_Ds_offset 14 L st g := rn_ifne dd_Ds_offset_5 (by decide)
theorem dd_Ds_offset_8 : decode (px_rw k_Ds_offset).2.1 8 = .ok (.aload_n 0, 1) := (by decide +kernel : decode prog_1_method_36_code 8 = .ok (.aload_n 0, 1))
theorem e_Ds_offset_8 (a1 a2 a3 a4 a5 : Value) (x : Nat) (st : List Value) (g : px_G) : rn k_Ds_offset 8 [.ref x, a1, a2, a3, a4, a5] st g = rn k_Ds_offset 9 [.ref x, a1, a2, a3, a4, a5] (.ref x :: st) g := rn_next dd_Ds_offset_8 rfl
theorem dd_Ds_offset_9 : decode (px_rw k_Ds_offset).2.1 9 = .ok (.iconst 0, 1) := (by decide +kernel : decode prog_1_method_36_code 9 = .ok (.iconst 0, 1))
theorem e_Ds_offset_9 (L st : List Value) (g : px_G) : rn k_Ds_offset 9 L st g = rn k_Ds_offset 10 L (.int 0 :: st) g := rn_ipush (i := .iconst 0) dd_Ds_offset_9 rfl rfl (by decide)
theorem dd_Ds_offset_10 : decode (px_rw k_Ds_offset).2.1 10 = .ok (.invokevirtual 342, 3) := (by decide +kernel : decode prog_1_method_36_code 10 = .ok (.invokevirtual 342, 3))
theorem e_Ds_offset_10 (L : List Value) (i0 : Int32)  (T : TS)  : rn k_Ds_offset 10 L [.int i0, .ref 0] (enc T) = bd (cl k_Ds_refuse [.ref 0, .int i0] (enc T)) (fun r g' => rn k_Ds_offset 13 L (r.toList ++ []) g') := rn_callV (n := 13) (As := [.int i0]) (rest := []) dd_Ds_offset_10 rfl (by decide) (by decide) rfl rfl (Nat.le_of_ble_eq_true rfl) (Nat.le_of_ble_eq_true rfl) rfl
theorem dd_Ds_offset_13 : decode (px_rw k_Ds_offset).2.1 13 = .ok (.ireturn, 1) := (by decide +kernel : decode prog_1_method_36_code 13 = .ok (.ireturn, 1))
theorem e_Ds_offset_13 (L : List Value) (v : Int32) (g : px_G) : rn k_Ds_offset 13 L [.int v] g = some (some (.int v), g) := rn_iret dd_Ds_offset_13 rfl
theorem dd_Ds_offset_14 : decode (px_rw k_Ds_offset).2.1 14 = .ok (.iload_n 2, 1) := (by decide +kernel : decode prog_1_method_36_code 14 = .ok (.iload_n 2, 1))
theorem e_Ds_offset_14 (a0 a1 a3 a4 a5 : Value) (x : Int32) (st : List Value) (g : px_G) : rn k_Ds_offset 14 [a0, a1, .int x, a3, a4, a5] st g = rn k_Ds_offset 15 [a0, a1, .int x, a3, a4, a5] (.int x :: st) g := rn_next dd_Ds_offset_14 rfl
theorem dd_Ds_offset_15 : decode (px_rw k_Ds_offset).2.1 15 = .ok (.bipush 99, 2) := (by decide +kernel : decode prog_1_method_36_code 15 = .ok (.bipush 99, 2))
theorem e_Ds_offset_15 (L st : List Value) (g : px_G) : rn k_Ds_offset 15 L st g = rn k_Ds_offset 17 L (.int 99 :: st) g := rn_ipush (i := .bipush 99) dd_Ds_offset_15 rfl rfl (by decide)
theorem dd_Ds_offset_17 : decode (px_rw k_Ds_offset).2.1 17 = .ok (.invokestatic 345, 3) := (by decide +kernel : decode prog_1_method_36_code 17 = .ok (.invokestatic 345, 3))
theorem e_Ds_offset_17 (L : List Value) (i0 : Int32) (i1 : Int32) (g : px_G) : rn k_Ds_offset 17 L [.int i1, .int i0] g = bd (cl k_Ds_isWithin [.int i0, .int i1] g) (fun r g' => rn k_Ds_offset 20 L (r.toList ++ []) g') := rn_callS (As := [.int i0, .int i1]) (rest := []) dd_Ds_offset_17 rfl (by decide) rfl rfl (Nat.le_of_ble_eq_true rfl) (Nat.le_of_ble_eq_true rfl)
theorem dd_Ds_offset_20 : decode (px_rw k_Ds_offset).2.1 20 = .ok (.ifCond .eq 12, 3) := (by decide +kernel : decode prog_1_method_36_code 20 = .ok (.ifCond .eq 12, 3))
theorem e_Ds_offset_20 (L : List Value) (x : Int32) (st : List Value) (g : px_G) : rn k_Ds_offset 20 L (.int x :: st) g = if x = 0 then rn k_Ds_offset 32 L st g else rn k_Ds_offset 23 L st g := rn_ifeq dd_Ds_offset_20 (by decide)
theorem dd_Ds_offset_23 : decode (px_rw k_Ds_offset).2.1 23 = .ok (.iload_n 3, 1) := (by decide +kernel : decode prog_1_method_36_code 23 = .ok (.iload_n 3, 1))
theorem e_Ds_offset_23 (a0 a1 a2 a4 a5 : Value) (x : Int32) (st : List Value) (g : px_G) : rn k_Ds_offset 23 [a0, a1, a2, .int x, a4, a5] st g = rn k_Ds_offset 24 [a0, a1, a2, .int x, a4, a5] (.int x :: st) g := rn_next dd_Ds_offset_23 rfl
theorem dd_Ds_offset_24 : decode (px_rw k_Ds_offset).2.1 24 = .ok (.bipush 99, 2) := (by decide +kernel : decode prog_1_method_36_code 24 = .ok (.bipush 99, 2))
theorem e_Ds_offset_24 (L st : List Value) (g : px_G) : rn k_Ds_offset 24 L st g = rn k_Ds_offset 26 L (.int 99 :: st) g := rn_ipush (i := .bipush 99) dd_Ds_offset_24 rfl rfl (by decide)
theorem dd_Ds_offset_26 : decode (px_rw k_Ds_offset).2.1 26 = .ok (.invokestatic 345, 3) := (by decide +kernel : decode prog_1_method_36_code 26 = .ok (.invokestatic 345, 3))
theorem e_Ds_offset_26 (L : List Value) (i0 : Int32) (i1 : Int32) (g : px_G) : rn k_Ds_offset 26 L [.int i1, .int i0] g = bd (cl k_Ds_isWithin [.int i0, .int i1] g) (fun r g' => rn k_Ds_offset 29 L (r.toList ++ []) g') := rn_callS (As := [.int i0, .int i1]) (rest := []) dd_Ds_offset_26 rfl (by decide) rfl rfl (Nat.le_of_ble_eq_true rfl) (Nat.le_of_ble_eq_true rfl)
theorem dd_Ds_offset_29 : decode (px_rw k_Ds_offset).2.1 29 = .ok (.ifCond .ne 9, 3) := (by decide +kernel : decode prog_1_method_36_code 29 = .ok (.ifCond .ne 9, 3))
theorem e_Ds_offset_29 (L : List Value) (x : Int32) (st : List Value) (g : px_G) : rn k_Ds_offset 29 L (.int x :: st) g = if x = 0 then rn k_Ds_offset 32 L st g else rn k_Ds_offset 38 L st g := rn_ifne dd_Ds_offset_29 (by decide)
theorem dd_Ds_offset_32 : decode (px_rw k_Ds_offset).2.1 32 = .ok (.aload_n 0, 1) := (by decide +kernel : decode prog_1_method_36_code 32 = .ok (.aload_n 0, 1))
theorem e_Ds_offset_32 (a1 a2 a3 a4 a5 : Value) (x : Nat) (st : List Value) (g : px_G) : rn k_Ds_offset 32 [.ref x, a1, a2, a3, a4, a5] st g = rn k_Ds_offset 33 [.ref x, a1, a2, a3, a4, a5] (.ref x :: st) g := rn_next dd_Ds_offset_32 rfl
theorem dd_Ds_offset_33 : decode (px_rw k_Ds_offset).2.1 33 = .ok (.iconst 1, 1) := (by decide +kernel : decode prog_1_method_36_code 33 = .ok (.iconst 1, 1))
theorem e_Ds_offset_33 (L st : List Value) (g : px_G) : rn k_Ds_offset 33 L st g = rn k_Ds_offset 34 L (.int 1 :: st) g := rn_ipush (i := .iconst 1) dd_Ds_offset_33 rfl rfl (by decide)
theorem dd_Ds_offset_34 : decode (px_rw k_Ds_offset).2.1 34 = .ok (.invokevirtual 342, 3) := (by decide +kernel : decode prog_1_method_36_code 34 = .ok (.invokevirtual 342, 3))
theorem e_Ds_offset_34 (L : List Value) (i0 : Int32)  (T : TS)  : rn k_Ds_offset 34 L [.int i0, .ref 0] (enc T) = bd (cl k_Ds_refuse [.ref 0, .int i0] (enc T)) (fun r g' => rn k_Ds_offset 37 L (r.toList ++ []) g') := rn_callV (n := 13) (As := [.int i0]) (rest := []) dd_Ds_offset_34 rfl (by decide) (by decide) rfl rfl (Nat.le_of_ble_eq_true rfl) (Nat.le_of_ble_eq_true rfl) rfl
theorem dd_Ds_offset_37 : decode (px_rw k_Ds_offset).2.1 37 = .ok (.ireturn, 1) := (by decide +kernel : decode prog_1_method_36_code 37 = .ok (.ireturn, 1))
theorem e_Ds_offset_37 (L : List Value) (v : Int32) (g : px_G) : rn k_Ds_offset 37 L [.int v] g = some (some (.int v), g) := rn_iret dd_Ds_offset_37 rfl
theorem dd_Ds_offset_38 : decode (px_rw k_Ds_offset).2.1 38 = .ok (.aload_n 0, 1) := (by decide +kernel : decode prog_1_method_36_code 38 = .ok (.aload_n 0, 1))
theorem e_Ds_offset_38 (a1 a2 a3 a4 a5 : Value) (x : Nat) (st : List Value) (g : px_G) : rn k_Ds_offset 38 [.ref x, a1, a2, a3, a4, a5] st g = rn k_Ds_offset 39 [.ref x, a1, a2, a3, a4, a5] (.ref x :: st) g := rn_next dd_Ds_offset_38 rfl
theorem dd_Ds_offset_39 : decode (px_rw k_Ds_offset).2.1 39 = .ok (.getfield 27, 3) := (by decide +kernel : decode prog_1_method_36_code 39 = .ok (.getfield 27, 3))
theorem e_Ds_offset_39 (L st : List Value) (T : TS) : rn k_Ds_offset 39 L (.ref 0 :: st) (enc T) = rn k_Ds_offset 42 L (.ref 5 :: st) (enc T) := rn_getA (n := 13) dd_Ds_offset_39 rfl (by decide) (by decide) (by decide) rfl rfl
theorem dd_Ds_offset_42 : decode (px_rw k_Ds_offset).2.1 42 = .ok (.iload_n 1, 1) := (by decide +kernel : decode prog_1_method_36_code 42 = .ok (.iload_n 1, 1))
theorem e_Ds_offset_42 (a0 a2 a3 a4 a5 : Value) (x : Int32) (st : List Value) (g : px_G) : rn k_Ds_offset 42 [a0, .int x, a2, a3, a4, a5] st g = rn k_Ds_offset 43 [a0, .int x, a2, a3, a4, a5] (.int x :: st) g := rn_next dd_Ds_offset_42 rfl
theorem dd_Ds_offset_43 : decode (px_rw k_Ds_offset).2.1 43 = .ok (.aaload, 1) := (by decide +kernel : decode prog_1_method_36_code 43 = .ok (.aaload, 1))
theorem e_Ds_offset_43 (L : List Value) (i : Int32) (p : Nat) (st : List Value) (T : TS) (hp : (sh p).1 = 3) : rn k_Ds_offset 43 L (.int i :: .ref p :: st) (enc T) = if px_in i (sh p).2 then rn k_Ds_offset 44 L (.ref (T.2.2.1 i.toNatClampNeg) :: st) (enc T) else none := rn_aald dd_Ds_offset_43 (Prod.ext hp rfl)
theorem dd_Ds_offset_44 : decode (px_rw k_Ds_offset).2.1 44 = .ok (.astore 4, 2) := (by decide +kernel : decode prog_1_method_36_code 44 = .ok (.astore 4, 2))
theorem e_Ds_offset_44 (a0 a1 a2 a3 a4 a5 : Value) (x : Nat) (st : List Value) (g : px_G) : rn k_Ds_offset 44 [a0, a1, a2, a3, a4, a5] (.ref x :: st) g = rn k_Ds_offset 46 [a0, a1, a2, px_kill a3, .ref x, a5] st g := rn_next dd_Ds_offset_44 rfl
theorem dd_Ds_offset_46 : decode (px_rw k_Ds_offset).2.1 46 = .ok (.iload_n 2, 1) := (by decide +kernel : decode prog_1_method_36_code 46 = .ok (.iload_n 2, 1))
theorem e_Ds_offset_46 (a0 a1 a3 a4 a5 : Value) (x : Int32) (st : List Value) (g : px_G) : rn k_Ds_offset 46 [a0, a1, .int x, a3, a4, a5] st g = rn k_Ds_offset 47 [a0, a1, .int x, a3, a4, a5] (.int x :: st) g := rn_next dd_Ds_offset_46 rfl
theorem dd_Ds_offset_47 : decode (px_rw k_Ds_offset).2.1 47 = .ok (.aload 4, 2) := (by decide +kernel : decode prog_1_method_36_code 47 = .ok (.aload 4, 2))
theorem e_Ds_offset_47 (a0 a1 a2 a3 a5 : Value) (x : Nat) (st : List Value) (g : px_G) : rn k_Ds_offset 47 [a0, a1, a2, a3, .ref x, a5] st g = rn k_Ds_offset 49 [a0, a1, a2, a3, .ref x, a5] (.ref x :: st) g := rn_next dd_Ds_offset_47 rfl
theorem dd_Ds_offset_49 : decode (px_rw k_Ds_offset).2.1 49 = .ok (.getfield 123, 3) := (by decide +kernel : decode prog_1_method_36_code 49 = .ok (.getfield 123, 3))
theorem e_Ds_offset_49 (L : List Value) (p : Nat) (st : List Value) (T : TS) (hp : sh p = (104, 18)) : rn k_Ds_offset 49 L (.ref p :: st) (enc T) = rn k_Ds_offset 52 L (.int (T.1 p 5) :: st) (enc T) := rn_getI (n := 18) dd_Ds_offset_49 rfl (by decide) (by decide) (by decide) rfl hp
theorem dd_Ds_offset_52 : decode (px_rw k_Ds_offset).2.1 52 = .ok (.isub, 1) := (by decide +kernel : decode prog_1_method_36_code 52 = .ok (.isub, 1))
theorem e_Ds_offset_52 (L : List Value) (x y : Int32) (st : List Value) (g : px_G) : rn k_Ds_offset 52 L (.int y :: .int x :: st) g = rn k_Ds_offset 53 L (.int (x - y) :: st) g := rn_next dd_Ds_offset_52 rfl
theorem dd_Ds_offset_53 : decode (px_rw k_Ds_offset).2.1 53 = .ok (.invokestatic 351, 3) := (by decide +kernel : decode prog_1_method_36_code 53 = .ok (.invokestatic 351, 3))
theorem e_Ds_offset_53 (L : List Value) (i0 : Int32) (g : px_G) : rn k_Ds_offset 53 L [.int i0] g = bd (cl k_Math_abs_I [.int i0] g) (fun r g' => rn k_Ds_offset 56 L (r.toList ++ []) g') := rn_callS (As := [.int i0]) (rest := []) dd_Ds_offset_53 rfl (by decide) rfl rfl (Nat.le_of_ble_eq_true rfl) (Nat.le_of_ble_eq_true rfl)
theorem dd_Ds_offset_56 : decode (px_rw k_Ds_offset).2.1 56 = .ok (.iload_n 3, 1) := (by decide +kernel : decode prog_1_method_36_code 56 = .ok (.iload_n 3, 1))
theorem e_Ds_offset_56 (a0 a1 a2 a4 a5 : Value) (x : Int32) (st : List Value) (g : px_G) : rn k_Ds_offset 56 [a0, a1, a2, .int x, a4, a5] st g = rn k_Ds_offset 57 [a0, a1, a2, .int x, a4, a5] (.int x :: st) g := rn_next dd_Ds_offset_56 rfl
theorem dd_Ds_offset_57 : decode (px_rw k_Ds_offset).2.1 57 = .ok (.aload 4, 2) := (by decide +kernel : decode prog_1_method_36_code 57 = .ok (.aload 4, 2))
theorem e_Ds_offset_57 (a0 a1 a2 a3 a5 : Value) (x : Nat) (st : List Value) (g : px_G) : rn k_Ds_offset 57 [a0, a1, a2, a3, .ref x, a5] st g = rn k_Ds_offset 59 [a0, a1, a2, a3, .ref x, a5] (.ref x :: st) g := rn_next dd_Ds_offset_57 rfl
theorem dd_Ds_offset_59 : decode (px_rw k_Ds_offset).2.1 59 = .ok (.getfield 126, 3) := (by decide +kernel : decode prog_1_method_36_code 59 = .ok (.getfield 126, 3))
theorem e_Ds_offset_59 (L : List Value) (p : Nat) (st : List Value) (T : TS) (hp : sh p = (104, 18)) : rn k_Ds_offset 59 L (.ref p :: st) (enc T) = rn k_Ds_offset 62 L (.int (T.1 p 6) :: st) (enc T) := rn_getI (n := 18) dd_Ds_offset_59 rfl (by decide) (by decide) (by decide) rfl hp
theorem dd_Ds_offset_62 : decode (px_rw k_Ds_offset).2.1 62 = .ok (.isub, 1) := (by decide +kernel : decode prog_1_method_36_code 62 = .ok (.isub, 1))
theorem e_Ds_offset_62 (L : List Value) (x y : Int32) (st : List Value) (g : px_G) : rn k_Ds_offset 62 L (.int y :: .int x :: st) g = rn k_Ds_offset 63 L (.int (x - y) :: st) g := rn_next dd_Ds_offset_62 rfl
theorem dd_Ds_offset_63 : decode (px_rw k_Ds_offset).2.1 63 = .ok (.invokestatic 351, 3) := (by decide +kernel : decode prog_1_method_36_code 63 = .ok (.invokestatic 351, 3))
theorem e_Ds_offset_63 (L : List Value) (i0 : Int32) (i100 : Int32) (g : px_G) : rn k_Ds_offset 63 L [.int i0, .int i100] g = bd (cl k_Math_abs_I [.int i0] g) (fun r g' => rn k_Ds_offset 66 L (r.toList ++ [.int i100]) g') := rn_callS (As := [.int i0]) (rest := [.int i100]) dd_Ds_offset_63 rfl (by decide) rfl rfl (Nat.le_of_ble_eq_true rfl) (Nat.le_of_ble_eq_true rfl)
theorem dd_Ds_offset_66 : decode (px_rw k_Ds_offset).2.1 66 = .ok (.iadd, 1) := (by decide +kernel : decode prog_1_method_36_code 66 = .ok (.iadd, 1))
theorem e_Ds_offset_66 (L : List Value) (x y : Int32) (st : List Value) (g : px_G) : rn k_Ds_offset 66 L (.int y :: .int x :: st) g = rn k_Ds_offset 67 L (.int (x + y) :: st) g := rn_next dd_Ds_offset_66 rfl
theorem dd_Ds_offset_67 : decode (px_rw k_Ds_offset).2.1 67 = .ok (.istore 5, 2) := (by decide +kernel : decode prog_1_method_36_code 67 = .ok (.istore 5, 2))
theorem e_Ds_offset_67 (a0 a1 a2 a3 a4 a5 : Value) (x : Int32) (st : List Value) (g : px_G) : rn k_Ds_offset 67 [a0, a1, a2, a3, a4, a5] (.int x :: st) g = rn k_Ds_offset 69 [a0, a1, a2, a3, px_kill a4, .int x] st g := rn_next dd_Ds_offset_67 rfl
theorem dd_Ds_offset_69 : decode (px_rw k_Ds_offset).2.1 69 = .ok (.iload 5, 2) := (by decide +kernel : decode prog_1_method_36_code 69 = .ok (.iload 5, 2))
theorem e_Ds_offset_69 (a0 a1 a2 a3 a4 : Value) (x : Int32) (st : List Value) (g : px_G) : rn k_Ds_offset 69 [a0, a1, a2, a3, a4, .int x] st g = rn k_Ds_offset 71 [a0, a1, a2, a3, a4, .int x] (.int x :: st) g := rn_next dd_Ds_offset_69 rfl
theorem dd_Ds_offset_71 : decode (px_rw k_Ds_offset).2.1 71 = .ok (.ifCond .ne 9, 3) := (by decide +kernel : decode prog_1_method_36_code 71 = .ok (.ifCond .ne 9, 3))
theorem e_Ds_offset_71 (L : List Value) (x : Int32) (st : List Value) (g : px_G) : rn k_Ds_offset 71 L (.int x :: st) g = if x = 0 then rn k_Ds_offset 74 L st g else rn k_Ds_offset 80 L st g := rn_ifne dd_Ds_offset_71 (by decide)
theorem dd_Ds_offset_74 : decode (px_rw k_Ds_offset).2.1 74 = .ok (.aload_n 0, 1) := (by decide +kernel : decode prog_1_method_36_code 74 = .ok (.aload_n 0, 1))
theorem e_Ds_offset_74 (a1 a2 a3 a4 a5 : Value) (x : Nat) (st : List Value) (g : px_G) : rn k_Ds_offset 74 [.ref x, a1, a2, a3, a4, a5] st g = rn k_Ds_offset 75 [.ref x, a1, a2, a3, a4, a5] (.ref x :: st) g := rn_next dd_Ds_offset_74 rfl
theorem dd_Ds_offset_75 : decode (px_rw k_Ds_offset).2.1 75 = .ok (.iconst 2, 1) := (by decide +kernel : decode prog_1_method_36_code 75 = .ok (.iconst 2, 1))
theorem e_Ds_offset_75 (L st : List Value) (g : px_G) : rn k_Ds_offset 75 L st g = rn k_Ds_offset 76 L (.int 2 :: st) g := rn_ipush (i := .iconst 2) dd_Ds_offset_75 rfl rfl (by decide)
theorem dd_Ds_offset_76 : decode (px_rw k_Ds_offset).2.1 76 = .ok (.invokevirtual 342, 3) := (by decide +kernel : decode prog_1_method_36_code 76 = .ok (.invokevirtual 342, 3))
theorem e_Ds_offset_76 (L : List Value) (i0 : Int32)  (T : TS)  : rn k_Ds_offset 76 L [.int i0, .ref 0] (enc T) = bd (cl k_Ds_refuse [.ref 0, .int i0] (enc T)) (fun r g' => rn k_Ds_offset 79 L (r.toList ++ []) g') := rn_callV (n := 13) (As := [.int i0]) (rest := []) dd_Ds_offset_76 rfl (by decide) (by decide) rfl rfl (Nat.le_of_ble_eq_true rfl) (Nat.le_of_ble_eq_true rfl) rfl
theorem dd_Ds_offset_79 : decode (px_rw k_Ds_offset).2.1 79 = .ok (.ireturn, 1) := (by decide +kernel : decode prog_1_method_36_code 79 = .ok (.ireturn, 1))
theorem e_Ds_offset_79 (L : List Value) (v : Int32) (g : px_G) : rn k_Ds_offset 79 L [.int v] g = some (some (.int v), g) := rn_iret dd_Ds_offset_79 rfl
theorem dd_Ds_offset_80 : decode (px_rw k_Ds_offset).2.1 80 = .ok (.aload 4, 2) := (by decide +kernel : decode prog_1_method_36_code 80 = .ok (.aload 4, 2))
theorem e_Ds_offset_80 (a0 a1 a2 a3 a5 : Value) (x : Nat) (st : List Value) (g : px_G) : rn k_Ds_offset 80 [a0, a1, a2, a3, .ref x, a5] st g = rn k_Ds_offset 82 [a0, a1, a2, a3, .ref x, a5] (.ref x :: st) g := rn_next dd_Ds_offset_80 rfl
theorem dd_Ds_offset_82 : decode (px_rw k_Ds_offset).2.1 82 = .ok (.iload_n 2, 1) := (by decide +kernel : decode prog_1_method_36_code 82 = .ok (.iload_n 2, 1))
theorem e_Ds_offset_82 (a0 a1 a3 a4 a5 : Value) (x : Int32) (st : List Value) (g : px_G) : rn k_Ds_offset 82 [a0, a1, .int x, a3, a4, a5] st g = rn k_Ds_offset 83 [a0, a1, .int x, a3, a4, a5] (.int x :: st) g := rn_next dd_Ds_offset_82 rfl
theorem dd_Ds_offset_83 : decode (px_rw k_Ds_offset).2.1 83 = .ok (.putfield 123, 3) := (by decide +kernel : decode prog_1_method_36_code 83 = .ok (.putfield 123, 3))
theorem e_Ds_offset_83 (L : List Value) (x : Int32) (p : Nat) (st : List Value) (T : TS) (hp : sh p = (104, 18)) : rn k_Ds_offset 83 L (.int x :: .ref p :: st) (enc T) = rn k_Ds_offset 86 L st (enc (sI T p 5 x)) := rn_putI (n := 18) dd_Ds_offset_83 rfl (by decide) (by decide) (by decide) rfl hp
theorem dd_Ds_offset_86 : decode (px_rw k_Ds_offset).2.1 86 = .ok (.aload 4, 2) := (by decide +kernel : decode prog_1_method_36_code 86 = .ok (.aload 4, 2))
theorem e_Ds_offset_86 (a0 a1 a2 a3 a5 : Value) (x : Nat) (st : List Value) (g : px_G) : rn k_Ds_offset 86 [a0, a1, a2, a3, .ref x, a5] st g = rn k_Ds_offset 88 [a0, a1, a2, a3, .ref x, a5] (.ref x :: st) g := rn_next dd_Ds_offset_86 rfl
theorem dd_Ds_offset_88 : decode (px_rw k_Ds_offset).2.1 88 = .ok (.iload_n 3, 1) := (by decide +kernel : decode prog_1_method_36_code 88 = .ok (.iload_n 3, 1))
theorem e_Ds_offset_88 (a0 a1 a2 a4 a5 : Value) (x : Int32) (st : List Value) (g : px_G) : rn k_Ds_offset 88 [a0, a1, a2, .int x, a4, a5] st g = rn k_Ds_offset 89 [a0, a1, a2, .int x, a4, a5] (.int x :: st) g := rn_next dd_Ds_offset_88 rfl
theorem dd_Ds_offset_89 : decode (px_rw k_Ds_offset).2.1 89 = .ok (.putfield 126, 3) := (by decide +kernel : decode prog_1_method_36_code 89 = .ok (.putfield 126, 3))
theorem e_Ds_offset_89 (L : List Value) (x : Int32) (p : Nat) (st : List Value) (T : TS) (hp : sh p = (104, 18)) : rn k_Ds_offset 89 L (.int x :: .ref p :: st) (enc T) = rn k_Ds_offset 92 L st (enc (sI T p 6 x)) := rn_putI (n := 18) dd_Ds_offset_89 rfl (by decide) (by decide) (by decide) rfl hp
theorem dd_Ds_offset_92 : decode (px_rw k_Ds_offset).2.1 92 = .ok (.iload 5, 2) := (by decide +kernel : decode prog_1_method_36_code 92 = .ok (.iload 5, 2))
theorem e_Ds_offset_92 (a0 a1 a2 a3 a4 : Value) (x : Int32) (st : List Value) (g : px_G) : rn k_Ds_offset 92 [a0, a1, a2, a3, a4, .int x] st g = rn k_Ds_offset 94 [a0, a1, a2, a3, a4, .int x] (.int x :: st) g := rn_next dd_Ds_offset_92 rfl
theorem dd_Ds_offset_94 : decode (px_rw k_Ds_offset).2.1 94 = .ok (.ireturn, 1) := (by decide +kernel : decode prog_1_method_36_code 94 = .ok (.ireturn, 1))
theorem e_Ds_offset_94 (L : List Value) (v : Int32) (g : px_G) : rn k_Ds_offset 94 L [.int v] g = some (some (.int v), g) := rn_iret dd_Ds_offset_94 rfl
theorem c_Ds_swap (r0 : Nat) (i1 : Int32) (i2 : Int32) (g : px_G) : cl k_Ds_swap [.ref r0, .int i1, .int i2] g = rn k_Ds_swap 0 [.ref r0, .int i1, .int i2, .null] [] g := rfl
theorem dd_Ds_swap_0 : decode (px_rw k_Ds_swap).2.1 0 = .ok (.aload_n 0, 1) := (by decide +kernel : decode prog_1_method_37_code 0 = .ok (.aload_n 0, 1))
theorem e_Ds_swap_0 (a1 a2 a3 : Value) (x : Nat) (st : List Value) (g : px_G) : rn k_Ds_swap 0 [.ref x, a1, a2, a3] st g = rn k_Ds_swap 1 [.ref x, a1, a2, a3] (.ref x :: st) g := rn_next dd_Ds_swap_0 rfl
theorem dd_Ds_swap_1 : decode (px_rw k_Ds_swap).2.1 1 = .ok (.iload_n 1, 1) := (by decide +kernel : decode prog_1_method_37_code 1 = .ok (.iload_n 1, 1))
theorem e_Ds_swap_1 (a0 a2 a3 : Value) (x : Int32) (st : List Value) (g : px_G) : rn k_Ds_swap 1 [a0, .int x, a2, a3] st g = rn k_Ds_swap 2 [a0, .int x, a2, a3] (.int x :: st) g := rn_next dd_Ds_swap_1 rfl
theorem dd_Ds_swap_2 : decode (px_rw k_Ds_swap).2.1 2 = .ok (.invokevirtual 129, 3) := (by decide +kernel : decode prog_1_method_37_code 2 = .ok (.invokevirtual 129, 3))
theorem e_Ds_swap_2 (L : List Value) (i0 : Int32)  (T : TS)  : rn k_Ds_swap 2 L [.int i0, .ref 0] (enc T) = bd (cl k_Ds_isInk [.ref 0, .int i0] (enc T)) (fun r g' => rn k_Ds_swap 5 L (r.toList ++ []) g') := rn_callV (n := 13) (As := [.int i0]) (rest := []) dd_Ds_swap_2 rfl (by decide) (by decide) rfl rfl (Nat.le_of_ble_eq_true rfl) (Nat.le_of_ble_eq_true rfl) rfl
theorem dd_Ds_swap_5 : decode (px_rw k_Ds_swap).2.1 5 = .ok (.ifCond .eq 11, 3) := (by decide +kernel : decode prog_1_method_37_code 5 = .ok (.ifCond .eq 11, 3))
theorem e_Ds_swap_5 (L : List Value) (x : Int32) (st : List Value) (g : px_G) : rn k_Ds_swap 5 L (.int x :: st) g = if x = 0 then rn k_Ds_swap 16 L st g else rn k_Ds_swap 8 L st g := rn_ifeq dd_Ds_swap_5 (by decide)
theorem dd_Ds_swap_8 : decode (px_rw k_Ds_swap).2.1 8 = .ok (.aload_n 0, 1) := (by decide +kernel : decode prog_1_method_37_code 8 = .ok (.aload_n 0, 1))
theorem e_Ds_swap_8 (a1 a2 a3 : Value) (x : Nat) (st : List Value) (g : px_G) : rn k_Ds_swap 8 [.ref x, a1, a2, a3] st g = rn k_Ds_swap 9 [.ref x, a1, a2, a3] (.ref x :: st) g := rn_next dd_Ds_swap_8 rfl
theorem dd_Ds_swap_9 : decode (px_rw k_Ds_swap).2.1 9 = .ok (.iload_n 2, 1) := (by decide +kernel : decode prog_1_method_37_code 9 = .ok (.iload_n 2, 1))
theorem e_Ds_swap_9 (a0 a1 a3 : Value) (x : Int32) (st : List Value) (g : px_G) : rn k_Ds_swap 9 [a0, a1, .int x, a3] st g = rn k_Ds_swap 10 [a0, a1, .int x, a3] (.int x :: st) g := rn_next dd_Ds_swap_9 rfl
theorem dd_Ds_swap_10 : decode (px_rw k_Ds_swap).2.1 10 = .ok (.invokevirtual 129, 3) := (by decide +kernel : decode prog_1_method_37_code 10 = .ok (.invokevirtual 129, 3))
theorem e_Ds_swap_10 (L : List Value) (i0 : Int32)  (T : TS)  : rn k_Ds_swap 10 L [.int i0, .ref 0] (enc T) = bd (cl k_Ds_isInk [.ref 0, .int i0] (enc T)) (fun r g' => rn k_Ds_swap 13 L (r.toList ++ []) g') := rn_callV (n := 13) (As := [.int i0]) (rest := []) dd_Ds_swap_10 rfl (by decide) (by decide) rfl rfl (Nat.le_of_ble_eq_true rfl) (Nat.le_of_ble_eq_true rfl) rfl
theorem dd_Ds_swap_13 : decode (px_rw k_Ds_swap).2.1 13 = .ok (.ifCond .ne 11, 3) := (by decide +kernel : decode prog_1_method_37_code 13 = .ok (.ifCond .ne 11, 3))
theorem e_Ds_swap_13 (L : List Value) (x : Int32) (st : List Value) (g : px_G) : rn k_Ds_swap 13 L (.int x :: st) g = if x = 0 then rn k_Ds_swap 16 L st g else rn k_Ds_swap 24 L st g := rn_ifne dd_Ds_swap_13 (by decide)
theorem dd_Ds_swap_16 : decode (px_rw k_Ds_swap).2.1 16 = .ok (.aload_n 0, 1) := (by decide +kernel : decode prog_1_method_37_code 16 = .ok (.aload_n 0, 1))
theorem e_Ds_swap_16 (a1 a2 a3 : Value) (x : Nat) (st : List Value) (g : px_G) : rn k_Ds_swap 16 [.ref x, a1, a2, a3] st g = rn k_Ds_swap 17 [.ref x, a1, a2, a3] (.ref x :: st) g := rn_next dd_Ds_swap_16 rfl
theorem dd_Ds_swap_17 : decode (px_rw k_Ds_swap).2.1 17 = .ok (.iconst 0, 1) := (by decide +kernel : decode prog_1_method_37_code 17 = .ok (.iconst 0, 1))
theorem e_Ds_swap_17 (L st : List Value) (g : px_G) : rn k_Ds_swap 17 L st g = rn k_Ds_swap 18 L (.int 0 :: st) g := rn_ipush (i := .iconst 0) dd_Ds_swap_17 rfl rfl (by decide)
theorem dd_Ds_swap_18 : decode (px_rw k_Ds_swap).2.1 18 = .ok (.invokevirtual 342, 3) := (by decide +kernel : decode prog_1_method_37_code 18 = .ok (.invokevirtual 342, 3))
theorem e_Ds_swap_18 (L : List Value) (i0 : Int32)  (T : TS)  : rn k_Ds_swap 18 L [.int i0, .ref 0] (enc T) = bd (cl k_Ds_refuse [.ref 0, .int i0] (enc T)) (fun r g' => rn k_Ds_swap 21 L (r.toList ++ []) g') := rn_callV (n := 13) (As := [.int i0]) (rest := []) dd_Ds_swap_18 rfl (by decide) (by decide) rfl rfl (Nat.le_of_ble_eq_true rfl) (Nat.le_of_ble_eq_true rfl) rfl
theorem dd_Ds_swap_21 : decode (px_rw k_Ds_swap).2.1 21 = .ok (.pop, 1) := (by decide +kernel : decode prog_1_method_37_code 21 = .ok (.pop, 1))
theorem e_Ds_swap_21 (L : List Value) (x : Int32) (st : List Value) (g : px_G) : rn k_Ds_swap 21 L (.int x :: st) g = rn k_Ds_swap 22 L st g := rn_next dd_Ds_swap_21 rfl
theorem dd_Ds_swap_22 : decode (px_rw k_Ds_swap).2.1 22 = .ok (.iconst 0, 1) := (by decide +kernel : decode prog_1_method_37_code 22 = .ok (.iconst 0, 1))
theorem e_Ds_swap_22 (L st : List Value) (g : px_G) : rn k_Ds_swap 22 L st g = rn k_Ds_swap 23 L (.int 0 :: st) g := rn_ipush (i := .iconst 0) dd_Ds_swap_22 rfl rfl (by decide)
theorem dd_Ds_swap_23 : decode (px_rw k_Ds_swap).2.1 23 = .ok (.ireturn, 1) := (by decide +kernel : decode prog_1_method_37_code 23 = .ok (.ireturn, 1))
theorem e_Ds_swap_23 (L : List Value) (v : Int32) (g : px_G) (hv : v = 0 ∨ v = 1) : rn k_Ds_swap 23 L [.int v] g = some (some (.int v), g) := rn_zret dd_Ds_swap_23 rfl hv
theorem dd_Ds_swap_24 : decode (px_rw k_Ds_swap).2.1 24 = .ok (.iload_n 1, 1) := (by decide +kernel : decode prog_1_method_37_code 24 = .ok (.iload_n 1, 1))
theorem e_Ds_swap_24 (a0 a2 a3 : Value) (x : Int32) (st : List Value) (g : px_G) : rn k_Ds_swap 24 [a0, .int x, a2, a3] st g = rn k_Ds_swap 25 [a0, .int x, a2, a3] (.int x :: st) g := rn_next dd_Ds_swap_24 rfl
theorem dd_Ds_swap_25 : decode (px_rw k_Ds_swap).2.1 25 = .ok (.iload_n 2, 1) := (by decide +kernel : decode prog_1_method_37_code 25 = .ok (.iload_n 2, 1))
theorem e_Ds_swap_25 (a0 a1 a3 : Value) (x : Int32) (st : List Value) (g : px_G) : rn k_Ds_swap 25 [a0, a1, .int x, a3] st g = rn k_Ds_swap 26 [a0, a1, .int x, a3] (.int x :: st) g := rn_next dd_Ds_swap_25 rfl
theorem dd_Ds_swap_26 : decode (px_rw k_Ds_swap).2.1 26 = .ok (.if_icmp .ne 11, 3) := (by decide +kernel : decode prog_1_method_37_code 26 = .ok (.if_icmp .ne 11, 3))
theorem e_Ds_swap_26 (L : List Value) (x y : Int32) (st : List Value) (g : px_G) : rn k_Ds_swap 26 L (.int y :: .int x :: st) g = if x = y then rn k_Ds_swap 29 L st g else rn k_Ds_swap 37 L st g := rn_icne dd_Ds_swap_26 (by decide)
theorem dd_Ds_swap_29 : decode (px_rw k_Ds_swap).2.1 29 = .ok (.aload_n 0, 1) := (by decide +kernel : decode prog_1_method_37_code 29 = .ok (.aload_n 0, 1))
theorem e_Ds_swap_29 (a1 a2 a3 : Value) (x : Nat) (st : List Value) (g : px_G) : rn k_Ds_swap 29 [.ref x, a1, a2, a3] st g = rn k_Ds_swap 30 [.ref x, a1, a2, a3] (.ref x :: st) g := rn_next dd_Ds_swap_29 rfl
theorem dd_Ds_swap_30 : decode (px_rw k_Ds_swap).2.1 30 = .ok (.iconst 2, 1) := (by decide +kernel : decode prog_1_method_37_code 30 = .ok (.iconst 2, 1))
theorem e_Ds_swap_30 (L st : List Value) (g : px_G) : rn k_Ds_swap 30 L st g = rn k_Ds_swap 31 L (.int 2 :: st) g := rn_ipush (i := .iconst 2) dd_Ds_swap_30 rfl rfl (by decide)
theorem dd_Ds_swap_31 : decode (px_rw k_Ds_swap).2.1 31 = .ok (.invokevirtual 342, 3) := (by decide +kernel : decode prog_1_method_37_code 31 = .ok (.invokevirtual 342, 3))
theorem e_Ds_swap_31 (L : List Value) (i0 : Int32)  (T : TS)  : rn k_Ds_swap 31 L [.int i0, .ref 0] (enc T) = bd (cl k_Ds_refuse [.ref 0, .int i0] (enc T)) (fun r g' => rn k_Ds_swap 34 L (r.toList ++ []) g') := rn_callV (n := 13) (As := [.int i0]) (rest := []) dd_Ds_swap_31 rfl (by decide) (by decide) rfl rfl (Nat.le_of_ble_eq_true rfl) (Nat.le_of_ble_eq_true rfl) rfl
theorem dd_Ds_swap_34 : decode (px_rw k_Ds_swap).2.1 34 = .ok (.pop, 1) := (by decide +kernel : decode prog_1_method_37_code 34 = .ok (.pop, 1))
theorem e_Ds_swap_34 (L : List Value) (x : Int32) (st : List Value) (g : px_G) : rn k_Ds_swap 34 L (.int x :: st) g = rn k_Ds_swap 35 L st g := rn_next dd_Ds_swap_34 rfl
theorem dd_Ds_swap_35 : decode (px_rw k_Ds_swap).2.1 35 = .ok (.iconst 0, 1) := (by decide +kernel : decode prog_1_method_37_code 35 = .ok (.iconst 0, 1))
theorem e_Ds_swap_35 (L st : List Value) (g : px_G) : rn k_Ds_swap 35 L st g = rn k_Ds_swap 36 L (.int 0 :: st) g := rn_ipush (i := .iconst 0) dd_Ds_swap_35 rfl rfl (by decide)
theorem dd_Ds_swap_36 : decode (px_rw k_Ds_swap).2.1 36 = .ok (.ireturn, 1) := (by decide +kernel : decode prog_1_method_37_code 36 = .ok (.ireturn, 1))
theorem e_Ds_swap_36 (L : List Value) (v : Int32) (g : px_G) (hv : v = 0 ∨ v = 1) : rn k_Ds_swap 36 L [.int v] g = some (some (.int v), g) := rn_zret dd_Ds_swap_36 rfl hv
theorem dd_Ds_swap_37 : decode (px_rw k_Ds_swap).2.1 37 = .ok (.aload_n 0, 1) := (by decide +kernel : decode prog_1_method_37_code 37 = .ok (.aload_n 0, 1))
theorem e_Ds_swap_37 (a1 a2 a3 : Value) (x : Nat) (st : List Value) (g : px_G) : rn k_Ds_swap 37 [.ref x, a1, a2, a3] st g = rn k_Ds_swap 38 [.ref x, a1, a2, a3] (.ref x :: st) g := rn_next dd_Ds_swap_37 rfl
theorem dd_Ds_swap_38 : decode (px_rw k_Ds_swap).2.1 38 = .ok (.getfield 27, 3) := (by decide +kernel : decode prog_1_method_37_code 38 = .ok (.getfield 27, 3))
theorem e_Ds_swap_38 (L st : List Value) (T : TS) : rn k_Ds_swap 38 L (.ref 0 :: st) (enc T) = rn k_Ds_swap 41 L (.ref 5 :: st) (enc T) := rn_getA (n := 13) dd_Ds_swap_38 rfl (by decide) (by decide) (by decide) rfl rfl
theorem dd_Ds_swap_41 : decode (px_rw k_Ds_swap).2.1 41 = .ok (.iload_n 1, 1) := (by decide +kernel : decode prog_1_method_37_code 41 = .ok (.iload_n 1, 1))
theorem e_Ds_swap_41 (a0 a2 a3 : Value) (x : Int32) (st : List Value) (g : px_G) : rn k_Ds_swap 41 [a0, .int x, a2, a3] st g = rn k_Ds_swap 42 [a0, .int x, a2, a3] (.int x :: st) g := rn_next dd_Ds_swap_41 rfl
theorem dd_Ds_swap_42 : decode (px_rw k_Ds_swap).2.1 42 = .ok (.aaload, 1) := (by decide +kernel : decode prog_1_method_37_code 42 = .ok (.aaload, 1))
theorem e_Ds_swap_42 (L : List Value) (i : Int32) (p : Nat) (st : List Value) (T : TS) (hp : (sh p).1 = 3) : rn k_Ds_swap 42 L (.int i :: .ref p :: st) (enc T) = if px_in i (sh p).2 then rn k_Ds_swap 43 L (.ref (T.2.2.1 i.toNatClampNeg) :: st) (enc T) else none := rn_aald dd_Ds_swap_42 (Prod.ext hp rfl)
theorem dd_Ds_swap_43 : decode (px_rw k_Ds_swap).2.1 43 = .ok (.astore_n 3, 1) := (by decide +kernel : decode prog_1_method_37_code 43 = .ok (.astore_n 3, 1))
theorem e_Ds_swap_43 (a0 a1 a2 a3 : Value) (x : Nat) (st : List Value) (g : px_G) : rn k_Ds_swap 43 [a0, a1, a2, a3] (.ref x :: st) g = rn k_Ds_swap 44 [a0, a1, px_kill a2, .ref x] st g := rn_next dd_Ds_swap_43 rfl
theorem dd_Ds_swap_44 : decode (px_rw k_Ds_swap).2.1 44 = .ok (.aload_n 0, 1) := (by decide +kernel : decode prog_1_method_37_code 44 = .ok (.aload_n 0, 1))
theorem e_Ds_swap_44 (a1 a2 a3 : Value) (x : Nat) (st : List Value) (g : px_G) : rn k_Ds_swap 44 [.ref x, a1, a2, a3] st g = rn k_Ds_swap 45 [.ref x, a1, a2, a3] (.ref x :: st) g := rn_next dd_Ds_swap_44 rfl
theorem dd_Ds_swap_45 : decode (px_rw k_Ds_swap).2.1 45 = .ok (.getfield 27, 3) := (by decide +kernel : decode prog_1_method_37_code 45 = .ok (.getfield 27, 3))
theorem e_Ds_swap_45 (L st : List Value) (T : TS) : rn k_Ds_swap 45 L (.ref 0 :: st) (enc T) = rn k_Ds_swap 48 L (.ref 5 :: st) (enc T) := rn_getA (n := 13) dd_Ds_swap_45 rfl (by decide) (by decide) (by decide) rfl rfl
theorem dd_Ds_swap_48 : decode (px_rw k_Ds_swap).2.1 48 = .ok (.iload_n 1, 1) := (by decide +kernel : decode prog_1_method_37_code 48 = .ok (.iload_n 1, 1))
theorem e_Ds_swap_48 (a0 a2 a3 : Value) (x : Int32) (st : List Value) (g : px_G) : rn k_Ds_swap 48 [a0, .int x, a2, a3] st g = rn k_Ds_swap 49 [a0, .int x, a2, a3] (.int x :: st) g := rn_next dd_Ds_swap_48 rfl
theorem dd_Ds_swap_49 : decode (px_rw k_Ds_swap).2.1 49 = .ok (.aload_n 0, 1) := (by decide +kernel : decode prog_1_method_37_code 49 = .ok (.aload_n 0, 1))
theorem e_Ds_swap_49 (a1 a2 a3 : Value) (x : Nat) (st : List Value) (g : px_G) : rn k_Ds_swap 49 [.ref x, a1, a2, a3] st g = rn k_Ds_swap 50 [.ref x, a1, a2, a3] (.ref x :: st) g := rn_next dd_Ds_swap_49 rfl
theorem dd_Ds_swap_50 : decode (px_rw k_Ds_swap).2.1 50 = .ok (.getfield 27, 3) := (by decide +kernel : decode prog_1_method_37_code 50 = .ok (.getfield 27, 3))
theorem e_Ds_swap_50 (L st : List Value) (T : TS) : rn k_Ds_swap 50 L (.ref 0 :: st) (enc T) = rn k_Ds_swap 53 L (.ref 5 :: st) (enc T) := rn_getA (n := 13) dd_Ds_swap_50 rfl (by decide) (by decide) (by decide) rfl rfl
theorem dd_Ds_swap_53 : decode (px_rw k_Ds_swap).2.1 53 = .ok (.iload_n 2, 1) := (by decide +kernel : decode prog_1_method_37_code 53 = .ok (.iload_n 2, 1))
theorem e_Ds_swap_53 (a0 a1 a3 : Value) (x : Int32) (st : List Value) (g : px_G) : rn k_Ds_swap 53 [a0, a1, .int x, a3] st g = rn k_Ds_swap 54 [a0, a1, .int x, a3] (.int x :: st) g := rn_next dd_Ds_swap_53 rfl
theorem dd_Ds_swap_54 : decode (px_rw k_Ds_swap).2.1 54 = .ok (.aaload, 1) := (by decide +kernel : decode prog_1_method_37_code 54 = .ok (.aaload, 1))
theorem e_Ds_swap_54 (L : List Value) (i : Int32) (p : Nat) (st : List Value) (T : TS) (hp : (sh p).1 = 3) : rn k_Ds_swap 54 L (.int i :: .ref p :: st) (enc T) = if px_in i (sh p).2 then rn k_Ds_swap 55 L (.ref (T.2.2.1 i.toNatClampNeg) :: st) (enc T) else none := rn_aald dd_Ds_swap_54 (Prod.ext hp rfl)
theorem dd_Ds_swap_55 : decode (px_rw k_Ds_swap).2.1 55 = .ok (.aastore, 1) := (by decide +kernel : decode prog_1_method_37_code 55 = .ok (.aastore, 1))
theorem e_Ds_swap_55 (L : List Value) (v : Nat) (i : Int32) (p : Nat) (st : List Value) (T : TS) (hp : (sh p).1 = 3) (hv : sh v = (104, 18)) : rn k_Ds_swap 55 L (.ref v :: .int i :: .ref p :: st) (enc T) = if px_in i (sh p).2 then rn k_Ds_swap 56 L st (enc (sR T i.toNatClampNeg v)) else none := rn_aast dd_Ds_swap_55 (Prod.ext hp rfl) hv
theorem dd_Ds_swap_56 : decode (px_rw k_Ds_swap).2.1 56 = .ok (.aload_n 0, 1) := (by decide +kernel : decode prog_1_method_37_code 56 = .ok (.aload_n 0, 1))
theorem e_Ds_swap_56 (a1 a2 a3 : Value) (x : Nat) (st : List Value) (g : px_G) : rn k_Ds_swap 56 [.ref x, a1, a2, a3] st g = rn k_Ds_swap 57 [.ref x, a1, a2, a3] (.ref x :: st) g := rn_next dd_Ds_swap_56 rfl
theorem dd_Ds_swap_57 : decode (px_rw k_Ds_swap).2.1 57 = .ok (.getfield 27, 3) := (by decide +kernel : decode prog_1_method_37_code 57 = .ok (.getfield 27, 3))
theorem e_Ds_swap_57 (L st : List Value) (T : TS) : rn k_Ds_swap 57 L (.ref 0 :: st) (enc T) = rn k_Ds_swap 60 L (.ref 5 :: st) (enc T) := rn_getA (n := 13) dd_Ds_swap_57 rfl (by decide) (by decide) (by decide) rfl rfl
theorem dd_Ds_swap_60 : decode (px_rw k_Ds_swap).2.1 60 = .ok (.iload_n 2, 1) := (by decide +kernel : decode prog_1_method_37_code 60 = .ok (.iload_n 2, 1))
theorem e_Ds_swap_60 (a0 a1 a3 : Value) (x : Int32) (st : List Value) (g : px_G) : rn k_Ds_swap 60 [a0, a1, .int x, a3] st g = rn k_Ds_swap 61 [a0, a1, .int x, a3] (.int x :: st) g := rn_next dd_Ds_swap_60 rfl
theorem dd_Ds_swap_61 : decode (px_rw k_Ds_swap).2.1 61 = .ok (.aload_n 3, 1) := (by decide +kernel : decode prog_1_method_37_code 61 = .ok (.aload_n 3, 1))
theorem e_Ds_swap_61 (a0 a1 a2 : Value) (x : Nat) (st : List Value) (g : px_G) : rn k_Ds_swap 61 [a0, a1, a2, .ref x] st g = rn k_Ds_swap 62 [a0, a1, a2, .ref x] (.ref x :: st) g := rn_next dd_Ds_swap_61 rfl
theorem dd_Ds_swap_62 : decode (px_rw k_Ds_swap).2.1 62 = .ok (.aastore, 1) := (by decide +kernel : decode prog_1_method_37_code 62 = .ok (.aastore, 1))
theorem e_Ds_swap_62 (L : List Value) (v : Nat) (i : Int32) (p : Nat) (st : List Value) (T : TS) (hp : (sh p).1 = 3) (hv : sh v = (104, 18)) : rn k_Ds_swap 62 L (.ref v :: .int i :: .ref p :: st) (enc T) = if px_in i (sh p).2 then rn k_Ds_swap 63 L st (enc (sR T i.toNatClampNeg v)) else none := rn_aast dd_Ds_swap_62 (Prod.ext hp rfl) hv
theorem dd_Ds_swap_63 : decode (px_rw k_Ds_swap).2.1 63 = .ok (.iconst 1, 1) := (by decide +kernel : decode prog_1_method_37_code 63 = .ok (.iconst 1, 1))
theorem e_Ds_swap_63 (L st : List Value) (g : px_G) : rn k_Ds_swap 63 L st g = rn k_Ds_swap 64 L (.int 1 :: st) g := rn_ipush (i := .iconst 1) dd_Ds_swap_63 rfl rfl (by decide)
theorem dd_Ds_swap_64 : decode (px_rw k_Ds_swap).2.1 64 = .ok (.ireturn, 1) := (by decide +kernel : decode prog_1_method_37_code 64 = .ok (.ireturn, 1))
theorem e_Ds_swap_64 (L : List Value) (v : Int32) (g : px_G) (hv : v = 0 ∨ v = 1) : rn k_Ds_swap 64 L [.int v] g = some (some (.int v), g) := rn_zret dd_Ds_swap_64 rfl hv
theorem c_Ds_drop (r0 : Nat) (i1 : Int32) (g : px_G) : cl k_Ds_drop [.ref r0, .int i1] g = rn k_Ds_drop 0 [.ref r0, .int i1, .null, .null] [] g := rfl
theorem dd_Ds_drop_0 : decode (px_rw k_Ds_drop).2.1 0 = .ok (.aload_n 0, 1) := (by decide +kernel : decode prog_1_method_38_code 0 = .ok (.aload_n 0, 1))
theorem e_Ds_drop_0 (a1 a2 a3 : Value) (x : Nat) (st : List Value) (g : px_G) : rn k_Ds_drop 0 [.ref x, a1, a2, a3] st g = rn k_Ds_drop 1 [.ref x, a1, a2, a3] (.ref x :: st) g := rn_next dd_Ds_drop_0 rfl
theorem dd_Ds_drop_1 : decode (px_rw k_Ds_drop).2.1 1 = .ok (.iload_n 1, 1) := (by decide +kernel : decode prog_1_method_38_code 1 = .ok (.iload_n 1, 1))
theorem e_Ds_drop_1 (a0 a2 a3 : Value) (x : Int32) (st : List Value) (g : px_G) : rn k_Ds_drop 1 [a0, .int x, a2, a3] st g = rn k_Ds_drop 2 [a0, .int x, a2, a3] (.int x :: st) g := rn_next dd_Ds_drop_1 rfl
theorem dd_Ds_drop_2 : decode (px_rw k_Ds_drop).2.1 2 = .ok (.invokevirtual 129, 3) := (by decide +kernel : decode prog_1_method_38_code 2 = .ok (.invokevirtual 129, 3))
theorem e_Ds_drop_2 (L : List Value) (i0 : Int32)  (T : TS)  : rn k_Ds_drop 2 L [.int i0, .ref 0] (enc T) = bd (cl k_Ds_isInk [.ref 0, .int i0] (enc T)) (fun r g' => rn k_Ds_drop 5 L (r.toList ++ []) g') := rn_callV (n := 13) (As := [.int i0]) (rest := []) dd_Ds_drop_2 rfl (by decide) (by decide) rfl rfl (Nat.le_of_ble_eq_true rfl) (Nat.le_of_ble_eq_true rfl) rfl
theorem dd_Ds_drop_5 : decode (px_rw k_Ds_drop).2.1 5 = .ok (.ifCond .ne 9, 3) := (by decide +kernel : decode prog_1_method_38_code 5 = .ok (.ifCond .ne 9, 3))
theorem e_Ds_drop_5 (L : List Value) (x : Int32) (st : List Value) (g : px_G) : rn k_Ds_drop 5 L (.int x :: st) g = if x = 0 then rn k_Ds_drop 8 L st g else rn k_Ds_drop 14 L st g := rn_ifne dd_Ds_drop_5 (by decide)
theorem dd_Ds_drop_8 : decode (px_rw k_Ds_drop).2.1 8 = .ok (.aload_n 0, 1) := (by decide +kernel : decode prog_1_method_38_code 8 = .ok (.aload_n 0, 1))
theorem e_Ds_drop_8 (a1 a2 a3 : Value) (x : Nat) (st : List Value) (g : px_G) : rn k_Ds_drop 8 [.ref x, a1, a2, a3] st g = rn k_Ds_drop 9 [.ref x, a1, a2, a3] (.ref x :: st) g := rn_next dd_Ds_drop_8 rfl
theorem dd_Ds_drop_9 : decode (px_rw k_Ds_drop).2.1 9 = .ok (.iconst 0, 1) := (by decide +kernel : decode prog_1_method_38_code 9 = .ok (.iconst 0, 1))
theorem e_Ds_drop_9 (L st : List Value) (g : px_G) : rn k_Ds_drop 9 L st g = rn k_Ds_drop 10 L (.int 0 :: st) g := rn_ipush (i := .iconst 0) dd_Ds_drop_9 rfl rfl (by decide)
theorem dd_Ds_drop_10 : decode (px_rw k_Ds_drop).2.1 10 = .ok (.invokevirtual 342, 3) := (by decide +kernel : decode prog_1_method_38_code 10 = .ok (.invokevirtual 342, 3))
theorem e_Ds_drop_10 (L : List Value) (i0 : Int32)  (T : TS)  : rn k_Ds_drop 10 L [.int i0, .ref 0] (enc T) = bd (cl k_Ds_refuse [.ref 0, .int i0] (enc T)) (fun r g' => rn k_Ds_drop 13 L (r.toList ++ []) g') := rn_callV (n := 13) (As := [.int i0]) (rest := []) dd_Ds_drop_10 rfl (by decide) (by decide) rfl rfl (Nat.le_of_ble_eq_true rfl) (Nat.le_of_ble_eq_true rfl) rfl
theorem dd_Ds_drop_13 : decode (px_rw k_Ds_drop).2.1 13 = .ok (.ireturn, 1) := (by decide +kernel : decode prog_1_method_38_code 13 = .ok (.ireturn, 1))
theorem e_Ds_drop_13 (L : List Value) (v : Int32) (g : px_G) : rn k_Ds_drop 13 L [.int v] g = some (some (.int v), g) := rn_iret dd_Ds_drop_13 rfl
theorem dd_Ds_drop_14 : decode (px_rw k_Ds_drop).2.1 14 = .ok (.aload_n 0, 1) := (by decide +kernel : decode prog_1_method_38_code 14 = .ok (.aload_n 0, 1))
theorem e_Ds_drop_14 (a1 a2 a3 : Value) (x : Nat) (st : List Value) (g : px_G) : rn k_Ds_drop 14 [.ref x, a1, a2, a3] st g = rn k_Ds_drop 15 [.ref x, a1, a2, a3] (.ref x :: st) g := rn_next dd_Ds_drop_14 rfl
theorem dd_Ds_drop_15 : decode (px_rw k_Ds_drop).2.1 15 = .ok (.getfield 27, 3) := (by decide +kernel : decode prog_1_method_38_code 15 = .ok (.getfield 27, 3))
theorem e_Ds_drop_15 (L st : List Value) (T : TS) : rn k_Ds_drop 15 L (.ref 0 :: st) (enc T) = rn k_Ds_drop 18 L (.ref 5 :: st) (enc T) := rn_getA (n := 13) dd_Ds_drop_15 rfl (by decide) (by decide) (by decide) rfl rfl
theorem dd_Ds_drop_18 : decode (px_rw k_Ds_drop).2.1 18 = .ok (.iload_n 1, 1) := (by decide +kernel : decode prog_1_method_38_code 18 = .ok (.iload_n 1, 1))
theorem e_Ds_drop_18 (a0 a2 a3 : Value) (x : Int32) (st : List Value) (g : px_G) : rn k_Ds_drop 18 [a0, .int x, a2, a3] st g = rn k_Ds_drop 19 [a0, .int x, a2, a3] (.int x :: st) g := rn_next dd_Ds_drop_18 rfl
theorem dd_Ds_drop_19 : decode (px_rw k_Ds_drop).2.1 19 = .ok (.aaload, 1) := (by decide +kernel : decode prog_1_method_38_code 19 = .ok (.aaload, 1))
theorem e_Ds_drop_19 (L : List Value) (i : Int32) (p : Nat) (st : List Value) (T : TS) (hp : (sh p).1 = 3) : rn k_Ds_drop 19 L (.int i :: .ref p :: st) (enc T) = if px_in i (sh p).2 then rn k_Ds_drop 20 L (.ref (T.2.2.1 i.toNatClampNeg) :: st) (enc T) else none := rn_aald dd_Ds_drop_19 (Prod.ext hp rfl)
theorem dd_Ds_drop_20 : decode (px_rw k_Ds_drop).2.1 20 = .ok (.astore_n 2, 1) := (by decide +kernel : decode prog_1_method_38_code 20 = .ok (.astore_n 2, 1))
theorem e_Ds_drop_20 (a0 a1 a2 a3 : Value) (x : Nat) (st : List Value) (g : px_G) : rn k_Ds_drop 20 [a0, a1, a2, a3] (.ref x :: st) g = rn k_Ds_drop 21 [a0, px_kill a1, .ref x, a3] st g := rn_next dd_Ds_drop_20 rfl
theorem dd_Ds_drop_21 : decode (px_rw k_Ds_drop).2.1 21 = .ok (.iload_n 1, 1) := (by decide +kernel : decode prog_1_method_38_code 21 = .ok (.iload_n 1, 1))
theorem e_Ds_drop_21 (a0 a2 a3 : Value) (x : Int32) (st : List Value) (g : px_G) : rn k_Ds_drop 21 [a0, .int x, a2, a3] st g = rn k_Ds_drop 22 [a0, .int x, a2, a3] (.int x :: st) g := rn_next dd_Ds_drop_21 rfl
theorem dd_Ds_drop_22 : decode (px_rw k_Ds_drop).2.1 22 = .ok (.istore_n 3, 1) := (by decide +kernel : decode prog_1_method_38_code 22 = .ok (.istore_n 3, 1))
theorem e_Ds_drop_22 (a0 a1 a2 a3 : Value) (x : Int32) (st : List Value) (g : px_G) : rn k_Ds_drop 22 [a0, a1, a2, a3] (.int x :: st) g = rn k_Ds_drop 23 [a0, a1, px_kill a2, .int x] st g := rn_next dd_Ds_drop_22 rfl
theorem dd_Ds_drop_23 : decode (px_rw k_Ds_drop).2.1 23 = .ok (.iload_n 3, 1) := (by decide +kernel : decode prog_1_method_38_code 23 = .ok (.iload_n 3, 1))
theorem e_Ds_drop_23 (a0 a1 a2 : Value) (x : Int32) (st : List Value) (g : px_G) : rn k_Ds_drop 23 [a0, a1, a2, .int x] st g = rn k_Ds_drop 24 [a0, a1, a2, .int x] (.int x :: st) g := rn_next dd_Ds_drop_23 rfl
theorem dd_Ds_drop_24 : decode (px_rw k_Ds_drop).2.1 24 = .ok (.aload_n 0, 1) := (by decide +kernel : decode prog_1_method_38_code 24 = .ok (.aload_n 0, 1))
theorem e_Ds_drop_24 (a1 a2 a3 : Value) (x : Nat) (st : List Value) (g : px_G) : rn k_Ds_drop 24 [.ref x, a1, a2, a3] st g = rn k_Ds_drop 25 [.ref x, a1, a2, a3] (.ref x :: st) g := rn_next dd_Ds_drop_24 rfl
theorem dd_Ds_drop_25 : decode (px_rw k_Ds_drop).2.1 25 = .ok (.getfield 96, 3) := (by decide +kernel : decode prog_1_method_38_code 25 = .ok (.getfield 96, 3))
theorem e_Ds_drop_25 (L st : List Value) (T : TS) : rn k_Ds_drop 25 L (.ref 0 :: st) (enc T) = rn k_Ds_drop 28 L (.int (T.1 0 3) :: st) (enc T) := rn_getI (n := 13) dd_Ds_drop_25 rfl (by decide) (by decide) (by decide) rfl rfl
theorem dd_Ds_drop_28 : decode (px_rw k_Ds_drop).2.1 28 = .ok (.iconst 1, 1) := (by decide +kernel : decode prog_1_method_38_code 28 = .ok (.iconst 1, 1))
theorem e_Ds_drop_28 (L st : List Value) (g : px_G) : rn k_Ds_drop 28 L st g = rn k_Ds_drop 29 L (.int 1 :: st) g := rn_ipush (i := .iconst 1) dd_Ds_drop_28 rfl rfl (by decide)
theorem dd_Ds_drop_29 : decode (px_rw k_Ds_drop).2.1 29 = .ok (.isub, 1) := (by decide +kernel : decode prog_1_method_38_code 29 = .ok (.isub, 1))
theorem e_Ds_drop_29 (L : List Value) (x y : Int32) (st : List Value) (g : px_G) : rn k_Ds_drop 29 L (.int y :: .int x :: st) g = rn k_Ds_drop 30 L (.int (x - y) :: st) g := rn_next dd_Ds_drop_29 rfl
theorem dd_Ds_drop_30 : decode (px_rw k_Ds_drop).2.1 30 = .ok (.if_icmp .ge 23, 3) := (by decide +kernel : decode prog_1_method_38_code 30 = .ok (.if_icmp .ge 23, 3))
theorem e_Ds_drop_30 (L : List Value) (x y : Int32) (st : List Value) (g : px_G) : rn k_Ds_drop 30 L (.int y :: .int x :: st) g = if y ≤ x then rn k_Ds_drop 53 L st g else rn k_Ds_drop 33 L st g := rn_icge dd_Ds_drop_30 (by decide)
theorem dd_Ds_drop_33 : decode (px_rw k_Ds_drop).2.1 33 = .ok (.aload_n 0, 1) := (by decide +kernel : decode prog_1_method_38_code 33 = .ok (.aload_n 0, 1))
theorem e_Ds_drop_33 (a1 a2 a3 : Value) (x : Nat) (st : List Value) (g : px_G) : rn k_Ds_drop 33 [.ref x, a1, a2, a3] st g = rn k_Ds_drop 34 [.ref x, a1, a2, a3] (.ref x :: st) g := rn_next dd_Ds_drop_33 rfl
theorem dd_Ds_drop_34 : decode (px_rw k_Ds_drop).2.1 34 = .ok (.getfield 27, 3) := (by decide +kernel : decode prog_1_method_38_code 34 = .ok (.getfield 27, 3))
theorem e_Ds_drop_34 (L st : List Value) (T : TS) : rn k_Ds_drop 34 L (.ref 0 :: st) (enc T) = rn k_Ds_drop 37 L (.ref 5 :: st) (enc T) := rn_getA (n := 13) dd_Ds_drop_34 rfl (by decide) (by decide) (by decide) rfl rfl
theorem dd_Ds_drop_37 : decode (px_rw k_Ds_drop).2.1 37 = .ok (.iload_n 3, 1) := (by decide +kernel : decode prog_1_method_38_code 37 = .ok (.iload_n 3, 1))
theorem e_Ds_drop_37 (a0 a1 a2 : Value) (x : Int32) (st : List Value) (g : px_G) : rn k_Ds_drop 37 [a0, a1, a2, .int x] st g = rn k_Ds_drop 38 [a0, a1, a2, .int x] (.int x :: st) g := rn_next dd_Ds_drop_37 rfl
theorem dd_Ds_drop_38 : decode (px_rw k_Ds_drop).2.1 38 = .ok (.aload_n 0, 1) := (by decide +kernel : decode prog_1_method_38_code 38 = .ok (.aload_n 0, 1))
theorem e_Ds_drop_38 (a1 a2 a3 : Value) (x : Nat) (st : List Value) (g : px_G) : rn k_Ds_drop 38 [.ref x, a1, a2, a3] st g = rn k_Ds_drop 39 [.ref x, a1, a2, a3] (.ref x :: st) g := rn_next dd_Ds_drop_38 rfl
theorem dd_Ds_drop_39 : decode (px_rw k_Ds_drop).2.1 39 = .ok (.getfield 27, 3) := (by decide +kernel : decode prog_1_method_38_code 39 = .ok (.getfield 27, 3))
theorem e_Ds_drop_39 (L st : List Value) (T : TS) : rn k_Ds_drop 39 L (.ref 0 :: st) (enc T) = rn k_Ds_drop 42 L (.ref 5 :: st) (enc T) := rn_getA (n := 13) dd_Ds_drop_39 rfl (by decide) (by decide) (by decide) rfl rfl
theorem dd_Ds_drop_42 : decode (px_rw k_Ds_drop).2.1 42 = .ok (.iload_n 3, 1) := (by decide +kernel : decode prog_1_method_38_code 42 = .ok (.iload_n 3, 1))
theorem e_Ds_drop_42 (a0 a1 a2 : Value) (x : Int32) (st : List Value) (g : px_G) : rn k_Ds_drop 42 [a0, a1, a2, .int x] st g = rn k_Ds_drop 43 [a0, a1, a2, .int x] (.int x :: st) g := rn_next dd_Ds_drop_42 rfl
theorem dd_Ds_drop_43 : decode (px_rw k_Ds_drop).2.1 43 = .ok (.iconst 1, 1) := (by decide +kernel : decode prog_1_method_38_code 43 = .ok (.iconst 1, 1))
theorem e_Ds_drop_43 (L st : List Value) (g : px_G) : rn k_Ds_drop 43 L st g = rn k_Ds_drop 44 L (.int 1 :: st) g := rn_ipush (i := .iconst 1) dd_Ds_drop_43 rfl rfl (by decide)
theorem dd_Ds_drop_44 : decode (px_rw k_Ds_drop).2.1 44 = .ok (.iadd, 1) := (by decide +kernel : decode prog_1_method_38_code 44 = .ok (.iadd, 1))
theorem e_Ds_drop_44 (L : List Value) (x y : Int32) (st : List Value) (g : px_G) : rn k_Ds_drop 44 L (.int y :: .int x :: st) g = rn k_Ds_drop 45 L (.int (x + y) :: st) g := rn_next dd_Ds_drop_44 rfl
theorem dd_Ds_drop_45 : decode (px_rw k_Ds_drop).2.1 45 = .ok (.aaload, 1) := (by decide +kernel : decode prog_1_method_38_code 45 = .ok (.aaload, 1))
theorem e_Ds_drop_45 (L : List Value) (i : Int32) (p : Nat) (st : List Value) (T : TS) (hp : (sh p).1 = 3) : rn k_Ds_drop 45 L (.int i :: .ref p :: st) (enc T) = if px_in i (sh p).2 then rn k_Ds_drop 46 L (.ref (T.2.2.1 i.toNatClampNeg) :: st) (enc T) else none := rn_aald dd_Ds_drop_45 (Prod.ext hp rfl)
theorem dd_Ds_drop_46 : decode (px_rw k_Ds_drop).2.1 46 = .ok (.aastore, 1) := (by decide +kernel : decode prog_1_method_38_code 46 = .ok (.aastore, 1))
theorem e_Ds_drop_46 (L : List Value) (v : Nat) (i : Int32) (p : Nat) (st : List Value) (T : TS) (hp : (sh p).1 = 3) (hv : sh v = (104, 18)) : rn k_Ds_drop 46 L (.ref v :: .int i :: .ref p :: st) (enc T) = if px_in i (sh p).2 then rn k_Ds_drop 47 L st (enc (sR T i.toNatClampNeg v)) else none := rn_aast dd_Ds_drop_46 (Prod.ext hp rfl) hv
theorem dd_Ds_drop_47 : decode (px_rw k_Ds_drop).2.1 47 = .ok (.iinc 3 1, 3) := (by decide +kernel : decode prog_1_method_38_code 47 = .ok (.iinc 3 1, 3))
theorem e_Ds_drop_47 (a0 a1 a2 : Value) (x : Int32) (st : List Value) (g : px_G) : rn k_Ds_drop 47 [a0, a1, a2, .int x] st g = rn k_Ds_drop 50 [a0, a1, px_kill a2, .int (x + 1)] st g := rn_next dd_Ds_drop_47 rfl
theorem dd_Ds_drop_50 : decode (px_rw k_Ds_drop).2.1 50 = .ok (.goto (-27), 3) := (by decide +kernel : decode prog_1_method_38_code 50 = .ok (.goto (-27), 3))
theorem e_Ds_drop_50 (L st : List Value) (g : px_G) : rn k_Ds_drop 50 L st g = rn k_Ds_drop 23 L st g := rn_goto dd_Ds_drop_50 (by decide)
theorem dd_Ds_drop_53 : decode (px_rw k_Ds_drop).2.1 53 = .ok (.aload_n 0, 1) := (by decide +kernel : decode prog_1_method_38_code 53 = .ok (.aload_n 0, 1))
theorem e_Ds_drop_53 (a1 a2 a3 : Value) (x : Nat) (st : List Value) (g : px_G) : rn k_Ds_drop 53 [.ref x, a1, a2, a3] st g = rn k_Ds_drop 54 [.ref x, a1, a2, a3] (.ref x :: st) g := rn_next dd_Ds_drop_53 rfl
theorem dd_Ds_drop_54 : decode (px_rw k_Ds_drop).2.1 54 = .ok (.dup, 1) := (by decide +kernel : decode prog_1_method_38_code 54 = .ok (.dup, 1))
theorem e_Ds_drop_54 (L : List Value) (x : Nat) (st : List Value) (g : px_G) : rn k_Ds_drop 54 L (.ref x :: st) g = rn k_Ds_drop 55 L (.ref x :: .ref x :: st) g := rn_next dd_Ds_drop_54 rfl
theorem dd_Ds_drop_55 : decode (px_rw k_Ds_drop).2.1 55 = .ok (.getfield 96, 3) := (by decide +kernel : decode prog_1_method_38_code 55 = .ok (.getfield 96, 3))
theorem e_Ds_drop_55 (L st : List Value) (T : TS) : rn k_Ds_drop 55 L (.ref 0 :: st) (enc T) = rn k_Ds_drop 58 L (.int (T.1 0 3) :: st) (enc T) := rn_getI (n := 13) dd_Ds_drop_55 rfl (by decide) (by decide) (by decide) rfl rfl
theorem dd_Ds_drop_58 : decode (px_rw k_Ds_drop).2.1 58 = .ok (.iconst 1, 1) := (by decide +kernel : decode prog_1_method_38_code 58 = .ok (.iconst 1, 1))
theorem e_Ds_drop_58 (L st : List Value) (g : px_G) : rn k_Ds_drop 58 L st g = rn k_Ds_drop 59 L (.int 1 :: st) g := rn_ipush (i := .iconst 1) dd_Ds_drop_58 rfl rfl (by decide)
theorem dd_Ds_drop_59 : decode (px_rw k_Ds_drop).2.1 59 = .ok (.isub, 1) := (by decide +kernel : decode prog_1_method_38_code 59 = .ok (.isub, 1))
theorem e_Ds_drop_59 (L : List Value) (x y : Int32) (st : List Value) (g : px_G) : rn k_Ds_drop 59 L (.int y :: .int x :: st) g = rn k_Ds_drop 60 L (.int (x - y) :: st) g := rn_next dd_Ds_drop_59 rfl
theorem dd_Ds_drop_60 : decode (px_rw k_Ds_drop).2.1 60 = .ok (.putfield 96, 3) := (by decide +kernel : decode prog_1_method_38_code 60 = .ok (.putfield 96, 3))
theorem e_Ds_drop_60 (L : List Value) (x : Int32) (st : List Value) (T : TS) : rn k_Ds_drop 60 L (.int x :: .ref 0 :: st) (enc T) = rn k_Ds_drop 63 L st (enc (sI T 0 3 x)) := rn_putI (n := 13) dd_Ds_drop_60 rfl (by decide) (by decide) (by decide) rfl rfl
theorem dd_Ds_drop_63 : decode (px_rw k_Ds_drop).2.1 63 = .ok (.aload_n 0, 1) := (by decide +kernel : decode prog_1_method_38_code 63 = .ok (.aload_n 0, 1))
theorem e_Ds_drop_63 (a1 a2 a3 : Value) (x : Nat) (st : List Value) (g : px_G) : rn k_Ds_drop 63 [.ref x, a1, a2, a3] st g = rn k_Ds_drop 64 [.ref x, a1, a2, a3] (.ref x :: st) g := rn_next dd_Ds_drop_63 rfl
theorem dd_Ds_drop_64 : decode (px_rw k_Ds_drop).2.1 64 = .ok (.getfield 27, 3) := (by decide +kernel : decode prog_1_method_38_code 64 = .ok (.getfield 27, 3))
theorem e_Ds_drop_64 (L st : List Value) (T : TS) : rn k_Ds_drop 64 L (.ref 0 :: st) (enc T) = rn k_Ds_drop 67 L (.ref 5 :: st) (enc T) := rn_getA (n := 13) dd_Ds_drop_64 rfl (by decide) (by decide) (by decide) rfl rfl
theorem dd_Ds_drop_67 : decode (px_rw k_Ds_drop).2.1 67 = .ok (.aload_n 0, 1) := (by decide +kernel : decode prog_1_method_38_code 67 = .ok (.aload_n 0, 1))
theorem e_Ds_drop_67 (a1 a2 a3 : Value) (x : Nat) (st : List Value) (g : px_G) : rn k_Ds_drop 67 [.ref x, a1, a2, a3] st g = rn k_Ds_drop 68 [.ref x, a1, a2, a3] (.ref x :: st) g := rn_next dd_Ds_drop_67 rfl
theorem dd_Ds_drop_68 : decode (px_rw k_Ds_drop).2.1 68 = .ok (.getfield 96, 3) := (by decide +kernel : decode prog_1_method_38_code 68 = .ok (.getfield 96, 3))
theorem e_Ds_drop_68 (L st : List Value) (T : TS) : rn k_Ds_drop 68 L (.ref 0 :: st) (enc T) = rn k_Ds_drop 71 L (.int (T.1 0 3) :: st) (enc T) := rn_getI (n := 13) dd_Ds_drop_68 rfl (by decide) (by decide) (by decide) rfl rfl
theorem dd_Ds_drop_71 : decode (px_rw k_Ds_drop).2.1 71 = .ok (.aload_n 2, 1) := (by decide +kernel : decode prog_1_method_38_code 71 = .ok (.aload_n 2, 1))
theorem e_Ds_drop_71 (a0 a1 a3 : Value) (x : Nat) (st : List Value) (g : px_G) : rn k_Ds_drop 71 [a0, a1, .ref x, a3] st g = rn k_Ds_drop 72 [a0, a1, .ref x, a3] (.ref x :: st) g := rn_next dd_Ds_drop_71 rfl
theorem dd_Ds_drop_72 : decode (px_rw k_Ds_drop).2.1 72 = .ok (.aastore, 1) := (by decide +kernel : decode prog_1_method_38_code 72 = .ok (.aastore, 1))
theorem e_Ds_drop_72 (L : List Value) (v : Nat) (i : Int32) (p : Nat) (st : List Value) (T : TS) (hp : (sh p).1 = 3) (hv : sh v = (104, 18)) : rn k_Ds_drop 72 L (.ref v :: .int i :: .ref p :: st) (enc T) = if px_in i (sh p).2 then rn k_Ds_drop 73 L st (enc (sR T i.toNatClampNeg v)) else none := rn_aast dd_Ds_drop_72 (Prod.ext hp rfl) hv
theorem dd_Ds_drop_73 : decode (px_rw k_Ds_drop).2.1 73 = .ok (.aload_n 0, 1) := (by decide +kernel : decode prog_1_method_38_code 73 = .ok (.aload_n 0, 1))
theorem e_Ds_drop_73 (a1 a2 a3 : Value) (x : Nat) (st : List Value) (g : px_G) : rn k_Ds_drop 73 [.ref x, a1, a2, a3] st g = rn k_Ds_drop 74 [.ref x, a1, a2, a3] (.ref x :: st) g := rn_next dd_Ds_drop_73 rfl
theorem dd_Ds_drop_74 : decode (px_rw k_Ds_drop).2.1 74 = .ok (.getfield 96, 3) := (by decide +kernel : decode prog_1_method_38_code 74 = .ok (.getfield 96, 3))
theorem e_Ds_drop_74 (L st : List Value) (T : TS) : rn k_Ds_drop 74 L (.ref 0 :: st) (enc T) = rn k_Ds_drop 77 L (.int (T.1 0 3) :: st) (enc T) := rn_getI (n := 13) dd_Ds_drop_74 rfl (by decide) (by decide) (by decide) rfl rfl
theorem dd_Ds_drop_77 : decode (px_rw k_Ds_drop).2.1 77 = .ok (.ireturn, 1) := (by decide +kernel : decode prog_1_method_38_code 77 = .ok (.ireturn, 1))
theorem e_Ds_drop_77 (L : List Value) (v : Int32) (g : px_G) : rn k_Ds_drop 77 L [.int v] g = some (some (.int v), g) := rn_iret dd_Ds_drop_77 rfl
theorem c_Ds_status (r0 : Nat) (i1 : Int32) (g : px_G) : cl k_Ds_status [.ref r0, .int i1] g = rn k_Ds_status 0 [.ref r0, .int i1] [] g := rfl
theorem dd_Ds_status_0 : decode (px_rw k_Ds_status).2.1 0 = .ok (.iload_n 1, 1) := (by decide +kernel : decode prog_1_method_40_code 0 = .ok (.iload_n 1, 1))
theorem e_Ds_status_0 (a0 : Value) (x : Int32) (st : List Value) (g : px_G) : rn k_Ds_status 0 [a0, .int x] st g = rn k_Ds_status 1 [a0, .int x] (.int x :: st) g := rn_next dd_Ds_status_0 rfl
theorem dd_Ds_status_1 : decode (px_rw k_Ds_status).2.1 1 = .ok (.ifCond .lt 12, 3) := (by decide +kernel : decode prog_1_method_40_code 1 = .ok (.ifCond .lt 12, 3))
theorem e_Ds_status_1 (L : List Value) (x : Int32) (st : List Value) (g : px_G) : rn k_Ds_status 1 L (.int x :: st) g = if x < 0 then rn k_Ds_status 13 L st g else rn k_Ds_status 4 L st g := rn_iflt dd_Ds_status_1 (by decide)
theorem dd_Ds_status_4 : decode (px_rw k_Ds_status).2.1 4 = .ok (.iload_n 1, 1) := (by decide +kernel : decode prog_1_method_40_code 4 = .ok (.iload_n 1, 1))
theorem e_Ds_status_4 (a0 : Value) (x : Int32) (st : List Value) (g : px_G) : rn k_Ds_status 4 [a0, .int x] st g = rn k_Ds_status 5 [a0, .int x] (.int x :: st) g := rn_next dd_Ds_status_4 rfl
theorem dd_Ds_status_5 : decode (px_rw k_Ds_status).2.1 5 = .ok (.aload_n 0, 1) := (by decide +kernel : decode prog_1_method_40_code 5 = .ok (.aload_n 0, 1))
theorem e_Ds_status_5 (a1 : Value) (x : Nat) (st : List Value) (g : px_G) : rn k_Ds_status 5 [.ref x, a1] st g = rn k_Ds_status 6 [.ref x, a1] (.ref x :: st) g := rn_next dd_Ds_status_5 rfl
theorem dd_Ds_status_6 : decode (px_rw k_Ds_status).2.1 6 = .ok (.getfield 31, 3) := (by decide +kernel : decode prog_1_method_40_code 6 = .ok (.getfield 31, 3))
theorem e_Ds_status_6 (L st : List Value) (T : TS) : rn k_Ds_status 6 L (.ref 0 :: st) (enc T) = rn k_Ds_status 9 L (.ref 6 :: st) (enc T) := rn_getA (n := 13) dd_Ds_status_6 rfl (by decide) (by decide) (by decide) rfl rfl
theorem dd_Ds_status_9 : decode (px_rw k_Ds_status).2.1 9 = .ok (.arraylength, 1) := (by decide +kernel : decode prog_1_method_40_code 9 = .ok (.arraylength, 1))
theorem e_Ds_status_9 (L : List Value) (p : Nat) (st : List Value) (T : TS) (hp : (sh p).1 < 4) : rn k_Ds_status 9 L (.ref p :: st) (enc T) = rn k_Ds_status 10 L (.int (Int32.ofNat (sh p).2) :: st) (enc T) := rn_alen dd_Ds_status_9 hp rfl rfl
theorem dd_Ds_status_10 : decode (px_rw k_Ds_status).2.1 10 = .ok (.if_icmp .lt 7, 3) := (by decide +kernel : decode prog_1_method_40_code 10 = .ok (.if_icmp .lt 7, 3))
theorem e_Ds_status_10 (L : List Value) (x y : Int32) (st : List Value) (g : px_G) : rn k_Ds_status 10 L (.int y :: .int x :: st) g = if x < y then rn k_Ds_status 17 L st g else rn k_Ds_status 13 L st g := rn_iclt dd_Ds_status_10 (by decide)
theorem dd_Ds_status_13 : decode (px_rw k_Ds_status).2.1 13 = .ok (.iconst (-1), 1) := (by decide +kernel : decode prog_1_method_40_code 13 = .ok (.iconst (-1), 1))
theorem e_Ds_status_13 (L st : List Value) (g : px_G) : rn k_Ds_status 13 L st g = rn k_Ds_status 14 L (.int (-1) :: st) g := rn_ipush (i := .iconst (-1)) dd_Ds_status_13 rfl rfl (by decide)
theorem dd_Ds_status_14 : decode (px_rw k_Ds_status).2.1 14 = .ok (.goto 9, 3) := (by decide +kernel : decode prog_1_method_40_code 14 = .ok (.goto 9, 3))
theorem e_Ds_status_14 (L st : List Value) (g : px_G) : rn k_Ds_status 14 L st g = rn k_Ds_status 23 L st g := rn_goto dd_Ds_status_14 (by decide)
theorem dd_Ds_status_17 : decode (px_rw k_Ds_status).2.1 17 = .ok (.aload_n 0, 1) := (by decide +kernel : decode prog_1_method_40_code 17 = .ok (.aload_n 0, 1))
theorem e_Ds_status_17 (a1 : Value) (x : Nat) (st : List Value) (g : px_G) : rn k_Ds_status 17 [.ref x, a1] st g = rn k_Ds_status 18 [.ref x, a1] (.ref x :: st) g := rn_next dd_Ds_status_17 rfl
theorem dd_Ds_status_18 : decode (px_rw k_Ds_status).2.1 18 = .ok (.getfield 31, 3) := (by decide +kernel : decode prog_1_method_40_code 18 = .ok (.getfield 31, 3))
theorem e_Ds_status_18 (L st : List Value) (T : TS) : rn k_Ds_status 18 L (.ref 0 :: st) (enc T) = rn k_Ds_status 21 L (.ref 6 :: st) (enc T) := rn_getA (n := 13) dd_Ds_status_18 rfl (by decide) (by decide) (by decide) rfl rfl
theorem dd_Ds_status_21 : decode (px_rw k_Ds_status).2.1 21 = .ok (.iload_n 1, 1) := (by decide +kernel : decode prog_1_method_40_code 21 = .ok (.iload_n 1, 1))
theorem e_Ds_status_21 (a0 : Value) (x : Int32) (st : List Value) (g : px_G) : rn k_Ds_status 21 [a0, .int x] st g = rn k_Ds_status 22 [a0, .int x] (.int x :: st) g := rn_next dd_Ds_status_21 rfl
theorem dd_Ds_status_22 : decode (px_rw k_Ds_status).2.1 22 = .ok (.iaload, 1) := (by decide +kernel : decode prog_1_method_40_code 22 = .ok (.iaload, 1))
theorem e_Ds_status_22 (L : List Value) (i : Int32) (p : Nat) (st : List Value) (T : TS) (hp : (sh p).1 = 0) : rn k_Ds_status 22 L (.int i :: .ref p :: st) (enc T) = if px_in i (sh p).2 then rn k_Ds_status 23 L (.int (T.1 p i.toNatClampNeg) :: st) (enc T) else none := rn_iald dd_Ds_status_22 (Prod.ext hp rfl)
theorem dd_Ds_status_23 : decode (px_rw k_Ds_status).2.1 23 = .ok (.ireturn, 1) := (by decide +kernel : decode prog_1_method_40_code 23 = .ok (.ireturn, 1))
theorem e_Ds_status_23 (L : List Value) (v : Int32) (g : px_G) : rn k_Ds_status 23 L [.int v] g = some (some (.int v), g) := rn_iret dd_Ds_status_23 rfl
theorem c_Ds_most (r0 : Nat) (i1 : Int32) (g : px_G) : cl k_Ds_most [.ref r0, .int i1] g = rn k_Ds_most 0 [.ref r0, .int i1] [] g := rfl
theorem dd_Ds_most_0 : decode (px_rw k_Ds_most).2.1 0 = .ok (.iload_n 1, 1) := (by decide +kernel : decode prog_1_method_41_code 0 = .ok (.iload_n 1, 1))
theorem e_Ds_most_0 (a0 : Value) (x : Int32) (st : List Value) (g : px_G) : rn k_Ds_most 0 [a0, .int x] st g = rn k_Ds_most 1 [a0, .int x] (.int x :: st) g := rn_next dd_Ds_most_0 rfl
theorem dd_Ds_most_1 : decode (px_rw k_Ds_most).2.1 1 = .ok (.tableswitch 82 0 6 #[43, 49, 55, 60, 65, 70, 76], 43) := (by decide +kernel : decode prog_1_method_41_code 1 = .ok (.tableswitch 82 0 6 #[43, 49, 55, 60, 65, 70, 76], 43))
theorem e_Ds_most_1 (L : List Value) (x : Int32) (st : List Value) (g : px_G) : rn k_Ds_most 1 L (.int x :: st) g = if x = 0 then rn k_Ds_most 44 L st g else if x = 1 then rn k_Ds_most 50 L st g else if x = 2 then rn k_Ds_most 56 L st g else if x = 3 then rn k_Ds_most 61 L st g else if x = 4 then rn k_Ds_most 66 L st g else if x = 5 then rn k_Ds_most 71 L st g else if x = 6 then rn k_Ds_most 77 L st g else rn k_Ds_most 83 L st g := by
  by_cases h0 : x = 0
  · rw [if_pos h0]; subst h0; exact rn_sw dd_Ds_most_1 rfl (by decide)
  rw [if_neg h0]
  by_cases h1 : x = 1
  · rw [if_pos h1]; subst h1; exact rn_sw dd_Ds_most_1 rfl (by decide)
  rw [if_neg h1]
  by_cases h2 : x = 2
  · rw [if_pos h2]; subst h2; exact rn_sw dd_Ds_most_1 rfl (by decide)
  rw [if_neg h2]
  by_cases h3 : x = 3
  · rw [if_pos h3]; subst h3; exact rn_sw dd_Ds_most_1 rfl (by decide)
  rw [if_neg h3]
  by_cases h4 : x = 4
  · rw [if_pos h4]; subst h4; exact rn_sw dd_Ds_most_1 rfl (by decide)
  rw [if_neg h4]
  by_cases h5 : x = 5
  · rw [if_pos h5]; subst h5; exact rn_sw dd_Ds_most_1 rfl (by decide)
  rw [if_neg h5]
  by_cases h6 : x = 6
  · rw [if_pos h6]; subst h6; exact rn_sw dd_Ds_most_1 rfl (by decide)
  rw [if_neg h6]
  refine rn_sw dd_Ds_most_1 (off := 82) (st' := st) ?_ (by decide)
  have n0 := lv_neT h0 (show (0 : Int32).toInt = 0 by decide)
  have n1 := lv_neT h1 (show (1 : Int32).toInt = 1 by decide)
  have n2 := lv_neT h2 (show (2 : Int32).toInt = 2 by decide)
  have n3 := lv_neT h3 (show (3 : Int32).toInt = 3 by decide)
  have n4 := lv_neT h4 (show (4 : Int32).toInt = 4 by decide)
  have n5 := lv_neT h5 (show (5 : Int32).toInt = 5 by decide)
  have n6 := lv_neT h6 (show (6 : Int32).toInt = 6 by decide)
  have hq : x.toInt < 0 ∨ 6 < x.toInt := by omega
  show (if x.toInt < 0 ∨ 6 < x.toInt then _ else _) = _
  rw [if_pos hq]
theorem dd_Ds_most_44 : decode (px_rw k_Ds_most).2.1 44 = .ok (.aload_n 0, 1) := (by decide +kernel : decode prog_1_method_41_code 44 = .ok (.aload_n 0, 1))
theorem e_Ds_most_44 (a1 : Value) (x : Nat) (st : List Value) (g : px_G) : rn k_Ds_most 44 [.ref x, a1] st g = rn k_Ds_most 45 [.ref x, a1] (.ref x :: st) g := rn_next dd_Ds_most_44 rfl
theorem dd_Ds_most_45 : decode (px_rw k_Ds_most).2.1 45 = .ok (.iconst 0, 1) := (by decide +kernel : decode prog_1_method_41_code 45 = .ok (.iconst 0, 1))
theorem e_Ds_most_45 (L st : List Value) (g : px_G) : rn k_Ds_most 45 L st g = rn k_Ds_most 46 L (.int 0 :: st) g := rn_ipush (i := .iconst 0) dd_Ds_most_45 rfl rfl (by decide)
theorem dd_Ds_most_46 : decode (px_rw k_Ds_most).2.1 46 = .ok (.invokevirtual 354, 3) := (by decide +kernel : decode prog_1_method_41_code 46 = .ok (.invokevirtual 354, 3))
theorem e_Ds_most_46 (L : List Value) (i0 : Int32)  (T : TS)  : rn k_Ds_most 46 L [.int i0, .ref 0] (enc T) = bd (cl k_Ds_endCouple [.ref 0, .int i0] (enc T)) (fun r g' => rn k_Ds_most 49 L (r.toList ++ []) g') := rn_callV (n := 13) (As := [.int i0]) (rest := []) dd_Ds_most_46 rfl (by decide) (by decide) rfl rfl (Nat.le_of_ble_eq_true rfl) (Nat.le_of_ble_eq_true rfl) rfl
theorem dd_Ds_most_49 : decode (px_rw k_Ds_most).2.1 49 = .ok (.ireturn, 1) := (by decide +kernel : decode prog_1_method_41_code 49 = .ok (.ireturn, 1))
theorem e_Ds_most_49 (L : List Value) (v : Int32) (g : px_G) : rn k_Ds_most 49 L [.int v] g = some (some (.int v), g) := rn_iret dd_Ds_most_49 rfl
theorem dd_Ds_most_50 : decode (px_rw k_Ds_most).2.1 50 = .ok (.aload_n 0, 1) := (by decide +kernel : decode prog_1_method_41_code 50 = .ok (.aload_n 0, 1))
theorem e_Ds_most_50 (a1 : Value) (x : Nat) (st : List Value) (g : px_G) : rn k_Ds_most 50 [.ref x, a1] st g = rn k_Ds_most 51 [.ref x, a1] (.ref x :: st) g := rn_next dd_Ds_most_50 rfl
theorem dd_Ds_most_51 : decode (px_rw k_Ds_most).2.1 51 = .ok (.iconst 1, 1) := (by decide +kernel : decode prog_1_method_41_code 51 = .ok (.iconst 1, 1))
theorem e_Ds_most_51 (L st : List Value) (g : px_G) : rn k_Ds_most 51 L st g = rn k_Ds_most 52 L (.int 1 :: st) g := rn_ipush (i := .iconst 1) dd_Ds_most_51 rfl rfl (by decide)
theorem dd_Ds_most_52 : decode (px_rw k_Ds_most).2.1 52 = .ok (.invokevirtual 354, 3) := (by decide +kernel : decode prog_1_method_41_code 52 = .ok (.invokevirtual 354, 3))
theorem e_Ds_most_52 (L : List Value) (i0 : Int32)  (T : TS)  : rn k_Ds_most 52 L [.int i0, .ref 0] (enc T) = bd (cl k_Ds_endCouple [.ref 0, .int i0] (enc T)) (fun r g' => rn k_Ds_most 55 L (r.toList ++ []) g') := rn_callV (n := 13) (As := [.int i0]) (rest := []) dd_Ds_most_52 rfl (by decide) (by decide) rfl rfl (Nat.le_of_ble_eq_true rfl) (Nat.le_of_ble_eq_true rfl) rfl
theorem dd_Ds_most_55 : decode (px_rw k_Ds_most).2.1 55 = .ok (.ireturn, 1) := (by decide +kernel : decode prog_1_method_41_code 55 = .ok (.ireturn, 1))
theorem e_Ds_most_55 (L : List Value) (v : Int32) (g : px_G) : rn k_Ds_most 55 L [.int v] g = some (some (.int v), g) := rn_iret dd_Ds_most_55 rfl
theorem dd_Ds_most_56 : decode (px_rw k_Ds_most).2.1 56 = .ok (.aload_n 0, 1) := (by decide +kernel : decode prog_1_method_41_code 56 = .ok (.aload_n 0, 1))
theorem e_Ds_most_56 (a1 : Value) (x : Nat) (st : List Value) (g : px_G) : rn k_Ds_most 56 [.ref x, a1] st g = rn k_Ds_most 57 [.ref x, a1] (.ref x :: st) g := rn_next dd_Ds_most_56 rfl
theorem dd_Ds_most_57 : decode (px_rw k_Ds_most).2.1 57 = .ok (.invokevirtual 358, 3) := (by decide +kernel : decode prog_1_method_41_code 57 = .ok (.invokevirtual 358, 3))
theorem e_Ds_most_57 (L : List Value)   (T : TS)  : rn k_Ds_most 57 L [.ref 0] (enc T) = bd (cl k_Ds_alikeCouples [.ref 0] (enc T)) (fun r g' => rn k_Ds_most 60 L (r.toList ++ []) g') := rn_callV (n := 13) (As := []) (rest := []) dd_Ds_most_57 rfl (by decide) (by decide) rfl rfl (Nat.le_of_ble_eq_true rfl) (Nat.le_of_ble_eq_true rfl) rfl
theorem dd_Ds_most_60 : decode (px_rw k_Ds_most).2.1 60 = .ok (.ireturn, 1) := (by decide +kernel : decode prog_1_method_41_code 60 = .ok (.ireturn, 1))
theorem e_Ds_most_60 (L : List Value) (v : Int32) (g : px_G) : rn k_Ds_most 60 L [.int v] g = some (some (.int v), g) := rn_iret dd_Ds_most_60 rfl
theorem dd_Ds_most_61 : decode (px_rw k_Ds_most).2.1 61 = .ok (.aload_n 0, 1) := (by decide +kernel : decode prog_1_method_41_code 61 = .ok (.aload_n 0, 1))
theorem e_Ds_most_61 (a1 : Value) (x : Nat) (st : List Value) (g : px_G) : rn k_Ds_most 61 [.ref x, a1] st g = rn k_Ds_most 62 [.ref x, a1] (.ref x :: st) g := rn_next dd_Ds_most_61 rfl
theorem dd_Ds_most_62 : decode (px_rw k_Ds_most).2.1 62 = .ok (.invokevirtual 361, 3) := (by decide +kernel : decode prog_1_method_41_code 62 = .ok (.invokevirtual 361, 3))
theorem e_Ds_most_62 (L : List Value)   (T : TS)  : rn k_Ds_most 62 L [.ref 0] (enc T) = bd (cl k_Ds_greatestCell [.ref 0] (enc T)) (fun r g' => rn k_Ds_most 65 L (r.toList ++ []) g') := rn_callV (n := 13) (As := []) (rest := []) dd_Ds_most_62 rfl (by decide) (by decide) rfl rfl (Nat.le_of_ble_eq_true rfl) (Nat.le_of_ble_eq_true rfl) rfl
theorem dd_Ds_most_65 : decode (px_rw k_Ds_most).2.1 65 = .ok (.ireturn, 1) := (by decide +kernel : decode prog_1_method_41_code 65 = .ok (.ireturn, 1))
theorem e_Ds_most_65 (L : List Value) (v : Int32) (g : px_G) : rn k_Ds_most 65 L [.int v] g = some (some (.int v), g) := rn_iret dd_Ds_most_65 rfl
theorem dd_Ds_most_66 : decode (px_rw k_Ds_most).2.1 66 = .ok (.aload_n 0, 1) := (by decide +kernel : decode prog_1_method_41_code 66 = .ok (.aload_n 0, 1))
theorem e_Ds_most_66 (a1 : Value) (x : Nat) (st : List Value) (g : px_G) : rn k_Ds_most 66 [.ref x, a1] st g = rn k_Ds_most 67 [.ref x, a1] (.ref x :: st) g := rn_next dd_Ds_most_66 rfl
theorem dd_Ds_most_67 : decode (px_rw k_Ds_most).2.1 67 = .ok (.invokevirtual 364, 3) := (by decide +kernel : decode prog_1_method_41_code 67 = .ok (.invokevirtual 364, 3))
theorem e_Ds_most_67 (L : List Value)   (T : TS)  : rn k_Ds_most 67 L [.ref 0] (enc T) = bd (cl k_Ds_inkedPixels [.ref 0] (enc T)) (fun r g' => rn k_Ds_most 70 L (r.toList ++ []) g') := rn_callV (n := 13) (As := []) (rest := []) dd_Ds_most_67 rfl (by decide) (by decide) rfl rfl (Nat.le_of_ble_eq_true rfl) (Nat.le_of_ble_eq_true rfl) rfl
theorem dd_Ds_most_70 : decode (px_rw k_Ds_most).2.1 70 = .ok (.ireturn, 1) := (by decide +kernel : decode prog_1_method_41_code 70 = .ok (.ireturn, 1))
theorem e_Ds_most_70 (L : List Value) (v : Int32) (g : px_G) : rn k_Ds_most 70 L [.int v] g = some (some (.int v), g) := rn_iret dd_Ds_most_70 rfl
theorem dd_Ds_most_71 : decode (px_rw k_Ds_most).2.1 71 = .ok (.aload_n 0, 1) := (by decide +kernel : decode prog_1_method_41_code 71 = .ok (.aload_n 0, 1))
theorem e_Ds_most_71 (a1 : Value) (x : Nat) (st : List Value) (g : px_G) : rn k_Ds_most 71 [.ref x, a1] st g = rn k_Ds_most 72 [.ref x, a1] (.ref x :: st) g := rn_next dd_Ds_most_71 rfl
theorem dd_Ds_most_72 : decode (px_rw k_Ds_most).2.1 72 = .ok (.iconst 0, 1) := (by decide +kernel : decode prog_1_method_41_code 72 = .ok (.iconst 0, 1))
theorem e_Ds_most_72 (L st : List Value) (g : px_G) : rn k_Ds_most 72 L st g = rn k_Ds_most 73 L (.int 0 :: st) g := rn_ipush (i := .iconst 0) dd_Ds_most_72 rfl rfl (by decide)
theorem dd_Ds_most_73 : decode (px_rw k_Ds_most).2.1 73 = .ok (.invokevirtual 367, 3) := (by decide +kernel : decode prog_1_method_41_code 73 = .ok (.invokevirtual 367, 3))
theorem e_Ds_most_73 (L : List Value) (i0 : Int32)  (T : TS)  : rn k_Ds_most 73 L [.int i0, .ref 0] (enc T) = bd (cl k_Ds_inksGrown [.ref 0, .int i0] (enc T)) (fun r g' => rn k_Ds_most 76 L (r.toList ++ []) g') := rn_callV (n := 13) (As := [.int i0]) (rest := []) dd_Ds_most_73 rfl (by decide) (by decide) rfl rfl (Nat.le_of_ble_eq_true rfl) (Nat.le_of_ble_eq_true rfl) rfl
theorem dd_Ds_most_76 : decode (px_rw k_Ds_most).2.1 76 = .ok (.ireturn, 1) := (by decide +kernel : decode prog_1_method_41_code 76 = .ok (.ireturn, 1))
theorem e_Ds_most_76 (L : List Value) (v : Int32) (g : px_G) : rn k_Ds_most 76 L [.int v] g = some (some (.int v), g) := rn_iret dd_Ds_most_76 rfl
theorem dd_Ds_most_77 : decode (px_rw k_Ds_most).2.1 77 = .ok (.aload_n 0, 1) := (by decide +kernel : decode prog_1_method_41_code 77 = .ok (.aload_n 0, 1))
theorem e_Ds_most_77 (a1 : Value) (x : Nat) (st : List Value) (g : px_G) : rn k_Ds_most 77 [.ref x, a1] st g = rn k_Ds_most 78 [.ref x, a1] (.ref x :: st) g := rn_next dd_Ds_most_77 rfl
theorem dd_Ds_most_78 : decode (px_rw k_Ds_most).2.1 78 = .ok (.iconst 1, 1) := (by decide +kernel : decode prog_1_method_41_code 78 = .ok (.iconst 1, 1))
theorem e_Ds_most_78 (L st : List Value) (g : px_G) : rn k_Ds_most 78 L st g = rn k_Ds_most 79 L (.int 1 :: st) g := rn_ipush (i := .iconst 1) dd_Ds_most_78 rfl rfl (by decide)
theorem dd_Ds_most_79 : decode (px_rw k_Ds_most).2.1 79 = .ok (.invokevirtual 367, 3) := (by decide +kernel : decode prog_1_method_41_code 79 = .ok (.invokevirtual 367, 3))
theorem e_Ds_most_79 (L : List Value) (i0 : Int32)  (T : TS)  : rn k_Ds_most 79 L [.int i0, .ref 0] (enc T) = bd (cl k_Ds_inksGrown [.ref 0, .int i0] (enc T)) (fun r g' => rn k_Ds_most 82 L (r.toList ++ []) g') := rn_callV (n := 13) (As := [.int i0]) (rest := []) dd_Ds_most_79 rfl (by decide) (by decide) rfl rfl (Nat.le_of_ble_eq_true rfl) (Nat.le_of_ble_eq_true rfl) rfl
theorem dd_Ds_most_82 : decode (px_rw k_Ds_most).2.1 82 = .ok (.ireturn, 1) := (by decide +kernel : decode prog_1_method_41_code 82 = .ok (.ireturn, 1))
theorem e_Ds_most_82 (L : List Value) (v : Int32) (g : px_G) : rn k_Ds_most 82 L [.int v] g = some (some (.int v), g) := rn_iret dd_Ds_most_82 rfl
theorem dd_Ds_most_83 : decode (px_rw k_Ds_most).2.1 83 = .ok (.iconst (-1), 1) := (by decide +kernel : decode prog_1_method_41_code 83 = .ok (.iconst (-1), 1))
theorem e_Ds_most_83 (L st : List Value) (g : px_G) : rn k_Ds_most 83 L st g = rn k_Ds_most 84 L (.int (-1) :: st) g := rn_ipush (i := .iconst (-1)) dd_Ds_most_83 rfl rfl (by decide)
theorem dd_Ds_most_84 : decode (px_rw k_Ds_most).2.1 84 = .ok (.ireturn, 1) := (by decide +kernel : decode prog_1_method_41_code 84 = .ok (.ireturn, 1))
theorem e_Ds_most_84 (L : List Value) (v : Int32) (g : px_G) : rn k_Ds_most 84 L [.int v] g = some (some (.int v), g) := rn_iret dd_Ds_most_84 rfl
theorem c_Ds_endCouple (r0 : Nat) (i1 : Int32) (g : px_G) : cl k_Ds_endCouple [.ref r0, .int i1] g = rn k_Ds_endCouple 0 [.ref r0, .int i1, .null, .null, .null, .null, .null, .null, .null, .null] [] g := rfl
theorem dd_Ds_endCouple_0 : decode (px_rw k_Ds_endCouple).2.1 0 = .ok (.iconst (-1), 1) := (by decide +kernel : decode prog_1_method_42_code 0 = .ok (.iconst (-1), 1))
theorem e_Ds_endCouple_0 (L st : List Value) (g : px_G) : rn k_Ds_endCouple 0 L st g = rn k_Ds_endCouple 1 L (.int (-1) :: st) g := rn_ipush (i := .iconst (-1)) dd_Ds_endCouple_0 rfl rfl (by decide)
theorem dd_Ds_endCouple_1 : decode (px_rw k_Ds_endCouple).2.1 1 = .ok (.istore_n 2, 1) := (by decide +kernel : decode prog_1_method_42_code 1 = .ok (.istore_n 2, 1))
theorem e_Ds_endCouple_1 (a0 a1 a2 a3 a4 a5 a6 a7 a8 a9 : Value) (x : Int32) (st : List Value) (g : px_G) : rn k_Ds_endCouple 1 [a0, a1, a2, a3, a4, a5, a6, a7, a8, a9] (.int x :: st) g = rn k_Ds_endCouple 2 [a0, px_kill a1, .int x, a3, a4, a5, a6, a7, a8, a9] st g := rn_next dd_Ds_endCouple_1 rfl
theorem dd_Ds_endCouple_2 : decode (px_rw k_Ds_endCouple).2.1 2 = .ok (.lconst 0, 1) := (by decide +kernel : decode prog_1_method_42_code 2 = .ok (.lconst 0, 1))
theorem e_Ds_endCouple_2 (L st : List Value) (g : px_G) : rn k_Ds_endCouple 2 L st g = rn k_Ds_endCouple 3 L (.long 0 :: st) g := rn_next dd_Ds_endCouple_2 rfl
theorem dd_Ds_endCouple_3 : decode (px_rw k_Ds_endCouple).2.1 3 = .ok (.lstore_n 3, 1) := (by decide +kernel : decode prog_1_method_42_code 3 = .ok (.lstore_n 3, 1))
theorem e_Ds_endCouple_3 (a0 a1 a2 a3 a4 a5 a6 a7 a8 a9 : Value) (x : Int64) (st : List Value) (g : px_G) : rn k_Ds_endCouple 3 [a0, a1, a2, a3, a4, a5, a6, a7, a8, a9] (.long x :: st) g = rn k_Ds_endCouple 4 [a0, a1, px_kill a2, .long x, .null, a5, a6, a7, a8, a9] st g := rn_next dd_Ds_endCouple_3 rfl
theorem dd_Ds_endCouple_4 : decode (px_rw k_Ds_endCouple).2.1 4 = .ok (.lconst 0, 1) := (by decide +kernel : decode prog_1_method_42_code 4 = .ok (.lconst 0, 1))
theorem e_Ds_endCouple_4 (L st : List Value) (g : px_G) : rn k_Ds_endCouple 4 L st g = rn k_Ds_endCouple 5 L (.long 0 :: st) g := rn_next dd_Ds_endCouple_4 rfl
theorem dd_Ds_endCouple_5 : decode (px_rw k_Ds_endCouple).2.1 5 = .ok (.lstore 5, 2) := (by decide +kernel : decode prog_1_method_42_code 5 = .ok (.lstore 5, 2))
theorem e_Ds_endCouple_5 (a0 a1 a2 a3 a4 a5 a6 a7 a8 a9 : Value) (x : Int64) (st : List Value) (g : px_G) : rn k_Ds_endCouple 5 [a0, a1, a2, a3, a4, a5, a6, a7, a8, a9] (.long x :: st) g = rn k_Ds_endCouple 7 [a0, a1, a2, a3, px_kill a4, .long x, .null, a7, a8, a9] st g := rn_next dd_Ds_endCouple_5 rfl
theorem dd_Ds_endCouple_7 : decode (px_rw k_Ds_endCouple).2.1 7 = .ok (.iconst 0, 1) := (by decide +kernel : decode prog_1_method_42_code 7 = .ok (.iconst 0, 1))
theorem e_Ds_endCouple_7 (L st : List Value) (g : px_G) : rn k_Ds_endCouple 7 L st g = rn k_Ds_endCouple 8 L (.int 0 :: st) g := rn_ipush (i := .iconst 0) dd_Ds_endCouple_7 rfl rfl (by decide)
theorem dd_Ds_endCouple_8 : decode (px_rw k_Ds_endCouple).2.1 8 = .ok (.istore 7, 2) := (by decide +kernel : decode prog_1_method_42_code 8 = .ok (.istore 7, 2))
theorem e_Ds_endCouple_8 (a0 a1 a2 a3 a4 a5 a6 a7 a8 a9 : Value) (x : Int32) (st : List Value) (g : px_G) : rn k_Ds_endCouple 8 [a0, a1, a2, a3, a4, a5, a6, a7, a8, a9] (.int x :: st) g = rn k_Ds_endCouple 10 [a0, a1, a2, a3, a4, a5, px_kill a6, .int x, a8, a9] st g := rn_next dd_Ds_endCouple_8 rfl
theorem dd_Ds_endCouple_10 : decode (px_rw k_Ds_endCouple).2.1 10 = .ok (.iload 7, 2) := (by decide +kernel : decode prog_1_method_42_code 10 = .ok (.iload 7, 2))
theorem e_Ds_endCouple_10 (a0 a1 a2 a3 a4 a5 a6 a8 a9 : Value) (x : Int32) (st : List Value) (g : px_G) : rn k_Ds_endCouple 10 [a0, a1, a2, a3, a4, a5, a6, .int x, a8, a9] st g = rn k_Ds_endCouple 12 [a0, a1, a2, a3, a4, a5, a6, .int x, a8, a9] (.int x :: st) g := rn_next dd_Ds_endCouple_10 rfl
theorem dd_Ds_endCouple_12 : decode (px_rw k_Ds_endCouple).2.1 12 = .ok (.aload_n 0, 1) := (by decide +kernel : decode prog_1_method_42_code 12 = .ok (.aload_n 0, 1))
theorem e_Ds_endCouple_12 (a1 a2 a3 a4 a5 a6 a7 a8 a9 : Value) (x : Nat) (st : List Value) (g : px_G) : rn k_Ds_endCouple 12 [.ref x, a1, a2, a3, a4, a5, a6, a7, a8, a9] st g = rn k_Ds_endCouple 13 [.ref x, a1, a2, a3, a4, a5, a6, a7, a8, a9] (.ref x :: st) g := rn_next dd_Ds_endCouple_12 rfl
theorem dd_Ds_endCouple_13 : decode (px_rw k_Ds_endCouple).2.1 13 = .ok (.getfield 96, 3) := (by decide +kernel : decode prog_1_method_42_code 13 = .ok (.getfield 96, 3))
theorem e_Ds_endCouple_13 (L st : List Value) (T : TS) : rn k_Ds_endCouple 13 L (.ref 0 :: st) (enc T) = rn k_Ds_endCouple 16 L (.int (T.1 0 3) :: st) (enc T) := rn_getI (n := 13) dd_Ds_endCouple_13 rfl (by decide) (by decide) (by decide) rfl rfl
theorem dd_Ds_endCouple_16 : decode (px_rw k_Ds_endCouple).2.1 16 = .ok (.if_icmp .ge 142, 3) := (by decide +kernel : decode prog_1_method_42_code 16 = .ok (.if_icmp .ge 142, 3))
theorem e_Ds_endCouple_16 (L : List Value) (x y : Int32) (st : List Value) (g : px_G) : rn k_Ds_endCouple 16 L (.int y :: .int x :: st) g = if y ≤ x then rn k_Ds_endCouple 158 L st g else rn k_Ds_endCouple 19 L st g := rn_icge dd_Ds_endCouple_16 (by decide)
theorem dd_Ds_endCouple_19 : decode (px_rw k_Ds_endCouple).2.1 19 = .ok (.iload 7, 2) := (by decide +kernel : decode prog_1_method_42_code 19 = .ok (.iload 7, 2))
theorem e_Ds_endCouple_19 (a0 a1 a2 a3 a4 a5 a6 a8 a9 : Value) (x : Int32) (st : List Value) (g : px_G) : rn k_Ds_endCouple 19 [a0, a1, a2, a3, a4, a5, a6, .int x, a8, a9] st g = rn k_Ds_endCouple 21 [a0, a1, a2, a3, a4, a5, a6, .int x, a8, a9] (.int x :: st) g := rn_next dd_Ds_endCouple_19 rfl
theorem dd_Ds_endCouple_21 : decode (px_rw k_Ds_endCouple).2.1 21 = .ok (.iconst 1, 1) := (by decide +kernel : decode prog_1_method_42_code 21 = .ok (.iconst 1, 1))
theorem e_Ds_endCouple_21 (L st : List Value) (g : px_G) : rn k_Ds_endCouple 21 L st g = rn k_Ds_endCouple 22 L (.int 1 :: st) g := rn_ipush (i := .iconst 1) dd_Ds_endCouple_21 rfl rfl (by decide)
theorem dd_Ds_endCouple_22 : decode (px_rw k_Ds_endCouple).2.1 22 = .ok (.iadd, 1) := (by decide +kernel : decode prog_1_method_42_code 22 = .ok (.iadd, 1))
theorem e_Ds_endCouple_22 (L : List Value) (x y : Int32) (st : List Value) (g : px_G) : rn k_Ds_endCouple 22 L (.int y :: .int x :: st) g = rn k_Ds_endCouple 23 L (.int (x + y) :: st) g := rn_next dd_Ds_endCouple_22 rfl
theorem dd_Ds_endCouple_23 : decode (px_rw k_Ds_endCouple).2.1 23 = .ok (.istore 8, 2) := (by decide +kernel : decode prog_1_method_42_code 23 = .ok (.istore 8, 2))
theorem e_Ds_endCouple_23 (a0 a1 a2 a3 a4 a5 a6 a7 a8 a9 : Value) (x : Int32) (st : List Value) (g : px_G) : rn k_Ds_endCouple 23 [a0, a1, a2, a3, a4, a5, a6, a7, a8, a9] (.int x :: st) g = rn k_Ds_endCouple 25 [a0, a1, a2, a3, a4, a5, a6, px_kill a7, .int x, a9] st g := rn_next dd_Ds_endCouple_23 rfl
theorem dd_Ds_endCouple_25 : decode (px_rw k_Ds_endCouple).2.1 25 = .ok (.iload 8, 2) := (by decide +kernel : decode prog_1_method_42_code 25 = .ok (.iload 8, 2))
theorem e_Ds_endCouple_25 (a0 a1 a2 a3 a4 a5 a6 a7 a9 : Value) (x : Int32) (st : List Value) (g : px_G) : rn k_Ds_endCouple 25 [a0, a1, a2, a3, a4, a5, a6, a7, .int x, a9] st g = rn k_Ds_endCouple 27 [a0, a1, a2, a3, a4, a5, a6, a7, .int x, a9] (.int x :: st) g := rn_next dd_Ds_endCouple_25 rfl
theorem dd_Ds_endCouple_27 : decode (px_rw k_Ds_endCouple).2.1 27 = .ok (.aload_n 0, 1) := (by decide +kernel : decode prog_1_method_42_code 27 = .ok (.aload_n 0, 1))
theorem e_Ds_endCouple_27 (a1 a2 a3 a4 a5 a6 a7 a8 a9 : Value) (x : Nat) (st : List Value) (g : px_G) : rn k_Ds_endCouple 27 [.ref x, a1, a2, a3, a4, a5, a6, a7, a8, a9] st g = rn k_Ds_endCouple 28 [.ref x, a1, a2, a3, a4, a5, a6, a7, a8, a9] (.ref x :: st) g := rn_next dd_Ds_endCouple_27 rfl
theorem dd_Ds_endCouple_28 : decode (px_rw k_Ds_endCouple).2.1 28 = .ok (.getfield 96, 3) := (by decide +kernel : decode prog_1_method_42_code 28 = .ok (.getfield 96, 3))
theorem e_Ds_endCouple_28 (L st : List Value) (T : TS) : rn k_Ds_endCouple 28 L (.ref 0 :: st) (enc T) = rn k_Ds_endCouple 31 L (.int (T.1 0 3) :: st) (enc T) := rn_getI (n := 13) dd_Ds_endCouple_28 rfl (by decide) (by decide) (by decide) rfl rfl
theorem dd_Ds_endCouple_31 : decode (px_rw k_Ds_endCouple).2.1 31 = .ok (.if_icmp .ge 121, 3) := (by decide +kernel : decode prog_1_method_42_code 31 = .ok (.if_icmp .ge 121, 3))
theorem e_Ds_endCouple_31 (L : List Value) (x y : Int32) (st : List Value) (g : px_G) : rn k_Ds_endCouple 31 L (.int y :: .int x :: st) g = if y ≤ x then rn k_Ds_endCouple 152 L st g else rn k_Ds_endCouple 34 L st g := rn_icge dd_Ds_endCouple_31 (by decide)
theorem dd_Ds_endCouple_34 : decode (px_rw k_Ds_endCouple).2.1 34 = .ok (.aload_n 0, 1) := (by decide +kernel : decode prog_1_method_42_code 34 = .ok (.aload_n 0, 1))
theorem e_Ds_endCouple_34 (a1 a2 a3 a4 a5 a6 a7 a8 a9 : Value) (x : Nat) (st : List Value) (g : px_G) : rn k_Ds_endCouple 34 [.ref x, a1, a2, a3, a4, a5, a6, a7, a8, a9] st g = rn k_Ds_endCouple 35 [.ref x, a1, a2, a3, a4, a5, a6, a7, a8, a9] (.ref x :: st) g := rn_next dd_Ds_endCouple_34 rfl
theorem dd_Ds_endCouple_35 : decode (px_rw k_Ds_endCouple).2.1 35 = .ok (.getfield 59, 3) := (by decide +kernel : decode prog_1_method_42_code 35 = .ok (.getfield 59, 3))
theorem e_Ds_endCouple_35 (L st : List Value) (T : TS) : rn k_Ds_endCouple 35 L (.ref 0 :: st) (enc T) = rn k_Ds_endCouple 38 L (.ref 14 :: st) (enc T) := rn_getO (n := 13) dd_Ds_endCouple_35 rfl (by decide) (by decide) (by decide) rfl rfl
theorem dd_Ds_endCouple_38 : decode (px_rw k_Ds_endCouple).2.1 38 = .ok (.aload_n 0, 1) := (by decide +kernel : decode prog_1_method_42_code 38 = .ok (.aload_n 0, 1))
theorem e_Ds_endCouple_38 (a1 a2 a3 a4 a5 a6 a7 a8 a9 : Value) (x : Nat) (st : List Value) (g : px_G) : rn k_Ds_endCouple 38 [.ref x, a1, a2, a3, a4, a5, a6, a7, a8, a9] st g = rn k_Ds_endCouple 39 [.ref x, a1, a2, a3, a4, a5, a6, a7, a8, a9] (.ref x :: st) g := rn_next dd_Ds_endCouple_38 rfl
theorem dd_Ds_endCouple_39 : decode (px_rw k_Ds_endCouple).2.1 39 = .ok (.getfield 27, 3) := (by decide +kernel : decode prog_1_method_42_code 39 = .ok (.getfield 27, 3))
theorem e_Ds_endCouple_39 (L st : List Value) (T : TS) : rn k_Ds_endCouple 39 L (.ref 0 :: st) (enc T) = rn k_Ds_endCouple 42 L (.ref 5 :: st) (enc T) := rn_getA (n := 13) dd_Ds_endCouple_39 rfl (by decide) (by decide) (by decide) rfl rfl
theorem dd_Ds_endCouple_42 : decode (px_rw k_Ds_endCouple).2.1 42 = .ok (.iload 7, 2) := (by decide +kernel : decode prog_1_method_42_code 42 = .ok (.iload 7, 2))
theorem e_Ds_endCouple_42 (a0 a1 a2 a3 a4 a5 a6 a8 a9 : Value) (x : Int32) (st : List Value) (g : px_G) : rn k_Ds_endCouple 42 [a0, a1, a2, a3, a4, a5, a6, .int x, a8, a9] st g = rn k_Ds_endCouple 44 [a0, a1, a2, a3, a4, a5, a6, .int x, a8, a9] (.int x :: st) g := rn_next dd_Ds_endCouple_42 rfl
theorem dd_Ds_endCouple_44 : decode (px_rw k_Ds_endCouple).2.1 44 = .ok (.aaload, 1) := (by decide +kernel : decode prog_1_method_42_code 44 = .ok (.aaload, 1))
theorem e_Ds_endCouple_44 (L : List Value) (i : Int32) (p : Nat) (st : List Value) (T : TS) (hp : (sh p).1 = 3) : rn k_Ds_endCouple 44 L (.int i :: .ref p :: st) (enc T) = if px_in i (sh p).2 then rn k_Ds_endCouple 45 L (.ref (T.2.2.1 i.toNatClampNeg) :: st) (enc T) else none := rn_aald dd_Ds_endCouple_44 (Prod.ext hp rfl)
theorem dd_Ds_endCouple_45 : decode (px_rw k_Ds_endCouple).2.1 45 = .ok (.getfield 139, 3) := (by decide +kernel : decode prog_1_method_42_code 45 = .ok (.getfield 139, 3))
theorem e_Ds_endCouple_45 (L : List Value) (p : Nat) (st : List Value) (T : TS) (hp : sh p = (104, 18)) : rn k_Ds_endCouple 45 L (.ref p :: st) (enc T) = rn k_Ds_endCouple 48 L (.ref (p + 1) :: st) (enc T) := (rn_getO (n := 18) dd_Ds_endCouple_45 rfl (by decide) (by decide) (by decide) rfl hp).trans (by rw [ink_rf_0 hp])
theorem dd_Ds_endCouple_48 : decode (px_rw k_Ds_endCouple).2.1 48 = .ok (.aload_n 0, 1) := (by decide +kernel : decode prog_1_method_42_code 48 = .ok (.aload_n 0, 1))
theorem e_Ds_endCouple_48 (a1 a2 a3 a4 a5 a6 a7 a8 a9 : Value) (x : Nat) (st : List Value) (g : px_G) : rn k_Ds_endCouple 48 [.ref x, a1, a2, a3, a4, a5, a6, a7, a8, a9] st g = rn k_Ds_endCouple 49 [.ref x, a1, a2, a3, a4, a5, a6, a7, a8, a9] (.ref x :: st) g := rn_next dd_Ds_endCouple_48 rfl
theorem dd_Ds_endCouple_49 : decode (px_rw k_Ds_endCouple).2.1 49 = .ok (.getfield 27, 3) := (by decide +kernel : decode prog_1_method_42_code 49 = .ok (.getfield 27, 3))
theorem e_Ds_endCouple_49 (L st : List Value) (T : TS) : rn k_Ds_endCouple 49 L (.ref 0 :: st) (enc T) = rn k_Ds_endCouple 52 L (.ref 5 :: st) (enc T) := rn_getA (n := 13) dd_Ds_endCouple_49 rfl (by decide) (by decide) (by decide) rfl rfl
theorem dd_Ds_endCouple_52 : decode (px_rw k_Ds_endCouple).2.1 52 = .ok (.iload 8, 2) := (by decide +kernel : decode prog_1_method_42_code 52 = .ok (.iload 8, 2))
theorem e_Ds_endCouple_52 (a0 a1 a2 a3 a4 a5 a6 a7 a9 : Value) (x : Int32) (st : List Value) (g : px_G) : rn k_Ds_endCouple 52 [a0, a1, a2, a3, a4, a5, a6, a7, .int x, a9] st g = rn k_Ds_endCouple 54 [a0, a1, a2, a3, a4, a5, a6, a7, .int x, a9] (.int x :: st) g := rn_next dd_Ds_endCouple_52 rfl
theorem dd_Ds_endCouple_54 : decode (px_rw k_Ds_endCouple).2.1 54 = .ok (.aaload, 1) := (by decide +kernel : decode prog_1_method_42_code 54 = .ok (.aaload, 1))
theorem e_Ds_endCouple_54 (L : List Value) (i : Int32) (p : Nat) (st : List Value) (T : TS) (hp : (sh p).1 = 3) : rn k_Ds_endCouple 54 L (.int i :: .ref p :: st) (enc T) = if px_in i (sh p).2 then rn k_Ds_endCouple 55 L (.ref (T.2.2.1 i.toNatClampNeg) :: st) (enc T) else none := rn_aald dd_Ds_endCouple_54 (Prod.ext hp rfl)
theorem dd_Ds_endCouple_55 : decode (px_rw k_Ds_endCouple).2.1 55 = .ok (.getfield 139, 3) := (by decide +kernel : decode prog_1_method_42_code 55 = .ok (.getfield 139, 3))
theorem e_Ds_endCouple_55 (L : List Value) (p : Nat) (st : List Value) (T : TS) (hp : sh p = (104, 18)) : rn k_Ds_endCouple 55 L (.ref p :: st) (enc T) = rn k_Ds_endCouple 58 L (.ref (p + 1) :: st) (enc T) := (rn_getO (n := 18) dd_Ds_endCouple_55 rfl (by decide) (by decide) (by decide) rfl hp).trans (by rw [ink_rf_0 hp])
theorem dd_Ds_endCouple_58 : decode (px_rw k_Ds_endCouple).2.1 58 = .ok (.invokevirtual 254, 3) := (by decide +kernel : decode prog_1_method_42_code 58 = .ok (.invokevirtual 254, 3))
theorem e_Ds_endCouple_58 (L : List Value) (r0 : Nat) (r1 : Nat) (p : Nat) (T : TS) (hp : sh p = (100, 7)) : rn k_Ds_endCouple 58 L [.ref r1, .ref r0, .ref p] (enc T) = bd (cl k_Beat_compare [.ref p, .ref r0, .ref r1] (enc T)) (fun r g' => rn k_Ds_endCouple 61 L (r.toList ++ []) g') := rn_callV (n := 7) (As := [.ref r0, .ref r1]) (rest := []) dd_Ds_endCouple_58 rfl (by decide) (by decide) rfl rfl (Nat.le_of_ble_eq_true rfl) (Nat.le_of_ble_eq_true rfl) hp
theorem dd_Ds_endCouple_61 : decode (px_rw k_Ds_endCouple).2.1 61 = .ok (.iload_n 1, 1) := (by decide +kernel : decode prog_1_method_42_code 61 = .ok (.iload_n 1, 1))
theorem e_Ds_endCouple_61 (a0 a2 a3 a4 a5 a6 a7 a8 a9 : Value) (x : Int32) (st : List Value) (g : px_G) : rn k_Ds_endCouple 61 [a0, .int x, a2, a3, a4, a5, a6, a7, a8, a9] st g = rn k_Ds_endCouple 62 [a0, .int x, a2, a3, a4, a5, a6, a7, a8, a9] (.int x :: st) g := rn_next dd_Ds_endCouple_61 rfl
theorem dd_Ds_endCouple_62 : decode (px_rw k_Ds_endCouple).2.1 62 = .ok (.ifCond .eq 26, 3) := (by decide +kernel : decode prog_1_method_42_code 62 = .ok (.ifCond .eq 26, 3))
theorem e_Ds_endCouple_62 (L : List Value) (x : Int32) (st : List Value) (g : px_G) : rn k_Ds_endCouple 62 L (.int x :: st) g = if x = 0 then rn k_Ds_endCouple 88 L st g else rn k_Ds_endCouple 65 L st g := rn_ifeq dd_Ds_endCouple_62 (by decide)
theorem dd_Ds_endCouple_65 : decode (px_rw k_Ds_endCouple).2.1 65 = .ok (.aload_n 0, 1) := (by decide +kernel : decode prog_1_method_42_code 65 = .ok (.aload_n 0, 1))
theorem e_Ds_endCouple_65 (a1 a2 a3 a4 a5 a6 a7 a8 a9 : Value) (x : Nat) (st : List Value) (g : px_G) : rn k_Ds_endCouple 65 [.ref x, a1, a2, a3, a4, a5, a6, a7, a8, a9] st g = rn k_Ds_endCouple 66 [.ref x, a1, a2, a3, a4, a5, a6, a7, a8, a9] (.ref x :: st) g := rn_next dd_Ds_endCouple_65 rfl
theorem dd_Ds_endCouple_66 : decode (px_rw k_Ds_endCouple).2.1 66 = .ok (.getfield 59, 3) := (by decide +kernel : decode prog_1_method_42_code 66 = .ok (.getfield 59, 3))
theorem e_Ds_endCouple_66 (L st : List Value) (T : TS) : rn k_Ds_endCouple 66 L (.ref 0 :: st) (enc T) = rn k_Ds_endCouple 69 L (.ref 14 :: st) (enc T) := rn_getO (n := 13) dd_Ds_endCouple_66 rfl (by decide) (by decide) (by decide) rfl rfl
theorem dd_Ds_endCouple_69 : decode (px_rw k_Ds_endCouple).2.1 69 = .ok (.getfield 276, 3) := (by decide +kernel : decode prog_1_method_42_code 69 = .ok (.getfield 276, 3))
theorem e_Ds_endCouple_69 (L : List Value) (p : Nat) (st : List Value) (T : TS) (hp : sh p = (100, 7)) : rn k_Ds_endCouple 69 L (.ref p :: st) (enc T) = rn k_Ds_endCouple 72 L (.long (T.2.1 p 5) :: st) (enc T) := rn_getJ (n := 7) dd_Ds_endCouple_69 rfl (by decide) (by decide) (by decide) rfl hp
theorem dd_Ds_endCouple_72 : decode (px_rw k_Ds_endCouple).2.1 72 = .ok (.aload_n 0, 1) := (by decide +kernel : decode prog_1_method_42_code 72 = .ok (.aload_n 0, 1))
theorem e_Ds_endCouple_72 (a1 a2 a3 a4 a5 a6 a7 a8 a9 : Value) (x : Nat) (st : List Value) (g : px_G) : rn k_Ds_endCouple 72 [.ref x, a1, a2, a3, a4, a5, a6, a7, a8, a9] st g = rn k_Ds_endCouple 73 [.ref x, a1, a2, a3, a4, a5, a6, a7, a8, a9] (.ref x :: st) g := rn_next dd_Ds_endCouple_72 rfl
theorem dd_Ds_endCouple_73 : decode (px_rw k_Ds_endCouple).2.1 73 = .ok (.getfield 59, 3) := (by decide +kernel : decode prog_1_method_42_code 73 = .ok (.getfield 59, 3))
theorem e_Ds_endCouple_73 (L st : List Value) (T : TS) : rn k_Ds_endCouple 73 L (.ref 0 :: st) (enc T) = rn k_Ds_endCouple 76 L (.ref 14 :: st) (enc T) := rn_getO (n := 13) dd_Ds_endCouple_73 rfl (by decide) (by decide) (by decide) rfl rfl
theorem dd_Ds_endCouple_76 : decode (px_rw k_Ds_endCouple).2.1 76 = .ok (.getfield 279, 3) := (by decide +kernel : decode prog_1_method_42_code 76 = .ok (.getfield 279, 3))
theorem e_Ds_endCouple_76 (L : List Value) (p : Nat) (st : List Value) (T : TS) (hp : sh p = (100, 7)) : rn k_Ds_endCouple 76 L (.ref p :: st) (enc T) = rn k_Ds_endCouple 79 L (.long (T.2.1 p 6) :: st) (enc T) := rn_getJ (n := 7) dd_Ds_endCouple_76 rfl (by decide) (by decide) (by decide) rfl hp
theorem dd_Ds_endCouple_79 : decode (px_rw k_Ds_endCouple).2.1 79 = .ok (.lload_n 3, 1) := (by decide +kernel : decode prog_1_method_42_code 79 = .ok (.lload_n 3, 1))
theorem e_Ds_endCouple_79 (a0 a1 a2 a4 a5 a6 a7 a8 a9 : Value) (x : Int64) (st : List Value) (g : px_G) : rn k_Ds_endCouple 79 [a0, a1, a2, .long x, a4, a5, a6, a7, a8, a9] st g = rn k_Ds_endCouple 80 [a0, a1, a2, .long x, a4, a5, a6, a7, a8, a9] (.long x :: st) g := rn_next dd_Ds_endCouple_79 rfl
theorem dd_Ds_endCouple_80 : decode (px_rw k_Ds_endCouple).2.1 80 = .ok (.lload 5, 2) := (by decide +kernel : decode prog_1_method_42_code 80 = .ok (.lload 5, 2))
theorem e_Ds_endCouple_80 (a0 a1 a2 a3 a4 a6 a7 a8 a9 : Value) (x : Int64) (st : List Value) (g : px_G) : rn k_Ds_endCouple 80 [a0, a1, a2, a3, a4, .long x, a6, a7, a8, a9] st g = rn k_Ds_endCouple 82 [a0, a1, a2, a3, a4, .long x, a6, a7, a8, a9] (.long x :: st) g := rn_next dd_Ds_endCouple_80 rfl
theorem dd_Ds_endCouple_82 : decode (px_rw k_Ds_endCouple).2.1 82 = .ok (.invokestatic 338, 3) := (by decide +kernel : decode prog_1_method_42_code 82 = .ok (.invokestatic 338, 3))
theorem e_Ds_endCouple_82 (L : List Value) (j0 : Int64) (j1 : Int64) (j2 : Int64) (j3 : Int64) (g : px_G) : rn k_Ds_endCouple 82 L [.long j3, .long j2, .long j1, .long j0] g = bd (cl k_Ds_isFarther [.long j0, .long j1, .long j2, .long j3] g) (fun r g' => rn k_Ds_endCouple 85 L (r.toList ++ []) g') := rn_callS (As := [.long j0, .long j1, .long j2, .long j3]) (rest := []) dd_Ds_endCouple_82 rfl (by decide) rfl rfl (Nat.le_of_ble_eq_true rfl) (Nat.le_of_ble_eq_true rfl)
theorem dd_Ds_endCouple_85 : decode (px_rw k_Ds_endCouple).2.1 85 = .ok (.goto 23, 3) := (by decide +kernel : decode prog_1_method_42_code 85 = .ok (.goto 23, 3))
theorem e_Ds_endCouple_85 (L st : List Value) (g : px_G) : rn k_Ds_endCouple 85 L st g = rn k_Ds_endCouple 108 L st g := rn_goto dd_Ds_endCouple_85 (by decide)
theorem dd_Ds_endCouple_88 : decode (px_rw k_Ds_endCouple).2.1 88 = .ok (.lload_n 3, 1) := (by decide +kernel : decode prog_1_method_42_code 88 = .ok (.lload_n 3, 1))
theorem e_Ds_endCouple_88 (a0 a1 a2 a4 a5 a6 a7 a8 a9 : Value) (x : Int64) (st : List Value) (g : px_G) : rn k_Ds_endCouple 88 [a0, a1, a2, .long x, a4, a5, a6, a7, a8, a9] st g = rn k_Ds_endCouple 89 [a0, a1, a2, .long x, a4, a5, a6, a7, a8, a9] (.long x :: st) g := rn_next dd_Ds_endCouple_88 rfl
theorem dd_Ds_endCouple_89 : decode (px_rw k_Ds_endCouple).2.1 89 = .ok (.lload 5, 2) := (by decide +kernel : decode prog_1_method_42_code 89 = .ok (.lload 5, 2))
theorem e_Ds_endCouple_89 (a0 a1 a2 a3 a4 a6 a7 a8 a9 : Value) (x : Int64) (st : List Value) (g : px_G) : rn k_Ds_endCouple 89 [a0, a1, a2, a3, a4, .long x, a6, a7, a8, a9] st g = rn k_Ds_endCouple 91 [a0, a1, a2, a3, a4, .long x, a6, a7, a8, a9] (.long x :: st) g := rn_next dd_Ds_endCouple_89 rfl
theorem dd_Ds_endCouple_91 : decode (px_rw k_Ds_endCouple).2.1 91 = .ok (.aload_n 0, 1) := (by decide +kernel : decode prog_1_method_42_code 91 = .ok (.aload_n 0, 1))
theorem e_Ds_endCouple_91 (a1 a2 a3 a4 a5 a6 a7 a8 a9 : Value) (x : Nat) (st : List Value) (g : px_G) : rn k_Ds_endCouple 91 [.ref x, a1, a2, a3, a4, a5, a6, a7, a8, a9] st g = rn k_Ds_endCouple 92 [.ref x, a1, a2, a3, a4, a5, a6, a7, a8, a9] (.ref x :: st) g := rn_next dd_Ds_endCouple_91 rfl
theorem dd_Ds_endCouple_92 : decode (px_rw k_Ds_endCouple).2.1 92 = .ok (.getfield 59, 3) := (by decide +kernel : decode prog_1_method_42_code 92 = .ok (.getfield 59, 3))
theorem e_Ds_endCouple_92 (L st : List Value) (T : TS) : rn k_Ds_endCouple 92 L (.ref 0 :: st) (enc T) = rn k_Ds_endCouple 95 L (.ref 14 :: st) (enc T) := rn_getO (n := 13) dd_Ds_endCouple_92 rfl (by decide) (by decide) (by decide) rfl rfl
theorem dd_Ds_endCouple_95 : decode (px_rw k_Ds_endCouple).2.1 95 = .ok (.getfield 276, 3) := (by decide +kernel : decode prog_1_method_42_code 95 = .ok (.getfield 276, 3))
theorem e_Ds_endCouple_95 (L : List Value) (p : Nat) (st : List Value) (T : TS) (hp : sh p = (100, 7)) : rn k_Ds_endCouple 95 L (.ref p :: st) (enc T) = rn k_Ds_endCouple 98 L (.long (T.2.1 p 5) :: st) (enc T) := rn_getJ (n := 7) dd_Ds_endCouple_95 rfl (by decide) (by decide) (by decide) rfl hp
theorem dd_Ds_endCouple_98 : decode (px_rw k_Ds_endCouple).2.1 98 = .ok (.aload_n 0, 1) := (by decide +kernel : decode prog_1_method_42_code 98 = .ok (.aload_n 0, 1))
theorem e_Ds_endCouple_98 (a1 a2 a3 a4 a5 a6 a7 a8 a9 : Value) (x : Nat) (st : List Value) (g : px_G) : rn k_Ds_endCouple 98 [.ref x, a1, a2, a3, a4, a5, a6, a7, a8, a9] st g = rn k_Ds_endCouple 99 [.ref x, a1, a2, a3, a4, a5, a6, a7, a8, a9] (.ref x :: st) g := rn_next dd_Ds_endCouple_98 rfl
theorem dd_Ds_endCouple_99 : decode (px_rw k_Ds_endCouple).2.1 99 = .ok (.getfield 59, 3) := (by decide +kernel : decode prog_1_method_42_code 99 = .ok (.getfield 59, 3))
theorem e_Ds_endCouple_99 (L st : List Value) (T : TS) : rn k_Ds_endCouple 99 L (.ref 0 :: st) (enc T) = rn k_Ds_endCouple 102 L (.ref 14 :: st) (enc T) := rn_getO (n := 13) dd_Ds_endCouple_99 rfl (by decide) (by decide) (by decide) rfl rfl
theorem dd_Ds_endCouple_102 : decode (px_rw k_Ds_endCouple).2.1 102 = .ok (.getfield 279, 3) := (by decide +kernel : decode prog_1_method_42_code 102 = .ok (.getfield 279, 3))
theorem e_Ds_endCouple_102 (L : List Value) (p : Nat) (st : List Value) (T : TS) (hp : sh p = (100, 7)) : rn k_Ds_endCouple 102 L (.ref p :: st) (enc T) = rn k_Ds_endCouple 105 L (.long (T.2.1 p 6) :: st) (enc T) := rn_getJ (n := 7) dd_Ds_endCouple_102 rfl (by decide) (by decide) (by decide) rfl hp
theorem dd_Ds_endCouple_105 : decode (px_rw k_Ds_endCouple).2.1 105 = .ok (.invokestatic 338, 3) := (by decide +kernel : decode prog_1_method_42_code 105 = .ok (.invokestatic 338, 3))
theorem e_Ds_endCouple_105 (L : List Value) (j0 : Int64) (j1 : Int64) (j2 : Int64) (j3 : Int64) (g : px_G) : rn k_Ds_endCouple 105 L [.long j3, .long j2, .long j1, .long j0] g = bd (cl k_Ds_isFarther [.long j0, .long j1, .long j2, .long j3] g) (fun r g' => rn k_Ds_endCouple 108 L (r.toList ++ []) g') := rn_callS (As := [.long j0, .long j1, .long j2, .long j3]) (rest := []) dd_Ds_endCouple_105 rfl (by decide) rfl rfl (Nat.le_of_ble_eq_true rfl) (Nat.le_of_ble_eq_true rfl)
theorem dd_Ds_endCouple_108 : decode (px_rw k_Ds_endCouple).2.1 108 = .ok (.istore 9, 2) := (by decide +kernel : decode prog_1_method_42_code 108 = .ok (.istore 9, 2))
theorem e_Ds_endCouple_108 (a0 a1 a2 a3 a4 a5 a6 a7 a8 a9 : Value) (x : Int32) (st : List Value) (g : px_G) : rn k_Ds_endCouple 108 [a0, a1, a2, a3, a4, a5, a6, a7, a8, a9] (.int x :: st) g = rn k_Ds_endCouple 110 [a0, a1, a2, a3, a4, a5, a6, a7, px_kill a8, .int x] st g := rn_next dd_Ds_endCouple_108 rfl
theorem dd_Ds_endCouple_110 : decode (px_rw k_Ds_endCouple).2.1 110 = .ok (.iload_n 2, 1) := (by decide +kernel : decode prog_1_method_42_code 110 = .ok (.iload_n 2, 1))
theorem e_Ds_endCouple_110 (a0 a1 a3 a4 a5 a6 a7 a8 a9 : Value) (x : Int32) (st : List Value) (g : px_G) : rn k_Ds_endCouple 110 [a0, a1, .int x, a3, a4, a5, a6, a7, a8, a9] st g = rn k_Ds_endCouple 111 [a0, a1, .int x, a3, a4, a5, a6, a7, a8, a9] (.int x :: st) g := rn_next dd_Ds_endCouple_110 rfl
theorem dd_Ds_endCouple_111 : decode (px_rw k_Ds_endCouple).2.1 111 = .ok (.iconst (-1), 1) := (by decide +kernel : decode prog_1_method_42_code 111 = .ok (.iconst (-1), 1))
theorem e_Ds_endCouple_111 (L st : List Value) (g : px_G) : rn k_Ds_endCouple 111 L st g = rn k_Ds_endCouple 112 L (.int (-1) :: st) g := rn_ipush (i := .iconst (-1)) dd_Ds_endCouple_111 rfl rfl (by decide)
theorem dd_Ds_endCouple_112 : decode (px_rw k_Ds_endCouple).2.1 112 = .ok (.if_icmp .eq 8, 3) := (by decide +kernel : decode prog_1_method_42_code 112 = .ok (.if_icmp .eq 8, 3))
theorem e_Ds_endCouple_112 (L : List Value) (x y : Int32) (st : List Value) (g : px_G) : rn k_Ds_endCouple 112 L (.int y :: .int x :: st) g = if x = y then rn k_Ds_endCouple 120 L st g else rn k_Ds_endCouple 115 L st g := rn_iceq dd_Ds_endCouple_112 (by decide)
theorem dd_Ds_endCouple_115 : decode (px_rw k_Ds_endCouple).2.1 115 = .ok (.iload 9, 2) := (by decide +kernel : decode prog_1_method_42_code 115 = .ok (.iload 9, 2))
theorem e_Ds_endCouple_115 (a0 a1 a2 a3 a4 a5 a6 a7 a8 : Value) (x : Int32) (st : List Value) (g : px_G) : rn k_Ds_endCouple 115 [a0, a1, a2, a3, a4, a5, a6, a7, a8, .int x] st g = rn k_Ds_endCouple 117 [a0, a1, a2, a3, a4, a5, a6, a7, a8, .int x] (.int x :: st) g := rn_next dd_Ds_endCouple_115 rfl
theorem dd_Ds_endCouple_117 : decode (px_rw k_Ds_endCouple).2.1 117 = .ok (.ifCond .eq 29, 3) := (by decide +kernel : decode prog_1_method_42_code 117 = .ok (.ifCond .eq 29, 3))
theorem e_Ds_endCouple_117 (L : List Value) (x : Int32) (st : List Value) (g : px_G) : rn k_Ds_endCouple 117 L (.int x :: st) g = if x = 0 then rn k_Ds_endCouple 146 L st g else rn k_Ds_endCouple 120 L st g := rn_ifeq dd_Ds_endCouple_117 (by decide)
theorem dd_Ds_endCouple_120 : decode (px_rw k_Ds_endCouple).2.1 120 = .ok (.bipush 10, 2) := (by decide +kernel : decode prog_1_method_42_code 120 = .ok (.bipush 10, 2))
theorem e_Ds_endCouple_120 (L st : List Value) (g : px_G) : rn k_Ds_endCouple 120 L st g = rn k_Ds_endCouple 122 L (.int 10 :: st) g := rn_ipush (i := .bipush 10) dd_Ds_endCouple_120 rfl rfl (by decide)
theorem dd_Ds_endCouple_122 : decode (px_rw k_Ds_endCouple).2.1 122 = .ok (.iload 7, 2) := (by decide +kernel : decode prog_1_method_42_code 122 = .ok (.iload 7, 2))
theorem e_Ds_endCouple_122 (a0 a1 a2 a3 a4 a5 a6 a8 a9 : Value) (x : Int32) (st : List Value) (g : px_G) : rn k_Ds_endCouple 122 [a0, a1, a2, a3, a4, a5, a6, .int x, a8, a9] st g = rn k_Ds_endCouple 124 [a0, a1, a2, a3, a4, a5, a6, .int x, a8, a9] (.int x :: st) g := rn_next dd_Ds_endCouple_122 rfl
theorem dd_Ds_endCouple_124 : decode (px_rw k_Ds_endCouple).2.1 124 = .ok (.imul, 1) := (by decide +kernel : decode prog_1_method_42_code 124 = .ok (.imul, 1))
theorem e_Ds_endCouple_124 (L : List Value) (x y : Int32) (st : List Value) (g : px_G) : rn k_Ds_endCouple 124 L (.int y :: .int x :: st) g = rn k_Ds_endCouple 125 L (.int (x * y) :: st) g := rn_next dd_Ds_endCouple_124 rfl
theorem dd_Ds_endCouple_125 : decode (px_rw k_Ds_endCouple).2.1 125 = .ok (.iload 8, 2) := (by decide +kernel : decode prog_1_method_42_code 125 = .ok (.iload 8, 2))
theorem e_Ds_endCouple_125 (a0 a1 a2 a3 a4 a5 a6 a7 a9 : Value) (x : Int32) (st : List Value) (g : px_G) : rn k_Ds_endCouple 125 [a0, a1, a2, a3, a4, a5, a6, a7, .int x, a9] st g = rn k_Ds_endCouple 127 [a0, a1, a2, a3, a4, a5, a6, a7, .int x, a9] (.int x :: st) g := rn_next dd_Ds_endCouple_125 rfl
theorem dd_Ds_endCouple_127 : decode (px_rw k_Ds_endCouple).2.1 127 = .ok (.iadd, 1) := (by decide +kernel : decode prog_1_method_42_code 127 = .ok (.iadd, 1))
theorem e_Ds_endCouple_127 (L : List Value) (x y : Int32) (st : List Value) (g : px_G) : rn k_Ds_endCouple 127 L (.int y :: .int x :: st) g = rn k_Ds_endCouple 128 L (.int (x + y) :: st) g := rn_next dd_Ds_endCouple_127 rfl
theorem dd_Ds_endCouple_128 : decode (px_rw k_Ds_endCouple).2.1 128 = .ok (.istore_n 2, 1) := (by decide +kernel : decode prog_1_method_42_code 128 = .ok (.istore_n 2, 1))
theorem e_Ds_endCouple_128 (a0 a1 a2 a3 a4 a5 a6 a7 a8 a9 : Value) (x : Int32) (st : List Value) (g : px_G) : rn k_Ds_endCouple 128 [a0, a1, a2, a3, a4, a5, a6, a7, a8, a9] (.int x :: st) g = rn k_Ds_endCouple 129 [a0, px_kill a1, .int x, a3, a4, a5, a6, a7, a8, a9] st g := rn_next dd_Ds_endCouple_128 rfl
theorem dd_Ds_endCouple_129 : decode (px_rw k_Ds_endCouple).2.1 129 = .ok (.aload_n 0, 1) := (by decide +kernel : decode prog_1_method_42_code 129 = .ok (.aload_n 0, 1))
theorem e_Ds_endCouple_129 (a1 a2 a3 a4 a5 a6 a7 a8 a9 : Value) (x : Nat) (st : List Value) (g : px_G) : rn k_Ds_endCouple 129 [.ref x, a1, a2, a3, a4, a5, a6, a7, a8, a9] st g = rn k_Ds_endCouple 130 [.ref x, a1, a2, a3, a4, a5, a6, a7, a8, a9] (.ref x :: st) g := rn_next dd_Ds_endCouple_129 rfl
theorem dd_Ds_endCouple_130 : decode (px_rw k_Ds_endCouple).2.1 130 = .ok (.getfield 59, 3) := (by decide +kernel : decode prog_1_method_42_code 130 = .ok (.getfield 59, 3))
theorem e_Ds_endCouple_130 (L st : List Value) (T : TS) : rn k_Ds_endCouple 130 L (.ref 0 :: st) (enc T) = rn k_Ds_endCouple 133 L (.ref 14 :: st) (enc T) := rn_getO (n := 13) dd_Ds_endCouple_130 rfl (by decide) (by decide) (by decide) rfl rfl
theorem dd_Ds_endCouple_133 : decode (px_rw k_Ds_endCouple).2.1 133 = .ok (.getfield 276, 3) := (by decide +kernel : decode prog_1_method_42_code 133 = .ok (.getfield 276, 3))
theorem e_Ds_endCouple_133 (L : List Value) (p : Nat) (st : List Value) (T : TS) (hp : sh p = (100, 7)) : rn k_Ds_endCouple 133 L (.ref p :: st) (enc T) = rn k_Ds_endCouple 136 L (.long (T.2.1 p 5) :: st) (enc T) := rn_getJ (n := 7) dd_Ds_endCouple_133 rfl (by decide) (by decide) (by decide) rfl hp
theorem dd_Ds_endCouple_136 : decode (px_rw k_Ds_endCouple).2.1 136 = .ok (.lstore_n 3, 1) := (by decide +kernel : decode prog_1_method_42_code 136 = .ok (.lstore_n 3, 1))
theorem e_Ds_endCouple_136 (a0 a1 a2 a3 a4 a5 a6 a7 a8 a9 : Value) (x : Int64) (st : List Value) (g : px_G) : rn k_Ds_endCouple 136 [a0, a1, a2, a3, a4, a5, a6, a7, a8, a9] (.long x :: st) g = rn k_Ds_endCouple 137 [a0, a1, px_kill a2, .long x, .null, a5, a6, a7, a8, a9] st g := rn_next dd_Ds_endCouple_136 rfl
theorem dd_Ds_endCouple_137 : decode (px_rw k_Ds_endCouple).2.1 137 = .ok (.aload_n 0, 1) := (by decide +kernel : decode prog_1_method_42_code 137 = .ok (.aload_n 0, 1))
theorem e_Ds_endCouple_137 (a1 a2 a3 a4 a5 a6 a7 a8 a9 : Value) (x : Nat) (st : List Value) (g : px_G) : rn k_Ds_endCouple 137 [.ref x, a1, a2, a3, a4, a5, a6, a7, a8, a9] st g = rn k_Ds_endCouple 138 [.ref x, a1, a2, a3, a4, a5, a6, a7, a8, a9] (.ref x :: st) g := rn_next dd_Ds_endCouple_137 rfl
theorem dd_Ds_endCouple_138 : decode (px_rw k_Ds_endCouple).2.1 138 = .ok (.getfield 59, 3) := (by decide +kernel : decode prog_1_method_42_code 138 = .ok (.getfield 59, 3))
theorem e_Ds_endCouple_138 (L st : List Value) (T : TS) : rn k_Ds_endCouple 138 L (.ref 0 :: st) (enc T) = rn k_Ds_endCouple 141 L (.ref 14 :: st) (enc T) := rn_getO (n := 13) dd_Ds_endCouple_138 rfl (by decide) (by decide) (by decide) rfl rfl
theorem dd_Ds_endCouple_141 : decode (px_rw k_Ds_endCouple).2.1 141 = .ok (.getfield 279, 3) := (by decide +kernel : decode prog_1_method_42_code 141 = .ok (.getfield 279, 3))
theorem e_Ds_endCouple_141 (L : List Value) (p : Nat) (st : List Value) (T : TS) (hp : sh p = (100, 7)) : rn k_Ds_endCouple 141 L (.ref p :: st) (enc T) = rn k_Ds_endCouple 144 L (.long (T.2.1 p 6) :: st) (enc T) := rn_getJ (n := 7) dd_Ds_endCouple_141 rfl (by decide) (by decide) (by decide) rfl hp
theorem dd_Ds_endCouple_144 : decode (px_rw k_Ds_endCouple).2.1 144 = .ok (.lstore 5, 2) := (by decide +kernel : decode prog_1_method_42_code 144 = .ok (.lstore 5, 2))
theorem e_Ds_endCouple_144 (a0 a1 a2 a3 a4 a5 a6 a7 a8 a9 : Value) (x : Int64) (st : List Value) (g : px_G) : rn k_Ds_endCouple 144 [a0, a1, a2, a3, a4, a5, a6, a7, a8, a9] (.long x :: st) g = rn k_Ds_endCouple 146 [a0, a1, a2, a3, px_kill a4, .long x, .null, a7, a8, a9] st g := rn_next dd_Ds_endCouple_144 rfl
theorem dd_Ds_endCouple_146 : decode (px_rw k_Ds_endCouple).2.1 146 = .ok (.iinc 8 1, 3) := (by decide +kernel : decode prog_1_method_42_code 146 = .ok (.iinc 8 1, 3))
theorem e_Ds_endCouple_146 (a0 a1 a2 a3 a4 a5 a6 a7 a9 : Value) (x : Int32) (st : List Value) (g : px_G) : rn k_Ds_endCouple 146 [a0, a1, a2, a3, a4, a5, a6, a7, .int x, a9] st g = rn k_Ds_endCouple 149 [a0, a1, a2, a3, a4, a5, a6, px_kill a7, .int (x + 1), a9] st g := rn_next dd_Ds_endCouple_146 rfl
theorem dd_Ds_endCouple_149 : decode (px_rw k_Ds_endCouple).2.1 149 = .ok (.goto (-124), 3) := (by decide +kernel : decode prog_1_method_42_code 149 = .ok (.goto (-124), 3))
theorem e_Ds_endCouple_149 (L st : List Value) (g : px_G) : rn k_Ds_endCouple 149 L st g = rn k_Ds_endCouple 25 L st g := rn_goto dd_Ds_endCouple_149 (by decide)
theorem dd_Ds_endCouple_152 : decode (px_rw k_Ds_endCouple).2.1 152 = .ok (.iinc 7 1, 3) := (by decide +kernel : decode prog_1_method_42_code 152 = .ok (.iinc 7 1, 3))
theorem e_Ds_endCouple_152 (a0 a1 a2 a3 a4 a5 a6 a8 a9 : Value) (x : Int32) (st : List Value) (g : px_G) : rn k_Ds_endCouple 152 [a0, a1, a2, a3, a4, a5, a6, .int x, a8, a9] st g = rn k_Ds_endCouple 155 [a0, a1, a2, a3, a4, a5, px_kill a6, .int (x + 1), a8, a9] st g := rn_next dd_Ds_endCouple_152 rfl
theorem dd_Ds_endCouple_155 : decode (px_rw k_Ds_endCouple).2.1 155 = .ok (.goto (-145), 3) := (by decide +kernel : decode prog_1_method_42_code 155 = .ok (.goto (-145), 3))
theorem e_Ds_endCouple_155 (L st : List Value) (g : px_G) : rn k_Ds_endCouple 155 L st g = rn k_Ds_endCouple 10 L st g := rn_goto dd_Ds_endCouple_155 (by decide)
theorem dd_Ds_endCouple_158 : decode (px_rw k_Ds_endCouple).2.1 158 = .ok (.iload_n 2, 1) := (by decide +kernel : decode prog_1_method_42_code 158 = .ok (.iload_n 2, 1))
theorem e_Ds_endCouple_158 (a0 a1 a3 a4 a5 a6 a7 a8 a9 : Value) (x : Int32) (st : List Value) (g : px_G) : rn k_Ds_endCouple 158 [a0, a1, .int x, a3, a4, a5, a6, a7, a8, a9] st g = rn k_Ds_endCouple 159 [a0, a1, .int x, a3, a4, a5, a6, a7, a8, a9] (.int x :: st) g := rn_next dd_Ds_endCouple_158 rfl
theorem dd_Ds_endCouple_159 : decode (px_rw k_Ds_endCouple).2.1 159 = .ok (.ireturn, 1) := (by decide +kernel : decode prog_1_method_42_code 159 = .ok (.ireturn, 1))
theorem e_Ds_endCouple_159 (L : List Value) (v : Int32) (g : px_G) : rn k_Ds_endCouple 159 L [.int v] g = some (some (.int v), g) := rn_iret dd_Ds_endCouple_159 rfl
theorem c_Ds_alikeCouples (r0 : Nat) (g : px_G) : cl k_Ds_alikeCouples [.ref r0] g = rn k_Ds_alikeCouples 0 [.ref r0, .null, .null, .null] [] g := rfl
theorem dd_Ds_alikeCouples_0 : decode (px_rw k_Ds_alikeCouples).2.1 0 = .ok (.iconst 0, 1) := (by decide +kernel : decode prog_1_method_43_code 0 = .ok (.iconst 0, 1))
theorem e_Ds_alikeCouples_0 (L st : List Value) (g : px_G) : rn k_Ds_alikeCouples 0 L st g = rn k_Ds_alikeCouples 1 L (.int 0 :: st) g := rn_ipush (i := .iconst 0) dd_Ds_alikeCouples_0 rfl rfl (by decide)
theorem dd_Ds_alikeCouples_1 : decode (px_rw k_Ds_alikeCouples).2.1 1 = .ok (.istore_n 1, 1) := (by decide +kernel : decode prog_1_method_43_code 1 = .ok (.istore_n 1, 1))
theorem e_Ds_alikeCouples_1 (a0 a1 a2 a3 : Value) (x : Int32) (st : List Value) (g : px_G) : rn k_Ds_alikeCouples 1 [a0, a1, a2, a3] (.int x :: st) g = rn k_Ds_alikeCouples 2 [px_kill a0, .int x, a2, a3] st g := rn_next dd_Ds_alikeCouples_1 rfl
theorem dd_Ds_alikeCouples_2 : decode (px_rw k_Ds_alikeCouples).2.1 2 = .ok (.iconst 0, 1) := (by decide +kernel : decode prog_1_method_43_code 2 = .ok (.iconst 0, 1))
theorem e_Ds_alikeCouples_2 (L st : List Value) (g : px_G) : rn k_Ds_alikeCouples 2 L st g = rn k_Ds_alikeCouples 3 L (.int 0 :: st) g := rn_ipush (i := .iconst 0) dd_Ds_alikeCouples_2 rfl rfl (by decide)
theorem dd_Ds_alikeCouples_3 : decode (px_rw k_Ds_alikeCouples).2.1 3 = .ok (.istore_n 2, 1) := (by decide +kernel : decode prog_1_method_43_code 3 = .ok (.istore_n 2, 1))
theorem e_Ds_alikeCouples_3 (a0 a1 a2 a3 : Value) (x : Int32) (st : List Value) (g : px_G) : rn k_Ds_alikeCouples 3 [a0, a1, a2, a3] (.int x :: st) g = rn k_Ds_alikeCouples 4 [a0, px_kill a1, .int x, a3] st g := rn_next dd_Ds_alikeCouples_3 rfl
theorem dd_Ds_alikeCouples_4 : decode (px_rw k_Ds_alikeCouples).2.1 4 = .ok (.iload_n 2, 1) := (by decide +kernel : decode prog_1_method_43_code 4 = .ok (.iload_n 2, 1))
theorem e_Ds_alikeCouples_4 (a0 a1 a3 : Value) (x : Int32) (st : List Value) (g : px_G) : rn k_Ds_alikeCouples 4 [a0, a1, .int x, a3] st g = rn k_Ds_alikeCouples 5 [a0, a1, .int x, a3] (.int x :: st) g := rn_next dd_Ds_alikeCouples_4 rfl
theorem dd_Ds_alikeCouples_5 : decode (px_rw k_Ds_alikeCouples).2.1 5 = .ok (.aload_n 0, 1) := (by decide +kernel : decode prog_1_method_43_code 5 = .ok (.aload_n 0, 1))
theorem e_Ds_alikeCouples_5 (a1 a2 a3 : Value) (x : Nat) (st : List Value) (g : px_G) : rn k_Ds_alikeCouples 5 [.ref x, a1, a2, a3] st g = rn k_Ds_alikeCouples 6 [.ref x, a1, a2, a3] (.ref x :: st) g := rn_next dd_Ds_alikeCouples_5 rfl
theorem dd_Ds_alikeCouples_6 : decode (px_rw k_Ds_alikeCouples).2.1 6 = .ok (.getfield 96, 3) := (by decide +kernel : decode prog_1_method_43_code 6 = .ok (.getfield 96, 3))
theorem e_Ds_alikeCouples_6 (L st : List Value) (T : TS) : rn k_Ds_alikeCouples 6 L (.ref 0 :: st) (enc T) = rn k_Ds_alikeCouples 9 L (.int (T.1 0 3) :: st) (enc T) := rn_getI (n := 13) dd_Ds_alikeCouples_6 rfl (by decide) (by decide) (by decide) rfl rfl
theorem dd_Ds_alikeCouples_9 : decode (px_rw k_Ds_alikeCouples).2.1 9 = .ok (.if_icmp .ge 65, 3) := (by decide +kernel : decode prog_1_method_43_code 9 = .ok (.if_icmp .ge 65, 3))
theorem e_Ds_alikeCouples_9 (L : List Value) (x y : Int32) (st : List Value) (g : px_G) : rn k_Ds_alikeCouples 9 L (.int y :: .int x :: st) g = if y ≤ x then rn k_Ds_alikeCouples 74 L st g else rn k_Ds_alikeCouples 12 L st g := rn_icge dd_Ds_alikeCouples_9 (by decide)
theorem dd_Ds_alikeCouples_12 : decode (px_rw k_Ds_alikeCouples).2.1 12 = .ok (.iload_n 2, 1) := (by decide +kernel : decode prog_1_method_43_code 12 = .ok (.iload_n 2, 1))
theorem e_Ds_alikeCouples_12 (a0 a1 a3 : Value) (x : Int32) (st : List Value) (g : px_G) : rn k_Ds_alikeCouples 12 [a0, a1, .int x, a3] st g = rn k_Ds_alikeCouples 13 [a0, a1, .int x, a3] (.int x :: st) g := rn_next dd_Ds_alikeCouples_12 rfl
theorem dd_Ds_alikeCouples_13 : decode (px_rw k_Ds_alikeCouples).2.1 13 = .ok (.iconst 1, 1) := (by decide +kernel : decode prog_1_method_43_code 13 = .ok (.iconst 1, 1))
theorem e_Ds_alikeCouples_13 (L st : List Value) (g : px_G) : rn k_Ds_alikeCouples 13 L st g = rn k_Ds_alikeCouples 14 L (.int 1 :: st) g := rn_ipush (i := .iconst 1) dd_Ds_alikeCouples_13 rfl rfl (by decide)
theorem dd_Ds_alikeCouples_14 : decode (px_rw k_Ds_alikeCouples).2.1 14 = .ok (.iadd, 1) := (by decide +kernel : decode prog_1_method_43_code 14 = .ok (.iadd, 1))
theorem e_Ds_alikeCouples_14 (L : List Value) (x y : Int32) (st : List Value) (g : px_G) : rn k_Ds_alikeCouples 14 L (.int y :: .int x :: st) g = rn k_Ds_alikeCouples 15 L (.int (x + y) :: st) g := rn_next dd_Ds_alikeCouples_14 rfl
theorem dd_Ds_alikeCouples_15 : decode (px_rw k_Ds_alikeCouples).2.1 15 = .ok (.istore_n 3, 1) := (by decide +kernel : decode prog_1_method_43_code 15 = .ok (.istore_n 3, 1))
theorem e_Ds_alikeCouples_15 (a0 a1 a2 a3 : Value) (x : Int32) (st : List Value) (g : px_G) : rn k_Ds_alikeCouples 15 [a0, a1, a2, a3] (.int x :: st) g = rn k_Ds_alikeCouples 16 [a0, a1, px_kill a2, .int x] st g := rn_next dd_Ds_alikeCouples_15 rfl
theorem dd_Ds_alikeCouples_16 : decode (px_rw k_Ds_alikeCouples).2.1 16 = .ok (.iload_n 3, 1) := (by decide +kernel : decode prog_1_method_43_code 16 = .ok (.iload_n 3, 1))
theorem e_Ds_alikeCouples_16 (a0 a1 a2 : Value) (x : Int32) (st : List Value) (g : px_G) : rn k_Ds_alikeCouples 16 [a0, a1, a2, .int x] st g = rn k_Ds_alikeCouples 17 [a0, a1, a2, .int x] (.int x :: st) g := rn_next dd_Ds_alikeCouples_16 rfl
theorem dd_Ds_alikeCouples_17 : decode (px_rw k_Ds_alikeCouples).2.1 17 = .ok (.aload_n 0, 1) := (by decide +kernel : decode prog_1_method_43_code 17 = .ok (.aload_n 0, 1))
theorem e_Ds_alikeCouples_17 (a1 a2 a3 : Value) (x : Nat) (st : List Value) (g : px_G) : rn k_Ds_alikeCouples 17 [.ref x, a1, a2, a3] st g = rn k_Ds_alikeCouples 18 [.ref x, a1, a2, a3] (.ref x :: st) g := rn_next dd_Ds_alikeCouples_17 rfl
theorem dd_Ds_alikeCouples_18 : decode (px_rw k_Ds_alikeCouples).2.1 18 = .ok (.getfield 96, 3) := (by decide +kernel : decode prog_1_method_43_code 18 = .ok (.getfield 96, 3))
theorem e_Ds_alikeCouples_18 (L st : List Value) (T : TS) : rn k_Ds_alikeCouples 18 L (.ref 0 :: st) (enc T) = rn k_Ds_alikeCouples 21 L (.int (T.1 0 3) :: st) (enc T) := rn_getI (n := 13) dd_Ds_alikeCouples_18 rfl (by decide) (by decide) (by decide) rfl rfl
theorem dd_Ds_alikeCouples_21 : decode (px_rw k_Ds_alikeCouples).2.1 21 = .ok (.if_icmp .ge 47, 3) := (by decide +kernel : decode prog_1_method_43_code 21 = .ok (.if_icmp .ge 47, 3))
theorem e_Ds_alikeCouples_21 (L : List Value) (x y : Int32) (st : List Value) (g : px_G) : rn k_Ds_alikeCouples 21 L (.int y :: .int x :: st) g = if y ≤ x then rn k_Ds_alikeCouples 68 L st g else rn k_Ds_alikeCouples 24 L st g := rn_icge dd_Ds_alikeCouples_21 (by decide)
theorem dd_Ds_alikeCouples_24 : decode (px_rw k_Ds_alikeCouples).2.1 24 = .ok (.aload_n 0, 1) := (by decide +kernel : decode prog_1_method_43_code 24 = .ok (.aload_n 0, 1))
theorem e_Ds_alikeCouples_24 (a1 a2 a3 : Value) (x : Nat) (st : List Value) (g : px_G) : rn k_Ds_alikeCouples 24 [.ref x, a1, a2, a3] st g = rn k_Ds_alikeCouples 25 [.ref x, a1, a2, a3] (.ref x :: st) g := rn_next dd_Ds_alikeCouples_24 rfl
theorem dd_Ds_alikeCouples_25 : decode (px_rw k_Ds_alikeCouples).2.1 25 = .ok (.getfield 59, 3) := (by decide +kernel : decode prog_1_method_43_code 25 = .ok (.getfield 59, 3))
theorem e_Ds_alikeCouples_25 (L st : List Value) (T : TS) : rn k_Ds_alikeCouples 25 L (.ref 0 :: st) (enc T) = rn k_Ds_alikeCouples 28 L (.ref 14 :: st) (enc T) := rn_getO (n := 13) dd_Ds_alikeCouples_25 rfl (by decide) (by decide) (by decide) rfl rfl
theorem dd_Ds_alikeCouples_28 : decode (px_rw k_Ds_alikeCouples).2.1 28 = .ok (.aload_n 0, 1) := (by decide +kernel : decode prog_1_method_43_code 28 = .ok (.aload_n 0, 1))
theorem e_Ds_alikeCouples_28 (a1 a2 a3 : Value) (x : Nat) (st : List Value) (g : px_G) : rn k_Ds_alikeCouples 28 [.ref x, a1, a2, a3] st g = rn k_Ds_alikeCouples 29 [.ref x, a1, a2, a3] (.ref x :: st) g := rn_next dd_Ds_alikeCouples_28 rfl
theorem dd_Ds_alikeCouples_29 : decode (px_rw k_Ds_alikeCouples).2.1 29 = .ok (.getfield 27, 3) := (by decide +kernel : decode prog_1_method_43_code 29 = .ok (.getfield 27, 3))
theorem e_Ds_alikeCouples_29 (L st : List Value) (T : TS) : rn k_Ds_alikeCouples 29 L (.ref 0 :: st) (enc T) = rn k_Ds_alikeCouples 32 L (.ref 5 :: st) (enc T) := rn_getA (n := 13) dd_Ds_alikeCouples_29 rfl (by decide) (by decide) (by decide) rfl rfl
theorem dd_Ds_alikeCouples_32 : decode (px_rw k_Ds_alikeCouples).2.1 32 = .ok (.iload_n 2, 1) := (by decide +kernel : decode prog_1_method_43_code 32 = .ok (.iload_n 2, 1))
theorem e_Ds_alikeCouples_32 (a0 a1 a3 : Value) (x : Int32) (st : List Value) (g : px_G) : rn k_Ds_alikeCouples 32 [a0, a1, .int x, a3] st g = rn k_Ds_alikeCouples 33 [a0, a1, .int x, a3] (.int x :: st) g := rn_next dd_Ds_alikeCouples_32 rfl
theorem dd_Ds_alikeCouples_33 : decode (px_rw k_Ds_alikeCouples).2.1 33 = .ok (.aaload, 1) := (by decide +kernel : decode prog_1_method_43_code 33 = .ok (.aaload, 1))
theorem e_Ds_alikeCouples_33 (L : List Value) (i : Int32) (p : Nat) (st : List Value) (T : TS) (hp : (sh p).1 = 3) : rn k_Ds_alikeCouples 33 L (.int i :: .ref p :: st) (enc T) = if px_in i (sh p).2 then rn k_Ds_alikeCouples 34 L (.ref (T.2.2.1 i.toNatClampNeg) :: st) (enc T) else none := rn_aald dd_Ds_alikeCouples_33 (Prod.ext hp rfl)
theorem dd_Ds_alikeCouples_34 : decode (px_rw k_Ds_alikeCouples).2.1 34 = .ok (.getfield 139, 3) := (by decide +kernel : decode prog_1_method_43_code 34 = .ok (.getfield 139, 3))
theorem e_Ds_alikeCouples_34 (L : List Value) (p : Nat) (st : List Value) (T : TS) (hp : sh p = (104, 18)) : rn k_Ds_alikeCouples 34 L (.ref p :: st) (enc T) = rn k_Ds_alikeCouples 37 L (.ref (p + 1) :: st) (enc T) := (rn_getO (n := 18) dd_Ds_alikeCouples_34 rfl (by decide) (by decide) (by decide) rfl hp).trans (by rw [ink_rf_0 hp])
theorem dd_Ds_alikeCouples_37 : decode (px_rw k_Ds_alikeCouples).2.1 37 = .ok (.aload_n 0, 1) := (by decide +kernel : decode prog_1_method_43_code 37 = .ok (.aload_n 0, 1))
theorem e_Ds_alikeCouples_37 (a1 a2 a3 : Value) (x : Nat) (st : List Value) (g : px_G) : rn k_Ds_alikeCouples 37 [.ref x, a1, a2, a3] st g = rn k_Ds_alikeCouples 38 [.ref x, a1, a2, a3] (.ref x :: st) g := rn_next dd_Ds_alikeCouples_37 rfl
theorem dd_Ds_alikeCouples_38 : decode (px_rw k_Ds_alikeCouples).2.1 38 = .ok (.getfield 27, 3) := (by decide +kernel : decode prog_1_method_43_code 38 = .ok (.getfield 27, 3))
theorem e_Ds_alikeCouples_38 (L st : List Value) (T : TS) : rn k_Ds_alikeCouples 38 L (.ref 0 :: st) (enc T) = rn k_Ds_alikeCouples 41 L (.ref 5 :: st) (enc T) := rn_getA (n := 13) dd_Ds_alikeCouples_38 rfl (by decide) (by decide) (by decide) rfl rfl
theorem dd_Ds_alikeCouples_41 : decode (px_rw k_Ds_alikeCouples).2.1 41 = .ok (.iload_n 3, 1) := (by decide +kernel : decode prog_1_method_43_code 41 = .ok (.iload_n 3, 1))
theorem e_Ds_alikeCouples_41 (a0 a1 a2 : Value) (x : Int32) (st : List Value) (g : px_G) : rn k_Ds_alikeCouples 41 [a0, a1, a2, .int x] st g = rn k_Ds_alikeCouples 42 [a0, a1, a2, .int x] (.int x :: st) g := rn_next dd_Ds_alikeCouples_41 rfl
theorem dd_Ds_alikeCouples_42 : decode (px_rw k_Ds_alikeCouples).2.1 42 = .ok (.aaload, 1) := (by decide +kernel : decode prog_1_method_43_code 42 = .ok (.aaload, 1))
theorem e_Ds_alikeCouples_42 (L : List Value) (i : Int32) (p : Nat) (st : List Value) (T : TS) (hp : (sh p).1 = 3) : rn k_Ds_alikeCouples 42 L (.int i :: .ref p :: st) (enc T) = if px_in i (sh p).2 then rn k_Ds_alikeCouples 43 L (.ref (T.2.2.1 i.toNatClampNeg) :: st) (enc T) else none := rn_aald dd_Ds_alikeCouples_42 (Prod.ext hp rfl)
theorem dd_Ds_alikeCouples_43 : decode (px_rw k_Ds_alikeCouples).2.1 43 = .ok (.getfield 139, 3) := (by decide +kernel : decode prog_1_method_43_code 43 = .ok (.getfield 139, 3))
theorem e_Ds_alikeCouples_43 (L : List Value) (p : Nat) (st : List Value) (T : TS) (hp : sh p = (104, 18)) : rn k_Ds_alikeCouples 43 L (.ref p :: st) (enc T) = rn k_Ds_alikeCouples 46 L (.ref (p + 1) :: st) (enc T) := (rn_getO (n := 18) dd_Ds_alikeCouples_43 rfl (by decide) (by decide) (by decide) rfl hp).trans (by rw [ink_rf_0 hp])
theorem dd_Ds_alikeCouples_46 : decode (px_rw k_Ds_alikeCouples).2.1 46 = .ok (.invokevirtual 254, 3) := (by decide +kernel : decode prog_1_method_43_code 46 = .ok (.invokevirtual 254, 3))
theorem e_Ds_alikeCouples_46 (L : List Value) (r0 : Nat) (r1 : Nat) (p : Nat) (T : TS) (hp : sh p = (100, 7)) : rn k_Ds_alikeCouples 46 L [.ref r1, .ref r0, .ref p] (enc T) = bd (cl k_Beat_compare [.ref p, .ref r0, .ref r1] (enc T)) (fun r g' => rn k_Ds_alikeCouples 49 L (r.toList ++ []) g') := rn_callV (n := 7) (As := [.ref r0, .ref r1]) (rest := []) dd_Ds_alikeCouples_46 rfl (by decide) (by decide) rfl rfl (Nat.le_of_ble_eq_true rfl) (Nat.le_of_ble_eq_true rfl) hp
theorem dd_Ds_alikeCouples_49 : decode (px_rw k_Ds_alikeCouples).2.1 49 = .ok (.aload_n 0, 1) := (by decide +kernel : decode prog_1_method_43_code 49 = .ok (.aload_n 0, 1))
theorem e_Ds_alikeCouples_49 (a1 a2 a3 : Value) (x : Nat) (st : List Value) (g : px_G) : rn k_Ds_alikeCouples 49 [.ref x, a1, a2, a3] st g = rn k_Ds_alikeCouples 50 [.ref x, a1, a2, a3] (.ref x :: st) g := rn_next dd_Ds_alikeCouples_49 rfl
theorem dd_Ds_alikeCouples_50 : decode (px_rw k_Ds_alikeCouples).2.1 50 = .ok (.getfield 59, 3) := (by decide +kernel : decode prog_1_method_43_code 50 = .ok (.getfield 59, 3))
theorem e_Ds_alikeCouples_50 (L st : List Value) (T : TS) : rn k_Ds_alikeCouples 50 L (.ref 0 :: st) (enc T) = rn k_Ds_alikeCouples 53 L (.ref 14 :: st) (enc T) := rn_getO (n := 13) dd_Ds_alikeCouples_50 rfl (by decide) (by decide) (by decide) rfl rfl
theorem dd_Ds_alikeCouples_53 : decode (px_rw k_Ds_alikeCouples).2.1 53 = .ok (.getfield 270, 3) := (by decide +kernel : decode prog_1_method_43_code 53 = .ok (.getfield 270, 3))
theorem e_Ds_alikeCouples_53 (L : List Value) (p : Nat) (st : List Value) (T : TS) (hp : sh p = (100, 7)) : rn k_Ds_alikeCouples 53 L (.ref p :: st) (enc T) = rn k_Ds_alikeCouples 56 L (.int (T.1 p 4) :: st) (enc T) := rn_getZ (n := 7) dd_Ds_alikeCouples_53 rfl (by decide) (by decide) (by decide) rfl hp
theorem dd_Ds_alikeCouples_56 : decode (px_rw k_Ds_alikeCouples).2.1 56 = .ok (.ifCond .eq 6, 3) := (by decide +kernel : decode prog_1_method_43_code 56 = .ok (.ifCond .eq 6, 3))
theorem e_Ds_alikeCouples_56 (L : List Value) (x : Int32) (st : List Value) (g : px_G) : rn k_Ds_alikeCouples 56 L (.int x :: st) g = if x = 0 then rn k_Ds_alikeCouples 62 L st g else rn k_Ds_alikeCouples 59 L st g := rn_ifeq dd_Ds_alikeCouples_56 (by decide)
theorem dd_Ds_alikeCouples_59 : decode (px_rw k_Ds_alikeCouples).2.1 59 = .ok (.iinc 1 1, 3) := (by decide +kernel : decode prog_1_method_43_code 59 = .ok (.iinc 1 1, 3))
theorem e_Ds_alikeCouples_59 (a0 a2 a3 : Value) (x : Int32) (st : List Value) (g : px_G) : rn k_Ds_alikeCouples 59 [a0, .int x, a2, a3] st g = rn k_Ds_alikeCouples 62 [px_kill a0, .int (x + 1), a2, a3] st g := rn_next dd_Ds_alikeCouples_59 rfl
theorem dd_Ds_alikeCouples_62 : decode (px_rw k_Ds_alikeCouples).2.1 62 = .ok (.iinc 3 1, 3) := (by decide +kernel : decode prog_1_method_43_code 62 = .ok (.iinc 3 1, 3))
theorem e_Ds_alikeCouples_62 (a0 a1 a2 : Value) (x : Int32) (st : List Value) (g : px_G) : rn k_Ds_alikeCouples 62 [a0, a1, a2, .int x] st g = rn k_Ds_alikeCouples 65 [a0, a1, px_kill a2, .int (x + 1)] st g := rn_next dd_Ds_alikeCouples_62 rfl
theorem dd_Ds_alikeCouples_65 : decode (px_rw k_Ds_alikeCouples).2.1 65 = .ok (.goto (-49), 3) := (by decide +kernel : decode prog_1_method_43_code 65 = .ok (.goto (-49), 3))
theorem e_Ds_alikeCouples_65 (L st : List Value) (g : px_G) : rn k_Ds_alikeCouples 65 L st g = rn k_Ds_alikeCouples 16 L st g := rn_goto dd_Ds_alikeCouples_65 (by decide)
theorem dd_Ds_alikeCouples_68 : decode (px_rw k_Ds_alikeCouples).2.1 68 = .ok (.iinc 2 1, 3) := (by decide +kernel : decode prog_1_method_43_code 68 = .ok (.iinc 2 1, 3))
theorem e_Ds_alikeCouples_68 (a0 a1 a3 : Value) (x : Int32) (st : List Value) (g : px_G) : rn k_Ds_alikeCouples 68 [a0, a1, .int x, a3] st g = rn k_Ds_alikeCouples 71 [a0, px_kill a1, .int (x + 1), a3] st g := rn_next dd_Ds_alikeCouples_68 rfl
theorem dd_Ds_alikeCouples_71 : decode (px_rw k_Ds_alikeCouples).2.1 71 = .ok (.goto (-67), 3) := (by decide +kernel : decode prog_1_method_43_code 71 = .ok (.goto (-67), 3))
theorem e_Ds_alikeCouples_71 (L st : List Value) (g : px_G) : rn k_Ds_alikeCouples 71 L st g = rn k_Ds_alikeCouples 4 L st g := rn_goto dd_Ds_alikeCouples_71 (by decide)
theorem dd_Ds_alikeCouples_74 : decode (px_rw k_Ds_alikeCouples).2.1 74 = .ok (.iload_n 1, 1) := (by decide +kernel : decode prog_1_method_43_code 74 = .ok (.iload_n 1, 1))
theorem e_Ds_alikeCouples_74 (a0 a2 a3 : Value) (x : Int32) (st : List Value) (g : px_G) : rn k_Ds_alikeCouples 74 [a0, .int x, a2, a3] st g = rn k_Ds_alikeCouples 75 [a0, .int x, a2, a3] (.int x :: st) g := rn_next dd_Ds_alikeCouples_74 rfl
theorem dd_Ds_alikeCouples_75 : decode (px_rw k_Ds_alikeCouples).2.1 75 = .ok (.ireturn, 1) := (by decide +kernel : decode prog_1_method_43_code 75 = .ok (.ireturn, 1))
theorem e_Ds_alikeCouples_75 (L : List Value) (v : Int32) (g : px_G) : rn k_Ds_alikeCouples 75 L [.int v] g = some (some (.int v), g) := rn_iret dd_Ds_alikeCouples_75 rfl
theorem c_Ds_greatestCell (r0 : Nat) (g : px_G) : cl k_Ds_greatestCell [.ref r0] g = rn k_Ds_greatestCell 0 [.ref r0, .null, .null] [] g := rfl
theorem dd_Ds_greatestCell_0 : decode (px_rw k_Ds_greatestCell).2.1 0 = .ok (.iconst 0, 1) := (by decide +kernel : decode prog_1_method_44_code 0 = .ok (.iconst 0, 1))
theorem e_Ds_greatestCell_0 (L st : List Value) (g : px_G) : rn k_Ds_greatestCell 0 L st g = rn k_Ds_greatestCell 1 L (.int 0 :: st) g := rn_ipush (i := .iconst 0) dd_Ds_greatestCell_0 rfl rfl (by decide)
theorem dd_Ds_greatestCell_1 : decode (px_rw k_Ds_greatestCell).2.1 1 = .ok (.istore_n 1, 1) := (by decide +kernel : decode prog_1_method_44_code 1 = .ok (.istore_n 1, 1))
theorem e_Ds_greatestCell_1 (a0 a1 a2 : Value) (x : Int32) (st : List Value) (g : px_G) : rn k_Ds_greatestCell 1 [a0, a1, a2] (.int x :: st) g = rn k_Ds_greatestCell 2 [px_kill a0, .int x, a2] st g := rn_next dd_Ds_greatestCell_1 rfl
theorem dd_Ds_greatestCell_2 : decode (px_rw k_Ds_greatestCell).2.1 2 = .ok (.iconst 0, 1) := (by decide +kernel : decode prog_1_method_44_code 2 = .ok (.iconst 0, 1))
theorem e_Ds_greatestCell_2 (L st : List Value) (g : px_G) : rn k_Ds_greatestCell 2 L st g = rn k_Ds_greatestCell 3 L (.int 0 :: st) g := rn_ipush (i := .iconst 0) dd_Ds_greatestCell_2 rfl rfl (by decide)
theorem dd_Ds_greatestCell_3 : decode (px_rw k_Ds_greatestCell).2.1 3 = .ok (.istore_n 2, 1) := (by decide +kernel : decode prog_1_method_44_code 3 = .ok (.istore_n 2, 1))
theorem e_Ds_greatestCell_3 (a0 a1 a2 : Value) (x : Int32) (st : List Value) (g : px_G) : rn k_Ds_greatestCell 3 [a0, a1, a2] (.int x :: st) g = rn k_Ds_greatestCell 4 [a0, px_kill a1, .int x] st g := rn_next dd_Ds_greatestCell_3 rfl
theorem dd_Ds_greatestCell_4 : decode (px_rw k_Ds_greatestCell).2.1 4 = .ok (.iload_n 2, 1) := (by decide +kernel : decode prog_1_method_44_code 4 = .ok (.iload_n 2, 1))
theorem e_Ds_greatestCell_4 (a0 a1 : Value) (x : Int32) (st : List Value) (g : px_G) : rn k_Ds_greatestCell 4 [a0, a1, .int x] st g = rn k_Ds_greatestCell 5 [a0, a1, .int x] (.int x :: st) g := rn_next dd_Ds_greatestCell_4 rfl
theorem dd_Ds_greatestCell_5 : decode (px_rw k_Ds_greatestCell).2.1 5 = .ok (.aload_n 0, 1) := (by decide +kernel : decode prog_1_method_44_code 5 = .ok (.aload_n 0, 1))
theorem e_Ds_greatestCell_5 (a1 a2 : Value) (x : Nat) (st : List Value) (g : px_G) : rn k_Ds_greatestCell 5 [.ref x, a1, a2] st g = rn k_Ds_greatestCell 6 [.ref x, a1, a2] (.ref x :: st) g := rn_next dd_Ds_greatestCell_5 rfl
theorem dd_Ds_greatestCell_6 : decode (px_rw k_Ds_greatestCell).2.1 6 = .ok (.getfield 96, 3) := (by decide +kernel : decode prog_1_method_44_code 6 = .ok (.getfield 96, 3))
theorem e_Ds_greatestCell_6 (L st : List Value) (T : TS) : rn k_Ds_greatestCell 6 L (.ref 0 :: st) (enc T) = rn k_Ds_greatestCell 9 L (.int (T.1 0 3) :: st) (enc T) := rn_getI (n := 13) dd_Ds_greatestCell_6 rfl (by decide) (by decide) (by decide) rfl rfl
theorem dd_Ds_greatestCell_9 : decode (px_rw k_Ds_greatestCell).2.1 9 = .ok (.if_icmp .ge 23, 3) := (by decide +kernel : decode prog_1_method_44_code 9 = .ok (.if_icmp .ge 23, 3))
theorem e_Ds_greatestCell_9 (L : List Value) (x y : Int32) (st : List Value) (g : px_G) : rn k_Ds_greatestCell 9 L (.int y :: .int x :: st) g = if y ≤ x then rn k_Ds_greatestCell 32 L st g else rn k_Ds_greatestCell 12 L st g := rn_icge dd_Ds_greatestCell_9 (by decide)
theorem dd_Ds_greatestCell_12 : decode (px_rw k_Ds_greatestCell).2.1 12 = .ok (.iload_n 1, 1) := (by decide +kernel : decode prog_1_method_44_code 12 = .ok (.iload_n 1, 1))
theorem e_Ds_greatestCell_12 (a0 a2 : Value) (x : Int32) (st : List Value) (g : px_G) : rn k_Ds_greatestCell 12 [a0, .int x, a2] st g = rn k_Ds_greatestCell 13 [a0, .int x, a2] (.int x :: st) g := rn_next dd_Ds_greatestCell_12 rfl
theorem dd_Ds_greatestCell_13 : decode (px_rw k_Ds_greatestCell).2.1 13 = .ok (.aload_n 0, 1) := (by decide +kernel : decode prog_1_method_44_code 13 = .ok (.aload_n 0, 1))
theorem e_Ds_greatestCell_13 (a1 a2 : Value) (x : Nat) (st : List Value) (g : px_G) : rn k_Ds_greatestCell 13 [.ref x, a1, a2] st g = rn k_Ds_greatestCell 14 [.ref x, a1, a2] (.ref x :: st) g := rn_next dd_Ds_greatestCell_13 rfl
theorem dd_Ds_greatestCell_14 : decode (px_rw k_Ds_greatestCell).2.1 14 = .ok (.getfield 27, 3) := (by decide +kernel : decode prog_1_method_44_code 14 = .ok (.getfield 27, 3))
theorem e_Ds_greatestCell_14 (L st : List Value) (T : TS) : rn k_Ds_greatestCell 14 L (.ref 0 :: st) (enc T) = rn k_Ds_greatestCell 17 L (.ref 5 :: st) (enc T) := rn_getA (n := 13) dd_Ds_greatestCell_14 rfl (by decide) (by decide) (by decide) rfl rfl
theorem dd_Ds_greatestCell_17 : decode (px_rw k_Ds_greatestCell).2.1 17 = .ok (.iload_n 2, 1) := (by decide +kernel : decode prog_1_method_44_code 17 = .ok (.iload_n 2, 1))
theorem e_Ds_greatestCell_17 (a0 a1 : Value) (x : Int32) (st : List Value) (g : px_G) : rn k_Ds_greatestCell 17 [a0, a1, .int x] st g = rn k_Ds_greatestCell 18 [a0, a1, .int x] (.int x :: st) g := rn_next dd_Ds_greatestCell_17 rfl
theorem dd_Ds_greatestCell_18 : decode (px_rw k_Ds_greatestCell).2.1 18 = .ok (.aaload, 1) := (by decide +kernel : decode prog_1_method_44_code 18 = .ok (.aaload, 1))
theorem e_Ds_greatestCell_18 (L : List Value) (i : Int32) (p : Nat) (st : List Value) (T : TS) (hp : (sh p).1 = 3) : rn k_Ds_greatestCell 18 L (.int i :: .ref p :: st) (enc T) = if px_in i (sh p).2 then rn k_Ds_greatestCell 19 L (.ref (T.2.2.1 i.toNatClampNeg) :: st) (enc T) else none := rn_aald dd_Ds_greatestCell_18 (Prod.ext hp rfl)
theorem dd_Ds_greatestCell_19 : decode (px_rw k_Ds_greatestCell).2.1 19 = .ok (.getfield 154, 3) := (by decide +kernel : decode prog_1_method_44_code 19 = .ok (.getfield 154, 3))
theorem e_Ds_greatestCell_19 (L : List Value) (p : Nat) (st : List Value) (T : TS) (hp : sh p = (104, 18)) : rn k_Ds_greatestCell 19 L (.ref p :: st) (enc T) = rn k_Ds_greatestCell 22 L (.int (T.1 p 2) :: st) (enc T) := rn_getI (n := 18) dd_Ds_greatestCell_19 rfl (by decide) (by decide) (by decide) rfl hp
theorem dd_Ds_greatestCell_22 : decode (px_rw k_Ds_greatestCell).2.1 22 = .ok (.invokestatic 246, 3) := (by decide +kernel : decode prog_1_method_44_code 22 = .ok (.invokestatic 246, 3))
theorem e_Ds_greatestCell_22 (L : List Value) (i0 : Int32) (i1 : Int32) (g : px_G) : rn k_Ds_greatestCell 22 L [.int i1, .int i0] g = bd (cl k_Math_max_II [.int i0, .int i1] g) (fun r g' => rn k_Ds_greatestCell 25 L (r.toList ++ []) g') := rn_callS (As := [.int i0, .int i1]) (rest := []) dd_Ds_greatestCell_22 rfl (by decide) rfl rfl (Nat.le_of_ble_eq_true rfl) (Nat.le_of_ble_eq_true rfl)
theorem dd_Ds_greatestCell_25 : decode (px_rw k_Ds_greatestCell).2.1 25 = .ok (.istore_n 1, 1) := (by decide +kernel : decode prog_1_method_44_code 25 = .ok (.istore_n 1, 1))
theorem e_Ds_greatestCell_25 (a0 a1 a2 : Value) (x : Int32) (st : List Value) (g : px_G) : rn k_Ds_greatestCell 25 [a0, a1, a2] (.int x :: st) g = rn k_Ds_greatestCell 26 [px_kill a0, .int x, a2] st g := rn_next dd_Ds_greatestCell_25 rfl
theorem dd_Ds_greatestCell_26 : decode (px_rw k_Ds_greatestCell).2.1 26 = .ok (.iinc 2 1, 3) := (by decide +kernel : decode prog_1_method_44_code 26 = .ok (.iinc 2 1, 3))
theorem e_Ds_greatestCell_26 (a0 a1 : Value) (x : Int32) (st : List Value) (g : px_G) : rn k_Ds_greatestCell 26 [a0, a1, .int x] st g = rn k_Ds_greatestCell 29 [a0, px_kill a1, .int (x + 1)] st g := rn_next dd_Ds_greatestCell_26 rfl
theorem dd_Ds_greatestCell_29 : decode (px_rw k_Ds_greatestCell).2.1 29 = .ok (.goto (-25), 3) := (by decide +kernel : decode prog_1_method_44_code 29 = .ok (.goto (-25), 3))
theorem e_Ds_greatestCell_29 (L st : List Value) (g : px_G) : rn k_Ds_greatestCell 29 L st g = rn k_Ds_greatestCell 4 L st g := rn_goto dd_Ds_greatestCell_29 (by decide)
theorem dd_Ds_greatestCell_32 : decode (px_rw k_Ds_greatestCell).2.1 32 = .ok (.iload_n 1, 1) := (by decide +kernel : decode prog_1_method_44_code 32 = .ok (.iload_n 1, 1))
theorem e_Ds_greatestCell_32 (a0 a2 : Value) (x : Int32) (st : List Value) (g : px_G) : rn k_Ds_greatestCell 32 [a0, .int x, a2] st g = rn k_Ds_greatestCell 33 [a0, .int x, a2] (.int x :: st) g := rn_next dd_Ds_greatestCell_32 rfl
theorem dd_Ds_greatestCell_33 : decode (px_rw k_Ds_greatestCell).2.1 33 = .ok (.ireturn, 1) := (by decide +kernel : decode prog_1_method_44_code 33 = .ok (.ireturn, 1))
theorem e_Ds_greatestCell_33 (L : List Value) (v : Int32) (g : px_G) : rn k_Ds_greatestCell 33 L [.int v] g = some (some (.int v), g) := rn_iret dd_Ds_greatestCell_33 rfl
theorem c_Ds_inkedPixels (r0 : Nat) (g : px_G) : cl k_Ds_inkedPixels [.ref r0] g = rn k_Ds_inkedPixels 0 [.ref r0, .null, .null] [] g := rfl
theorem dd_Ds_inkedPixels_0 : decode (px_rw k_Ds_inkedPixels).2.1 0 = .ok (.iconst 0, 1) := (by decide +kernel : decode prog_1_method_45_code 0 = .ok (.iconst 0, 1))
theorem e_Ds_inkedPixels_0 (L st : List Value) (g : px_G) : rn k_Ds_inkedPixels 0 L st g = rn k_Ds_inkedPixels 1 L (.int 0 :: st) g := rn_ipush (i := .iconst 0) dd_Ds_inkedPixels_0 rfl rfl (by decide)
theorem dd_Ds_inkedPixels_1 : decode (px_rw k_Ds_inkedPixels).2.1 1 = .ok (.istore_n 1, 1) := (by decide +kernel : decode prog_1_method_45_code 1 = .ok (.istore_n 1, 1))
theorem e_Ds_inkedPixels_1 (a0 a1 a2 : Value) (x : Int32) (st : List Value) (g : px_G) : rn k_Ds_inkedPixels 1 [a0, a1, a2] (.int x :: st) g = rn k_Ds_inkedPixels 2 [px_kill a0, .int x, a2] st g := rn_next dd_Ds_inkedPixels_1 rfl
theorem dd_Ds_inkedPixels_2 : decode (px_rw k_Ds_inkedPixels).2.1 2 = .ok (.iconst 0, 1) := (by decide +kernel : decode prog_1_method_45_code 2 = .ok (.iconst 0, 1))
theorem e_Ds_inkedPixels_2 (L st : List Value) (g : px_G) : rn k_Ds_inkedPixels 2 L st g = rn k_Ds_inkedPixels 3 L (.int 0 :: st) g := rn_ipush (i := .iconst 0) dd_Ds_inkedPixels_2 rfl rfl (by decide)
theorem dd_Ds_inkedPixels_3 : decode (px_rw k_Ds_inkedPixels).2.1 3 = .ok (.istore_n 2, 1) := (by decide +kernel : decode prog_1_method_45_code 3 = .ok (.istore_n 2, 1))
theorem e_Ds_inkedPixels_3 (a0 a1 a2 : Value) (x : Int32) (st : List Value) (g : px_G) : rn k_Ds_inkedPixels 3 [a0, a1, a2] (.int x :: st) g = rn k_Ds_inkedPixels 4 [a0, px_kill a1, .int x] st g := rn_next dd_Ds_inkedPixels_3 rfl
theorem dd_Ds_inkedPixels_4 : decode (px_rw k_Ds_inkedPixels).2.1 4 = .ok (.iload_n 2, 1) := (by decide +kernel : decode prog_1_method_45_code 4 = .ok (.iload_n 2, 1))
theorem e_Ds_inkedPixels_4 (a0 a1 : Value) (x : Int32) (st : List Value) (g : px_G) : rn k_Ds_inkedPixels 4 [a0, a1, .int x] st g = rn k_Ds_inkedPixels 5 [a0, a1, .int x] (.int x :: st) g := rn_next dd_Ds_inkedPixels_4 rfl
theorem dd_Ds_inkedPixels_5 : decode (px_rw k_Ds_inkedPixels).2.1 5 = .ok (.aload_n 0, 1) := (by decide +kernel : decode prog_1_method_45_code 5 = .ok (.aload_n 0, 1))
theorem e_Ds_inkedPixels_5 (a1 a2 : Value) (x : Nat) (st : List Value) (g : px_G) : rn k_Ds_inkedPixels 5 [.ref x, a1, a2] st g = rn k_Ds_inkedPixels 6 [.ref x, a1, a2] (.ref x :: st) g := rn_next dd_Ds_inkedPixels_5 rfl
theorem dd_Ds_inkedPixels_6 : decode (px_rw k_Ds_inkedPixels).2.1 6 = .ok (.getfield 96, 3) := (by decide +kernel : decode prog_1_method_45_code 6 = .ok (.getfield 96, 3))
theorem e_Ds_inkedPixels_6 (L st : List Value) (T : TS) : rn k_Ds_inkedPixels 6 L (.ref 0 :: st) (enc T) = rn k_Ds_inkedPixels 9 L (.int (T.1 0 3) :: st) (enc T) := rn_getI (n := 13) dd_Ds_inkedPixels_6 rfl (by decide) (by decide) (by decide) rfl rfl
theorem dd_Ds_inkedPixels_9 : decode (px_rw k_Ds_inkedPixels).2.1 9 = .ok (.if_icmp .ge 21, 3) := (by decide +kernel : decode prog_1_method_45_code 9 = .ok (.if_icmp .ge 21, 3))
theorem e_Ds_inkedPixels_9 (L : List Value) (x y : Int32) (st : List Value) (g : px_G) : rn k_Ds_inkedPixels 9 L (.int y :: .int x :: st) g = if y ≤ x then rn k_Ds_inkedPixels 30 L st g else rn k_Ds_inkedPixels 12 L st g := rn_icge dd_Ds_inkedPixels_9 (by decide)
theorem dd_Ds_inkedPixels_12 : decode (px_rw k_Ds_inkedPixels).2.1 12 = .ok (.iload_n 1, 1) := (by decide +kernel : decode prog_1_method_45_code 12 = .ok (.iload_n 1, 1))
theorem e_Ds_inkedPixels_12 (a0 a2 : Value) (x : Int32) (st : List Value) (g : px_G) : rn k_Ds_inkedPixels 12 [a0, .int x, a2] st g = rn k_Ds_inkedPixels 13 [a0, .int x, a2] (.int x :: st) g := rn_next dd_Ds_inkedPixels_12 rfl
theorem dd_Ds_inkedPixels_13 : decode (px_rw k_Ds_inkedPixels).2.1 13 = .ok (.aload_n 0, 1) := (by decide +kernel : decode prog_1_method_45_code 13 = .ok (.aload_n 0, 1))
theorem e_Ds_inkedPixels_13 (a1 a2 : Value) (x : Nat) (st : List Value) (g : px_G) : rn k_Ds_inkedPixels 13 [.ref x, a1, a2] st g = rn k_Ds_inkedPixels 14 [.ref x, a1, a2] (.ref x :: st) g := rn_next dd_Ds_inkedPixels_13 rfl
theorem dd_Ds_inkedPixels_14 : decode (px_rw k_Ds_inkedPixels).2.1 14 = .ok (.getfield 27, 3) := (by decide +kernel : decode prog_1_method_45_code 14 = .ok (.getfield 27, 3))
theorem e_Ds_inkedPixels_14 (L st : List Value) (T : TS) : rn k_Ds_inkedPixels 14 L (.ref 0 :: st) (enc T) = rn k_Ds_inkedPixels 17 L (.ref 5 :: st) (enc T) := rn_getA (n := 13) dd_Ds_inkedPixels_14 rfl (by decide) (by decide) (by decide) rfl rfl
theorem dd_Ds_inkedPixels_17 : decode (px_rw k_Ds_inkedPixels).2.1 17 = .ok (.iload_n 2, 1) := (by decide +kernel : decode prog_1_method_45_code 17 = .ok (.iload_n 2, 1))
theorem e_Ds_inkedPixels_17 (a0 a1 : Value) (x : Int32) (st : List Value) (g : px_G) : rn k_Ds_inkedPixels 17 [a0, a1, .int x] st g = rn k_Ds_inkedPixels 18 [a0, a1, .int x] (.int x :: st) g := rn_next dd_Ds_inkedPixels_17 rfl
theorem dd_Ds_inkedPixels_18 : decode (px_rw k_Ds_inkedPixels).2.1 18 = .ok (.aaload, 1) := (by decide +kernel : decode prog_1_method_45_code 18 = .ok (.aaload, 1))
theorem e_Ds_inkedPixels_18 (L : List Value) (i : Int32) (p : Nat) (st : List Value) (T : TS) (hp : (sh p).1 = 3) : rn k_Ds_inkedPixels 18 L (.int i :: .ref p :: st) (enc T) = if px_in i (sh p).2 then rn k_Ds_inkedPixels 19 L (.ref (T.2.2.1 i.toNatClampNeg) :: st) (enc T) else none := rn_aald dd_Ds_inkedPixels_18 (Prod.ext hp rfl)
theorem dd_Ds_inkedPixels_19 : decode (px_rw k_Ds_inkedPixels).2.1 19 = .ok (.invokevirtual 160, 3) := (by decide +kernel : decode prog_1_method_45_code 19 = .ok (.invokevirtual 160, 3))
theorem e_Ds_inkedPixels_19 (L : List Value) (i100 : Int32) (p : Nat) (T : TS) (hp : sh p = (104, 18)) : rn k_Ds_inkedPixels 19 L [.ref p, .int i100] (enc T) = bd (cl k_Ink_level [.ref p] (enc T)) (fun r g' => rn k_Ds_inkedPixels 22 L (r.toList ++ [.int i100]) g') := rn_callV (n := 18) (As := []) (rest := [.int i100]) dd_Ds_inkedPixels_19 rfl (by decide) (by decide) rfl rfl (Nat.le_of_ble_eq_true rfl) (Nat.le_of_ble_eq_true rfl) hp
theorem dd_Ds_inkedPixels_22 : decode (px_rw k_Ds_inkedPixels).2.1 22 = .ok (.iadd, 1) := (by decide +kernel : decode prog_1_method_45_code 22 = .ok (.iadd, 1))
theorem e_Ds_inkedPixels_22 (L : List Value) (x y : Int32) (st : List Value) (g : px_G) : rn k_Ds_inkedPixels 22 L (.int y :: .int x :: st) g = rn k_Ds_inkedPixels 23 L (.int (x + y) :: st) g := rn_next dd_Ds_inkedPixels_22 rfl
theorem dd_Ds_inkedPixels_23 : decode (px_rw k_Ds_inkedPixels).2.1 23 = .ok (.istore_n 1, 1) := (by decide +kernel : decode prog_1_method_45_code 23 = .ok (.istore_n 1, 1))
theorem e_Ds_inkedPixels_23 (a0 a1 a2 : Value) (x : Int32) (st : List Value) (g : px_G) : rn k_Ds_inkedPixels 23 [a0, a1, a2] (.int x :: st) g = rn k_Ds_inkedPixels 24 [px_kill a0, .int x, a2] st g := rn_next dd_Ds_inkedPixels_23 rfl
theorem dd_Ds_inkedPixels_24 : decode (px_rw k_Ds_inkedPixels).2.1 24 = .ok (.iinc 2 1, 3) := (by decide +kernel : decode prog_1_method_45_code 24 = .ok (.iinc 2 1, 3))
theorem e_Ds_inkedPixels_24 (a0 a1 : Value) (x : Int32) (st : List Value) (g : px_G) : rn k_Ds_inkedPixels 24 [a0, a1, .int x] st g = rn k_Ds_inkedPixels 27 [a0, px_kill a1, .int (x + 1)] st g := rn_next dd_Ds_inkedPixels_24 rfl
theorem dd_Ds_inkedPixels_27 : decode (px_rw k_Ds_inkedPixels).2.1 27 = .ok (.goto (-23), 3) := (by decide +kernel : decode prog_1_method_45_code 27 = .ok (.goto (-23), 3))
theorem e_Ds_inkedPixels_27 (L st : List Value) (g : px_G) : rn k_Ds_inkedPixels 27 L st g = rn k_Ds_inkedPixels 4 L st g := rn_goto dd_Ds_inkedPixels_27 (by decide)
theorem dd_Ds_inkedPixels_30 : decode (px_rw k_Ds_inkedPixels).2.1 30 = .ok (.iload_n 1, 1) := (by decide +kernel : decode prog_1_method_45_code 30 = .ok (.iload_n 1, 1))
theorem e_Ds_inkedPixels_30 (a0 a2 : Value) (x : Int32) (st : List Value) (g : px_G) : rn k_Ds_inkedPixels 30 [a0, .int x, a2] st g = rn k_Ds_inkedPixels 31 [a0, .int x, a2] (.int x :: st) g := rn_next dd_Ds_inkedPixels_30 rfl
theorem dd_Ds_inkedPixels_31 : decode (px_rw k_Ds_inkedPixels).2.1 31 = .ok (.ireturn, 1) := (by decide +kernel : decode prog_1_method_45_code 31 = .ok (.ireturn, 1))
theorem e_Ds_inkedPixels_31 (L : List Value) (v : Int32) (g : px_G) : rn k_Ds_inkedPixels 31 L [.int v] g = some (some (.int v), g) := rn_iret dd_Ds_inkedPixels_31 rfl
theorem c_Ds_inksGrown (r0 : Nat) (i1 : Int32) (g : px_G) : cl k_Ds_inksGrown [.ref r0, .int i1] g = rn k_Ds_inksGrown 0 [.ref r0, .int i1, .null, .null] [] g := rfl
theorem dd_Ds_inksGrown_0 : decode (px_rw k_Ds_inksGrown).2.1 0 = .ok (.iconst 0, 1) := (by decide +kernel : decode prog_1_method_46_code 0 = .ok (.iconst 0, 1))
theorem e_Ds_inksGrown_0 (L st : List Value) (g : px_G) : rn k_Ds_inksGrown 0 L st g = rn k_Ds_inksGrown 1 L (.int 0 :: st) g := rn_ipush (i := .iconst 0) dd_Ds_inksGrown_0 rfl rfl (by decide)
theorem dd_Ds_inksGrown_1 : decode (px_rw k_Ds_inksGrown).2.1 1 = .ok (.istore_n 2, 1) := (by decide +kernel : decode prog_1_method_46_code 1 = .ok (.istore_n 2, 1))
theorem e_Ds_inksGrown_1 (a0 a1 a2 a3 : Value) (x : Int32) (st : List Value) (g : px_G) : rn k_Ds_inksGrown 1 [a0, a1, a2, a3] (.int x :: st) g = rn k_Ds_inksGrown 2 [a0, px_kill a1, .int x, a3] st g := rn_next dd_Ds_inksGrown_1 rfl
theorem dd_Ds_inksGrown_2 : decode (px_rw k_Ds_inksGrown).2.1 2 = .ok (.iconst 0, 1) := (by decide +kernel : decode prog_1_method_46_code 2 = .ok (.iconst 0, 1))
theorem e_Ds_inksGrown_2 (L st : List Value) (g : px_G) : rn k_Ds_inksGrown 2 L st g = rn k_Ds_inksGrown 3 L (.int 0 :: st) g := rn_ipush (i := .iconst 0) dd_Ds_inksGrown_2 rfl rfl (by decide)
theorem dd_Ds_inksGrown_3 : decode (px_rw k_Ds_inksGrown).2.1 3 = .ok (.istore_n 3, 1) := (by decide +kernel : decode prog_1_method_46_code 3 = .ok (.istore_n 3, 1))
theorem e_Ds_inksGrown_3 (a0 a1 a2 a3 : Value) (x : Int32) (st : List Value) (g : px_G) : rn k_Ds_inksGrown 3 [a0, a1, a2, a3] (.int x :: st) g = rn k_Ds_inksGrown 4 [a0, a1, px_kill a2, .int x] st g := rn_next dd_Ds_inksGrown_3 rfl
theorem dd_Ds_inksGrown_4 : decode (px_rw k_Ds_inksGrown).2.1 4 = .ok (.iload_n 3, 1) := (by decide +kernel : decode prog_1_method_46_code 4 = .ok (.iload_n 3, 1))
theorem e_Ds_inksGrown_4 (a0 a1 a2 : Value) (x : Int32) (st : List Value) (g : px_G) : rn k_Ds_inksGrown 4 [a0, a1, a2, .int x] st g = rn k_Ds_inksGrown 5 [a0, a1, a2, .int x] (.int x :: st) g := rn_next dd_Ds_inksGrown_4 rfl
theorem dd_Ds_inksGrown_5 : decode (px_rw k_Ds_inksGrown).2.1 5 = .ok (.aload_n 0, 1) := (by decide +kernel : decode prog_1_method_46_code 5 = .ok (.aload_n 0, 1))
theorem e_Ds_inksGrown_5 (a1 a2 a3 : Value) (x : Nat) (st : List Value) (g : px_G) : rn k_Ds_inksGrown 5 [.ref x, a1, a2, a3] st g = rn k_Ds_inksGrown 6 [.ref x, a1, a2, a3] (.ref x :: st) g := rn_next dd_Ds_inksGrown_5 rfl
theorem dd_Ds_inksGrown_6 : decode (px_rw k_Ds_inksGrown).2.1 6 = .ok (.getfield 96, 3) := (by decide +kernel : decode prog_1_method_46_code 6 = .ok (.getfield 96, 3))
theorem e_Ds_inksGrown_6 (L st : List Value) (T : TS) : rn k_Ds_inksGrown 6 L (.ref 0 :: st) (enc T) = rn k_Ds_inksGrown 9 L (.int (T.1 0 3) :: st) (enc T) := rn_getI (n := 13) dd_Ds_inksGrown_6 rfl (by decide) (by decide) (by decide) rfl rfl
theorem dd_Ds_inksGrown_9 : decode (px_rw k_Ds_inksGrown).2.1 9 = .ok (.if_icmp .ge 65, 3) := (by decide +kernel : decode prog_1_method_46_code 9 = .ok (.if_icmp .ge 65, 3))
theorem e_Ds_inksGrown_9 (L : List Value) (x y : Int32) (st : List Value) (g : px_G) : rn k_Ds_inksGrown 9 L (.int y :: .int x :: st) g = if y ≤ x then rn k_Ds_inksGrown 74 L st g else rn k_Ds_inksGrown 12 L st g := rn_icge dd_Ds_inksGrown_9 (by decide)
theorem dd_Ds_inksGrown_12 : decode (px_rw k_Ds_inksGrown).2.1 12 = .ok (.aload_n 0, 1) := (by decide +kernel : decode prog_1_method_46_code 12 = .ok (.aload_n 0, 1))
theorem e_Ds_inksGrown_12 (a1 a2 a3 : Value) (x : Nat) (st : List Value) (g : px_G) : rn k_Ds_inksGrown 12 [.ref x, a1, a2, a3] st g = rn k_Ds_inksGrown 13 [.ref x, a1, a2, a3] (.ref x :: st) g := rn_next dd_Ds_inksGrown_12 rfl
theorem dd_Ds_inksGrown_13 : decode (px_rw k_Ds_inksGrown).2.1 13 = .ok (.getfield 38, 3) := (by decide +kernel : decode prog_1_method_46_code 13 = .ok (.getfield 38, 3))
theorem e_Ds_inksGrown_13 (L st : List Value) (T : TS) : rn k_Ds_inksGrown 13 L (.ref 0 :: st) (enc T) = rn k_Ds_inksGrown 16 L (.ref 7 :: st) (enc T) := rn_getO (n := 13) dd_Ds_inksGrown_13 rfl (by decide) (by decide) (by decide) rfl rfl
theorem dd_Ds_inksGrown_16 : decode (px_rw k_Ds_inksGrown).2.1 16 = .ok (.aload_n 0, 1) := (by decide +kernel : decode prog_1_method_46_code 16 = .ok (.aload_n 0, 1))
theorem e_Ds_inksGrown_16 (a1 a2 a3 : Value) (x : Nat) (st : List Value) (g : px_G) : rn k_Ds_inksGrown 16 [.ref x, a1, a2, a3] st g = rn k_Ds_inksGrown 17 [.ref x, a1, a2, a3] (.ref x :: st) g := rn_next dd_Ds_inksGrown_16 rfl
theorem dd_Ds_inksGrown_17 : decode (px_rw k_Ds_inksGrown).2.1 17 = .ok (.getfield 27, 3) := (by decide +kernel : decode prog_1_method_46_code 17 = .ok (.getfield 27, 3))
theorem e_Ds_inksGrown_17 (L st : List Value) (T : TS) : rn k_Ds_inksGrown 17 L (.ref 0 :: st) (enc T) = rn k_Ds_inksGrown 20 L (.ref 5 :: st) (enc T) := rn_getA (n := 13) dd_Ds_inksGrown_17 rfl (by decide) (by decide) (by decide) rfl rfl
theorem dd_Ds_inksGrown_20 : decode (px_rw k_Ds_inksGrown).2.1 20 = .ok (.iload_n 3, 1) := (by decide +kernel : decode prog_1_method_46_code 20 = .ok (.iload_n 3, 1))
theorem e_Ds_inksGrown_20 (a0 a1 a2 : Value) (x : Int32) (st : List Value) (g : px_G) : rn k_Ds_inksGrown 20 [a0, a1, a2, .int x] st g = rn k_Ds_inksGrown 21 [a0, a1, a2, .int x] (.int x :: st) g := rn_next dd_Ds_inksGrown_20 rfl
theorem dd_Ds_inksGrown_21 : decode (px_rw k_Ds_inksGrown).2.1 21 = .ok (.aaload, 1) := (by decide +kernel : decode prog_1_method_46_code 21 = .ok (.aaload, 1))
theorem e_Ds_inksGrown_21 (L : List Value) (i : Int32) (p : Nat) (st : List Value) (T : TS) (hp : (sh p).1 = 3) : rn k_Ds_inksGrown 21 L (.int i :: .ref p :: st) (enc T) = if px_in i (sh p).2 then rn k_Ds_inksGrown 22 L (.ref (T.2.2.1 i.toNatClampNeg) :: st) (enc T) else none := rn_aald dd_Ds_inksGrown_21 (Prod.ext hp rfl)
theorem dd_Ds_inksGrown_22 : decode (px_rw k_Ds_inksGrown).2.1 22 = .ok (.invokevirtual 223, 3) := (by decide +kernel : decode prog_1_method_46_code 22 = .ok (.invokevirtual 223, 3))
theorem e_Ds_inksGrown_22 (L : List Value) (r0 : Nat)  (T : TS)  : rn k_Ds_inksGrown 22 L [.ref r0, .ref 7] (enc T) = bd (cl k_Growth_grow [.ref 7, .ref r0] (enc T)) (fun r g' => rn k_Ds_inksGrown 25 L (r.toList ++ []) g') := rn_callV (n := 11) (As := [.ref r0]) (rest := []) dd_Ds_inksGrown_22 rfl (by decide) (by decide) rfl rfl (Nat.le_of_ble_eq_true rfl) (Nat.le_of_ble_eq_true rfl) rfl
theorem dd_Ds_inksGrown_25 : decode (px_rw k_Ds_inksGrown).2.1 25 = .ok (.aload_n 0, 1) := (by decide +kernel : decode prog_1_method_46_code 25 = .ok (.aload_n 0, 1))
theorem e_Ds_inksGrown_25 (a1 a2 a3 : Value) (x : Nat) (st : List Value) (g : px_G) : rn k_Ds_inksGrown 25 [.ref x, a1, a2, a3] st g = rn k_Ds_inksGrown 26 [.ref x, a1, a2, a3] (.ref x :: st) g := rn_next dd_Ds_inksGrown_25 rfl
theorem dd_Ds_inksGrown_26 : decode (px_rw k_Ds_inksGrown).2.1 26 = .ok (.getfield 27, 3) := (by decide +kernel : decode prog_1_method_46_code 26 = .ok (.getfield 27, 3))
theorem e_Ds_inksGrown_26 (L st : List Value) (T : TS) : rn k_Ds_inksGrown 26 L (.ref 0 :: st) (enc T) = rn k_Ds_inksGrown 29 L (.ref 5 :: st) (enc T) := rn_getA (n := 13) dd_Ds_inksGrown_26 rfl (by decide) (by decide) (by decide) rfl rfl
theorem dd_Ds_inksGrown_29 : decode (px_rw k_Ds_inksGrown).2.1 29 = .ok (.iload_n 3, 1) := (by decide +kernel : decode prog_1_method_46_code 29 = .ok (.iload_n 3, 1))
theorem e_Ds_inksGrown_29 (a0 a1 a2 : Value) (x : Int32) (st : List Value) (g : px_G) : rn k_Ds_inksGrown 29 [a0, a1, a2, .int x] st g = rn k_Ds_inksGrown 30 [a0, a1, a2, .int x] (.int x :: st) g := rn_next dd_Ds_inksGrown_29 rfl
theorem dd_Ds_inksGrown_30 : decode (px_rw k_Ds_inksGrown).2.1 30 = .ok (.aaload, 1) := (by decide +kernel : decode prog_1_method_46_code 30 = .ok (.aaload, 1))
theorem e_Ds_inksGrown_30 (L : List Value) (i : Int32) (p : Nat) (st : List Value) (T : TS) (hp : (sh p).1 = 3) : rn k_Ds_inksGrown 30 L (.int i :: .ref p :: st) (enc T) = if px_in i (sh p).2 then rn k_Ds_inksGrown 31 L (.ref (T.2.2.1 i.toNatClampNeg) :: st) (enc T) else none := rn_aald dd_Ds_inksGrown_30 (Prod.ext hp rfl)
theorem dd_Ds_inksGrown_31 : decode (px_rw k_Ds_inksGrown).2.1 31 = .ok (.invokevirtual 160, 3) := (by decide +kernel : decode prog_1_method_46_code 31 = .ok (.invokevirtual 160, 3))
theorem e_Ds_inksGrown_31 (L : List Value)  (p : Nat) (T : TS) (hp : sh p = (104, 18)) : rn k_Ds_inksGrown 31 L [.ref p] (enc T) = bd (cl k_Ink_level [.ref p] (enc T)) (fun r g' => rn k_Ds_inksGrown 34 L (r.toList ++ []) g') := rn_callV (n := 18) (As := []) (rest := []) dd_Ds_inksGrown_31 rfl (by decide) (by decide) rfl rfl (Nat.le_of_ble_eq_true rfl) (Nat.le_of_ble_eq_true rfl) hp
theorem dd_Ds_inksGrown_34 : decode (px_rw k_Ds_inksGrown).2.1 34 = .ok (.iload_n 1, 1) := (by decide +kernel : decode prog_1_method_46_code 34 = .ok (.iload_n 1, 1))
theorem e_Ds_inksGrown_34 (a0 a2 a3 : Value) (x : Int32) (st : List Value) (g : px_G) : rn k_Ds_inksGrown 34 [a0, .int x, a2, a3] st g = rn k_Ds_inksGrown 35 [a0, .int x, a2, a3] (.int x :: st) g := rn_next dd_Ds_inksGrown_34 rfl
theorem dd_Ds_inksGrown_35 : decode (px_rw k_Ds_inksGrown).2.1 35 = .ok (.ifCond .eq 15, 3) := (by decide +kernel : decode prog_1_method_46_code 35 = .ok (.ifCond .eq 15, 3))
theorem e_Ds_inksGrown_35 (L : List Value) (x : Int32) (st : List Value) (g : px_G) : rn k_Ds_inksGrown 35 L (.int x :: st) g = if x = 0 then rn k_Ds_inksGrown 50 L st g else rn k_Ds_inksGrown 38 L st g := rn_ifeq dd_Ds_inksGrown_35 (by decide)
theorem dd_Ds_inksGrown_38 : decode (px_rw k_Ds_inksGrown).2.1 38 = .ok (.aload_n 0, 1) := (by decide +kernel : decode prog_1_method_46_code 38 = .ok (.aload_n 0, 1))
theorem e_Ds_inksGrown_38 (a1 a2 a3 : Value) (x : Nat) (st : List Value) (g : px_G) : rn k_Ds_inksGrown 38 [.ref x, a1, a2, a3] st g = rn k_Ds_inksGrown 39 [.ref x, a1, a2, a3] (.ref x :: st) g := rn_next dd_Ds_inksGrown_38 rfl
theorem dd_Ds_inksGrown_39 : decode (px_rw k_Ds_inksGrown).2.1 39 = .ok (.getfield 27, 3) := (by decide +kernel : decode prog_1_method_46_code 39 = .ok (.getfield 27, 3))
theorem e_Ds_inksGrown_39 (L st : List Value) (T : TS) : rn k_Ds_inksGrown 39 L (.ref 0 :: st) (enc T) = rn k_Ds_inksGrown 42 L (.ref 5 :: st) (enc T) := rn_getA (n := 13) dd_Ds_inksGrown_39 rfl (by decide) (by decide) (by decide) rfl rfl
theorem dd_Ds_inksGrown_42 : decode (px_rw k_Ds_inksGrown).2.1 42 = .ok (.iload_n 3, 1) := (by decide +kernel : decode prog_1_method_46_code 42 = .ok (.iload_n 3, 1))
theorem e_Ds_inksGrown_42 (a0 a1 a2 : Value) (x : Int32) (st : List Value) (g : px_G) : rn k_Ds_inksGrown 42 [a0, a1, a2, .int x] st g = rn k_Ds_inksGrown 43 [a0, a1, a2, .int x] (.int x :: st) g := rn_next dd_Ds_inksGrown_42 rfl
theorem dd_Ds_inksGrown_43 : decode (px_rw k_Ds_inksGrown).2.1 43 = .ok (.aaload, 1) := (by decide +kernel : decode prog_1_method_46_code 43 = .ok (.aaload, 1))
theorem e_Ds_inksGrown_43 (L : List Value) (i : Int32) (p : Nat) (st : List Value) (T : TS) (hp : (sh p).1 = 3) : rn k_Ds_inksGrown 43 L (.int i :: .ref p :: st) (enc T) = if px_in i (sh p).2 then rn k_Ds_inksGrown 44 L (.ref (T.2.2.1 i.toNatClampNeg) :: st) (enc T) else none := rn_aald dd_Ds_inksGrown_43 (Prod.ext hp rfl)
theorem dd_Ds_inksGrown_44 : decode (px_rw k_Ds_inksGrown).2.1 44 = .ok (.getfield 233, 3) := (by decide +kernel : decode prog_1_method_46_code 44 = .ok (.getfield 233, 3))
theorem e_Ds_inksGrown_44 (L : List Value) (p : Nat) (st : List Value) (T : TS) (hp : sh p = (104, 18)) : rn k_Ds_inksGrown 44 L (.ref p :: st) (enc T) = rn k_Ds_inksGrown 47 L (.int (T.1 p 12) :: st) (enc T) := rn_getI (n := 18) dd_Ds_inksGrown_44 rfl (by decide) (by decide) (by decide) rfl hp
theorem dd_Ds_inksGrown_47 : decode (px_rw k_Ds_inksGrown).2.1 47 = .ok (.goto 12, 3) := (by decide +kernel : decode prog_1_method_46_code 47 = .ok (.goto 12, 3))
theorem e_Ds_inksGrown_47 (L st : List Value) (g : px_G) : rn k_Ds_inksGrown 47 L st g = rn k_Ds_inksGrown 59 L st g := rn_goto dd_Ds_inksGrown_47 (by decide)
theorem dd_Ds_inksGrown_50 : decode (px_rw k_Ds_inksGrown).2.1 50 = .ok (.aload_n 0, 1) := (by decide +kernel : decode prog_1_method_46_code 50 = .ok (.aload_n 0, 1))
theorem e_Ds_inksGrown_50 (a1 a2 a3 : Value) (x : Nat) (st : List Value) (g : px_G) : rn k_Ds_inksGrown 50 [.ref x, a1, a2, a3] st g = rn k_Ds_inksGrown 51 [.ref x, a1, a2, a3] (.ref x :: st) g := rn_next dd_Ds_inksGrown_50 rfl
theorem dd_Ds_inksGrown_51 : decode (px_rw k_Ds_inksGrown).2.1 51 = .ok (.getfield 27, 3) := (by decide +kernel : decode prog_1_method_46_code 51 = .ok (.getfield 27, 3))
theorem e_Ds_inksGrown_51 (L st : List Value) (T : TS) : rn k_Ds_inksGrown 51 L (.ref 0 :: st) (enc T) = rn k_Ds_inksGrown 54 L (.ref 5 :: st) (enc T) := rn_getA (n := 13) dd_Ds_inksGrown_51 rfl (by decide) (by decide) (by decide) rfl rfl
theorem dd_Ds_inksGrown_54 : decode (px_rw k_Ds_inksGrown).2.1 54 = .ok (.iload_n 3, 1) := (by decide +kernel : decode prog_1_method_46_code 54 = .ok (.iload_n 3, 1))
theorem e_Ds_inksGrown_54 (a0 a1 a2 : Value) (x : Int32) (st : List Value) (g : px_G) : rn k_Ds_inksGrown 54 [a0, a1, a2, .int x] st g = rn k_Ds_inksGrown 55 [a0, a1, a2, .int x] (.int x :: st) g := rn_next dd_Ds_inksGrown_54 rfl
theorem dd_Ds_inksGrown_55 : decode (px_rw k_Ds_inksGrown).2.1 55 = .ok (.aaload, 1) := (by decide +kernel : decode prog_1_method_46_code 55 = .ok (.aaload, 1))
theorem e_Ds_inksGrown_55 (L : List Value) (i : Int32) (p : Nat) (st : List Value) (T : TS) (hp : (sh p).1 = 3) : rn k_Ds_inksGrown 55 L (.int i :: .ref p :: st) (enc T) = if px_in i (sh p).2 then rn k_Ds_inksGrown 56 L (.ref (T.2.2.1 i.toNatClampNeg) :: st) (enc T) else none := rn_aald dd_Ds_inksGrown_55 (Prod.ext hp rfl)
theorem dd_Ds_inksGrown_56 : decode (px_rw k_Ds_inksGrown).2.1 56 = .ok (.getfield 230, 3) := (by decide +kernel : decode prog_1_method_46_code 56 = .ok (.getfield 230, 3))
theorem e_Ds_inksGrown_56 (L : List Value) (p : Nat) (st : List Value) (T : TS) (hp : sh p = (104, 18)) : rn k_Ds_inksGrown 56 L (.ref p :: st) (enc T) = rn k_Ds_inksGrown 59 L (.int (T.1 p 11) :: st) (enc T) := rn_getI (n := 18) dd_Ds_inksGrown_56 rfl (by decide) (by decide) (by decide) rfl hp
theorem dd_Ds_inksGrown_59 : decode (px_rw k_Ds_inksGrown).2.1 59 = .ok (.if_icmp .lt 9, 3) := (by decide +kernel : decode prog_1_method_46_code 59 = .ok (.if_icmp .lt 9, 3))
theorem e_Ds_inksGrown_59 (L : List Value) (x y : Int32) (st : List Value) (g : px_G) : rn k_Ds_inksGrown 59 L (.int y :: .int x :: st) g = if x < y then rn k_Ds_inksGrown 68 L st g else rn k_Ds_inksGrown 62 L st g := rn_iclt dd_Ds_inksGrown_59 (by decide)
theorem dd_Ds_inksGrown_62 : decode (px_rw k_Ds_inksGrown).2.1 62 = .ok (.iload_n 2, 1) := (by decide +kernel : decode prog_1_method_46_code 62 = .ok (.iload_n 2, 1))
theorem e_Ds_inksGrown_62 (a0 a1 a3 : Value) (x : Int32) (st : List Value) (g : px_G) : rn k_Ds_inksGrown 62 [a0, a1, .int x, a3] st g = rn k_Ds_inksGrown 63 [a0, a1, .int x, a3] (.int x :: st) g := rn_next dd_Ds_inksGrown_62 rfl
theorem dd_Ds_inksGrown_63 : decode (px_rw k_Ds_inksGrown).2.1 63 = .ok (.iconst 1, 1) := (by decide +kernel : decode prog_1_method_46_code 63 = .ok (.iconst 1, 1))
theorem e_Ds_inksGrown_63 (L st : List Value) (g : px_G) : rn k_Ds_inksGrown 63 L st g = rn k_Ds_inksGrown 64 L (.int 1 :: st) g := rn_ipush (i := .iconst 1) dd_Ds_inksGrown_63 rfl rfl (by decide)
theorem dd_Ds_inksGrown_64 : decode (px_rw k_Ds_inksGrown).2.1 64 = .ok (.iload_n 3, 1) := (by decide +kernel : decode prog_1_method_46_code 64 = .ok (.iload_n 3, 1))
theorem e_Ds_inksGrown_64 (a0 a1 a2 : Value) (x : Int32) (st : List Value) (g : px_G) : rn k_Ds_inksGrown 64 [a0, a1, a2, .int x] st g = rn k_Ds_inksGrown 65 [a0, a1, a2, .int x] (.int x :: st) g := rn_next dd_Ds_inksGrown_64 rfl
theorem dd_Ds_inksGrown_65 : decode (px_rw k_Ds_inksGrown).2.1 65 = .ok (.ishl, 1) := (by decide +kernel : decode prog_1_method_46_code 65 = .ok (.ishl, 1))
theorem e_Ds_inksGrown_65 (L : List Value) (x y : Int32) (st : List Value) (g : px_G) : rn k_Ds_inksGrown 65 L (.int y :: .int x :: st) g = rn k_Ds_inksGrown 66 L (.int (x <<< (y &&& 31)) :: st) g := rn_next dd_Ds_inksGrown_65 rfl
theorem dd_Ds_inksGrown_66 : decode (px_rw k_Ds_inksGrown).2.1 66 = .ok (.ior, 1) := (by decide +kernel : decode prog_1_method_46_code 66 = .ok (.ior, 1))
theorem e_Ds_inksGrown_66 (L : List Value) (x y : Int32) (st : List Value) (g : px_G) : rn k_Ds_inksGrown 66 L (.int y :: .int x :: st) g = rn k_Ds_inksGrown 67 L (.int (x ||| y) :: st) g := rn_next dd_Ds_inksGrown_66 rfl
theorem dd_Ds_inksGrown_67 : decode (px_rw k_Ds_inksGrown).2.1 67 = .ok (.istore_n 2, 1) := (by decide +kernel : decode prog_1_method_46_code 67 = .ok (.istore_n 2, 1))
theorem e_Ds_inksGrown_67 (a0 a1 a2 a3 : Value) (x : Int32) (st : List Value) (g : px_G) : rn k_Ds_inksGrown 67 [a0, a1, a2, a3] (.int x :: st) g = rn k_Ds_inksGrown 68 [a0, px_kill a1, .int x, a3] st g := rn_next dd_Ds_inksGrown_67 rfl
theorem dd_Ds_inksGrown_68 : decode (px_rw k_Ds_inksGrown).2.1 68 = .ok (.iinc 3 1, 3) := (by decide +kernel : decode prog_1_method_46_code 68 = .ok (.iinc 3 1, 3))
theorem e_Ds_inksGrown_68 (a0 a1 a2 : Value) (x : Int32) (st : List Value) (g : px_G) : rn k_Ds_inksGrown 68 [a0, a1, a2, .int x] st g = rn k_Ds_inksGrown 71 [a0, a1, px_kill a2, .int (x + 1)] st g := rn_next dd_Ds_inksGrown_68 rfl
theorem dd_Ds_inksGrown_71 : decode (px_rw k_Ds_inksGrown).2.1 71 = .ok (.goto (-67), 3) := (by decide +kernel : decode prog_1_method_46_code 71 = .ok (.goto (-67), 3))
theorem e_Ds_inksGrown_71 (L st : List Value) (g : px_G) : rn k_Ds_inksGrown 71 L st g = rn k_Ds_inksGrown 4 L st g := rn_goto dd_Ds_inksGrown_71 (by decide)
theorem dd_Ds_inksGrown_74 : decode (px_rw k_Ds_inksGrown).2.1 74 = .ok (.iload_n 2, 1) := (by decide +kernel : decode prog_1_method_46_code 74 = .ok (.iload_n 2, 1))
theorem e_Ds_inksGrown_74 (a0 a1 a3 : Value) (x : Int32) (st : List Value) (g : px_G) : rn k_Ds_inksGrown 74 [a0, a1, .int x, a3] st g = rn k_Ds_inksGrown 75 [a0, a1, .int x, a3] (.int x :: st) g := rn_next dd_Ds_inksGrown_74 rfl
theorem dd_Ds_inksGrown_75 : decode (px_rw k_Ds_inksGrown).2.1 75 = .ok (.ireturn, 1) := (by decide +kernel : decode prog_1_method_46_code 75 = .ok (.ireturn, 1))
theorem e_Ds_inksGrown_75 (L : List Value) (v : Int32) (g : px_G) : rn k_Ds_inksGrown 75 L [.int v] g = some (some (.int v), g) := rn_iret dd_Ds_inksGrown_75 rfl
theorem c_Ds_count (r0 : Nat) (i1 : Int32) (g : px_G) : cl k_Ds_count [.ref r0, .int i1] g = rn k_Ds_count 0 [.ref r0, .int i1] [] g := rfl
theorem dd_Ds_count_0 : decode (px_rw k_Ds_count).2.1 0 = .ok (.iload_n 1, 1) := (by decide +kernel : decode prog_1_method_47_code 0 = .ok (.iload_n 1, 1))
theorem e_Ds_count_0 (a0 : Value) (x : Int32) (st : List Value) (g : px_G) : rn k_Ds_count 0 [a0, .int x] st g = rn k_Ds_count 1 [a0, .int x] (.int x :: st) g := rn_next dd_Ds_count_0 rfl
theorem dd_Ds_count_1 : decode (px_rw k_Ds_count).2.1 1 = .ok (.lookupswitch 40 #[(0, 27), (1, 32)], 27) := (by decide +kernel : decode prog_1_method_47_code 1 = .ok (.lookupswitch 40 #[(0, 27), (1, 32)], 27))
theorem e_Ds_count_1 (L : List Value) (x : Int32) (st : List Value) (g : px_G) : rn k_Ds_count 1 L (.int x :: st) g = if x = 0 then rn k_Ds_count 28 L st g else if x = 1 then rn k_Ds_count 33 L st g else rn k_Ds_count 41 L st g := by
  by_cases h0 : x = 0
  · rw [if_pos h0]; subst h0; exact rn_sw dd_Ds_count_1 (off := 27) (st' := st) rfl (by decide)
  rw [if_neg h0]
  by_cases h1 : x = 1
  · rw [if_pos h1]; subst h1; exact rn_sw dd_Ds_count_1 (off := 32) (st' := st) rfl (by decide)
  rw [if_neg h1]
  have n0 : ¬ (0 : Int) = x.toInt := fun q => lv_neT h0 (show (0 : Int32).toInt = 0 by decide) q.symm
  have n1 : ¬ (1 : Int) = x.toInt := fun q => lv_neT h1 (show (1 : Int32).toInt = 1 by decide) q.symm
  refine rn_sw dd_Ds_count_1 (off := 40) (st' := st) ?_ (by decide)
  simp [px_sw, Op.lookupswitch.offset, n0, n1]
theorem dd_Ds_count_28 : decode (px_rw k_Ds_count).2.1 28 = .ok (.aload_n 0, 1) := (by decide +kernel : decode prog_1_method_47_code 28 = .ok (.aload_n 0, 1))
theorem e_Ds_count_28 (a1 : Value) (x : Nat) (st : List Value) (g : px_G) : rn k_Ds_count 28 [.ref x, a1] st g = rn k_Ds_count 29 [.ref x, a1] (.ref x :: st) g := rn_next dd_Ds_count_28 rfl
theorem dd_Ds_count_29 : decode (px_rw k_Ds_count).2.1 29 = .ok (.getfield 96, 3) := (by decide +kernel : decode prog_1_method_47_code 29 = .ok (.getfield 96, 3))
theorem e_Ds_count_29 (L st : List Value) (T : TS) : rn k_Ds_count 29 L (.ref 0 :: st) (enc T) = rn k_Ds_count 32 L (.int (T.1 0 3) :: st) (enc T) := rn_getI (n := 13) dd_Ds_count_29 rfl (by decide) (by decide) (by decide) rfl rfl
theorem dd_Ds_count_32 : decode (px_rw k_Ds_count).2.1 32 = .ok (.ireturn, 1) := (by decide +kernel : decode prog_1_method_47_code 32 = .ok (.ireturn, 1))
theorem e_Ds_count_32 (L : List Value) (v : Int32) (g : px_G) : rn k_Ds_count 32 L [.int v] g = some (some (.int v), g) := rn_iret dd_Ds_count_32 rfl
theorem dd_Ds_count_33 : decode (px_rw k_Ds_count).2.1 33 = .ok (.aload_n 0, 1) := (by decide +kernel : decode prog_1_method_47_code 33 = .ok (.aload_n 0, 1))
theorem e_Ds_count_33 (a1 : Value) (x : Nat) (st : List Value) (g : px_G) : rn k_Ds_count 33 [.ref x, a1] st g = rn k_Ds_count 34 [.ref x, a1] (.ref x :: st) g := rn_next dd_Ds_count_33 rfl
theorem dd_Ds_count_34 : decode (px_rw k_Ds_count).2.1 34 = .ok (.getfield 10, 3) := (by decide +kernel : decode prog_1_method_47_code 34 = .ok (.getfield 10, 3))
theorem e_Ds_count_34 (L st : List Value) (T : TS) : rn k_Ds_count 34 L (.ref 0 :: st) (enc T) = rn k_Ds_count 37 L (.ref 1 :: st) (enc T) := rn_getO (n := 13) dd_Ds_count_34 rfl (by decide) (by decide) (by decide) rfl rfl
theorem dd_Ds_count_37 : decode (px_rw k_Ds_count).2.1 37 = .ok (.getfield 82, 3) := (by decide +kernel : decode prog_1_method_47_code 37 = .ok (.getfield 82, 3))
theorem e_Ds_count_37 (L st : List Value) (T : TS) : rn k_Ds_count 37 L (.ref 1 :: st) (enc T) = rn k_Ds_count 40 L (.int (T.1 1 1) :: st) (enc T) := rn_getI (n := 2) dd_Ds_count_37 rfl (by decide) (by decide) (by decide) rfl rfl
theorem dd_Ds_count_40 : decode (px_rw k_Ds_count).2.1 40 = .ok (.ireturn, 1) := (by decide +kernel : decode prog_1_method_47_code 40 = .ok (.ireturn, 1))
theorem e_Ds_count_40 (L : List Value) (v : Int32) (g : px_G) : rn k_Ds_count 40 L [.int v] g = some (some (.int v), g) := rn_iret dd_Ds_count_40 rfl
theorem dd_Ds_count_41 : decode (px_rw k_Ds_count).2.1 41 = .ok (.ldc 164, 2) := (by decide +kernel : decode prog_1_method_47_code 41 = .ok (.ldc 164, 2))
theorem e_Ds_count_41 (L st : List Value) (g : px_G) : rn k_Ds_count 41 L st g = rn k_Ds_count 43 L (.int (-1000000) :: st) g := rn_ldc (i := .ldc 164) (w := .int (Int32.ofInt (-1000000))) dd_Ds_count_41 rfl rfl rfl rfl rfl (by decide)
theorem dd_Ds_count_43 : decode (px_rw k_Ds_count).2.1 43 = .ok (.ireturn, 1) := (by decide +kernel : decode prog_1_method_47_code 43 = .ok (.ireturn, 1))
theorem e_Ds_count_43 (L : List Value) (v : Int32) (g : px_G) : rn k_Ds_count 43 L [.int v] g = some (some (.int v), g) := rn_iret dd_Ds_count_43 rfl
theorem c_Ds_ink (r0 : Nat) (i1 : Int32) (i2 : Int32) (g : px_G) : cl k_Ds_ink [.ref r0, .int i1, .int i2] g = rn k_Ds_ink 0 [.ref r0, .int i1, .int i2, .null] [] g := rfl
theorem dd_Ds_ink_0 : decode (px_rw k_Ds_ink).2.1 0 = .ok (.aload_n 0, 1) := (by decide +kernel : decode prog_1_method_7_code 0 = .ok (.aload_n 0, 1))
theorem e_Ds_ink_0 (a1 a2 a3 : Value) (x : Nat) (st : List Value) (g : px_G) : rn k_Ds_ink 0 [.ref x, a1, a2, a3] st g = rn k_Ds_ink 1 [.ref x, a1, a2, a3] (.ref x :: st) g := rn_next dd_Ds_ink_0 rfl
theorem dd_Ds_ink_1 : decode (px_rw k_Ds_ink).2.1 1 = .ok (.iload_n 1, 1) := (by decide +kernel : decode prog_1_method_7_code 1 = .ok (.iload_n 1, 1))
theorem e_Ds_ink_1 (a0 a2 a3 : Value) (x : Int32) (st : List Value) (g : px_G) : rn k_Ds_ink 1 [a0, .int x, a2, a3] st g = rn k_Ds_ink 2 [a0, .int x, a2, a3] (.int x :: st) g := rn_next dd_Ds_ink_1 rfl
theorem dd_Ds_ink_2 : decode (px_rw k_Ds_ink).2.1 2 = .ok (.invokevirtual 129, 3) := (by decide +kernel : decode prog_1_method_7_code 2 = .ok (.invokevirtual 129, 3))
theorem e_Ds_ink_2 (L : List Value) (i0 : Int32)  (T : TS)  : rn k_Ds_ink 2 L [.int i0, .ref 0] (enc T) = bd (cl k_Ds_isInk [.ref 0, .int i0] (enc T)) (fun r g' => rn k_Ds_ink 5 L (r.toList ++ []) g') := rn_callV (n := 13) (As := [.int i0]) (rest := []) dd_Ds_ink_2 rfl (by decide) (by decide) rfl rfl (Nat.le_of_ble_eq_true rfl) (Nat.le_of_ble_eq_true rfl) rfl
theorem dd_Ds_ink_5 : decode (px_rw k_Ds_ink).2.1 5 = .ok (.ifCond .eq 13, 3) := (by decide +kernel : decode prog_1_method_7_code 5 = .ok (.ifCond .eq 13, 3))
theorem e_Ds_ink_5 (L : List Value) (x : Int32) (st : List Value) (g : px_G) : rn k_Ds_ink 5 L (.int x :: st) g = if x = 0 then rn k_Ds_ink 18 L st g else rn k_Ds_ink 8 L st g := rn_ifeq dd_Ds_ink_5 (by decide)
theorem dd_Ds_ink_8 : decode (px_rw k_Ds_ink).2.1 8 = .ok (.iload_n 2, 1) := (by decide +kernel : decode prog_1_method_7_code 8 = .ok (.iload_n 2, 1))
theorem e_Ds_ink_8 (a0 a1 a3 : Value) (x : Int32) (st : List Value) (g : px_G) : rn k_Ds_ink 8 [a0, a1, .int x, a3] st g = rn k_Ds_ink 9 [a0, a1, .int x, a3] (.int x :: st) g := rn_next dd_Ds_ink_8 rfl
theorem dd_Ds_ink_9 : decode (px_rw k_Ds_ink).2.1 9 = .ok (.ifCond .lt 9, 3) := (by decide +kernel : decode prog_1_method_7_code 9 = .ok (.ifCond .lt 9, 3))
theorem e_Ds_ink_9 (L : List Value) (x : Int32) (st : List Value) (g : px_G) : rn k_Ds_ink 9 L (.int x :: st) g = if x < 0 then rn k_Ds_ink 18 L st g else rn k_Ds_ink 12 L st g := rn_iflt dd_Ds_ink_9 (by decide)
theorem dd_Ds_ink_12 : decode (px_rw k_Ds_ink).2.1 12 = .ok (.iload_n 2, 1) := (by decide +kernel : decode prog_1_method_7_code 12 = .ok (.iload_n 2, 1))
theorem e_Ds_ink_12 (a0 a1 a3 : Value) (x : Int32) (st : List Value) (g : px_G) : rn k_Ds_ink 12 [a0, a1, .int x, a3] st g = rn k_Ds_ink 13 [a0, a1, .int x, a3] (.int x :: st) g := rn_next dd_Ds_ink_12 rfl
theorem dd_Ds_ink_13 : decode (px_rw k_Ds_ink).2.1 13 = .ok (.bipush 9, 2) := (by decide +kernel : decode prog_1_method_7_code 13 = .ok (.bipush 9, 2))
theorem e_Ds_ink_13 (L st : List Value) (g : px_G) : rn k_Ds_ink 13 L st g = rn k_Ds_ink 15 L (.int 9 :: st) g := rn_ipush (i := .bipush 9) dd_Ds_ink_13 rfl rfl (by decide)
theorem dd_Ds_ink_15 : decode (px_rw k_Ds_ink).2.1 15 = .ok (.if_icmp .le 13, 3) := (by decide +kernel : decode prog_1_method_7_code 15 = .ok (.if_icmp .le 13, 3))
theorem e_Ds_ink_15 (L : List Value) (x y : Int32) (st : List Value) (g : px_G) : rn k_Ds_ink 15 L (.int y :: .int x :: st) g = if x ≤ y then rn k_Ds_ink 28 L st g else rn k_Ds_ink 18 L st g := rn_icle dd_Ds_ink_15 (by decide)
theorem dd_Ds_ink_21 : decode (px_rw k_Ds_ink).2.1 21 = .ok (.dup, 1) := (by decide +kernel : decode prog_1_method_7_code 21 = .ok (.dup, 1))
theorem e_Ds_ink_21 (L : List Value) (x : Nat) (st : List Value) (g : px_G) : rn k_Ds_ink 21 L (.ref x :: st) g = rn k_Ds_ink 22 L (.ref x :: .ref x :: st) g := rn_next dd_Ds_ink_21 rfl
theorem dd_Ds_ink_28 : decode (px_rw k_Ds_ink).2.1 28 = .ok (.aload_n 0, 1) := (by decide +kernel : decode prog_1_method_7_code 28 = .ok (.aload_n 0, 1))
theorem e_Ds_ink_28 (a1 a2 a3 : Value) (x : Nat) (st : List Value) (g : px_G) : rn k_Ds_ink 28 [.ref x, a1, a2, a3] st g = rn k_Ds_ink 29 [.ref x, a1, a2, a3] (.ref x :: st) g := rn_next dd_Ds_ink_28 rfl
theorem dd_Ds_ink_29 : decode (px_rw k_Ds_ink).2.1 29 = .ok (.getfield 27, 3) := (by decide +kernel : decode prog_1_method_7_code 29 = .ok (.getfield 27, 3))
theorem e_Ds_ink_29 (L st : List Value) (T : TS) : rn k_Ds_ink 29 L (.ref 0 :: st) (enc T) = rn k_Ds_ink 32 L (.ref 5 :: st) (enc T) := rn_getA (n := 13) dd_Ds_ink_29 rfl (by decide) (by decide) (by decide) rfl rfl
theorem dd_Ds_ink_32 : decode (px_rw k_Ds_ink).2.1 32 = .ok (.iload_n 1, 1) := (by decide +kernel : decode prog_1_method_7_code 32 = .ok (.iload_n 1, 1))
theorem e_Ds_ink_32 (a0 a2 a3 : Value) (x : Int32) (st : List Value) (g : px_G) : rn k_Ds_ink 32 [a0, .int x, a2, a3] st g = rn k_Ds_ink 33 [a0, .int x, a2, a3] (.int x :: st) g := rn_next dd_Ds_ink_32 rfl
theorem dd_Ds_ink_33 : decode (px_rw k_Ds_ink).2.1 33 = .ok (.aaload, 1) := (by decide +kernel : decode prog_1_method_7_code 33 = .ok (.aaload, 1))
theorem e_Ds_ink_33 (L : List Value) (i : Int32) (p : Nat) (st : List Value) (T : TS) (hp : (sh p).1 = 3) : rn k_Ds_ink 33 L (.int i :: .ref p :: st) (enc T) = if px_in i (sh p).2 then rn k_Ds_ink 34 L (.ref (T.2.2.1 i.toNatClampNeg) :: st) (enc T) else none := rn_aald dd_Ds_ink_33 (Prod.ext hp rfl)
theorem dd_Ds_ink_34 : decode (px_rw k_Ds_ink).2.1 34 = .ok (.astore_n 3, 1) := (by decide +kernel : decode prog_1_method_7_code 34 = .ok (.astore_n 3, 1))
theorem e_Ds_ink_34 (a0 a1 a2 a3 : Value) (x : Nat) (st : List Value) (g : px_G) : rn k_Ds_ink 34 [a0, a1, a2, a3] (.ref x :: st) g = rn k_Ds_ink 35 [a0, a1, px_kill a2, .ref x] st g := rn_next dd_Ds_ink_34 rfl
theorem dd_Ds_ink_35 : decode (px_rw k_Ds_ink).2.1 35 = .ok (.iload_n 2, 1) := (by decide +kernel : decode prog_1_method_7_code 35 = .ok (.iload_n 2, 1))
theorem e_Ds_ink_35 (a0 a1 a3 : Value) (x : Int32) (st : List Value) (g : px_G) : rn k_Ds_ink 35 [a0, a1, .int x, a3] st g = rn k_Ds_ink 36 [a0, a1, .int x, a3] (.int x :: st) g := rn_next dd_Ds_ink_35 rfl
theorem dd_Ds_ink_36 : decode (px_rw k_Ds_ink).2.1 36 = .ok (.tableswitch 109 0 8 #[52, 60, 68, 76, 84, 89, 94, 99, 104], 52) := (by decide +kernel : decode prog_1_method_7_code 36 = .ok (.tableswitch 109 0 8 #[52, 60, 68, 76, 84, 89, 94, 99, 104], 52))
theorem e_Ds_ink_36 (L : List Value) (x : Int32) (st : List Value) (g : px_G) : rn k_Ds_ink 36 L (.int x :: st) g = if x = 0 then rn k_Ds_ink 88 L st g else if x = 1 then rn k_Ds_ink 96 L st g else if x = 2 then rn k_Ds_ink 104 L st g else if x = 3 then rn k_Ds_ink 112 L st g else if x = 4 then rn k_Ds_ink 120 L st g else if x = 5 then rn k_Ds_ink 125 L st g else if x = 6 then rn k_Ds_ink 130 L st g else if x = 7 then rn k_Ds_ink 135 L st g else if x = 8 then rn k_Ds_ink 140 L st g else rn k_Ds_ink 145 L st g := by
  by_cases h0 : x = 0
  · rw [if_pos h0]; subst h0; exact rn_sw dd_Ds_ink_36 rfl (by decide)
  rw [if_neg h0]
  by_cases h1 : x = 1
  · rw [if_pos h1]; subst h1; exact rn_sw dd_Ds_ink_36 rfl (by decide)
  rw [if_neg h1]
  by_cases h2 : x = 2
  · rw [if_pos h2]; subst h2; exact rn_sw dd_Ds_ink_36 rfl (by decide)
  rw [if_neg h2]
  by_cases h3 : x = 3
  · rw [if_pos h3]; subst h3; exact rn_sw dd_Ds_ink_36 rfl (by decide)
  rw [if_neg h3]
  by_cases h4 : x = 4
  · rw [if_pos h4]; subst h4; exact rn_sw dd_Ds_ink_36 rfl (by decide)
  rw [if_neg h4]
  by_cases h5 : x = 5
  · rw [if_pos h5]; subst h5; exact rn_sw dd_Ds_ink_36 rfl (by decide)
  rw [if_neg h5]
  by_cases h6 : x = 6
  · rw [if_pos h6]; subst h6; exact rn_sw dd_Ds_ink_36 rfl (by decide)
  rw [if_neg h6]
  by_cases h7 : x = 7
  · rw [if_pos h7]; subst h7; exact rn_sw dd_Ds_ink_36 rfl (by decide)
  rw [if_neg h7]
  by_cases h8 : x = 8
  · rw [if_pos h8]; subst h8; exact rn_sw dd_Ds_ink_36 rfl (by decide)
  rw [if_neg h8]
  refine rn_sw dd_Ds_ink_36 (off := 109) (st' := st) ?_ (by decide)
  have n0 := lv_neT h0 (show (0 : Int32).toInt = 0 by decide)
  have n1 := lv_neT h1 (show (1 : Int32).toInt = 1 by decide)
  have n2 := lv_neT h2 (show (2 : Int32).toInt = 2 by decide)
  have n3 := lv_neT h3 (show (3 : Int32).toInt = 3 by decide)
  have n4 := lv_neT h4 (show (4 : Int32).toInt = 4 by decide)
  have n5 := lv_neT h5 (show (5 : Int32).toInt = 5 by decide)
  have n6 := lv_neT h6 (show (6 : Int32).toInt = 6 by decide)
  have n7 := lv_neT h7 (show (7 : Int32).toInt = 7 by decide)
  have n8 := lv_neT h8 (show (8 : Int32).toInt = 8 by decide)
  have hq : x.toInt < 0 ∨ 8 < x.toInt := by omega
  show (if x.toInt < 0 ∨ 8 < x.toInt then _ else _) = _
  rw [if_pos hq]
theorem dd_Ds_ink_88 : decode (px_rw k_Ds_ink).2.1 88 = .ok (.aload_n 3, 1) := (by decide +kernel : decode prog_1_method_7_code 88 = .ok (.aload_n 3, 1))
theorem e_Ds_ink_88 (a0 a1 a2 : Value) (x : Nat) (st : List Value) (g : px_G) : rn k_Ds_ink 88 [a0, a1, a2, .ref x] st g = rn k_Ds_ink 89 [a0, a1, a2, .ref x] (.ref x :: st) g := rn_next dd_Ds_ink_88 rfl
theorem dd_Ds_ink_89 : decode (px_rw k_Ds_ink).2.1 89 = .ok (.getfield 139, 3) := (by decide +kernel : decode prog_1_method_7_code 89 = .ok (.getfield 139, 3))
theorem e_Ds_ink_89 (L : List Value) (p : Nat) (st : List Value) (T : TS) (hp : sh p = (104, 18)) : rn k_Ds_ink 89 L (.ref p :: st) (enc T) = rn k_Ds_ink 92 L (.ref (p + 1) :: st) (enc T) := (rn_getO (n := 18) dd_Ds_ink_89 rfl (by decide) (by decide) (by decide) rfl hp).trans (by rw [ink_rf_0 hp])
theorem dd_Ds_ink_92 : decode (px_rw k_Ds_ink).2.1 92 = .ok (.getfield 142, 3) := (by decide +kernel : decode prog_1_method_7_code 92 = .ok (.getfield 142, 3))
theorem e_Ds_ink_92 (L : List Value) (p : Nat) (st : List Value) (T : TS) (hp : sh p = (107, 4)) : rn k_Ds_ink 92 L (.ref p :: st) (enc T) = rn k_Ds_ink 95 L (.int (T.1 p 0) :: st) (enc T) := rn_getI (n := 4) dd_Ds_ink_92 rfl (by decide) (by decide) (by decide) rfl hp
theorem dd_Ds_ink_95 : decode (px_rw k_Ds_ink).2.1 95 = .ok (.ireturn, 1) := (by decide +kernel : decode prog_1_method_7_code 95 = .ok (.ireturn, 1))
theorem e_Ds_ink_95 (L : List Value) (v : Int32) (g : px_G) : rn k_Ds_ink 95 L [.int v] g = some (some (.int v), g) := rn_iret dd_Ds_ink_95 rfl
theorem dd_Ds_ink_96 : decode (px_rw k_Ds_ink).2.1 96 = .ok (.aload_n 3, 1) := (by decide +kernel : decode prog_1_method_7_code 96 = .ok (.aload_n 3, 1))
theorem e_Ds_ink_96 (a0 a1 a2 : Value) (x : Nat) (st : List Value) (g : px_G) : rn k_Ds_ink 96 [a0, a1, a2, .ref x] st g = rn k_Ds_ink 97 [a0, a1, a2, .ref x] (.ref x :: st) g := rn_next dd_Ds_ink_96 rfl
theorem dd_Ds_ink_97 : decode (px_rw k_Ds_ink).2.1 97 = .ok (.getfield 139, 3) := (by decide +kernel : decode prog_1_method_7_code 97 = .ok (.getfield 139, 3))
theorem e_Ds_ink_97 (L : List Value) (p : Nat) (st : List Value) (T : TS) (hp : sh p = (104, 18)) : rn k_Ds_ink 97 L (.ref p :: st) (enc T) = rn k_Ds_ink 100 L (.ref (p + 1) :: st) (enc T) := (rn_getO (n := 18) dd_Ds_ink_97 rfl (by decide) (by decide) (by decide) rfl hp).trans (by rw [ink_rf_0 hp])
theorem dd_Ds_ink_100 : decode (px_rw k_Ds_ink).2.1 100 = .ok (.getfield 145, 3) := (by decide +kernel : decode prog_1_method_7_code 100 = .ok (.getfield 145, 3))
theorem e_Ds_ink_100 (L : List Value) (p : Nat) (st : List Value) (T : TS) (hp : sh p = (107, 4)) : rn k_Ds_ink 100 L (.ref p :: st) (enc T) = rn k_Ds_ink 103 L (.int (T.1 p 1) :: st) (enc T) := rn_getI (n := 4) dd_Ds_ink_100 rfl (by decide) (by decide) (by decide) rfl hp
theorem dd_Ds_ink_103 : decode (px_rw k_Ds_ink).2.1 103 = .ok (.ireturn, 1) := (by decide +kernel : decode prog_1_method_7_code 103 = .ok (.ireturn, 1))
theorem e_Ds_ink_103 (L : List Value) (v : Int32) (g : px_G) : rn k_Ds_ink 103 L [.int v] g = some (some (.int v), g) := rn_iret dd_Ds_ink_103 rfl
theorem dd_Ds_ink_104 : decode (px_rw k_Ds_ink).2.1 104 = .ok (.aload_n 3, 1) := (by decide +kernel : decode prog_1_method_7_code 104 = .ok (.aload_n 3, 1))
theorem e_Ds_ink_104 (a0 a1 a2 : Value) (x : Nat) (st : List Value) (g : px_G) : rn k_Ds_ink 104 [a0, a1, a2, .ref x] st g = rn k_Ds_ink 105 [a0, a1, a2, .ref x] (.ref x :: st) g := rn_next dd_Ds_ink_104 rfl
theorem dd_Ds_ink_105 : decode (px_rw k_Ds_ink).2.1 105 = .ok (.getfield 139, 3) := (by decide +kernel : decode prog_1_method_7_code 105 = .ok (.getfield 139, 3))
theorem e_Ds_ink_105 (L : List Value) (p : Nat) (st : List Value) (T : TS) (hp : sh p = (104, 18)) : rn k_Ds_ink 105 L (.ref p :: st) (enc T) = rn k_Ds_ink 108 L (.ref (p + 1) :: st) (enc T) := (rn_getO (n := 18) dd_Ds_ink_105 rfl (by decide) (by decide) (by decide) rfl hp).trans (by rw [ink_rf_0 hp])
theorem dd_Ds_ink_108 : decode (px_rw k_Ds_ink).2.1 108 = .ok (.getfield 148, 3) := (by decide +kernel : decode prog_1_method_7_code 108 = .ok (.getfield 148, 3))
theorem e_Ds_ink_108 (L : List Value) (p : Nat) (st : List Value) (T : TS) (hp : sh p = (107, 4)) : rn k_Ds_ink 108 L (.ref p :: st) (enc T) = rn k_Ds_ink 111 L (.int (T.1 p 2) :: st) (enc T) := rn_getI (n := 4) dd_Ds_ink_108 rfl (by decide) (by decide) (by decide) rfl hp
theorem dd_Ds_ink_111 : decode (px_rw k_Ds_ink).2.1 111 = .ok (.ireturn, 1) := (by decide +kernel : decode prog_1_method_7_code 111 = .ok (.ireturn, 1))
theorem e_Ds_ink_111 (L : List Value) (v : Int32) (g : px_G) : rn k_Ds_ink 111 L [.int v] g = some (some (.int v), g) := rn_iret dd_Ds_ink_111 rfl
theorem dd_Ds_ink_112 : decode (px_rw k_Ds_ink).2.1 112 = .ok (.aload_n 3, 1) := (by decide +kernel : decode prog_1_method_7_code 112 = .ok (.aload_n 3, 1))
theorem e_Ds_ink_112 (a0 a1 a2 : Value) (x : Nat) (st : List Value) (g : px_G) : rn k_Ds_ink 112 [a0, a1, a2, .ref x] st g = rn k_Ds_ink 113 [a0, a1, a2, .ref x] (.ref x :: st) g := rn_next dd_Ds_ink_112 rfl
theorem dd_Ds_ink_113 : decode (px_rw k_Ds_ink).2.1 113 = .ok (.getfield 139, 3) := (by decide +kernel : decode prog_1_method_7_code 113 = .ok (.getfield 139, 3))
theorem e_Ds_ink_113 (L : List Value) (p : Nat) (st : List Value) (T : TS) (hp : sh p = (104, 18)) : rn k_Ds_ink 113 L (.ref p :: st) (enc T) = rn k_Ds_ink 116 L (.ref (p + 1) :: st) (enc T) := (rn_getO (n := 18) dd_Ds_ink_113 rfl (by decide) (by decide) (by decide) rfl hp).trans (by rw [ink_rf_0 hp])
theorem dd_Ds_ink_116 : decode (px_rw k_Ds_ink).2.1 116 = .ok (.getfield 151, 3) := (by decide +kernel : decode prog_1_method_7_code 116 = .ok (.getfield 151, 3))
theorem e_Ds_ink_116 (L : List Value) (p : Nat) (st : List Value) (T : TS) (hp : sh p = (107, 4)) : rn k_Ds_ink 116 L (.ref p :: st) (enc T) = rn k_Ds_ink 119 L (.int (T.1 p 3) :: st) (enc T) := rn_getI (n := 4) dd_Ds_ink_116 rfl (by decide) (by decide) (by decide) rfl hp
theorem dd_Ds_ink_119 : decode (px_rw k_Ds_ink).2.1 119 = .ok (.ireturn, 1) := (by decide +kernel : decode prog_1_method_7_code 119 = .ok (.ireturn, 1))
theorem e_Ds_ink_119 (L : List Value) (v : Int32) (g : px_G) : rn k_Ds_ink 119 L [.int v] g = some (some (.int v), g) := rn_iret dd_Ds_ink_119 rfl
theorem dd_Ds_ink_120 : decode (px_rw k_Ds_ink).2.1 120 = .ok (.aload_n 3, 1) := (by decide +kernel : decode prog_1_method_7_code 120 = .ok (.aload_n 3, 1))
theorem e_Ds_ink_120 (a0 a1 a2 : Value) (x : Nat) (st : List Value) (g : px_G) : rn k_Ds_ink 120 [a0, a1, a2, .ref x] st g = rn k_Ds_ink 121 [a0, a1, a2, .ref x] (.ref x :: st) g := rn_next dd_Ds_ink_120 rfl
theorem dd_Ds_ink_121 : decode (px_rw k_Ds_ink).2.1 121 = .ok (.getfield 154, 3) := (by decide +kernel : decode prog_1_method_7_code 121 = .ok (.getfield 154, 3))
theorem e_Ds_ink_121 (L : List Value) (p : Nat) (st : List Value) (T : TS) (hp : sh p = (104, 18)) : rn k_Ds_ink 121 L (.ref p :: st) (enc T) = rn k_Ds_ink 124 L (.int (T.1 p 2) :: st) (enc T) := rn_getI (n := 18) dd_Ds_ink_121 rfl (by decide) (by decide) (by decide) rfl hp
theorem dd_Ds_ink_124 : decode (px_rw k_Ds_ink).2.1 124 = .ok (.ireturn, 1) := (by decide +kernel : decode prog_1_method_7_code 124 = .ok (.ireturn, 1))
theorem e_Ds_ink_124 (L : List Value) (v : Int32) (g : px_G) : rn k_Ds_ink 124 L [.int v] g = some (some (.int v), g) := rn_iret dd_Ds_ink_124 rfl
theorem dd_Ds_ink_125 : decode (px_rw k_Ds_ink).2.1 125 = .ok (.aload_n 3, 1) := (by decide +kernel : decode prog_1_method_7_code 125 = .ok (.aload_n 3, 1))
theorem e_Ds_ink_125 (a0 a1 a2 : Value) (x : Nat) (st : List Value) (g : px_G) : rn k_Ds_ink 125 [a0, a1, a2, .ref x] st g = rn k_Ds_ink 126 [a0, a1, a2, .ref x] (.ref x :: st) g := rn_next dd_Ds_ink_125 rfl
theorem dd_Ds_ink_126 : decode (px_rw k_Ds_ink).2.1 126 = .ok (.getfield 157, 3) := (by decide +kernel : decode prog_1_method_7_code 126 = .ok (.getfield 157, 3))
theorem e_Ds_ink_126 (L : List Value) (p : Nat) (st : List Value) (T : TS) (hp : sh p = (104, 18)) : rn k_Ds_ink 126 L (.ref p :: st) (enc T) = rn k_Ds_ink 129 L (.int (T.1 p 3) :: st) (enc T) := rn_getI (n := 18) dd_Ds_ink_126 rfl (by decide) (by decide) (by decide) rfl hp
theorem dd_Ds_ink_129 : decode (px_rw k_Ds_ink).2.1 129 = .ok (.ireturn, 1) := (by decide +kernel : decode prog_1_method_7_code 129 = .ok (.ireturn, 1))
theorem e_Ds_ink_129 (L : List Value) (v : Int32) (g : px_G) : rn k_Ds_ink 129 L [.int v] g = some (some (.int v), g) := rn_iret dd_Ds_ink_129 rfl
theorem dd_Ds_ink_130 : decode (px_rw k_Ds_ink).2.1 130 = .ok (.aload_n 3, 1) := (by decide +kernel : decode prog_1_method_7_code 130 = .ok (.aload_n 3, 1))
theorem e_Ds_ink_130 (a0 a1 a2 : Value) (x : Nat) (st : List Value) (g : px_G) : rn k_Ds_ink 130 [a0, a1, a2, .ref x] st g = rn k_Ds_ink 131 [a0, a1, a2, .ref x] (.ref x :: st) g := rn_next dd_Ds_ink_130 rfl
theorem dd_Ds_ink_131 : decode (px_rw k_Ds_ink).2.1 131 = .ok (.getfield 120, 3) := (by decide +kernel : decode prog_1_method_7_code 131 = .ok (.getfield 120, 3))
theorem e_Ds_ink_131 (L : List Value) (p : Nat) (st : List Value) (T : TS) (hp : sh p = (104, 18)) : rn k_Ds_ink 131 L (.ref p :: st) (enc T) = rn k_Ds_ink 134 L (.int (T.1 p 4) :: st) (enc T) := rn_getI (n := 18) dd_Ds_ink_131 rfl (by decide) (by decide) (by decide) rfl hp
theorem dd_Ds_ink_134 : decode (px_rw k_Ds_ink).2.1 134 = .ok (.ireturn, 1) := (by decide +kernel : decode prog_1_method_7_code 134 = .ok (.ireturn, 1))
theorem e_Ds_ink_134 (L : List Value) (v : Int32) (g : px_G) : rn k_Ds_ink 134 L [.int v] g = some (some (.int v), g) := rn_iret dd_Ds_ink_134 rfl
theorem dd_Ds_ink_135 : decode (px_rw k_Ds_ink).2.1 135 = .ok (.aload_n 3, 1) := (by decide +kernel : decode prog_1_method_7_code 135 = .ok (.aload_n 3, 1))
theorem e_Ds_ink_135 (a0 a1 a2 : Value) (x : Nat) (st : List Value) (g : px_G) : rn k_Ds_ink 135 [a0, a1, a2, .ref x] st g = rn k_Ds_ink 136 [a0, a1, a2, .ref x] (.ref x :: st) g := rn_next dd_Ds_ink_135 rfl
theorem dd_Ds_ink_136 : decode (px_rw k_Ds_ink).2.1 136 = .ok (.invokevirtual 160, 3) := (by decide +kernel : decode prog_1_method_7_code 136 = .ok (.invokevirtual 160, 3))
theorem e_Ds_ink_136 (L : List Value)  (p : Nat) (T : TS) (hp : sh p = (104, 18)) : rn k_Ds_ink 136 L [.ref p] (enc T) = bd (cl k_Ink_level [.ref p] (enc T)) (fun r g' => rn k_Ds_ink 139 L (r.toList ++ []) g') := rn_callV (n := 18) (As := []) (rest := []) dd_Ds_ink_136 rfl (by decide) (by decide) rfl rfl (Nat.le_of_ble_eq_true rfl) (Nat.le_of_ble_eq_true rfl) hp
theorem dd_Ds_ink_139 : decode (px_rw k_Ds_ink).2.1 139 = .ok (.ireturn, 1) := (by decide +kernel : decode prog_1_method_7_code 139 = .ok (.ireturn, 1))
theorem e_Ds_ink_139 (L : List Value) (v : Int32) (g : px_G) : rn k_Ds_ink 139 L [.int v] g = some (some (.int v), g) := rn_iret dd_Ds_ink_139 rfl
theorem dd_Ds_ink_140 : decode (px_rw k_Ds_ink).2.1 140 = .ok (.aload_n 3, 1) := (by decide +kernel : decode prog_1_method_7_code 140 = .ok (.aload_n 3, 1))
theorem e_Ds_ink_140 (a0 a1 a2 : Value) (x : Nat) (st : List Value) (g : px_G) : rn k_Ds_ink 140 [a0, a1, a2, .ref x] st g = rn k_Ds_ink 141 [a0, a1, a2, .ref x] (.ref x :: st) g := rn_next dd_Ds_ink_140 rfl
theorem dd_Ds_ink_141 : decode (px_rw k_Ds_ink).2.1 141 = .ok (.getfield 123, 3) := (by decide +kernel : decode prog_1_method_7_code 141 = .ok (.getfield 123, 3))
theorem e_Ds_ink_141 (L : List Value) (p : Nat) (st : List Value) (T : TS) (hp : sh p = (104, 18)) : rn k_Ds_ink 141 L (.ref p :: st) (enc T) = rn k_Ds_ink 144 L (.int (T.1 p 5) :: st) (enc T) := rn_getI (n := 18) dd_Ds_ink_141 rfl (by decide) (by decide) (by decide) rfl hp
theorem dd_Ds_ink_144 : decode (px_rw k_Ds_ink).2.1 144 = .ok (.ireturn, 1) := (by decide +kernel : decode prog_1_method_7_code 144 = .ok (.ireturn, 1))
theorem e_Ds_ink_144 (L : List Value) (v : Int32) (g : px_G) : rn k_Ds_ink 144 L [.int v] g = some (some (.int v), g) := rn_iret dd_Ds_ink_144 rfl
theorem dd_Ds_ink_145 : decode (px_rw k_Ds_ink).2.1 145 = .ok (.aload_n 3, 1) := (by decide +kernel : decode prog_1_method_7_code 145 = .ok (.aload_n 3, 1))
theorem e_Ds_ink_145 (a0 a1 a2 : Value) (x : Nat) (st : List Value) (g : px_G) : rn k_Ds_ink 145 [a0, a1, a2, .ref x] st g = rn k_Ds_ink 146 [a0, a1, a2, .ref x] (.ref x :: st) g := rn_next dd_Ds_ink_145 rfl
theorem dd_Ds_ink_146 : decode (px_rw k_Ds_ink).2.1 146 = .ok (.getfield 126, 3) := (by decide +kernel : decode prog_1_method_7_code 146 = .ok (.getfield 126, 3))
theorem e_Ds_ink_146 (L : List Value) (p : Nat) (st : List Value) (T : TS) (hp : sh p = (104, 18)) : rn k_Ds_ink 146 L (.ref p :: st) (enc T) = rn k_Ds_ink 149 L (.int (T.1 p 6) :: st) (enc T) := rn_getI (n := 18) dd_Ds_ink_146 rfl (by decide) (by decide) (by decide) rfl hp
theorem dd_Ds_ink_149 : decode (px_rw k_Ds_ink).2.1 149 = .ok (.ireturn, 1) := (by decide +kernel : decode prog_1_method_7_code 149 = .ok (.ireturn, 1))
theorem e_Ds_ink_149 (L : List Value) (v : Int32) (g : px_G) : rn k_Ds_ink 149 L [.int v] g = some (some (.int v), g) := rn_iret dd_Ds_ink_149 rfl
