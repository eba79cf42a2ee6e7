theorem dTo_hasRoomFor_0 : decode (mC mTo_hasRoomFor) 0 = .ok (.iload_n 1, 1) := by decide +kernel
theorem dTo_hasRoomFor_1 : decode (mC mTo_hasRoomFor) 1 = .ok (.ifCond .lt (19), 3) := by decide +kernel
theorem dTo_hasRoomFor_4 : decode (mC mTo_hasRoomFor) 4 = .ok (.aload_n 0, 1) := by decide +kernel
theorem dTo_hasRoomFor_5 : decode (mC mTo_hasRoomFor) 5 = .ok (.getfield 33, 3) := by decide +kernel
theorem dTo_hasRoomFor_8 : decode (mC mTo_hasRoomFor) 8 = .ok (.sipush (900), 3) := by decide +kernel
theorem dTo_hasRoomFor_11 : decode (mC mTo_hasRoomFor) 11 = .ok (.iload_n 1, 1) := by decide +kernel
theorem dTo_hasRoomFor_12 : decode (mC mTo_hasRoomFor) 12 = .ok (.isub, 1) := by decide +kernel
theorem dTo_hasRoomFor_13 : decode (mC mTo_hasRoomFor) 13 = .ok (.if_icmp .gt (7), 3) := by decide +kernel
theorem dTo_hasRoomFor_16 : decode (mC mTo_hasRoomFor) 16 = .ok (.iconst (1), 1) := by decide +kernel
theorem dTo_hasRoomFor_17 : decode (mC mTo_hasRoomFor) 17 = .ok (.goto (4), 3) := by decide +kernel
theorem dTo_hasRoomFor_20 : decode (mC mTo_hasRoomFor) 20 = .ok (.iconst (0), 1) := by decide +kernel
theorem dTo_hasRoomFor_21 : decode (mC mTo_hasRoomFor) 21 = .ok (.ireturn, 1) := by decide +kernel
theorem bTo_hasRoomFor_0 {E : mEn} {d : Nat} {σ : mSt} {Q : mPost} {a1 : Int32} : WP E d mTo_hasRoomFor 0 [.ref 6, .int a1] [] σ Q = (if a1 < 0 then WP E d mTo_hasRoomFor 20 [.ref 6, .int a1] [] σ Q else WP E d mTo_hasRoomFor 4 [.ref 6, .int a1] [] σ Q) := (w_iload_n dTo_hasRoomFor_0 rfl).trans (w_iflt (t := 20) dTo_hasRoomFor_1 (by decide))
theorem bTo_hasRoomFor_4 {E : mEn} {d : Nat} {σ : mSt} {Q : mPost} {a1 : Int32} : WP E d mTo_hasRoomFor 4 [.ref 6, .int a1] [] σ Q = (if ((nI 900) - a1) < (σ.1 6 2) then WP E d mTo_hasRoomFor 20 [.ref 6, .int a1] [] σ Q else WP E d mTo_hasRoomFor 16 [.ref 6, .int a1] [] σ Q) := (w_aload_n dTo_hasRoomFor_4 rfl).trans ((w_geti dTo_hasRoomFor_5 rz7_33 sh_6 rfl).trans ((w_sipush (v := (nI 900)) dTo_hasRoomFor_8 rfl).trans ((w_iload_n dTo_hasRoomFor_11 rfl).trans ((w_isub dTo_hasRoomFor_12).trans (w_icmpgt (t := 20) dTo_hasRoomFor_13 (by decide))))))
theorem bTo_hasRoomFor_16 {E : mEn} {d : Nat} {σ : mSt} {Q : mPost} {a1 : Int32} : WP E d mTo_hasRoomFor 16 [.ref 6, .int a1] [] σ Q = WP E d mTo_hasRoomFor 21 [.ref 6, .int a1] [.int 1] σ Q := (w_iconst (v := 1) dTo_hasRoomFor_16 rfl).trans (w_goto (t := 21) dTo_hasRoomFor_17 (by decide))
theorem bTo_hasRoomFor_20 {E : mEn} {d : Nat} {σ : mSt} {Q : mPost} {a1 : Int32} : WP E d mTo_hasRoomFor 20 [.ref 6, .int a1] [] σ Q = WP E d mTo_hasRoomFor 21 [.ref 6, .int a1] [.int 0] σ Q := w_iconst (v := 0) dTo_hasRoomFor_20 rfl
theorem bTo_hasRoomFor_21 {E : mEn} {d : Nat} {σ : mSt} {Q : mPost} {a1 : Int32} {s0 : Int32} (hz0 : s0 = 0 ∨ s0 = 1) : WP E d mTo_hasRoomFor 21 [.ref 6, .int a1] [.int s0] σ Q = Q (some (.int s0)) σ := w_zret dTo_hasRoomFor_21 rfl hz0
theorem dTo_append_0 : decode (mC mTo_append) 0 = .ok (.aload_n 0, 1) := by decide +kernel
theorem dTo_append_1 : decode (mC mTo_append) 1 = .ok (.iconst (4), 1) := by decide +kernel
theorem dTo_append_2 : decode (mC mTo_append) 2 = .ok (.invokevirtual 37, 3) := by decide +kernel
theorem dTo_append_5 : decode (mC mTo_append) 5 = .ok (.ifCond .eq (10), 3) := by decide +kernel
theorem dTo_append_8 : decode (mC mTo_append) 8 = .ok (.aload_n 0, 1) := by decide +kernel
theorem dTo_append_9 : decode (mC mTo_append) 9 = .ok (.getfield 33, 3) := by decide +kernel
theorem dTo_append_12 : decode (mC mTo_append) 12 = .ok (.ifCond .ge (4), 3) := by decide +kernel
theorem dTo_append_15 : decode (mC mTo_append) 15 = .ok (.return_, 1) := by decide +kernel
theorem dTo_append_16 : decode (mC mTo_append) 16 = .ok (.bipush (24), 2) := by decide +kernel
theorem dTo_append_18 : decode (mC mTo_append) 18 = .ok (.istore_n 2, 1) := by decide +kernel
theorem dTo_append_19 : decode (mC mTo_append) 19 = .ok (.iload_n 2, 1) := by decide +kernel
theorem dTo_append_20 : decode (mC mTo_append) 20 = .ok (.ifCond .lt (32), 3) := by decide +kernel
theorem dTo_append_23 : decode (mC mTo_append) 23 = .ok (.aload_n 0, 1) := by decide +kernel
theorem dTo_append_24 : decode (mC mTo_append) 24 = .ok (.getfield 9, 3) := by decide +kernel
theorem dTo_append_27 : decode (mC mTo_append) 27 = .ok (.aload_n 0, 1) := by decide +kernel
theorem dTo_append_28 : decode (mC mTo_append) 28 = .ok (.getfield 33, 3) := by decide +kernel
theorem dTo_append_31 : decode (mC mTo_append) 31 = .ok (.iload_n 1, 1) := by decide +kernel
theorem dTo_append_32 : decode (mC mTo_append) 32 = .ok (.iload_n 2, 1) := by decide +kernel
theorem dTo_append_33 : decode (mC mTo_append) 33 = .ok (.ishr, 1) := by decide +kernel
theorem dTo_append_34 : decode (mC mTo_append) 34 = .ok (.i2b, 1) := by decide +kernel
theorem dTo_append_35 : decode (mC mTo_append) 35 = .ok (.bastore, 1) := by decide +kernel
theorem dTo_append_36 : decode (mC mTo_append) 36 = .ok (.aload_n 0, 1) := by decide +kernel
theorem dTo_append_37 : decode (mC mTo_append) 37 = .ok (.dup, 1) := by decide +kernel
theorem dTo_append_38 : decode (mC mTo_append) 38 = .ok (.getfield 33, 3) := by decide +kernel
theorem dTo_append_41 : decode (mC mTo_append) 41 = .ok (.iconst (1), 1) := by decide +kernel
theorem dTo_append_42 : decode (mC mTo_append) 42 = .ok (.iadd, 1) := by decide +kernel
theorem dTo_append_43 : decode (mC mTo_append) 43 = .ok (.putfield 33, 3) := by decide +kernel
theorem dTo_append_46 : decode (mC mTo_append) 46 = .ok (.iinc 2 (-8), 3) := by decide +kernel
theorem dTo_append_49 : decode (mC mTo_append) 49 = .ok (.goto (-30), 3) := by decide +kernel
theorem dTo_append_52 : decode (mC mTo_append) 52 = .ok (.return_, 1) := by decide +kernel
theorem bTo_append_0 {E : mEn} {d : Nat} {σ : mSt} {Q : mPost} {a1 : Int32} {u2 : Value} : WP E (d + 1) mTo_append 0 [.ref 6, .int a1, u2] [] σ Q = WP E d mTo_hasRoomFor 0 [.ref 6, .int (nI 4)] [] σ (fun r σ' => WP E (d + 1) mTo_append 5 [.ref 6, .int a1, u2] (r.toList ++ []) σ' Q) := (w_aload_n dTo_append_0 rfl).trans ((w_iconst (v := (nI 4)) dTo_append_1 rfl).trans (w_virt (vs := [.int (nI 4)]) (st' := []) (es := [.ref 6, .int (nI 4)]) dTo_append_2 rz7_37 rfl sh_6 rfl rfl rfl (Nat.le_of_ble_eq_true rfl) (Nat.le_of_ble_eq_true rfl) rfl))
theorem bTo_append_5 {E : mEn} {d : Nat} {σ : mSt} {Q : mPost} {a1 : Int32} {u2 : Value} {s0 : Int32} : WP E d mTo_append 5 [.ref 6, .int a1, u2] [.int s0] σ Q = (if s0 = 0 then WP E d mTo_append 15 [.ref 6, .int a1, u2] [] σ Q else WP E d mTo_append 8 [.ref 6, .int a1, u2] [] σ Q) := w_ifeq (t := 15) dTo_append_5 (by decide)
theorem bTo_append_8 {E : mEn} {d : Nat} {σ : mSt} {Q : mPost} {a1 : Int32} {u2 : Value} : WP E d mTo_append 8 [.ref 6, .int a1, u2] [] σ Q = (if 0 ≤ (σ.1 6 2) then WP E d mTo_append 16 [.ref 6, .int a1, u2] [] σ Q else WP E d mTo_append 15 [.ref 6, .int a1, u2] [] σ Q) := (w_aload_n dTo_append_8 rfl).trans ((w_geti dTo_append_9 rz7_33 sh_6 rfl).trans (w_ifge (t := 16) dTo_append_12 (by decide)))
theorem bTo_append_15 {E : mEn} {d : Nat} {σ : mSt} {Q : mPost} {a1 : Int32} {u2 : Value} : WP E d mTo_append 15 [.ref 6, .int a1, u2] [] σ Q = Q none σ := w_vret dTo_append_15 rfl
theorem bTo_append_16 {E : mEn} {d : Nat} {σ : mSt} {Q : mPost} {a1 : Int32} {u2 : Value} : WP E d mTo_append 16 [.ref 6, .int a1, u2] [] σ Q = WP E d mTo_append 19 [.ref 6, .int a1, .int (nI 24)] [] σ Q := (w_bipush (v := (nI 24)) dTo_append_16 rfl).trans (w_istore_n (ls' := [.ref 6, .int a1, .int (nI 24)]) dTo_append_18 (Nat.le_of_ble_eq_true rfl) rfl)
theorem bTo_append_19 {E : mEn} {d : Nat} {σ : mSt} {Q : mPost} {a1 : Int32} {a2 : Int32} : WP E d mTo_append 19 [.ref 6, .int a1, .int a2] [] σ Q = (if a2 < 0 then WP E d mTo_append 52 [.ref 6, .int a1, .int a2] [] σ Q else WP E d mTo_append 23 [.ref 6, .int a1, .int a2] [] σ Q) := (w_iload_n dTo_append_19 rfl).trans (w_iflt (t := 52) dTo_append_20 (by decide))
theorem bTo_append_23 {E : mEn} {d : Nat} {σ : mSt} {Q : mPost} {a1 : Int32} {a2 : Int32} : WP E d mTo_append 23 [.ref 6, .int a1, .int a2] [] σ Q = (if mOut (σ.1 6 2) 900 = true then False else WP E d mTo_append 46 [.ref 6, .int a1, .int a2] [] (sI (sI σ 7 (σ.1 6 2).toNatClampNeg (vp_nar .byte ((a1 >>> (a2 &&& 31)).toInt8.toInt32))) 6 2 (((sI σ 7 (σ.1 6 2).toNatClampNeg (vp_nar .byte ((a1 >>> (a2 &&& 31)).toInt8.toInt32))).1 6 2) + 1)) Q) := (w_aload_n dTo_append_23 rfl).trans ((w_getr (r := 7) dTo_append_24 rz7_9 sh_6 rfl).trans ((w_aload_n dTo_append_27 rfl).trans ((w_geti dTo_append_28 rz7_33 sh_6 rfl).trans ((w_iload_n dTo_append_31 rfl).trans ((w_iload_n dTo_append_32 rfl).trans ((w_ishr dTo_append_33).trans ((w_i2b dTo_append_34).trans ((w_bast dTo_append_35 sh_7).trans (ite_c ((w_aload_n dTo_append_36 rfl).trans ((w_dup dTo_append_37 rfl).trans ((w_geti dTo_append_38 rz7_33 sh_6 rfl).trans ((w_iconst (v := 1) dTo_append_41 rfl).trans ((w_iadd dTo_append_42).trans (w_puti dTo_append_43 rz7_33 sh_6 rfl rfl rfl)))))))))))))))
theorem bTo_append_46 {E : mEn} {d : Nat} {σ : mSt} {Q : mPost} {a1 : Int32} {a2 : Int32} : WP E d mTo_append 46 [.ref 6, .int a1, .int a2] [] σ Q = WP E d mTo_append 19 [.ref 6, .int a1, .int (a2 + (-8))] [] σ Q := (w_iinc (v := (-8)) (ls' := [.ref 6, .int a1, .int (a2 + (-8))]) dTo_append_46 rfl rfl rfl).trans (w_goto (t := 19) dTo_append_49 (by decide))
theorem bTo_append_52 {E : mEn} {d : Nat} {σ : mSt} {Q : mPost} {a1 : Int32} {a2 : Int32} : WP E d mTo_append 52 [.ref 6, .int a1, .int a2] [] σ Q = Q none σ := w_vret dTo_append_52 rfl
theorem dTo_open_0 : decode (mC mTo_open) 0 = .ok (.aload_n 0, 1) := by decide +kernel
theorem dTo_open_1 : decode (mC mTo_open) 1 = .ok (.iconst (0), 1) := by decide +kernel
theorem dTo_open_2 : decode (mC mTo_open) 2 = .ok (.iload_n 1, 1) := by decide +kernel
theorem dTo_open_3 : decode (mC mTo_open) 3 = .ok (.aload_n 0, 1) := by decide +kernel
theorem dTo_open_4 : decode (mC mTo_open) 4 = .ok (.getfield 33, 3) := by decide +kernel
theorem dTo_open_7 : decode (mC mTo_open) 7 = .ok (.invokestatic 41, 3) := by decide +kernel
theorem dTo_open_10 : decode (mC mTo_open) 10 = .ok (.invokestatic 47, 3) := by decide +kernel
theorem dTo_open_13 : decode (mC mTo_open) 13 = .ok (.putfield 50, 3) := by decide +kernel
theorem dTo_open_16 : decode (mC mTo_open) 16 = .ok (.aload_n 0, 1) := by decide +kernel
theorem dTo_open_17 : decode (mC mTo_open) 17 = .ok (.iconst (0), 1) := by decide +kernel
theorem dTo_open_18 : decode (mC mTo_open) 18 = .ok (.putfield 33, 3) := by decide +kernel
theorem dTo_open_21 : decode (mC mTo_open) 21 = .ok (.aload_n 0, 1) := by decide +kernel
theorem dTo_open_22 : decode (mC mTo_open) 22 = .ok (.iconst (0), 1) := by decide +kernel
theorem dTo_open_23 : decode (mC mTo_open) 23 = .ok (.putfield 52, 3) := by decide +kernel
theorem dTo_open_26 : decode (mC mTo_open) 26 = .ok (.aload_n 0, 1) := by decide +kernel
theorem dTo_open_27 : decode (mC mTo_open) 27 = .ok (.iconst (0), 1) := by decide +kernel
theorem dTo_open_28 : decode (mC mTo_open) 28 = .ok (.putfield 55, 3) := by decide +kernel
theorem dTo_open_31 : decode (mC mTo_open) 31 = .ok (.aload_n 0, 1) := by decide +kernel
theorem dTo_open_32 : decode (mC mTo_open) 32 = .ok (.iconst (-1), 1) := by decide +kernel
theorem dTo_open_33 : decode (mC mTo_open) 33 = .ok (.putfield 58, 3) := by decide +kernel
theorem dTo_open_36 : decode (mC mTo_open) 36 = .ok (.aload_n 0, 1) := by decide +kernel
theorem dTo_open_37 : decode (mC mTo_open) 37 = .ok (.invokevirtual 61, 3) := by decide +kernel
theorem dTo_open_40 : decode (mC mTo_open) 40 = .ok (.return_, 1) := by decide +kernel
theorem bTo_open_0 {E : mEn} {d : Nat} {σ : mSt} {Q : mPost} {a1 : Int32} : WP E d mTo_open 0 [.ref 6, .int a1] [] σ Q = WP E d mTo_open 36 [.ref 6, .int a1] [] (sI (sI (sI (sI (sI σ 6 3 (if 0 < (if (σ.1 6 2) < a1 then (σ.1 6 2) else a1) then (if (σ.1 6 2) < a1 then (σ.1 6 2) else a1) else 0)) 6 2 0) 6 6 0) 6 9 0) 6 10 (-1)) Q := (w_aload_n dTo_open_0 rfl).trans ((w_iconst (v := 0) dTo_open_1 rfl).trans ((w_iload_n dTo_open_2 rfl).trans ((w_aload_n dTo_open_3 rfl).trans ((w_geti dTo_open_4 rz7_33 sh_6 rfl).trans ((w_min dTo_open_7 rz7_41 (Nat.le_of_ble_eq_true rfl)).trans ((w_max dTo_open_10 rz7_47 (Nat.le_of_ble_eq_true rfl)).trans ((w_puti dTo_open_13 rz7_50 sh_6 rfl rfl rfl).trans ((w_aload_n dTo_open_16 rfl).trans ((w_iconst (v := 0) dTo_open_17 rfl).trans ((w_puti dTo_open_18 rz7_33 sh_6 rfl rfl rfl).trans ((w_aload_n dTo_open_21 rfl).trans ((w_iconst (v := 0) dTo_open_22 rfl).trans ((w_puti dTo_open_23 rz7_52 sh_6 rfl rfl rfl).trans ((w_aload_n dTo_open_26 rfl).trans ((w_iconst (v := 0) dTo_open_27 rfl).trans ((w_puti dTo_open_28 rz7_55 sh_6 rfl rfl rfl).trans ((w_aload_n dTo_open_31 rfl).trans ((w_iconst (v := (-1)) dTo_open_32 rfl).trans (w_puti dTo_open_33 rz7_58 sh_6 rfl rfl rfl)))))))))))))))))))
theorem bTo_open_36 {E : mEn} {d : Nat} {σ : mSt} {Q : mPost} {a1 : Int32} : WP E (d + 1) mTo_open 36 [.ref 6, .int a1] [] σ Q = WP E d mTo_advance 0 [.ref 6, uu, uu] [] σ (fun r σ' => WP E (d + 1) mTo_open 40 [.ref 6, .int a1] (r.toList ++ []) σ' Q) := (w_aload_n dTo_open_36 rfl).trans (w_virt (vs := []) (st' := []) (es := [.ref 6, uu, uu]) dTo_open_37 rz7_61 rfl sh_6 rfl rfl rfl (Nat.le_of_ble_eq_true rfl) (Nat.le_of_ble_eq_true rfl) rfl)
theorem bTo_open_40 {E : mEn} {d : Nat} {σ : mSt} {Q : mPost} {a1 : Int32} : WP E d mTo_open 40 [.ref 6, .int a1] [] σ Q = Q none σ := w_vret dTo_open_40 rfl
theorem dTo_advance_0 : decode (mC mTo_advance) 0 = .ok (.aload_n 0, 1) := by decide +kernel
theorem dTo_advance_1 : decode (mC mTo_advance) 1 = .ok (.getfield 52, 3) := by decide +kernel
theorem dTo_advance_4 : decode (mC mTo_advance) 4 = .ok (.istore_n 1, 1) := by decide +kernel
theorem dTo_advance_5 : decode (mC mTo_advance) 5 = .ok (.iload_n 1, 1) := by decide +kernel
theorem dTo_advance_6 : decode (mC mTo_advance) 6 = .ok (.aload_n 0, 1) := by decide +kernel
theorem dTo_advance_7 : decode (mC mTo_advance) 7 = .ok (.getfield 50, 3) := by decide +kernel
theorem dTo_advance_10 : decode (mC mTo_advance) 10 = .ok (.if_icmp .ge (31), 3) := by decide +kernel
theorem dTo_advance_13 : decode (mC mTo_advance) 13 = .ok (.aload_n 0, 1) := by decide +kernel
theorem dTo_advance_14 : decode (mC mTo_advance) 14 = .ok (.getfield 9, 3) := by decide +kernel
theorem dTo_advance_17 : decode (mC mTo_advance) 17 = .ok (.iload_n 1, 1) := by decide +kernel
theorem dTo_advance_18 : decode (mC mTo_advance) 18 = .ok (.baload, 1) := by decide +kernel
theorem dTo_advance_19 : decode (mC mTo_advance) 19 = .ok (.bipush (32), 2) := by decide +kernel
theorem dTo_advance_21 : decode (mC mTo_advance) 21 = .ok (.if_icmp .eq (14), 3) := by decide +kernel
theorem dTo_advance_24 : decode (mC mTo_advance) 24 = .ok (.aload_n 0, 1) := by decide +kernel
theorem dTo_advance_25 : decode (mC mTo_advance) 25 = .ok (.getfield 9, 3) := by decide +kernel
theorem dTo_advance_28 : decode (mC mTo_advance) 28 = .ok (.iload_n 1, 1) := by decide +kernel
theorem dTo_advance_29 : decode (mC mTo_advance) 29 = .ok (.baload, 1) := by decide +kernel
theorem dTo_advance_30 : decode (mC mTo_advance) 30 = .ok (.bipush (10), 2) := by decide +kernel
theorem dTo_advance_32 : decode (mC mTo_advance) 32 = .ok (.if_icmp .ne (9), 3) := by decide +kernel
theorem dTo_advance_35 : decode (mC mTo_advance) 35 = .ok (.iinc 1 (1), 3) := by decide +kernel
theorem dTo_advance_38 : decode (mC mTo_advance) 38 = .ok (.goto (-33), 3) := by decide +kernel
theorem dTo_advance_41 : decode (mC mTo_advance) 41 = .ok (.aload_n 0, 1) := by decide +kernel
theorem dTo_advance_42 : decode (mC mTo_advance) 42 = .ok (.iload_n 1, 1) := by decide +kernel
theorem dTo_advance_43 : decode (mC mTo_advance) 43 = .ok (.putfield 64, 3) := by decide +kernel
theorem dTo_advance_46 : decode (mC mTo_advance) 46 = .ok (.aload_n 0, 1) := by decide +kernel
theorem dTo_advance_47 : decode (mC mTo_advance) 47 = .ok (.iload_n 1, 1) := by decide +kernel
theorem dTo_advance_48 : decode (mC mTo_advance) 48 = .ok (.putfield 52, 3) := by decide +kernel
theorem dTo_advance_51 : decode (mC mTo_advance) 51 = .ok (.aload_n 0, 1) := by decide +kernel
theorem dTo_advance_52 : decode (mC mTo_advance) 52 = .ok (.lconst 0, 1) := by decide +kernel
theorem dTo_advance_53 : decode (mC mTo_advance) 53 = .ok (.putfield 67, 3) := by decide +kernel
theorem dTo_advance_56 : decode (mC mTo_advance) 56 = .ok (.iload_n 1, 1) := by decide +kernel
theorem dTo_advance_57 : decode (mC mTo_advance) 57 = .ok (.aload_n 0, 1) := by decide +kernel
theorem dTo_advance_58 : decode (mC mTo_advance) 58 = .ok (.getfield 50, 3) := by decide +kernel
theorem dTo_advance_61 : decode (mC mTo_advance) 61 = .ok (.if_icmp .lt (9), 3) := by decide +kernel
theorem dTo_advance_64 : decode (mC mTo_advance) 64 = .ok (.aload_n 0, 1) := by decide +kernel
theorem dTo_advance_65 : decode (mC mTo_advance) 65 = .ok (.iconst (0), 1) := by decide +kernel
theorem dTo_advance_66 : decode (mC mTo_advance) 66 = .ok (.putfield 71, 3) := by decide +kernel
theorem dTo_advance_69 : decode (mC mTo_advance) 69 = .ok (.return_, 1) := by decide +kernel
theorem dTo_advance_70 : decode (mC mTo_advance) 70 = .ok (.aload_n 0, 1) := by decide +kernel
theorem dTo_advance_71 : decode (mC mTo_advance) 71 = .ok (.getfield 9, 3) := by decide +kernel
theorem dTo_advance_74 : decode (mC mTo_advance) 74 = .ok (.iload_n 1, 1) := by decide +kernel
theorem dTo_advance_75 : decode (mC mTo_advance) 75 = .ok (.baload, 1) := by decide +kernel
theorem dTo_advance_76 : decode (mC mTo_advance) 76 = .ok (.istore_n 2, 1) := by decide +kernel
theorem dTo_advance_77 : decode (mC mTo_advance) 77 = .ok (.iload_n 2, 1) := by decide +kernel
theorem dTo_advance_78 : decode (mC mTo_advance) 78 = .ok (.bipush (97), 2) := by decide +kernel
theorem dTo_advance_80 : decode (mC mTo_advance) 80 = .ok (.if_icmp .lt (16), 3) := by decide +kernel
theorem dTo_advance_83 : decode (mC mTo_advance) 83 = .ok (.iload_n 2, 1) := by decide +kernel
theorem dTo_advance_84 : decode (mC mTo_advance) 84 = .ok (.bipush (122), 2) := by decide +kernel
theorem dTo_advance_86 : decode (mC mTo_advance) 86 = .ok (.if_icmp .gt (10), 3) := by decide +kernel
theorem dTo_advance_89 : decode (mC mTo_advance) 89 = .ok (.aload_n 0, 1) := by decide +kernel
theorem dTo_advance_90 : decode (mC mTo_advance) 90 = .ok (.invokevirtual 74, 3) := by decide +kernel
theorem dTo_advance_93 : decode (mC mTo_advance) 93 = .ok (.goto (67), 3) := by decide +kernel
theorem dTo_advance_96 : decode (mC mTo_advance) 96 = .ok (.iload_n 2, 1) := by decide +kernel
theorem dTo_advance_97 : decode (mC mTo_advance) 97 = .ok (.bipush (48), 2) := by decide +kernel
theorem dTo_advance_99 : decode (mC mTo_advance) 99 = .ok (.if_icmp .lt (16), 3) := by decide +kernel
theorem dTo_advance_102 : decode (mC mTo_advance) 102 = .ok (.iload_n 2, 1) := by decide +kernel
theorem dTo_advance_103 : decode (mC mTo_advance) 103 = .ok (.bipush (57), 2) := by decide +kernel
theorem dTo_advance_105 : decode (mC mTo_advance) 105 = .ok (.if_icmp .gt (10), 3) := by decide +kernel
theorem dTo_advance_108 : decode (mC mTo_advance) 108 = .ok (.aload_n 0, 1) := by decide +kernel
theorem dTo_advance_109 : decode (mC mTo_advance) 109 = .ok (.invokevirtual 77, 3) := by decide +kernel
theorem dTo_advance_112 : decode (mC mTo_advance) 112 = .ok (.goto (48), 3) := by decide +kernel
theorem dTo_advance_115 : decode (mC mTo_advance) 115 = .ok (.aload_n 0, 1) := by decide +kernel
theorem dTo_advance_116 : decode (mC mTo_advance) 116 = .ok (.iload_n 2, 1) := by decide +kernel
theorem dTo_advance_117 : decode (mC mTo_advance) 117 = .ok (.bipush (59), 2) := by decide +kernel
theorem dTo_advance_119 : decode (mC mTo_advance) 119 = .ok (.if_icmp .eq (21), 3) := by decide +kernel
theorem dTo_advance_122 : decode (mC mTo_advance) 122 = .ok (.iload_n 2, 1) := by decide +kernel
theorem dTo_advance_123 : decode (mC mTo_advance) 123 = .ok (.bipush (60), 2) := by decide +kernel
theorem dTo_advance_125 : decode (mC mTo_advance) 125 = .ok (.if_icmp .eq (15), 3) := by decide +kernel
theorem dTo_advance_128 : decode (mC mTo_advance) 128 = .ok (.iload_n 2, 1) := by decide +kernel
theorem dTo_advance_129 : decode (mC mTo_advance) 129 = .ok (.bipush (62), 2) := by decide +kernel
theorem dTo_advance_131 : decode (mC mTo_advance) 131 = .ok (.if_icmp .eq (9), 3) := by decide +kernel
theorem dTo_advance_134 : decode (mC mTo_advance) 134 = .ok (.iload_n 2, 1) := by decide +kernel
theorem dTo_advance_135 : decode (mC mTo_advance) 135 = .ok (.bipush (61), 2) := by decide +kernel
theorem dTo_advance_137 : decode (mC mTo_advance) 137 = .ok (.if_icmp .ne (7), 3) := by decide +kernel
theorem dTo_advance_140 : decode (mC mTo_advance) 140 = .ok (.iconst (3), 1) := by decide +kernel
theorem dTo_advance_141 : decode (mC mTo_advance) 141 = .ok (.goto (4), 3) := by decide +kernel
theorem dTo_advance_144 : decode (mC mTo_advance) 144 = .ok (.iconst (4), 1) := by decide +kernel
theorem dTo_advance_145 : decode (mC mTo_advance) 145 = .ok (.putfield 71, 3) := by decide +kernel
theorem dTo_advance_148 : decode (mC mTo_advance) 148 = .ok (.aload_n 0, 1) := by decide +kernel
theorem dTo_advance_149 : decode (mC mTo_advance) 149 = .ok (.iload_n 2, 1) := by decide +kernel
theorem dTo_advance_150 : decode (mC mTo_advance) 150 = .ok (.putfield 80, 3) := by decide +kernel
theorem dTo_advance_153 : decode (mC mTo_advance) 153 = .ok (.aload_n 0, 1) := by decide +kernel
theorem dTo_advance_154 : decode (mC mTo_advance) 154 = .ok (.iload_n 1, 1) := by decide +kernel
theorem dTo_advance_155 : decode (mC mTo_advance) 155 = .ok (.iconst (1), 1) := by decide +kernel
theorem dTo_advance_156 : decode (mC mTo_advance) 156 = .ok (.iadd, 1) := by decide +kernel
theorem dTo_advance_157 : decode (mC mTo_advance) 157 = .ok (.putfield 52, 3) := by decide +kernel
theorem dTo_advance_160 : decode (mC mTo_advance) 160 = .ok (.return_, 1) := by decide +kernel
theorem bTo_advance_0 {E : mEn} {d : Nat} {σ : mSt} {Q : mPost} {u1 : Value} {u2 : Value} : WP E d mTo_advance 0 [.ref 6, u1, u2] [] σ Q = WP E d mTo_advance 5 [.ref 6, .int (σ.1 6 6), u2] [] σ Q := (w_aload_n dTo_advance_0 rfl).trans ((w_geti dTo_advance_1 rz7_52 sh_6 rfl).trans (w_istore_n (ls' := [.ref 6, .int (σ.1 6 6), u2]) dTo_advance_4 (Nat.le_of_ble_eq_true rfl) rfl))
theorem bTo_advance_5 {E : mEn} {d : Nat} {σ : mSt} {Q : mPost} {a1 : Int32} {u2 : Value} : WP E d mTo_advance 5 [.ref 6, .int a1, u2] [] σ Q = (if (σ.1 6 3) ≤ a1 then WP E d mTo_advance 41 [.ref 6, .int a1, u2] [] σ Q else WP E d mTo_advance 13 [.ref 6, .int a1, u2] [] σ Q) := (w_iload_n dTo_advance_5 rfl).trans ((w_aload_n dTo_advance_6 rfl).trans ((w_geti dTo_advance_7 rz7_50 sh_6 rfl).trans (w_icmpge (t := 41) dTo_advance_10 (by decide))))
theorem bTo_advance_13 {E : mEn} {d : Nat} {σ : mSt} {Q : mPost} {a1 : Int32} {u2 : Value} : WP E d mTo_advance 13 [.ref 6, .int a1, u2] [] σ Q = (if mOut a1 900 = true then False else (if (σ.1 7 a1.toNatClampNeg) = (nI 32) then WP E d mTo_advance 35 [.ref 6, .int a1, u2] [] σ Q else WP E d mTo_advance 24 [.ref 6, .int a1, u2] [] σ Q)) := (w_aload_n dTo_advance_13 rfl).trans ((w_getr (r := 7) dTo_advance_14 rz7_9 sh_6 rfl).trans ((w_iload_n dTo_advance_17 rfl).trans ((w_bald dTo_advance_18 sh_7).trans (ite_c ((w_bipush (v := (nI 32)) dTo_advance_19 rfl).trans (w_icmpeq (t := 35) dTo_advance_21 (by decide)))))))
theorem bTo_advance_24 {E : mEn} {d : Nat} {σ : mSt} {Q : mPost} {a1 : Int32} {u2 : Value} : WP E d mTo_advance 24 [.ref 6, .int a1, u2] [] σ Q = (if mOut a1 900 = true then False else (if ¬ (σ.1 7 a1.toNatClampNeg) = (nI 10) then WP E d mTo_advance 41 [.ref 6, .int a1, u2] [] σ Q else WP E d mTo_advance 35 [.ref 6, .int a1, u2] [] σ Q)) := (w_aload_n dTo_advance_24 rfl).trans ((w_getr (r := 7) dTo_advance_25 rz7_9 sh_6 rfl).trans ((w_iload_n dTo_advance_28 rfl).trans ((w_bald dTo_advance_29 sh_7).trans (ite_c ((w_bipush (v := (nI 10)) dTo_advance_30 rfl).trans (w_icmpne (t := 41) dTo_advance_32 (by decide)))))))
theorem bTo_advance_35 {E : mEn} {d : Nat} {σ : mSt} {Q : mPost} {a1 : Int32} {u2 : Value} : WP E d mTo_advance 35 [.ref 6, .int a1, u2] [] σ Q = WP E d mTo_advance 5 [.ref 6, .int (a1 + 1), u2] [] σ Q := (w_iinc (v := 1) (ls' := [.ref 6, .int (a1 + 1), u2]) dTo_advance_35 rfl rfl rfl).trans (w_goto (t := 5) dTo_advance_38 (by decide))
theorem bTo_advance_41 {E : mEn} {d : Nat} {σ : mSt} {Q : mPost} {a1 : Int32} {u2 : Value} : WP E d mTo_advance 41 [.ref 6, .int a1, u2] [] σ Q = (if a1 < ((sL (sI (sI σ 6 5 a1) 6 6 a1) 6 8 0).1 6 3) then WP E d mTo_advance 70 [.ref 6, .int a1, u2] [] (sL (sI (sI σ 6 5 a1) 6 6 a1) 6 8 0) Q else WP E d mTo_advance 64 [.ref 6, .int a1, u2] [] (sL (sI (sI σ 6 5 a1) 6 6 a1) 6 8 0) Q) := (w_aload_n dTo_advance_41 rfl).trans ((w_iload_n dTo_advance_42 rfl).trans ((w_puti dTo_advance_43 rz7_64 sh_6 rfl rfl rfl).trans ((w_aload_n dTo_advance_46 rfl).trans ((w_iload_n dTo_advance_47 rfl).trans ((w_puti dTo_advance_48 rz7_52 sh_6 rfl rfl rfl).trans ((w_aload_n dTo_advance_51 rfl).trans ((w_lconst (v := 0) dTo_advance_52 rfl).trans ((w_putl dTo_advance_53 rz7_67 sh_6 rfl rfl rfl).trans ((w_iload_n dTo_advance_56 rfl).trans ((w_aload_n dTo_advance_57 rfl).trans ((w_geti dTo_advance_58 rz7_50 sh_6 rfl).trans (w_icmplt (t := 70) dTo_advance_61 (by decide)))))))))))))
theorem bTo_advance_64 {E : mEn} {d : Nat} {σ : mSt} {Q : mPost} {a1 : Int32} {u2 : Value} : WP E d mTo_advance 64 [.ref 6, .int a1, u2] [] σ Q = Q none (sI σ 6 4 0) := (w_aload_n dTo_advance_64 rfl).trans ((w_iconst (v := 0) dTo_advance_65 rfl).trans ((w_puti dTo_advance_66 rz7_71 sh_6 rfl rfl rfl).trans (w_vret dTo_advance_69 rfl)))
theorem bTo_advance_70 {E : mEn} {d : Nat} {σ : mSt} {Q : mPost} {a1 : Int32} {u2 : Value} : WP E d mTo_advance 70 [.ref 6, .int a1, u2] [] σ Q = (if mOut a1 900 = true then False else (if (σ.1 7 a1.toNatClampNeg) < (nI 97) then WP E d mTo_advance 96 [.ref 6, .int a1, .int (σ.1 7 a1.toNatClampNeg)] [] σ Q else WP E d mTo_advance 83 [.ref 6, .int a1, .int (σ.1 7 a1.toNatClampNeg)] [] σ Q)) := (w_aload_n dTo_advance_70 rfl).trans ((w_getr (r := 7) dTo_advance_71 rz7_9 sh_6 rfl).trans ((w_iload_n dTo_advance_74 rfl).trans ((w_bald dTo_advance_75 sh_7).trans (ite_c ((w_istore_n (ls' := [.ref 6, .int a1, .int (σ.1 7 a1.toNatClampNeg)]) dTo_advance_76 (Nat.le_of_ble_eq_true rfl) rfl).trans ((w_iload_n dTo_advance_77 rfl).trans ((w_bipush (v := (nI 97)) dTo_advance_78 rfl).trans (w_icmplt (t := 96) dTo_advance_80 (by decide)))))))))
theorem bTo_advance_83 {E : mEn} {d : Nat} {σ : mSt} {Q : mPost} {a1 : Int32} {a2 : Int32} : WP E d mTo_advance 83 [.ref 6, .int a1, .int a2] [] σ Q = (if (nI 122) < a2 then WP E d mTo_advance 96 [.ref 6, .int a1, .int a2] [] σ Q else WP E d mTo_advance 89 [.ref 6, .int a1, .int a2] [] σ Q) := (w_iload_n dTo_advance_83 rfl).trans ((w_bipush (v := (nI 122)) dTo_advance_84 rfl).trans (w_icmpgt (t := 96) dTo_advance_86 (by decide)))
theorem bTo_advance_89 {E : mEn} {d : Nat} {σ : mSt} {Q : mPost} {a1 : Int32} {a2 : Int32} : WP E (d + 1) mTo_advance 89 [.ref 6, .int a1, .int a2] [] σ Q = WP E d mTo_cutWord 0 [.ref 6, uu, uu, uu] [] σ (fun r σ' => WP E (d + 1) mTo_advance 93 [.ref 6, .int a1, .int a2] (r.toList ++ []) σ' Q) := (w_aload_n dTo_advance_89 rfl).trans (w_virt (vs := []) (st' := []) (es := [.ref 6, uu, uu, uu]) dTo_advance_90 rz7_74 rfl sh_6 rfl rfl rfl (Nat.le_of_ble_eq_true rfl) (Nat.le_of_ble_eq_true rfl) rfl)
theorem bTo_advance_93 {E : mEn} {d : Nat} {σ : mSt} {Q : mPost} {a1 : Int32} {a2 : Int32} : WP E d mTo_advance 93 [.ref 6, .int a1, .int a2] [] σ Q = WP E d mTo_advance 160 [.ref 6, .int a1, .int a2] [] σ Q := w_goto (t := 160) dTo_advance_93 (by decide)
theorem bTo_advance_96 {E : mEn} {d : Nat} {σ : mSt} {Q : mPost} {a1 : Int32} {a2 : Int32} : WP E d mTo_advance 96 [.ref 6, .int a1, .int a2] [] σ Q = (if a2 < (nI 48) then WP E d mTo_advance 115 [.ref 6, .int a1, .int a2] [] σ Q else WP E d mTo_advance 102 [.ref 6, .int a1, .int a2] [] σ Q) := (w_iload_n dTo_advance_96 rfl).trans ((w_bipush (v := (nI 48)) dTo_advance_97 rfl).trans (w_icmplt (t := 115) dTo_advance_99 (by decide)))
theorem bTo_advance_102 {E : mEn} {d : Nat} {σ : mSt} {Q : mPost} {a1 : Int32} {a2 : Int32} : WP E d mTo_advance 102 [.ref 6, .int a1, .int a2] [] σ Q = (if (nI 57) < a2 then WP E d mTo_advance 115 [.ref 6, .int a1, .int a2] [] σ Q else WP E d mTo_advance 108 [.ref 6, .int a1, .int a2] [] σ Q) := (w_iload_n dTo_advance_102 rfl).trans ((w_bipush (v := (nI 57)) dTo_advance_103 rfl).trans (w_icmpgt (t := 115) dTo_advance_105 (by decide)))
theorem bTo_advance_108 {E : mEn} {d : Nat} {σ : mSt} {Q : mPost} {a1 : Int32} {a2 : Int32} : WP E (d + 1) mTo_advance 108 [.ref 6, .int a1, .int a2] [] σ Q = WP E d mTo_cutNumber 0 [.ref 6, uu, uu] [] σ (fun r σ' => WP E (d + 1) mTo_advance 112 [.ref 6, .int a1, .int a2] (r.toList ++ []) σ' Q) := (w_aload_n dTo_advance_108 rfl).trans (w_virt (vs := []) (st' := []) (es := [.ref 6, uu, uu]) dTo_advance_109 rz7_77 rfl sh_6 rfl rfl rfl (Nat.le_of_ble_eq_true rfl) (Nat.le_of_ble_eq_true rfl) rfl)
theorem bTo_advance_112 {E : mEn} {d : Nat} {σ : mSt} {Q : mPost} {a1 : Int32} {a2 : Int32} : WP E d mTo_advance 112 [.ref 6, .int a1, .int a2] [] σ Q = WP E d mTo_advance 160 [.ref 6, .int a1, .int a2] [] σ Q := w_goto (t := 160) dTo_advance_112 (by decide)
theorem bTo_advance_115 {E : mEn} {d : Nat} {σ : mSt} {Q : mPost} {a1 : Int32} {a2 : Int32} : WP E d mTo_advance 115 [.ref 6, .int a1, .int a2] [] σ Q = (if a2 = (nI 59) then WP E d mTo_advance 140 [.ref 6, .int a1, .int a2] [.ref 6] σ Q else WP E d mTo_advance 122 [.ref 6, .int a1, .int a2] [.ref 6] σ Q) := (w_aload_n dTo_advance_115 rfl).trans ((w_iload_n dTo_advance_116 rfl).trans ((w_bipush (v := (nI 59)) dTo_advance_117 rfl).trans (w_icmpeq (t := 140) dTo_advance_119 (by decide))))
theorem bTo_advance_122 {E : mEn} {d : Nat} {σ : mSt} {Q : mPost} {a1 : Int32} {a2 : Int32} : WP E d mTo_advance 122 [.ref 6, .int a1, .int a2] [.ref 6] σ Q = (if a2 = (nI 60) then WP E d mTo_advance 140 [.ref 6, .int a1, .int a2] [.ref 6] σ Q else WP E d mTo_advance 128 [.ref 6, .int a1, .int a2] [.ref 6] σ Q) := (w_iload_n dTo_advance_122 rfl).trans ((w_bipush (v := (nI 60)) dTo_advance_123 rfl).trans (w_icmpeq (t := 140) dTo_advance_125 (by decide)))
theorem bTo_advance_128 {E : mEn} {d : Nat} {σ : mSt} {Q : mPost} {a1 : Int32} {a2 : Int32} : WP E d mTo_advance 128 [.ref 6, .int a1, .int a2] [.ref 6] σ Q = (if a2 = (nI 62) then WP E d mTo_advance 140 [.ref 6, .int a1, .int a2] [.ref 6] σ Q else WP E d mTo_advance 134 [.ref 6, .int a1, .int a2] [.ref 6] σ Q) := (w_iload_n dTo_advance_128 rfl).trans ((w_bipush (v := (nI 62)) dTo_advance_129 rfl).trans (w_icmpeq (t := 140) dTo_advance_131 (by decide)))
theorem bTo_advance_134 {E : mEn} {d : Nat} {σ : mSt} {Q : mPost} {a1 : Int32} {a2 : Int32} : WP E d mTo_advance 134 [.ref 6, .int a1, .int a2] [.ref 6] σ Q = (if ¬ a2 = (nI 61) then WP E d mTo_advance 144 [.ref 6, .int a1, .int a2] [.ref 6] σ Q else WP E d mTo_advance 140 [.ref 6, .int a1, .int a2] [.ref 6] σ Q) := (w_iload_n dTo_advance_134 rfl).trans ((w_bipush (v := (nI 61)) dTo_advance_135 rfl).trans (w_icmpne (t := 144) dTo_advance_137 (by decide)))
theorem bTo_advance_140 {E : mEn} {d : Nat} {σ : mSt} {Q : mPost} {a1 : Int32} {a2 : Int32} : WP E d mTo_advance 140 [.ref 6, .int a1, .int a2] [.ref 6] σ Q = WP E d mTo_advance 145 [.ref 6, .int a1, .int a2] [.int (nI 3), .ref 6] σ Q := (w_iconst (v := (nI 3)) dTo_advance_140 rfl).trans (w_goto (t := 145) dTo_advance_141 (by decide))
theorem bTo_advance_144 {E : mEn} {d : Nat} {σ : mSt} {Q : mPost} {a1 : Int32} {a2 : Int32} : WP E d mTo_advance 144 [.ref 6, .int a1, .int a2] [.ref 6] σ Q = WP E d mTo_advance 145 [.ref 6, .int a1, .int a2] [.int (nI 4), .ref 6] σ Q := w_iconst (v := (nI 4)) dTo_advance_144 rfl
theorem bTo_advance_145 {E : mEn} {d : Nat} {σ : mSt} {Q : mPost} {a1 : Int32} {a2 : Int32} {s0 : Int32} : WP E d mTo_advance 145 [.ref 6, .int a1, .int a2] [.int s0, .ref 6] σ Q = WP E d mTo_advance 160 [.ref 6, .int a1, .int a2] [] (sI (sI (sI σ 6 4 s0) 6 7 a2) 6 6 (a1 + 1)) Q := (w_puti dTo_advance_145 rz7_71 sh_6 rfl rfl rfl).trans ((w_aload_n dTo_advance_148 rfl).trans ((w_iload_n dTo_advance_149 rfl).trans ((w_puti dTo_advance_150 rz7_80 sh_6 rfl rfl rfl).trans ((w_aload_n dTo_advance_153 rfl).trans ((w_iload_n dTo_advance_154 rfl).trans ((w_iconst (v := 1) dTo_advance_155 rfl).trans ((w_iadd dTo_advance_156).trans (w_puti dTo_advance_157 rz7_52 sh_6 rfl rfl rfl))))))))
theorem bTo_advance_160 {E : mEn} {d : Nat} {σ : mSt} {Q : mPost} {a1 : Int32} {a2 : Int32} : WP E d mTo_advance 160 [.ref 6, .int a1, .int a2] [] σ Q = Q none σ := w_vret dTo_advance_160 rfl
theorem dTo_cutWord_0 : decode (mC mTo_cutWord) 0 = .ok (.lconst 0, 1) := by decide +kernel
theorem dTo_cutWord_1 : decode (mC mTo_cutWord) 1 = .ok (.lstore_n 1, 1) := by decide +kernel
theorem dTo_cutWord_2 : decode (mC mTo_cutWord) 2 = .ok (.aload_n 0, 1) := by decide +kernel
theorem dTo_cutWord_3 : decode (mC mTo_cutWord) 3 = .ok (.getfield 64, 3) := by decide +kernel
theorem dTo_cutWord_6 : decode (mC mTo_cutWord) 6 = .ok (.istore_n 3, 1) := by decide +kernel
theorem dTo_cutWord_7 : decode (mC mTo_cutWord) 7 = .ok (.iload_n 3, 1) := by decide +kernel
theorem dTo_cutWord_8 : decode (mC mTo_cutWord) 8 = .ok (.aload_n 0, 1) := by decide +kernel
theorem dTo_cutWord_9 : decode (mC mTo_cutWord) 9 = .ok (.getfield 50, 3) := by decide +kernel
theorem dTo_cutWord_12 : decode (mC mTo_cutWord) 12 = .ok (.if_icmp .ge (50), 3) := by decide +kernel
theorem dTo_cutWord_15 : decode (mC mTo_cutWord) 15 = .ok (.aload_n 0, 1) := by decide +kernel
theorem dTo_cutWord_16 : decode (mC mTo_cutWord) 16 = .ok (.getfield 9, 3) := by decide +kernel
theorem dTo_cutWord_19 : decode (mC mTo_cutWord) 19 = .ok (.iload_n 3, 1) := by decide +kernel
theorem dTo_cutWord_20 : decode (mC mTo_cutWord) 20 = .ok (.baload, 1) := by decide +kernel
theorem dTo_cutWord_21 : decode (mC mTo_cutWord) 21 = .ok (.bipush (97), 2) := by decide +kernel
theorem dTo_cutWord_23 : decode (mC mTo_cutWord) 23 = .ok (.if_icmp .lt (39), 3) := by decide +kernel
theorem dTo_cutWord_26 : decode (mC mTo_cutWord) 26 = .ok (.aload_n 0, 1) := by decide +kernel
theorem dTo_cutWord_27 : decode (mC mTo_cutWord) 27 = .ok (.getfield 9, 3) := by decide +kernel
theorem dTo_cutWord_30 : decode (mC mTo_cutWord) 30 = .ok (.iload_n 3, 1) := by decide +kernel
theorem dTo_cutWord_31 : decode (mC mTo_cutWord) 31 = .ok (.baload, 1) := by decide +kernel
theorem dTo_cutWord_32 : decode (mC mTo_cutWord) 32 = .ok (.bipush (122), 2) := by decide +kernel
theorem dTo_cutWord_34 : decode (mC mTo_cutWord) 34 = .ok (.if_icmp .gt (28), 3) := by decide +kernel
theorem dTo_cutWord_37 : decode (mC mTo_cutWord) 37 = .ok (.lload_n 1, 1) := by decide +kernel
theorem dTo_cutWord_38 : decode (mC mTo_cutWord) 38 = .ok (.ldc2_w 31, 3) := by decide +kernel
theorem dTo_cutWord_41 : decode (mC mTo_cutWord) 41 = .ok (.lmul, 1) := by decide +kernel
theorem dTo_cutWord_42 : decode (mC mTo_cutWord) 42 = .ok (.aload_n 0, 1) := by decide +kernel
theorem dTo_cutWord_43 : decode (mC mTo_cutWord) 43 = .ok (.getfield 9, 3) := by decide +kernel
theorem dTo_cutWord_46 : decode (mC mTo_cutWord) 46 = .ok (.iload_n 3, 1) := by decide +kernel
theorem dTo_cutWord_47 : decode (mC mTo_cutWord) 47 = .ok (.baload, 1) := by decide +kernel
theorem dTo_cutWord_48 : decode (mC mTo_cutWord) 48 = .ok (.bipush (97), 2) := by decide +kernel
theorem dTo_cutWord_50 : decode (mC mTo_cutWord) 50 = .ok (.isub, 1) := by decide +kernel
theorem dTo_cutWord_51 : decode (mC mTo_cutWord) 51 = .ok (.iconst (1), 1) := by decide +kernel
theorem dTo_cutWord_52 : decode (mC mTo_cutWord) 52 = .ok (.iadd, 1) := by decide +kernel
theorem dTo_cutWord_53 : decode (mC mTo_cutWord) 53 = .ok (.i2l, 1) := by decide +kernel
theorem dTo_cutWord_54 : decode (mC mTo_cutWord) 54 = .ok (.ladd, 1) := by decide +kernel
theorem dTo_cutWord_55 : decode (mC mTo_cutWord) 55 = .ok (.lstore_n 1, 1) := by decide +kernel
theorem dTo_cutWord_56 : decode (mC mTo_cutWord) 56 = .ok (.iinc 3 (1), 3) := by decide +kernel
theorem dTo_cutWord_59 : decode (mC mTo_cutWord) 59 = .ok (.goto (-52), 3) := by decide +kernel
theorem dTo_cutWord_62 : decode (mC mTo_cutWord) 62 = .ok (.aload_n 0, 1) := by decide +kernel
theorem dTo_cutWord_63 : decode (mC mTo_cutWord) 63 = .ok (.iconst (1), 1) := by decide +kernel
theorem dTo_cutWord_64 : decode (mC mTo_cutWord) 64 = .ok (.putfield 71, 3) := by decide +kernel
theorem dTo_cutWord_67 : decode (mC mTo_cutWord) 67 = .ok (.aload_n 0, 1) := by decide +kernel
theorem dTo_cutWord_68 : decode (mC mTo_cutWord) 68 = .ok (.iload_n 3, 1) := by decide +kernel
theorem dTo_cutWord_69 : decode (mC mTo_cutWord) 69 = .ok (.aload_n 0, 1) := by decide +kernel
theorem dTo_cutWord_70 : decode (mC mTo_cutWord) 70 = .ok (.getfield 64, 3) := by decide +kernel
theorem dTo_cutWord_73 : decode (mC mTo_cutWord) 73 = .ok (.isub, 1) := by decide +kernel
theorem dTo_cutWord_74 : decode (mC mTo_cutWord) 74 = .ok (.bipush (8), 2) := by decide +kernel
theorem dTo_cutWord_76 : decode (mC mTo_cutWord) 76 = .ok (.if_icmp .gt (7), 3) := by decide +kernel
theorem dTo_cutWord_79 : decode (mC mTo_cutWord) 79 = .ok (.lload_n 1, 1) := by decide +kernel
theorem dTo_cutWord_80 : decode (mC mTo_cutWord) 80 = .ok (.goto (4), 3) := by decide +kernel
theorem dTo_cutWord_83 : decode (mC mTo_cutWord) 83 = .ok (.lconst 0, 1) := by decide +kernel
theorem dTo_cutWord_84 : decode (mC mTo_cutWord) 84 = .ok (.putfield 67, 3) := by decide +kernel
theorem dTo_cutWord_87 : decode (mC mTo_cutWord) 87 = .ok (.aload_n 0, 1) := by decide +kernel
theorem dTo_cutWord_88 : decode (mC mTo_cutWord) 88 = .ok (.iload_n 3, 1) := by decide +kernel
theorem dTo_cutWord_89 : decode (mC mTo_cutWord) 89 = .ok (.putfield 52, 3) := by decide +kernel
theorem dTo_cutWord_92 : decode (mC mTo_cutWord) 92 = .ok (.return_, 1) := by decide +kernel
theorem bTo_cutWord_0 {E : mEn} {d : Nat} {σ : mSt} {Q : mPost} {u1 : Value} {u2 : Value} {u3 : Value} : WP E d mTo_cutWord 0 [.ref 6, u1, u2, u3] [] σ Q = WP E d mTo_cutWord 7 [.ref 6, .long 0, uu, .int (σ.1 6 5)] [] σ Q := (w_lconst (v := 0) dTo_cutWord_0 rfl).trans ((w_lstore_n (ls' := [.ref 6, .long 0, uu, u3]) dTo_cutWord_1 (Nat.le_of_ble_eq_true rfl) rfl).trans ((w_aload_n dTo_cutWord_2 rfl).trans ((w_geti dTo_cutWord_3 rz7_64 sh_6 rfl).trans (w_istore_n (ls' := [.ref 6, .long 0, uu, .int (σ.1 6 5)]) dTo_cutWord_6 (Nat.le_of_ble_eq_true rfl) rfl))))
theorem bTo_cutWord_7 {E : mEn} {d : Nat} {σ : mSt} {Q : mPost} {j1 : Int64} {a3 : Int32} : WP E d mTo_cutWord 7 [.ref 6, .long j1, uu, .int a3] [] σ Q = (if (σ.1 6 3) ≤ a3 then WP E d mTo_cutWord 62 [.ref 6, .long j1, uu, .int a3] [] σ Q else WP E d mTo_cutWord 15 [.ref 6, .long j1, uu, .int a3] [] σ Q) := (w_iload_n dTo_cutWord_7 rfl).trans ((w_aload_n dTo_cutWord_8 rfl).trans ((w_geti dTo_cutWord_9 rz7_50 sh_6 rfl).trans (w_icmpge (t := 62) dTo_cutWord_12 (by decide))))
theorem bTo_cutWord_15 {E : mEn} {d : Nat} {σ : mSt} {Q : mPost} {j1 : Int64} {a3 : Int32} : WP E d mTo_cutWord 15 [.ref 6, .long j1, uu, .int a3] [] σ Q = (if mOut a3 900 = true then False else (if (σ.1 7 a3.toNatClampNeg) < (nI 97) then WP E d mTo_cutWord 62 [.ref 6, .long j1, uu, .int a3] [] σ Q else WP E d mTo_cutWord 26 [.ref 6, .long j1, uu, .int a3] [] σ Q)) := (w_aload_n dTo_cutWord_15 rfl).trans ((w_getr (r := 7) dTo_cutWord_16 rz7_9 sh_6 rfl).trans ((w_iload_n dTo_cutWord_19 rfl).trans ((w_bald dTo_cutWord_20 sh_7).trans (ite_c ((w_bipush (v := (nI 97)) dTo_cutWord_21 rfl).trans (w_icmplt (t := 62) dTo_cutWord_23 (by decide)))))))
theorem bTo_cutWord_26 {E : mEn} {d : Nat} {σ : mSt} {Q : mPost} {j1 : Int64} {a3 : Int32} : WP E d mTo_cutWord 26 [.ref 6, .long j1, uu, .int a3] [] σ Q = (if mOut a3 900 = true then False else (if (nI 122) < (σ.1 7 a3.toNatClampNeg) then WP E d mTo_cutWord 62 [.ref 6, .long j1, uu, .int a3] [] σ Q else WP E d mTo_cutWord 37 [.ref 6, .long j1, uu, .int a3] [] σ Q)) := (w_aload_n dTo_cutWord_26 rfl).trans ((w_getr (r := 7) dTo_cutWord_27 rz7_9 sh_6 rfl).trans ((w_iload_n dTo_cutWord_30 rfl).trans ((w_bald dTo_cutWord_31 sh_7).trans (ite_c ((w_bipush (v := (nI 122)) dTo_cutWord_32 rfl).trans (w_icmpgt (t := 62) dTo_cutWord_34 (by decide)))))))
theorem bTo_cutWord_37 {E : mEn} {d : Nat} {σ : mSt} {Q : mPost} {j1 : Int64} {a3 : Int32} : WP E d mTo_cutWord 37 [.ref 6, .long j1, uu, .int a3] [] σ Q = (if mOut a3 900 = true then False else WP E d mTo_cutWord 7 [.ref 6, .long ((j1 * (32)) + ((((σ.1 7 a3.toNatClampNeg) - (nI 97)) + 1).toInt64)), uu, .int (a3 + 1)] [] σ Q) := (w_lload_n dTo_cutWord_37 rfl).trans ((w_ldc2_w dTo_cutWord_38 rz7_31).trans ((w_lmul dTo_cutWord_41).trans ((w_aload_n dTo_cutWord_42 rfl).trans ((w_getr (r := 7) dTo_cutWord_43 rz7_9 sh_6 rfl).trans ((w_iload_n dTo_cutWord_46 rfl).trans ((w_bald dTo_cutWord_47 sh_7).trans (ite_c ((w_bipush (v := (nI 97)) dTo_cutWord_48 rfl).trans ((w_isub dTo_cutWord_50).trans ((w_iconst (v := 1) dTo_cutWord_51 rfl).trans ((w_iadd dTo_cutWord_52).trans ((w_i2l dTo_cutWord_53).trans ((w_ladd dTo_cutWord_54).trans ((w_lstore_n (ls' := [.ref 6, .long ((j1 * (32)) + ((((σ.1 7 a3.toNatClampNeg) - (nI 97)) + 1).toInt64)), uu, .int a3]) dTo_cutWord_55 (Nat.le_of_ble_eq_true rfl) rfl).trans ((w_iinc (v := 1) (ls' := [.ref 6, .long ((j1 * (32)) + ((((σ.1 7 a3.toNatClampNeg) - (nI 97)) + 1).toInt64)), uu, .int (a3 + 1)]) dTo_cutWord_56 rfl rfl rfl).trans (w_goto (t := 7) dTo_cutWord_59 (by decide)))))))))))))))))
theorem bTo_cutWord_62 {E : mEn} {d : Nat} {σ : mSt} {Q : mPost} {j1 : Int64} {a3 : Int32} : WP E d mTo_cutWord 62 [.ref 6, .long j1, uu, .int a3] [] σ Q = (if (nI 8) < (a3 - ((sI σ 6 4 1).1 6 5)) then WP E d mTo_cutWord 83 [.ref 6, .long j1, uu, .int a3] [.ref 6] (sI σ 6 4 1) Q else WP E d mTo_cutWord 79 [.ref 6, .long j1, uu, .int a3] [.ref 6] (sI σ 6 4 1) Q) := (w_aload_n dTo_cutWord_62 rfl).trans ((w_iconst (v := 1) dTo_cutWord_63 rfl).trans ((w_puti dTo_cutWord_64 rz7_71 sh_6 rfl rfl rfl).trans ((w_aload_n dTo_cutWord_67 rfl).trans ((w_iload_n dTo_cutWord_68 rfl).trans ((w_aload_n dTo_cutWord_69 rfl).trans ((w_geti dTo_cutWord_70 rz7_64 sh_6 rfl).trans ((w_isub dTo_cutWord_73).trans ((w_bipush (v := (nI 8)) dTo_cutWord_74 rfl).trans (w_icmpgt (t := 83) dTo_cutWord_76 (by decide))))))))))
theorem bTo_cutWord_79 {E : mEn} {d : Nat} {σ : mSt} {Q : mPost} {j1 : Int64} {a3 : Int32} : WP E d mTo_cutWord 79 [.ref 6, .long j1, uu, .int a3] [.ref 6] σ Q = WP E d mTo_cutWord 84 [.ref 6, .long j1, uu, .int a3] [.long j1, .ref 6] σ Q := (w_lload_n dTo_cutWord_79 rfl).trans (w_goto (t := 84) dTo_cutWord_80 (by decide))
theorem bTo_cutWord_83 {E : mEn} {d : Nat} {σ : mSt} {Q : mPost} {j1 : Int64} {a3 : Int32} : WP E d mTo_cutWord 83 [.ref 6, .long j1, uu, .int a3] [.ref 6] σ Q = WP E d mTo_cutWord 84 [.ref 6, .long j1, uu, .int a3] [.long 0, .ref 6] σ Q := w_lconst (v := 0) dTo_cutWord_83 rfl
theorem bTo_cutWord_84 {E : mEn} {d : Nat} {σ : mSt} {Q : mPost} {j1 : Int64} {a3 : Int32} {q0 : Int64} : WP E d mTo_cutWord 84 [.ref 6, .long j1, uu, .int a3] [.long q0, .ref 6] σ Q = Q none (sI (sL σ 6 8 q0) 6 6 a3) := (w_putl dTo_cutWord_84 rz7_67 sh_6 rfl rfl rfl).trans ((w_aload_n dTo_cutWord_87 rfl).trans ((w_iload_n dTo_cutWord_88 rfl).trans ((w_puti dTo_cutWord_89 rz7_52 sh_6 rfl rfl rfl).trans (w_vret dTo_cutWord_92 rfl))))
theorem dTo_cutNumber_0 : decode (mC mTo_cutNumber) 0 = .ok (.iconst (0), 1) := by decide +kernel
theorem dTo_cutNumber_1 : decode (mC mTo_cutNumber) 1 = .ok (.istore_n 1, 1) := by decide +kernel
theorem dTo_cutNumber_2 : decode (mC mTo_cutNumber) 2 = .ok (.aload_n 0, 1) := by decide +kernel
theorem dTo_cutNumber_3 : decode (mC mTo_cutNumber) 3 = .ok (.getfield 64, 3) := by decide +kernel
theorem dTo_cutNumber_6 : decode (mC mTo_cutNumber) 6 = .ok (.istore_n 2, 1) := by decide +kernel
theorem dTo_cutNumber_7 : decode (mC mTo_cutNumber) 7 = .ok (.iload_n 2, 1) := by decide +kernel
theorem dTo_cutNumber_8 : decode (mC mTo_cutNumber) 8 = .ok (.aload_n 0, 1) := by decide +kernel
theorem dTo_cutNumber_9 : decode (mC mTo_cutNumber) 9 = .ok (.getfield 50, 3) := by decide +kernel
theorem dTo_cutNumber_12 : decode (mC mTo_cutNumber) 12 = .ok (.if_icmp .ge (60), 3) := by decide +kernel
theorem dTo_cutNumber_15 : decode (mC mTo_cutNumber) 15 = .ok (.aload_n 0, 1) := by decide +kernel
theorem dTo_cutNumber_16 : decode (mC mTo_cutNumber) 16 = .ok (.getfield 9, 3) := by decide +kernel
theorem dTo_cutNumber_19 : decode (mC mTo_cutNumber) 19 = .ok (.iload_n 2, 1) := by decide +kernel
theorem dTo_cutNumber_20 : decode (mC mTo_cutNumber) 20 = .ok (.baload, 1) := by decide +kernel
theorem dTo_cutNumber_21 : decode (mC mTo_cutNumber) 21 = .ok (.bipush (48), 2) := by decide +kernel
theorem dTo_cutNumber_23 : decode (mC mTo_cutNumber) 23 = .ok (.if_icmp .lt (49), 3) := by decide +kernel
theorem dTo_cutNumber_26 : decode (mC mTo_cutNumber) 26 = .ok (.aload_n 0, 1) := by decide +kernel
theorem dTo_cutNumber_27 : decode (mC mTo_cutNumber) 27 = .ok (.getfield 9, 3) := by decide +kernel
theorem dTo_cutNumber_30 : decode (mC mTo_cutNumber) 30 = .ok (.iload_n 2, 1) := by decide +kernel
theorem dTo_cutNumber_31 : decode (mC mTo_cutNumber) 31 = .ok (.baload, 1) := by decide +kernel
theorem dTo_cutNumber_32 : decode (mC mTo_cutNumber) 32 = .ok (.bipush (57), 2) := by decide +kernel
theorem dTo_cutNumber_34 : decode (mC mTo_cutNumber) 34 = .ok (.if_icmp .gt (38), 3) := by decide +kernel
theorem dTo_cutNumber_37 : decode (mC mTo_cutNumber) 37 = .ok (.iload_n 2, 1) := by decide +kernel
theorem dTo_cutNumber_38 : decode (mC mTo_cutNumber) 38 = .ok (.aload_n 0, 1) := by decide +kernel
theorem dTo_cutNumber_39 : decode (mC mTo_cutNumber) 39 = .ok (.getfield 64, 3) := by decide +kernel
theorem dTo_cutNumber_42 : decode (mC mTo_cutNumber) 42 = .ok (.isub, 1) := by decide +kernel
theorem dTo_cutNumber_43 : decode (mC mTo_cutNumber) 43 = .ok (.iconst (4), 1) := by decide +kernel
theorem dTo_cutNumber_44 : decode (mC mTo_cutNumber) 44 = .ok (.if_icmp .ge (20), 3) := by decide +kernel
theorem dTo_cutNumber_47 : decode (mC mTo_cutNumber) 47 = .ok (.iload_n 1, 1) := by decide +kernel
theorem dTo_cutNumber_48 : decode (mC mTo_cutNumber) 48 = .ok (.bipush (10), 2) := by decide +kernel
theorem dTo_cutNumber_50 : decode (mC mTo_cutNumber) 50 = .ok (.imul, 1) := by decide +kernel
theorem dTo_cutNumber_51 : decode (mC mTo_cutNumber) 51 = .ok (.aload_n 0, 1) := by decide +kernel
theorem dTo_cutNumber_52 : decode (mC mTo_cutNumber) 52 = .ok (.getfield 9, 3) := by decide +kernel
theorem dTo_cutNumber_55 : decode (mC mTo_cutNumber) 55 = .ok (.iload_n 2, 1) := by decide +kernel
theorem dTo_cutNumber_56 : decode (mC mTo_cutNumber) 56 = .ok (.baload, 1) := by decide +kernel
theorem dTo_cutNumber_57 : decode (mC mTo_cutNumber) 57 = .ok (.bipush (48), 2) := by decide +kernel
theorem dTo_cutNumber_59 : decode (mC mTo_cutNumber) 59 = .ok (.isub, 1) := by decide +kernel
theorem dTo_cutNumber_60 : decode (mC mTo_cutNumber) 60 = .ok (.iadd, 1) := by decide +kernel
theorem dTo_cutNumber_61 : decode (mC mTo_cutNumber) 61 = .ok (.goto (4), 3) := by decide +kernel
theorem dTo_cutNumber_64 : decode (mC mTo_cutNumber) 64 = .ok (.iload_n 1, 1) := by decide +kernel
theorem dTo_cutNumber_65 : decode (mC mTo_cutNumber) 65 = .ok (.istore_n 1, 1) := by decide +kernel
theorem dTo_cutNumber_66 : decode (mC mTo_cutNumber) 66 = .ok (.iinc 2 (1), 3) := by decide +kernel
theorem dTo_cutNumber_69 : decode (mC mTo_cutNumber) 69 = .ok (.goto (-62), 3) := by decide +kernel
theorem dTo_cutNumber_72 : decode (mC mTo_cutNumber) 72 = .ok (.aload_n 0, 1) := by decide +kernel
theorem dTo_cutNumber_73 : decode (mC mTo_cutNumber) 73 = .ok (.iload_n 2, 1) := by decide +kernel
theorem dTo_cutNumber_74 : decode (mC mTo_cutNumber) 74 = .ok (.aload_n 0, 1) := by decide +kernel
theorem dTo_cutNumber_75 : decode (mC mTo_cutNumber) 75 = .ok (.getfield 64, 3) := by decide +kernel
theorem dTo_cutNumber_78 : decode (mC mTo_cutNumber) 78 = .ok (.isub, 1) := by decide +kernel
theorem dTo_cutNumber_79 : decode (mC mTo_cutNumber) 79 = .ok (.iconst (4), 1) := by decide +kernel
theorem dTo_cutNumber_80 : decode (mC mTo_cutNumber) 80 = .ok (.if_icmp .gt (7), 3) := by decide +kernel
theorem dTo_cutNumber_83 : decode (mC mTo_cutNumber) 83 = .ok (.iconst (2), 1) := by decide +kernel
theorem dTo_cutNumber_84 : decode (mC mTo_cutNumber) 84 = .ok (.goto (4), 3) := by decide +kernel
theorem dTo_cutNumber_87 : decode (mC mTo_cutNumber) 87 = .ok (.iconst (4), 1) := by decide +kernel
theorem dTo_cutNumber_88 : decode (mC mTo_cutNumber) 88 = .ok (.putfield 71, 3) := by decide +kernel
theorem dTo_cutNumber_91 : decode (mC mTo_cutNumber) 91 = .ok (.aload_n 0, 1) := by decide +kernel
theorem dTo_cutNumber_92 : decode (mC mTo_cutNumber) 92 = .ok (.iload_n 1, 1) := by decide +kernel
theorem dTo_cutNumber_93 : decode (mC mTo_cutNumber) 93 = .ok (.putfield 80, 3) := by decide +kernel
theorem dTo_cutNumber_96 : decode (mC mTo_cutNumber) 96 = .ok (.aload_n 0, 1) := by decide +kernel
theorem dTo_cutNumber_97 : decode (mC mTo_cutNumber) 97 = .ok (.iload_n 2, 1) := by decide +kernel
theorem dTo_cutNumber_98 : decode (mC mTo_cutNumber) 98 = .ok (.putfield 52, 3) := by decide +kernel
theorem dTo_cutNumber_101 : decode (mC mTo_cutNumber) 101 = .ok (.return_, 1) := by decide +kernel
theorem bTo_cutNumber_0 {E : mEn} {d : Nat} {σ : mSt} {Q : mPost} {u1 : Value} {u2 : Value} : WP E d mTo_cutNumber 0 [.ref 6, u1, u2] [] σ Q = WP E d mTo_cutNumber 7 [.ref 6, .int 0, .int (σ.1 6 5)] [] σ Q := (w_iconst (v := 0) dTo_cutNumber_0 rfl).trans ((w_istore_n (ls' := [.ref 6, .int 0, u2]) dTo_cutNumber_1 (Nat.le_of_ble_eq_true rfl) rfl).trans ((w_aload_n dTo_cutNumber_2 rfl).trans ((w_geti dTo_cutNumber_3 rz7_64 sh_6 rfl).trans (w_istore_n (ls' := [.ref 6, .int 0, .int (σ.1 6 5)]) dTo_cutNumber_6 (Nat.le_of_ble_eq_true rfl) rfl))))
theorem bTo_cutNumber_7 {E : mEn} {d : Nat} {σ : mSt} {Q : mPost} {a1 : Int32} {a2 : Int32} : WP E d mTo_cutNumber 7 [.ref 6, .int a1, .int a2] [] σ Q = (if (σ.1 6 3) ≤ a2 then WP E d mTo_cutNumber 72 [.ref 6, .int a1, .int a2] [] σ Q else WP E d mTo_cutNumber 15 [.ref 6, .int a1, .int a2] [] σ Q) := (w_iload_n dTo_cutNumber_7 rfl).trans ((w_aload_n dTo_cutNumber_8 rfl).trans ((w_geti dTo_cutNumber_9 rz7_50 sh_6 rfl).trans (w_icmpge (t := 72) dTo_cutNumber_12 (by decide))))
theorem bTo_cutNumber_15 {E : mEn} {d : Nat} {σ : mSt} {Q : mPost} {a1 : Int32} {a2 : Int32} : WP E d mTo_cutNumber 15 [.ref 6, .int a1, .int a2] [] σ Q = (if mOut a2 900 = true then False else (if (σ.1 7 a2.toNatClampNeg) < (nI 48) then WP E d mTo_cutNumber 72 [.ref 6, .int a1, .int a2] [] σ Q else WP E d mTo_cutNumber 26 [.ref 6, .int a1, .int a2] [] σ Q)) := (w_aload_n dTo_cutNumber_15 rfl).trans ((w_getr (r := 7) dTo_cutNumber_16 rz7_9 sh_6 rfl).trans ((w_iload_n dTo_cutNumber_19 rfl).trans ((w_bald dTo_cutNumber_20 sh_7).trans (ite_c ((w_bipush (v := (nI 48)) dTo_cutNumber_21 rfl).trans (w_icmplt (t := 72) dTo_cutNumber_23 (by decide)))))))
theorem bTo_cutNumber_26 {E : mEn} {d : Nat} {σ : mSt} {Q : mPost} {a1 : Int32} {a2 : Int32} : WP E d mTo_cutNumber 26 [.ref 6, .int a1, .int a2] [] σ Q = (if mOut a2 900 = true then False else (if (nI 57) < (σ.1 7 a2.toNatClampNeg) then WP E d mTo_cutNumber 72 [.ref 6, .int a1, .int a2] [] σ Q else WP E d mTo_cutNumber 37 [.ref 6, .int a1, .int a2] [] σ Q)) := (w_aload_n dTo_cutNumber_26 rfl).trans ((w_getr (r := 7) dTo_cutNumber_27 rz7_9 sh_6 rfl).trans ((w_iload_n dTo_cutNumber_30 rfl).trans ((w_bald dTo_cutNumber_31 sh_7).trans (ite_c ((w_bipush (v := (nI 57)) dTo_cutNumber_32 rfl).trans (w_icmpgt (t := 72) dTo_cutNumber_34 (by decide)))))))
theorem bTo_cutNumber_37 {E : mEn} {d : Nat} {σ : mSt} {Q : mPost} {a1 : Int32} {a2 : Int32} : WP E d mTo_cutNumber 37 [.ref 6, .int a1, .int a2] [] σ Q = (if (nI 4) ≤ (a2 - (σ.1 6 5)) then WP E d mTo_cutNumber 64 [.ref 6, .int a1, .int a2] [] σ Q else WP E d mTo_cutNumber 47 [.ref 6, .int a1, .int a2] [] σ Q) := (w_iload_n dTo_cutNumber_37 rfl).trans ((w_aload_n dTo_cutNumber_38 rfl).trans ((w_geti dTo_cutNumber_39 rz7_64 sh_6 rfl).trans ((w_isub dTo_cutNumber_42).trans ((w_iconst (v := (nI 4)) dTo_cutNumber_43 rfl).trans (w_icmpge (t := 64) dTo_cutNumber_44 (by decide))))))
theorem bTo_cutNumber_47 {E : mEn} {d : Nat} {σ : mSt} {Q : mPost} {a1 : Int32} {a2 : Int32} : WP E d mTo_cutNumber 47 [.ref 6, .int a1, .int a2] [] σ Q = (if mOut a2 900 = true then False else WP E d mTo_cutNumber 65 [.ref 6, .int a1, .int a2] [.int ((a1 * (nI 10)) + ((σ.1 7 a2.toNatClampNeg) - (nI 48)))] σ Q) := (w_iload_n dTo_cutNumber_47 rfl).trans ((w_bipush (v := (nI 10)) dTo_cutNumber_48 rfl).trans ((w_imul dTo_cutNumber_50).trans ((w_aload_n dTo_cutNumber_51 rfl).trans ((w_getr (r := 7) dTo_cutNumber_52 rz7_9 sh_6 rfl).trans ((w_iload_n dTo_cutNumber_55 rfl).trans ((w_bald dTo_cutNumber_56 sh_7).trans (ite_c ((w_bipush (v := (nI 48)) dTo_cutNumber_57 rfl).trans ((w_isub dTo_cutNumber_59).trans ((w_iadd dTo_cutNumber_60).trans (w_goto (t := 65) dTo_cutNumber_61 (by decide))))))))))))
theorem bTo_cutNumber_64 {E : mEn} {d : Nat} {σ : mSt} {Q : mPost} {a1 : Int32} {a2 : Int32} : WP E d mTo_cutNumber 64 [.ref 6, .int a1, .int a2] [] σ Q = WP E d mTo_cutNumber 65 [.ref 6, .int a1, .int a2] [.int a1] σ Q := w_iload_n dTo_cutNumber_64 rfl
theorem bTo_cutNumber_65 {E : mEn} {d : Nat} {σ : mSt} {Q : mPost} {a1 : Int32} {a2 : Int32} {s0 : Int32} : WP E d mTo_cutNumber 65 [.ref 6, .int a1, .int a2] [.int s0] σ Q = WP E d mTo_cutNumber 7 [.ref 6, .int s0, .int (a2 + 1)] [] σ Q := (w_istore_n (ls' := [.ref 6, .int s0, .int a2]) dTo_cutNumber_65 (Nat.le_of_ble_eq_true rfl) rfl).trans ((w_iinc (v := 1) (ls' := [.ref 6, .int s0, .int (a2 + 1)]) dTo_cutNumber_66 rfl rfl rfl).trans (w_goto (t := 7) dTo_cutNumber_69 (by decide)))
theorem bTo_cutNumber_72 {E : mEn} {d : Nat} {σ : mSt} {Q : mPost} {a1 : Int32} {a2 : Int32} : WP E d mTo_cutNumber 72 [.ref 6, .int a1, .int a2] [] σ Q = (if (nI 4) < (a2 - (σ.1 6 5)) then WP E d mTo_cutNumber 87 [.ref 6, .int a1, .int a2] [.ref 6] σ Q else WP E d mTo_cutNumber 83 [.ref 6, .int a1, .int a2] [.ref 6] σ Q) := (w_aload_n dTo_cutNumber_72 rfl).trans ((w_iload_n dTo_cutNumber_73 rfl).trans ((w_aload_n dTo_cutNumber_74 rfl).trans ((w_geti dTo_cutNumber_75 rz7_64 sh_6 rfl).trans ((w_isub dTo_cutNumber_78).trans ((w_iconst (v := (nI 4)) dTo_cutNumber_79 rfl).trans (w_icmpgt (t := 87) dTo_cutNumber_80 (by decide)))))))
theorem bTo_cutNumber_83 {E : mEn} {d : Nat} {σ : mSt} {Q : mPost} {a1 : Int32} {a2 : Int32} : WP E d mTo_cutNumber 83 [.ref 6, .int a1, .int a2] [.ref 6] σ Q = WP E d mTo_cutNumber 88 [.ref 6, .int a1, .int a2] [.int (nI 2), .ref 6] σ Q := (w_iconst (v := (nI 2)) dTo_cutNumber_83 rfl).trans (w_goto (t := 88) dTo_cutNumber_84 (by decide))
theorem bTo_cutNumber_87 {E : mEn} {d : Nat} {σ : mSt} {Q : mPost} {a1 : Int32} {a2 : Int32} : WP E d mTo_cutNumber 87 [.ref 6, .int a1, .int a2] [.ref 6] σ Q = WP E d mTo_cutNumber 88 [.ref 6, .int a1, .int a2] [.int (nI 4), .ref 6] σ Q := w_iconst (v := (nI 4)) dTo_cutNumber_87 rfl
theorem bTo_cutNumber_88 {E : mEn} {d : Nat} {σ : mSt} {Q : mPost} {a1 : Int32} {a2 : Int32} {s0 : Int32} : WP E d mTo_cutNumber 88 [.ref 6, .int a1, .int a2] [.int s0, .ref 6] σ Q = Q none (sI (sI (sI σ 6 4 s0) 6 7 a1) 6 6 a2) := (w_puti dTo_cutNumber_88 rz7_71 sh_6 rfl rfl rfl).trans ((w_aload_n dTo_cutNumber_91 rfl).trans ((w_iload_n dTo_cutNumber_92 rfl).trans ((w_puti dTo_cutNumber_93 rz7_80 sh_6 rfl rfl rfl).trans ((w_aload_n dTo_cutNumber_96 rfl).trans ((w_iload_n dTo_cutNumber_97 rfl).trans ((w_puti dTo_cutNumber_98 rz7_52 sh_6 rfl rfl rfl).trans (w_vret dTo_cutNumber_101 rfl)))))))
theorem dTo_goesOn_0 : decode (mC mTo_goesOn) 0 = .ok (.aload_n 0, 1) := by decide +kernel
theorem dTo_goesOn_1 : decode (mC mTo_goesOn) 1 = .ok (.getfield 55, 3) := by decide +kernel
theorem dTo_goesOn_4 : decode (mC mTo_goesOn) 4 = .ok (.ifCond .ne (14), 3) := by decide +kernel
theorem dTo_goesOn_7 : decode (mC mTo_goesOn) 7 = .ok (.aload_n 0, 1) := by decide +kernel
theorem dTo_goesOn_8 : decode (mC mTo_goesOn) 8 = .ok (.getfield 71, 3) := by decide +kernel
theorem dTo_goesOn_11 : decode (mC mTo_goesOn) 11 = .ok (.ifCond .eq (7), 3) := by decide +kernel
theorem dTo_goesOn_14 : decode (mC mTo_goesOn) 14 = .ok (.iconst (1), 1) := by decide +kernel
theorem dTo_goesOn_15 : decode (mC mTo_goesOn) 15 = .ok (.goto (4), 3) := by decide +kernel
theorem dTo_goesOn_18 : decode (mC mTo_goesOn) 18 = .ok (.iconst (0), 1) := by decide +kernel
theorem dTo_goesOn_19 : decode (mC mTo_goesOn) 19 = .ok (.ireturn, 1) := by decide +kernel
theorem bTo_goesOn_0 {E : mEn} {d : Nat} {σ : mSt} {Q : mPost} : WP E d mTo_goesOn 0 [.ref 6] [] σ Q = (if ¬ (σ.1 6 9) = 0 then WP E d mTo_goesOn 18 [.ref 6] [] σ Q else WP E d mTo_goesOn 7 [.ref 6] [] σ Q) := (w_aload_n dTo_goesOn_0 rfl).trans ((w_geti dTo_goesOn_1 rz7_55 sh_6 rfl).trans (w_ifne (t := 18) dTo_goesOn_4 (by decide)))
theorem bTo_goesOn_7 {E : mEn} {d : Nat} {σ : mSt} {Q : mPost} : WP E d mTo_goesOn 7 [.ref 6] [] σ Q = (if (σ.1 6 4) = 0 then WP E d mTo_goesOn 18 [.ref 6] [] σ Q else WP E d mTo_goesOn 14 [.ref 6] [] σ Q) := (w_aload_n dTo_goesOn_7 rfl).trans ((w_geti dTo_goesOn_8 rz7_71 sh_6 rfl).trans (w_ifeq (t := 18) dTo_goesOn_11 (by decide)))
theorem bTo_goesOn_14 {E : mEn} {d : Nat} {σ : mSt} {Q : mPost} : WP E d mTo_goesOn 14 [.ref 6] [] σ Q = WP E d mTo_goesOn 19 [.ref 6] [.int 1] σ Q := (w_iconst (v := 1) dTo_goesOn_14 rfl).trans (w_goto (t := 19) dTo_goesOn_15 (by decide))
theorem bTo_goesOn_18 {E : mEn} {d : Nat} {σ : mSt} {Q : mPost} : WP E d mTo_goesOn 18 [.ref 6] [] σ Q = WP E d mTo_goesOn 19 [.ref 6] [.int 0] σ Q := w_iconst (v := 0) dTo_goesOn_18 rfl
theorem bTo_goesOn_19 {E : mEn} {d : Nat} {σ : mSt} {Q : mPost} {s0 : Int32} (hz0 : s0 = 0 ∨ s0 = 1) : WP E d mTo_goesOn 19 [.ref 6] [.int s0] σ Q = Q (some (.int s0)) σ := w_zret dTo_goesOn_19 rfl hz0
theorem dTo_wordHere_0 : decode (mC mTo_wordHere) 0 = .ok (.aload_n 0, 1) := by decide +kernel
theorem dTo_wordHere_1 : decode (mC mTo_wordHere) 1 = .ok (.getfield 55, 3) := by decide +kernel
theorem dTo_wordHere_4 : decode (mC mTo_wordHere) 4 = .ok (.ifCond .ne (11), 3) := by decide +kernel
theorem dTo_wordHere_7 : decode (mC mTo_wordHere) 7 = .ok (.aload_n 0, 1) := by decide +kernel
theorem dTo_wordHere_8 : decode (mC mTo_wordHere) 8 = .ok (.getfield 71, 3) := by decide +kernel
theorem dTo_wordHere_11 : decode (mC mTo_wordHere) 11 = .ok (.iconst (1), 1) := by decide +kernel
theorem dTo_wordHere_12 : decode (mC mTo_wordHere) 12 = .ok (.if_icmp .eq (5), 3) := by decide +kernel
theorem dTo_wordHere_15 : decode (mC mTo_wordHere) 15 = .ok (.iconst (-1), 1) := by decide +kernel
theorem dTo_wordHere_16 : decode (mC mTo_wordHere) 16 = .ok (.ireturn, 1) := by decide +kernel
theorem dTo_wordHere_17 : decode (mC mTo_wordHere) 17 = .ok (.iconst (0), 1) := by decide +kernel
theorem dTo_wordHere_18 : decode (mC mTo_wordHere) 18 = .ok (.istore_n 1, 1) := by decide +kernel
theorem dTo_wordHere_19 : decode (mC mTo_wordHere) 19 = .ok (.iload_n 1, 1) := by decide +kernel
theorem dTo_wordHere_20 : decode (mC mTo_wordHere) 20 = .ok (.aload_n 0, 1) := by decide +kernel
theorem dTo_wordHere_21 : decode (mC mTo_wordHere) 21 = .ok (.getfield 15, 3) := by decide +kernel
theorem dTo_wordHere_24 : decode (mC mTo_wordHere) 24 = .ok (.arraylength, 1) := by decide +kernel
theorem dTo_wordHere_25 : decode (mC mTo_wordHere) 25 = .ok (.if_icmp .ge (25), 3) := by decide +kernel
theorem dTo_wordHere_28 : decode (mC mTo_wordHere) 28 = .ok (.aload_n 0, 1) := by decide +kernel
theorem dTo_wordHere_29 : decode (mC mTo_wordHere) 29 = .ok (.getfield 15, 3) := by decide +kernel
theorem dTo_wordHere_32 : decode (mC mTo_wordHere) 32 = .ok (.iload_n 1, 1) := by decide +kernel
theorem dTo_wordHere_33 : decode (mC mTo_wordHere) 33 = .ok (.laload, 1) := by decide +kernel
theorem dTo_wordHere_34 : decode (mC mTo_wordHere) 34 = .ok (.aload_n 0, 1) := by decide +kernel
theorem dTo_wordHere_35 : decode (mC mTo_wordHere) 35 = .ok (.getfield 67, 3) := by decide +kernel
theorem dTo_wordHere_38 : decode (mC mTo_wordHere) 38 = .ok (.lcmp, 1) := by decide +kernel
theorem dTo_wordHere_39 : decode (mC mTo_wordHere) 39 = .ok (.ifCond .ne (5), 3) := by decide +kernel
theorem dTo_wordHere_42 : decode (mC mTo_wordHere) 42 = .ok (.iload_n 1, 1) := by decide +kernel
theorem dTo_wordHere_43 : decode (mC mTo_wordHere) 43 = .ok (.ireturn, 1) := by decide +kernel
theorem dTo_wordHere_44 : decode (mC mTo_wordHere) 44 = .ok (.iinc 1 (1), 3) := by decide +kernel
theorem dTo_wordHere_47 : decode (mC mTo_wordHere) 47 = .ok (.goto (-28), 3) := by decide +kernel
theorem dTo_wordHere_50 : decode (mC mTo_wordHere) 50 = .ok (.iconst (-1), 1) := by decide +kernel
theorem dTo_wordHere_51 : decode (mC mTo_wordHere) 51 = .ok (.ireturn, 1) := by decide +kernel
theorem bTo_wordHere_0 {E : mEn} {d : Nat} {σ : mSt} {Q : mPost} {u1 : Value} : WP E d mTo_wordHere 0 [.ref 6, u1] [] σ Q = (if ¬ (σ.1 6 9) = 0 then WP E d mTo_wordHere 15 [.ref 6, u1] [] σ Q else WP E d mTo_wordHere 7 [.ref 6, u1] [] σ Q) := (w_aload_n dTo_wordHere_0 rfl).trans ((w_geti dTo_wordHere_1 rz7_55 sh_6 rfl).trans (w_ifne (t := 15) dTo_wordHere_4 (by decide)))
theorem bTo_wordHere_7 {E : mEn} {d : Nat} {σ : mSt} {Q : mPost} {u1 : Value} : WP E d mTo_wordHere 7 [.ref 6, u1] [] σ Q = (if (σ.1 6 4) = 1 then WP E d mTo_wordHere 17 [.ref 6, u1] [] σ Q else WP E d mTo_wordHere 15 [.ref 6, u1] [] σ Q) := (w_aload_n dTo_wordHere_7 rfl).trans ((w_geti dTo_wordHere_8 rz7_71 sh_6 rfl).trans ((w_iconst (v := 1) dTo_wordHere_11 rfl).trans (w_icmpeq (t := 17) dTo_wordHere_12 (by decide))))
theorem bTo_wordHere_15 {E : mEn} {d : Nat} {σ : mSt} {Q : mPost} {u1 : Value} : WP E d mTo_wordHere 15 [.ref 6, u1] [] σ Q = Q (some (.int (-1))) σ := (w_iconst (v := (-1)) dTo_wordHere_15 rfl).trans (w_iret dTo_wordHere_16 rfl)
theorem bTo_wordHere_17 {E : mEn} {d : Nat} {σ : mSt} {Q : mPost} {u1 : Value} : WP E d mTo_wordHere 17 [.ref 6, u1] [] σ Q = WP E d mTo_wordHere 19 [.ref 6, .int 0] [] σ Q := (w_iconst (v := 0) dTo_wordHere_17 rfl).trans (w_istore_n (ls' := [.ref 6, .int 0]) dTo_wordHere_18 (Nat.le_of_ble_eq_true rfl) rfl)
theorem bTo_wordHere_19 {E : mEn} {d : Nat} {σ : mSt} {Q : mPost} {a1 : Int32} : WP E d mTo_wordHere 19 [.ref 6, .int a1] [] σ Q = (if (nI 28) ≤ a1 then WP E d mTo_wordHere 50 [.ref 6, .int a1] [] σ Q else WP E d mTo_wordHere 28 [.ref 6, .int a1] [] σ Q) := (w_iload_n dTo_wordHere_19 rfl).trans ((w_aload_n dTo_wordHere_20 rfl).trans ((w_getr (r := 8) dTo_wordHere_21 rz7_15 sh_6 rfl).trans ((w_len dTo_wordHere_24 (aLen_of sh_8 (by decide) (by decide))).trans (w_icmpge (t := 50) dTo_wordHere_25 (by decide)))))
theorem bTo_wordHere_28 {E : mEn} {d : Nat} {σ : mSt} {Q : mPost} {a1 : Int32} : WP E d mTo_wordHere 28 [.ref 6, .int a1] [] σ Q = (if mOut a1 28 = true then False else (if ¬ (lg_cmp (σ.2 8 a1.toNatClampNeg) (σ.2 6 8)) = 0 then WP E d mTo_wordHere 44 [.ref 6, .int a1] [] σ Q else WP E d mTo_wordHere 42 [.ref 6, .int a1] [] σ Q)) := (w_aload_n dTo_wordHere_28 rfl).trans ((w_getr (r := 8) dTo_wordHere_29 rz7_15 sh_6 rfl).trans ((w_iload_n dTo_wordHere_32 rfl).trans ((w_lald dTo_wordHere_33 sh_8).trans (ite_c ((w_aload_n dTo_wordHere_34 rfl).trans ((w_getl dTo_wordHere_35 rz7_67 sh_6 rfl).trans ((w_lcmp dTo_wordHere_38).trans (w_ifne (t := 44) dTo_wordHere_39 (by decide)))))))))
theorem bTo_wordHere_42 {E : mEn} {d : Nat} {σ : mSt} {Q : mPost} {a1 : Int32} : WP E d mTo_wordHere 42 [.ref 6, .int a1] [] σ Q = Q (some (.int a1)) σ := (w_iload_n dTo_wordHere_42 rfl).trans (w_iret dTo_wordHere_43 rfl)
theorem bTo_wordHere_44 {E : mEn} {d : Nat} {σ : mSt} {Q : mPost} {a1 : Int32} : WP E d mTo_wordHere 44 [.ref 6, .int a1] [] σ Q = WP E d mTo_wordHere 19 [.ref 6, .int (a1 + 1)] [] σ Q := (w_iinc (v := 1) (ls' := [.ref 6, .int (a1 + 1)]) dTo_wordHere_44 rfl rfl rfl).trans (w_goto (t := 19) dTo_wordHere_47 (by decide))
theorem bTo_wordHere_50 {E : mEn} {d : Nat} {σ : mSt} {Q : mPost} {a1 : Int32} : WP E d mTo_wordHere 50 [.ref 6, .int a1] [] σ Q = Q (some (.int (-1))) σ := (w_iconst (v := (-1)) dTo_wordHere_50 rfl).trans (w_iret dTo_wordHere_51 rfl)
theorem dTo_blame_0 : decode (mC mTo_blame) 0 = .ok (.aload_n 0, 1) := by decide +kernel
theorem dTo_blame_1 : decode (mC mTo_blame) 1 = .ok (.getfield 55, 3) := by decide +kernel
theorem dTo_blame_4 : decode (mC mTo_blame) 4 = .ok (.ifCond .ne (16), 3) := by decide +kernel
theorem dTo_blame_7 : decode (mC mTo_blame) 7 = .ok (.aload_n 0, 1) := by decide +kernel
theorem dTo_blame_8 : decode (mC mTo_blame) 8 = .ok (.iload_n 1, 1) := by decide +kernel
theorem dTo_blame_9 : decode (mC mTo_blame) 9 = .ok (.putfield 55, 3) := by decide +kernel
theorem dTo_blame_12 : decode (mC mTo_blame) 12 = .ok (.aload_n 0, 1) := by decide +kernel
theorem dTo_blame_13 : decode (mC mTo_blame) 13 = .ok (.aload_n 0, 1) := by decide +kernel
theorem dTo_blame_14 : decode (mC mTo_blame) 14 = .ok (.getfield 64, 3) := by decide +kernel
theorem dTo_blame_17 : decode (mC mTo_blame) 17 = .ok (.putfield 58, 3) := by decide +kernel
theorem dTo_blame_20 : decode (mC mTo_blame) 20 = .ok (.return_, 1) := by decide +kernel
theorem bTo_blame_0 {E : mEn} {d : Nat} {σ : mSt} {Q : mPost} {a1 : Int32} : WP E d mTo_blame 0 [.ref 6, .int a1] [] σ Q = (if ¬ (σ.1 6 9) = 0 then WP E d mTo_blame 20 [.ref 6, .int a1] [] σ Q else WP E d mTo_blame 7 [.ref 6, .int a1] [] σ Q) := (w_aload_n dTo_blame_0 rfl).trans ((w_geti dTo_blame_1 rz7_55 sh_6 rfl).trans (w_ifne (t := 20) dTo_blame_4 (by decide)))
theorem bTo_blame_7 {E : mEn} {d : Nat} {σ : mSt} {Q : mPost} {a1 : Int32} : WP E d mTo_blame 7 [.ref 6, .int a1] [] σ Q = WP E d mTo_blame 20 [.ref 6, .int a1] [] (sI (sI σ 6 9 a1) 6 10 ((sI σ 6 9 a1).1 6 5)) Q := (w_aload_n dTo_blame_7 rfl).trans ((w_iload_n dTo_blame_8 rfl).trans ((w_puti dTo_blame_9 rz7_55 sh_6 rfl rfl rfl).trans ((w_aload_n dTo_blame_12 rfl).trans ((w_aload_n dTo_blame_13 rfl).trans ((w_geti dTo_blame_14 rz7_64 sh_6 rfl).trans (w_puti dTo_blame_17 rz7_58 sh_6 rfl rfl rfl))))))
theorem bTo_blame_20 {E : mEn} {d : Nat} {σ : mSt} {Q : mPost} {a1 : Int32} : WP E d mTo_blame 20 [.ref 6, .int a1] [] σ Q = Q none σ := w_vret dTo_blame_20 rfl
theorem dTo_takeWord_0 : decode (mC mTo_takeWord) 0 = .ok (.aload_n 0, 1) := by decide +kernel
theorem dTo_takeWord_1 : decode (mC mTo_takeWord) 1 = .ok (.iload_n 1, 1) := by decide +kernel
theorem dTo_takeWord_2 : decode (mC mTo_takeWord) 2 = .ok (.invokevirtual 87, 3) := by decide +kernel
theorem dTo_takeWord_5 : decode (mC mTo_takeWord) 5 = .ok (.ifCond .eq (10), 3) := by decide +kernel
theorem dTo_takeWord_8 : decode (mC mTo_takeWord) 8 = .ok (.aload_n 0, 1) := by decide +kernel
theorem dTo_takeWord_9 : decode (mC mTo_takeWord) 9 = .ok (.invokevirtual 61, 3) := by decide +kernel
theorem dTo_takeWord_12 : decode (mC mTo_takeWord) 12 = .ok (.goto (7), 3) := by decide +kernel
theorem dTo_takeWord_15 : decode (mC mTo_takeWord) 15 = .ok (.aload_n 0, 1) := by decide +kernel
theorem dTo_takeWord_16 : decode (mC mTo_takeWord) 16 = .ok (.invokevirtual 90, 3) := by decide +kernel
theorem dTo_takeWord_19 : decode (mC mTo_takeWord) 19 = .ok (.return_, 1) := by decide +kernel
theorem bTo_takeWord_0 {E : mEn} {d : Nat} {σ : mSt} {Q : mPost} {a1 : Int32} : WP E (d + 1) mTo_takeWord 0 [.ref 6, .int a1] [] σ Q = WP E d mTo_isWord 0 [.ref 6, .int a1] [] σ (fun r σ' => WP E (d + 1) mTo_takeWord 5 [.ref 6, .int a1] (r.toList ++ []) σ' Q) := (w_aload_n dTo_takeWord_0 rfl).trans ((w_iload_n dTo_takeWord_1 rfl).trans (w_virt (vs := [.int a1]) (st' := []) (es := [.ref 6, .int a1]) dTo_takeWord_2 rz7_87 rfl sh_6 rfl rfl rfl (Nat.le_of_ble_eq_true rfl) (Nat.le_of_ble_eq_true rfl) rfl))
theorem bTo_takeWord_5 {E : mEn} {d : Nat} {σ : mSt} {Q : mPost} {a1 : Int32} {s0 : Int32} : WP E d mTo_takeWord 5 [.ref 6, .int a1] [.int s0] σ Q = (if s0 = 0 then WP E d mTo_takeWord 15 [.ref 6, .int a1] [] σ Q else WP E d mTo_takeWord 8 [.ref 6, .int a1] [] σ Q) := w_ifeq (t := 15) dTo_takeWord_5 (by decide)
theorem bTo_takeWord_8 {E : mEn} {d : Nat} {σ : mSt} {Q : mPost} {a1 : Int32} : WP E (d + 1) mTo_takeWord 8 [.ref 6, .int a1] [] σ Q = WP E d mTo_advance 0 [.ref 6, uu, uu] [] σ (fun r σ' => WP E (d + 1) mTo_takeWord 12 [.ref 6, .int a1] (r.toList ++ []) σ' Q) := (w_aload_n dTo_takeWord_8 rfl).trans (w_virt (vs := []) (st' := []) (es := [.ref 6, uu, uu]) dTo_takeWord_9 rz7_61 rfl sh_6 rfl rfl rfl (Nat.le_of_ble_eq_true rfl) (Nat.le_of_ble_eq_true rfl) rfl)
theorem bTo_takeWord_12 {E : mEn} {d : Nat} {σ : mSt} {Q : mPost} {a1 : Int32} : WP E d mTo_takeWord 12 [.ref 6, .int a1] [] σ Q = WP E d mTo_takeWord 19 [.ref 6, .int a1] [] σ Q := w_goto (t := 19) dTo_takeWord_12 (by decide)
theorem bTo_takeWord_15 {E : mEn} {d : Nat} {σ : mSt} {Q : mPost} {a1 : Int32} : WP E (d + 1) mTo_takeWord 15 [.ref 6, .int a1] [] σ Q = WP E d mTo_misplaced 0 [.ref 6] [] σ (fun r σ' => WP E (d + 1) mTo_takeWord 19 [.ref 6, .int a1] (r.toList ++ []) σ' Q) := (w_aload_n dTo_takeWord_15 rfl).trans (w_virt (vs := []) (st' := []) (es := [.ref 6]) dTo_takeWord_16 rz7_90 rfl sh_6 rfl rfl rfl (Nat.le_of_ble_eq_true rfl) (Nat.le_of_ble_eq_true rfl) rfl)
theorem bTo_takeWord_19 {E : mEn} {d : Nat} {σ : mSt} {Q : mPost} {a1 : Int32} : WP E d mTo_takeWord 19 [.ref 6, .int a1] [] σ Q = Q none σ := w_vret dTo_takeWord_19 rfl
theorem dTo_isWord_0 : decode (mC mTo_isWord) 0 = .ok (.aload_n 0, 1) := by decide +kernel
theorem dTo_isWord_1 : decode (mC mTo_isWord) 1 = .ok (.getfield 55, 3) := by decide +kernel
theorem dTo_isWord_4 : decode (mC mTo_isWord) 4 = .ok (.ifCond .ne (42), 3) := by decide +kernel
theorem dTo_isWord_7 : decode (mC mTo_isWord) 7 = .ok (.aload_n 0, 1) := by decide +kernel
theorem dTo_isWord_8 : decode (mC mTo_isWord) 8 = .ok (.getfield 71, 3) := by decide +kernel
theorem dTo_isWord_11 : decode (mC mTo_isWord) 11 = .ok (.iconst (1), 1) := by decide +kernel
theorem dTo_isWord_12 : decode (mC mTo_isWord) 12 = .ok (.if_icmp .ne (34), 3) := by decide +kernel
theorem dTo_isWord_15 : decode (mC mTo_isWord) 15 = .ok (.iload_n 1, 1) := by decide +kernel
theorem dTo_isWord_16 : decode (mC mTo_isWord) 16 = .ok (.ifCond .lt (30), 3) := by decide +kernel
theorem dTo_isWord_19 : decode (mC mTo_isWord) 19 = .ok (.iload_n 1, 1) := by decide +kernel
theorem dTo_isWord_20 : decode (mC mTo_isWord) 20 = .ok (.aload_n 0, 1) := by decide +kernel
theorem dTo_isWord_21 : decode (mC mTo_isWord) 21 = .ok (.getfield 15, 3) := by decide +kernel
theorem dTo_isWord_24 : decode (mC mTo_isWord) 24 = .ok (.arraylength, 1) := by decide +kernel
theorem dTo_isWord_25 : decode (mC mTo_isWord) 25 = .ok (.if_icmp .ge (21), 3) := by decide +kernel
theorem dTo_isWord_28 : decode (mC mTo_isWord) 28 = .ok (.aload_n 0, 1) := by decide +kernel
theorem dTo_isWord_29 : decode (mC mTo_isWord) 29 = .ok (.getfield 15, 3) := by decide +kernel
theorem dTo_isWord_32 : decode (mC mTo_isWord) 32 = .ok (.iload_n 1, 1) := by decide +kernel
theorem dTo_isWord_33 : decode (mC mTo_isWord) 33 = .ok (.laload, 1) := by decide +kernel
theorem dTo_isWord_34 : decode (mC mTo_isWord) 34 = .ok (.aload_n 0, 1) := by decide +kernel
theorem dTo_isWord_35 : decode (mC mTo_isWord) 35 = .ok (.getfield 67, 3) := by decide +kernel
theorem dTo_isWord_38 : decode (mC mTo_isWord) 38 = .ok (.lcmp, 1) := by decide +kernel
theorem dTo_isWord_39 : decode (mC mTo_isWord) 39 = .ok (.ifCond .ne (7), 3) := by decide +kernel
theorem dTo_isWord_42 : decode (mC mTo_isWord) 42 = .ok (.iconst (1), 1) := by decide +kernel
theorem dTo_isWord_43 : decode (mC mTo_isWord) 43 = .ok (.goto (4), 3) := by decide +kernel
theorem dTo_isWord_46 : decode (mC mTo_isWord) 46 = .ok (.iconst (0), 1) := by decide +kernel
theorem dTo_isWord_47 : decode (mC mTo_isWord) 47 = .ok (.ireturn, 1) := by decide +kernel
theorem bTo_isWord_0 {E : mEn} {d : Nat} {σ : mSt} {Q : mPost} {a1 : Int32} : WP E d mTo_isWord 0 [.ref 6, .int a1] [] σ Q = (if ¬ (σ.1 6 9) = 0 then WP E d mTo_isWord 46 [.ref 6, .int a1] [] σ Q else WP E d mTo_isWord 7 [.ref 6, .int a1] [] σ Q) := (w_aload_n dTo_isWord_0 rfl).trans ((w_geti dTo_isWord_1 rz7_55 sh_6 rfl).trans (w_ifne (t := 46) dTo_isWord_4 (by decide)))
theorem bTo_isWord_7 {E : mEn} {d : Nat} {σ : mSt} {Q : mPost} {a1 : Int32} : WP E d mTo_isWord 7 [.ref 6, .int a1] [] σ Q = (if ¬ (σ.1 6 4) = 1 then WP E d mTo_isWord 46 [.ref 6, .int a1] [] σ Q else WP E d mTo_isWord 15 [.ref 6, .int a1] [] σ Q) := (w_aload_n dTo_isWord_7 rfl).trans ((w_geti dTo_isWord_8 rz7_71 sh_6 rfl).trans ((w_iconst (v := 1) dTo_isWord_11 rfl).trans (w_icmpne (t := 46) dTo_isWord_12 (by decide))))
theorem bTo_isWord_15 {E : mEn} {d : Nat} {σ : mSt} {Q : mPost} {a1 : Int32} : WP E d mTo_isWord 15 [.ref 6, .int a1] [] σ Q = (if a1 < 0 then WP E d mTo_isWord 46 [.ref 6, .int a1] [] σ Q else WP E d mTo_isWord 19 [.ref 6, .int a1] [] σ Q) := (w_iload_n dTo_isWord_15 rfl).trans (w_iflt (t := 46) dTo_isWord_16 (by decide))
theorem bTo_isWord_19 {E : mEn} {d : Nat} {σ : mSt} {Q : mPost} {a1 : Int32} : WP E d mTo_isWord 19 [.ref 6, .int a1] [] σ Q = (if (nI 28) ≤ a1 then WP E d mTo_isWord 46 [.ref 6, .int a1] [] σ Q else WP E d mTo_isWord 28 [.ref 6, .int a1] [] σ Q) := (w_iload_n dTo_isWord_19 rfl).trans ((w_aload_n dTo_isWord_20 rfl).trans ((w_getr (r := 8) dTo_isWord_21 rz7_15 sh_6 rfl).trans ((w_len dTo_isWord_24 (aLen_of sh_8 (by decide) (by decide))).trans (w_icmpge (t := 46) dTo_isWord_25 (by decide)))))
theorem bTo_isWord_28 {E : mEn} {d : Nat} {σ : mSt} {Q : mPost} {a1 : Int32} : WP E d mTo_isWord 28 [.ref 6, .int a1] [] σ Q = (if mOut a1 28 = true then False else (if ¬ (lg_cmp (σ.2 8 a1.toNatClampNeg) (σ.2 6 8)) = 0 then WP E d mTo_isWord 46 [.ref 6, .int a1] [] σ Q else WP E d mTo_isWord 42 [.ref 6, .int a1] [] σ Q)) := (w_aload_n dTo_isWord_28 rfl).trans ((w_getr (r := 8) dTo_isWord_29 rz7_15 sh_6 rfl).trans ((w_iload_n dTo_isWord_32 rfl).trans ((w_lald dTo_isWord_33 sh_8).trans (ite_c ((w_aload_n dTo_isWord_34 rfl).trans ((w_getl dTo_isWord_35 rz7_67 sh_6 rfl).trans ((w_lcmp dTo_isWord_38).trans (w_ifne (t := 46) dTo_isWord_39 (by decide)))))))))
theorem bTo_isWord_42 {E : mEn} {d : Nat} {σ : mSt} {Q : mPost} {a1 : Int32} : WP E d mTo_isWord 42 [.ref 6, .int a1] [] σ Q = WP E d mTo_isWord 47 [.ref 6, .int a1] [.int 1] σ Q := (w_iconst (v := 1) dTo_isWord_42 rfl).trans (w_goto (t := 47) dTo_isWord_43 (by decide))
theorem bTo_isWord_46 {E : mEn} {d : Nat} {σ : mSt} {Q : mPost} {a1 : Int32} : WP E d mTo_isWord 46 [.ref 6, .int a1] [] σ Q = WP E d mTo_isWord 47 [.ref 6, .int a1] [.int 0] σ Q := w_iconst (v := 0) dTo_isWord_46 rfl
theorem bTo_isWord_47 {E : mEn} {d : Nat} {σ : mSt} {Q : mPost} {a1 : Int32} {s0 : Int32} (hz0 : s0 = 0 ∨ s0 = 1) : WP E d mTo_isWord 47 [.ref 6, .int a1] [.int s0] σ Q = Q (some (.int s0)) σ := w_zret dTo_isWord_47 rfl hz0
theorem dTo_misplaced_0 : decode (mC mTo_misplaced) 0 = .ok (.aload_n 0, 1) := by decide +kernel
theorem dTo_misplaced_1 : decode (mC mTo_misplaced) 1 = .ok (.aload_n 0, 1) := by decide +kernel
theorem dTo_misplaced_2 : decode (mC mTo_misplaced) 2 = .ok (.getfield 71, 3) := by decide +kernel
theorem dTo_misplaced_5 : decode (mC mTo_misplaced) 5 = .ok (.iconst (4), 1) := by decide +kernel
theorem dTo_misplaced_6 : decode (mC mTo_misplaced) 6 = .ok (.if_icmp .ne (7), 3) := by decide +kernel
theorem dTo_misplaced_9 : decode (mC mTo_misplaced) 9 = .ok (.iconst (1), 1) := by decide +kernel
theorem dTo_misplaced_10 : decode (mC mTo_misplaced) 10 = .ok (.goto (4), 3) := by decide +kernel
theorem dTo_misplaced_13 : decode (mC mTo_misplaced) 13 = .ok (.iconst (2), 1) := by decide +kernel
theorem dTo_misplaced_14 : decode (mC mTo_misplaced) 14 = .ok (.invokevirtual 83, 3) := by decide +kernel
theorem dTo_misplaced_17 : decode (mC mTo_misplaced) 17 = .ok (.return_, 1) := by decide +kernel
theorem bTo_misplaced_0 {E : mEn} {d : Nat} {σ : mSt} {Q : mPost} : WP E d mTo_misplaced 0 [.ref 6] [] σ Q = (if ¬ (σ.1 6 4) = (nI 4) then WP E d mTo_misplaced 13 [.ref 6] [.ref 6] σ Q else WP E d mTo_misplaced 9 [.ref 6] [.ref 6] σ Q) := (w_aload_n dTo_misplaced_0 rfl).trans ((w_aload_n dTo_misplaced_1 rfl).trans ((w_geti dTo_misplaced_2 rz7_71 sh_6 rfl).trans ((w_iconst (v := (nI 4)) dTo_misplaced_5 rfl).trans (w_icmpne (t := 13) dTo_misplaced_6 (by decide)))))
theorem bTo_misplaced_9 {E : mEn} {d : Nat} {σ : mSt} {Q : mPost} : WP E d mTo_misplaced 9 [.ref 6] [.ref 6] σ Q = WP E d mTo_misplaced 14 [.ref 6] [.int 1, .ref 6] σ Q := (w_iconst (v := 1) dTo_misplaced_9 rfl).trans (w_goto (t := 14) dTo_misplaced_10 (by decide))
theorem bTo_misplaced_13 {E : mEn} {d : Nat} {σ : mSt} {Q : mPost} : WP E d mTo_misplaced 13 [.ref 6] [.ref 6] σ Q = WP E d mTo_misplaced 14 [.ref 6] [.int (nI 2), .ref 6] σ Q := w_iconst (v := (nI 2)) dTo_misplaced_13 rfl
theorem bTo_misplaced_14 {E : mEn} {d : Nat} {σ : mSt} {Q : mPost} {s0 : Int32} : WP E (d + 1) mTo_misplaced 14 [.ref 6] [.int s0, .ref 6] σ Q = WP E d mTo_blame 0 [.ref 6, .int s0] [] σ (fun r σ' => WP E (d + 1) mTo_misplaced 17 [.ref 6] (r.toList ++ []) σ' Q) := w_virt (vs := [.int s0]) (st' := []) (es := [.ref 6, .int s0]) dTo_misplaced_14 rz7_83 rfl sh_6 rfl rfl rfl (Nat.le_of_ble_eq_true rfl) (Nat.le_of_ble_eq_true rfl) rfl
theorem bTo_misplaced_17 {E : mEn} {d : Nat} {σ : mSt} {Q : mPost} : WP E d mTo_misplaced 17 [.ref 6] [] σ Q = Q none σ := w_vret dTo_misplaced_17 rfl
theorem dTo_takeNewName_0 : decode (mC mTo_takeNewName) 0 = .ok (.aload_n 0, 1) := by decide +kernel
theorem dTo_takeNewName_1 : decode (mC mTo_takeNewName) 1 = .ok (.invokevirtual 96, 3) := by decide +kernel
theorem dTo_takeNewName_4 : decode (mC mTo_takeNewName) 4 = .ok (.ifCond .ne (5), 3) := by decide +kernel
theorem dTo_takeNewName_7 : decode (mC mTo_takeNewName) 7 = .ok (.lconst 0, 1) := by decide +kernel
theorem dTo_takeNewName_8 : decode (mC mTo_takeNewName) 8 = .ok (.lreturn, 1) := by decide +kernel
theorem dTo_takeNewName_9 : decode (mC mTo_takeNewName) 9 = .ok (.aload_n 1, 1) := by decide +kernel
theorem dTo_takeNewName_10 : decode (mC mTo_takeNewName) 10 = .ok (.aload_n 0, 1) := by decide +kernel
theorem dTo_takeNewName_11 : decode (mC mTo_takeNewName) 11 = .ok (.getfield 67, 3) := by decide +kernel
theorem dTo_takeNewName_14 : decode (mC mTo_takeNewName) 14 = .ok (.invokevirtual 100, 3) := by decide +kernel
theorem dTo_takeNewName_17 : decode (mC mTo_takeNewName) 17 = .ok (.ifCond .eq (10), 3) := by decide +kernel
theorem dTo_takeNewName_20 : decode (mC mTo_takeNewName) 20 = .ok (.aload_n 0, 1) := by decide +kernel
theorem dTo_takeNewName_21 : decode (mC mTo_takeNewName) 21 = .ok (.iconst (3), 1) := by decide +kernel
theorem dTo_takeNewName_22 : decode (mC mTo_takeNewName) 22 = .ok (.invokevirtual 83, 3) := by decide +kernel
theorem dTo_takeNewName_25 : decode (mC mTo_takeNewName) 25 = .ok (.lconst 0, 1) := by decide +kernel
theorem dTo_takeNewName_26 : decode (mC mTo_takeNewName) 26 = .ok (.lreturn, 1) := by decide +kernel
theorem dTo_takeNewName_27 : decode (mC mTo_takeNewName) 27 = .ok (.aload_n 0, 1) := by decide +kernel
theorem dTo_takeNewName_28 : decode (mC mTo_takeNewName) 28 = .ok (.getfield 67, 3) := by decide +kernel
theorem dTo_takeNewName_31 : decode (mC mTo_takeNewName) 31 = .ok (.lstore_n 2, 1) := by decide +kernel
theorem dTo_takeNewName_32 : decode (mC mTo_takeNewName) 32 = .ok (.aload_n 0, 1) := by decide +kernel
theorem dTo_takeNewName_33 : decode (mC mTo_takeNewName) 33 = .ok (.invokevirtual 61, 3) := by decide +kernel
theorem dTo_takeNewName_36 : decode (mC mTo_takeNewName) 36 = .ok (.lload_n 2, 1) := by decide +kernel
theorem dTo_takeNewName_37 : decode (mC mTo_takeNewName) 37 = .ok (.lreturn, 1) := by decide +kernel
theorem bTo_takeNewName_0 {E : mEn} {d : Nat} {σ : mSt} {Q : mPost} {u2 : Value} {u3 : Value} {t : Nat} (ht : isT t) : WP E (d + 1) mTo_takeNewName 0 [.ref 6, .ref (t + 1), u2, u3] [] σ Q = WP E d mTo_seesName 0 [.ref 6] [] σ (fun r σ' => WP E (d + 1) mTo_takeNewName 4 [.ref 6, .ref (t + 1), u2, u3] (r.toList ++ []) σ' Q) := (w_aload_n dTo_takeNewName_0 rfl).trans (w_virt (vs := []) (st' := []) (es := [.ref 6]) dTo_takeNewName_1 rz7_96 rfl sh_6 rfl rfl rfl (Nat.le_of_ble_eq_true rfl) (Nat.le_of_ble_eq_true rfl) rfl)
theorem bTo_takeNewName_4 {E : mEn} {d : Nat} {σ : mSt} {Q : mPost} {u2 : Value} {u3 : Value} {s0 : Int32} {t : Nat} (ht : isT t) : WP E d mTo_takeNewName 4 [.ref 6, .ref (t + 1), u2, u3] [.int s0] σ Q = (if ¬ s0 = 0 then WP E d mTo_takeNewName 9 [.ref 6, .ref (t + 1), u2, u3] [] σ Q else WP E d mTo_takeNewName 7 [.ref 6, .ref (t + 1), u2, u3] [] σ Q) := w_ifne (t := 9) dTo_takeNewName_4 (by decide)
theorem bTo_takeNewName_7 {E : mEn} {d : Nat} {σ : mSt} {Q : mPost} {u2 : Value} {u3 : Value} {t : Nat} (ht : isT t) : WP E d mTo_takeNewName 7 [.ref 6, .ref (t + 1), u2, u3] [] σ Q = Q (some (.long 0)) σ := (w_lconst (v := 0) dTo_takeNewName_7 rfl).trans (w_lret dTo_takeNewName_8 rfl)
theorem bTo_takeNewName_9 {E : mEn} {d : Nat} {σ : mSt} {Q : mPost} {u2 : Value} {u3 : Value} {t : Nat} (ht : isT t) : WP E (d + 1) mTo_takeNewName 9 [.ref 6, .ref (t + 1), u2, u3] [] σ Q = WP E d mNa_isTaken 0 [.ref (t + 1), .long (σ.2 6 8), uu, uu] [] σ (fun r σ' => WP E (d + 1) mTo_takeNewName 17 [.ref 6, .ref (t + 1), u2, u3] (r.toList ++ []) σ' Q) := (w_aload_n dTo_takeNewName_9 rfl).trans ((w_aload_n dTo_takeNewName_10 rfl).trans ((w_getl dTo_takeNewName_11 rz7_67 sh_6 rfl).trans (w_virt (vs := [.long (σ.2 6 8)]) (st' := []) (es := [.ref (t + 1), .long (σ.2 6 8), uu, uu]) dTo_takeNewName_14 rz7_100 rfl (shT_1 ht) rfl rfl rfl (Nat.le_of_ble_eq_true rfl) (Nat.le_of_ble_eq_true rfl) rfl)))
theorem bTo_takeNewName_17 {E : mEn} {d : Nat} {σ : mSt} {Q : mPost} {u2 : Value} {u3 : Value} {s0 : Int32} {t : Nat} (ht : isT t) : WP E d mTo_takeNewName 17 [.ref 6, .ref (t + 1), u2, u3] [.int s0] σ Q = (if s0 = 0 then WP E d mTo_takeNewName 27 [.ref 6, .ref (t + 1), u2, u3] [] σ Q else WP E d mTo_takeNewName 20 [.ref 6, .ref (t + 1), u2, u3] [] σ Q) := w_ifeq (t := 27) dTo_takeNewName_17 (by decide)
theorem bTo_takeNewName_20 {E : mEn} {d : Nat} {σ : mSt} {Q : mPost} {u2 : Value} {u3 : Value} {t : Nat} (ht : isT t) : WP E (d + 1) mTo_takeNewName 20 [.ref 6, .ref (t + 1), u2, u3] [] σ Q = WP E d mTo_blame 0 [.ref 6, .int (nI 3)] [] σ (fun r σ' => WP E (d + 1) mTo_takeNewName 25 [.ref 6, .ref (t + 1), u2, u3] (r.toList ++ []) σ' Q) := (w_aload_n dTo_takeNewName_20 rfl).trans ((w_iconst (v := (nI 3)) dTo_takeNewName_21 rfl).trans (w_virt (vs := [.int (nI 3)]) (st' := []) (es := [.ref 6, .int (nI 3)]) dTo_takeNewName_22 rz7_83 rfl sh_6 rfl rfl rfl (Nat.le_of_ble_eq_true rfl) (Nat.le_of_ble_eq_true rfl) rfl))
theorem bTo_takeNewName_25 {E : mEn} {d : Nat} {σ : mSt} {Q : mPost} {u2 : Value} {u3 : Value} {t : Nat} (ht : isT t) : WP E d mTo_takeNewName 25 [.ref 6, .ref (t + 1), u2, u3] [] σ Q = Q (some (.long 0)) σ := (w_lconst (v := 0) dTo_takeNewName_25 rfl).trans (w_lret dTo_takeNewName_26 rfl)
theorem bTo_takeNewName_27 {E : mEn} {d : Nat} {σ : mSt} {Q : mPost} {u2 : Value} {u3 : Value} {t : Nat} (ht : isT t) : WP E (d + 1) mTo_takeNewName 27 [.ref 6, .ref (t + 1), u2, u3] [] σ Q = WP E d mTo_advance 0 [.ref 6, uu, uu] [] σ (fun r σ' => WP E (d + 1) mTo_takeNewName 36 [.ref 6, .ref (t + 1), .long (σ.2 6 8), uu] (r.toList ++ []) σ' Q) := (w_aload_n dTo_takeNewName_27 rfl).trans ((w_getl dTo_takeNewName_28 rz7_67 sh_6 rfl).trans ((w_lstore_n (ls' := [.ref 6, .ref (t + 1), .long (σ.2 6 8), uu]) dTo_takeNewName_31 (Nat.le_of_ble_eq_true rfl) rfl).trans ((w_aload_n dTo_takeNewName_32 rfl).trans (w_virt (vs := []) (st' := []) (es := [.ref 6, uu, uu]) dTo_takeNewName_33 rz7_61 rfl sh_6 rfl rfl rfl (Nat.le_of_ble_eq_true rfl) (Nat.le_of_ble_eq_true rfl) rfl))))
theorem bTo_takeNewName_36 {E : mEn} {d : Nat} {σ : mSt} {Q : mPost} {j2 : Int64} {t : Nat} (ht : isT t) : WP E d mTo_takeNewName 36 [.ref 6, .ref (t + 1), .long j2, uu] [] σ Q = Q (some (.long j2)) σ := (w_lload_n dTo_takeNewName_36 rfl).trans (w_lret dTo_takeNewName_37 rfl)
theorem dTo_seesName_0 : decode (mC mTo_seesName) 0 = .ok (.aload_n 0, 1) := by decide +kernel
theorem dTo_seesName_1 : decode (mC mTo_seesName) 1 = .ok (.getfield 55, 3) := by decide +kernel
theorem dTo_seesName_4 : decode (mC mTo_seesName) 4 = .ok (.ifCond .ne (28), 3) := by decide +kernel
theorem dTo_seesName_7 : decode (mC mTo_seesName) 7 = .ok (.aload_n 0, 1) := by decide +kernel
theorem dTo_seesName_8 : decode (mC mTo_seesName) 8 = .ok (.getfield 71, 3) := by decide +kernel
theorem dTo_seesName_11 : decode (mC mTo_seesName) 11 = .ok (.iconst (1), 1) := by decide +kernel
theorem dTo_seesName_12 : decode (mC mTo_seesName) 12 = .ok (.if_icmp .ne (20), 3) := by decide +kernel
theorem dTo_seesName_15 : decode (mC mTo_seesName) 15 = .ok (.aload_n 0, 1) := by decide +kernel
theorem dTo_seesName_16 : decode (mC mTo_seesName) 16 = .ok (.getfield 67, 3) := by decide +kernel
theorem dTo_seesName_19 : decode (mC mTo_seesName) 19 = .ok (.lconst 0, 1) := by decide +kernel
theorem dTo_seesName_20 : decode (mC mTo_seesName) 20 = .ok (.lcmp, 1) := by decide +kernel
theorem dTo_seesName_21 : decode (mC mTo_seesName) 21 = .ok (.ifCond .eq (11), 3) := by decide +kernel
theorem dTo_seesName_24 : decode (mC mTo_seesName) 24 = .ok (.aload_n 0, 1) := by decide +kernel
theorem dTo_seesName_25 : decode (mC mTo_seesName) 25 = .ok (.invokevirtual 93, 3) := by decide +kernel
theorem dTo_seesName_28 : decode (mC mTo_seesName) 28 = .ok (.iconst (-1), 1) := by decide +kernel
theorem dTo_seesName_29 : decode (mC mTo_seesName) 29 = .ok (.if_icmp .eq (9), 3) := by decide +kernel
theorem dTo_seesName_32 : decode (mC mTo_seesName) 32 = .ok (.aload_n 0, 1) := by decide +kernel
theorem dTo_seesName_33 : decode (mC mTo_seesName) 33 = .ok (.invokevirtual 90, 3) := by decide +kernel
theorem dTo_seesName_36 : decode (mC mTo_seesName) 36 = .ok (.iconst (0), 1) := by decide +kernel
theorem dTo_seesName_37 : decode (mC mTo_seesName) 37 = .ok (.ireturn, 1) := by decide +kernel
theorem dTo_seesName_38 : decode (mC mTo_seesName) 38 = .ok (.iconst (1), 1) := by decide +kernel
theorem dTo_seesName_39 : decode (mC mTo_seesName) 39 = .ok (.ireturn, 1) := by decide +kernel
theorem bTo_seesName_0 {E : mEn} {d : Nat} {σ : mSt} {Q : mPost} : WP E d mTo_seesName 0 [.ref 6] [] σ Q = (if ¬ (σ.1 6 9) = 0 then WP E d mTo_seesName 32 [.ref 6] [] σ Q else WP E d mTo_seesName 7 [.ref 6] [] σ Q) := (w_aload_n dTo_seesName_0 rfl).trans ((w_geti dTo_seesName_1 rz7_55 sh_6 rfl).trans (w_ifne (t := 32) dTo_seesName_4 (by decide)))
theorem bTo_seesName_7 {E : mEn} {d : Nat} {σ : mSt} {Q : mPost} : WP E d mTo_seesName 7 [.ref 6] [] σ Q = (if ¬ (σ.1 6 4) = 1 then WP E d mTo_seesName 32 [.ref 6] [] σ Q else WP E d mTo_seesName 15 [.ref 6] [] σ Q) := (w_aload_n dTo_seesName_7 rfl).trans ((w_geti dTo_seesName_8 rz7_71 sh_6 rfl).trans ((w_iconst (v := 1) dTo_seesName_11 rfl).trans (w_icmpne (t := 32) dTo_seesName_12 (by decide))))
theorem bTo_seesName_15 {E : mEn} {d : Nat} {σ : mSt} {Q : mPost} : WP E d mTo_seesName 15 [.ref 6] [] σ Q = (if (lg_cmp (σ.2 6 8) 0) = 0 then WP E d mTo_seesName 32 [.ref 6] [] σ Q else WP E d mTo_seesName 24 [.ref 6] [] σ Q) := (w_aload_n dTo_seesName_15 rfl).trans ((w_getl dTo_seesName_16 rz7_67 sh_6 rfl).trans ((w_lconst (v := 0) dTo_seesName_19 rfl).trans ((w_lcmp dTo_seesName_20).trans (w_ifeq (t := 32) dTo_seesName_21 (by decide)))))
theorem bTo_seesName_24 {E : mEn} {d : Nat} {σ : mSt} {Q : mPost} : WP E (d + 1) mTo_seesName 24 [.ref 6] [] σ Q = WP E d mTo_wordHere 0 [.ref 6, uu] [] σ (fun r σ' => WP E (d + 1) mTo_seesName 28 [.ref 6] (r.toList ++ []) σ' Q) := (w_aload_n dTo_seesName_24 rfl).trans (w_virt (vs := []) (st' := []) (es := [.ref 6, uu]) dTo_seesName_25 rz7_93 rfl sh_6 rfl rfl rfl (Nat.le_of_ble_eq_true rfl) (Nat.le_of_ble_eq_true rfl) rfl)
theorem bTo_seesName_28 {E : mEn} {d : Nat} {σ : mSt} {Q : mPost} {s0 : Int32} : WP E d mTo_seesName 28 [.ref 6] [.int s0] σ Q = (if s0 = (-1) then WP E d mTo_seesName 38 [.ref 6] [] σ Q else WP E d mTo_seesName 32 [.ref 6] [] σ Q) := (w_iconst (v := (-1)) dTo_seesName_28 rfl).trans (w_icmpeq (t := 38) dTo_seesName_29 (by decide))
theorem bTo_seesName_32 {E : mEn} {d : Nat} {σ : mSt} {Q : mPost} : WP E (d + 1) mTo_seesName 32 [.ref 6] [] σ Q = WP E d mTo_misplaced 0 [.ref 6] [] σ (fun r σ' => WP E (d + 1) mTo_seesName 36 [.ref 6] (r.toList ++ []) σ' Q) := (w_aload_n dTo_seesName_32 rfl).trans (w_virt (vs := []) (st' := []) (es := [.ref 6]) dTo_seesName_33 rz7_90 rfl sh_6 rfl rfl rfl (Nat.le_of_ble_eq_true rfl) (Nat.le_of_ble_eq_true rfl) rfl)
theorem bTo_seesName_36 {E : mEn} {d : Nat} {σ : mSt} {Q : mPost} : WP E d mTo_seesName 36 [.ref 6] [] σ Q = Q (some (.int 0)) σ := (w_iconst (v := 0) dTo_seesName_36 rfl).trans (w_zret dTo_seesName_37 rfl (Or.inl rfl))
theorem bTo_seesName_38 {E : mEn} {d : Nat} {σ : mSt} {Q : mPost} : WP E d mTo_seesName 38 [.ref 6] [] σ Q = Q (some (.int 1)) σ := (w_iconst (v := 1) dTo_seesName_38 rfl).trans (w_zret dTo_seesName_39 rfl (Or.inr rfl))
theorem dTo_skips_0 : decode (mC mTo_skips) 0 = .ok (.aload_n 0, 1) := by decide +kernel
theorem dTo_skips_1 : decode (mC mTo_skips) 1 = .ok (.iload_n 1, 1) := by decide +kernel
theorem dTo_skips_2 : decode (mC mTo_skips) 2 = .ok (.invokevirtual 87, 3) := by decide +kernel
theorem dTo_skips_5 : decode (mC mTo_skips) 5 = .ok (.istore_n 2, 1) := by decide +kernel
theorem dTo_skips_6 : decode (mC mTo_skips) 6 = .ok (.iload_n 2, 1) := by decide +kernel
theorem dTo_skips_7 : decode (mC mTo_skips) 7 = .ok (.ifCond .eq (7), 3) := by decide +kernel
theorem dTo_skips_10 : decode (mC mTo_skips) 10 = .ok (.aload_n 0, 1) := by decide +kernel
theorem dTo_skips_11 : decode (mC mTo_skips) 11 = .ok (.invokevirtual 61, 3) := by decide +kernel
theorem dTo_skips_14 : decode (mC mTo_skips) 14 = .ok (.iload_n 2, 1) := by decide +kernel
theorem dTo_skips_15 : decode (mC mTo_skips) 15 = .ok (.ireturn, 1) := by decide +kernel
theorem bTo_skips_0 {E : mEn} {d : Nat} {σ : mSt} {Q : mPost} {a1 : Int32} {u2 : Value} : WP E (d + 1) mTo_skips 0 [.ref 6, .int a1, u2] [] σ Q = WP E d mTo_isWord 0 [.ref 6, .int a1] [] σ (fun r σ' => WP E (d + 1) mTo_skips 5 [.ref 6, .int a1, u2] (r.toList ++ []) σ' Q) := (w_aload_n dTo_skips_0 rfl).trans ((w_iload_n dTo_skips_1 rfl).trans (w_virt (vs := [.int a1]) (st' := []) (es := [.ref 6, .int a1]) dTo_skips_2 rz7_87 rfl sh_6 rfl rfl rfl (Nat.le_of_ble_eq_true rfl) (Nat.le_of_ble_eq_true rfl) rfl))
theorem bTo_skips_5 {E : mEn} {d : Nat} {σ : mSt} {Q : mPost} {a1 : Int32} {u2 : Value} {s0 : Int32} : WP E d mTo_skips 5 [.ref 6, .int a1, u2] [.int s0] σ Q = (if s0 = 0 then WP E d mTo_skips 14 [.ref 6, .int a1, .int s0] [] σ Q else WP E d mTo_skips 10 [.ref 6, .int a1, .int s0] [] σ Q) := (w_istore_n (ls' := [.ref 6, .int a1, .int s0]) dTo_skips_5 (Nat.le_of_ble_eq_true rfl) rfl).trans ((w_iload_n dTo_skips_6 rfl).trans (w_ifeq (t := 14) dTo_skips_7 (by decide)))
theorem bTo_skips_10 {E : mEn} {d : Nat} {σ : mSt} {Q : mPost} {a1 : Int32} {a2 : Int32} : WP E (d + 1) mTo_skips 10 [.ref 6, .int a1, .int a2] [] σ Q = WP E d mTo_advance 0 [.ref 6, uu, uu] [] σ (fun r σ' => WP E (d + 1) mTo_skips 14 [.ref 6, .int a1, .int a2] (r.toList ++ []) σ' Q) := (w_aload_n dTo_skips_10 rfl).trans (w_virt (vs := []) (st' := []) (es := [.ref 6, uu, uu]) dTo_skips_11 rz7_61 rfl sh_6 rfl rfl rfl (Nat.le_of_ble_eq_true rfl) (Nat.le_of_ble_eq_true rfl) rfl)
theorem bTo_skips_14 {E : mEn} {d : Nat} {σ : mSt} {Q : mPost} {a1 : Int32} {a2 : Int32} (hz0 : a2 = 0 ∨ a2 = 1) : WP E d mTo_skips 14 [.ref 6, .int a1, .int a2] [] σ Q = Q (some (.int a2)) σ := (w_iload_n dTo_skips_14 rfl).trans (w_zret dTo_skips_15 rfl hz0)
theorem dTo_takeNumber_0 : decode (mC mTo_takeNumber) 0 = .ok (.aload_n 0, 1) := by decide +kernel
theorem dTo_takeNumber_1 : decode (mC mTo_takeNumber) 1 = .ok (.getfield 55, 3) := by decide +kernel
theorem dTo_takeNumber_4 : decode (mC mTo_takeNumber) 4 = .ok (.ifCond .ne (11), 3) := by decide +kernel
theorem dTo_takeNumber_7 : decode (mC mTo_takeNumber) 7 = .ok (.aload_n 0, 1) := by decide +kernel
theorem dTo_takeNumber_8 : decode (mC mTo_takeNumber) 8 = .ok (.getfield 71, 3) := by decide +kernel
theorem dTo_takeNumber_11 : decode (mC mTo_takeNumber) 11 = .ok (.iconst (2), 1) := by decide +kernel
theorem dTo_takeNumber_12 : decode (mC mTo_takeNumber) 12 = .ok (.if_icmp .eq (9), 3) := by decide +kernel
theorem dTo_takeNumber_15 : decode (mC mTo_takeNumber) 15 = .ok (.aload_n 0, 1) := by decide +kernel
theorem dTo_takeNumber_16 : decode (mC mTo_takeNumber) 16 = .ok (.invokevirtual 90, 3) := by decide +kernel
theorem dTo_takeNumber_19 : decode (mC mTo_takeNumber) 19 = .ok (.iconst (-1), 1) := by decide +kernel
theorem dTo_takeNumber_20 : decode (mC mTo_takeNumber) 20 = .ok (.ireturn, 1) := by decide +kernel
theorem dTo_takeNumber_21 : decode (mC mTo_takeNumber) 21 = .ok (.aload_n 0, 1) := by decide +kernel
theorem dTo_takeNumber_22 : decode (mC mTo_takeNumber) 22 = .ok (.getfield 80, 3) := by decide +kernel
theorem dTo_takeNumber_25 : decode (mC mTo_takeNumber) 25 = .ok (.iload_n 1, 1) := by decide +kernel
theorem dTo_takeNumber_26 : decode (mC mTo_takeNumber) 26 = .ok (.if_icmp .lt (11), 3) := by decide +kernel
theorem dTo_takeNumber_29 : decode (mC mTo_takeNumber) 29 = .ok (.aload_n 0, 1) := by decide +kernel
theorem dTo_takeNumber_30 : decode (mC mTo_takeNumber) 30 = .ok (.getfield 80, 3) := by decide +kernel
theorem dTo_takeNumber_33 : decode (mC mTo_takeNumber) 33 = .ok (.iload_n 2, 1) := by decide +kernel
theorem dTo_takeNumber_34 : decode (mC mTo_takeNumber) 34 = .ok (.if_icmp .le (10), 3) := by decide +kernel
theorem dTo_takeNumber_37 : decode (mC mTo_takeNumber) 37 = .ok (.aload_n 0, 1) := by decide +kernel
theorem dTo_takeNumber_38 : decode (mC mTo_takeNumber) 38 = .ok (.iconst (4), 1) := by decide +kernel
theorem dTo_takeNumber_39 : decode (mC mTo_takeNumber) 39 = .ok (.invokevirtual 83, 3) := by decide +kernel
theorem dTo_takeNumber_42 : decode (mC mTo_takeNumber) 42 = .ok (.iconst (-1), 1) := by decide +kernel
theorem dTo_takeNumber_43 : decode (mC mTo_takeNumber) 43 = .ok (.ireturn, 1) := by decide +kernel
theorem dTo_takeNumber_44 : decode (mC mTo_takeNumber) 44 = .ok (.aload_n 0, 1) := by decide +kernel
theorem dTo_takeNumber_45 : decode (mC mTo_takeNumber) 45 = .ok (.getfield 80, 3) := by decide +kernel
theorem dTo_takeNumber_48 : decode (mC mTo_takeNumber) 48 = .ok (.istore_n 3, 1) := by decide +kernel
theorem dTo_takeNumber_49 : decode (mC mTo_takeNumber) 49 = .ok (.aload_n 0, 1) := by decide +kernel
theorem dTo_takeNumber_50 : decode (mC mTo_takeNumber) 50 = .ok (.invokevirtual 61, 3) := by decide +kernel
theorem dTo_takeNumber_53 : decode (mC mTo_takeNumber) 53 = .ok (.iload_n 3, 1) := by decide +kernel
theorem dTo_takeNumber_54 : decode (mC mTo_takeNumber) 54 = .ok (.ireturn, 1) := by decide +kernel
theorem bTo_takeNumber_0 {E : mEn} {d : Nat} {σ : mSt} {Q : mPost} {a1 : Int32} {a2 : Int32} {u3 : Value} : WP E d mTo_takeNumber 0 [.ref 6, .int a1, .int a2, u3] [] σ Q = (if ¬ (σ.1 6 9) = 0 then WP E d mTo_takeNumber 15 [.ref 6, .int a1, .int a2, u3] [] σ Q else WP E d mTo_takeNumber 7 [.ref 6, .int a1, .int a2, u3] [] σ Q) := (w_aload_n dTo_takeNumber_0 rfl).trans ((w_geti dTo_takeNumber_1 rz7_55 sh_6 rfl).trans (w_ifne (t := 15) dTo_takeNumber_4 (by decide)))
theorem bTo_takeNumber_7 {E : mEn} {d : Nat} {σ : mSt} {Q : mPost} {a1 : Int32} {a2 : Int32} {u3 : Value} : WP E d mTo_takeNumber 7 [.ref 6, .int a1, .int a2, u3] [] σ Q = (if (σ.1 6 4) = (nI 2) then WP E d mTo_takeNumber 21 [.ref 6, .int a1, .int a2, u3] [] σ Q else WP E d mTo_takeNumber 15 [.ref 6, .int a1, .int a2, u3] [] σ Q) := (w_aload_n dTo_takeNumber_7 rfl).trans ((w_geti dTo_takeNumber_8 rz7_71 sh_6 rfl).trans ((w_iconst (v := (nI 2)) dTo_takeNumber_11 rfl).trans (w_icmpeq (t := 21) dTo_takeNumber_12 (by decide))))
theorem bTo_takeNumber_15 {E : mEn} {d : Nat} {σ : mSt} {Q : mPost} {a1 : Int32} {a2 : Int32} {u3 : Value} : WP E (d + 1) mTo_takeNumber 15 [.ref 6, .int a1, .int a2, u3] [] σ Q = WP E d mTo_misplaced 0 [.ref 6] [] σ (fun r σ' => WP E (d + 1) mTo_takeNumber 19 [.ref 6, .int a1, .int a2, u3] (r.toList ++ []) σ' Q) := (w_aload_n dTo_takeNumber_15 rfl).trans (w_virt (vs := []) (st' := []) (es := [.ref 6]) dTo_takeNumber_16 rz7_90 rfl sh_6 rfl rfl rfl (Nat.le_of_ble_eq_true rfl) (Nat.le_of_ble_eq_true rfl) rfl)
theorem bTo_takeNumber_19 {E : mEn} {d : Nat} {σ : mSt} {Q : mPost} {a1 : Int32} {a2 : Int32} {u3 : Value} : WP E d mTo_takeNumber 19 [.ref 6, .int a1, .int a2, u3] [] σ Q = Q (some (.int (-1))) σ := (w_iconst (v := (-1)) dTo_takeNumber_19 rfl).trans (w_iret dTo_takeNumber_20 rfl)
theorem bTo_takeNumber_21 {E : mEn} {d : Nat} {σ : mSt} {Q : mPost} {a1 : Int32} {a2 : Int32} {u3 : Value} : WP E d mTo_takeNumber 21 [.ref 6, .int a1, .int a2, u3] [] σ Q = (if (σ.1 6 7) < a1 then WP E d mTo_takeNumber 37 [.ref 6, .int a1, .int a2, u3] [] σ Q else WP E d mTo_takeNumber 29 [.ref 6, .int a1, .int a2, u3] [] σ Q) := (w_aload_n dTo_takeNumber_21 rfl).trans ((w_geti dTo_takeNumber_22 rz7_80 sh_6 rfl).trans ((w_iload_n dTo_takeNumber_25 rfl).trans (w_icmplt (t := 37) dTo_takeNumber_26 (by decide))))
theorem bTo_takeNumber_29 {E : mEn} {d : Nat} {σ : mSt} {Q : mPost} {a1 : Int32} {a2 : Int32} {u3 : Value} : WP E d mTo_takeNumber 29 [.ref 6, .int a1, .int a2, u3] [] σ Q = (if (σ.1 6 7) ≤ a2 then WP E d mTo_takeNumber 44 [.ref 6, .int a1, .int a2, u3] [] σ Q else WP E d mTo_takeNumber 37 [.ref 6, .int a1, .int a2, u3] [] σ Q) := (w_aload_n dTo_takeNumber_29 rfl).trans ((w_geti dTo_takeNumber_30 rz7_80 sh_6 rfl).trans ((w_iload_n dTo_takeNumber_33 rfl).trans (w_icmple (t := 44) dTo_takeNumber_34 (by decide))))
theorem bTo_takeNumber_37 {E : mEn} {d : Nat} {σ : mSt} {Q : mPost} {a1 : Int32} {a2 : Int32} {u3 : Value} : WP E (d + 1) mTo_takeNumber 37 [.ref 6, .int a1, .int a2, u3] [] σ Q = WP E d mTo_blame 0 [.ref 6, .int (nI 4)] [] σ (fun r σ' => WP E (d + 1) mTo_takeNumber 42 [.ref 6, .int a1, .int a2, u3] (r.toList ++ []) σ' Q) := (w_aload_n dTo_takeNumber_37 rfl).trans ((w_iconst (v := (nI 4)) dTo_takeNumber_38 rfl).trans (w_virt (vs := [.int (nI 4)]) (st' := []) (es := [.ref 6, .int (nI 4)]) dTo_takeNumber_39 rz7_83 rfl sh_6 rfl rfl rfl (Nat.le_of_ble_eq_true rfl) (Nat.le_of_ble_eq_true rfl) rfl))
theorem bTo_takeNumber_42 {E : mEn} {d : Nat} {σ : mSt} {Q : mPost} {a1 : Int32} {a2 : Int32} {u3 : Value} : WP E d mTo_takeNumber 42 [.ref 6, .int a1, .int a2, u3] [] σ Q = Q (some (.int (-1))) σ := (w_iconst (v := (-1)) dTo_takeNumber_42 rfl).trans (w_iret dTo_takeNumber_43 rfl)
theorem bTo_takeNumber_44 {E : mEn} {d : Nat} {σ : mSt} {Q : mPost} {a1 : Int32} {a2 : Int32} {u3 : Value} : WP E (d + 1) mTo_takeNumber 44 [.ref 6, .int a1, .int a2, u3] [] σ Q = WP E d mTo_advance 0 [.ref 6, uu, uu] [] σ (fun r σ' => WP E (d + 1) mTo_takeNumber 53 [.ref 6, .int a1, .int a2, .int (σ.1 6 7)] (r.toList ++ []) σ' Q) := (w_aload_n dTo_takeNumber_44 rfl).trans ((w_geti dTo_takeNumber_45 rz7_80 sh_6 rfl).trans ((w_istore_n (ls' := [.ref 6, .int a1, .int a2, .int (σ.1 6 7)]) dTo_takeNumber_48 (Nat.le_of_ble_eq_true rfl) rfl).trans ((w_aload_n dTo_takeNumber_49 rfl).trans (w_virt (vs := []) (st' := []) (es := [.ref 6, uu, uu]) dTo_takeNumber_50 rz7_61 rfl sh_6 rfl rfl rfl (Nat.le_of_ble_eq_true rfl) (Nat.le_of_ble_eq_true rfl) rfl))))
theorem bTo_takeNumber_53 {E : mEn} {d : Nat} {σ : mSt} {Q : mPost} {a1 : Int32} {a2 : Int32} {a3 : Int32} : WP E d mTo_takeNumber 53 [.ref 6, .int a1, .int a2, .int a3] [] σ Q = Q (some (.int a3)) σ := (w_iload_n dTo_takeNumber_53 rfl).trans (w_iret dTo_takeNumber_54 rfl)
theorem dTo_takeSign_0 : decode (mC mTo_takeSign) 0 = .ok (.aload_n 0, 1) := by decide +kernel
theorem dTo_takeSign_1 : decode (mC mTo_takeSign) 1 = .ok (.getfield 55, 3) := by decide +kernel
theorem dTo_takeSign_4 : decode (mC mTo_takeSign) 4 = .ok (.ifCond .ne (26), 3) := by decide +kernel
theorem dTo_takeSign_7 : decode (mC mTo_takeSign) 7 = .ok (.aload_n 0, 1) := by decide +kernel
theorem dTo_takeSign_8 : decode (mC mTo_takeSign) 8 = .ok (.getfield 71, 3) := by decide +kernel
theorem dTo_takeSign_11 : decode (mC mTo_takeSign) 11 = .ok (.iconst (3), 1) := by decide +kernel
theorem dTo_takeSign_12 : decode (mC mTo_takeSign) 12 = .ok (.if_icmp .ne (18), 3) := by decide +kernel
theorem dTo_takeSign_15 : decode (mC mTo_takeSign) 15 = .ok (.aload_n 0, 1) := by decide +kernel
theorem dTo_takeSign_16 : decode (mC mTo_takeSign) 16 = .ok (.getfield 80, 3) := by decide +kernel
theorem dTo_takeSign_19 : decode (mC mTo_takeSign) 19 = .ok (.iload_n 1, 1) := by decide +kernel
theorem dTo_takeSign_20 : decode (mC mTo_takeSign) 20 = .ok (.if_icmp .ne (10), 3) := by decide +kernel
theorem dTo_takeSign_23 : decode (mC mTo_takeSign) 23 = .ok (.aload_n 0, 1) := by decide +kernel
theorem dTo_takeSign_24 : decode (mC mTo_takeSign) 24 = .ok (.invokevirtual 61, 3) := by decide +kernel
theorem dTo_takeSign_27 : decode (mC mTo_takeSign) 27 = .ok (.goto (7), 3) := by decide +kernel
theorem dTo_takeSign_30 : decode (mC mTo_takeSign) 30 = .ok (.aload_n 0, 1) := by decide +kernel
theorem dTo_takeSign_31 : decode (mC mTo_takeSign) 31 = .ok (.invokevirtual 90, 3) := by decide +kernel
theorem dTo_takeSign_34 : decode (mC mTo_takeSign) 34 = .ok (.return_, 1) := by decide +kernel
theorem bTo_takeSign_0 {E : mEn} {d : Nat} {σ : mSt} {Q : mPost} {a1 : Int32} : WP E d mTo_takeSign 0 [.ref 6, .int a1] [] σ Q = (if ¬ (σ.1 6 9) = 0 then WP E d mTo_takeSign 30 [.ref 6, .int a1] [] σ Q else WP E d mTo_takeSign 7 [.ref 6, .int a1] [] σ Q) := (w_aload_n dTo_takeSign_0 rfl).trans ((w_geti dTo_takeSign_1 rz7_55 sh_6 rfl).trans (w_ifne (t := 30) dTo_takeSign_4 (by decide)))
theorem bTo_takeSign_7 {E : mEn} {d : Nat} {σ : mSt} {Q : mPost} {a1 : Int32} : WP E d mTo_takeSign 7 [.ref 6, .int a1] [] σ Q = (if ¬ (σ.1 6 4) = (nI 3) then WP E d mTo_takeSign 30 [.ref 6, .int a1] [] σ Q else WP E d mTo_takeSign 15 [.ref 6, .int a1] [] σ Q) := (w_aload_n dTo_takeSign_7 rfl).trans ((w_geti dTo_takeSign_8 rz7_71 sh_6 rfl).trans ((w_iconst (v := (nI 3)) dTo_takeSign_11 rfl).trans (w_icmpne (t := 30) dTo_takeSign_12 (by decide))))
theorem bTo_takeSign_15 {E : mEn} {d : Nat} {σ : mSt} {Q : mPost} {a1 : Int32} : WP E d mTo_takeSign 15 [.ref 6, .int a1] [] σ Q = (if ¬ (σ.1 6 7) = a1 then WP E d mTo_takeSign 30 [.ref 6, .int a1] [] σ Q else WP E d mTo_takeSign 23 [.ref 6, .int a1] [] σ Q) := (w_aload_n dTo_takeSign_15 rfl).trans ((w_geti dTo_takeSign_16 rz7_80 sh_6 rfl).trans ((w_iload_n dTo_takeSign_19 rfl).trans (w_icmpne (t := 30) dTo_takeSign_20 (by decide))))
theorem bTo_takeSign_23 {E : mEn} {d : Nat} {σ : mSt} {Q : mPost} {a1 : Int32} : WP E (d + 1) mTo_takeSign 23 [.ref 6, .int a1] [] σ Q = WP E d mTo_advance 0 [.ref 6, uu, uu] [] σ (fun r σ' => WP E (d + 1) mTo_takeSign 27 [.ref 6, .int a1] (r.toList ++ []) σ' Q) := (w_aload_n dTo_takeSign_23 rfl).trans (w_virt (vs := []) (st' := []) (es := [.ref 6, uu, uu]) dTo_takeSign_24 rz7_61 rfl sh_6 rfl rfl rfl (Nat.le_of_ble_eq_true rfl) (Nat.le_of_ble_eq_true rfl) rfl)
theorem bTo_takeSign_27 {E : mEn} {d : Nat} {σ : mSt} {Q : mPost} {a1 : Int32} : WP E d mTo_takeSign 27 [.ref 6, .int a1] [] σ Q = WP E d mTo_takeSign 34 [.ref 6, .int a1] [] σ Q := w_goto (t := 34) dTo_takeSign_27 (by decide)
theorem bTo_takeSign_30 {E : mEn} {d : Nat} {σ : mSt} {Q : mPost} {a1 : Int32} : WP E (d + 1) mTo_takeSign 30 [.ref 6, .int a1] [] σ Q = WP E d mTo_misplaced 0 [.ref 6] [] σ (fun r σ' => WP E (d + 1) mTo_takeSign 34 [.ref 6, .int a1] (r.toList ++ []) σ' Q) := (w_aload_n dTo_takeSign_30 rfl).trans (w_virt (vs := []) (st' := []) (es := [.ref 6]) dTo_takeSign_31 rz7_90 rfl sh_6 rfl rfl rfl (Nat.le_of_ble_eq_true rfl) (Nat.le_of_ble_eq_true rfl) rfl)
theorem bTo_takeSign_34 {E : mEn} {d : Nat} {σ : mSt} {Q : mPost} {a1 : Int32} : WP E d mTo_takeSign 34 [.ref 6, .int a1] [] σ Q = Q none σ := w_vret dTo_takeSign_34 rfl
theorem dTo_takeName_0 : decode (mC mTo_takeName) 0 = .ok (.aload_n 0, 1) := by decide +kernel
theorem dTo_takeName_1 : decode (mC mTo_takeName) 1 = .ok (.invokevirtual 96, 3) := by decide +kernel
theorem dTo_takeName_4 : decode (mC mTo_takeName) 4 = .ok (.ifCond .ne (5), 3) := by decide +kernel
theorem dTo_takeName_7 : decode (mC mTo_takeName) 7 = .ok (.iconst (-1), 1) := by decide +kernel
theorem dTo_takeName_8 : decode (mC mTo_takeName) 8 = .ok (.ireturn, 1) := by decide +kernel
theorem dTo_takeName_9 : decode (mC mTo_takeName) 9 = .ok (.aload_n 1, 1) := by decide +kernel
theorem dTo_takeName_10 : decode (mC mTo_takeName) 10 = .ok (.iload_n 2, 1) := by decide +kernel
theorem dTo_takeName_11 : decode (mC mTo_takeName) 11 = .ok (.aload_n 0, 1) := by decide +kernel
theorem dTo_takeName_12 : decode (mC mTo_takeName) 12 = .ok (.getfield 67, 3) := by decide +kernel
theorem dTo_takeName_15 : decode (mC mTo_takeName) 15 = .ok (.invokevirtual 106, 3) := by decide +kernel
theorem dTo_takeName_18 : decode (mC mTo_takeName) 18 = .ok (.istore 4, 2) := by decide +kernel
theorem dTo_takeName_20 : decode (mC mTo_takeName) 20 = .ok (.iload 4, 2) := by decide +kernel
theorem dTo_takeName_22 : decode (mC mTo_takeName) 22 = .ok (.iconst (-1), 1) := by decide +kernel
theorem dTo_takeName_23 : decode (mC mTo_takeName) 23 = .ok (.if_icmp .ne (11), 3) := by decide +kernel
theorem dTo_takeName_26 : decode (mC mTo_takeName) 26 = .ok (.aload_n 0, 1) := by decide +kernel
theorem dTo_takeName_27 : decode (mC mTo_takeName) 27 = .ok (.iconst (3), 1) := by decide +kernel
theorem dTo_takeName_28 : decode (mC mTo_takeName) 28 = .ok (.invokevirtual 83, 3) := by decide +kernel
theorem dTo_takeName_31 : decode (mC mTo_takeName) 31 = .ok (.goto (21), 3) := by decide +kernel
theorem dTo_takeName_34 : decode (mC mTo_takeName) 34 = .ok (.iload 4, 2) := by decide +kernel
theorem dTo_takeName_36 : decode (mC mTo_takeName) 36 = .ok (.iload_n 3, 1) := by decide +kernel
theorem dTo_takeName_37 : decode (mC mTo_takeName) 37 = .ok (.if_icmp .ne (11), 3) := by decide +kernel
theorem dTo_takeName_40 : decode (mC mTo_takeName) 40 = .ok (.aload_n 0, 1) := by decide +kernel
theorem dTo_takeName_41 : decode (mC mTo_takeName) 41 = .ok (.iconst (5), 1) := by decide +kernel
theorem dTo_takeName_42 : decode (mC mTo_takeName) 42 = .ok (.invokevirtual 83, 3) := by decide +kernel
theorem dTo_takeName_45 : decode (mC mTo_takeName) 45 = .ok (.goto (7), 3) := by decide +kernel
theorem dTo_takeName_48 : decode (mC mTo_takeName) 48 = .ok (.aload_n 0, 1) := by decide +kernel
theorem dTo_takeName_49 : decode (mC mTo_takeName) 49 = .ok (.invokevirtual 61, 3) := by decide +kernel
theorem dTo_takeName_52 : decode (mC mTo_takeName) 52 = .ok (.iload 4, 2) := by decide +kernel
theorem dTo_takeName_54 : decode (mC mTo_takeName) 54 = .ok (.ireturn, 1) := by decide +kernel
theorem bTo_takeName_0 {E : mEn} {d : Nat} {σ : mSt} {Q : mPost} {a2 : Int32} {a3 : Int32} {u4 : Value} {t : Nat} (ht : isT t) : WP E (d + 1) mTo_takeName 0 [.ref 6, .ref (t + 1), .int a2, .int a3, u4] [] σ Q = WP E d mTo_seesName 0 [.ref 6] [] σ (fun r σ' => WP E (d + 1) mTo_takeName 4 [.ref 6, .ref (t + 1), .int a2, .int a3, u4] (r.toList ++ []) σ' Q) := (w_aload_n dTo_takeName_0 rfl).trans (w_virt (vs := []) (st' := []) (es := [.ref 6]) dTo_takeName_1 rz7_96 rfl sh_6 rfl rfl rfl (Nat.le_of_ble_eq_true rfl) (Nat.le_of_ble_eq_true rfl) rfl)
theorem bTo_takeName_4 {E : mEn} {d : Nat} {σ : mSt} {Q : mPost} {a2 : Int32} {a3 : Int32} {u4 : Value} {s0 : Int32} {t : Nat} (ht : isT t) : WP E d mTo_takeName 4 [.ref 6, .ref (t + 1), .int a2, .int a3, u4] [.int s0] σ Q = (if ¬ s0 = 0 then WP E d mTo_takeName 9 [.ref 6, .ref (t + 1), .int a2, .int a3, u4] [] σ Q else WP E d mTo_takeName 7 [.ref 6, .ref (t + 1), .int a2, .int a3, u4] [] σ Q) := w_ifne (t := 9) dTo_takeName_4 (by decide)
theorem bTo_takeName_7 {E : mEn} {d : Nat} {σ : mSt} {Q : mPost} {a2 : Int32} {a3 : Int32} {u4 : Value} {t : Nat} (ht : isT t) : WP E d mTo_takeName 7 [.ref 6, .ref (t + 1), .int a2, .int a3, u4] [] σ Q = Q (some (.int (-1))) σ := (w_iconst (v := (-1)) dTo_takeName_7 rfl).trans (w_iret dTo_takeName_8 rfl)
theorem bTo_takeName_9 {E : mEn} {d : Nat} {σ : mSt} {Q : mPost} {a2 : Int32} {a3 : Int32} {u4 : Value} {t : Nat} (ht : isT t) : WP E (d + 1) mTo_takeName 9 [.ref 6, .ref (t + 1), .int a2, .int a3, u4] [] σ Q = WP E d mNa_numberOf 0 [.ref (t + 1), .int a2, .long (σ.2 6 8), uu, uu] [] σ (fun r σ' => WP E (d + 1) mTo_takeName 18 [.ref 6, .ref (t + 1), .int a2, .int a3, u4] (r.toList ++ []) σ' Q) := (w_aload_n dTo_takeName_9 rfl).trans ((w_iload_n dTo_takeName_10 rfl).trans ((w_aload_n dTo_takeName_11 rfl).trans ((w_getl dTo_takeName_12 rz7_67 sh_6 rfl).trans (w_virt (vs := [.int a2, .long (σ.2 6 8)]) (st' := []) (es := [.ref (t + 1), .int a2, .long (σ.2 6 8), uu, uu]) dTo_takeName_15 rz7_106 rfl (shT_1 ht) rfl rfl rfl (Nat.le_of_ble_eq_true rfl) (Nat.le_of_ble_eq_true rfl) rfl))))
theorem bTo_takeName_18 {E : mEn} {d : Nat} {σ : mSt} {Q : mPost} {a2 : Int32} {a3 : Int32} {u4 : Value} {s0 : Int32} {t : Nat} (ht : isT t) : WP E d mTo_takeName 18 [.ref 6, .ref (t + 1), .int a2, .int a3, u4] [.int s0] σ Q = (if ¬ s0 = (-1) then WP E d mTo_takeName 34 [.ref 6, .ref (t + 1), .int a2, .int a3, .int s0] [] σ Q else WP E d mTo_takeName 26 [.ref 6, .ref (t + 1), .int a2, .int a3, .int s0] [] σ Q) := (w_istore (ls' := [.ref 6, .ref (t + 1), .int a2, .int a3, .int s0]) dTo_takeName_18 (Nat.le_of_ble_eq_true rfl) rfl).trans ((w_iload dTo_takeName_20 rfl).trans ((w_iconst (v := (-1)) dTo_takeName_22 rfl).trans (w_icmpne (t := 34) dTo_takeName_23 (by decide))))
theorem bTo_takeName_26 {E : mEn} {d : Nat} {σ : mSt} {Q : mPost} {a2 : Int32} {a3 : Int32} {a4 : Int32} {t : Nat} (ht : isT t) : WP E (d + 1) mTo_takeName 26 [.ref 6, .ref (t + 1), .int a2, .int a3, .int a4] [] σ Q = WP E d mTo_blame 0 [.ref 6, .int (nI 3)] [] σ (fun r σ' => WP E (d + 1) mTo_takeName 31 [.ref 6, .ref (t + 1), .int a2, .int a3, .int a4] (r.toList ++ []) σ' Q) := (w_aload_n dTo_takeName_26 rfl).trans ((w_iconst (v := (nI 3)) dTo_takeName_27 rfl).trans (w_virt (vs := [.int (nI 3)]) (st' := []) (es := [.ref 6, .int (nI 3)]) dTo_takeName_28 rz7_83 rfl sh_6 rfl rfl rfl (Nat.le_of_ble_eq_true rfl) (Nat.le_of_ble_eq_true rfl) rfl))
theorem bTo_takeName_31 {E : mEn} {d : Nat} {σ : mSt} {Q : mPost} {a2 : Int32} {a3 : Int32} {a4 : Int32} {t : Nat} (ht : isT t) : WP E d mTo_takeName 31 [.ref 6, .ref (t + 1), .int a2, .int a3, .int a4] [] σ Q = WP E d mTo_takeName 52 [.ref 6, .ref (t + 1), .int a2, .int a3, .int a4] [] σ Q := w_goto (t := 52) dTo_takeName_31 (by decide)
theorem bTo_takeName_34 {E : mEn} {d : Nat} {σ : mSt} {Q : mPost} {a2 : Int32} {a3 : Int32} {a4 : Int32} {t : Nat} (ht : isT t) : WP E d mTo_takeName 34 [.ref 6, .ref (t + 1), .int a2, .int a3, .int a4] [] σ Q = (if ¬ a4 = a3 then WP E d mTo_takeName 48 [.ref 6, .ref (t + 1), .int a2, .int a3, .int a4] [] σ Q else WP E d mTo_takeName 40 [.ref 6, .ref (t + 1), .int a2, .int a3, .int a4] [] σ Q) := (w_iload dTo_takeName_34 rfl).trans ((w_iload_n dTo_takeName_36 rfl).trans (w_icmpne (t := 48) dTo_takeName_37 (by decide)))
theorem bTo_takeName_40 {E : mEn} {d : Nat} {σ : mSt} {Q : mPost} {a2 : Int32} {a3 : Int32} {a4 : Int32} {t : Nat} (ht : isT t) : WP E (d + 1) mTo_takeName 40 [.ref 6, .ref (t + 1), .int a2, .int a3, .int a4] [] σ Q = WP E d mTo_blame 0 [.ref 6, .int (nI 5)] [] σ (fun r σ' => WP E (d + 1) mTo_takeName 45 [.ref 6, .ref (t + 1), .int a2, .int a3, .int a4] (r.toList ++ []) σ' Q) := (w_aload_n dTo_takeName_40 rfl).trans ((w_iconst (v := (nI 5)) dTo_takeName_41 rfl).trans (w_virt (vs := [.int (nI 5)]) (st' := []) (es := [.ref 6, .int (nI 5)]) dTo_takeName_42 rz7_83 rfl sh_6 rfl rfl rfl (Nat.le_of_ble_eq_true rfl) (Nat.le_of_ble_eq_true rfl) rfl))
theorem bTo_takeName_45 {E : mEn} {d : Nat} {σ : mSt} {Q : mPost} {a2 : Int32} {a3 : Int32} {a4 : Int32} {t : Nat} (ht : isT t) : WP E d mTo_takeName 45 [.ref 6, .ref (t + 1), .int a2, .int a3, .int a4] [] σ Q = WP E d mTo_takeName 52 [.ref 6, .ref (t + 1), .int a2, .int a3, .int a4] [] σ Q := w_goto (t := 52) dTo_takeName_45 (by decide)
theorem bTo_takeName_48 {E : mEn} {d : Nat} {σ : mSt} {Q : mPost} {a2 : Int32} {a3 : Int32} {a4 : Int32} {t : Nat} (ht : isT t) : WP E (d + 1) mTo_takeName 48 [.ref 6, .ref (t + 1), .int a2, .int a3, .int a4] [] σ Q = WP E d mTo_advance 0 [.ref 6, uu, uu] [] σ (fun r σ' => WP E (d + 1) mTo_takeName 52 [.ref 6, .ref (t + 1), .int a2, .int a3, .int a4] (r.toList ++ []) σ' Q) := (w_aload_n dTo_takeName_48 rfl).trans (w_virt (vs := []) (st' := []) (es := [.ref 6, uu, uu]) dTo_takeName_49 rz7_61 rfl sh_6 rfl rfl rfl (Nat.le_of_ble_eq_true rfl) (Nat.le_of_ble_eq_true rfl) rfl)
theorem bTo_takeName_52 {E : mEn} {d : Nat} {σ : mSt} {Q : mPost} {a2 : Int32} {a3 : Int32} {a4 : Int32} {t : Nat} (ht : isT t) : WP E d mTo_takeName 52 [.ref 6, .ref (t + 1), .int a2, .int a3, .int a4] [] σ Q = Q (some (.int a4)) σ := (w_iload dTo_takeName_52 rfl).trans (w_iret dTo_takeName_54 rfl)
theorem dTo_takeCompares_0 : decode (mC mTo_takeCompares) 0 = .ok (.aload_n 0, 1) := by decide +kernel
theorem dTo_takeCompares_1 : decode (mC mTo_takeCompares) 1 = .ok (.getfield 55, 3) := by decide +kernel
theorem dTo_takeCompares_4 : decode (mC mTo_takeCompares) 4 = .ok (.ifCond .ne (20), 3) := by decide +kernel
theorem dTo_takeCompares_7 : decode (mC mTo_takeCompares) 7 = .ok (.aload_n 0, 1) := by decide +kernel
theorem dTo_takeCompares_8 : decode (mC mTo_takeCompares) 8 = .ok (.getfield 71, 3) := by decide +kernel
theorem dTo_takeCompares_11 : decode (mC mTo_takeCompares) 11 = .ok (.iconst (3), 1) := by decide +kernel
theorem dTo_takeCompares_12 : decode (mC mTo_takeCompares) 12 = .ok (.if_icmp .ne (12), 3) := by decide +kernel
theorem dTo_takeCompares_15 : decode (mC mTo_takeCompares) 15 = .ok (.aload_n 0, 1) := by decide +kernel
theorem dTo_takeCompares_16 : decode (mC mTo_takeCompares) 16 = .ok (.getfield 80, 3) := by decide +kernel
theorem dTo_takeCompares_19 : decode (mC mTo_takeCompares) 19 = .ok (.bipush (59), 2) := by decide +kernel
theorem dTo_takeCompares_21 : decode (mC mTo_takeCompares) 21 = .ok (.if_icmp .ne (9), 3) := by decide +kernel
theorem dTo_takeCompares_24 : decode (mC mTo_takeCompares) 24 = .ok (.aload_n 0, 1) := by decide +kernel
theorem dTo_takeCompares_25 : decode (mC mTo_takeCompares) 25 = .ok (.invokevirtual 90, 3) := by decide +kernel
theorem dTo_takeCompares_28 : decode (mC mTo_takeCompares) 28 = .ok (.iconst (-1), 1) := by decide +kernel
theorem dTo_takeCompares_29 : decode (mC mTo_takeCompares) 29 = .ok (.ireturn, 1) := by decide +kernel
theorem dTo_takeCompares_30 : decode (mC mTo_takeCompares) 30 = .ok (.aload_n 0, 1) := by decide +kernel
theorem dTo_takeCompares_31 : decode (mC mTo_takeCompares) 31 = .ok (.getfield 80, 3) := by decide +kernel
theorem dTo_takeCompares_34 : decode (mC mTo_takeCompares) 34 = .ok (.istore_n 1, 1) := by decide +kernel
theorem dTo_takeCompares_35 : decode (mC mTo_takeCompares) 35 = .ok (.aload_n 0, 1) := by decide +kernel
theorem dTo_takeCompares_36 : decode (mC mTo_takeCompares) 36 = .ok (.invokevirtual 61, 3) := by decide +kernel
theorem dTo_takeCompares_39 : decode (mC mTo_takeCompares) 39 = .ok (.iload_n 1, 1) := by decide +kernel
theorem dTo_takeCompares_40 : decode (mC mTo_takeCompares) 40 = .ok (.ireturn, 1) := by decide +kernel
theorem bTo_takeCompares_0 {E : mEn} {d : Nat} {σ : mSt} {Q : mPost} {u1 : Value} : WP E d mTo_takeCompares 0 [.ref 6, u1] [] σ Q = (if ¬ (σ.1 6 9) = 0 then WP E d mTo_takeCompares 24 [.ref 6, u1] [] σ Q else WP E d mTo_takeCompares 7 [.ref 6, u1] [] σ Q) := (w_aload_n dTo_takeCompares_0 rfl).trans ((w_geti dTo_takeCompares_1 rz7_55 sh_6 rfl).trans (w_ifne (t := 24) dTo_takeCompares_4 (by decide)))
theorem bTo_takeCompares_7 {E : mEn} {d : Nat} {σ : mSt} {Q : mPost} {u1 : Value} : WP E d mTo_takeCompares 7 [.ref 6, u1] [] σ Q = (if ¬ (σ.1 6 4) = (nI 3) then WP E d mTo_takeCompares 24 [.ref 6, u1] [] σ Q else WP E d mTo_takeCompares 15 [.ref 6, u1] [] σ Q) := (w_aload_n dTo_takeCompares_7 rfl).trans ((w_geti dTo_takeCompares_8 rz7_71 sh_6 rfl).trans ((w_iconst (v := (nI 3)) dTo_takeCompares_11 rfl).trans (w_icmpne (t := 24) dTo_takeCompares_12 (by decide))))
theorem bTo_takeCompares_15 {E : mEn} {d : Nat} {σ : mSt} {Q : mPost} {u1 : Value} : WP E d mTo_takeCompares 15 [.ref 6, u1] [] σ Q = (if ¬ (σ.1 6 7) = (nI 59) then WP E d mTo_takeCompares 30 [.ref 6, u1] [] σ Q else WP E d mTo_takeCompares 24 [.ref 6, u1] [] σ Q) := (w_aload_n dTo_takeCompares_15 rfl).trans ((w_geti dTo_takeCompares_16 rz7_80 sh_6 rfl).trans ((w_bipush (v := (nI 59)) dTo_takeCompares_19 rfl).trans (w_icmpne (t := 30) dTo_takeCompares_21 (by decide))))
theorem bTo_takeCompares_24 {E : mEn} {d : Nat} {σ : mSt} {Q : mPost} {u1 : Value} : WP E (d + 1) mTo_takeCompares 24 [.ref 6, u1] [] σ Q = WP E d mTo_misplaced 0 [.ref 6] [] σ (fun r σ' => WP E (d + 1) mTo_takeCompares 28 [.ref 6, u1] (r.toList ++ []) σ' Q) := (w_aload_n dTo_takeCompares_24 rfl).trans (w_virt (vs := []) (st' := []) (es := [.ref 6]) dTo_takeCompares_25 rz7_90 rfl sh_6 rfl rfl rfl (Nat.le_of_ble_eq_true rfl) (Nat.le_of_ble_eq_true rfl) rfl)
theorem bTo_takeCompares_28 {E : mEn} {d : Nat} {σ : mSt} {Q : mPost} {u1 : Value} : WP E d mTo_takeCompares 28 [.ref 6, u1] [] σ Q = Q (some (.int (-1))) σ := (w_iconst (v := (-1)) dTo_takeCompares_28 rfl).trans (w_iret dTo_takeCompares_29 rfl)
theorem bTo_takeCompares_30 {E : mEn} {d : Nat} {σ : mSt} {Q : mPost} {u1 : Value} : WP E (d + 1) mTo_takeCompares 30 [.ref 6, u1] [] σ Q = WP E d mTo_advance 0 [.ref 6, uu, uu] [] σ (fun r σ' => WP E (d + 1) mTo_takeCompares 39 [.ref 6, .int (σ.1 6 7)] (r.toList ++ []) σ' Q) := (w_aload_n dTo_takeCompares_30 rfl).trans ((w_geti dTo_takeCompares_31 rz7_80 sh_6 rfl).trans ((w_istore_n (ls' := [.ref 6, .int (σ.1 6 7)]) dTo_takeCompares_34 (Nat.le_of_ble_eq_true rfl) rfl).trans ((w_aload_n dTo_takeCompares_35 rfl).trans (w_virt (vs := []) (st' := []) (es := [.ref 6, uu, uu]) dTo_takeCompares_36 rz7_61 rfl sh_6 rfl rfl rfl (Nat.le_of_ble_eq_true rfl) (Nat.le_of_ble_eq_true rfl) rfl))))
theorem bTo_takeCompares_39 {E : mEn} {d : Nat} {σ : mSt} {Q : mPost} {a1 : Int32} : WP E d mTo_takeCompares 39 [.ref 6, .int a1] [] σ Q = Q (some (.int a1)) σ := (w_iload_n dTo_takeCompares_39 rfl).trans (w_iret dTo_takeCompares_40 rfl)
