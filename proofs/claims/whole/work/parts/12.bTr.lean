theorem dTr_exists_0 : decode (mC mTr_exists) 0 = .ok (.iload_n 1, 1) := by decide +kernel
theorem dTr_exists_1 : decode (mC mTr_exists) 1 = .ok (.ifCond .lt (12), 3) := by decide +kernel
theorem dTr_exists_4 : decode (mC mTr_exists) 4 = .ok (.iload_n 1, 1) := by decide +kernel
theorem dTr_exists_5 : decode (mC mTr_exists) 5 = .ok (.iconst (4), 1) := by decide +kernel
theorem dTr_exists_6 : decode (mC mTr_exists) 6 = .ok (.if_icmp .ge (7), 3) := by decide +kernel
theorem dTr_exists_9 : decode (mC mTr_exists) 9 = .ok (.iconst (1), 1) := by decide +kernel
theorem dTr_exists_10 : decode (mC mTr_exists) 10 = .ok (.goto (4), 3) := by decide +kernel
theorem dTr_exists_13 : decode (mC mTr_exists) 13 = .ok (.iconst (0), 1) := by decide +kernel
theorem dTr_exists_14 : decode (mC mTr_exists) 14 = .ok (.ireturn, 1) := by decide +kernel
theorem bTr_exists_0 {E : mEn} {d : Nat} {σ : mSt} {Q : mPost} {a1 : Int32} : WP E d mTr_exists 0 [.ref 1, .int a1] [] σ Q = (if a1 < 0 then WP E d mTr_exists 13 [.ref 1, .int a1] [] σ Q else WP E d mTr_exists 4 [.ref 1, .int a1] [] σ Q) := (w_iload_n dTr_exists_0 rfl).trans (w_iflt (t := 13) dTr_exists_1 (by decide))
theorem bTr_exists_4 {E : mEn} {d : Nat} {σ : mSt} {Q : mPost} {a1 : Int32} : WP E d mTr_exists 4 [.ref 1, .int a1] [] σ Q = (if (nI 4) ≤ a1 then WP E d mTr_exists 13 [.ref 1, .int a1] [] σ Q else WP E d mTr_exists 9 [.ref 1, .int a1] [] σ Q) := (w_iload_n dTr_exists_4 rfl).trans ((w_iconst (v := (nI 4)) dTr_exists_5 rfl).trans (w_icmpge (t := 13) dTr_exists_6 (by decide)))
theorem bTr_exists_9 {E : mEn} {d : Nat} {σ : mSt} {Q : mPost} {a1 : Int32} : WP E d mTr_exists 9 [.ref 1, .int a1] [] σ Q = WP E d mTr_exists 14 [.ref 1, .int a1] [.int 1] σ Q := (w_iconst (v := 1) dTr_exists_9 rfl).trans (w_goto (t := 14) dTr_exists_10 (by decide))
theorem bTr_exists_13 {E : mEn} {d : Nat} {σ : mSt} {Q : mPost} {a1 : Int32} : WP E d mTr_exists 13 [.ref 1, .int a1] [] σ Q = WP E d mTr_exists 14 [.ref 1, .int a1] [.int 0] σ Q := w_iconst (v := 0) dTr_exists_13 rfl
theorem bTr_exists_14 {E : mEn} {d : Nat} {σ : mSt} {Q : mPost} {a1 : Int32} {s0 : Int32} (hz0 : s0 = 0 ∨ s0 = 1) : WP E d mTr_exists 14 [.ref 1, .int a1] [.int s0] σ Q = Q (some (.int s0)) σ := w_zret dTr_exists_14 rfl hz0
theorem dTr_isSort_0 : decode (mC mTr_isSort) 0 = .ok (.iload_n 1, 1) := by decide +kernel
theorem dTr_isSort_1 : decode (mC mTr_isSort) 1 = .ok (.ifCond .lt (12), 3) := by decide +kernel
theorem dTr_isSort_4 : decode (mC mTr_isSort) 4 = .ok (.iload_n 1, 1) := by decide +kernel
theorem dTr_isSort_5 : decode (mC mTr_isSort) 5 = .ok (.iconst (4), 1) := by decide +kernel
theorem dTr_isSort_6 : decode (mC mTr_isSort) 6 = .ok (.if_icmp .ge (7), 3) := by decide +kernel
theorem dTr_isSort_9 : decode (mC mTr_isSort) 9 = .ok (.iconst (1), 1) := by decide +kernel
theorem dTr_isSort_10 : decode (mC mTr_isSort) 10 = .ok (.goto (4), 3) := by decide +kernel
theorem dTr_isSort_13 : decode (mC mTr_isSort) 13 = .ok (.iconst (0), 1) := by decide +kernel
theorem dTr_isSort_14 : decode (mC mTr_isSort) 14 = .ok (.ireturn, 1) := by decide +kernel
theorem bTr_isSort_0 {E : mEn} {d : Nat} {σ : mSt} {Q : mPost} {a1 : Int32} : WP E d mTr_isSort 0 [.ref 1, .int a1] [] σ Q = (if a1 < 0 then WP E d mTr_isSort 13 [.ref 1, .int a1] [] σ Q else WP E d mTr_isSort 4 [.ref 1, .int a1] [] σ Q) := (w_iload_n dTr_isSort_0 rfl).trans (w_iflt (t := 13) dTr_isSort_1 (by decide))
theorem bTr_isSort_4 {E : mEn} {d : Nat} {σ : mSt} {Q : mPost} {a1 : Int32} : WP E d mTr_isSort 4 [.ref 1, .int a1] [] σ Q = (if (nI 4) ≤ a1 then WP E d mTr_isSort 13 [.ref 1, .int a1] [] σ Q else WP E d mTr_isSort 9 [.ref 1, .int a1] [] σ Q) := (w_iload_n dTr_isSort_4 rfl).trans ((w_iconst (v := (nI 4)) dTr_isSort_5 rfl).trans (w_icmpge (t := 13) dTr_isSort_6 (by decide)))
theorem bTr_isSort_9 {E : mEn} {d : Nat} {σ : mSt} {Q : mPost} {a1 : Int32} : WP E d mTr_isSort 9 [.ref 1, .int a1] [] σ Q = WP E d mTr_isSort 14 [.ref 1, .int a1] [.int 1] σ Q := (w_iconst (v := 1) dTr_isSort_9 rfl).trans (w_goto (t := 14) dTr_isSort_10 (by decide))
theorem bTr_isSort_13 {E : mEn} {d : Nat} {σ : mSt} {Q : mPost} {a1 : Int32} : WP E d mTr_isSort 13 [.ref 1, .int a1] [] σ Q = WP E d mTr_isSort 14 [.ref 1, .int a1] [.int 0] σ Q := w_iconst (v := 0) dTr_isSort_13 rfl
theorem bTr_isSort_14 {E : mEn} {d : Nat} {σ : mSt} {Q : mPost} {a1 : Int32} {s0 : Int32} (hz0 : s0 = 0 ∨ s0 = 1) : WP E d mTr_isSort 14 [.ref 1, .int a1] [.int s0] σ Q = Q (some (.int s0)) σ := w_zret dTr_isSort_14 rfl hz0
theorem dTr_lay_0 : decode (mC mTr_lay) 0 = .ok (.aload_n 0, 1) := by decide +kernel
theorem dTr_lay_1 : decode (mC mTr_lay) 1 = .ok (.iload_n 1, 1) := by decide +kernel
theorem dTr_lay_2 : decode (mC mTr_lay) 2 = .ok (.invokevirtual 28, 3) := by decide +kernel
theorem dTr_lay_5 : decode (mC mTr_lay) 5 = .ok (.ifCond .eq (13), 3) := by decide +kernel
theorem dTr_lay_8 : decode (mC mTr_lay) 8 = .ok (.iload_n 3, 1) := by decide +kernel
theorem dTr_lay_9 : decode (mC mTr_lay) 9 = .ok (.ifCond .lt (9), 3) := by decide +kernel
theorem dTr_lay_12 : decode (mC mTr_lay) 12 = .ok (.iload_n 3, 1) := by decide +kernel
theorem dTr_lay_13 : decode (mC mTr_lay) 13 = .ok (.bipush (60), 2) := by decide +kernel
theorem dTr_lay_15 : decode (mC mTr_lay) 15 = .ok (.if_icmp .le (4), 3) := by decide +kernel
theorem dTr_lay_18 : decode (mC mTr_lay) 18 = .ok (.return_, 1) := by decide +kernel
theorem dTr_lay_19 : decode (mC mTr_lay) 19 = .ok (.aload_n 0, 1) := by decide +kernel
theorem dTr_lay_20 : decode (mC mTr_lay) 20 = .ok (.getfield 15, 3) := by decide +kernel
theorem dTr_lay_23 : decode (mC mTr_lay) 23 = .ok (.iload_n 1, 1) := by decide +kernel
theorem dTr_lay_24 : decode (mC mTr_lay) 24 = .ok (.iload_n 2, 1) := by decide +kernel
theorem dTr_lay_25 : decode (mC mTr_lay) 25 = .ok (.iastore, 1) := by decide +kernel
theorem dTr_lay_26 : decode (mC mTr_lay) 26 = .ok (.aload_n 0, 1) := by decide +kernel
theorem dTr_lay_27 : decode (mC mTr_lay) 27 = .ok (.getfield 19, 3) := by decide +kernel
theorem dTr_lay_30 : decode (mC mTr_lay) 30 = .ok (.iload_n 1, 1) := by decide +kernel
theorem dTr_lay_31 : decode (mC mTr_lay) 31 = .ok (.iload_n 3, 1) := by decide +kernel
theorem dTr_lay_32 : decode (mC mTr_lay) 32 = .ok (.iastore, 1) := by decide +kernel
theorem dTr_lay_33 : decode (mC mTr_lay) 33 = .ok (.iconst (0), 1) := by decide +kernel
theorem dTr_lay_34 : decode (mC mTr_lay) 34 = .ok (.istore 4, 2) := by decide +kernel
theorem dTr_lay_36 : decode (mC mTr_lay) 36 = .ok (.iload 4, 2) := by decide +kernel
theorem dTr_lay_38 : decode (mC mTr_lay) 38 = .ok (.iload_n 3, 1) := by decide +kernel
theorem dTr_lay_39 : decode (mC mTr_lay) 39 = .ok (.if_icmp .ge (22), 3) := by decide +kernel
theorem dTr_lay_42 : decode (mC mTr_lay) 42 = .ok (.aload_n 0, 1) := by decide +kernel
theorem dTr_lay_43 : decode (mC mTr_lay) 43 = .ok (.getfield 11, 3) := by decide +kernel
theorem dTr_lay_46 : decode (mC mTr_lay) 46 = .ok (.iload_n 1, 1) := by decide +kernel
theorem dTr_lay_47 : decode (mC mTr_lay) 47 = .ok (.bipush (60), 2) := by decide +kernel
theorem dTr_lay_49 : decode (mC mTr_lay) 49 = .ok (.imul, 1) := by decide +kernel
theorem dTr_lay_50 : decode (mC mTr_lay) 50 = .ok (.iload 4, 2) := by decide +kernel
theorem dTr_lay_52 : decode (mC mTr_lay) 52 = .ok (.iadd, 1) := by decide +kernel
theorem dTr_lay_53 : decode (mC mTr_lay) 53 = .ok (.lconst 0, 1) := by decide +kernel
theorem dTr_lay_54 : decode (mC mTr_lay) 54 = .ok (.lastore, 1) := by decide +kernel
theorem dTr_lay_55 : decode (mC mTr_lay) 55 = .ok (.iinc 4 (1), 3) := by decide +kernel
theorem dTr_lay_58 : decode (mC mTr_lay) 58 = .ok (.goto (-22), 3) := by decide +kernel
theorem dTr_lay_61 : decode (mC mTr_lay) 61 = .ok (.return_, 1) := by decide +kernel
theorem bTr_lay_0 {E : mEn} {d : Nat} {σ : mSt} {Q : mPost} {a1 : Int32} {a2 : Int32} {a3 : Int32} {u4 : Value} : WP E (d + 1) mTr_lay 0 [.ref 1, .int a1, .int a2, .int a3, u4] [] σ Q = WP E d mTr_exists 0 [.ref 1, .int a1] [] σ (fun r σ' => WP E (d + 1) mTr_lay 5 [.ref 1, .int a1, .int a2, .int a3, u4] (r.toList ++ []) σ' Q) := (w_aload_n dTr_lay_0 rfl).trans ((w_iload_n dTr_lay_1 rfl).trans (w_virt (vs := [.int a1]) (st' := []) (es := [.ref 1, .int a1]) dTr_lay_2 rz9_28 rfl sh_1 rfl rfl rfl (Nat.le_of_ble_eq_true rfl) (Nat.le_of_ble_eq_true rfl) rfl))
theorem bTr_lay_5 {E : mEn} {d : Nat} {σ : mSt} {Q : mPost} {a1 : Int32} {a2 : Int32} {a3 : Int32} {u4 : Value} {s0 : Int32} : WP E d mTr_lay 5 [.ref 1, .int a1, .int a2, .int a3, u4] [.int s0] σ Q = (if s0 = 0 then WP E d mTr_lay 18 [.ref 1, .int a1, .int a2, .int a3, u4] [] σ Q else WP E d mTr_lay 8 [.ref 1, .int a1, .int a2, .int a3, u4] [] σ Q) := w_ifeq (t := 18) dTr_lay_5 (by decide)
theorem bTr_lay_8 {E : mEn} {d : Nat} {σ : mSt} {Q : mPost} {a1 : Int32} {a2 : Int32} {a3 : Int32} {u4 : Value} : WP E d mTr_lay 8 [.ref 1, .int a1, .int a2, .int a3, u4] [] σ Q = (if a3 < 0 then WP E d mTr_lay 18 [.ref 1, .int a1, .int a2, .int a3, u4] [] σ Q else WP E d mTr_lay 12 [.ref 1, .int a1, .int a2, .int a3, u4] [] σ Q) := (w_iload_n dTr_lay_8 rfl).trans (w_iflt (t := 18) dTr_lay_9 (by decide))
theorem bTr_lay_12 {E : mEn} {d : Nat} {σ : mSt} {Q : mPost} {a1 : Int32} {a2 : Int32} {a3 : Int32} {u4 : Value} : WP E d mTr_lay 12 [.ref 1, .int a1, .int a2, .int a3, u4] [] σ Q = (if a3 ≤ (nI 60) then WP E d mTr_lay 19 [.ref 1, .int a1, .int a2, .int a3, u4] [] σ Q else WP E d mTr_lay 18 [.ref 1, .int a1, .int a2, .int a3, u4] [] σ Q) := (w_iload_n dTr_lay_12 rfl).trans ((w_bipush (v := (nI 60)) dTr_lay_13 rfl).trans (w_icmple (t := 19) dTr_lay_15 (by decide)))
theorem bTr_lay_18 {E : mEn} {d : Nat} {σ : mSt} {Q : mPost} {a1 : Int32} {a2 : Int32} {a3 : Int32} {u4 : Value} : WP E d mTr_lay 18 [.ref 1, .int a1, .int a2, .int a3, u4] [] σ Q = Q none σ := w_vret dTr_lay_18 rfl
theorem bTr_lay_19 {E : mEn} {d : Nat} {σ : mSt} {Q : mPost} {a1 : Int32} {a2 : Int32} {a3 : Int32} {u4 : Value} : WP E d mTr_lay 19 [.ref 1, .int a1, .int a2, .int a3, u4] [] σ Q = (if mOut a1 4 = true then False else (if mOut a1 4 = true then False else WP E d mTr_lay 36 [.ref 1, .int a1, .int a2, .int a3, .int 0] [] (sI (sI σ 3 a1.toNatClampNeg a2) 4 a1.toNatClampNeg a3) Q)) := (w_aload_n dTr_lay_19 rfl).trans ((w_getr (r := 3) dTr_lay_20 rz9_15 sh_1 rfl).trans ((w_iload_n dTr_lay_23 rfl).trans ((w_iload_n dTr_lay_24 rfl).trans ((w_iast dTr_lay_25 sh_3).trans (ite_c ((w_aload_n dTr_lay_26 rfl).trans ((w_getr (r := 4) dTr_lay_27 rz9_19 sh_1 rfl).trans ((w_iload_n dTr_lay_30 rfl).trans ((w_iload_n dTr_lay_31 rfl).trans ((w_iast dTr_lay_32 sh_4).trans (ite_c ((w_iconst (v := 0) dTr_lay_33 rfl).trans (w_istore (ls' := [.ref 1, .int a1, .int a2, .int a3, .int 0]) dTr_lay_34 (Nat.le_of_ble_eq_true rfl) rfl)))))))))))))
theorem bTr_lay_36 {E : mEn} {d : Nat} {σ : mSt} {Q : mPost} {a1 : Int32} {a2 : Int32} {a3 : Int32} {a4 : Int32} : WP E d mTr_lay 36 [.ref 1, .int a1, .int a2, .int a3, .int a4] [] σ Q = (if a3 ≤ a4 then WP E d mTr_lay 61 [.ref 1, .int a1, .int a2, .int a3, .int a4] [] σ Q else WP E d mTr_lay 42 [.ref 1, .int a1, .int a2, .int a3, .int a4] [] σ Q) := (w_iload dTr_lay_36 rfl).trans ((w_iload_n dTr_lay_38 rfl).trans (w_icmpge (t := 61) dTr_lay_39 (by decide)))
theorem bTr_lay_42 {E : mEn} {d : Nat} {σ : mSt} {Q : mPost} {a1 : Int32} {a2 : Int32} {a3 : Int32} {a4 : Int32} : WP E d mTr_lay 42 [.ref 1, .int a1, .int a2, .int a3, .int a4] [] σ Q = (if mOut ((a1 * (nI 60)) + a4) 240 = true then False else WP E d mTr_lay 36 [.ref 1, .int a1, .int a2, .int a3, .int (a4 + 1)] [] (sL σ 2 ((a1 * (nI 60)) + a4).toNatClampNeg 0) Q) := (w_aload_n dTr_lay_42 rfl).trans ((w_getr (r := 2) dTr_lay_43 rz9_11 sh_1 rfl).trans ((w_iload_n dTr_lay_46 rfl).trans ((w_bipush (v := (nI 60)) dTr_lay_47 rfl).trans ((w_imul dTr_lay_49).trans ((w_iload dTr_lay_50 rfl).trans ((w_iadd dTr_lay_52).trans ((w_lconst (v := 0) dTr_lay_53 rfl).trans ((w_last dTr_lay_54 sh_2).trans (ite_c ((w_iinc (v := 1) (ls' := [.ref 1, .int a1, .int a2, .int a3, .int (a4 + 1)]) dTr_lay_55 rfl rfl rfl).trans (w_goto (t := 36) dTr_lay_58 (by decide))))))))))))
theorem bTr_lay_61 {E : mEn} {d : Nat} {σ : mSt} {Q : mPost} {a1 : Int32} {a2 : Int32} {a3 : Int32} {a4 : Int32} : WP E d mTr_lay 61 [.ref 1, .int a1, .int a2, .int a3, .int a4] [] σ Q = Q none σ := w_vret dTr_lay_61 rfl
theorem dTr_whyNot_0 : decode (mC mTr_whyNot) 0 = .ok (.aload_n 0, 1) := by decide +kernel
theorem dTr_whyNot_1 : decode (mC mTr_whyNot) 1 = .ok (.iload_n 1, 1) := by decide +kernel
theorem dTr_whyNot_2 : decode (mC mTr_whyNot) 2 = .ok (.invokevirtual 28, 3) := by decide +kernel
theorem dTr_whyNot_5 : decode (mC mTr_whyNot) 5 = .ok (.ifCond .ne (5), 3) := by decide +kernel
theorem dTr_whyNot_8 : decode (mC mTr_whyNot) 8 = .ok (.iconst (1), 1) := by decide +kernel
theorem dTr_whyNot_9 : decode (mC mTr_whyNot) 9 = .ok (.ireturn, 1) := by decide +kernel
theorem dTr_whyNot_10 : decode (mC mTr_whyNot) 10 = .ok (.aload_n 0, 1) := by decide +kernel
theorem dTr_whyNot_11 : decode (mC mTr_whyNot) 11 = .ok (.iload_n 1, 1) := by decide +kernel
theorem dTr_whyNot_12 : decode (mC mTr_whyNot) 12 = .ok (.invokevirtual 32, 3) := by decide +kernel
theorem dTr_whyNot_15 : decode (mC mTr_whyNot) 15 = .ok (.ifCond .eq (5), 3) := by decide +kernel
theorem dTr_whyNot_18 : decode (mC mTr_whyNot) 18 = .ok (.iconst (3), 1) := by decide +kernel
theorem dTr_whyNot_19 : decode (mC mTr_whyNot) 19 = .ok (.ireturn, 1) := by decide +kernel
theorem dTr_whyNot_20 : decode (mC mTr_whyNot) 20 = .ok (.aload_n 0, 1) := by decide +kernel
theorem dTr_whyNot_21 : decode (mC mTr_whyNot) 21 = .ok (.iload_n 1, 1) := by decide +kernel
theorem dTr_whyNot_22 : decode (mC mTr_whyNot) 22 = .ok (.iload_n 2, 1) := by decide +kernel
theorem dTr_whyNot_23 : decode (mC mTr_whyNot) 23 = .ok (.iconst (1), 1) := by decide +kernel
theorem dTr_whyNot_24 : decode (mC mTr_whyNot) 24 = .ok (.invokevirtual 39, 3) := by decide +kernel
theorem dTr_whyNot_27 : decode (mC mTr_whyNot) 27 = .ok (.ifCond .eq (7), 3) := by decide +kernel
theorem dTr_whyNot_30 : decode (mC mTr_whyNot) 30 = .ok (.iconst (0), 1) := by decide +kernel
theorem dTr_whyNot_31 : decode (mC mTr_whyNot) 31 = .ok (.goto (4), 3) := by decide +kernel
theorem dTr_whyNot_34 : decode (mC mTr_whyNot) 34 = .ok (.iconst (4), 1) := by decide +kernel
theorem dTr_whyNot_35 : decode (mC mTr_whyNot) 35 = .ok (.ireturn, 1) := by decide +kernel
theorem bTr_whyNot_0 {E : mEn} {d : Nat} {σ : mSt} {Q : mPost} {a1 : Int32} {a2 : Int32} : WP E (d + 1) mTr_whyNot 0 [.ref 1, .int a1, .int a2] [] σ Q = WP E d mTr_exists 0 [.ref 1, .int a1] [] σ (fun r σ' => WP E (d + 1) mTr_whyNot 5 [.ref 1, .int a1, .int a2] (r.toList ++ []) σ' Q) := (w_aload_n dTr_whyNot_0 rfl).trans ((w_iload_n dTr_whyNot_1 rfl).trans (w_virt (vs := [.int a1]) (st' := []) (es := [.ref 1, .int a1]) dTr_whyNot_2 rz9_28 rfl sh_1 rfl rfl rfl (Nat.le_of_ble_eq_true rfl) (Nat.le_of_ble_eq_true rfl) rfl))
theorem bTr_whyNot_5 {E : mEn} {d : Nat} {σ : mSt} {Q : mPost} {a1 : Int32} {a2 : Int32} {s0 : Int32} : WP E d mTr_whyNot 5 [.ref 1, .int a1, .int a2] [.int s0] σ Q = (if ¬ s0 = 0 then WP E d mTr_whyNot 10 [.ref 1, .int a1, .int a2] [] σ Q else WP E d mTr_whyNot 8 [.ref 1, .int a1, .int a2] [] σ Q) := w_ifne (t := 10) dTr_whyNot_5 (by decide)
theorem bTr_whyNot_8 {E : mEn} {d : Nat} {σ : mSt} {Q : mPost} {a1 : Int32} {a2 : Int32} : WP E d mTr_whyNot 8 [.ref 1, .int a1, .int a2] [] σ Q = Q (some (.int 1)) σ := (w_iconst (v := 1) dTr_whyNot_8 rfl).trans (w_iret dTr_whyNot_9 rfl)
theorem bTr_whyNot_10 {E : mEn} {d : Nat} {σ : mSt} {Q : mPost} {a1 : Int32} {a2 : Int32} : WP E (d + 1) mTr_whyNot 10 [.ref 1, .int a1, .int a2] [] σ Q = WP E d mTr_isMissing 0 [.ref 1, .int a1] [] σ (fun r σ' => WP E (d + 1) mTr_whyNot 15 [.ref 1, .int a1, .int a2] (r.toList ++ []) σ' Q) := (w_aload_n dTr_whyNot_10 rfl).trans ((w_iload_n dTr_whyNot_11 rfl).trans (w_virt (vs := [.int a1]) (st' := []) (es := [.ref 1, .int a1]) dTr_whyNot_12 rz9_32 rfl sh_1 rfl rfl rfl (Nat.le_of_ble_eq_true rfl) (Nat.le_of_ble_eq_true rfl) rfl))
theorem bTr_whyNot_15 {E : mEn} {d : Nat} {σ : mSt} {Q : mPost} {a1 : Int32} {a2 : Int32} {s0 : Int32} : WP E d mTr_whyNot 15 [.ref 1, .int a1, .int a2] [.int s0] σ Q = (if s0 = 0 then WP E d mTr_whyNot 20 [.ref 1, .int a1, .int a2] [] σ Q else WP E d mTr_whyNot 18 [.ref 1, .int a1, .int a2] [] σ Q) := w_ifeq (t := 20) dTr_whyNot_15 (by decide)
theorem bTr_whyNot_18 {E : mEn} {d : Nat} {σ : mSt} {Q : mPost} {a1 : Int32} {a2 : Int32} : WP E d mTr_whyNot 18 [.ref 1, .int a1, .int a2] [] σ Q = Q (some (.int (nI 3))) σ := (w_iconst (v := (nI 3)) dTr_whyNot_18 rfl).trans (w_iret dTr_whyNot_19 rfl)
theorem bTr_whyNot_20 {E : mEn} {d : Nat} {σ : mSt} {Q : mPost} {a1 : Int32} {a2 : Int32} : WP E (d + 1) mTr_whyNot 20 [.ref 1, .int a1, .int a2] [] σ Q = WP E d mTr_hasRow 0 [.ref 1, .int a1, .int a2, .int 1] [] σ (fun r σ' => WP E (d + 1) mTr_whyNot 27 [.ref 1, .int a1, .int a2] (r.toList ++ []) σ' Q) := (w_aload_n dTr_whyNot_20 rfl).trans ((w_iload_n dTr_whyNot_21 rfl).trans ((w_iload_n dTr_whyNot_22 rfl).trans ((w_iconst (v := 1) dTr_whyNot_23 rfl).trans (w_virt (vs := [.int a1, .int a2, .int 1]) (st' := []) (es := [.ref 1, .int a1, .int a2, .int 1]) dTr_whyNot_24 rz9_39 rfl sh_1 rfl rfl rfl (Nat.le_of_ble_eq_true rfl) (Nat.le_of_ble_eq_true rfl) rfl))))
theorem bTr_whyNot_27 {E : mEn} {d : Nat} {σ : mSt} {Q : mPost} {a1 : Int32} {a2 : Int32} {s0 : Int32} : WP E d mTr_whyNot 27 [.ref 1, .int a1, .int a2] [.int s0] σ Q = (if s0 = 0 then WP E d mTr_whyNot 34 [.ref 1, .int a1, .int a2] [] σ Q else WP E d mTr_whyNot 30 [.ref 1, .int a1, .int a2] [] σ Q) := w_ifeq (t := 34) dTr_whyNot_27 (by decide)
theorem bTr_whyNot_30 {E : mEn} {d : Nat} {σ : mSt} {Q : mPost} {a1 : Int32} {a2 : Int32} : WP E d mTr_whyNot 30 [.ref 1, .int a1, .int a2] [] σ Q = WP E d mTr_whyNot 35 [.ref 1, .int a1, .int a2] [.int 0] σ Q := (w_iconst (v := 0) dTr_whyNot_30 rfl).trans (w_goto (t := 35) dTr_whyNot_31 (by decide))
theorem bTr_whyNot_34 {E : mEn} {d : Nat} {σ : mSt} {Q : mPost} {a1 : Int32} {a2 : Int32} : WP E d mTr_whyNot 34 [.ref 1, .int a1, .int a2] [] σ Q = WP E d mTr_whyNot 35 [.ref 1, .int a1, .int a2] [.int (nI 4)] σ Q := w_iconst (v := (nI 4)) dTr_whyNot_34 rfl
theorem bTr_whyNot_35 {E : mEn} {d : Nat} {σ : mSt} {Q : mPost} {a1 : Int32} {a2 : Int32} {s0 : Int32} : WP E d mTr_whyNot 35 [.ref 1, .int a1, .int a2] [.int s0] σ Q = Q (some (.int s0)) σ := w_iret dTr_whyNot_35 rfl
theorem dTr_isMissing_0 : decode (mC mTr_isMissing) 0 = .ok (.aload_n 0, 1) := by decide +kernel
theorem dTr_isMissing_1 : decode (mC mTr_isMissing) 1 = .ok (.iload_n 1, 1) := by decide +kernel
theorem dTr_isMissing_2 : decode (mC mTr_isMissing) 2 = .ok (.invokevirtual 28, 3) := by decide +kernel
theorem dTr_isMissing_5 : decode (mC mTr_isMissing) 5 = .ok (.ifCond .eq (12), 3) := by decide +kernel
theorem dTr_isMissing_8 : decode (mC mTr_isMissing) 8 = .ok (.aload_n 0, 1) := by decide +kernel
theorem dTr_isMissing_9 : decode (mC mTr_isMissing) 9 = .ok (.getfield 19, 3) := by decide +kernel
theorem dTr_isMissing_12 : decode (mC mTr_isMissing) 12 = .ok (.iload_n 1, 1) := by decide +kernel
theorem dTr_isMissing_13 : decode (mC mTr_isMissing) 13 = .ok (.iaload, 1) := by decide +kernel
theorem dTr_isMissing_14 : decode (mC mTr_isMissing) 14 = .ok (.ifCond .ge (7), 3) := by decide +kernel
theorem dTr_isMissing_17 : decode (mC mTr_isMissing) 17 = .ok (.iconst (1), 1) := by decide +kernel
theorem dTr_isMissing_18 : decode (mC mTr_isMissing) 18 = .ok (.goto (4), 3) := by decide +kernel
theorem dTr_isMissing_21 : decode (mC mTr_isMissing) 21 = .ok (.iconst (0), 1) := by decide +kernel
theorem dTr_isMissing_22 : decode (mC mTr_isMissing) 22 = .ok (.ireturn, 1) := by decide +kernel
theorem bTr_isMissing_0 {E : mEn} {d : Nat} {σ : mSt} {Q : mPost} {a1 : Int32} : WP E (d + 1) mTr_isMissing 0 [.ref 1, .int a1] [] σ Q = WP E d mTr_exists 0 [.ref 1, .int a1] [] σ (fun r σ' => WP E (d + 1) mTr_isMissing 5 [.ref 1, .int a1] (r.toList ++ []) σ' Q) := (w_aload_n dTr_isMissing_0 rfl).trans ((w_iload_n dTr_isMissing_1 rfl).trans (w_virt (vs := [.int a1]) (st' := []) (es := [.ref 1, .int a1]) dTr_isMissing_2 rz9_28 rfl sh_1 rfl rfl rfl (Nat.le_of_ble_eq_true rfl) (Nat.le_of_ble_eq_true rfl) rfl))
theorem bTr_isMissing_5 {E : mEn} {d : Nat} {σ : mSt} {Q : mPost} {a1 : Int32} {s0 : Int32} : WP E d mTr_isMissing 5 [.ref 1, .int a1] [.int s0] σ Q = (if s0 = 0 then WP E d mTr_isMissing 17 [.ref 1, .int a1] [] σ Q else WP E d mTr_isMissing 8 [.ref 1, .int a1] [] σ Q) := w_ifeq (t := 17) dTr_isMissing_5 (by decide)
theorem bTr_isMissing_8 {E : mEn} {d : Nat} {σ : mSt} {Q : mPost} {a1 : Int32} : WP E d mTr_isMissing 8 [.ref 1, .int a1] [] σ Q = (if mOut a1 4 = true then False else (if 0 ≤ (σ.1 4 a1.toNatClampNeg) then WP E d mTr_isMissing 21 [.ref 1, .int a1] [] σ Q else WP E d mTr_isMissing 17 [.ref 1, .int a1] [] σ Q)) := (w_aload_n dTr_isMissing_8 rfl).trans ((w_getr (r := 4) dTr_isMissing_9 rz9_19 sh_1 rfl).trans ((w_iload_n dTr_isMissing_12 rfl).trans ((w_iald dTr_isMissing_13 sh_4 (by decide)).trans (ite_c (w_ifge (t := 21) dTr_isMissing_14 (by decide))))))
theorem bTr_isMissing_17 {E : mEn} {d : Nat} {σ : mSt} {Q : mPost} {a1 : Int32} : WP E d mTr_isMissing 17 [.ref 1, .int a1] [] σ Q = WP E d mTr_isMissing 22 [.ref 1, .int a1] [.int 1] σ Q := (w_iconst (v := 1) dTr_isMissing_17 rfl).trans (w_goto (t := 22) dTr_isMissing_18 (by decide))
theorem bTr_isMissing_21 {E : mEn} {d : Nat} {σ : mSt} {Q : mPost} {a1 : Int32} : WP E d mTr_isMissing 21 [.ref 1, .int a1] [] σ Q = WP E d mTr_isMissing 22 [.ref 1, .int a1] [.int 0] σ Q := w_iconst (v := 0) dTr_isMissing_21 rfl
theorem bTr_isMissing_22 {E : mEn} {d : Nat} {σ : mSt} {Q : mPost} {a1 : Int32} {s0 : Int32} (hz0 : s0 = 0 ∨ s0 = 1) : WP E d mTr_isMissing 22 [.ref 1, .int a1] [.int s0] σ Q = Q (some (.int s0)) σ := w_zret dTr_isMissing_22 rfl hz0
theorem dTr_hasRow_0 : decode (mC mTr_hasRow) 0 = .ok (.iload_n 2, 1) := by decide +kernel
theorem dTr_hasRow_1 : decode (mC mTr_hasRow) 1 = .ok (.ifCond .lt (22), 3) := by decide +kernel
theorem dTr_hasRow_4 : decode (mC mTr_hasRow) 4 = .ok (.iload_n 3, 1) := by decide +kernel
theorem dTr_hasRow_5 : decode (mC mTr_hasRow) 5 = .ok (.ifCond .lt (18), 3) := by decide +kernel
theorem dTr_hasRow_8 : decode (mC mTr_hasRow) 8 = .ok (.iload_n 2, 1) := by decide +kernel
theorem dTr_hasRow_9 : decode (mC mTr_hasRow) 9 = .ok (.aload_n 0, 1) := by decide +kernel
theorem dTr_hasRow_10 : decode (mC mTr_hasRow) 10 = .ok (.iload_n 1, 1) := by decide +kernel
theorem dTr_hasRow_11 : decode (mC mTr_hasRow) 11 = .ok (.invokevirtual 35, 3) := by decide +kernel
theorem dTr_hasRow_14 : decode (mC mTr_hasRow) 14 = .ok (.iload_n 3, 1) := by decide +kernel
theorem dTr_hasRow_15 : decode (mC mTr_hasRow) 15 = .ok (.isub, 1) := by decide +kernel
theorem dTr_hasRow_16 : decode (mC mTr_hasRow) 16 = .ok (.if_icmp .gt (7), 3) := by decide +kernel
theorem dTr_hasRow_19 : decode (mC mTr_hasRow) 19 = .ok (.iconst (1), 1) := by decide +kernel
theorem dTr_hasRow_20 : decode (mC mTr_hasRow) 20 = .ok (.goto (4), 3) := by decide +kernel
theorem dTr_hasRow_23 : decode (mC mTr_hasRow) 23 = .ok (.iconst (0), 1) := by decide +kernel
theorem dTr_hasRow_24 : decode (mC mTr_hasRow) 24 = .ok (.ireturn, 1) := by decide +kernel
theorem bTr_hasRow_0 {E : mEn} {d : Nat} {σ : mSt} {Q : mPost} {a1 : Int32} {a2 : Int32} {a3 : Int32} : WP E d mTr_hasRow 0 [.ref 1, .int a1, .int a2, .int a3] [] σ Q = (if a2 < 0 then WP E d mTr_hasRow 23 [.ref 1, .int a1, .int a2, .int a3] [] σ Q else WP E d mTr_hasRow 4 [.ref 1, .int a1, .int a2, .int a3] [] σ Q) := (w_iload_n dTr_hasRow_0 rfl).trans (w_iflt (t := 23) dTr_hasRow_1 (by decide))
theorem bTr_hasRow_4 {E : mEn} {d : Nat} {σ : mSt} {Q : mPost} {a1 : Int32} {a2 : Int32} {a3 : Int32} : WP E d mTr_hasRow 4 [.ref 1, .int a1, .int a2, .int a3] [] σ Q = (if a3 < 0 then WP E d mTr_hasRow 23 [.ref 1, .int a1, .int a2, .int a3] [] σ Q else WP E d mTr_hasRow 8 [.ref 1, .int a1, .int a2, .int a3] [] σ Q) := (w_iload_n dTr_hasRow_4 rfl).trans (w_iflt (t := 23) dTr_hasRow_5 (by decide))
theorem bTr_hasRow_8 {E : mEn} {d : Nat} {σ : mSt} {Q : mPost} {a1 : Int32} {a2 : Int32} {a3 : Int32} : WP E (d + 1) mTr_hasRow 8 [.ref 1, .int a1, .int a2, .int a3] [] σ Q = WP E d mTr_lengthOf 0 [.ref 1, .int a1] [] σ (fun r σ' => WP E (d + 1) mTr_hasRow 14 [.ref 1, .int a1, .int a2, .int a3] (r.toList ++ [.int a2]) σ' Q) := (w_iload_n dTr_hasRow_8 rfl).trans ((w_aload_n dTr_hasRow_9 rfl).trans ((w_iload_n dTr_hasRow_10 rfl).trans (w_virt (vs := [.int a1]) (st' := [.int a2]) (es := [.ref 1, .int a1]) dTr_hasRow_11 rz9_35 rfl sh_1 rfl rfl rfl (Nat.le_of_ble_eq_true rfl) (Nat.le_of_ble_eq_true rfl) rfl)))
theorem bTr_hasRow_14 {E : mEn} {d : Nat} {σ : mSt} {Q : mPost} {a1 : Int32} {a2 : Int32} {a3 : Int32} {s0 : Int32} {s1 : Int32} : WP E d mTr_hasRow 14 [.ref 1, .int a1, .int a2, .int a3] [.int s0, .int s1] σ Q = (if (s0 - a3) < s1 then WP E d mTr_hasRow 23 [.ref 1, .int a1, .int a2, .int a3] [] σ Q else WP E d mTr_hasRow 19 [.ref 1, .int a1, .int a2, .int a3] [] σ Q) := (w_iload_n dTr_hasRow_14 rfl).trans ((w_isub dTr_hasRow_15).trans (w_icmpgt (t := 23) dTr_hasRow_16 (by decide)))
theorem bTr_hasRow_19 {E : mEn} {d : Nat} {σ : mSt} {Q : mPost} {a1 : Int32} {a2 : Int32} {a3 : Int32} : WP E d mTr_hasRow 19 [.ref 1, .int a1, .int a2, .int a3] [] σ Q = WP E d mTr_hasRow 24 [.ref 1, .int a1, .int a2, .int a3] [.int 1] σ Q := (w_iconst (v := 1) dTr_hasRow_19 rfl).trans (w_goto (t := 24) dTr_hasRow_20 (by decide))
theorem bTr_hasRow_23 {E : mEn} {d : Nat} {σ : mSt} {Q : mPost} {a1 : Int32} {a2 : Int32} {a3 : Int32} : WP E d mTr_hasRow 23 [.ref 1, .int a1, .int a2, .int a3] [] σ Q = WP E d mTr_hasRow 24 [.ref 1, .int a1, .int a2, .int a3] [.int 0] σ Q := w_iconst (v := 0) dTr_hasRow_23 rfl
theorem bTr_hasRow_24 {E : mEn} {d : Nat} {σ : mSt} {Q : mPost} {a1 : Int32} {a2 : Int32} {a3 : Int32} {s0 : Int32} (hz0 : s0 = 0 ∨ s0 = 1) : WP E d mTr_hasRow 24 [.ref 1, .int a1, .int a2, .int a3] [.int s0] σ Q = Q (some (.int s0)) σ := w_zret dTr_hasRow_24 rfl hz0
theorem dTr_lengthOf_0 : decode (mC mTr_lengthOf) 0 = .ok (.aload_n 0, 1) := by decide +kernel
theorem dTr_lengthOf_1 : decode (mC mTr_lengthOf) 1 = .ok (.iload_n 1, 1) := by decide +kernel
theorem dTr_lengthOf_2 : decode (mC mTr_lengthOf) 2 = .ok (.invokevirtual 32, 3) := by decide +kernel
theorem dTr_lengthOf_5 : decode (mC mTr_lengthOf) 5 = .ok (.ifCond .eq (7), 3) := by decide +kernel
theorem dTr_lengthOf_8 : decode (mC mTr_lengthOf) 8 = .ok (.iconst (0), 1) := by decide +kernel
theorem dTr_lengthOf_9 : decode (mC mTr_lengthOf) 9 = .ok (.goto (9), 3) := by decide +kernel
theorem dTr_lengthOf_12 : decode (mC mTr_lengthOf) 12 = .ok (.aload_n 0, 1) := by decide +kernel
theorem dTr_lengthOf_13 : decode (mC mTr_lengthOf) 13 = .ok (.getfield 19, 3) := by decide +kernel
theorem dTr_lengthOf_16 : decode (mC mTr_lengthOf) 16 = .ok (.iload_n 1, 1) := by decide +kernel
theorem dTr_lengthOf_17 : decode (mC mTr_lengthOf) 17 = .ok (.iaload, 1) := by decide +kernel
theorem dTr_lengthOf_18 : decode (mC mTr_lengthOf) 18 = .ok (.ireturn, 1) := by decide +kernel
theorem bTr_lengthOf_0 {E : mEn} {d : Nat} {σ : mSt} {Q : mPost} {a1 : Int32} : WP E (d + 1) mTr_lengthOf 0 [.ref 1, .int a1] [] σ Q = WP E d mTr_isMissing 0 [.ref 1, .int a1] [] σ (fun r σ' => WP E (d + 1) mTr_lengthOf 5 [.ref 1, .int a1] (r.toList ++ []) σ' Q) := (w_aload_n dTr_lengthOf_0 rfl).trans ((w_iload_n dTr_lengthOf_1 rfl).trans (w_virt (vs := [.int a1]) (st' := []) (es := [.ref 1, .int a1]) dTr_lengthOf_2 rz9_32 rfl sh_1 rfl rfl rfl (Nat.le_of_ble_eq_true rfl) (Nat.le_of_ble_eq_true rfl) rfl))
theorem bTr_lengthOf_5 {E : mEn} {d : Nat} {σ : mSt} {Q : mPost} {a1 : Int32} {s0 : Int32} : WP E d mTr_lengthOf 5 [.ref 1, .int a1] [.int s0] σ Q = (if s0 = 0 then WP E d mTr_lengthOf 12 [.ref 1, .int a1] [] σ Q else WP E d mTr_lengthOf 8 [.ref 1, .int a1] [] σ Q) := w_ifeq (t := 12) dTr_lengthOf_5 (by decide)
theorem bTr_lengthOf_8 {E : mEn} {d : Nat} {σ : mSt} {Q : mPost} {a1 : Int32} : WP E d mTr_lengthOf 8 [.ref 1, .int a1] [] σ Q = WP E d mTr_lengthOf 18 [.ref 1, .int a1] [.int 0] σ Q := (w_iconst (v := 0) dTr_lengthOf_8 rfl).trans (w_goto (t := 18) dTr_lengthOf_9 (by decide))
theorem bTr_lengthOf_12 {E : mEn} {d : Nat} {σ : mSt} {Q : mPost} {a1 : Int32} : WP E d mTr_lengthOf 12 [.ref 1, .int a1] [] σ Q = (if mOut a1 4 = true then False else WP E d mTr_lengthOf 18 [.ref 1, .int a1] [.int (σ.1 4 a1.toNatClampNeg)] σ Q) := (w_aload_n dTr_lengthOf_12 rfl).trans ((w_getr (r := 4) dTr_lengthOf_13 rz9_19 sh_1 rfl).trans ((w_iload_n dTr_lengthOf_16 rfl).trans ((w_iald dTr_lengthOf_17 sh_4 (by decide)).trans (ite_c (rfl)))))
theorem bTr_lengthOf_18 {E : mEn} {d : Nat} {σ : mSt} {Q : mPost} {a1 : Int32} {s0 : Int32} : WP E d mTr_lengthOf 18 [.ref 1, .int a1] [.int s0] σ Q = Q (some (.int s0)) σ := w_iret dTr_lengthOf_18 rfl
theorem dTr_put_0 : decode (mC mTr_put) 0 = .ok (.aload_n 0, 1) := by decide +kernel
theorem dTr_put_1 : decode (mC mTr_put) 1 = .ok (.iload_n 1, 1) := by decide +kernel
theorem dTr_put_2 : decode (mC mTr_put) 2 = .ok (.iload_n 2, 1) := by decide +kernel
theorem dTr_put_3 : decode (mC mTr_put) 3 = .ok (.iconst (1), 1) := by decide +kernel
theorem dTr_put_4 : decode (mC mTr_put) 4 = .ok (.invokevirtual 39, 3) := by decide +kernel
theorem dTr_put_7 : decode (mC mTr_put) 7 = .ok (.ifCond .eq (24), 3) := by decide +kernel
theorem dTr_put_10 : decode (mC mTr_put) 10 = .ok (.aload_n 0, 1) := by decide +kernel
theorem dTr_put_11 : decode (mC mTr_put) 11 = .ok (.getfield 11, 3) := by decide +kernel
theorem dTr_put_14 : decode (mC mTr_put) 14 = .ok (.iload_n 1, 1) := by decide +kernel
theorem dTr_put_15 : decode (mC mTr_put) 15 = .ok (.bipush (60), 2) := by decide +kernel
theorem dTr_put_17 : decode (mC mTr_put) 17 = .ok (.imul, 1) := by decide +kernel
theorem dTr_put_18 : decode (mC mTr_put) 18 = .ok (.iload_n 2, 1) := by decide +kernel
theorem dTr_put_19 : decode (mC mTr_put) 19 = .ok (.iadd, 1) := by decide +kernel
theorem dTr_put_20 : decode (mC mTr_put) 20 = .ok (.aload_n 0, 1) := by decide +kernel
theorem dTr_put_21 : decode (mC mTr_put) 21 = .ok (.getfield 15, 3) := by decide +kernel
theorem dTr_put_24 : decode (mC mTr_put) 24 = .ok (.iload_n 1, 1) := by decide +kernel
theorem dTr_put_25 : decode (mC mTr_put) 25 = .ok (.iaload, 1) := by decide +kernel
theorem dTr_put_26 : decode (mC mTr_put) 26 = .ok (.lload_n 3, 1) := by decide +kernel
theorem dTr_put_27 : decode (mC mTr_put) 27 = .ok (.invokestatic 43, 3) := by decide +kernel
theorem dTr_put_30 : decode (mC mTr_put) 30 = .ok (.lastore, 1) := by decide +kernel
theorem dTr_put_31 : decode (mC mTr_put) 31 = .ok (.return_, 1) := by decide +kernel
theorem bTr_put_0 {E : mEn} {d : Nat} {σ : mSt} {Q : mPost} {a1 : Int32} {a2 : Int32} {j3 : Int64} : WP E (d + 1) mTr_put 0 [.ref 1, .int a1, .int a2, .long j3, uu] [] σ Q = WP E d mTr_hasRow 0 [.ref 1, .int a1, .int a2, .int 1] [] σ (fun r σ' => WP E (d + 1) mTr_put 7 [.ref 1, .int a1, .int a2, .long j3, uu] (r.toList ++ []) σ' Q) := (w_aload_n dTr_put_0 rfl).trans ((w_iload_n dTr_put_1 rfl).trans ((w_iload_n dTr_put_2 rfl).trans ((w_iconst (v := 1) dTr_put_3 rfl).trans (w_virt (vs := [.int a1, .int a2, .int 1]) (st' := []) (es := [.ref 1, .int a1, .int a2, .int 1]) dTr_put_4 rz9_39 rfl sh_1 rfl rfl rfl (Nat.le_of_ble_eq_true rfl) (Nat.le_of_ble_eq_true rfl) rfl))))
theorem bTr_put_7 {E : mEn} {d : Nat} {σ : mSt} {Q : mPost} {a1 : Int32} {a2 : Int32} {j3 : Int64} {s0 : Int32} : WP E d mTr_put 7 [.ref 1, .int a1, .int a2, .long j3, uu] [.int s0] σ Q = (if s0 = 0 then WP E d mTr_put 31 [.ref 1, .int a1, .int a2, .long j3, uu] [] σ Q else WP E d mTr_put 10 [.ref 1, .int a1, .int a2, .long j3, uu] [] σ Q) := w_ifeq (t := 31) dTr_put_7 (by decide)
theorem bTr_put_10 {E : mEn} {d : Nat} {σ : mSt} {Q : mPost} {a1 : Int32} {a2 : Int32} {j3 : Int64} : WP E (d + 1) mTr_put 10 [.ref 1, .int a1, .int a2, .long j3, uu] [] σ Q = (if mOut a1 4 = true then False else WP E d mTr_cutTo 0 [.int (σ.1 3 a1.toNatClampNeg), .long j3, uu] [] σ (fun r σ' => WP E (d + 1) mTr_put 30 [.ref 1, .int a1, .int a2, .long j3, uu] (r.toList ++ [.int ((a1 * (nI 60)) + a2), .ref 2]) σ' Q)) := (w_aload_n dTr_put_10 rfl).trans ((w_getr (r := 2) dTr_put_11 rz9_11 sh_1 rfl).trans ((w_iload_n dTr_put_14 rfl).trans ((w_bipush (v := (nI 60)) dTr_put_15 rfl).trans ((w_imul dTr_put_17).trans ((w_iload_n dTr_put_18 rfl).trans ((w_iadd dTr_put_19).trans ((w_aload_n dTr_put_20 rfl).trans ((w_getr (r := 3) dTr_put_21 rz9_15 sh_1 rfl).trans ((w_iload_n dTr_put_24 rfl).trans ((w_iald dTr_put_25 sh_3 (by decide)).trans (ite_c ((w_lload_n dTr_put_26 rfl).trans (w_stat (vs := [.int (σ.1 3 a1.toNatClampNeg), .long j3]) (st' := [.int ((a1 * (nI 60)) + a2), .ref 2]) (es := [.int (σ.1 3 a1.toNatClampNeg), .long j3, uu]) dTr_put_27 rz9_43 rfl rfl rfl (Nat.le_of_ble_eq_true rfl) (Nat.le_of_ble_eq_true rfl) rfl)))))))))))))
theorem bTr_put_30 {E : mEn} {d : Nat} {σ : mSt} {Q : mPost} {a1 : Int32} {a2 : Int32} {j3 : Int64} {q0 : Int64} {s1 : Int32} : WP E d mTr_put 30 [.ref 1, .int a1, .int a2, .long j3, uu] [.long q0, .int s1, .ref 2] σ Q = (if mOut s1 240 = true then False else WP E d mTr_put 31 [.ref 1, .int a1, .int a2, .long j3, uu] [] (sL σ 2 s1.toNatClampNeg q0) Q) := (w_last dTr_put_30 sh_2).trans (ite_c (rfl))
theorem bTr_put_31 {E : mEn} {d : Nat} {σ : mSt} {Q : mPost} {a1 : Int32} {a2 : Int32} {j3 : Int64} : WP E d mTr_put 31 [.ref 1, .int a1, .int a2, .long j3, uu] [] σ Q = Q none σ := w_vret dTr_put_31 rfl
theorem dTr_cutTo_0 : decode (mC mTr_cutTo) 0 = .ok (.iload_n 0, 1) := by decide +kernel
theorem dTr_cutTo_1 : decode (mC mTr_cutTo) 1 = .ok (.tableswitch (41) 0 2 #[27, 32, 37], 27) := by decide +kernel
theorem dTr_cutTo_28 : decode (mC mTr_cutTo) 28 = .ok (.lload_n 1, 1) := by decide +kernel
theorem dTr_cutTo_29 : decode (mC mTr_cutTo) 29 = .ok (.l2i, 1) := by decide +kernel
theorem dTr_cutTo_30 : decode (mC mTr_cutTo) 30 = .ok (.i2b, 1) := by decide +kernel
theorem dTr_cutTo_31 : decode (mC mTr_cutTo) 31 = .ok (.i2l, 1) := by decide +kernel
theorem dTr_cutTo_32 : decode (mC mTr_cutTo) 32 = .ok (.lreturn, 1) := by decide +kernel
theorem dTr_cutTo_33 : decode (mC mTr_cutTo) 33 = .ok (.lload_n 1, 1) := by decide +kernel
theorem dTr_cutTo_34 : decode (mC mTr_cutTo) 34 = .ok (.l2i, 1) := by decide +kernel
theorem dTr_cutTo_35 : decode (mC mTr_cutTo) 35 = .ok (.i2s, 1) := by decide +kernel
theorem dTr_cutTo_36 : decode (mC mTr_cutTo) 36 = .ok (.i2l, 1) := by decide +kernel
theorem dTr_cutTo_37 : decode (mC mTr_cutTo) 37 = .ok (.lreturn, 1) := by decide +kernel
theorem dTr_cutTo_38 : decode (mC mTr_cutTo) 38 = .ok (.lload_n 1, 1) := by decide +kernel
theorem dTr_cutTo_39 : decode (mC mTr_cutTo) 39 = .ok (.l2i, 1) := by decide +kernel
theorem dTr_cutTo_40 : decode (mC mTr_cutTo) 40 = .ok (.i2l, 1) := by decide +kernel
theorem dTr_cutTo_41 : decode (mC mTr_cutTo) 41 = .ok (.lreturn, 1) := by decide +kernel
theorem dTr_cutTo_42 : decode (mC mTr_cutTo) 42 = .ok (.lload_n 1, 1) := by decide +kernel
theorem dTr_cutTo_43 : decode (mC mTr_cutTo) 43 = .ok (.lreturn, 1) := by decide +kernel
theorem bTr_cutTo_0 {E : mEn} {d : Nat} {σ : mSt} {Q : mPost} {a0 : Int32} {j1 : Int64} : WP E d mTr_cutTo 0 [.int a0, .long j1, uu] [] σ Q = WP E d mTr_cutTo 1 [.int a0, .long j1, uu] [.int a0] σ Q := w_iload_n dTr_cutTo_0 rfl
theorem bTr_cutTo_0_s0 {E : mEn} {d : Nat} {σ : mSt} {Q : mPost} {b0 : Int32} {b1 : Int64} : WP E d mTr_cutTo 1 [.int b0, .long b1, uu] [.int (nI 0)] σ Q = WP E d mTr_cutTo 28 [.int b0, .long b1, uu] [] σ Q := w_swK 0 dTr_cutTo_1 (by decide) (by decide) (by decide) rfl (by decide)
theorem bTr_cutTo_0_s1 {E : mEn} {d : Nat} {σ : mSt} {Q : mPost} {b0 : Int32} {b1 : Int64} : WP E d mTr_cutTo 1 [.int b0, .long b1, uu] [.int (nI 1)] σ Q = WP E d mTr_cutTo 33 [.int b0, .long b1, uu] [] σ Q := w_swK 1 dTr_cutTo_1 (by decide) (by decide) (by decide) rfl (by decide)
theorem bTr_cutTo_0_s2 {E : mEn} {d : Nat} {σ : mSt} {Q : mPost} {b0 : Int32} {b1 : Int64} : WP E d mTr_cutTo 1 [.int b0, .long b1, uu] [.int (nI 2)] σ Q = WP E d mTr_cutTo 38 [.int b0, .long b1, uu] [] σ Q := w_swK 2 dTr_cutTo_1 (by decide) (by decide) (by decide) rfl (by decide)
theorem bTr_cutTo_0_sD {E : mEn} {d : Nat} {σ : mSt} {Q : mPost} {b0 : Int32} {b1 : Int64} {x : Int32} (hne : ∀ k : Nat, 0 ≤ k → k ≤ 2 → x ≠ nI k) : WP E d mTr_cutTo 1 [.int b0, .long b1, uu] [.int x] σ Q = WP E d mTr_cutTo 42 [.int b0, .long b1, uu] [] σ Q := w_swD dTr_cutTo_1 (by decide) hne (by decide)
theorem bTr_cutTo_28 {E : mEn} {d : Nat} {σ : mSt} {Q : mPost} {a0 : Int32} {j1 : Int64} : WP E d mTr_cutTo 28 [.int a0, .long j1, uu] [] σ Q = Q (some (.long (((j1.toInt32).toInt8.toInt32).toInt64))) σ := (w_lload_n dTr_cutTo_28 rfl).trans ((w_l2i dTr_cutTo_29).trans ((w_i2b dTr_cutTo_30).trans ((w_i2l dTr_cutTo_31).trans (w_lret dTr_cutTo_32 rfl))))
theorem bTr_cutTo_33 {E : mEn} {d : Nat} {σ : mSt} {Q : mPost} {a0 : Int32} {j1 : Int64} : WP E d mTr_cutTo 33 [.int a0, .long j1, uu] [] σ Q = Q (some (.long (((j1.toInt32).toInt16.toInt32).toInt64))) σ := (w_lload_n dTr_cutTo_33 rfl).trans ((w_l2i dTr_cutTo_34).trans ((w_i2s dTr_cutTo_35).trans ((w_i2l dTr_cutTo_36).trans (w_lret dTr_cutTo_37 rfl))))
theorem bTr_cutTo_38 {E : mEn} {d : Nat} {σ : mSt} {Q : mPost} {a0 : Int32} {j1 : Int64} : WP E d mTr_cutTo 38 [.int a0, .long j1, uu] [] σ Q = Q (some (.long ((j1.toInt32).toInt64))) σ := (w_lload_n dTr_cutTo_38 rfl).trans ((w_l2i dTr_cutTo_39).trans ((w_i2l dTr_cutTo_40).trans (w_lret dTr_cutTo_41 rfl)))
theorem bTr_cutTo_42 {E : mEn} {d : Nat} {σ : mSt} {Q : mPost} {a0 : Int32} {j1 : Int64} : WP E d mTr_cutTo 42 [.int a0, .long j1, uu] [] σ Q = Q (some (.long j1)) σ := (w_lload_n dTr_cutTo_42 rfl).trans (w_lret dTr_cutTo_43 rfl)
theorem dTr_at_0 : decode (mC mTr_at) 0 = .ok (.aload_n 0, 1) := by decide +kernel
theorem dTr_at_1 : decode (mC mTr_at) 1 = .ok (.iload_n 1, 1) := by decide +kernel
theorem dTr_at_2 : decode (mC mTr_at) 2 = .ok (.iload_n 2, 1) := by decide +kernel
theorem dTr_at_3 : decode (mC mTr_at) 3 = .ok (.iconst (1), 1) := by decide +kernel
theorem dTr_at_4 : decode (mC mTr_at) 4 = .ok (.invokevirtual 39, 3) := by decide +kernel
theorem dTr_at_7 : decode (mC mTr_at) 7 = .ok (.ifCond .eq (17), 3) := by decide +kernel
theorem dTr_at_10 : decode (mC mTr_at) 10 = .ok (.aload_n 0, 1) := by decide +kernel
theorem dTr_at_11 : decode (mC mTr_at) 11 = .ok (.getfield 11, 3) := by decide +kernel
theorem dTr_at_14 : decode (mC mTr_at) 14 = .ok (.iload_n 1, 1) := by decide +kernel
theorem dTr_at_15 : decode (mC mTr_at) 15 = .ok (.bipush (60), 2) := by decide +kernel
theorem dTr_at_17 : decode (mC mTr_at) 17 = .ok (.imul, 1) := by decide +kernel
theorem dTr_at_18 : decode (mC mTr_at) 18 = .ok (.iload_n 2, 1) := by decide +kernel
theorem dTr_at_19 : decode (mC mTr_at) 19 = .ok (.iadd, 1) := by decide +kernel
theorem dTr_at_20 : decode (mC mTr_at) 20 = .ok (.laload, 1) := by decide +kernel
theorem dTr_at_21 : decode (mC mTr_at) 21 = .ok (.goto (4), 3) := by decide +kernel
theorem dTr_at_24 : decode (mC mTr_at) 24 = .ok (.lconst 0, 1) := by decide +kernel
theorem dTr_at_25 : decode (mC mTr_at) 25 = .ok (.lreturn, 1) := by decide +kernel
theorem bTr_at_0 {E : mEn} {d : Nat} {σ : mSt} {Q : mPost} {a1 : Int32} {a2 : Int32} : WP E (d + 1) mTr_at 0 [.ref 1, .int a1, .int a2] [] σ Q = WP E d mTr_hasRow 0 [.ref 1, .int a1, .int a2, .int 1] [] σ (fun r σ' => WP E (d + 1) mTr_at 7 [.ref 1, .int a1, .int a2] (r.toList ++ []) σ' Q) := (w_aload_n dTr_at_0 rfl).trans ((w_iload_n dTr_at_1 rfl).trans ((w_iload_n dTr_at_2 rfl).trans ((w_iconst (v := 1) dTr_at_3 rfl).trans (w_virt (vs := [.int a1, .int a2, .int 1]) (st' := []) (es := [.ref 1, .int a1, .int a2, .int 1]) dTr_at_4 rz9_39 rfl sh_1 rfl rfl rfl (Nat.le_of_ble_eq_true rfl) (Nat.le_of_ble_eq_true rfl) rfl))))
theorem bTr_at_7 {E : mEn} {d : Nat} {σ : mSt} {Q : mPost} {a1 : Int32} {a2 : Int32} {s0 : Int32} : WP E d mTr_at 7 [.ref 1, .int a1, .int a2] [.int s0] σ Q = (if s0 = 0 then WP E d mTr_at 24 [.ref 1, .int a1, .int a2] [] σ Q else WP E d mTr_at 10 [.ref 1, .int a1, .int a2] [] σ Q) := w_ifeq (t := 24) dTr_at_7 (by decide)
theorem bTr_at_10 {E : mEn} {d : Nat} {σ : mSt} {Q : mPost} {a1 : Int32} {a2 : Int32} : WP E d mTr_at 10 [.ref 1, .int a1, .int a2] [] σ Q = (if mOut ((a1 * (nI 60)) + a2) 240 = true then False else WP E d mTr_at 25 [.ref 1, .int a1, .int a2] [.long (σ.2 2 ((a1 * (nI 60)) + a2).toNatClampNeg)] σ Q) := (w_aload_n dTr_at_10 rfl).trans ((w_getr (r := 2) dTr_at_11 rz9_11 sh_1 rfl).trans ((w_iload_n dTr_at_14 rfl).trans ((w_bipush (v := (nI 60)) dTr_at_15 rfl).trans ((w_imul dTr_at_17).trans ((w_iload_n dTr_at_18 rfl).trans ((w_iadd dTr_at_19).trans ((w_lald dTr_at_20 sh_2).trans (ite_c (w_goto (t := 25) dTr_at_21 (by decide))))))))))
theorem bTr_at_24 {E : mEn} {d : Nat} {σ : mSt} {Q : mPost} {a1 : Int32} {a2 : Int32} : WP E d mTr_at 24 [.ref 1, .int a1, .int a2] [] σ Q = WP E d mTr_at 25 [.ref 1, .int a1, .int a2] [.long 0] σ Q := w_lconst (v := 0) dTr_at_24 rfl
theorem bTr_at_25 {E : mEn} {d : Nat} {σ : mSt} {Q : mPost} {a1 : Int32} {a2 : Int32} {q0 : Int64} : WP E d mTr_at 25 [.ref 1, .int a1, .int a2] [.long q0] σ Q = Q (some (.long q0)) σ := w_lret dTr_at_25 rfl
theorem dTr_alike_0 : decode (mC mTr_alike) 0 = .ok (.aload_n 0, 1) := by decide +kernel
theorem dTr_alike_1 : decode (mC mTr_alike) 1 = .ok (.iload_n 1, 1) := by decide +kernel
theorem dTr_alike_2 : decode (mC mTr_alike) 2 = .ok (.invokevirtual 28, 3) := by decide +kernel
theorem dTr_alike_5 : decode (mC mTr_alike) 5 = .ok (.ifCond .eq (30), 3) := by decide +kernel
theorem dTr_alike_8 : decode (mC mTr_alike) 8 = .ok (.aload_n 0, 1) := by decide +kernel
theorem dTr_alike_9 : decode (mC mTr_alike) 9 = .ok (.iload_n 2, 1) := by decide +kernel
theorem dTr_alike_10 : decode (mC mTr_alike) 10 = .ok (.invokevirtual 28, 3) := by decide +kernel
theorem dTr_alike_13 : decode (mC mTr_alike) 13 = .ok (.ifCond .eq (22), 3) := by decide +kernel
theorem dTr_alike_16 : decode (mC mTr_alike) 16 = .ok (.aload_n 0, 1) := by decide +kernel
theorem dTr_alike_17 : decode (mC mTr_alike) 17 = .ok (.getfield 15, 3) := by decide +kernel
theorem dTr_alike_20 : decode (mC mTr_alike) 20 = .ok (.iload_n 1, 1) := by decide +kernel
theorem dTr_alike_21 : decode (mC mTr_alike) 21 = .ok (.iaload, 1) := by decide +kernel
theorem dTr_alike_22 : decode (mC mTr_alike) 22 = .ok (.aload_n 0, 1) := by decide +kernel
theorem dTr_alike_23 : decode (mC mTr_alike) 23 = .ok (.getfield 15, 3) := by decide +kernel
theorem dTr_alike_26 : decode (mC mTr_alike) 26 = .ok (.iload_n 2, 1) := by decide +kernel
theorem dTr_alike_27 : decode (mC mTr_alike) 27 = .ok (.iaload, 1) := by decide +kernel
theorem dTr_alike_28 : decode (mC mTr_alike) 28 = .ok (.if_icmp .ne (7), 3) := by decide +kernel
theorem dTr_alike_31 : decode (mC mTr_alike) 31 = .ok (.iconst (1), 1) := by decide +kernel
theorem dTr_alike_32 : decode (mC mTr_alike) 32 = .ok (.goto (4), 3) := by decide +kernel
theorem dTr_alike_35 : decode (mC mTr_alike) 35 = .ok (.iconst (0), 1) := by decide +kernel
theorem dTr_alike_36 : decode (mC mTr_alike) 36 = .ok (.ireturn, 1) := by decide +kernel
theorem bTr_alike_0 {E : mEn} {d : Nat} {σ : mSt} {Q : mPost} {a1 : Int32} {a2 : Int32} : WP E (d + 1) mTr_alike 0 [.ref 1, .int a1, .int a2] [] σ Q = WP E d mTr_exists 0 [.ref 1, .int a1] [] σ (fun r σ' => WP E (d + 1) mTr_alike 5 [.ref 1, .int a1, .int a2] (r.toList ++ []) σ' Q) := (w_aload_n dTr_alike_0 rfl).trans ((w_iload_n dTr_alike_1 rfl).trans (w_virt (vs := [.int a1]) (st' := []) (es := [.ref 1, .int a1]) dTr_alike_2 rz9_28 rfl sh_1 rfl rfl rfl (Nat.le_of_ble_eq_true rfl) (Nat.le_of_ble_eq_true rfl) rfl))
theorem bTr_alike_5 {E : mEn} {d : Nat} {σ : mSt} {Q : mPost} {a1 : Int32} {a2 : Int32} {s0 : Int32} : WP E d mTr_alike 5 [.ref 1, .int a1, .int a2] [.int s0] σ Q = (if s0 = 0 then WP E d mTr_alike 35 [.ref 1, .int a1, .int a2] [] σ Q else WP E d mTr_alike 8 [.ref 1, .int a1, .int a2] [] σ Q) := w_ifeq (t := 35) dTr_alike_5 (by decide)
theorem bTr_alike_8 {E : mEn} {d : Nat} {σ : mSt} {Q : mPost} {a1 : Int32} {a2 : Int32} : WP E (d + 1) mTr_alike 8 [.ref 1, .int a1, .int a2] [] σ Q = WP E d mTr_exists 0 [.ref 1, .int a2] [] σ (fun r σ' => WP E (d + 1) mTr_alike 13 [.ref 1, .int a1, .int a2] (r.toList ++ []) σ' Q) := (w_aload_n dTr_alike_8 rfl).trans ((w_iload_n dTr_alike_9 rfl).trans (w_virt (vs := [.int a2]) (st' := []) (es := [.ref 1, .int a2]) dTr_alike_10 rz9_28 rfl sh_1 rfl rfl rfl (Nat.le_of_ble_eq_true rfl) (Nat.le_of_ble_eq_true rfl) rfl))
theorem bTr_alike_13 {E : mEn} {d : Nat} {σ : mSt} {Q : mPost} {a1 : Int32} {a2 : Int32} {s0 : Int32} : WP E d mTr_alike 13 [.ref 1, .int a1, .int a2] [.int s0] σ Q = (if s0 = 0 then WP E d mTr_alike 35 [.ref 1, .int a1, .int a2] [] σ Q else WP E d mTr_alike 16 [.ref 1, .int a1, .int a2] [] σ Q) := w_ifeq (t := 35) dTr_alike_13 (by decide)
theorem bTr_alike_16 {E : mEn} {d : Nat} {σ : mSt} {Q : mPost} {a1 : Int32} {a2 : Int32} : WP E d mTr_alike 16 [.ref 1, .int a1, .int a2] [] σ Q = (if mOut a1 4 = true then False else (if mOut a2 4 = true then False else (if ¬ (σ.1 3 a1.toNatClampNeg) = (σ.1 3 a2.toNatClampNeg) then WP E d mTr_alike 35 [.ref 1, .int a1, .int a2] [] σ Q else WP E d mTr_alike 31 [.ref 1, .int a1, .int a2] [] σ Q))) := (w_aload_n dTr_alike_16 rfl).trans ((w_getr (r := 3) dTr_alike_17 rz9_15 sh_1 rfl).trans ((w_iload_n dTr_alike_20 rfl).trans ((w_iald dTr_alike_21 sh_3 (by decide)).trans (ite_c ((w_aload_n dTr_alike_22 rfl).trans ((w_getr (r := 3) dTr_alike_23 rz9_15 sh_1 rfl).trans ((w_iload_n dTr_alike_26 rfl).trans ((w_iald dTr_alike_27 sh_3 (by decide)).trans (ite_c (w_icmpne (t := 35) dTr_alike_28 (by decide)))))))))))
theorem bTr_alike_31 {E : mEn} {d : Nat} {σ : mSt} {Q : mPost} {a1 : Int32} {a2 : Int32} : WP E d mTr_alike 31 [.ref 1, .int a1, .int a2] [] σ Q = WP E d mTr_alike 36 [.ref 1, .int a1, .int a2] [.int 1] σ Q := (w_iconst (v := 1) dTr_alike_31 rfl).trans (w_goto (t := 36) dTr_alike_32 (by decide))
theorem bTr_alike_35 {E : mEn} {d : Nat} {σ : mSt} {Q : mPost} {a1 : Int32} {a2 : Int32} : WP E d mTr_alike 35 [.ref 1, .int a1, .int a2] [] σ Q = WP E d mTr_alike 36 [.ref 1, .int a1, .int a2] [.int 0] σ Q := w_iconst (v := 0) dTr_alike_35 rfl
theorem bTr_alike_36 {E : mEn} {d : Nat} {σ : mSt} {Q : mPost} {a1 : Int32} {a2 : Int32} {s0 : Int32} (hz0 : s0 = 0 ∨ s0 = 1) : WP E d mTr_alike 36 [.ref 1, .int a1, .int a2] [.int s0] σ Q = Q (some (.int s0)) σ := w_zret dTr_alike_36 rfl hz0
theorem dTr_move_0 : decode (mC mTr_move) 0 = .ok (.aload_n 0, 1) := by decide +kernel
theorem dTr_move_1 : decode (mC mTr_move) 1 = .ok (.iload_n 1, 1) := by decide +kernel
theorem dTr_move_2 : decode (mC mTr_move) 2 = .ok (.iload_n 2, 1) := by decide +kernel
theorem dTr_move_3 : decode (mC mTr_move) 3 = .ok (.iload 5, 2) := by decide +kernel
theorem dTr_move_5 : decode (mC mTr_move) 5 = .ok (.invokevirtual 39, 3) := by decide +kernel
theorem dTr_move_8 : decode (mC mTr_move) 8 = .ok (.ifCond .eq (41), 3) := by decide +kernel
theorem dTr_move_11 : decode (mC mTr_move) 11 = .ok (.aload_n 0, 1) := by decide +kernel
theorem dTr_move_12 : decode (mC mTr_move) 12 = .ok (.iload_n 3, 1) := by decide +kernel
theorem dTr_move_13 : decode (mC mTr_move) 13 = .ok (.iload 4, 2) := by decide +kernel
theorem dTr_move_15 : decode (mC mTr_move) 15 = .ok (.iload 5, 2) := by decide +kernel
theorem dTr_move_17 : decode (mC mTr_move) 17 = .ok (.invokevirtual 39, 3) := by decide +kernel
theorem dTr_move_20 : decode (mC mTr_move) 20 = .ok (.ifCond .eq (29), 3) := by decide +kernel
theorem dTr_move_23 : decode (mC mTr_move) 23 = .ok (.aload_n 0, 1) := by decide +kernel
theorem dTr_move_24 : decode (mC mTr_move) 24 = .ok (.getfield 11, 3) := by decide +kernel
theorem dTr_move_27 : decode (mC mTr_move) 27 = .ok (.iload_n 1, 1) := by decide +kernel
theorem dTr_move_28 : decode (mC mTr_move) 28 = .ok (.bipush (60), 2) := by decide +kernel
theorem dTr_move_30 : decode (mC mTr_move) 30 = .ok (.imul, 1) := by decide +kernel
theorem dTr_move_31 : decode (mC mTr_move) 31 = .ok (.iload_n 2, 1) := by decide +kernel
theorem dTr_move_32 : decode (mC mTr_move) 32 = .ok (.iadd, 1) := by decide +kernel
theorem dTr_move_33 : decode (mC mTr_move) 33 = .ok (.aload_n 0, 1) := by decide +kernel
theorem dTr_move_34 : decode (mC mTr_move) 34 = .ok (.getfield 11, 3) := by decide +kernel
theorem dTr_move_37 : decode (mC mTr_move) 37 = .ok (.iload_n 3, 1) := by decide +kernel
theorem dTr_move_38 : decode (mC mTr_move) 38 = .ok (.bipush (60), 2) := by decide +kernel
theorem dTr_move_40 : decode (mC mTr_move) 40 = .ok (.imul, 1) := by decide +kernel
theorem dTr_move_41 : decode (mC mTr_move) 41 = .ok (.iload 4, 2) := by decide +kernel
theorem dTr_move_43 : decode (mC mTr_move) 43 = .ok (.iadd, 1) := by decide +kernel
theorem dTr_move_44 : decode (mC mTr_move) 44 = .ok (.iload 5, 2) := by decide +kernel
theorem dTr_move_46 : decode (mC mTr_move) 46 = .ok (.invokestatic 47, 3) := by decide +kernel
theorem dTr_move_49 : decode (mC mTr_move) 49 = .ok (.return_, 1) := by decide +kernel
theorem bTr_move_0 {E : mEn} {d : Nat} {σ : mSt} {Q : mPost} {a1 : Int32} {a2 : Int32} {a3 : Int32} {a4 : Int32} {a5 : Int32} : WP E (d + 1) mTr_move 0 [.ref 1, .int a1, .int a2, .int a3, .int a4, .int a5] [] σ Q = WP E d mTr_hasRow 0 [.ref 1, .int a1, .int a2, .int a5] [] σ (fun r σ' => WP E (d + 1) mTr_move 8 [.ref 1, .int a1, .int a2, .int a3, .int a4, .int a5] (r.toList ++ []) σ' Q) := (w_aload_n dTr_move_0 rfl).trans ((w_iload_n dTr_move_1 rfl).trans ((w_iload_n dTr_move_2 rfl).trans ((w_iload dTr_move_3 rfl).trans (w_virt (vs := [.int a1, .int a2, .int a5]) (st' := []) (es := [.ref 1, .int a1, .int a2, .int a5]) dTr_move_5 rz9_39 rfl sh_1 rfl rfl rfl (Nat.le_of_ble_eq_true rfl) (Nat.le_of_ble_eq_true rfl) rfl))))
theorem bTr_move_8 {E : mEn} {d : Nat} {σ : mSt} {Q : mPost} {a1 : Int32} {a2 : Int32} {a3 : Int32} {a4 : Int32} {a5 : Int32} {s0 : Int32} : WP E d mTr_move 8 [.ref 1, .int a1, .int a2, .int a3, .int a4, .int a5] [.int s0] σ Q = (if s0 = 0 then WP E d mTr_move 49 [.ref 1, .int a1, .int a2, .int a3, .int a4, .int a5] [] σ Q else WP E d mTr_move 11 [.ref 1, .int a1, .int a2, .int a3, .int a4, .int a5] [] σ Q) := w_ifeq (t := 49) dTr_move_8 (by decide)
theorem bTr_move_11 {E : mEn} {d : Nat} {σ : mSt} {Q : mPost} {a1 : Int32} {a2 : Int32} {a3 : Int32} {a4 : Int32} {a5 : Int32} : WP E (d + 1) mTr_move 11 [.ref 1, .int a1, .int a2, .int a3, .int a4, .int a5] [] σ Q = WP E d mTr_hasRow 0 [.ref 1, .int a3, .int a4, .int a5] [] σ (fun r σ' => WP E (d + 1) mTr_move 20 [.ref 1, .int a1, .int a2, .int a3, .int a4, .int a5] (r.toList ++ []) σ' Q) := (w_aload_n dTr_move_11 rfl).trans ((w_iload_n dTr_move_12 rfl).trans ((w_iload dTr_move_13 rfl).trans ((w_iload dTr_move_15 rfl).trans (w_virt (vs := [.int a3, .int a4, .int a5]) (st' := []) (es := [.ref 1, .int a3, .int a4, .int a5]) dTr_move_17 rz9_39 rfl sh_1 rfl rfl rfl (Nat.le_of_ble_eq_true rfl) (Nat.le_of_ble_eq_true rfl) rfl))))
theorem bTr_move_20 {E : mEn} {d : Nat} {σ : mSt} {Q : mPost} {a1 : Int32} {a2 : Int32} {a3 : Int32} {a4 : Int32} {a5 : Int32} {s0 : Int32} : WP E d mTr_move 20 [.ref 1, .int a1, .int a2, .int a3, .int a4, .int a5] [.int s0] σ Q = (if s0 = 0 then WP E d mTr_move 49 [.ref 1, .int a1, .int a2, .int a3, .int a4, .int a5] [] σ Q else WP E d mTr_move 23 [.ref 1, .int a1, .int a2, .int a3, .int a4, .int a5] [] σ Q) := w_ifeq (t := 49) dTr_move_20 (by decide)
theorem bTr_move_23 {E : mEn} {d : Nat} {σ : mSt} {Q : mPost} {a1 : Int32} {a2 : Int32} {a3 : Int32} {a4 : Int32} {a5 : Int32} (hc0 : cpOk ((a1 * (nI 60)) + a2) ((a3 * (nI 60)) + a4) a5 240 240 = true) : WP E d mTr_move 23 [.ref 1, .int a1, .int a2, .int a3, .int a4, .int a5] [] σ Q = WP E d mTr_move 49 [.ref 1, .int a1, .int a2, .int a3, .int a4, .int a5] [] (cpL σ 2 2 ((a1 * (nI 60)) + a2).toNatClampNeg ((a3 * (nI 60)) + a4).toNatClampNeg a5.toNatClampNeg) Q := (w_aload_n dTr_move_23 rfl).trans ((w_getr (r := 2) dTr_move_24 rz9_11 sh_1 rfl).trans ((w_iload_n dTr_move_27 rfl).trans ((w_bipush (v := (nI 60)) dTr_move_28 rfl).trans ((w_imul dTr_move_30).trans ((w_iload_n dTr_move_31 rfl).trans ((w_iadd dTr_move_32).trans ((w_aload_n dTr_move_33 rfl).trans ((w_getr (r := 2) dTr_move_34 rz9_11 sh_1 rfl).trans ((w_iload_n dTr_move_37 rfl).trans ((w_bipush (v := (nI 60)) dTr_move_38 rfl).trans ((w_imul dTr_move_40).trans ((w_iload dTr_move_41 rfl).trans ((w_iadd dTr_move_43).trans ((w_iload dTr_move_44 rfl).trans (w_cpl dTr_move_46 rz9_47 sh_2 sh_2 hc0 (Nat.le_of_ble_eq_true rfl))))))))))))))))
theorem bTr_move_49 {E : mEn} {d : Nat} {σ : mSt} {Q : mPost} {a1 : Int32} {a2 : Int32} {a3 : Int32} {a4 : Int32} {a5 : Int32} : WP E d mTr_move 49 [.ref 1, .int a1, .int a2, .int a3, .int a4, .int a5] [] σ Q = Q none σ := w_vret dTr_move_49 rfl
theorem dTr_allWithin_0 : decode (mC mTr_allWithin) 0 = .ok (.iconst (0), 1) := by decide +kernel
theorem dTr_allWithin_1 : decode (mC mTr_allWithin) 1 = .ok (.istore 5, 2) := by decide +kernel
theorem dTr_allWithin_3 : decode (mC mTr_allWithin) 3 = .ok (.iload 5, 2) := by decide +kernel
theorem dTr_allWithin_5 : decode (mC mTr_allWithin) 5 = .ok (.iload_n 2, 1) := by decide +kernel
theorem dTr_allWithin_6 : decode (mC mTr_allWithin) 6 = .ok (.if_icmp .ge (42), 3) := by decide +kernel
theorem dTr_allWithin_9 : decode (mC mTr_allWithin) 9 = .ok (.iload 5, 2) := by decide +kernel
theorem dTr_allWithin_11 : decode (mC mTr_allWithin) 11 = .ok (.bipush (60), 2) := by decide +kernel
theorem dTr_allWithin_13 : decode (mC mTr_allWithin) 13 = .ok (.if_icmp .ge (35), 3) := by decide +kernel
theorem dTr_allWithin_16 : decode (mC mTr_allWithin) 16 = .ok (.aload_n 0, 1) := by decide +kernel
theorem dTr_allWithin_17 : decode (mC mTr_allWithin) 17 = .ok (.iload_n 1, 1) := by decide +kernel
theorem dTr_allWithin_18 : decode (mC mTr_allWithin) 18 = .ok (.iload 5, 2) := by decide +kernel
theorem dTr_allWithin_20 : decode (mC mTr_allWithin) 20 = .ok (.invokevirtual 53, 3) := by decide +kernel
theorem dTr_allWithin_23 : decode (mC mTr_allWithin) 23 = .ok (.lconst 0, 1) := by decide +kernel
theorem dTr_allWithin_24 : decode (mC mTr_allWithin) 24 = .ok (.lcmp, 1) := by decide +kernel
theorem dTr_allWithin_25 : decode (mC mTr_allWithin) 25 = .ok (.ifCond .lt (15), 3) := by decide +kernel
theorem dTr_allWithin_28 : decode (mC mTr_allWithin) 28 = .ok (.aload_n 0, 1) := by decide +kernel
theorem dTr_allWithin_29 : decode (mC mTr_allWithin) 29 = .ok (.iload_n 1, 1) := by decide +kernel
theorem dTr_allWithin_30 : decode (mC mTr_allWithin) 30 = .ok (.iload 5, 2) := by decide +kernel
theorem dTr_allWithin_32 : decode (mC mTr_allWithin) 32 = .ok (.invokevirtual 53, 3) := by decide +kernel
theorem dTr_allWithin_35 : decode (mC mTr_allWithin) 35 = .ok (.lload_n 3, 1) := by decide +kernel
theorem dTr_allWithin_36 : decode (mC mTr_allWithin) 36 = .ok (.lcmp, 1) := by decide +kernel
theorem dTr_allWithin_37 : decode (mC mTr_allWithin) 37 = .ok (.ifCond .le (5), 3) := by decide +kernel
theorem dTr_allWithin_40 : decode (mC mTr_allWithin) 40 = .ok (.iconst (0), 1) := by decide +kernel
theorem dTr_allWithin_41 : decode (mC mTr_allWithin) 41 = .ok (.ireturn, 1) := by decide +kernel
theorem dTr_allWithin_42 : decode (mC mTr_allWithin) 42 = .ok (.iinc 5 (1), 3) := by decide +kernel
theorem dTr_allWithin_45 : decode (mC mTr_allWithin) 45 = .ok (.goto (-42), 3) := by decide +kernel
theorem dTr_allWithin_48 : decode (mC mTr_allWithin) 48 = .ok (.iconst (1), 1) := by decide +kernel
theorem dTr_allWithin_49 : decode (mC mTr_allWithin) 49 = .ok (.ireturn, 1) := by decide +kernel
theorem bTr_allWithin_0 {E : mEn} {d : Nat} {σ : mSt} {Q : mPost} {a1 : Int32} {a2 : Int32} {j3 : Int64} {u5 : Value} : WP E d mTr_allWithin 0 [.ref 1, .int a1, .int a2, .long j3, uu, u5] [] σ Q = WP E d mTr_allWithin 3 [.ref 1, .int a1, .int a2, .long j3, uu, .int 0] [] σ Q := (w_iconst (v := 0) dTr_allWithin_0 rfl).trans (w_istore (ls' := [.ref 1, .int a1, .int a2, .long j3, uu, .int 0]) dTr_allWithin_1 (Nat.le_of_ble_eq_true rfl) rfl)
theorem bTr_allWithin_3 {E : mEn} {d : Nat} {σ : mSt} {Q : mPost} {a1 : Int32} {a2 : Int32} {j3 : Int64} {a5 : Int32} : WP E d mTr_allWithin 3 [.ref 1, .int a1, .int a2, .long j3, uu, .int a5] [] σ Q = (if a2 ≤ a5 then WP E d mTr_allWithin 48 [.ref 1, .int a1, .int a2, .long j3, uu, .int a5] [] σ Q else WP E d mTr_allWithin 9 [.ref 1, .int a1, .int a2, .long j3, uu, .int a5] [] σ Q) := (w_iload dTr_allWithin_3 rfl).trans ((w_iload_n dTr_allWithin_5 rfl).trans (w_icmpge (t := 48) dTr_allWithin_6 (by decide)))
theorem bTr_allWithin_9 {E : mEn} {d : Nat} {σ : mSt} {Q : mPost} {a1 : Int32} {a2 : Int32} {j3 : Int64} {a5 : Int32} : WP E d mTr_allWithin 9 [.ref 1, .int a1, .int a2, .long j3, uu, .int a5] [] σ Q = (if (nI 60) ≤ a5 then WP E d mTr_allWithin 48 [.ref 1, .int a1, .int a2, .long j3, uu, .int a5] [] σ Q else WP E d mTr_allWithin 16 [.ref 1, .int a1, .int a2, .long j3, uu, .int a5] [] σ Q) := (w_iload dTr_allWithin_9 rfl).trans ((w_bipush (v := (nI 60)) dTr_allWithin_11 rfl).trans (w_icmpge (t := 48) dTr_allWithin_13 (by decide)))
theorem bTr_allWithin_16 {E : mEn} {d : Nat} {σ : mSt} {Q : mPost} {a1 : Int32} {a2 : Int32} {j3 : Int64} {a5 : Int32} : WP E (d + 1) mTr_allWithin 16 [.ref 1, .int a1, .int a2, .long j3, uu, .int a5] [] σ Q = WP E d mTr_at 0 [.ref 1, .int a1, .int a5] [] σ (fun r σ' => WP E (d + 1) mTr_allWithin 23 [.ref 1, .int a1, .int a2, .long j3, uu, .int a5] (r.toList ++ []) σ' Q) := (w_aload_n dTr_allWithin_16 rfl).trans ((w_iload_n dTr_allWithin_17 rfl).trans ((w_iload dTr_allWithin_18 rfl).trans (w_virt (vs := [.int a1, .int a5]) (st' := []) (es := [.ref 1, .int a1, .int a5]) dTr_allWithin_20 rz9_53 rfl sh_1 rfl rfl rfl (Nat.le_of_ble_eq_true rfl) (Nat.le_of_ble_eq_true rfl) rfl)))
theorem bTr_allWithin_23 {E : mEn} {d : Nat} {σ : mSt} {Q : mPost} {a1 : Int32} {a2 : Int32} {j3 : Int64} {a5 : Int32} {q0 : Int64} : WP E d mTr_allWithin 23 [.ref 1, .int a1, .int a2, .long j3, uu, .int a5] [.long q0] σ Q = (if (lg_cmp q0 0) < 0 then WP E d mTr_allWithin 40 [.ref 1, .int a1, .int a2, .long j3, uu, .int a5] [] σ Q else WP E d mTr_allWithin 28 [.ref 1, .int a1, .int a2, .long j3, uu, .int a5] [] σ Q) := (w_lconst (v := 0) dTr_allWithin_23 rfl).trans ((w_lcmp dTr_allWithin_24).trans (w_iflt (t := 40) dTr_allWithin_25 (by decide)))
theorem bTr_allWithin_28 {E : mEn} {d : Nat} {σ : mSt} {Q : mPost} {a1 : Int32} {a2 : Int32} {j3 : Int64} {a5 : Int32} : WP E (d + 1) mTr_allWithin 28 [.ref 1, .int a1, .int a2, .long j3, uu, .int a5] [] σ Q = WP E d mTr_at 0 [.ref 1, .int a1, .int a5] [] σ (fun r σ' => WP E (d + 1) mTr_allWithin 35 [.ref 1, .int a1, .int a2, .long j3, uu, .int a5] (r.toList ++ []) σ' Q) := (w_aload_n dTr_allWithin_28 rfl).trans ((w_iload_n dTr_allWithin_29 rfl).trans ((w_iload dTr_allWithin_30 rfl).trans (w_virt (vs := [.int a1, .int a5]) (st' := []) (es := [.ref 1, .int a1, .int a5]) dTr_allWithin_32 rz9_53 rfl sh_1 rfl rfl rfl (Nat.le_of_ble_eq_true rfl) (Nat.le_of_ble_eq_true rfl) rfl)))
theorem bTr_allWithin_35 {E : mEn} {d : Nat} {σ : mSt} {Q : mPost} {a1 : Int32} {a2 : Int32} {j3 : Int64} {a5 : Int32} {q0 : Int64} : WP E d mTr_allWithin 35 [.ref 1, .int a1, .int a2, .long j3, uu, .int a5] [.long q0] σ Q = (if (lg_cmp q0 j3) ≤ 0 then WP E d mTr_allWithin 42 [.ref 1, .int a1, .int a2, .long j3, uu, .int a5] [] σ Q else WP E d mTr_allWithin 40 [.ref 1, .int a1, .int a2, .long j3, uu, .int a5] [] σ Q) := (w_lload_n dTr_allWithin_35 rfl).trans ((w_lcmp dTr_allWithin_36).trans (w_ifle (t := 42) dTr_allWithin_37 (by decide)))
theorem bTr_allWithin_40 {E : mEn} {d : Nat} {σ : mSt} {Q : mPost} {a1 : Int32} {a2 : Int32} {j3 : Int64} {a5 : Int32} : WP E d mTr_allWithin 40 [.ref 1, .int a1, .int a2, .long j3, uu, .int a5] [] σ Q = Q (some (.int 0)) σ := (w_iconst (v := 0) dTr_allWithin_40 rfl).trans (w_zret dTr_allWithin_41 rfl (Or.inl rfl))
theorem bTr_allWithin_42 {E : mEn} {d : Nat} {σ : mSt} {Q : mPost} {a1 : Int32} {a2 : Int32} {j3 : Int64} {a5 : Int32} : WP E d mTr_allWithin 42 [.ref 1, .int a1, .int a2, .long j3, uu, .int a5] [] σ Q = WP E d mTr_allWithin 3 [.ref 1, .int a1, .int a2, .long j3, uu, .int (a5 + 1)] [] σ Q := (w_iinc (v := 1) (ls' := [.ref 1, .int a1, .int a2, .long j3, uu, .int (a5 + 1)]) dTr_allWithin_42 rfl rfl rfl).trans (w_goto (t := 3) dTr_allWithin_45 (by decide))
theorem bTr_allWithin_48 {E : mEn} {d : Nat} {σ : mSt} {Q : mPost} {a1 : Int32} {a2 : Int32} {j3 : Int64} {a5 : Int32} : WP E d mTr_allWithin 48 [.ref 1, .int a1, .int a2, .long j3, uu, .int a5] [] σ Q = Q (some (.int 1)) σ := (w_iconst (v := 1) dTr_allWithin_48 rfl).trans (w_zret dTr_allWithin_49 rfl (Or.inr rfl))
theorem dTr_placeOfMost_0 : decode (mC mTr_placeOfMost) 0 = .ok (.iconst (-1), 1) := by decide +kernel
theorem dTr_placeOfMost_1 : decode (mC mTr_placeOfMost) 1 = .ok (.istore 4, 2) := by decide +kernel
theorem dTr_placeOfMost_3 : decode (mC mTr_placeOfMost) 3 = .ok (.iconst (0), 1) := by decide +kernel
theorem dTr_placeOfMost_4 : decode (mC mTr_placeOfMost) 4 = .ok (.istore 5, 2) := by decide +kernel
theorem dTr_placeOfMost_6 : decode (mC mTr_placeOfMost) 6 = .ok (.iload 5, 2) := by decide +kernel
theorem dTr_placeOfMost_8 : decode (mC mTr_placeOfMost) 8 = .ok (.iload_n 2, 1) := by decide +kernel
theorem dTr_placeOfMost_9 : decode (mC mTr_placeOfMost) 9 = .ok (.if_icmp .ge (50), 3) := by decide +kernel
theorem dTr_placeOfMost_12 : decode (mC mTr_placeOfMost) 12 = .ok (.iload 5, 2) := by decide +kernel
theorem dTr_placeOfMost_14 : decode (mC mTr_placeOfMost) 14 = .ok (.bipush (60), 2) := by decide +kernel
theorem dTr_placeOfMost_16 : decode (mC mTr_placeOfMost) 16 = .ok (.if_icmp .ge (43), 3) := by decide +kernel
theorem dTr_placeOfMost_19 : decode (mC mTr_placeOfMost) 19 = .ok (.iload 5, 2) := by decide +kernel
theorem dTr_placeOfMost_21 : decode (mC mTr_placeOfMost) 21 = .ok (.iload_n 3, 1) := by decide +kernel
theorem dTr_placeOfMost_22 : decode (mC mTr_placeOfMost) 22 = .ok (.if_icmp .eq (31), 3) := by decide +kernel
theorem dTr_placeOfMost_25 : decode (mC mTr_placeOfMost) 25 = .ok (.iload 4, 2) := by decide +kernel
theorem dTr_placeOfMost_27 : decode (mC mTr_placeOfMost) 27 = .ok (.iconst (-1), 1) := by decide +kernel
theorem dTr_placeOfMost_28 : decode (mC mTr_placeOfMost) 28 = .ok (.if_icmp .eq (21), 3) := by decide +kernel
theorem dTr_placeOfMost_31 : decode (mC mTr_placeOfMost) 31 = .ok (.aload_n 0, 1) := by decide +kernel
theorem dTr_placeOfMost_32 : decode (mC mTr_placeOfMost) 32 = .ok (.iload_n 1, 1) := by decide +kernel
theorem dTr_placeOfMost_33 : decode (mC mTr_placeOfMost) 33 = .ok (.iload 5, 2) := by decide +kernel
theorem dTr_placeOfMost_35 : decode (mC mTr_placeOfMost) 35 = .ok (.invokevirtual 53, 3) := by decide +kernel
theorem dTr_placeOfMost_38 : decode (mC mTr_placeOfMost) 38 = .ok (.aload_n 0, 1) := by decide +kernel
theorem dTr_placeOfMost_39 : decode (mC mTr_placeOfMost) 39 = .ok (.iload_n 1, 1) := by decide +kernel
theorem dTr_placeOfMost_40 : decode (mC mTr_placeOfMost) 40 = .ok (.iload 4, 2) := by decide +kernel
theorem dTr_placeOfMost_42 : decode (mC mTr_placeOfMost) 42 = .ok (.invokevirtual 53, 3) := by decide +kernel
theorem dTr_placeOfMost_45 : decode (mC mTr_placeOfMost) 45 = .ok (.lcmp, 1) := by decide +kernel
theorem dTr_placeOfMost_46 : decode (mC mTr_placeOfMost) 46 = .ok (.ifCond .le (7), 3) := by decide +kernel
theorem dTr_placeOfMost_49 : decode (mC mTr_placeOfMost) 49 = .ok (.iload 5, 2) := by decide +kernel
theorem dTr_placeOfMost_51 : decode (mC mTr_placeOfMost) 51 = .ok (.istore 4, 2) := by decide +kernel
theorem dTr_placeOfMost_53 : decode (mC mTr_placeOfMost) 53 = .ok (.iinc 5 (1), 3) := by decide +kernel
theorem dTr_placeOfMost_56 : decode (mC mTr_placeOfMost) 56 = .ok (.goto (-50), 3) := by decide +kernel
theorem dTr_placeOfMost_59 : decode (mC mTr_placeOfMost) 59 = .ok (.iload 4, 2) := by decide +kernel
theorem dTr_placeOfMost_61 : decode (mC mTr_placeOfMost) 61 = .ok (.ireturn, 1) := by decide +kernel
theorem bTr_placeOfMost_0 {E : mEn} {d : Nat} {σ : mSt} {Q : mPost} {a1 : Int32} {a2 : Int32} {a3 : Int32} {u4 : Value} {u5 : Value} : WP E d mTr_placeOfMost 0 [.ref 1, .int a1, .int a2, .int a3, u4, u5] [] σ Q = WP E d mTr_placeOfMost 6 [.ref 1, .int a1, .int a2, .int a3, .int (-1), .int 0] [] σ Q := (w_iconst (v := (-1)) dTr_placeOfMost_0 rfl).trans ((w_istore (ls' := [.ref 1, .int a1, .int a2, .int a3, .int (-1), u5]) dTr_placeOfMost_1 (Nat.le_of_ble_eq_true rfl) rfl).trans ((w_iconst (v := 0) dTr_placeOfMost_3 rfl).trans (w_istore (ls' := [.ref 1, .int a1, .int a2, .int a3, .int (-1), .int 0]) dTr_placeOfMost_4 (Nat.le_of_ble_eq_true rfl) rfl)))
theorem bTr_placeOfMost_6 {E : mEn} {d : Nat} {σ : mSt} {Q : mPost} {a1 : Int32} {a2 : Int32} {a3 : Int32} {a4 : Int32} {a5 : Int32} : WP E d mTr_placeOfMost 6 [.ref 1, .int a1, .int a2, .int a3, .int a4, .int a5] [] σ Q = (if a2 ≤ a5 then WP E d mTr_placeOfMost 59 [.ref 1, .int a1, .int a2, .int a3, .int a4, .int a5] [] σ Q else WP E d mTr_placeOfMost 12 [.ref 1, .int a1, .int a2, .int a3, .int a4, .int a5] [] σ Q) := (w_iload dTr_placeOfMost_6 rfl).trans ((w_iload_n dTr_placeOfMost_8 rfl).trans (w_icmpge (t := 59) dTr_placeOfMost_9 (by decide)))
theorem bTr_placeOfMost_12 {E : mEn} {d : Nat} {σ : mSt} {Q : mPost} {a1 : Int32} {a2 : Int32} {a3 : Int32} {a4 : Int32} {a5 : Int32} : WP E d mTr_placeOfMost 12 [.ref 1, .int a1, .int a2, .int a3, .int a4, .int a5] [] σ Q = (if (nI 60) ≤ a5 then WP E d mTr_placeOfMost 59 [.ref 1, .int a1, .int a2, .int a3, .int a4, .int a5] [] σ Q else WP E d mTr_placeOfMost 19 [.ref 1, .int a1, .int a2, .int a3, .int a4, .int a5] [] σ Q) := (w_iload dTr_placeOfMost_12 rfl).trans ((w_bipush (v := (nI 60)) dTr_placeOfMost_14 rfl).trans (w_icmpge (t := 59) dTr_placeOfMost_16 (by decide)))
theorem bTr_placeOfMost_19 {E : mEn} {d : Nat} {σ : mSt} {Q : mPost} {a1 : Int32} {a2 : Int32} {a3 : Int32} {a4 : Int32} {a5 : Int32} : WP E d mTr_placeOfMost 19 [.ref 1, .int a1, .int a2, .int a3, .int a4, .int a5] [] σ Q = (if a5 = a3 then WP E d mTr_placeOfMost 53 [.ref 1, .int a1, .int a2, .int a3, .int a4, .int a5] [] σ Q else WP E d mTr_placeOfMost 25 [.ref 1, .int a1, .int a2, .int a3, .int a4, .int a5] [] σ Q) := (w_iload dTr_placeOfMost_19 rfl).trans ((w_iload_n dTr_placeOfMost_21 rfl).trans (w_icmpeq (t := 53) dTr_placeOfMost_22 (by decide)))
theorem bTr_placeOfMost_25 {E : mEn} {d : Nat} {σ : mSt} {Q : mPost} {a1 : Int32} {a2 : Int32} {a3 : Int32} {a4 : Int32} {a5 : Int32} : WP E d mTr_placeOfMost 25 [.ref 1, .int a1, .int a2, .int a3, .int a4, .int a5] [] σ Q = (if a4 = (-1) then WP E d mTr_placeOfMost 49 [.ref 1, .int a1, .int a2, .int a3, .int a4, .int a5] [] σ Q else WP E d mTr_placeOfMost 31 [.ref 1, .int a1, .int a2, .int a3, .int a4, .int a5] [] σ Q) := (w_iload dTr_placeOfMost_25 rfl).trans ((w_iconst (v := (-1)) dTr_placeOfMost_27 rfl).trans (w_icmpeq (t := 49) dTr_placeOfMost_28 (by decide)))
theorem bTr_placeOfMost_31 {E : mEn} {d : Nat} {σ : mSt} {Q : mPost} {a1 : Int32} {a2 : Int32} {a3 : Int32} {a4 : Int32} {a5 : Int32} : WP E (d + 1) mTr_placeOfMost 31 [.ref 1, .int a1, .int a2, .int a3, .int a4, .int a5] [] σ Q = WP E d mTr_at 0 [.ref 1, .int a1, .int a5] [] σ (fun r σ' => WP E (d + 1) mTr_placeOfMost 38 [.ref 1, .int a1, .int a2, .int a3, .int a4, .int a5] (r.toList ++ []) σ' Q) := (w_aload_n dTr_placeOfMost_31 rfl).trans ((w_iload_n dTr_placeOfMost_32 rfl).trans ((w_iload dTr_placeOfMost_33 rfl).trans (w_virt (vs := [.int a1, .int a5]) (st' := []) (es := [.ref 1, .int a1, .int a5]) dTr_placeOfMost_35 rz9_53 rfl sh_1 rfl rfl rfl (Nat.le_of_ble_eq_true rfl) (Nat.le_of_ble_eq_true rfl) rfl)))
theorem bTr_placeOfMost_38 {E : mEn} {d : Nat} {σ : mSt} {Q : mPost} {a1 : Int32} {a2 : Int32} {a3 : Int32} {a4 : Int32} {a5 : Int32} {q0 : Int64} : WP E (d + 1) mTr_placeOfMost 38 [.ref 1, .int a1, .int a2, .int a3, .int a4, .int a5] [.long q0] σ Q = WP E d mTr_at 0 [.ref 1, .int a1, .int a4] [] σ (fun r σ' => WP E (d + 1) mTr_placeOfMost 45 [.ref 1, .int a1, .int a2, .int a3, .int a4, .int a5] (r.toList ++ [.long q0]) σ' Q) := (w_aload_n dTr_placeOfMost_38 rfl).trans ((w_iload_n dTr_placeOfMost_39 rfl).trans ((w_iload dTr_placeOfMost_40 rfl).trans (w_virt (vs := [.int a1, .int a4]) (st' := [.long q0]) (es := [.ref 1, .int a1, .int a4]) dTr_placeOfMost_42 rz9_53 rfl sh_1 rfl rfl rfl (Nat.le_of_ble_eq_true rfl) (Nat.le_of_ble_eq_true rfl) rfl)))
theorem bTr_placeOfMost_45 {E : mEn} {d : Nat} {σ : mSt} {Q : mPost} {a1 : Int32} {a2 : Int32} {a3 : Int32} {a4 : Int32} {a5 : Int32} {q0 : Int64} {q1 : Int64} : WP E d mTr_placeOfMost 45 [.ref 1, .int a1, .int a2, .int a3, .int a4, .int a5] [.long q0, .long q1] σ Q = (if (lg_cmp q1 q0) ≤ 0 then WP E d mTr_placeOfMost 53 [.ref 1, .int a1, .int a2, .int a3, .int a4, .int a5] [] σ Q else WP E d mTr_placeOfMost 49 [.ref 1, .int a1, .int a2, .int a3, .int a4, .int a5] [] σ Q) := (w_lcmp dTr_placeOfMost_45).trans (w_ifle (t := 53) dTr_placeOfMost_46 (by decide))
theorem bTr_placeOfMost_49 {E : mEn} {d : Nat} {σ : mSt} {Q : mPost} {a1 : Int32} {a2 : Int32} {a3 : Int32} {a4 : Int32} {a5 : Int32} : WP E d mTr_placeOfMost 49 [.ref 1, .int a1, .int a2, .int a3, .int a4, .int a5] [] σ Q = WP E d mTr_placeOfMost 53 [.ref 1, .int a1, .int a2, .int a3, .int a5, .int a5] [] σ Q := (w_iload dTr_placeOfMost_49 rfl).trans (w_istore (ls' := [.ref 1, .int a1, .int a2, .int a3, .int a5, .int a5]) dTr_placeOfMost_51 (Nat.le_of_ble_eq_true rfl) rfl)
theorem bTr_placeOfMost_53 {E : mEn} {d : Nat} {σ : mSt} {Q : mPost} {a1 : Int32} {a2 : Int32} {a3 : Int32} {a4 : Int32} {a5 : Int32} : WP E d mTr_placeOfMost 53 [.ref 1, .int a1, .int a2, .int a3, .int a4, .int a5] [] σ Q = WP E d mTr_placeOfMost 6 [.ref 1, .int a1, .int a2, .int a3, .int a4, .int (a5 + 1)] [] σ Q := (w_iinc (v := 1) (ls' := [.ref 1, .int a1, .int a2, .int a3, .int a4, .int (a5 + 1)]) dTr_placeOfMost_53 rfl rfl rfl).trans (w_goto (t := 6) dTr_placeOfMost_56 (by decide))
theorem bTr_placeOfMost_59 {E : mEn} {d : Nat} {σ : mSt} {Q : mPost} {a1 : Int32} {a2 : Int32} {a3 : Int32} {a4 : Int32} {a5 : Int32} : WP E d mTr_placeOfMost 59 [.ref 1, .int a1, .int a2, .int a3, .int a4, .int a5] [] σ Q = Q (some (.int a4)) σ := (w_iload dTr_placeOfMost_59 rfl).trans (w_iret dTr_placeOfMost_61 rfl)
