theorem dPb_saved_0 : decode (mC mPb_saved) 0 = .ok (.aload_n 0, 1) := by decide +kernel
theorem dPb_saved_1 : decode (mC mPb_saved) 1 = .ok (.getfield 26, 3) := by decide +kernel
theorem dPb_saved_4 : decode (mC mPb_saved) 4 = .ok (.iload_n 1, 1) := by decide +kernel
theorem dPb_saved_5 : decode (mC mPb_saved) 5 = .ok (.invokevirtual 205, 3) := by decide +kernel
theorem dPb_saved_8 : decode (mC mPb_saved) 8 = .ok (.ifCond .ne (9), 3) := by decide +kernel
theorem dPb_saved_11 : decode (mC mPb_saved) 11 = .ok (.aload_n 0, 1) := by decide +kernel
theorem dPb_saved_12 : decode (mC mPb_saved) 12 = .ok (.iconst (2), 1) := by decide +kernel
theorem dPb_saved_13 : decode (mC mPb_saved) 13 = .ok (.invokevirtual 104, 3) := by decide +kernel
theorem dPb_saved_16 : decode (mC mPb_saved) 16 = .ok (.ireturn, 1) := by decide +kernel
theorem dPb_saved_17 : decode (mC mPb_saved) 17 = .ok (.iload_n 2, 1) := by decide +kernel
theorem dPb_saved_18 : decode (mC mPb_saved) 18 = .ok (.iconst (1), 1) := by decide +kernel
theorem dPb_saved_19 : decode (mC mPb_saved) 19 = .ok (.if_icmp .lt (19), 3) := by decide +kernel
theorem dPb_saved_22 : decode (mC mPb_saved) 22 = .ok (.iload_n 2, 1) := by decide +kernel
theorem dPb_saved_23 : decode (mC mPb_saved) 23 = .ok (.sipush (999), 3) := by decide +kernel
theorem dPb_saved_26 : decode (mC mPb_saved) 26 = .ok (.if_icmp .gt (12), 3) := by decide +kernel
theorem dPb_saved_29 : decode (mC mPb_saved) 29 = .ok (.iload_n 3, 1) := by decide +kernel
theorem dPb_saved_30 : decode (mC mPb_saved) 30 = .ok (.ifCond .lt (8), 3) := by decide +kernel
theorem dPb_saved_33 : decode (mC mPb_saved) 33 = .ok (.iload_n 3, 1) := by decide +kernel
theorem dPb_saved_34 : decode (mC mPb_saved) 34 = .ok (.iconst (1), 1) := by decide +kernel
theorem dPb_saved_35 : decode (mC mPb_saved) 35 = .ok (.if_icmp .le (9), 3) := by decide +kernel
theorem dPb_saved_38 : decode (mC mPb_saved) 38 = .ok (.aload_n 0, 1) := by decide +kernel
theorem dPb_saved_39 : decode (mC mPb_saved) 39 = .ok (.iconst (5), 1) := by decide +kernel
theorem dPb_saved_40 : decode (mC mPb_saved) 40 = .ok (.invokevirtual 104, 3) := by decide +kernel
theorem dPb_saved_43 : decode (mC mPb_saved) 43 = .ok (.ireturn, 1) := by decide +kernel
theorem dPb_saved_44 : decode (mC mPb_saved) 44 = .ok (.aload_n 0, 1) := by decide +kernel
theorem dPb_saved_45 : decode (mC mPb_saved) 45 = .ok (.getfield 40, 3) := by decide +kernel
theorem dPb_saved_48 : decode (mC mPb_saved) 48 = .ok (.aload_n 0, 1) := by decide +kernel
theorem dPb_saved_49 : decode (mC mPb_saved) 49 = .ok (.getfield 26, 3) := by decide +kernel
theorem dPb_saved_52 : decode (mC mPb_saved) 52 = .ok (.iload_n 1, 1) := by decide +kernel
theorem dPb_saved_53 : decode (mC mPb_saved) 53 = .ok (.invokevirtual 340, 3) := by decide +kernel
theorem dPb_saved_56 : decode (mC mPb_saved) 56 = .ok (.aload_n 0, 1) := by decide +kernel
theorem dPb_saved_57 : decode (mC mPb_saved) 57 = .ok (.getfield 40, 3) := by decide +kernel
theorem dPb_saved_60 : decode (mC mPb_saved) 60 = .ok (.aload_n 0, 1) := by decide +kernel
theorem dPb_saved_61 : decode (mC mPb_saved) 61 = .ok (.getfield 26, 3) := by decide +kernel
theorem dPb_saved_64 : decode (mC mPb_saved) 64 = .ok (.iload_n 2, 1) := by decide +kernel
theorem dPb_saved_65 : decode (mC mPb_saved) 65 = .ok (.invokevirtual 343, 3) := by decide +kernel
theorem dPb_saved_68 : decode (mC mPb_saved) 68 = .ok (.istore 4, 2) := by decide +kernel
theorem dPb_saved_70 : decode (mC mPb_saved) 70 = .ok (.iload 4, 2) := by decide +kernel
theorem dPb_saved_72 : decode (mC mPb_saved) 72 = .ok (.iconst (-1), 1) := by decide +kernel
theorem dPb_saved_73 : decode (mC mPb_saved) 73 = .ok (.if_icmp .ne (10), 3) := by decide +kernel
theorem dPb_saved_76 : decode (mC mPb_saved) 76 = .ok (.aload_n 0, 1) := by decide +kernel
theorem dPb_saved_77 : decode (mC mPb_saved) 77 = .ok (.bipush (9), 2) := by decide +kernel
theorem dPb_saved_79 : decode (mC mPb_saved) 79 = .ok (.invokevirtual 104, 3) := by decide +kernel
theorem dPb_saved_82 : decode (mC mPb_saved) 82 = .ok (.ireturn, 1) := by decide +kernel
theorem dPb_saved_83 : decode (mC mPb_saved) 83 = .ok (.aload_n 0, 1) := by decide +kernel
theorem dPb_saved_84 : decode (mC mPb_saved) 84 = .ok (.iload_n 3, 1) := by decide +kernel
theorem dPb_saved_85 : decode (mC mPb_saved) 85 = .ok (.iconst (1), 1) := by decide +kernel
theorem dPb_saved_86 : decode (mC mPb_saved) 86 = .ok (.if_icmp .ne (8), 3) := by decide +kernel
theorem dPb_saved_89 : decode (mC mPb_saved) 89 = .ok (.iload 4, 2) := by decide +kernel
theorem dPb_saved_91 : decode (mC mPb_saved) 91 = .ok (.goto (12), 3) := by decide +kernel
theorem dPb_saved_94 : decode (mC mPb_saved) 94 = .ok (.aload_n 0, 1) := by decide +kernel
theorem dPb_saved_95 : decode (mC mPb_saved) 95 = .ok (.getfield 26, 3) := by decide +kernel
theorem dPb_saved_98 : decode (mC mPb_saved) 98 = .ok (.iload 4, 2) := by decide +kernel
theorem dPb_saved_100 : decode (mC mPb_saved) 100 = .ok (.invokevirtual 347, 3) := by decide +kernel
theorem dPb_saved_103 : decode (mC mPb_saved) 103 = .ok (.invokevirtual 157, 3) := by decide +kernel
theorem dPb_saved_106 : decode (mC mPb_saved) 106 = .ok (.ireturn, 1) := by decide +kernel
theorem bPb_saved_0 {E : mEn} {d : Nat} {σ : mSt} {Q : mPost} {a1 : Int32} {a2 : Int32} {a3 : Int32} {u4 : Value} : WP E (d + 1) mPb_saved 0 [.ref 0, .int a1, .int a2, .int a3, u4] [] σ Q = WP E d mTw_hasPerson 0 [.ref 10, .int a1] [] σ (fun r σ' => WP E (d + 1) mPb_saved 8 [.ref 0, .int a1, .int a2, .int a3, u4] (r.toList ++ []) σ' Q) := (w_aload_n dPb_saved_0 rfl).trans ((w_getr (r := 10) dPb_saved_1 rz10_26 sh_0 rfl).trans ((w_iload_n dPb_saved_4 rfl).trans (w_virt (vs := [.int a1]) (st' := []) (es := [.ref 10, .int a1]) dPb_saved_5 rz10_205 rfl sh_10 rfl rfl rfl (Nat.le_of_ble_eq_true rfl) (Nat.le_of_ble_eq_true rfl) rfl)))
theorem bPb_saved_8 {E : mEn} {d : Nat} {σ : mSt} {Q : mPost} {a1 : Int32} {a2 : Int32} {a3 : Int32} {u4 : Value} {s0 : Int32} : WP E d mPb_saved 8 [.ref 0, .int a1, .int a2, .int a3, u4] [.int s0] σ Q = (if ¬ s0 = 0 then WP E d mPb_saved 17 [.ref 0, .int a1, .int a2, .int a3, u4] [] σ Q else WP E d mPb_saved 11 [.ref 0, .int a1, .int a2, .int a3, u4] [] σ Q) := w_ifne (t := 17) dPb_saved_8 (by decide)
theorem bPb_saved_11 {E : mEn} {d : Nat} {σ : mSt} {Q : mPost} {a1 : Int32} {a2 : Int32} {a3 : Int32} {u4 : Value} : WP E (d + 1) mPb_saved 11 [.ref 0, .int a1, .int a2, .int a3, u4] [] σ Q = WP E d mPb_refuse 0 [.ref 0, .int (nI 2)] [] σ (fun r σ' => WP E (d + 1) mPb_saved 16 [.ref 0, .int a1, .int a2, .int a3, u4] (r.toList ++ []) σ' Q) := (w_aload_n dPb_saved_11 rfl).trans ((w_iconst (v := (nI 2)) dPb_saved_12 rfl).trans (w_virt (vs := [.int (nI 2)]) (st' := []) (es := [.ref 0, .int (nI 2)]) dPb_saved_13 rz10_104 rfl sh_0 rfl rfl rfl (Nat.le_of_ble_eq_true rfl) (Nat.le_of_ble_eq_true rfl) rfl))
theorem bPb_saved_16 {E : mEn} {d : Nat} {σ : mSt} {Q : mPost} {a1 : Int32} {a2 : Int32} {a3 : Int32} {u4 : Value} {s0 : Int32} : WP E d mPb_saved 16 [.ref 0, .int a1, .int a2, .int a3, u4] [.int s0] σ Q = Q (some (.int s0)) σ := w_iret dPb_saved_16 rfl
theorem bPb_saved_17 {E : mEn} {d : Nat} {σ : mSt} {Q : mPost} {a1 : Int32} {a2 : Int32} {a3 : Int32} {u4 : Value} : WP E d mPb_saved 17 [.ref 0, .int a1, .int a2, .int a3, u4] [] σ Q = (if a2 < 1 then WP E d mPb_saved 38 [.ref 0, .int a1, .int a2, .int a3, u4] [] σ Q else WP E d mPb_saved 22 [.ref 0, .int a1, .int a2, .int a3, u4] [] σ Q) := (w_iload_n dPb_saved_17 rfl).trans ((w_iconst (v := 1) dPb_saved_18 rfl).trans (w_icmplt (t := 38) dPb_saved_19 (by decide)))
theorem bPb_saved_22 {E : mEn} {d : Nat} {σ : mSt} {Q : mPost} {a1 : Int32} {a2 : Int32} {a3 : Int32} {u4 : Value} : WP E d mPb_saved 22 [.ref 0, .int a1, .int a2, .int a3, u4] [] σ Q = (if (nI 999) < a2 then WP E d mPb_saved 38 [.ref 0, .int a1, .int a2, .int a3, u4] [] σ Q else WP E d mPb_saved 29 [.ref 0, .int a1, .int a2, .int a3, u4] [] σ Q) := (w_iload_n dPb_saved_22 rfl).trans ((w_sipush (v := (nI 999)) dPb_saved_23 rfl).trans (w_icmpgt (t := 38) dPb_saved_26 (by decide)))
theorem bPb_saved_29 {E : mEn} {d : Nat} {σ : mSt} {Q : mPost} {a1 : Int32} {a2 : Int32} {a3 : Int32} {u4 : Value} : WP E d mPb_saved 29 [.ref 0, .int a1, .int a2, .int a3, u4] [] σ Q = (if a3 < 0 then WP E d mPb_saved 38 [.ref 0, .int a1, .int a2, .int a3, u4] [] σ Q else WP E d mPb_saved 33 [.ref 0, .int a1, .int a2, .int a3, u4] [] σ Q) := (w_iload_n dPb_saved_29 rfl).trans (w_iflt (t := 38) dPb_saved_30 (by decide))
theorem bPb_saved_33 {E : mEn} {d : Nat} {σ : mSt} {Q : mPost} {a1 : Int32} {a2 : Int32} {a3 : Int32} {u4 : Value} : WP E d mPb_saved 33 [.ref 0, .int a1, .int a2, .int a3, u4] [] σ Q = (if a3 ≤ 1 then WP E d mPb_saved 44 [.ref 0, .int a1, .int a2, .int a3, u4] [] σ Q else WP E d mPb_saved 38 [.ref 0, .int a1, .int a2, .int a3, u4] [] σ Q) := (w_iload_n dPb_saved_33 rfl).trans ((w_iconst (v := 1) dPb_saved_34 rfl).trans (w_icmple (t := 44) dPb_saved_35 (by decide)))
theorem bPb_saved_38 {E : mEn} {d : Nat} {σ : mSt} {Q : mPost} {a1 : Int32} {a2 : Int32} {a3 : Int32} {u4 : Value} : WP E (d + 1) mPb_saved 38 [.ref 0, .int a1, .int a2, .int a3, u4] [] σ Q = WP E d mPb_refuse 0 [.ref 0, .int (nI 5)] [] σ (fun r σ' => WP E (d + 1) mPb_saved 43 [.ref 0, .int a1, .int a2, .int a3, u4] (r.toList ++ []) σ' Q) := (w_aload_n dPb_saved_38 rfl).trans ((w_iconst (v := (nI 5)) dPb_saved_39 rfl).trans (w_virt (vs := [.int (nI 5)]) (st' := []) (es := [.ref 0, .int (nI 5)]) dPb_saved_40 rz10_104 rfl sh_0 rfl rfl rfl (Nat.le_of_ble_eq_true rfl) (Nat.le_of_ble_eq_true rfl) rfl))
theorem bPb_saved_43 {E : mEn} {d : Nat} {σ : mSt} {Q : mPost} {a1 : Int32} {a2 : Int32} {a3 : Int32} {u4 : Value} {s0 : Int32} : WP E d mPb_saved 43 [.ref 0, .int a1, .int a2, .int a3, u4] [.int s0] σ Q = Q (some (.int s0)) σ := w_iret dPb_saved_43 rfl
theorem bPb_saved_44 {E : mEn} {d : Nat} {σ : mSt} {Q : mPost} {a1 : Int32} {a2 : Int32} {a3 : Int32} {u4 : Value} : WP E (d + 1) mPb_saved 44 [.ref 0, .int a1, .int a2, .int a3, u4] [] σ Q = WP E d mSh_gather 0 [.ref 61, .ref 10, .int a1, uu] [] σ (fun r σ' => WP E (d + 1) mPb_saved 56 [.ref 0, .int a1, .int a2, .int a3, u4] (r.toList ++ []) σ' Q) := (w_aload_n dPb_saved_44 rfl).trans ((w_getr (r := 61) dPb_saved_45 rz10_40 sh_0 rfl).trans ((w_aload_n dPb_saved_48 rfl).trans ((w_getr (r := 10) dPb_saved_49 rz10_26 sh_0 rfl).trans ((w_iload_n dPb_saved_52 rfl).trans (w_virt (vs := [.ref 10, .int a1]) (st' := []) (es := [.ref 61, .ref 10, .int a1, uu]) dPb_saved_53 rz10_340 rfl sh_61 rfl rfl rfl (Nat.le_of_ble_eq_true rfl) (Nat.le_of_ble_eq_true rfl) rfl)))))
theorem bPb_saved_56 {E : mEn} {d : Nat} {σ : mSt} {Q : mPost} {a1 : Int32} {a2 : Int32} {a3 : Int32} {u4 : Value} : WP E (d + 1) mPb_saved 56 [.ref 0, .int a1, .int a2, .int a3, u4] [] σ Q = WP E d mSh_cheapestSet 0 [.ref 61, .ref 10, .int a2, uu, uu, uu, uu, uu] [] σ (fun r σ' => WP E (d + 1) mPb_saved 68 [.ref 0, .int a1, .int a2, .int a3, u4] (r.toList ++ []) σ' Q) := (w_aload_n dPb_saved_56 rfl).trans ((w_getr (r := 61) dPb_saved_57 rz10_40 sh_0 rfl).trans ((w_aload_n dPb_saved_60 rfl).trans ((w_getr (r := 10) dPb_saved_61 rz10_26 sh_0 rfl).trans ((w_iload_n dPb_saved_64 rfl).trans (w_virt (vs := [.ref 10, .int a2]) (st' := []) (es := [.ref 61, .ref 10, .int a2, uu, uu, uu, uu, uu]) dPb_saved_65 rz10_343 rfl sh_61 rfl rfl rfl (Nat.le_of_ble_eq_true rfl) (Nat.le_of_ble_eq_true rfl) rfl)))))
theorem bPb_saved_68 {E : mEn} {d : Nat} {σ : mSt} {Q : mPost} {a1 : Int32} {a2 : Int32} {a3 : Int32} {u4 : Value} {s0 : Int32} : WP E d mPb_saved 68 [.ref 0, .int a1, .int a2, .int a3, u4] [.int s0] σ Q = (if ¬ s0 = (-1) then WP E d mPb_saved 83 [.ref 0, .int a1, .int a2, .int a3, .int s0] [] σ Q else WP E d mPb_saved 76 [.ref 0, .int a1, .int a2, .int a3, .int s0] [] σ Q) := (w_istore (ls' := [.ref 0, .int a1, .int a2, .int a3, .int s0]) dPb_saved_68 (Nat.le_of_ble_eq_true rfl) rfl).trans ((w_iload dPb_saved_70 rfl).trans ((w_iconst (v := (-1)) dPb_saved_72 rfl).trans (w_icmpne (t := 83) dPb_saved_73 (by decide))))
theorem bPb_saved_76 {E : mEn} {d : Nat} {σ : mSt} {Q : mPost} {a1 : Int32} {a2 : Int32} {a3 : Int32} {a4 : Int32} : WP E (d + 1) mPb_saved 76 [.ref 0, .int a1, .int a2, .int a3, .int a4] [] σ Q = WP E d mPb_refuse 0 [.ref 0, .int (nI 9)] [] σ (fun r σ' => WP E (d + 1) mPb_saved 82 [.ref 0, .int a1, .int a2, .int a3, .int a4] (r.toList ++ []) σ' Q) := (w_aload_n dPb_saved_76 rfl).trans ((w_bipush (v := (nI 9)) dPb_saved_77 rfl).trans (w_virt (vs := [.int (nI 9)]) (st' := []) (es := [.ref 0, .int (nI 9)]) dPb_saved_79 rz10_104 rfl sh_0 rfl rfl rfl (Nat.le_of_ble_eq_true rfl) (Nat.le_of_ble_eq_true rfl) rfl))
theorem bPb_saved_82 {E : mEn} {d : Nat} {σ : mSt} {Q : mPost} {a1 : Int32} {a2 : Int32} {a3 : Int32} {a4 : Int32} {s0 : Int32} : WP E d mPb_saved 82 [.ref 0, .int a1, .int a2, .int a3, .int a4] [.int s0] σ Q = Q (some (.int s0)) σ := w_iret dPb_saved_82 rfl
theorem bPb_saved_83 {E : mEn} {d : Nat} {σ : mSt} {Q : mPost} {a1 : Int32} {a2 : Int32} {a3 : Int32} {a4 : Int32} : WP E d mPb_saved 83 [.ref 0, .int a1, .int a2, .int a3, .int a4] [] σ Q = (if ¬ a3 = 1 then WP E d mPb_saved 94 [.ref 0, .int a1, .int a2, .int a3, .int a4] [.ref 0] σ Q else WP E d mPb_saved 89 [.ref 0, .int a1, .int a2, .int a3, .int a4] [.ref 0] σ Q) := (w_aload_n dPb_saved_83 rfl).trans ((w_iload_n dPb_saved_84 rfl).trans ((w_iconst (v := 1) dPb_saved_85 rfl).trans (w_icmpne (t := 94) dPb_saved_86 (by decide))))
theorem bPb_saved_89 {E : mEn} {d : Nat} {σ : mSt} {Q : mPost} {a1 : Int32} {a2 : Int32} {a3 : Int32} {a4 : Int32} : WP E d mPb_saved 89 [.ref 0, .int a1, .int a2, .int a3, .int a4] [.ref 0] σ Q = WP E d mPb_saved 103 [.ref 0, .int a1, .int a2, .int a3, .int a4] [.int a4, .ref 0] σ Q := (w_iload dPb_saved_89 rfl).trans (w_goto (t := 103) dPb_saved_91 (by decide))
theorem bPb_saved_94 {E : mEn} {d : Nat} {σ : mSt} {Q : mPost} {a1 : Int32} {a2 : Int32} {a3 : Int32} {a4 : Int32} : WP E (d + 1) mPb_saved 94 [.ref 0, .int a1, .int a2, .int a3, .int a4] [.ref 0] σ Q = WP E d mTw_flourOf 0 [.ref 10, .int a4, uu, uu] [] σ (fun r σ' => WP E (d + 1) mPb_saved 103 [.ref 0, .int a1, .int a2, .int a3, .int a4] (r.toList ++ [.ref 0]) σ' Q) := (w_aload_n dPb_saved_94 rfl).trans ((w_getr (r := 10) dPb_saved_95 rz10_26 sh_0 rfl).trans ((w_iload dPb_saved_98 rfl).trans (w_virt (vs := [.int a4]) (st' := [.ref 0]) (es := [.ref 10, .int a4, uu, uu]) dPb_saved_100 rz10_347 rfl sh_10 rfl rfl rfl (Nat.le_of_ble_eq_true rfl) (Nat.le_of_ble_eq_true rfl) rfl)))
theorem bPb_saved_103 {E : mEn} {d : Nat} {σ : mSt} {Q : mPost} {a1 : Int32} {a2 : Int32} {a3 : Int32} {a4 : Int32} {s0 : Int32} : WP E (d + 1) mPb_saved 103 [.ref 0, .int a1, .int a2, .int a3, .int a4] [.int s0, .ref 0] σ Q = WP E d mPb_answer 0 [.ref 0, .int s0] [] σ (fun r σ' => WP E (d + 1) mPb_saved 106 [.ref 0, .int a1, .int a2, .int a3, .int a4] (r.toList ++ []) σ' Q) := w_virt (vs := [.int s0]) (st' := []) (es := [.ref 0, .int s0]) dPb_saved_103 rz10_157 rfl sh_0 rfl rfl rfl (Nat.le_of_ble_eq_true rfl) (Nat.le_of_ble_eq_true rfl) rfl
theorem bPb_saved_106 {E : mEn} {d : Nat} {σ : mSt} {Q : mPost} {a1 : Int32} {a2 : Int32} {a3 : Int32} {a4 : Int32} {s0 : Int32} : WP E d mPb_saved 106 [.ref 0, .int a1, .int a2, .int a3, .int a4] [.int s0] σ Q = Q (some (.int s0)) σ := w_iret dPb_saved_106 rfl
theorem dPb_faces_0 : decode (mC mPb_faces) 0 = .ok (.iconst (0), 1) := by decide +kernel
theorem dPb_faces_1 : decode (mC mPb_faces) 1 = .ok (.istore_n 1, 1) := by decide +kernel
theorem dPb_faces_2 : decode (mC mPb_faces) 2 = .ok (.iconst (0), 1) := by decide +kernel
theorem dPb_faces_3 : decode (mC mPb_faces) 3 = .ok (.istore_n 2, 1) := by decide +kernel
theorem dPb_faces_4 : decode (mC mPb_faces) 4 = .ok (.iload_n 2, 1) := by decide +kernel
theorem dPb_faces_5 : decode (mC mPb_faces) 5 = .ok (.aload_n 0, 1) := by decide +kernel
theorem dPb_faces_6 : decode (mC mPb_faces) 6 = .ok (.getfield 26, 3) := by decide +kernel
theorem dPb_faces_9 : decode (mC mPb_faces) 9 = .ok (.getfield 154, 3) := by decide +kernel
theorem dPb_faces_12 : decode (mC mPb_faces) 12 = .ok (.if_icmp .ge (102), 3) := by decide +kernel
theorem dPb_faces_15 : decode (mC mPb_faces) 15 = .ok (.aload_n 0, 1) := by decide +kernel
theorem dPb_faces_16 : decode (mC mPb_faces) 16 = .ok (.getfield 26, 3) := by decide +kernel
theorem dPb_faces_19 : decode (mC mPb_faces) 19 = .ok (.iload_n 2, 1) := by decide +kernel
theorem dPb_faces_20 : decode (mC mPb_faces) 20 = .ok (.invokevirtual 224, 3) := by decide +kernel
theorem dPb_faces_23 : decode (mC mPb_faces) 23 = .ok (.ifCond .ne (85), 3) := by decide +kernel
theorem dPb_faces_26 : decode (mC mPb_faces) 26 = .ok (.aload_n 0, 1) := by decide +kernel
theorem dPb_faces_27 : decode (mC mPb_faces) 27 = .ok (.getfield 26, 3) := by decide +kernel
theorem dPb_faces_30 : decode (mC mPb_faces) 30 = .ok (.iload_n 2, 1) := by decide +kernel
theorem dPb_faces_31 : decode (mC mPb_faces) 31 = .ok (.invokevirtual 239, 3) := by decide +kernel
theorem dPb_faces_34 : decode (mC mPb_faces) 34 = .ok (.ifCond .eq (6), 3) := by decide +kernel
theorem dPb_faces_37 : decode (mC mPb_faces) 37 = .ok (.goto (71), 3) := by decide +kernel
theorem dPb_faces_40 : decode (mC mPb_faces) 40 = .ok (.aload_n 0, 1) := by decide +kernel
theorem dPb_faces_41 : decode (mC mPb_faces) 41 = .ok (.getfield 40, 3) := by decide +kernel
theorem dPb_faces_44 : decode (mC mPb_faces) 44 = .ok (.aload_n 0, 1) := by decide +kernel
theorem dPb_faces_45 : decode (mC mPb_faces) 45 = .ok (.getfield 26, 3) := by decide +kernel
theorem dPb_faces_48 : decode (mC mPb_faces) 48 = .ok (.iload_n 2, 1) := by decide +kernel
theorem dPb_faces_49 : decode (mC mPb_faces) 49 = .ok (.iconst (0), 1) := by decide +kernel
theorem dPb_faces_50 : decode (mC mPb_faces) 50 = .ok (.invokevirtual 307, 3) := by decide +kernel
theorem dPb_faces_53 : decode (mC mPb_faces) 53 = .ok (.aload_n 0, 1) := by decide +kernel
theorem dPb_faces_54 : decode (mC mPb_faces) 54 = .ok (.getfield 26, 3) := by decide +kernel
theorem dPb_faces_57 : decode (mC mPb_faces) 57 = .ok (.getfield 221, 3) := by decide +kernel
theorem dPb_faces_60 : decode (mC mPb_faces) 60 = .ok (.iload_n 2, 1) := by decide +kernel
theorem dPb_faces_61 : decode (mC mPb_faces) 61 = .ok (.iaload, 1) := by decide +kernel
theorem dPb_faces_62 : decode (mC mPb_faces) 62 = .ok (.istore_n 3, 1) := by decide +kernel
theorem dPb_faces_63 : decode (mC mPb_faces) 63 = .ok (.aload_n 0, 1) := by decide +kernel
theorem dPb_faces_64 : decode (mC mPb_faces) 64 = .ok (.getfield 40, 3) := by decide +kernel
theorem dPb_faces_67 : decode (mC mPb_faces) 67 = .ok (.iload_n 3, 1) := by decide +kernel
theorem dPb_faces_68 : decode (mC mPb_faces) 68 = .ok (.invokevirtual 350, 3) := by decide +kernel
theorem dPb_faces_71 : decode (mC mPb_faces) 71 = .ok (.ifCond .ne (6), 3) := by decide +kernel
theorem dPb_faces_74 : decode (mC mPb_faces) 74 = .ok (.goto (34), 3) := by decide +kernel
theorem dPb_faces_77 : decode (mC mPb_faces) 77 = .ok (.aload_n 0, 1) := by decide +kernel
theorem dPb_faces_78 : decode (mC mPb_faces) 78 = .ok (.getfield 40, 3) := by decide +kernel
theorem dPb_faces_81 : decode (mC mPb_faces) 81 = .ok (.getfield 311, 3) := by decide +kernel
theorem dPb_faces_84 : decode (mC mPb_faces) 84 = .ok (.iload_n 3, 1) := by decide +kernel
theorem dPb_faces_85 : decode (mC mPb_faces) 85 = .ok (.iaload, 1) := by decide +kernel
theorem dPb_faces_86 : decode (mC mPb_faces) 86 = .ok (.ifCond .le (10), 3) := by decide +kernel
theorem dPb_faces_89 : decode (mC mPb_faces) 89 = .ok (.aload_n 0, 1) := by decide +kernel
theorem dPb_faces_90 : decode (mC mPb_faces) 90 = .ok (.bipush (9), 2) := by decide +kernel
theorem dPb_faces_92 : decode (mC mPb_faces) 92 = .ok (.invokevirtual 104, 3) := by decide +kernel
theorem dPb_faces_95 : decode (mC mPb_faces) 95 = .ok (.ireturn, 1) := by decide +kernel
theorem dPb_faces_96 : decode (mC mPb_faces) 96 = .ok (.iload_n 1, 1) := by decide +kernel
theorem dPb_faces_97 : decode (mC mPb_faces) 97 = .ok (.aload_n 0, 1) := by decide +kernel
theorem dPb_faces_98 : decode (mC mPb_faces) 98 = .ok (.getfield 26, 3) := by decide +kernel
theorem dPb_faces_101 : decode (mC mPb_faces) 101 = .ok (.getfield 236, 3) := by decide +kernel
theorem dPb_faces_104 : decode (mC mPb_faces) 104 = .ok (.iload_n 2, 1) := by decide +kernel
theorem dPb_faces_105 : decode (mC mPb_faces) 105 = .ok (.iaload, 1) := by decide +kernel
theorem dPb_faces_106 : decode (mC mPb_faces) 106 = .ok (.iadd, 1) := by decide +kernel
theorem dPb_faces_107 : decode (mC mPb_faces) 107 = .ok (.istore_n 1, 1) := by decide +kernel
theorem dPb_faces_108 : decode (mC mPb_faces) 108 = .ok (.iinc 2 (1), 3) := by decide +kernel
theorem dPb_faces_111 : decode (mC mPb_faces) 111 = .ok (.goto (-107), 3) := by decide +kernel
theorem dPb_faces_114 : decode (mC mPb_faces) 114 = .ok (.aload_n 0, 1) := by decide +kernel
theorem dPb_faces_115 : decode (mC mPb_faces) 115 = .ok (.iload_n 1, 1) := by decide +kernel
theorem dPb_faces_116 : decode (mC mPb_faces) 116 = .ok (.invokevirtual 157, 3) := by decide +kernel
theorem dPb_faces_119 : decode (mC mPb_faces) 119 = .ok (.ireturn, 1) := by decide +kernel
theorem bPb_faces_0 {E : mEn} {d : Nat} {σ : mSt} {Q : mPost} {u1 : Value} {u2 : Value} {u3 : Value} : WP E d mPb_faces 0 [.ref 0, u1, u2, u3] [] σ Q = WP E d mPb_faces 4 [.ref 0, .int 0, .int 0, u3] [] σ Q := (w_iconst (v := 0) dPb_faces_0 rfl).trans ((w_istore_n (ls' := [.ref 0, .int 0, u2, u3]) dPb_faces_1 (Nat.le_of_ble_eq_true rfl) rfl).trans ((w_iconst (v := 0) dPb_faces_2 rfl).trans (w_istore_n (ls' := [.ref 0, .int 0, .int 0, u3]) dPb_faces_3 (Nat.le_of_ble_eq_true rfl) rfl)))
theorem bPb_faces_4 {E : mEn} {d : Nat} {σ : mSt} {Q : mPost} {a1 : Int32} {a2 : Int32} {u3 : Value} : WP E d mPb_faces 4 [.ref 0, .int a1, .int a2, u3] [] σ Q = (if (σ.1 10 15) ≤ a2 then WP E d mPb_faces 114 [.ref 0, .int a1, .int a2, u3] [] σ Q else WP E d mPb_faces 15 [.ref 0, .int a1, .int a2, u3] [] σ Q) := (w_iload_n dPb_faces_4 rfl).trans ((w_aload_n dPb_faces_5 rfl).trans ((w_getr (r := 10) dPb_faces_6 rz10_26 sh_0 rfl).trans ((w_geti dPb_faces_9 rz10_154 sh_10 rfl).trans (w_icmpge (t := 114) dPb_faces_12 (by decide)))))
theorem bPb_faces_15 {E : mEn} {d : Nat} {σ : mSt} {Q : mPost} {a1 : Int32} {a2 : Int32} {u3 : Value} : WP E (d + 1) mPb_faces 15 [.ref 0, .int a1, .int a2, u3] [] σ Q = WP E d mTw_isPaper 0 [.ref 10, .int a2] [] σ (fun r σ' => WP E (d + 1) mPb_faces 23 [.ref 0, .int a1, .int a2, u3] (r.toList ++ []) σ' Q) := (w_aload_n dPb_faces_15 rfl).trans ((w_getr (r := 10) dPb_faces_16 rz10_26 sh_0 rfl).trans ((w_iload_n dPb_faces_19 rfl).trans (w_virt (vs := [.int a2]) (st' := []) (es := [.ref 10, .int a2]) dPb_faces_20 rz10_224 rfl sh_10 rfl rfl rfl (Nat.le_of_ble_eq_true rfl) (Nat.le_of_ble_eq_true rfl) rfl)))
theorem bPb_faces_23 {E : mEn} {d : Nat} {σ : mSt} {Q : mPost} {a1 : Int32} {a2 : Int32} {u3 : Value} {s0 : Int32} : WP E d mPb_faces 23 [.ref 0, .int a1, .int a2, u3] [.int s0] σ Q = (if ¬ s0 = 0 then WP E d mPb_faces 108 [.ref 0, .int a1, .int a2, u3] [] σ Q else WP E d mPb_faces 26 [.ref 0, .int a1, .int a2, u3] [] σ Q) := w_ifne (t := 108) dPb_faces_23 (by decide)
theorem bPb_faces_26 {E : mEn} {d : Nat} {σ : mSt} {Q : mPost} {a1 : Int32} {a2 : Int32} {u3 : Value} : WP E (d + 1) mPb_faces 26 [.ref 0, .int a1, .int a2, u3] [] σ Q = WP E d mTw_isBaked 0 [.ref 10, .int a2] [] σ (fun r σ' => WP E (d + 1) mPb_faces 34 [.ref 0, .int a1, .int a2, u3] (r.toList ++ []) σ' Q) := (w_aload_n dPb_faces_26 rfl).trans ((w_getr (r := 10) dPb_faces_27 rz10_26 sh_0 rfl).trans ((w_iload_n dPb_faces_30 rfl).trans (w_virt (vs := [.int a2]) (st' := []) (es := [.ref 10, .int a2]) dPb_faces_31 rz10_239 rfl sh_10 rfl rfl rfl (Nat.le_of_ble_eq_true rfl) (Nat.le_of_ble_eq_true rfl) rfl)))
theorem bPb_faces_34 {E : mEn} {d : Nat} {σ : mSt} {Q : mPost} {a1 : Int32} {a2 : Int32} {u3 : Value} {s0 : Int32} : WP E d mPb_faces 34 [.ref 0, .int a1, .int a2, u3] [.int s0] σ Q = (if s0 = 0 then WP E d mPb_faces 40 [.ref 0, .int a1, .int a2, u3] [] σ Q else WP E d mPb_faces 37 [.ref 0, .int a1, .int a2, u3] [] σ Q) := w_ifeq (t := 40) dPb_faces_34 (by decide)
theorem bPb_faces_37 {E : mEn} {d : Nat} {σ : mSt} {Q : mPost} {a1 : Int32} {a2 : Int32} {u3 : Value} : WP E d mPb_faces 37 [.ref 0, .int a1, .int a2, u3] [] σ Q = WP E d mPb_faces 108 [.ref 0, .int a1, .int a2, u3] [] σ Q := w_goto (t := 108) dPb_faces_37 (by decide)
theorem bPb_faces_40 {E : mEn} {d : Nat} {σ : mSt} {Q : mPost} {a1 : Int32} {a2 : Int32} {u3 : Value} : WP E (d + 1) mPb_faces 40 [.ref 0, .int a1, .int a2, u3] [] σ Q = WP E d mSh_settle 0 [.ref 61, .ref 10, .int a2, .int 0, uu, uu, uu] [] σ (fun r σ' => WP E (d + 1) mPb_faces 53 [.ref 0, .int a1, .int a2, u3] (r.toList ++ []) σ' Q) := (w_aload_n dPb_faces_40 rfl).trans ((w_getr (r := 61) dPb_faces_41 rz10_40 sh_0 rfl).trans ((w_aload_n dPb_faces_44 rfl).trans ((w_getr (r := 10) dPb_faces_45 rz10_26 sh_0 rfl).trans ((w_iload_n dPb_faces_48 rfl).trans ((w_iconst (v := 0) dPb_faces_49 rfl).trans (w_virt (vs := [.ref 10, .int a2, .int 0]) (st' := []) (es := [.ref 61, .ref 10, .int a2, .int 0, uu, uu, uu]) dPb_faces_50 rz10_307 rfl sh_61 rfl rfl rfl (Nat.le_of_ble_eq_true rfl) (Nat.le_of_ble_eq_true rfl) rfl))))))
theorem bPb_faces_53 {E : mEn} {d : Nat} {σ : mSt} {Q : mPost} {a1 : Int32} {a2 : Int32} {u3 : Value} : WP E (d + 1) mPb_faces 53 [.ref 0, .int a1, .int a2, u3] [] σ Q = (if mOut a2 8 = true then False else WP E d mSh_othersHold 0 [.ref 61, .int (σ.1 29 a2.toNatClampNeg), uu] [] σ (fun r σ' => WP E (d + 1) mPb_faces 71 [.ref 0, .int a1, .int a2, .int (σ.1 29 a2.toNatClampNeg)] (r.toList ++ []) σ' Q)) := (w_aload_n dPb_faces_53 rfl).trans ((w_getr (r := 10) dPb_faces_54 rz10_26 sh_0 rfl).trans ((w_getr (r := 29) dPb_faces_57 rz10_221 sh_10 rfl).trans ((w_iload_n dPb_faces_60 rfl).trans ((w_iald dPb_faces_61 sh_29 (by decide)).trans (ite_c ((w_istore_n (ls' := [.ref 0, .int a1, .int a2, .int (σ.1 29 a2.toNatClampNeg)]) dPb_faces_62 (Nat.le_of_ble_eq_true rfl) rfl).trans ((w_aload_n dPb_faces_63 rfl).trans ((w_getr (r := 61) dPb_faces_64 rz10_40 sh_0 rfl).trans ((w_iload_n dPb_faces_67 rfl).trans (w_virt (vs := [.int (σ.1 29 a2.toNatClampNeg)]) (st' := []) (es := [.ref 61, .int (σ.1 29 a2.toNatClampNeg), uu]) dPb_faces_68 rz10_350 rfl sh_61 rfl rfl rfl (Nat.le_of_ble_eq_true rfl) (Nat.le_of_ble_eq_true rfl) rfl))))))))))
theorem bPb_faces_71 {E : mEn} {d : Nat} {σ : mSt} {Q : mPost} {a1 : Int32} {a2 : Int32} {a3 : Int32} {s0 : Int32} : WP E d mPb_faces 71 [.ref 0, .int a1, .int a2, .int a3] [.int s0] σ Q = (if ¬ s0 = 0 then WP E d mPb_faces 77 [.ref 0, .int a1, .int a2, .int a3] [] σ Q else WP E d mPb_faces 74 [.ref 0, .int a1, .int a2, .int a3] [] σ Q) := w_ifne (t := 77) dPb_faces_71 (by decide)
theorem bPb_faces_74 {E : mEn} {d : Nat} {σ : mSt} {Q : mPost} {a1 : Int32} {a2 : Int32} {a3 : Int32} : WP E d mPb_faces 74 [.ref 0, .int a1, .int a2, .int a3] [] σ Q = WP E d mPb_faces 108 [.ref 0, .int a1, .int a2, .int a3] [] σ Q := w_goto (t := 108) dPb_faces_74 (by decide)
theorem bPb_faces_77 {E : mEn} {d : Nat} {σ : mSt} {Q : mPost} {a1 : Int32} {a2 : Int32} {a3 : Int32} : WP E d mPb_faces 77 [.ref 0, .int a1, .int a2, .int a3] [] σ Q = (if mOut a3 8 = true then False else (if (σ.1 66 a3.toNatClampNeg) ≤ 0 then WP E d mPb_faces 96 [.ref 0, .int a1, .int a2, .int a3] [] σ Q else WP E d mPb_faces 89 [.ref 0, .int a1, .int a2, .int a3] [] σ Q)) := (w_aload_n dPb_faces_77 rfl).trans ((w_getr (r := 61) dPb_faces_78 rz10_40 sh_0 rfl).trans ((w_getr (r := 66) dPb_faces_81 rz10_311 sh_61 rfl).trans ((w_iload_n dPb_faces_84 rfl).trans ((w_iald dPb_faces_85 sh_66 (by decide)).trans (ite_c (w_ifle (t := 96) dPb_faces_86 (by decide)))))))
theorem bPb_faces_89 {E : mEn} {d : Nat} {σ : mSt} {Q : mPost} {a1 : Int32} {a2 : Int32} {a3 : Int32} : WP E (d + 1) mPb_faces 89 [.ref 0, .int a1, .int a2, .int a3] [] σ Q = WP E d mPb_refuse 0 [.ref 0, .int (nI 9)] [] σ (fun r σ' => WP E (d + 1) mPb_faces 95 [.ref 0, .int a1, .int a2, .int a3] (r.toList ++ []) σ' Q) := (w_aload_n dPb_faces_89 rfl).trans ((w_bipush (v := (nI 9)) dPb_faces_90 rfl).trans (w_virt (vs := [.int (nI 9)]) (st' := []) (es := [.ref 0, .int (nI 9)]) dPb_faces_92 rz10_104 rfl sh_0 rfl rfl rfl (Nat.le_of_ble_eq_true rfl) (Nat.le_of_ble_eq_true rfl) rfl))
theorem bPb_faces_95 {E : mEn} {d : Nat} {σ : mSt} {Q : mPost} {a1 : Int32} {a2 : Int32} {a3 : Int32} {s0 : Int32} : WP E d mPb_faces 95 [.ref 0, .int a1, .int a2, .int a3] [.int s0] σ Q = Q (some (.int s0)) σ := w_iret dPb_faces_95 rfl
theorem bPb_faces_96 {E : mEn} {d : Nat} {σ : mSt} {Q : mPost} {a1 : Int32} {a2 : Int32} {a3 : Int32} : WP E d mPb_faces 96 [.ref 0, .int a1, .int a2, .int a3] [] σ Q = (if mOut a2 8 = true then False else WP E d mPb_faces 108 [.ref 0, .int (a1 + (σ.1 33 a2.toNatClampNeg)), .int a2, .int a3] [] σ Q) := (w_iload_n dPb_faces_96 rfl).trans ((w_aload_n dPb_faces_97 rfl).trans ((w_getr (r := 10) dPb_faces_98 rz10_26 sh_0 rfl).trans ((w_getr (r := 33) dPb_faces_101 rz10_236 sh_10 rfl).trans ((w_iload_n dPb_faces_104 rfl).trans ((w_iald dPb_faces_105 sh_33 (by decide)).trans (ite_c ((w_iadd dPb_faces_106).trans (w_istore_n (ls' := [.ref 0, .int (a1 + (σ.1 33 a2.toNatClampNeg)), .int a2, .int a3]) dPb_faces_107 (Nat.le_of_ble_eq_true rfl) rfl))))))))
theorem bPb_faces_108 {E : mEn} {d : Nat} {σ : mSt} {Q : mPost} {a1 : Int32} {a2 : Int32} {u3 : Value} : WP E d mPb_faces 108 [.ref 0, .int a1, .int a2, u3] [] σ Q = WP E d mPb_faces 4 [.ref 0, .int a1, .int (a2 + 1), u3] [] σ Q := (w_iinc (v := 1) (ls' := [.ref 0, .int a1, .int (a2 + 1), u3]) dPb_faces_108 rfl rfl rfl).trans (w_goto (t := 4) dPb_faces_111 (by decide))
theorem bPb_faces_114 {E : mEn} {d : Nat} {σ : mSt} {Q : mPost} {a1 : Int32} {a2 : Int32} {u3 : Value} : WP E (d + 1) mPb_faces 114 [.ref 0, .int a1, .int a2, u3] [] σ Q = WP E d mPb_answer 0 [.ref 0, .int a1] [] σ (fun r σ' => WP E (d + 1) mPb_faces 119 [.ref 0, .int a1, .int a2, u3] (r.toList ++ []) σ' Q) := (w_aload_n dPb_faces_114 rfl).trans ((w_iload_n dPb_faces_115 rfl).trans (w_virt (vs := [.int a1]) (st' := []) (es := [.ref 0, .int a1]) dPb_faces_116 rz10_157 rfl sh_0 rfl rfl rfl (Nat.le_of_ble_eq_true rfl) (Nat.le_of_ble_eq_true rfl) rfl))
theorem bPb_faces_119 {E : mEn} {d : Nat} {σ : mSt} {Q : mPost} {a1 : Int32} {a2 : Int32} {u3 : Value} {s0 : Int32} : WP E d mPb_faces 119 [.ref 0, .int a1, .int a2, u3] [.int s0] σ Q = Q (some (.int s0)) σ := w_iret dPb_faces_119 rfl
theorem dPb_keeps_0 : decode (mC mPb_keeps) 0 = .ok (.aload_n 0, 1) := by decide +kernel
theorem dPb_keeps_1 : decode (mC mPb_keeps) 1 = .ok (.getfield 10, 3) := by decide +kernel
theorem dPb_keeps_4 : decode (mC mPb_keeps) 4 = .ok (.iload_n 2, 1) := by decide +kernel
theorem dPb_keeps_5 : decode (mC mPb_keeps) 5 = .ok (.invokevirtual 78, 3) := by decide +kernel
theorem dPb_keeps_8 : decode (mC mPb_keeps) 8 = .ok (.ifCond .ne (9), 3) := by decide +kernel
theorem dPb_keeps_11 : decode (mC mPb_keeps) 11 = .ok (.aload_n 0, 1) := by decide +kernel
theorem dPb_keeps_12 : decode (mC mPb_keeps) 12 = .ok (.iconst (1), 1) := by decide +kernel
theorem dPb_keeps_13 : decode (mC mPb_keeps) 13 = .ok (.invokevirtual 104, 3) := by decide +kernel
theorem dPb_keeps_16 : decode (mC mPb_keeps) 16 = .ok (.ireturn, 1) := by decide +kernel
theorem dPb_keeps_17 : decode (mC mPb_keeps) 17 = .ok (.aload_n 0, 1) := by decide +kernel
theorem dPb_keeps_18 : decode (mC mPb_keeps) 18 = .ok (.getfield 26, 3) := by decide +kernel
theorem dPb_keeps_21 : decode (mC mPb_keeps) 21 = .ok (.iload_n 1, 1) := by decide +kernel
theorem dPb_keeps_22 : decode (mC mPb_keeps) 22 = .ok (.invokevirtual 205, 3) := by decide +kernel
theorem dPb_keeps_25 : decode (mC mPb_keeps) 25 = .ok (.ifCond .ne (9), 3) := by decide +kernel
theorem dPb_keeps_28 : decode (mC mPb_keeps) 28 = .ok (.aload_n 0, 1) := by decide +kernel
theorem dPb_keeps_29 : decode (mC mPb_keeps) 29 = .ok (.iconst (2), 1) := by decide +kernel
theorem dPb_keeps_30 : decode (mC mPb_keeps) 30 = .ok (.invokevirtual 104, 3) := by decide +kernel
theorem dPb_keeps_33 : decode (mC mPb_keeps) 33 = .ok (.ireturn, 1) := by decide +kernel
theorem dPb_keeps_34 : decode (mC mPb_keeps) 34 = .ok (.aload_n 0, 1) := by decide +kernel
theorem dPb_keeps_35 : decode (mC mPb_keeps) 35 = .ok (.getfield 10, 3) := by decide +kernel
theorem dPb_keeps_38 : decode (mC mPb_keeps) 38 = .ok (.iload_n 2, 1) := by decide +kernel
theorem dPb_keeps_39 : decode (mC mPb_keeps) 39 = .ok (.invokevirtual 112, 3) := by decide +kernel
theorem dPb_keeps_42 : decode (mC mPb_keeps) 42 = .ok (.ifCond .eq (9), 3) := by decide +kernel
theorem dPb_keeps_45 : decode (mC mPb_keeps) 45 = .ok (.aload_n 0, 1) := by decide +kernel
theorem dPb_keeps_46 : decode (mC mPb_keeps) 46 = .ok (.iconst (3), 1) := by decide +kernel
theorem dPb_keeps_47 : decode (mC mPb_keeps) 47 = .ok (.invokevirtual 104, 3) := by decide +kernel
theorem dPb_keeps_50 : decode (mC mPb_keeps) 50 = .ok (.ireturn, 1) := by decide +kernel
theorem dPb_keeps_51 : decode (mC mPb_keeps) 51 = .ok (.iload_n 3, 1) := by decide +kernel
theorem dPb_keeps_52 : decode (mC mPb_keeps) 52 = .ok (.aload_n 0, 1) := by decide +kernel
theorem dPb_keeps_53 : decode (mC mPb_keeps) 53 = .ok (.getfield 10, 3) := by decide +kernel
theorem dPb_keeps_56 : decode (mC mPb_keeps) 56 = .ok (.iload_n 2, 1) := by decide +kernel
theorem dPb_keeps_57 : decode (mC mPb_keeps) 57 = .ok (.invokevirtual 353, 3) := by decide +kernel
theorem dPb_keeps_60 : decode (mC mPb_keeps) 60 = .ok (.if_icmp .le (9), 3) := by decide +kernel
theorem dPb_keeps_63 : decode (mC mPb_keeps) 63 = .ok (.aload_n 0, 1) := by decide +kernel
theorem dPb_keeps_64 : decode (mC mPb_keeps) 64 = .ok (.iconst (4), 1) := by decide +kernel
theorem dPb_keeps_65 : decode (mC mPb_keeps) 65 = .ok (.invokevirtual 104, 3) := by decide +kernel
theorem dPb_keeps_68 : decode (mC mPb_keeps) 68 = .ok (.ireturn, 1) := by decide +kernel
theorem dPb_keeps_69 : decode (mC mPb_keeps) 69 = .ok (.iload_n 3, 1) := by decide +kernel
theorem dPb_keeps_70 : decode (mC mPb_keeps) 70 = .ok (.iconst (1), 1) := by decide +kernel
theorem dPb_keeps_71 : decode (mC mPb_keeps) 71 = .ok (.if_icmp .lt (18), 3) := by decide +kernel
theorem dPb_keeps_74 : decode (mC mPb_keeps) 74 = .ok (.aload_n 0, 1) := by decide +kernel
theorem dPb_keeps_75 : decode (mC mPb_keeps) 75 = .ok (.getfield 10, 3) := by decide +kernel
theorem dPb_keeps_78 : decode (mC mPb_keeps) 78 = .ok (.iload_n 2, 1) := by decide +kernel
theorem dPb_keeps_79 : decode (mC mPb_keeps) 79 = .ok (.iload_n 3, 1) := by decide +kernel
theorem dPb_keeps_80 : decode (mC mPb_keeps) 80 = .ok (.ldc2_w 356, 3) := by decide +kernel
theorem dPb_keeps_83 : decode (mC mPb_keeps) 83 = .ok (.invokevirtual 358, 3) := by decide +kernel
theorem dPb_keeps_86 : decode (mC mPb_keeps) 86 = .ok (.ifCond .ne (9), 3) := by decide +kernel
theorem dPb_keeps_89 : decode (mC mPb_keeps) 89 = .ok (.aload_n 0, 1) := by decide +kernel
theorem dPb_keeps_90 : decode (mC mPb_keeps) 90 = .ok (.iconst (5), 1) := by decide +kernel
theorem dPb_keeps_91 : decode (mC mPb_keeps) 91 = .ok (.invokevirtual 104, 3) := by decide +kernel
theorem dPb_keeps_94 : decode (mC mPb_keeps) 94 = .ok (.ireturn, 1) := by decide +kernel
theorem dPb_keeps_95 : decode (mC mPb_keeps) 95 = .ok (.aload_n 0, 1) := by decide +kernel
theorem dPb_keeps_96 : decode (mC mPb_keeps) 96 = .ok (.iload_n 1, 1) := by decide +kernel
theorem dPb_keeps_97 : decode (mC mPb_keeps) 97 = .ok (.iload_n 2, 1) := by decide +kernel
theorem dPb_keeps_98 : decode (mC mPb_keeps) 98 = .ok (.iload_n 3, 1) := by decide +kernel
theorem dPb_keeps_99 : decode (mC mPb_keeps) 99 = .ok (.invokevirtual 362, 3) := by decide +kernel
theorem dPb_keeps_102 : decode (mC mPb_keeps) 102 = .ok (.istore 4, 2) := by decide +kernel
theorem dPb_keeps_104 : decode (mC mPb_keeps) 104 = .ok (.iload 4, 2) := by decide +kernel
theorem dPb_keeps_106 : decode (mC mPb_keeps) 106 = .ok (.iconst (-1), 1) := by decide +kernel
theorem dPb_keeps_107 : decode (mC mPb_keeps) 107 = .ok (.if_icmp .ne (12), 3) := by decide +kernel
theorem dPb_keeps_110 : decode (mC mPb_keeps) 110 = .ok (.aload_n 0, 1) := by decide +kernel
theorem dPb_keeps_111 : decode (mC mPb_keeps) 111 = .ok (.bipush (8), 2) := by decide +kernel
theorem dPb_keeps_113 : decode (mC mPb_keeps) 113 = .ok (.invokevirtual 104, 3) := by decide +kernel
theorem dPb_keeps_116 : decode (mC mPb_keeps) 116 = .ok (.goto (9), 3) := by decide +kernel
theorem dPb_keeps_119 : decode (mC mPb_keeps) 119 = .ok (.aload_n 0, 1) := by decide +kernel
theorem dPb_keeps_120 : decode (mC mPb_keeps) 120 = .ok (.iload 4, 2) := by decide +kernel
theorem dPb_keeps_122 : decode (mC mPb_keeps) 122 = .ok (.invokevirtual 157, 3) := by decide +kernel
theorem dPb_keeps_125 : decode (mC mPb_keeps) 125 = .ok (.ireturn, 1) := by decide +kernel
theorem bPb_keeps_0 {E : mEn} {d : Nat} {σ : mSt} {Q : mPost} {a1 : Int32} {a2 : Int32} {a3 : Int32} {u4 : Value} : WP E (d + 1) mPb_keeps 0 [.ref 0, .int a1, .int a2, .int a3, u4] [] σ Q = WP E d mTr_exists 0 [.ref 1, .int a2] [] σ (fun r σ' => WP E (d + 1) mPb_keeps 8 [.ref 0, .int a1, .int a2, .int a3, u4] (r.toList ++ []) σ' Q) := (w_aload_n dPb_keeps_0 rfl).trans ((w_getr (r := 1) dPb_keeps_1 rz10_10 sh_0 rfl).trans ((w_iload_n dPb_keeps_4 rfl).trans (w_virt (vs := [.int a2]) (st' := []) (es := [.ref 1, .int a2]) dPb_keeps_5 rz10_78 rfl sh_1 rfl rfl rfl (Nat.le_of_ble_eq_true rfl) (Nat.le_of_ble_eq_true rfl) rfl)))
theorem bPb_keeps_8 {E : mEn} {d : Nat} {σ : mSt} {Q : mPost} {a1 : Int32} {a2 : Int32} {a3 : Int32} {u4 : Value} {s0 : Int32} : WP E d mPb_keeps 8 [.ref 0, .int a1, .int a2, .int a3, u4] [.int s0] σ Q = (if ¬ s0 = 0 then WP E d mPb_keeps 17 [.ref 0, .int a1, .int a2, .int a3, u4] [] σ Q else WP E d mPb_keeps 11 [.ref 0, .int a1, .int a2, .int a3, u4] [] σ Q) := w_ifne (t := 17) dPb_keeps_8 (by decide)
theorem bPb_keeps_11 {E : mEn} {d : Nat} {σ : mSt} {Q : mPost} {a1 : Int32} {a2 : Int32} {a3 : Int32} {u4 : Value} : WP E (d + 1) mPb_keeps 11 [.ref 0, .int a1, .int a2, .int a3, u4] [] σ Q = WP E d mPb_refuse 0 [.ref 0, .int 1] [] σ (fun r σ' => WP E (d + 1) mPb_keeps 16 [.ref 0, .int a1, .int a2, .int a3, u4] (r.toList ++ []) σ' Q) := (w_aload_n dPb_keeps_11 rfl).trans ((w_iconst (v := 1) dPb_keeps_12 rfl).trans (w_virt (vs := [.int 1]) (st' := []) (es := [.ref 0, .int 1]) dPb_keeps_13 rz10_104 rfl sh_0 rfl rfl rfl (Nat.le_of_ble_eq_true rfl) (Nat.le_of_ble_eq_true rfl) rfl))
theorem bPb_keeps_16 {E : mEn} {d : Nat} {σ : mSt} {Q : mPost} {a1 : Int32} {a2 : Int32} {a3 : Int32} {u4 : Value} {s0 : Int32} : WP E d mPb_keeps 16 [.ref 0, .int a1, .int a2, .int a3, u4] [.int s0] σ Q = Q (some (.int s0)) σ := w_iret dPb_keeps_16 rfl
theorem bPb_keeps_17 {E : mEn} {d : Nat} {σ : mSt} {Q : mPost} {a1 : Int32} {a2 : Int32} {a3 : Int32} {u4 : Value} : WP E (d + 1) mPb_keeps 17 [.ref 0, .int a1, .int a2, .int a3, u4] [] σ Q = WP E d mTw_hasPerson 0 [.ref 10, .int a1] [] σ (fun r σ' => WP E (d + 1) mPb_keeps 25 [.ref 0, .int a1, .int a2, .int a3, u4] (r.toList ++ []) σ' Q) := (w_aload_n dPb_keeps_17 rfl).trans ((w_getr (r := 10) dPb_keeps_18 rz10_26 sh_0 rfl).trans ((w_iload_n dPb_keeps_21 rfl).trans (w_virt (vs := [.int a1]) (st' := []) (es := [.ref 10, .int a1]) dPb_keeps_22 rz10_205 rfl sh_10 rfl rfl rfl (Nat.le_of_ble_eq_true rfl) (Nat.le_of_ble_eq_true rfl) rfl)))
theorem bPb_keeps_25 {E : mEn} {d : Nat} {σ : mSt} {Q : mPost} {a1 : Int32} {a2 : Int32} {a3 : Int32} {u4 : Value} {s0 : Int32} : WP E d mPb_keeps 25 [.ref 0, .int a1, .int a2, .int a3, u4] [.int s0] σ Q = (if ¬ s0 = 0 then WP E d mPb_keeps 34 [.ref 0, .int a1, .int a2, .int a3, u4] [] σ Q else WP E d mPb_keeps 28 [.ref 0, .int a1, .int a2, .int a3, u4] [] σ Q) := w_ifne (t := 34) dPb_keeps_25 (by decide)
theorem bPb_keeps_28 {E : mEn} {d : Nat} {σ : mSt} {Q : mPost} {a1 : Int32} {a2 : Int32} {a3 : Int32} {u4 : Value} : WP E (d + 1) mPb_keeps 28 [.ref 0, .int a1, .int a2, .int a3, u4] [] σ Q = WP E d mPb_refuse 0 [.ref 0, .int (nI 2)] [] σ (fun r σ' => WP E (d + 1) mPb_keeps 33 [.ref 0, .int a1, .int a2, .int a3, u4] (r.toList ++ []) σ' Q) := (w_aload_n dPb_keeps_28 rfl).trans ((w_iconst (v := (nI 2)) dPb_keeps_29 rfl).trans (w_virt (vs := [.int (nI 2)]) (st' := []) (es := [.ref 0, .int (nI 2)]) dPb_keeps_30 rz10_104 rfl sh_0 rfl rfl rfl (Nat.le_of_ble_eq_true rfl) (Nat.le_of_ble_eq_true rfl) rfl))
theorem bPb_keeps_33 {E : mEn} {d : Nat} {σ : mSt} {Q : mPost} {a1 : Int32} {a2 : Int32} {a3 : Int32} {u4 : Value} {s0 : Int32} : WP E d mPb_keeps 33 [.ref 0, .int a1, .int a2, .int a3, u4] [.int s0] σ Q = Q (some (.int s0)) σ := w_iret dPb_keeps_33 rfl
theorem bPb_keeps_34 {E : mEn} {d : Nat} {σ : mSt} {Q : mPost} {a1 : Int32} {a2 : Int32} {a3 : Int32} {u4 : Value} : WP E (d + 1) mPb_keeps 34 [.ref 0, .int a1, .int a2, .int a3, u4] [] σ Q = WP E d mTr_isMissing 0 [.ref 1, .int a2] [] σ (fun r σ' => WP E (d + 1) mPb_keeps 42 [.ref 0, .int a1, .int a2, .int a3, u4] (r.toList ++ []) σ' Q) := (w_aload_n dPb_keeps_34 rfl).trans ((w_getr (r := 1) dPb_keeps_35 rz10_10 sh_0 rfl).trans ((w_iload_n dPb_keeps_38 rfl).trans (w_virt (vs := [.int a2]) (st' := []) (es := [.ref 1, .int a2]) dPb_keeps_39 rz10_112 rfl sh_1 rfl rfl rfl (Nat.le_of_ble_eq_true rfl) (Nat.le_of_ble_eq_true rfl) rfl)))
theorem bPb_keeps_42 {E : mEn} {d : Nat} {σ : mSt} {Q : mPost} {a1 : Int32} {a2 : Int32} {a3 : Int32} {u4 : Value} {s0 : Int32} : WP E d mPb_keeps 42 [.ref 0, .int a1, .int a2, .int a3, u4] [.int s0] σ Q = (if s0 = 0 then WP E d mPb_keeps 51 [.ref 0, .int a1, .int a2, .int a3, u4] [] σ Q else WP E d mPb_keeps 45 [.ref 0, .int a1, .int a2, .int a3, u4] [] σ Q) := w_ifeq (t := 51) dPb_keeps_42 (by decide)
theorem bPb_keeps_45 {E : mEn} {d : Nat} {σ : mSt} {Q : mPost} {a1 : Int32} {a2 : Int32} {a3 : Int32} {u4 : Value} : WP E (d + 1) mPb_keeps 45 [.ref 0, .int a1, .int a2, .int a3, u4] [] σ Q = WP E d mPb_refuse 0 [.ref 0, .int (nI 3)] [] σ (fun r σ' => WP E (d + 1) mPb_keeps 50 [.ref 0, .int a1, .int a2, .int a3, u4] (r.toList ++ []) σ' Q) := (w_aload_n dPb_keeps_45 rfl).trans ((w_iconst (v := (nI 3)) dPb_keeps_46 rfl).trans (w_virt (vs := [.int (nI 3)]) (st' := []) (es := [.ref 0, .int (nI 3)]) dPb_keeps_47 rz10_104 rfl sh_0 rfl rfl rfl (Nat.le_of_ble_eq_true rfl) (Nat.le_of_ble_eq_true rfl) rfl))
theorem bPb_keeps_50 {E : mEn} {d : Nat} {σ : mSt} {Q : mPost} {a1 : Int32} {a2 : Int32} {a3 : Int32} {u4 : Value} {s0 : Int32} : WP E d mPb_keeps 50 [.ref 0, .int a1, .int a2, .int a3, u4] [.int s0] σ Q = Q (some (.int s0)) σ := w_iret dPb_keeps_50 rfl
theorem bPb_keeps_51 {E : mEn} {d : Nat} {σ : mSt} {Q : mPost} {a1 : Int32} {a2 : Int32} {a3 : Int32} {u4 : Value} : WP E (d + 1) mPb_keeps 51 [.ref 0, .int a1, .int a2, .int a3, u4] [] σ Q = WP E d mTr_lengthOf 0 [.ref 1, .int a2] [] σ (fun r σ' => WP E (d + 1) mPb_keeps 60 [.ref 0, .int a1, .int a2, .int a3, u4] (r.toList ++ [.int a3]) σ' Q) := (w_iload_n dPb_keeps_51 rfl).trans ((w_aload_n dPb_keeps_52 rfl).trans ((w_getr (r := 1) dPb_keeps_53 rz10_10 sh_0 rfl).trans ((w_iload_n dPb_keeps_56 rfl).trans (w_virt (vs := [.int a2]) (st' := [.int a3]) (es := [.ref 1, .int a2]) dPb_keeps_57 rz10_353 rfl sh_1 rfl rfl rfl (Nat.le_of_ble_eq_true rfl) (Nat.le_of_ble_eq_true rfl) rfl))))
theorem bPb_keeps_60 {E : mEn} {d : Nat} {σ : mSt} {Q : mPost} {a1 : Int32} {a2 : Int32} {a3 : Int32} {u4 : Value} {s0 : Int32} {s1 : Int32} : WP E d mPb_keeps 60 [.ref 0, .int a1, .int a2, .int a3, u4] [.int s0, .int s1] σ Q = (if s1 ≤ s0 then WP E d mPb_keeps 69 [.ref 0, .int a1, .int a2, .int a3, u4] [] σ Q else WP E d mPb_keeps 63 [.ref 0, .int a1, .int a2, .int a3, u4] [] σ Q) := w_icmple (t := 69) dPb_keeps_60 (by decide)
theorem bPb_keeps_63 {E : mEn} {d : Nat} {σ : mSt} {Q : mPost} {a1 : Int32} {a2 : Int32} {a3 : Int32} {u4 : Value} : WP E (d + 1) mPb_keeps 63 [.ref 0, .int a1, .int a2, .int a3, u4] [] σ Q = WP E d mPb_refuse 0 [.ref 0, .int (nI 4)] [] σ (fun r σ' => WP E (d + 1) mPb_keeps 68 [.ref 0, .int a1, .int a2, .int a3, u4] (r.toList ++ []) σ' Q) := (w_aload_n dPb_keeps_63 rfl).trans ((w_iconst (v := (nI 4)) dPb_keeps_64 rfl).trans (w_virt (vs := [.int (nI 4)]) (st' := []) (es := [.ref 0, .int (nI 4)]) dPb_keeps_65 rz10_104 rfl sh_0 rfl rfl rfl (Nat.le_of_ble_eq_true rfl) (Nat.le_of_ble_eq_true rfl) rfl))
theorem bPb_keeps_68 {E : mEn} {d : Nat} {σ : mSt} {Q : mPost} {a1 : Int32} {a2 : Int32} {a3 : Int32} {u4 : Value} {s0 : Int32} : WP E d mPb_keeps 68 [.ref 0, .int a1, .int a2, .int a3, u4] [.int s0] σ Q = Q (some (.int s0)) σ := w_iret dPb_keeps_68 rfl
theorem bPb_keeps_69 {E : mEn} {d : Nat} {σ : mSt} {Q : mPost} {a1 : Int32} {a2 : Int32} {a3 : Int32} {u4 : Value} : WP E d mPb_keeps 69 [.ref 0, .int a1, .int a2, .int a3, u4] [] σ Q = (if a3 < 1 then WP E d mPb_keeps 89 [.ref 0, .int a1, .int a2, .int a3, u4] [] σ Q else WP E d mPb_keeps 74 [.ref 0, .int a1, .int a2, .int a3, u4] [] σ Q) := (w_iload_n dPb_keeps_69 rfl).trans ((w_iconst (v := 1) dPb_keeps_70 rfl).trans (w_icmplt (t := 89) dPb_keeps_71 (by decide)))
theorem bPb_keeps_74 {E : mEn} {d : Nat} {σ : mSt} {Q : mPost} {a1 : Int32} {a2 : Int32} {a3 : Int32} {u4 : Value} : WP E (d + 1) mPb_keeps 74 [.ref 0, .int a1, .int a2, .int a3, u4] [] σ Q = WP E d mTr_allWithin 0 [.ref 1, .int a2, .int a3, .long (999), uu, uu] [] σ (fun r σ' => WP E (d + 1) mPb_keeps 86 [.ref 0, .int a1, .int a2, .int a3, u4] (r.toList ++ []) σ' Q) := (w_aload_n dPb_keeps_74 rfl).trans ((w_getr (r := 1) dPb_keeps_75 rz10_10 sh_0 rfl).trans ((w_iload_n dPb_keeps_78 rfl).trans ((w_iload_n dPb_keeps_79 rfl).trans ((w_ldc2_w dPb_keeps_80 rz10_356).trans (w_virt (vs := [.int a2, .int a3, .long (999)]) (st' := []) (es := [.ref 1, .int a2, .int a3, .long (999), uu, uu]) dPb_keeps_83 rz10_358 rfl sh_1 rfl rfl rfl (Nat.le_of_ble_eq_true rfl) (Nat.le_of_ble_eq_true rfl) rfl)))))
theorem bPb_keeps_86 {E : mEn} {d : Nat} {σ : mSt} {Q : mPost} {a1 : Int32} {a2 : Int32} {a3 : Int32} {u4 : Value} {s0 : Int32} : WP E d mPb_keeps 86 [.ref 0, .int a1, .int a2, .int a3, u4] [.int s0] σ Q = (if ¬ s0 = 0 then WP E d mPb_keeps 95 [.ref 0, .int a1, .int a2, .int a3, u4] [] σ Q else WP E d mPb_keeps 89 [.ref 0, .int a1, .int a2, .int a3, u4] [] σ Q) := w_ifne (t := 95) dPb_keeps_86 (by decide)
theorem bPb_keeps_89 {E : mEn} {d : Nat} {σ : mSt} {Q : mPost} {a1 : Int32} {a2 : Int32} {a3 : Int32} {u4 : Value} : WP E (d + 1) mPb_keeps 89 [.ref 0, .int a1, .int a2, .int a3, u4] [] σ Q = WP E d mPb_refuse 0 [.ref 0, .int (nI 5)] [] σ (fun r σ' => WP E (d + 1) mPb_keeps 94 [.ref 0, .int a1, .int a2, .int a3, u4] (r.toList ++ []) σ' Q) := (w_aload_n dPb_keeps_89 rfl).trans ((w_iconst (v := (nI 5)) dPb_keeps_90 rfl).trans (w_virt (vs := [.int (nI 5)]) (st' := []) (es := [.ref 0, .int (nI 5)]) dPb_keeps_91 rz10_104 rfl sh_0 rfl rfl rfl (Nat.le_of_ble_eq_true rfl) (Nat.le_of_ble_eq_true rfl) rfl))
theorem bPb_keeps_94 {E : mEn} {d : Nat} {σ : mSt} {Q : mPost} {a1 : Int32} {a2 : Int32} {a3 : Int32} {u4 : Value} {s0 : Int32} : WP E d mPb_keeps 94 [.ref 0, .int a1, .int a2, .int a3, u4] [.int s0] σ Q = Q (some (.int s0)) σ := w_iret dPb_keeps_94 rfl
theorem bPb_keeps_95 {E : mEn} {d : Nat} {σ : mSt} {Q : mPost} {a1 : Int32} {a2 : Int32} {a3 : Int32} {u4 : Value} : WP E (d + 1) mPb_keeps 95 [.ref 0, .int a1, .int a2, .int a3, u4] [] σ Q = WP E d mPb_firstBrokenDay 0 [.ref 0, .int a1, .int a2, .int a3, uu, uu, uu, uu] [] σ (fun r σ' => WP E (d + 1) mPb_keeps 102 [.ref 0, .int a1, .int a2, .int a3, u4] (r.toList ++ []) σ' Q) := (w_aload_n dPb_keeps_95 rfl).trans ((w_iload_n dPb_keeps_96 rfl).trans ((w_iload_n dPb_keeps_97 rfl).trans ((w_iload_n dPb_keeps_98 rfl).trans (w_virt (vs := [.int a1, .int a2, .int a3]) (st' := []) (es := [.ref 0, .int a1, .int a2, .int a3, uu, uu, uu, uu]) dPb_keeps_99 rz10_362 rfl sh_0 rfl rfl rfl (Nat.le_of_ble_eq_true rfl) (Nat.le_of_ble_eq_true rfl) rfl))))
theorem bPb_keeps_102 {E : mEn} {d : Nat} {σ : mSt} {Q : mPost} {a1 : Int32} {a2 : Int32} {a3 : Int32} {u4 : Value} {s0 : Int32} : WP E d mPb_keeps 102 [.ref 0, .int a1, .int a2, .int a3, u4] [.int s0] σ Q = (if ¬ s0 = (-1) then WP E d mPb_keeps 119 [.ref 0, .int a1, .int a2, .int a3, .int s0] [] σ Q else WP E d mPb_keeps 110 [.ref 0, .int a1, .int a2, .int a3, .int s0] [] σ Q) := (w_istore (ls' := [.ref 0, .int a1, .int a2, .int a3, .int s0]) dPb_keeps_102 (Nat.le_of_ble_eq_true rfl) rfl).trans ((w_iload dPb_keeps_104 rfl).trans ((w_iconst (v := (-1)) dPb_keeps_106 rfl).trans (w_icmpne (t := 119) dPb_keeps_107 (by decide))))
theorem bPb_keeps_110 {E : mEn} {d : Nat} {σ : mSt} {Q : mPost} {a1 : Int32} {a2 : Int32} {a3 : Int32} {a4 : Int32} : WP E (d + 1) mPb_keeps 110 [.ref 0, .int a1, .int a2, .int a3, .int a4] [] σ Q = WP E d mPb_refuse 0 [.ref 0, .int (nI 8)] [] σ (fun r σ' => WP E (d + 1) mPb_keeps 116 [.ref 0, .int a1, .int a2, .int a3, .int a4] (r.toList ++ []) σ' Q) := (w_aload_n dPb_keeps_110 rfl).trans ((w_bipush (v := (nI 8)) dPb_keeps_111 rfl).trans (w_virt (vs := [.int (nI 8)]) (st' := []) (es := [.ref 0, .int (nI 8)]) dPb_keeps_113 rz10_104 rfl sh_0 rfl rfl rfl (Nat.le_of_ble_eq_true rfl) (Nat.le_of_ble_eq_true rfl) rfl))
theorem bPb_keeps_116 {E : mEn} {d : Nat} {σ : mSt} {Q : mPost} {a1 : Int32} {a2 : Int32} {a3 : Int32} {a4 : Int32} {s0 : Int32} : WP E d mPb_keeps 116 [.ref 0, .int a1, .int a2, .int a3, .int a4] [.int s0] σ Q = WP E d mPb_keeps 125 [.ref 0, .int a1, .int a2, .int a3, .int a4] [.int s0] σ Q := w_goto (t := 125) dPb_keeps_116 (by decide)
theorem bPb_keeps_119 {E : mEn} {d : Nat} {σ : mSt} {Q : mPost} {a1 : Int32} {a2 : Int32} {a3 : Int32} {a4 : Int32} : WP E (d + 1) mPb_keeps 119 [.ref 0, .int a1, .int a2, .int a3, .int a4] [] σ Q = WP E d mPb_answer 0 [.ref 0, .int a4] [] σ (fun r σ' => WP E (d + 1) mPb_keeps 125 [.ref 0, .int a1, .int a2, .int a3, .int a4] (r.toList ++ []) σ' Q) := (w_aload_n dPb_keeps_119 rfl).trans ((w_iload dPb_keeps_120 rfl).trans (w_virt (vs := [.int a4]) (st' := []) (es := [.ref 0, .int a4]) dPb_keeps_122 rz10_157 rfl sh_0 rfl rfl rfl (Nat.le_of_ble_eq_true rfl) (Nat.le_of_ble_eq_true rfl) rfl))
theorem bPb_keeps_125 {E : mEn} {d : Nat} {σ : mSt} {Q : mPost} {a1 : Int32} {a2 : Int32} {a3 : Int32} {a4 : Int32} {s0 : Int32} : WP E d mPb_keeps 125 [.ref 0, .int a1, .int a2, .int a3, .int a4] [.int s0] σ Q = Q (some (.int s0)) σ := w_iret dPb_keeps_125 rfl
theorem dPb_firstBrokenDay_0 : decode (mC mPb_firstBrokenDay) 0 = .ok (.aload_n 0, 1) := by decide +kernel
theorem dPb_firstBrokenDay_1 : decode (mC mPb_firstBrokenDay) 1 = .ok (.getfield 40, 3) := by decide +kernel
theorem dPb_firstBrokenDay_4 : decode (mC mPb_firstBrokenDay) 4 = .ok (.aload_n 0, 1) := by decide +kernel
theorem dPb_firstBrokenDay_5 : decode (mC mPb_firstBrokenDay) 5 = .ok (.getfield 26, 3) := by decide +kernel
theorem dPb_firstBrokenDay_8 : decode (mC mPb_firstBrokenDay) 8 = .ok (.iload_n 1, 1) := by decide +kernel
theorem dPb_firstBrokenDay_9 : decode (mC mPb_firstBrokenDay) 9 = .ok (.invokevirtual 340, 3) := by decide +kernel
theorem dPb_firstBrokenDay_12 : decode (mC mPb_firstBrokenDay) 12 = .ok (.lconst 0, 1) := by decide +kernel
theorem dPb_firstBrokenDay_13 : decode (mC mPb_firstBrokenDay) 13 = .ok (.lstore 4, 2) := by decide +kernel
theorem dPb_firstBrokenDay_15 : decode (mC mPb_firstBrokenDay) 15 = .ok (.iconst (0), 1) := by decide +kernel
theorem dPb_firstBrokenDay_16 : decode (mC mPb_firstBrokenDay) 16 = .ok (.istore 6, 2) := by decide +kernel
theorem dPb_firstBrokenDay_18 : decode (mC mPb_firstBrokenDay) 18 = .ok (.iload 6, 2) := by decide +kernel
theorem dPb_firstBrokenDay_20 : decode (mC mPb_firstBrokenDay) 20 = .ok (.iload_n 3, 1) := by decide +kernel
theorem dPb_firstBrokenDay_21 : decode (mC mPb_firstBrokenDay) 21 = .ok (.if_icmp .ge (86), 3) := by decide +kernel
theorem dPb_firstBrokenDay_24 : decode (mC mPb_firstBrokenDay) 24 = .ok (.iconst (0), 1) := by decide +kernel
theorem dPb_firstBrokenDay_25 : decode (mC mPb_firstBrokenDay) 25 = .ok (.istore 7, 2) := by decide +kernel
theorem dPb_firstBrokenDay_27 : decode (mC mPb_firstBrokenDay) 27 = .ok (.iload 7, 2) := by decide +kernel
theorem dPb_firstBrokenDay_29 : decode (mC mPb_firstBrokenDay) 29 = .ok (.aload_n 0, 1) := by decide +kernel
theorem dPb_firstBrokenDay_30 : decode (mC mPb_firstBrokenDay) 30 = .ok (.getfield 26, 3) := by decide +kernel
theorem dPb_firstBrokenDay_33 : decode (mC mPb_firstBrokenDay) 33 = .ok (.getfield 154, 3) := by decide +kernel
theorem dPb_firstBrokenDay_36 : decode (mC mPb_firstBrokenDay) 36 = .ok (.if_icmp .ge (40), 3) := by decide +kernel
theorem dPb_firstBrokenDay_39 : decode (mC mPb_firstBrokenDay) 39 = .ok (.aload_n 0, 1) := by decide +kernel
theorem dPb_firstBrokenDay_40 : decode (mC mPb_firstBrokenDay) 40 = .ok (.getfield 26, 3) := by decide +kernel
theorem dPb_firstBrokenDay_43 : decode (mC mPb_firstBrokenDay) 43 = .ok (.getfield 230, 3) := by decide +kernel
theorem dPb_firstBrokenDay_46 : decode (mC mPb_firstBrokenDay) 46 = .ok (.iload 7, 2) := by decide +kernel
theorem dPb_firstBrokenDay_48 : decode (mC mPb_firstBrokenDay) 48 = .ok (.iaload, 1) := by decide +kernel
theorem dPb_firstBrokenDay_49 : decode (mC mPb_firstBrokenDay) 49 = .ok (.iload 6, 2) := by decide +kernel
theorem dPb_firstBrokenDay_51 : decode (mC mPb_firstBrokenDay) 51 = .ok (.if_icmp .ne (19), 3) := by decide +kernel
theorem dPb_firstBrokenDay_54 : decode (mC mPb_firstBrokenDay) 54 = .ok (.lload 4, 2) := by decide +kernel
theorem dPb_firstBrokenDay_56 : decode (mC mPb_firstBrokenDay) 56 = .ok (.aload_n 0, 1) := by decide +kernel
theorem dPb_firstBrokenDay_57 : decode (mC mPb_firstBrokenDay) 57 = .ok (.getfield 40, 3) := by decide +kernel
theorem dPb_firstBrokenDay_60 : decode (mC mPb_firstBrokenDay) 60 = .ok (.getfield 439, 3) := by decide +kernel
theorem dPb_firstBrokenDay_63 : decode (mC mPb_firstBrokenDay) 63 = .ok (.iload 7, 2) := by decide +kernel
theorem dPb_firstBrokenDay_65 : decode (mC mPb_firstBrokenDay) 65 = .ok (.iaload, 1) := by decide +kernel
theorem dPb_firstBrokenDay_66 : decode (mC mPb_firstBrokenDay) 66 = .ok (.i2l, 1) := by decide +kernel
theorem dPb_firstBrokenDay_67 : decode (mC mPb_firstBrokenDay) 67 = .ok (.ladd, 1) := by decide +kernel
theorem dPb_firstBrokenDay_68 : decode (mC mPb_firstBrokenDay) 68 = .ok (.lstore 4, 2) := by decide +kernel
theorem dPb_firstBrokenDay_70 : decode (mC mPb_firstBrokenDay) 70 = .ok (.iinc 7 (1), 3) := by decide +kernel
theorem dPb_firstBrokenDay_73 : decode (mC mPb_firstBrokenDay) 73 = .ok (.goto (-46), 3) := by decide +kernel
theorem dPb_firstBrokenDay_76 : decode (mC mPb_firstBrokenDay) 76 = .ok (.lload 4, 2) := by decide +kernel
theorem dPb_firstBrokenDay_78 : decode (mC mPb_firstBrokenDay) 78 = .ok (.aload_n 0, 1) := by decide +kernel
theorem dPb_firstBrokenDay_79 : decode (mC mPb_firstBrokenDay) 79 = .ok (.getfield 10, 3) := by decide +kernel
theorem dPb_firstBrokenDay_82 : decode (mC mPb_firstBrokenDay) 82 = .ok (.iload_n 2, 1) := by decide +kernel
theorem dPb_firstBrokenDay_83 : decode (mC mPb_firstBrokenDay) 83 = .ok (.iload 6, 2) := by decide +kernel
theorem dPb_firstBrokenDay_85 : decode (mC mPb_firstBrokenDay) 85 = .ok (.invokevirtual 108, 3) := by decide +kernel
theorem dPb_firstBrokenDay_88 : decode (mC mPb_firstBrokenDay) 88 = .ok (.lsub, 1) := by decide +kernel
theorem dPb_firstBrokenDay_89 : decode (mC mPb_firstBrokenDay) 89 = .ok (.lstore 4, 2) := by decide +kernel
theorem dPb_firstBrokenDay_91 : decode (mC mPb_firstBrokenDay) 91 = .ok (.lload 4, 2) := by decide +kernel
theorem dPb_firstBrokenDay_93 : decode (mC mPb_firstBrokenDay) 93 = .ok (.lconst 0, 1) := by decide +kernel
theorem dPb_firstBrokenDay_94 : decode (mC mPb_firstBrokenDay) 94 = .ok (.lcmp, 1) := by decide +kernel
theorem dPb_firstBrokenDay_95 : decode (mC mPb_firstBrokenDay) 95 = .ok (.ifCond .ge (6), 3) := by decide +kernel
theorem dPb_firstBrokenDay_98 : decode (mC mPb_firstBrokenDay) 98 = .ok (.iload 6, 2) := by decide +kernel
theorem dPb_firstBrokenDay_100 : decode (mC mPb_firstBrokenDay) 100 = .ok (.ireturn, 1) := by decide +kernel
theorem dPb_firstBrokenDay_101 : decode (mC mPb_firstBrokenDay) 101 = .ok (.iinc 6 (1), 3) := by decide +kernel
theorem dPb_firstBrokenDay_104 : decode (mC mPb_firstBrokenDay) 104 = .ok (.goto (-86), 3) := by decide +kernel
theorem dPb_firstBrokenDay_107 : decode (mC mPb_firstBrokenDay) 107 = .ok (.iconst (-1), 1) := by decide +kernel
theorem dPb_firstBrokenDay_108 : decode (mC mPb_firstBrokenDay) 108 = .ok (.ireturn, 1) := by decide +kernel
theorem bPb_firstBrokenDay_0 {E : mEn} {d : Nat} {σ : mSt} {Q : mPost} {a1 : Int32} {a2 : Int32} {a3 : Int32} {u4 : Value} {u5 : Value} {u6 : Value} {u7 : Value} : WP E (d + 1) mPb_firstBrokenDay 0 [.ref 0, .int a1, .int a2, .int a3, u4, u5, u6, u7] [] σ Q = WP E d mSh_gather 0 [.ref 61, .ref 10, .int a1, uu] [] σ (fun r σ' => WP E (d + 1) mPb_firstBrokenDay 12 [.ref 0, .int a1, .int a2, .int a3, u4, u5, u6, u7] (r.toList ++ []) σ' Q) := (w_aload_n dPb_firstBrokenDay_0 rfl).trans ((w_getr (r := 61) dPb_firstBrokenDay_1 rz10_40 sh_0 rfl).trans ((w_aload_n dPb_firstBrokenDay_4 rfl).trans ((w_getr (r := 10) dPb_firstBrokenDay_5 rz10_26 sh_0 rfl).trans ((w_iload_n dPb_firstBrokenDay_8 rfl).trans (w_virt (vs := [.ref 10, .int a1]) (st' := []) (es := [.ref 61, .ref 10, .int a1, uu]) dPb_firstBrokenDay_9 rz10_340 rfl sh_61 rfl rfl rfl (Nat.le_of_ble_eq_true rfl) (Nat.le_of_ble_eq_true rfl) rfl)))))
theorem bPb_firstBrokenDay_12 {E : mEn} {d : Nat} {σ : mSt} {Q : mPost} {a1 : Int32} {a2 : Int32} {a3 : Int32} {u4 : Value} {u5 : Value} {u6 : Value} {u7 : Value} : WP E d mPb_firstBrokenDay 12 [.ref 0, .int a1, .int a2, .int a3, u4, u5, u6, u7] [] σ Q = WP E d mPb_firstBrokenDay 18 [.ref 0, .int a1, .int a2, .int a3, .long 0, uu, .int 0, u7] [] σ Q := (w_lconst (v := 0) dPb_firstBrokenDay_12 rfl).trans ((w_lstore (ls' := [.ref 0, .int a1, .int a2, .int a3, .long 0, uu, u6, u7]) dPb_firstBrokenDay_13 (Nat.le_of_ble_eq_true rfl) rfl).trans ((w_iconst (v := 0) dPb_firstBrokenDay_15 rfl).trans (w_istore (ls' := [.ref 0, .int a1, .int a2, .int a3, .long 0, uu, .int 0, u7]) dPb_firstBrokenDay_16 (Nat.le_of_ble_eq_true rfl) rfl)))
theorem bPb_firstBrokenDay_18 {E : mEn} {d : Nat} {σ : mSt} {Q : mPost} {a1 : Int32} {a2 : Int32} {a3 : Int32} {j4 : Int64} {a6 : Int32} {u7 : Value} : WP E d mPb_firstBrokenDay 18 [.ref 0, .int a1, .int a2, .int a3, .long j4, uu, .int a6, u7] [] σ Q = (if a3 ≤ a6 then WP E d mPb_firstBrokenDay 107 [.ref 0, .int a1, .int a2, .int a3, .long j4, uu, .int a6, u7] [] σ Q else WP E d mPb_firstBrokenDay 24 [.ref 0, .int a1, .int a2, .int a3, .long j4, uu, .int a6, u7] [] σ Q) := (w_iload dPb_firstBrokenDay_18 rfl).trans ((w_iload_n dPb_firstBrokenDay_20 rfl).trans (w_icmpge (t := 107) dPb_firstBrokenDay_21 (by decide)))
theorem bPb_firstBrokenDay_24 {E : mEn} {d : Nat} {σ : mSt} {Q : mPost} {a1 : Int32} {a2 : Int32} {a3 : Int32} {j4 : Int64} {a6 : Int32} {u7 : Value} : WP E d mPb_firstBrokenDay 24 [.ref 0, .int a1, .int a2, .int a3, .long j4, uu, .int a6, u7] [] σ Q = WP E d mPb_firstBrokenDay 27 [.ref 0, .int a1, .int a2, .int a3, .long j4, uu, .int a6, .int 0] [] σ Q := (w_iconst (v := 0) dPb_firstBrokenDay_24 rfl).trans (w_istore (ls' := [.ref 0, .int a1, .int a2, .int a3, .long j4, uu, .int a6, .int 0]) dPb_firstBrokenDay_25 (Nat.le_of_ble_eq_true rfl) rfl)
theorem bPb_firstBrokenDay_27 {E : mEn} {d : Nat} {σ : mSt} {Q : mPost} {a1 : Int32} {a2 : Int32} {a3 : Int32} {j4 : Int64} {a6 : Int32} {a7 : Int32} : WP E d mPb_firstBrokenDay 27 [.ref 0, .int a1, .int a2, .int a3, .long j4, uu, .int a6, .int a7] [] σ Q = (if (σ.1 10 15) ≤ a7 then WP E d mPb_firstBrokenDay 76 [.ref 0, .int a1, .int a2, .int a3, .long j4, uu, .int a6, .int a7] [] σ Q else WP E d mPb_firstBrokenDay 39 [.ref 0, .int a1, .int a2, .int a3, .long j4, uu, .int a6, .int a7] [] σ Q) := (w_iload dPb_firstBrokenDay_27 rfl).trans ((w_aload_n dPb_firstBrokenDay_29 rfl).trans ((w_getr (r := 10) dPb_firstBrokenDay_30 rz10_26 sh_0 rfl).trans ((w_geti dPb_firstBrokenDay_33 rz10_154 sh_10 rfl).trans (w_icmpge (t := 76) dPb_firstBrokenDay_36 (by decide)))))
theorem bPb_firstBrokenDay_39 {E : mEn} {d : Nat} {σ : mSt} {Q : mPost} {a1 : Int32} {a2 : Int32} {a3 : Int32} {j4 : Int64} {a6 : Int32} {a7 : Int32} : WP E d mPb_firstBrokenDay 39 [.ref 0, .int a1, .int a2, .int a3, .long j4, uu, .int a6, .int a7] [] σ Q = (if mOut a7 8 = true then False else (if ¬ (σ.1 31 a7.toNatClampNeg) = a6 then WP E d mPb_firstBrokenDay 70 [.ref 0, .int a1, .int a2, .int a3, .long j4, uu, .int a6, .int a7] [] σ Q else WP E d mPb_firstBrokenDay 54 [.ref 0, .int a1, .int a2, .int a3, .long j4, uu, .int a6, .int a7] [] σ Q)) := (w_aload_n dPb_firstBrokenDay_39 rfl).trans ((w_getr (r := 10) dPb_firstBrokenDay_40 rz10_26 sh_0 rfl).trans ((w_getr (r := 31) dPb_firstBrokenDay_43 rz10_230 sh_10 rfl).trans ((w_iload dPb_firstBrokenDay_46 rfl).trans ((w_iald dPb_firstBrokenDay_48 sh_31 (by decide)).trans (ite_c ((w_iload dPb_firstBrokenDay_49 rfl).trans (w_icmpne (t := 70) dPb_firstBrokenDay_51 (by decide))))))))
theorem bPb_firstBrokenDay_54 {E : mEn} {d : Nat} {σ : mSt} {Q : mPost} {a1 : Int32} {a2 : Int32} {a3 : Int32} {j4 : Int64} {a6 : Int32} {a7 : Int32} : WP E d mPb_firstBrokenDay 54 [.ref 0, .int a1, .int a2, .int a3, .long j4, uu, .int a6, .int a7] [] σ Q = (if mOut a7 8 = true then False else WP E d mPb_firstBrokenDay 70 [.ref 0, .int a1, .int a2, .int a3, .long (j4 + ((σ.1 67 a7.toNatClampNeg).toInt64)), uu, .int a6, .int a7] [] σ Q) := (w_lload dPb_firstBrokenDay_54 rfl).trans ((w_aload_n dPb_firstBrokenDay_56 rfl).trans ((w_getr (r := 61) dPb_firstBrokenDay_57 rz10_40 sh_0 rfl).trans ((w_getr (r := 67) dPb_firstBrokenDay_60 rz10_439 sh_61 rfl).trans ((w_iload dPb_firstBrokenDay_63 rfl).trans ((w_iald dPb_firstBrokenDay_65 sh_67 (by decide)).trans (ite_c ((w_i2l dPb_firstBrokenDay_66).trans ((w_ladd dPb_firstBrokenDay_67).trans (w_lstore (ls' := [.ref 0, .int a1, .int a2, .int a3, .long (j4 + ((σ.1 67 a7.toNatClampNeg).toInt64)), uu, .int a6, .int a7]) dPb_firstBrokenDay_68 (Nat.le_of_ble_eq_true rfl) rfl)))))))))
theorem bPb_firstBrokenDay_70 {E : mEn} {d : Nat} {σ : mSt} {Q : mPost} {a1 : Int32} {a2 : Int32} {a3 : Int32} {j4 : Int64} {a6 : Int32} {a7 : Int32} : WP E d mPb_firstBrokenDay 70 [.ref 0, .int a1, .int a2, .int a3, .long j4, uu, .int a6, .int a7] [] σ Q = WP E d mPb_firstBrokenDay 27 [.ref 0, .int a1, .int a2, .int a3, .long j4, uu, .int a6, .int (a7 + 1)] [] σ Q := (w_iinc (v := 1) (ls' := [.ref 0, .int a1, .int a2, .int a3, .long j4, uu, .int a6, .int (a7 + 1)]) dPb_firstBrokenDay_70 rfl rfl rfl).trans (w_goto (t := 27) dPb_firstBrokenDay_73 (by decide))
theorem bPb_firstBrokenDay_76 {E : mEn} {d : Nat} {σ : mSt} {Q : mPost} {a1 : Int32} {a2 : Int32} {a3 : Int32} {j4 : Int64} {a6 : Int32} {a7 : Int32} : WP E (d + 1) mPb_firstBrokenDay 76 [.ref 0, .int a1, .int a2, .int a3, .long j4, uu, .int a6, .int a7] [] σ Q = WP E d mTr_at 0 [.ref 1, .int a2, .int a6] [] σ (fun r σ' => WP E (d + 1) mPb_firstBrokenDay 88 [.ref 0, .int a1, .int a2, .int a3, .long j4, uu, .int a6, .int a7] (r.toList ++ [.long j4]) σ' Q) := (w_lload dPb_firstBrokenDay_76 rfl).trans ((w_aload_n dPb_firstBrokenDay_78 rfl).trans ((w_getr (r := 1) dPb_firstBrokenDay_79 rz10_10 sh_0 rfl).trans ((w_iload_n dPb_firstBrokenDay_82 rfl).trans ((w_iload dPb_firstBrokenDay_83 rfl).trans (w_virt (vs := [.int a2, .int a6]) (st' := [.long j4]) (es := [.ref 1, .int a2, .int a6]) dPb_firstBrokenDay_85 rz10_108 rfl sh_1 rfl rfl rfl (Nat.le_of_ble_eq_true rfl) (Nat.le_of_ble_eq_true rfl) rfl)))))
theorem bPb_firstBrokenDay_88 {E : mEn} {d : Nat} {σ : mSt} {Q : mPost} {a1 : Int32} {a2 : Int32} {a3 : Int32} {j4 : Int64} {a6 : Int32} {a7 : Int32} {q0 : Int64} {q1 : Int64} : WP E d mPb_firstBrokenDay 88 [.ref 0, .int a1, .int a2, .int a3, .long j4, uu, .int a6, .int a7] [.long q0, .long q1] σ Q = (if 0 ≤ (lg_cmp (q1 - q0) 0) then WP E d mPb_firstBrokenDay 101 [.ref 0, .int a1, .int a2, .int a3, .long (q1 - q0), uu, .int a6, .int a7] [] σ Q else WP E d mPb_firstBrokenDay 98 [.ref 0, .int a1, .int a2, .int a3, .long (q1 - q0), uu, .int a6, .int a7] [] σ Q) := (w_lsub dPb_firstBrokenDay_88).trans ((w_lstore (ls' := [.ref 0, .int a1, .int a2, .int a3, .long (q1 - q0), uu, .int a6, .int a7]) dPb_firstBrokenDay_89 (Nat.le_of_ble_eq_true rfl) rfl).trans ((w_lload dPb_firstBrokenDay_91 rfl).trans ((w_lconst (v := 0) dPb_firstBrokenDay_93 rfl).trans ((w_lcmp dPb_firstBrokenDay_94).trans (w_ifge (t := 101) dPb_firstBrokenDay_95 (by decide))))))
theorem bPb_firstBrokenDay_98 {E : mEn} {d : Nat} {σ : mSt} {Q : mPost} {a1 : Int32} {a2 : Int32} {a3 : Int32} {j4 : Int64} {a6 : Int32} {a7 : Int32} : WP E d mPb_firstBrokenDay 98 [.ref 0, .int a1, .int a2, .int a3, .long j4, uu, .int a6, .int a7] [] σ Q = Q (some (.int a6)) σ := (w_iload dPb_firstBrokenDay_98 rfl).trans (w_iret dPb_firstBrokenDay_100 rfl)
theorem bPb_firstBrokenDay_101 {E : mEn} {d : Nat} {σ : mSt} {Q : mPost} {a1 : Int32} {a2 : Int32} {a3 : Int32} {j4 : Int64} {a6 : Int32} {a7 : Int32} : WP E d mPb_firstBrokenDay 101 [.ref 0, .int a1, .int a2, .int a3, .long j4, uu, .int a6, .int a7] [] σ Q = WP E d mPb_firstBrokenDay 18 [.ref 0, .int a1, .int a2, .int a3, .long j4, uu, .int (a6 + 1), .int a7] [] σ Q := (w_iinc (v := 1) (ls' := [.ref 0, .int a1, .int a2, .int a3, .long j4, uu, .int (a6 + 1), .int a7]) dPb_firstBrokenDay_101 rfl rfl rfl).trans (w_goto (t := 18) dPb_firstBrokenDay_104 (by decide))
theorem bPb_firstBrokenDay_107 {E : mEn} {d : Nat} {σ : mSt} {Q : mPost} {a1 : Int32} {a2 : Int32} {a3 : Int32} {j4 : Int64} {a6 : Int32} {u7 : Value} : WP E d mPb_firstBrokenDay 107 [.ref 0, .int a1, .int a2, .int a3, .long j4, uu, .int a6, u7] [] σ Q = Q (some (.int (-1))) σ := (w_iconst (v := (-1)) dPb_firstBrokenDay_107 rfl).trans (w_iret dPb_firstBrokenDay_108 rfl)
theorem dPb_burst_0 : decode (mC mPb_burst) 0 = .ok (.iconst (-1), 1) := by decide +kernel
theorem dPb_burst_1 : decode (mC mPb_burst) 1 = .ok (.istore_n 1, 1) := by decide +kernel
theorem dPb_burst_2 : decode (mC mPb_burst) 2 = .ok (.iconst (0), 1) := by decide +kernel
theorem dPb_burst_3 : decode (mC mPb_burst) 3 = .ok (.istore_n 2, 1) := by decide +kernel
theorem dPb_burst_4 : decode (mC mPb_burst) 4 = .ok (.iload_n 2, 1) := by decide +kernel
theorem dPb_burst_5 : decode (mC mPb_burst) 5 = .ok (.aload_n 0, 1) := by decide +kernel
theorem dPb_burst_6 : decode (mC mPb_burst) 6 = .ok (.getfield 26, 3) := by decide +kernel
theorem dPb_burst_9 : decode (mC mPb_burst) 9 = .ok (.getfield 154, 3) := by decide +kernel
theorem dPb_burst_12 : decode (mC mPb_burst) 12 = .ok (.if_icmp .ge (87), 3) := by decide +kernel
theorem dPb_burst_15 : decode (mC mPb_burst) 15 = .ok (.aload_n 0, 1) := by decide +kernel
theorem dPb_burst_16 : decode (mC mPb_burst) 16 = .ok (.getfield 26, 3) := by decide +kernel
theorem dPb_burst_19 : decode (mC mPb_burst) 19 = .ok (.getfield 230, 3) := by decide +kernel
theorem dPb_burst_22 : decode (mC mPb_burst) 22 = .ok (.iload_n 2, 1) := by decide +kernel
theorem dPb_burst_23 : decode (mC mPb_burst) 23 = .ok (.iaload, 1) := by decide +kernel
theorem dPb_burst_24 : decode (mC mPb_burst) 24 = .ok (.istore_n 3, 1) := by decide +kernel
theorem dPb_burst_25 : decode (mC mPb_burst) 25 = .ok (.aload_n 0, 1) := by decide +kernel
theorem dPb_burst_26 : decode (mC mPb_burst) 26 = .ok (.getfield 26, 3) := by decide +kernel
theorem dPb_burst_29 : decode (mC mPb_burst) 29 = .ok (.iload_n 2, 1) := by decide +kernel
theorem dPb_burst_30 : decode (mC mPb_burst) 30 = .ok (.invokevirtual 224, 3) := by decide +kernel
theorem dPb_burst_33 : decode (mC mPb_burst) 33 = .ok (.ifCond .eq (60), 3) := by decide +kernel
theorem dPb_burst_36 : decode (mC mPb_burst) 36 = .ok (.iload_n 3, 1) := by decide +kernel
theorem dPb_burst_37 : decode (mC mPb_burst) 37 = .ok (.aload_n 0, 1) := by decide +kernel
theorem dPb_burst_38 : decode (mC mPb_burst) 38 = .ok (.getfield 26, 3) := by decide +kernel
theorem dPb_burst_41 : decode (mC mPb_burst) 41 = .ok (.getfield 196, 3) := by decide +kernel
theorem dPb_burst_44 : decode (mC mPb_burst) 44 = .ok (.if_icmp .lt (49), 3) := by decide +kernel
theorem dPb_burst_47 : decode (mC mPb_burst) 47 = .ok (.iload_n 1, 1) := by decide +kernel
theorem dPb_burst_48 : decode (mC mPb_burst) 48 = .ok (.iconst (-1), 1) := by decide +kernel
theorem dPb_burst_49 : decode (mC mPb_burst) 49 = .ok (.if_icmp .eq (11), 3) := by decide +kernel
theorem dPb_burst_52 : decode (mC mPb_burst) 52 = .ok (.iload_n 3, 1) := by decide +kernel
theorem dPb_burst_53 : decode (mC mPb_burst) 53 = .ok (.iload_n 1, 1) := by decide +kernel
theorem dPb_burst_54 : decode (mC mPb_burst) 54 = .ok (.if_icmp .lt (6), 3) := by decide +kernel
theorem dPb_burst_57 : decode (mC mPb_burst) 57 = .ok (.goto (36), 3) := by decide +kernel
theorem dPb_burst_60 : decode (mC mPb_burst) 60 = .ok (.aload_n 0, 1) := by decide +kernel
theorem dPb_burst_61 : decode (mC mPb_burst) 61 = .ok (.getfield 40, 3) := by decide +kernel
theorem dPb_burst_64 : decode (mC mPb_burst) 64 = .ok (.aload_n 0, 1) := by decide +kernel
theorem dPb_burst_65 : decode (mC mPb_burst) 65 = .ok (.getfield 26, 3) := by decide +kernel
theorem dPb_burst_68 : decode (mC mPb_burst) 68 = .ok (.iload_n 2, 1) := by decide +kernel
theorem dPb_burst_69 : decode (mC mPb_burst) 69 = .ok (.invokevirtual 265, 3) := by decide +kernel
theorem dPb_burst_72 : decode (mC mPb_burst) 72 = .ok (.aload_n 0, 1) := by decide +kernel
theorem dPb_burst_73 : decode (mC mPb_burst) 73 = .ok (.getfield 40, 3) := by decide +kernel
theorem dPb_burst_76 : decode (mC mPb_burst) 76 = .ok (.aload_n 0, 1) := by decide +kernel
theorem dPb_burst_77 : decode (mC mPb_burst) 77 = .ok (.getfield 26, 3) := by decide +kernel
theorem dPb_burst_80 : decode (mC mPb_burst) 80 = .ok (.getfield 221, 3) := by decide +kernel
theorem dPb_burst_83 : decode (mC mPb_burst) 83 = .ok (.iload_n 2, 1) := by decide +kernel
theorem dPb_burst_84 : decode (mC mPb_burst) 84 = .ok (.iaload, 1) := by decide +kernel
theorem dPb_burst_85 : decode (mC mPb_burst) 85 = .ok (.invokevirtual 350, 3) := by decide +kernel
theorem dPb_burst_88 : decode (mC mPb_burst) 88 = .ok (.ifCond .eq (5), 3) := by decide +kernel
theorem dPb_burst_91 : decode (mC mPb_burst) 91 = .ok (.iload_n 3, 1) := by decide +kernel
theorem dPb_burst_92 : decode (mC mPb_burst) 92 = .ok (.istore_n 1, 1) := by decide +kernel
theorem dPb_burst_93 : decode (mC mPb_burst) 93 = .ok (.iinc 2 (1), 3) := by decide +kernel
theorem dPb_burst_96 : decode (mC mPb_burst) 96 = .ok (.goto (-92), 3) := by decide +kernel
theorem dPb_burst_99 : decode (mC mPb_burst) 99 = .ok (.iload_n 1, 1) := by decide +kernel
theorem dPb_burst_100 : decode (mC mPb_burst) 100 = .ok (.iconst (-1), 1) := by decide +kernel
theorem dPb_burst_101 : decode (mC mPb_burst) 101 = .ok (.if_icmp .ne (12), 3) := by decide +kernel
theorem dPb_burst_104 : decode (mC mPb_burst) 104 = .ok (.aload_n 0, 1) := by decide +kernel
theorem dPb_burst_105 : decode (mC mPb_burst) 105 = .ok (.bipush (8), 2) := by decide +kernel
theorem dPb_burst_107 : decode (mC mPb_burst) 107 = .ok (.invokevirtual 104, 3) := by decide +kernel
theorem dPb_burst_110 : decode (mC mPb_burst) 110 = .ok (.goto (8), 3) := by decide +kernel
theorem dPb_burst_113 : decode (mC mPb_burst) 113 = .ok (.aload_n 0, 1) := by decide +kernel
theorem dPb_burst_114 : decode (mC mPb_burst) 114 = .ok (.iload_n 1, 1) := by decide +kernel
theorem dPb_burst_115 : decode (mC mPb_burst) 115 = .ok (.invokevirtual 157, 3) := by decide +kernel
theorem dPb_burst_118 : decode (mC mPb_burst) 118 = .ok (.ireturn, 1) := by decide +kernel
theorem bPb_burst_0 {E : mEn} {d : Nat} {σ : mSt} {Q : mPost} {u1 : Value} {u2 : Value} {u3 : Value} : WP E d mPb_burst 0 [.ref 0, u1, u2, u3] [] σ Q = WP E d mPb_burst 4 [.ref 0, .int (-1), .int 0, u3] [] σ Q := (w_iconst (v := (-1)) dPb_burst_0 rfl).trans ((w_istore_n (ls' := [.ref 0, .int (-1), u2, u3]) dPb_burst_1 (Nat.le_of_ble_eq_true rfl) rfl).trans ((w_iconst (v := 0) dPb_burst_2 rfl).trans (w_istore_n (ls' := [.ref 0, .int (-1), .int 0, u3]) dPb_burst_3 (Nat.le_of_ble_eq_true rfl) rfl)))
theorem bPb_burst_4 {E : mEn} {d : Nat} {σ : mSt} {Q : mPost} {a1 : Int32} {a2 : Int32} {u3 : Value} : WP E d mPb_burst 4 [.ref 0, .int a1, .int a2, u3] [] σ Q = (if (σ.1 10 15) ≤ a2 then WP E d mPb_burst 99 [.ref 0, .int a1, .int a2, u3] [] σ Q else WP E d mPb_burst 15 [.ref 0, .int a1, .int a2, u3] [] σ Q) := (w_iload_n dPb_burst_4 rfl).trans ((w_aload_n dPb_burst_5 rfl).trans ((w_getr (r := 10) dPb_burst_6 rz10_26 sh_0 rfl).trans ((w_geti dPb_burst_9 rz10_154 sh_10 rfl).trans (w_icmpge (t := 99) dPb_burst_12 (by decide)))))
theorem bPb_burst_15 {E : mEn} {d : Nat} {σ : mSt} {Q : mPost} {a1 : Int32} {a2 : Int32} {u3 : Value} : WP E (d + 1) mPb_burst 15 [.ref 0, .int a1, .int a2, u3] [] σ Q = (if mOut a2 8 = true then False else WP E d mTw_isPaper 0 [.ref 10, .int a2] [] σ (fun r σ' => WP E (d + 1) mPb_burst 33 [.ref 0, .int a1, .int a2, .int (σ.1 31 a2.toNatClampNeg)] (r.toList ++ []) σ' Q)) := (w_aload_n dPb_burst_15 rfl).trans ((w_getr (r := 10) dPb_burst_16 rz10_26 sh_0 rfl).trans ((w_getr (r := 31) dPb_burst_19 rz10_230 sh_10 rfl).trans ((w_iload_n dPb_burst_22 rfl).trans ((w_iald dPb_burst_23 sh_31 (by decide)).trans (ite_c ((w_istore_n (ls' := [.ref 0, .int a1, .int a2, .int (σ.1 31 a2.toNatClampNeg)]) dPb_burst_24 (Nat.le_of_ble_eq_true rfl) rfl).trans ((w_aload_n dPb_burst_25 rfl).trans ((w_getr (r := 10) dPb_burst_26 rz10_26 sh_0 rfl).trans ((w_iload_n dPb_burst_29 rfl).trans (w_virt (vs := [.int a2]) (st' := []) (es := [.ref 10, .int a2]) dPb_burst_30 rz10_224 rfl sh_10 rfl rfl rfl (Nat.le_of_ble_eq_true rfl) (Nat.le_of_ble_eq_true rfl) rfl))))))))))
theorem bPb_burst_33 {E : mEn} {d : Nat} {σ : mSt} {Q : mPost} {a1 : Int32} {a2 : Int32} {a3 : Int32} {s0 : Int32} : WP E d mPb_burst 33 [.ref 0, .int a1, .int a2, .int a3] [.int s0] σ Q = (if s0 = 0 then WP E d mPb_burst 93 [.ref 0, .int a1, .int a2, .int a3] [] σ Q else WP E d mPb_burst 36 [.ref 0, .int a1, .int a2, .int a3] [] σ Q) := w_ifeq (t := 93) dPb_burst_33 (by decide)
theorem bPb_burst_36 {E : mEn} {d : Nat} {σ : mSt} {Q : mPost} {a1 : Int32} {a2 : Int32} {a3 : Int32} : WP E d mPb_burst 36 [.ref 0, .int a1, .int a2, .int a3] [] σ Q = (if a3 < (σ.1 10 16) then WP E d mPb_burst 93 [.ref 0, .int a1, .int a2, .int a3] [] σ Q else WP E d mPb_burst 47 [.ref 0, .int a1, .int a2, .int a3] [] σ Q) := (w_iload_n dPb_burst_36 rfl).trans ((w_aload_n dPb_burst_37 rfl).trans ((w_getr (r := 10) dPb_burst_38 rz10_26 sh_0 rfl).trans ((w_geti dPb_burst_41 rz10_196 sh_10 rfl).trans (w_icmplt (t := 93) dPb_burst_44 (by decide)))))
theorem bPb_burst_47 {E : mEn} {d : Nat} {σ : mSt} {Q : mPost} {a1 : Int32} {a2 : Int32} {a3 : Int32} : WP E d mPb_burst 47 [.ref 0, .int a1, .int a2, .int a3] [] σ Q = (if a1 = (-1) then WP E d mPb_burst 60 [.ref 0, .int a1, .int a2, .int a3] [] σ Q else WP E d mPb_burst 52 [.ref 0, .int a1, .int a2, .int a3] [] σ Q) := (w_iload_n dPb_burst_47 rfl).trans ((w_iconst (v := (-1)) dPb_burst_48 rfl).trans (w_icmpeq (t := 60) dPb_burst_49 (by decide)))
theorem bPb_burst_52 {E : mEn} {d : Nat} {σ : mSt} {Q : mPost} {a1 : Int32} {a2 : Int32} {a3 : Int32} : WP E d mPb_burst 52 [.ref 0, .int a1, .int a2, .int a3] [] σ Q = (if a3 < a1 then WP E d mPb_burst 60 [.ref 0, .int a1, .int a2, .int a3] [] σ Q else WP E d mPb_burst 57 [.ref 0, .int a1, .int a2, .int a3] [] σ Q) := (w_iload_n dPb_burst_52 rfl).trans ((w_iload_n dPb_burst_53 rfl).trans (w_icmplt (t := 60) dPb_burst_54 (by decide)))
theorem bPb_burst_57 {E : mEn} {d : Nat} {σ : mSt} {Q : mPost} {a1 : Int32} {a2 : Int32} {a3 : Int32} : WP E d mPb_burst 57 [.ref 0, .int a1, .int a2, .int a3] [] σ Q = WP E d mPb_burst 93 [.ref 0, .int a1, .int a2, .int a3] [] σ Q := w_goto (t := 93) dPb_burst_57 (by decide)
theorem bPb_burst_60 {E : mEn} {d : Nat} {σ : mSt} {Q : mPost} {a1 : Int32} {a2 : Int32} {a3 : Int32} : WP E (d + 1) mPb_burst 60 [.ref 0, .int a1, .int a2, .int a3] [] σ Q = WP E d mSh_weigh 0 [.ref 61, .ref 10, .int a2, uu, uu] [] σ (fun r σ' => WP E (d + 1) mPb_burst 72 [.ref 0, .int a1, .int a2, .int a3] (r.toList ++ []) σ' Q) := (w_aload_n dPb_burst_60 rfl).trans ((w_getr (r := 61) dPb_burst_61 rz10_40 sh_0 rfl).trans ((w_aload_n dPb_burst_64 rfl).trans ((w_getr (r := 10) dPb_burst_65 rz10_26 sh_0 rfl).trans ((w_iload_n dPb_burst_68 rfl).trans (w_virt (vs := [.ref 10, .int a2]) (st' := []) (es := [.ref 61, .ref 10, .int a2, uu, uu]) dPb_burst_69 rz10_265 rfl sh_61 rfl rfl rfl (Nat.le_of_ble_eq_true rfl) (Nat.le_of_ble_eq_true rfl) rfl)))))
theorem bPb_burst_72 {E : mEn} {d : Nat} {σ : mSt} {Q : mPost} {a1 : Int32} {a2 : Int32} {a3 : Int32} : WP E (d + 1) mPb_burst 72 [.ref 0, .int a1, .int a2, .int a3] [] σ Q = (if mOut a2 8 = true then False else WP E d mSh_othersHold 0 [.ref 61, .int (σ.1 29 a2.toNatClampNeg), uu] [] σ (fun r σ' => WP E (d + 1) mPb_burst 88 [.ref 0, .int a1, .int a2, .int a3] (r.toList ++ []) σ' Q)) := (w_aload_n dPb_burst_72 rfl).trans ((w_getr (r := 61) dPb_burst_73 rz10_40 sh_0 rfl).trans ((w_aload_n dPb_burst_76 rfl).trans ((w_getr (r := 10) dPb_burst_77 rz10_26 sh_0 rfl).trans ((w_getr (r := 29) dPb_burst_80 rz10_221 sh_10 rfl).trans ((w_iload_n dPb_burst_83 rfl).trans ((w_iald dPb_burst_84 sh_29 (by decide)).trans (ite_c (w_virt (vs := [.int (σ.1 29 a2.toNatClampNeg)]) (st' := []) (es := [.ref 61, .int (σ.1 29 a2.toNatClampNeg), uu]) dPb_burst_85 rz10_350 rfl sh_61 rfl rfl rfl (Nat.le_of_ble_eq_true rfl) (Nat.le_of_ble_eq_true rfl) rfl))))))))
theorem bPb_burst_88 {E : mEn} {d : Nat} {σ : mSt} {Q : mPost} {a1 : Int32} {a2 : Int32} {a3 : Int32} {s0 : Int32} : WP E d mPb_burst 88 [.ref 0, .int a1, .int a2, .int a3] [.int s0] σ Q = (if s0 = 0 then WP E d mPb_burst 93 [.ref 0, .int a1, .int a2, .int a3] [] σ Q else WP E d mPb_burst 91 [.ref 0, .int a1, .int a2, .int a3] [] σ Q) := w_ifeq (t := 93) dPb_burst_88 (by decide)
theorem bPb_burst_91 {E : mEn} {d : Nat} {σ : mSt} {Q : mPost} {a1 : Int32} {a2 : Int32} {a3 : Int32} : WP E d mPb_burst 91 [.ref 0, .int a1, .int a2, .int a3] [] σ Q = WP E d mPb_burst 93 [.ref 0, .int a3, .int a2, .int a3] [] σ Q := (w_iload_n dPb_burst_91 rfl).trans (w_istore_n (ls' := [.ref 0, .int a3, .int a2, .int a3]) dPb_burst_92 (Nat.le_of_ble_eq_true rfl) rfl)
theorem bPb_burst_93 {E : mEn} {d : Nat} {σ : mSt} {Q : mPost} {a1 : Int32} {a2 : Int32} {a3 : Int32} : WP E d mPb_burst 93 [.ref 0, .int a1, .int a2, .int a3] [] σ Q = WP E d mPb_burst 4 [.ref 0, .int a1, .int (a2 + 1), .int a3] [] σ Q := (w_iinc (v := 1) (ls' := [.ref 0, .int a1, .int (a2 + 1), .int a3]) dPb_burst_93 rfl rfl rfl).trans (w_goto (t := 4) dPb_burst_96 (by decide))
theorem bPb_burst_99 {E : mEn} {d : Nat} {σ : mSt} {Q : mPost} {a1 : Int32} {a2 : Int32} {u3 : Value} : WP E d mPb_burst 99 [.ref 0, .int a1, .int a2, u3] [] σ Q = (if ¬ a1 = (-1) then WP E d mPb_burst 113 [.ref 0, .int a1, .int a2, u3] [] σ Q else WP E d mPb_burst 104 [.ref 0, .int a1, .int a2, u3] [] σ Q) := (w_iload_n dPb_burst_99 rfl).trans ((w_iconst (v := (-1)) dPb_burst_100 rfl).trans (w_icmpne (t := 113) dPb_burst_101 (by decide)))
theorem bPb_burst_104 {E : mEn} {d : Nat} {σ : mSt} {Q : mPost} {a1 : Int32} {a2 : Int32} {u3 : Value} : WP E (d + 1) mPb_burst 104 [.ref 0, .int a1, .int a2, u3] [] σ Q = WP E d mPb_refuse 0 [.ref 0, .int (nI 8)] [] σ (fun r σ' => WP E (d + 1) mPb_burst 110 [.ref 0, .int a1, .int a2, u3] (r.toList ++ []) σ' Q) := (w_aload_n dPb_burst_104 rfl).trans ((w_bipush (v := (nI 8)) dPb_burst_105 rfl).trans (w_virt (vs := [.int (nI 8)]) (st' := []) (es := [.ref 0, .int (nI 8)]) dPb_burst_107 rz10_104 rfl sh_0 rfl rfl rfl (Nat.le_of_ble_eq_true rfl) (Nat.le_of_ble_eq_true rfl) rfl))
theorem bPb_burst_110 {E : mEn} {d : Nat} {σ : mSt} {Q : mPost} {a1 : Int32} {a2 : Int32} {u3 : Value} {s0 : Int32} : WP E d mPb_burst 110 [.ref 0, .int a1, .int a2, u3] [.int s0] σ Q = WP E d mPb_burst 118 [.ref 0, .int a1, .int a2, u3] [.int s0] σ Q := w_goto (t := 118) dPb_burst_110 (by decide)
theorem bPb_burst_113 {E : mEn} {d : Nat} {σ : mSt} {Q : mPost} {a1 : Int32} {a2 : Int32} {u3 : Value} : WP E (d + 1) mPb_burst 113 [.ref 0, .int a1, .int a2, u3] [] σ Q = WP E d mPb_answer 0 [.ref 0, .int a1] [] σ (fun r σ' => WP E (d + 1) mPb_burst 118 [.ref 0, .int a1, .int a2, u3] (r.toList ++ []) σ' Q) := (w_aload_n dPb_burst_113 rfl).trans ((w_iload_n dPb_burst_114 rfl).trans (w_virt (vs := [.int a1]) (st' := []) (es := [.ref 0, .int a1]) dPb_burst_115 rz10_157 rfl sh_0 rfl rfl rfl (Nat.le_of_ble_eq_true rfl) (Nat.le_of_ble_eq_true rfl) rfl))
theorem bPb_burst_118 {E : mEn} {d : Nat} {σ : mSt} {Q : mPost} {a1 : Int32} {a2 : Int32} {u3 : Value} {s0 : Int32} : WP E d mPb_burst 118 [.ref 0, .int a1, .int a2, u3] [.int s0] σ Q = Q (some (.int s0)) σ := w_iret dPb_burst_118 rfl
theorem dPb_cuts_0 : decode (mC mPb_cuts) 0 = .ok (.iload_n 1, 1) := by decide +kernel
theorem dPb_cuts_1 : decode (mC mPb_cuts) 1 = .ok (.iconst (1), 1) := by decide +kernel
theorem dPb_cuts_2 : decode (mC mPb_cuts) 2 = .ok (.if_icmp .lt (31), 3) := by decide +kernel
theorem dPb_cuts_5 : decode (mC mPb_cuts) 5 = .ok (.iload_n 1, 1) := by decide +kernel
theorem dPb_cuts_6 : decode (mC mPb_cuts) 6 = .ok (.bipush (60), 2) := by decide +kernel
theorem dPb_cuts_8 : decode (mC mPb_cuts) 8 = .ok (.if_icmp .gt (25), 3) := by decide +kernel
theorem dPb_cuts_11 : decode (mC mPb_cuts) 11 = .ok (.iload_n 2, 1) := by decide +kernel
theorem dPb_cuts_12 : decode (mC mPb_cuts) 12 = .ok (.iconst (2), 1) := by decide +kernel
theorem dPb_cuts_13 : decode (mC mPb_cuts) 13 = .ok (.if_icmp .lt (20), 3) := by decide +kernel
theorem dPb_cuts_16 : decode (mC mPb_cuts) 16 = .ok (.iload_n 2, 1) := by decide +kernel
theorem dPb_cuts_17 : decode (mC mPb_cuts) 17 = .ok (.bipush (8), 2) := by decide +kernel
theorem dPb_cuts_19 : decode (mC mPb_cuts) 19 = .ok (.if_icmp .gt (14), 3) := by decide +kernel
theorem dPb_cuts_22 : decode (mC mPb_cuts) 22 = .ok (.iload_n 3, 1) := by decide +kernel
theorem dPb_cuts_23 : decode (mC mPb_cuts) 23 = .ok (.iconst (1), 1) := by decide +kernel
theorem dPb_cuts_24 : decode (mC mPb_cuts) 24 = .ok (.if_icmp .lt (9), 3) := by decide +kernel
theorem dPb_cuts_27 : decode (mC mPb_cuts) 27 = .ok (.iload_n 3, 1) := by decide +kernel
theorem dPb_cuts_28 : decode (mC mPb_cuts) 28 = .ok (.bipush (40), 2) := by decide +kernel
theorem dPb_cuts_30 : decode (mC mPb_cuts) 30 = .ok (.if_icmp .le (9), 3) := by decide +kernel
theorem dPb_cuts_33 : decode (mC mPb_cuts) 33 = .ok (.aload_n 0, 1) := by decide +kernel
theorem dPb_cuts_34 : decode (mC mPb_cuts) 34 = .ok (.iconst (5), 1) := by decide +kernel
theorem dPb_cuts_35 : decode (mC mPb_cuts) 35 = .ok (.invokevirtual 104, 3) := by decide +kernel
theorem dPb_cuts_38 : decode (mC mPb_cuts) 38 = .ok (.ireturn, 1) := by decide +kernel
theorem dPb_cuts_39 : decode (mC mPb_cuts) 39 = .ok (.iload 4, 2) := by decide +kernel
theorem dPb_cuts_41 : decode (mC mPb_cuts) 41 = .ok (.ifCond .lt (21), 3) := by decide +kernel
theorem dPb_cuts_44 : decode (mC mPb_cuts) 44 = .ok (.iload 4, 2) := by decide +kernel
theorem dPb_cuts_46 : decode (mC mPb_cuts) 46 = .ok (.bipush (60), 2) := by decide +kernel
theorem dPb_cuts_48 : decode (mC mPb_cuts) 48 = .ok (.if_icmp .gt (14), 3) := by decide +kernel
theorem dPb_cuts_51 : decode (mC mPb_cuts) 51 = .ok (.iload 5, 2) := by decide +kernel
theorem dPb_cuts_53 : decode (mC mPb_cuts) 53 = .ok (.ifCond .lt (9), 3) := by decide +kernel
theorem dPb_cuts_56 : decode (mC mPb_cuts) 56 = .ok (.iload 5, 2) := by decide +kernel
theorem dPb_cuts_58 : decode (mC mPb_cuts) 58 = .ok (.iconst (1), 1) := by decide +kernel
theorem dPb_cuts_59 : decode (mC mPb_cuts) 59 = .ok (.if_icmp .le (9), 3) := by decide +kernel
theorem dPb_cuts_62 : decode (mC mPb_cuts) 62 = .ok (.aload_n 0, 1) := by decide +kernel
theorem dPb_cuts_63 : decode (mC mPb_cuts) 63 = .ok (.iconst (5), 1) := by decide +kernel
theorem dPb_cuts_64 : decode (mC mPb_cuts) 64 = .ok (.invokevirtual 104, 3) := by decide +kernel
theorem dPb_cuts_67 : decode (mC mPb_cuts) 67 = .ok (.ireturn, 1) := by decide +kernel
theorem dPb_cuts_68 : decode (mC mPb_cuts) 68 = .ok (.iload_n 1, 1) := by decide +kernel
theorem dPb_cuts_69 : decode (mC mPb_cuts) 69 = .ok (.iload_n 2, 1) := by decide +kernel
theorem dPb_cuts_70 : decode (mC mPb_cuts) 70 = .ok (.iload_n 3, 1) := by decide +kernel
theorem dPb_cuts_71 : decode (mC mPb_cuts) 71 = .ok (.iload 4, 2) := by decide +kernel
theorem dPb_cuts_73 : decode (mC mPb_cuts) 73 = .ok (.invokestatic 366, 3) := by decide +kernel
theorem dPb_cuts_76 : decode (mC mPb_cuts) 76 = .ok (.istore 6, 2) := by decide +kernel
theorem dPb_cuts_78 : decode (mC mPb_cuts) 78 = .ok (.iload 6, 2) := by decide +kernel
theorem dPb_cuts_80 : decode (mC mPb_cuts) 80 = .ok (.iconst (-1), 1) := by decide +kernel
theorem dPb_cuts_81 : decode (mC mPb_cuts) 81 = .ok (.if_icmp .ne (10), 3) := by decide +kernel
theorem dPb_cuts_84 : decode (mC mPb_cuts) 84 = .ok (.aload_n 0, 1) := by decide +kernel
theorem dPb_cuts_85 : decode (mC mPb_cuts) 85 = .ok (.bipush (8), 2) := by decide +kernel
theorem dPb_cuts_87 : decode (mC mPb_cuts) 87 = .ok (.invokevirtual 104, 3) := by decide +kernel
theorem dPb_cuts_90 : decode (mC mPb_cuts) 90 = .ok (.ireturn, 1) := by decide +kernel
theorem dPb_cuts_91 : decode (mC mPb_cuts) 91 = .ok (.aload_n 0, 1) := by decide +kernel
theorem dPb_cuts_92 : decode (mC mPb_cuts) 92 = .ok (.iload 5, 2) := by decide +kernel
theorem dPb_cuts_94 : decode (mC mPb_cuts) 94 = .ok (.iconst (1), 1) := by decide +kernel
theorem dPb_cuts_95 : decode (mC mPb_cuts) 95 = .ok (.if_icmp .ne (8), 3) := by decide +kernel
theorem dPb_cuts_98 : decode (mC mPb_cuts) 98 = .ok (.iload 6, 2) := by decide +kernel
theorem dPb_cuts_100 : decode (mC mPb_cuts) 100 = .ok (.goto (7), 3) := by decide +kernel
theorem dPb_cuts_103 : decode (mC mPb_cuts) 103 = .ok (.iload 6, 2) := by decide +kernel
theorem dPb_cuts_105 : decode (mC mPb_cuts) 105 = .ok (.iload_n 2, 1) := by decide +kernel
theorem dPb_cuts_106 : decode (mC mPb_cuts) 106 = .ok (.irem, 1) := by decide +kernel
theorem dPb_cuts_107 : decode (mC mPb_cuts) 107 = .ok (.invokevirtual 157, 3) := by decide +kernel
theorem dPb_cuts_110 : decode (mC mPb_cuts) 110 = .ok (.ireturn, 1) := by decide +kernel
theorem bPb_cuts_0 {E : mEn} {d : Nat} {σ : mSt} {Q : mPost} {a1 : Int32} {a2 : Int32} {a3 : Int32} {a4 : Int32} {a5 : Int32} {u6 : Value} : WP E d mPb_cuts 0 [.ref 0, .int a1, .int a2, .int a3, .int a4, .int a5, u6] [] σ Q = (if a1 < 1 then WP E d mPb_cuts 33 [.ref 0, .int a1, .int a2, .int a3, .int a4, .int a5, u6] [] σ Q else WP E d mPb_cuts 5 [.ref 0, .int a1, .int a2, .int a3, .int a4, .int a5, u6] [] σ Q) := (w_iload_n dPb_cuts_0 rfl).trans ((w_iconst (v := 1) dPb_cuts_1 rfl).trans (w_icmplt (t := 33) dPb_cuts_2 (by decide)))
theorem bPb_cuts_5 {E : mEn} {d : Nat} {σ : mSt} {Q : mPost} {a1 : Int32} {a2 : Int32} {a3 : Int32} {a4 : Int32} {a5 : Int32} {u6 : Value} : WP E d mPb_cuts 5 [.ref 0, .int a1, .int a2, .int a3, .int a4, .int a5, u6] [] σ Q = (if (nI 60) < a1 then WP E d mPb_cuts 33 [.ref 0, .int a1, .int a2, .int a3, .int a4, .int a5, u6] [] σ Q else WP E d mPb_cuts 11 [.ref 0, .int a1, .int a2, .int a3, .int a4, .int a5, u6] [] σ Q) := (w_iload_n dPb_cuts_5 rfl).trans ((w_bipush (v := (nI 60)) dPb_cuts_6 rfl).trans (w_icmpgt (t := 33) dPb_cuts_8 (by decide)))
theorem bPb_cuts_11 {E : mEn} {d : Nat} {σ : mSt} {Q : mPost} {a1 : Int32} {a2 : Int32} {a3 : Int32} {a4 : Int32} {a5 : Int32} {u6 : Value} : WP E d mPb_cuts 11 [.ref 0, .int a1, .int a2, .int a3, .int a4, .int a5, u6] [] σ Q = (if a2 < (nI 2) then WP E d mPb_cuts 33 [.ref 0, .int a1, .int a2, .int a3, .int a4, .int a5, u6] [] σ Q else WP E d mPb_cuts 16 [.ref 0, .int a1, .int a2, .int a3, .int a4, .int a5, u6] [] σ Q) := (w_iload_n dPb_cuts_11 rfl).trans ((w_iconst (v := (nI 2)) dPb_cuts_12 rfl).trans (w_icmplt (t := 33) dPb_cuts_13 (by decide)))
theorem bPb_cuts_16 {E : mEn} {d : Nat} {σ : mSt} {Q : mPost} {a1 : Int32} {a2 : Int32} {a3 : Int32} {a4 : Int32} {a5 : Int32} {u6 : Value} : WP E d mPb_cuts 16 [.ref 0, .int a1, .int a2, .int a3, .int a4, .int a5, u6] [] σ Q = (if (nI 8) < a2 then WP E d mPb_cuts 33 [.ref 0, .int a1, .int a2, .int a3, .int a4, .int a5, u6] [] σ Q else WP E d mPb_cuts 22 [.ref 0, .int a1, .int a2, .int a3, .int a4, .int a5, u6] [] σ Q) := (w_iload_n dPb_cuts_16 rfl).trans ((w_bipush (v := (nI 8)) dPb_cuts_17 rfl).trans (w_icmpgt (t := 33) dPb_cuts_19 (by decide)))
theorem bPb_cuts_22 {E : mEn} {d : Nat} {σ : mSt} {Q : mPost} {a1 : Int32} {a2 : Int32} {a3 : Int32} {a4 : Int32} {a5 : Int32} {u6 : Value} : WP E d mPb_cuts 22 [.ref 0, .int a1, .int a2, .int a3, .int a4, .int a5, u6] [] σ Q = (if a3 < 1 then WP E d mPb_cuts 33 [.ref 0, .int a1, .int a2, .int a3, .int a4, .int a5, u6] [] σ Q else WP E d mPb_cuts 27 [.ref 0, .int a1, .int a2, .int a3, .int a4, .int a5, u6] [] σ Q) := (w_iload_n dPb_cuts_22 rfl).trans ((w_iconst (v := 1) dPb_cuts_23 rfl).trans (w_icmplt (t := 33) dPb_cuts_24 (by decide)))
theorem bPb_cuts_27 {E : mEn} {d : Nat} {σ : mSt} {Q : mPost} {a1 : Int32} {a2 : Int32} {a3 : Int32} {a4 : Int32} {a5 : Int32} {u6 : Value} : WP E d mPb_cuts 27 [.ref 0, .int a1, .int a2, .int a3, .int a4, .int a5, u6] [] σ Q = (if a3 ≤ (nI 40) then WP E d mPb_cuts 39 [.ref 0, .int a1, .int a2, .int a3, .int a4, .int a5, u6] [] σ Q else WP E d mPb_cuts 33 [.ref 0, .int a1, .int a2, .int a3, .int a4, .int a5, u6] [] σ Q) := (w_iload_n dPb_cuts_27 rfl).trans ((w_bipush (v := (nI 40)) dPb_cuts_28 rfl).trans (w_icmple (t := 39) dPb_cuts_30 (by decide)))
theorem bPb_cuts_33 {E : mEn} {d : Nat} {σ : mSt} {Q : mPost} {a1 : Int32} {a2 : Int32} {a3 : Int32} {a4 : Int32} {a5 : Int32} {u6 : Value} : WP E (d + 1) mPb_cuts 33 [.ref 0, .int a1, .int a2, .int a3, .int a4, .int a5, u6] [] σ Q = WP E d mPb_refuse 0 [.ref 0, .int (nI 5)] [] σ (fun r σ' => WP E (d + 1) mPb_cuts 38 [.ref 0, .int a1, .int a2, .int a3, .int a4, .int a5, u6] (r.toList ++ []) σ' Q) := (w_aload_n dPb_cuts_33 rfl).trans ((w_iconst (v := (nI 5)) dPb_cuts_34 rfl).trans (w_virt (vs := [.int (nI 5)]) (st' := []) (es := [.ref 0, .int (nI 5)]) dPb_cuts_35 rz10_104 rfl sh_0 rfl rfl rfl (Nat.le_of_ble_eq_true rfl) (Nat.le_of_ble_eq_true rfl) rfl))
theorem bPb_cuts_38 {E : mEn} {d : Nat} {σ : mSt} {Q : mPost} {a1 : Int32} {a2 : Int32} {a3 : Int32} {a4 : Int32} {a5 : Int32} {u6 : Value} {s0 : Int32} : WP E d mPb_cuts 38 [.ref 0, .int a1, .int a2, .int a3, .int a4, .int a5, u6] [.int s0] σ Q = Q (some (.int s0)) σ := w_iret dPb_cuts_38 rfl
theorem bPb_cuts_39 {E : mEn} {d : Nat} {σ : mSt} {Q : mPost} {a1 : Int32} {a2 : Int32} {a3 : Int32} {a4 : Int32} {a5 : Int32} {u6 : Value} : WP E d mPb_cuts 39 [.ref 0, .int a1, .int a2, .int a3, .int a4, .int a5, u6] [] σ Q = (if a4 < 0 then WP E d mPb_cuts 62 [.ref 0, .int a1, .int a2, .int a3, .int a4, .int a5, u6] [] σ Q else WP E d mPb_cuts 44 [.ref 0, .int a1, .int a2, .int a3, .int a4, .int a5, u6] [] σ Q) := (w_iload dPb_cuts_39 rfl).trans (w_iflt (t := 62) dPb_cuts_41 (by decide))
theorem bPb_cuts_44 {E : mEn} {d : Nat} {σ : mSt} {Q : mPost} {a1 : Int32} {a2 : Int32} {a3 : Int32} {a4 : Int32} {a5 : Int32} {u6 : Value} : WP E d mPb_cuts 44 [.ref 0, .int a1, .int a2, .int a3, .int a4, .int a5, u6] [] σ Q = (if (nI 60) < a4 then WP E d mPb_cuts 62 [.ref 0, .int a1, .int a2, .int a3, .int a4, .int a5, u6] [] σ Q else WP E d mPb_cuts 51 [.ref 0, .int a1, .int a2, .int a3, .int a4, .int a5, u6] [] σ Q) := (w_iload dPb_cuts_44 rfl).trans ((w_bipush (v := (nI 60)) dPb_cuts_46 rfl).trans (w_icmpgt (t := 62) dPb_cuts_48 (by decide)))
theorem bPb_cuts_51 {E : mEn} {d : Nat} {σ : mSt} {Q : mPost} {a1 : Int32} {a2 : Int32} {a3 : Int32} {a4 : Int32} {a5 : Int32} {u6 : Value} : WP E d mPb_cuts 51 [.ref 0, .int a1, .int a2, .int a3, .int a4, .int a5, u6] [] σ Q = (if a5 < 0 then WP E d mPb_cuts 62 [.ref 0, .int a1, .int a2, .int a3, .int a4, .int a5, u6] [] σ Q else WP E d mPb_cuts 56 [.ref 0, .int a1, .int a2, .int a3, .int a4, .int a5, u6] [] σ Q) := (w_iload dPb_cuts_51 rfl).trans (w_iflt (t := 62) dPb_cuts_53 (by decide))
theorem bPb_cuts_56 {E : mEn} {d : Nat} {σ : mSt} {Q : mPost} {a1 : Int32} {a2 : Int32} {a3 : Int32} {a4 : Int32} {a5 : Int32} {u6 : Value} : WP E d mPb_cuts 56 [.ref 0, .int a1, .int a2, .int a3, .int a4, .int a5, u6] [] σ Q = (if a5 ≤ 1 then WP E d mPb_cuts 68 [.ref 0, .int a1, .int a2, .int a3, .int a4, .int a5, u6] [] σ Q else WP E d mPb_cuts 62 [.ref 0, .int a1, .int a2, .int a3, .int a4, .int a5, u6] [] σ Q) := (w_iload dPb_cuts_56 rfl).trans ((w_iconst (v := 1) dPb_cuts_58 rfl).trans (w_icmple (t := 68) dPb_cuts_59 (by decide)))
theorem bPb_cuts_62 {E : mEn} {d : Nat} {σ : mSt} {Q : mPost} {a1 : Int32} {a2 : Int32} {a3 : Int32} {a4 : Int32} {a5 : Int32} {u6 : Value} : WP E (d + 1) mPb_cuts 62 [.ref 0, .int a1, .int a2, .int a3, .int a4, .int a5, u6] [] σ Q = WP E d mPb_refuse 0 [.ref 0, .int (nI 5)] [] σ (fun r σ' => WP E (d + 1) mPb_cuts 67 [.ref 0, .int a1, .int a2, .int a3, .int a4, .int a5, u6] (r.toList ++ []) σ' Q) := (w_aload_n dPb_cuts_62 rfl).trans ((w_iconst (v := (nI 5)) dPb_cuts_63 rfl).trans (w_virt (vs := [.int (nI 5)]) (st' := []) (es := [.ref 0, .int (nI 5)]) dPb_cuts_64 rz10_104 rfl sh_0 rfl rfl rfl (Nat.le_of_ble_eq_true rfl) (Nat.le_of_ble_eq_true rfl) rfl))
theorem bPb_cuts_67 {E : mEn} {d : Nat} {σ : mSt} {Q : mPost} {a1 : Int32} {a2 : Int32} {a3 : Int32} {a4 : Int32} {a5 : Int32} {u6 : Value} {s0 : Int32} : WP E d mPb_cuts 67 [.ref 0, .int a1, .int a2, .int a3, .int a4, .int a5, u6] [.int s0] σ Q = Q (some (.int s0)) σ := w_iret dPb_cuts_67 rfl
theorem bPb_cuts_68 {E : mEn} {d : Nat} {σ : mSt} {Q : mPost} {a1 : Int32} {a2 : Int32} {a3 : Int32} {a4 : Int32} {a5 : Int32} {u6 : Value} : WP E (d + 1) mPb_cuts 68 [.ref 0, .int a1, .int a2, .int a3, .int a4, .int a5, u6] [] σ Q = WP E d mPb_cuttingTurn 0 [.int a1, .int a2, .int a3, .int a4, uu, uu, uu, uu] [] σ (fun r σ' => WP E (d + 1) mPb_cuts 76 [.ref 0, .int a1, .int a2, .int a3, .int a4, .int a5, u6] (r.toList ++ []) σ' Q) := (w_iload_n dPb_cuts_68 rfl).trans ((w_iload_n dPb_cuts_69 rfl).trans ((w_iload_n dPb_cuts_70 rfl).trans ((w_iload dPb_cuts_71 rfl).trans (w_stat (vs := [.int a1, .int a2, .int a3, .int a4]) (st' := []) (es := [.int a1, .int a2, .int a3, .int a4, uu, uu, uu, uu]) dPb_cuts_73 rz10_366 rfl rfl rfl (Nat.le_of_ble_eq_true rfl) (Nat.le_of_ble_eq_true rfl) rfl))))
theorem bPb_cuts_76 {E : mEn} {d : Nat} {σ : mSt} {Q : mPost} {a1 : Int32} {a2 : Int32} {a3 : Int32} {a4 : Int32} {a5 : Int32} {u6 : Value} {s0 : Int32} : WP E d mPb_cuts 76 [.ref 0, .int a1, .int a2, .int a3, .int a4, .int a5, u6] [.int s0] σ Q = (if ¬ s0 = (-1) then WP E d mPb_cuts 91 [.ref 0, .int a1, .int a2, .int a3, .int a4, .int a5, .int s0] [] σ Q else WP E d mPb_cuts 84 [.ref 0, .int a1, .int a2, .int a3, .int a4, .int a5, .int s0] [] σ Q) := (w_istore (ls' := [.ref 0, .int a1, .int a2, .int a3, .int a4, .int a5, .int s0]) dPb_cuts_76 (Nat.le_of_ble_eq_true rfl) rfl).trans ((w_iload dPb_cuts_78 rfl).trans ((w_iconst (v := (-1)) dPb_cuts_80 rfl).trans (w_icmpne (t := 91) dPb_cuts_81 (by decide))))
theorem bPb_cuts_84 {E : mEn} {d : Nat} {σ : mSt} {Q : mPost} {a1 : Int32} {a2 : Int32} {a3 : Int32} {a4 : Int32} {a5 : Int32} {a6 : Int32} : WP E (d + 1) mPb_cuts 84 [.ref 0, .int a1, .int a2, .int a3, .int a4, .int a5, .int a6] [] σ Q = WP E d mPb_refuse 0 [.ref 0, .int (nI 8)] [] σ (fun r σ' => WP E (d + 1) mPb_cuts 90 [.ref 0, .int a1, .int a2, .int a3, .int a4, .int a5, .int a6] (r.toList ++ []) σ' Q) := (w_aload_n dPb_cuts_84 rfl).trans ((w_bipush (v := (nI 8)) dPb_cuts_85 rfl).trans (w_virt (vs := [.int (nI 8)]) (st' := []) (es := [.ref 0, .int (nI 8)]) dPb_cuts_87 rz10_104 rfl sh_0 rfl rfl rfl (Nat.le_of_ble_eq_true rfl) (Nat.le_of_ble_eq_true rfl) rfl))
theorem bPb_cuts_90 {E : mEn} {d : Nat} {σ : mSt} {Q : mPost} {a1 : Int32} {a2 : Int32} {a3 : Int32} {a4 : Int32} {a5 : Int32} {a6 : Int32} {s0 : Int32} : WP E d mPb_cuts 90 [.ref 0, .int a1, .int a2, .int a3, .int a4, .int a5, .int a6] [.int s0] σ Q = Q (some (.int s0)) σ := w_iret dPb_cuts_90 rfl
theorem bPb_cuts_91 {E : mEn} {d : Nat} {σ : mSt} {Q : mPost} {a1 : Int32} {a2 : Int32} {a3 : Int32} {a4 : Int32} {a5 : Int32} {a6 : Int32} : WP E d mPb_cuts 91 [.ref 0, .int a1, .int a2, .int a3, .int a4, .int a5, .int a6] [] σ Q = (if ¬ a5 = 1 then WP E d mPb_cuts 103 [.ref 0, .int a1, .int a2, .int a3, .int a4, .int a5, .int a6] [.ref 0] σ Q else WP E d mPb_cuts 98 [.ref 0, .int a1, .int a2, .int a3, .int a4, .int a5, .int a6] [.ref 0] σ Q) := (w_aload_n dPb_cuts_91 rfl).trans ((w_iload dPb_cuts_92 rfl).trans ((w_iconst (v := 1) dPb_cuts_94 rfl).trans (w_icmpne (t := 103) dPb_cuts_95 (by decide))))
theorem bPb_cuts_98 {E : mEn} {d : Nat} {σ : mSt} {Q : mPost} {a1 : Int32} {a2 : Int32} {a3 : Int32} {a4 : Int32} {a5 : Int32} {a6 : Int32} : WP E d mPb_cuts 98 [.ref 0, .int a1, .int a2, .int a3, .int a4, .int a5, .int a6] [.ref 0] σ Q = WP E d mPb_cuts 107 [.ref 0, .int a1, .int a2, .int a3, .int a4, .int a5, .int a6] [.int a6, .ref 0] σ Q := (w_iload dPb_cuts_98 rfl).trans (w_goto (t := 107) dPb_cuts_100 (by decide))
theorem bPb_cuts_103 {E : mEn} {d : Nat} {σ : mSt} {Q : mPost} {a1 : Int32} {a2 : Int32} {a3 : Int32} {a4 : Int32} {a5 : Int32} {a6 : Int32} : WP E d mPb_cuts 103 [.ref 0, .int a1, .int a2, .int a3, .int a4, .int a5, .int a6] [.ref 0] σ Q = (if a2 = 0 then False else WP E d mPb_cuts 107 [.ref 0, .int a1, .int a2, .int a3, .int a4, .int a5, .int a6] [.int (a6 - a6 / a2 * a2), .ref 0] σ Q) := (w_iload dPb_cuts_103 rfl).trans ((w_iload_n dPb_cuts_105 rfl).trans ((w_irem' dPb_cuts_106).trans (ite_c (rfl))))
theorem bPb_cuts_107 {E : mEn} {d : Nat} {σ : mSt} {Q : mPost} {a1 : Int32} {a2 : Int32} {a3 : Int32} {a4 : Int32} {a5 : Int32} {a6 : Int32} {s0 : Int32} : WP E (d + 1) mPb_cuts 107 [.ref 0, .int a1, .int a2, .int a3, .int a4, .int a5, .int a6] [.int s0, .ref 0] σ Q = WP E d mPb_answer 0 [.ref 0, .int s0] [] σ (fun r σ' => WP E (d + 1) mPb_cuts 110 [.ref 0, .int a1, .int a2, .int a3, .int a4, .int a5, .int a6] (r.toList ++ []) σ' Q) := w_virt (vs := [.int s0]) (st' := []) (es := [.ref 0, .int s0]) dPb_cuts_107 rz10_157 rfl sh_0 rfl rfl rfl (Nat.le_of_ble_eq_true rfl) (Nat.le_of_ble_eq_true rfl) rfl
theorem bPb_cuts_110 {E : mEn} {d : Nat} {σ : mSt} {Q : mPost} {a1 : Int32} {a2 : Int32} {a3 : Int32} {a4 : Int32} {a5 : Int32} {a6 : Int32} {s0 : Int32} : WP E d mPb_cuts 110 [.ref 0, .int a1, .int a2, .int a3, .int a4, .int a5, .int a6] [.int s0] σ Q = Q (some (.int s0)) σ := w_iret dPb_cuts_110 rfl
theorem dPb_cuttingTurn_0 : decode (mC mPb_cuttingTurn) 0 = .ok (.iload_n 1, 1) := by decide +kernel
theorem dPb_cuttingTurn_1 : decode (mC mPb_cuttingTurn) 1 = .ok (.iconst (1), 1) := by decide +kernel
theorem dPb_cuttingTurn_2 : decode (mC mPb_cuttingTurn) 2 = .ok (.if_icmp .ge (5), 3) := by decide +kernel
theorem dPb_cuttingTurn_5 : decode (mC mPb_cuttingTurn) 5 = .ok (.iconst (-1), 1) := by decide +kernel
theorem dPb_cuttingTurn_6 : decode (mC mPb_cuttingTurn) 6 = .ok (.ireturn, 1) := by decide +kernel
theorem dPb_cuttingTurn_7 : decode (mC mPb_cuttingTurn) 7 = .ok (.iconst (-1), 1) := by decide +kernel
theorem dPb_cuttingTurn_8 : decode (mC mPb_cuttingTurn) 8 = .ok (.istore 4, 2) := by decide +kernel
theorem dPb_cuttingTurn_10 : decode (mC mPb_cuttingTurn) 10 = .ok (.iload_n 0, 1) := by decide +kernel
theorem dPb_cuttingTurn_11 : decode (mC mPb_cuttingTurn) 11 = .ok (.iload_n 2, 1) := by decide +kernel
theorem dPb_cuttingTurn_12 : decode (mC mPb_cuttingTurn) 12 = .ok (.invokestatic 442, 3) := by decide +kernel
theorem dPb_cuttingTurn_15 : decode (mC mPb_cuttingTurn) 15 = .ok (.iconst (1), 1) := by decide +kernel
theorem dPb_cuttingTurn_16 : decode (mC mPb_cuttingTurn) 16 = .ok (.isub, 1) := by decide +kernel
theorem dPb_cuttingTurn_17 : decode (mC mPb_cuttingTurn) 17 = .ok (.istore 5, 2) := by decide +kernel
theorem dPb_cuttingTurn_19 : decode (mC mPb_cuttingTurn) 19 = .ok (.iload 5, 2) := by decide +kernel
theorem dPb_cuttingTurn_21 : decode (mC mPb_cuttingTurn) 21 = .ok (.ifCond .lt (65), 3) := by decide +kernel
theorem dPb_cuttingTurn_24 : decode (mC mPb_cuttingTurn) 24 = .ok (.iload 4, 2) := by decide +kernel
theorem dPb_cuttingTurn_26 : decode (mC mPb_cuttingTurn) 26 = .ok (.iconst (-1), 1) := by decide +kernel
theorem dPb_cuttingTurn_27 : decode (mC mPb_cuttingTurn) 27 = .ok (.if_icmp .eq (18), 3) := by decide +kernel
theorem dPb_cuttingTurn_30 : decode (mC mPb_cuttingTurn) 30 = .ok (.iload 4, 2) := by decide +kernel
theorem dPb_cuttingTurn_32 : decode (mC mPb_cuttingTurn) 32 = .ok (.iload_n 1, 1) := by decide +kernel
theorem dPb_cuttingTurn_33 : decode (mC mPb_cuttingTurn) 33 = .ok (.irem, 1) := by decide +kernel
theorem dPb_cuttingTurn_34 : decode (mC mPb_cuttingTurn) 34 = .ok (.iload 5, 2) := by decide +kernel
theorem dPb_cuttingTurn_36 : decode (mC mPb_cuttingTurn) 36 = .ok (.iload_n 1, 1) := by decide +kernel
theorem dPb_cuttingTurn_37 : decode (mC mPb_cuttingTurn) 37 = .ok (.irem, 1) := by decide +kernel
theorem dPb_cuttingTurn_38 : decode (mC mPb_cuttingTurn) 38 = .ok (.if_icmp .ne (7), 3) := by decide +kernel
theorem dPb_cuttingTurn_41 : decode (mC mPb_cuttingTurn) 41 = .ok (.iconst (1), 1) := by decide +kernel
theorem dPb_cuttingTurn_42 : decode (mC mPb_cuttingTurn) 42 = .ok (.goto (4), 3) := by decide +kernel
theorem dPb_cuttingTurn_45 : decode (mC mPb_cuttingTurn) 45 = .ok (.iconst (0), 1) := by decide +kernel
theorem dPb_cuttingTurn_46 : decode (mC mPb_cuttingTurn) 46 = .ok (.istore 6, 2) := by decide +kernel
theorem dPb_cuttingTurn_48 : decode (mC mPb_cuttingTurn) 48 = .ok (.iload 6, 2) := by decide +kernel
theorem dPb_cuttingTurn_50 : decode (mC mPb_cuttingTurn) 50 = .ok (.ifCond .eq (12), 3) := by decide +kernel
theorem dPb_cuttingTurn_53 : decode (mC mPb_cuttingTurn) 53 = .ok (.iload_n 0, 1) := by decide +kernel
theorem dPb_cuttingTurn_54 : decode (mC mPb_cuttingTurn) 54 = .ok (.iload 4, 2) := by decide +kernel
theorem dPb_cuttingTurn_56 : decode (mC mPb_cuttingTurn) 56 = .ok (.isub, 1) := by decide +kernel
theorem dPb_cuttingTurn_57 : decode (mC mPb_cuttingTurn) 57 = .ok (.iload_n 3, 1) := by decide +kernel
theorem dPb_cuttingTurn_58 : decode (mC mPb_cuttingTurn) 58 = .ok (.isub, 1) := by decide +kernel
theorem dPb_cuttingTurn_59 : decode (mC mPb_cuttingTurn) 59 = .ok (.goto (4), 3) := by decide +kernel
theorem dPb_cuttingTurn_62 : decode (mC mPb_cuttingTurn) 62 = .ok (.iconst (0), 1) := by decide +kernel
theorem dPb_cuttingTurn_63 : decode (mC mPb_cuttingTurn) 63 = .ok (.istore 7, 2) := by decide +kernel
theorem dPb_cuttingTurn_65 : decode (mC mPb_cuttingTurn) 65 = .ok (.iload_n 0, 1) := by decide +kernel
theorem dPb_cuttingTurn_66 : decode (mC mPb_cuttingTurn) 66 = .ok (.iload 5, 2) := by decide +kernel
theorem dPb_cuttingTurn_68 : decode (mC mPb_cuttingTurn) 68 = .ok (.isub, 1) := by decide +kernel
theorem dPb_cuttingTurn_69 : decode (mC mPb_cuttingTurn) 69 = .ok (.iload_n 3, 1) := by decide +kernel
theorem dPb_cuttingTurn_70 : decode (mC mPb_cuttingTurn) 70 = .ok (.isub, 1) := by decide +kernel
theorem dPb_cuttingTurn_71 : decode (mC mPb_cuttingTurn) 71 = .ok (.iload 7, 2) := by decide +kernel
theorem dPb_cuttingTurn_73 : decode (mC mPb_cuttingTurn) 73 = .ok (.if_icmp .lt (7), 3) := by decide +kernel
theorem dPb_cuttingTurn_76 : decode (mC mPb_cuttingTurn) 76 = .ok (.iload 5, 2) := by decide +kernel
theorem dPb_cuttingTurn_78 : decode (mC mPb_cuttingTurn) 78 = .ok (.istore 4, 2) := by decide +kernel
theorem dPb_cuttingTurn_80 : decode (mC mPb_cuttingTurn) 80 = .ok (.iinc 5 (-1), 3) := by decide +kernel
theorem dPb_cuttingTurn_83 : decode (mC mPb_cuttingTurn) 83 = .ok (.goto (-64), 3) := by decide +kernel
theorem dPb_cuttingTurn_86 : decode (mC mPb_cuttingTurn) 86 = .ok (.iload 4, 2) := by decide +kernel
theorem dPb_cuttingTurn_88 : decode (mC mPb_cuttingTurn) 88 = .ok (.ireturn, 1) := by decide +kernel
theorem bPb_cuttingTurn_0 {E : mEn} {d : Nat} {σ : mSt} {Q : mPost} {a0 : Int32} {a1 : Int32} {a2 : Int32} {a3 : Int32} {u4 : Value} {u5 : Value} {u6 : Value} {u7 : Value} : WP E d mPb_cuttingTurn 0 [.int a0, .int a1, .int a2, .int a3, u4, u5, u6, u7] [] σ Q = (if 1 ≤ a1 then WP E d mPb_cuttingTurn 7 [.int a0, .int a1, .int a2, .int a3, u4, u5, u6, u7] [] σ Q else WP E d mPb_cuttingTurn 5 [.int a0, .int a1, .int a2, .int a3, u4, u5, u6, u7] [] σ Q) := (w_iload_n dPb_cuttingTurn_0 rfl).trans ((w_iconst (v := 1) dPb_cuttingTurn_1 rfl).trans (w_icmpge (t := 7) dPb_cuttingTurn_2 (by decide)))
theorem bPb_cuttingTurn_5 {E : mEn} {d : Nat} {σ : mSt} {Q : mPost} {a0 : Int32} {a1 : Int32} {a2 : Int32} {a3 : Int32} {u4 : Value} {u5 : Value} {u6 : Value} {u7 : Value} : WP E d mPb_cuttingTurn 5 [.int a0, .int a1, .int a2, .int a3, u4, u5, u6, u7] [] σ Q = Q (some (.int (-1))) σ := (w_iconst (v := (-1)) dPb_cuttingTurn_5 rfl).trans (w_iret dPb_cuttingTurn_6 rfl)
theorem bPb_cuttingTurn_7 {E : mEn} {d : Nat} {σ : mSt} {Q : mPost} {a0 : Int32} {a1 : Int32} {a2 : Int32} {a3 : Int32} {u4 : Value} {u5 : Value} {u6 : Value} {u7 : Value} : WP E d mPb_cuttingTurn 7 [.int a0, .int a1, .int a2, .int a3, u4, u5, u6, u7] [] σ Q = WP E d mPb_cuttingTurn 19 [.int a0, .int a1, .int a2, .int a3, .int (-1), .int ((if a2 < a0 then a2 else a0) - 1), u6, u7] [] σ Q := (w_iconst (v := (-1)) dPb_cuttingTurn_7 rfl).trans ((w_istore (ls' := [.int a0, .int a1, .int a2, .int a3, .int (-1), u5, u6, u7]) dPb_cuttingTurn_8 (Nat.le_of_ble_eq_true rfl) rfl).trans ((w_iload_n dPb_cuttingTurn_10 rfl).trans ((w_iload_n dPb_cuttingTurn_11 rfl).trans ((w_min dPb_cuttingTurn_12 rz10_442 (Nat.le_of_ble_eq_true rfl)).trans ((w_iconst (v := 1) dPb_cuttingTurn_15 rfl).trans ((w_isub dPb_cuttingTurn_16).trans (w_istore (ls' := [.int a0, .int a1, .int a2, .int a3, .int (-1), .int ((if a2 < a0 then a2 else a0) - 1), u6, u7]) dPb_cuttingTurn_17 (Nat.le_of_ble_eq_true rfl) rfl)))))))
theorem bPb_cuttingTurn_19 {E : mEn} {d : Nat} {σ : mSt} {Q : mPost} {a0 : Int32} {a1 : Int32} {a2 : Int32} {a3 : Int32} {a4 : Int32} {a5 : Int32} {u6 : Value} {u7 : Value} : WP E d mPb_cuttingTurn 19 [.int a0, .int a1, .int a2, .int a3, .int a4, .int a5, u6, u7] [] σ Q = (if a5 < 0 then WP E d mPb_cuttingTurn 86 [.int a0, .int a1, .int a2, .int a3, .int a4, .int a5, u6, u7] [] σ Q else WP E d mPb_cuttingTurn 24 [.int a0, .int a1, .int a2, .int a3, .int a4, .int a5, u6, u7] [] σ Q) := (w_iload dPb_cuttingTurn_19 rfl).trans (w_iflt (t := 86) dPb_cuttingTurn_21 (by decide))
theorem bPb_cuttingTurn_24 {E : mEn} {d : Nat} {σ : mSt} {Q : mPost} {a0 : Int32} {a1 : Int32} {a2 : Int32} {a3 : Int32} {a4 : Int32} {a5 : Int32} {u6 : Value} {u7 : Value} : WP E d mPb_cuttingTurn 24 [.int a0, .int a1, .int a2, .int a3, .int a4, .int a5, u6, u7] [] σ Q = (if a4 = (-1) then WP E d mPb_cuttingTurn 45 [.int a0, .int a1, .int a2, .int a3, .int a4, .int a5, u6, u7] [] σ Q else WP E d mPb_cuttingTurn 30 [.int a0, .int a1, .int a2, .int a3, .int a4, .int a5, u6, u7] [] σ Q) := (w_iload dPb_cuttingTurn_24 rfl).trans ((w_iconst (v := (-1)) dPb_cuttingTurn_26 rfl).trans (w_icmpeq (t := 45) dPb_cuttingTurn_27 (by decide)))
theorem bPb_cuttingTurn_30 {E : mEn} {d : Nat} {σ : mSt} {Q : mPost} {a0 : Int32} {a1 : Int32} {a2 : Int32} {a3 : Int32} {a4 : Int32} {a5 : Int32} {u6 : Value} {u7 : Value} : WP E d mPb_cuttingTurn 30 [.int a0, .int a1, .int a2, .int a3, .int a4, .int a5, u6, u7] [] σ Q = (if a1 = 0 then False else (if a1 = 0 then False else (if ¬ (a4 - a4 / a1 * a1) = (a5 - a5 / a1 * a1) then WP E d mPb_cuttingTurn 45 [.int a0, .int a1, .int a2, .int a3, .int a4, .int a5, u6, u7] [] σ Q else WP E d mPb_cuttingTurn 41 [.int a0, .int a1, .int a2, .int a3, .int a4, .int a5, u6, u7] [] σ Q))) := (w_iload dPb_cuttingTurn_30 rfl).trans ((w_iload_n dPb_cuttingTurn_32 rfl).trans ((w_irem' dPb_cuttingTurn_33).trans (ite_c ((w_iload dPb_cuttingTurn_34 rfl).trans ((w_iload_n dPb_cuttingTurn_36 rfl).trans ((w_irem' dPb_cuttingTurn_37).trans (ite_c (w_icmpne (t := 45) dPb_cuttingTurn_38 (by decide)))))))))
theorem bPb_cuttingTurn_41 {E : mEn} {d : Nat} {σ : mSt} {Q : mPost} {a0 : Int32} {a1 : Int32} {a2 : Int32} {a3 : Int32} {a4 : Int32} {a5 : Int32} {u6 : Value} {u7 : Value} : WP E d mPb_cuttingTurn 41 [.int a0, .int a1, .int a2, .int a3, .int a4, .int a5, u6, u7] [] σ Q = WP E d mPb_cuttingTurn 46 [.int a0, .int a1, .int a2, .int a3, .int a4, .int a5, u6, u7] [.int 1] σ Q := (w_iconst (v := 1) dPb_cuttingTurn_41 rfl).trans (w_goto (t := 46) dPb_cuttingTurn_42 (by decide))
theorem bPb_cuttingTurn_45 {E : mEn} {d : Nat} {σ : mSt} {Q : mPost} {a0 : Int32} {a1 : Int32} {a2 : Int32} {a3 : Int32} {a4 : Int32} {a5 : Int32} {u6 : Value} {u7 : Value} : WP E d mPb_cuttingTurn 45 [.int a0, .int a1, .int a2, .int a3, .int a4, .int a5, u6, u7] [] σ Q = WP E d mPb_cuttingTurn 46 [.int a0, .int a1, .int a2, .int a3, .int a4, .int a5, u6, u7] [.int 0] σ Q := w_iconst (v := 0) dPb_cuttingTurn_45 rfl
theorem bPb_cuttingTurn_46 {E : mEn} {d : Nat} {σ : mSt} {Q : mPost} {a0 : Int32} {a1 : Int32} {a2 : Int32} {a3 : Int32} {a4 : Int32} {a5 : Int32} {u6 : Value} {u7 : Value} {s0 : Int32} : WP E d mPb_cuttingTurn 46 [.int a0, .int a1, .int a2, .int a3, .int a4, .int a5, u6, u7] [.int s0] σ Q = (if s0 = 0 then WP E d mPb_cuttingTurn 62 [.int a0, .int a1, .int a2, .int a3, .int a4, .int a5, .int s0, u7] [] σ Q else WP E d mPb_cuttingTurn 53 [.int a0, .int a1, .int a2, .int a3, .int a4, .int a5, .int s0, u7] [] σ Q) := (w_istore (ls' := [.int a0, .int a1, .int a2, .int a3, .int a4, .int a5, .int s0, u7]) dPb_cuttingTurn_46 (Nat.le_of_ble_eq_true rfl) rfl).trans ((w_iload dPb_cuttingTurn_48 rfl).trans (w_ifeq (t := 62) dPb_cuttingTurn_50 (by decide)))
theorem bPb_cuttingTurn_53 {E : mEn} {d : Nat} {σ : mSt} {Q : mPost} {a0 : Int32} {a1 : Int32} {a2 : Int32} {a3 : Int32} {a4 : Int32} {a5 : Int32} {a6 : Int32} {u7 : Value} : WP E d mPb_cuttingTurn 53 [.int a0, .int a1, .int a2, .int a3, .int a4, .int a5, .int a6, u7] [] σ Q = WP E d mPb_cuttingTurn 63 [.int a0, .int a1, .int a2, .int a3, .int a4, .int a5, .int a6, u7] [.int ((a0 - a4) - a3)] σ Q := (w_iload_n dPb_cuttingTurn_53 rfl).trans ((w_iload dPb_cuttingTurn_54 rfl).trans ((w_isub dPb_cuttingTurn_56).trans ((w_iload_n dPb_cuttingTurn_57 rfl).trans ((w_isub dPb_cuttingTurn_58).trans (w_goto (t := 63) dPb_cuttingTurn_59 (by decide))))))
theorem bPb_cuttingTurn_62 {E : mEn} {d : Nat} {σ : mSt} {Q : mPost} {a0 : Int32} {a1 : Int32} {a2 : Int32} {a3 : Int32} {a4 : Int32} {a5 : Int32} {a6 : Int32} {u7 : Value} : WP E d mPb_cuttingTurn 62 [.int a0, .int a1, .int a2, .int a3, .int a4, .int a5, .int a6, u7] [] σ Q = WP E d mPb_cuttingTurn 63 [.int a0, .int a1, .int a2, .int a3, .int a4, .int a5, .int a6, u7] [.int 0] σ Q := w_iconst (v := 0) dPb_cuttingTurn_62 rfl
theorem bPb_cuttingTurn_63 {E : mEn} {d : Nat} {σ : mSt} {Q : mPost} {a0 : Int32} {a1 : Int32} {a2 : Int32} {a3 : Int32} {a4 : Int32} {a5 : Int32} {a6 : Int32} {u7 : Value} {s0 : Int32} : WP E d mPb_cuttingTurn 63 [.int a0, .int a1, .int a2, .int a3, .int a4, .int a5, .int a6, u7] [.int s0] σ Q = (if ((a0 - a5) - a3) < s0 then WP E d mPb_cuttingTurn 80 [.int a0, .int a1, .int a2, .int a3, .int a4, .int a5, .int a6, .int s0] [] σ Q else WP E d mPb_cuttingTurn 76 [.int a0, .int a1, .int a2, .int a3, .int a4, .int a5, .int a6, .int s0] [] σ Q) := (w_istore (ls' := [.int a0, .int a1, .int a2, .int a3, .int a4, .int a5, .int a6, .int s0]) dPb_cuttingTurn_63 (Nat.le_of_ble_eq_true rfl) rfl).trans ((w_iload_n dPb_cuttingTurn_65 rfl).trans ((w_iload dPb_cuttingTurn_66 rfl).trans ((w_isub dPb_cuttingTurn_68).trans ((w_iload_n dPb_cuttingTurn_69 rfl).trans ((w_isub dPb_cuttingTurn_70).trans ((w_iload dPb_cuttingTurn_71 rfl).trans (w_icmplt (t := 80) dPb_cuttingTurn_73 (by decide))))))))
theorem bPb_cuttingTurn_76 {E : mEn} {d : Nat} {σ : mSt} {Q : mPost} {a0 : Int32} {a1 : Int32} {a2 : Int32} {a3 : Int32} {a4 : Int32} {a5 : Int32} {a6 : Int32} {a7 : Int32} : WP E d mPb_cuttingTurn 76 [.int a0, .int a1, .int a2, .int a3, .int a4, .int a5, .int a6, .int a7] [] σ Q = WP E d mPb_cuttingTurn 80 [.int a0, .int a1, .int a2, .int a3, .int a5, .int a5, .int a6, .int a7] [] σ Q := (w_iload dPb_cuttingTurn_76 rfl).trans (w_istore (ls' := [.int a0, .int a1, .int a2, .int a3, .int a5, .int a5, .int a6, .int a7]) dPb_cuttingTurn_78 (Nat.le_of_ble_eq_true rfl) rfl)
theorem bPb_cuttingTurn_80 {E : mEn} {d : Nat} {σ : mSt} {Q : mPost} {a0 : Int32} {a1 : Int32} {a2 : Int32} {a3 : Int32} {a4 : Int32} {a5 : Int32} {a6 : Int32} {a7 : Int32} : WP E d mPb_cuttingTurn 80 [.int a0, .int a1, .int a2, .int a3, .int a4, .int a5, .int a6, .int a7] [] σ Q = WP E d mPb_cuttingTurn 19 [.int a0, .int a1, .int a2, .int a3, .int a4, .int (a5 + (-1)), .int a6, .int a7] [] σ Q := (w_iinc (v := (-1)) (ls' := [.int a0, .int a1, .int a2, .int a3, .int a4, .int (a5 + (-1)), .int a6, .int a7]) dPb_cuttingTurn_80 rfl rfl rfl).trans (w_goto (t := 19) dPb_cuttingTurn_83 (by decide))
theorem bPb_cuttingTurn_86 {E : mEn} {d : Nat} {σ : mSt} {Q : mPost} {a0 : Int32} {a1 : Int32} {a2 : Int32} {a3 : Int32} {a4 : Int32} {a5 : Int32} {u6 : Value} {u7 : Value} : WP E d mPb_cuttingTurn 86 [.int a0, .int a1, .int a2, .int a3, .int a4, .int a5, u6, u7] [] σ Q = Q (some (.int a4)) σ := (w_iload dPb_cuttingTurn_86 rfl).trans (w_iret dPb_cuttingTurn_88 rfl)
theorem dPb_auction_0 : decode (mC mPb_auction) 0 = .ok (.aload_n 0, 1) := by decide +kernel
theorem dPb_auction_1 : decode (mC mPb_auction) 1 = .ok (.getfield 10, 3) := by decide +kernel
theorem dPb_auction_4 : decode (mC mPb_auction) 4 = .ok (.iload_n 1, 1) := by decide +kernel
theorem dPb_auction_5 : decode (mC mPb_auction) 5 = .ok (.invokevirtual 78, 3) := by decide +kernel
theorem dPb_auction_8 : decode (mC mPb_auction) 8 = .ok (.ifCond .ne (9), 3) := by decide +kernel
theorem dPb_auction_11 : decode (mC mPb_auction) 11 = .ok (.aload_n 0, 1) := by decide +kernel
theorem dPb_auction_12 : decode (mC mPb_auction) 12 = .ok (.iconst (1), 1) := by decide +kernel
theorem dPb_auction_13 : decode (mC mPb_auction) 13 = .ok (.invokevirtual 104, 3) := by decide +kernel
theorem dPb_auction_16 : decode (mC mPb_auction) 16 = .ok (.ireturn, 1) := by decide +kernel
theorem dPb_auction_17 : decode (mC mPb_auction) 17 = .ok (.aload_n 0, 1) := by decide +kernel
theorem dPb_auction_18 : decode (mC mPb_auction) 18 = .ok (.getfield 10, 3) := by decide +kernel
theorem dPb_auction_21 : decode (mC mPb_auction) 21 = .ok (.iload_n 1, 1) := by decide +kernel
theorem dPb_auction_22 : decode (mC mPb_auction) 22 = .ok (.invokevirtual 112, 3) := by decide +kernel
theorem dPb_auction_25 : decode (mC mPb_auction) 25 = .ok (.ifCond .eq (9), 3) := by decide +kernel
theorem dPb_auction_28 : decode (mC mPb_auction) 28 = .ok (.aload_n 0, 1) := by decide +kernel
theorem dPb_auction_29 : decode (mC mPb_auction) 29 = .ok (.iconst (3), 1) := by decide +kernel
theorem dPb_auction_30 : decode (mC mPb_auction) 30 = .ok (.invokevirtual 104, 3) := by decide +kernel
theorem dPb_auction_33 : decode (mC mPb_auction) 33 = .ok (.ireturn, 1) := by decide +kernel
theorem dPb_auction_34 : decode (mC mPb_auction) 34 = .ok (.iload_n 2, 1) := by decide +kernel
theorem dPb_auction_35 : decode (mC mPb_auction) 35 = .ok (.aload_n 0, 1) := by decide +kernel
theorem dPb_auction_36 : decode (mC mPb_auction) 36 = .ok (.getfield 10, 3) := by decide +kernel
theorem dPb_auction_39 : decode (mC mPb_auction) 39 = .ok (.iload_n 1, 1) := by decide +kernel
theorem dPb_auction_40 : decode (mC mPb_auction) 40 = .ok (.invokevirtual 353, 3) := by decide +kernel
theorem dPb_auction_43 : decode (mC mPb_auction) 43 = .ok (.if_icmp .le (9), 3) := by decide +kernel
theorem dPb_auction_46 : decode (mC mPb_auction) 46 = .ok (.aload_n 0, 1) := by decide +kernel
theorem dPb_auction_47 : decode (mC mPb_auction) 47 = .ok (.iconst (4), 1) := by decide +kernel
theorem dPb_auction_48 : decode (mC mPb_auction) 48 = .ok (.invokevirtual 104, 3) := by decide +kernel
theorem dPb_auction_51 : decode (mC mPb_auction) 51 = .ok (.ireturn, 1) := by decide +kernel
theorem dPb_auction_52 : decode (mC mPb_auction) 52 = .ok (.iload_n 2, 1) := by decide +kernel
theorem dPb_auction_53 : decode (mC mPb_auction) 53 = .ok (.iconst (1), 1) := by decide +kernel
theorem dPb_auction_54 : decode (mC mPb_auction) 54 = .ok (.if_icmp .lt (18), 3) := by decide +kernel
theorem dPb_auction_57 : decode (mC mPb_auction) 57 = .ok (.iload_n 2, 1) := by decide +kernel
theorem dPb_auction_58 : decode (mC mPb_auction) 58 = .ok (.bipush (8), 2) := by decide +kernel
theorem dPb_auction_60 : decode (mC mPb_auction) 60 = .ok (.if_icmp .gt (12), 3) := by decide +kernel
theorem dPb_auction_63 : decode (mC mPb_auction) 63 = .ok (.iload_n 3, 1) := by decide +kernel
theorem dPb_auction_64 : decode (mC mPb_auction) 64 = .ok (.ifCond .lt (8), 3) := by decide +kernel
theorem dPb_auction_67 : decode (mC mPb_auction) 67 = .ok (.iload_n 3, 1) := by decide +kernel
theorem dPb_auction_68 : decode (mC mPb_auction) 68 = .ok (.iconst (1), 1) := by decide +kernel
theorem dPb_auction_69 : decode (mC mPb_auction) 69 = .ok (.if_icmp .le (9), 3) := by decide +kernel
theorem dPb_auction_72 : decode (mC mPb_auction) 72 = .ok (.aload_n 0, 1) := by decide +kernel
theorem dPb_auction_73 : decode (mC mPb_auction) 73 = .ok (.iconst (5), 1) := by decide +kernel
theorem dPb_auction_74 : decode (mC mPb_auction) 74 = .ok (.invokevirtual 104, 3) := by decide +kernel
theorem dPb_auction_77 : decode (mC mPb_auction) 77 = .ok (.ireturn, 1) := by decide +kernel
theorem dPb_auction_78 : decode (mC mPb_auction) 78 = .ok (.aload_n 0, 1) := by decide +kernel
theorem dPb_auction_79 : decode (mC mPb_auction) 79 = .ok (.getfield 10, 3) := by decide +kernel
theorem dPb_auction_82 : decode (mC mPb_auction) 82 = .ok (.iload_n 1, 1) := by decide +kernel
theorem dPb_auction_83 : decode (mC mPb_auction) 83 = .ok (.iload_n 2, 1) := by decide +kernel
theorem dPb_auction_84 : decode (mC mPb_auction) 84 = .ok (.ldc2_w 370, 3) := by decide +kernel
theorem dPb_auction_87 : decode (mC mPb_auction) 87 = .ok (.invokevirtual 358, 3) := by decide +kernel
theorem dPb_auction_90 : decode (mC mPb_auction) 90 = .ok (.ifCond .ne (9), 3) := by decide +kernel
theorem dPb_auction_93 : decode (mC mPb_auction) 93 = .ok (.aload_n 0, 1) := by decide +kernel
theorem dPb_auction_94 : decode (mC mPb_auction) 94 = .ok (.iconst (5), 1) := by decide +kernel
theorem dPb_auction_95 : decode (mC mPb_auction) 95 = .ok (.invokevirtual 104, 3) := by decide +kernel
theorem dPb_auction_98 : decode (mC mPb_auction) 98 = .ok (.ireturn, 1) := by decide +kernel
theorem dPb_auction_99 : decode (mC mPb_auction) 99 = .ok (.aload_n 0, 1) := by decide +kernel
theorem dPb_auction_100 : decode (mC mPb_auction) 100 = .ok (.getfield 10, 3) := by decide +kernel
theorem dPb_auction_103 : decode (mC mPb_auction) 103 = .ok (.iload_n 1, 1) := by decide +kernel
theorem dPb_auction_104 : decode (mC mPb_auction) 104 = .ok (.iload_n 2, 1) := by decide +kernel
theorem dPb_auction_105 : decode (mC mPb_auction) 105 = .ok (.iconst (-1), 1) := by decide +kernel
theorem dPb_auction_106 : decode (mC mPb_auction) 106 = .ok (.invokevirtual 372, 3) := by decide +kernel
theorem dPb_auction_109 : decode (mC mPb_auction) 109 = .ok (.istore 4, 2) := by decide +kernel
theorem dPb_auction_111 : decode (mC mPb_auction) 111 = .ok (.aload_n 0, 1) := by decide +kernel
theorem dPb_auction_112 : decode (mC mPb_auction) 112 = .ok (.getfield 10, 3) := by decide +kernel
theorem dPb_auction_115 : decode (mC mPb_auction) 115 = .ok (.iload_n 1, 1) := by decide +kernel
theorem dPb_auction_116 : decode (mC mPb_auction) 116 = .ok (.iload 4, 2) := by decide +kernel
theorem dPb_auction_118 : decode (mC mPb_auction) 118 = .ok (.invokevirtual 108, 3) := by decide +kernel
theorem dPb_auction_121 : decode (mC mPb_auction) 121 = .ok (.lconst 0, 1) := by decide +kernel
theorem dPb_auction_122 : decode (mC mPb_auction) 122 = .ok (.lcmp, 1) := by decide +kernel
theorem dPb_auction_123 : decode (mC mPb_auction) 123 = .ok (.ifCond .ne (10), 3) := by decide +kernel
theorem dPb_auction_126 : decode (mC mPb_auction) 126 = .ok (.aload_n 0, 1) := by decide +kernel
theorem dPb_auction_127 : decode (mC mPb_auction) 127 = .ok (.bipush (8), 2) := by decide +kernel
theorem dPb_auction_129 : decode (mC mPb_auction) 129 = .ok (.invokevirtual 104, 3) := by decide +kernel
theorem dPb_auction_132 : decode (mC mPb_auction) 132 = .ok (.ireturn, 1) := by decide +kernel
theorem dPb_auction_133 : decode (mC mPb_auction) 133 = .ok (.iload_n 3, 1) := by decide +kernel
theorem dPb_auction_134 : decode (mC mPb_auction) 134 = .ok (.ifCond .ne (10), 3) := by decide +kernel
theorem dPb_auction_137 : decode (mC mPb_auction) 137 = .ok (.aload_n 0, 1) := by decide +kernel
theorem dPb_auction_138 : decode (mC mPb_auction) 138 = .ok (.iload 4, 2) := by decide +kernel
theorem dPb_auction_140 : decode (mC mPb_auction) 140 = .ok (.invokevirtual 157, 3) := by decide +kernel
theorem dPb_auction_143 : decode (mC mPb_auction) 143 = .ok (.ireturn, 1) := by decide +kernel
theorem dPb_auction_144 : decode (mC mPb_auction) 144 = .ok (.aload_n 0, 1) := by decide +kernel
theorem dPb_auction_145 : decode (mC mPb_auction) 145 = .ok (.getfield 10, 3) := by decide +kernel
theorem dPb_auction_148 : decode (mC mPb_auction) 148 = .ok (.iload_n 1, 1) := by decide +kernel
theorem dPb_auction_149 : decode (mC mPb_auction) 149 = .ok (.iload_n 2, 1) := by decide +kernel
theorem dPb_auction_150 : decode (mC mPb_auction) 150 = .ok (.iload 4, 2) := by decide +kernel
theorem dPb_auction_152 : decode (mC mPb_auction) 152 = .ok (.invokevirtual 372, 3) := by decide +kernel
theorem dPb_auction_155 : decode (mC mPb_auction) 155 = .ok (.istore 5, 2) := by decide +kernel
theorem dPb_auction_157 : decode (mC mPb_auction) 157 = .ok (.aload_n 0, 1) := by decide +kernel
theorem dPb_auction_158 : decode (mC mPb_auction) 158 = .ok (.iload 5, 2) := by decide +kernel
theorem dPb_auction_160 : decode (mC mPb_auction) 160 = .ok (.iconst (-1), 1) := by decide +kernel
theorem dPb_auction_161 : decode (mC mPb_auction) 161 = .ok (.if_icmp .ne (7), 3) := by decide +kernel
theorem dPb_auction_164 : decode (mC mPb_auction) 164 = .ok (.iconst (0), 1) := by decide +kernel
theorem dPb_auction_165 : decode (mC mPb_auction) 165 = .ok (.goto (14), 3) := by decide +kernel
theorem dPb_auction_168 : decode (mC mPb_auction) 168 = .ok (.aload_n 0, 1) := by decide +kernel
theorem dPb_auction_169 : decode (mC mPb_auction) 169 = .ok (.getfield 10, 3) := by decide +kernel
theorem dPb_auction_172 : decode (mC mPb_auction) 172 = .ok (.iload_n 1, 1) := by decide +kernel
theorem dPb_auction_173 : decode (mC mPb_auction) 173 = .ok (.iload 5, 2) := by decide +kernel
theorem dPb_auction_175 : decode (mC mPb_auction) 175 = .ok (.invokevirtual 108, 3) := by decide +kernel
theorem dPb_auction_178 : decode (mC mPb_auction) 178 = .ok (.l2i, 1) := by decide +kernel
theorem dPb_auction_179 : decode (mC mPb_auction) 179 = .ok (.invokevirtual 157, 3) := by decide +kernel
theorem dPb_auction_182 : decode (mC mPb_auction) 182 = .ok (.ireturn, 1) := by decide +kernel
theorem bPb_auction_0 {E : mEn} {d : Nat} {σ : mSt} {Q : mPost} {a1 : Int32} {a2 : Int32} {a3 : Int32} {u4 : Value} {u5 : Value} : WP E (d + 1) mPb_auction 0 [.ref 0, .int a1, .int a2, .int a3, u4, u5] [] σ Q = WP E d mTr_exists 0 [.ref 1, .int a1] [] σ (fun r σ' => WP E (d + 1) mPb_auction 8 [.ref 0, .int a1, .int a2, .int a3, u4, u5] (r.toList ++ []) σ' Q) := (w_aload_n dPb_auction_0 rfl).trans ((w_getr (r := 1) dPb_auction_1 rz10_10 sh_0 rfl).trans ((w_iload_n dPb_auction_4 rfl).trans (w_virt (vs := [.int a1]) (st' := []) (es := [.ref 1, .int a1]) dPb_auction_5 rz10_78 rfl sh_1 rfl rfl rfl (Nat.le_of_ble_eq_true rfl) (Nat.le_of_ble_eq_true rfl) rfl)))
theorem bPb_auction_8 {E : mEn} {d : Nat} {σ : mSt} {Q : mPost} {a1 : Int32} {a2 : Int32} {a3 : Int32} {u4 : Value} {u5 : Value} {s0 : Int32} : WP E d mPb_auction 8 [.ref 0, .int a1, .int a2, .int a3, u4, u5] [.int s0] σ Q = (if ¬ s0 = 0 then WP E d mPb_auction 17 [.ref 0, .int a1, .int a2, .int a3, u4, u5] [] σ Q else WP E d mPb_auction 11 [.ref 0, .int a1, .int a2, .int a3, u4, u5] [] σ Q) := w_ifne (t := 17) dPb_auction_8 (by decide)
theorem bPb_auction_11 {E : mEn} {d : Nat} {σ : mSt} {Q : mPost} {a1 : Int32} {a2 : Int32} {a3 : Int32} {u4 : Value} {u5 : Value} : WP E (d + 1) mPb_auction 11 [.ref 0, .int a1, .int a2, .int a3, u4, u5] [] σ Q = WP E d mPb_refuse 0 [.ref 0, .int 1] [] σ (fun r σ' => WP E (d + 1) mPb_auction 16 [.ref 0, .int a1, .int a2, .int a3, u4, u5] (r.toList ++ []) σ' Q) := (w_aload_n dPb_auction_11 rfl).trans ((w_iconst (v := 1) dPb_auction_12 rfl).trans (w_virt (vs := [.int 1]) (st' := []) (es := [.ref 0, .int 1]) dPb_auction_13 rz10_104 rfl sh_0 rfl rfl rfl (Nat.le_of_ble_eq_true rfl) (Nat.le_of_ble_eq_true rfl) rfl))
theorem bPb_auction_16 {E : mEn} {d : Nat} {σ : mSt} {Q : mPost} {a1 : Int32} {a2 : Int32} {a3 : Int32} {u4 : Value} {u5 : Value} {s0 : Int32} : WP E d mPb_auction 16 [.ref 0, .int a1, .int a2, .int a3, u4, u5] [.int s0] σ Q = Q (some (.int s0)) σ := w_iret dPb_auction_16 rfl
theorem bPb_auction_17 {E : mEn} {d : Nat} {σ : mSt} {Q : mPost} {a1 : Int32} {a2 : Int32} {a3 : Int32} {u4 : Value} {u5 : Value} : WP E (d + 1) mPb_auction 17 [.ref 0, .int a1, .int a2, .int a3, u4, u5] [] σ Q = WP E d mTr_isMissing 0 [.ref 1, .int a1] [] σ (fun r σ' => WP E (d + 1) mPb_auction 25 [.ref 0, .int a1, .int a2, .int a3, u4, u5] (r.toList ++ []) σ' Q) := (w_aload_n dPb_auction_17 rfl).trans ((w_getr (r := 1) dPb_auction_18 rz10_10 sh_0 rfl).trans ((w_iload_n dPb_auction_21 rfl).trans (w_virt (vs := [.int a1]) (st' := []) (es := [.ref 1, .int a1]) dPb_auction_22 rz10_112 rfl sh_1 rfl rfl rfl (Nat.le_of_ble_eq_true rfl) (Nat.le_of_ble_eq_true rfl) rfl)))
theorem bPb_auction_25 {E : mEn} {d : Nat} {σ : mSt} {Q : mPost} {a1 : Int32} {a2 : Int32} {a3 : Int32} {u4 : Value} {u5 : Value} {s0 : Int32} : WP E d mPb_auction 25 [.ref 0, .int a1, .int a2, .int a3, u4, u5] [.int s0] σ Q = (if s0 = 0 then WP E d mPb_auction 34 [.ref 0, .int a1, .int a2, .int a3, u4, u5] [] σ Q else WP E d mPb_auction 28 [.ref 0, .int a1, .int a2, .int a3, u4, u5] [] σ Q) := w_ifeq (t := 34) dPb_auction_25 (by decide)
theorem bPb_auction_28 {E : mEn} {d : Nat} {σ : mSt} {Q : mPost} {a1 : Int32} {a2 : Int32} {a3 : Int32} {u4 : Value} {u5 : Value} : WP E (d + 1) mPb_auction 28 [.ref 0, .int a1, .int a2, .int a3, u4, u5] [] σ Q = WP E d mPb_refuse 0 [.ref 0, .int (nI 3)] [] σ (fun r σ' => WP E (d + 1) mPb_auction 33 [.ref 0, .int a1, .int a2, .int a3, u4, u5] (r.toList ++ []) σ' Q) := (w_aload_n dPb_auction_28 rfl).trans ((w_iconst (v := (nI 3)) dPb_auction_29 rfl).trans (w_virt (vs := [.int (nI 3)]) (st' := []) (es := [.ref 0, .int (nI 3)]) dPb_auction_30 rz10_104 rfl sh_0 rfl rfl rfl (Nat.le_of_ble_eq_true rfl) (Nat.le_of_ble_eq_true rfl) rfl))
theorem bPb_auction_33 {E : mEn} {d : Nat} {σ : mSt} {Q : mPost} {a1 : Int32} {a2 : Int32} {a3 : Int32} {u4 : Value} {u5 : Value} {s0 : Int32} : WP E d mPb_auction 33 [.ref 0, .int a1, .int a2, .int a3, u4, u5] [.int s0] σ Q = Q (some (.int s0)) σ := w_iret dPb_auction_33 rfl
theorem bPb_auction_34 {E : mEn} {d : Nat} {σ : mSt} {Q : mPost} {a1 : Int32} {a2 : Int32} {a3 : Int32} {u4 : Value} {u5 : Value} : WP E (d + 1) mPb_auction 34 [.ref 0, .int a1, .int a2, .int a3, u4, u5] [] σ Q = WP E d mTr_lengthOf 0 [.ref 1, .int a1] [] σ (fun r σ' => WP E (d + 1) mPb_auction 43 [.ref 0, .int a1, .int a2, .int a3, u4, u5] (r.toList ++ [.int a2]) σ' Q) := (w_iload_n dPb_auction_34 rfl).trans ((w_aload_n dPb_auction_35 rfl).trans ((w_getr (r := 1) dPb_auction_36 rz10_10 sh_0 rfl).trans ((w_iload_n dPb_auction_39 rfl).trans (w_virt (vs := [.int a1]) (st' := [.int a2]) (es := [.ref 1, .int a1]) dPb_auction_40 rz10_353 rfl sh_1 rfl rfl rfl (Nat.le_of_ble_eq_true rfl) (Nat.le_of_ble_eq_true rfl) rfl))))
theorem bPb_auction_43 {E : mEn} {d : Nat} {σ : mSt} {Q : mPost} {a1 : Int32} {a2 : Int32} {a3 : Int32} {u4 : Value} {u5 : Value} {s0 : Int32} {s1 : Int32} : WP E d mPb_auction 43 [.ref 0, .int a1, .int a2, .int a3, u4, u5] [.int s0, .int s1] σ Q = (if s1 ≤ s0 then WP E d mPb_auction 52 [.ref 0, .int a1, .int a2, .int a3, u4, u5] [] σ Q else WP E d mPb_auction 46 [.ref 0, .int a1, .int a2, .int a3, u4, u5] [] σ Q) := w_icmple (t := 52) dPb_auction_43 (by decide)
theorem bPb_auction_46 {E : mEn} {d : Nat} {σ : mSt} {Q : mPost} {a1 : Int32} {a2 : Int32} {a3 : Int32} {u4 : Value} {u5 : Value} : WP E (d + 1) mPb_auction 46 [.ref 0, .int a1, .int a2, .int a3, u4, u5] [] σ Q = WP E d mPb_refuse 0 [.ref 0, .int (nI 4)] [] σ (fun r σ' => WP E (d + 1) mPb_auction 51 [.ref 0, .int a1, .int a2, .int a3, u4, u5] (r.toList ++ []) σ' Q) := (w_aload_n dPb_auction_46 rfl).trans ((w_iconst (v := (nI 4)) dPb_auction_47 rfl).trans (w_virt (vs := [.int (nI 4)]) (st' := []) (es := [.ref 0, .int (nI 4)]) dPb_auction_48 rz10_104 rfl sh_0 rfl rfl rfl (Nat.le_of_ble_eq_true rfl) (Nat.le_of_ble_eq_true rfl) rfl))
theorem bPb_auction_51 {E : mEn} {d : Nat} {σ : mSt} {Q : mPost} {a1 : Int32} {a2 : Int32} {a3 : Int32} {u4 : Value} {u5 : Value} {s0 : Int32} : WP E d mPb_auction 51 [.ref 0, .int a1, .int a2, .int a3, u4, u5] [.int s0] σ Q = Q (some (.int s0)) σ := w_iret dPb_auction_51 rfl
theorem bPb_auction_52 {E : mEn} {d : Nat} {σ : mSt} {Q : mPost} {a1 : Int32} {a2 : Int32} {a3 : Int32} {u4 : Value} {u5 : Value} : WP E d mPb_auction 52 [.ref 0, .int a1, .int a2, .int a3, u4, u5] [] σ Q = (if a2 < 1 then WP E d mPb_auction 72 [.ref 0, .int a1, .int a2, .int a3, u4, u5] [] σ Q else WP E d mPb_auction 57 [.ref 0, .int a1, .int a2, .int a3, u4, u5] [] σ Q) := (w_iload_n dPb_auction_52 rfl).trans ((w_iconst (v := 1) dPb_auction_53 rfl).trans (w_icmplt (t := 72) dPb_auction_54 (by decide)))
theorem bPb_auction_57 {E : mEn} {d : Nat} {σ : mSt} {Q : mPost} {a1 : Int32} {a2 : Int32} {a3 : Int32} {u4 : Value} {u5 : Value} : WP E d mPb_auction 57 [.ref 0, .int a1, .int a2, .int a3, u4, u5] [] σ Q = (if (nI 8) < a2 then WP E d mPb_auction 72 [.ref 0, .int a1, .int a2, .int a3, u4, u5] [] σ Q else WP E d mPb_auction 63 [.ref 0, .int a1, .int a2, .int a3, u4, u5] [] σ Q) := (w_iload_n dPb_auction_57 rfl).trans ((w_bipush (v := (nI 8)) dPb_auction_58 rfl).trans (w_icmpgt (t := 72) dPb_auction_60 (by decide)))
theorem bPb_auction_63 {E : mEn} {d : Nat} {σ : mSt} {Q : mPost} {a1 : Int32} {a2 : Int32} {a3 : Int32} {u4 : Value} {u5 : Value} : WP E d mPb_auction 63 [.ref 0, .int a1, .int a2, .int a3, u4, u5] [] σ Q = (if a3 < 0 then WP E d mPb_auction 72 [.ref 0, .int a1, .int a2, .int a3, u4, u5] [] σ Q else WP E d mPb_auction 67 [.ref 0, .int a1, .int a2, .int a3, u4, u5] [] σ Q) := (w_iload_n dPb_auction_63 rfl).trans (w_iflt (t := 72) dPb_auction_64 (by decide))
theorem bPb_auction_67 {E : mEn} {d : Nat} {σ : mSt} {Q : mPost} {a1 : Int32} {a2 : Int32} {a3 : Int32} {u4 : Value} {u5 : Value} : WP E d mPb_auction 67 [.ref 0, .int a1, .int a2, .int a3, u4, u5] [] σ Q = (if a3 ≤ 1 then WP E d mPb_auction 78 [.ref 0, .int a1, .int a2, .int a3, u4, u5] [] σ Q else WP E d mPb_auction 72 [.ref 0, .int a1, .int a2, .int a3, u4, u5] [] σ Q) := (w_iload_n dPb_auction_67 rfl).trans ((w_iconst (v := 1) dPb_auction_68 rfl).trans (w_icmple (t := 78) dPb_auction_69 (by decide)))
theorem bPb_auction_72 {E : mEn} {d : Nat} {σ : mSt} {Q : mPost} {a1 : Int32} {a2 : Int32} {a3 : Int32} {u4 : Value} {u5 : Value} : WP E (d + 1) mPb_auction 72 [.ref 0, .int a1, .int a2, .int a3, u4, u5] [] σ Q = WP E d mPb_refuse 0 [.ref 0, .int (nI 5)] [] σ (fun r σ' => WP E (d + 1) mPb_auction 77 [.ref 0, .int a1, .int a2, .int a3, u4, u5] (r.toList ++ []) σ' Q) := (w_aload_n dPb_auction_72 rfl).trans ((w_iconst (v := (nI 5)) dPb_auction_73 rfl).trans (w_virt (vs := [.int (nI 5)]) (st' := []) (es := [.ref 0, .int (nI 5)]) dPb_auction_74 rz10_104 rfl sh_0 rfl rfl rfl (Nat.le_of_ble_eq_true rfl) (Nat.le_of_ble_eq_true rfl) rfl))
theorem bPb_auction_77 {E : mEn} {d : Nat} {σ : mSt} {Q : mPost} {a1 : Int32} {a2 : Int32} {a3 : Int32} {u4 : Value} {u5 : Value} {s0 : Int32} : WP E d mPb_auction 77 [.ref 0, .int a1, .int a2, .int a3, u4, u5] [.int s0] σ Q = Q (some (.int s0)) σ := w_iret dPb_auction_77 rfl
theorem bPb_auction_78 {E : mEn} {d : Nat} {σ : mSt} {Q : mPost} {a1 : Int32} {a2 : Int32} {a3 : Int32} {u4 : Value} {u5 : Value} : WP E (d + 1) mPb_auction 78 [.ref 0, .int a1, .int a2, .int a3, u4, u5] [] σ Q = WP E d mTr_allWithin 0 [.ref 1, .int a1, .int a2, .long (9999), uu, uu] [] σ (fun r σ' => WP E (d + 1) mPb_auction 90 [.ref 0, .int a1, .int a2, .int a3, u4, u5] (r.toList ++ []) σ' Q) := (w_aload_n dPb_auction_78 rfl).trans ((w_getr (r := 1) dPb_auction_79 rz10_10 sh_0 rfl).trans ((w_iload_n dPb_auction_82 rfl).trans ((w_iload_n dPb_auction_83 rfl).trans ((w_ldc2_w dPb_auction_84 rz10_370).trans (w_virt (vs := [.int a1, .int a2, .long (9999)]) (st' := []) (es := [.ref 1, .int a1, .int a2, .long (9999), uu, uu]) dPb_auction_87 rz10_358 rfl sh_1 rfl rfl rfl (Nat.le_of_ble_eq_true rfl) (Nat.le_of_ble_eq_true rfl) rfl)))))
theorem bPb_auction_90 {E : mEn} {d : Nat} {σ : mSt} {Q : mPost} {a1 : Int32} {a2 : Int32} {a3 : Int32} {u4 : Value} {u5 : Value} {s0 : Int32} : WP E d mPb_auction 90 [.ref 0, .int a1, .int a2, .int a3, u4, u5] [.int s0] σ Q = (if ¬ s0 = 0 then WP E d mPb_auction 99 [.ref 0, .int a1, .int a2, .int a3, u4, u5] [] σ Q else WP E d mPb_auction 93 [.ref 0, .int a1, .int a2, .int a3, u4, u5] [] σ Q) := w_ifne (t := 99) dPb_auction_90 (by decide)
theorem bPb_auction_93 {E : mEn} {d : Nat} {σ : mSt} {Q : mPost} {a1 : Int32} {a2 : Int32} {a3 : Int32} {u4 : Value} {u5 : Value} : WP E (d + 1) mPb_auction 93 [.ref 0, .int a1, .int a2, .int a3, u4, u5] [] σ Q = WP E d mPb_refuse 0 [.ref 0, .int (nI 5)] [] σ (fun r σ' => WP E (d + 1) mPb_auction 98 [.ref 0, .int a1, .int a2, .int a3, u4, u5] (r.toList ++ []) σ' Q) := (w_aload_n dPb_auction_93 rfl).trans ((w_iconst (v := (nI 5)) dPb_auction_94 rfl).trans (w_virt (vs := [.int (nI 5)]) (st' := []) (es := [.ref 0, .int (nI 5)]) dPb_auction_95 rz10_104 rfl sh_0 rfl rfl rfl (Nat.le_of_ble_eq_true rfl) (Nat.le_of_ble_eq_true rfl) rfl))
theorem bPb_auction_98 {E : mEn} {d : Nat} {σ : mSt} {Q : mPost} {a1 : Int32} {a2 : Int32} {a3 : Int32} {u4 : Value} {u5 : Value} {s0 : Int32} : WP E d mPb_auction 98 [.ref 0, .int a1, .int a2, .int a3, u4, u5] [.int s0] σ Q = Q (some (.int s0)) σ := w_iret dPb_auction_98 rfl
theorem bPb_auction_99 {E : mEn} {d : Nat} {σ : mSt} {Q : mPost} {a1 : Int32} {a2 : Int32} {a3 : Int32} {u4 : Value} {u5 : Value} : WP E (d + 1) mPb_auction 99 [.ref 0, .int a1, .int a2, .int a3, u4, u5] [] σ Q = WP E d mTr_placeOfMost 0 [.ref 1, .int a1, .int a2, .int (-1), uu, uu] [] σ (fun r σ' => WP E (d + 1) mPb_auction 109 [.ref 0, .int a1, .int a2, .int a3, u4, u5] (r.toList ++ []) σ' Q) := (w_aload_n dPb_auction_99 rfl).trans ((w_getr (r := 1) dPb_auction_100 rz10_10 sh_0 rfl).trans ((w_iload_n dPb_auction_103 rfl).trans ((w_iload_n dPb_auction_104 rfl).trans ((w_iconst (v := (-1)) dPb_auction_105 rfl).trans (w_virt (vs := [.int a1, .int a2, .int (-1)]) (st' := []) (es := [.ref 1, .int a1, .int a2, .int (-1), uu, uu]) dPb_auction_106 rz10_372 rfl sh_1 rfl rfl rfl (Nat.le_of_ble_eq_true rfl) (Nat.le_of_ble_eq_true rfl) rfl)))))
theorem bPb_auction_109 {E : mEn} {d : Nat} {σ : mSt} {Q : mPost} {a1 : Int32} {a2 : Int32} {a3 : Int32} {u4 : Value} {u5 : Value} {s0 : Int32} : WP E (d + 1) mPb_auction 109 [.ref 0, .int a1, .int a2, .int a3, u4, u5] [.int s0] σ Q = WP E d mTr_at 0 [.ref 1, .int a1, .int s0] [] σ (fun r σ' => WP E (d + 1) mPb_auction 121 [.ref 0, .int a1, .int a2, .int a3, .int s0, u5] (r.toList ++ []) σ' Q) := (w_istore (ls' := [.ref 0, .int a1, .int a2, .int a3, .int s0, u5]) dPb_auction_109 (Nat.le_of_ble_eq_true rfl) rfl).trans ((w_aload_n dPb_auction_111 rfl).trans ((w_getr (r := 1) dPb_auction_112 rz10_10 sh_0 rfl).trans ((w_iload_n dPb_auction_115 rfl).trans ((w_iload dPb_auction_116 rfl).trans (w_virt (vs := [.int a1, .int s0]) (st' := []) (es := [.ref 1, .int a1, .int s0]) dPb_auction_118 rz10_108 rfl sh_1 rfl rfl rfl (Nat.le_of_ble_eq_true rfl) (Nat.le_of_ble_eq_true rfl) rfl)))))
theorem bPb_auction_121 {E : mEn} {d : Nat} {σ : mSt} {Q : mPost} {a1 : Int32} {a2 : Int32} {a3 : Int32} {a4 : Int32} {u5 : Value} {q0 : Int64} : WP E d mPb_auction 121 [.ref 0, .int a1, .int a2, .int a3, .int a4, u5] [.long q0] σ Q = (if ¬ (lg_cmp q0 0) = 0 then WP E d mPb_auction 133 [.ref 0, .int a1, .int a2, .int a3, .int a4, u5] [] σ Q else WP E d mPb_auction 126 [.ref 0, .int a1, .int a2, .int a3, .int a4, u5] [] σ Q) := (w_lconst (v := 0) dPb_auction_121 rfl).trans ((w_lcmp dPb_auction_122).trans (w_ifne (t := 133) dPb_auction_123 (by decide)))
theorem bPb_auction_126 {E : mEn} {d : Nat} {σ : mSt} {Q : mPost} {a1 : Int32} {a2 : Int32} {a3 : Int32} {a4 : Int32} {u5 : Value} : WP E (d + 1) mPb_auction 126 [.ref 0, .int a1, .int a2, .int a3, .int a4, u5] [] σ Q = WP E d mPb_refuse 0 [.ref 0, .int (nI 8)] [] σ (fun r σ' => WP E (d + 1) mPb_auction 132 [.ref 0, .int a1, .int a2, .int a3, .int a4, u5] (r.toList ++ []) σ' Q) := (w_aload_n dPb_auction_126 rfl).trans ((w_bipush (v := (nI 8)) dPb_auction_127 rfl).trans (w_virt (vs := [.int (nI 8)]) (st' := []) (es := [.ref 0, .int (nI 8)]) dPb_auction_129 rz10_104 rfl sh_0 rfl rfl rfl (Nat.le_of_ble_eq_true rfl) (Nat.le_of_ble_eq_true rfl) rfl))
theorem bPb_auction_132 {E : mEn} {d : Nat} {σ : mSt} {Q : mPost} {a1 : Int32} {a2 : Int32} {a3 : Int32} {a4 : Int32} {u5 : Value} {s0 : Int32} : WP E d mPb_auction 132 [.ref 0, .int a1, .int a2, .int a3, .int a4, u5] [.int s0] σ Q = Q (some (.int s0)) σ := w_iret dPb_auction_132 rfl
theorem bPb_auction_133 {E : mEn} {d : Nat} {σ : mSt} {Q : mPost} {a1 : Int32} {a2 : Int32} {a3 : Int32} {a4 : Int32} {u5 : Value} : WP E d mPb_auction 133 [.ref 0, .int a1, .int a2, .int a3, .int a4, u5] [] σ Q = (if ¬ a3 = 0 then WP E d mPb_auction 144 [.ref 0, .int a1, .int a2, .int a3, .int a4, u5] [] σ Q else WP E d mPb_auction 137 [.ref 0, .int a1, .int a2, .int a3, .int a4, u5] [] σ Q) := (w_iload_n dPb_auction_133 rfl).trans (w_ifne (t := 144) dPb_auction_134 (by decide))
theorem bPb_auction_137 {E : mEn} {d : Nat} {σ : mSt} {Q : mPost} {a1 : Int32} {a2 : Int32} {a3 : Int32} {a4 : Int32} {u5 : Value} : WP E (d + 1) mPb_auction 137 [.ref 0, .int a1, .int a2, .int a3, .int a4, u5] [] σ Q = WP E d mPb_answer 0 [.ref 0, .int a4] [] σ (fun r σ' => WP E (d + 1) mPb_auction 143 [.ref 0, .int a1, .int a2, .int a3, .int a4, u5] (r.toList ++ []) σ' Q) := (w_aload_n dPb_auction_137 rfl).trans ((w_iload dPb_auction_138 rfl).trans (w_virt (vs := [.int a4]) (st' := []) (es := [.ref 0, .int a4]) dPb_auction_140 rz10_157 rfl sh_0 rfl rfl rfl (Nat.le_of_ble_eq_true rfl) (Nat.le_of_ble_eq_true rfl) rfl))
theorem bPb_auction_143 {E : mEn} {d : Nat} {σ : mSt} {Q : mPost} {a1 : Int32} {a2 : Int32} {a3 : Int32} {a4 : Int32} {u5 : Value} {s0 : Int32} : WP E d mPb_auction 143 [.ref 0, .int a1, .int a2, .int a3, .int a4, u5] [.int s0] σ Q = Q (some (.int s0)) σ := w_iret dPb_auction_143 rfl
theorem bPb_auction_144 {E : mEn} {d : Nat} {σ : mSt} {Q : mPost} {a1 : Int32} {a2 : Int32} {a3 : Int32} {a4 : Int32} {u5 : Value} : WP E (d + 1) mPb_auction 144 [.ref 0, .int a1, .int a2, .int a3, .int a4, u5] [] σ Q = WP E d mTr_placeOfMost 0 [.ref 1, .int a1, .int a2, .int a4, uu, uu] [] σ (fun r σ' => WP E (d + 1) mPb_auction 155 [.ref 0, .int a1, .int a2, .int a3, .int a4, u5] (r.toList ++ []) σ' Q) := (w_aload_n dPb_auction_144 rfl).trans ((w_getr (r := 1) dPb_auction_145 rz10_10 sh_0 rfl).trans ((w_iload_n dPb_auction_148 rfl).trans ((w_iload_n dPb_auction_149 rfl).trans ((w_iload dPb_auction_150 rfl).trans (w_virt (vs := [.int a1, .int a2, .int a4]) (st' := []) (es := [.ref 1, .int a1, .int a2, .int a4, uu, uu]) dPb_auction_152 rz10_372 rfl sh_1 rfl rfl rfl (Nat.le_of_ble_eq_true rfl) (Nat.le_of_ble_eq_true rfl) rfl)))))
theorem bPb_auction_155 {E : mEn} {d : Nat} {σ : mSt} {Q : mPost} {a1 : Int32} {a2 : Int32} {a3 : Int32} {a4 : Int32} {u5 : Value} {s0 : Int32} : WP E d mPb_auction 155 [.ref 0, .int a1, .int a2, .int a3, .int a4, u5] [.int s0] σ Q = (if ¬ s0 = (-1) then WP E d mPb_auction 168 [.ref 0, .int a1, .int a2, .int a3, .int a4, .int s0] [.ref 0] σ Q else WP E d mPb_auction 164 [.ref 0, .int a1, .int a2, .int a3, .int a4, .int s0] [.ref 0] σ Q) := (w_istore (ls' := [.ref 0, .int a1, .int a2, .int a3, .int a4, .int s0]) dPb_auction_155 (Nat.le_of_ble_eq_true rfl) rfl).trans ((w_aload_n dPb_auction_157 rfl).trans ((w_iload dPb_auction_158 rfl).trans ((w_iconst (v := (-1)) dPb_auction_160 rfl).trans (w_icmpne (t := 168) dPb_auction_161 (by decide)))))
theorem bPb_auction_164 {E : mEn} {d : Nat} {σ : mSt} {Q : mPost} {a1 : Int32} {a2 : Int32} {a3 : Int32} {a4 : Int32} {a5 : Int32} : WP E d mPb_auction 164 [.ref 0, .int a1, .int a2, .int a3, .int a4, .int a5] [.ref 0] σ Q = WP E d mPb_auction 179 [.ref 0, .int a1, .int a2, .int a3, .int a4, .int a5] [.int 0, .ref 0] σ Q := (w_iconst (v := 0) dPb_auction_164 rfl).trans (w_goto (t := 179) dPb_auction_165 (by decide))
theorem bPb_auction_168 {E : mEn} {d : Nat} {σ : mSt} {Q : mPost} {a1 : Int32} {a2 : Int32} {a3 : Int32} {a4 : Int32} {a5 : Int32} : WP E (d + 1) mPb_auction 168 [.ref 0, .int a1, .int a2, .int a3, .int a4, .int a5] [.ref 0] σ Q = WP E d mTr_at 0 [.ref 1, .int a1, .int a5] [] σ (fun r σ' => WP E (d + 1) mPb_auction 178 [.ref 0, .int a1, .int a2, .int a3, .int a4, .int a5] (r.toList ++ [.ref 0]) σ' Q) := (w_aload_n dPb_auction_168 rfl).trans ((w_getr (r := 1) dPb_auction_169 rz10_10 sh_0 rfl).trans ((w_iload_n dPb_auction_172 rfl).trans ((w_iload dPb_auction_173 rfl).trans (w_virt (vs := [.int a1, .int a5]) (st' := [.ref 0]) (es := [.ref 1, .int a1, .int a5]) dPb_auction_175 rz10_108 rfl sh_1 rfl rfl rfl (Nat.le_of_ble_eq_true rfl) (Nat.le_of_ble_eq_true rfl) rfl))))
theorem bPb_auction_178 {E : mEn} {d : Nat} {σ : mSt} {Q : mPost} {a1 : Int32} {a2 : Int32} {a3 : Int32} {a4 : Int32} {a5 : Int32} {q0 : Int64} : WP E d mPb_auction 178 [.ref 0, .int a1, .int a2, .int a3, .int a4, .int a5] [.long q0, .ref 0] σ Q = WP E d mPb_auction 179 [.ref 0, .int a1, .int a2, .int a3, .int a4, .int a5] [.int (q0.toInt32), .ref 0] σ Q := w_l2i dPb_auction_178
theorem bPb_auction_179 {E : mEn} {d : Nat} {σ : mSt} {Q : mPost} {a1 : Int32} {a2 : Int32} {a3 : Int32} {a4 : Int32} {a5 : Int32} {s0 : Int32} : WP E (d + 1) mPb_auction 179 [.ref 0, .int a1, .int a2, .int a3, .int a4, .int a5] [.int s0, .ref 0] σ Q = WP E d mPb_answer 0 [.ref 0, .int s0] [] σ (fun r σ' => WP E (d + 1) mPb_auction 182 [.ref 0, .int a1, .int a2, .int a3, .int a4, .int a5] (r.toList ++ []) σ' Q) := w_virt (vs := [.int s0]) (st' := []) (es := [.ref 0, .int s0]) dPb_auction_179 rz10_157 rfl sh_0 rfl rfl rfl (Nat.le_of_ble_eq_true rfl) (Nat.le_of_ble_eq_true rfl) rfl
theorem bPb_auction_182 {E : mEn} {d : Nat} {σ : mSt} {Q : mPost} {a1 : Int32} {a2 : Int32} {a3 : Int32} {a4 : Int32} {a5 : Int32} {s0 : Int32} : WP E d mPb_auction 182 [.ref 0, .int a1, .int a2, .int a3, .int a4, .int a5] [.int s0] σ Q = Q (some (.int s0)) σ := w_iret dPb_auction_182 rfl
theorem dPb_make_0 : decode (mC mPb_make) 0 = .ok (.aload_n 0, 1) := by decide +kernel
theorem dPb_make_1 : decode (mC mPb_make) 1 = .ok (.getfield 26, 3) := by decide +kernel
theorem dPb_make_4 : decode (mC mPb_make) 4 = .ok (.iload_n 2, 1) := by decide +kernel
theorem dPb_make_5 : decode (mC mPb_make) 5 = .ok (.invokevirtual 218, 3) := by decide +kernel
theorem dPb_make_8 : decode (mC mPb_make) 8 = .ok (.ifCond .eq (26), 3) := by decide +kernel
theorem dPb_make_11 : decode (mC mPb_make) 11 = .ok (.aload_n 0, 1) := by decide +kernel
theorem dPb_make_12 : decode (mC mPb_make) 12 = .ok (.getfield 26, 3) := by decide +kernel
theorem dPb_make_15 : decode (mC mPb_make) 15 = .ok (.iload_n 3, 1) := by decide +kernel
theorem dPb_make_16 : decode (mC mPb_make) 16 = .ok (.invokevirtual 205, 3) := by decide +kernel
theorem dPb_make_19 : decode (mC mPb_make) 19 = .ok (.ifCond .eq (15), 3) := by decide +kernel
theorem dPb_make_22 : decode (mC mPb_make) 22 = .ok (.aload_n 0, 1) := by decide +kernel
theorem dPb_make_23 : decode (mC mPb_make) 23 = .ok (.getfield 26, 3) := by decide +kernel
theorem dPb_make_26 : decode (mC mPb_make) 26 = .ok (.iload 4, 2) := by decide +kernel
theorem dPb_make_28 : decode (mC mPb_make) 28 = .ok (.invokevirtual 205, 3) := by decide +kernel
theorem dPb_make_31 : decode (mC mPb_make) 31 = .ok (.ifCond .ne (9), 3) := by decide +kernel
theorem dPb_make_34 : decode (mC mPb_make) 34 = .ok (.aload_n 0, 1) := by decide +kernel
theorem dPb_make_35 : decode (mC mPb_make) 35 = .ok (.iconst (2), 1) := by decide +kernel
theorem dPb_make_36 : decode (mC mPb_make) 36 = .ok (.invokevirtual 104, 3) := by decide +kernel
theorem dPb_make_39 : decode (mC mPb_make) 39 = .ok (.ireturn, 1) := by decide +kernel
theorem dPb_make_40 : decode (mC mPb_make) 40 = .ok (.iload_n 1, 1) := by decide +kernel
theorem dPb_make_41 : decode (mC mPb_make) 41 = .ok (.iconst (1), 1) := by decide +kernel
theorem dPb_make_42 : decode (mC mPb_make) 42 = .ok (.if_icmp .lt (28), 3) := by decide +kernel
theorem dPb_make_45 : decode (mC mPb_make) 45 = .ok (.iload_n 1, 1) := by decide +kernel
theorem dPb_make_46 : decode (mC mPb_make) 46 = .ok (.bipush (99), 2) := by decide +kernel
theorem dPb_make_48 : decode (mC mPb_make) 48 = .ok (.if_icmp .gt (22), 3) := by decide +kernel
theorem dPb_make_51 : decode (mC mPb_make) 51 = .ok (.iload 5, 2) := by decide +kernel
theorem dPb_make_53 : decode (mC mPb_make) 53 = .ok (.ifCond .lt (17), 3) := by decide +kernel
theorem dPb_make_56 : decode (mC mPb_make) 56 = .ok (.iload 5, 2) := by decide +kernel
theorem dPb_make_58 : decode (mC mPb_make) 58 = .ok (.sipush (999), 3) := by decide +kernel
theorem dPb_make_61 : decode (mC mPb_make) 61 = .ok (.if_icmp .gt (9), 3) := by decide +kernel
theorem dPb_make_64 : decode (mC mPb_make) 64 = .ok (.iload_n 3, 1) := by decide +kernel
theorem dPb_make_65 : decode (mC mPb_make) 65 = .ok (.iload 4, 2) := by decide +kernel
theorem dPb_make_67 : decode (mC mPb_make) 67 = .ok (.if_icmp .ne (9), 3) := by decide +kernel
theorem dPb_make_70 : decode (mC mPb_make) 70 = .ok (.aload_n 0, 1) := by decide +kernel
theorem dPb_make_71 : decode (mC mPb_make) 71 = .ok (.iconst (5), 1) := by decide +kernel
theorem dPb_make_72 : decode (mC mPb_make) 72 = .ok (.invokevirtual 104, 3) := by decide +kernel
theorem dPb_make_75 : decode (mC mPb_make) 75 = .ok (.ireturn, 1) := by decide +kernel
theorem dPb_make_76 : decode (mC mPb_make) 76 = .ok (.aload_n 0, 1) := by decide +kernel
theorem dPb_make_77 : decode (mC mPb_make) 77 = .ok (.getfield 26, 3) := by decide +kernel
theorem dPb_make_80 : decode (mC mPb_make) 80 = .ok (.getfield 187, 3) := by decide +kernel
theorem dPb_make_83 : decode (mC mPb_make) 83 = .ok (.invokevirtual 375, 3) := by decide +kernel
theorem dPb_make_86 : decode (mC mPb_make) 86 = .ok (.ifCond .ne (10), 3) := by decide +kernel
theorem dPb_make_89 : decode (mC mPb_make) 89 = .ok (.aload_n 0, 1) := by decide +kernel
theorem dPb_make_90 : decode (mC mPb_make) 90 = .ok (.bipush (7), 2) := by decide +kernel
theorem dPb_make_92 : decode (mC mPb_make) 92 = .ok (.invokevirtual 104, 3) := by decide +kernel
theorem dPb_make_95 : decode (mC mPb_make) 95 = .ok (.ireturn, 1) := by decide +kernel
theorem dPb_make_96 : decode (mC mPb_make) 96 = .ok (.aload_n 0, 1) := by decide +kernel
theorem dPb_make_97 : decode (mC mPb_make) 97 = .ok (.getfield 26, 3) := by decide +kernel
theorem dPb_make_100 : decode (mC mPb_make) 100 = .ok (.iload_n 2, 1) := by decide +kernel
theorem dPb_make_101 : decode (mC mPb_make) 101 = .ok (.invokevirtual 239, 3) := by decide +kernel
theorem dPb_make_104 : decode (mC mPb_make) 104 = .ok (.ifCond .eq (10), 3) := by decide +kernel
theorem dPb_make_107 : decode (mC mPb_make) 107 = .ok (.aload_n 0, 1) := by decide +kernel
theorem dPb_make_108 : decode (mC mPb_make) 108 = .ok (.bipush (9), 2) := by decide +kernel
theorem dPb_make_110 : decode (mC mPb_make) 110 = .ok (.invokevirtual 104, 3) := by decide +kernel
theorem dPb_make_113 : decode (mC mPb_make) 113 = .ok (.ireturn, 1) := by decide +kernel
theorem dPb_make_114 : decode (mC mPb_make) 114 = .ok (.aload_n 0, 1) := by decide +kernel
theorem dPb_make_115 : decode (mC mPb_make) 115 = .ok (.aload_n 0, 1) := by decide +kernel
theorem dPb_make_116 : decode (mC mPb_make) 116 = .ok (.getfield 26, 3) := by decide +kernel
theorem dPb_make_119 : decode (mC mPb_make) 119 = .ok (.iload_n 1, 1) := by decide +kernel
theorem dPb_make_120 : decode (mC mPb_make) 120 = .ok (.iload_n 2, 1) := by decide +kernel
theorem dPb_make_121 : decode (mC mPb_make) 121 = .ok (.iload_n 3, 1) := by decide +kernel
theorem dPb_make_122 : decode (mC mPb_make) 122 = .ok (.iload 4, 2) := by decide +kernel
theorem dPb_make_124 : decode (mC mPb_make) 124 = .ok (.iload 5, 2) := by decide +kernel
theorem dPb_make_126 : decode (mC mPb_make) 126 = .ok (.invokevirtual 378, 3) := by decide +kernel
theorem dPb_make_129 : decode (mC mPb_make) 129 = .ok (.invokevirtual 157, 3) := by decide +kernel
theorem dPb_make_132 : decode (mC mPb_make) 132 = .ok (.ireturn, 1) := by decide +kernel
theorem bPb_make_0 {E : mEn} {d : Nat} {σ : mSt} {Q : mPost} {a1 : Int32} {a2 : Int32} {a3 : Int32} {a4 : Int32} {a5 : Int32} : WP E (d + 1) mPb_make 0 [.ref 0, .int a1, .int a2, .int a3, .int a4, .int a5] [] σ Q = WP E d mTw_hasLoaf 0 [.ref 10, .int a2] [] σ (fun r σ' => WP E (d + 1) mPb_make 8 [.ref 0, .int a1, .int a2, .int a3, .int a4, .int a5] (r.toList ++ []) σ' Q) := (w_aload_n dPb_make_0 rfl).trans ((w_getr (r := 10) dPb_make_1 rz10_26 sh_0 rfl).trans ((w_iload_n dPb_make_4 rfl).trans (w_virt (vs := [.int a2]) (st' := []) (es := [.ref 10, .int a2]) dPb_make_5 rz10_218 rfl sh_10 rfl rfl rfl (Nat.le_of_ble_eq_true rfl) (Nat.le_of_ble_eq_true rfl) rfl)))
theorem bPb_make_8 {E : mEn} {d : Nat} {σ : mSt} {Q : mPost} {a1 : Int32} {a2 : Int32} {a3 : Int32} {a4 : Int32} {a5 : Int32} {s0 : Int32} : WP E d mPb_make 8 [.ref 0, .int a1, .int a2, .int a3, .int a4, .int a5] [.int s0] σ Q = (if s0 = 0 then WP E d mPb_make 34 [.ref 0, .int a1, .int a2, .int a3, .int a4, .int a5] [] σ Q else WP E d mPb_make 11 [.ref 0, .int a1, .int a2, .int a3, .int a4, .int a5] [] σ Q) := w_ifeq (t := 34) dPb_make_8 (by decide)
theorem bPb_make_11 {E : mEn} {d : Nat} {σ : mSt} {Q : mPost} {a1 : Int32} {a2 : Int32} {a3 : Int32} {a4 : Int32} {a5 : Int32} : WP E (d + 1) mPb_make 11 [.ref 0, .int a1, .int a2, .int a3, .int a4, .int a5] [] σ Q = WP E d mTw_hasPerson 0 [.ref 10, .int a3] [] σ (fun r σ' => WP E (d + 1) mPb_make 19 [.ref 0, .int a1, .int a2, .int a3, .int a4, .int a5] (r.toList ++ []) σ' Q) := (w_aload_n dPb_make_11 rfl).trans ((w_getr (r := 10) dPb_make_12 rz10_26 sh_0 rfl).trans ((w_iload_n dPb_make_15 rfl).trans (w_virt (vs := [.int a3]) (st' := []) (es := [.ref 10, .int a3]) dPb_make_16 rz10_205 rfl sh_10 rfl rfl rfl (Nat.le_of_ble_eq_true rfl) (Nat.le_of_ble_eq_true rfl) rfl)))
theorem bPb_make_19 {E : mEn} {d : Nat} {σ : mSt} {Q : mPost} {a1 : Int32} {a2 : Int32} {a3 : Int32} {a4 : Int32} {a5 : Int32} {s0 : Int32} : WP E d mPb_make 19 [.ref 0, .int a1, .int a2, .int a3, .int a4, .int a5] [.int s0] σ Q = (if s0 = 0 then WP E d mPb_make 34 [.ref 0, .int a1, .int a2, .int a3, .int a4, .int a5] [] σ Q else WP E d mPb_make 22 [.ref 0, .int a1, .int a2, .int a3, .int a4, .int a5] [] σ Q) := w_ifeq (t := 34) dPb_make_19 (by decide)
theorem bPb_make_22 {E : mEn} {d : Nat} {σ : mSt} {Q : mPost} {a1 : Int32} {a2 : Int32} {a3 : Int32} {a4 : Int32} {a5 : Int32} : WP E (d + 1) mPb_make 22 [.ref 0, .int a1, .int a2, .int a3, .int a4, .int a5] [] σ Q = WP E d mTw_hasPerson 0 [.ref 10, .int a4] [] σ (fun r σ' => WP E (d + 1) mPb_make 31 [.ref 0, .int a1, .int a2, .int a3, .int a4, .int a5] (r.toList ++ []) σ' Q) := (w_aload_n dPb_make_22 rfl).trans ((w_getr (r := 10) dPb_make_23 rz10_26 sh_0 rfl).trans ((w_iload dPb_make_26 rfl).trans (w_virt (vs := [.int a4]) (st' := []) (es := [.ref 10, .int a4]) dPb_make_28 rz10_205 rfl sh_10 rfl rfl rfl (Nat.le_of_ble_eq_true rfl) (Nat.le_of_ble_eq_true rfl) rfl)))
theorem bPb_make_31 {E : mEn} {d : Nat} {σ : mSt} {Q : mPost} {a1 : Int32} {a2 : Int32} {a3 : Int32} {a4 : Int32} {a5 : Int32} {s0 : Int32} : WP E d mPb_make 31 [.ref 0, .int a1, .int a2, .int a3, .int a4, .int a5] [.int s0] σ Q = (if ¬ s0 = 0 then WP E d mPb_make 40 [.ref 0, .int a1, .int a2, .int a3, .int a4, .int a5] [] σ Q else WP E d mPb_make 34 [.ref 0, .int a1, .int a2, .int a3, .int a4, .int a5] [] σ Q) := w_ifne (t := 40) dPb_make_31 (by decide)
theorem bPb_make_34 {E : mEn} {d : Nat} {σ : mSt} {Q : mPost} {a1 : Int32} {a2 : Int32} {a3 : Int32} {a4 : Int32} {a5 : Int32} : WP E (d + 1) mPb_make 34 [.ref 0, .int a1, .int a2, .int a3, .int a4, .int a5] [] σ Q = WP E d mPb_refuse 0 [.ref 0, .int (nI 2)] [] σ (fun r σ' => WP E (d + 1) mPb_make 39 [.ref 0, .int a1, .int a2, .int a3, .int a4, .int a5] (r.toList ++ []) σ' Q) := (w_aload_n dPb_make_34 rfl).trans ((w_iconst (v := (nI 2)) dPb_make_35 rfl).trans (w_virt (vs := [.int (nI 2)]) (st' := []) (es := [.ref 0, .int (nI 2)]) dPb_make_36 rz10_104 rfl sh_0 rfl rfl rfl (Nat.le_of_ble_eq_true rfl) (Nat.le_of_ble_eq_true rfl) rfl))
theorem bPb_make_39 {E : mEn} {d : Nat} {σ : mSt} {Q : mPost} {a1 : Int32} {a2 : Int32} {a3 : Int32} {a4 : Int32} {a5 : Int32} {s0 : Int32} : WP E d mPb_make 39 [.ref 0, .int a1, .int a2, .int a3, .int a4, .int a5] [.int s0] σ Q = Q (some (.int s0)) σ := w_iret dPb_make_39 rfl
theorem bPb_make_40 {E : mEn} {d : Nat} {σ : mSt} {Q : mPost} {a1 : Int32} {a2 : Int32} {a3 : Int32} {a4 : Int32} {a5 : Int32} : WP E d mPb_make 40 [.ref 0, .int a1, .int a2, .int a3, .int a4, .int a5] [] σ Q = (if a1 < 1 then WP E d mPb_make 70 [.ref 0, .int a1, .int a2, .int a3, .int a4, .int a5] [] σ Q else WP E d mPb_make 45 [.ref 0, .int a1, .int a2, .int a3, .int a4, .int a5] [] σ Q) := (w_iload_n dPb_make_40 rfl).trans ((w_iconst (v := 1) dPb_make_41 rfl).trans (w_icmplt (t := 70) dPb_make_42 (by decide)))
theorem bPb_make_45 {E : mEn} {d : Nat} {σ : mSt} {Q : mPost} {a1 : Int32} {a2 : Int32} {a3 : Int32} {a4 : Int32} {a5 : Int32} : WP E d mPb_make 45 [.ref 0, .int a1, .int a2, .int a3, .int a4, .int a5] [] σ Q = (if (nI 99) < a1 then WP E d mPb_make 70 [.ref 0, .int a1, .int a2, .int a3, .int a4, .int a5] [] σ Q else WP E d mPb_make 51 [.ref 0, .int a1, .int a2, .int a3, .int a4, .int a5] [] σ Q) := (w_iload_n dPb_make_45 rfl).trans ((w_bipush (v := (nI 99)) dPb_make_46 rfl).trans (w_icmpgt (t := 70) dPb_make_48 (by decide)))
theorem bPb_make_51 {E : mEn} {d : Nat} {σ : mSt} {Q : mPost} {a1 : Int32} {a2 : Int32} {a3 : Int32} {a4 : Int32} {a5 : Int32} : WP E d mPb_make 51 [.ref 0, .int a1, .int a2, .int a3, .int a4, .int a5] [] σ Q = (if a5 < 0 then WP E d mPb_make 70 [.ref 0, .int a1, .int a2, .int a3, .int a4, .int a5] [] σ Q else WP E d mPb_make 56 [.ref 0, .int a1, .int a2, .int a3, .int a4, .int a5] [] σ Q) := (w_iload dPb_make_51 rfl).trans (w_iflt (t := 70) dPb_make_53 (by decide))
theorem bPb_make_56 {E : mEn} {d : Nat} {σ : mSt} {Q : mPost} {a1 : Int32} {a2 : Int32} {a3 : Int32} {a4 : Int32} {a5 : Int32} : WP E d mPb_make 56 [.ref 0, .int a1, .int a2, .int a3, .int a4, .int a5] [] σ Q = (if (nI 999) < a5 then WP E d mPb_make 70 [.ref 0, .int a1, .int a2, .int a3, .int a4, .int a5] [] σ Q else WP E d mPb_make 64 [.ref 0, .int a1, .int a2, .int a3, .int a4, .int a5] [] σ Q) := (w_iload dPb_make_56 rfl).trans ((w_sipush (v := (nI 999)) dPb_make_58 rfl).trans (w_icmpgt (t := 70) dPb_make_61 (by decide)))
theorem bPb_make_64 {E : mEn} {d : Nat} {σ : mSt} {Q : mPost} {a1 : Int32} {a2 : Int32} {a3 : Int32} {a4 : Int32} {a5 : Int32} : WP E d mPb_make 64 [.ref 0, .int a1, .int a2, .int a3, .int a4, .int a5] [] σ Q = (if ¬ a3 = a4 then WP E d mPb_make 76 [.ref 0, .int a1, .int a2, .int a3, .int a4, .int a5] [] σ Q else WP E d mPb_make 70 [.ref 0, .int a1, .int a2, .int a3, .int a4, .int a5] [] σ Q) := (w_iload_n dPb_make_64 rfl).trans ((w_iload dPb_make_65 rfl).trans (w_icmpne (t := 76) dPb_make_67 (by decide)))
theorem bPb_make_70 {E : mEn} {d : Nat} {σ : mSt} {Q : mPost} {a1 : Int32} {a2 : Int32} {a3 : Int32} {a4 : Int32} {a5 : Int32} : WP E (d + 1) mPb_make 70 [.ref 0, .int a1, .int a2, .int a3, .int a4, .int a5] [] σ Q = WP E d mPb_refuse 0 [.ref 0, .int (nI 5)] [] σ (fun r σ' => WP E (d + 1) mPb_make 75 [.ref 0, .int a1, .int a2, .int a3, .int a4, .int a5] (r.toList ++ []) σ' Q) := (w_aload_n dPb_make_70 rfl).trans ((w_iconst (v := (nI 5)) dPb_make_71 rfl).trans (w_virt (vs := [.int (nI 5)]) (st' := []) (es := [.ref 0, .int (nI 5)]) dPb_make_72 rz10_104 rfl sh_0 rfl rfl rfl (Nat.le_of_ble_eq_true rfl) (Nat.le_of_ble_eq_true rfl) rfl))
theorem bPb_make_75 {E : mEn} {d : Nat} {σ : mSt} {Q : mPost} {a1 : Int32} {a2 : Int32} {a3 : Int32} {a4 : Int32} {a5 : Int32} {s0 : Int32} : WP E d mPb_make 75 [.ref 0, .int a1, .int a2, .int a3, .int a4, .int a5] [.int s0] σ Q = Q (some (.int s0)) σ := w_iret dPb_make_75 rfl
theorem bPb_make_76 {E : mEn} {d : Nat} {σ : mSt} {Q : mPost} {a1 : Int32} {a2 : Int32} {a3 : Int32} {a4 : Int32} {a5 : Int32} : WP E (d + 1) mPb_make 76 [.ref 0, .int a1, .int a2, .int a3, .int a4, .int a5] [] σ Q = WP E d mPr_hasRoom 0 [.ref 13] [] σ (fun r σ' => WP E (d + 1) mPb_make 86 [.ref 0, .int a1, .int a2, .int a3, .int a4, .int a5] (r.toList ++ []) σ' Q) := (w_aload_n dPb_make_76 rfl).trans ((w_getr (r := 10) dPb_make_77 rz10_26 sh_0 rfl).trans ((w_getr (r := 13) dPb_make_80 rz10_187 sh_10 rfl).trans (w_virt (vs := []) (st' := []) (es := [.ref 13]) dPb_make_83 rz10_375 rfl sh_13 rfl rfl rfl (Nat.le_of_ble_eq_true rfl) (Nat.le_of_ble_eq_true rfl) rfl)))
theorem bPb_make_86 {E : mEn} {d : Nat} {σ : mSt} {Q : mPost} {a1 : Int32} {a2 : Int32} {a3 : Int32} {a4 : Int32} {a5 : Int32} {s0 : Int32} : WP E d mPb_make 86 [.ref 0, .int a1, .int a2, .int a3, .int a4, .int a5] [.int s0] σ Q = (if ¬ s0 = 0 then WP E d mPb_make 96 [.ref 0, .int a1, .int a2, .int a3, .int a4, .int a5] [] σ Q else WP E d mPb_make 89 [.ref 0, .int a1, .int a2, .int a3, .int a4, .int a5] [] σ Q) := w_ifne (t := 96) dPb_make_86 (by decide)
theorem bPb_make_89 {E : mEn} {d : Nat} {σ : mSt} {Q : mPost} {a1 : Int32} {a2 : Int32} {a3 : Int32} {a4 : Int32} {a5 : Int32} : WP E (d + 1) mPb_make 89 [.ref 0, .int a1, .int a2, .int a3, .int a4, .int a5] [] σ Q = WP E d mPb_refuse 0 [.ref 0, .int (nI 7)] [] σ (fun r σ' => WP E (d + 1) mPb_make 95 [.ref 0, .int a1, .int a2, .int a3, .int a4, .int a5] (r.toList ++ []) σ' Q) := (w_aload_n dPb_make_89 rfl).trans ((w_bipush (v := (nI 7)) dPb_make_90 rfl).trans (w_virt (vs := [.int (nI 7)]) (st' := []) (es := [.ref 0, .int (nI 7)]) dPb_make_92 rz10_104 rfl sh_0 rfl rfl rfl (Nat.le_of_ble_eq_true rfl) (Nat.le_of_ble_eq_true rfl) rfl))
theorem bPb_make_95 {E : mEn} {d : Nat} {σ : mSt} {Q : mPost} {a1 : Int32} {a2 : Int32} {a3 : Int32} {a4 : Int32} {a5 : Int32} {s0 : Int32} : WP E d mPb_make 95 [.ref 0, .int a1, .int a2, .int a3, .int a4, .int a5] [.int s0] σ Q = Q (some (.int s0)) σ := w_iret dPb_make_95 rfl
theorem bPb_make_96 {E : mEn} {d : Nat} {σ : mSt} {Q : mPost} {a1 : Int32} {a2 : Int32} {a3 : Int32} {a4 : Int32} {a5 : Int32} : WP E (d + 1) mPb_make 96 [.ref 0, .int a1, .int a2, .int a3, .int a4, .int a5] [] σ Q = WP E d mTw_isBaked 0 [.ref 10, .int a2] [] σ (fun r σ' => WP E (d + 1) mPb_make 104 [.ref 0, .int a1, .int a2, .int a3, .int a4, .int a5] (r.toList ++ []) σ' Q) := (w_aload_n dPb_make_96 rfl).trans ((w_getr (r := 10) dPb_make_97 rz10_26 sh_0 rfl).trans ((w_iload_n dPb_make_100 rfl).trans (w_virt (vs := [.int a2]) (st' := []) (es := [.ref 10, .int a2]) dPb_make_101 rz10_239 rfl sh_10 rfl rfl rfl (Nat.le_of_ble_eq_true rfl) (Nat.le_of_ble_eq_true rfl) rfl)))
theorem bPb_make_104 {E : mEn} {d : Nat} {σ : mSt} {Q : mPost} {a1 : Int32} {a2 : Int32} {a3 : Int32} {a4 : Int32} {a5 : Int32} {s0 : Int32} : WP E d mPb_make 104 [.ref 0, .int a1, .int a2, .int a3, .int a4, .int a5] [.int s0] σ Q = (if s0 = 0 then WP E d mPb_make 114 [.ref 0, .int a1, .int a2, .int a3, .int a4, .int a5] [] σ Q else WP E d mPb_make 107 [.ref 0, .int a1, .int a2, .int a3, .int a4, .int a5] [] σ Q) := w_ifeq (t := 114) dPb_make_104 (by decide)
theorem bPb_make_107 {E : mEn} {d : Nat} {σ : mSt} {Q : mPost} {a1 : Int32} {a2 : Int32} {a3 : Int32} {a4 : Int32} {a5 : Int32} : WP E (d + 1) mPb_make 107 [.ref 0, .int a1, .int a2, .int a3, .int a4, .int a5] [] σ Q = WP E d mPb_refuse 0 [.ref 0, .int (nI 9)] [] σ (fun r σ' => WP E (d + 1) mPb_make 113 [.ref 0, .int a1, .int a2, .int a3, .int a4, .int a5] (r.toList ++ []) σ' Q) := (w_aload_n dPb_make_107 rfl).trans ((w_bipush (v := (nI 9)) dPb_make_108 rfl).trans (w_virt (vs := [.int (nI 9)]) (st' := []) (es := [.ref 0, .int (nI 9)]) dPb_make_110 rz10_104 rfl sh_0 rfl rfl rfl (Nat.le_of_ble_eq_true rfl) (Nat.le_of_ble_eq_true rfl) rfl))
theorem bPb_make_113 {E : mEn} {d : Nat} {σ : mSt} {Q : mPost} {a1 : Int32} {a2 : Int32} {a3 : Int32} {a4 : Int32} {a5 : Int32} {s0 : Int32} : WP E d mPb_make 113 [.ref 0, .int a1, .int a2, .int a3, .int a4, .int a5] [.int s0] σ Q = Q (some (.int s0)) σ := w_iret dPb_make_113 rfl
theorem bPb_make_114 {E : mEn} {d : Nat} {σ : mSt} {Q : mPost} {a1 : Int32} {a2 : Int32} {a3 : Int32} {a4 : Int32} {a5 : Int32} : WP E (d + 1) mPb_make 114 [.ref 0, .int a1, .int a2, .int a3, .int a4, .int a5] [] σ Q = WP E d mTw_handOn 0 [.ref 10, .int a1, .int a2, .int a3, .int a4, .int a5, uu] [] σ (fun r σ' => WP E (d + 1) mPb_make 129 [.ref 0, .int a1, .int a2, .int a3, .int a4, .int a5] (r.toList ++ [.ref 0]) σ' Q) := (w_aload_n dPb_make_114 rfl).trans ((w_aload_n dPb_make_115 rfl).trans ((w_getr (r := 10) dPb_make_116 rz10_26 sh_0 rfl).trans ((w_iload_n dPb_make_119 rfl).trans ((w_iload_n dPb_make_120 rfl).trans ((w_iload_n dPb_make_121 rfl).trans ((w_iload dPb_make_122 rfl).trans ((w_iload dPb_make_124 rfl).trans (w_virt (vs := [.int a1, .int a2, .int a3, .int a4, .int a5]) (st' := [.ref 0]) (es := [.ref 10, .int a1, .int a2, .int a3, .int a4, .int a5, uu]) dPb_make_126 rz10_378 rfl sh_10 rfl rfl rfl (Nat.le_of_ble_eq_true rfl) (Nat.le_of_ble_eq_true rfl) rfl))))))))
theorem bPb_make_129 {E : mEn} {d : Nat} {σ : mSt} {Q : mPost} {a1 : Int32} {a2 : Int32} {a3 : Int32} {a4 : Int32} {a5 : Int32} {s0 : Int32} : WP E (d + 1) mPb_make 129 [.ref 0, .int a1, .int a2, .int a3, .int a4, .int a5] [.int s0, .ref 0] σ Q = WP E d mPb_answer 0 [.ref 0, .int s0] [] σ (fun r σ' => WP E (d + 1) mPb_make 132 [.ref 0, .int a1, .int a2, .int a3, .int a4, .int a5] (r.toList ++ []) σ' Q) := w_virt (vs := [.int s0]) (st' := []) (es := [.ref 0, .int s0]) dPb_make_129 rz10_157 rfl sh_0 rfl rfl rfl (Nat.le_of_ble_eq_true rfl) (Nat.le_of_ble_eq_true rfl) rfl
theorem bPb_make_132 {E : mEn} {d : Nat} {σ : mSt} {Q : mPost} {a1 : Int32} {a2 : Int32} {a3 : Int32} {a4 : Int32} {a5 : Int32} {s0 : Int32} : WP E d mPb_make 132 [.ref 0, .int a1, .int a2, .int a3, .int a4, .int a5] [.int s0] σ Q = Q (some (.int s0)) σ := w_iret dPb_make_132 rfl
theorem dPb_letGo_0 : decode (mC mPb_letGo) 0 = .ok (.aload_n 0, 1) := by decide +kernel
theorem dPb_letGo_1 : decode (mC mPb_letGo) 1 = .ok (.getfield 26, 3) := by decide +kernel
theorem dPb_letGo_4 : decode (mC mPb_letGo) 4 = .ok (.getfield 187, 3) := by decide +kernel
theorem dPb_letGo_7 : decode (mC mPb_letGo) 7 = .ok (.iload_n 1, 1) := by decide +kernel
theorem dPb_letGo_8 : decode (mC mPb_letGo) 8 = .ok (.invokevirtual 245, 3) := by decide +kernel
theorem dPb_letGo_11 : decode (mC mPb_letGo) 11 = .ok (.ifCond .ne (9), 3) := by decide +kernel
theorem dPb_letGo_14 : decode (mC mPb_letGo) 14 = .ok (.aload_n 0, 1) := by decide +kernel
theorem dPb_letGo_15 : decode (mC mPb_letGo) 15 = .ok (.iconst (2), 1) := by decide +kernel
theorem dPb_letGo_16 : decode (mC mPb_letGo) 16 = .ok (.invokevirtual 85, 3) := by decide +kernel
theorem dPb_letGo_19 : decode (mC mPb_letGo) 19 = .ok (.ireturn, 1) := by decide +kernel
theorem dPb_letGo_20 : decode (mC mPb_letGo) 20 = .ok (.aload_n 0, 1) := by decide +kernel
theorem dPb_letGo_21 : decode (mC mPb_letGo) 21 = .ok (.getfield 26, 3) := by decide +kernel
theorem dPb_letGo_24 : decode (mC mPb_letGo) 24 = .ok (.iload_n 1, 1) := by decide +kernel
theorem dPb_letGo_25 : decode (mC mPb_letGo) 25 = .ok (.invokevirtual 382, 3) := by decide +kernel
theorem dPb_letGo_28 : decode (mC mPb_letGo) 28 = .ok (.ifCond .eq (10), 3) := by decide +kernel
theorem dPb_letGo_31 : decode (mC mPb_letGo) 31 = .ok (.aload_n 0, 1) := by decide +kernel
theorem dPb_letGo_32 : decode (mC mPb_letGo) 32 = .ok (.invokevirtual 92, 3) := by decide +kernel
theorem dPb_letGo_35 : decode (mC mPb_letGo) 35 = .ok (.goto (9), 3) := by decide +kernel
theorem dPb_letGo_38 : decode (mC mPb_letGo) 38 = .ok (.aload_n 0, 1) := by decide +kernel
theorem dPb_letGo_39 : decode (mC mPb_letGo) 39 = .ok (.bipush (9), 2) := by decide +kernel
theorem dPb_letGo_41 : decode (mC mPb_letGo) 41 = .ok (.invokevirtual 85, 3) := by decide +kernel
theorem dPb_letGo_44 : decode (mC mPb_letGo) 44 = .ok (.ireturn, 1) := by decide +kernel
theorem bPb_letGo_0 {E : mEn} {d : Nat} {σ : mSt} {Q : mPost} {a1 : Int32} : WP E (d + 1) mPb_letGo 0 [.ref 0, .int a1] [] σ Q = WP E d mPr_has 0 [.ref 13, .int a1] [] σ (fun r σ' => WP E (d + 1) mPb_letGo 11 [.ref 0, .int a1] (r.toList ++ []) σ' Q) := (w_aload_n dPb_letGo_0 rfl).trans ((w_getr (r := 10) dPb_letGo_1 rz10_26 sh_0 rfl).trans ((w_getr (r := 13) dPb_letGo_4 rz10_187 sh_10 rfl).trans ((w_iload_n dPb_letGo_7 rfl).trans (w_virt (vs := [.int a1]) (st' := []) (es := [.ref 13, .int a1]) dPb_letGo_8 rz10_245 rfl sh_13 rfl rfl rfl (Nat.le_of_ble_eq_true rfl) (Nat.le_of_ble_eq_true rfl) rfl))))
theorem bPb_letGo_11 {E : mEn} {d : Nat} {σ : mSt} {Q : mPost} {a1 : Int32} {s0 : Int32} : WP E d mPb_letGo 11 [.ref 0, .int a1] [.int s0] σ Q = (if ¬ s0 = 0 then WP E d mPb_letGo 20 [.ref 0, .int a1] [] σ Q else WP E d mPb_letGo 14 [.ref 0, .int a1] [] σ Q) := w_ifne (t := 20) dPb_letGo_11 (by decide)
theorem bPb_letGo_14 {E : mEn} {d : Nat} {σ : mSt} {Q : mPost} {a1 : Int32} : WP E (d + 1) mPb_letGo 14 [.ref 0, .int a1] [] σ Q = WP E d mPb_deny 0 [.ref 0, .int (nI 2)] [] σ (fun r σ' => WP E (d + 1) mPb_letGo 19 [.ref 0, .int a1] (r.toList ++ []) σ' Q) := (w_aload_n dPb_letGo_14 rfl).trans ((w_iconst (v := (nI 2)) dPb_letGo_15 rfl).trans (w_virt (vs := [.int (nI 2)]) (st' := []) (es := [.ref 0, .int (nI 2)]) dPb_letGo_16 rz10_85 rfl sh_0 rfl rfl rfl (Nat.le_of_ble_eq_true rfl) (Nat.le_of_ble_eq_true rfl) rfl))
theorem bPb_letGo_19 {E : mEn} {d : Nat} {σ : mSt} {Q : mPost} {a1 : Int32} {s0 : Int32} (hz0 : s0 = 0 ∨ s0 = 1) : WP E d mPb_letGo 19 [.ref 0, .int a1] [.int s0] σ Q = Q (some (.int s0)) σ := w_zret dPb_letGo_19 rfl hz0
theorem bPb_letGo_20 {E : mEn} {d : Nat} {σ : mSt} {Q : mPost} {a1 : Int32} : WP E (d + 1) mPb_letGo 20 [.ref 0, .int a1] [] σ Q = WP E d mTw_release 0 [.ref 10, .int a1] [] σ (fun r σ' => WP E (d + 1) mPb_letGo 28 [.ref 0, .int a1] (r.toList ++ []) σ' Q) := (w_aload_n dPb_letGo_20 rfl).trans ((w_getr (r := 10) dPb_letGo_21 rz10_26 sh_0 rfl).trans ((w_iload_n dPb_letGo_24 rfl).trans (w_virt (vs := [.int a1]) (st' := []) (es := [.ref 10, .int a1]) dPb_letGo_25 rz10_382 rfl sh_10 rfl rfl rfl (Nat.le_of_ble_eq_true rfl) (Nat.le_of_ble_eq_true rfl) rfl)))
theorem bPb_letGo_28 {E : mEn} {d : Nat} {σ : mSt} {Q : mPost} {a1 : Int32} {s0 : Int32} : WP E d mPb_letGo 28 [.ref 0, .int a1] [.int s0] σ Q = (if s0 = 0 then WP E d mPb_letGo 38 [.ref 0, .int a1] [] σ Q else WP E d mPb_letGo 31 [.ref 0, .int a1] [] σ Q) := w_ifeq (t := 38) dPb_letGo_28 (by decide)
theorem bPb_letGo_31 {E : mEn} {d : Nat} {σ : mSt} {Q : mPost} {a1 : Int32} : WP E (d + 1) mPb_letGo 31 [.ref 0, .int a1] [] σ Q = WP E d mPb_grant 0 [.ref 0] [] σ (fun r σ' => WP E (d + 1) mPb_letGo 35 [.ref 0, .int a1] (r.toList ++ []) σ' Q) := (w_aload_n dPb_letGo_31 rfl).trans (w_virt (vs := []) (st' := []) (es := [.ref 0]) dPb_letGo_32 rz10_92 rfl sh_0 rfl rfl rfl (Nat.le_of_ble_eq_true rfl) (Nat.le_of_ble_eq_true rfl) rfl)
theorem bPb_letGo_35 {E : mEn} {d : Nat} {σ : mSt} {Q : mPost} {a1 : Int32} {s0 : Int32} : WP E d mPb_letGo 35 [.ref 0, .int a1] [.int s0] σ Q = WP E d mPb_letGo 44 [.ref 0, .int a1] [.int s0] σ Q := w_goto (t := 44) dPb_letGo_35 (by decide)
theorem bPb_letGo_38 {E : mEn} {d : Nat} {σ : mSt} {Q : mPost} {a1 : Int32} : WP E (d + 1) mPb_letGo 38 [.ref 0, .int a1] [] σ Q = WP E d mPb_deny 0 [.ref 0, .int (nI 9)] [] σ (fun r σ' => WP E (d + 1) mPb_letGo 44 [.ref 0, .int a1] (r.toList ++ []) σ' Q) := (w_aload_n dPb_letGo_38 rfl).trans ((w_bipush (v := (nI 9)) dPb_letGo_39 rfl).trans (w_virt (vs := [.int (nI 9)]) (st' := []) (es := [.ref 0, .int (nI 9)]) dPb_letGo_41 rz10_85 rfl sh_0 rfl rfl rfl (Nat.le_of_ble_eq_true rfl) (Nat.le_of_ble_eq_true rfl) rfl))
theorem bPb_letGo_44 {E : mEn} {d : Nat} {σ : mSt} {Q : mPost} {a1 : Int32} {s0 : Int32} (hz0 : s0 = 0 ∨ s0 = 1) : WP E d mPb_letGo 44 [.ref 0, .int a1] [.int s0] σ Q = Q (some (.int s0)) σ := w_zret dPb_letGo_44 rfl hz0
theorem dPb_bake_0 : decode (mC mPb_bake) 0 = .ok (.aload_n 0, 1) := by decide +kernel
theorem dPb_bake_1 : decode (mC mPb_bake) 1 = .ok (.getfield 26, 3) := by decide +kernel
theorem dPb_bake_4 : decode (mC mPb_bake) 4 = .ok (.iload_n 1, 1) := by decide +kernel
theorem dPb_bake_5 : decode (mC mPb_bake) 5 = .ok (.invokevirtual 218, 3) := by decide +kernel
theorem dPb_bake_8 : decode (mC mPb_bake) 8 = .ok (.ifCond .ne (9), 3) := by decide +kernel
theorem dPb_bake_11 : decode (mC mPb_bake) 11 = .ok (.aload_n 0, 1) := by decide +kernel
theorem dPb_bake_12 : decode (mC mPb_bake) 12 = .ok (.iconst (2), 1) := by decide +kernel
theorem dPb_bake_13 : decode (mC mPb_bake) 13 = .ok (.invokevirtual 104, 3) := by decide +kernel
theorem dPb_bake_16 : decode (mC mPb_bake) 16 = .ok (.ireturn, 1) := by decide +kernel
theorem dPb_bake_17 : decode (mC mPb_bake) 17 = .ok (.aload_n 0, 1) := by decide +kernel
theorem dPb_bake_18 : decode (mC mPb_bake) 18 = .ok (.getfield 26, 3) := by decide +kernel
theorem dPb_bake_21 : decode (mC mPb_bake) 21 = .ok (.iload_n 1, 1) := by decide +kernel
theorem dPb_bake_22 : decode (mC mPb_bake) 22 = .ok (.invokevirtual 385, 3) := by decide +kernel
theorem dPb_bake_25 : decode (mC mPb_bake) 25 = .ok (.ifCond .ne (10), 3) := by decide +kernel
theorem dPb_bake_28 : decode (mC mPb_bake) 28 = .ok (.aload_n 0, 1) := by decide +kernel
theorem dPb_bake_29 : decode (mC mPb_bake) 29 = .ok (.bipush (9), 2) := by decide +kernel
theorem dPb_bake_31 : decode (mC mPb_bake) 31 = .ok (.invokevirtual 104, 3) := by decide +kernel
theorem dPb_bake_34 : decode (mC mPb_bake) 34 = .ok (.ireturn, 1) := by decide +kernel
theorem dPb_bake_35 : decode (mC mPb_bake) 35 = .ok (.aload_n 0, 1) := by decide +kernel
theorem dPb_bake_36 : decode (mC mPb_bake) 36 = .ok (.getfield 40, 3) := by decide +kernel
theorem dPb_bake_39 : decode (mC mPb_bake) 39 = .ok (.aload_n 0, 1) := by decide +kernel
theorem dPb_bake_40 : decode (mC mPb_bake) 40 = .ok (.getfield 26, 3) := by decide +kernel
theorem dPb_bake_43 : decode (mC mPb_bake) 43 = .ok (.iload_n 1, 1) := by decide +kernel
theorem dPb_bake_44 : decode (mC mPb_bake) 44 = .ok (.aload_n 0, 1) := by decide +kernel
theorem dPb_bake_45 : decode (mC mPb_bake) 45 = .ok (.getfield 26, 3) := by decide +kernel
theorem dPb_bake_48 : decode (mC mPb_bake) 48 = .ok (.iload_n 1, 1) := by decide +kernel
theorem dPb_bake_49 : decode (mC mPb_bake) 49 = .ok (.invokevirtual 388, 3) := by decide +kernel
theorem dPb_bake_52 : decode (mC mPb_bake) 52 = .ok (.invokevirtual 307, 3) := by decide +kernel
theorem dPb_bake_55 : decode (mC mPb_bake) 55 = .ok (.aload_n 0, 1) := by decide +kernel
theorem dPb_bake_56 : decode (mC mPb_bake) 56 = .ok (.aload_n 0, 1) := by decide +kernel
theorem dPb_bake_57 : decode (mC mPb_bake) 57 = .ok (.getfield 26, 3) := by decide +kernel
theorem dPb_bake_60 : decode (mC mPb_bake) 60 = .ok (.iload_n 1, 1) := by decide +kernel
theorem dPb_bake_61 : decode (mC mPb_bake) 61 = .ok (.aload_n 0, 1) := by decide +kernel
theorem dPb_bake_62 : decode (mC mPb_bake) 62 = .ok (.getfield 40, 3) := by decide +kernel
theorem dPb_bake_65 : decode (mC mPb_bake) 65 = .ok (.invokevirtual 391, 3) := by decide +kernel
theorem dPb_bake_68 : decode (mC mPb_bake) 68 = .ok (.invokevirtual 157, 3) := by decide +kernel
theorem dPb_bake_71 : decode (mC mPb_bake) 71 = .ok (.ireturn, 1) := by decide +kernel
theorem bPb_bake_0 {E : mEn} {d : Nat} {σ : mSt} {Q : mPost} {a1 : Int32} : WP E (d + 1) mPb_bake 0 [.ref 0, .int a1] [] σ Q = WP E d mTw_hasLoaf 0 [.ref 10, .int a1] [] σ (fun r σ' => WP E (d + 1) mPb_bake 8 [.ref 0, .int a1] (r.toList ++ []) σ' Q) := (w_aload_n dPb_bake_0 rfl).trans ((w_getr (r := 10) dPb_bake_1 rz10_26 sh_0 rfl).trans ((w_iload_n dPb_bake_4 rfl).trans (w_virt (vs := [.int a1]) (st' := []) (es := [.ref 10, .int a1]) dPb_bake_5 rz10_218 rfl sh_10 rfl rfl rfl (Nat.le_of_ble_eq_true rfl) (Nat.le_of_ble_eq_true rfl) rfl)))
theorem bPb_bake_8 {E : mEn} {d : Nat} {σ : mSt} {Q : mPost} {a1 : Int32} {s0 : Int32} : WP E d mPb_bake 8 [.ref 0, .int a1] [.int s0] σ Q = (if ¬ s0 = 0 then WP E d mPb_bake 17 [.ref 0, .int a1] [] σ Q else WP E d mPb_bake 11 [.ref 0, .int a1] [] σ Q) := w_ifne (t := 17) dPb_bake_8 (by decide)
theorem bPb_bake_11 {E : mEn} {d : Nat} {σ : mSt} {Q : mPost} {a1 : Int32} : WP E (d + 1) mPb_bake 11 [.ref 0, .int a1] [] σ Q = WP E d mPb_refuse 0 [.ref 0, .int (nI 2)] [] σ (fun r σ' => WP E (d + 1) mPb_bake 16 [.ref 0, .int a1] (r.toList ++ []) σ' Q) := (w_aload_n dPb_bake_11 rfl).trans ((w_iconst (v := (nI 2)) dPb_bake_12 rfl).trans (w_virt (vs := [.int (nI 2)]) (st' := []) (es := [.ref 0, .int (nI 2)]) dPb_bake_13 rz10_104 rfl sh_0 rfl rfl rfl (Nat.le_of_ble_eq_true rfl) (Nat.le_of_ble_eq_true rfl) rfl))
theorem bPb_bake_16 {E : mEn} {d : Nat} {σ : mSt} {Q : mPost} {a1 : Int32} {s0 : Int32} : WP E d mPb_bake 16 [.ref 0, .int a1] [.int s0] σ Q = Q (some (.int s0)) σ := w_iret dPb_bake_16 rfl
theorem bPb_bake_17 {E : mEn} {d : Nat} {σ : mSt} {Q : mPost} {a1 : Int32} : WP E (d + 1) mPb_bake 17 [.ref 0, .int a1] [] σ Q = WP E d mTw_canBake 0 [.ref 10, .int a1] [] σ (fun r σ' => WP E (d + 1) mPb_bake 25 [.ref 0, .int a1] (r.toList ++ []) σ' Q) := (w_aload_n dPb_bake_17 rfl).trans ((w_getr (r := 10) dPb_bake_18 rz10_26 sh_0 rfl).trans ((w_iload_n dPb_bake_21 rfl).trans (w_virt (vs := [.int a1]) (st' := []) (es := [.ref 10, .int a1]) dPb_bake_22 rz10_385 rfl sh_10 rfl rfl rfl (Nat.le_of_ble_eq_true rfl) (Nat.le_of_ble_eq_true rfl) rfl)))
theorem bPb_bake_25 {E : mEn} {d : Nat} {σ : mSt} {Q : mPost} {a1 : Int32} {s0 : Int32} : WP E d mPb_bake 25 [.ref 0, .int a1] [.int s0] σ Q = (if ¬ s0 = 0 then WP E d mPb_bake 35 [.ref 0, .int a1] [] σ Q else WP E d mPb_bake 28 [.ref 0, .int a1] [] σ Q) := w_ifne (t := 35) dPb_bake_25 (by decide)
theorem bPb_bake_28 {E : mEn} {d : Nat} {σ : mSt} {Q : mPost} {a1 : Int32} : WP E (d + 1) mPb_bake 28 [.ref 0, .int a1] [] σ Q = WP E d mPb_refuse 0 [.ref 0, .int (nI 9)] [] σ (fun r σ' => WP E (d + 1) mPb_bake 34 [.ref 0, .int a1] (r.toList ++ []) σ' Q) := (w_aload_n dPb_bake_28 rfl).trans ((w_bipush (v := (nI 9)) dPb_bake_29 rfl).trans (w_virt (vs := [.int (nI 9)]) (st' := []) (es := [.ref 0, .int (nI 9)]) dPb_bake_31 rz10_104 rfl sh_0 rfl rfl rfl (Nat.le_of_ble_eq_true rfl) (Nat.le_of_ble_eq_true rfl) rfl))
theorem bPb_bake_34 {E : mEn} {d : Nat} {σ : mSt} {Q : mPost} {a1 : Int32} {s0 : Int32} : WP E d mPb_bake 34 [.ref 0, .int a1] [.int s0] σ Q = Q (some (.int s0)) σ := w_iret dPb_bake_34 rfl
theorem bPb_bake_35 {E : mEn} {d : Nat} {σ : mSt} {Q : mPost} {a1 : Int32} : WP E (d + 1) mPb_bake 35 [.ref 0, .int a1] [] σ Q = WP E d mTw_rainsOn 0 [.ref 10, .int a1] [] σ (fun r σ' => WP E (d + 1) mPb_bake 52 [.ref 0, .int a1] (r.toList ++ [.int a1, .ref 10, .ref 61]) σ' Q) := (w_aload_n dPb_bake_35 rfl).trans ((w_getr (r := 61) dPb_bake_36 rz10_40 sh_0 rfl).trans ((w_aload_n dPb_bake_39 rfl).trans ((w_getr (r := 10) dPb_bake_40 rz10_26 sh_0 rfl).trans ((w_iload_n dPb_bake_43 rfl).trans ((w_aload_n dPb_bake_44 rfl).trans ((w_getr (r := 10) dPb_bake_45 rz10_26 sh_0 rfl).trans ((w_iload_n dPb_bake_48 rfl).trans (w_virt (vs := [.int a1]) (st' := [.int a1, .ref 10, .ref 61]) (es := [.ref 10, .int a1]) dPb_bake_49 rz10_388 rfl sh_10 rfl rfl rfl (Nat.le_of_ble_eq_true rfl) (Nat.le_of_ble_eq_true rfl) rfl))))))))
theorem bPb_bake_52 {E : mEn} {d : Nat} {σ : mSt} {Q : mPost} {a1 : Int32} {s0 : Int32} {s1 : Int32} : WP E (d + 1) mPb_bake 52 [.ref 0, .int a1] [.int s0, .int s1, .ref 10, .ref 61] σ Q = WP E d mSh_settle 0 [.ref 61, .ref 10, .int s1, .int s0, uu, uu, uu] [] σ (fun r σ' => WP E (d + 1) mPb_bake 55 [.ref 0, .int a1] (r.toList ++ []) σ' Q) := w_virt (vs := [.ref 10, .int s1, .int s0]) (st' := []) (es := [.ref 61, .ref 10, .int s1, .int s0, uu, uu, uu]) dPb_bake_52 rz10_307 rfl sh_61 rfl rfl rfl (Nat.le_of_ble_eq_true rfl) (Nat.le_of_ble_eq_true rfl) rfl
theorem bPb_bake_55 {E : mEn} {d : Nat} {σ : mSt} {Q : mPost} {a1 : Int32} : WP E (d + 1) mPb_bake 55 [.ref 0, .int a1] [] σ Q = WP E d mTw_bringOut 0 [.ref 10, .int a1, .ref 61, uu] [] σ (fun r σ' => WP E (d + 1) mPb_bake 68 [.ref 0, .int a1] (r.toList ++ [.ref 0]) σ' Q) := (w_aload_n dPb_bake_55 rfl).trans ((w_aload_n dPb_bake_56 rfl).trans ((w_getr (r := 10) dPb_bake_57 rz10_26 sh_0 rfl).trans ((w_iload_n dPb_bake_60 rfl).trans ((w_aload_n dPb_bake_61 rfl).trans ((w_getr (r := 61) dPb_bake_62 rz10_40 sh_0 rfl).trans (w_virt (vs := [.int a1, .ref 61]) (st' := [.ref 0]) (es := [.ref 10, .int a1, .ref 61, uu]) dPb_bake_65 rz10_391 rfl sh_10 rfl rfl rfl (Nat.le_of_ble_eq_true rfl) (Nat.le_of_ble_eq_true rfl) rfl))))))
theorem bPb_bake_68 {E : mEn} {d : Nat} {σ : mSt} {Q : mPost} {a1 : Int32} {s0 : Int32} : WP E (d + 1) mPb_bake 68 [.ref 0, .int a1] [.int s0, .ref 0] σ Q = WP E d mPb_answer 0 [.ref 0, .int s0] [] σ (fun r σ' => WP E (d + 1) mPb_bake 71 [.ref 0, .int a1] (r.toList ++ []) σ' Q) := w_virt (vs := [.int s0]) (st' := []) (es := [.ref 0, .int s0]) dPb_bake_68 rz10_157 rfl sh_0 rfl rfl rfl (Nat.le_of_ble_eq_true rfl) (Nat.le_of_ble_eq_true rfl) rfl
theorem bPb_bake_71 {E : mEn} {d : Nat} {σ : mSt} {Q : mPost} {a1 : Int32} {s0 : Int32} : WP E d mPb_bake 71 [.ref 0, .int a1] [.int s0] σ Q = Q (some (.int s0)) σ := w_iret dPb_bake_71 rfl
theorem dPb_pass_0 : decode (mC mPb_pass) 0 = .ok (.iload_n 1, 1) := by decide +kernel
theorem dPb_pass_1 : decode (mC mPb_pass) 1 = .ok (.iconst (1), 1) := by decide +kernel
theorem dPb_pass_2 : decode (mC mPb_pass) 2 = .ok (.if_icmp .lt (9), 3) := by decide +kernel
theorem dPb_pass_5 : decode (mC mPb_pass) 5 = .ok (.iload_n 1, 1) := by decide +kernel
theorem dPb_pass_6 : decode (mC mPb_pass) 6 = .ok (.bipush (9), 2) := by decide +kernel
theorem dPb_pass_8 : decode (mC mPb_pass) 8 = .ok (.if_icmp .le (9), 3) := by decide +kernel
theorem dPb_pass_11 : decode (mC mPb_pass) 11 = .ok (.aload_n 0, 1) := by decide +kernel
theorem dPb_pass_12 : decode (mC mPb_pass) 12 = .ok (.iconst (5), 1) := by decide +kernel
theorem dPb_pass_13 : decode (mC mPb_pass) 13 = .ok (.invokevirtual 104, 3) := by decide +kernel
theorem dPb_pass_16 : decode (mC mPb_pass) 16 = .ok (.ireturn, 1) := by decide +kernel
theorem dPb_pass_17 : decode (mC mPb_pass) 17 = .ok (.aload_n 0, 1) := by decide +kernel
theorem dPb_pass_18 : decode (mC mPb_pass) 18 = .ok (.getfield 26, 3) := by decide +kernel
theorem dPb_pass_21 : decode (mC mPb_pass) 21 = .ok (.getfield 196, 3) := by decide +kernel
theorem dPb_pass_24 : decode (mC mPb_pass) 24 = .ok (.iload_n 1, 1) := by decide +kernel
theorem dPb_pass_25 : decode (mC mPb_pass) 25 = .ok (.iadd, 1) := by decide +kernel
theorem dPb_pass_26 : decode (mC mPb_pass) 26 = .ok (.bipush (99), 2) := by decide +kernel
theorem dPb_pass_28 : decode (mC mPb_pass) 28 = .ok (.if_icmp .le (10), 3) := by decide +kernel
theorem dPb_pass_31 : decode (mC mPb_pass) 31 = .ok (.aload_n 0, 1) := by decide +kernel
theorem dPb_pass_32 : decode (mC mPb_pass) 32 = .ok (.bipush (7), 2) := by decide +kernel
theorem dPb_pass_34 : decode (mC mPb_pass) 34 = .ok (.invokevirtual 104, 3) := by decide +kernel
theorem dPb_pass_37 : decode (mC mPb_pass) 37 = .ok (.ireturn, 1) := by decide +kernel
theorem dPb_pass_38 : decode (mC mPb_pass) 38 = .ok (.aload_n 0, 1) := by decide +kernel
theorem dPb_pass_39 : decode (mC mPb_pass) 39 = .ok (.getfield 26, 3) := by decide +kernel
theorem dPb_pass_42 : decode (mC mPb_pass) 42 = .ok (.dup, 1) := by decide +kernel
theorem dPb_pass_43 : decode (mC mPb_pass) 43 = .ok (.getfield 196, 3) := by decide +kernel
theorem dPb_pass_46 : decode (mC mPb_pass) 46 = .ok (.iload_n 1, 1) := by decide +kernel
theorem dPb_pass_47 : decode (mC mPb_pass) 47 = .ok (.iadd, 1) := by decide +kernel
theorem dPb_pass_48 : decode (mC mPb_pass) 48 = .ok (.putfield 196, 3) := by decide +kernel
theorem dPb_pass_51 : decode (mC mPb_pass) 51 = .ok (.aload_n 0, 1) := by decide +kernel
theorem dPb_pass_52 : decode (mC mPb_pass) 52 = .ok (.getfield 26, 3) := by decide +kernel
theorem dPb_pass_55 : decode (mC mPb_pass) 55 = .ok (.iconst (0), 1) := by decide +kernel
theorem dPb_pass_56 : decode (mC mPb_pass) 56 = .ok (.putfield 202, 3) := by decide +kernel
theorem dPb_pass_59 : decode (mC mPb_pass) 59 = .ok (.aload_n 0, 1) := by decide +kernel
theorem dPb_pass_60 : decode (mC mPb_pass) 60 = .ok (.aload_n 0, 1) := by decide +kernel
theorem dPb_pass_61 : decode (mC mPb_pass) 61 = .ok (.getfield 26, 3) := by decide +kernel
theorem dPb_pass_64 : decode (mC mPb_pass) 64 = .ok (.getfield 196, 3) := by decide +kernel
theorem dPb_pass_67 : decode (mC mPb_pass) 67 = .ok (.invokevirtual 157, 3) := by decide +kernel
theorem dPb_pass_70 : decode (mC mPb_pass) 70 = .ok (.ireturn, 1) := by decide +kernel
theorem bPb_pass_0 {E : mEn} {d : Nat} {σ : mSt} {Q : mPost} {a1 : Int32} : WP E d mPb_pass 0 [.ref 0, .int a1] [] σ Q = (if a1 < 1 then WP E d mPb_pass 11 [.ref 0, .int a1] [] σ Q else WP E d mPb_pass 5 [.ref 0, .int a1] [] σ Q) := (w_iload_n dPb_pass_0 rfl).trans ((w_iconst (v := 1) dPb_pass_1 rfl).trans (w_icmplt (t := 11) dPb_pass_2 (by decide)))
theorem bPb_pass_5 {E : mEn} {d : Nat} {σ : mSt} {Q : mPost} {a1 : Int32} : WP E d mPb_pass 5 [.ref 0, .int a1] [] σ Q = (if a1 ≤ (nI 9) then WP E d mPb_pass 17 [.ref 0, .int a1] [] σ Q else WP E d mPb_pass 11 [.ref 0, .int a1] [] σ Q) := (w_iload_n dPb_pass_5 rfl).trans ((w_bipush (v := (nI 9)) dPb_pass_6 rfl).trans (w_icmple (t := 17) dPb_pass_8 (by decide)))
theorem bPb_pass_11 {E : mEn} {d : Nat} {σ : mSt} {Q : mPost} {a1 : Int32} : WP E (d + 1) mPb_pass 11 [.ref 0, .int a1] [] σ Q = WP E d mPb_refuse 0 [.ref 0, .int (nI 5)] [] σ (fun r σ' => WP E (d + 1) mPb_pass 16 [.ref 0, .int a1] (r.toList ++ []) σ' Q) := (w_aload_n dPb_pass_11 rfl).trans ((w_iconst (v := (nI 5)) dPb_pass_12 rfl).trans (w_virt (vs := [.int (nI 5)]) (st' := []) (es := [.ref 0, .int (nI 5)]) dPb_pass_13 rz10_104 rfl sh_0 rfl rfl rfl (Nat.le_of_ble_eq_true rfl) (Nat.le_of_ble_eq_true rfl) rfl))
theorem bPb_pass_16 {E : mEn} {d : Nat} {σ : mSt} {Q : mPost} {a1 : Int32} {s0 : Int32} : WP E d mPb_pass 16 [.ref 0, .int a1] [.int s0] σ Q = Q (some (.int s0)) σ := w_iret dPb_pass_16 rfl
theorem bPb_pass_17 {E : mEn} {d : Nat} {σ : mSt} {Q : mPost} {a1 : Int32} : WP E d mPb_pass 17 [.ref 0, .int a1] [] σ Q = (if ((σ.1 10 16) + a1) ≤ (nI 99) then WP E d mPb_pass 38 [.ref 0, .int a1] [] σ Q else WP E d mPb_pass 31 [.ref 0, .int a1] [] σ Q) := (w_aload_n dPb_pass_17 rfl).trans ((w_getr (r := 10) dPb_pass_18 rz10_26 sh_0 rfl).trans ((w_geti dPb_pass_21 rz10_196 sh_10 rfl).trans ((w_iload_n dPb_pass_24 rfl).trans ((w_iadd dPb_pass_25).trans ((w_bipush (v := (nI 99)) dPb_pass_26 rfl).trans (w_icmple (t := 38) dPb_pass_28 (by decide)))))))
theorem bPb_pass_31 {E : mEn} {d : Nat} {σ : mSt} {Q : mPost} {a1 : Int32} : WP E (d + 1) mPb_pass 31 [.ref 0, .int a1] [] σ Q = WP E d mPb_refuse 0 [.ref 0, .int (nI 7)] [] σ (fun r σ' => WP E (d + 1) mPb_pass 37 [.ref 0, .int a1] (r.toList ++ []) σ' Q) := (w_aload_n dPb_pass_31 rfl).trans ((w_bipush (v := (nI 7)) dPb_pass_32 rfl).trans (w_virt (vs := [.int (nI 7)]) (st' := []) (es := [.ref 0, .int (nI 7)]) dPb_pass_34 rz10_104 rfl sh_0 rfl rfl rfl (Nat.le_of_ble_eq_true rfl) (Nat.le_of_ble_eq_true rfl) rfl))
theorem bPb_pass_37 {E : mEn} {d : Nat} {σ : mSt} {Q : mPost} {a1 : Int32} {s0 : Int32} : WP E d mPb_pass 37 [.ref 0, .int a1] [.int s0] σ Q = Q (some (.int s0)) σ := w_iret dPb_pass_37 rfl
theorem bPb_pass_38 {E : mEn} {d : Nat} {σ : mSt} {Q : mPost} {a1 : Int32} : WP E (d + 1) mPb_pass 38 [.ref 0, .int a1] [] σ Q = WP E d mPb_answer 0 [.ref 0, .int ((sI (sI σ 10 16 ((σ.1 10 16) + a1)) 10 18 0).1 10 16)] [] (sI (sI σ 10 16 ((σ.1 10 16) + a1)) 10 18 0) (fun r σ' => WP E (d + 1) mPb_pass 70 [.ref 0, .int a1] (r.toList ++ []) σ' Q) := (w_aload_n dPb_pass_38 rfl).trans ((w_getr (r := 10) dPb_pass_39 rz10_26 sh_0 rfl).trans ((w_dup dPb_pass_42 rfl).trans ((w_geti dPb_pass_43 rz10_196 sh_10 rfl).trans ((w_iload_n dPb_pass_46 rfl).trans ((w_iadd dPb_pass_47).trans ((w_puti dPb_pass_48 rz10_196 sh_10 rfl rfl rfl).trans ((w_aload_n dPb_pass_51 rfl).trans ((w_getr (r := 10) dPb_pass_52 rz10_26 sh_0 rfl).trans ((w_iconst (v := 0) dPb_pass_55 rfl).trans ((w_puti dPb_pass_56 rz10_202 sh_10 rfl rfl rfl).trans ((w_aload_n dPb_pass_59 rfl).trans ((w_aload_n dPb_pass_60 rfl).trans ((w_getr (r := 10) dPb_pass_61 rz10_26 sh_0 rfl).trans ((w_geti dPb_pass_64 rz10_196 sh_10 rfl).trans (w_virt (vs := [.int ((sI (sI σ 10 16 ((σ.1 10 16) + a1)) 10 18 0).1 10 16)]) (st' := []) (es := [.ref 0, .int ((sI (sI σ 10 16 ((σ.1 10 16) + a1)) 10 18 0).1 10 16)]) dPb_pass_67 rz10_157 rfl sh_0 rfl rfl rfl (Nat.le_of_ble_eq_true rfl) (Nat.le_of_ble_eq_true rfl) rfl)))))))))))))))
theorem bPb_pass_70 {E : mEn} {d : Nat} {σ : mSt} {Q : mPost} {a1 : Int32} {s0 : Int32} : WP E d mPb_pass 70 [.ref 0, .int a1] [.int s0] σ Q = Q (some (.int s0)) σ := w_iret dPb_pass_70 rfl
theorem dPb_eat_0 : decode (mC mPb_eat) 0 = .ok (.aload_n 0, 1) := by decide +kernel
theorem dPb_eat_1 : decode (mC mPb_eat) 1 = .ok (.getfield 26, 3) := by decide +kernel
theorem dPb_eat_4 : decode (mC mPb_eat) 4 = .ok (.iload_n 1, 1) := by decide +kernel
theorem dPb_eat_5 : decode (mC mPb_eat) 5 = .ok (.invokevirtual 205, 3) := by decide +kernel
theorem dPb_eat_8 : decode (mC mPb_eat) 8 = .ok (.ifCond .ne (9), 3) := by decide +kernel
theorem dPb_eat_11 : decode (mC mPb_eat) 11 = .ok (.aload_n 0, 1) := by decide +kernel
theorem dPb_eat_12 : decode (mC mPb_eat) 12 = .ok (.iconst (2), 1) := by decide +kernel
theorem dPb_eat_13 : decode (mC mPb_eat) 13 = .ok (.invokevirtual 104, 3) := by decide +kernel
theorem dPb_eat_16 : decode (mC mPb_eat) 16 = .ok (.ireturn, 1) := by decide +kernel
theorem dPb_eat_17 : decode (mC mPb_eat) 17 = .ok (.iload_n 2, 1) := by decide +kernel
theorem dPb_eat_18 : decode (mC mPb_eat) 18 = .ok (.iconst (1), 1) := by decide +kernel
theorem dPb_eat_19 : decode (mC mPb_eat) 19 = .ok (.if_icmp .lt (9), 3) := by decide +kernel
theorem dPb_eat_22 : decode (mC mPb_eat) 22 = .ok (.iload_n 2, 1) := by decide +kernel
theorem dPb_eat_23 : decode (mC mPb_eat) 23 = .ok (.bipush (99), 2) := by decide +kernel
theorem dPb_eat_25 : decode (mC mPb_eat) 25 = .ok (.if_icmp .le (9), 3) := by decide +kernel
theorem dPb_eat_28 : decode (mC mPb_eat) 28 = .ok (.aload_n 0, 1) := by decide +kernel
theorem dPb_eat_29 : decode (mC mPb_eat) 29 = .ok (.iconst (5), 1) := by decide +kernel
theorem dPb_eat_30 : decode (mC mPb_eat) 30 = .ok (.invokevirtual 104, 3) := by decide +kernel
theorem dPb_eat_33 : decode (mC mPb_eat) 33 = .ok (.ireturn, 1) := by decide +kernel
theorem dPb_eat_34 : decode (mC mPb_eat) 34 = .ok (.aload_n 0, 1) := by decide +kernel
theorem dPb_eat_35 : decode (mC mPb_eat) 35 = .ok (.aload_n 0, 1) := by decide +kernel
theorem dPb_eat_36 : decode (mC mPb_eat) 36 = .ok (.getfield 26, 3) := by decide +kernel
theorem dPb_eat_39 : decode (mC mPb_eat) 39 = .ok (.iload_n 1, 1) := by decide +kernel
theorem dPb_eat_40 : decode (mC mPb_eat) 40 = .ok (.iload_n 2, 1) := by decide +kernel
theorem dPb_eat_41 : decode (mC mPb_eat) 41 = .ok (.invokevirtual 395, 3) := by decide +kernel
theorem dPb_eat_44 : decode (mC mPb_eat) 44 = .ok (.invokevirtual 157, 3) := by decide +kernel
theorem dPb_eat_47 : decode (mC mPb_eat) 47 = .ok (.ireturn, 1) := by decide +kernel
theorem bPb_eat_0 {E : mEn} {d : Nat} {σ : mSt} {Q : mPost} {a1 : Int32} {a2 : Int32} : WP E (d + 1) mPb_eat 0 [.ref 0, .int a1, .int a2] [] σ Q = WP E d mTw_hasPerson 0 [.ref 10, .int a1] [] σ (fun r σ' => WP E (d + 1) mPb_eat 8 [.ref 0, .int a1, .int a2] (r.toList ++ []) σ' Q) := (w_aload_n dPb_eat_0 rfl).trans ((w_getr (r := 10) dPb_eat_1 rz10_26 sh_0 rfl).trans ((w_iload_n dPb_eat_4 rfl).trans (w_virt (vs := [.int a1]) (st' := []) (es := [.ref 10, .int a1]) dPb_eat_5 rz10_205 rfl sh_10 rfl rfl rfl (Nat.le_of_ble_eq_true rfl) (Nat.le_of_ble_eq_true rfl) rfl)))
theorem bPb_eat_8 {E : mEn} {d : Nat} {σ : mSt} {Q : mPost} {a1 : Int32} {a2 : Int32} {s0 : Int32} : WP E d mPb_eat 8 [.ref 0, .int a1, .int a2] [.int s0] σ Q = (if ¬ s0 = 0 then WP E d mPb_eat 17 [.ref 0, .int a1, .int a2] [] σ Q else WP E d mPb_eat 11 [.ref 0, .int a1, .int a2] [] σ Q) := w_ifne (t := 17) dPb_eat_8 (by decide)
theorem bPb_eat_11 {E : mEn} {d : Nat} {σ : mSt} {Q : mPost} {a1 : Int32} {a2 : Int32} : WP E (d + 1) mPb_eat 11 [.ref 0, .int a1, .int a2] [] σ Q = WP E d mPb_refuse 0 [.ref 0, .int (nI 2)] [] σ (fun r σ' => WP E (d + 1) mPb_eat 16 [.ref 0, .int a1, .int a2] (r.toList ++ []) σ' Q) := (w_aload_n dPb_eat_11 rfl).trans ((w_iconst (v := (nI 2)) dPb_eat_12 rfl).trans (w_virt (vs := [.int (nI 2)]) (st' := []) (es := [.ref 0, .int (nI 2)]) dPb_eat_13 rz10_104 rfl sh_0 rfl rfl rfl (Nat.le_of_ble_eq_true rfl) (Nat.le_of_ble_eq_true rfl) rfl))
theorem bPb_eat_16 {E : mEn} {d : Nat} {σ : mSt} {Q : mPost} {a1 : Int32} {a2 : Int32} {s0 : Int32} : WP E d mPb_eat 16 [.ref 0, .int a1, .int a2] [.int s0] σ Q = Q (some (.int s0)) σ := w_iret dPb_eat_16 rfl
theorem bPb_eat_17 {E : mEn} {d : Nat} {σ : mSt} {Q : mPost} {a1 : Int32} {a2 : Int32} : WP E d mPb_eat 17 [.ref 0, .int a1, .int a2] [] σ Q = (if a2 < 1 then WP E d mPb_eat 28 [.ref 0, .int a1, .int a2] [] σ Q else WP E d mPb_eat 22 [.ref 0, .int a1, .int a2] [] σ Q) := (w_iload_n dPb_eat_17 rfl).trans ((w_iconst (v := 1) dPb_eat_18 rfl).trans (w_icmplt (t := 28) dPb_eat_19 (by decide)))
theorem bPb_eat_22 {E : mEn} {d : Nat} {σ : mSt} {Q : mPost} {a1 : Int32} {a2 : Int32} : WP E d mPb_eat 22 [.ref 0, .int a1, .int a2] [] σ Q = (if a2 ≤ (nI 99) then WP E d mPb_eat 34 [.ref 0, .int a1, .int a2] [] σ Q else WP E d mPb_eat 28 [.ref 0, .int a1, .int a2] [] σ Q) := (w_iload_n dPb_eat_22 rfl).trans ((w_bipush (v := (nI 99)) dPb_eat_23 rfl).trans (w_icmple (t := 34) dPb_eat_25 (by decide)))
theorem bPb_eat_28 {E : mEn} {d : Nat} {σ : mSt} {Q : mPost} {a1 : Int32} {a2 : Int32} : WP E (d + 1) mPb_eat 28 [.ref 0, .int a1, .int a2] [] σ Q = WP E d mPb_refuse 0 [.ref 0, .int (nI 5)] [] σ (fun r σ' => WP E (d + 1) mPb_eat 33 [.ref 0, .int a1, .int a2] (r.toList ++ []) σ' Q) := (w_aload_n dPb_eat_28 rfl).trans ((w_iconst (v := (nI 5)) dPb_eat_29 rfl).trans (w_virt (vs := [.int (nI 5)]) (st' := []) (es := [.ref 0, .int (nI 5)]) dPb_eat_30 rz10_104 rfl sh_0 rfl rfl rfl (Nat.le_of_ble_eq_true rfl) (Nat.le_of_ble_eq_true rfl) rfl))
theorem bPb_eat_33 {E : mEn} {d : Nat} {σ : mSt} {Q : mPost} {a1 : Int32} {a2 : Int32} {s0 : Int32} : WP E d mPb_eat 33 [.ref 0, .int a1, .int a2] [.int s0] σ Q = Q (some (.int s0)) σ := w_iret dPb_eat_33 rfl
theorem bPb_eat_34 {E : mEn} {d : Nat} {σ : mSt} {Q : mPost} {a1 : Int32} {a2 : Int32} : WP E (d + 1) mPb_eat 34 [.ref 0, .int a1, .int a2] [] σ Q = WP E d mTw_feast 0 [.ref 10, .int a1, .int a2, uu] [] σ (fun r σ' => WP E (d + 1) mPb_eat 44 [.ref 0, .int a1, .int a2] (r.toList ++ [.ref 0]) σ' Q) := (w_aload_n dPb_eat_34 rfl).trans ((w_aload_n dPb_eat_35 rfl).trans ((w_getr (r := 10) dPb_eat_36 rz10_26 sh_0 rfl).trans ((w_iload_n dPb_eat_39 rfl).trans ((w_iload_n dPb_eat_40 rfl).trans (w_virt (vs := [.int a1, .int a2]) (st' := [.ref 0]) (es := [.ref 10, .int a1, .int a2, uu]) dPb_eat_41 rz10_395 rfl sh_10 rfl rfl rfl (Nat.le_of_ble_eq_true rfl) (Nat.le_of_ble_eq_true rfl) rfl)))))
theorem bPb_eat_44 {E : mEn} {d : Nat} {σ : mSt} {Q : mPost} {a1 : Int32} {a2 : Int32} {s0 : Int32} : WP E (d + 1) mPb_eat 44 [.ref 0, .int a1, .int a2] [.int s0, .ref 0] σ Q = WP E d mPb_answer 0 [.ref 0, .int s0] [] σ (fun r σ' => WP E (d + 1) mPb_eat 47 [.ref 0, .int a1, .int a2] (r.toList ++ []) σ' Q) := w_virt (vs := [.int s0]) (st' := []) (es := [.ref 0, .int s0]) dPb_eat_44 rz10_157 rfl sh_0 rfl rfl rfl (Nat.le_of_ble_eq_true rfl) (Nat.le_of_ble_eq_true rfl) rfl
theorem bPb_eat_47 {E : mEn} {d : Nat} {σ : mSt} {Q : mPost} {a1 : Int32} {a2 : Int32} {s0 : Int32} : WP E d mPb_eat 47 [.ref 0, .int a1, .int a2] [.int s0] σ Q = Q (some (.int s0)) σ := w_iret dPb_eat_47 rfl
theorem dPb_pay_0 : decode (mC mPb_pay) 0 = .ok (.aload_n 0, 1) := by decide +kernel
theorem dPb_pay_1 : decode (mC mPb_pay) 1 = .ok (.getfield 26, 3) := by decide +kernel
theorem dPb_pay_4 : decode (mC mPb_pay) 4 = .ok (.iload_n 1, 1) := by decide +kernel
theorem dPb_pay_5 : decode (mC mPb_pay) 5 = .ok (.invokevirtual 205, 3) := by decide +kernel
theorem dPb_pay_8 : decode (mC mPb_pay) 8 = .ok (.ifCond .eq (14), 3) := by decide +kernel
theorem dPb_pay_11 : decode (mC mPb_pay) 11 = .ok (.aload_n 0, 1) := by decide +kernel
theorem dPb_pay_12 : decode (mC mPb_pay) 12 = .ok (.getfield 26, 3) := by decide +kernel
theorem dPb_pay_15 : decode (mC mPb_pay) 15 = .ok (.iload_n 2, 1) := by decide +kernel
theorem dPb_pay_16 : decode (mC mPb_pay) 16 = .ok (.invokevirtual 205, 3) := by decide +kernel
theorem dPb_pay_19 : decode (mC mPb_pay) 19 = .ok (.ifCond .ne (9), 3) := by decide +kernel
theorem dPb_pay_22 : decode (mC mPb_pay) 22 = .ok (.aload_n 0, 1) := by decide +kernel
theorem dPb_pay_23 : decode (mC mPb_pay) 23 = .ok (.iconst (2), 1) := by decide +kernel
theorem dPb_pay_24 : decode (mC mPb_pay) 24 = .ok (.invokevirtual 85, 3) := by decide +kernel
theorem dPb_pay_27 : decode (mC mPb_pay) 27 = .ok (.ireturn, 1) := by decide +kernel
theorem dPb_pay_28 : decode (mC mPb_pay) 28 = .ok (.iload_n 3, 1) := by decide +kernel
theorem dPb_pay_29 : decode (mC mPb_pay) 29 = .ok (.iconst (1), 1) := by decide +kernel
theorem dPb_pay_30 : decode (mC mPb_pay) 30 = .ok (.if_icmp .lt (15), 3) := by decide +kernel
theorem dPb_pay_33 : decode (mC mPb_pay) 33 = .ok (.iload_n 3, 1) := by decide +kernel
theorem dPb_pay_34 : decode (mC mPb_pay) 34 = .ok (.sipush (999), 3) := by decide +kernel
theorem dPb_pay_37 : decode (mC mPb_pay) 37 = .ok (.if_icmp .gt (8), 3) := by decide +kernel
theorem dPb_pay_40 : decode (mC mPb_pay) 40 = .ok (.iload_n 1, 1) := by decide +kernel
theorem dPb_pay_41 : decode (mC mPb_pay) 41 = .ok (.iload_n 2, 1) := by decide +kernel
theorem dPb_pay_42 : decode (mC mPb_pay) 42 = .ok (.if_icmp .ne (9), 3) := by decide +kernel
theorem dPb_pay_45 : decode (mC mPb_pay) 45 = .ok (.aload_n 0, 1) := by decide +kernel
theorem dPb_pay_46 : decode (mC mPb_pay) 46 = .ok (.iconst (5), 1) := by decide +kernel
theorem dPb_pay_47 : decode (mC mPb_pay) 47 = .ok (.invokevirtual 85, 3) := by decide +kernel
theorem dPb_pay_50 : decode (mC mPb_pay) 50 = .ok (.ireturn, 1) := by decide +kernel
theorem dPb_pay_51 : decode (mC mPb_pay) 51 = .ok (.aload_n 0, 1) := by decide +kernel
theorem dPb_pay_52 : decode (mC mPb_pay) 52 = .ok (.getfield 26, 3) := by decide +kernel
theorem dPb_pay_55 : decode (mC mPb_pay) 55 = .ok (.iload_n 1, 1) := by decide +kernel
theorem dPb_pay_56 : decode (mC mPb_pay) 56 = .ok (.iload_n 2, 1) := by decide +kernel
theorem dPb_pay_57 : decode (mC mPb_pay) 57 = .ok (.iload_n 3, 1) := by decide +kernel
theorem dPb_pay_58 : decode (mC mPb_pay) 58 = .ok (.invokevirtual 398, 3) := by decide +kernel
theorem dPb_pay_61 : decode (mC mPb_pay) 61 = .ok (.ifCond .eq (10), 3) := by decide +kernel
theorem dPb_pay_64 : decode (mC mPb_pay) 64 = .ok (.aload_n 0, 1) := by decide +kernel
theorem dPb_pay_65 : decode (mC mPb_pay) 65 = .ok (.invokevirtual 92, 3) := by decide +kernel
theorem dPb_pay_68 : decode (mC mPb_pay) 68 = .ok (.goto (9), 3) := by decide +kernel
theorem dPb_pay_71 : decode (mC mPb_pay) 71 = .ok (.aload_n 0, 1) := by decide +kernel
theorem dPb_pay_72 : decode (mC mPb_pay) 72 = .ok (.bipush (9), 2) := by decide +kernel
theorem dPb_pay_74 : decode (mC mPb_pay) 74 = .ok (.invokevirtual 85, 3) := by decide +kernel
theorem dPb_pay_77 : decode (mC mPb_pay) 77 = .ok (.ireturn, 1) := by decide +kernel
theorem bPb_pay_0 {E : mEn} {d : Nat} {σ : mSt} {Q : mPost} {a1 : Int32} {a2 : Int32} {a3 : Int32} : WP E (d + 1) mPb_pay 0 [.ref 0, .int a1, .int a2, .int a3] [] σ Q = WP E d mTw_hasPerson 0 [.ref 10, .int a1] [] σ (fun r σ' => WP E (d + 1) mPb_pay 8 [.ref 0, .int a1, .int a2, .int a3] (r.toList ++ []) σ' Q) := (w_aload_n dPb_pay_0 rfl).trans ((w_getr (r := 10) dPb_pay_1 rz10_26 sh_0 rfl).trans ((w_iload_n dPb_pay_4 rfl).trans (w_virt (vs := [.int a1]) (st' := []) (es := [.ref 10, .int a1]) dPb_pay_5 rz10_205 rfl sh_10 rfl rfl rfl (Nat.le_of_ble_eq_true rfl) (Nat.le_of_ble_eq_true rfl) rfl)))
theorem bPb_pay_8 {E : mEn} {d : Nat} {σ : mSt} {Q : mPost} {a1 : Int32} {a2 : Int32} {a3 : Int32} {s0 : Int32} : WP E d mPb_pay 8 [.ref 0, .int a1, .int a2, .int a3] [.int s0] σ Q = (if s0 = 0 then WP E d mPb_pay 22 [.ref 0, .int a1, .int a2, .int a3] [] σ Q else WP E d mPb_pay 11 [.ref 0, .int a1, .int a2, .int a3] [] σ Q) := w_ifeq (t := 22) dPb_pay_8 (by decide)
theorem bPb_pay_11 {E : mEn} {d : Nat} {σ : mSt} {Q : mPost} {a1 : Int32} {a2 : Int32} {a3 : Int32} : WP E (d + 1) mPb_pay 11 [.ref 0, .int a1, .int a2, .int a3] [] σ Q = WP E d mTw_hasPerson 0 [.ref 10, .int a2] [] σ (fun r σ' => WP E (d + 1) mPb_pay 19 [.ref 0, .int a1, .int a2, .int a3] (r.toList ++ []) σ' Q) := (w_aload_n dPb_pay_11 rfl).trans ((w_getr (r := 10) dPb_pay_12 rz10_26 sh_0 rfl).trans ((w_iload_n dPb_pay_15 rfl).trans (w_virt (vs := [.int a2]) (st' := []) (es := [.ref 10, .int a2]) dPb_pay_16 rz10_205 rfl sh_10 rfl rfl rfl (Nat.le_of_ble_eq_true rfl) (Nat.le_of_ble_eq_true rfl) rfl)))
theorem bPb_pay_19 {E : mEn} {d : Nat} {σ : mSt} {Q : mPost} {a1 : Int32} {a2 : Int32} {a3 : Int32} {s0 : Int32} : WP E d mPb_pay 19 [.ref 0, .int a1, .int a2, .int a3] [.int s0] σ Q = (if ¬ s0 = 0 then WP E d mPb_pay 28 [.ref 0, .int a1, .int a2, .int a3] [] σ Q else WP E d mPb_pay 22 [.ref 0, .int a1, .int a2, .int a3] [] σ Q) := w_ifne (t := 28) dPb_pay_19 (by decide)
theorem bPb_pay_22 {E : mEn} {d : Nat} {σ : mSt} {Q : mPost} {a1 : Int32} {a2 : Int32} {a3 : Int32} : WP E (d + 1) mPb_pay 22 [.ref 0, .int a1, .int a2, .int a3] [] σ Q = WP E d mPb_deny 0 [.ref 0, .int (nI 2)] [] σ (fun r σ' => WP E (d + 1) mPb_pay 27 [.ref 0, .int a1, .int a2, .int a3] (r.toList ++ []) σ' Q) := (w_aload_n dPb_pay_22 rfl).trans ((w_iconst (v := (nI 2)) dPb_pay_23 rfl).trans (w_virt (vs := [.int (nI 2)]) (st' := []) (es := [.ref 0, .int (nI 2)]) dPb_pay_24 rz10_85 rfl sh_0 rfl rfl rfl (Nat.le_of_ble_eq_true rfl) (Nat.le_of_ble_eq_true rfl) rfl))
theorem bPb_pay_27 {E : mEn} {d : Nat} {σ : mSt} {Q : mPost} {a1 : Int32} {a2 : Int32} {a3 : Int32} {s0 : Int32} (hz0 : s0 = 0 ∨ s0 = 1) : WP E d mPb_pay 27 [.ref 0, .int a1, .int a2, .int a3] [.int s0] σ Q = Q (some (.int s0)) σ := w_zret dPb_pay_27 rfl hz0
theorem bPb_pay_28 {E : mEn} {d : Nat} {σ : mSt} {Q : mPost} {a1 : Int32} {a2 : Int32} {a3 : Int32} : WP E d mPb_pay 28 [.ref 0, .int a1, .int a2, .int a3] [] σ Q = (if a3 < 1 then WP E d mPb_pay 45 [.ref 0, .int a1, .int a2, .int a3] [] σ Q else WP E d mPb_pay 33 [.ref 0, .int a1, .int a2, .int a3] [] σ Q) := (w_iload_n dPb_pay_28 rfl).trans ((w_iconst (v := 1) dPb_pay_29 rfl).trans (w_icmplt (t := 45) dPb_pay_30 (by decide)))
theorem bPb_pay_33 {E : mEn} {d : Nat} {σ : mSt} {Q : mPost} {a1 : Int32} {a2 : Int32} {a3 : Int32} : WP E d mPb_pay 33 [.ref 0, .int a1, .int a2, .int a3] [] σ Q = (if (nI 999) < a3 then WP E d mPb_pay 45 [.ref 0, .int a1, .int a2, .int a3] [] σ Q else WP E d mPb_pay 40 [.ref 0, .int a1, .int a2, .int a3] [] σ Q) := (w_iload_n dPb_pay_33 rfl).trans ((w_sipush (v := (nI 999)) dPb_pay_34 rfl).trans (w_icmpgt (t := 45) dPb_pay_37 (by decide)))
theorem bPb_pay_40 {E : mEn} {d : Nat} {σ : mSt} {Q : mPost} {a1 : Int32} {a2 : Int32} {a3 : Int32} : WP E d mPb_pay 40 [.ref 0, .int a1, .int a2, .int a3] [] σ Q = (if ¬ a1 = a2 then WP E d mPb_pay 51 [.ref 0, .int a1, .int a2, .int a3] [] σ Q else WP E d mPb_pay 45 [.ref 0, .int a1, .int a2, .int a3] [] σ Q) := (w_iload_n dPb_pay_40 rfl).trans ((w_iload_n dPb_pay_41 rfl).trans (w_icmpne (t := 51) dPb_pay_42 (by decide)))
theorem bPb_pay_45 {E : mEn} {d : Nat} {σ : mSt} {Q : mPost} {a1 : Int32} {a2 : Int32} {a3 : Int32} : WP E (d + 1) mPb_pay 45 [.ref 0, .int a1, .int a2, .int a3] [] σ Q = WP E d mPb_deny 0 [.ref 0, .int (nI 5)] [] σ (fun r σ' => WP E (d + 1) mPb_pay 50 [.ref 0, .int a1, .int a2, .int a3] (r.toList ++ []) σ' Q) := (w_aload_n dPb_pay_45 rfl).trans ((w_iconst (v := (nI 5)) dPb_pay_46 rfl).trans (w_virt (vs := [.int (nI 5)]) (st' := []) (es := [.ref 0, .int (nI 5)]) dPb_pay_47 rz10_85 rfl sh_0 rfl rfl rfl (Nat.le_of_ble_eq_true rfl) (Nat.le_of_ble_eq_true rfl) rfl))
theorem bPb_pay_50 {E : mEn} {d : Nat} {σ : mSt} {Q : mPost} {a1 : Int32} {a2 : Int32} {a3 : Int32} {s0 : Int32} (hz0 : s0 = 0 ∨ s0 = 1) : WP E d mPb_pay 50 [.ref 0, .int a1, .int a2, .int a3] [.int s0] σ Q = Q (some (.int s0)) σ := w_zret dPb_pay_50 rfl hz0
theorem bPb_pay_51 {E : mEn} {d : Nat} {σ : mSt} {Q : mPost} {a1 : Int32} {a2 : Int32} {a3 : Int32} : WP E (d + 1) mPb_pay 51 [.ref 0, .int a1, .int a2, .int a3] [] σ Q = WP E d mTw_handMoney 0 [.ref 10, .int a1, .int a2, .int a3] [] σ (fun r σ' => WP E (d + 1) mPb_pay 61 [.ref 0, .int a1, .int a2, .int a3] (r.toList ++ []) σ' Q) := (w_aload_n dPb_pay_51 rfl).trans ((w_getr (r := 10) dPb_pay_52 rz10_26 sh_0 rfl).trans ((w_iload_n dPb_pay_55 rfl).trans ((w_iload_n dPb_pay_56 rfl).trans ((w_iload_n dPb_pay_57 rfl).trans (w_virt (vs := [.int a1, .int a2, .int a3]) (st' := []) (es := [.ref 10, .int a1, .int a2, .int a3]) dPb_pay_58 rz10_398 rfl sh_10 rfl rfl rfl (Nat.le_of_ble_eq_true rfl) (Nat.le_of_ble_eq_true rfl) rfl)))))
theorem bPb_pay_61 {E : mEn} {d : Nat} {σ : mSt} {Q : mPost} {a1 : Int32} {a2 : Int32} {a3 : Int32} {s0 : Int32} : WP E d mPb_pay 61 [.ref 0, .int a1, .int a2, .int a3] [.int s0] σ Q = (if s0 = 0 then WP E d mPb_pay 71 [.ref 0, .int a1, .int a2, .int a3] [] σ Q else WP E d mPb_pay 64 [.ref 0, .int a1, .int a2, .int a3] [] σ Q) := w_ifeq (t := 71) dPb_pay_61 (by decide)
theorem bPb_pay_64 {E : mEn} {d : Nat} {σ : mSt} {Q : mPost} {a1 : Int32} {a2 : Int32} {a3 : Int32} : WP E (d + 1) mPb_pay 64 [.ref 0, .int a1, .int a2, .int a3] [] σ Q = WP E d mPb_grant 0 [.ref 0] [] σ (fun r σ' => WP E (d + 1) mPb_pay 68 [.ref 0, .int a1, .int a2, .int a3] (r.toList ++ []) σ' Q) := (w_aload_n dPb_pay_64 rfl).trans (w_virt (vs := []) (st' := []) (es := [.ref 0]) dPb_pay_65 rz10_92 rfl sh_0 rfl rfl rfl (Nat.le_of_ble_eq_true rfl) (Nat.le_of_ble_eq_true rfl) rfl)
theorem bPb_pay_68 {E : mEn} {d : Nat} {σ : mSt} {Q : mPost} {a1 : Int32} {a2 : Int32} {a3 : Int32} {s0 : Int32} : WP E d mPb_pay 68 [.ref 0, .int a1, .int a2, .int a3] [.int s0] σ Q = WP E d mPb_pay 77 [.ref 0, .int a1, .int a2, .int a3] [.int s0] σ Q := w_goto (t := 77) dPb_pay_68 (by decide)
theorem bPb_pay_71 {E : mEn} {d : Nat} {σ : mSt} {Q : mPost} {a1 : Int32} {a2 : Int32} {a3 : Int32} : WP E (d + 1) mPb_pay 71 [.ref 0, .int a1, .int a2, .int a3] [] σ Q = WP E d mPb_deny 0 [.ref 0, .int (nI 9)] [] σ (fun r σ' => WP E (d + 1) mPb_pay 77 [.ref 0, .int a1, .int a2, .int a3] (r.toList ++ []) σ' Q) := (w_aload_n dPb_pay_71 rfl).trans ((w_bipush (v := (nI 9)) dPb_pay_72 rfl).trans (w_virt (vs := [.int (nI 9)]) (st' := []) (es := [.ref 0, .int (nI 9)]) dPb_pay_74 rz10_85 rfl sh_0 rfl rfl rfl (Nat.le_of_ble_eq_true rfl) (Nat.le_of_ble_eq_true rfl) rfl))
theorem bPb_pay_77 {E : mEn} {d : Nat} {σ : mSt} {Q : mPost} {a1 : Int32} {a2 : Int32} {a3 : Int32} {s0 : Int32} (hz0 : s0 = 0 ∨ s0 = 1) : WP E d mPb_pay 77 [.ref 0, .int a1, .int a2, .int a3] [.int s0] σ Q = Q (some (.int s0)) σ := w_zret dPb_pay_77 rfl hz0
theorem dPb_live_0 : decode (mC mPb_live) 0 = .ok (.iload_n 1, 1) := by decide +kernel
theorem dPb_live_1 : decode (mC mPb_live) 1 = .ok (.ifCond .lt (10), 3) := by decide +kernel
theorem dPb_live_4 : decode (mC mPb_live) 4 = .ok (.iload_n 1, 1) := by decide +kernel
theorem dPb_live_5 : decode (mC mPb_live) 5 = .ok (.sipush (9999), 3) := by decide +kernel
theorem dPb_live_8 : decode (mC mPb_live) 8 = .ok (.if_icmp .le (9), 3) := by decide +kernel
theorem dPb_live_11 : decode (mC mPb_live) 11 = .ok (.aload_n 0, 1) := by decide +kernel
theorem dPb_live_12 : decode (mC mPb_live) 12 = .ok (.iconst (5), 1) := by decide +kernel
theorem dPb_live_13 : decode (mC mPb_live) 13 = .ok (.invokevirtual 104, 3) := by decide +kernel
theorem dPb_live_16 : decode (mC mPb_live) 16 = .ok (.ireturn, 1) := by decide +kernel
theorem dPb_live_17 : decode (mC mPb_live) 17 = .ok (.aload_n 0, 1) := by decide +kernel
theorem dPb_live_18 : decode (mC mPb_live) 18 = .ok (.getfield 26, 3) := by decide +kernel
theorem dPb_live_21 : decode (mC mPb_live) 21 = .ok (.getfield 164, 3) := by decide +kernel
theorem dPb_live_24 : decode (mC mPb_live) 24 = .ok (.getfield 401, 3) := by decide +kernel
theorem dPb_live_27 : decode (mC mPb_live) 27 = .ok (.ifCond .ne (10), 3) := by decide +kernel
theorem dPb_live_30 : decode (mC mPb_live) 30 = .ok (.aload_n 0, 1) := by decide +kernel
theorem dPb_live_31 : decode (mC mPb_live) 31 = .ok (.bipush (8), 2) := by decide +kernel
theorem dPb_live_33 : decode (mC mPb_live) 33 = .ok (.invokevirtual 104, 3) := by decide +kernel
theorem dPb_live_36 : decode (mC mPb_live) 36 = .ok (.ireturn, 1) := by decide +kernel
theorem dPb_live_37 : decode (mC mPb_live) 37 = .ok (.aload_n 0, 1) := by decide +kernel
theorem dPb_live_38 : decode (mC mPb_live) 38 = .ok (.getfield 54, 3) := by decide +kernel
theorem dPb_live_41 : decode (mC mPb_live) 41 = .ok (.aload_n 0, 1) := by decide +kernel
theorem dPb_live_42 : decode (mC mPb_live) 42 = .ok (.getfield 26, 3) := by decide +kernel
theorem dPb_live_45 : decode (mC mPb_live) 45 = .ok (.iload_n 1, 1) := by decide +kernel
theorem dPb_live_46 : decode (mC mPb_live) 46 = .ok (.invokevirtual 405, 3) := by decide +kernel
theorem dPb_live_49 : decode (mC mPb_live) 49 = .ok (.aload_n 0, 1) := by decide +kernel
theorem dPb_live_50 : decode (mC mPb_live) 50 = .ok (.iconst (1), 1) := by decide +kernel
theorem dPb_live_51 : decode (mC mPb_live) 51 = .ok (.putfield 408, 3) := by decide +kernel
theorem dPb_live_54 : decode (mC mPb_live) 54 = .ok (.aload_n 0, 1) := by decide +kernel
theorem dPb_live_55 : decode (mC mPb_live) 55 = .ok (.aload_n 0, 1) := by decide +kernel
theorem dPb_live_56 : decode (mC mPb_live) 56 = .ok (.getfield 54, 3) := by decide +kernel
theorem dPb_live_59 : decode (mC mPb_live) 59 = .ok (.getfield 411, 3) := by decide +kernel
theorem dPb_live_62 : decode (mC mPb_live) 62 = .ok (.invokevirtual 157, 3) := by decide +kernel
theorem dPb_live_65 : decode (mC mPb_live) 65 = .ok (.ireturn, 1) := by decide +kernel
theorem bPb_live_0 {E : mEn} {d : Nat} {σ : mSt} {Q : mPost} {a1 : Int32} : WP E d mPb_live 0 [.ref 0, .int a1] [] σ Q = (if a1 < 0 then WP E d mPb_live 11 [.ref 0, .int a1] [] σ Q else WP E d mPb_live 4 [.ref 0, .int a1] [] σ Q) := (w_iload_n dPb_live_0 rfl).trans (w_iflt (t := 11) dPb_live_1 (by decide))
theorem bPb_live_4 {E : mEn} {d : Nat} {σ : mSt} {Q : mPost} {a1 : Int32} : WP E d mPb_live 4 [.ref 0, .int a1] [] σ Q = (if a1 ≤ (nI 9999) then WP E d mPb_live 17 [.ref 0, .int a1] [] σ Q else WP E d mPb_live 11 [.ref 0, .int a1] [] σ Q) := (w_iload_n dPb_live_4 rfl).trans ((w_sipush (v := (nI 9999)) dPb_live_5 rfl).trans (w_icmple (t := 17) dPb_live_8 (by decide)))
theorem bPb_live_11 {E : mEn} {d : Nat} {σ : mSt} {Q : mPost} {a1 : Int32} : WP E (d + 1) mPb_live 11 [.ref 0, .int a1] [] σ Q = WP E d mPb_refuse 0 [.ref 0, .int (nI 5)] [] σ (fun r σ' => WP E (d + 1) mPb_live 16 [.ref 0, .int a1] (r.toList ++ []) σ' Q) := (w_aload_n dPb_live_11 rfl).trans ((w_iconst (v := (nI 5)) dPb_live_12 rfl).trans (w_virt (vs := [.int (nI 5)]) (st' := []) (es := [.ref 0, .int (nI 5)]) dPb_live_13 rz10_104 rfl sh_0 rfl rfl rfl (Nat.le_of_ble_eq_true rfl) (Nat.le_of_ble_eq_true rfl) rfl))
theorem bPb_live_16 {E : mEn} {d : Nat} {σ : mSt} {Q : mPost} {a1 : Int32} {s0 : Int32} : WP E d mPb_live 16 [.ref 0, .int a1] [.int s0] σ Q = Q (some (.int s0)) σ := w_iret dPb_live_16 rfl
theorem bPb_live_17 {E : mEn} {d : Nat} {σ : mSt} {Q : mPost} {a1 : Int32} : WP E d mPb_live 17 [.ref 0, .int a1] [] σ Q = (if ¬ (σ.1 22 5) = 0 then WP E d mPb_live 37 [.ref 0, .int a1] [] σ Q else WP E d mPb_live 30 [.ref 0, .int a1] [] σ Q) := (w_aload_n dPb_live_17 rfl).trans ((w_getr (r := 10) dPb_live_18 rz10_26 sh_0 rfl).trans ((w_getr (r := 22) dPb_live_21 rz10_164 sh_10 rfl).trans ((w_geti dPb_live_24 rz10_401 sh_22 rfl).trans (w_ifne (t := 37) dPb_live_27 (by decide)))))
theorem bPb_live_30 {E : mEn} {d : Nat} {σ : mSt} {Q : mPost} {a1 : Int32} : WP E (d + 1) mPb_live 30 [.ref 0, .int a1] [] σ Q = WP E d mPb_refuse 0 [.ref 0, .int (nI 8)] [] σ (fun r σ' => WP E (d + 1) mPb_live 36 [.ref 0, .int a1] (r.toList ++ []) σ' Q) := (w_aload_n dPb_live_30 rfl).trans ((w_bipush (v := (nI 8)) dPb_live_31 rfl).trans (w_virt (vs := [.int (nI 8)]) (st' := []) (es := [.ref 0, .int (nI 8)]) dPb_live_33 rz10_104 rfl sh_0 rfl rfl rfl (Nat.le_of_ble_eq_true rfl) (Nat.le_of_ble_eq_true rfl) rfl))
theorem bPb_live_36 {E : mEn} {d : Nat} {σ : mSt} {Q : mPost} {a1 : Int32} {s0 : Int32} : WP E d mPb_live 36 [.ref 0, .int a1] [.int s0] σ Q = Q (some (.int s0)) σ := w_iret dPb_live_36 rfl
theorem bPb_live_37 {E : mEn} {d : Nat} {σ : mSt} {Q : mPost} {a1 : Int32} : WP E (d + 1) mPb_live 37 [.ref 0, .int a1] [] σ Q = WP E d mLi_run 0 [.ref 73, .ref 10, .int a1, uu, uu] [] σ (fun r σ' => WP E (d + 1) mPb_live 49 [.ref 0, .int a1] (r.toList ++ []) σ' Q) := (w_aload_n dPb_live_37 rfl).trans ((w_getr (r := 73) dPb_live_38 rz10_54 sh_0 rfl).trans ((w_aload_n dPb_live_41 rfl).trans ((w_getr (r := 10) dPb_live_42 rz10_26 sh_0 rfl).trans ((w_iload_n dPb_live_45 rfl).trans (w_virt (vs := [.ref 10, .int a1]) (st' := []) (es := [.ref 73, .ref 10, .int a1, uu, uu]) dPb_live_46 rz10_405 rfl sh_73 rfl rfl rfl (Nat.le_of_ble_eq_true rfl) (Nat.le_of_ble_eq_true rfl) rfl)))))
theorem bPb_live_49 {E : mEn} {d : Nat} {σ : mSt} {Q : mPost} {a1 : Int32} : WP E (d + 1) mPb_live 49 [.ref 0, .int a1] [] σ Q = WP E d mPb_answer 0 [.ref 0, .int ((sI σ 0 15 1).1 73 3)] [] (sI σ 0 15 1) (fun r σ' => WP E (d + 1) mPb_live 65 [.ref 0, .int a1] (r.toList ++ []) σ' Q) := (w_aload_n dPb_live_49 rfl).trans ((w_iconst (v := 1) dPb_live_50 rfl).trans ((w_putz dPb_live_51 rz10_408 sh_0 rfl rfl rfl (Or.inr rfl)).trans ((w_aload_n dPb_live_54 rfl).trans ((w_aload_n dPb_live_55 rfl).trans ((w_getr (r := 73) dPb_live_56 rz10_54 sh_0 rfl).trans ((w_geti dPb_live_59 rz10_411 sh_73 rfl).trans (w_virt (vs := [.int ((sI σ 0 15 1).1 73 3)]) (st' := []) (es := [.ref 0, .int ((sI σ 0 15 1).1 73 3)]) dPb_live_62 rz10_157 rfl sh_0 rfl rfl rfl (Nat.le_of_ble_eq_true rfl) (Nat.le_of_ble_eq_true rfl) rfl)))))))
theorem bPb_live_65 {E : mEn} {d : Nat} {σ : mSt} {Q : mPost} {a1 : Int32} {s0 : Int32} : WP E d mPb_live 65 [.ref 0, .int a1] [.int s0] σ Q = Q (some (.int s0)) σ := w_iret dPb_live_65 rfl
theorem dPb_lived_0 : decode (mC mPb_lived) 0 = .ok (.iload_n 1, 1) := by decide +kernel
theorem dPb_lived_1 : decode (mC mPb_lived) 1 = .ok (.ifCond .lt (8), 3) := by decide +kernel
theorem dPb_lived_4 : decode (mC mPb_lived) 4 = .ok (.iload_n 1, 1) := by decide +kernel
theorem dPb_lived_5 : decode (mC mPb_lived) 5 = .ok (.iconst (4), 1) := by decide +kernel
theorem dPb_lived_6 : decode (mC mPb_lived) 6 = .ok (.if_icmp .le (9), 3) := by decide +kernel
theorem dPb_lived_9 : decode (mC mPb_lived) 9 = .ok (.aload_n 0, 1) := by decide +kernel
theorem dPb_lived_10 : decode (mC mPb_lived) 10 = .ok (.iconst (5), 1) := by decide +kernel
theorem dPb_lived_11 : decode (mC mPb_lived) 11 = .ok (.invokevirtual 104, 3) := by decide +kernel
theorem dPb_lived_14 : decode (mC mPb_lived) 14 = .ok (.ireturn, 1) := by decide +kernel
theorem dPb_lived_15 : decode (mC mPb_lived) 15 = .ok (.aload_n 0, 1) := by decide +kernel
theorem dPb_lived_16 : decode (mC mPb_lived) 16 = .ok (.getfield 408, 3) := by decide +kernel
theorem dPb_lived_19 : decode (mC mPb_lived) 19 = .ok (.ifCond .ne (10), 3) := by decide +kernel
theorem dPb_lived_22 : decode (mC mPb_lived) 22 = .ok (.aload_n 0, 1) := by decide +kernel
theorem dPb_lived_23 : decode (mC mPb_lived) 23 = .ok (.bipush (8), 2) := by decide +kernel
theorem dPb_lived_25 : decode (mC mPb_lived) 25 = .ok (.invokevirtual 104, 3) := by decide +kernel
theorem dPb_lived_28 : decode (mC mPb_lived) 28 = .ok (.ireturn, 1) := by decide +kernel
theorem dPb_lived_29 : decode (mC mPb_lived) 29 = .ok (.iload_n 1, 1) := by decide +kernel
theorem dPb_lived_30 : decode (mC mPb_lived) 30 = .ok (.tableswitch (78) 0 3 #[30, 42, 54, 66], 30) := by decide +kernel
theorem dPb_lived_60 : decode (mC mPb_lived) 60 = .ok (.aload_n 0, 1) := by decide +kernel
theorem dPb_lived_61 : decode (mC mPb_lived) 61 = .ok (.aload_n 0, 1) := by decide +kernel
theorem dPb_lived_62 : decode (mC mPb_lived) 62 = .ok (.getfield 54, 3) := by decide +kernel
theorem dPb_lived_65 : decode (mC mPb_lived) 65 = .ok (.getfield 412, 3) := by decide +kernel
theorem dPb_lived_68 : decode (mC mPb_lived) 68 = .ok (.invokevirtual 157, 3) := by decide +kernel
theorem dPb_lived_71 : decode (mC mPb_lived) 71 = .ok (.ireturn, 1) := by decide +kernel
theorem dPb_lived_72 : decode (mC mPb_lived) 72 = .ok (.aload_n 0, 1) := by decide +kernel
theorem dPb_lived_73 : decode (mC mPb_lived) 73 = .ok (.aload_n 0, 1) := by decide +kernel
theorem dPb_lived_74 : decode (mC mPb_lived) 74 = .ok (.getfield 54, 3) := by decide +kernel
theorem dPb_lived_77 : decode (mC mPb_lived) 77 = .ok (.getfield 415, 3) := by decide +kernel
theorem dPb_lived_80 : decode (mC mPb_lived) 80 = .ok (.invokevirtual 157, 3) := by decide +kernel
theorem dPb_lived_83 : decode (mC mPb_lived) 83 = .ok (.ireturn, 1) := by decide +kernel
theorem dPb_lived_84 : decode (mC mPb_lived) 84 = .ok (.aload_n 0, 1) := by decide +kernel
theorem dPb_lived_85 : decode (mC mPb_lived) 85 = .ok (.aload_n 0, 1) := by decide +kernel
theorem dPb_lived_86 : decode (mC mPb_lived) 86 = .ok (.getfield 54, 3) := by decide +kernel
theorem dPb_lived_89 : decode (mC mPb_lived) 89 = .ok (.getfield 418, 3) := by decide +kernel
theorem dPb_lived_92 : decode (mC mPb_lived) 92 = .ok (.invokevirtual 157, 3) := by decide +kernel
theorem dPb_lived_95 : decode (mC mPb_lived) 95 = .ok (.ireturn, 1) := by decide +kernel
theorem dPb_lived_96 : decode (mC mPb_lived) 96 = .ok (.aload_n 0, 1) := by decide +kernel
theorem dPb_lived_97 : decode (mC mPb_lived) 97 = .ok (.aload_n 0, 1) := by decide +kernel
theorem dPb_lived_98 : decode (mC mPb_lived) 98 = .ok (.getfield 54, 3) := by decide +kernel
theorem dPb_lived_101 : decode (mC mPb_lived) 101 = .ok (.getfield 421, 3) := by decide +kernel
theorem dPb_lived_104 : decode (mC mPb_lived) 104 = .ok (.invokevirtual 157, 3) := by decide +kernel
theorem dPb_lived_107 : decode (mC mPb_lived) 107 = .ok (.ireturn, 1) := by decide +kernel
theorem dPb_lived_108 : decode (mC mPb_lived) 108 = .ok (.aload_n 0, 1) := by decide +kernel
theorem dPb_lived_109 : decode (mC mPb_lived) 109 = .ok (.aload_n 0, 1) := by decide +kernel
theorem dPb_lived_110 : decode (mC mPb_lived) 110 = .ok (.getfield 54, 3) := by decide +kernel
theorem dPb_lived_113 : decode (mC mPb_lived) 113 = .ok (.getfield 424, 3) := by decide +kernel
theorem dPb_lived_116 : decode (mC mPb_lived) 116 = .ok (.ifCond .eq (7), 3) := by decide +kernel
theorem dPb_lived_119 : decode (mC mPb_lived) 119 = .ok (.iconst (1), 1) := by decide +kernel
theorem dPb_lived_120 : decode (mC mPb_lived) 120 = .ok (.goto (4), 3) := by decide +kernel
theorem dPb_lived_123 : decode (mC mPb_lived) 123 = .ok (.iconst (0), 1) := by decide +kernel
theorem dPb_lived_124 : decode (mC mPb_lived) 124 = .ok (.invokevirtual 157, 3) := by decide +kernel
theorem dPb_lived_127 : decode (mC mPb_lived) 127 = .ok (.ireturn, 1) := by decide +kernel
theorem bPb_lived_0 {E : mEn} {d : Nat} {σ : mSt} {Q : mPost} {a1 : Int32} : WP E d mPb_lived 0 [.ref 0, .int a1] [] σ Q = (if a1 < 0 then WP E d mPb_lived 9 [.ref 0, .int a1] [] σ Q else WP E d mPb_lived 4 [.ref 0, .int a1] [] σ Q) := (w_iload_n dPb_lived_0 rfl).trans (w_iflt (t := 9) dPb_lived_1 (by decide))
theorem bPb_lived_4 {E : mEn} {d : Nat} {σ : mSt} {Q : mPost} {a1 : Int32} : WP E d mPb_lived 4 [.ref 0, .int a1] [] σ Q = (if a1 ≤ (nI 4) then WP E d mPb_lived 15 [.ref 0, .int a1] [] σ Q else WP E d mPb_lived 9 [.ref 0, .int a1] [] σ Q) := (w_iload_n dPb_lived_4 rfl).trans ((w_iconst (v := (nI 4)) dPb_lived_5 rfl).trans (w_icmple (t := 15) dPb_lived_6 (by decide)))
theorem bPb_lived_9 {E : mEn} {d : Nat} {σ : mSt} {Q : mPost} {a1 : Int32} : WP E (d + 1) mPb_lived 9 [.ref 0, .int a1] [] σ Q = WP E d mPb_refuse 0 [.ref 0, .int (nI 5)] [] σ (fun r σ' => WP E (d + 1) mPb_lived 14 [.ref 0, .int a1] (r.toList ++ []) σ' Q) := (w_aload_n dPb_lived_9 rfl).trans ((w_iconst (v := (nI 5)) dPb_lived_10 rfl).trans (w_virt (vs := [.int (nI 5)]) (st' := []) (es := [.ref 0, .int (nI 5)]) dPb_lived_11 rz10_104 rfl sh_0 rfl rfl rfl (Nat.le_of_ble_eq_true rfl) (Nat.le_of_ble_eq_true rfl) rfl))
theorem bPb_lived_14 {E : mEn} {d : Nat} {σ : mSt} {Q : mPost} {a1 : Int32} {s0 : Int32} : WP E d mPb_lived 14 [.ref 0, .int a1] [.int s0] σ Q = Q (some (.int s0)) σ := w_iret dPb_lived_14 rfl
theorem bPb_lived_15 {E : mEn} {d : Nat} {σ : mSt} {Q : mPost} {a1 : Int32} : WP E d mPb_lived 15 [.ref 0, .int a1] [] σ Q = (if ¬ (σ.1 0 15) = 0 then WP E d mPb_lived 29 [.ref 0, .int a1] [] σ Q else WP E d mPb_lived 22 [.ref 0, .int a1] [] σ Q) := (w_aload_n dPb_lived_15 rfl).trans ((w_geti dPb_lived_16 rz10_408 sh_0 rfl).trans (w_ifne (t := 29) dPb_lived_19 (by decide)))
theorem bPb_lived_22 {E : mEn} {d : Nat} {σ : mSt} {Q : mPost} {a1 : Int32} : WP E (d + 1) mPb_lived 22 [.ref 0, .int a1] [] σ Q = WP E d mPb_refuse 0 [.ref 0, .int (nI 8)] [] σ (fun r σ' => WP E (d + 1) mPb_lived 28 [.ref 0, .int a1] (r.toList ++ []) σ' Q) := (w_aload_n dPb_lived_22 rfl).trans ((w_bipush (v := (nI 8)) dPb_lived_23 rfl).trans (w_virt (vs := [.int (nI 8)]) (st' := []) (es := [.ref 0, .int (nI 8)]) dPb_lived_25 rz10_104 rfl sh_0 rfl rfl rfl (Nat.le_of_ble_eq_true rfl) (Nat.le_of_ble_eq_true rfl) rfl))
theorem bPb_lived_28 {E : mEn} {d : Nat} {σ : mSt} {Q : mPost} {a1 : Int32} {s0 : Int32} : WP E d mPb_lived 28 [.ref 0, .int a1] [.int s0] σ Q = Q (some (.int s0)) σ := w_iret dPb_lived_28 rfl
theorem bPb_lived_29 {E : mEn} {d : Nat} {σ : mSt} {Q : mPost} {a1 : Int32} : WP E d mPb_lived 29 [.ref 0, .int a1] [] σ Q = WP E d mPb_lived 30 [.ref 0, .int a1] [.int a1] σ Q := w_iload_n dPb_lived_29 rfl
theorem bPb_lived_29_s0 {E : mEn} {d : Nat} {σ : mSt} {Q : mPost} {b1 : Int32} : WP E d mPb_lived 30 [.ref 0, .int b1] [.int (nI 0)] σ Q = WP E d mPb_lived 60 [.ref 0, .int b1] [] σ Q := w_swK 0 dPb_lived_30 (by decide) (by decide) (by decide) rfl (by decide)
theorem bPb_lived_29_s1 {E : mEn} {d : Nat} {σ : mSt} {Q : mPost} {b1 : Int32} : WP E d mPb_lived 30 [.ref 0, .int b1] [.int (nI 1)] σ Q = WP E d mPb_lived 72 [.ref 0, .int b1] [] σ Q := w_swK 1 dPb_lived_30 (by decide) (by decide) (by decide) rfl (by decide)
theorem bPb_lived_29_s2 {E : mEn} {d : Nat} {σ : mSt} {Q : mPost} {b1 : Int32} : WP E d mPb_lived 30 [.ref 0, .int b1] [.int (nI 2)] σ Q = WP E d mPb_lived 84 [.ref 0, .int b1] [] σ Q := w_swK 2 dPb_lived_30 (by decide) (by decide) (by decide) rfl (by decide)
theorem bPb_lived_29_s3 {E : mEn} {d : Nat} {σ : mSt} {Q : mPost} {b1 : Int32} : WP E d mPb_lived 30 [.ref 0, .int b1] [.int (nI 3)] σ Q = WP E d mPb_lived 96 [.ref 0, .int b1] [] σ Q := w_swK 3 dPb_lived_30 (by decide) (by decide) (by decide) rfl (by decide)
theorem bPb_lived_29_sD {E : mEn} {d : Nat} {σ : mSt} {Q : mPost} {b1 : Int32} {x : Int32} (hne : ∀ k : Nat, 0 ≤ k → k ≤ 3 → x ≠ nI k) : WP E d mPb_lived 30 [.ref 0, .int b1] [.int x] σ Q = WP E d mPb_lived 108 [.ref 0, .int b1] [] σ Q := w_swD dPb_lived_30 (by decide) hne (by decide)
theorem bPb_lived_60 {E : mEn} {d : Nat} {σ : mSt} {Q : mPost} {a1 : Int32} : WP E (d + 1) mPb_lived 60 [.ref 0, .int a1] [] σ Q = WP E d mPb_answer 0 [.ref 0, .int (σ.1 73 4)] [] σ (fun r σ' => WP E (d + 1) mPb_lived 71 [.ref 0, .int a1] (r.toList ++ []) σ' Q) := (w_aload_n dPb_lived_60 rfl).trans ((w_aload_n dPb_lived_61 rfl).trans ((w_getr (r := 73) dPb_lived_62 rz10_54 sh_0 rfl).trans ((w_geti dPb_lived_65 rz10_412 sh_73 rfl).trans (w_virt (vs := [.int (σ.1 73 4)]) (st' := []) (es := [.ref 0, .int (σ.1 73 4)]) dPb_lived_68 rz10_157 rfl sh_0 rfl rfl rfl (Nat.le_of_ble_eq_true rfl) (Nat.le_of_ble_eq_true rfl) rfl))))
theorem bPb_lived_71 {E : mEn} {d : Nat} {σ : mSt} {Q : mPost} {a1 : Int32} {s0 : Int32} : WP E d mPb_lived 71 [.ref 0, .int a1] [.int s0] σ Q = Q (some (.int s0)) σ := w_iret dPb_lived_71 rfl
theorem bPb_lived_72 {E : mEn} {d : Nat} {σ : mSt} {Q : mPost} {a1 : Int32} : WP E (d + 1) mPb_lived 72 [.ref 0, .int a1] [] σ Q = WP E d mPb_answer 0 [.ref 0, .int (σ.1 73 5)] [] σ (fun r σ' => WP E (d + 1) mPb_lived 83 [.ref 0, .int a1] (r.toList ++ []) σ' Q) := (w_aload_n dPb_lived_72 rfl).trans ((w_aload_n dPb_lived_73 rfl).trans ((w_getr (r := 73) dPb_lived_74 rz10_54 sh_0 rfl).trans ((w_geti dPb_lived_77 rz10_415 sh_73 rfl).trans (w_virt (vs := [.int (σ.1 73 5)]) (st' := []) (es := [.ref 0, .int (σ.1 73 5)]) dPb_lived_80 rz10_157 rfl sh_0 rfl rfl rfl (Nat.le_of_ble_eq_true rfl) (Nat.le_of_ble_eq_true rfl) rfl))))
theorem bPb_lived_83 {E : mEn} {d : Nat} {σ : mSt} {Q : mPost} {a1 : Int32} {s0 : Int32} : WP E d mPb_lived 83 [.ref 0, .int a1] [.int s0] σ Q = Q (some (.int s0)) σ := w_iret dPb_lived_83 rfl
theorem bPb_lived_84 {E : mEn} {d : Nat} {σ : mSt} {Q : mPost} {a1 : Int32} : WP E (d + 1) mPb_lived 84 [.ref 0, .int a1] [] σ Q = WP E d mPb_answer 0 [.ref 0, .int (σ.1 73 6)] [] σ (fun r σ' => WP E (d + 1) mPb_lived 95 [.ref 0, .int a1] (r.toList ++ []) σ' Q) := (w_aload_n dPb_lived_84 rfl).trans ((w_aload_n dPb_lived_85 rfl).trans ((w_getr (r := 73) dPb_lived_86 rz10_54 sh_0 rfl).trans ((w_geti dPb_lived_89 rz10_418 sh_73 rfl).trans (w_virt (vs := [.int (σ.1 73 6)]) (st' := []) (es := [.ref 0, .int (σ.1 73 6)]) dPb_lived_92 rz10_157 rfl sh_0 rfl rfl rfl (Nat.le_of_ble_eq_true rfl) (Nat.le_of_ble_eq_true rfl) rfl))))
theorem bPb_lived_95 {E : mEn} {d : Nat} {σ : mSt} {Q : mPost} {a1 : Int32} {s0 : Int32} : WP E d mPb_lived 95 [.ref 0, .int a1] [.int s0] σ Q = Q (some (.int s0)) σ := w_iret dPb_lived_95 rfl
theorem bPb_lived_96 {E : mEn} {d : Nat} {σ : mSt} {Q : mPost} {a1 : Int32} : WP E (d + 1) mPb_lived 96 [.ref 0, .int a1] [] σ Q = WP E d mPb_answer 0 [.ref 0, .int (σ.1 73 7)] [] σ (fun r σ' => WP E (d + 1) mPb_lived 107 [.ref 0, .int a1] (r.toList ++ []) σ' Q) := (w_aload_n dPb_lived_96 rfl).trans ((w_aload_n dPb_lived_97 rfl).trans ((w_getr (r := 73) dPb_lived_98 rz10_54 sh_0 rfl).trans ((w_geti dPb_lived_101 rz10_421 sh_73 rfl).trans (w_virt (vs := [.int (σ.1 73 7)]) (st' := []) (es := [.ref 0, .int (σ.1 73 7)]) dPb_lived_104 rz10_157 rfl sh_0 rfl rfl rfl (Nat.le_of_ble_eq_true rfl) (Nat.le_of_ble_eq_true rfl) rfl))))
theorem bPb_lived_107 {E : mEn} {d : Nat} {σ : mSt} {Q : mPost} {a1 : Int32} {s0 : Int32} : WP E d mPb_lived 107 [.ref 0, .int a1] [.int s0] σ Q = Q (some (.int s0)) σ := w_iret dPb_lived_107 rfl
theorem bPb_lived_108 {E : mEn} {d : Nat} {σ : mSt} {Q : mPost} {a1 : Int32} : WP E d mPb_lived 108 [.ref 0, .int a1] [] σ Q = (if (σ.1 73 8) = 0 then WP E d mPb_lived 123 [.ref 0, .int a1] [.ref 0] σ Q else WP E d mPb_lived 119 [.ref 0, .int a1] [.ref 0] σ Q) := (w_aload_n dPb_lived_108 rfl).trans ((w_aload_n dPb_lived_109 rfl).trans ((w_getr (r := 73) dPb_lived_110 rz10_54 sh_0 rfl).trans ((w_geti dPb_lived_113 rz10_424 sh_73 rfl).trans (w_ifeq (t := 123) dPb_lived_116 (by decide)))))
theorem bPb_lived_119 {E : mEn} {d : Nat} {σ : mSt} {Q : mPost} {a1 : Int32} : WP E d mPb_lived 119 [.ref 0, .int a1] [.ref 0] σ Q = WP E d mPb_lived 124 [.ref 0, .int a1] [.int 1, .ref 0] σ Q := (w_iconst (v := 1) dPb_lived_119 rfl).trans (w_goto (t := 124) dPb_lived_120 (by decide))
theorem bPb_lived_123 {E : mEn} {d : Nat} {σ : mSt} {Q : mPost} {a1 : Int32} : WP E d mPb_lived 123 [.ref 0, .int a1] [.ref 0] σ Q = WP E d mPb_lived 124 [.ref 0, .int a1] [.int 0, .ref 0] σ Q := w_iconst (v := 0) dPb_lived_123 rfl
theorem bPb_lived_124 {E : mEn} {d : Nat} {σ : mSt} {Q : mPost} {a1 : Int32} {s0 : Int32} : WP E (d + 1) mPb_lived 124 [.ref 0, .int a1] [.int s0, .ref 0] σ Q = WP E d mPb_answer 0 [.ref 0, .int s0] [] σ (fun r σ' => WP E (d + 1) mPb_lived 127 [.ref 0, .int a1] (r.toList ++ []) σ' Q) := w_virt (vs := [.int s0]) (st' := []) (es := [.ref 0, .int s0]) dPb_lived_124 rz10_157 rfl sh_0 rfl rfl rfl (Nat.le_of_ble_eq_true rfl) (Nat.le_of_ble_eq_true rfl) rfl
theorem bPb_lived_127 {E : mEn} {d : Nat} {σ : mSt} {Q : mPost} {a1 : Int32} {s0 : Int32} : WP E d mPb_lived 127 [.ref 0, .int a1] [.int s0] σ Q = Q (some (.int s0)) σ := w_iret dPb_lived_127 rfl
theorem dPb_odds_0 : decode (mC mPb_odds) 0 = .ok (.aload_n 0, 1) := by decide +kernel
theorem dPb_odds_1 : decode (mC mPb_odds) 1 = .ok (.getfield 26, 3) := by decide +kernel
theorem dPb_odds_4 : decode (mC mPb_odds) 4 = .ok (.iload_n 1, 1) := by decide +kernel
theorem dPb_odds_5 : decode (mC mPb_odds) 5 = .ok (.invokevirtual 205, 3) := by decide +kernel
theorem dPb_odds_8 : decode (mC mPb_odds) 8 = .ok (.ifCond .ne (9), 3) := by decide +kernel
theorem dPb_odds_11 : decode (mC mPb_odds) 11 = .ok (.aload_n 0, 1) := by decide +kernel
theorem dPb_odds_12 : decode (mC mPb_odds) 12 = .ok (.iconst (2), 1) := by decide +kernel
theorem dPb_odds_13 : decode (mC mPb_odds) 13 = .ok (.invokevirtual 85, 3) := by decide +kernel
theorem dPb_odds_16 : decode (mC mPb_odds) 16 = .ok (.ireturn, 1) := by decide +kernel
theorem dPb_odds_17 : decode (mC mPb_odds) 17 = .ok (.iload_n 2, 1) := by decide +kernel
theorem dPb_odds_18 : decode (mC mPb_odds) 18 = .ok (.iconst (1), 1) := by decide +kernel
theorem dPb_odds_19 : decode (mC mPb_odds) 19 = .ok (.if_icmp .lt (27), 3) := by decide +kernel
theorem dPb_odds_22 : decode (mC mPb_odds) 22 = .ok (.iload_n 2, 1) := by decide +kernel
theorem dPb_odds_23 : decode (mC mPb_odds) 23 = .ok (.sipush (999), 3) := by decide +kernel
theorem dPb_odds_26 : decode (mC mPb_odds) 26 = .ok (.if_icmp .gt (20), 3) := by decide +kernel
theorem dPb_odds_29 : decode (mC mPb_odds) 29 = .ok (.iload_n 3, 1) := by decide +kernel
theorem dPb_odds_30 : decode (mC mPb_odds) 30 = .ok (.ifCond .lt (16), 3) := by decide +kernel
theorem dPb_odds_33 : decode (mC mPb_odds) 33 = .ok (.iload 4, 2) := by decide +kernel
theorem dPb_odds_35 : decode (mC mPb_odds) 35 = .ok (.iconst (1), 1) := by decide +kernel
theorem dPb_odds_36 : decode (mC mPb_odds) 36 = .ok (.if_icmp .lt (10), 3) := by decide +kernel
theorem dPb_odds_39 : decode (mC mPb_odds) 39 = .ok (.iload 4, 2) := by decide +kernel
theorem dPb_odds_41 : decode (mC mPb_odds) 41 = .ok (.bipush (20), 2) := by decide +kernel
theorem dPb_odds_43 : decode (mC mPb_odds) 43 = .ok (.if_icmp .le (9), 3) := by decide +kernel
theorem dPb_odds_46 : decode (mC mPb_odds) 46 = .ok (.aload_n 0, 1) := by decide +kernel
theorem dPb_odds_47 : decode (mC mPb_odds) 47 = .ok (.iconst (5), 1) := by decide +kernel
theorem dPb_odds_48 : decode (mC mPb_odds) 48 = .ok (.invokevirtual 85, 3) := by decide +kernel
theorem dPb_odds_51 : decode (mC mPb_odds) 51 = .ok (.ireturn, 1) := by decide +kernel
theorem dPb_odds_52 : decode (mC mPb_odds) 52 = .ok (.iload_n 3, 1) := by decide +kernel
theorem dPb_odds_53 : decode (mC mPb_odds) 53 = .ok (.sipush (9999), 3) := by decide +kernel
theorem dPb_odds_56 : decode (mC mPb_odds) 56 = .ok (.iload 4, 2) := by decide +kernel
theorem dPb_odds_58 : decode (mC mPb_odds) 58 = .ok (.isub, 1) := by decide +kernel
theorem dPb_odds_59 : decode (mC mPb_odds) 59 = .ok (.iconst (1), 1) := by decide +kernel
theorem dPb_odds_60 : decode (mC mPb_odds) 60 = .ok (.iadd, 1) := by decide +kernel
theorem dPb_odds_61 : decode (mC mPb_odds) 61 = .ok (.if_icmp .le (9), 3) := by decide +kernel
theorem dPb_odds_64 : decode (mC mPb_odds) 64 = .ok (.aload_n 0, 1) := by decide +kernel
theorem dPb_odds_65 : decode (mC mPb_odds) 65 = .ok (.iconst (5), 1) := by decide +kernel
theorem dPb_odds_66 : decode (mC mPb_odds) 66 = .ok (.invokevirtual 85, 3) := by decide +kernel
theorem dPb_odds_69 : decode (mC mPb_odds) 69 = .ok (.ireturn, 1) := by decide +kernel
theorem dPb_odds_70 : decode (mC mPb_odds) 70 = .ok (.aload_n 0, 1) := by decide +kernel
theorem dPb_odds_71 : decode (mC mPb_odds) 71 = .ok (.getfield 26, 3) := by decide +kernel
theorem dPb_odds_74 : decode (mC mPb_odds) 74 = .ok (.getfield 164, 3) := by decide +kernel
theorem dPb_odds_77 : decode (mC mPb_odds) 77 = .ok (.getfield 401, 3) := by decide +kernel
theorem dPb_odds_80 : decode (mC mPb_odds) 80 = .ok (.ifCond .ne (10), 3) := by decide +kernel
theorem dPb_odds_83 : decode (mC mPb_odds) 83 = .ok (.aload_n 0, 1) := by decide +kernel
theorem dPb_odds_84 : decode (mC mPb_odds) 84 = .ok (.bipush (8), 2) := by decide +kernel
theorem dPb_odds_86 : decode (mC mPb_odds) 86 = .ok (.invokevirtual 85, 3) := by decide +kernel
theorem dPb_odds_89 : decode (mC mPb_odds) 89 = .ok (.ireturn, 1) := by decide +kernel
theorem dPb_odds_90 : decode (mC mPb_odds) 90 = .ok (.iconst (0), 1) := by decide +kernel
theorem dPb_odds_91 : decode (mC mPb_odds) 91 = .ok (.istore 5, 2) := by decide +kernel
theorem dPb_odds_93 : decode (mC mPb_odds) 93 = .ok (.iconst (0), 1) := by decide +kernel
theorem dPb_odds_94 : decode (mC mPb_odds) 94 = .ok (.istore 6, 2) := by decide +kernel
theorem dPb_odds_96 : decode (mC mPb_odds) 96 = .ok (.iload 6, 2) := by decide +kernel
theorem dPb_odds_98 : decode (mC mPb_odds) 98 = .ok (.iload 4, 2) := by decide +kernel
theorem dPb_odds_100 : decode (mC mPb_odds) 100 = .ok (.if_icmp .ge (51), 3) := by decide +kernel
theorem dPb_odds_103 : decode (mC mPb_odds) 103 = .ok (.aload_n 0, 1) := by decide +kernel
theorem dPb_odds_104 : decode (mC mPb_odds) 104 = .ok (.getfield 26, 3) := by decide +kernel
theorem dPb_odds_107 : decode (mC mPb_odds) 107 = .ok (.aload_n 0, 1) := by decide +kernel
theorem dPb_odds_108 : decode (mC mPb_odds) 108 = .ok (.getfield 30, 3) := by decide +kernel
theorem dPb_odds_111 : decode (mC mPb_odds) 111 = .ok (.invokestatic 150, 3) := by decide +kernel
theorem dPb_odds_114 : decode (mC mPb_odds) 114 = .ok (.aload_n 0, 1) := by decide +kernel
theorem dPb_odds_115 : decode (mC mPb_odds) 115 = .ok (.getfield 58, 3) := by decide +kernel
theorem dPb_odds_118 : decode (mC mPb_odds) 118 = .ok (.aload_n 0, 1) := by decide +kernel
theorem dPb_odds_119 : decode (mC mPb_odds) 119 = .ok (.getfield 30, 3) := by decide +kernel
theorem dPb_odds_122 : decode (mC mPb_odds) 122 = .ok (.iload_n 3, 1) := by decide +kernel
theorem dPb_odds_123 : decode (mC mPb_odds) 123 = .ok (.iload 6, 2) := by decide +kernel
theorem dPb_odds_125 : decode (mC mPb_odds) 125 = .ok (.iadd, 1) := by decide +kernel
theorem dPb_odds_126 : decode (mC mPb_odds) 126 = .ok (.invokevirtual 405, 3) := by decide +kernel
theorem dPb_odds_129 : decode (mC mPb_odds) 129 = .ok (.aload_n 0, 1) := by decide +kernel
theorem dPb_odds_130 : decode (mC mPb_odds) 130 = .ok (.getfield 30, 3) := by decide +kernel
theorem dPb_odds_133 : decode (mC mPb_odds) 133 = .ok (.getfield 212, 3) := by decide +kernel
theorem dPb_odds_136 : decode (mC mPb_odds) 136 = .ok (.iload_n 1, 1) := by decide +kernel
theorem dPb_odds_137 : decode (mC mPb_odds) 137 = .ok (.iaload, 1) := by decide +kernel
theorem dPb_odds_138 : decode (mC mPb_odds) 138 = .ok (.iload_n 2, 1) := by decide +kernel
theorem dPb_odds_139 : decode (mC mPb_odds) 139 = .ok (.if_icmp .lt (6), 3) := by decide +kernel
theorem dPb_odds_142 : decode (mC mPb_odds) 142 = .ok (.iinc 5 (1), 3) := by decide +kernel
theorem dPb_odds_145 : decode (mC mPb_odds) 145 = .ok (.iinc 6 (1), 3) := by decide +kernel
theorem dPb_odds_148 : decode (mC mPb_odds) 148 = .ok (.goto (-52), 3) := by decide +kernel
theorem dPb_odds_151 : decode (mC mPb_odds) 151 = .ok (.aload_n 0, 1) := by decide +kernel
theorem dPb_odds_152 : decode (mC mPb_odds) 152 = .ok (.iload 5, 2) := by decide +kernel
theorem dPb_odds_154 : decode (mC mPb_odds) 154 = .ok (.i2l, 1) := by decide +kernel
theorem dPb_odds_155 : decode (mC mPb_odds) 155 = .ok (.iload 4, 2) := by decide +kernel
theorem dPb_odds_157 : decode (mC mPb_odds) 157 = .ok (.i2l, 1) := by decide +kernel
theorem dPb_odds_158 : decode (mC mPb_odds) 158 = .ok (.invokevirtual 319, 3) := by decide +kernel
theorem dPb_odds_161 : decode (mC mPb_odds) 161 = .ok (.aload_n 0, 1) := by decide +kernel
theorem dPb_odds_162 : decode (mC mPb_odds) 162 = .ok (.invokevirtual 92, 3) := by decide +kernel
theorem dPb_odds_165 : decode (mC mPb_odds) 165 = .ok (.ireturn, 1) := by decide +kernel
theorem bPb_odds_0 {E : mEn} {d : Nat} {σ : mSt} {Q : mPost} {a1 : Int32} {a2 : Int32} {a3 : Int32} {a4 : Int32} {u5 : Value} {u6 : Value} : WP E (d + 1) mPb_odds 0 [.ref 0, .int a1, .int a2, .int a3, .int a4, u5, u6] [] σ Q = WP E d mTw_hasPerson 0 [.ref 10, .int a1] [] σ (fun r σ' => WP E (d + 1) mPb_odds 8 [.ref 0, .int a1, .int a2, .int a3, .int a4, u5, u6] (r.toList ++ []) σ' Q) := (w_aload_n dPb_odds_0 rfl).trans ((w_getr (r := 10) dPb_odds_1 rz10_26 sh_0 rfl).trans ((w_iload_n dPb_odds_4 rfl).trans (w_virt (vs := [.int a1]) (st' := []) (es := [.ref 10, .int a1]) dPb_odds_5 rz10_205 rfl sh_10 rfl rfl rfl (Nat.le_of_ble_eq_true rfl) (Nat.le_of_ble_eq_true rfl) rfl)))
theorem bPb_odds_8 {E : mEn} {d : Nat} {σ : mSt} {Q : mPost} {a1 : Int32} {a2 : Int32} {a3 : Int32} {a4 : Int32} {u5 : Value} {u6 : Value} {s0 : Int32} : WP E d mPb_odds 8 [.ref 0, .int a1, .int a2, .int a3, .int a4, u5, u6] [.int s0] σ Q = (if ¬ s0 = 0 then WP E d mPb_odds 17 [.ref 0, .int a1, .int a2, .int a3, .int a4, u5, u6] [] σ Q else WP E d mPb_odds 11 [.ref 0, .int a1, .int a2, .int a3, .int a4, u5, u6] [] σ Q) := w_ifne (t := 17) dPb_odds_8 (by decide)
theorem bPb_odds_11 {E : mEn} {d : Nat} {σ : mSt} {Q : mPost} {a1 : Int32} {a2 : Int32} {a3 : Int32} {a4 : Int32} {u5 : Value} {u6 : Value} : WP E (d + 1) mPb_odds 11 [.ref 0, .int a1, .int a2, .int a3, .int a4, u5, u6] [] σ Q = WP E d mPb_deny 0 [.ref 0, .int (nI 2)] [] σ (fun r σ' => WP E (d + 1) mPb_odds 16 [.ref 0, .int a1, .int a2, .int a3, .int a4, u5, u6] (r.toList ++ []) σ' Q) := (w_aload_n dPb_odds_11 rfl).trans ((w_iconst (v := (nI 2)) dPb_odds_12 rfl).trans (w_virt (vs := [.int (nI 2)]) (st' := []) (es := [.ref 0, .int (nI 2)]) dPb_odds_13 rz10_85 rfl sh_0 rfl rfl rfl (Nat.le_of_ble_eq_true rfl) (Nat.le_of_ble_eq_true rfl) rfl))
theorem bPb_odds_16 {E : mEn} {d : Nat} {σ : mSt} {Q : mPost} {a1 : Int32} {a2 : Int32} {a3 : Int32} {a4 : Int32} {u5 : Value} {u6 : Value} {s0 : Int32} (hz0 : s0 = 0 ∨ s0 = 1) : WP E d mPb_odds 16 [.ref 0, .int a1, .int a2, .int a3, .int a4, u5, u6] [.int s0] σ Q = Q (some (.int s0)) σ := w_zret dPb_odds_16 rfl hz0
theorem bPb_odds_17 {E : mEn} {d : Nat} {σ : mSt} {Q : mPost} {a1 : Int32} {a2 : Int32} {a3 : Int32} {a4 : Int32} {u5 : Value} {u6 : Value} : WP E d mPb_odds 17 [.ref 0, .int a1, .int a2, .int a3, .int a4, u5, u6] [] σ Q = (if a2 < 1 then WP E d mPb_odds 46 [.ref 0, .int a1, .int a2, .int a3, .int a4, u5, u6] [] σ Q else WP E d mPb_odds 22 [.ref 0, .int a1, .int a2, .int a3, .int a4, u5, u6] [] σ Q) := (w_iload_n dPb_odds_17 rfl).trans ((w_iconst (v := 1) dPb_odds_18 rfl).trans (w_icmplt (t := 46) dPb_odds_19 (by decide)))
theorem bPb_odds_22 {E : mEn} {d : Nat} {σ : mSt} {Q : mPost} {a1 : Int32} {a2 : Int32} {a3 : Int32} {a4 : Int32} {u5 : Value} {u6 : Value} : WP E d mPb_odds 22 [.ref 0, .int a1, .int a2, .int a3, .int a4, u5, u6] [] σ Q = (if (nI 999) < a2 then WP E d mPb_odds 46 [.ref 0, .int a1, .int a2, .int a3, .int a4, u5, u6] [] σ Q else WP E d mPb_odds 29 [.ref 0, .int a1, .int a2, .int a3, .int a4, u5, u6] [] σ Q) := (w_iload_n dPb_odds_22 rfl).trans ((w_sipush (v := (nI 999)) dPb_odds_23 rfl).trans (w_icmpgt (t := 46) dPb_odds_26 (by decide)))
theorem bPb_odds_29 {E : mEn} {d : Nat} {σ : mSt} {Q : mPost} {a1 : Int32} {a2 : Int32} {a3 : Int32} {a4 : Int32} {u5 : Value} {u6 : Value} : WP E d mPb_odds 29 [.ref 0, .int a1, .int a2, .int a3, .int a4, u5, u6] [] σ Q = (if a3 < 0 then WP E d mPb_odds 46 [.ref 0, .int a1, .int a2, .int a3, .int a4, u5, u6] [] σ Q else WP E d mPb_odds 33 [.ref 0, .int a1, .int a2, .int a3, .int a4, u5, u6] [] σ Q) := (w_iload_n dPb_odds_29 rfl).trans (w_iflt (t := 46) dPb_odds_30 (by decide))
theorem bPb_odds_33 {E : mEn} {d : Nat} {σ : mSt} {Q : mPost} {a1 : Int32} {a2 : Int32} {a3 : Int32} {a4 : Int32} {u5 : Value} {u6 : Value} : WP E d mPb_odds 33 [.ref 0, .int a1, .int a2, .int a3, .int a4, u5, u6] [] σ Q = (if a4 < 1 then WP E d mPb_odds 46 [.ref 0, .int a1, .int a2, .int a3, .int a4, u5, u6] [] σ Q else WP E d mPb_odds 39 [.ref 0, .int a1, .int a2, .int a3, .int a4, u5, u6] [] σ Q) := (w_iload dPb_odds_33 rfl).trans ((w_iconst (v := 1) dPb_odds_35 rfl).trans (w_icmplt (t := 46) dPb_odds_36 (by decide)))
theorem bPb_odds_39 {E : mEn} {d : Nat} {σ : mSt} {Q : mPost} {a1 : Int32} {a2 : Int32} {a3 : Int32} {a4 : Int32} {u5 : Value} {u6 : Value} : WP E d mPb_odds 39 [.ref 0, .int a1, .int a2, .int a3, .int a4, u5, u6] [] σ Q = (if a4 ≤ (nI 20) then WP E d mPb_odds 52 [.ref 0, .int a1, .int a2, .int a3, .int a4, u5, u6] [] σ Q else WP E d mPb_odds 46 [.ref 0, .int a1, .int a2, .int a3, .int a4, u5, u6] [] σ Q) := (w_iload dPb_odds_39 rfl).trans ((w_bipush (v := (nI 20)) dPb_odds_41 rfl).trans (w_icmple (t := 52) dPb_odds_43 (by decide)))
theorem bPb_odds_46 {E : mEn} {d : Nat} {σ : mSt} {Q : mPost} {a1 : Int32} {a2 : Int32} {a3 : Int32} {a4 : Int32} {u5 : Value} {u6 : Value} : WP E (d + 1) mPb_odds 46 [.ref 0, .int a1, .int a2, .int a3, .int a4, u5, u6] [] σ Q = WP E d mPb_deny 0 [.ref 0, .int (nI 5)] [] σ (fun r σ' => WP E (d + 1) mPb_odds 51 [.ref 0, .int a1, .int a2, .int a3, .int a4, u5, u6] (r.toList ++ []) σ' Q) := (w_aload_n dPb_odds_46 rfl).trans ((w_iconst (v := (nI 5)) dPb_odds_47 rfl).trans (w_virt (vs := [.int (nI 5)]) (st' := []) (es := [.ref 0, .int (nI 5)]) dPb_odds_48 rz10_85 rfl sh_0 rfl rfl rfl (Nat.le_of_ble_eq_true rfl) (Nat.le_of_ble_eq_true rfl) rfl))
theorem bPb_odds_51 {E : mEn} {d : Nat} {σ : mSt} {Q : mPost} {a1 : Int32} {a2 : Int32} {a3 : Int32} {a4 : Int32} {u5 : Value} {u6 : Value} {s0 : Int32} (hz0 : s0 = 0 ∨ s0 = 1) : WP E d mPb_odds 51 [.ref 0, .int a1, .int a2, .int a3, .int a4, u5, u6] [.int s0] σ Q = Q (some (.int s0)) σ := w_zret dPb_odds_51 rfl hz0
theorem bPb_odds_52 {E : mEn} {d : Nat} {σ : mSt} {Q : mPost} {a1 : Int32} {a2 : Int32} {a3 : Int32} {a4 : Int32} {u5 : Value} {u6 : Value} : WP E d mPb_odds 52 [.ref 0, .int a1, .int a2, .int a3, .int a4, u5, u6] [] σ Q = (if a3 ≤ (((nI 9999) - a4) + 1) then WP E d mPb_odds 70 [.ref 0, .int a1, .int a2, .int a3, .int a4, u5, u6] [] σ Q else WP E d mPb_odds 64 [.ref 0, .int a1, .int a2, .int a3, .int a4, u5, u6] [] σ Q) := (w_iload_n dPb_odds_52 rfl).trans ((w_sipush (v := (nI 9999)) dPb_odds_53 rfl).trans ((w_iload dPb_odds_56 rfl).trans ((w_isub dPb_odds_58).trans ((w_iconst (v := 1) dPb_odds_59 rfl).trans ((w_iadd dPb_odds_60).trans (w_icmple (t := 70) dPb_odds_61 (by decide)))))))
theorem bPb_odds_64 {E : mEn} {d : Nat} {σ : mSt} {Q : mPost} {a1 : Int32} {a2 : Int32} {a3 : Int32} {a4 : Int32} {u5 : Value} {u6 : Value} : WP E (d + 1) mPb_odds 64 [.ref 0, .int a1, .int a2, .int a3, .int a4, u5, u6] [] σ Q = WP E d mPb_deny 0 [.ref 0, .int (nI 5)] [] σ (fun r σ' => WP E (d + 1) mPb_odds 69 [.ref 0, .int a1, .int a2, .int a3, .int a4, u5, u6] (r.toList ++ []) σ' Q) := (w_aload_n dPb_odds_64 rfl).trans ((w_iconst (v := (nI 5)) dPb_odds_65 rfl).trans (w_virt (vs := [.int (nI 5)]) (st' := []) (es := [.ref 0, .int (nI 5)]) dPb_odds_66 rz10_85 rfl sh_0 rfl rfl rfl (Nat.le_of_ble_eq_true rfl) (Nat.le_of_ble_eq_true rfl) rfl))
theorem bPb_odds_69 {E : mEn} {d : Nat} {σ : mSt} {Q : mPost} {a1 : Int32} {a2 : Int32} {a3 : Int32} {a4 : Int32} {u5 : Value} {u6 : Value} {s0 : Int32} (hz0 : s0 = 0 ∨ s0 = 1) : WP E d mPb_odds 69 [.ref 0, .int a1, .int a2, .int a3, .int a4, u5, u6] [.int s0] σ Q = Q (some (.int s0)) σ := w_zret dPb_odds_69 rfl hz0
theorem bPb_odds_70 {E : mEn} {d : Nat} {σ : mSt} {Q : mPost} {a1 : Int32} {a2 : Int32} {a3 : Int32} {a4 : Int32} {u5 : Value} {u6 : Value} : WP E d mPb_odds 70 [.ref 0, .int a1, .int a2, .int a3, .int a4, u5, u6] [] σ Q = (if ¬ (σ.1 22 5) = 0 then WP E d mPb_odds 90 [.ref 0, .int a1, .int a2, .int a3, .int a4, u5, u6] [] σ Q else WP E d mPb_odds 83 [.ref 0, .int a1, .int a2, .int a3, .int a4, u5, u6] [] σ Q) := (w_aload_n dPb_odds_70 rfl).trans ((w_getr (r := 10) dPb_odds_71 rz10_26 sh_0 rfl).trans ((w_getr (r := 22) dPb_odds_74 rz10_164 sh_10 rfl).trans ((w_geti dPb_odds_77 rz10_401 sh_22 rfl).trans (w_ifne (t := 90) dPb_odds_80 (by decide)))))
theorem bPb_odds_83 {E : mEn} {d : Nat} {σ : mSt} {Q : mPost} {a1 : Int32} {a2 : Int32} {a3 : Int32} {a4 : Int32} {u5 : Value} {u6 : Value} : WP E (d + 1) mPb_odds 83 [.ref 0, .int a1, .int a2, .int a3, .int a4, u5, u6] [] σ Q = WP E d mPb_deny 0 [.ref 0, .int (nI 8)] [] σ (fun r σ' => WP E (d + 1) mPb_odds 89 [.ref 0, .int a1, .int a2, .int a3, .int a4, u5, u6] (r.toList ++ []) σ' Q) := (w_aload_n dPb_odds_83 rfl).trans ((w_bipush (v := (nI 8)) dPb_odds_84 rfl).trans (w_virt (vs := [.int (nI 8)]) (st' := []) (es := [.ref 0, .int (nI 8)]) dPb_odds_86 rz10_85 rfl sh_0 rfl rfl rfl (Nat.le_of_ble_eq_true rfl) (Nat.le_of_ble_eq_true rfl) rfl))
theorem bPb_odds_89 {E : mEn} {d : Nat} {σ : mSt} {Q : mPost} {a1 : Int32} {a2 : Int32} {a3 : Int32} {a4 : Int32} {u5 : Value} {u6 : Value} {s0 : Int32} (hz0 : s0 = 0 ∨ s0 = 1) : WP E d mPb_odds 89 [.ref 0, .int a1, .int a2, .int a3, .int a4, u5, u6] [.int s0] σ Q = Q (some (.int s0)) σ := w_zret dPb_odds_89 rfl hz0
theorem bPb_odds_90 {E : mEn} {d : Nat} {σ : mSt} {Q : mPost} {a1 : Int32} {a2 : Int32} {a3 : Int32} {a4 : Int32} {u5 : Value} {u6 : Value} : WP E d mPb_odds 90 [.ref 0, .int a1, .int a2, .int a3, .int a4, u5, u6] [] σ Q = WP E d mPb_odds 96 [.ref 0, .int a1, .int a2, .int a3, .int a4, .int 0, .int 0] [] σ Q := (w_iconst (v := 0) dPb_odds_90 rfl).trans ((w_istore (ls' := [.ref 0, .int a1, .int a2, .int a3, .int a4, .int 0, u6]) dPb_odds_91 (Nat.le_of_ble_eq_true rfl) rfl).trans ((w_iconst (v := 0) dPb_odds_93 rfl).trans (w_istore (ls' := [.ref 0, .int a1, .int a2, .int a3, .int a4, .int 0, .int 0]) dPb_odds_94 (Nat.le_of_ble_eq_true rfl) rfl)))
theorem bPb_odds_96 {E : mEn} {d : Nat} {σ : mSt} {Q : mPost} {a1 : Int32} {a2 : Int32} {a3 : Int32} {a4 : Int32} {a5 : Int32} {a6 : Int32} : WP E d mPb_odds 96 [.ref 0, .int a1, .int a2, .int a3, .int a4, .int a5, .int a6] [] σ Q = (if a4 ≤ a6 then WP E d mPb_odds 151 [.ref 0, .int a1, .int a2, .int a3, .int a4, .int a5, .int a6] [] σ Q else WP E d mPb_odds 103 [.ref 0, .int a1, .int a2, .int a3, .int a4, .int a5, .int a6] [] σ Q) := (w_iload dPb_odds_96 rfl).trans ((w_iload dPb_odds_98 rfl).trans (w_icmpge (t := 151) dPb_odds_100 (by decide)))
theorem bPb_odds_103 {E : mEn} {d : Nat} {σ : mSt} {Q : mPost} {a1 : Int32} {a2 : Int32} {a3 : Int32} {a4 : Int32} {a5 : Int32} {a6 : Int32} : WP E (d + 1) mPb_odds 103 [.ref 0, .int a1, .int a2, .int a3, .int a4, .int a5, .int a6] [] σ Q = WP E d mPb_carry 0 [.ref 10, .ref 35] [] σ (fun r σ' => WP E (d + 1) mPb_odds 114 [.ref 0, .int a1, .int a2, .int a3, .int a4, .int a5, .int a6] (r.toList ++ []) σ' Q) := (w_aload_n dPb_odds_103 rfl).trans ((w_getr (r := 10) dPb_odds_104 rz10_26 sh_0 rfl).trans ((w_aload_n dPb_odds_107 rfl).trans ((w_getr (r := 35) dPb_odds_108 rz10_30 sh_0 rfl).trans (w_stat (vs := [.ref 10, .ref 35]) (st' := []) (es := [.ref 10, .ref 35]) dPb_odds_111 rz10_150 rfl rfl rfl (Nat.le_of_ble_eq_true rfl) (Nat.le_of_ble_eq_true rfl) rfl))))
theorem bPb_odds_114 {E : mEn} {d : Nat} {σ : mSt} {Q : mPost} {a1 : Int32} {a2 : Int32} {a3 : Int32} {a4 : Int32} {a5 : Int32} {a6 : Int32} : WP E (d + 1) mPb_odds 114 [.ref 0, .int a1, .int a2, .int a3, .int a4, .int a5, .int a6] [] σ Q = WP E d mLi_run 0 [.ref 82, .ref 35, .int (a3 + a6), uu, uu] [] σ (fun r σ' => WP E (d + 1) mPb_odds 129 [.ref 0, .int a1, .int a2, .int a3, .int a4, .int a5, .int a6] (r.toList ++ []) σ' Q) := (w_aload_n dPb_odds_114 rfl).trans ((w_getr (r := 82) dPb_odds_115 rz10_58 sh_0 rfl).trans ((w_aload_n dPb_odds_118 rfl).trans ((w_getr (r := 35) dPb_odds_119 rz10_30 sh_0 rfl).trans ((w_iload_n dPb_odds_122 rfl).trans ((w_iload dPb_odds_123 rfl).trans ((w_iadd dPb_odds_125).trans (w_virt (vs := [.ref 35, .int (a3 + a6)]) (st' := []) (es := [.ref 82, .ref 35, .int (a3 + a6), uu, uu]) dPb_odds_126 rz10_405 rfl sh_82 rfl rfl rfl (Nat.le_of_ble_eq_true rfl) (Nat.le_of_ble_eq_true rfl) rfl)))))))
theorem bPb_odds_129 {E : mEn} {d : Nat} {σ : mSt} {Q : mPost} {a1 : Int32} {a2 : Int32} {a3 : Int32} {a4 : Int32} {a5 : Int32} {a6 : Int32} : WP E d mPb_odds 129 [.ref 0, .int a1, .int a2, .int a3, .int a4, .int a5, .int a6] [] σ Q = (if mOut a1 8 = true then False else (if (σ.1 51 a1.toNatClampNeg) < a2 then WP E d mPb_odds 145 [.ref 0, .int a1, .int a2, .int a3, .int a4, .int a5, .int a6] [] σ Q else WP E d mPb_odds 142 [.ref 0, .int a1, .int a2, .int a3, .int a4, .int a5, .int a6] [] σ Q)) := (w_aload_n dPb_odds_129 rfl).trans ((w_getr (r := 35) dPb_odds_130 rz10_30 sh_0 rfl).trans ((w_getr (r := 51) dPb_odds_133 rz10_212 sh_35 rfl).trans ((w_iload_n dPb_odds_136 rfl).trans ((w_iald dPb_odds_137 sh_51 (by decide)).trans (ite_c ((w_iload_n dPb_odds_138 rfl).trans (w_icmplt (t := 145) dPb_odds_139 (by decide))))))))
theorem bPb_odds_142 {E : mEn} {d : Nat} {σ : mSt} {Q : mPost} {a1 : Int32} {a2 : Int32} {a3 : Int32} {a4 : Int32} {a5 : Int32} {a6 : Int32} : WP E d mPb_odds 142 [.ref 0, .int a1, .int a2, .int a3, .int a4, .int a5, .int a6] [] σ Q = WP E d mPb_odds 145 [.ref 0, .int a1, .int a2, .int a3, .int a4, .int (a5 + 1), .int a6] [] σ Q := w_iinc (v := 1) (ls' := [.ref 0, .int a1, .int a2, .int a3, .int a4, .int (a5 + 1), .int a6]) dPb_odds_142 rfl rfl rfl
theorem bPb_odds_145 {E : mEn} {d : Nat} {σ : mSt} {Q : mPost} {a1 : Int32} {a2 : Int32} {a3 : Int32} {a4 : Int32} {a5 : Int32} {a6 : Int32} : WP E d mPb_odds 145 [.ref 0, .int a1, .int a2, .int a3, .int a4, .int a5, .int a6] [] σ Q = WP E d mPb_odds 96 [.ref 0, .int a1, .int a2, .int a3, .int a4, .int a5, .int (a6 + 1)] [] σ Q := (w_iinc (v := 1) (ls' := [.ref 0, .int a1, .int a2, .int a3, .int a4, .int a5, .int (a6 + 1)]) dPb_odds_145 rfl rfl rfl).trans (w_goto (t := 96) dPb_odds_148 (by decide))
theorem bPb_odds_151 {E : mEn} {d : Nat} {σ : mSt} {Q : mPost} {a1 : Int32} {a2 : Int32} {a3 : Int32} {a4 : Int32} {a5 : Int32} {a6 : Int32} : WP E (d + 1) mPb_odds 151 [.ref 0, .int a1, .int a2, .int a3, .int a4, .int a5, .int a6] [] σ Q = WP E d mPb_tell 0 [.ref 0, .long (a5.toInt64), uu, .long (a4.toInt64), uu, uu, uu, uu, uu, uu, uu, uu] [] σ (fun r σ' => WP E (d + 1) mPb_odds 161 [.ref 0, .int a1, .int a2, .int a3, .int a4, .int a5, .int a6] (r.toList ++ []) σ' Q) := (w_aload_n dPb_odds_151 rfl).trans ((w_iload dPb_odds_152 rfl).trans ((w_i2l dPb_odds_154).trans ((w_iload dPb_odds_155 rfl).trans ((w_i2l dPb_odds_157).trans (w_virt (vs := [.long (a5.toInt64), .long (a4.toInt64)]) (st' := []) (es := [.ref 0, .long (a5.toInt64), uu, .long (a4.toInt64), uu, uu, uu, uu, uu, uu, uu, uu]) dPb_odds_158 rz10_319 rfl sh_0 rfl rfl rfl (Nat.le_of_ble_eq_true rfl) (Nat.le_of_ble_eq_true rfl) rfl)))))
theorem bPb_odds_161 {E : mEn} {d : Nat} {σ : mSt} {Q : mPost} {a1 : Int32} {a2 : Int32} {a3 : Int32} {a4 : Int32} {a5 : Int32} {a6 : Int32} : WP E (d + 1) mPb_odds 161 [.ref 0, .int a1, .int a2, .int a3, .int a4, .int a5, .int a6] [] σ Q = WP E d mPb_grant 0 [.ref 0] [] σ (fun r σ' => WP E (d + 1) mPb_odds 165 [.ref 0, .int a1, .int a2, .int a3, .int a4, .int a5, .int a6] (r.toList ++ []) σ' Q) := (w_aload_n dPb_odds_161 rfl).trans (w_virt (vs := []) (st' := []) (es := [.ref 0]) dPb_odds_162 rz10_92 rfl sh_0 rfl rfl rfl (Nat.le_of_ble_eq_true rfl) (Nat.le_of_ble_eq_true rfl) rfl)
theorem bPb_odds_165 {E : mEn} {d : Nat} {σ : mSt} {Q : mPost} {a1 : Int32} {a2 : Int32} {a3 : Int32} {a4 : Int32} {a5 : Int32} {a6 : Int32} {s0 : Int32} (hz0 : s0 = 0 ∨ s0 = 1) : WP E d mPb_odds 165 [.ref 0, .int a1, .int a2, .int a3, .int a4, .int a5, .int a6] [.int s0] σ Q = Q (some (.int s0)) σ := w_zret dPb_odds_165 rfl hz0
theorem dPb_mark_0 : decode (mC mPb_mark) 0 = .ok (.aload_n 0, 1) := by decide +kernel
theorem dPb_mark_1 : decode (mC mPb_mark) 1 = .ok (.getfield 427, 3) := by decide +kernel
theorem dPb_mark_4 : decode (mC mPb_mark) 4 = .ok (.ifCond .lt (15), 3) := by decide +kernel
theorem dPb_mark_7 : decode (mC mPb_mark) 7 = .ok (.aload_n 0, 1) := by decide +kernel
theorem dPb_mark_8 : decode (mC mPb_mark) 8 = .ok (.getfield 427, 3) := by decide +kernel
theorem dPb_mark_11 : decode (mC mPb_mark) 11 = .ok (.aload_n 0, 1) := by decide +kernel
theorem dPb_mark_12 : decode (mC mPb_mark) 12 = .ok (.getfield 33, 3) := by decide +kernel
theorem dPb_mark_15 : decode (mC mPb_mark) 15 = .ok (.arraylength, 1) := by decide +kernel
theorem dPb_mark_16 : decode (mC mPb_mark) 16 = .ok (.if_icmp .lt (10), 3) := by decide +kernel
theorem dPb_mark_19 : decode (mC mPb_mark) 19 = .ok (.aload_n 0, 1) := by decide +kernel
theorem dPb_mark_20 : decode (mC mPb_mark) 20 = .ok (.bipush (7), 2) := by decide +kernel
theorem dPb_mark_22 : decode (mC mPb_mark) 22 = .ok (.invokevirtual 104, 3) := by decide +kernel
theorem dPb_mark_25 : decode (mC mPb_mark) 25 = .ok (.ireturn, 1) := by decide +kernel
theorem dPb_mark_26 : decode (mC mPb_mark) 26 = .ok (.aload_n 0, 1) := by decide +kernel
theorem dPb_mark_27 : decode (mC mPb_mark) 27 = .ok (.getfield 26, 3) := by decide +kernel
theorem dPb_mark_30 : decode (mC mPb_mark) 30 = .ok (.aload_n 0, 1) := by decide +kernel
theorem dPb_mark_31 : decode (mC mPb_mark) 31 = .ok (.getfield 33, 3) := by decide +kernel
theorem dPb_mark_34 : decode (mC mPb_mark) 34 = .ok (.aload_n 0, 1) := by decide +kernel
theorem dPb_mark_35 : decode (mC mPb_mark) 35 = .ok (.getfield 427, 3) := by decide +kernel
theorem dPb_mark_38 : decode (mC mPb_mark) 38 = .ok (.aaload, 1) := by decide +kernel
theorem dPb_mark_39 : decode (mC mPb_mark) 39 = .ok (.invokestatic 150, 3) := by decide +kernel
theorem dPb_mark_42 : decode (mC mPb_mark) 42 = .ok (.aload_n 0, 1) := by decide +kernel
theorem dPb_mark_43 : decode (mC mPb_mark) 43 = .ok (.dup, 1) := by decide +kernel
theorem dPb_mark_44 : decode (mC mPb_mark) 44 = .ok (.getfield 427, 3) := by decide +kernel
theorem dPb_mark_47 : decode (mC mPb_mark) 47 = .ok (.iconst (1), 1) := by decide +kernel
theorem dPb_mark_48 : decode (mC mPb_mark) 48 = .ok (.iadd, 1) := by decide +kernel
theorem dPb_mark_49 : decode (mC mPb_mark) 49 = .ok (.putfield 427, 3) := by decide +kernel
theorem dPb_mark_52 : decode (mC mPb_mark) 52 = .ok (.aload_n 0, 1) := by decide +kernel
theorem dPb_mark_53 : decode (mC mPb_mark) 53 = .ok (.aload_n 0, 1) := by decide +kernel
theorem dPb_mark_54 : decode (mC mPb_mark) 54 = .ok (.getfield 427, 3) := by decide +kernel
theorem dPb_mark_57 : decode (mC mPb_mark) 57 = .ok (.invokevirtual 157, 3) := by decide +kernel
theorem dPb_mark_60 : decode (mC mPb_mark) 60 = .ok (.ireturn, 1) := by decide +kernel
theorem bPb_mark_0 {E : mEn} {d : Nat} {σ : mSt} {Q : mPost} : WP E d mPb_mark 0 [.ref 0] [] σ Q = (if (σ.1 0 9) < 0 then WP E d mPb_mark 19 [.ref 0] [] σ Q else WP E d mPb_mark 7 [.ref 0] [] σ Q) := (w_aload_n dPb_mark_0 rfl).trans ((w_geti dPb_mark_1 rz10_427 sh_0 rfl).trans (w_iflt (t := 19) dPb_mark_4 (by decide)))
theorem bPb_mark_7 {E : mEn} {d : Nat} {σ : mSt} {Q : mPost} : WP E d mPb_mark 7 [.ref 0] [] σ Q = (if (σ.1 0 9) < (nI 3) then WP E d mPb_mark 26 [.ref 0] [] σ Q else WP E d mPb_mark 19 [.ref 0] [] σ Q) := (w_aload_n dPb_mark_7 rfl).trans ((w_geti dPb_mark_8 rz10_427 sh_0 rfl).trans ((w_aload_n dPb_mark_11 rfl).trans ((w_getr (r := 60) dPb_mark_12 rz10_33 sh_0 rfl).trans ((w_len dPb_mark_15 (aLen_of sh_60 (by decide) (by decide))).trans (w_icmplt (t := 26) dPb_mark_16 (by decide))))))
theorem bPb_mark_19 {E : mEn} {d : Nat} {σ : mSt} {Q : mPost} : WP E (d + 1) mPb_mark 19 [.ref 0] [] σ Q = WP E d mPb_refuse 0 [.ref 0, .int (nI 7)] [] σ (fun r σ' => WP E (d + 1) mPb_mark 25 [.ref 0] (r.toList ++ []) σ' Q) := (w_aload_n dPb_mark_19 rfl).trans ((w_bipush (v := (nI 7)) dPb_mark_20 rfl).trans (w_virt (vs := [.int (nI 7)]) (st' := []) (es := [.ref 0, .int (nI 7)]) dPb_mark_22 rz10_104 rfl sh_0 rfl rfl rfl (Nat.le_of_ble_eq_true rfl) (Nat.le_of_ble_eq_true rfl) rfl))
theorem bPb_mark_25 {E : mEn} {d : Nat} {σ : mSt} {Q : mPost} {s0 : Int32} : WP E d mPb_mark 25 [.ref 0] [.int s0] σ Q = Q (some (.int s0)) σ := w_iret dPb_mark_25 rfl
theorem bPb_mark_26 {E : mEn} {d : Nat} {σ : mSt} {Q : mPost} : WP E d mPb_mark 26 [.ref 0] [] σ Q = WP E d mPb_mark 38 [.ref 0] [.int (σ.1 0 9), .ref 60, .ref 10] σ Q := (w_aload_n dPb_mark_26 rfl).trans ((w_getr (r := 10) dPb_mark_27 rz10_26 sh_0 rfl).trans ((w_aload_n dPb_mark_30 rfl).trans ((w_getr (r := 60) dPb_mark_31 rz10_33 sh_0 rfl).trans ((w_aload_n dPb_mark_34 rfl).trans (w_geti dPb_mark_35 rz10_427 sh_0 rfl)))))
theorem bPb_mark_39 {E : mEn} {d : Nat} {σ : mSt} {Q : mPost} {t3 : Nat} (ht3 : isT t3) : WP E (d + 1) mPb_mark 39 [.ref 0] [.ref t3, .ref 10] σ Q = WP E d mPb_carry 0 [.ref 10, .ref t3] [] σ (fun r σ' => WP E (d + 1) mPb_mark 42 [.ref 0] (r.toList ++ []) σ' Q) := w_stat (vs := [.ref 10, .ref t3]) (st' := []) (es := [.ref 10, .ref t3]) dPb_mark_39 rz10_150 rfl rfl rfl (Nat.le_of_ble_eq_true rfl) (Nat.le_of_ble_eq_true rfl) rfl
theorem bPb_mark_42 {E : mEn} {d : Nat} {σ : mSt} {Q : mPost} : WP E (d + 1) mPb_mark 42 [.ref 0] [] σ Q = WP E d mPb_answer 0 [.ref 0, .int ((sI σ 0 9 ((σ.1 0 9) + 1)).1 0 9)] [] (sI σ 0 9 ((σ.1 0 9) + 1)) (fun r σ' => WP E (d + 1) mPb_mark 60 [.ref 0] (r.toList ++ []) σ' Q) := (w_aload_n dPb_mark_42 rfl).trans ((w_dup dPb_mark_43 rfl).trans ((w_geti dPb_mark_44 rz10_427 sh_0 rfl).trans ((w_iconst (v := 1) dPb_mark_47 rfl).trans ((w_iadd dPb_mark_48).trans ((w_puti dPb_mark_49 rz10_427 sh_0 rfl rfl rfl).trans ((w_aload_n dPb_mark_52 rfl).trans ((w_aload_n dPb_mark_53 rfl).trans ((w_geti dPb_mark_54 rz10_427 sh_0 rfl).trans (w_virt (vs := [.int ((sI σ 0 9 ((σ.1 0 9) + 1)).1 0 9)]) (st' := []) (es := [.ref 0, .int ((sI σ 0 9 ((σ.1 0 9) + 1)).1 0 9)]) dPb_mark_57 rz10_157 rfl sh_0 rfl rfl rfl (Nat.le_of_ble_eq_true rfl) (Nat.le_of_ble_eq_true rfl) rfl)))))))))
theorem bPb_mark_60 {E : mEn} {d : Nat} {σ : mSt} {Q : mPost} {s0 : Int32} : WP E d mPb_mark 60 [.ref 0] [.int s0] σ Q = Q (some (.int s0)) σ := w_iret dPb_mark_60 rfl
theorem dPb_back_0 : decode (mC mPb_back) 0 = .ok (.aload_n 0, 1) := by decide +kernel
theorem dPb_back_1 : decode (mC mPb_back) 1 = .ok (.getfield 427, 3) := by decide +kernel
theorem dPb_back_4 : decode (mC mPb_back) 4 = .ok (.iconst (1), 1) := by decide +kernel
theorem dPb_back_5 : decode (mC mPb_back) 5 = .ok (.if_icmp .lt (15), 3) := by decide +kernel
theorem dPb_back_8 : decode (mC mPb_back) 8 = .ok (.aload_n 0, 1) := by decide +kernel
theorem dPb_back_9 : decode (mC mPb_back) 9 = .ok (.getfield 427, 3) := by decide +kernel
theorem dPb_back_12 : decode (mC mPb_back) 12 = .ok (.aload_n 0, 1) := by decide +kernel
theorem dPb_back_13 : decode (mC mPb_back) 13 = .ok (.getfield 33, 3) := by decide +kernel
theorem dPb_back_16 : decode (mC mPb_back) 16 = .ok (.arraylength, 1) := by decide +kernel
theorem dPb_back_17 : decode (mC mPb_back) 17 = .ok (.if_icmp .le (10), 3) := by decide +kernel
theorem dPb_back_20 : decode (mC mPb_back) 20 = .ok (.aload_n 0, 1) := by decide +kernel
theorem dPb_back_21 : decode (mC mPb_back) 21 = .ok (.bipush (8), 2) := by decide +kernel
theorem dPb_back_23 : decode (mC mPb_back) 23 = .ok (.invokevirtual 104, 3) := by decide +kernel
theorem dPb_back_26 : decode (mC mPb_back) 26 = .ok (.ireturn, 1) := by decide +kernel
theorem dPb_back_27 : decode (mC mPb_back) 27 = .ok (.aload_n 0, 1) := by decide +kernel
theorem dPb_back_28 : decode (mC mPb_back) 28 = .ok (.dup, 1) := by decide +kernel
theorem dPb_back_29 : decode (mC mPb_back) 29 = .ok (.getfield 427, 3) := by decide +kernel
theorem dPb_back_32 : decode (mC mPb_back) 32 = .ok (.iconst (1), 1) := by decide +kernel
theorem dPb_back_33 : decode (mC mPb_back) 33 = .ok (.isub, 1) := by decide +kernel
theorem dPb_back_34 : decode (mC mPb_back) 34 = .ok (.putfield 427, 3) := by decide +kernel
theorem dPb_back_37 : decode (mC mPb_back) 37 = .ok (.aload_n 0, 1) := by decide +kernel
theorem dPb_back_38 : decode (mC mPb_back) 38 = .ok (.getfield 33, 3) := by decide +kernel
theorem dPb_back_41 : decode (mC mPb_back) 41 = .ok (.aload_n 0, 1) := by decide +kernel
theorem dPb_back_42 : decode (mC mPb_back) 42 = .ok (.getfield 427, 3) := by decide +kernel
theorem dPb_back_45 : decode (mC mPb_back) 45 = .ok (.aaload, 1) := by decide +kernel
theorem dPb_back_46 : decode (mC mPb_back) 46 = .ok (.aload_n 0, 1) := by decide +kernel
theorem dPb_back_47 : decode (mC mPb_back) 47 = .ok (.getfield 26, 3) := by decide +kernel
theorem dPb_back_50 : decode (mC mPb_back) 50 = .ok (.invokestatic 150, 3) := by decide +kernel
theorem dPb_back_53 : decode (mC mPb_back) 53 = .ok (.aload_n 0, 1) := by decide +kernel
theorem dPb_back_54 : decode (mC mPb_back) 54 = .ok (.aload_n 0, 1) := by decide +kernel
theorem dPb_back_55 : decode (mC mPb_back) 55 = .ok (.getfield 427, 3) := by decide +kernel
theorem dPb_back_58 : decode (mC mPb_back) 58 = .ok (.invokevirtual 157, 3) := by decide +kernel
theorem dPb_back_61 : decode (mC mPb_back) 61 = .ok (.ireturn, 1) := by decide +kernel
theorem bPb_back_0 {E : mEn} {d : Nat} {σ : mSt} {Q : mPost} : WP E d mPb_back 0 [.ref 0] [] σ Q = (if (σ.1 0 9) < 1 then WP E d mPb_back 20 [.ref 0] [] σ Q else WP E d mPb_back 8 [.ref 0] [] σ Q) := (w_aload_n dPb_back_0 rfl).trans ((w_geti dPb_back_1 rz10_427 sh_0 rfl).trans ((w_iconst (v := 1) dPb_back_4 rfl).trans (w_icmplt (t := 20) dPb_back_5 (by decide))))
theorem bPb_back_8 {E : mEn} {d : Nat} {σ : mSt} {Q : mPost} : WP E d mPb_back 8 [.ref 0] [] σ Q = (if (σ.1 0 9) ≤ (nI 3) then WP E d mPb_back 27 [.ref 0] [] σ Q else WP E d mPb_back 20 [.ref 0] [] σ Q) := (w_aload_n dPb_back_8 rfl).trans ((w_geti dPb_back_9 rz10_427 sh_0 rfl).trans ((w_aload_n dPb_back_12 rfl).trans ((w_getr (r := 60) dPb_back_13 rz10_33 sh_0 rfl).trans ((w_len dPb_back_16 (aLen_of sh_60 (by decide) (by decide))).trans (w_icmple (t := 27) dPb_back_17 (by decide))))))
theorem bPb_back_20 {E : mEn} {d : Nat} {σ : mSt} {Q : mPost} : WP E (d + 1) mPb_back 20 [.ref 0] [] σ Q = WP E d mPb_refuse 0 [.ref 0, .int (nI 8)] [] σ (fun r σ' => WP E (d + 1) mPb_back 26 [.ref 0] (r.toList ++ []) σ' Q) := (w_aload_n dPb_back_20 rfl).trans ((w_bipush (v := (nI 8)) dPb_back_21 rfl).trans (w_virt (vs := [.int (nI 8)]) (st' := []) (es := [.ref 0, .int (nI 8)]) dPb_back_23 rz10_104 rfl sh_0 rfl rfl rfl (Nat.le_of_ble_eq_true rfl) (Nat.le_of_ble_eq_true rfl) rfl))
theorem bPb_back_26 {E : mEn} {d : Nat} {σ : mSt} {Q : mPost} {s0 : Int32} : WP E d mPb_back 26 [.ref 0] [.int s0] σ Q = Q (some (.int s0)) σ := w_iret dPb_back_26 rfl
theorem bPb_back_27 {E : mEn} {d : Nat} {σ : mSt} {Q : mPost} : WP E d mPb_back 27 [.ref 0] [] σ Q = WP E d mPb_back 45 [.ref 0] [.int ((sI σ 0 9 ((σ.1 0 9) - 1)).1 0 9), .ref 60] (sI σ 0 9 ((σ.1 0 9) - 1)) Q := (w_aload_n dPb_back_27 rfl).trans ((w_dup dPb_back_28 rfl).trans ((w_geti dPb_back_29 rz10_427 sh_0 rfl).trans ((w_iconst (v := 1) dPb_back_32 rfl).trans ((w_isub dPb_back_33).trans ((w_puti dPb_back_34 rz10_427 sh_0 rfl rfl rfl).trans ((w_aload_n dPb_back_37 rfl).trans ((w_getr (r := 60) dPb_back_38 rz10_33 sh_0 rfl).trans ((w_aload_n dPb_back_41 rfl).trans (w_geti dPb_back_42 rz10_427 sh_0 rfl)))))))))
theorem bPb_back_46 {E : mEn} {d : Nat} {σ : mSt} {Q : mPost} {t3 : Nat} (ht3 : isT t3) : WP E (d + 1) mPb_back 46 [.ref 0] [.ref t3] σ Q = WP E d mPb_carry 0 [.ref t3, .ref 10] [] σ (fun r σ' => WP E (d + 1) mPb_back 53 [.ref 0] (r.toList ++ []) σ' Q) := (w_aload_n dPb_back_46 rfl).trans ((w_getr (r := 10) dPb_back_47 rz10_26 sh_0 rfl).trans (w_stat (vs := [.ref t3, .ref 10]) (st' := []) (es := [.ref t3, .ref 10]) dPb_back_50 rz10_150 rfl rfl rfl (Nat.le_of_ble_eq_true rfl) (Nat.le_of_ble_eq_true rfl) rfl))
theorem bPb_back_53 {E : mEn} {d : Nat} {σ : mSt} {Q : mPost} : WP E (d + 1) mPb_back 53 [.ref 0] [] σ Q = WP E d mPb_answer 0 [.ref 0, .int (σ.1 0 9)] [] σ (fun r σ' => WP E (d + 1) mPb_back 61 [.ref 0] (r.toList ++ []) σ' Q) := (w_aload_n dPb_back_53 rfl).trans ((w_aload_n dPb_back_54 rfl).trans ((w_geti dPb_back_55 rz10_427 sh_0 rfl).trans (w_virt (vs := [.int (σ.1 0 9)]) (st' := []) (es := [.ref 0, .int (σ.1 0 9)]) dPb_back_58 rz10_157 rfl sh_0 rfl rfl rfl (Nat.le_of_ble_eq_true rfl) (Nat.le_of_ble_eq_true rfl) rfl)))
theorem bPb_back_61 {E : mEn} {d : Nat} {σ : mSt} {Q : mPost} {s0 : Int32} : WP E d mPb_back 61 [.ref 0] [.int s0] σ Q = Q (some (.int s0)) σ := w_iret dPb_back_61 rfl
