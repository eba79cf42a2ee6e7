theorem dMo_status_0 : decode (mC mMo_status) 0 = .ok (.aload_n 0, 1) := by decide +kernel
theorem dMo_status_1 : decode (mC mMo_status) 1 = .ok (.iconst (0), 1) := by decide +kernel
theorem dMo_status_2 : decode (mC mMo_status) 2 = .ok (.putfield 74, 3) := by decide +kernel
theorem dMo_status_5 : decode (mC mMo_status) 5 = .ok (.aload_n 0, 1) := by decide +kernel
theorem dMo_status_6 : decode (mC mMo_status) 6 = .ok (.getfield 77, 3) := by decide +kernel
theorem dMo_status_9 : decode (mC mMo_status) 9 = .ok (.ireturn, 1) := by decide +kernel
theorem bMo_status_0 {E : mEn} {d : Nat} {σ : mSt} {Q : mPost} : WP E d mMo_status 0 [.ref 166] [] σ Q = Q (some (.int ((sI σ 166 1 0).1 166 0))) (sI σ 166 1 0) := (w_aload_n dMo_status_0 rfl).trans ((w_iconst (v := 0) dMo_status_1 rfl).trans ((w_puti dMo_status_2 rz11_74 sh_166 rfl rfl rfl).trans ((w_aload_n dMo_status_5 rfl).trans ((w_geti dMo_status_6 rz11_77 sh_166 rfl).trans (w_iret dMo_status_9 rfl)))))
theorem dMo_top_0 : decode (mC mMo_top) 0 = .ok (.aload_n 0, 1) := by decide +kernel
theorem dMo_top_1 : decode (mC mMo_top) 1 = .ok (.iconst (0), 1) := by decide +kernel
theorem dMo_top_2 : decode (mC mMo_top) 2 = .ok (.putfield 74, 3) := by decide +kernel
theorem dMo_top_5 : decode (mC mMo_top) 5 = .ok (.aload_n 0, 1) := by decide +kernel
theorem dMo_top_6 : decode (mC mMo_top) 6 = .ok (.getfield 80, 3) := by decide +kernel
theorem dMo_top_9 : decode (mC mMo_top) 9 = .ok (.lreturn, 1) := by decide +kernel
theorem bMo_top_0 {E : mEn} {d : Nat} {σ : mSt} {Q : mPost} : WP E d mMo_top 0 [.ref 166] [] σ Q = Q (some (.long ((sI σ 166 1 0).2 166 2))) (sI σ 166 1 0) := (w_aload_n dMo_top_0 rfl).trans ((w_iconst (v := 0) dMo_top_1 rfl).trans ((w_puti dMo_top_2 rz11_74 sh_166 rfl rfl rfl).trans ((w_aload_n dMo_top_5 rfl).trans ((w_getl dMo_top_6 rz11_80 sh_166 rfl).trans (w_lret dMo_top_9 rfl)))))
theorem dMo_bottom_0 : decode (mC mMo_bottom) 0 = .ok (.aload_n 0, 1) := by decide +kernel
theorem dMo_bottom_1 : decode (mC mMo_bottom) 1 = .ok (.iconst (0), 1) := by decide +kernel
theorem dMo_bottom_2 : decode (mC mMo_bottom) 2 = .ok (.putfield 74, 3) := by decide +kernel
theorem dMo_bottom_5 : decode (mC mMo_bottom) 5 = .ok (.aload_n 0, 1) := by decide +kernel
theorem dMo_bottom_6 : decode (mC mMo_bottom) 6 = .ok (.getfield 7, 3) := by decide +kernel
theorem dMo_bottom_9 : decode (mC mMo_bottom) 9 = .ok (.lreturn, 1) := by decide +kernel
theorem bMo_bottom_0 {E : mEn} {d : Nat} {σ : mSt} {Q : mPost} : WP E d mMo_bottom 0 [.ref 166] [] σ Q = Q (some (.long ((sI σ 166 1 0).2 166 3))) (sI σ 166 1 0) := (w_aload_n dMo_bottom_0 rfl).trans ((w_iconst (v := 0) dMo_bottom_1 rfl).trans ((w_puti dMo_bottom_2 rz11_74 sh_166 rfl rfl rfl).trans ((w_aload_n dMo_bottom_5 rfl).trans ((w_getl dMo_bottom_6 rz11_7 sh_166 rfl).trans (w_lret dMo_bottom_9 rfl)))))
theorem dMo_tray_0 : decode (mC mMo_tray) 0 = .ok (.aload_n 0, 1) := by decide +kernel
theorem dMo_tray_1 : decode (mC mMo_tray) 1 = .ok (.iconst (0), 1) := by decide +kernel
theorem dMo_tray_2 : decode (mC mMo_tray) 2 = .ok (.putfield 74, 3) := by decide +kernel
theorem dMo_tray_5 : decode (mC mMo_tray) 5 = .ok (.aload_n 0, 1) := by decide +kernel
theorem dMo_tray_6 : decode (mC mMo_tray) 6 = .ok (.iconst (0), 1) := by decide +kernel
theorem dMo_tray_7 : decode (mC mMo_tray) 7 = .ok (.putfield 77, 3) := by decide +kernel
theorem dMo_tray_10 : decode (mC mMo_tray) 10 = .ok (.iload_n 1, 1) := by decide +kernel
theorem dMo_tray_11 : decode (mC mMo_tray) 11 = .ok (.ifCond .lt (17), 3) := by decide +kernel
theorem dMo_tray_14 : decode (mC mMo_tray) 14 = .ok (.iload_n 1, 1) := by decide +kernel
theorem dMo_tray_15 : decode (mC mMo_tray) 15 = .ok (.iconst (4), 1) := by decide +kernel
theorem dMo_tray_16 : decode (mC mMo_tray) 16 = .ok (.if_icmp .ge (12), 3) := by decide +kernel
theorem dMo_tray_19 : decode (mC mMo_tray) 19 = .ok (.iload_n 2, 1) := by decide +kernel
theorem dMo_tray_20 : decode (mC mMo_tray) 20 = .ok (.ifCond .lt (8), 3) := by decide +kernel
theorem dMo_tray_23 : decode (mC mMo_tray) 23 = .ok (.iload_n 2, 1) := by decide +kernel
theorem dMo_tray_24 : decode (mC mMo_tray) 24 = .ok (.iconst (3), 1) := by decide +kernel
theorem dMo_tray_25 : decode (mC mMo_tray) 25 = .ok (.if_icmp .le (9), 3) := by decide +kernel
theorem dMo_tray_28 : decode (mC mMo_tray) 28 = .ok (.aload_n 0, 1) := by decide +kernel
theorem dMo_tray_29 : decode (mC mMo_tray) 29 = .ok (.iconst (1), 1) := by decide +kernel
theorem dMo_tray_30 : decode (mC mMo_tray) 30 = .ok (.invokevirtual 89, 3) := by decide +kernel
theorem dMo_tray_33 : decode (mC mMo_tray) 33 = .ok (.ireturn, 1) := by decide +kernel
theorem dMo_tray_34 : decode (mC mMo_tray) 34 = .ok (.iload_n 3, 1) := by decide +kernel
theorem dMo_tray_35 : decode (mC mMo_tray) 35 = .ok (.bipush (60), 2) := by decide +kernel
theorem dMo_tray_37 : decode (mC mMo_tray) 37 = .ok (.if_icmp .le (9), 3) := by decide +kernel
theorem dMo_tray_40 : decode (mC mMo_tray) 40 = .ok (.aload_n 0, 1) := by decide +kernel
theorem dMo_tray_41 : decode (mC mMo_tray) 41 = .ok (.iconst (5), 1) := by decide +kernel
theorem dMo_tray_42 : decode (mC mMo_tray) 42 = .ok (.invokevirtual 89, 3) := by decide +kernel
theorem dMo_tray_45 : decode (mC mMo_tray) 45 = .ok (.ireturn, 1) := by decide +kernel
theorem dMo_tray_46 : decode (mC mMo_tray) 46 = .ok (.iload_n 3, 1) := by decide +kernel
theorem dMo_tray_47 : decode (mC mMo_tray) 47 = .ok (.ifCond .ge (10), 3) := by decide +kernel
theorem dMo_tray_50 : decode (mC mMo_tray) 50 = .ok (.aload_n 0, 1) := by decide +kernel
theorem dMo_tray_51 : decode (mC mMo_tray) 51 = .ok (.bipush (6), 2) := by decide +kernel
theorem dMo_tray_53 : decode (mC mMo_tray) 53 = .ok (.invokevirtual 89, 3) := by decide +kernel
theorem dMo_tray_56 : decode (mC mMo_tray) 56 = .ok (.ireturn, 1) := by decide +kernel
theorem dMo_tray_57 : decode (mC mMo_tray) 57 = .ok (.aload_n 0, 1) := by decide +kernel
theorem dMo_tray_58 : decode (mC mMo_tray) 58 = .ok (.getfield 13, 3) := by decide +kernel
theorem dMo_tray_61 : decode (mC mMo_tray) 61 = .ok (.iload_n 1, 1) := by decide +kernel
theorem dMo_tray_62 : decode (mC mMo_tray) 62 = .ok (.iload_n 2, 1) := by decide +kernel
theorem dMo_tray_63 : decode (mC mMo_tray) 63 = .ok (.iastore, 1) := by decide +kernel
theorem dMo_tray_64 : decode (mC mMo_tray) 64 = .ok (.aload_n 0, 1) := by decide +kernel
theorem dMo_tray_65 : decode (mC mMo_tray) 65 = .ok (.getfield 17, 3) := by decide +kernel
theorem dMo_tray_68 : decode (mC mMo_tray) 68 = .ok (.iload_n 1, 1) := by decide +kernel
theorem dMo_tray_69 : decode (mC mMo_tray) 69 = .ok (.iload_n 3, 1) := by decide +kernel
theorem dMo_tray_70 : decode (mC mMo_tray) 70 = .ok (.iastore, 1) := by decide +kernel
theorem dMo_tray_71 : decode (mC mMo_tray) 71 = .ok (.iconst (0), 1) := by decide +kernel
theorem dMo_tray_72 : decode (mC mMo_tray) 72 = .ok (.istore 4, 2) := by decide +kernel
theorem dMo_tray_74 : decode (mC mMo_tray) 74 = .ok (.iload 4, 2) := by decide +kernel
theorem dMo_tray_76 : decode (mC mMo_tray) 76 = .ok (.iload_n 3, 1) := by decide +kernel
theorem dMo_tray_77 : decode (mC mMo_tray) 77 = .ok (.if_icmp .ge (22), 3) := by decide +kernel
theorem dMo_tray_80 : decode (mC mMo_tray) 80 = .ok (.aload_n 0, 1) := by decide +kernel
theorem dMo_tray_81 : decode (mC mMo_tray) 81 = .ok (.getfield 20, 3) := by decide +kernel
theorem dMo_tray_84 : decode (mC mMo_tray) 84 = .ok (.bipush (60), 2) := by decide +kernel
theorem dMo_tray_86 : decode (mC mMo_tray) 86 = .ok (.iload_n 1, 1) := by decide +kernel
theorem dMo_tray_87 : decode (mC mMo_tray) 87 = .ok (.imul, 1) := by decide +kernel
theorem dMo_tray_88 : decode (mC mMo_tray) 88 = .ok (.iload 4, 2) := by decide +kernel
theorem dMo_tray_90 : decode (mC mMo_tray) 90 = .ok (.iadd, 1) := by decide +kernel
theorem dMo_tray_91 : decode (mC mMo_tray) 91 = .ok (.lconst 0, 1) := by decide +kernel
theorem dMo_tray_92 : decode (mC mMo_tray) 92 = .ok (.lastore, 1) := by decide +kernel
theorem dMo_tray_93 : decode (mC mMo_tray) 93 = .ok (.iinc 4 (1), 3) := by decide +kernel
theorem dMo_tray_96 : decode (mC mMo_tray) 96 = .ok (.goto (-22), 3) := by decide +kernel
theorem dMo_tray_99 : decode (mC mMo_tray) 99 = .ok (.iconst (1), 1) := by decide +kernel
theorem dMo_tray_100 : decode (mC mMo_tray) 100 = .ok (.ireturn, 1) := by decide +kernel
theorem bMo_tray_0 {E : mEn} {d : Nat} {σ : mSt} {Q : mPost} {a1 : Int32} {a2 : Int32} {a3 : Int32} {u4 : Value} : WP E d mMo_tray 0 [.ref 166, .int a1, .int a2, .int a3, u4] [] σ Q = (if a1 < 0 then WP E d mMo_tray 28 [.ref 166, .int a1, .int a2, .int a3, u4] [] (sI (sI σ 166 1 0) 166 0 0) Q else WP E d mMo_tray 14 [.ref 166, .int a1, .int a2, .int a3, u4] [] (sI (sI σ 166 1 0) 166 0 0) Q) := (w_aload_n dMo_tray_0 rfl).trans ((w_iconst (v := 0) dMo_tray_1 rfl).trans ((w_puti dMo_tray_2 rz11_74 sh_166 rfl rfl rfl).trans ((w_aload_n dMo_tray_5 rfl).trans ((w_iconst (v := 0) dMo_tray_6 rfl).trans ((w_puti dMo_tray_7 rz11_77 sh_166 rfl rfl rfl).trans ((w_iload_n dMo_tray_10 rfl).trans (w_iflt (t := 28) dMo_tray_11 (by decide))))))))
theorem bMo_tray_14 {E : mEn} {d : Nat} {σ : mSt} {Q : mPost} {a1 : Int32} {a2 : Int32} {a3 : Int32} {u4 : Value} : WP E d mMo_tray 14 [.ref 166, .int a1, .int a2, .int a3, u4] [] σ Q = (if (nI 4) ≤ a1 then WP E d mMo_tray 28 [.ref 166, .int a1, .int a2, .int a3, u4] [] σ Q else WP E d mMo_tray 19 [.ref 166, .int a1, .int a2, .int a3, u4] [] σ Q) := (w_iload_n dMo_tray_14 rfl).trans ((w_iconst (v := (nI 4)) dMo_tray_15 rfl).trans (w_icmpge (t := 28) dMo_tray_16 (by decide)))
theorem bMo_tray_19 {E : mEn} {d : Nat} {σ : mSt} {Q : mPost} {a1 : Int32} {a2 : Int32} {a3 : Int32} {u4 : Value} : WP E d mMo_tray 19 [.ref 166, .int a1, .int a2, .int a3, u4] [] σ Q = (if a2 < 0 then WP E d mMo_tray 28 [.ref 166, .int a1, .int a2, .int a3, u4] [] σ Q else WP E d mMo_tray 23 [.ref 166, .int a1, .int a2, .int a3, u4] [] σ Q) := (w_iload_n dMo_tray_19 rfl).trans (w_iflt (t := 28) dMo_tray_20 (by decide))
theorem bMo_tray_23 {E : mEn} {d : Nat} {σ : mSt} {Q : mPost} {a1 : Int32} {a2 : Int32} {a3 : Int32} {u4 : Value} : WP E d mMo_tray 23 [.ref 166, .int a1, .int a2, .int a3, u4] [] σ Q = (if a2 ≤ (nI 3) then WP E d mMo_tray 34 [.ref 166, .int a1, .int a2, .int a3, u4] [] σ Q else WP E d mMo_tray 28 [.ref 166, .int a1, .int a2, .int a3, u4] [] σ Q) := (w_iload_n dMo_tray_23 rfl).trans ((w_iconst (v := (nI 3)) dMo_tray_24 rfl).trans (w_icmple (t := 34) dMo_tray_25 (by decide)))
theorem bMo_tray_28 {E : mEn} {d : Nat} {σ : mSt} {Q : mPost} {a1 : Int32} {a2 : Int32} {a3 : Int32} {u4 : Value} : WP E (d + 1) mMo_tray 28 [.ref 166, .int a1, .int a2, .int a3, u4] [] σ Q = WP E d mMo_no 0 [.ref 166, .int 1] [] σ (fun r σ' => WP E (d + 1) mMo_tray 33 [.ref 166, .int a1, .int a2, .int a3, u4] (r.toList ++ []) σ' Q) := (w_aload_n dMo_tray_28 rfl).trans ((w_iconst (v := 1) dMo_tray_29 rfl).trans (w_virt (vs := [.int 1]) (st' := []) (es := [.ref 166, .int 1]) dMo_tray_30 rz11_89 rfl sh_166 rfl rfl rfl (Nat.le_of_ble_eq_true rfl) (Nat.le_of_ble_eq_true rfl) rfl))
theorem bMo_tray_33 {E : mEn} {d : Nat} {σ : mSt} {Q : mPost} {a1 : Int32} {a2 : Int32} {a3 : Int32} {u4 : Value} {s0 : Int32} (hz0 : s0 = 0 ∨ s0 = 1) : WP E d mMo_tray 33 [.ref 166, .int a1, .int a2, .int a3, u4] [.int s0] σ Q = Q (some (.int s0)) σ := w_zret dMo_tray_33 rfl hz0
theorem bMo_tray_34 {E : mEn} {d : Nat} {σ : mSt} {Q : mPost} {a1 : Int32} {a2 : Int32} {a3 : Int32} {u4 : Value} : WP E d mMo_tray 34 [.ref 166, .int a1, .int a2, .int a3, u4] [] σ Q = (if a3 ≤ (nI 60) then WP E d mMo_tray 46 [.ref 166, .int a1, .int a2, .int a3, u4] [] σ Q else WP E d mMo_tray 40 [.ref 166, .int a1, .int a2, .int a3, u4] [] σ Q) := (w_iload_n dMo_tray_34 rfl).trans ((w_bipush (v := (nI 60)) dMo_tray_35 rfl).trans (w_icmple (t := 46) dMo_tray_37 (by decide)))
theorem bMo_tray_40 {E : mEn} {d : Nat} {σ : mSt} {Q : mPost} {a1 : Int32} {a2 : Int32} {a3 : Int32} {u4 : Value} : WP E (d + 1) mMo_tray 40 [.ref 166, .int a1, .int a2, .int a3, u4] [] σ Q = WP E d mMo_no 0 [.ref 166, .int (nI 5)] [] σ (fun r σ' => WP E (d + 1) mMo_tray 45 [.ref 166, .int a1, .int a2, .int a3, u4] (r.toList ++ []) σ' Q) := (w_aload_n dMo_tray_40 rfl).trans ((w_iconst (v := (nI 5)) dMo_tray_41 rfl).trans (w_virt (vs := [.int (nI 5)]) (st' := []) (es := [.ref 166, .int (nI 5)]) dMo_tray_42 rz11_89 rfl sh_166 rfl rfl rfl (Nat.le_of_ble_eq_true rfl) (Nat.le_of_ble_eq_true rfl) rfl))
theorem bMo_tray_45 {E : mEn} {d : Nat} {σ : mSt} {Q : mPost} {a1 : Int32} {a2 : Int32} {a3 : Int32} {u4 : Value} {s0 : Int32} (hz0 : s0 = 0 ∨ s0 = 1) : WP E d mMo_tray 45 [.ref 166, .int a1, .int a2, .int a3, u4] [.int s0] σ Q = Q (some (.int s0)) σ := w_zret dMo_tray_45 rfl hz0
theorem bMo_tray_46 {E : mEn} {d : Nat} {σ : mSt} {Q : mPost} {a1 : Int32} {a2 : Int32} {a3 : Int32} {u4 : Value} : WP E d mMo_tray 46 [.ref 166, .int a1, .int a2, .int a3, u4] [] σ Q = (if 0 ≤ a3 then WP E d mMo_tray 57 [.ref 166, .int a1, .int a2, .int a3, u4] [] σ Q else WP E d mMo_tray 50 [.ref 166, .int a1, .int a2, .int a3, u4] [] σ Q) := (w_iload_n dMo_tray_46 rfl).trans (w_ifge (t := 57) dMo_tray_47 (by decide))
theorem bMo_tray_50 {E : mEn} {d : Nat} {σ : mSt} {Q : mPost} {a1 : Int32} {a2 : Int32} {a3 : Int32} {u4 : Value} : WP E (d + 1) mMo_tray 50 [.ref 166, .int a1, .int a2, .int a3, u4] [] σ Q = WP E d mMo_no 0 [.ref 166, .int (nI 6)] [] σ (fun r σ' => WP E (d + 1) mMo_tray 56 [.ref 166, .int a1, .int a2, .int a3, u4] (r.toList ++ []) σ' Q) := (w_aload_n dMo_tray_50 rfl).trans ((w_bipush (v := (nI 6)) dMo_tray_51 rfl).trans (w_virt (vs := [.int (nI 6)]) (st' := []) (es := [.ref 166, .int (nI 6)]) dMo_tray_53 rz11_89 rfl sh_166 rfl rfl rfl (Nat.le_of_ble_eq_true rfl) (Nat.le_of_ble_eq_true rfl) rfl))
theorem bMo_tray_56 {E : mEn} {d : Nat} {σ : mSt} {Q : mPost} {a1 : Int32} {a2 : Int32} {a3 : Int32} {u4 : Value} {s0 : Int32} (hz0 : s0 = 0 ∨ s0 = 1) : WP E d mMo_tray 56 [.ref 166, .int a1, .int a2, .int a3, u4] [.int s0] σ Q = Q (some (.int s0)) σ := w_zret dMo_tray_56 rfl hz0
theorem bMo_tray_57 {E : mEn} {d : Nat} {σ : mSt} {Q : mPost} {a1 : Int32} {a2 : Int32} {a3 : Int32} {u4 : Value} : WP E d mMo_tray 57 [.ref 166, .int a1, .int a2, .int a3, u4] [] σ Q = (if mOut a1 4 = true then False else (if mOut a1 4 = true then False else WP E d mMo_tray 74 [.ref 166, .int a1, .int a2, .int a3, .int 0] [] (sI (sI σ 167 a1.toNatClampNeg a2) 168 a1.toNatClampNeg a3) Q)) := (w_aload_n dMo_tray_57 rfl).trans ((w_getr (r := 167) dMo_tray_58 rz11_13 sh_166 rfl).trans ((w_iload_n dMo_tray_61 rfl).trans ((w_iload_n dMo_tray_62 rfl).trans ((w_iast dMo_tray_63 sh_167).trans (ite_c ((w_aload_n dMo_tray_64 rfl).trans ((w_getr (r := 168) dMo_tray_65 rz11_17 sh_166 rfl).trans ((w_iload_n dMo_tray_68 rfl).trans ((w_iload_n dMo_tray_69 rfl).trans ((w_iast dMo_tray_70 sh_168).trans (ite_c ((w_iconst (v := 0) dMo_tray_71 rfl).trans (w_istore (ls' := [.ref 166, .int a1, .int a2, .int a3, .int 0]) dMo_tray_72 (Nat.le_of_ble_eq_true rfl) rfl)))))))))))))
theorem bMo_tray_74 {E : mEn} {d : Nat} {σ : mSt} {Q : mPost} {a1 : Int32} {a2 : Int32} {a3 : Int32} {a4 : Int32} : WP E d mMo_tray 74 [.ref 166, .int a1, .int a2, .int a3, .int a4] [] σ Q = (if a3 ≤ a4 then WP E d mMo_tray 99 [.ref 166, .int a1, .int a2, .int a3, .int a4] [] σ Q else WP E d mMo_tray 80 [.ref 166, .int a1, .int a2, .int a3, .int a4] [] σ Q) := (w_iload dMo_tray_74 rfl).trans ((w_iload_n dMo_tray_76 rfl).trans (w_icmpge (t := 99) dMo_tray_77 (by decide)))
theorem bMo_tray_80 {E : mEn} {d : Nat} {σ : mSt} {Q : mPost} {a1 : Int32} {a2 : Int32} {a3 : Int32} {a4 : Int32} : WP E d mMo_tray 80 [.ref 166, .int a1, .int a2, .int a3, .int a4] [] σ Q = (if mOut (((nI 60) * a1) + a4) 240 = true then False else WP E d mMo_tray 74 [.ref 166, .int a1, .int a2, .int a3, .int (a4 + 1)] [] (sL σ 169 (((nI 60) * a1) + a4).toNatClampNeg 0) Q) := (w_aload_n dMo_tray_80 rfl).trans ((w_getr (r := 169) dMo_tray_81 rz11_20 sh_166 rfl).trans ((w_bipush (v := (nI 60)) dMo_tray_84 rfl).trans ((w_iload_n dMo_tray_86 rfl).trans ((w_imul dMo_tray_87).trans ((w_iload dMo_tray_88 rfl).trans ((w_iadd dMo_tray_90).trans ((w_lconst (v := 0) dMo_tray_91 rfl).trans ((w_last dMo_tray_92 sh_169).trans (ite_c ((w_iinc (v := 1) (ls' := [.ref 166, .int a1, .int a2, .int a3, .int (a4 + 1)]) dMo_tray_93 rfl rfl rfl).trans (w_goto (t := 74) dMo_tray_96 (by decide))))))))))))
theorem bMo_tray_99 {E : mEn} {d : Nat} {σ : mSt} {Q : mPost} {a1 : Int32} {a2 : Int32} {a3 : Int32} {a4 : Int32} : WP E d mMo_tray 99 [.ref 166, .int a1, .int a2, .int a3, .int a4] [] σ Q = Q (some (.int 1)) σ := (w_iconst (v := 1) dMo_tray_99 rfl).trans (w_zret dMo_tray_100 rfl (Or.inr rfl))
theorem dMo_no_0 : decode (mC mMo_no) 0 = .ok (.aload_n 0, 1) := by decide +kernel
theorem dMo_no_1 : decode (mC mMo_no) 1 = .ok (.iload_n 1, 1) := by decide +kernel
theorem dMo_no_2 : decode (mC mMo_no) 2 = .ok (.putfield 77, 3) := by decide +kernel
theorem dMo_no_5 : decode (mC mMo_no) 5 = .ok (.iconst (0), 1) := by decide +kernel
theorem dMo_no_6 : decode (mC mMo_no) 6 = .ok (.ireturn, 1) := by decide +kernel
theorem bMo_no_0 {E : mEn} {d : Nat} {σ : mSt} {Q : mPost} {a1 : Int32} : WP E d mMo_no 0 [.ref 166, .int a1] [] σ Q = Q (some (.int 0)) (sI σ 166 0 a1) := (w_aload_n dMo_no_0 rfl).trans ((w_iload_n dMo_no_1 rfl).trans ((w_puti dMo_no_2 rz11_77 sh_166 rfl rfl rfl).trans ((w_iconst (v := 0) dMo_no_5 rfl).trans (w_zret dMo_no_6 rfl (Or.inl rfl)))))
theorem dMo_write_0 : decode (mC mMo_write) 0 = .ok (.aload_n 0, 1) := by decide +kernel
theorem dMo_write_1 : decode (mC mMo_write) 1 = .ok (.iconst (0), 1) := by decide +kernel
theorem dMo_write_2 : decode (mC mMo_write) 2 = .ok (.putfield 74, 3) := by decide +kernel
theorem dMo_write_5 : decode (mC mMo_write) 5 = .ok (.aload_n 0, 1) := by decide +kernel
theorem dMo_write_6 : decode (mC mMo_write) 6 = .ok (.aload_n 0, 1) := by decide +kernel
theorem dMo_write_7 : decode (mC mMo_write) 7 = .ok (.iload_n 1, 1) := by decide +kernel
theorem dMo_write_8 : decode (mC mMo_write) 8 = .ok (.iload_n 2, 1) := by decide +kernel
theorem dMo_write_9 : decode (mC mMo_write) 9 = .ok (.invokevirtual 97, 3) := by decide +kernel
theorem dMo_write_12 : decode (mC mMo_write) 12 = .ok (.putfield 77, 3) := by decide +kernel
theorem dMo_write_15 : decode (mC mMo_write) 15 = .ok (.aload_n 0, 1) := by decide +kernel
theorem dMo_write_16 : decode (mC mMo_write) 16 = .ok (.getfield 77, 3) := by decide +kernel
theorem dMo_write_19 : decode (mC mMo_write) 19 = .ok (.ifCond .le (5), 3) := by decide +kernel
theorem dMo_write_22 : decode (mC mMo_write) 22 = .ok (.iconst (0), 1) := by decide +kernel
theorem dMo_write_23 : decode (mC mMo_write) 23 = .ok (.ireturn, 1) := by decide +kernel
theorem dMo_write_24 : decode (mC mMo_write) 24 = .ok (.aload_n 0, 1) := by decide +kernel
theorem dMo_write_25 : decode (mC mMo_write) 25 = .ok (.getfield 20, 3) := by decide +kernel
theorem dMo_write_28 : decode (mC mMo_write) 28 = .ok (.bipush (60), 2) := by decide +kernel
theorem dMo_write_30 : decode (mC mMo_write) 30 = .ok (.iload_n 1, 1) := by decide +kernel
theorem dMo_write_31 : decode (mC mMo_write) 31 = .ok (.imul, 1) := by decide +kernel
theorem dMo_write_32 : decode (mC mMo_write) 32 = .ok (.iload_n 2, 1) := by decide +kernel
theorem dMo_write_33 : decode (mC mMo_write) 33 = .ok (.iadd, 1) := by decide +kernel
theorem dMo_write_34 : decode (mC mMo_write) 34 = .ok (.aload_n 0, 1) := by decide +kernel
theorem dMo_write_35 : decode (mC mMo_write) 35 = .ok (.getfield 13, 3) := by decide +kernel
theorem dMo_write_38 : decode (mC mMo_write) 38 = .ok (.iload_n 1, 1) := by decide +kernel
theorem dMo_write_39 : decode (mC mMo_write) 39 = .ok (.iaload, 1) := by decide +kernel
theorem dMo_write_40 : decode (mC mMo_write) 40 = .ok (.lload_n 3, 1) := by decide +kernel
theorem dMo_write_41 : decode (mC mMo_write) 41 = .ok (.invokestatic 101, 3) := by decide +kernel
theorem dMo_write_44 : decode (mC mMo_write) 44 = .ok (.lastore, 1) := by decide +kernel
theorem dMo_write_45 : decode (mC mMo_write) 45 = .ok (.iconst (1), 1) := by decide +kernel
theorem dMo_write_46 : decode (mC mMo_write) 46 = .ok (.ireturn, 1) := by decide +kernel
theorem bMo_write_0 {E : mEn} {d : Nat} {σ : mSt} {Q : mPost} {a1 : Int32} {a2 : Int32} {j3 : Int64} : WP E (d + 1) mMo_write 0 [.ref 166, .int a1, .int a2, .long j3, uu] [] σ Q = WP E d mMo_placed 0 [.ref 166, .int a1, .int a2, uu] [] (sI σ 166 1 0) (fun r σ' => WP E (d + 1) mMo_write 12 [.ref 166, .int a1, .int a2, .long j3, uu] (r.toList ++ [.ref 166]) σ' Q) := (w_aload_n dMo_write_0 rfl).trans ((w_iconst (v := 0) dMo_write_1 rfl).trans ((w_puti dMo_write_2 rz11_74 sh_166 rfl rfl rfl).trans ((w_aload_n dMo_write_5 rfl).trans ((w_aload_n dMo_write_6 rfl).trans ((w_iload_n dMo_write_7 rfl).trans ((w_iload_n dMo_write_8 rfl).trans (w_virt (vs := [.int a1, .int a2]) (st' := [.ref 166]) (es := [.ref 166, .int a1, .int a2, uu]) dMo_write_9 rz11_97 rfl sh_166 rfl rfl rfl (Nat.le_of_ble_eq_true rfl) (Nat.le_of_ble_eq_true rfl) rfl)))))))
theorem bMo_write_12 {E : mEn} {d : Nat} {σ : mSt} {Q : mPost} {a1 : Int32} {a2 : Int32} {j3 : Int64} {s0 : Int32} : WP E d mMo_write 12 [.ref 166, .int a1, .int a2, .long j3, uu] [.int s0, .ref 166] σ Q = (if ((sI σ 166 0 s0).1 166 0) ≤ 0 then WP E d mMo_write 24 [.ref 166, .int a1, .int a2, .long j3, uu] [] (sI σ 166 0 s0) Q else WP E d mMo_write 22 [.ref 166, .int a1, .int a2, .long j3, uu] [] (sI σ 166 0 s0) Q) := (w_puti dMo_write_12 rz11_77 sh_166 rfl rfl rfl).trans ((w_aload_n dMo_write_15 rfl).trans ((w_geti dMo_write_16 rz11_77 sh_166 rfl).trans (w_ifle (t := 24) dMo_write_19 (by decide))))
theorem bMo_write_22 {E : mEn} {d : Nat} {σ : mSt} {Q : mPost} {a1 : Int32} {a2 : Int32} {j3 : Int64} : WP E d mMo_write 22 [.ref 166, .int a1, .int a2, .long j3, uu] [] σ Q = Q (some (.int 0)) σ := (w_iconst (v := 0) dMo_write_22 rfl).trans (w_zret dMo_write_23 rfl (Or.inl rfl))
theorem bMo_write_24 {E : mEn} {d : Nat} {σ : mSt} {Q : mPost} {a1 : Int32} {a2 : Int32} {j3 : Int64} : WP E (d + 1) mMo_write 24 [.ref 166, .int a1, .int a2, .long j3, uu] [] σ Q = (if mOut a1 4 = true then False else WP E d mMo_cut 0 [.int (σ.1 167 a1.toNatClampNeg), .long j3, uu] [] σ (fun r σ' => WP E (d + 1) mMo_write 44 [.ref 166, .int a1, .int a2, .long j3, uu] (r.toList ++ [.int (((nI 60) * a1) + a2), .ref 169]) σ' Q)) := (w_aload_n dMo_write_24 rfl).trans ((w_getr (r := 169) dMo_write_25 rz11_20 sh_166 rfl).trans ((w_bipush (v := (nI 60)) dMo_write_28 rfl).trans ((w_iload_n dMo_write_30 rfl).trans ((w_imul dMo_write_31).trans ((w_iload_n dMo_write_32 rfl).trans ((w_iadd dMo_write_33).trans ((w_aload_n dMo_write_34 rfl).trans ((w_getr (r := 167) dMo_write_35 rz11_13 sh_166 rfl).trans ((w_iload_n dMo_write_38 rfl).trans ((w_iald dMo_write_39 sh_167 (by decide)).trans (ite_c ((w_lload_n dMo_write_40 rfl).trans (w_stat (vs := [.int (σ.1 167 a1.toNatClampNeg), .long j3]) (st' := [.int (((nI 60) * a1) + a2), .ref 169]) (es := [.int (σ.1 167 a1.toNatClampNeg), .long j3, uu]) dMo_write_41 rz11_101 rfl rfl rfl (Nat.le_of_ble_eq_true rfl) (Nat.le_of_ble_eq_true rfl) rfl)))))))))))))
theorem bMo_write_44 {E : mEn} {d : Nat} {σ : mSt} {Q : mPost} {a1 : Int32} {a2 : Int32} {j3 : Int64} {q0 : Int64} {s1 : Int32} : WP E d mMo_write 44 [.ref 166, .int a1, .int a2, .long j3, uu] [.long q0, .int s1, .ref 169] σ Q = (if mOut s1 240 = true then False else Q (some (.int 1)) (sL σ 169 s1.toNatClampNeg q0)) := (w_last dMo_write_44 sh_169).trans (ite_c ((w_iconst (v := 1) dMo_write_45 rfl).trans (w_zret dMo_write_46 rfl (Or.inr rfl))))
theorem dMo_placed_0 : decode (mC mMo_placed) 0 = .ok (.aload_n 0, 1) := by decide +kernel
theorem dMo_placed_1 : decode (mC mMo_placed) 1 = .ok (.iload_n 1, 1) := by decide +kernel
theorem dMo_placed_2 : decode (mC mMo_placed) 2 = .ok (.invokevirtual 93, 3) := by decide +kernel
theorem dMo_placed_5 : decode (mC mMo_placed) 5 = .ok (.istore_n 3, 1) := by decide +kernel
theorem dMo_placed_6 : decode (mC mMo_placed) 6 = .ok (.iload_n 3, 1) := by decide +kernel
theorem dMo_placed_7 : decode (mC mMo_placed) 7 = .ok (.ifCond .le (7), 3) := by decide +kernel
theorem dMo_placed_10 : decode (mC mMo_placed) 10 = .ok (.iload_n 3, 1) := by decide +kernel
theorem dMo_placed_11 : decode (mC mMo_placed) 11 = .ok (.goto (22), 3) := by decide +kernel
theorem dMo_placed_14 : decode (mC mMo_placed) 14 = .ok (.iload_n 2, 1) := by decide +kernel
theorem dMo_placed_15 : decode (mC mMo_placed) 15 = .ok (.ifCond .lt (13), 3) := by decide +kernel
theorem dMo_placed_18 : decode (mC mMo_placed) 18 = .ok (.iload_n 2, 1) := by decide +kernel
theorem dMo_placed_19 : decode (mC mMo_placed) 19 = .ok (.aload_n 0, 1) := by decide +kernel
theorem dMo_placed_20 : decode (mC mMo_placed) 20 = .ok (.getfield 17, 3) := by decide +kernel
theorem dMo_placed_23 : decode (mC mMo_placed) 23 = .ok (.iload_n 1, 1) := by decide +kernel
theorem dMo_placed_24 : decode (mC mMo_placed) 24 = .ok (.iaload, 1) := by decide +kernel
theorem dMo_placed_25 : decode (mC mMo_placed) 25 = .ok (.if_icmp .lt (7), 3) := by decide +kernel
theorem dMo_placed_28 : decode (mC mMo_placed) 28 = .ok (.iconst (4), 1) := by decide +kernel
theorem dMo_placed_29 : decode (mC mMo_placed) 29 = .ok (.goto (4), 3) := by decide +kernel
theorem dMo_placed_32 : decode (mC mMo_placed) 32 = .ok (.iconst (0), 1) := by decide +kernel
theorem dMo_placed_33 : decode (mC mMo_placed) 33 = .ok (.ireturn, 1) := by decide +kernel
theorem bMo_placed_0 {E : mEn} {d : Nat} {σ : mSt} {Q : mPost} {a1 : Int32} {a2 : Int32} {u3 : Value} : WP E (d + 1) mMo_placed 0 [.ref 166, .int a1, .int a2, u3] [] σ Q = WP E d mMo_trayed 0 [.ref 166, .int a1] [] σ (fun r σ' => WP E (d + 1) mMo_placed 5 [.ref 166, .int a1, .int a2, u3] (r.toList ++ []) σ' Q) := (w_aload_n dMo_placed_0 rfl).trans ((w_iload_n dMo_placed_1 rfl).trans (w_virt (vs := [.int a1]) (st' := []) (es := [.ref 166, .int a1]) dMo_placed_2 rz11_93 rfl sh_166 rfl rfl rfl (Nat.le_of_ble_eq_true rfl) (Nat.le_of_ble_eq_true rfl) rfl))
theorem bMo_placed_5 {E : mEn} {d : Nat} {σ : mSt} {Q : mPost} {a1 : Int32} {a2 : Int32} {u3 : Value} {s0 : Int32} : WP E d mMo_placed 5 [.ref 166, .int a1, .int a2, u3] [.int s0] σ Q = (if s0 ≤ 0 then WP E d mMo_placed 14 [.ref 166, .int a1, .int a2, .int s0] [] σ Q else WP E d mMo_placed 10 [.ref 166, .int a1, .int a2, .int s0] [] σ Q) := (w_istore_n (ls' := [.ref 166, .int a1, .int a2, .int s0]) dMo_placed_5 (Nat.le_of_ble_eq_true rfl) rfl).trans ((w_iload_n dMo_placed_6 rfl).trans (w_ifle (t := 14) dMo_placed_7 (by decide)))
theorem bMo_placed_10 {E : mEn} {d : Nat} {σ : mSt} {Q : mPost} {a1 : Int32} {a2 : Int32} {a3 : Int32} : WP E d mMo_placed 10 [.ref 166, .int a1, .int a2, .int a3] [] σ Q = WP E d mMo_placed 33 [.ref 166, .int a1, .int a2, .int a3] [.int a3] σ Q := (w_iload_n dMo_placed_10 rfl).trans (w_goto (t := 33) dMo_placed_11 (by decide))
theorem bMo_placed_14 {E : mEn} {d : Nat} {σ : mSt} {Q : mPost} {a1 : Int32} {a2 : Int32} {a3 : Int32} : WP E d mMo_placed 14 [.ref 166, .int a1, .int a2, .int a3] [] σ Q = (if a2 < 0 then WP E d mMo_placed 28 [.ref 166, .int a1, .int a2, .int a3] [] σ Q else WP E d mMo_placed 18 [.ref 166, .int a1, .int a2, .int a3] [] σ Q) := (w_iload_n dMo_placed_14 rfl).trans (w_iflt (t := 28) dMo_placed_15 (by decide))
theorem bMo_placed_18 {E : mEn} {d : Nat} {σ : mSt} {Q : mPost} {a1 : Int32} {a2 : Int32} {a3 : Int32} : WP E d mMo_placed 18 [.ref 166, .int a1, .int a2, .int a3] [] σ Q = (if mOut a1 4 = true then False else (if a2 < (σ.1 168 a1.toNatClampNeg) then WP E d mMo_placed 32 [.ref 166, .int a1, .int a2, .int a3] [] σ Q else WP E d mMo_placed 28 [.ref 166, .int a1, .int a2, .int a3] [] σ Q)) := (w_iload_n dMo_placed_18 rfl).trans ((w_aload_n dMo_placed_19 rfl).trans ((w_getr (r := 168) dMo_placed_20 rz11_17 sh_166 rfl).trans ((w_iload_n dMo_placed_23 rfl).trans ((w_iald dMo_placed_24 sh_168 (by decide)).trans (ite_c (w_icmplt (t := 32) dMo_placed_25 (by decide)))))))
theorem bMo_placed_28 {E : mEn} {d : Nat} {σ : mSt} {Q : mPost} {a1 : Int32} {a2 : Int32} {a3 : Int32} : WP E d mMo_placed 28 [.ref 166, .int a1, .int a2, .int a3] [] σ Q = WP E d mMo_placed 33 [.ref 166, .int a1, .int a2, .int a3] [.int (nI 4)] σ Q := (w_iconst (v := (nI 4)) dMo_placed_28 rfl).trans (w_goto (t := 33) dMo_placed_29 (by decide))
theorem bMo_placed_32 {E : mEn} {d : Nat} {σ : mSt} {Q : mPost} {a1 : Int32} {a2 : Int32} {a3 : Int32} : WP E d mMo_placed 32 [.ref 166, .int a1, .int a2, .int a3] [] σ Q = WP E d mMo_placed 33 [.ref 166, .int a1, .int a2, .int a3] [.int 0] σ Q := w_iconst (v := 0) dMo_placed_32 rfl
theorem bMo_placed_33 {E : mEn} {d : Nat} {σ : mSt} {Q : mPost} {a1 : Int32} {a2 : Int32} {a3 : Int32} {s0 : Int32} : WP E d mMo_placed 33 [.ref 166, .int a1, .int a2, .int a3] [.int s0] σ Q = Q (some (.int s0)) σ := w_iret dMo_placed_33 rfl
theorem dMo_trayed_0 : decode (mC mMo_trayed) 0 = .ok (.iload_n 1, 1) := by decide +kernel
theorem dMo_trayed_1 : decode (mC mMo_trayed) 1 = .ok (.ifCond .lt (8), 3) := by decide +kernel
theorem dMo_trayed_4 : decode (mC mMo_trayed) 4 = .ok (.iload_n 1, 1) := by decide +kernel
theorem dMo_trayed_5 : decode (mC mMo_trayed) 5 = .ok (.iconst (4), 1) := by decide +kernel
theorem dMo_trayed_6 : decode (mC mMo_trayed) 6 = .ok (.if_icmp .lt (7), 3) := by decide +kernel
theorem dMo_trayed_9 : decode (mC mMo_trayed) 9 = .ok (.iconst (1), 1) := by decide +kernel
theorem dMo_trayed_10 : decode (mC mMo_trayed) 10 = .ok (.goto (17), 3) := by decide +kernel
theorem dMo_trayed_13 : decode (mC mMo_trayed) 13 = .ok (.aload_n 0, 1) := by decide +kernel
theorem dMo_trayed_14 : decode (mC mMo_trayed) 14 = .ok (.getfield 17, 3) := by decide +kernel
theorem dMo_trayed_17 : decode (mC mMo_trayed) 17 = .ok (.iload_n 1, 1) := by decide +kernel
theorem dMo_trayed_18 : decode (mC mMo_trayed) 18 = .ok (.iaload, 1) := by decide +kernel
theorem dMo_trayed_19 : decode (mC mMo_trayed) 19 = .ok (.ifCond .ge (7), 3) := by decide +kernel
theorem dMo_trayed_22 : decode (mC mMo_trayed) 22 = .ok (.iconst (3), 1) := by decide +kernel
theorem dMo_trayed_23 : decode (mC mMo_trayed) 23 = .ok (.goto (4), 3) := by decide +kernel
theorem dMo_trayed_26 : decode (mC mMo_trayed) 26 = .ok (.iconst (0), 1) := by decide +kernel
theorem dMo_trayed_27 : decode (mC mMo_trayed) 27 = .ok (.ireturn, 1) := by decide +kernel
theorem bMo_trayed_0 {E : mEn} {d : Nat} {σ : mSt} {Q : mPost} {a1 : Int32} : WP E d mMo_trayed 0 [.ref 166, .int a1] [] σ Q = (if a1 < 0 then WP E d mMo_trayed 9 [.ref 166, .int a1] [] σ Q else WP E d mMo_trayed 4 [.ref 166, .int a1] [] σ Q) := (w_iload_n dMo_trayed_0 rfl).trans (w_iflt (t := 9) dMo_trayed_1 (by decide))
theorem bMo_trayed_4 {E : mEn} {d : Nat} {σ : mSt} {Q : mPost} {a1 : Int32} : WP E d mMo_trayed 4 [.ref 166, .int a1] [] σ Q = (if a1 < (nI 4) then WP E d mMo_trayed 13 [.ref 166, .int a1] [] σ Q else WP E d mMo_trayed 9 [.ref 166, .int a1] [] σ Q) := (w_iload_n dMo_trayed_4 rfl).trans ((w_iconst (v := (nI 4)) dMo_trayed_5 rfl).trans (w_icmplt (t := 13) dMo_trayed_6 (by decide)))
theorem bMo_trayed_9 {E : mEn} {d : Nat} {σ : mSt} {Q : mPost} {a1 : Int32} : WP E d mMo_trayed 9 [.ref 166, .int a1] [] σ Q = WP E d mMo_trayed 27 [.ref 166, .int a1] [.int 1] σ Q := (w_iconst (v := 1) dMo_trayed_9 rfl).trans (w_goto (t := 27) dMo_trayed_10 (by decide))
theorem bMo_trayed_13 {E : mEn} {d : Nat} {σ : mSt} {Q : mPost} {a1 : Int32} : WP E d mMo_trayed 13 [.ref 166, .int a1] [] σ Q = (if mOut a1 4 = true then False else (if 0 ≤ (σ.1 168 a1.toNatClampNeg) then WP E d mMo_trayed 26 [.ref 166, .int a1] [] σ Q else WP E d mMo_trayed 22 [.ref 166, .int a1] [] σ Q)) := (w_aload_n dMo_trayed_13 rfl).trans ((w_getr (r := 168) dMo_trayed_14 rz11_17 sh_166 rfl).trans ((w_iload_n dMo_trayed_17 rfl).trans ((w_iald dMo_trayed_18 sh_168 (by decide)).trans (ite_c (w_ifge (t := 26) dMo_trayed_19 (by decide))))))
theorem bMo_trayed_22 {E : mEn} {d : Nat} {σ : mSt} {Q : mPost} {a1 : Int32} : WP E d mMo_trayed 22 [.ref 166, .int a1] [] σ Q = WP E d mMo_trayed 27 [.ref 166, .int a1] [.int (nI 3)] σ Q := (w_iconst (v := (nI 3)) dMo_trayed_22 rfl).trans (w_goto (t := 27) dMo_trayed_23 (by decide))
theorem bMo_trayed_26 {E : mEn} {d : Nat} {σ : mSt} {Q : mPost} {a1 : Int32} : WP E d mMo_trayed 26 [.ref 166, .int a1] [] σ Q = WP E d mMo_trayed 27 [.ref 166, .int a1] [.int 0] σ Q := w_iconst (v := 0) dMo_trayed_26 rfl
theorem bMo_trayed_27 {E : mEn} {d : Nat} {σ : mSt} {Q : mPost} {a1 : Int32} {s0 : Int32} : WP E d mMo_trayed 27 [.ref 166, .int a1] [.int s0] σ Q = Q (some (.int s0)) σ := w_iret dMo_trayed_27 rfl
theorem dMo_cut_0 : decode (mC mMo_cut) 0 = .ok (.iload_n 0, 1) := by decide +kernel
theorem dMo_cut_1 : decode (mC mMo_cut) 1 = .ok (.ifCond .ne (10), 3) := by decide +kernel
theorem dMo_cut_4 : decode (mC mMo_cut) 4 = .ok (.lload_n 1, 1) := by decide +kernel
theorem dMo_cut_5 : decode (mC mMo_cut) 5 = .ok (.l2i, 1) := by decide +kernel
theorem dMo_cut_6 : decode (mC mMo_cut) 6 = .ok (.i2b, 1) := by decide +kernel
theorem dMo_cut_7 : decode (mC mMo_cut) 7 = .ok (.i2l, 1) := by decide +kernel
theorem dMo_cut_8 : decode (mC mMo_cut) 8 = .ok (.goto (27), 3) := by decide +kernel
theorem dMo_cut_11 : decode (mC mMo_cut) 11 = .ok (.iload_n 0, 1) := by decide +kernel
theorem dMo_cut_12 : decode (mC mMo_cut) 12 = .ok (.iconst (1), 1) := by decide +kernel
theorem dMo_cut_13 : decode (mC mMo_cut) 13 = .ok (.if_icmp .ne (10), 3) := by decide +kernel
theorem dMo_cut_16 : decode (mC mMo_cut) 16 = .ok (.lload_n 1, 1) := by decide +kernel
theorem dMo_cut_17 : decode (mC mMo_cut) 17 = .ok (.l2i, 1) := by decide +kernel
theorem dMo_cut_18 : decode (mC mMo_cut) 18 = .ok (.i2s, 1) := by decide +kernel
theorem dMo_cut_19 : decode (mC mMo_cut) 19 = .ok (.i2l, 1) := by decide +kernel
theorem dMo_cut_20 : decode (mC mMo_cut) 20 = .ok (.goto (15), 3) := by decide +kernel
theorem dMo_cut_23 : decode (mC mMo_cut) 23 = .ok (.iload_n 0, 1) := by decide +kernel
theorem dMo_cut_24 : decode (mC mMo_cut) 24 = .ok (.iconst (2), 1) := by decide +kernel
theorem dMo_cut_25 : decode (mC mMo_cut) 25 = .ok (.if_icmp .ne (9), 3) := by decide +kernel
theorem dMo_cut_28 : decode (mC mMo_cut) 28 = .ok (.lload_n 1, 1) := by decide +kernel
theorem dMo_cut_29 : decode (mC mMo_cut) 29 = .ok (.l2i, 1) := by decide +kernel
theorem dMo_cut_30 : decode (mC mMo_cut) 30 = .ok (.i2l, 1) := by decide +kernel
theorem dMo_cut_31 : decode (mC mMo_cut) 31 = .ok (.goto (4), 3) := by decide +kernel
theorem dMo_cut_34 : decode (mC mMo_cut) 34 = .ok (.lload_n 1, 1) := by decide +kernel
theorem dMo_cut_35 : decode (mC mMo_cut) 35 = .ok (.lreturn, 1) := by decide +kernel
theorem bMo_cut_0 {E : mEn} {d : Nat} {σ : mSt} {Q : mPost} {a0 : Int32} {j1 : Int64} : WP E d mMo_cut 0 [.int a0, .long j1, uu] [] σ Q = (if ¬ a0 = 0 then WP E d mMo_cut 11 [.int a0, .long j1, uu] [] σ Q else WP E d mMo_cut 4 [.int a0, .long j1, uu] [] σ Q) := (w_iload_n dMo_cut_0 rfl).trans (w_ifne (t := 11) dMo_cut_1 (by decide))
theorem bMo_cut_4 {E : mEn} {d : Nat} {σ : mSt} {Q : mPost} {a0 : Int32} {j1 : Int64} : WP E d mMo_cut 4 [.int a0, .long j1, uu] [] σ Q = WP E d mMo_cut 35 [.int a0, .long j1, uu] [.long (((j1.toInt32).toInt8.toInt32).toInt64)] σ Q := (w_lload_n dMo_cut_4 rfl).trans ((w_l2i dMo_cut_5).trans ((w_i2b dMo_cut_6).trans ((w_i2l dMo_cut_7).trans (w_goto (t := 35) dMo_cut_8 (by decide)))))
theorem bMo_cut_11 {E : mEn} {d : Nat} {σ : mSt} {Q : mPost} {a0 : Int32} {j1 : Int64} : WP E d mMo_cut 11 [.int a0, .long j1, uu] [] σ Q = (if ¬ a0 = 1 then WP E d mMo_cut 23 [.int a0, .long j1, uu] [] σ Q else WP E d mMo_cut 16 [.int a0, .long j1, uu] [] σ Q) := (w_iload_n dMo_cut_11 rfl).trans ((w_iconst (v := 1) dMo_cut_12 rfl).trans (w_icmpne (t := 23) dMo_cut_13 (by decide)))
theorem bMo_cut_16 {E : mEn} {d : Nat} {σ : mSt} {Q : mPost} {a0 : Int32} {j1 : Int64} : WP E d mMo_cut 16 [.int a0, .long j1, uu] [] σ Q = WP E d mMo_cut 35 [.int a0, .long j1, uu] [.long (((j1.toInt32).toInt16.toInt32).toInt64)] σ Q := (w_lload_n dMo_cut_16 rfl).trans ((w_l2i dMo_cut_17).trans ((w_i2s dMo_cut_18).trans ((w_i2l dMo_cut_19).trans (w_goto (t := 35) dMo_cut_20 (by decide)))))
theorem bMo_cut_23 {E : mEn} {d : Nat} {σ : mSt} {Q : mPost} {a0 : Int32} {j1 : Int64} : WP E d mMo_cut 23 [.int a0, .long j1, uu] [] σ Q = (if ¬ a0 = (nI 2) then WP E d mMo_cut 34 [.int a0, .long j1, uu] [] σ Q else WP E d mMo_cut 28 [.int a0, .long j1, uu] [] σ Q) := (w_iload_n dMo_cut_23 rfl).trans ((w_iconst (v := (nI 2)) dMo_cut_24 rfl).trans (w_icmpne (t := 34) dMo_cut_25 (by decide)))
theorem bMo_cut_28 {E : mEn} {d : Nat} {σ : mSt} {Q : mPost} {a0 : Int32} {j1 : Int64} : WP E d mMo_cut 28 [.int a0, .long j1, uu] [] σ Q = WP E d mMo_cut 35 [.int a0, .long j1, uu] [.long ((j1.toInt32).toInt64)] σ Q := (w_lload_n dMo_cut_28 rfl).trans ((w_l2i dMo_cut_29).trans ((w_i2l dMo_cut_30).trans (w_goto (t := 35) dMo_cut_31 (by decide))))
theorem bMo_cut_34 {E : mEn} {d : Nat} {σ : mSt} {Q : mPost} {a0 : Int32} {j1 : Int64} : WP E d mMo_cut 34 [.int a0, .long j1, uu] [] σ Q = WP E d mMo_cut 35 [.int a0, .long j1, uu] [.long j1] σ Q := w_lload_n dMo_cut_34 rfl
theorem bMo_cut_35 {E : mEn} {d : Nat} {σ : mSt} {Q : mPost} {a0 : Int32} {j1 : Int64} {q0 : Int64} : WP E d mMo_cut 35 [.int a0, .long j1, uu] [.long q0] σ Q = Q (some (.long q0)) σ := w_lret dMo_cut_35 rfl
theorem dMo_read_0 : decode (mC mMo_read) 0 = .ok (.aload_n 0, 1) := by decide +kernel
theorem dMo_read_1 : decode (mC mMo_read) 1 = .ok (.iconst (0), 1) := by decide +kernel
theorem dMo_read_2 : decode (mC mMo_read) 2 = .ok (.putfield 74, 3) := by decide +kernel
theorem dMo_read_5 : decode (mC mMo_read) 5 = .ok (.aload_n 0, 1) := by decide +kernel
theorem dMo_read_6 : decode (mC mMo_read) 6 = .ok (.aload_n 0, 1) := by decide +kernel
theorem dMo_read_7 : decode (mC mMo_read) 7 = .ok (.iload_n 1, 1) := by decide +kernel
theorem dMo_read_8 : decode (mC mMo_read) 8 = .ok (.iload_n 2, 1) := by decide +kernel
theorem dMo_read_9 : decode (mC mMo_read) 9 = .ok (.invokevirtual 97, 3) := by decide +kernel
theorem dMo_read_12 : decode (mC mMo_read) 12 = .ok (.putfield 77, 3) := by decide +kernel
theorem dMo_read_15 : decode (mC mMo_read) 15 = .ok (.aload_n 0, 1) := by decide +kernel
theorem dMo_read_16 : decode (mC mMo_read) 16 = .ok (.getfield 77, 3) := by decide +kernel
theorem dMo_read_19 : decode (mC mMo_read) 19 = .ok (.ifCond .le (9), 3) := by decide +kernel
theorem dMo_read_22 : decode (mC mMo_read) 22 = .ok (.ldc2_w 105, 3) := by decide +kernel
theorem dMo_read_25 : decode (mC mMo_read) 25 = .ok (.goto (14), 3) := by decide +kernel
theorem dMo_read_28 : decode (mC mMo_read) 28 = .ok (.aload_n 0, 1) := by decide +kernel
theorem dMo_read_29 : decode (mC mMo_read) 29 = .ok (.getfield 20, 3) := by decide +kernel
theorem dMo_read_32 : decode (mC mMo_read) 32 = .ok (.bipush (60), 2) := by decide +kernel
theorem dMo_read_34 : decode (mC mMo_read) 34 = .ok (.iload_n 1, 1) := by decide +kernel
theorem dMo_read_35 : decode (mC mMo_read) 35 = .ok (.imul, 1) := by decide +kernel
theorem dMo_read_36 : decode (mC mMo_read) 36 = .ok (.iload_n 2, 1) := by decide +kernel
theorem dMo_read_37 : decode (mC mMo_read) 37 = .ok (.iadd, 1) := by decide +kernel
theorem dMo_read_38 : decode (mC mMo_read) 38 = .ok (.laload, 1) := by decide +kernel
theorem dMo_read_39 : decode (mC mMo_read) 39 = .ok (.lreturn, 1) := by decide +kernel
theorem bMo_read_0 {E : mEn} {d : Nat} {σ : mSt} {Q : mPost} {a1 : Int32} {a2 : Int32} : WP E (d + 1) mMo_read 0 [.ref 166, .int a1, .int a2] [] σ Q = WP E d mMo_placed 0 [.ref 166, .int a1, .int a2, uu] [] (sI σ 166 1 0) (fun r σ' => WP E (d + 1) mMo_read 12 [.ref 166, .int a1, .int a2] (r.toList ++ [.ref 166]) σ' Q) := (w_aload_n dMo_read_0 rfl).trans ((w_iconst (v := 0) dMo_read_1 rfl).trans ((w_puti dMo_read_2 rz11_74 sh_166 rfl rfl rfl).trans ((w_aload_n dMo_read_5 rfl).trans ((w_aload_n dMo_read_6 rfl).trans ((w_iload_n dMo_read_7 rfl).trans ((w_iload_n dMo_read_8 rfl).trans (w_virt (vs := [.int a1, .int a2]) (st' := [.ref 166]) (es := [.ref 166, .int a1, .int a2, uu]) dMo_read_9 rz11_97 rfl sh_166 rfl rfl rfl (Nat.le_of_ble_eq_true rfl) (Nat.le_of_ble_eq_true rfl) rfl)))))))
theorem bMo_read_12 {E : mEn} {d : Nat} {σ : mSt} {Q : mPost} {a1 : Int32} {a2 : Int32} {s0 : Int32} : WP E d mMo_read 12 [.ref 166, .int a1, .int a2] [.int s0, .ref 166] σ Q = (if ((sI σ 166 0 s0).1 166 0) ≤ 0 then WP E d mMo_read 28 [.ref 166, .int a1, .int a2] [] (sI σ 166 0 s0) Q else WP E d mMo_read 22 [.ref 166, .int a1, .int a2] [] (sI σ 166 0 s0) Q) := (w_puti dMo_read_12 rz11_77 sh_166 rfl rfl rfl).trans ((w_aload_n dMo_read_15 rfl).trans ((w_geti dMo_read_16 rz11_77 sh_166 rfl).trans (w_ifle (t := 28) dMo_read_19 (by decide))))
theorem bMo_read_22 {E : mEn} {d : Nat} {σ : mSt} {Q : mPost} {a1 : Int32} {a2 : Int32} : WP E d mMo_read 22 [.ref 166, .int a1, .int a2] [] σ Q = WP E d mMo_read 39 [.ref 166, .int a1, .int a2] [.long (-1)] σ Q := (w_ldc2_w dMo_read_22 rz11_105).trans (w_goto (t := 39) dMo_read_25 (by decide))
theorem bMo_read_28 {E : mEn} {d : Nat} {σ : mSt} {Q : mPost} {a1 : Int32} {a2 : Int32} : WP E d mMo_read 28 [.ref 166, .int a1, .int a2] [] σ Q = (if mOut (((nI 60) * a1) + a2) 240 = true then False else WP E d mMo_read 39 [.ref 166, .int a1, .int a2] [.long (σ.2 169 (((nI 60) * a1) + a2).toNatClampNeg)] σ Q) := (w_aload_n dMo_read_28 rfl).trans ((w_getr (r := 169) dMo_read_29 rz11_20 sh_166 rfl).trans ((w_bipush (v := (nI 60)) dMo_read_32 rfl).trans ((w_iload_n dMo_read_34 rfl).trans ((w_imul dMo_read_35).trans ((w_iload_n dMo_read_36 rfl).trans ((w_iadd dMo_read_37).trans ((w_lald dMo_read_38 sh_169).trans (ite_c (rfl)))))))))
theorem bMo_read_39 {E : mEn} {d : Nat} {σ : mSt} {Q : mPost} {a1 : Int32} {a2 : Int32} {q0 : Int64} : WP E d mMo_read 39 [.ref 166, .int a1, .int a2] [.long q0] σ Q = Q (some (.long q0)) σ := w_lret dMo_read_39 rfl
theorem dMo_pour_0 : decode (mC mMo_pour) 0 = .ok (.aload_n 0, 1) := by decide +kernel
theorem dMo_pour_1 : decode (mC mMo_pour) 1 = .ok (.iconst (0), 1) := by decide +kernel
theorem dMo_pour_2 : decode (mC mMo_pour) 2 = .ok (.putfield 74, 3) := by decide +kernel
theorem dMo_pour_5 : decode (mC mMo_pour) 5 = .ok (.aload_n 0, 1) := by decide +kernel
theorem dMo_pour_6 : decode (mC mMo_pour) 6 = .ok (.iconst (0), 1) := by decide +kernel
theorem dMo_pour_7 : decode (mC mMo_pour) 7 = .ok (.putfield 77, 3) := by decide +kernel
theorem dMo_pour_10 : decode (mC mMo_pour) 10 = .ok (.iload_n 1, 1) := by decide +kernel
theorem dMo_pour_11 : decode (mC mMo_pour) 11 = .ok (.ifCond .lt (17), 3) := by decide +kernel
theorem dMo_pour_14 : decode (mC mMo_pour) 14 = .ok (.iload_n 1, 1) := by decide +kernel
theorem dMo_pour_15 : decode (mC mMo_pour) 15 = .ok (.iconst (4), 1) := by decide +kernel
theorem dMo_pour_16 : decode (mC mMo_pour) 16 = .ok (.if_icmp .ge (12), 3) := by decide +kernel
theorem dMo_pour_19 : decode (mC mMo_pour) 19 = .ok (.iload_n 3, 1) := by decide +kernel
theorem dMo_pour_20 : decode (mC mMo_pour) 20 = .ok (.ifCond .lt (8), 3) := by decide +kernel
theorem dMo_pour_23 : decode (mC mMo_pour) 23 = .ok (.iload_n 3, 1) := by decide +kernel
theorem dMo_pour_24 : decode (mC mMo_pour) 24 = .ok (.iconst (4), 1) := by decide +kernel
theorem dMo_pour_25 : decode (mC mMo_pour) 25 = .ok (.if_icmp .lt (9), 3) := by decide +kernel
theorem dMo_pour_28 : decode (mC mMo_pour) 28 = .ok (.aload_n 0, 1) := by decide +kernel
theorem dMo_pour_29 : decode (mC mMo_pour) 29 = .ok (.iconst (1), 1) := by decide +kernel
theorem dMo_pour_30 : decode (mC mMo_pour) 30 = .ok (.invokevirtual 89, 3) := by decide +kernel
theorem dMo_pour_33 : decode (mC mMo_pour) 33 = .ok (.ireturn, 1) := by decide +kernel
theorem dMo_pour_34 : decode (mC mMo_pour) 34 = .ok (.aload_n 0, 1) := by decide +kernel
theorem dMo_pour_35 : decode (mC mMo_pour) 35 = .ok (.getfield 17, 3) := by decide +kernel
theorem dMo_pour_38 : decode (mC mMo_pour) 38 = .ok (.iload_n 1, 1) := by decide +kernel
theorem dMo_pour_39 : decode (mC mMo_pour) 39 = .ok (.iaload, 1) := by decide +kernel
theorem dMo_pour_40 : decode (mC mMo_pour) 40 = .ok (.ifCond .lt (12), 3) := by decide +kernel
theorem dMo_pour_43 : decode (mC mMo_pour) 43 = .ok (.aload_n 0, 1) := by decide +kernel
theorem dMo_pour_44 : decode (mC mMo_pour) 44 = .ok (.getfield 17, 3) := by decide +kernel
theorem dMo_pour_47 : decode (mC mMo_pour) 47 = .ok (.iload_n 3, 1) := by decide +kernel
theorem dMo_pour_48 : decode (mC mMo_pour) 48 = .ok (.iaload, 1) := by decide +kernel
theorem dMo_pour_49 : decode (mC mMo_pour) 49 = .ok (.ifCond .ge (9), 3) := by decide +kernel
theorem dMo_pour_52 : decode (mC mMo_pour) 52 = .ok (.aload_n 0, 1) := by decide +kernel
theorem dMo_pour_53 : decode (mC mMo_pour) 53 = .ok (.iconst (3), 1) := by decide +kernel
theorem dMo_pour_54 : decode (mC mMo_pour) 54 = .ok (.invokevirtual 89, 3) := by decide +kernel
theorem dMo_pour_57 : decode (mC mMo_pour) 57 = .ok (.ireturn, 1) := by decide +kernel
theorem dMo_pour_58 : decode (mC mMo_pour) 58 = .ok (.aload_n 0, 1) := by decide +kernel
theorem dMo_pour_59 : decode (mC mMo_pour) 59 = .ok (.getfield 13, 3) := by decide +kernel
theorem dMo_pour_62 : decode (mC mMo_pour) 62 = .ok (.iload_n 1, 1) := by decide +kernel
theorem dMo_pour_63 : decode (mC mMo_pour) 63 = .ok (.iaload, 1) := by decide +kernel
theorem dMo_pour_64 : decode (mC mMo_pour) 64 = .ok (.aload_n 0, 1) := by decide +kernel
theorem dMo_pour_65 : decode (mC mMo_pour) 65 = .ok (.getfield 13, 3) := by decide +kernel
theorem dMo_pour_68 : decode (mC mMo_pour) 68 = .ok (.iload_n 3, 1) := by decide +kernel
theorem dMo_pour_69 : decode (mC mMo_pour) 69 = .ok (.iaload, 1) := by decide +kernel
theorem dMo_pour_70 : decode (mC mMo_pour) 70 = .ok (.if_icmp .eq (10), 3) := by decide +kernel
theorem dMo_pour_73 : decode (mC mMo_pour) 73 = .ok (.aload_n 0, 1) := by decide +kernel
theorem dMo_pour_74 : decode (mC mMo_pour) 74 = .ok (.bipush (11), 2) := by decide +kernel
theorem dMo_pour_76 : decode (mC mMo_pour) 76 = .ok (.invokevirtual 89, 3) := by decide +kernel
theorem dMo_pour_79 : decode (mC mMo_pour) 79 = .ok (.ireturn, 1) := by decide +kernel
theorem dMo_pour_80 : decode (mC mMo_pour) 80 = .ok (.iload 5, 2) := by decide +kernel
theorem dMo_pour_82 : decode (mC mMo_pour) 82 = .ok (.ifCond .ge (10), 3) := by decide +kernel
theorem dMo_pour_85 : decode (mC mMo_pour) 85 = .ok (.aload_n 0, 1) := by decide +kernel
theorem dMo_pour_86 : decode (mC mMo_pour) 86 = .ok (.bipush (6), 2) := by decide +kernel
theorem dMo_pour_88 : decode (mC mMo_pour) 88 = .ok (.invokevirtual 89, 3) := by decide +kernel
theorem dMo_pour_91 : decode (mC mMo_pour) 91 = .ok (.ireturn, 1) := by decide +kernel
theorem dMo_pour_92 : decode (mC mMo_pour) 92 = .ok (.iload_n 2, 1) := by decide +kernel
theorem dMo_pour_93 : decode (mC mMo_pour) 93 = .ok (.ifCond .lt (43), 3) := by decide +kernel
theorem dMo_pour_96 : decode (mC mMo_pour) 96 = .ok (.iload 4, 2) := by decide +kernel
theorem dMo_pour_98 : decode (mC mMo_pour) 98 = .ok (.ifCond .lt (38), 3) := by decide +kernel
theorem dMo_pour_101 : decode (mC mMo_pour) 101 = .ok (.iload_n 2, 1) := by decide +kernel
theorem dMo_pour_102 : decode (mC mMo_pour) 102 = .ok (.i2l, 1) := by decide +kernel
theorem dMo_pour_103 : decode (mC mMo_pour) 103 = .ok (.iload 5, 2) := by decide +kernel
theorem dMo_pour_105 : decode (mC mMo_pour) 105 = .ok (.i2l, 1) := by decide +kernel
theorem dMo_pour_106 : decode (mC mMo_pour) 106 = .ok (.ladd, 1) := by decide +kernel
theorem dMo_pour_107 : decode (mC mMo_pour) 107 = .ok (.aload_n 0, 1) := by decide +kernel
theorem dMo_pour_108 : decode (mC mMo_pour) 108 = .ok (.getfield 17, 3) := by decide +kernel
theorem dMo_pour_111 : decode (mC mMo_pour) 111 = .ok (.iload_n 1, 1) := by decide +kernel
theorem dMo_pour_112 : decode (mC mMo_pour) 112 = .ok (.iaload, 1) := by decide +kernel
theorem dMo_pour_113 : decode (mC mMo_pour) 113 = .ok (.i2l, 1) := by decide +kernel
theorem dMo_pour_114 : decode (mC mMo_pour) 114 = .ok (.lcmp, 1) := by decide +kernel
theorem dMo_pour_115 : decode (mC mMo_pour) 115 = .ok (.ifCond .gt (21), 3) := by decide +kernel
theorem dMo_pour_118 : decode (mC mMo_pour) 118 = .ok (.iload 4, 2) := by decide +kernel
theorem dMo_pour_120 : decode (mC mMo_pour) 120 = .ok (.i2l, 1) := by decide +kernel
theorem dMo_pour_121 : decode (mC mMo_pour) 121 = .ok (.iload 5, 2) := by decide +kernel
theorem dMo_pour_123 : decode (mC mMo_pour) 123 = .ok (.i2l, 1) := by decide +kernel
theorem dMo_pour_124 : decode (mC mMo_pour) 124 = .ok (.ladd, 1) := by decide +kernel
theorem dMo_pour_125 : decode (mC mMo_pour) 125 = .ok (.aload_n 0, 1) := by decide +kernel
theorem dMo_pour_126 : decode (mC mMo_pour) 126 = .ok (.getfield 17, 3) := by decide +kernel
theorem dMo_pour_129 : decode (mC mMo_pour) 129 = .ok (.iload_n 3, 1) := by decide +kernel
theorem dMo_pour_130 : decode (mC mMo_pour) 130 = .ok (.iaload, 1) := by decide +kernel
theorem dMo_pour_131 : decode (mC mMo_pour) 131 = .ok (.i2l, 1) := by decide +kernel
theorem dMo_pour_132 : decode (mC mMo_pour) 132 = .ok (.lcmp, 1) := by decide +kernel
theorem dMo_pour_133 : decode (mC mMo_pour) 133 = .ok (.ifCond .le (9), 3) := by decide +kernel
theorem dMo_pour_136 : decode (mC mMo_pour) 136 = .ok (.aload_n 0, 1) := by decide +kernel
theorem dMo_pour_137 : decode (mC mMo_pour) 137 = .ok (.iconst (4), 1) := by decide +kernel
theorem dMo_pour_138 : decode (mC mMo_pour) 138 = .ok (.invokevirtual 89, 3) := by decide +kernel
theorem dMo_pour_141 : decode (mC mMo_pour) 141 = .ok (.ireturn, 1) := by decide +kernel
theorem dMo_pour_142 : decode (mC mMo_pour) 142 = .ok (.iload_n 2, 1) := by decide +kernel
theorem dMo_pour_143 : decode (mC mMo_pour) 143 = .ok (.iload 4, 2) := by decide +kernel
theorem dMo_pour_145 : decode (mC mMo_pour) 145 = .ok (.if_icmp .ge (7), 3) := by decide +kernel
theorem dMo_pour_148 : decode (mC mMo_pour) 148 = .ok (.iconst (1), 1) := by decide +kernel
theorem dMo_pour_149 : decode (mC mMo_pour) 149 = .ok (.goto (4), 3) := by decide +kernel
theorem dMo_pour_152 : decode (mC mMo_pour) 152 = .ok (.iconst (0), 1) := by decide +kernel
theorem dMo_pour_153 : decode (mC mMo_pour) 153 = .ok (.istore 6, 2) := by decide +kernel
theorem dMo_pour_155 : decode (mC mMo_pour) 155 = .ok (.iconst (0), 1) := by decide +kernel
theorem dMo_pour_156 : decode (mC mMo_pour) 156 = .ok (.istore 7, 2) := by decide +kernel
theorem dMo_pour_158 : decode (mC mMo_pour) 158 = .ok (.iload 7, 2) := by decide +kernel
theorem dMo_pour_160 : decode (mC mMo_pour) 160 = .ok (.iload 5, 2) := by decide +kernel
theorem dMo_pour_162 : decode (mC mMo_pour) 162 = .ok (.if_icmp .ge (57), 3) := by decide +kernel
theorem dMo_pour_165 : decode (mC mMo_pour) 165 = .ok (.iload 6, 2) := by decide +kernel
theorem dMo_pour_167 : decode (mC mMo_pour) 167 = .ok (.ifCond .eq (13), 3) := by decide +kernel
theorem dMo_pour_170 : decode (mC mMo_pour) 170 = .ok (.iload 5, 2) := by decide +kernel
theorem dMo_pour_172 : decode (mC mMo_pour) 172 = .ok (.iconst (1), 1) := by decide +kernel
theorem dMo_pour_173 : decode (mC mMo_pour) 173 = .ok (.isub, 1) := by decide +kernel
theorem dMo_pour_174 : decode (mC mMo_pour) 174 = .ok (.iload 7, 2) := by decide +kernel
theorem dMo_pour_176 : decode (mC mMo_pour) 176 = .ok (.isub, 1) := by decide +kernel
theorem dMo_pour_177 : decode (mC mMo_pour) 177 = .ok (.goto (5), 3) := by decide +kernel
theorem dMo_pour_180 : decode (mC mMo_pour) 180 = .ok (.iload 7, 2) := by decide +kernel
theorem dMo_pour_182 : decode (mC mMo_pour) 182 = .ok (.istore 8, 2) := by decide +kernel
theorem dMo_pour_184 : decode (mC mMo_pour) 184 = .ok (.aload_n 0, 1) := by decide +kernel
theorem dMo_pour_185 : decode (mC mMo_pour) 185 = .ok (.getfield 20, 3) := by decide +kernel
theorem dMo_pour_188 : decode (mC mMo_pour) 188 = .ok (.bipush (60), 2) := by decide +kernel
theorem dMo_pour_190 : decode (mC mMo_pour) 190 = .ok (.iload_n 3, 1) := by decide +kernel
theorem dMo_pour_191 : decode (mC mMo_pour) 191 = .ok (.imul, 1) := by decide +kernel
theorem dMo_pour_192 : decode (mC mMo_pour) 192 = .ok (.iload 4, 2) := by decide +kernel
theorem dMo_pour_194 : decode (mC mMo_pour) 194 = .ok (.iadd, 1) := by decide +kernel
theorem dMo_pour_195 : decode (mC mMo_pour) 195 = .ok (.iload 8, 2) := by decide +kernel
theorem dMo_pour_197 : decode (mC mMo_pour) 197 = .ok (.iadd, 1) := by decide +kernel
theorem dMo_pour_198 : decode (mC mMo_pour) 198 = .ok (.aload_n 0, 1) := by decide +kernel
theorem dMo_pour_199 : decode (mC mMo_pour) 199 = .ok (.getfield 20, 3) := by decide +kernel
theorem dMo_pour_202 : decode (mC mMo_pour) 202 = .ok (.bipush (60), 2) := by decide +kernel
theorem dMo_pour_204 : decode (mC mMo_pour) 204 = .ok (.iload_n 1, 1) := by decide +kernel
theorem dMo_pour_205 : decode (mC mMo_pour) 205 = .ok (.imul, 1) := by decide +kernel
theorem dMo_pour_206 : decode (mC mMo_pour) 206 = .ok (.iload_n 2, 1) := by decide +kernel
theorem dMo_pour_207 : decode (mC mMo_pour) 207 = .ok (.iadd, 1) := by decide +kernel
theorem dMo_pour_208 : decode (mC mMo_pour) 208 = .ok (.iload 8, 2) := by decide +kernel
theorem dMo_pour_210 : decode (mC mMo_pour) 210 = .ok (.iadd, 1) := by decide +kernel
theorem dMo_pour_211 : decode (mC mMo_pour) 211 = .ok (.laload, 1) := by decide +kernel
theorem dMo_pour_212 : decode (mC mMo_pour) 212 = .ok (.lastore, 1) := by decide +kernel
theorem dMo_pour_213 : decode (mC mMo_pour) 213 = .ok (.iinc 7 (1), 3) := by decide +kernel
theorem dMo_pour_216 : decode (mC mMo_pour) 216 = .ok (.goto (-58), 3) := by decide +kernel
theorem dMo_pour_219 : decode (mC mMo_pour) 219 = .ok (.iconst (1), 1) := by decide +kernel
theorem dMo_pour_220 : decode (mC mMo_pour) 220 = .ok (.ireturn, 1) := by decide +kernel
theorem bMo_pour_0 {E : mEn} {d : Nat} {σ : mSt} {Q : mPost} {a1 : Int32} {a2 : Int32} {a3 : Int32} {a4 : Int32} {a5 : Int32} {u6 : Value} {u7 : Value} {u8 : Value} : WP E d mMo_pour 0 [.ref 166, .int a1, .int a2, .int a3, .int a4, .int a5, u6, u7, u8] [] σ Q = (if a1 < 0 then WP E d mMo_pour 28 [.ref 166, .int a1, .int a2, .int a3, .int a4, .int a5, u6, u7, u8] [] (sI (sI σ 166 1 0) 166 0 0) Q else WP E d mMo_pour 14 [.ref 166, .int a1, .int a2, .int a3, .int a4, .int a5, u6, u7, u8] [] (sI (sI σ 166 1 0) 166 0 0) Q) := (w_aload_n dMo_pour_0 rfl).trans ((w_iconst (v := 0) dMo_pour_1 rfl).trans ((w_puti dMo_pour_2 rz11_74 sh_166 rfl rfl rfl).trans ((w_aload_n dMo_pour_5 rfl).trans ((w_iconst (v := 0) dMo_pour_6 rfl).trans ((w_puti dMo_pour_7 rz11_77 sh_166 rfl rfl rfl).trans ((w_iload_n dMo_pour_10 rfl).trans (w_iflt (t := 28) dMo_pour_11 (by decide))))))))
theorem bMo_pour_14 {E : mEn} {d : Nat} {σ : mSt} {Q : mPost} {a1 : Int32} {a2 : Int32} {a3 : Int32} {a4 : Int32} {a5 : Int32} {u6 : Value} {u7 : Value} {u8 : Value} : WP E d mMo_pour 14 [.ref 166, .int a1, .int a2, .int a3, .int a4, .int a5, u6, u7, u8] [] σ Q = (if (nI 4) ≤ a1 then WP E d mMo_pour 28 [.ref 166, .int a1, .int a2, .int a3, .int a4, .int a5, u6, u7, u8] [] σ Q else WP E d mMo_pour 19 [.ref 166, .int a1, .int a2, .int a3, .int a4, .int a5, u6, u7, u8] [] σ Q) := (w_iload_n dMo_pour_14 rfl).trans ((w_iconst (v := (nI 4)) dMo_pour_15 rfl).trans (w_icmpge (t := 28) dMo_pour_16 (by decide)))
theorem bMo_pour_19 {E : mEn} {d : Nat} {σ : mSt} {Q : mPost} {a1 : Int32} {a2 : Int32} {a3 : Int32} {a4 : Int32} {a5 : Int32} {u6 : Value} {u7 : Value} {u8 : Value} : WP E d mMo_pour 19 [.ref 166, .int a1, .int a2, .int a3, .int a4, .int a5, u6, u7, u8] [] σ Q = (if a3 < 0 then WP E d mMo_pour 28 [.ref 166, .int a1, .int a2, .int a3, .int a4, .int a5, u6, u7, u8] [] σ Q else WP E d mMo_pour 23 [.ref 166, .int a1, .int a2, .int a3, .int a4, .int a5, u6, u7, u8] [] σ Q) := (w_iload_n dMo_pour_19 rfl).trans (w_iflt (t := 28) dMo_pour_20 (by decide))
theorem bMo_pour_23 {E : mEn} {d : Nat} {σ : mSt} {Q : mPost} {a1 : Int32} {a2 : Int32} {a3 : Int32} {a4 : Int32} {a5 : Int32} {u6 : Value} {u7 : Value} {u8 : Value} : WP E d mMo_pour 23 [.ref 166, .int a1, .int a2, .int a3, .int a4, .int a5, u6, u7, u8] [] σ Q = (if a3 < (nI 4) then WP E d mMo_pour 34 [.ref 166, .int a1, .int a2, .int a3, .int a4, .int a5, u6, u7, u8] [] σ Q else WP E d mMo_pour 28 [.ref 166, .int a1, .int a2, .int a3, .int a4, .int a5, u6, u7, u8] [] σ Q) := (w_iload_n dMo_pour_23 rfl).trans ((w_iconst (v := (nI 4)) dMo_pour_24 rfl).trans (w_icmplt (t := 34) dMo_pour_25 (by decide)))
theorem bMo_pour_28 {E : mEn} {d : Nat} {σ : mSt} {Q : mPost} {a1 : Int32} {a2 : Int32} {a3 : Int32} {a4 : Int32} {a5 : Int32} {u6 : Value} {u7 : Value} {u8 : Value} : WP E (d + 1) mMo_pour 28 [.ref 166, .int a1, .int a2, .int a3, .int a4, .int a5, u6, u7, u8] [] σ Q = WP E d mMo_no 0 [.ref 166, .int 1] [] σ (fun r σ' => WP E (d + 1) mMo_pour 33 [.ref 166, .int a1, .int a2, .int a3, .int a4, .int a5, u6, u7, u8] (r.toList ++ []) σ' Q) := (w_aload_n dMo_pour_28 rfl).trans ((w_iconst (v := 1) dMo_pour_29 rfl).trans (w_virt (vs := [.int 1]) (st' := []) (es := [.ref 166, .int 1]) dMo_pour_30 rz11_89 rfl sh_166 rfl rfl rfl (Nat.le_of_ble_eq_true rfl) (Nat.le_of_ble_eq_true rfl) rfl))
theorem bMo_pour_33 {E : mEn} {d : Nat} {σ : mSt} {Q : mPost} {a1 : Int32} {a2 : Int32} {a3 : Int32} {a4 : Int32} {a5 : Int32} {u6 : Value} {u7 : Value} {u8 : Value} {s0 : Int32} (hz0 : s0 = 0 ∨ s0 = 1) : WP E d mMo_pour 33 [.ref 166, .int a1, .int a2, .int a3, .int a4, .int a5, u6, u7, u8] [.int s0] σ Q = Q (some (.int s0)) σ := w_zret dMo_pour_33 rfl hz0
theorem bMo_pour_34 {E : mEn} {d : Nat} {σ : mSt} {Q : mPost} {a1 : Int32} {a2 : Int32} {a3 : Int32} {a4 : Int32} {a5 : Int32} {u6 : Value} {u7 : Value} {u8 : Value} : WP E d mMo_pour 34 [.ref 166, .int a1, .int a2, .int a3, .int a4, .int a5, u6, u7, u8] [] σ Q = (if mOut a1 4 = true then False else (if (σ.1 168 a1.toNatClampNeg) < 0 then WP E d mMo_pour 52 [.ref 166, .int a1, .int a2, .int a3, .int a4, .int a5, u6, u7, u8] [] σ Q else WP E d mMo_pour 43 [.ref 166, .int a1, .int a2, .int a3, .int a4, .int a5, u6, u7, u8] [] σ Q)) := (w_aload_n dMo_pour_34 rfl).trans ((w_getr (r := 168) dMo_pour_35 rz11_17 sh_166 rfl).trans ((w_iload_n dMo_pour_38 rfl).trans ((w_iald dMo_pour_39 sh_168 (by decide)).trans (ite_c (w_iflt (t := 52) dMo_pour_40 (by decide))))))
theorem bMo_pour_43 {E : mEn} {d : Nat} {σ : mSt} {Q : mPost} {a1 : Int32} {a2 : Int32} {a3 : Int32} {a4 : Int32} {a5 : Int32} {u6 : Value} {u7 : Value} {u8 : Value} : WP E d mMo_pour 43 [.ref 166, .int a1, .int a2, .int a3, .int a4, .int a5, u6, u7, u8] [] σ Q = (if mOut a3 4 = true then False else (if 0 ≤ (σ.1 168 a3.toNatClampNeg) then WP E d mMo_pour 58 [.ref 166, .int a1, .int a2, .int a3, .int a4, .int a5, u6, u7, u8] [] σ Q else WP E d mMo_pour 52 [.ref 166, .int a1, .int a2, .int a3, .int a4, .int a5, u6, u7, u8] [] σ Q)) := (w_aload_n dMo_pour_43 rfl).trans ((w_getr (r := 168) dMo_pour_44 rz11_17 sh_166 rfl).trans ((w_iload_n dMo_pour_47 rfl).trans ((w_iald dMo_pour_48 sh_168 (by decide)).trans (ite_c (w_ifge (t := 58) dMo_pour_49 (by decide))))))
theorem bMo_pour_52 {E : mEn} {d : Nat} {σ : mSt} {Q : mPost} {a1 : Int32} {a2 : Int32} {a3 : Int32} {a4 : Int32} {a5 : Int32} {u6 : Value} {u7 : Value} {u8 : Value} : WP E (d + 1) mMo_pour 52 [.ref 166, .int a1, .int a2, .int a3, .int a4, .int a5, u6, u7, u8] [] σ Q = WP E d mMo_no 0 [.ref 166, .int (nI 3)] [] σ (fun r σ' => WP E (d + 1) mMo_pour 57 [.ref 166, .int a1, .int a2, .int a3, .int a4, .int a5, u6, u7, u8] (r.toList ++ []) σ' Q) := (w_aload_n dMo_pour_52 rfl).trans ((w_iconst (v := (nI 3)) dMo_pour_53 rfl).trans (w_virt (vs := [.int (nI 3)]) (st' := []) (es := [.ref 166, .int (nI 3)]) dMo_pour_54 rz11_89 rfl sh_166 rfl rfl rfl (Nat.le_of_ble_eq_true rfl) (Nat.le_of_ble_eq_true rfl) rfl))
theorem bMo_pour_57 {E : mEn} {d : Nat} {σ : mSt} {Q : mPost} {a1 : Int32} {a2 : Int32} {a3 : Int32} {a4 : Int32} {a5 : Int32} {u6 : Value} {u7 : Value} {u8 : Value} {s0 : Int32} (hz0 : s0 = 0 ∨ s0 = 1) : WP E d mMo_pour 57 [.ref 166, .int a1, .int a2, .int a3, .int a4, .int a5, u6, u7, u8] [.int s0] σ Q = Q (some (.int s0)) σ := w_zret dMo_pour_57 rfl hz0
theorem bMo_pour_58 {E : mEn} {d : Nat} {σ : mSt} {Q : mPost} {a1 : Int32} {a2 : Int32} {a3 : Int32} {a4 : Int32} {a5 : Int32} {u6 : Value} {u7 : Value} {u8 : Value} : WP E d mMo_pour 58 [.ref 166, .int a1, .int a2, .int a3, .int a4, .int a5, u6, u7, u8] [] σ Q = (if mOut a1 4 = true then False else (if mOut a3 4 = true then False else (if (σ.1 167 a1.toNatClampNeg) = (σ.1 167 a3.toNatClampNeg) then WP E d mMo_pour 80 [.ref 166, .int a1, .int a2, .int a3, .int a4, .int a5, u6, u7, u8] [] σ Q else WP E d mMo_pour 73 [.ref 166, .int a1, .int a2, .int a3, .int a4, .int a5, u6, u7, u8] [] σ Q))) := (w_aload_n dMo_pour_58 rfl).trans ((w_getr (r := 167) dMo_pour_59 rz11_13 sh_166 rfl).trans ((w_iload_n dMo_pour_62 rfl).trans ((w_iald dMo_pour_63 sh_167 (by decide)).trans (ite_c ((w_aload_n dMo_pour_64 rfl).trans ((w_getr (r := 167) dMo_pour_65 rz11_13 sh_166 rfl).trans ((w_iload_n dMo_pour_68 rfl).trans ((w_iald dMo_pour_69 sh_167 (by decide)).trans (ite_c (w_icmpeq (t := 80) dMo_pour_70 (by decide)))))))))))
theorem bMo_pour_73 {E : mEn} {d : Nat} {σ : mSt} {Q : mPost} {a1 : Int32} {a2 : Int32} {a3 : Int32} {a4 : Int32} {a5 : Int32} {u6 : Value} {u7 : Value} {u8 : Value} : WP E (d + 1) mMo_pour 73 [.ref 166, .int a1, .int a2, .int a3, .int a4, .int a5, u6, u7, u8] [] σ Q = WP E d mMo_no 0 [.ref 166, .int (nI 11)] [] σ (fun r σ' => WP E (d + 1) mMo_pour 79 [.ref 166, .int a1, .int a2, .int a3, .int a4, .int a5, u6, u7, u8] (r.toList ++ []) σ' Q) := (w_aload_n dMo_pour_73 rfl).trans ((w_bipush (v := (nI 11)) dMo_pour_74 rfl).trans (w_virt (vs := [.int (nI 11)]) (st' := []) (es := [.ref 166, .int (nI 11)]) dMo_pour_76 rz11_89 rfl sh_166 rfl rfl rfl (Nat.le_of_ble_eq_true rfl) (Nat.le_of_ble_eq_true rfl) rfl))
theorem bMo_pour_79 {E : mEn} {d : Nat} {σ : mSt} {Q : mPost} {a1 : Int32} {a2 : Int32} {a3 : Int32} {a4 : Int32} {a5 : Int32} {u6 : Value} {u7 : Value} {u8 : Value} {s0 : Int32} (hz0 : s0 = 0 ∨ s0 = 1) : WP E d mMo_pour 79 [.ref 166, .int a1, .int a2, .int a3, .int a4, .int a5, u6, u7, u8] [.int s0] σ Q = Q (some (.int s0)) σ := w_zret dMo_pour_79 rfl hz0
theorem bMo_pour_80 {E : mEn} {d : Nat} {σ : mSt} {Q : mPost} {a1 : Int32} {a2 : Int32} {a3 : Int32} {a4 : Int32} {a5 : Int32} {u6 : Value} {u7 : Value} {u8 : Value} : WP E d mMo_pour 80 [.ref 166, .int a1, .int a2, .int a3, .int a4, .int a5, u6, u7, u8] [] σ Q = (if 0 ≤ a5 then WP E d mMo_pour 92 [.ref 166, .int a1, .int a2, .int a3, .int a4, .int a5, u6, u7, u8] [] σ Q else WP E d mMo_pour 85 [.ref 166, .int a1, .int a2, .int a3, .int a4, .int a5, u6, u7, u8] [] σ Q) := (w_iload dMo_pour_80 rfl).trans (w_ifge (t := 92) dMo_pour_82 (by decide))
theorem bMo_pour_85 {E : mEn} {d : Nat} {σ : mSt} {Q : mPost} {a1 : Int32} {a2 : Int32} {a3 : Int32} {a4 : Int32} {a5 : Int32} {u6 : Value} {u7 : Value} {u8 : Value} : WP E (d + 1) mMo_pour 85 [.ref 166, .int a1, .int a2, .int a3, .int a4, .int a5, u6, u7, u8] [] σ Q = WP E d mMo_no 0 [.ref 166, .int (nI 6)] [] σ (fun r σ' => WP E (d + 1) mMo_pour 91 [.ref 166, .int a1, .int a2, .int a3, .int a4, .int a5, u6, u7, u8] (r.toList ++ []) σ' Q) := (w_aload_n dMo_pour_85 rfl).trans ((w_bipush (v := (nI 6)) dMo_pour_86 rfl).trans (w_virt (vs := [.int (nI 6)]) (st' := []) (es := [.ref 166, .int (nI 6)]) dMo_pour_88 rz11_89 rfl sh_166 rfl rfl rfl (Nat.le_of_ble_eq_true rfl) (Nat.le_of_ble_eq_true rfl) rfl))
theorem bMo_pour_91 {E : mEn} {d : Nat} {σ : mSt} {Q : mPost} {a1 : Int32} {a2 : Int32} {a3 : Int32} {a4 : Int32} {a5 : Int32} {u6 : Value} {u7 : Value} {u8 : Value} {s0 : Int32} (hz0 : s0 = 0 ∨ s0 = 1) : WP E d mMo_pour 91 [.ref 166, .int a1, .int a2, .int a3, .int a4, .int a5, u6, u7, u8] [.int s0] σ Q = Q (some (.int s0)) σ := w_zret dMo_pour_91 rfl hz0
theorem bMo_pour_92 {E : mEn} {d : Nat} {σ : mSt} {Q : mPost} {a1 : Int32} {a2 : Int32} {a3 : Int32} {a4 : Int32} {a5 : Int32} {u6 : Value} {u7 : Value} {u8 : Value} : WP E d mMo_pour 92 [.ref 166, .int a1, .int a2, .int a3, .int a4, .int a5, u6, u7, u8] [] σ Q = (if a2 < 0 then WP E d mMo_pour 136 [.ref 166, .int a1, .int a2, .int a3, .int a4, .int a5, u6, u7, u8] [] σ Q else WP E d mMo_pour 96 [.ref 166, .int a1, .int a2, .int a3, .int a4, .int a5, u6, u7, u8] [] σ Q) := (w_iload_n dMo_pour_92 rfl).trans (w_iflt (t := 136) dMo_pour_93 (by decide))
theorem bMo_pour_96 {E : mEn} {d : Nat} {σ : mSt} {Q : mPost} {a1 : Int32} {a2 : Int32} {a3 : Int32} {a4 : Int32} {a5 : Int32} {u6 : Value} {u7 : Value} {u8 : Value} : WP E d mMo_pour 96 [.ref 166, .int a1, .int a2, .int a3, .int a4, .int a5, u6, u7, u8] [] σ Q = (if a4 < 0 then WP E d mMo_pour 136 [.ref 166, .int a1, .int a2, .int a3, .int a4, .int a5, u6, u7, u8] [] σ Q else WP E d mMo_pour 101 [.ref 166, .int a1, .int a2, .int a3, .int a4, .int a5, u6, u7, u8] [] σ Q) := (w_iload dMo_pour_96 rfl).trans (w_iflt (t := 136) dMo_pour_98 (by decide))
theorem bMo_pour_101 {E : mEn} {d : Nat} {σ : mSt} {Q : mPost} {a1 : Int32} {a2 : Int32} {a3 : Int32} {a4 : Int32} {a5 : Int32} {u6 : Value} {u7 : Value} {u8 : Value} : WP E d mMo_pour 101 [.ref 166, .int a1, .int a2, .int a3, .int a4, .int a5, u6, u7, u8] [] σ Q = (if mOut a1 4 = true then False else (if 0 < (lg_cmp ((a2.toInt64) + (a5.toInt64)) ((σ.1 168 a1.toNatClampNeg).toInt64)) then WP E d mMo_pour 136 [.ref 166, .int a1, .int a2, .int a3, .int a4, .int a5, u6, u7, u8] [] σ Q else WP E d mMo_pour 118 [.ref 166, .int a1, .int a2, .int a3, .int a4, .int a5, u6, u7, u8] [] σ Q)) := (w_iload_n dMo_pour_101 rfl).trans ((w_i2l dMo_pour_102).trans ((w_iload dMo_pour_103 rfl).trans ((w_i2l dMo_pour_105).trans ((w_ladd dMo_pour_106).trans ((w_aload_n dMo_pour_107 rfl).trans ((w_getr (r := 168) dMo_pour_108 rz11_17 sh_166 rfl).trans ((w_iload_n dMo_pour_111 rfl).trans ((w_iald dMo_pour_112 sh_168 (by decide)).trans (ite_c ((w_i2l dMo_pour_113).trans ((w_lcmp dMo_pour_114).trans (w_ifgt (t := 136) dMo_pour_115 (by decide)))))))))))))
theorem bMo_pour_118 {E : mEn} {d : Nat} {σ : mSt} {Q : mPost} {a1 : Int32} {a2 : Int32} {a3 : Int32} {a4 : Int32} {a5 : Int32} {u6 : Value} {u7 : Value} {u8 : Value} : WP E d mMo_pour 118 [.ref 166, .int a1, .int a2, .int a3, .int a4, .int a5, u6, u7, u8] [] σ Q = (if mOut a3 4 = true then False else (if (lg_cmp ((a4.toInt64) + (a5.toInt64)) ((σ.1 168 a3.toNatClampNeg).toInt64)) ≤ 0 then WP E d mMo_pour 142 [.ref 166, .int a1, .int a2, .int a3, .int a4, .int a5, u6, u7, u8] [] σ Q else WP E d mMo_pour 136 [.ref 166, .int a1, .int a2, .int a3, .int a4, .int a5, u6, u7, u8] [] σ Q)) := (w_iload dMo_pour_118 rfl).trans ((w_i2l dMo_pour_120).trans ((w_iload dMo_pour_121 rfl).trans ((w_i2l dMo_pour_123).trans ((w_ladd dMo_pour_124).trans ((w_aload_n dMo_pour_125 rfl).trans ((w_getr (r := 168) dMo_pour_126 rz11_17 sh_166 rfl).trans ((w_iload_n dMo_pour_129 rfl).trans ((w_iald dMo_pour_130 sh_168 (by decide)).trans (ite_c ((w_i2l dMo_pour_131).trans ((w_lcmp dMo_pour_132).trans (w_ifle (t := 142) dMo_pour_133 (by decide)))))))))))))
theorem bMo_pour_136 {E : mEn} {d : Nat} {σ : mSt} {Q : mPost} {a1 : Int32} {a2 : Int32} {a3 : Int32} {a4 : Int32} {a5 : Int32} {u6 : Value} {u7 : Value} {u8 : Value} : WP E (d + 1) mMo_pour 136 [.ref 166, .int a1, .int a2, .int a3, .int a4, .int a5, u6, u7, u8] [] σ Q = WP E d mMo_no 0 [.ref 166, .int (nI 4)] [] σ (fun r σ' => WP E (d + 1) mMo_pour 141 [.ref 166, .int a1, .int a2, .int a3, .int a4, .int a5, u6, u7, u8] (r.toList ++ []) σ' Q) := (w_aload_n dMo_pour_136 rfl).trans ((w_iconst (v := (nI 4)) dMo_pour_137 rfl).trans (w_virt (vs := [.int (nI 4)]) (st' := []) (es := [.ref 166, .int (nI 4)]) dMo_pour_138 rz11_89 rfl sh_166 rfl rfl rfl (Nat.le_of_ble_eq_true rfl) (Nat.le_of_ble_eq_true rfl) rfl))
theorem bMo_pour_141 {E : mEn} {d : Nat} {σ : mSt} {Q : mPost} {a1 : Int32} {a2 : Int32} {a3 : Int32} {a4 : Int32} {a5 : Int32} {u6 : Value} {u7 : Value} {u8 : Value} {s0 : Int32} (hz0 : s0 = 0 ∨ s0 = 1) : WP E d mMo_pour 141 [.ref 166, .int a1, .int a2, .int a3, .int a4, .int a5, u6, u7, u8] [.int s0] σ Q = Q (some (.int s0)) σ := w_zret dMo_pour_141 rfl hz0
theorem bMo_pour_142 {E : mEn} {d : Nat} {σ : mSt} {Q : mPost} {a1 : Int32} {a2 : Int32} {a3 : Int32} {a4 : Int32} {a5 : Int32} {u6 : Value} {u7 : Value} {u8 : Value} : WP E d mMo_pour 142 [.ref 166, .int a1, .int a2, .int a3, .int a4, .int a5, u6, u7, u8] [] σ Q = (if a4 ≤ a2 then WP E d mMo_pour 152 [.ref 166, .int a1, .int a2, .int a3, .int a4, .int a5, u6, u7, u8] [] σ Q else WP E d mMo_pour 148 [.ref 166, .int a1, .int a2, .int a3, .int a4, .int a5, u6, u7, u8] [] σ Q) := (w_iload_n dMo_pour_142 rfl).trans ((w_iload dMo_pour_143 rfl).trans (w_icmpge (t := 152) dMo_pour_145 (by decide)))
theorem bMo_pour_148 {E : mEn} {d : Nat} {σ : mSt} {Q : mPost} {a1 : Int32} {a2 : Int32} {a3 : Int32} {a4 : Int32} {a5 : Int32} {u6 : Value} {u7 : Value} {u8 : Value} : WP E d mMo_pour 148 [.ref 166, .int a1, .int a2, .int a3, .int a4, .int a5, u6, u7, u8] [] σ Q = WP E d mMo_pour 153 [.ref 166, .int a1, .int a2, .int a3, .int a4, .int a5, u6, u7, u8] [.int 1] σ Q := (w_iconst (v := 1) dMo_pour_148 rfl).trans (w_goto (t := 153) dMo_pour_149 (by decide))
theorem bMo_pour_152 {E : mEn} {d : Nat} {σ : mSt} {Q : mPost} {a1 : Int32} {a2 : Int32} {a3 : Int32} {a4 : Int32} {a5 : Int32} {u6 : Value} {u7 : Value} {u8 : Value} : WP E d mMo_pour 152 [.ref 166, .int a1, .int a2, .int a3, .int a4, .int a5, u6, u7, u8] [] σ Q = WP E d mMo_pour 153 [.ref 166, .int a1, .int a2, .int a3, .int a4, .int a5, u6, u7, u8] [.int 0] σ Q := w_iconst (v := 0) dMo_pour_152 rfl
theorem bMo_pour_153 {E : mEn} {d : Nat} {σ : mSt} {Q : mPost} {a1 : Int32} {a2 : Int32} {a3 : Int32} {a4 : Int32} {a5 : Int32} {u6 : Value} {u7 : Value} {u8 : Value} {s0 : Int32} : WP E d mMo_pour 153 [.ref 166, .int a1, .int a2, .int a3, .int a4, .int a5, u6, u7, u8] [.int s0] σ Q = WP E d mMo_pour 158 [.ref 166, .int a1, .int a2, .int a3, .int a4, .int a5, .int s0, .int 0, u8] [] σ Q := (w_istore (ls' := [.ref 166, .int a1, .int a2, .int a3, .int a4, .int a5, .int s0, u7, u8]) dMo_pour_153 (Nat.le_of_ble_eq_true rfl) rfl).trans ((w_iconst (v := 0) dMo_pour_155 rfl).trans (w_istore (ls' := [.ref 166, .int a1, .int a2, .int a3, .int a4, .int a5, .int s0, .int 0, u8]) dMo_pour_156 (Nat.le_of_ble_eq_true rfl) rfl))
theorem bMo_pour_158 {E : mEn} {d : Nat} {σ : mSt} {Q : mPost} {a1 : Int32} {a2 : Int32} {a3 : Int32} {a4 : Int32} {a5 : Int32} {a6 : Int32} {a7 : Int32} {u8 : Value} : WP E d mMo_pour 158 [.ref 166, .int a1, .int a2, .int a3, .int a4, .int a5, .int a6, .int a7, u8] [] σ Q = (if a5 ≤ a7 then WP E d mMo_pour 219 [.ref 166, .int a1, .int a2, .int a3, .int a4, .int a5, .int a6, .int a7, u8] [] σ Q else WP E d mMo_pour 165 [.ref 166, .int a1, .int a2, .int a3, .int a4, .int a5, .int a6, .int a7, u8] [] σ Q) := (w_iload dMo_pour_158 rfl).trans ((w_iload dMo_pour_160 rfl).trans (w_icmpge (t := 219) dMo_pour_162 (by decide)))
theorem bMo_pour_165 {E : mEn} {d : Nat} {σ : mSt} {Q : mPost} {a1 : Int32} {a2 : Int32} {a3 : Int32} {a4 : Int32} {a5 : Int32} {a6 : Int32} {a7 : Int32} {u8 : Value} : WP E d mMo_pour 165 [.ref 166, .int a1, .int a2, .int a3, .int a4, .int a5, .int a6, .int a7, u8] [] σ Q = (if a6 = 0 then WP E d mMo_pour 180 [.ref 166, .int a1, .int a2, .int a3, .int a4, .int a5, .int a6, .int a7, u8] [] σ Q else WP E d mMo_pour 170 [.ref 166, .int a1, .int a2, .int a3, .int a4, .int a5, .int a6, .int a7, u8] [] σ Q) := (w_iload dMo_pour_165 rfl).trans (w_ifeq (t := 180) dMo_pour_167 (by decide))
theorem bMo_pour_170 {E : mEn} {d : Nat} {σ : mSt} {Q : mPost} {a1 : Int32} {a2 : Int32} {a3 : Int32} {a4 : Int32} {a5 : Int32} {a6 : Int32} {a7 : Int32} {u8 : Value} : WP E d mMo_pour 170 [.ref 166, .int a1, .int a2, .int a3, .int a4, .int a5, .int a6, .int a7, u8] [] σ Q = WP E d mMo_pour 182 [.ref 166, .int a1, .int a2, .int a3, .int a4, .int a5, .int a6, .int a7, u8] [.int ((a5 - 1) - a7)] σ Q := (w_iload dMo_pour_170 rfl).trans ((w_iconst (v := 1) dMo_pour_172 rfl).trans ((w_isub dMo_pour_173).trans ((w_iload dMo_pour_174 rfl).trans ((w_isub dMo_pour_176).trans (w_goto (t := 182) dMo_pour_177 (by decide))))))
theorem bMo_pour_180 {E : mEn} {d : Nat} {σ : mSt} {Q : mPost} {a1 : Int32} {a2 : Int32} {a3 : Int32} {a4 : Int32} {a5 : Int32} {a6 : Int32} {a7 : Int32} {u8 : Value} : WP E d mMo_pour 180 [.ref 166, .int a1, .int a2, .int a3, .int a4, .int a5, .int a6, .int a7, u8] [] σ Q = WP E d mMo_pour 182 [.ref 166, .int a1, .int a2, .int a3, .int a4, .int a5, .int a6, .int a7, u8] [.int a7] σ Q := w_iload dMo_pour_180 rfl
theorem bMo_pour_182 {E : mEn} {d : Nat} {σ : mSt} {Q : mPost} {a1 : Int32} {a2 : Int32} {a3 : Int32} {a4 : Int32} {a5 : Int32} {a6 : Int32} {a7 : Int32} {u8 : Value} {s0 : Int32} : WP E d mMo_pour 182 [.ref 166, .int a1, .int a2, .int a3, .int a4, .int a5, .int a6, .int a7, u8] [.int s0] σ Q = (if mOut ((((nI 60) * a1) + a2) + s0) 240 = true then False else (if mOut ((((nI 60) * a3) + a4) + s0) 240 = true then False else WP E d mMo_pour 158 [.ref 166, .int a1, .int a2, .int a3, .int a4, .int a5, .int a6, .int (a7 + 1), .int s0] [] (sL σ 169 ((((nI 60) * a3) + a4) + s0).toNatClampNeg (σ.2 169 ((((nI 60) * a1) + a2) + s0).toNatClampNeg)) Q)) := (w_istore (ls' := [.ref 166, .int a1, .int a2, .int a3, .int a4, .int a5, .int a6, .int a7, .int s0]) dMo_pour_182 (Nat.le_of_ble_eq_true rfl) rfl).trans ((w_aload_n dMo_pour_184 rfl).trans ((w_getr (r := 169) dMo_pour_185 rz11_20 sh_166 rfl).trans ((w_bipush (v := (nI 60)) dMo_pour_188 rfl).trans ((w_iload_n dMo_pour_190 rfl).trans ((w_imul dMo_pour_191).trans ((w_iload dMo_pour_192 rfl).trans ((w_iadd dMo_pour_194).trans ((w_iload dMo_pour_195 rfl).trans ((w_iadd dMo_pour_197).trans ((w_aload_n dMo_pour_198 rfl).trans ((w_getr (r := 169) dMo_pour_199 rz11_20 sh_166 rfl).trans ((w_bipush (v := (nI 60)) dMo_pour_202 rfl).trans ((w_iload_n dMo_pour_204 rfl).trans ((w_imul dMo_pour_205).trans ((w_iload_n dMo_pour_206 rfl).trans ((w_iadd dMo_pour_207).trans ((w_iload dMo_pour_208 rfl).trans ((w_iadd dMo_pour_210).trans ((w_lald dMo_pour_211 sh_169).trans (ite_c ((w_last dMo_pour_212 sh_169).trans (ite_c ((w_iinc (v := 1) (ls' := [.ref 166, .int a1, .int a2, .int a3, .int a4, .int a5, .int a6, .int (a7 + 1), .int s0]) dMo_pour_213 rfl rfl rfl).trans (w_goto (t := 158) dMo_pour_216 (by decide)))))))))))))))))))))))))
theorem bMo_pour_219 {E : mEn} {d : Nat} {σ : mSt} {Q : mPost} {a1 : Int32} {a2 : Int32} {a3 : Int32} {a4 : Int32} {a5 : Int32} {a6 : Int32} {a7 : Int32} {u8 : Value} : WP E d mMo_pour 219 [.ref 166, .int a1, .int a2, .int a3, .int a4, .int a5, .int a6, .int a7, u8] [] σ Q = Q (some (.int 1)) σ := (w_iconst (v := 1) dMo_pour_219 rfl).trans (w_zret dMo_pour_220 rfl (Or.inr rfl))
theorem dMo_feed_0 : decode (mC mMo_feed) 0 = .ok (.aload_n 0, 1) := by decide +kernel
theorem dMo_feed_1 : decode (mC mMo_feed) 1 = .ok (.iconst (0), 1) := by decide +kernel
theorem dMo_feed_2 : decode (mC mMo_feed) 2 = .ok (.putfield 74, 3) := by decide +kernel
theorem dMo_feed_5 : decode (mC mMo_feed) 5 = .ok (.aload_n 0, 1) := by decide +kernel
theorem dMo_feed_6 : decode (mC mMo_feed) 6 = .ok (.getfield 235, 3) := by decide +kernel
theorem dMo_feed_9 : decode (mC mMo_feed) 9 = .ok (.bipush (20), 2) := by decide +kernel
theorem dMo_feed_11 : decode (mC mMo_feed) 11 = .ok (.iadd, 1) := by decide +kernel
theorem dMo_feed_12 : decode (mC mMo_feed) 12 = .ok (.sipush (900), 3) := by decide +kernel
theorem dMo_feed_15 : decode (mC mMo_feed) 15 = .ok (.if_icmp .le (5), 3) := by decide +kernel
theorem dMo_feed_18 : decode (mC mMo_feed) 18 = .ok (.iconst (-1), 1) := by decide +kernel
theorem dMo_feed_19 : decode (mC mMo_feed) 19 = .ok (.ireturn, 1) := by decide +kernel
theorem dMo_feed_20 : decode (mC mMo_feed) 20 = .ok (.aload_n 0, 1) := by decide +kernel
theorem dMo_feed_21 : decode (mC mMo_feed) 21 = .ok (.iload_n 1, 1) := by decide +kernel
theorem dMo_feed_22 : decode (mC mMo_feed) 22 = .ok (.invokevirtual 238, 3) := by decide +kernel
theorem dMo_feed_25 : decode (mC mMo_feed) 25 = .ok (.aload_n 0, 1) := by decide +kernel
theorem dMo_feed_26 : decode (mC mMo_feed) 26 = .ok (.iload_n 2, 1) := by decide +kernel
theorem dMo_feed_27 : decode (mC mMo_feed) 27 = .ok (.invokevirtual 238, 3) := by decide +kernel
theorem dMo_feed_30 : decode (mC mMo_feed) 30 = .ok (.aload_n 0, 1) := by decide +kernel
theorem dMo_feed_31 : decode (mC mMo_feed) 31 = .ok (.iload_n 3, 1) := by decide +kernel
theorem dMo_feed_32 : decode (mC mMo_feed) 32 = .ok (.invokevirtual 238, 3) := by decide +kernel
theorem dMo_feed_35 : decode (mC mMo_feed) 35 = .ok (.aload_n 0, 1) := by decide +kernel
theorem dMo_feed_36 : decode (mC mMo_feed) 36 = .ok (.iload 4, 2) := by decide +kernel
theorem dMo_feed_38 : decode (mC mMo_feed) 38 = .ok (.invokevirtual 238, 3) := by decide +kernel
theorem dMo_feed_41 : decode (mC mMo_feed) 41 = .ok (.aload_n 0, 1) := by decide +kernel
theorem dMo_feed_42 : decode (mC mMo_feed) 42 = .ok (.iload 5, 2) := by decide +kernel
theorem dMo_feed_44 : decode (mC mMo_feed) 44 = .ok (.invokevirtual 238, 3) := by decide +kernel
theorem dMo_feed_47 : decode (mC mMo_feed) 47 = .ok (.aload_n 0, 1) := by decide +kernel
theorem dMo_feed_48 : decode (mC mMo_feed) 48 = .ok (.getfield 235, 3) := by decide +kernel
theorem dMo_feed_51 : decode (mC mMo_feed) 51 = .ok (.ireturn, 1) := by decide +kernel
theorem bMo_feed_0 {E : mEn} {d : Nat} {σ : mSt} {Q : mPost} {a1 : Int32} {a2 : Int32} {a3 : Int32} {a4 : Int32} {a5 : Int32} : WP E d mMo_feed 0 [.ref 166, .int a1, .int a2, .int a3, .int a4, .int a5] [] σ Q = (if (((sI σ 166 1 0).1 166 8) + (nI 20)) ≤ (nI 900) then WP E d mMo_feed 20 [.ref 166, .int a1, .int a2, .int a3, .int a4, .int a5] [] (sI σ 166 1 0) Q else WP E d mMo_feed 18 [.ref 166, .int a1, .int a2, .int a3, .int a4, .int a5] [] (sI σ 166 1 0) Q) := (w_aload_n dMo_feed_0 rfl).trans ((w_iconst (v := 0) dMo_feed_1 rfl).trans ((w_puti dMo_feed_2 rz11_74 sh_166 rfl rfl rfl).trans ((w_aload_n dMo_feed_5 rfl).trans ((w_geti dMo_feed_6 rz11_235 sh_166 rfl).trans ((w_bipush (v := (nI 20)) dMo_feed_9 rfl).trans ((w_iadd dMo_feed_11).trans ((w_sipush (v := (nI 900)) dMo_feed_12 rfl).trans (w_icmple (t := 20) dMo_feed_15 (by decide)))))))))
theorem bMo_feed_18 {E : mEn} {d : Nat} {σ : mSt} {Q : mPost} {a1 : Int32} {a2 : Int32} {a3 : Int32} {a4 : Int32} {a5 : Int32} : WP E d mMo_feed 18 [.ref 166, .int a1, .int a2, .int a3, .int a4, .int a5] [] σ Q = Q (some (.int (-1))) σ := (w_iconst (v := (-1)) dMo_feed_18 rfl).trans (w_iret dMo_feed_19 rfl)
theorem bMo_feed_20 {E : mEn} {d : Nat} {σ : mSt} {Q : mPost} {a1 : Int32} {a2 : Int32} {a3 : Int32} {a4 : Int32} {a5 : Int32} : WP E (d + 1) mMo_feed 20 [.ref 166, .int a1, .int a2, .int a3, .int a4, .int a5] [] σ Q = WP E d mMo_lay 0 [.ref 166, .int a1, uu] [] σ (fun r σ' => WP E (d + 1) mMo_feed 25 [.ref 166, .int a1, .int a2, .int a3, .int a4, .int a5] (r.toList ++ []) σ' Q) := (w_aload_n dMo_feed_20 rfl).trans ((w_iload_n dMo_feed_21 rfl).trans (w_virt (vs := [.int a1]) (st' := []) (es := [.ref 166, .int a1, uu]) dMo_feed_22 rz11_238 rfl sh_166 rfl rfl rfl (Nat.le_of_ble_eq_true rfl) (Nat.le_of_ble_eq_true rfl) rfl))
theorem bMo_feed_25 {E : mEn} {d : Nat} {σ : mSt} {Q : mPost} {a1 : Int32} {a2 : Int32} {a3 : Int32} {a4 : Int32} {a5 : Int32} : WP E (d + 1) mMo_feed 25 [.ref 166, .int a1, .int a2, .int a3, .int a4, .int a5] [] σ Q = WP E d mMo_lay 0 [.ref 166, .int a2, uu] [] σ (fun r σ' => WP E (d + 1) mMo_feed 30 [.ref 166, .int a1, .int a2, .int a3, .int a4, .int a5] (r.toList ++ []) σ' Q) := (w_aload_n dMo_feed_25 rfl).trans ((w_iload_n dMo_feed_26 rfl).trans (w_virt (vs := [.int a2]) (st' := []) (es := [.ref 166, .int a2, uu]) dMo_feed_27 rz11_238 rfl sh_166 rfl rfl rfl (Nat.le_of_ble_eq_true rfl) (Nat.le_of_ble_eq_true rfl) rfl))
theorem bMo_feed_30 {E : mEn} {d : Nat} {σ : mSt} {Q : mPost} {a1 : Int32} {a2 : Int32} {a3 : Int32} {a4 : Int32} {a5 : Int32} : WP E (d + 1) mMo_feed 30 [.ref 166, .int a1, .int a2, .int a3, .int a4, .int a5] [] σ Q = WP E d mMo_lay 0 [.ref 166, .int a3, uu] [] σ (fun r σ' => WP E (d + 1) mMo_feed 35 [.ref 166, .int a1, .int a2, .int a3, .int a4, .int a5] (r.toList ++ []) σ' Q) := (w_aload_n dMo_feed_30 rfl).trans ((w_iload_n dMo_feed_31 rfl).trans (w_virt (vs := [.int a3]) (st' := []) (es := [.ref 166, .int a3, uu]) dMo_feed_32 rz11_238 rfl sh_166 rfl rfl rfl (Nat.le_of_ble_eq_true rfl) (Nat.le_of_ble_eq_true rfl) rfl))
theorem bMo_feed_35 {E : mEn} {d : Nat} {σ : mSt} {Q : mPost} {a1 : Int32} {a2 : Int32} {a3 : Int32} {a4 : Int32} {a5 : Int32} : WP E (d + 1) mMo_feed 35 [.ref 166, .int a1, .int a2, .int a3, .int a4, .int a5] [] σ Q = WP E d mMo_lay 0 [.ref 166, .int a4, uu] [] σ (fun r σ' => WP E (d + 1) mMo_feed 41 [.ref 166, .int a1, .int a2, .int a3, .int a4, .int a5] (r.toList ++ []) σ' Q) := (w_aload_n dMo_feed_35 rfl).trans ((w_iload dMo_feed_36 rfl).trans (w_virt (vs := [.int a4]) (st' := []) (es := [.ref 166, .int a4, uu]) dMo_feed_38 rz11_238 rfl sh_166 rfl rfl rfl (Nat.le_of_ble_eq_true rfl) (Nat.le_of_ble_eq_true rfl) rfl))
theorem bMo_feed_41 {E : mEn} {d : Nat} {σ : mSt} {Q : mPost} {a1 : Int32} {a2 : Int32} {a3 : Int32} {a4 : Int32} {a5 : Int32} : WP E (d + 1) mMo_feed 41 [.ref 166, .int a1, .int a2, .int a3, .int a4, .int a5] [] σ Q = WP E d mMo_lay 0 [.ref 166, .int a5, uu] [] σ (fun r σ' => WP E (d + 1) mMo_feed 47 [.ref 166, .int a1, .int a2, .int a3, .int a4, .int a5] (r.toList ++ []) σ' Q) := (w_aload_n dMo_feed_41 rfl).trans ((w_iload dMo_feed_42 rfl).trans (w_virt (vs := [.int a5]) (st' := []) (es := [.ref 166, .int a5, uu]) dMo_feed_44 rz11_238 rfl sh_166 rfl rfl rfl (Nat.le_of_ble_eq_true rfl) (Nat.le_of_ble_eq_true rfl) rfl))
theorem bMo_feed_47 {E : mEn} {d : Nat} {σ : mSt} {Q : mPost} {a1 : Int32} {a2 : Int32} {a3 : Int32} {a4 : Int32} {a5 : Int32} : WP E d mMo_feed 47 [.ref 166, .int a1, .int a2, .int a3, .int a4, .int a5] [] σ Q = Q (some (.int (σ.1 166 8))) σ := (w_aload_n dMo_feed_47 rfl).trans ((w_geti dMo_feed_48 rz11_235 sh_166 rfl).trans (w_iret dMo_feed_51 rfl))
theorem dMo_lay_0 : decode (mC mMo_lay) 0 = .ok (.iconst (3), 1) := by decide +kernel
theorem dMo_lay_1 : decode (mC mMo_lay) 1 = .ok (.istore_n 2, 1) := by decide +kernel
theorem dMo_lay_2 : decode (mC mMo_lay) 2 = .ok (.iload_n 2, 1) := by decide +kernel
theorem dMo_lay_3 : decode (mC mMo_lay) 3 = .ok (.ifCond .lt (35), 3) := by decide +kernel
theorem dMo_lay_6 : decode (mC mMo_lay) 6 = .ok (.aload_n 0, 1) := by decide +kernel
theorem dMo_lay_7 : decode (mC mMo_lay) 7 = .ok (.getfield 24, 3) := by decide +kernel
theorem dMo_lay_10 : decode (mC mMo_lay) 10 = .ok (.aload_n 0, 1) := by decide +kernel
theorem dMo_lay_11 : decode (mC mMo_lay) 11 = .ok (.getfield 235, 3) := by decide +kernel
theorem dMo_lay_14 : decode (mC mMo_lay) 14 = .ok (.iload_n 1, 1) := by decide +kernel
theorem dMo_lay_15 : decode (mC mMo_lay) 15 = .ok (.bipush (8), 2) := by decide +kernel
theorem dMo_lay_17 : decode (mC mMo_lay) 17 = .ok (.iload_n 2, 1) := by decide +kernel
theorem dMo_lay_18 : decode (mC mMo_lay) 18 = .ok (.imul, 1) := by decide +kernel
theorem dMo_lay_19 : decode (mC mMo_lay) 19 = .ok (.ishr, 1) := by decide +kernel
theorem dMo_lay_20 : decode (mC mMo_lay) 20 = .ok (.i2b, 1) := by decide +kernel
theorem dMo_lay_21 : decode (mC mMo_lay) 21 = .ok (.bastore, 1) := by decide +kernel
theorem dMo_lay_22 : decode (mC mMo_lay) 22 = .ok (.aload_n 0, 1) := by decide +kernel
theorem dMo_lay_23 : decode (mC mMo_lay) 23 = .ok (.dup, 1) := by decide +kernel
theorem dMo_lay_24 : decode (mC mMo_lay) 24 = .ok (.getfield 235, 3) := by decide +kernel
theorem dMo_lay_27 : decode (mC mMo_lay) 27 = .ok (.iconst (1), 1) := by decide +kernel
theorem dMo_lay_28 : decode (mC mMo_lay) 28 = .ok (.iadd, 1) := by decide +kernel
theorem dMo_lay_29 : decode (mC mMo_lay) 29 = .ok (.putfield 235, 3) := by decide +kernel
theorem dMo_lay_32 : decode (mC mMo_lay) 32 = .ok (.iinc 2 (-1), 3) := by decide +kernel
theorem dMo_lay_35 : decode (mC mMo_lay) 35 = .ok (.goto (-33), 3) := by decide +kernel
theorem dMo_lay_38 : decode (mC mMo_lay) 38 = .ok (.return_, 1) := by decide +kernel
theorem bMo_lay_0 {E : mEn} {d : Nat} {σ : mSt} {Q : mPost} {a1 : Int32} {u2 : Value} : WP E d mMo_lay 0 [.ref 166, .int a1, u2] [] σ Q = WP E d mMo_lay 2 [.ref 166, .int a1, .int (nI 3)] [] σ Q := (w_iconst (v := (nI 3)) dMo_lay_0 rfl).trans (w_istore_n (ls' := [.ref 166, .int a1, .int (nI 3)]) dMo_lay_1 (Nat.le_of_ble_eq_true rfl) rfl)
theorem bMo_lay_2 {E : mEn} {d : Nat} {σ : mSt} {Q : mPost} {a1 : Int32} {a2 : Int32} : WP E d mMo_lay 2 [.ref 166, .int a1, .int a2] [] σ Q = (if a2 < 0 then WP E d mMo_lay 38 [.ref 166, .int a1, .int a2] [] σ Q else WP E d mMo_lay 6 [.ref 166, .int a1, .int a2] [] σ Q) := (w_iload_n dMo_lay_2 rfl).trans (w_iflt (t := 38) dMo_lay_3 (by decide))
theorem bMo_lay_6 {E : mEn} {d : Nat} {σ : mSt} {Q : mPost} {a1 : Int32} {a2 : Int32} : WP E d mMo_lay 6 [.ref 166, .int a1, .int a2] [] σ Q = (if mOut (σ.1 166 8) 900 = true then False else WP E d mMo_lay 32 [.ref 166, .int a1, .int a2] [] (sI (sI σ 170 (σ.1 166 8).toNatClampNeg (vp_nar .byte ((a1 >>> (((nI 8) * a2) &&& 31)).toInt8.toInt32))) 166 8 (((sI σ 170 (σ.1 166 8).toNatClampNeg (vp_nar .byte ((a1 >>> (((nI 8) * a2) &&& 31)).toInt8.toInt32))).1 166 8) + 1)) Q) := (w_aload_n dMo_lay_6 rfl).trans ((w_getr (r := 170) dMo_lay_7 rz11_24 sh_166 rfl).trans ((w_aload_n dMo_lay_10 rfl).trans ((w_geti dMo_lay_11 rz11_235 sh_166 rfl).trans ((w_iload_n dMo_lay_14 rfl).trans ((w_bipush (v := (nI 8)) dMo_lay_15 rfl).trans ((w_iload_n dMo_lay_17 rfl).trans ((w_imul dMo_lay_18).trans ((w_ishr dMo_lay_19).trans ((w_i2b dMo_lay_20).trans ((w_bast dMo_lay_21 sh_170).trans (ite_c ((w_aload_n dMo_lay_22 rfl).trans ((w_dup dMo_lay_23 rfl).trans ((w_geti dMo_lay_24 rz11_235 sh_166 rfl).trans ((w_iconst (v := 1) dMo_lay_27 rfl).trans ((w_iadd dMo_lay_28).trans (w_puti dMo_lay_29 rz11_235 sh_166 rfl rfl rfl)))))))))))))))))
theorem bMo_lay_32 {E : mEn} {d : Nat} {σ : mSt} {Q : mPost} {a1 : Int32} {a2 : Int32} : WP E d mMo_lay 32 [.ref 166, .int a1, .int a2] [] σ Q = WP E d mMo_lay 2 [.ref 166, .int a1, .int (a2 + (-1))] [] σ Q := (w_iinc (v := (-1)) (ls' := [.ref 166, .int a1, .int (a2 + (-1))]) dMo_lay_32 rfl rfl rfl).trans (w_goto (t := 2) dMo_lay_35 (by decide))
theorem bMo_lay_38 {E : mEn} {d : Nat} {σ : mSt} {Q : mPost} {a1 : Int32} {a2 : Int32} : WP E d mMo_lay 38 [.ref 166, .int a1, .int a2] [] σ Q = Q none σ := w_vret dMo_lay_38 rfl
theorem dMo_fault_0 : decode (mC mMo_fault) 0 = .ok (.aload_n 0, 1) := by decide +kernel
theorem dMo_fault_1 : decode (mC mMo_fault) 1 = .ok (.iconst (0), 1) := by decide +kernel
theorem dMo_fault_2 : decode (mC mMo_fault) 2 = .ok (.putfield 74, 3) := by decide +kernel
theorem dMo_fault_5 : decode (mC mMo_fault) 5 = .ok (.iload_n 1, 1) := by decide +kernel
theorem dMo_fault_6 : decode (mC mMo_fault) 6 = .ok (.ifCond .ne (10), 3) := by decide +kernel
theorem dMo_fault_9 : decode (mC mMo_fault) 9 = .ok (.aload_n 0, 1) := by decide +kernel
theorem dMo_fault_10 : decode (mC mMo_fault) 10 = .ok (.getfield 28, 3) := by decide +kernel
theorem dMo_fault_13 : decode (mC mMo_fault) 13 = .ok (.goto (16), 3) := by decide +kernel
theorem dMo_fault_16 : decode (mC mMo_fault) 16 = .ok (.iload_n 1, 1) := by decide +kernel
theorem dMo_fault_17 : decode (mC mMo_fault) 17 = .ok (.iconst (1), 1) := by decide +kernel
theorem dMo_fault_18 : decode (mC mMo_fault) 18 = .ok (.if_icmp .ne (10), 3) := by decide +kernel
theorem dMo_fault_21 : decode (mC mMo_fault) 21 = .ok (.aload_n 0, 1) := by decide +kernel
theorem dMo_fault_22 : decode (mC mMo_fault) 22 = .ok (.getfield 32, 3) := by decide +kernel
theorem dMo_fault_25 : decode (mC mMo_fault) 25 = .ok (.goto (4), 3) := by decide +kernel
theorem dMo_fault_28 : decode (mC mMo_fault) 28 = .ok (.iconst (-1), 1) := by decide +kernel
theorem dMo_fault_29 : decode (mC mMo_fault) 29 = .ok (.ireturn, 1) := by decide +kernel
theorem bMo_fault_0 {E : mEn} {d : Nat} {σ : mSt} {Q : mPost} {a1 : Int32} : WP E d mMo_fault 0 [.ref 166, .int a1] [] σ Q = (if ¬ a1 = 0 then WP E d mMo_fault 16 [.ref 166, .int a1] [] (sI σ 166 1 0) Q else WP E d mMo_fault 9 [.ref 166, .int a1] [] (sI σ 166 1 0) Q) := (w_aload_n dMo_fault_0 rfl).trans ((w_iconst (v := 0) dMo_fault_1 rfl).trans ((w_puti dMo_fault_2 rz11_74 sh_166 rfl rfl rfl).trans ((w_iload_n dMo_fault_5 rfl).trans (w_ifne (t := 16) dMo_fault_6 (by decide)))))
theorem bMo_fault_9 {E : mEn} {d : Nat} {σ : mSt} {Q : mPost} {a1 : Int32} : WP E d mMo_fault 9 [.ref 166, .int a1] [] σ Q = WP E d mMo_fault 29 [.ref 166, .int a1] [.int (σ.1 166 10)] σ Q := (w_aload_n dMo_fault_9 rfl).trans ((w_geti dMo_fault_10 rz11_28 sh_166 rfl).trans (w_goto (t := 29) dMo_fault_13 (by decide)))
theorem bMo_fault_16 {E : mEn} {d : Nat} {σ : mSt} {Q : mPost} {a1 : Int32} : WP E d mMo_fault 16 [.ref 166, .int a1] [] σ Q = (if ¬ a1 = 1 then WP E d mMo_fault 28 [.ref 166, .int a1] [] σ Q else WP E d mMo_fault 21 [.ref 166, .int a1] [] σ Q) := (w_iload_n dMo_fault_16 rfl).trans ((w_iconst (v := 1) dMo_fault_17 rfl).trans (w_icmpne (t := 28) dMo_fault_18 (by decide)))
theorem bMo_fault_21 {E : mEn} {d : Nat} {σ : mSt} {Q : mPost} {a1 : Int32} : WP E d mMo_fault 21 [.ref 166, .int a1] [] σ Q = WP E d mMo_fault 29 [.ref 166, .int a1] [.int (σ.1 166 11)] σ Q := (w_aload_n dMo_fault_21 rfl).trans ((w_geti dMo_fault_22 rz11_32 sh_166 rfl).trans (w_goto (t := 29) dMo_fault_25 (by decide)))
theorem bMo_fault_28 {E : mEn} {d : Nat} {σ : mSt} {Q : mPost} {a1 : Int32} : WP E d mMo_fault 28 [.ref 166, .int a1] [] σ Q = WP E d mMo_fault 29 [.ref 166, .int a1] [.int (-1)] σ Q := w_iconst (v := (-1)) dMo_fault_28 rfl
theorem bMo_fault_29 {E : mEn} {d : Nat} {σ : mSt} {Q : mPost} {a1 : Int32} {s0 : Int32} : WP E d mMo_fault 29 [.ref 166, .int a1] [.int s0] σ Q = Q (some (.int s0)) σ := w_iret dMo_fault_29 rfl
theorem dMo_town_0 : decode (mC mMo_town) 0 = .ok (.aload_n 0, 1) := by decide +kernel
theorem dMo_town_1 : decode (mC mMo_town) 1 = .ok (.iconst (0), 1) := by decide +kernel
theorem dMo_town_2 : decode (mC mMo_town) 2 = .ok (.putfield 74, 3) := by decide +kernel
theorem dMo_town_5 : decode (mC mMo_town) 5 = .ok (.aload_n 0, 1) := by decide +kernel
theorem dMo_town_6 : decode (mC mMo_town) 6 = .ok (.iconst (0), 1) := by decide +kernel
theorem dMo_town_7 : decode (mC mMo_town) 7 = .ok (.putfield 77, 3) := by decide +kernel
theorem dMo_town_10 : decode (mC mMo_town) 10 = .ok (.aload_n 0, 1) := by decide +kernel
theorem dMo_town_11 : decode (mC mMo_town) 11 = .ok (.iload_n 1, 1) := by decide +kernel
theorem dMo_town_12 : decode (mC mMo_town) 12 = .ok (.sipush (900), 3) := by decide +kernel
theorem dMo_town_15 : decode (mC mMo_town) 15 = .ok (.invokevirtual 280, 3) := by decide +kernel
theorem dMo_town_18 : decode (mC mMo_town) 18 = .ok (.ifCond .ne (5), 3) := by decide +kernel
theorem dMo_town_21 : decode (mC mMo_town) 21 = .ok (.iconst (-1), 1) := by decide +kernel
theorem dMo_town_22 : decode (mC mMo_town) 22 = .ok (.ireturn, 1) := by decide +kernel
theorem dMo_town_23 : decode (mC mMo_town) 23 = .ok (.iconst (0), 1) := by decide +kernel
theorem dMo_town_24 : decode (mC mMo_town) 24 = .ok (.istore_n 2, 1) := by decide +kernel
theorem dMo_town_25 : decode (mC mMo_town) 25 = .ok (.iload_n 2, 1) := by decide +kernel
theorem dMo_town_26 : decode (mC mMo_town) 26 = .ok (.sipush (600), 3) := by decide +kernel
theorem dMo_town_29 : decode (mC mMo_town) 29 = .ok (.if_icmp .ge (20), 3) := by decide +kernel
theorem dMo_town_32 : decode (mC mMo_town) 32 = .ok (.aload_n 0, 1) := by decide +kernel
theorem dMo_town_33 : decode (mC mMo_town) 33 = .ok (.getfield 35, 3) := by decide +kernel
theorem dMo_town_36 : decode (mC mMo_town) 36 = .ok (.sipush (2400), 3) := by decide +kernel
theorem dMo_town_39 : decode (mC mMo_town) 39 = .ok (.iload_n 2, 1) := by decide +kernel
theorem dMo_town_40 : decode (mC mMo_town) 40 = .ok (.iadd, 1) := by decide +kernel
theorem dMo_town_41 : decode (mC mMo_town) 41 = .ok (.iconst (0), 1) := by decide +kernel
theorem dMo_town_42 : decode (mC mMo_town) 42 = .ok (.iastore, 1) := by decide +kernel
theorem dMo_town_43 : decode (mC mMo_town) 43 = .ok (.iinc 2 (1), 3) := by decide +kernel
theorem dMo_town_46 : decode (mC mMo_town) 46 = .ok (.goto (-21), 3) := by decide +kernel
theorem dMo_town_49 : decode (mC mMo_town) 49 = .ok (.aload_n 0, 1) := by decide +kernel
theorem dMo_town_50 : decode (mC mMo_town) 50 = .ok (.getfield 219, 3) := by decide +kernel
theorem dMo_town_53 : decode (mC mMo_town) 53 = .ok (.ifCond .ne (83), 3) := by decide +kernel
theorem dMo_town_56 : decode (mC mMo_town) 56 = .ok (.aload_n 0, 1) := by decide +kernel
theorem dMo_town_57 : decode (mC mMo_town) 57 = .ok (.getfield 125, 3) := by decide +kernel
theorem dMo_town_60 : decode (mC mMo_town) 60 = .ok (.ifCond .eq (76), 3) := by decide +kernel
theorem dMo_town_63 : decode (mC mMo_town) 63 = .ok (.aload_n 0, 1) := by decide +kernel
theorem dMo_town_64 : decode (mC mMo_town) 64 = .ok (.invokevirtual 164, 3) := by decide +kernel
theorem dMo_town_67 : decode (mC mMo_town) 67 = .ok (.ifCond .eq (10), 3) := by decide +kernel
theorem dMo_town_70 : decode (mC mMo_town) 70 = .ok (.aload_n 0, 1) := by decide +kernel
theorem dMo_town_71 : decode (mC mMo_town) 71 = .ok (.invokevirtual 284, 3) := by decide +kernel
theorem dMo_town_74 : decode (mC mMo_town) 74 = .ok (.goto (49), 3) := by decide +kernel
theorem dMo_town_77 : decode (mC mMo_town) 77 = .ok (.aload_n 0, 1) := by decide +kernel
theorem dMo_town_78 : decode (mC mMo_town) 78 = .ok (.invokevirtual 170, 3) := by decide +kernel
theorem dMo_town_81 : decode (mC mMo_town) 81 = .ok (.ifCond .eq (10), 3) := by decide +kernel
theorem dMo_town_84 : decode (mC mMo_town) 84 = .ok (.aload_n 0, 1) := by decide +kernel
theorem dMo_town_85 : decode (mC mMo_town) 85 = .ok (.invokevirtual 287, 3) := by decide +kernel
theorem dMo_town_88 : decode (mC mMo_town) 88 = .ok (.goto (35), 3) := by decide +kernel
theorem dMo_town_91 : decode (mC mMo_town) 91 = .ok (.aload_n 0, 1) := by decide +kernel
theorem dMo_town_92 : decode (mC mMo_town) 92 = .ok (.invokevirtual 176, 3) := by decide +kernel
theorem dMo_town_95 : decode (mC mMo_town) 95 = .ok (.ifCond .eq (10), 3) := by decide +kernel
theorem dMo_town_98 : decode (mC mMo_town) 98 = .ok (.aload_n 0, 1) := by decide +kernel
theorem dMo_town_99 : decode (mC mMo_town) 99 = .ok (.invokevirtual 290, 3) := by decide +kernel
theorem dMo_town_102 : decode (mC mMo_town) 102 = .ok (.goto (21), 3) := by decide +kernel
theorem dMo_town_105 : decode (mC mMo_town) 105 = .ok (.aload_n 0, 1) := by decide +kernel
theorem dMo_town_106 : decode (mC mMo_town) 106 = .ok (.invokevirtual 160, 3) := by decide +kernel
theorem dMo_town_109 : decode (mC mMo_town) 109 = .ok (.ifCond .eq (10), 3) := by decide +kernel
theorem dMo_town_112 : decode (mC mMo_town) 112 = .ok (.aload_n 0, 1) := by decide +kernel
theorem dMo_town_113 : decode (mC mMo_town) 113 = .ok (.invokevirtual 293, 3) := by decide +kernel
theorem dMo_town_116 : decode (mC mMo_town) 116 = .ok (.goto (7), 3) := by decide +kernel
theorem dMo_town_119 : decode (mC mMo_town) 119 = .ok (.aload_n 0, 1) := by decide +kernel
theorem dMo_town_120 : decode (mC mMo_town) 120 = .ok (.invokevirtual 232, 3) := by decide +kernel
theorem dMo_town_123 : decode (mC mMo_town) 123 = .ok (.aload_n 0, 1) := by decide +kernel
theorem dMo_town_124 : decode (mC mMo_town) 124 = .ok (.aload_n 0, 1) := by decide +kernel
theorem dMo_town_125 : decode (mC mMo_town) 125 = .ok (.bipush (59), 2) := by decide +kernel
theorem dMo_town_127 : decode (mC mMo_town) 127 = .ok (.invokevirtual 296, 3) := by decide +kernel
theorem dMo_town_130 : decode (mC mMo_town) 130 = .ok (.invokevirtual 264, 3) := by decide +kernel
theorem dMo_town_133 : decode (mC mMo_town) 133 = .ok (.goto (-84), 3) := by decide +kernel
theorem dMo_town_136 : decode (mC mMo_town) 136 = .ok (.aload_n 0, 1) := by decide +kernel
theorem dMo_town_137 : decode (mC mMo_town) 137 = .ok (.invokevirtual 299, 3) := by decide +kernel
theorem dMo_town_140 : decode (mC mMo_town) 140 = .ok (.ifCond .ne (5), 3) := by decide +kernel
theorem dMo_town_143 : decode (mC mMo_town) 143 = .ok (.iconst (-1), 1) := by decide +kernel
theorem dMo_town_144 : decode (mC mMo_town) 144 = .ok (.ireturn, 1) := by decide +kernel
theorem dMo_town_145 : decode (mC mMo_town) 145 = .ok (.aload_n 0, 1) := by decide +kernel
theorem dMo_town_146 : decode (mC mMo_town) 146 = .ok (.iconst (4), 1) := by decide +kernel
theorem dMo_town_147 : decode (mC mMo_town) 147 = .ok (.iconst (0), 1) := by decide +kernel
theorem dMo_town_148 : decode (mC mMo_town) 148 = .ok (.invokevirtual 302, 3) := by decide +kernel
theorem dMo_town_151 : decode (mC mMo_town) 151 = .ok (.aload_n 0, 1) := by decide +kernel
theorem dMo_town_152 : decode (mC mMo_town) 152 = .ok (.getfield 35, 3) := by decide +kernel
theorem dMo_town_155 : decode (mC mMo_town) 155 = .ok (.iconst (2), 1) := by decide +kernel
theorem dMo_town_156 : decode (mC mMo_town) 156 = .ok (.iaload, 1) := by decide +kernel
theorem dMo_town_157 : decode (mC mMo_town) 157 = .ok (.ireturn, 1) := by decide +kernel
theorem bMo_town_0 {E : mEn} {d : Nat} {σ : mSt} {Q : mPost} {a1 : Int32} {u2 : Value} : WP E (d + 1) mMo_town 0 [.ref 166, .int a1, u2] [] σ Q = WP E d mMo_opens 0 [.ref 166, .int a1, .int (nI 900)] [] (sI (sI σ 166 1 0) 166 0 0) (fun r σ' => WP E (d + 1) mMo_town 18 [.ref 166, .int a1, u2] (r.toList ++ []) σ' Q) := (w_aload_n dMo_town_0 rfl).trans ((w_iconst (v := 0) dMo_town_1 rfl).trans ((w_puti dMo_town_2 rz11_74 sh_166 rfl rfl rfl).trans ((w_aload_n dMo_town_5 rfl).trans ((w_iconst (v := 0) dMo_town_6 rfl).trans ((w_puti dMo_town_7 rz11_77 sh_166 rfl rfl rfl).trans ((w_aload_n dMo_town_10 rfl).trans ((w_iload_n dMo_town_11 rfl).trans ((w_sipush (v := (nI 900)) dMo_town_12 rfl).trans (w_virt (vs := [.int a1, .int (nI 900)]) (st' := []) (es := [.ref 166, .int a1, .int (nI 900)]) dMo_town_15 rz11_280 rfl sh_166 rfl rfl rfl (Nat.le_of_ble_eq_true rfl) (Nat.le_of_ble_eq_true rfl) rfl)))))))))
theorem bMo_town_18 {E : mEn} {d : Nat} {σ : mSt} {Q : mPost} {a1 : Int32} {u2 : Value} {s0 : Int32} : WP E d mMo_town 18 [.ref 166, .int a1, u2] [.int s0] σ Q = (if ¬ s0 = 0 then WP E d mMo_town 23 [.ref 166, .int a1, u2] [] σ Q else WP E d mMo_town 21 [.ref 166, .int a1, u2] [] σ Q) := w_ifne (t := 23) dMo_town_18 (by decide)
theorem bMo_town_21 {E : mEn} {d : Nat} {σ : mSt} {Q : mPost} {a1 : Int32} {u2 : Value} : WP E d mMo_town 21 [.ref 166, .int a1, u2] [] σ Q = Q (some (.int (-1))) σ := (w_iconst (v := (-1)) dMo_town_21 rfl).trans (w_iret dMo_town_22 rfl)
theorem bMo_town_23 {E : mEn} {d : Nat} {σ : mSt} {Q : mPost} {a1 : Int32} {u2 : Value} : WP E d mMo_town 23 [.ref 166, .int a1, u2] [] σ Q = WP E d mMo_town 25 [.ref 166, .int a1, .int 0] [] σ Q := (w_iconst (v := 0) dMo_town_23 rfl).trans (w_istore_n (ls' := [.ref 166, .int a1, .int 0]) dMo_town_24 (Nat.le_of_ble_eq_true rfl) rfl)
theorem bMo_town_25 {E : mEn} {d : Nat} {σ : mSt} {Q : mPost} {a1 : Int32} {a2 : Int32} : WP E d mMo_town 25 [.ref 166, .int a1, .int a2] [] σ Q = (if (nI 600) ≤ a2 then WP E d mMo_town 49 [.ref 166, .int a1, .int a2] [] σ Q else WP E d mMo_town 32 [.ref 166, .int a1, .int a2] [] σ Q) := (w_iload_n dMo_town_25 rfl).trans ((w_sipush (v := (nI 600)) dMo_town_26 rfl).trans (w_icmpge (t := 49) dMo_town_29 (by decide)))
theorem bMo_town_32 {E : mEn} {d : Nat} {σ : mSt} {Q : mPost} {a1 : Int32} {a2 : Int32} : WP E d mMo_town 32 [.ref 166, .int a1, .int a2] [] σ Q = (if mOut ((nI 2400) + a2) 3000 = true then False else WP E d mMo_town 25 [.ref 166, .int a1, .int (a2 + 1)] [] (sI σ 171 ((nI 2400) + a2).toNatClampNeg 0) Q) := (w_aload_n dMo_town_32 rfl).trans ((w_getr (r := 171) dMo_town_33 rz11_35 sh_166 rfl).trans ((w_sipush (v := (nI 2400)) dMo_town_36 rfl).trans ((w_iload_n dMo_town_39 rfl).trans ((w_iadd dMo_town_40).trans ((w_iconst (v := 0) dMo_town_41 rfl).trans ((w_iast dMo_town_42 sh_171).trans (ite_c ((w_iinc (v := 1) (ls' := [.ref 166, .int a1, .int (a2 + 1)]) dMo_town_43 rfl rfl rfl).trans (w_goto (t := 25) dMo_town_46 (by decide))))))))))
theorem bMo_town_49 {E : mEn} {d : Nat} {σ : mSt} {Q : mPost} {a1 : Int32} {a2 : Int32} : WP E d mMo_town 49 [.ref 166, .int a1, .int a2] [] σ Q = (if ¬ (σ.1 166 12) = 0 then WP E d mMo_town 136 [.ref 166, .int a1, .int a2] [] σ Q else WP E d mMo_town 56 [.ref 166, .int a1, .int a2] [] σ Q) := (w_aload_n dMo_town_49 rfl).trans ((w_geti dMo_town_50 rz11_219 sh_166 rfl).trans (w_ifne (t := 136) dMo_town_53 (by decide)))
theorem bMo_town_56 {E : mEn} {d : Nat} {σ : mSt} {Q : mPost} {a1 : Int32} {a2 : Int32} : WP E d mMo_town 56 [.ref 166, .int a1, .int a2] [] σ Q = (if (σ.1 166 14) = 0 then WP E d mMo_town 136 [.ref 166, .int a1, .int a2] [] σ Q else WP E d mMo_town 63 [.ref 166, .int a1, .int a2] [] σ Q) := (w_aload_n dMo_town_56 rfl).trans ((w_geti dMo_town_57 rz11_125 sh_166 rfl).trans (w_ifeq (t := 136) dMo_town_60 (by decide)))
theorem bMo_town_63 {E : mEn} {d : Nat} {σ : mSt} {Q : mPost} {a1 : Int32} {a2 : Int32} : WP E (d + 1) mMo_town 63 [.ref 166, .int a1, .int a2] [] σ Q = WP E d mMo_isPerson 0 [.ref 166] [] σ (fun r σ' => WP E (d + 1) mMo_town 67 [.ref 166, .int a1, .int a2] (r.toList ++ []) σ' Q) := (w_aload_n dMo_town_63 rfl).trans (w_virt (vs := []) (st' := []) (es := [.ref 166]) dMo_town_64 rz11_164 rfl sh_166 rfl rfl rfl (Nat.le_of_ble_eq_true rfl) (Nat.le_of_ble_eq_true rfl) rfl)
theorem bMo_town_67 {E : mEn} {d : Nat} {σ : mSt} {Q : mPost} {a1 : Int32} {a2 : Int32} {s0 : Int32} : WP E d mMo_town 67 [.ref 166, .int a1, .int a2] [.int s0] σ Q = (if s0 = 0 then WP E d mMo_town 77 [.ref 166, .int a1, .int a2] [] σ Q else WP E d mMo_town 70 [.ref 166, .int a1, .int a2] [] σ Q) := w_ifeq (t := 77) dMo_town_67 (by decide)
theorem bMo_town_70 {E : mEn} {d : Nat} {σ : mSt} {Q : mPost} {a1 : Int32} {a2 : Int32} : WP E (d + 1) mMo_town 70 [.ref 166, .int a1, .int a2] [] σ Q = WP E d mMo_readPerson 0 [.ref 166, uu] [] σ (fun r σ' => WP E (d + 1) mMo_town 74 [.ref 166, .int a1, .int a2] (r.toList ++ []) σ' Q) := (w_aload_n dMo_town_70 rfl).trans (w_virt (vs := []) (st' := []) (es := [.ref 166, uu]) dMo_town_71 rz11_284 rfl sh_166 rfl rfl rfl (Nat.le_of_ble_eq_true rfl) (Nat.le_of_ble_eq_true rfl) rfl)
theorem bMo_town_74 {E : mEn} {d : Nat} {σ : mSt} {Q : mPost} {a1 : Int32} {a2 : Int32} : WP E d mMo_town 74 [.ref 166, .int a1, .int a2] [] σ Q = WP E d mMo_town 123 [.ref 166, .int a1, .int a2] [] σ Q := w_goto (t := 123) dMo_town_74 (by decide)
theorem bMo_town_77 {E : mEn} {d : Nat} {σ : mSt} {Q : mPost} {a1 : Int32} {a2 : Int32} : WP E (d + 1) mMo_town 77 [.ref 166, .int a1, .int a2] [] σ Q = WP E d mMo_isOven 0 [.ref 166] [] σ (fun r σ' => WP E (d + 1) mMo_town 81 [.ref 166, .int a1, .int a2] (r.toList ++ []) σ' Q) := (w_aload_n dMo_town_77 rfl).trans (w_virt (vs := []) (st' := []) (es := [.ref 166]) dMo_town_78 rz11_170 rfl sh_166 rfl rfl rfl (Nat.le_of_ble_eq_true rfl) (Nat.le_of_ble_eq_true rfl) rfl)
theorem bMo_town_81 {E : mEn} {d : Nat} {σ : mSt} {Q : mPost} {a1 : Int32} {a2 : Int32} {s0 : Int32} : WP E d mMo_town 81 [.ref 166, .int a1, .int a2] [.int s0] σ Q = (if s0 = 0 then WP E d mMo_town 91 [.ref 166, .int a1, .int a2] [] σ Q else WP E d mMo_town 84 [.ref 166, .int a1, .int a2] [] σ Q) := w_ifeq (t := 91) dMo_town_81 (by decide)
theorem bMo_town_84 {E : mEn} {d : Nat} {σ : mSt} {Q : mPost} {a1 : Int32} {a2 : Int32} : WP E (d + 1) mMo_town 84 [.ref 166, .int a1, .int a2] [] σ Q = WP E d mMo_readOven 0 [.ref 166, uu] [] σ (fun r σ' => WP E (d + 1) mMo_town 88 [.ref 166, .int a1, .int a2] (r.toList ++ []) σ' Q) := (w_aload_n dMo_town_84 rfl).trans (w_virt (vs := []) (st' := []) (es := [.ref 166, uu]) dMo_town_85 rz11_287 rfl sh_166 rfl rfl rfl (Nat.le_of_ble_eq_true rfl) (Nat.le_of_ble_eq_true rfl) rfl)
theorem bMo_town_88 {E : mEn} {d : Nat} {σ : mSt} {Q : mPost} {a1 : Int32} {a2 : Int32} : WP E d mMo_town 88 [.ref 166, .int a1, .int a2] [] σ Q = WP E d mMo_town 123 [.ref 166, .int a1, .int a2] [] σ Q := w_goto (t := 123) dMo_town_88 (by decide)
theorem bMo_town_91 {E : mEn} {d : Nat} {σ : mSt} {Q : mPost} {a1 : Int32} {a2 : Int32} : WP E (d + 1) mMo_town 91 [.ref 166, .int a1, .int a2] [] σ Q = WP E d mMo_isLoaf 0 [.ref 166] [] σ (fun r σ' => WP E (d + 1) mMo_town 95 [.ref 166, .int a1, .int a2] (r.toList ++ []) σ' Q) := (w_aload_n dMo_town_91 rfl).trans (w_virt (vs := []) (st' := []) (es := [.ref 166]) dMo_town_92 rz11_176 rfl sh_166 rfl rfl rfl (Nat.le_of_ble_eq_true rfl) (Nat.le_of_ble_eq_true rfl) rfl)
theorem bMo_town_95 {E : mEn} {d : Nat} {σ : mSt} {Q : mPost} {a1 : Int32} {a2 : Int32} {s0 : Int32} : WP E d mMo_town 95 [.ref 166, .int a1, .int a2] [.int s0] σ Q = (if s0 = 0 then WP E d mMo_town 105 [.ref 166, .int a1, .int a2] [] σ Q else WP E d mMo_town 98 [.ref 166, .int a1, .int a2] [] σ Q) := w_ifeq (t := 105) dMo_town_95 (by decide)
theorem bMo_town_98 {E : mEn} {d : Nat} {σ : mSt} {Q : mPost} {a1 : Int32} {a2 : Int32} : WP E (d + 1) mMo_town 98 [.ref 166, .int a1, .int a2] [] σ Q = WP E d mMo_readLoaf 0 [.ref 166, uu] [] σ (fun r σ' => WP E (d + 1) mMo_town 102 [.ref 166, .int a1, .int a2] (r.toList ++ []) σ' Q) := (w_aload_n dMo_town_98 rfl).trans (w_virt (vs := []) (st' := []) (es := [.ref 166, uu]) dMo_town_99 rz11_290 rfl sh_166 rfl rfl rfl (Nat.le_of_ble_eq_true rfl) (Nat.le_of_ble_eq_true rfl) rfl)
theorem bMo_town_102 {E : mEn} {d : Nat} {σ : mSt} {Q : mPost} {a1 : Int32} {a2 : Int32} : WP E d mMo_town 102 [.ref 166, .int a1, .int a2] [] σ Q = WP E d mMo_town 123 [.ref 166, .int a1, .int a2] [] σ Q := w_goto (t := 123) dMo_town_102 (by decide)
theorem bMo_town_105 {E : mEn} {d : Nat} {σ : mSt} {Q : mPost} {a1 : Int32} {a2 : Int32} : WP E (d + 1) mMo_town 105 [.ref 166, .int a1, .int a2] [] σ Q = WP E d mMo_isPromise 0 [.ref 166] [] σ (fun r σ' => WP E (d + 1) mMo_town 109 [.ref 166, .int a1, .int a2] (r.toList ++ []) σ' Q) := (w_aload_n dMo_town_105 rfl).trans (w_virt (vs := []) (st' := []) (es := [.ref 166]) dMo_town_106 rz11_160 rfl sh_166 rfl rfl rfl (Nat.le_of_ble_eq_true rfl) (Nat.le_of_ble_eq_true rfl) rfl)
theorem bMo_town_109 {E : mEn} {d : Nat} {σ : mSt} {Q : mPost} {a1 : Int32} {a2 : Int32} {s0 : Int32} : WP E d mMo_town 109 [.ref 166, .int a1, .int a2] [.int s0] σ Q = (if s0 = 0 then WP E d mMo_town 119 [.ref 166, .int a1, .int a2] [] σ Q else WP E d mMo_town 112 [.ref 166, .int a1, .int a2] [] σ Q) := w_ifeq (t := 119) dMo_town_109 (by decide)
theorem bMo_town_112 {E : mEn} {d : Nat} {σ : mSt} {Q : mPost} {a1 : Int32} {a2 : Int32} : WP E (d + 1) mMo_town 112 [.ref 166, .int a1, .int a2] [] σ Q = WP E d mMo_readPromise 0 [.ref 166, uu, uu] [] σ (fun r σ' => WP E (d + 1) mMo_town 116 [.ref 166, .int a1, .int a2] (r.toList ++ []) σ' Q) := (w_aload_n dMo_town_112 rfl).trans (w_virt (vs := []) (st' := []) (es := [.ref 166, uu, uu]) dMo_town_113 rz11_293 rfl sh_166 rfl rfl rfl (Nat.le_of_ble_eq_true rfl) (Nat.le_of_ble_eq_true rfl) rfl)
theorem bMo_town_116 {E : mEn} {d : Nat} {σ : mSt} {Q : mPost} {a1 : Int32} {a2 : Int32} : WP E d mMo_town 116 [.ref 166, .int a1, .int a2] [] σ Q = WP E d mMo_town 123 [.ref 166, .int a1, .int a2] [] σ Q := w_goto (t := 123) dMo_town_116 (by decide)
theorem bMo_town_119 {E : mEn} {d : Nat} {σ : mSt} {Q : mPost} {a1 : Int32} {a2 : Int32} : WP E (d + 1) mMo_town 119 [.ref 166, .int a1, .int a2] [] σ Q = WP E d mMo_wrong 0 [.ref 166] [] σ (fun r σ' => WP E (d + 1) mMo_town 123 [.ref 166, .int a1, .int a2] (r.toList ++ []) σ' Q) := (w_aload_n dMo_town_119 rfl).trans (w_virt (vs := []) (st' := []) (es := [.ref 166]) dMo_town_120 rz11_232 rfl sh_166 rfl rfl rfl (Nat.le_of_ble_eq_true rfl) (Nat.le_of_ble_eq_true rfl) rfl)
theorem bMo_town_123 {E : mEn} {d : Nat} {σ : mSt} {Q : mPost} {a1 : Int32} {a2 : Int32} : WP E (d + 1) mMo_town 123 [.ref 166, .int a1, .int a2] [] σ Q = WP E d mMo_isSign 0 [.ref 166, .int (nI 59)] [] σ (fun r σ' => WP E (d + 1) mMo_town 130 [.ref 166, .int a1, .int a2] (r.toList ++ [.ref 166]) σ' Q) := (w_aload_n dMo_town_123 rfl).trans ((w_aload_n dMo_town_124 rfl).trans ((w_bipush (v := (nI 59)) dMo_town_125 rfl).trans (w_virt (vs := [.int (nI 59)]) (st' := [.ref 166]) (es := [.ref 166, .int (nI 59)]) dMo_town_127 rz11_296 rfl sh_166 rfl rfl rfl (Nat.le_of_ble_eq_true rfl) (Nat.le_of_ble_eq_true rfl) rfl)))
theorem bMo_town_130 {E : mEn} {d : Nat} {σ : mSt} {Q : mPost} {a1 : Int32} {a2 : Int32} {s0 : Int32} : WP E (d + 1) mMo_town 130 [.ref 166, .int a1, .int a2] [.int s0, .ref 166] σ Q = WP E d mMo_must 0 [.ref 166, .int s0] [] σ (fun r σ' => WP E (d + 1) mMo_town 133 [.ref 166, .int a1, .int a2] (r.toList ++ []) σ' Q) := w_virt (vs := [.int s0]) (st' := []) (es := [.ref 166, .int s0]) dMo_town_130 rz11_264 rfl sh_166 rfl rfl rfl (Nat.le_of_ble_eq_true rfl) (Nat.le_of_ble_eq_true rfl) rfl
theorem bMo_town_133 {E : mEn} {d : Nat} {σ : mSt} {Q : mPost} {a1 : Int32} {a2 : Int32} : WP E d mMo_town 133 [.ref 166, .int a1, .int a2] [] σ Q = WP E d mMo_town 49 [.ref 166, .int a1, .int a2] [] σ Q := w_goto (t := 49) dMo_town_133 (by decide)
theorem bMo_town_136 {E : mEn} {d : Nat} {σ : mSt} {Q : mPost} {a1 : Int32} {a2 : Int32} : WP E (d + 1) mMo_town 136 [.ref 166, .int a1, .int a2] [] σ Q = WP E d mMo_isWell 0 [.ref 166] [] σ (fun r σ' => WP E (d + 1) mMo_town 140 [.ref 166, .int a1, .int a2] (r.toList ++ []) σ' Q) := (w_aload_n dMo_town_136 rfl).trans (w_virt (vs := []) (st' := []) (es := [.ref 166]) dMo_town_137 rz11_299 rfl sh_166 rfl rfl rfl (Nat.le_of_ble_eq_true rfl) (Nat.le_of_ble_eq_true rfl) rfl)
theorem bMo_town_140 {E : mEn} {d : Nat} {σ : mSt} {Q : mPost} {a1 : Int32} {a2 : Int32} {s0 : Int32} : WP E d mMo_town 140 [.ref 166, .int a1, .int a2] [.int s0] σ Q = (if ¬ s0 = 0 then WP E d mMo_town 145 [.ref 166, .int a1, .int a2] [] σ Q else WP E d mMo_town 143 [.ref 166, .int a1, .int a2] [] σ Q) := w_ifne (t := 145) dMo_town_140 (by decide)
theorem bMo_town_143 {E : mEn} {d : Nat} {σ : mSt} {Q : mPost} {a1 : Int32} {a2 : Int32} : WP E d mMo_town 143 [.ref 166, .int a1, .int a2] [] σ Q = Q (some (.int (-1))) σ := (w_iconst (v := (-1)) dMo_town_143 rfl).trans (w_iret dMo_town_144 rfl)
theorem bMo_town_145 {E : mEn} {d : Nat} {σ : mSt} {Q : mPost} {a1 : Int32} {a2 : Int32} : WP E (d + 1) mMo_town 145 [.ref 166, .int a1, .int a2] [] σ Q = WP E d mMo_copy 0 [.ref 166, .int (nI 4), .int 0, uu] [] σ (fun r σ' => WP E (d + 1) mMo_town 151 [.ref 166, .int a1, .int a2] (r.toList ++ []) σ' Q) := (w_aload_n dMo_town_145 rfl).trans ((w_iconst (v := (nI 4)) dMo_town_146 rfl).trans ((w_iconst (v := 0) dMo_town_147 rfl).trans (w_virt (vs := [.int (nI 4), .int 0]) (st' := []) (es := [.ref 166, .int (nI 4), .int 0, uu]) dMo_town_148 rz11_302 rfl sh_166 rfl rfl rfl (Nat.le_of_ble_eq_true rfl) (Nat.le_of_ble_eq_true rfl) rfl)))
theorem bMo_town_151 {E : mEn} {d : Nat} {σ : mSt} {Q : mPost} {a1 : Int32} {a2 : Int32} : WP E d mMo_town 151 [.ref 166, .int a1, .int a2] [] σ Q = (if mOut (nI 2) 3000 = true then False else Q (some (.int (σ.1 171 2))) σ) := (w_aload_n dMo_town_151 rfl).trans ((w_getr (r := 171) dMo_town_152 rz11_35 sh_166 rfl).trans ((w_iconst (v := (nI 2)) dMo_town_155 rfl).trans ((w_iald dMo_town_156 sh_171 (by decide)).trans (ite_c (w_iret dMo_town_157 rfl)))))
theorem dMo_opens_0 : decode (mC mMo_opens) 0 = .ok (.iload_n 1, 1) := by decide +kernel
theorem dMo_opens_1 : decode (mC mMo_opens) 1 = .ok (.ifCond .lt (16), 3) := by decide +kernel
theorem dMo_opens_4 : decode (mC mMo_opens) 4 = .ok (.iload_n 1, 1) := by decide +kernel
theorem dMo_opens_5 : decode (mC mMo_opens) 5 = .ok (.aload_n 0, 1) := by decide +kernel
theorem dMo_opens_6 : decode (mC mMo_opens) 6 = .ok (.getfield 235, 3) := by decide +kernel
theorem dMo_opens_9 : decode (mC mMo_opens) 9 = .ok (.if_icmp .gt (8), 3) := by decide +kernel
theorem dMo_opens_12 : decode (mC mMo_opens) 12 = .ok (.iload_n 1, 1) := by decide +kernel
theorem dMo_opens_13 : decode (mC mMo_opens) 13 = .ok (.iload_n 2, 1) := by decide +kernel
theorem dMo_opens_14 : decode (mC mMo_opens) 14 = .ok (.if_icmp .le (9), 3) := by decide +kernel
theorem dMo_opens_17 : decode (mC mMo_opens) 17 = .ok (.aload_n 0, 1) := by decide +kernel
theorem dMo_opens_18 : decode (mC mMo_opens) 18 = .ok (.iconst (5), 1) := by decide +kernel
theorem dMo_opens_19 : decode (mC mMo_opens) 19 = .ok (.invokevirtual 89, 3) := by decide +kernel
theorem dMo_opens_22 : decode (mC mMo_opens) 22 = .ok (.ireturn, 1) := by decide +kernel
theorem dMo_opens_23 : decode (mC mMo_opens) 23 = .ok (.aload_n 0, 1) := by decide +kernel
theorem dMo_opens_24 : decode (mC mMo_opens) 24 = .ok (.iload_n 1, 1) := by decide +kernel
theorem dMo_opens_25 : decode (mC mMo_opens) 25 = .ok (.putfield 113, 3) := by decide +kernel
theorem dMo_opens_28 : decode (mC mMo_opens) 28 = .ok (.aload_n 0, 1) := by decide +kernel
theorem dMo_opens_29 : decode (mC mMo_opens) 29 = .ok (.iconst (0), 1) := by decide +kernel
theorem dMo_opens_30 : decode (mC mMo_opens) 30 = .ok (.putfield 235, 3) := by decide +kernel
theorem dMo_opens_33 : decode (mC mMo_opens) 33 = .ok (.aload_n 0, 1) := by decide +kernel
theorem dMo_opens_34 : decode (mC mMo_opens) 34 = .ok (.iconst (0), 1) := by decide +kernel
theorem dMo_opens_35 : decode (mC mMo_opens) 35 = .ok (.putfield 116, 3) := by decide +kernel
theorem dMo_opens_38 : decode (mC mMo_opens) 38 = .ok (.aload_n 0, 1) := by decide +kernel
theorem dMo_opens_39 : decode (mC mMo_opens) 39 = .ok (.iconst (0), 1) := by decide +kernel
theorem dMo_opens_40 : decode (mC mMo_opens) 40 = .ok (.putfield 219, 3) := by decide +kernel
theorem dMo_opens_43 : decode (mC mMo_opens) 43 = .ok (.aload_n 0, 1) := by decide +kernel
theorem dMo_opens_44 : decode (mC mMo_opens) 44 = .ok (.invokevirtual 229, 3) := by decide +kernel
theorem dMo_opens_47 : decode (mC mMo_opens) 47 = .ok (.iconst (1), 1) := by decide +kernel
theorem dMo_opens_48 : decode (mC mMo_opens) 48 = .ok (.ireturn, 1) := by decide +kernel
theorem bMo_opens_0 {E : mEn} {d : Nat} {σ : mSt} {Q : mPost} {a1 : Int32} {a2 : Int32} : WP E d mMo_opens 0 [.ref 166, .int a1, .int a2] [] σ Q = (if a1 < 0 then WP E d mMo_opens 17 [.ref 166, .int a1, .int a2] [] σ Q else WP E d mMo_opens 4 [.ref 166, .int a1, .int a2] [] σ Q) := (w_iload_n dMo_opens_0 rfl).trans (w_iflt (t := 17) dMo_opens_1 (by decide))
theorem bMo_opens_4 {E : mEn} {d : Nat} {σ : mSt} {Q : mPost} {a1 : Int32} {a2 : Int32} : WP E d mMo_opens 4 [.ref 166, .int a1, .int a2] [] σ Q = (if (σ.1 166 8) < a1 then WP E d mMo_opens 17 [.ref 166, .int a1, .int a2] [] σ Q else WP E d mMo_opens 12 [.ref 166, .int a1, .int a2] [] σ Q) := (w_iload_n dMo_opens_4 rfl).trans ((w_aload_n dMo_opens_5 rfl).trans ((w_geti dMo_opens_6 rz11_235 sh_166 rfl).trans (w_icmpgt (t := 17) dMo_opens_9 (by decide))))
theorem bMo_opens_12 {E : mEn} {d : Nat} {σ : mSt} {Q : mPost} {a1 : Int32} {a2 : Int32} : WP E d mMo_opens 12 [.ref 166, .int a1, .int a2] [] σ Q = (if a1 ≤ a2 then WP E d mMo_opens 23 [.ref 166, .int a1, .int a2] [] σ Q else WP E d mMo_opens 17 [.ref 166, .int a1, .int a2] [] σ Q) := (w_iload_n dMo_opens_12 rfl).trans ((w_iload_n dMo_opens_13 rfl).trans (w_icmple (t := 23) dMo_opens_14 (by decide)))
theorem bMo_opens_17 {E : mEn} {d : Nat} {σ : mSt} {Q : mPost} {a1 : Int32} {a2 : Int32} : WP E (d + 1) mMo_opens 17 [.ref 166, .int a1, .int a2] [] σ Q = WP E d mMo_no 0 [.ref 166, .int (nI 5)] [] σ (fun r σ' => WP E (d + 1) mMo_opens 22 [.ref 166, .int a1, .int a2] (r.toList ++ []) σ' Q) := (w_aload_n dMo_opens_17 rfl).trans ((w_iconst (v := (nI 5)) dMo_opens_18 rfl).trans (w_virt (vs := [.int (nI 5)]) (st' := []) (es := [.ref 166, .int (nI 5)]) dMo_opens_19 rz11_89 rfl sh_166 rfl rfl rfl (Nat.le_of_ble_eq_true rfl) (Nat.le_of_ble_eq_true rfl) rfl))
theorem bMo_opens_22 {E : mEn} {d : Nat} {σ : mSt} {Q : mPost} {a1 : Int32} {a2 : Int32} {s0 : Int32} (hz0 : s0 = 0 ∨ s0 = 1) : WP E d mMo_opens 22 [.ref 166, .int a1, .int a2] [.int s0] σ Q = Q (some (.int s0)) σ := w_zret dMo_opens_22 rfl hz0
theorem bMo_opens_23 {E : mEn} {d : Nat} {σ : mSt} {Q : mPost} {a1 : Int32} {a2 : Int32} : WP E (d + 1) mMo_opens 23 [.ref 166, .int a1, .int a2] [] σ Q = WP E d mMo_next 0 [.ref 166, uu] [] (sI (sI (sI (sI σ 166 9 a1) 166 8 0) 166 16 0) 166 12 0) (fun r σ' => WP E (d + 1) mMo_opens 47 [.ref 166, .int a1, .int a2] (r.toList ++ []) σ' Q) := (w_aload_n dMo_opens_23 rfl).trans ((w_iload_n dMo_opens_24 rfl).trans ((w_puti dMo_opens_25 rz11_113 sh_166 rfl rfl rfl).trans ((w_aload_n dMo_opens_28 rfl).trans ((w_iconst (v := 0) dMo_opens_29 rfl).trans ((w_puti dMo_opens_30 rz11_235 sh_166 rfl rfl rfl).trans ((w_aload_n dMo_opens_33 rfl).trans ((w_iconst (v := 0) dMo_opens_34 rfl).trans ((w_puti dMo_opens_35 rz11_116 sh_166 rfl rfl rfl).trans ((w_aload_n dMo_opens_38 rfl).trans ((w_iconst (v := 0) dMo_opens_39 rfl).trans ((w_puti dMo_opens_40 rz11_219 sh_166 rfl rfl rfl).trans ((w_aload_n dMo_opens_43 rfl).trans (w_virt (vs := []) (st' := []) (es := [.ref 166, uu]) dMo_opens_44 rz11_229 rfl sh_166 rfl rfl rfl (Nat.le_of_ble_eq_true rfl) (Nat.le_of_ble_eq_true rfl) rfl)))))))))))))
theorem bMo_opens_47 {E : mEn} {d : Nat} {σ : mSt} {Q : mPost} {a1 : Int32} {a2 : Int32} : WP E d mMo_opens 47 [.ref 166, .int a1, .int a2] [] σ Q = Q (some (.int 1)) σ := (w_iconst (v := 1) dMo_opens_47 rfl).trans (w_zret dMo_opens_48 rfl (Or.inr rfl))
theorem dMo_next_0 : decode (mC mMo_next) 0 = .ok (.aload_n 0, 1) := by decide +kernel
theorem dMo_next_1 : decode (mC mMo_next) 1 = .ok (.aload_n 0, 1) := by decide +kernel
theorem dMo_next_2 : decode (mC mMo_next) 2 = .ok (.getfield 116, 3) := by decide +kernel
theorem dMo_next_5 : decode (mC mMo_next) 5 = .ok (.putfield 119, 3) := by decide +kernel
theorem dMo_next_8 : decode (mC mMo_next) 8 = .ok (.aload_n 0, 1) := by decide +kernel
theorem dMo_next_9 : decode (mC mMo_next) 9 = .ok (.getfield 119, 3) := by decide +kernel
theorem dMo_next_12 : decode (mC mMo_next) 12 = .ok (.aload_n 0, 1) := by decide +kernel
theorem dMo_next_13 : decode (mC mMo_next) 13 = .ok (.getfield 113, 3) := by decide +kernel
theorem dMo_next_16 : decode (mC mMo_next) 16 = .ok (.if_icmp .ge (42), 3) := by decide +kernel
theorem dMo_next_19 : decode (mC mMo_next) 19 = .ok (.aload_n 0, 1) := by decide +kernel
theorem dMo_next_20 : decode (mC mMo_next) 20 = .ok (.aload_n 0, 1) := by decide +kernel
theorem dMo_next_21 : decode (mC mMo_next) 21 = .ok (.getfield 119, 3) := by decide +kernel
theorem dMo_next_24 : decode (mC mMo_next) 24 = .ok (.invokevirtual 122, 3) := by decide +kernel
theorem dMo_next_27 : decode (mC mMo_next) 27 = .ok (.bipush (10), 2) := by decide +kernel
theorem dMo_next_29 : decode (mC mMo_next) 29 = .ok (.if_icmp .eq (16), 3) := by decide +kernel
theorem dMo_next_32 : decode (mC mMo_next) 32 = .ok (.aload_n 0, 1) := by decide +kernel
theorem dMo_next_33 : decode (mC mMo_next) 33 = .ok (.aload_n 0, 1) := by decide +kernel
theorem dMo_next_34 : decode (mC mMo_next) 34 = .ok (.getfield 119, 3) := by decide +kernel
theorem dMo_next_37 : decode (mC mMo_next) 37 = .ok (.invokevirtual 122, 3) := by decide +kernel
theorem dMo_next_40 : decode (mC mMo_next) 40 = .ok (.bipush (32), 2) := by decide +kernel
theorem dMo_next_42 : decode (mC mMo_next) 42 = .ok (.if_icmp .ne (16), 3) := by decide +kernel
theorem dMo_next_45 : decode (mC mMo_next) 45 = .ok (.aload_n 0, 1) := by decide +kernel
theorem dMo_next_46 : decode (mC mMo_next) 46 = .ok (.dup, 1) := by decide +kernel
theorem dMo_next_47 : decode (mC mMo_next) 47 = .ok (.getfield 119, 3) := by decide +kernel
theorem dMo_next_50 : decode (mC mMo_next) 50 = .ok (.iconst (1), 1) := by decide +kernel
theorem dMo_next_51 : decode (mC mMo_next) 51 = .ok (.iadd, 1) := by decide +kernel
theorem dMo_next_52 : decode (mC mMo_next) 52 = .ok (.putfield 119, 3) := by decide +kernel
theorem dMo_next_55 : decode (mC mMo_next) 55 = .ok (.goto (-47), 3) := by decide +kernel
theorem dMo_next_58 : decode (mC mMo_next) 58 = .ok (.aload_n 0, 1) := by decide +kernel
theorem dMo_next_59 : decode (mC mMo_next) 59 = .ok (.aload_n 0, 1) := by decide +kernel
theorem dMo_next_60 : decode (mC mMo_next) 60 = .ok (.getfield 119, 3) := by decide +kernel
theorem dMo_next_63 : decode (mC mMo_next) 63 = .ok (.putfield 116, 3) := by decide +kernel
theorem dMo_next_66 : decode (mC mMo_next) 66 = .ok (.aload_n 0, 1) := by decide +kernel
theorem dMo_next_67 : decode (mC mMo_next) 67 = .ok (.getfield 119, 3) := by decide +kernel
theorem dMo_next_70 : decode (mC mMo_next) 70 = .ok (.aload_n 0, 1) := by decide +kernel
theorem dMo_next_71 : decode (mC mMo_next) 71 = .ok (.getfield 113, 3) := by decide +kernel
theorem dMo_next_74 : decode (mC mMo_next) 74 = .ok (.if_icmp .lt (9), 3) := by decide +kernel
theorem dMo_next_77 : decode (mC mMo_next) 77 = .ok (.aload_n 0, 1) := by decide +kernel
theorem dMo_next_78 : decode (mC mMo_next) 78 = .ok (.iconst (0), 1) := by decide +kernel
theorem dMo_next_79 : decode (mC mMo_next) 79 = .ok (.putfield 125, 3) := by decide +kernel
theorem dMo_next_82 : decode (mC mMo_next) 82 = .ok (.return_, 1) := by decide +kernel
theorem dMo_next_83 : decode (mC mMo_next) 83 = .ok (.aload_n 0, 1) := by decide +kernel
theorem dMo_next_84 : decode (mC mMo_next) 84 = .ok (.aload_n 0, 1) := by decide +kernel
theorem dMo_next_85 : decode (mC mMo_next) 85 = .ok (.getfield 119, 3) := by decide +kernel
theorem dMo_next_88 : decode (mC mMo_next) 88 = .ok (.invokevirtual 122, 3) := by decide +kernel
theorem dMo_next_91 : decode (mC mMo_next) 91 = .ok (.istore_n 1, 1) := by decide +kernel
theorem dMo_next_92 : decode (mC mMo_next) 92 = .ok (.iload_n 1, 1) := by decide +kernel
theorem dMo_next_93 : decode (mC mMo_next) 93 = .ok (.invokestatic 128, 3) := by decide +kernel
theorem dMo_next_96 : decode (mC mMo_next) 96 = .ok (.ifCond .eq (102), 3) := by decide +kernel
theorem dMo_next_99 : decode (mC mMo_next) 99 = .ok (.aload_n 0, 1) := by decide +kernel
theorem dMo_next_100 : decode (mC mMo_next) 100 = .ok (.iconst (1), 1) := by decide +kernel
theorem dMo_next_101 : decode (mC mMo_next) 101 = .ok (.putfield 125, 3) := by decide +kernel
theorem dMo_next_104 : decode (mC mMo_next) 104 = .ok (.aload_n 0, 1) := by decide +kernel
theorem dMo_next_105 : decode (mC mMo_next) 105 = .ok (.lconst 0, 1) := by decide +kernel
theorem dMo_next_106 : decode (mC mMo_next) 106 = .ok (.putfield 131, 3) := by decide +kernel
theorem dMo_next_109 : decode (mC mMo_next) 109 = .ok (.aload_n 0, 1) := by decide +kernel
theorem dMo_next_110 : decode (mC mMo_next) 110 = .ok (.aload_n 0, 1) := by decide +kernel
theorem dMo_next_111 : decode (mC mMo_next) 111 = .ok (.getfield 116, 3) := by decide +kernel
theorem dMo_next_114 : decode (mC mMo_next) 114 = .ok (.invokevirtual 122, 3) := by decide +kernel
theorem dMo_next_117 : decode (mC mMo_next) 117 = .ok (.invokestatic 128, 3) := by decide +kernel
theorem dMo_next_120 : decode (mC mMo_next) 120 = .ok (.ifCond .eq (62), 3) := by decide +kernel
theorem dMo_next_123 : decode (mC mMo_next) 123 = .ok (.aload_n 0, 1) := by decide +kernel
theorem dMo_next_124 : decode (mC mMo_next) 124 = .ok (.aload_n 0, 1) := by decide +kernel
theorem dMo_next_125 : decode (mC mMo_next) 125 = .ok (.getfield 116, 3) := by decide +kernel
theorem dMo_next_128 : decode (mC mMo_next) 128 = .ok (.aload_n 0, 1) := by decide +kernel
theorem dMo_next_129 : decode (mC mMo_next) 129 = .ok (.getfield 119, 3) := by decide +kernel
theorem dMo_next_132 : decode (mC mMo_next) 132 = .ok (.isub, 1) := by decide +kernel
theorem dMo_next_133 : decode (mC mMo_next) 133 = .ok (.bipush (8), 2) := by decide +kernel
theorem dMo_next_135 : decode (mC mMo_next) 135 = .ok (.if_icmp .ge (28), 3) := by decide +kernel
theorem dMo_next_138 : decode (mC mMo_next) 138 = .ok (.aload_n 0, 1) := by decide +kernel
theorem dMo_next_139 : decode (mC mMo_next) 139 = .ok (.getfield 131, 3) := by decide +kernel
theorem dMo_next_142 : decode (mC mMo_next) 142 = .ok (.ldc2_w 134, 3) := by decide +kernel
theorem dMo_next_145 : decode (mC mMo_next) 145 = .ok (.lmul, 1) := by decide +kernel
theorem dMo_next_146 : decode (mC mMo_next) 146 = .ok (.aload_n 0, 1) := by decide +kernel
theorem dMo_next_147 : decode (mC mMo_next) 147 = .ok (.aload_n 0, 1) := by decide +kernel
theorem dMo_next_148 : decode (mC mMo_next) 148 = .ok (.getfield 116, 3) := by decide +kernel
theorem dMo_next_151 : decode (mC mMo_next) 151 = .ok (.invokevirtual 122, 3) := by decide +kernel
theorem dMo_next_154 : decode (mC mMo_next) 154 = .ok (.i2l, 1) := by decide +kernel
theorem dMo_next_155 : decode (mC mMo_next) 155 = .ok (.ladd, 1) := by decide +kernel
theorem dMo_next_156 : decode (mC mMo_next) 156 = .ok (.ldc2_w 136, 3) := by decide +kernel
theorem dMo_next_159 : decode (mC mMo_next) 159 = .ok (.lsub, 1) := by decide +kernel
theorem dMo_next_160 : decode (mC mMo_next) 160 = .ok (.goto (6), 3) := by decide +kernel
theorem dMo_next_163 : decode (mC mMo_next) 163 = .ok (.ldc2_w 105, 3) := by decide +kernel
theorem dMo_next_166 : decode (mC mMo_next) 166 = .ok (.putfield 131, 3) := by decide +kernel
theorem dMo_next_169 : decode (mC mMo_next) 169 = .ok (.aload_n 0, 1) := by decide +kernel
theorem dMo_next_170 : decode (mC mMo_next) 170 = .ok (.dup, 1) := by decide +kernel
theorem dMo_next_171 : decode (mC mMo_next) 171 = .ok (.getfield 116, 3) := by decide +kernel
theorem dMo_next_174 : decode (mC mMo_next) 174 = .ok (.iconst (1), 1) := by decide +kernel
theorem dMo_next_175 : decode (mC mMo_next) 175 = .ok (.iadd, 1) := by decide +kernel
theorem dMo_next_176 : decode (mC mMo_next) 176 = .ok (.putfield 116, 3) := by decide +kernel
theorem dMo_next_179 : decode (mC mMo_next) 179 = .ok (.goto (-70), 3) := by decide +kernel
theorem dMo_next_182 : decode (mC mMo_next) 182 = .ok (.aload_n 0, 1) := by decide +kernel
theorem dMo_next_183 : decode (mC mMo_next) 183 = .ok (.aload_n 0, 1) := by decide +kernel
theorem dMo_next_184 : decode (mC mMo_next) 184 = .ok (.getfield 116, 3) := by decide +kernel
theorem dMo_next_187 : decode (mC mMo_next) 187 = .ok (.aload_n 0, 1) := by decide +kernel
theorem dMo_next_188 : decode (mC mMo_next) 188 = .ok (.getfield 119, 3) := by decide +kernel
theorem dMo_next_191 : decode (mC mMo_next) 191 = .ok (.isub, 1) := by decide +kernel
theorem dMo_next_192 : decode (mC mMo_next) 192 = .ok (.putfield 138, 3) := by decide +kernel
theorem dMo_next_195 : decode (mC mMo_next) 195 = .ok (.goto (135), 3) := by decide +kernel
theorem dMo_next_198 : decode (mC mMo_next) 198 = .ok (.iload_n 1, 1) := by decide +kernel
theorem dMo_next_199 : decode (mC mMo_next) 199 = .ok (.invokestatic 141, 3) := by decide +kernel
theorem dMo_next_202 : decode (mC mMo_next) 202 = .ok (.ifCond .eq (96), 3) := by decide +kernel
theorem dMo_next_205 : decode (mC mMo_next) 205 = .ok (.aload_n 0, 1) := by decide +kernel
theorem dMo_next_206 : decode (mC mMo_next) 206 = .ok (.iconst (0), 1) := by decide +kernel
theorem dMo_next_207 : decode (mC mMo_next) 207 = .ok (.putfield 144, 3) := by decide +kernel
theorem dMo_next_210 : decode (mC mMo_next) 210 = .ok (.aload_n 0, 1) := by decide +kernel
theorem dMo_next_211 : decode (mC mMo_next) 211 = .ok (.aload_n 0, 1) := by decide +kernel
theorem dMo_next_212 : decode (mC mMo_next) 212 = .ok (.getfield 116, 3) := by decide +kernel
theorem dMo_next_215 : decode (mC mMo_next) 215 = .ok (.invokevirtual 122, 3) := by decide +kernel
theorem dMo_next_218 : decode (mC mMo_next) 218 = .ok (.invokestatic 141, 3) := by decide +kernel
theorem dMo_next_221 : decode (mC mMo_next) 221 = .ok (.ifCond .eq (52), 3) := by decide +kernel
theorem dMo_next_224 : decode (mC mMo_next) 224 = .ok (.aload_n 0, 1) := by decide +kernel
theorem dMo_next_225 : decode (mC mMo_next) 225 = .ok (.getfield 116, 3) := by decide +kernel
theorem dMo_next_228 : decode (mC mMo_next) 228 = .ok (.aload_n 0, 1) := by decide +kernel
theorem dMo_next_229 : decode (mC mMo_next) 229 = .ok (.getfield 119, 3) := by decide +kernel
theorem dMo_next_232 : decode (mC mMo_next) 232 = .ok (.isub, 1) := by decide +kernel
theorem dMo_next_233 : decode (mC mMo_next) 233 = .ok (.iconst (4), 1) := by decide +kernel
theorem dMo_next_234 : decode (mC mMo_next) 234 = .ok (.if_icmp .ge (26), 3) := by decide +kernel
theorem dMo_next_237 : decode (mC mMo_next) 237 = .ok (.aload_n 0, 1) := by decide +kernel
theorem dMo_next_238 : decode (mC mMo_next) 238 = .ok (.bipush (10), 2) := by decide +kernel
theorem dMo_next_240 : decode (mC mMo_next) 240 = .ok (.aload_n 0, 1) := by decide +kernel
theorem dMo_next_241 : decode (mC mMo_next) 241 = .ok (.getfield 144, 3) := by decide +kernel
theorem dMo_next_244 : decode (mC mMo_next) 244 = .ok (.imul, 1) := by decide +kernel
theorem dMo_next_245 : decode (mC mMo_next) 245 = .ok (.aload_n 0, 1) := by decide +kernel
theorem dMo_next_246 : decode (mC mMo_next) 246 = .ok (.aload_n 0, 1) := by decide +kernel
theorem dMo_next_247 : decode (mC mMo_next) 247 = .ok (.getfield 116, 3) := by decide +kernel
theorem dMo_next_250 : decode (mC mMo_next) 250 = .ok (.invokevirtual 122, 3) := by decide +kernel
theorem dMo_next_253 : decode (mC mMo_next) 253 = .ok (.iadd, 1) := by decide +kernel
theorem dMo_next_254 : decode (mC mMo_next) 254 = .ok (.bipush (48), 2) := by decide +kernel
theorem dMo_next_256 : decode (mC mMo_next) 256 = .ok (.isub, 1) := by decide +kernel
theorem dMo_next_257 : decode (mC mMo_next) 257 = .ok (.putfield 144, 3) := by decide +kernel
theorem dMo_next_260 : decode (mC mMo_next) 260 = .ok (.aload_n 0, 1) := by decide +kernel
theorem dMo_next_261 : decode (mC mMo_next) 261 = .ok (.dup, 1) := by decide +kernel
theorem dMo_next_262 : decode (mC mMo_next) 262 = .ok (.getfield 116, 3) := by decide +kernel
theorem dMo_next_265 : decode (mC mMo_next) 265 = .ok (.iconst (1), 1) := by decide +kernel
theorem dMo_next_266 : decode (mC mMo_next) 266 = .ok (.iadd, 1) := by decide +kernel
theorem dMo_next_267 : decode (mC mMo_next) 267 = .ok (.putfield 116, 3) := by decide +kernel
theorem dMo_next_270 : decode (mC mMo_next) 270 = .ok (.goto (-60), 3) := by decide +kernel
theorem dMo_next_273 : decode (mC mMo_next) 273 = .ok (.aload_n 0, 1) := by decide +kernel
theorem dMo_next_274 : decode (mC mMo_next) 274 = .ok (.aload_n 0, 1) := by decide +kernel
theorem dMo_next_275 : decode (mC mMo_next) 275 = .ok (.getfield 116, 3) := by decide +kernel
theorem dMo_next_278 : decode (mC mMo_next) 278 = .ok (.aload_n 0, 1) := by decide +kernel
theorem dMo_next_279 : decode (mC mMo_next) 279 = .ok (.getfield 119, 3) := by decide +kernel
theorem dMo_next_282 : decode (mC mMo_next) 282 = .ok (.isub, 1) := by decide +kernel
theorem dMo_next_283 : decode (mC mMo_next) 283 = .ok (.iconst (4), 1) := by decide +kernel
theorem dMo_next_284 : decode (mC mMo_next) 284 = .ok (.if_icmp .le (7), 3) := by decide +kernel
theorem dMo_next_287 : decode (mC mMo_next) 287 = .ok (.iconst (4), 1) := by decide +kernel
theorem dMo_next_288 : decode (mC mMo_next) 288 = .ok (.goto (4), 3) := by decide +kernel
theorem dMo_next_291 : decode (mC mMo_next) 291 = .ok (.iconst (2), 1) := by decide +kernel
theorem dMo_next_292 : decode (mC mMo_next) 292 = .ok (.putfield 125, 3) := by decide +kernel
theorem dMo_next_295 : decode (mC mMo_next) 295 = .ok (.goto (35), 3) := by decide +kernel
theorem dMo_next_298 : decode (mC mMo_next) 298 = .ok (.aload_n 0, 1) := by decide +kernel
theorem dMo_next_299 : decode (mC mMo_next) 299 = .ok (.aload_n 0, 1) := by decide +kernel
theorem dMo_next_300 : decode (mC mMo_next) 300 = .ok (.getfield 119, 3) := by decide +kernel
theorem dMo_next_303 : decode (mC mMo_next) 303 = .ok (.iconst (1), 1) := by decide +kernel
theorem dMo_next_304 : decode (mC mMo_next) 304 = .ok (.iadd, 1) := by decide +kernel
theorem dMo_next_305 : decode (mC mMo_next) 305 = .ok (.putfield 116, 3) := by decide +kernel
theorem dMo_next_308 : decode (mC mMo_next) 308 = .ok (.aload_n 0, 1) := by decide +kernel
theorem dMo_next_309 : decode (mC mMo_next) 309 = .ok (.iload_n 1, 1) := by decide +kernel
theorem dMo_next_310 : decode (mC mMo_next) 310 = .ok (.putfield 144, 3) := by decide +kernel
theorem dMo_next_313 : decode (mC mMo_next) 313 = .ok (.aload_n 0, 1) := by decide +kernel
theorem dMo_next_314 : decode (mC mMo_next) 314 = .ok (.aload_n 0, 1) := by decide +kernel
theorem dMo_next_315 : decode (mC mMo_next) 315 = .ok (.iload_n 1, 1) := by decide +kernel
theorem dMo_next_316 : decode (mC mMo_next) 316 = .ok (.invokevirtual 147, 3) := by decide +kernel
theorem dMo_next_319 : decode (mC mMo_next) 319 = .ok (.ifCond .eq (7), 3) := by decide +kernel
theorem dMo_next_322 : decode (mC mMo_next) 322 = .ok (.iconst (3), 1) := by decide +kernel
theorem dMo_next_323 : decode (mC mMo_next) 323 = .ok (.goto (4), 3) := by decide +kernel
theorem dMo_next_326 : decode (mC mMo_next) 326 = .ok (.iconst (4), 1) := by decide +kernel
theorem dMo_next_327 : decode (mC mMo_next) 327 = .ok (.putfield 125, 3) := by decide +kernel
theorem dMo_next_330 : decode (mC mMo_next) 330 = .ok (.return_, 1) := by decide +kernel
theorem bMo_next_0 {E : mEn} {d : Nat} {σ : mSt} {Q : mPost} {u1 : Value} : WP E d mMo_next 0 [.ref 166, u1] [] σ Q = WP E d mMo_next 8 [.ref 166, u1] [] (sI σ 166 15 (σ.1 166 16)) Q := (w_aload_n dMo_next_0 rfl).trans ((w_aload_n dMo_next_1 rfl).trans ((w_geti dMo_next_2 rz11_116 sh_166 rfl).trans (w_puti dMo_next_5 rz11_119 sh_166 rfl rfl rfl)))
theorem bMo_next_8 {E : mEn} {d : Nat} {σ : mSt} {Q : mPost} {u1 : Value} : WP E d mMo_next 8 [.ref 166, u1] [] σ Q = (if (σ.1 166 9) ≤ (σ.1 166 15) then WP E d mMo_next 58 [.ref 166, u1] [] σ Q else WP E d mMo_next 19 [.ref 166, u1] [] σ Q) := (w_aload_n dMo_next_8 rfl).trans ((w_geti dMo_next_9 rz11_119 sh_166 rfl).trans ((w_aload_n dMo_next_12 rfl).trans ((w_geti dMo_next_13 rz11_113 sh_166 rfl).trans (w_icmpge (t := 58) dMo_next_16 (by decide)))))
theorem bMo_next_19 {E : mEn} {d : Nat} {σ : mSt} {Q : mPost} {u1 : Value} : WP E (d + 1) mMo_next 19 [.ref 166, u1] [] σ Q = WP E d mMo_look2 0 [.ref 166, .int (σ.1 166 15)] [] σ (fun r σ' => WP E (d + 1) mMo_next 27 [.ref 166, u1] (r.toList ++ []) σ' Q) := (w_aload_n dMo_next_19 rfl).trans ((w_aload_n dMo_next_20 rfl).trans ((w_geti dMo_next_21 rz11_119 sh_166 rfl).trans (w_virt (vs := [.int (σ.1 166 15)]) (st' := []) (es := [.ref 166, .int (σ.1 166 15)]) dMo_next_24 rz11_122 rfl sh_166 rfl rfl rfl (Nat.le_of_ble_eq_true rfl) (Nat.le_of_ble_eq_true rfl) rfl)))
theorem bMo_next_27 {E : mEn} {d : Nat} {σ : mSt} {Q : mPost} {u1 : Value} {s0 : Int32} : WP E d mMo_next 27 [.ref 166, u1] [.int s0] σ Q = (if s0 = (nI 10) then WP E d mMo_next 45 [.ref 166, u1] [] σ Q else WP E d mMo_next 32 [.ref 166, u1] [] σ Q) := (w_bipush (v := (nI 10)) dMo_next_27 rfl).trans (w_icmpeq (t := 45) dMo_next_29 (by decide))
theorem bMo_next_32 {E : mEn} {d : Nat} {σ : mSt} {Q : mPost} {u1 : Value} : WP E (d + 1) mMo_next 32 [.ref 166, u1] [] σ Q = WP E d mMo_look2 0 [.ref 166, .int (σ.1 166 15)] [] σ (fun r σ' => WP E (d + 1) mMo_next 40 [.ref 166, u1] (r.toList ++ []) σ' Q) := (w_aload_n dMo_next_32 rfl).trans ((w_aload_n dMo_next_33 rfl).trans ((w_geti dMo_next_34 rz11_119 sh_166 rfl).trans (w_virt (vs := [.int (σ.1 166 15)]) (st' := []) (es := [.ref 166, .int (σ.1 166 15)]) dMo_next_37 rz11_122 rfl sh_166 rfl rfl rfl (Nat.le_of_ble_eq_true rfl) (Nat.le_of_ble_eq_true rfl) rfl)))
theorem bMo_next_40 {E : mEn} {d : Nat} {σ : mSt} {Q : mPost} {u1 : Value} {s0 : Int32} : WP E d mMo_next 40 [.ref 166, u1] [.int s0] σ Q = (if ¬ s0 = (nI 32) then WP E d mMo_next 58 [.ref 166, u1] [] σ Q else WP E d mMo_next 45 [.ref 166, u1] [] σ Q) := (w_bipush (v := (nI 32)) dMo_next_40 rfl).trans (w_icmpne (t := 58) dMo_next_42 (by decide))
theorem bMo_next_45 {E : mEn} {d : Nat} {σ : mSt} {Q : mPost} {u1 : Value} : WP E d mMo_next 45 [.ref 166, u1] [] σ Q = WP E d mMo_next 8 [.ref 166, u1] [] (sI σ 166 15 ((σ.1 166 15) + 1)) Q := (w_aload_n dMo_next_45 rfl).trans ((w_dup dMo_next_46 rfl).trans ((w_geti dMo_next_47 rz11_119 sh_166 rfl).trans ((w_iconst (v := 1) dMo_next_50 rfl).trans ((w_iadd dMo_next_51).trans ((w_puti dMo_next_52 rz11_119 sh_166 rfl rfl rfl).trans (w_goto (t := 8) dMo_next_55 (by decide)))))))
theorem bMo_next_58 {E : mEn} {d : Nat} {σ : mSt} {Q : mPost} {u1 : Value} : WP E d mMo_next 58 [.ref 166, u1] [] σ Q = (if ((sI σ 166 16 (σ.1 166 15)).1 166 15) < ((sI σ 166 16 (σ.1 166 15)).1 166 9) then WP E d mMo_next 83 [.ref 166, u1] [] (sI σ 166 16 (σ.1 166 15)) Q else WP E d mMo_next 77 [.ref 166, u1] [] (sI σ 166 16 (σ.1 166 15)) Q) := (w_aload_n dMo_next_58 rfl).trans ((w_aload_n dMo_next_59 rfl).trans ((w_geti dMo_next_60 rz11_119 sh_166 rfl).trans ((w_puti dMo_next_63 rz11_116 sh_166 rfl rfl rfl).trans ((w_aload_n dMo_next_66 rfl).trans ((w_geti dMo_next_67 rz11_119 sh_166 rfl).trans ((w_aload_n dMo_next_70 rfl).trans ((w_geti dMo_next_71 rz11_113 sh_166 rfl).trans (w_icmplt (t := 83) dMo_next_74 (by decide)))))))))
theorem bMo_next_77 {E : mEn} {d : Nat} {σ : mSt} {Q : mPost} {u1 : Value} : WP E d mMo_next 77 [.ref 166, u1] [] σ Q = Q none (sI σ 166 14 0) := (w_aload_n dMo_next_77 rfl).trans ((w_iconst (v := 0) dMo_next_78 rfl).trans ((w_puti dMo_next_79 rz11_125 sh_166 rfl rfl rfl).trans (w_vret dMo_next_82 rfl)))
theorem bMo_next_83 {E : mEn} {d : Nat} {σ : mSt} {Q : mPost} {u1 : Value} : WP E (d + 1) mMo_next 83 [.ref 166, u1] [] σ Q = WP E d mMo_look2 0 [.ref 166, .int (σ.1 166 15)] [] σ (fun r σ' => WP E (d + 1) mMo_next 91 [.ref 166, u1] (r.toList ++ []) σ' Q) := (w_aload_n dMo_next_83 rfl).trans ((w_aload_n dMo_next_84 rfl).trans ((w_geti dMo_next_85 rz11_119 sh_166 rfl).trans (w_virt (vs := [.int (σ.1 166 15)]) (st' := []) (es := [.ref 166, .int (σ.1 166 15)]) dMo_next_88 rz11_122 rfl sh_166 rfl rfl rfl (Nat.le_of_ble_eq_true rfl) (Nat.le_of_ble_eq_true rfl) rfl)))
theorem bMo_next_91 {E : mEn} {d : Nat} {σ : mSt} {Q : mPost} {u1 : Value} {s0 : Int32} : WP E (d + 1) mMo_next 91 [.ref 166, u1] [.int s0] σ Q = WP E d mMo_isLetter 0 [.int s0] [] σ (fun r σ' => WP E (d + 1) mMo_next 96 [.ref 166, .int s0] (r.toList ++ []) σ' Q) := (w_istore_n (ls' := [.ref 166, .int s0]) dMo_next_91 (Nat.le_of_ble_eq_true rfl) rfl).trans ((w_iload_n dMo_next_92 rfl).trans (w_stat (vs := [.int s0]) (st' := []) (es := [.int s0]) dMo_next_93 rz11_128 rfl rfl rfl (Nat.le_of_ble_eq_true rfl) (Nat.le_of_ble_eq_true rfl) rfl))
theorem bMo_next_96 {E : mEn} {d : Nat} {σ : mSt} {Q : mPost} {a1 : Int32} {s0 : Int32} : WP E d mMo_next 96 [.ref 166, .int a1] [.int s0] σ Q = (if s0 = 0 then WP E d mMo_next 198 [.ref 166, .int a1] [] σ Q else WP E d mMo_next 99 [.ref 166, .int a1] [] σ Q) := w_ifeq (t := 198) dMo_next_96 (by decide)
theorem bMo_next_99 {E : mEn} {d : Nat} {σ : mSt} {Q : mPost} {a1 : Int32} : WP E d mMo_next 99 [.ref 166, .int a1] [] σ Q = WP E d mMo_next 109 [.ref 166, .int a1] [] (sL (sI σ 166 14 1) 166 19 0) Q := (w_aload_n dMo_next_99 rfl).trans ((w_iconst (v := 1) dMo_next_100 rfl).trans ((w_puti dMo_next_101 rz11_125 sh_166 rfl rfl rfl).trans ((w_aload_n dMo_next_104 rfl).trans ((w_lconst (v := 0) dMo_next_105 rfl).trans (w_putl dMo_next_106 rz11_131 sh_166 rfl rfl rfl)))))
theorem bMo_next_109 {E : mEn} {d : Nat} {σ : mSt} {Q : mPost} {a1 : Int32} : WP E (d + 1) mMo_next 109 [.ref 166, .int a1] [] σ Q = WP E d mMo_look2 0 [.ref 166, .int (σ.1 166 16)] [] σ (fun r σ' => WP E (d + 1) mMo_next 117 [.ref 166, .int a1] (r.toList ++ []) σ' Q) := (w_aload_n dMo_next_109 rfl).trans ((w_aload_n dMo_next_110 rfl).trans ((w_geti dMo_next_111 rz11_116 sh_166 rfl).trans (w_virt (vs := [.int (σ.1 166 16)]) (st' := []) (es := [.ref 166, .int (σ.1 166 16)]) dMo_next_114 rz11_122 rfl sh_166 rfl rfl rfl (Nat.le_of_ble_eq_true rfl) (Nat.le_of_ble_eq_true rfl) rfl)))
theorem bMo_next_117 {E : mEn} {d : Nat} {σ : mSt} {Q : mPost} {a1 : Int32} {s0 : Int32} : WP E (d + 1) mMo_next 117 [.ref 166, .int a1] [.int s0] σ Q = WP E d mMo_isLetter 0 [.int s0] [] σ (fun r σ' => WP E (d + 1) mMo_next 120 [.ref 166, .int a1] (r.toList ++ []) σ' Q) := w_stat (vs := [.int s0]) (st' := []) (es := [.int s0]) dMo_next_117 rz11_128 rfl rfl rfl (Nat.le_of_ble_eq_true rfl) (Nat.le_of_ble_eq_true rfl) rfl
theorem bMo_next_120 {E : mEn} {d : Nat} {σ : mSt} {Q : mPost} {a1 : Int32} {s0 : Int32} : WP E d mMo_next 120 [.ref 166, .int a1] [.int s0] σ Q = (if s0 = 0 then WP E d mMo_next 182 [.ref 166, .int a1] [] σ Q else WP E d mMo_next 123 [.ref 166, .int a1] [] σ Q) := w_ifeq (t := 182) dMo_next_120 (by decide)
theorem bMo_next_123 {E : mEn} {d : Nat} {σ : mSt} {Q : mPost} {a1 : Int32} : WP E d mMo_next 123 [.ref 166, .int a1] [] σ Q = (if (nI 8) ≤ ((σ.1 166 16) - (σ.1 166 15)) then WP E d mMo_next 163 [.ref 166, .int a1] [.ref 166] σ Q else WP E d mMo_next 138 [.ref 166, .int a1] [.ref 166] σ Q) := (w_aload_n dMo_next_123 rfl).trans ((w_aload_n dMo_next_124 rfl).trans ((w_geti dMo_next_125 rz11_116 sh_166 rfl).trans ((w_aload_n dMo_next_128 rfl).trans ((w_geti dMo_next_129 rz11_119 sh_166 rfl).trans ((w_isub dMo_next_132).trans ((w_bipush (v := (nI 8)) dMo_next_133 rfl).trans (w_icmpge (t := 163) dMo_next_135 (by decide))))))))
theorem bMo_next_138 {E : mEn} {d : Nat} {σ : mSt} {Q : mPost} {a1 : Int32} : WP E (d + 1) mMo_next 138 [.ref 166, .int a1] [.ref 166] σ Q = WP E d mMo_look2 0 [.ref 166, .int (σ.1 166 16)] [] σ (fun r σ' => WP E (d + 1) mMo_next 154 [.ref 166, .int a1] (r.toList ++ [.long ((σ.2 166 19) * (32)), .ref 166]) σ' Q) := (w_aload_n dMo_next_138 rfl).trans ((w_getl dMo_next_139 rz11_131 sh_166 rfl).trans ((w_ldc2_w dMo_next_142 rz11_134).trans ((w_lmul dMo_next_145).trans ((w_aload_n dMo_next_146 rfl).trans ((w_aload_n dMo_next_147 rfl).trans ((w_geti dMo_next_148 rz11_116 sh_166 rfl).trans (w_virt (vs := [.int (σ.1 166 16)]) (st' := [.long ((σ.2 166 19) * (32)), .ref 166]) (es := [.ref 166, .int (σ.1 166 16)]) dMo_next_151 rz11_122 rfl sh_166 rfl rfl rfl (Nat.le_of_ble_eq_true rfl) (Nat.le_of_ble_eq_true rfl) rfl)))))))
theorem bMo_next_154 {E : mEn} {d : Nat} {σ : mSt} {Q : mPost} {a1 : Int32} {s0 : Int32} {q1 : Int64} : WP E d mMo_next 154 [.ref 166, .int a1] [.int s0, .long q1, .ref 166] σ Q = WP E d mMo_next 166 [.ref 166, .int a1] [.long ((q1 + (s0.toInt64)) - (96)), .ref 166] σ Q := (w_i2l dMo_next_154).trans ((w_ladd dMo_next_155).trans ((w_ldc2_w dMo_next_156 rz11_136).trans ((w_lsub dMo_next_159).trans (w_goto (t := 166) dMo_next_160 (by decide)))))
theorem bMo_next_163 {E : mEn} {d : Nat} {σ : mSt} {Q : mPost} {a1 : Int32} : WP E d mMo_next 163 [.ref 166, .int a1] [.ref 166] σ Q = WP E d mMo_next 166 [.ref 166, .int a1] [.long (-1), .ref 166] σ Q := w_ldc2_w dMo_next_163 rz11_105
theorem bMo_next_166 {E : mEn} {d : Nat} {σ : mSt} {Q : mPost} {a1 : Int32} {q0 : Int64} : WP E d mMo_next 166 [.ref 166, .int a1] [.long q0, .ref 166] σ Q = WP E d mMo_next 109 [.ref 166, .int a1] [] (sI (sL σ 166 19 q0) 166 16 (((sL σ 166 19 q0).1 166 16) + 1)) Q := (w_putl dMo_next_166 rz11_131 sh_166 rfl rfl rfl).trans ((w_aload_n dMo_next_169 rfl).trans ((w_dup dMo_next_170 rfl).trans ((w_geti dMo_next_171 rz11_116 sh_166 rfl).trans ((w_iconst (v := 1) dMo_next_174 rfl).trans ((w_iadd dMo_next_175).trans ((w_puti dMo_next_176 rz11_116 sh_166 rfl rfl rfl).trans (w_goto (t := 109) dMo_next_179 (by decide))))))))
theorem bMo_next_182 {E : mEn} {d : Nat} {σ : mSt} {Q : mPost} {a1 : Int32} : WP E d mMo_next 182 [.ref 166, .int a1] [] σ Q = WP E d mMo_next 330 [.ref 166, .int a1] [] (sI σ 166 18 ((σ.1 166 16) - (σ.1 166 15))) Q := (w_aload_n dMo_next_182 rfl).trans ((w_aload_n dMo_next_183 rfl).trans ((w_geti dMo_next_184 rz11_116 sh_166 rfl).trans ((w_aload_n dMo_next_187 rfl).trans ((w_geti dMo_next_188 rz11_119 sh_166 rfl).trans ((w_isub dMo_next_191).trans ((w_puti dMo_next_192 rz11_138 sh_166 rfl rfl rfl).trans (w_goto (t := 330) dMo_next_195 (by decide))))))))
theorem bMo_next_198 {E : mEn} {d : Nat} {σ : mSt} {Q : mPost} {a1 : Int32} : WP E (d + 1) mMo_next 198 [.ref 166, .int a1] [] σ Q = WP E d mMo_isDigit 0 [.int a1] [] σ (fun r σ' => WP E (d + 1) mMo_next 202 [.ref 166, .int a1] (r.toList ++ []) σ' Q) := (w_iload_n dMo_next_198 rfl).trans (w_stat (vs := [.int a1]) (st' := []) (es := [.int a1]) dMo_next_199 rz11_141 rfl rfl rfl (Nat.le_of_ble_eq_true rfl) (Nat.le_of_ble_eq_true rfl) rfl)
theorem bMo_next_202 {E : mEn} {d : Nat} {σ : mSt} {Q : mPost} {a1 : Int32} {s0 : Int32} : WP E d mMo_next 202 [.ref 166, .int a1] [.int s0] σ Q = (if s0 = 0 then WP E d mMo_next 298 [.ref 166, .int a1] [] σ Q else WP E d mMo_next 205 [.ref 166, .int a1] [] σ Q) := w_ifeq (t := 298) dMo_next_202 (by decide)
theorem bMo_next_205 {E : mEn} {d : Nat} {σ : mSt} {Q : mPost} {a1 : Int32} : WP E d mMo_next 205 [.ref 166, .int a1] [] σ Q = WP E d mMo_next 210 [.ref 166, .int a1] [] (sI σ 166 17 0) Q := (w_aload_n dMo_next_205 rfl).trans ((w_iconst (v := 0) dMo_next_206 rfl).trans (w_puti dMo_next_207 rz11_144 sh_166 rfl rfl rfl))
theorem bMo_next_210 {E : mEn} {d : Nat} {σ : mSt} {Q : mPost} {a1 : Int32} : WP E (d + 1) mMo_next 210 [.ref 166, .int a1] [] σ Q = WP E d mMo_look2 0 [.ref 166, .int (σ.1 166 16)] [] σ (fun r σ' => WP E (d + 1) mMo_next 218 [.ref 166, .int a1] (r.toList ++ []) σ' Q) := (w_aload_n dMo_next_210 rfl).trans ((w_aload_n dMo_next_211 rfl).trans ((w_geti dMo_next_212 rz11_116 sh_166 rfl).trans (w_virt (vs := [.int (σ.1 166 16)]) (st' := []) (es := [.ref 166, .int (σ.1 166 16)]) dMo_next_215 rz11_122 rfl sh_166 rfl rfl rfl (Nat.le_of_ble_eq_true rfl) (Nat.le_of_ble_eq_true rfl) rfl)))
theorem bMo_next_218 {E : mEn} {d : Nat} {σ : mSt} {Q : mPost} {a1 : Int32} {s0 : Int32} : WP E (d + 1) mMo_next 218 [.ref 166, .int a1] [.int s0] σ Q = WP E d mMo_isDigit 0 [.int s0] [] σ (fun r σ' => WP E (d + 1) mMo_next 221 [.ref 166, .int a1] (r.toList ++ []) σ' Q) := w_stat (vs := [.int s0]) (st' := []) (es := [.int s0]) dMo_next_218 rz11_141 rfl rfl rfl (Nat.le_of_ble_eq_true rfl) (Nat.le_of_ble_eq_true rfl) rfl
theorem bMo_next_221 {E : mEn} {d : Nat} {σ : mSt} {Q : mPost} {a1 : Int32} {s0 : Int32} : WP E d mMo_next 221 [.ref 166, .int a1] [.int s0] σ Q = (if s0 = 0 then WP E d mMo_next 273 [.ref 166, .int a1] [] σ Q else WP E d mMo_next 224 [.ref 166, .int a1] [] σ Q) := w_ifeq (t := 273) dMo_next_221 (by decide)
theorem bMo_next_224 {E : mEn} {d : Nat} {σ : mSt} {Q : mPost} {a1 : Int32} : WP E d mMo_next 224 [.ref 166, .int a1] [] σ Q = (if (nI 4) ≤ ((σ.1 166 16) - (σ.1 166 15)) then WP E d mMo_next 260 [.ref 166, .int a1] [] σ Q else WP E d mMo_next 237 [.ref 166, .int a1] [] σ Q) := (w_aload_n dMo_next_224 rfl).trans ((w_geti dMo_next_225 rz11_116 sh_166 rfl).trans ((w_aload_n dMo_next_228 rfl).trans ((w_geti dMo_next_229 rz11_119 sh_166 rfl).trans ((w_isub dMo_next_232).trans ((w_iconst (v := (nI 4)) dMo_next_233 rfl).trans (w_icmpge (t := 260) dMo_next_234 (by decide)))))))
theorem bMo_next_237 {E : mEn} {d : Nat} {σ : mSt} {Q : mPost} {a1 : Int32} : WP E (d + 1) mMo_next 237 [.ref 166, .int a1] [] σ Q = WP E d mMo_look2 0 [.ref 166, .int (σ.1 166 16)] [] σ (fun r σ' => WP E (d + 1) mMo_next 253 [.ref 166, .int a1] (r.toList ++ [.int ((nI 10) * (σ.1 166 17)), .ref 166]) σ' Q) := (w_aload_n dMo_next_237 rfl).trans ((w_bipush (v := (nI 10)) dMo_next_238 rfl).trans ((w_aload_n dMo_next_240 rfl).trans ((w_geti dMo_next_241 rz11_144 sh_166 rfl).trans ((w_imul dMo_next_244).trans ((w_aload_n dMo_next_245 rfl).trans ((w_aload_n dMo_next_246 rfl).trans ((w_geti dMo_next_247 rz11_116 sh_166 rfl).trans (w_virt (vs := [.int (σ.1 166 16)]) (st' := [.int ((nI 10) * (σ.1 166 17)), .ref 166]) (es := [.ref 166, .int (σ.1 166 16)]) dMo_next_250 rz11_122 rfl sh_166 rfl rfl rfl (Nat.le_of_ble_eq_true rfl) (Nat.le_of_ble_eq_true rfl) rfl))))))))
theorem bMo_next_253 {E : mEn} {d : Nat} {σ : mSt} {Q : mPost} {a1 : Int32} {s0 : Int32} {s1 : Int32} : WP E d mMo_next 253 [.ref 166, .int a1] [.int s0, .int s1, .ref 166] σ Q = WP E d mMo_next 260 [.ref 166, .int a1] [] (sI σ 166 17 ((s1 + s0) - (nI 48))) Q := (w_iadd dMo_next_253).trans ((w_bipush (v := (nI 48)) dMo_next_254 rfl).trans ((w_isub dMo_next_256).trans (w_puti dMo_next_257 rz11_144 sh_166 rfl rfl rfl)))
theorem bMo_next_260 {E : mEn} {d : Nat} {σ : mSt} {Q : mPost} {a1 : Int32} : WP E d mMo_next 260 [.ref 166, .int a1] [] σ Q = WP E d mMo_next 210 [.ref 166, .int a1] [] (sI σ 166 16 ((σ.1 166 16) + 1)) Q := (w_aload_n dMo_next_260 rfl).trans ((w_dup dMo_next_261 rfl).trans ((w_geti dMo_next_262 rz11_116 sh_166 rfl).trans ((w_iconst (v := 1) dMo_next_265 rfl).trans ((w_iadd dMo_next_266).trans ((w_puti dMo_next_267 rz11_116 sh_166 rfl rfl rfl).trans (w_goto (t := 210) dMo_next_270 (by decide)))))))
theorem bMo_next_273 {E : mEn} {d : Nat} {σ : mSt} {Q : mPost} {a1 : Int32} : WP E d mMo_next 273 [.ref 166, .int a1] [] σ Q = (if ((σ.1 166 16) - (σ.1 166 15)) ≤ (nI 4) then WP E d mMo_next 291 [.ref 166, .int a1] [.ref 166] σ Q else WP E d mMo_next 287 [.ref 166, .int a1] [.ref 166] σ Q) := (w_aload_n dMo_next_273 rfl).trans ((w_aload_n dMo_next_274 rfl).trans ((w_geti dMo_next_275 rz11_116 sh_166 rfl).trans ((w_aload_n dMo_next_278 rfl).trans ((w_geti dMo_next_279 rz11_119 sh_166 rfl).trans ((w_isub dMo_next_282).trans ((w_iconst (v := (nI 4)) dMo_next_283 rfl).trans (w_icmple (t := 291) dMo_next_284 (by decide))))))))
theorem bMo_next_287 {E : mEn} {d : Nat} {σ : mSt} {Q : mPost} {a1 : Int32} : WP E d mMo_next 287 [.ref 166, .int a1] [.ref 166] σ Q = WP E d mMo_next 292 [.ref 166, .int a1] [.int (nI 4), .ref 166] σ Q := (w_iconst (v := (nI 4)) dMo_next_287 rfl).trans (w_goto (t := 292) dMo_next_288 (by decide))
theorem bMo_next_291 {E : mEn} {d : Nat} {σ : mSt} {Q : mPost} {a1 : Int32} : WP E d mMo_next 291 [.ref 166, .int a1] [.ref 166] σ Q = WP E d mMo_next 292 [.ref 166, .int a1] [.int (nI 2), .ref 166] σ Q := w_iconst (v := (nI 2)) dMo_next_291 rfl
theorem bMo_next_292 {E : mEn} {d : Nat} {σ : mSt} {Q : mPost} {a1 : Int32} {s0 : Int32} : WP E d mMo_next 292 [.ref 166, .int a1] [.int s0, .ref 166] σ Q = WP E d mMo_next 330 [.ref 166, .int a1] [] (sI σ 166 14 s0) Q := (w_puti dMo_next_292 rz11_125 sh_166 rfl rfl rfl).trans (w_goto (t := 330) dMo_next_295 (by decide))
theorem bMo_next_298 {E : mEn} {d : Nat} {σ : mSt} {Q : mPost} {a1 : Int32} : WP E (d + 1) mMo_next 298 [.ref 166, .int a1] [] σ Q = WP E d mMo_isSignByte 0 [.ref 166, .int a1] [] (sI (sI σ 166 16 ((σ.1 166 15) + 1)) 166 17 a1) (fun r σ' => WP E (d + 1) mMo_next 319 [.ref 166, .int a1] (r.toList ++ [.ref 166]) σ' Q) := (w_aload_n dMo_next_298 rfl).trans ((w_aload_n dMo_next_299 rfl).trans ((w_geti dMo_next_300 rz11_119 sh_166 rfl).trans ((w_iconst (v := 1) dMo_next_303 rfl).trans ((w_iadd dMo_next_304).trans ((w_puti dMo_next_305 rz11_116 sh_166 rfl rfl rfl).trans ((w_aload_n dMo_next_308 rfl).trans ((w_iload_n dMo_next_309 rfl).trans ((w_puti dMo_next_310 rz11_144 sh_166 rfl rfl rfl).trans ((w_aload_n dMo_next_313 rfl).trans ((w_aload_n dMo_next_314 rfl).trans ((w_iload_n dMo_next_315 rfl).trans (w_virt (vs := [.int a1]) (st' := [.ref 166]) (es := [.ref 166, .int a1]) dMo_next_316 rz11_147 rfl sh_166 rfl rfl rfl (Nat.le_of_ble_eq_true rfl) (Nat.le_of_ble_eq_true rfl) rfl))))))))))))
theorem bMo_next_319 {E : mEn} {d : Nat} {σ : mSt} {Q : mPost} {a1 : Int32} {s0 : Int32} : WP E d mMo_next 319 [.ref 166, .int a1] [.int s0, .ref 166] σ Q = (if s0 = 0 then WP E d mMo_next 326 [.ref 166, .int a1] [.ref 166] σ Q else WP E d mMo_next 322 [.ref 166, .int a1] [.ref 166] σ Q) := w_ifeq (t := 326) dMo_next_319 (by decide)
theorem bMo_next_322 {E : mEn} {d : Nat} {σ : mSt} {Q : mPost} {a1 : Int32} : WP E d mMo_next 322 [.ref 166, .int a1] [.ref 166] σ Q = WP E d mMo_next 327 [.ref 166, .int a1] [.int (nI 3), .ref 166] σ Q := (w_iconst (v := (nI 3)) dMo_next_322 rfl).trans (w_goto (t := 327) dMo_next_323 (by decide))
theorem bMo_next_326 {E : mEn} {d : Nat} {σ : mSt} {Q : mPost} {a1 : Int32} : WP E d mMo_next 326 [.ref 166, .int a1] [.ref 166] σ Q = WP E d mMo_next 327 [.ref 166, .int a1] [.int (nI 4), .ref 166] σ Q := w_iconst (v := (nI 4)) dMo_next_326 rfl
theorem bMo_next_327 {E : mEn} {d : Nat} {σ : mSt} {Q : mPost} {a1 : Int32} {s0 : Int32} : WP E d mMo_next 327 [.ref 166, .int a1] [.int s0, .ref 166] σ Q = WP E d mMo_next 330 [.ref 166, .int a1] [] (sI σ 166 14 s0) Q := w_puti dMo_next_327 rz11_125 sh_166 rfl rfl rfl
theorem bMo_next_330 {E : mEn} {d : Nat} {σ : mSt} {Q : mPost} {a1 : Int32} : WP E d mMo_next 330 [.ref 166, .int a1] [] σ Q = Q none σ := w_vret dMo_next_330 rfl
theorem dMo_look2_0 : decode (mC mMo_look2) 0 = .ok (.iload_n 1, 1) := by decide +kernel
theorem dMo_look2_1 : decode (mC mMo_look2) 1 = .ok (.aload_n 0, 1) := by decide +kernel
theorem dMo_look2_2 : decode (mC mMo_look2) 2 = .ok (.getfield 113, 3) := by decide +kernel
theorem dMo_look2_5 : decode (mC mMo_look2) 5 = .ok (.if_icmp .ge (16), 3) := by decide +kernel
theorem dMo_look2_8 : decode (mC mMo_look2) 8 = .ok (.aload_n 0, 1) := by decide +kernel
theorem dMo_look2_9 : decode (mC mMo_look2) 9 = .ok (.getfield 24, 3) := by decide +kernel
theorem dMo_look2_12 : decode (mC mMo_look2) 12 = .ok (.iload_n 1, 1) := by decide +kernel
theorem dMo_look2_13 : decode (mC mMo_look2) 13 = .ok (.baload, 1) := by decide +kernel
theorem dMo_look2_14 : decode (mC mMo_look2) 14 = .ok (.sipush (255), 3) := by decide +kernel
theorem dMo_look2_17 : decode (mC mMo_look2) 17 = .ok (.iand, 1) := by decide +kernel
theorem dMo_look2_18 : decode (mC mMo_look2) 18 = .ok (.goto (4), 3) := by decide +kernel
theorem dMo_look2_21 : decode (mC mMo_look2) 21 = .ok (.iconst (0), 1) := by decide +kernel
theorem dMo_look2_22 : decode (mC mMo_look2) 22 = .ok (.ireturn, 1) := by decide +kernel
theorem bMo_look2_0 {E : mEn} {d : Nat} {σ : mSt} {Q : mPost} {a1 : Int32} : WP E d mMo_look2 0 [.ref 166, .int a1] [] σ Q = (if (σ.1 166 9) ≤ a1 then WP E d mMo_look2 21 [.ref 166, .int a1] [] σ Q else WP E d mMo_look2 8 [.ref 166, .int a1] [] σ Q) := (w_iload_n dMo_look2_0 rfl).trans ((w_aload_n dMo_look2_1 rfl).trans ((w_geti dMo_look2_2 rz11_113 sh_166 rfl).trans (w_icmpge (t := 21) dMo_look2_5 (by decide))))
theorem bMo_look2_8 {E : mEn} {d : Nat} {σ : mSt} {Q : mPost} {a1 : Int32} : WP E d mMo_look2 8 [.ref 166, .int a1] [] σ Q = (if mOut a1 900 = true then False else WP E d mMo_look2 22 [.ref 166, .int a1] [.int ((σ.1 170 a1.toNatClampNeg) &&& (nI 255))] σ Q) := (w_aload_n dMo_look2_8 rfl).trans ((w_getr (r := 170) dMo_look2_9 rz11_24 sh_166 rfl).trans ((w_iload_n dMo_look2_12 rfl).trans ((w_bald dMo_look2_13 sh_170).trans (ite_c ((w_sipush (v := (nI 255)) dMo_look2_14 rfl).trans ((w_iand dMo_look2_17).trans (w_goto (t := 22) dMo_look2_18 (by decide))))))))
theorem bMo_look2_21 {E : mEn} {d : Nat} {σ : mSt} {Q : mPost} {a1 : Int32} : WP E d mMo_look2 21 [.ref 166, .int a1] [] σ Q = WP E d mMo_look2 22 [.ref 166, .int a1] [.int 0] σ Q := w_iconst (v := 0) dMo_look2_21 rfl
theorem bMo_look2_22 {E : mEn} {d : Nat} {σ : mSt} {Q : mPost} {a1 : Int32} {s0 : Int32} : WP E d mMo_look2 22 [.ref 166, .int a1] [.int s0] σ Q = Q (some (.int s0)) σ := w_iret dMo_look2_22 rfl
theorem dMo_isLetter_0 : decode (mC mMo_isLetter) 0 = .ok (.iload_n 0, 1) := by decide +kernel
theorem dMo_isLetter_1 : decode (mC mMo_isLetter) 1 = .ok (.bipush (97), 2) := by decide +kernel
theorem dMo_isLetter_3 : decode (mC mMo_isLetter) 3 = .ok (.if_icmp .lt (13), 3) := by decide +kernel
theorem dMo_isLetter_6 : decode (mC mMo_isLetter) 6 = .ok (.iload_n 0, 1) := by decide +kernel
theorem dMo_isLetter_7 : decode (mC mMo_isLetter) 7 = .ok (.bipush (122), 2) := by decide +kernel
theorem dMo_isLetter_9 : decode (mC mMo_isLetter) 9 = .ok (.if_icmp .gt (7), 3) := by decide +kernel
theorem dMo_isLetter_12 : decode (mC mMo_isLetter) 12 = .ok (.iconst (1), 1) := by decide +kernel
theorem dMo_isLetter_13 : decode (mC mMo_isLetter) 13 = .ok (.goto (4), 3) := by decide +kernel
theorem dMo_isLetter_16 : decode (mC mMo_isLetter) 16 = .ok (.iconst (0), 1) := by decide +kernel
theorem dMo_isLetter_17 : decode (mC mMo_isLetter) 17 = .ok (.ireturn, 1) := by decide +kernel
theorem bMo_isLetter_0 {E : mEn} {d : Nat} {σ : mSt} {Q : mPost} {a0 : Int32} : WP E d mMo_isLetter 0 [.int a0] [] σ Q = (if a0 < (nI 97) then WP E d mMo_isLetter 16 [.int a0] [] σ Q else WP E d mMo_isLetter 6 [.int a0] [] σ Q) := (w_iload_n dMo_isLetter_0 rfl).trans ((w_bipush (v := (nI 97)) dMo_isLetter_1 rfl).trans (w_icmplt (t := 16) dMo_isLetter_3 (by decide)))
theorem bMo_isLetter_6 {E : mEn} {d : Nat} {σ : mSt} {Q : mPost} {a0 : Int32} : WP E d mMo_isLetter 6 [.int a0] [] σ Q = (if (nI 122) < a0 then WP E d mMo_isLetter 16 [.int a0] [] σ Q else WP E d mMo_isLetter 12 [.int a0] [] σ Q) := (w_iload_n dMo_isLetter_6 rfl).trans ((w_bipush (v := (nI 122)) dMo_isLetter_7 rfl).trans (w_icmpgt (t := 16) dMo_isLetter_9 (by decide)))
theorem bMo_isLetter_12 {E : mEn} {d : Nat} {σ : mSt} {Q : mPost} {a0 : Int32} : WP E d mMo_isLetter 12 [.int a0] [] σ Q = WP E d mMo_isLetter 17 [.int a0] [.int 1] σ Q := (w_iconst (v := 1) dMo_isLetter_12 rfl).trans (w_goto (t := 17) dMo_isLetter_13 (by decide))
theorem bMo_isLetter_16 {E : mEn} {d : Nat} {σ : mSt} {Q : mPost} {a0 : Int32} : WP E d mMo_isLetter 16 [.int a0] [] σ Q = WP E d mMo_isLetter 17 [.int a0] [.int 0] σ Q := w_iconst (v := 0) dMo_isLetter_16 rfl
theorem bMo_isLetter_17 {E : mEn} {d : Nat} {σ : mSt} {Q : mPost} {a0 : Int32} {s0 : Int32} (hz0 : s0 = 0 ∨ s0 = 1) : WP E d mMo_isLetter 17 [.int a0] [.int s0] σ Q = Q (some (.int s0)) σ := w_zret dMo_isLetter_17 rfl hz0
theorem dMo_isDigit_0 : decode (mC mMo_isDigit) 0 = .ok (.iload_n 0, 1) := by decide +kernel
theorem dMo_isDigit_1 : decode (mC mMo_isDigit) 1 = .ok (.bipush (48), 2) := by decide +kernel
theorem dMo_isDigit_3 : decode (mC mMo_isDigit) 3 = .ok (.if_icmp .lt (13), 3) := by decide +kernel
theorem dMo_isDigit_6 : decode (mC mMo_isDigit) 6 = .ok (.iload_n 0, 1) := by decide +kernel
theorem dMo_isDigit_7 : decode (mC mMo_isDigit) 7 = .ok (.bipush (57), 2) := by decide +kernel
theorem dMo_isDigit_9 : decode (mC mMo_isDigit) 9 = .ok (.if_icmp .gt (7), 3) := by decide +kernel
theorem dMo_isDigit_12 : decode (mC mMo_isDigit) 12 = .ok (.iconst (1), 1) := by decide +kernel
theorem dMo_isDigit_13 : decode (mC mMo_isDigit) 13 = .ok (.goto (4), 3) := by decide +kernel
theorem dMo_isDigit_16 : decode (mC mMo_isDigit) 16 = .ok (.iconst (0), 1) := by decide +kernel
theorem dMo_isDigit_17 : decode (mC mMo_isDigit) 17 = .ok (.ireturn, 1) := by decide +kernel
theorem bMo_isDigit_0 {E : mEn} {d : Nat} {σ : mSt} {Q : mPost} {a0 : Int32} : WP E d mMo_isDigit 0 [.int a0] [] σ Q = (if a0 < (nI 48) then WP E d mMo_isDigit 16 [.int a0] [] σ Q else WP E d mMo_isDigit 6 [.int a0] [] σ Q) := (w_iload_n dMo_isDigit_0 rfl).trans ((w_bipush (v := (nI 48)) dMo_isDigit_1 rfl).trans (w_icmplt (t := 16) dMo_isDigit_3 (by decide)))
theorem bMo_isDigit_6 {E : mEn} {d : Nat} {σ : mSt} {Q : mPost} {a0 : Int32} : WP E d mMo_isDigit 6 [.int a0] [] σ Q = (if (nI 57) < a0 then WP E d mMo_isDigit 16 [.int a0] [] σ Q else WP E d mMo_isDigit 12 [.int a0] [] σ Q) := (w_iload_n dMo_isDigit_6 rfl).trans ((w_bipush (v := (nI 57)) dMo_isDigit_7 rfl).trans (w_icmpgt (t := 16) dMo_isDigit_9 (by decide)))
theorem bMo_isDigit_12 {E : mEn} {d : Nat} {σ : mSt} {Q : mPost} {a0 : Int32} : WP E d mMo_isDigit 12 [.int a0] [] σ Q = WP E d mMo_isDigit 17 [.int a0] [.int 1] σ Q := (w_iconst (v := 1) dMo_isDigit_12 rfl).trans (w_goto (t := 17) dMo_isDigit_13 (by decide))
theorem bMo_isDigit_16 {E : mEn} {d : Nat} {σ : mSt} {Q : mPost} {a0 : Int32} : WP E d mMo_isDigit 16 [.int a0] [] σ Q = WP E d mMo_isDigit 17 [.int a0] [.int 0] σ Q := w_iconst (v := 0) dMo_isDigit_16 rfl
theorem bMo_isDigit_17 {E : mEn} {d : Nat} {σ : mSt} {Q : mPost} {a0 : Int32} {s0 : Int32} (hz0 : s0 = 0 ∨ s0 = 1) : WP E d mMo_isDigit 17 [.int a0] [.int s0] σ Q = Q (some (.int s0)) σ := w_zret dMo_isDigit_17 rfl hz0
theorem dMo_isSignByte_0 : decode (mC mMo_isSignByte) 0 = .ok (.iload_n 1, 1) := by decide +kernel
theorem dMo_isSignByte_1 : decode (mC mMo_isSignByte) 1 = .ok (.bipush (59), 2) := by decide +kernel
theorem dMo_isSignByte_3 : decode (mC mMo_isSignByte) 3 = .ok (.if_icmp .eq (21), 3) := by decide +kernel
theorem dMo_isSignByte_6 : decode (mC mMo_isSignByte) 6 = .ok (.iload_n 1, 1) := by decide +kernel
theorem dMo_isSignByte_7 : decode (mC mMo_isSignByte) 7 = .ok (.bipush (60), 2) := by decide +kernel
theorem dMo_isSignByte_9 : decode (mC mMo_isSignByte) 9 = .ok (.if_icmp .eq (15), 3) := by decide +kernel
theorem dMo_isSignByte_12 : decode (mC mMo_isSignByte) 12 = .ok (.iload_n 1, 1) := by decide +kernel
theorem dMo_isSignByte_13 : decode (mC mMo_isSignByte) 13 = .ok (.bipush (62), 2) := by decide +kernel
theorem dMo_isSignByte_15 : decode (mC mMo_isSignByte) 15 = .ok (.if_icmp .eq (9), 3) := by decide +kernel
theorem dMo_isSignByte_18 : decode (mC mMo_isSignByte) 18 = .ok (.iload_n 1, 1) := by decide +kernel
theorem dMo_isSignByte_19 : decode (mC mMo_isSignByte) 19 = .ok (.bipush (61), 2) := by decide +kernel
theorem dMo_isSignByte_21 : decode (mC mMo_isSignByte) 21 = .ok (.if_icmp .ne (7), 3) := by decide +kernel
theorem dMo_isSignByte_24 : decode (mC mMo_isSignByte) 24 = .ok (.iconst (1), 1) := by decide +kernel
theorem dMo_isSignByte_25 : decode (mC mMo_isSignByte) 25 = .ok (.goto (4), 3) := by decide +kernel
theorem dMo_isSignByte_28 : decode (mC mMo_isSignByte) 28 = .ok (.iconst (0), 1) := by decide +kernel
theorem dMo_isSignByte_29 : decode (mC mMo_isSignByte) 29 = .ok (.ireturn, 1) := by decide +kernel
theorem bMo_isSignByte_0 {E : mEn} {d : Nat} {σ : mSt} {Q : mPost} {a1 : Int32} : WP E d mMo_isSignByte 0 [.ref 166, .int a1] [] σ Q = (if a1 = (nI 59) then WP E d mMo_isSignByte 24 [.ref 166, .int a1] [] σ Q else WP E d mMo_isSignByte 6 [.ref 166, .int a1] [] σ Q) := (w_iload_n dMo_isSignByte_0 rfl).trans ((w_bipush (v := (nI 59)) dMo_isSignByte_1 rfl).trans (w_icmpeq (t := 24) dMo_isSignByte_3 (by decide)))
theorem bMo_isSignByte_6 {E : mEn} {d : Nat} {σ : mSt} {Q : mPost} {a1 : Int32} : WP E d mMo_isSignByte 6 [.ref 166, .int a1] [] σ Q = (if a1 = (nI 60) then WP E d mMo_isSignByte 24 [.ref 166, .int a1] [] σ Q else WP E d mMo_isSignByte 12 [.ref 166, .int a1] [] σ Q) := (w_iload_n dMo_isSignByte_6 rfl).trans ((w_bipush (v := (nI 60)) dMo_isSignByte_7 rfl).trans (w_icmpeq (t := 24) dMo_isSignByte_9 (by decide)))
theorem bMo_isSignByte_12 {E : mEn} {d : Nat} {σ : mSt} {Q : mPost} {a1 : Int32} : WP E d mMo_isSignByte 12 [.ref 166, .int a1] [] σ Q = (if a1 = (nI 62) then WP E d mMo_isSignByte 24 [.ref 166, .int a1] [] σ Q else WP E d mMo_isSignByte 18 [.ref 166, .int a1] [] σ Q) := (w_iload_n dMo_isSignByte_12 rfl).trans ((w_bipush (v := (nI 62)) dMo_isSignByte_13 rfl).trans (w_icmpeq (t := 24) dMo_isSignByte_15 (by decide)))
theorem bMo_isSignByte_18 {E : mEn} {d : Nat} {σ : mSt} {Q : mPost} {a1 : Int32} : WP E d mMo_isSignByte 18 [.ref 166, .int a1] [] σ Q = (if ¬ a1 = (nI 61) then WP E d mMo_isSignByte 28 [.ref 166, .int a1] [] σ Q else WP E d mMo_isSignByte 24 [.ref 166, .int a1] [] σ Q) := (w_iload_n dMo_isSignByte_18 rfl).trans ((w_bipush (v := (nI 61)) dMo_isSignByte_19 rfl).trans (w_icmpne (t := 28) dMo_isSignByte_21 (by decide)))
theorem bMo_isSignByte_24 {E : mEn} {d : Nat} {σ : mSt} {Q : mPost} {a1 : Int32} : WP E d mMo_isSignByte 24 [.ref 166, .int a1] [] σ Q = WP E d mMo_isSignByte 29 [.ref 166, .int a1] [.int 1] σ Q := (w_iconst (v := 1) dMo_isSignByte_24 rfl).trans (w_goto (t := 29) dMo_isSignByte_25 (by decide))
theorem bMo_isSignByte_28 {E : mEn} {d : Nat} {σ : mSt} {Q : mPost} {a1 : Int32} : WP E d mMo_isSignByte 28 [.ref 166, .int a1] [] σ Q = WP E d mMo_isSignByte 29 [.ref 166, .int a1] [.int 0] σ Q := w_iconst (v := 0) dMo_isSignByte_28 rfl
theorem bMo_isSignByte_29 {E : mEn} {d : Nat} {σ : mSt} {Q : mPost} {a1 : Int32} {s0 : Int32} (hz0 : s0 = 0 ∨ s0 = 1) : WP E d mMo_isSignByte 29 [.ref 166, .int a1] [.int s0] σ Q = Q (some (.int s0)) σ := w_zret dMo_isSignByte_29 rfl hz0
theorem dMo_isPerson_0 : decode (mC mMo_isPerson) 0 = .ok (.aload_n 0, 1) := by decide +kernel
theorem dMo_isPerson_1 : decode (mC mMo_isPerson) 1 = .ok (.bipush (112), 2) := by decide +kernel
theorem dMo_isPerson_3 : decode (mC mMo_isPerson) 3 = .ok (.bipush (101), 2) := by decide +kernel
theorem dMo_isPerson_5 : decode (mC mMo_isPerson) 5 = .ok (.bipush (114), 2) := by decide +kernel
theorem dMo_isPerson_7 : decode (mC mMo_isPerson) 7 = .ok (.bipush (115), 2) := by decide +kernel
theorem dMo_isPerson_9 : decode (mC mMo_isPerson) 9 = .ok (.bipush (111), 2) := by decide +kernel
theorem dMo_isPerson_11 : decode (mC mMo_isPerson) 11 = .ok (.bipush (110), 2) := by decide +kernel
theorem dMo_isPerson_13 : decode (mC mMo_isPerson) 13 = .ok (.invokestatic 150, 3) := by decide +kernel
theorem dMo_isPerson_16 : decode (mC mMo_isPerson) 16 = .ok (.invokevirtual 154, 3) := by decide +kernel
theorem dMo_isPerson_19 : decode (mC mMo_isPerson) 19 = .ok (.ireturn, 1) := by decide +kernel
theorem bMo_isPerson_0 {E : mEn} {d : Nat} {σ : mSt} {Q : mPost} : WP E (d + 1) mMo_isPerson 0 [.ref 166] [] σ Q = WP E d mMo_spelled 0 [.int (nI 112), .int (nI 101), .int (nI 114), .int (nI 115), .int (nI 111), .int (nI 110), uu, uu] [] σ (fun r σ' => WP E (d + 1) mMo_isPerson 16 [.ref 166] (r.toList ++ [.ref 166]) σ' Q) := (w_aload_n dMo_isPerson_0 rfl).trans ((w_bipush (v := (nI 112)) dMo_isPerson_1 rfl).trans ((w_bipush (v := (nI 101)) dMo_isPerson_3 rfl).trans ((w_bipush (v := (nI 114)) dMo_isPerson_5 rfl).trans ((w_bipush (v := (nI 115)) dMo_isPerson_7 rfl).trans ((w_bipush (v := (nI 111)) dMo_isPerson_9 rfl).trans ((w_bipush (v := (nI 110)) dMo_isPerson_11 rfl).trans (w_stat (vs := [.int (nI 112), .int (nI 101), .int (nI 114), .int (nI 115), .int (nI 111), .int (nI 110)]) (st' := [.ref 166]) (es := [.int (nI 112), .int (nI 101), .int (nI 114), .int (nI 115), .int (nI 111), .int (nI 110), uu, uu]) dMo_isPerson_13 rz11_150 rfl rfl rfl (Nat.le_of_ble_eq_true rfl) (Nat.le_of_ble_eq_true rfl) rfl)))))))
theorem bMo_isPerson_16 {E : mEn} {d : Nat} {σ : mSt} {Q : mPost} {q0 : Int64} : WP E (d + 1) mMo_isPerson 16 [.ref 166] [.long q0, .ref 166] σ Q = WP E d mMo_isWord 0 [.ref 166, .long q0, uu] [] σ (fun r σ' => WP E (d + 1) mMo_isPerson 19 [.ref 166] (r.toList ++ []) σ' Q) := w_virt (vs := [.long q0]) (st' := []) (es := [.ref 166, .long q0, uu]) dMo_isPerson_16 rz11_154 rfl sh_166 rfl rfl rfl (Nat.le_of_ble_eq_true rfl) (Nat.le_of_ble_eq_true rfl) rfl
theorem bMo_isPerson_19 {E : mEn} {d : Nat} {σ : mSt} {Q : mPost} {s0 : Int32} (hz0 : s0 = 0 ∨ s0 = 1) : WP E d mMo_isPerson 19 [.ref 166] [.int s0] σ Q = Q (some (.int s0)) σ := w_zret dMo_isPerson_19 rfl hz0
theorem dMo_spelled_0 : decode (mC mMo_spelled) 0 = .ok (.iload_n 0, 1) := by decide +kernel
theorem dMo_spelled_1 : decode (mC mMo_spelled) 1 = .ok (.i2l, 1) := by decide +kernel
theorem dMo_spelled_2 : decode (mC mMo_spelled) 2 = .ok (.ldc2_w 136, 3) := by decide +kernel
theorem dMo_spelled_5 : decode (mC mMo_spelled) 5 = .ok (.lsub, 1) := by decide +kernel
theorem dMo_spelled_6 : decode (mC mMo_spelled) 6 = .ok (.ldc2_w 134, 3) := by decide +kernel
theorem dMo_spelled_9 : decode (mC mMo_spelled) 9 = .ok (.lmul, 1) := by decide +kernel
theorem dMo_spelled_10 : decode (mC mMo_spelled) 10 = .ok (.iload_n 1, 1) := by decide +kernel
theorem dMo_spelled_11 : decode (mC mMo_spelled) 11 = .ok (.i2l, 1) := by decide +kernel
theorem dMo_spelled_12 : decode (mC mMo_spelled) 12 = .ok (.ladd, 1) := by decide +kernel
theorem dMo_spelled_13 : decode (mC mMo_spelled) 13 = .ok (.ldc2_w 136, 3) := by decide +kernel
theorem dMo_spelled_16 : decode (mC mMo_spelled) 16 = .ok (.lsub, 1) := by decide +kernel
theorem dMo_spelled_17 : decode (mC mMo_spelled) 17 = .ok (.lstore 6, 2) := by decide +kernel
theorem dMo_spelled_19 : decode (mC mMo_spelled) 19 = .ok (.iload_n 2, 1) := by decide +kernel
theorem dMo_spelled_20 : decode (mC mMo_spelled) 20 = .ok (.ifCond .le (19), 3) := by decide +kernel
theorem dMo_spelled_23 : decode (mC mMo_spelled) 23 = .ok (.lload 6, 2) := by decide +kernel
theorem dMo_spelled_25 : decode (mC mMo_spelled) 25 = .ok (.ldc2_w 134, 3) := by decide +kernel
theorem dMo_spelled_28 : decode (mC mMo_spelled) 28 = .ok (.lmul, 1) := by decide +kernel
theorem dMo_spelled_29 : decode (mC mMo_spelled) 29 = .ok (.iload_n 2, 1) := by decide +kernel
theorem dMo_spelled_30 : decode (mC mMo_spelled) 30 = .ok (.i2l, 1) := by decide +kernel
theorem dMo_spelled_31 : decode (mC mMo_spelled) 31 = .ok (.ladd, 1) := by decide +kernel
theorem dMo_spelled_32 : decode (mC mMo_spelled) 32 = .ok (.ldc2_w 136, 3) := by decide +kernel
theorem dMo_spelled_35 : decode (mC mMo_spelled) 35 = .ok (.lsub, 1) := by decide +kernel
theorem dMo_spelled_36 : decode (mC mMo_spelled) 36 = .ok (.goto (5), 3) := by decide +kernel
theorem dMo_spelled_39 : decode (mC mMo_spelled) 39 = .ok (.lload 6, 2) := by decide +kernel
theorem dMo_spelled_41 : decode (mC mMo_spelled) 41 = .ok (.lstore 6, 2) := by decide +kernel
theorem dMo_spelled_43 : decode (mC mMo_spelled) 43 = .ok (.iload_n 3, 1) := by decide +kernel
theorem dMo_spelled_44 : decode (mC mMo_spelled) 44 = .ok (.ifCond .le (19), 3) := by decide +kernel
theorem dMo_spelled_47 : decode (mC mMo_spelled) 47 = .ok (.lload 6, 2) := by decide +kernel
theorem dMo_spelled_49 : decode (mC mMo_spelled) 49 = .ok (.ldc2_w 134, 3) := by decide +kernel
theorem dMo_spelled_52 : decode (mC mMo_spelled) 52 = .ok (.lmul, 1) := by decide +kernel
theorem dMo_spelled_53 : decode (mC mMo_spelled) 53 = .ok (.iload_n 3, 1) := by decide +kernel
theorem dMo_spelled_54 : decode (mC mMo_spelled) 54 = .ok (.i2l, 1) := by decide +kernel
theorem dMo_spelled_55 : decode (mC mMo_spelled) 55 = .ok (.ladd, 1) := by decide +kernel
theorem dMo_spelled_56 : decode (mC mMo_spelled) 56 = .ok (.ldc2_w 136, 3) := by decide +kernel
theorem dMo_spelled_59 : decode (mC mMo_spelled) 59 = .ok (.lsub, 1) := by decide +kernel
theorem dMo_spelled_60 : decode (mC mMo_spelled) 60 = .ok (.goto (5), 3) := by decide +kernel
theorem dMo_spelled_63 : decode (mC mMo_spelled) 63 = .ok (.lload 6, 2) := by decide +kernel
theorem dMo_spelled_65 : decode (mC mMo_spelled) 65 = .ok (.lstore 6, 2) := by decide +kernel
theorem dMo_spelled_67 : decode (mC mMo_spelled) 67 = .ok (.iload 4, 2) := by decide +kernel
theorem dMo_spelled_69 : decode (mC mMo_spelled) 69 = .ok (.ifCond .le (20), 3) := by decide +kernel
theorem dMo_spelled_72 : decode (mC mMo_spelled) 72 = .ok (.lload 6, 2) := by decide +kernel
theorem dMo_spelled_74 : decode (mC mMo_spelled) 74 = .ok (.ldc2_w 134, 3) := by decide +kernel
theorem dMo_spelled_77 : decode (mC mMo_spelled) 77 = .ok (.lmul, 1) := by decide +kernel
theorem dMo_spelled_78 : decode (mC mMo_spelled) 78 = .ok (.iload 4, 2) := by decide +kernel
theorem dMo_spelled_80 : decode (mC mMo_spelled) 80 = .ok (.i2l, 1) := by decide +kernel
theorem dMo_spelled_81 : decode (mC mMo_spelled) 81 = .ok (.ladd, 1) := by decide +kernel
theorem dMo_spelled_82 : decode (mC mMo_spelled) 82 = .ok (.ldc2_w 136, 3) := by decide +kernel
theorem dMo_spelled_85 : decode (mC mMo_spelled) 85 = .ok (.lsub, 1) := by decide +kernel
theorem dMo_spelled_86 : decode (mC mMo_spelled) 86 = .ok (.goto (5), 3) := by decide +kernel
theorem dMo_spelled_89 : decode (mC mMo_spelled) 89 = .ok (.lload 6, 2) := by decide +kernel
theorem dMo_spelled_91 : decode (mC mMo_spelled) 91 = .ok (.lstore 6, 2) := by decide +kernel
theorem dMo_spelled_93 : decode (mC mMo_spelled) 93 = .ok (.iload 5, 2) := by decide +kernel
theorem dMo_spelled_95 : decode (mC mMo_spelled) 95 = .ok (.ifCond .le (20), 3) := by decide +kernel
theorem dMo_spelled_98 : decode (mC mMo_spelled) 98 = .ok (.lload 6, 2) := by decide +kernel
theorem dMo_spelled_100 : decode (mC mMo_spelled) 100 = .ok (.ldc2_w 134, 3) := by decide +kernel
theorem dMo_spelled_103 : decode (mC mMo_spelled) 103 = .ok (.lmul, 1) := by decide +kernel
theorem dMo_spelled_104 : decode (mC mMo_spelled) 104 = .ok (.iload 5, 2) := by decide +kernel
theorem dMo_spelled_106 : decode (mC mMo_spelled) 106 = .ok (.i2l, 1) := by decide +kernel
theorem dMo_spelled_107 : decode (mC mMo_spelled) 107 = .ok (.ladd, 1) := by decide +kernel
theorem dMo_spelled_108 : decode (mC mMo_spelled) 108 = .ok (.ldc2_w 136, 3) := by decide +kernel
theorem dMo_spelled_111 : decode (mC mMo_spelled) 111 = .ok (.lsub, 1) := by decide +kernel
theorem dMo_spelled_112 : decode (mC mMo_spelled) 112 = .ok (.goto (5), 3) := by decide +kernel
theorem dMo_spelled_115 : decode (mC mMo_spelled) 115 = .ok (.lload 6, 2) := by decide +kernel
theorem dMo_spelled_117 : decode (mC mMo_spelled) 117 = .ok (.lreturn, 1) := by decide +kernel
theorem bMo_spelled_0 {E : mEn} {d : Nat} {σ : mSt} {Q : mPost} {a0 : Int32} {a1 : Int32} {a2 : Int32} {a3 : Int32} {a4 : Int32} {a5 : Int32} {u6 : Value} {u7 : Value} : WP E d mMo_spelled 0 [.int a0, .int a1, .int a2, .int a3, .int a4, .int a5, u6, u7] [] σ Q = (if a2 ≤ 0 then WP E d mMo_spelled 39 [.int a0, .int a1, .int a2, .int a3, .int a4, .int a5, .long (((((a0.toInt64) - (96)) * (32)) + (a1.toInt64)) - (96)), uu] [] σ Q else WP E d mMo_spelled 23 [.int a0, .int a1, .int a2, .int a3, .int a4, .int a5, .long (((((a0.toInt64) - (96)) * (32)) + (a1.toInt64)) - (96)), uu] [] σ Q) := (w_iload_n dMo_spelled_0 rfl).trans ((w_i2l dMo_spelled_1).trans ((w_ldc2_w dMo_spelled_2 rz11_136).trans ((w_lsub dMo_spelled_5).trans ((w_ldc2_w dMo_spelled_6 rz11_134).trans ((w_lmul dMo_spelled_9).trans ((w_iload_n dMo_spelled_10 rfl).trans ((w_i2l dMo_spelled_11).trans ((w_ladd dMo_spelled_12).trans ((w_ldc2_w dMo_spelled_13 rz11_136).trans ((w_lsub dMo_spelled_16).trans ((w_lstore (ls' := [.int a0, .int a1, .int a2, .int a3, .int a4, .int a5, .long (((((a0.toInt64) - (96)) * (32)) + (a1.toInt64)) - (96)), uu]) dMo_spelled_17 (Nat.le_of_ble_eq_true rfl) rfl).trans ((w_iload_n dMo_spelled_19 rfl).trans (w_ifle (t := 39) dMo_spelled_20 (by decide))))))))))))))
theorem bMo_spelled_23 {E : mEn} {d : Nat} {σ : mSt} {Q : mPost} {a0 : Int32} {a1 : Int32} {a2 : Int32} {a3 : Int32} {a4 : Int32} {a5 : Int32} {j6 : Int64} : WP E d mMo_spelled 23 [.int a0, .int a1, .int a2, .int a3, .int a4, .int a5, .long j6, uu] [] σ Q = WP E d mMo_spelled 41 [.int a0, .int a1, .int a2, .int a3, .int a4, .int a5, .long j6, uu] [.long (((j6 * (32)) + (a2.toInt64)) - (96))] σ Q := (w_lload dMo_spelled_23 rfl).trans ((w_ldc2_w dMo_spelled_25 rz11_134).trans ((w_lmul dMo_spelled_28).trans ((w_iload_n dMo_spelled_29 rfl).trans ((w_i2l dMo_spelled_30).trans ((w_ladd dMo_spelled_31).trans ((w_ldc2_w dMo_spelled_32 rz11_136).trans ((w_lsub dMo_spelled_35).trans (w_goto (t := 41) dMo_spelled_36 (by decide)))))))))
theorem bMo_spelled_39 {E : mEn} {d : Nat} {σ : mSt} {Q : mPost} {a0 : Int32} {a1 : Int32} {a2 : Int32} {a3 : Int32} {a4 : Int32} {a5 : Int32} {j6 : Int64} : WP E d mMo_spelled 39 [.int a0, .int a1, .int a2, .int a3, .int a4, .int a5, .long j6, uu] [] σ Q = WP E d mMo_spelled 41 [.int a0, .int a1, .int a2, .int a3, .int a4, .int a5, .long j6, uu] [.long j6] σ Q := w_lload dMo_spelled_39 rfl
theorem bMo_spelled_41 {E : mEn} {d : Nat} {σ : mSt} {Q : mPost} {a0 : Int32} {a1 : Int32} {a2 : Int32} {a3 : Int32} {a4 : Int32} {a5 : Int32} {j6 : Int64} {q0 : Int64} : WP E d mMo_spelled 41 [.int a0, .int a1, .int a2, .int a3, .int a4, .int a5, .long j6, uu] [.long q0] σ Q = (if a3 ≤ 0 then WP E d mMo_spelled 63 [.int a0, .int a1, .int a2, .int a3, .int a4, .int a5, .long q0, uu] [] σ Q else WP E d mMo_spelled 47 [.int a0, .int a1, .int a2, .int a3, .int a4, .int a5, .long q0, uu] [] σ Q) := (w_lstore (ls' := [.int a0, .int a1, .int a2, .int a3, .int a4, .int a5, .long q0, uu]) dMo_spelled_41 (Nat.le_of_ble_eq_true rfl) rfl).trans ((w_iload_n dMo_spelled_43 rfl).trans (w_ifle (t := 63) dMo_spelled_44 (by decide)))
theorem bMo_spelled_47 {E : mEn} {d : Nat} {σ : mSt} {Q : mPost} {a0 : Int32} {a1 : Int32} {a2 : Int32} {a3 : Int32} {a4 : Int32} {a5 : Int32} {j6 : Int64} : WP E d mMo_spelled 47 [.int a0, .int a1, .int a2, .int a3, .int a4, .int a5, .long j6, uu] [] σ Q = WP E d mMo_spelled 65 [.int a0, .int a1, .int a2, .int a3, .int a4, .int a5, .long j6, uu] [.long (((j6 * (32)) + (a3.toInt64)) - (96))] σ Q := (w_lload dMo_spelled_47 rfl).trans ((w_ldc2_w dMo_spelled_49 rz11_134).trans ((w_lmul dMo_spelled_52).trans ((w_iload_n dMo_spelled_53 rfl).trans ((w_i2l dMo_spelled_54).trans ((w_ladd dMo_spelled_55).trans ((w_ldc2_w dMo_spelled_56 rz11_136).trans ((w_lsub dMo_spelled_59).trans (w_goto (t := 65) dMo_spelled_60 (by decide)))))))))
theorem bMo_spelled_63 {E : mEn} {d : Nat} {σ : mSt} {Q : mPost} {a0 : Int32} {a1 : Int32} {a2 : Int32} {a3 : Int32} {a4 : Int32} {a5 : Int32} {j6 : Int64} : WP E d mMo_spelled 63 [.int a0, .int a1, .int a2, .int a3, .int a4, .int a5, .long j6, uu] [] σ Q = WP E d mMo_spelled 65 [.int a0, .int a1, .int a2, .int a3, .int a4, .int a5, .long j6, uu] [.long j6] σ Q := w_lload dMo_spelled_63 rfl
theorem bMo_spelled_65 {E : mEn} {d : Nat} {σ : mSt} {Q : mPost} {a0 : Int32} {a1 : Int32} {a2 : Int32} {a3 : Int32} {a4 : Int32} {a5 : Int32} {j6 : Int64} {q0 : Int64} : WP E d mMo_spelled 65 [.int a0, .int a1, .int a2, .int a3, .int a4, .int a5, .long j6, uu] [.long q0] σ Q = (if a4 ≤ 0 then WP E d mMo_spelled 89 [.int a0, .int a1, .int a2, .int a3, .int a4, .int a5, .long q0, uu] [] σ Q else WP E d mMo_spelled 72 [.int a0, .int a1, .int a2, .int a3, .int a4, .int a5, .long q0, uu] [] σ Q) := (w_lstore (ls' := [.int a0, .int a1, .int a2, .int a3, .int a4, .int a5, .long q0, uu]) dMo_spelled_65 (Nat.le_of_ble_eq_true rfl) rfl).trans ((w_iload dMo_spelled_67 rfl).trans (w_ifle (t := 89) dMo_spelled_69 (by decide)))
theorem bMo_spelled_72 {E : mEn} {d : Nat} {σ : mSt} {Q : mPost} {a0 : Int32} {a1 : Int32} {a2 : Int32} {a3 : Int32} {a4 : Int32} {a5 : Int32} {j6 : Int64} : WP E d mMo_spelled 72 [.int a0, .int a1, .int a2, .int a3, .int a4, .int a5, .long j6, uu] [] σ Q = WP E d mMo_spelled 91 [.int a0, .int a1, .int a2, .int a3, .int a4, .int a5, .long j6, uu] [.long (((j6 * (32)) + (a4.toInt64)) - (96))] σ Q := (w_lload dMo_spelled_72 rfl).trans ((w_ldc2_w dMo_spelled_74 rz11_134).trans ((w_lmul dMo_spelled_77).trans ((w_iload dMo_spelled_78 rfl).trans ((w_i2l dMo_spelled_80).trans ((w_ladd dMo_spelled_81).trans ((w_ldc2_w dMo_spelled_82 rz11_136).trans ((w_lsub dMo_spelled_85).trans (w_goto (t := 91) dMo_spelled_86 (by decide)))))))))
theorem bMo_spelled_89 {E : mEn} {d : Nat} {σ : mSt} {Q : mPost} {a0 : Int32} {a1 : Int32} {a2 : Int32} {a3 : Int32} {a4 : Int32} {a5 : Int32} {j6 : Int64} : WP E d mMo_spelled 89 [.int a0, .int a1, .int a2, .int a3, .int a4, .int a5, .long j6, uu] [] σ Q = WP E d mMo_spelled 91 [.int a0, .int a1, .int a2, .int a3, .int a4, .int a5, .long j6, uu] [.long j6] σ Q := w_lload dMo_spelled_89 rfl
theorem bMo_spelled_91 {E : mEn} {d : Nat} {σ : mSt} {Q : mPost} {a0 : Int32} {a1 : Int32} {a2 : Int32} {a3 : Int32} {a4 : Int32} {a5 : Int32} {j6 : Int64} {q0 : Int64} : WP E d mMo_spelled 91 [.int a0, .int a1, .int a2, .int a3, .int a4, .int a5, .long j6, uu] [.long q0] σ Q = (if a5 ≤ 0 then WP E d mMo_spelled 115 [.int a0, .int a1, .int a2, .int a3, .int a4, .int a5, .long q0, uu] [] σ Q else WP E d mMo_spelled 98 [.int a0, .int a1, .int a2, .int a3, .int a4, .int a5, .long q0, uu] [] σ Q) := (w_lstore (ls' := [.int a0, .int a1, .int a2, .int a3, .int a4, .int a5, .long q0, uu]) dMo_spelled_91 (Nat.le_of_ble_eq_true rfl) rfl).trans ((w_iload dMo_spelled_93 rfl).trans (w_ifle (t := 115) dMo_spelled_95 (by decide)))
theorem bMo_spelled_98 {E : mEn} {d : Nat} {σ : mSt} {Q : mPost} {a0 : Int32} {a1 : Int32} {a2 : Int32} {a3 : Int32} {a4 : Int32} {a5 : Int32} {j6 : Int64} : WP E d mMo_spelled 98 [.int a0, .int a1, .int a2, .int a3, .int a4, .int a5, .long j6, uu] [] σ Q = WP E d mMo_spelled 117 [.int a0, .int a1, .int a2, .int a3, .int a4, .int a5, .long j6, uu] [.long (((j6 * (32)) + (a5.toInt64)) - (96))] σ Q := (w_lload dMo_spelled_98 rfl).trans ((w_ldc2_w dMo_spelled_100 rz11_134).trans ((w_lmul dMo_spelled_103).trans ((w_iload dMo_spelled_104 rfl).trans ((w_i2l dMo_spelled_106).trans ((w_ladd dMo_spelled_107).trans ((w_ldc2_w dMo_spelled_108 rz11_136).trans ((w_lsub dMo_spelled_111).trans (w_goto (t := 117) dMo_spelled_112 (by decide)))))))))
theorem bMo_spelled_115 {E : mEn} {d : Nat} {σ : mSt} {Q : mPost} {a0 : Int32} {a1 : Int32} {a2 : Int32} {a3 : Int32} {a4 : Int32} {a5 : Int32} {j6 : Int64} : WP E d mMo_spelled 115 [.int a0, .int a1, .int a2, .int a3, .int a4, .int a5, .long j6, uu] [] σ Q = WP E d mMo_spelled 117 [.int a0, .int a1, .int a2, .int a3, .int a4, .int a5, .long j6, uu] [.long j6] σ Q := w_lload dMo_spelled_115 rfl
theorem bMo_spelled_117 {E : mEn} {d : Nat} {σ : mSt} {Q : mPost} {a0 : Int32} {a1 : Int32} {a2 : Int32} {a3 : Int32} {a4 : Int32} {a5 : Int32} {j6 : Int64} {q0 : Int64} : WP E d mMo_spelled 117 [.int a0, .int a1, .int a2, .int a3, .int a4, .int a5, .long j6, uu] [.long q0] σ Q = Q (some (.long q0)) σ := w_lret dMo_spelled_117 rfl
theorem dMo_isWord_0 : decode (mC mMo_isWord) 0 = .ok (.aload_n 0, 1) := by decide +kernel
theorem dMo_isWord_1 : decode (mC mMo_isWord) 1 = .ok (.getfield 125, 3) := by decide +kernel
theorem dMo_isWord_4 : decode (mC mMo_isWord) 4 = .ok (.iconst (1), 1) := by decide +kernel
theorem dMo_isWord_5 : decode (mC mMo_isWord) 5 = .ok (.if_icmp .ne (16), 3) := by decide +kernel
theorem dMo_isWord_8 : decode (mC mMo_isWord) 8 = .ok (.aload_n 0, 1) := by decide +kernel
theorem dMo_isWord_9 : decode (mC mMo_isWord) 9 = .ok (.getfield 131, 3) := by decide +kernel
theorem dMo_isWord_12 : decode (mC mMo_isWord) 12 = .ok (.lload_n 1, 1) := by decide +kernel
theorem dMo_isWord_13 : decode (mC mMo_isWord) 13 = .ok (.lcmp, 1) := by decide +kernel
theorem dMo_isWord_14 : decode (mC mMo_isWord) 14 = .ok (.ifCond .ne (7), 3) := by decide +kernel
theorem dMo_isWord_17 : decode (mC mMo_isWord) 17 = .ok (.iconst (1), 1) := by decide +kernel
theorem dMo_isWord_18 : decode (mC mMo_isWord) 18 = .ok (.goto (4), 3) := by decide +kernel
theorem dMo_isWord_21 : decode (mC mMo_isWord) 21 = .ok (.iconst (0), 1) := by decide +kernel
theorem dMo_isWord_22 : decode (mC mMo_isWord) 22 = .ok (.ireturn, 1) := by decide +kernel
theorem bMo_isWord_0 {E : mEn} {d : Nat} {σ : mSt} {Q : mPost} {j1 : Int64} : WP E d mMo_isWord 0 [.ref 166, .long j1, uu] [] σ Q = (if ¬ (σ.1 166 14) = 1 then WP E d mMo_isWord 21 [.ref 166, .long j1, uu] [] σ Q else WP E d mMo_isWord 8 [.ref 166, .long j1, uu] [] σ Q) := (w_aload_n dMo_isWord_0 rfl).trans ((w_geti dMo_isWord_1 rz11_125 sh_166 rfl).trans ((w_iconst (v := 1) dMo_isWord_4 rfl).trans (w_icmpne (t := 21) dMo_isWord_5 (by decide))))
theorem bMo_isWord_8 {E : mEn} {d : Nat} {σ : mSt} {Q : mPost} {j1 : Int64} : WP E d mMo_isWord 8 [.ref 166, .long j1, uu] [] σ Q = (if ¬ (lg_cmp (σ.2 166 19) j1) = 0 then WP E d mMo_isWord 21 [.ref 166, .long j1, uu] [] σ Q else WP E d mMo_isWord 17 [.ref 166, .long j1, uu] [] σ Q) := (w_aload_n dMo_isWord_8 rfl).trans ((w_getl dMo_isWord_9 rz11_131 sh_166 rfl).trans ((w_lload_n dMo_isWord_12 rfl).trans ((w_lcmp dMo_isWord_13).trans (w_ifne (t := 21) dMo_isWord_14 (by decide)))))
theorem bMo_isWord_17 {E : mEn} {d : Nat} {σ : mSt} {Q : mPost} {j1 : Int64} : WP E d mMo_isWord 17 [.ref 166, .long j1, uu] [] σ Q = WP E d mMo_isWord 22 [.ref 166, .long j1, uu] [.int 1] σ Q := (w_iconst (v := 1) dMo_isWord_17 rfl).trans (w_goto (t := 22) dMo_isWord_18 (by decide))
theorem bMo_isWord_21 {E : mEn} {d : Nat} {σ : mSt} {Q : mPost} {j1 : Int64} : WP E d mMo_isWord 21 [.ref 166, .long j1, uu] [] σ Q = WP E d mMo_isWord 22 [.ref 166, .long j1, uu] [.int 0] σ Q := w_iconst (v := 0) dMo_isWord_21 rfl
theorem bMo_isWord_22 {E : mEn} {d : Nat} {σ : mSt} {Q : mPost} {j1 : Int64} {s0 : Int32} (hz0 : s0 = 0 ∨ s0 = 1) : WP E d mMo_isWord 22 [.ref 166, .long j1, uu] [.int s0] σ Q = Q (some (.int s0)) σ := w_zret dMo_isWord_22 rfl hz0
theorem dMo_readPerson_0 : decode (mC mMo_readPerson) 0 = .ok (.aload_n 0, 1) := by decide +kernel
theorem dMo_readPerson_1 : decode (mC mMo_readPerson) 1 = .ok (.getfield 35, 3) := by decide +kernel
theorem dMo_readPerson_4 : decode (mC mMo_readPerson) 4 = .ok (.sipush (2400), 3) := by decide +kernel
theorem dMo_readPerson_7 : decode (mC mMo_readPerson) 7 = .ok (.iaload, 1) := by decide +kernel
theorem dMo_readPerson_8 : decode (mC mMo_readPerson) 8 = .ok (.istore_n 1, 1) := by decide +kernel
theorem dMo_readPerson_9 : decode (mC mMo_readPerson) 9 = .ok (.iload_n 1, 1) := by decide +kernel
theorem dMo_readPerson_10 : decode (mC mMo_readPerson) 10 = .ok (.bipush (8), 2) := by decide +kernel
theorem dMo_readPerson_12 : decode (mC mMo_readPerson) 12 = .ok (.if_icmp .ne (13), 3) := by decide +kernel
theorem dMo_readPerson_15 : decode (mC mMo_readPerson) 15 = .ok (.aload_n 0, 1) := by decide +kernel
theorem dMo_readPerson_16 : decode (mC mMo_readPerson) 16 = .ok (.bipush (6), 2) := by decide +kernel
theorem dMo_readPerson_18 : decode (mC mMo_readPerson) 18 = .ok (.aload_n 0, 1) := by decide +kernel
theorem dMo_readPerson_19 : decode (mC mMo_readPerson) 19 = .ok (.getfield 119, 3) := by decide +kernel
theorem dMo_readPerson_22 : decode (mC mMo_readPerson) 22 = .ok (.invokevirtual 225, 3) := by decide +kernel
theorem dMo_readPerson_25 : decode (mC mMo_readPerson) 25 = .ok (.aload_n 0, 1) := by decide +kernel
theorem dMo_readPerson_26 : decode (mC mMo_readPerson) 26 = .ok (.getfield 219, 3) := by decide +kernel
theorem dMo_readPerson_29 : decode (mC mMo_readPerson) 29 = .ok (.ifCond .le (4), 3) := by decide +kernel
theorem dMo_readPerson_32 : decode (mC mMo_readPerson) 32 = .ok (.return_, 1) := by decide +kernel
theorem dMo_readPerson_33 : decode (mC mMo_readPerson) 33 = .ok (.aload_n 0, 1) := by decide +kernel
theorem dMo_readPerson_34 : decode (mC mMo_readPerson) 34 = .ok (.iload_n 1, 1) := by decide +kernel
theorem dMo_readPerson_35 : decode (mC mMo_readPerson) 35 = .ok (.invokevirtual 268, 3) := by decide +kernel
theorem dMo_readPerson_38 : decode (mC mMo_readPerson) 38 = .ok (.aload_n 0, 1) := by decide +kernel
theorem dMo_readPerson_39 : decode (mC mMo_readPerson) 39 = .ok (.getfield 219, 3) := by decide +kernel
theorem dMo_readPerson_42 : decode (mC mMo_readPerson) 42 = .ok (.ifCond .ne (32), 3) := by decide +kernel
theorem dMo_readPerson_45 : decode (mC mMo_readPerson) 45 = .ok (.aload_n 0, 1) := by decide +kernel
theorem dMo_readPerson_46 : decode (mC mMo_readPerson) 46 = .ok (.invokevirtual 167, 3) := by decide +kernel
theorem dMo_readPerson_49 : decode (mC mMo_readPerson) 49 = .ok (.ifCond .eq (25), 3) := by decide +kernel
theorem dMo_readPerson_52 : decode (mC mMo_readPerson) 52 = .ok (.aload_n 0, 1) := by decide +kernel
theorem dMo_readPerson_53 : decode (mC mMo_readPerson) 53 = .ok (.invokevirtual 229, 3) := by decide +kernel
theorem dMo_readPerson_56 : decode (mC mMo_readPerson) 56 = .ok (.aload_n 0, 1) := by decide +kernel
theorem dMo_readPerson_57 : decode (mC mMo_readPerson) 57 = .ok (.getfield 35, 3) := by decide +kernel
theorem dMo_readPerson_60 : decode (mC mMo_readPerson) 60 = .ok (.sipush (2406), 3) := by decide +kernel
theorem dMo_readPerson_63 : decode (mC mMo_readPerson) 63 = .ok (.iload_n 1, 1) := by decide +kernel
theorem dMo_readPerson_64 : decode (mC mMo_readPerson) 64 = .ok (.iadd, 1) := by decide +kernel
theorem dMo_readPerson_65 : decode (mC mMo_readPerson) 65 = .ok (.aload_n 0, 1) := by decide +kernel
theorem dMo_readPerson_66 : decode (mC mMo_readPerson) 66 = .ok (.iconst (0), 1) := by decide +kernel
theorem dMo_readPerson_67 : decode (mC mMo_readPerson) 67 = .ok (.sipush (999), 3) := by decide +kernel
theorem dMo_readPerson_70 : decode (mC mMo_readPerson) 70 = .ok (.invokevirtual 271, 3) := by decide +kernel
theorem dMo_readPerson_73 : decode (mC mMo_readPerson) 73 = .ok (.iastore, 1) := by decide +kernel
theorem dMo_readPerson_74 : decode (mC mMo_readPerson) 74 = .ok (.aload_n 0, 1) := by decide +kernel
theorem dMo_readPerson_75 : decode (mC mMo_readPerson) 75 = .ok (.getfield 219, 3) := by decide +kernel
theorem dMo_readPerson_78 : decode (mC mMo_readPerson) 78 = .ok (.ifCond .ne (15), 3) := by decide +kernel
theorem dMo_readPerson_81 : decode (mC mMo_readPerson) 81 = .ok (.aload_n 0, 1) := by decide +kernel
theorem dMo_readPerson_82 : decode (mC mMo_readPerson) 82 = .ok (.getfield 35, 3) := by decide +kernel
theorem dMo_readPerson_85 : decode (mC mMo_readPerson) 85 = .ok (.sipush (2400), 3) := by decide +kernel
theorem dMo_readPerson_88 : decode (mC mMo_readPerson) 88 = .ok (.dup2, 1) := by decide +kernel
theorem dMo_readPerson_89 : decode (mC mMo_readPerson) 89 = .ok (.iaload, 1) := by decide +kernel
theorem dMo_readPerson_90 : decode (mC mMo_readPerson) 90 = .ok (.iconst (1), 1) := by decide +kernel
theorem dMo_readPerson_91 : decode (mC mMo_readPerson) 91 = .ok (.iadd, 1) := by decide +kernel
theorem dMo_readPerson_92 : decode (mC mMo_readPerson) 92 = .ok (.iastore, 1) := by decide +kernel
theorem dMo_readPerson_93 : decode (mC mMo_readPerson) 93 = .ok (.return_, 1) := by decide +kernel
theorem bMo_readPerson_0 {E : mEn} {d : Nat} {σ : mSt} {Q : mPost} {u1 : Value} : WP E d mMo_readPerson 0 [.ref 166, u1] [] σ Q = (if mOut (nI 2400) 3000 = true then False else (if ¬ (σ.1 171 2400) = (nI 8) then WP E d mMo_readPerson 25 [.ref 166, .int (σ.1 171 2400)] [] σ Q else WP E d mMo_readPerson 15 [.ref 166, .int (σ.1 171 2400)] [] σ Q)) := (w_aload_n dMo_readPerson_0 rfl).trans ((w_getr (r := 171) dMo_readPerson_1 rz11_35 sh_166 rfl).trans ((w_sipush (v := (nI 2400)) dMo_readPerson_4 rfl).trans ((w_iald dMo_readPerson_7 sh_171 (by decide)).trans (ite_c ((w_istore_n (ls' := [.ref 166, .int (σ.1 171 2400)]) dMo_readPerson_8 (Nat.le_of_ble_eq_true rfl) rfl).trans ((w_iload_n dMo_readPerson_9 rfl).trans ((w_bipush (v := (nI 8)) dMo_readPerson_10 rfl).trans (w_icmpne (t := 25) dMo_readPerson_12 (by decide)))))))))
theorem bMo_readPerson_15 {E : mEn} {d : Nat} {σ : mSt} {Q : mPost} {a1 : Int32} : WP E (d + 1) mMo_readPerson 15 [.ref 166, .int a1] [] σ Q = WP E d mMo_fail 0 [.ref 166, .int (nI 6), .int (σ.1 166 15)] [] σ (fun r σ' => WP E (d + 1) mMo_readPerson 25 [.ref 166, .int a1] (r.toList ++ []) σ' Q) := (w_aload_n dMo_readPerson_15 rfl).trans ((w_bipush (v := (nI 6)) dMo_readPerson_16 rfl).trans ((w_aload_n dMo_readPerson_18 rfl).trans ((w_geti dMo_readPerson_19 rz11_119 sh_166 rfl).trans (w_virt (vs := [.int (nI 6), .int (σ.1 166 15)]) (st' := []) (es := [.ref 166, .int (nI 6), .int (σ.1 166 15)]) dMo_readPerson_22 rz11_225 rfl sh_166 rfl rfl rfl (Nat.le_of_ble_eq_true rfl) (Nat.le_of_ble_eq_true rfl) rfl))))
theorem bMo_readPerson_25 {E : mEn} {d : Nat} {σ : mSt} {Q : mPost} {a1 : Int32} : WP E d mMo_readPerson 25 [.ref 166, .int a1] [] σ Q = (if (σ.1 166 12) ≤ 0 then WP E d mMo_readPerson 33 [.ref 166, .int a1] [] σ Q else WP E d mMo_readPerson 32 [.ref 166, .int a1] [] σ Q) := (w_aload_n dMo_readPerson_25 rfl).trans ((w_geti dMo_readPerson_26 rz11_219 sh_166 rfl).trans (w_ifle (t := 33) dMo_readPerson_29 (by decide)))
theorem bMo_readPerson_32 {E : mEn} {d : Nat} {σ : mSt} {Q : mPost} {a1 : Int32} : WP E d mMo_readPerson 32 [.ref 166, .int a1] [] σ Q = Q none σ := w_vret dMo_readPerson_32 rfl
theorem bMo_readPerson_33 {E : mEn} {d : Nat} {σ : mSt} {Q : mPost} {a1 : Int32} : WP E (d + 1) mMo_readPerson 33 [.ref 166, .int a1] [] σ Q = WP E d mMo_readNew 0 [.ref 166, .int a1] [] σ (fun r σ' => WP E (d + 1) mMo_readPerson 38 [.ref 166, .int a1] (r.toList ++ []) σ' Q) := (w_aload_n dMo_readPerson_33 rfl).trans ((w_iload_n dMo_readPerson_34 rfl).trans (w_virt (vs := [.int a1]) (st' := []) (es := [.ref 166, .int a1]) dMo_readPerson_35 rz11_268 rfl sh_166 rfl rfl rfl (Nat.le_of_ble_eq_true rfl) (Nat.le_of_ble_eq_true rfl) rfl))
theorem bMo_readPerson_38 {E : mEn} {d : Nat} {σ : mSt} {Q : mPost} {a1 : Int32} : WP E d mMo_readPerson 38 [.ref 166, .int a1] [] σ Q = (if ¬ (σ.1 166 12) = 0 then WP E d mMo_readPerson 74 [.ref 166, .int a1] [] σ Q else WP E d mMo_readPerson 45 [.ref 166, .int a1] [] σ Q) := (w_aload_n dMo_readPerson_38 rfl).trans ((w_geti dMo_readPerson_39 rz11_219 sh_166 rfl).trans (w_ifne (t := 74) dMo_readPerson_42 (by decide)))
theorem bMo_readPerson_45 {E : mEn} {d : Nat} {σ : mSt} {Q : mPost} {a1 : Int32} : WP E (d + 1) mMo_readPerson 45 [.ref 166, .int a1] [] σ Q = WP E d mMo_isPurse 0 [.ref 166] [] σ (fun r σ' => WP E (d + 1) mMo_readPerson 49 [.ref 166, .int a1] (r.toList ++ []) σ' Q) := (w_aload_n dMo_readPerson_45 rfl).trans (w_virt (vs := []) (st' := []) (es := [.ref 166]) dMo_readPerson_46 rz11_167 rfl sh_166 rfl rfl rfl (Nat.le_of_ble_eq_true rfl) (Nat.le_of_ble_eq_true rfl) rfl)
theorem bMo_readPerson_49 {E : mEn} {d : Nat} {σ : mSt} {Q : mPost} {a1 : Int32} {s0 : Int32} : WP E d mMo_readPerson 49 [.ref 166, .int a1] [.int s0] σ Q = (if s0 = 0 then WP E d mMo_readPerson 74 [.ref 166, .int a1] [] σ Q else WP E d mMo_readPerson 52 [.ref 166, .int a1] [] σ Q) := w_ifeq (t := 74) dMo_readPerson_49 (by decide)
theorem bMo_readPerson_52 {E : mEn} {d : Nat} {σ : mSt} {Q : mPost} {a1 : Int32} : WP E (d + 1) mMo_readPerson 52 [.ref 166, .int a1] [] σ Q = WP E d mMo_next 0 [.ref 166, uu] [] σ (fun r σ' => WP E (d + 1) mMo_readPerson 56 [.ref 166, .int a1] (r.toList ++ []) σ' Q) := (w_aload_n dMo_readPerson_52 rfl).trans (w_virt (vs := []) (st' := []) (es := [.ref 166, uu]) dMo_readPerson_53 rz11_229 rfl sh_166 rfl rfl rfl (Nat.le_of_ble_eq_true rfl) (Nat.le_of_ble_eq_true rfl) rfl)
theorem bMo_readPerson_56 {E : mEn} {d : Nat} {σ : mSt} {Q : mPost} {a1 : Int32} : WP E (d + 1) mMo_readPerson 56 [.ref 166, .int a1] [] σ Q = WP E d mMo_count 0 [.ref 166, .int 0, .int (nI 999), uu] [] σ (fun r σ' => WP E (d + 1) mMo_readPerson 73 [.ref 166, .int a1] (r.toList ++ [.int ((nI 2406) + a1), .ref 171]) σ' Q) := (w_aload_n dMo_readPerson_56 rfl).trans ((w_getr (r := 171) dMo_readPerson_57 rz11_35 sh_166 rfl).trans ((w_sipush (v := (nI 2406)) dMo_readPerson_60 rfl).trans ((w_iload_n dMo_readPerson_63 rfl).trans ((w_iadd dMo_readPerson_64).trans ((w_aload_n dMo_readPerson_65 rfl).trans ((w_iconst (v := 0) dMo_readPerson_66 rfl).trans ((w_sipush (v := (nI 999)) dMo_readPerson_67 rfl).trans (w_virt (vs := [.int 0, .int (nI 999)]) (st' := [.int ((nI 2406) + a1), .ref 171]) (es := [.ref 166, .int 0, .int (nI 999), uu]) dMo_readPerson_70 rz11_271 rfl sh_166 rfl rfl rfl (Nat.le_of_ble_eq_true rfl) (Nat.le_of_ble_eq_true rfl) rfl))))))))
theorem bMo_readPerson_73 {E : mEn} {d : Nat} {σ : mSt} {Q : mPost} {a1 : Int32} {s0 : Int32} {s1 : Int32} : WP E d mMo_readPerson 73 [.ref 166, .int a1] [.int s0, .int s1, .ref 171] σ Q = (if mOut s1 3000 = true then False else WP E d mMo_readPerson 74 [.ref 166, .int a1] [] (sI σ 171 s1.toNatClampNeg s0) Q) := (w_iast dMo_readPerson_73 sh_171).trans (ite_c (rfl))
theorem bMo_readPerson_74 {E : mEn} {d : Nat} {σ : mSt} {Q : mPost} {a1 : Int32} : WP E d mMo_readPerson 74 [.ref 166, .int a1] [] σ Q = (if ¬ (σ.1 166 12) = 0 then WP E d mMo_readPerson 93 [.ref 166, .int a1] [] σ Q else WP E d mMo_readPerson 81 [.ref 166, .int a1] [] σ Q) := (w_aload_n dMo_readPerson_74 rfl).trans ((w_geti dMo_readPerson_75 rz11_219 sh_166 rfl).trans (w_ifne (t := 93) dMo_readPerson_78 (by decide)))
theorem bMo_readPerson_81 {E : mEn} {d : Nat} {σ : mSt} {Q : mPost} {a1 : Int32} : WP E d mMo_readPerson 81 [.ref 166, .int a1] [] σ Q = (if mOut (nI 2400) 3000 = true then False else (if mOut (nI 2400) 3000 = true then False else WP E d mMo_readPerson 93 [.ref 166, .int a1] [] (sI σ 171 2400 ((σ.1 171 2400) + 1)) Q)) := (w_aload_n dMo_readPerson_81 rfl).trans ((w_getr (r := 171) dMo_readPerson_82 rz11_35 sh_166 rfl).trans ((w_sipush (v := (nI 2400)) dMo_readPerson_85 rfl).trans ((w_dup2 dMo_readPerson_88 rfl rfl).trans ((w_iald dMo_readPerson_89 sh_171 (by decide)).trans (ite_c ((w_iconst (v := 1) dMo_readPerson_90 rfl).trans ((w_iadd dMo_readPerson_91).trans ((w_iast dMo_readPerson_92 sh_171).trans (ite_c (rfl))))))))))
theorem bMo_readPerson_93 {E : mEn} {d : Nat} {σ : mSt} {Q : mPost} {a1 : Int32} : WP E d mMo_readPerson 93 [.ref 166, .int a1] [] σ Q = Q none σ := w_vret dMo_readPerson_93 rfl
theorem dMo_fail_0 : decode (mC mMo_fail) 0 = .ok (.aload_n 0, 1) := by decide +kernel
theorem dMo_fail_1 : decode (mC mMo_fail) 1 = .ok (.getfield 219, 3) := by decide +kernel
theorem dMo_fail_4 : decode (mC mMo_fail) 4 = .ok (.ifCond .le (4), 3) := by decide +kernel
theorem dMo_fail_7 : decode (mC mMo_fail) 7 = .ok (.return_, 1) := by decide +kernel
theorem dMo_fail_8 : decode (mC mMo_fail) 8 = .ok (.aload_n 0, 1) := by decide +kernel
theorem dMo_fail_9 : decode (mC mMo_fail) 9 = .ok (.iload_n 1, 1) := by decide +kernel
theorem dMo_fail_10 : decode (mC mMo_fail) 10 = .ok (.putfield 219, 3) := by decide +kernel
theorem dMo_fail_13 : decode (mC mMo_fail) 13 = .ok (.aload_n 0, 1) := by decide +kernel
theorem dMo_fail_14 : decode (mC mMo_fail) 14 = .ok (.iload_n 2, 1) := by decide +kernel
theorem dMo_fail_15 : decode (mC mMo_fail) 15 = .ok (.putfield 222, 3) := by decide +kernel
theorem dMo_fail_18 : decode (mC mMo_fail) 18 = .ok (.return_, 1) := by decide +kernel
theorem bMo_fail_0 {E : mEn} {d : Nat} {σ : mSt} {Q : mPost} {a1 : Int32} {a2 : Int32} : WP E d mMo_fail 0 [.ref 166, .int a1, .int a2] [] σ Q = (if (σ.1 166 12) ≤ 0 then WP E d mMo_fail 8 [.ref 166, .int a1, .int a2] [] σ Q else WP E d mMo_fail 7 [.ref 166, .int a1, .int a2] [] σ Q) := (w_aload_n dMo_fail_0 rfl).trans ((w_geti dMo_fail_1 rz11_219 sh_166 rfl).trans (w_ifle (t := 8) dMo_fail_4 (by decide)))
theorem bMo_fail_7 {E : mEn} {d : Nat} {σ : mSt} {Q : mPost} {a1 : Int32} {a2 : Int32} : WP E d mMo_fail 7 [.ref 166, .int a1, .int a2] [] σ Q = Q none σ := w_vret dMo_fail_7 rfl
theorem bMo_fail_8 {E : mEn} {d : Nat} {σ : mSt} {Q : mPost} {a1 : Int32} {a2 : Int32} : WP E d mMo_fail 8 [.ref 166, .int a1, .int a2] [] σ Q = Q none (sI (sI σ 166 12 a1) 166 13 a2) := (w_aload_n dMo_fail_8 rfl).trans ((w_iload_n dMo_fail_9 rfl).trans ((w_puti dMo_fail_10 rz11_219 sh_166 rfl rfl rfl).trans ((w_aload_n dMo_fail_13 rfl).trans ((w_iload_n dMo_fail_14 rfl).trans ((w_puti dMo_fail_15 rz11_222 sh_166 rfl rfl rfl).trans (w_vret dMo_fail_18 rfl))))))
theorem dMo_readNew_0 : decode (mC mMo_readNew) 0 = .ok (.aload_n 0, 1) := by decide +kernel
theorem dMo_readNew_1 : decode (mC mMo_readNew) 1 = .ok (.invokevirtual 229, 3) := by decide +kernel
theorem dMo_readNew_4 : decode (mC mMo_readNew) 4 = .ok (.aload_n 0, 1) := by decide +kernel
theorem dMo_readNew_5 : decode (mC mMo_readNew) 5 = .ok (.invokevirtual 246, 3) := by decide +kernel
theorem dMo_readNew_8 : decode (mC mMo_readNew) 8 = .ok (.ifCond .ne (7), 3) := by decide +kernel
theorem dMo_readNew_11 : decode (mC mMo_readNew) 11 = .ok (.aload_n 0, 1) := by decide +kernel
theorem dMo_readNew_12 : decode (mC mMo_readNew) 12 = .ok (.invokevirtual 232, 3) := by decide +kernel
theorem dMo_readNew_15 : decode (mC mMo_readNew) 15 = .ok (.aload_n 0, 1) := by decide +kernel
theorem dMo_readNew_16 : decode (mC mMo_readNew) 16 = .ok (.getfield 219, 3) := by decide +kernel
theorem dMo_readNew_19 : decode (mC mMo_readNew) 19 = .ok (.ifCond .ne (36), 3) := by decide +kernel
theorem dMo_readNew_22 : decode (mC mMo_readNew) 22 = .ok (.aload_n 0, 1) := by decide +kernel
theorem dMo_readNew_23 : decode (mC mMo_readNew) 23 = .ok (.iconst (4), 1) := by decide +kernel
theorem dMo_readNew_24 : decode (mC mMo_readNew) 24 = .ok (.invokevirtual 249, 3) := by decide +kernel
theorem dMo_readNew_27 : decode (mC mMo_readNew) 27 = .ok (.ifCond .ge (19), 3) := by decide +kernel
theorem dMo_readNew_30 : decode (mC mMo_readNew) 30 = .ok (.aload_n 0, 1) := by decide +kernel
theorem dMo_readNew_31 : decode (mC mMo_readNew) 31 = .ok (.iconst (4), 1) := by decide +kernel
theorem dMo_readNew_32 : decode (mC mMo_readNew) 32 = .ok (.invokevirtual 252, 3) := by decide +kernel
theorem dMo_readNew_35 : decode (mC mMo_readNew) 35 = .ok (.ifCond .ge (11), 3) := by decide +kernel
theorem dMo_readNew_38 : decode (mC mMo_readNew) 38 = .ok (.aload_n 0, 1) := by decide +kernel
theorem dMo_readNew_39 : decode (mC mMo_readNew) 39 = .ok (.iconst (4), 1) := by decide +kernel
theorem dMo_readNew_40 : decode (mC mMo_readNew) 40 = .ok (.invokevirtual 255, 3) := by decide +kernel
theorem dMo_readNew_43 : decode (mC mMo_readNew) 43 = .ok (.ifCond .lt (12), 3) := by decide +kernel
theorem dMo_readNew_46 : decode (mC mMo_readNew) 46 = .ok (.aload_n 0, 1) := by decide +kernel
theorem dMo_readNew_47 : decode (mC mMo_readNew) 47 = .ok (.iconst (3), 1) := by decide +kernel
theorem dMo_readNew_48 : decode (mC mMo_readNew) 48 = .ok (.aload_n 0, 1) := by decide +kernel
theorem dMo_readNew_49 : decode (mC mMo_readNew) 49 = .ok (.getfield 119, 3) := by decide +kernel
theorem dMo_readNew_52 : decode (mC mMo_readNew) 52 = .ok (.invokevirtual 225, 3) := by decide +kernel
theorem dMo_readNew_55 : decode (mC mMo_readNew) 55 = .ok (.aload_n 0, 1) := by decide +kernel
theorem dMo_readNew_56 : decode (mC mMo_readNew) 56 = .ok (.getfield 219, 3) := by decide +kernel
theorem dMo_readNew_59 : decode (mC mMo_readNew) 59 = .ok (.ifCond .le (4), 3) := by decide +kernel
theorem dMo_readNew_62 : decode (mC mMo_readNew) 62 = .ok (.return_, 1) := by decide +kernel
theorem dMo_readNew_63 : decode (mC mMo_readNew) 63 = .ok (.aload_n 0, 1) := by decide +kernel
theorem dMo_readNew_64 : decode (mC mMo_readNew) 64 = .ok (.getfield 41, 3) := by decide +kernel
theorem dMo_readNew_67 : decode (mC mMo_readNew) 67 = .ok (.bipush (80), 2) := by decide +kernel
theorem dMo_readNew_69 : decode (mC mMo_readNew) 69 = .ok (.iload_n 1, 1) := by decide +kernel
theorem dMo_readNew_70 : decode (mC mMo_readNew) 70 = .ok (.iadd, 1) := by decide +kernel
theorem dMo_readNew_71 : decode (mC mMo_readNew) 71 = .ok (.aload_n 0, 1) := by decide +kernel
theorem dMo_readNew_72 : decode (mC mMo_readNew) 72 = .ok (.getfield 131, 3) := by decide +kernel
theorem dMo_readNew_75 : decode (mC mMo_readNew) 75 = .ok (.lastore, 1) := by decide +kernel
theorem dMo_readNew_76 : decode (mC mMo_readNew) 76 = .ok (.aload_n 0, 1) := by decide +kernel
theorem dMo_readNew_77 : decode (mC mMo_readNew) 77 = .ok (.invokevirtual 229, 3) := by decide +kernel
theorem dMo_readNew_80 : decode (mC mMo_readNew) 80 = .ok (.return_, 1) := by decide +kernel
theorem bMo_readNew_0 {E : mEn} {d : Nat} {σ : mSt} {Q : mPost} {a1 : Int32} : WP E (d + 1) mMo_readNew 0 [.ref 166, .int a1] [] σ Q = WP E d mMo_next 0 [.ref 166, uu] [] σ (fun r σ' => WP E (d + 1) mMo_readNew 4 [.ref 166, .int a1] (r.toList ++ []) σ' Q) := (w_aload_n dMo_readNew_0 rfl).trans (w_virt (vs := []) (st' := []) (es := [.ref 166, uu]) dMo_readNew_1 rz11_229 rfl sh_166 rfl rfl rfl (Nat.le_of_ble_eq_true rfl) (Nat.le_of_ble_eq_true rfl) rfl)
theorem bMo_readNew_4 {E : mEn} {d : Nat} {σ : mSt} {Q : mPost} {a1 : Int32} : WP E (d + 1) mMo_readNew 4 [.ref 166, .int a1] [] σ Q = WP E d mMo_isName 0 [.ref 166] [] σ (fun r σ' => WP E (d + 1) mMo_readNew 8 [.ref 166, .int a1] (r.toList ++ []) σ' Q) := (w_aload_n dMo_readNew_4 rfl).trans (w_virt (vs := []) (st' := []) (es := [.ref 166]) dMo_readNew_5 rz11_246 rfl sh_166 rfl rfl rfl (Nat.le_of_ble_eq_true rfl) (Nat.le_of_ble_eq_true rfl) rfl)
theorem bMo_readNew_8 {E : mEn} {d : Nat} {σ : mSt} {Q : mPost} {a1 : Int32} {s0 : Int32} : WP E d mMo_readNew 8 [.ref 166, .int a1] [.int s0] σ Q = (if ¬ s0 = 0 then WP E d mMo_readNew 15 [.ref 166, .int a1] [] σ Q else WP E d mMo_readNew 11 [.ref 166, .int a1] [] σ Q) := w_ifne (t := 15) dMo_readNew_8 (by decide)
theorem bMo_readNew_11 {E : mEn} {d : Nat} {σ : mSt} {Q : mPost} {a1 : Int32} : WP E (d + 1) mMo_readNew 11 [.ref 166, .int a1] [] σ Q = WP E d mMo_wrong 0 [.ref 166] [] σ (fun r σ' => WP E (d + 1) mMo_readNew 15 [.ref 166, .int a1] (r.toList ++ []) σ' Q) := (w_aload_n dMo_readNew_11 rfl).trans (w_virt (vs := []) (st' := []) (es := [.ref 166]) dMo_readNew_12 rz11_232 rfl sh_166 rfl rfl rfl (Nat.le_of_ble_eq_true rfl) (Nat.le_of_ble_eq_true rfl) rfl)
theorem bMo_readNew_15 {E : mEn} {d : Nat} {σ : mSt} {Q : mPost} {a1 : Int32} : WP E d mMo_readNew 15 [.ref 166, .int a1] [] σ Q = (if ¬ (σ.1 166 12) = 0 then WP E d mMo_readNew 55 [.ref 166, .int a1] [] σ Q else WP E d mMo_readNew 22 [.ref 166, .int a1] [] σ Q) := (w_aload_n dMo_readNew_15 rfl).trans ((w_geti dMo_readNew_16 rz11_219 sh_166 rfl).trans (w_ifne (t := 55) dMo_readNew_19 (by decide)))
theorem bMo_readNew_22 {E : mEn} {d : Nat} {σ : mSt} {Q : mPost} {a1 : Int32} : WP E (d + 1) mMo_readNew 22 [.ref 166, .int a1] [] σ Q = WP E d mMo_personNamed 0 [.ref 166, .int (nI 4)] [] σ (fun r σ' => WP E (d + 1) mMo_readNew 27 [.ref 166, .int a1] (r.toList ++ []) σ' Q) := (w_aload_n dMo_readNew_22 rfl).trans ((w_iconst (v := (nI 4)) dMo_readNew_23 rfl).trans (w_virt (vs := [.int (nI 4)]) (st' := []) (es := [.ref 166, .int (nI 4)]) dMo_readNew_24 rz11_249 rfl sh_166 rfl rfl rfl (Nat.le_of_ble_eq_true rfl) (Nat.le_of_ble_eq_true rfl) rfl))
theorem bMo_readNew_27 {E : mEn} {d : Nat} {σ : mSt} {Q : mPost} {a1 : Int32} {s0 : Int32} : WP E d mMo_readNew 27 [.ref 166, .int a1] [.int s0] σ Q = (if 0 ≤ s0 then WP E d mMo_readNew 46 [.ref 166, .int a1] [] σ Q else WP E d mMo_readNew 30 [.ref 166, .int a1] [] σ Q) := w_ifge (t := 46) dMo_readNew_27 (by decide)
theorem bMo_readNew_30 {E : mEn} {d : Nat} {σ : mSt} {Q : mPost} {a1 : Int32} : WP E (d + 1) mMo_readNew 30 [.ref 166, .int a1] [] σ Q = WP E d mMo_ovenNamed 0 [.ref 166, .int (nI 4)] [] σ (fun r σ' => WP E (d + 1) mMo_readNew 35 [.ref 166, .int a1] (r.toList ++ []) σ' Q) := (w_aload_n dMo_readNew_30 rfl).trans ((w_iconst (v := (nI 4)) dMo_readNew_31 rfl).trans (w_virt (vs := [.int (nI 4)]) (st' := []) (es := [.ref 166, .int (nI 4)]) dMo_readNew_32 rz11_252 rfl sh_166 rfl rfl rfl (Nat.le_of_ble_eq_true rfl) (Nat.le_of_ble_eq_true rfl) rfl))
theorem bMo_readNew_35 {E : mEn} {d : Nat} {σ : mSt} {Q : mPost} {a1 : Int32} {s0 : Int32} : WP E d mMo_readNew 35 [.ref 166, .int a1] [.int s0] σ Q = (if 0 ≤ s0 then WP E d mMo_readNew 46 [.ref 166, .int a1] [] σ Q else WP E d mMo_readNew 38 [.ref 166, .int a1] [] σ Q) := w_ifge (t := 46) dMo_readNew_35 (by decide)
theorem bMo_readNew_38 {E : mEn} {d : Nat} {σ : mSt} {Q : mPost} {a1 : Int32} : WP E (d + 1) mMo_readNew 38 [.ref 166, .int a1] [] σ Q = WP E d mMo_loafNamed 0 [.ref 166, .int (nI 4)] [] σ (fun r σ' => WP E (d + 1) mMo_readNew 43 [.ref 166, .int a1] (r.toList ++ []) σ' Q) := (w_aload_n dMo_readNew_38 rfl).trans ((w_iconst (v := (nI 4)) dMo_readNew_39 rfl).trans (w_virt (vs := [.int (nI 4)]) (st' := []) (es := [.ref 166, .int (nI 4)]) dMo_readNew_40 rz11_255 rfl sh_166 rfl rfl rfl (Nat.le_of_ble_eq_true rfl) (Nat.le_of_ble_eq_true rfl) rfl))
theorem bMo_readNew_43 {E : mEn} {d : Nat} {σ : mSt} {Q : mPost} {a1 : Int32} {s0 : Int32} : WP E d mMo_readNew 43 [.ref 166, .int a1] [.int s0] σ Q = (if s0 < 0 then WP E d mMo_readNew 55 [.ref 166, .int a1] [] σ Q else WP E d mMo_readNew 46 [.ref 166, .int a1] [] σ Q) := w_iflt (t := 55) dMo_readNew_43 (by decide)
theorem bMo_readNew_46 {E : mEn} {d : Nat} {σ : mSt} {Q : mPost} {a1 : Int32} : WP E (d + 1) mMo_readNew 46 [.ref 166, .int a1] [] σ Q = WP E d mMo_fail 0 [.ref 166, .int (nI 3), .int (σ.1 166 15)] [] σ (fun r σ' => WP E (d + 1) mMo_readNew 55 [.ref 166, .int a1] (r.toList ++ []) σ' Q) := (w_aload_n dMo_readNew_46 rfl).trans ((w_iconst (v := (nI 3)) dMo_readNew_47 rfl).trans ((w_aload_n dMo_readNew_48 rfl).trans ((w_geti dMo_readNew_49 rz11_119 sh_166 rfl).trans (w_virt (vs := [.int (nI 3), .int (σ.1 166 15)]) (st' := []) (es := [.ref 166, .int (nI 3), .int (σ.1 166 15)]) dMo_readNew_52 rz11_225 rfl sh_166 rfl rfl rfl (Nat.le_of_ble_eq_true rfl) (Nat.le_of_ble_eq_true rfl) rfl))))
theorem bMo_readNew_55 {E : mEn} {d : Nat} {σ : mSt} {Q : mPost} {a1 : Int32} : WP E d mMo_readNew 55 [.ref 166, .int a1] [] σ Q = (if (σ.1 166 12) ≤ 0 then WP E d mMo_readNew 63 [.ref 166, .int a1] [] σ Q else WP E d mMo_readNew 62 [.ref 166, .int a1] [] σ Q) := (w_aload_n dMo_readNew_55 rfl).trans ((w_geti dMo_readNew_56 rz11_219 sh_166 rfl).trans (w_ifle (t := 63) dMo_readNew_59 (by decide)))
theorem bMo_readNew_62 {E : mEn} {d : Nat} {σ : mSt} {Q : mPost} {a1 : Int32} : WP E d mMo_readNew 62 [.ref 166, .int a1] [] σ Q = Q none σ := w_vret dMo_readNew_62 rfl
theorem bMo_readNew_63 {E : mEn} {d : Nat} {σ : mSt} {Q : mPost} {a1 : Int32} : WP E (d + 1) mMo_readNew 63 [.ref 166, .int a1] [] σ Q = (if mOut ((nI 80) + a1) 100 = true then False else WP E d mMo_next 0 [.ref 166, uu] [] (sL σ 173 ((nI 80) + a1).toNatClampNeg (σ.2 166 19)) (fun r σ' => WP E (d + 1) mMo_readNew 80 [.ref 166, .int a1] (r.toList ++ []) σ' Q)) := (w_aload_n dMo_readNew_63 rfl).trans ((w_getr (r := 173) dMo_readNew_64 rz11_41 sh_166 rfl).trans ((w_bipush (v := (nI 80)) dMo_readNew_67 rfl).trans ((w_iload_n dMo_readNew_69 rfl).trans ((w_iadd dMo_readNew_70).trans ((w_aload_n dMo_readNew_71 rfl).trans ((w_getl dMo_readNew_72 rz11_131 sh_166 rfl).trans ((w_last dMo_readNew_75 sh_173).trans (ite_c ((w_aload_n dMo_readNew_76 rfl).trans (w_virt (vs := []) (st' := []) (es := [.ref 166, uu]) dMo_readNew_77 rz11_229 rfl sh_166 rfl rfl rfl (Nat.le_of_ble_eq_true rfl) (Nat.le_of_ble_eq_true rfl) rfl))))))))))
theorem bMo_readNew_80 {E : mEn} {d : Nat} {σ : mSt} {Q : mPost} {a1 : Int32} : WP E d mMo_readNew 80 [.ref 166, .int a1] [] σ Q = Q none σ := w_vret dMo_readNew_80 rfl
theorem dMo_isName_0 : decode (mC mMo_isName) 0 = .ok (.aload_n 0, 1) := by decide +kernel
theorem dMo_isName_1 : decode (mC mMo_isName) 1 = .ok (.getfield 125, 3) := by decide +kernel
theorem dMo_isName_4 : decode (mC mMo_isName) 4 = .ok (.iconst (1), 1) := by decide +kernel
theorem dMo_isName_5 : decode (mC mMo_isName) 5 = .ok (.if_icmp .ne (23), 3) := by decide +kernel
theorem dMo_isName_8 : decode (mC mMo_isName) 8 = .ok (.aload_n 0, 1) := by decide +kernel
theorem dMo_isName_9 : decode (mC mMo_isName) 9 = .ok (.getfield 138, 3) := by decide +kernel
theorem dMo_isName_12 : decode (mC mMo_isName) 12 = .ok (.bipush (8), 2) := by decide +kernel
theorem dMo_isName_14 : decode (mC mMo_isName) 14 = .ok (.if_icmp .gt (14), 3) := by decide +kernel
theorem dMo_isName_17 : decode (mC mMo_isName) 17 = .ok (.aload_n 0, 1) := by decide +kernel
theorem dMo_isName_18 : decode (mC mMo_isName) 18 = .ok (.invokevirtual 216, 3) := by decide +kernel
theorem dMo_isName_21 : decode (mC mMo_isName) 21 = .ok (.ifCond .ne (7), 3) := by decide +kernel
theorem dMo_isName_24 : decode (mC mMo_isName) 24 = .ok (.iconst (1), 1) := by decide +kernel
theorem dMo_isName_25 : decode (mC mMo_isName) 25 = .ok (.goto (4), 3) := by decide +kernel
theorem dMo_isName_28 : decode (mC mMo_isName) 28 = .ok (.iconst (0), 1) := by decide +kernel
theorem dMo_isName_29 : decode (mC mMo_isName) 29 = .ok (.ireturn, 1) := by decide +kernel
theorem bMo_isName_0 {E : mEn} {d : Nat} {σ : mSt} {Q : mPost} : WP E d mMo_isName 0 [.ref 166] [] σ Q = (if ¬ (σ.1 166 14) = 1 then WP E d mMo_isName 28 [.ref 166] [] σ Q else WP E d mMo_isName 8 [.ref 166] [] σ Q) := (w_aload_n dMo_isName_0 rfl).trans ((w_geti dMo_isName_1 rz11_125 sh_166 rfl).trans ((w_iconst (v := 1) dMo_isName_4 rfl).trans (w_icmpne (t := 28) dMo_isName_5 (by decide))))
theorem bMo_isName_8 {E : mEn} {d : Nat} {σ : mSt} {Q : mPost} : WP E d mMo_isName 8 [.ref 166] [] σ Q = (if (nI 8) < (σ.1 166 18) then WP E d mMo_isName 28 [.ref 166] [] σ Q else WP E d mMo_isName 17 [.ref 166] [] σ Q) := (w_aload_n dMo_isName_8 rfl).trans ((w_geti dMo_isName_9 rz11_138 sh_166 rfl).trans ((w_bipush (v := (nI 8)) dMo_isName_12 rfl).trans (w_icmpgt (t := 28) dMo_isName_14 (by decide))))
theorem bMo_isName_17 {E : mEn} {d : Nat} {σ : mSt} {Q : mPost} : WP E (d + 1) mMo_isName 17 [.ref 166] [] σ Q = WP E d mMo_isKept 0 [.ref 166] [] σ (fun r σ' => WP E (d + 1) mMo_isName 21 [.ref 166] (r.toList ++ []) σ' Q) := (w_aload_n dMo_isName_17 rfl).trans (w_virt (vs := []) (st' := []) (es := [.ref 166]) dMo_isName_18 rz11_216 rfl sh_166 rfl rfl rfl (Nat.le_of_ble_eq_true rfl) (Nat.le_of_ble_eq_true rfl) rfl)
theorem bMo_isName_21 {E : mEn} {d : Nat} {σ : mSt} {Q : mPost} {s0 : Int32} : WP E d mMo_isName 21 [.ref 166] [.int s0] σ Q = (if ¬ s0 = 0 then WP E d mMo_isName 28 [.ref 166] [] σ Q else WP E d mMo_isName 24 [.ref 166] [] σ Q) := w_ifne (t := 28) dMo_isName_21 (by decide)
theorem bMo_isName_24 {E : mEn} {d : Nat} {σ : mSt} {Q : mPost} : WP E d mMo_isName 24 [.ref 166] [] σ Q = WP E d mMo_isName 29 [.ref 166] [.int 1] σ Q := (w_iconst (v := 1) dMo_isName_24 rfl).trans (w_goto (t := 29) dMo_isName_25 (by decide))
theorem bMo_isName_28 {E : mEn} {d : Nat} {σ : mSt} {Q : mPost} : WP E d mMo_isName 28 [.ref 166] [] σ Q = WP E d mMo_isName 29 [.ref 166] [.int 0] σ Q := w_iconst (v := 0) dMo_isName_28 rfl
theorem bMo_isName_29 {E : mEn} {d : Nat} {σ : mSt} {Q : mPost} {s0 : Int32} (hz0 : s0 = 0 ∨ s0 = 1) : WP E d mMo_isName 29 [.ref 166] [.int s0] σ Q = Q (some (.int s0)) σ := w_zret dMo_isName_29 rfl hz0
theorem dMo_isKept_0 : decode (mC mMo_isKept) 0 = .ok (.aload_n 0, 1) := by decide +kernel
theorem dMo_isKept_1 : decode (mC mMo_isKept) 1 = .ok (.invokevirtual 164, 3) := by decide +kernel
theorem dMo_isKept_4 : decode (mC mMo_isKept) 4 = .ok (.ifCond .ne (80), 3) := by decide +kernel
theorem dMo_isKept_7 : decode (mC mMo_isKept) 7 = .ok (.aload_n 0, 1) := by decide +kernel
theorem dMo_isKept_8 : decode (mC mMo_isKept) 8 = .ok (.invokevirtual 167, 3) := by decide +kernel
theorem dMo_isKept_11 : decode (mC mMo_isKept) 11 = .ok (.ifCond .ne (73), 3) := by decide +kernel
theorem dMo_isKept_14 : decode (mC mMo_isKept) 14 = .ok (.aload_n 0, 1) := by decide +kernel
theorem dMo_isKept_15 : decode (mC mMo_isKept) 15 = .ok (.invokevirtual 170, 3) := by decide +kernel
theorem dMo_isKept_18 : decode (mC mMo_isKept) 18 = .ok (.ifCond .ne (66), 3) := by decide +kernel
theorem dMo_isKept_21 : decode (mC mMo_isKept) 21 = .ok (.aload_n 0, 1) := by decide +kernel
theorem dMo_isKept_22 : decode (mC mMo_isKept) 22 = .ok (.invokevirtual 173, 3) := by decide +kernel
theorem dMo_isKept_25 : decode (mC mMo_isKept) 25 = .ok (.ifCond .ne (59), 3) := by decide +kernel
theorem dMo_isKept_28 : decode (mC mMo_isKept) 28 = .ok (.aload_n 0, 1) := by decide +kernel
theorem dMo_isKept_29 : decode (mC mMo_isKept) 29 = .ok (.invokevirtual 176, 3) := by decide +kernel
theorem dMo_isKept_32 : decode (mC mMo_isKept) 32 = .ok (.ifCond .ne (52), 3) := by decide +kernel
theorem dMo_isKept_35 : decode (mC mMo_isKept) 35 = .ok (.aload_n 0, 1) := by decide +kernel
theorem dMo_isKept_36 : decode (mC mMo_isKept) 36 = .ok (.invokevirtual 179, 3) := by decide +kernel
theorem dMo_isKept_39 : decode (mC mMo_isKept) 39 = .ok (.ifCond .ne (45), 3) := by decide +kernel
theorem dMo_isKept_42 : decode (mC mMo_isKept) 42 = .ok (.aload_n 0, 1) := by decide +kernel
theorem dMo_isKept_43 : decode (mC mMo_isKept) 43 = .ok (.invokevirtual 182, 3) := by decide +kernel
theorem dMo_isKept_46 : decode (mC mMo_isKept) 46 = .ok (.ifCond .ne (38), 3) := by decide +kernel
theorem dMo_isKept_49 : decode (mC mMo_isKept) 49 = .ok (.aload_n 0, 1) := by decide +kernel
theorem dMo_isKept_50 : decode (mC mMo_isKept) 50 = .ok (.invokevirtual 185, 3) := by decide +kernel
theorem dMo_isKept_53 : decode (mC mMo_isKept) 53 = .ok (.ifCond .ne (31), 3) := by decide +kernel
theorem dMo_isKept_56 : decode (mC mMo_isKept) 56 = .ok (.aload_n 0, 1) := by decide +kernel
theorem dMo_isKept_57 : decode (mC mMo_isKept) 57 = .ok (.invokevirtual 188, 3) := by decide +kernel
theorem dMo_isKept_60 : decode (mC mMo_isKept) 60 = .ok (.ifCond .ne (24), 3) := by decide +kernel
theorem dMo_isKept_63 : decode (mC mMo_isKept) 63 = .ok (.aload_n 0, 1) := by decide +kernel
theorem dMo_isKept_64 : decode (mC mMo_isKept) 64 = .ok (.invokevirtual 191, 3) := by decide +kernel
theorem dMo_isKept_67 : decode (mC mMo_isKept) 67 = .ok (.ifCond .ne (17), 3) := by decide +kernel
theorem dMo_isKept_70 : decode (mC mMo_isKept) 70 = .ok (.aload_n 0, 1) := by decide +kernel
theorem dMo_isKept_71 : decode (mC mMo_isKept) 71 = .ok (.invokevirtual 194, 3) := by decide +kernel
theorem dMo_isKept_74 : decode (mC mMo_isKept) 74 = .ok (.ifCond .ne (10), 3) := by decide +kernel
theorem dMo_isKept_77 : decode (mC mMo_isKept) 77 = .ok (.aload_n 0, 1) := by decide +kernel
theorem dMo_isKept_78 : decode (mC mMo_isKept) 78 = .ok (.invokevirtual 197, 3) := by decide +kernel
theorem dMo_isKept_81 : decode (mC mMo_isKept) 81 = .ok (.ifCond .eq (5), 3) := by decide +kernel
theorem dMo_isKept_84 : decode (mC mMo_isKept) 84 = .ok (.iconst (1), 1) := by decide +kernel
theorem dMo_isKept_85 : decode (mC mMo_isKept) 85 = .ok (.ireturn, 1) := by decide +kernel
theorem dMo_isKept_86 : decode (mC mMo_isKept) 86 = .ok (.aload_n 0, 1) := by decide +kernel
theorem dMo_isKept_87 : decode (mC mMo_isKept) 87 = .ok (.invokevirtual 200, 3) := by decide +kernel
theorem dMo_isKept_90 : decode (mC mMo_isKept) 90 = .ok (.ifCond .ne (31), 3) := by decide +kernel
theorem dMo_isKept_93 : decode (mC mMo_isKept) 93 = .ok (.aload_n 0, 1) := by decide +kernel
theorem dMo_isKept_94 : decode (mC mMo_isKept) 94 = .ok (.invokevirtual 203, 3) := by decide +kernel
theorem dMo_isKept_97 : decode (mC mMo_isKept) 97 = .ok (.ifCond .ne (24), 3) := by decide +kernel
theorem dMo_isKept_100 : decode (mC mMo_isKept) 100 = .ok (.aload_n 0, 1) := by decide +kernel
theorem dMo_isKept_101 : decode (mC mMo_isKept) 101 = .ok (.invokevirtual 206, 3) := by decide +kernel
theorem dMo_isKept_104 : decode (mC mMo_isKept) 104 = .ok (.ifCond .ge (17), 3) := by decide +kernel
theorem dMo_isKept_107 : decode (mC mMo_isKept) 107 = .ok (.aload_n 0, 1) := by decide +kernel
theorem dMo_isKept_108 : decode (mC mMo_isKept) 108 = .ok (.invokevirtual 210, 3) := by decide +kernel
theorem dMo_isKept_111 : decode (mC mMo_isKept) 111 = .ok (.ifCond .ge (10), 3) := by decide +kernel
theorem dMo_isKept_114 : decode (mC mMo_isKept) 114 = .ok (.aload_n 0, 1) := by decide +kernel
theorem dMo_isKept_115 : decode (mC mMo_isKept) 115 = .ok (.invokevirtual 213, 3) := by decide +kernel
theorem dMo_isKept_118 : decode (mC mMo_isKept) 118 = .ok (.ifCond .eq (7), 3) := by decide +kernel
theorem dMo_isKept_121 : decode (mC mMo_isKept) 121 = .ok (.iconst (1), 1) := by decide +kernel
theorem dMo_isKept_122 : decode (mC mMo_isKept) 122 = .ok (.goto (4), 3) := by decide +kernel
theorem dMo_isKept_125 : decode (mC mMo_isKept) 125 = .ok (.iconst (0), 1) := by decide +kernel
theorem dMo_isKept_126 : decode (mC mMo_isKept) 126 = .ok (.ireturn, 1) := by decide +kernel
theorem bMo_isKept_0 {E : mEn} {d : Nat} {σ : mSt} {Q : mPost} : WP E (d + 1) mMo_isKept 0 [.ref 166] [] σ Q = WP E d mMo_isPerson 0 [.ref 166] [] σ (fun r σ' => WP E (d + 1) mMo_isKept 4 [.ref 166] (r.toList ++ []) σ' Q) := (w_aload_n dMo_isKept_0 rfl).trans (w_virt (vs := []) (st' := []) (es := [.ref 166]) dMo_isKept_1 rz11_164 rfl sh_166 rfl rfl rfl (Nat.le_of_ble_eq_true rfl) (Nat.le_of_ble_eq_true rfl) rfl)
theorem bMo_isKept_4 {E : mEn} {d : Nat} {σ : mSt} {Q : mPost} {s0 : Int32} : WP E d mMo_isKept 4 [.ref 166] [.int s0] σ Q = (if ¬ s0 = 0 then WP E d mMo_isKept 84 [.ref 166] [] σ Q else WP E d mMo_isKept 7 [.ref 166] [] σ Q) := w_ifne (t := 84) dMo_isKept_4 (by decide)
theorem bMo_isKept_7 {E : mEn} {d : Nat} {σ : mSt} {Q : mPost} : WP E (d + 1) mMo_isKept 7 [.ref 166] [] σ Q = WP E d mMo_isPurse 0 [.ref 166] [] σ (fun r σ' => WP E (d + 1) mMo_isKept 11 [.ref 166] (r.toList ++ []) σ' Q) := (w_aload_n dMo_isKept_7 rfl).trans (w_virt (vs := []) (st' := []) (es := [.ref 166]) dMo_isKept_8 rz11_167 rfl sh_166 rfl rfl rfl (Nat.le_of_ble_eq_true rfl) (Nat.le_of_ble_eq_true rfl) rfl)
theorem bMo_isKept_11 {E : mEn} {d : Nat} {σ : mSt} {Q : mPost} {s0 : Int32} : WP E d mMo_isKept 11 [.ref 166] [.int s0] σ Q = (if ¬ s0 = 0 then WP E d mMo_isKept 84 [.ref 166] [] σ Q else WP E d mMo_isKept 14 [.ref 166] [] σ Q) := w_ifne (t := 84) dMo_isKept_11 (by decide)
theorem bMo_isKept_14 {E : mEn} {d : Nat} {σ : mSt} {Q : mPost} : WP E (d + 1) mMo_isKept 14 [.ref 166] [] σ Q = WP E d mMo_isOven 0 [.ref 166] [] σ (fun r σ' => WP E (d + 1) mMo_isKept 18 [.ref 166] (r.toList ++ []) σ' Q) := (w_aload_n dMo_isKept_14 rfl).trans (w_virt (vs := []) (st' := []) (es := [.ref 166]) dMo_isKept_15 rz11_170 rfl sh_166 rfl rfl rfl (Nat.le_of_ble_eq_true rfl) (Nat.le_of_ble_eq_true rfl) rfl)
theorem bMo_isKept_18 {E : mEn} {d : Nat} {σ : mSt} {Q : mPost} {s0 : Int32} : WP E d mMo_isKept 18 [.ref 166] [.int s0] σ Q = (if ¬ s0 = 0 then WP E d mMo_isKept 84 [.ref 166] [] σ Q else WP E d mMo_isKept 21 [.ref 166] [] σ Q) := w_ifne (t := 84) dMo_isKept_18 (by decide)
theorem bMo_isKept_21 {E : mEn} {d : Nat} {σ : mSt} {Q : mPost} : WP E (d + 1) mMo_isKept 21 [.ref 166] [] σ Q = WP E d mMo_isRain 0 [.ref 166] [] σ (fun r σ' => WP E (d + 1) mMo_isKept 25 [.ref 166] (r.toList ++ []) σ' Q) := (w_aload_n dMo_isKept_21 rfl).trans (w_virt (vs := []) (st' := []) (es := [.ref 166]) dMo_isKept_22 rz11_173 rfl sh_166 rfl rfl rfl (Nat.le_of_ble_eq_true rfl) (Nat.le_of_ble_eq_true rfl) rfl)
theorem bMo_isKept_25 {E : mEn} {d : Nat} {σ : mSt} {Q : mPost} {s0 : Int32} : WP E d mMo_isKept 25 [.ref 166] [.int s0] σ Q = (if ¬ s0 = 0 then WP E d mMo_isKept 84 [.ref 166] [] σ Q else WP E d mMo_isKept 28 [.ref 166] [] σ Q) := w_ifne (t := 84) dMo_isKept_25 (by decide)
theorem bMo_isKept_28 {E : mEn} {d : Nat} {σ : mSt} {Q : mPost} : WP E (d + 1) mMo_isKept 28 [.ref 166] [] σ Q = WP E d mMo_isLoaf 0 [.ref 166] [] σ (fun r σ' => WP E (d + 1) mMo_isKept 32 [.ref 166] (r.toList ++ []) σ' Q) := (w_aload_n dMo_isKept_28 rfl).trans (w_virt (vs := []) (st' := []) (es := [.ref 166]) dMo_isKept_29 rz11_176 rfl sh_166 rfl rfl rfl (Nat.le_of_ble_eq_true rfl) (Nat.le_of_ble_eq_true rfl) rfl)
theorem bMo_isKept_32 {E : mEn} {d : Nat} {σ : mSt} {Q : mPost} {s0 : Int32} : WP E d mMo_isKept 32 [.ref 166] [.int s0] σ Q = (if ¬ s0 = 0 then WP E d mMo_isKept 84 [.ref 166] [] σ Q else WP E d mMo_isKept 35 [.ref 166] [] σ Q) := w_ifne (t := 84) dMo_isKept_32 (by decide)
theorem bMo_isKept_35 {E : mEn} {d : Nat} {σ : mSt} {Q : mPost} : WP E (d + 1) mMo_isKept 35 [.ref 166] [] σ Q = WP E d mMo_isBy 0 [.ref 166] [] σ (fun r σ' => WP E (d + 1) mMo_isKept 39 [.ref 166] (r.toList ++ []) σ' Q) := (w_aload_n dMo_isKept_35 rfl).trans (w_virt (vs := []) (st' := []) (es := [.ref 166]) dMo_isKept_36 rz11_179 rfl sh_166 rfl rfl rfl (Nat.le_of_ble_eq_true rfl) (Nat.le_of_ble_eq_true rfl) rfl)
theorem bMo_isKept_39 {E : mEn} {d : Nat} {σ : mSt} {Q : mPost} {s0 : Int32} : WP E d mMo_isKept 39 [.ref 166] [.int s0] σ Q = (if ¬ s0 = 0 then WP E d mMo_isKept 84 [.ref 166] [] σ Q else WP E d mMo_isKept 42 [.ref 166] [] σ Q) := w_ifne (t := 84) dMo_isKept_39 (by decide)
theorem bMo_isKept_42 {E : mEn} {d : Nat} {σ : mSt} {Q : mPost} : WP E (d + 1) mMo_isKept 42 [.ref 166] [] σ Q = WP E d mMo_isInWord 0 [.ref 166] [] σ (fun r σ' => WP E (d + 1) mMo_isKept 46 [.ref 166] (r.toList ++ []) σ' Q) := (w_aload_n dMo_isKept_42 rfl).trans (w_virt (vs := []) (st' := []) (es := [.ref 166]) dMo_isKept_43 rz11_182 rfl sh_166 rfl rfl rfl (Nat.le_of_ble_eq_true rfl) (Nat.le_of_ble_eq_true rfl) rfl)
theorem bMo_isKept_46 {E : mEn} {d : Nat} {σ : mSt} {Q : mPost} {s0 : Int32} : WP E d mMo_isKept 46 [.ref 166] [.int s0] σ Q = (if ¬ s0 = 0 then WP E d mMo_isKept 84 [.ref 166] [] σ Q else WP E d mMo_isKept 49 [.ref 166] [] σ Q) := w_ifne (t := 84) dMo_isKept_46 (by decide)
theorem bMo_isKept_49 {E : mEn} {d : Nat} {σ : mSt} {Q : mPost} : WP E (d + 1) mMo_isKept 49 [.ref 166] [] σ Q = WP E d mMo_isOn 0 [.ref 166] [] σ (fun r σ' => WP E (d + 1) mMo_isKept 53 [.ref 166] (r.toList ++ []) σ' Q) := (w_aload_n dMo_isKept_49 rfl).trans (w_virt (vs := []) (st' := []) (es := [.ref 166]) dMo_isKept_50 rz11_185 rfl sh_166 rfl rfl rfl (Nat.le_of_ble_eq_true rfl) (Nat.le_of_ble_eq_true rfl) rfl)
theorem bMo_isKept_53 {E : mEn} {d : Nat} {σ : mSt} {Q : mPost} {s0 : Int32} : WP E d mMo_isKept 53 [.ref 166] [.int s0] σ Q = (if ¬ s0 = 0 then WP E d mMo_isKept 84 [.ref 166] [] σ Q else WP E d mMo_isKept 56 [.ref 166] [] σ Q) := w_ifne (t := 84) dMo_isKept_53 (by decide)
theorem bMo_isKept_56 {E : mEn} {d : Nat} {σ : mSt} {Q : mPost} : WP E (d + 1) mMo_isKept 56 [.ref 166] [] σ Q = WP E d mMo_isSlices 0 [.ref 166] [] σ (fun r σ' => WP E (d + 1) mMo_isKept 60 [.ref 166] (r.toList ++ []) σ' Q) := (w_aload_n dMo_isKept_56 rfl).trans (w_virt (vs := []) (st' := []) (es := [.ref 166]) dMo_isKept_57 rz11_188 rfl sh_166 rfl rfl rfl (Nat.le_of_ble_eq_true rfl) (Nat.le_of_ble_eq_true rfl) rfl)
theorem bMo_isKept_60 {E : mEn} {d : Nat} {σ : mSt} {Q : mPost} {s0 : Int32} : WP E d mMo_isKept 60 [.ref 166] [.int s0] σ Q = (if ¬ s0 = 0 then WP E d mMo_isKept 84 [.ref 166] [] σ Q else WP E d mMo_isKept 63 [.ref 166] [] σ Q) := w_ifne (t := 84) dMo_isKept_60 (by decide)
theorem bMo_isKept_63 {E : mEn} {d : Nat} {σ : mSt} {Q : mPost} : WP E (d + 1) mMo_isKept 63 [.ref 166] [] σ Q = WP E d mMo_isFlour 0 [.ref 166] [] σ (fun r σ' => WP E (d + 1) mMo_isKept 67 [.ref 166] (r.toList ++ []) σ' Q) := (w_aload_n dMo_isKept_63 rfl).trans (w_virt (vs := []) (st' := []) (es := [.ref 166]) dMo_isKept_64 rz11_191 rfl sh_166 rfl rfl rfl (Nat.le_of_ble_eq_true rfl) (Nat.le_of_ble_eq_true rfl) rfl)
theorem bMo_isKept_67 {E : mEn} {d : Nat} {σ : mSt} {Q : mPost} {s0 : Int32} : WP E d mMo_isKept 67 [.ref 166] [.int s0] σ Q = (if ¬ s0 = 0 then WP E d mMo_isKept 84 [.ref 166] [] σ Q else WP E d mMo_isKept 70 [.ref 166] [] σ Q) := w_ifne (t := 84) dMo_isKept_67 (by decide)
theorem bMo_isKept_70 {E : mEn} {d : Nat} {σ : mSt} {Q : mPost} : WP E (d + 1) mMo_isKept 70 [.ref 166] [] σ Q = WP E d mMo_isOf 0 [.ref 166] [] σ (fun r σ' => WP E (d + 1) mMo_isKept 74 [.ref 166] (r.toList ++ []) σ' Q) := (w_aload_n dMo_isKept_70 rfl).trans (w_virt (vs := []) (st' := []) (es := [.ref 166]) dMo_isKept_71 rz11_194 rfl sh_166 rfl rfl rfl (Nat.le_of_ble_eq_true rfl) (Nat.le_of_ble_eq_true rfl) rfl)
theorem bMo_isKept_74 {E : mEn} {d : Nat} {σ : mSt} {Q : mPost} {s0 : Int32} : WP E d mMo_isKept 74 [.ref 166] [.int s0] σ Q = (if ¬ s0 = 0 then WP E d mMo_isKept 84 [.ref 166] [] σ Q else WP E d mMo_isKept 77 [.ref 166] [] σ Q) := w_ifne (t := 84) dMo_isKept_74 (by decide)
theorem bMo_isKept_77 {E : mEn} {d : Nat} {σ : mSt} {Q : mPost} : WP E (d + 1) mMo_isKept 77 [.ref 166] [] σ Q = WP E d mMo_isFrom 0 [.ref 166] [] σ (fun r σ' => WP E (d + 1) mMo_isKept 81 [.ref 166] (r.toList ++ []) σ' Q) := (w_aload_n dMo_isKept_77 rfl).trans (w_virt (vs := []) (st' := []) (es := [.ref 166]) dMo_isKept_78 rz11_197 rfl sh_166 rfl rfl rfl (Nat.le_of_ble_eq_true rfl) (Nat.le_of_ble_eq_true rfl) rfl)
theorem bMo_isKept_81 {E : mEn} {d : Nat} {σ : mSt} {Q : mPost} {s0 : Int32} : WP E d mMo_isKept 81 [.ref 166] [.int s0] σ Q = (if s0 = 0 then WP E d mMo_isKept 86 [.ref 166] [] σ Q else WP E d mMo_isKept 84 [.ref 166] [] σ Q) := w_ifeq (t := 86) dMo_isKept_81 (by decide)
theorem bMo_isKept_84 {E : mEn} {d : Nat} {σ : mSt} {Q : mPost} : WP E d mMo_isKept 84 [.ref 166] [] σ Q = Q (some (.int 1)) σ := (w_iconst (v := 1) dMo_isKept_84 rfl).trans (w_zret dMo_isKept_85 rfl (Or.inr rfl))
theorem bMo_isKept_86 {E : mEn} {d : Nat} {σ : mSt} {Q : mPost} : WP E (d + 1) mMo_isKept 86 [.ref 166] [] σ Q = WP E d mMo_isTo 0 [.ref 166] [] σ (fun r σ' => WP E (d + 1) mMo_isKept 90 [.ref 166] (r.toList ++ []) σ' Q) := (w_aload_n dMo_isKept_86 rfl).trans (w_virt (vs := []) (st' := []) (es := [.ref 166]) dMo_isKept_87 rz11_200 rfl sh_166 rfl rfl rfl (Nat.le_of_ble_eq_true rfl) (Nat.le_of_ble_eq_true rfl) rfl)
theorem bMo_isKept_90 {E : mEn} {d : Nat} {σ : mSt} {Q : mPost} {s0 : Int32} : WP E d mMo_isKept 90 [.ref 166] [.int s0] σ Q = (if ¬ s0 = 0 then WP E d mMo_isKept 121 [.ref 166] [] σ Q else WP E d mMo_isKept 93 [.ref 166] [] σ Q) := w_ifne (t := 121) dMo_isKept_90 (by decide)
theorem bMo_isKept_93 {E : mEn} {d : Nat} {σ : mSt} {Q : mPost} : WP E (d + 1) mMo_isKept 93 [.ref 166] [] σ Q = WP E d mMo_isFor 0 [.ref 166] [] σ (fun r σ' => WP E (d + 1) mMo_isKept 97 [.ref 166] (r.toList ++ []) σ' Q) := (w_aload_n dMo_isKept_93 rfl).trans (w_virt (vs := []) (st' := []) (es := [.ref 166]) dMo_isKept_94 rz11_203 rfl sh_166 rfl rfl rfl (Nat.le_of_ble_eq_true rfl) (Nat.le_of_ble_eq_true rfl) rfl)
theorem bMo_isKept_97 {E : mEn} {d : Nat} {σ : mSt} {Q : mPost} {s0 : Int32} : WP E d mMo_isKept 97 [.ref 166] [.int s0] σ Q = (if ¬ s0 = 0 then WP E d mMo_isKept 121 [.ref 166] [] σ Q else WP E d mMo_isKept 100 [.ref 166] [] σ Q) := w_ifne (t := 121) dMo_isKept_97 (by decide)
theorem bMo_isKept_100 {E : mEn} {d : Nat} {σ : mSt} {Q : mPost} : WP E (d + 1) mMo_isKept 100 [.ref 166] [] σ Q = WP E d mMo_stepWord 0 [.ref 166] [] σ (fun r σ' => WP E (d + 1) mMo_isKept 104 [.ref 166] (r.toList ++ []) σ' Q) := (w_aload_n dMo_isKept_100 rfl).trans (w_virt (vs := []) (st' := []) (es := [.ref 166]) dMo_isKept_101 rz11_206 rfl sh_166 rfl rfl rfl (Nat.le_of_ble_eq_true rfl) (Nat.le_of_ble_eq_true rfl) rfl)
theorem bMo_isKept_104 {E : mEn} {d : Nat} {σ : mSt} {Q : mPost} {s0 : Int32} : WP E d mMo_isKept 104 [.ref 166] [.int s0] σ Q = (if 0 ≤ s0 then WP E d mMo_isKept 121 [.ref 166] [] σ Q else WP E d mMo_isKept 107 [.ref 166] [] σ Q) := w_ifge (t := 121) dMo_isKept_104 (by decide)
theorem bMo_isKept_107 {E : mEn} {d : Nat} {σ : mSt} {Q : mPost} : WP E (d + 1) mMo_isKept 107 [.ref 166] [] σ Q = WP E d mMo_testWord 0 [.ref 166] [] σ (fun r σ' => WP E (d + 1) mMo_isKept 111 [.ref 166] (r.toList ++ []) σ' Q) := (w_aload_n dMo_isKept_107 rfl).trans (w_virt (vs := []) (st' := []) (es := [.ref 166]) dMo_isKept_108 rz11_210 rfl sh_166 rfl rfl rfl (Nat.le_of_ble_eq_true rfl) (Nat.le_of_ble_eq_true rfl) rfl)
theorem bMo_isKept_111 {E : mEn} {d : Nat} {σ : mSt} {Q : mPost} {s0 : Int32} : WP E d mMo_isKept 111 [.ref 166] [.int s0] σ Q = (if 0 ≤ s0 then WP E d mMo_isKept 121 [.ref 166] [] σ Q else WP E d mMo_isKept 114 [.ref 166] [] σ Q) := w_ifge (t := 121) dMo_isKept_111 (by decide)
theorem bMo_isKept_114 {E : mEn} {d : Nat} {σ : mSt} {Q : mPost} : WP E (d + 1) mMo_isKept 114 [.ref 166] [] σ Q = WP E d mMo_isEnd 0 [.ref 166] [] σ (fun r σ' => WP E (d + 1) mMo_isKept 118 [.ref 166] (r.toList ++ []) σ' Q) := (w_aload_n dMo_isKept_114 rfl).trans (w_virt (vs := []) (st' := []) (es := [.ref 166]) dMo_isKept_115 rz11_213 rfl sh_166 rfl rfl rfl (Nat.le_of_ble_eq_true rfl) (Nat.le_of_ble_eq_true rfl) rfl)
theorem bMo_isKept_118 {E : mEn} {d : Nat} {σ : mSt} {Q : mPost} {s0 : Int32} : WP E d mMo_isKept 118 [.ref 166] [.int s0] σ Q = (if s0 = 0 then WP E d mMo_isKept 125 [.ref 166] [] σ Q else WP E d mMo_isKept 121 [.ref 166] [] σ Q) := w_ifeq (t := 125) dMo_isKept_118 (by decide)
theorem bMo_isKept_121 {E : mEn} {d : Nat} {σ : mSt} {Q : mPost} : WP E d mMo_isKept 121 [.ref 166] [] σ Q = WP E d mMo_isKept 126 [.ref 166] [.int 1] σ Q := (w_iconst (v := 1) dMo_isKept_121 rfl).trans (w_goto (t := 126) dMo_isKept_122 (by decide))
theorem bMo_isKept_125 {E : mEn} {d : Nat} {σ : mSt} {Q : mPost} : WP E d mMo_isKept 125 [.ref 166] [] σ Q = WP E d mMo_isKept 126 [.ref 166] [.int 0] σ Q := w_iconst (v := 0) dMo_isKept_125 rfl
theorem bMo_isKept_126 {E : mEn} {d : Nat} {σ : mSt} {Q : mPost} {s0 : Int32} (hz0 : s0 = 0 ∨ s0 = 1) : WP E d mMo_isKept 126 [.ref 166] [.int s0] σ Q = Q (some (.int s0)) σ := w_zret dMo_isKept_126 rfl hz0
theorem dMo_isPurse_0 : decode (mC mMo_isPurse) 0 = .ok (.aload_n 0, 1) := by decide +kernel
theorem dMo_isPurse_1 : decode (mC mMo_isPurse) 1 = .ok (.bipush (112), 2) := by decide +kernel
theorem dMo_isPurse_3 : decode (mC mMo_isPurse) 3 = .ok (.bipush (117), 2) := by decide +kernel
theorem dMo_isPurse_5 : decode (mC mMo_isPurse) 5 = .ok (.bipush (114), 2) := by decide +kernel
theorem dMo_isPurse_7 : decode (mC mMo_isPurse) 7 = .ok (.bipush (115), 2) := by decide +kernel
theorem dMo_isPurse_9 : decode (mC mMo_isPurse) 9 = .ok (.bipush (101), 2) := by decide +kernel
theorem dMo_isPurse_11 : decode (mC mMo_isPurse) 11 = .ok (.iconst (0), 1) := by decide +kernel
theorem dMo_isPurse_12 : decode (mC mMo_isPurse) 12 = .ok (.invokestatic 150, 3) := by decide +kernel
theorem dMo_isPurse_15 : decode (mC mMo_isPurse) 15 = .ok (.invokevirtual 154, 3) := by decide +kernel
theorem dMo_isPurse_18 : decode (mC mMo_isPurse) 18 = .ok (.ireturn, 1) := by decide +kernel
theorem bMo_isPurse_0 {E : mEn} {d : Nat} {σ : mSt} {Q : mPost} : WP E (d + 1) mMo_isPurse 0 [.ref 166] [] σ Q = WP E d mMo_spelled 0 [.int (nI 112), .int (nI 117), .int (nI 114), .int (nI 115), .int (nI 101), .int 0, uu, uu] [] σ (fun r σ' => WP E (d + 1) mMo_isPurse 15 [.ref 166] (r.toList ++ [.ref 166]) σ' Q) := (w_aload_n dMo_isPurse_0 rfl).trans ((w_bipush (v := (nI 112)) dMo_isPurse_1 rfl).trans ((w_bipush (v := (nI 117)) dMo_isPurse_3 rfl).trans ((w_bipush (v := (nI 114)) dMo_isPurse_5 rfl).trans ((w_bipush (v := (nI 115)) dMo_isPurse_7 rfl).trans ((w_bipush (v := (nI 101)) dMo_isPurse_9 rfl).trans ((w_iconst (v := 0) dMo_isPurse_11 rfl).trans (w_stat (vs := [.int (nI 112), .int (nI 117), .int (nI 114), .int (nI 115), .int (nI 101), .int 0]) (st' := [.ref 166]) (es := [.int (nI 112), .int (nI 117), .int (nI 114), .int (nI 115), .int (nI 101), .int 0, uu, uu]) dMo_isPurse_12 rz11_150 rfl rfl rfl (Nat.le_of_ble_eq_true rfl) (Nat.le_of_ble_eq_true rfl) rfl)))))))
theorem bMo_isPurse_15 {E : mEn} {d : Nat} {σ : mSt} {Q : mPost} {q0 : Int64} : WP E (d + 1) mMo_isPurse 15 [.ref 166] [.long q0, .ref 166] σ Q = WP E d mMo_isWord 0 [.ref 166, .long q0, uu] [] σ (fun r σ' => WP E (d + 1) mMo_isPurse 18 [.ref 166] (r.toList ++ []) σ' Q) := w_virt (vs := [.long q0]) (st' := []) (es := [.ref 166, .long q0, uu]) dMo_isPurse_15 rz11_154 rfl sh_166 rfl rfl rfl (Nat.le_of_ble_eq_true rfl) (Nat.le_of_ble_eq_true rfl) rfl
theorem bMo_isPurse_18 {E : mEn} {d : Nat} {σ : mSt} {Q : mPost} {s0 : Int32} (hz0 : s0 = 0 ∨ s0 = 1) : WP E d mMo_isPurse 18 [.ref 166] [.int s0] σ Q = Q (some (.int s0)) σ := w_zret dMo_isPurse_18 rfl hz0
theorem dMo_isOven_0 : decode (mC mMo_isOven) 0 = .ok (.aload_n 0, 1) := by decide +kernel
theorem dMo_isOven_1 : decode (mC mMo_isOven) 1 = .ok (.bipush (111), 2) := by decide +kernel
theorem dMo_isOven_3 : decode (mC mMo_isOven) 3 = .ok (.bipush (118), 2) := by decide +kernel
theorem dMo_isOven_5 : decode (mC mMo_isOven) 5 = .ok (.bipush (101), 2) := by decide +kernel
theorem dMo_isOven_7 : decode (mC mMo_isOven) 7 = .ok (.bipush (110), 2) := by decide +kernel
theorem dMo_isOven_9 : decode (mC mMo_isOven) 9 = .ok (.iconst (0), 1) := by decide +kernel
theorem dMo_isOven_10 : decode (mC mMo_isOven) 10 = .ok (.iconst (0), 1) := by decide +kernel
theorem dMo_isOven_11 : decode (mC mMo_isOven) 11 = .ok (.invokestatic 150, 3) := by decide +kernel
theorem dMo_isOven_14 : decode (mC mMo_isOven) 14 = .ok (.invokevirtual 154, 3) := by decide +kernel
theorem dMo_isOven_17 : decode (mC mMo_isOven) 17 = .ok (.ireturn, 1) := by decide +kernel
theorem bMo_isOven_0 {E : mEn} {d : Nat} {σ : mSt} {Q : mPost} : WP E (d + 1) mMo_isOven 0 [.ref 166] [] σ Q = WP E d mMo_spelled 0 [.int (nI 111), .int (nI 118), .int (nI 101), .int (nI 110), .int 0, .int 0, uu, uu] [] σ (fun r σ' => WP E (d + 1) mMo_isOven 14 [.ref 166] (r.toList ++ [.ref 166]) σ' Q) := (w_aload_n dMo_isOven_0 rfl).trans ((w_bipush (v := (nI 111)) dMo_isOven_1 rfl).trans ((w_bipush (v := (nI 118)) dMo_isOven_3 rfl).trans ((w_bipush (v := (nI 101)) dMo_isOven_5 rfl).trans ((w_bipush (v := (nI 110)) dMo_isOven_7 rfl).trans ((w_iconst (v := 0) dMo_isOven_9 rfl).trans ((w_iconst (v := 0) dMo_isOven_10 rfl).trans (w_stat (vs := [.int (nI 111), .int (nI 118), .int (nI 101), .int (nI 110), .int 0, .int 0]) (st' := [.ref 166]) (es := [.int (nI 111), .int (nI 118), .int (nI 101), .int (nI 110), .int 0, .int 0, uu, uu]) dMo_isOven_11 rz11_150 rfl rfl rfl (Nat.le_of_ble_eq_true rfl) (Nat.le_of_ble_eq_true rfl) rfl)))))))
theorem bMo_isOven_14 {E : mEn} {d : Nat} {σ : mSt} {Q : mPost} {q0 : Int64} : WP E (d + 1) mMo_isOven 14 [.ref 166] [.long q0, .ref 166] σ Q = WP E d mMo_isWord 0 [.ref 166, .long q0, uu] [] σ (fun r σ' => WP E (d + 1) mMo_isOven 17 [.ref 166] (r.toList ++ []) σ' Q) := w_virt (vs := [.long q0]) (st' := []) (es := [.ref 166, .long q0, uu]) dMo_isOven_14 rz11_154 rfl sh_166 rfl rfl rfl (Nat.le_of_ble_eq_true rfl) (Nat.le_of_ble_eq_true rfl) rfl
theorem bMo_isOven_17 {E : mEn} {d : Nat} {σ : mSt} {Q : mPost} {s0 : Int32} (hz0 : s0 = 0 ∨ s0 = 1) : WP E d mMo_isOven 17 [.ref 166] [.int s0] σ Q = Q (some (.int s0)) σ := w_zret dMo_isOven_17 rfl hz0
theorem dMo_isRain_0 : decode (mC mMo_isRain) 0 = .ok (.aload_n 0, 1) := by decide +kernel
theorem dMo_isRain_1 : decode (mC mMo_isRain) 1 = .ok (.bipush (114), 2) := by decide +kernel
theorem dMo_isRain_3 : decode (mC mMo_isRain) 3 = .ok (.bipush (97), 2) := by decide +kernel
theorem dMo_isRain_5 : decode (mC mMo_isRain) 5 = .ok (.bipush (105), 2) := by decide +kernel
theorem dMo_isRain_7 : decode (mC mMo_isRain) 7 = .ok (.bipush (110), 2) := by decide +kernel
theorem dMo_isRain_9 : decode (mC mMo_isRain) 9 = .ok (.iconst (0), 1) := by decide +kernel
theorem dMo_isRain_10 : decode (mC mMo_isRain) 10 = .ok (.iconst (0), 1) := by decide +kernel
theorem dMo_isRain_11 : decode (mC mMo_isRain) 11 = .ok (.invokestatic 150, 3) := by decide +kernel
theorem dMo_isRain_14 : decode (mC mMo_isRain) 14 = .ok (.invokevirtual 154, 3) := by decide +kernel
theorem dMo_isRain_17 : decode (mC mMo_isRain) 17 = .ok (.ireturn, 1) := by decide +kernel
theorem bMo_isRain_0 {E : mEn} {d : Nat} {σ : mSt} {Q : mPost} : WP E (d + 1) mMo_isRain 0 [.ref 166] [] σ Q = WP E d mMo_spelled 0 [.int (nI 114), .int (nI 97), .int (nI 105), .int (nI 110), .int 0, .int 0, uu, uu] [] σ (fun r σ' => WP E (d + 1) mMo_isRain 14 [.ref 166] (r.toList ++ [.ref 166]) σ' Q) := (w_aload_n dMo_isRain_0 rfl).trans ((w_bipush (v := (nI 114)) dMo_isRain_1 rfl).trans ((w_bipush (v := (nI 97)) dMo_isRain_3 rfl).trans ((w_bipush (v := (nI 105)) dMo_isRain_5 rfl).trans ((w_bipush (v := (nI 110)) dMo_isRain_7 rfl).trans ((w_iconst (v := 0) dMo_isRain_9 rfl).trans ((w_iconst (v := 0) dMo_isRain_10 rfl).trans (w_stat (vs := [.int (nI 114), .int (nI 97), .int (nI 105), .int (nI 110), .int 0, .int 0]) (st' := [.ref 166]) (es := [.int (nI 114), .int (nI 97), .int (nI 105), .int (nI 110), .int 0, .int 0, uu, uu]) dMo_isRain_11 rz11_150 rfl rfl rfl (Nat.le_of_ble_eq_true rfl) (Nat.le_of_ble_eq_true rfl) rfl)))))))
theorem bMo_isRain_14 {E : mEn} {d : Nat} {σ : mSt} {Q : mPost} {q0 : Int64} : WP E (d + 1) mMo_isRain 14 [.ref 166] [.long q0, .ref 166] σ Q = WP E d mMo_isWord 0 [.ref 166, .long q0, uu] [] σ (fun r σ' => WP E (d + 1) mMo_isRain 17 [.ref 166] (r.toList ++ []) σ' Q) := w_virt (vs := [.long q0]) (st' := []) (es := [.ref 166, .long q0, uu]) dMo_isRain_14 rz11_154 rfl sh_166 rfl rfl rfl (Nat.le_of_ble_eq_true rfl) (Nat.le_of_ble_eq_true rfl) rfl
theorem bMo_isRain_17 {E : mEn} {d : Nat} {σ : mSt} {Q : mPost} {s0 : Int32} (hz0 : s0 = 0 ∨ s0 = 1) : WP E d mMo_isRain 17 [.ref 166] [.int s0] σ Q = Q (some (.int s0)) σ := w_zret dMo_isRain_17 rfl hz0
theorem dMo_isLoaf_0 : decode (mC mMo_isLoaf) 0 = .ok (.aload_n 0, 1) := by decide +kernel
theorem dMo_isLoaf_1 : decode (mC mMo_isLoaf) 1 = .ok (.bipush (108), 2) := by decide +kernel
theorem dMo_isLoaf_3 : decode (mC mMo_isLoaf) 3 = .ok (.bipush (111), 2) := by decide +kernel
theorem dMo_isLoaf_5 : decode (mC mMo_isLoaf) 5 = .ok (.bipush (97), 2) := by decide +kernel
theorem dMo_isLoaf_7 : decode (mC mMo_isLoaf) 7 = .ok (.bipush (102), 2) := by decide +kernel
theorem dMo_isLoaf_9 : decode (mC mMo_isLoaf) 9 = .ok (.iconst (0), 1) := by decide +kernel
theorem dMo_isLoaf_10 : decode (mC mMo_isLoaf) 10 = .ok (.iconst (0), 1) := by decide +kernel
theorem dMo_isLoaf_11 : decode (mC mMo_isLoaf) 11 = .ok (.invokestatic 150, 3) := by decide +kernel
theorem dMo_isLoaf_14 : decode (mC mMo_isLoaf) 14 = .ok (.invokevirtual 154, 3) := by decide +kernel
theorem dMo_isLoaf_17 : decode (mC mMo_isLoaf) 17 = .ok (.ireturn, 1) := by decide +kernel
theorem bMo_isLoaf_0 {E : mEn} {d : Nat} {σ : mSt} {Q : mPost} : WP E (d + 1) mMo_isLoaf 0 [.ref 166] [] σ Q = WP E d mMo_spelled 0 [.int (nI 108), .int (nI 111), .int (nI 97), .int (nI 102), .int 0, .int 0, uu, uu] [] σ (fun r σ' => WP E (d + 1) mMo_isLoaf 14 [.ref 166] (r.toList ++ [.ref 166]) σ' Q) := (w_aload_n dMo_isLoaf_0 rfl).trans ((w_bipush (v := (nI 108)) dMo_isLoaf_1 rfl).trans ((w_bipush (v := (nI 111)) dMo_isLoaf_3 rfl).trans ((w_bipush (v := (nI 97)) dMo_isLoaf_5 rfl).trans ((w_bipush (v := (nI 102)) dMo_isLoaf_7 rfl).trans ((w_iconst (v := 0) dMo_isLoaf_9 rfl).trans ((w_iconst (v := 0) dMo_isLoaf_10 rfl).trans (w_stat (vs := [.int (nI 108), .int (nI 111), .int (nI 97), .int (nI 102), .int 0, .int 0]) (st' := [.ref 166]) (es := [.int (nI 108), .int (nI 111), .int (nI 97), .int (nI 102), .int 0, .int 0, uu, uu]) dMo_isLoaf_11 rz11_150 rfl rfl rfl (Nat.le_of_ble_eq_true rfl) (Nat.le_of_ble_eq_true rfl) rfl)))))))
theorem bMo_isLoaf_14 {E : mEn} {d : Nat} {σ : mSt} {Q : mPost} {q0 : Int64} : WP E (d + 1) mMo_isLoaf 14 [.ref 166] [.long q0, .ref 166] σ Q = WP E d mMo_isWord 0 [.ref 166, .long q0, uu] [] σ (fun r σ' => WP E (d + 1) mMo_isLoaf 17 [.ref 166] (r.toList ++ []) σ' Q) := w_virt (vs := [.long q0]) (st' := []) (es := [.ref 166, .long q0, uu]) dMo_isLoaf_14 rz11_154 rfl sh_166 rfl rfl rfl (Nat.le_of_ble_eq_true rfl) (Nat.le_of_ble_eq_true rfl) rfl
theorem bMo_isLoaf_17 {E : mEn} {d : Nat} {σ : mSt} {Q : mPost} {s0 : Int32} (hz0 : s0 = 0 ∨ s0 = 1) : WP E d mMo_isLoaf 17 [.ref 166] [.int s0] σ Q = Q (some (.int s0)) σ := w_zret dMo_isLoaf_17 rfl hz0
theorem dMo_isBy_0 : decode (mC mMo_isBy) 0 = .ok (.aload_n 0, 1) := by decide +kernel
theorem dMo_isBy_1 : decode (mC mMo_isBy) 1 = .ok (.bipush (98), 2) := by decide +kernel
theorem dMo_isBy_3 : decode (mC mMo_isBy) 3 = .ok (.bipush (121), 2) := by decide +kernel
theorem dMo_isBy_5 : decode (mC mMo_isBy) 5 = .ok (.iconst (0), 1) := by decide +kernel
theorem dMo_isBy_6 : decode (mC mMo_isBy) 6 = .ok (.iconst (0), 1) := by decide +kernel
theorem dMo_isBy_7 : decode (mC mMo_isBy) 7 = .ok (.iconst (0), 1) := by decide +kernel
theorem dMo_isBy_8 : decode (mC mMo_isBy) 8 = .ok (.iconst (0), 1) := by decide +kernel
theorem dMo_isBy_9 : decode (mC mMo_isBy) 9 = .ok (.invokestatic 150, 3) := by decide +kernel
theorem dMo_isBy_12 : decode (mC mMo_isBy) 12 = .ok (.invokevirtual 154, 3) := by decide +kernel
theorem dMo_isBy_15 : decode (mC mMo_isBy) 15 = .ok (.ireturn, 1) := by decide +kernel
theorem bMo_isBy_0 {E : mEn} {d : Nat} {σ : mSt} {Q : mPost} : WP E (d + 1) mMo_isBy 0 [.ref 166] [] σ Q = WP E d mMo_spelled 0 [.int (nI 98), .int (nI 121), .int 0, .int 0, .int 0, .int 0, uu, uu] [] σ (fun r σ' => WP E (d + 1) mMo_isBy 12 [.ref 166] (r.toList ++ [.ref 166]) σ' Q) := (w_aload_n dMo_isBy_0 rfl).trans ((w_bipush (v := (nI 98)) dMo_isBy_1 rfl).trans ((w_bipush (v := (nI 121)) dMo_isBy_3 rfl).trans ((w_iconst (v := 0) dMo_isBy_5 rfl).trans ((w_iconst (v := 0) dMo_isBy_6 rfl).trans ((w_iconst (v := 0) dMo_isBy_7 rfl).trans ((w_iconst (v := 0) dMo_isBy_8 rfl).trans (w_stat (vs := [.int (nI 98), .int (nI 121), .int 0, .int 0, .int 0, .int 0]) (st' := [.ref 166]) (es := [.int (nI 98), .int (nI 121), .int 0, .int 0, .int 0, .int 0, uu, uu]) dMo_isBy_9 rz11_150 rfl rfl rfl (Nat.le_of_ble_eq_true rfl) (Nat.le_of_ble_eq_true rfl) rfl)))))))
theorem bMo_isBy_12 {E : mEn} {d : Nat} {σ : mSt} {Q : mPost} {q0 : Int64} : WP E (d + 1) mMo_isBy 12 [.ref 166] [.long q0, .ref 166] σ Q = WP E d mMo_isWord 0 [.ref 166, .long q0, uu] [] σ (fun r σ' => WP E (d + 1) mMo_isBy 15 [.ref 166] (r.toList ++ []) σ' Q) := w_virt (vs := [.long q0]) (st' := []) (es := [.ref 166, .long q0, uu]) dMo_isBy_12 rz11_154 rfl sh_166 rfl rfl rfl (Nat.le_of_ble_eq_true rfl) (Nat.le_of_ble_eq_true rfl) rfl
theorem bMo_isBy_15 {E : mEn} {d : Nat} {σ : mSt} {Q : mPost} {s0 : Int32} (hz0 : s0 = 0 ∨ s0 = 1) : WP E d mMo_isBy 15 [.ref 166] [.int s0] σ Q = Q (some (.int s0)) σ := w_zret dMo_isBy_15 rfl hz0
theorem dMo_isInWord_0 : decode (mC mMo_isInWord) 0 = .ok (.aload_n 0, 1) := by decide +kernel
theorem dMo_isInWord_1 : decode (mC mMo_isInWord) 1 = .ok (.bipush (105), 2) := by decide +kernel
theorem dMo_isInWord_3 : decode (mC mMo_isInWord) 3 = .ok (.bipush (110), 2) := by decide +kernel
theorem dMo_isInWord_5 : decode (mC mMo_isInWord) 5 = .ok (.iconst (0), 1) := by decide +kernel
theorem dMo_isInWord_6 : decode (mC mMo_isInWord) 6 = .ok (.iconst (0), 1) := by decide +kernel
theorem dMo_isInWord_7 : decode (mC mMo_isInWord) 7 = .ok (.iconst (0), 1) := by decide +kernel
theorem dMo_isInWord_8 : decode (mC mMo_isInWord) 8 = .ok (.iconst (0), 1) := by decide +kernel
theorem dMo_isInWord_9 : decode (mC mMo_isInWord) 9 = .ok (.invokestatic 150, 3) := by decide +kernel
theorem dMo_isInWord_12 : decode (mC mMo_isInWord) 12 = .ok (.invokevirtual 154, 3) := by decide +kernel
theorem dMo_isInWord_15 : decode (mC mMo_isInWord) 15 = .ok (.ireturn, 1) := by decide +kernel
theorem bMo_isInWord_0 {E : mEn} {d : Nat} {σ : mSt} {Q : mPost} : WP E (d + 1) mMo_isInWord 0 [.ref 166] [] σ Q = WP E d mMo_spelled 0 [.int (nI 105), .int (nI 110), .int 0, .int 0, .int 0, .int 0, uu, uu] [] σ (fun r σ' => WP E (d + 1) mMo_isInWord 12 [.ref 166] (r.toList ++ [.ref 166]) σ' Q) := (w_aload_n dMo_isInWord_0 rfl).trans ((w_bipush (v := (nI 105)) dMo_isInWord_1 rfl).trans ((w_bipush (v := (nI 110)) dMo_isInWord_3 rfl).trans ((w_iconst (v := 0) dMo_isInWord_5 rfl).trans ((w_iconst (v := 0) dMo_isInWord_6 rfl).trans ((w_iconst (v := 0) dMo_isInWord_7 rfl).trans ((w_iconst (v := 0) dMo_isInWord_8 rfl).trans (w_stat (vs := [.int (nI 105), .int (nI 110), .int 0, .int 0, .int 0, .int 0]) (st' := [.ref 166]) (es := [.int (nI 105), .int (nI 110), .int 0, .int 0, .int 0, .int 0, uu, uu]) dMo_isInWord_9 rz11_150 rfl rfl rfl (Nat.le_of_ble_eq_true rfl) (Nat.le_of_ble_eq_true rfl) rfl)))))))
theorem bMo_isInWord_12 {E : mEn} {d : Nat} {σ : mSt} {Q : mPost} {q0 : Int64} : WP E (d + 1) mMo_isInWord 12 [.ref 166] [.long q0, .ref 166] σ Q = WP E d mMo_isWord 0 [.ref 166, .long q0, uu] [] σ (fun r σ' => WP E (d + 1) mMo_isInWord 15 [.ref 166] (r.toList ++ []) σ' Q) := w_virt (vs := [.long q0]) (st' := []) (es := [.ref 166, .long q0, uu]) dMo_isInWord_12 rz11_154 rfl sh_166 rfl rfl rfl (Nat.le_of_ble_eq_true rfl) (Nat.le_of_ble_eq_true rfl) rfl
theorem bMo_isInWord_15 {E : mEn} {d : Nat} {σ : mSt} {Q : mPost} {s0 : Int32} (hz0 : s0 = 0 ∨ s0 = 1) : WP E d mMo_isInWord 15 [.ref 166] [.int s0] σ Q = Q (some (.int s0)) σ := w_zret dMo_isInWord_15 rfl hz0
theorem dMo_isOn_0 : decode (mC mMo_isOn) 0 = .ok (.aload_n 0, 1) := by decide +kernel
theorem dMo_isOn_1 : decode (mC mMo_isOn) 1 = .ok (.bipush (111), 2) := by decide +kernel
theorem dMo_isOn_3 : decode (mC mMo_isOn) 3 = .ok (.bipush (110), 2) := by decide +kernel
theorem dMo_isOn_5 : decode (mC mMo_isOn) 5 = .ok (.iconst (0), 1) := by decide +kernel
theorem dMo_isOn_6 : decode (mC mMo_isOn) 6 = .ok (.iconst (0), 1) := by decide +kernel
theorem dMo_isOn_7 : decode (mC mMo_isOn) 7 = .ok (.iconst (0), 1) := by decide +kernel
theorem dMo_isOn_8 : decode (mC mMo_isOn) 8 = .ok (.iconst (0), 1) := by decide +kernel
theorem dMo_isOn_9 : decode (mC mMo_isOn) 9 = .ok (.invokestatic 150, 3) := by decide +kernel
theorem dMo_isOn_12 : decode (mC mMo_isOn) 12 = .ok (.invokevirtual 154, 3) := by decide +kernel
theorem dMo_isOn_15 : decode (mC mMo_isOn) 15 = .ok (.ireturn, 1) := by decide +kernel
theorem bMo_isOn_0 {E : mEn} {d : Nat} {σ : mSt} {Q : mPost} : WP E (d + 1) mMo_isOn 0 [.ref 166] [] σ Q = WP E d mMo_spelled 0 [.int (nI 111), .int (nI 110), .int 0, .int 0, .int 0, .int 0, uu, uu] [] σ (fun r σ' => WP E (d + 1) mMo_isOn 12 [.ref 166] (r.toList ++ [.ref 166]) σ' Q) := (w_aload_n dMo_isOn_0 rfl).trans ((w_bipush (v := (nI 111)) dMo_isOn_1 rfl).trans ((w_bipush (v := (nI 110)) dMo_isOn_3 rfl).trans ((w_iconst (v := 0) dMo_isOn_5 rfl).trans ((w_iconst (v := 0) dMo_isOn_6 rfl).trans ((w_iconst (v := 0) dMo_isOn_7 rfl).trans ((w_iconst (v := 0) dMo_isOn_8 rfl).trans (w_stat (vs := [.int (nI 111), .int (nI 110), .int 0, .int 0, .int 0, .int 0]) (st' := [.ref 166]) (es := [.int (nI 111), .int (nI 110), .int 0, .int 0, .int 0, .int 0, uu, uu]) dMo_isOn_9 rz11_150 rfl rfl rfl (Nat.le_of_ble_eq_true rfl) (Nat.le_of_ble_eq_true rfl) rfl)))))))
theorem bMo_isOn_12 {E : mEn} {d : Nat} {σ : mSt} {Q : mPost} {q0 : Int64} : WP E (d + 1) mMo_isOn 12 [.ref 166] [.long q0, .ref 166] σ Q = WP E d mMo_isWord 0 [.ref 166, .long q0, uu] [] σ (fun r σ' => WP E (d + 1) mMo_isOn 15 [.ref 166] (r.toList ++ []) σ' Q) := w_virt (vs := [.long q0]) (st' := []) (es := [.ref 166, .long q0, uu]) dMo_isOn_12 rz11_154 rfl sh_166 rfl rfl rfl (Nat.le_of_ble_eq_true rfl) (Nat.le_of_ble_eq_true rfl) rfl
theorem bMo_isOn_15 {E : mEn} {d : Nat} {σ : mSt} {Q : mPost} {s0 : Int32} (hz0 : s0 = 0 ∨ s0 = 1) : WP E d mMo_isOn 15 [.ref 166] [.int s0] σ Q = Q (some (.int s0)) σ := w_zret dMo_isOn_15 rfl hz0
theorem dMo_isSlices_0 : decode (mC mMo_isSlices) 0 = .ok (.aload_n 0, 1) := by decide +kernel
theorem dMo_isSlices_1 : decode (mC mMo_isSlices) 1 = .ok (.bipush (115), 2) := by decide +kernel
theorem dMo_isSlices_3 : decode (mC mMo_isSlices) 3 = .ok (.bipush (108), 2) := by decide +kernel
theorem dMo_isSlices_5 : decode (mC mMo_isSlices) 5 = .ok (.bipush (105), 2) := by decide +kernel
theorem dMo_isSlices_7 : decode (mC mMo_isSlices) 7 = .ok (.bipush (99), 2) := by decide +kernel
theorem dMo_isSlices_9 : decode (mC mMo_isSlices) 9 = .ok (.bipush (101), 2) := by decide +kernel
theorem dMo_isSlices_11 : decode (mC mMo_isSlices) 11 = .ok (.bipush (115), 2) := by decide +kernel
theorem dMo_isSlices_13 : decode (mC mMo_isSlices) 13 = .ok (.invokestatic 150, 3) := by decide +kernel
theorem dMo_isSlices_16 : decode (mC mMo_isSlices) 16 = .ok (.invokevirtual 154, 3) := by decide +kernel
theorem dMo_isSlices_19 : decode (mC mMo_isSlices) 19 = .ok (.ireturn, 1) := by decide +kernel
theorem bMo_isSlices_0 {E : mEn} {d : Nat} {σ : mSt} {Q : mPost} : WP E (d + 1) mMo_isSlices 0 [.ref 166] [] σ Q = WP E d mMo_spelled 0 [.int (nI 115), .int (nI 108), .int (nI 105), .int (nI 99), .int (nI 101), .int (nI 115), uu, uu] [] σ (fun r σ' => WP E (d + 1) mMo_isSlices 16 [.ref 166] (r.toList ++ [.ref 166]) σ' Q) := (w_aload_n dMo_isSlices_0 rfl).trans ((w_bipush (v := (nI 115)) dMo_isSlices_1 rfl).trans ((w_bipush (v := (nI 108)) dMo_isSlices_3 rfl).trans ((w_bipush (v := (nI 105)) dMo_isSlices_5 rfl).trans ((w_bipush (v := (nI 99)) dMo_isSlices_7 rfl).trans ((w_bipush (v := (nI 101)) dMo_isSlices_9 rfl).trans ((w_bipush (v := (nI 115)) dMo_isSlices_11 rfl).trans (w_stat (vs := [.int (nI 115), .int (nI 108), .int (nI 105), .int (nI 99), .int (nI 101), .int (nI 115)]) (st' := [.ref 166]) (es := [.int (nI 115), .int (nI 108), .int (nI 105), .int (nI 99), .int (nI 101), .int (nI 115), uu, uu]) dMo_isSlices_13 rz11_150 rfl rfl rfl (Nat.le_of_ble_eq_true rfl) (Nat.le_of_ble_eq_true rfl) rfl)))))))
theorem bMo_isSlices_16 {E : mEn} {d : Nat} {σ : mSt} {Q : mPost} {q0 : Int64} : WP E (d + 1) mMo_isSlices 16 [.ref 166] [.long q0, .ref 166] σ Q = WP E d mMo_isWord 0 [.ref 166, .long q0, uu] [] σ (fun r σ' => WP E (d + 1) mMo_isSlices 19 [.ref 166] (r.toList ++ []) σ' Q) := w_virt (vs := [.long q0]) (st' := []) (es := [.ref 166, .long q0, uu]) dMo_isSlices_16 rz11_154 rfl sh_166 rfl rfl rfl (Nat.le_of_ble_eq_true rfl) (Nat.le_of_ble_eq_true rfl) rfl
theorem bMo_isSlices_19 {E : mEn} {d : Nat} {σ : mSt} {Q : mPost} {s0 : Int32} (hz0 : s0 = 0 ∨ s0 = 1) : WP E d mMo_isSlices 19 [.ref 166] [.int s0] σ Q = Q (some (.int s0)) σ := w_zret dMo_isSlices_19 rfl hz0
theorem dMo_isFlour_0 : decode (mC mMo_isFlour) 0 = .ok (.aload_n 0, 1) := by decide +kernel
theorem dMo_isFlour_1 : decode (mC mMo_isFlour) 1 = .ok (.bipush (102), 2) := by decide +kernel
theorem dMo_isFlour_3 : decode (mC mMo_isFlour) 3 = .ok (.bipush (108), 2) := by decide +kernel
theorem dMo_isFlour_5 : decode (mC mMo_isFlour) 5 = .ok (.bipush (111), 2) := by decide +kernel
theorem dMo_isFlour_7 : decode (mC mMo_isFlour) 7 = .ok (.bipush (117), 2) := by decide +kernel
theorem dMo_isFlour_9 : decode (mC mMo_isFlour) 9 = .ok (.bipush (114), 2) := by decide +kernel
theorem dMo_isFlour_11 : decode (mC mMo_isFlour) 11 = .ok (.iconst (0), 1) := by decide +kernel
theorem dMo_isFlour_12 : decode (mC mMo_isFlour) 12 = .ok (.invokestatic 150, 3) := by decide +kernel
theorem dMo_isFlour_15 : decode (mC mMo_isFlour) 15 = .ok (.invokevirtual 154, 3) := by decide +kernel
theorem dMo_isFlour_18 : decode (mC mMo_isFlour) 18 = .ok (.ireturn, 1) := by decide +kernel
theorem bMo_isFlour_0 {E : mEn} {d : Nat} {σ : mSt} {Q : mPost} : WP E (d + 1) mMo_isFlour 0 [.ref 166] [] σ Q = WP E d mMo_spelled 0 [.int (nI 102), .int (nI 108), .int (nI 111), .int (nI 117), .int (nI 114), .int 0, uu, uu] [] σ (fun r σ' => WP E (d + 1) mMo_isFlour 15 [.ref 166] (r.toList ++ [.ref 166]) σ' Q) := (w_aload_n dMo_isFlour_0 rfl).trans ((w_bipush (v := (nI 102)) dMo_isFlour_1 rfl).trans ((w_bipush (v := (nI 108)) dMo_isFlour_3 rfl).trans ((w_bipush (v := (nI 111)) dMo_isFlour_5 rfl).trans ((w_bipush (v := (nI 117)) dMo_isFlour_7 rfl).trans ((w_bipush (v := (nI 114)) dMo_isFlour_9 rfl).trans ((w_iconst (v := 0) dMo_isFlour_11 rfl).trans (w_stat (vs := [.int (nI 102), .int (nI 108), .int (nI 111), .int (nI 117), .int (nI 114), .int 0]) (st' := [.ref 166]) (es := [.int (nI 102), .int (nI 108), .int (nI 111), .int (nI 117), .int (nI 114), .int 0, uu, uu]) dMo_isFlour_12 rz11_150 rfl rfl rfl (Nat.le_of_ble_eq_true rfl) (Nat.le_of_ble_eq_true rfl) rfl)))))))
theorem bMo_isFlour_15 {E : mEn} {d : Nat} {σ : mSt} {Q : mPost} {q0 : Int64} : WP E (d + 1) mMo_isFlour 15 [.ref 166] [.long q0, .ref 166] σ Q = WP E d mMo_isWord 0 [.ref 166, .long q0, uu] [] σ (fun r σ' => WP E (d + 1) mMo_isFlour 18 [.ref 166] (r.toList ++ []) σ' Q) := w_virt (vs := [.long q0]) (st' := []) (es := [.ref 166, .long q0, uu]) dMo_isFlour_15 rz11_154 rfl sh_166 rfl rfl rfl (Nat.le_of_ble_eq_true rfl) (Nat.le_of_ble_eq_true rfl) rfl
theorem bMo_isFlour_18 {E : mEn} {d : Nat} {σ : mSt} {Q : mPost} {s0 : Int32} (hz0 : s0 = 0 ∨ s0 = 1) : WP E d mMo_isFlour 18 [.ref 166] [.int s0] σ Q = Q (some (.int s0)) σ := w_zret dMo_isFlour_18 rfl hz0
theorem dMo_isOf_0 : decode (mC mMo_isOf) 0 = .ok (.aload_n 0, 1) := by decide +kernel
theorem dMo_isOf_1 : decode (mC mMo_isOf) 1 = .ok (.bipush (111), 2) := by decide +kernel
theorem dMo_isOf_3 : decode (mC mMo_isOf) 3 = .ok (.bipush (102), 2) := by decide +kernel
theorem dMo_isOf_5 : decode (mC mMo_isOf) 5 = .ok (.iconst (0), 1) := by decide +kernel
theorem dMo_isOf_6 : decode (mC mMo_isOf) 6 = .ok (.iconst (0), 1) := by decide +kernel
theorem dMo_isOf_7 : decode (mC mMo_isOf) 7 = .ok (.iconst (0), 1) := by decide +kernel
theorem dMo_isOf_8 : decode (mC mMo_isOf) 8 = .ok (.iconst (0), 1) := by decide +kernel
theorem dMo_isOf_9 : decode (mC mMo_isOf) 9 = .ok (.invokestatic 150, 3) := by decide +kernel
theorem dMo_isOf_12 : decode (mC mMo_isOf) 12 = .ok (.invokevirtual 154, 3) := by decide +kernel
theorem dMo_isOf_15 : decode (mC mMo_isOf) 15 = .ok (.ireturn, 1) := by decide +kernel
theorem bMo_isOf_0 {E : mEn} {d : Nat} {σ : mSt} {Q : mPost} : WP E (d + 1) mMo_isOf 0 [.ref 166] [] σ Q = WP E d mMo_spelled 0 [.int (nI 111), .int (nI 102), .int 0, .int 0, .int 0, .int 0, uu, uu] [] σ (fun r σ' => WP E (d + 1) mMo_isOf 12 [.ref 166] (r.toList ++ [.ref 166]) σ' Q) := (w_aload_n dMo_isOf_0 rfl).trans ((w_bipush (v := (nI 111)) dMo_isOf_1 rfl).trans ((w_bipush (v := (nI 102)) dMo_isOf_3 rfl).trans ((w_iconst (v := 0) dMo_isOf_5 rfl).trans ((w_iconst (v := 0) dMo_isOf_6 rfl).trans ((w_iconst (v := 0) dMo_isOf_7 rfl).trans ((w_iconst (v := 0) dMo_isOf_8 rfl).trans (w_stat (vs := [.int (nI 111), .int (nI 102), .int 0, .int 0, .int 0, .int 0]) (st' := [.ref 166]) (es := [.int (nI 111), .int (nI 102), .int 0, .int 0, .int 0, .int 0, uu, uu]) dMo_isOf_9 rz11_150 rfl rfl rfl (Nat.le_of_ble_eq_true rfl) (Nat.le_of_ble_eq_true rfl) rfl)))))))
theorem bMo_isOf_12 {E : mEn} {d : Nat} {σ : mSt} {Q : mPost} {q0 : Int64} : WP E (d + 1) mMo_isOf 12 [.ref 166] [.long q0, .ref 166] σ Q = WP E d mMo_isWord 0 [.ref 166, .long q0, uu] [] σ (fun r σ' => WP E (d + 1) mMo_isOf 15 [.ref 166] (r.toList ++ []) σ' Q) := w_virt (vs := [.long q0]) (st' := []) (es := [.ref 166, .long q0, uu]) dMo_isOf_12 rz11_154 rfl sh_166 rfl rfl rfl (Nat.le_of_ble_eq_true rfl) (Nat.le_of_ble_eq_true rfl) rfl
theorem bMo_isOf_15 {E : mEn} {d : Nat} {σ : mSt} {Q : mPost} {s0 : Int32} (hz0 : s0 = 0 ∨ s0 = 1) : WP E d mMo_isOf 15 [.ref 166] [.int s0] σ Q = Q (some (.int s0)) σ := w_zret dMo_isOf_15 rfl hz0
theorem dMo_isFrom_0 : decode (mC mMo_isFrom) 0 = .ok (.aload_n 0, 1) := by decide +kernel
theorem dMo_isFrom_1 : decode (mC mMo_isFrom) 1 = .ok (.bipush (102), 2) := by decide +kernel
theorem dMo_isFrom_3 : decode (mC mMo_isFrom) 3 = .ok (.bipush (114), 2) := by decide +kernel
theorem dMo_isFrom_5 : decode (mC mMo_isFrom) 5 = .ok (.bipush (111), 2) := by decide +kernel
theorem dMo_isFrom_7 : decode (mC mMo_isFrom) 7 = .ok (.bipush (109), 2) := by decide +kernel
theorem dMo_isFrom_9 : decode (mC mMo_isFrom) 9 = .ok (.iconst (0), 1) := by decide +kernel
theorem dMo_isFrom_10 : decode (mC mMo_isFrom) 10 = .ok (.iconst (0), 1) := by decide +kernel
theorem dMo_isFrom_11 : decode (mC mMo_isFrom) 11 = .ok (.invokestatic 150, 3) := by decide +kernel
theorem dMo_isFrom_14 : decode (mC mMo_isFrom) 14 = .ok (.invokevirtual 154, 3) := by decide +kernel
theorem dMo_isFrom_17 : decode (mC mMo_isFrom) 17 = .ok (.ireturn, 1) := by decide +kernel
theorem bMo_isFrom_0 {E : mEn} {d : Nat} {σ : mSt} {Q : mPost} : WP E (d + 1) mMo_isFrom 0 [.ref 166] [] σ Q = WP E d mMo_spelled 0 [.int (nI 102), .int (nI 114), .int (nI 111), .int (nI 109), .int 0, .int 0, uu, uu] [] σ (fun r σ' => WP E (d + 1) mMo_isFrom 14 [.ref 166] (r.toList ++ [.ref 166]) σ' Q) := (w_aload_n dMo_isFrom_0 rfl).trans ((w_bipush (v := (nI 102)) dMo_isFrom_1 rfl).trans ((w_bipush (v := (nI 114)) dMo_isFrom_3 rfl).trans ((w_bipush (v := (nI 111)) dMo_isFrom_5 rfl).trans ((w_bipush (v := (nI 109)) dMo_isFrom_7 rfl).trans ((w_iconst (v := 0) dMo_isFrom_9 rfl).trans ((w_iconst (v := 0) dMo_isFrom_10 rfl).trans (w_stat (vs := [.int (nI 102), .int (nI 114), .int (nI 111), .int (nI 109), .int 0, .int 0]) (st' := [.ref 166]) (es := [.int (nI 102), .int (nI 114), .int (nI 111), .int (nI 109), .int 0, .int 0, uu, uu]) dMo_isFrom_11 rz11_150 rfl rfl rfl (Nat.le_of_ble_eq_true rfl) (Nat.le_of_ble_eq_true rfl) rfl)))))))
theorem bMo_isFrom_14 {E : mEn} {d : Nat} {σ : mSt} {Q : mPost} {q0 : Int64} : WP E (d + 1) mMo_isFrom 14 [.ref 166] [.long q0, .ref 166] σ Q = WP E d mMo_isWord 0 [.ref 166, .long q0, uu] [] σ (fun r σ' => WP E (d + 1) mMo_isFrom 17 [.ref 166] (r.toList ++ []) σ' Q) := w_virt (vs := [.long q0]) (st' := []) (es := [.ref 166, .long q0, uu]) dMo_isFrom_14 rz11_154 rfl sh_166 rfl rfl rfl (Nat.le_of_ble_eq_true rfl) (Nat.le_of_ble_eq_true rfl) rfl
theorem bMo_isFrom_17 {E : mEn} {d : Nat} {σ : mSt} {Q : mPost} {s0 : Int32} (hz0 : s0 = 0 ∨ s0 = 1) : WP E d mMo_isFrom 17 [.ref 166] [.int s0] σ Q = Q (some (.int s0)) σ := w_zret dMo_isFrom_17 rfl hz0
theorem dMo_isTo_0 : decode (mC mMo_isTo) 0 = .ok (.aload_n 0, 1) := by decide +kernel
theorem dMo_isTo_1 : decode (mC mMo_isTo) 1 = .ok (.bipush (116), 2) := by decide +kernel
theorem dMo_isTo_3 : decode (mC mMo_isTo) 3 = .ok (.bipush (111), 2) := by decide +kernel
theorem dMo_isTo_5 : decode (mC mMo_isTo) 5 = .ok (.iconst (0), 1) := by decide +kernel
theorem dMo_isTo_6 : decode (mC mMo_isTo) 6 = .ok (.iconst (0), 1) := by decide +kernel
theorem dMo_isTo_7 : decode (mC mMo_isTo) 7 = .ok (.iconst (0), 1) := by decide +kernel
theorem dMo_isTo_8 : decode (mC mMo_isTo) 8 = .ok (.iconst (0), 1) := by decide +kernel
theorem dMo_isTo_9 : decode (mC mMo_isTo) 9 = .ok (.invokestatic 150, 3) := by decide +kernel
theorem dMo_isTo_12 : decode (mC mMo_isTo) 12 = .ok (.invokevirtual 154, 3) := by decide +kernel
theorem dMo_isTo_15 : decode (mC mMo_isTo) 15 = .ok (.ireturn, 1) := by decide +kernel
theorem bMo_isTo_0 {E : mEn} {d : Nat} {σ : mSt} {Q : mPost} : WP E (d + 1) mMo_isTo 0 [.ref 166] [] σ Q = WP E d mMo_spelled 0 [.int (nI 116), .int (nI 111), .int 0, .int 0, .int 0, .int 0, uu, uu] [] σ (fun r σ' => WP E (d + 1) mMo_isTo 12 [.ref 166] (r.toList ++ [.ref 166]) σ' Q) := (w_aload_n dMo_isTo_0 rfl).trans ((w_bipush (v := (nI 116)) dMo_isTo_1 rfl).trans ((w_bipush (v := (nI 111)) dMo_isTo_3 rfl).trans ((w_iconst (v := 0) dMo_isTo_5 rfl).trans ((w_iconst (v := 0) dMo_isTo_6 rfl).trans ((w_iconst (v := 0) dMo_isTo_7 rfl).trans ((w_iconst (v := 0) dMo_isTo_8 rfl).trans (w_stat (vs := [.int (nI 116), .int (nI 111), .int 0, .int 0, .int 0, .int 0]) (st' := [.ref 166]) (es := [.int (nI 116), .int (nI 111), .int 0, .int 0, .int 0, .int 0, uu, uu]) dMo_isTo_9 rz11_150 rfl rfl rfl (Nat.le_of_ble_eq_true rfl) (Nat.le_of_ble_eq_true rfl) rfl)))))))
theorem bMo_isTo_12 {E : mEn} {d : Nat} {σ : mSt} {Q : mPost} {q0 : Int64} : WP E (d + 1) mMo_isTo 12 [.ref 166] [.long q0, .ref 166] σ Q = WP E d mMo_isWord 0 [.ref 166, .long q0, uu] [] σ (fun r σ' => WP E (d + 1) mMo_isTo 15 [.ref 166] (r.toList ++ []) σ' Q) := w_virt (vs := [.long q0]) (st' := []) (es := [.ref 166, .long q0, uu]) dMo_isTo_12 rz11_154 rfl sh_166 rfl rfl rfl (Nat.le_of_ble_eq_true rfl) (Nat.le_of_ble_eq_true rfl) rfl
theorem bMo_isTo_15 {E : mEn} {d : Nat} {σ : mSt} {Q : mPost} {s0 : Int32} (hz0 : s0 = 0 ∨ s0 = 1) : WP E d mMo_isTo 15 [.ref 166] [.int s0] σ Q = Q (some (.int s0)) σ := w_zret dMo_isTo_15 rfl hz0
theorem dMo_isFor_0 : decode (mC mMo_isFor) 0 = .ok (.aload_n 0, 1) := by decide +kernel
theorem dMo_isFor_1 : decode (mC mMo_isFor) 1 = .ok (.bipush (102), 2) := by decide +kernel
theorem dMo_isFor_3 : decode (mC mMo_isFor) 3 = .ok (.bipush (111), 2) := by decide +kernel
theorem dMo_isFor_5 : decode (mC mMo_isFor) 5 = .ok (.bipush (114), 2) := by decide +kernel
theorem dMo_isFor_7 : decode (mC mMo_isFor) 7 = .ok (.iconst (0), 1) := by decide +kernel
theorem dMo_isFor_8 : decode (mC mMo_isFor) 8 = .ok (.iconst (0), 1) := by decide +kernel
theorem dMo_isFor_9 : decode (mC mMo_isFor) 9 = .ok (.iconst (0), 1) := by decide +kernel
theorem dMo_isFor_10 : decode (mC mMo_isFor) 10 = .ok (.invokestatic 150, 3) := by decide +kernel
theorem dMo_isFor_13 : decode (mC mMo_isFor) 13 = .ok (.invokevirtual 154, 3) := by decide +kernel
theorem dMo_isFor_16 : decode (mC mMo_isFor) 16 = .ok (.ireturn, 1) := by decide +kernel
theorem bMo_isFor_0 {E : mEn} {d : Nat} {σ : mSt} {Q : mPost} : WP E (d + 1) mMo_isFor 0 [.ref 166] [] σ Q = WP E d mMo_spelled 0 [.int (nI 102), .int (nI 111), .int (nI 114), .int 0, .int 0, .int 0, uu, uu] [] σ (fun r σ' => WP E (d + 1) mMo_isFor 13 [.ref 166] (r.toList ++ [.ref 166]) σ' Q) := (w_aload_n dMo_isFor_0 rfl).trans ((w_bipush (v := (nI 102)) dMo_isFor_1 rfl).trans ((w_bipush (v := (nI 111)) dMo_isFor_3 rfl).trans ((w_bipush (v := (nI 114)) dMo_isFor_5 rfl).trans ((w_iconst (v := 0) dMo_isFor_7 rfl).trans ((w_iconst (v := 0) dMo_isFor_8 rfl).trans ((w_iconst (v := 0) dMo_isFor_9 rfl).trans (w_stat (vs := [.int (nI 102), .int (nI 111), .int (nI 114), .int 0, .int 0, .int 0]) (st' := [.ref 166]) (es := [.int (nI 102), .int (nI 111), .int (nI 114), .int 0, .int 0, .int 0, uu, uu]) dMo_isFor_10 rz11_150 rfl rfl rfl (Nat.le_of_ble_eq_true rfl) (Nat.le_of_ble_eq_true rfl) rfl)))))))
theorem bMo_isFor_13 {E : mEn} {d : Nat} {σ : mSt} {Q : mPost} {q0 : Int64} : WP E (d + 1) mMo_isFor 13 [.ref 166] [.long q0, .ref 166] σ Q = WP E d mMo_isWord 0 [.ref 166, .long q0, uu] [] σ (fun r σ' => WP E (d + 1) mMo_isFor 16 [.ref 166] (r.toList ++ []) σ' Q) := w_virt (vs := [.long q0]) (st' := []) (es := [.ref 166, .long q0, uu]) dMo_isFor_13 rz11_154 rfl sh_166 rfl rfl rfl (Nat.le_of_ble_eq_true rfl) (Nat.le_of_ble_eq_true rfl) rfl
theorem bMo_isFor_16 {E : mEn} {d : Nat} {σ : mSt} {Q : mPost} {s0 : Int32} (hz0 : s0 = 0 ∨ s0 = 1) : WP E d mMo_isFor 16 [.ref 166] [.int s0] σ Q = Q (some (.int s0)) σ := w_zret dMo_isFor_16 rfl hz0
