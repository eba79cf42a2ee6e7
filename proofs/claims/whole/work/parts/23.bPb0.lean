theorem dPb_status_0 : decode (mC mPb_status) 0 = .ok (.aload_n 0, 1) := by decide +kernel
theorem dPb_status_1 : decode (mC mPb_status) 1 = .ok (.getfield 72, 3) := by decide +kernel
theorem dPb_status_4 : decode (mC mPb_status) 4 = .ok (.ireturn, 1) := by decide +kernel
theorem bPb_status_0 {E : mEn} {d : Nat} {σ : mSt} {Q : mPost} : WP E d mPb_status 0 [.ref 0] [] σ Q = Q (some (.int (σ.1 0 10))) σ := (w_aload_n dPb_status_0 rfl).trans ((w_geti dPb_status_1 rz10_72 sh_0 rfl).trans (w_iret dPb_status_4 rfl))
theorem dPb_top_0 : decode (mC mPb_top) 0 = .ok (.aload_n 0, 1) := by decide +kernel
theorem dPb_top_1 : decode (mC mPb_top) 1 = .ok (.getfield 75, 3) := by decide +kernel
theorem dPb_top_4 : decode (mC mPb_top) 4 = .ok (.lreturn, 1) := by decide +kernel
theorem bPb_top_0 {E : mEn} {d : Nat} {σ : mSt} {Q : mPost} : WP E d mPb_top 0 [.ref 0] [] σ Q = Q (some (.long (σ.2 0 11))) σ := (w_aload_n dPb_top_0 rfl).trans ((w_getl dPb_top_1 rz10_75 sh_0 rfl).trans (w_lret dPb_top_4 rfl))
theorem dPb_bottom_0 : decode (mC mPb_bottom) 0 = .ok (.aload_n 0, 1) := by decide +kernel
theorem dPb_bottom_1 : decode (mC mPb_bottom) 1 = .ok (.getfield 61, 3) := by decide +kernel
theorem dPb_bottom_4 : decode (mC mPb_bottom) 4 = .ok (.lreturn, 1) := by decide +kernel
theorem bPb_bottom_0 {E : mEn} {d : Nat} {σ : mSt} {Q : mPost} : WP E d mPb_bottom 0 [.ref 0] [] σ Q = Q (some (.long (σ.2 0 12))) σ := (w_aload_n dPb_bottom_0 rfl).trans ((w_getl dPb_bottom_1 rz10_61 sh_0 rfl).trans (w_lret dPb_bottom_4 rfl))
theorem dPb_tray_0 : decode (mC mPb_tray) 0 = .ok (.aload_n 0, 1) := by decide +kernel
theorem dPb_tray_1 : decode (mC mPb_tray) 1 = .ok (.getfield 10, 3) := by decide +kernel
theorem dPb_tray_4 : decode (mC mPb_tray) 4 = .ok (.iload_n 1, 1) := by decide +kernel
theorem dPb_tray_5 : decode (mC mPb_tray) 5 = .ok (.invokevirtual 78, 3) := by decide +kernel
theorem dPb_tray_8 : decode (mC mPb_tray) 8 = .ok (.ifCond .eq (14), 3) := by decide +kernel
theorem dPb_tray_11 : decode (mC mPb_tray) 11 = .ok (.aload_n 0, 1) := by decide +kernel
theorem dPb_tray_12 : decode (mC mPb_tray) 12 = .ok (.getfield 10, 3) := by decide +kernel
theorem dPb_tray_15 : decode (mC mPb_tray) 15 = .ok (.iload_n 2, 1) := by decide +kernel
theorem dPb_tray_16 : decode (mC mPb_tray) 16 = .ok (.invokevirtual 82, 3) := by decide +kernel
theorem dPb_tray_19 : decode (mC mPb_tray) 19 = .ok (.ifCond .ne (9), 3) := by decide +kernel
theorem dPb_tray_22 : decode (mC mPb_tray) 22 = .ok (.aload_n 0, 1) := by decide +kernel
theorem dPb_tray_23 : decode (mC mPb_tray) 23 = .ok (.iconst (1), 1) := by decide +kernel
theorem dPb_tray_24 : decode (mC mPb_tray) 24 = .ok (.invokevirtual 85, 3) := by decide +kernel
theorem dPb_tray_27 : decode (mC mPb_tray) 27 = .ok (.ireturn, 1) := by decide +kernel
theorem dPb_tray_28 : decode (mC mPb_tray) 28 = .ok (.iload_n 3, 1) := by decide +kernel
theorem dPb_tray_29 : decode (mC mPb_tray) 29 = .ok (.bipush (60), 2) := by decide +kernel
theorem dPb_tray_31 : decode (mC mPb_tray) 31 = .ok (.if_icmp .le (9), 3) := by decide +kernel
theorem dPb_tray_34 : decode (mC mPb_tray) 34 = .ok (.aload_n 0, 1) := by decide +kernel
theorem dPb_tray_35 : decode (mC mPb_tray) 35 = .ok (.iconst (5), 1) := by decide +kernel
theorem dPb_tray_36 : decode (mC mPb_tray) 36 = .ok (.invokevirtual 85, 3) := by decide +kernel
theorem dPb_tray_39 : decode (mC mPb_tray) 39 = .ok (.ireturn, 1) := by decide +kernel
theorem dPb_tray_40 : decode (mC mPb_tray) 40 = .ok (.iload_n 3, 1) := by decide +kernel
theorem dPb_tray_41 : decode (mC mPb_tray) 41 = .ok (.ifCond .ge (10), 3) := by decide +kernel
theorem dPb_tray_44 : decode (mC mPb_tray) 44 = .ok (.aload_n 0, 1) := by decide +kernel
theorem dPb_tray_45 : decode (mC mPb_tray) 45 = .ok (.bipush (6), 2) := by decide +kernel
theorem dPb_tray_47 : decode (mC mPb_tray) 47 = .ok (.invokevirtual 85, 3) := by decide +kernel
theorem dPb_tray_50 : decode (mC mPb_tray) 50 = .ok (.ireturn, 1) := by decide +kernel
theorem dPb_tray_51 : decode (mC mPb_tray) 51 = .ok (.aload_n 0, 1) := by decide +kernel
theorem dPb_tray_52 : decode (mC mPb_tray) 52 = .ok (.getfield 10, 3) := by decide +kernel
theorem dPb_tray_55 : decode (mC mPb_tray) 55 = .ok (.iload_n 1, 1) := by decide +kernel
theorem dPb_tray_56 : decode (mC mPb_tray) 56 = .ok (.iload_n 2, 1) := by decide +kernel
theorem dPb_tray_57 : decode (mC mPb_tray) 57 = .ok (.iload_n 3, 1) := by decide +kernel
theorem dPb_tray_58 : decode (mC mPb_tray) 58 = .ok (.invokevirtual 88, 3) := by decide +kernel
theorem dPb_tray_61 : decode (mC mPb_tray) 61 = .ok (.aload_n 0, 1) := by decide +kernel
theorem dPb_tray_62 : decode (mC mPb_tray) 62 = .ok (.invokevirtual 92, 3) := by decide +kernel
theorem dPb_tray_65 : decode (mC mPb_tray) 65 = .ok (.ireturn, 1) := by decide +kernel
theorem bPb_tray_0 {E : mEn} {d : Nat} {σ : mSt} {Q : mPost} {a1 : Int32} {a2 : Int32} {a3 : Int32} : WP E (d + 1) mPb_tray 0 [.ref 0, .int a1, .int a2, .int a3] [] σ Q = WP E d mTr_exists 0 [.ref 1, .int a1] [] σ (fun r σ' => WP E (d + 1) mPb_tray 8 [.ref 0, .int a1, .int a2, .int a3] (r.toList ++ []) σ' Q) := (w_aload_n dPb_tray_0 rfl).trans ((w_getr (r := 1) dPb_tray_1 rz10_10 sh_0 rfl).trans ((w_iload_n dPb_tray_4 rfl).trans (w_virt (vs := [.int a1]) (st' := []) (es := [.ref 1, .int a1]) dPb_tray_5 rz10_78 rfl sh_1 rfl rfl rfl (Nat.le_of_ble_eq_true rfl) (Nat.le_of_ble_eq_true rfl) rfl)))
theorem bPb_tray_8 {E : mEn} {d : Nat} {σ : mSt} {Q : mPost} {a1 : Int32} {a2 : Int32} {a3 : Int32} {s0 : Int32} : WP E d mPb_tray 8 [.ref 0, .int a1, .int a2, .int a3] [.int s0] σ Q = (if s0 = 0 then WP E d mPb_tray 22 [.ref 0, .int a1, .int a2, .int a3] [] σ Q else WP E d mPb_tray 11 [.ref 0, .int a1, .int a2, .int a3] [] σ Q) := w_ifeq (t := 22) dPb_tray_8 (by decide)
theorem bPb_tray_11 {E : mEn} {d : Nat} {σ : mSt} {Q : mPost} {a1 : Int32} {a2 : Int32} {a3 : Int32} : WP E (d + 1) mPb_tray 11 [.ref 0, .int a1, .int a2, .int a3] [] σ Q = WP E d mTr_isSort 0 [.ref 1, .int a2] [] σ (fun r σ' => WP E (d + 1) mPb_tray 19 [.ref 0, .int a1, .int a2, .int a3] (r.toList ++ []) σ' Q) := (w_aload_n dPb_tray_11 rfl).trans ((w_getr (r := 1) dPb_tray_12 rz10_10 sh_0 rfl).trans ((w_iload_n dPb_tray_15 rfl).trans (w_virt (vs := [.int a2]) (st' := []) (es := [.ref 1, .int a2]) dPb_tray_16 rz10_82 rfl sh_1 rfl rfl rfl (Nat.le_of_ble_eq_true rfl) (Nat.le_of_ble_eq_true rfl) rfl)))
theorem bPb_tray_19 {E : mEn} {d : Nat} {σ : mSt} {Q : mPost} {a1 : Int32} {a2 : Int32} {a3 : Int32} {s0 : Int32} : WP E d mPb_tray 19 [.ref 0, .int a1, .int a2, .int a3] [.int s0] σ Q = (if ¬ s0 = 0 then WP E d mPb_tray 28 [.ref 0, .int a1, .int a2, .int a3] [] σ Q else WP E d mPb_tray 22 [.ref 0, .int a1, .int a2, .int a3] [] σ Q) := w_ifne (t := 28) dPb_tray_19 (by decide)
theorem bPb_tray_22 {E : mEn} {d : Nat} {σ : mSt} {Q : mPost} {a1 : Int32} {a2 : Int32} {a3 : Int32} : WP E (d + 1) mPb_tray 22 [.ref 0, .int a1, .int a2, .int a3] [] σ Q = WP E d mPb_deny 0 [.ref 0, .int 1] [] σ (fun r σ' => WP E (d + 1) mPb_tray 27 [.ref 0, .int a1, .int a2, .int a3] (r.toList ++ []) σ' Q) := (w_aload_n dPb_tray_22 rfl).trans ((w_iconst (v := 1) dPb_tray_23 rfl).trans (w_virt (vs := [.int 1]) (st' := []) (es := [.ref 0, .int 1]) dPb_tray_24 rz10_85 rfl sh_0 rfl rfl rfl (Nat.le_of_ble_eq_true rfl) (Nat.le_of_ble_eq_true rfl) rfl))
theorem bPb_tray_27 {E : mEn} {d : Nat} {σ : mSt} {Q : mPost} {a1 : Int32} {a2 : Int32} {a3 : Int32} {s0 : Int32} (hz0 : s0 = 0 ∨ s0 = 1) : WP E d mPb_tray 27 [.ref 0, .int a1, .int a2, .int a3] [.int s0] σ Q = Q (some (.int s0)) σ := w_zret dPb_tray_27 rfl hz0
theorem bPb_tray_28 {E : mEn} {d : Nat} {σ : mSt} {Q : mPost} {a1 : Int32} {a2 : Int32} {a3 : Int32} : WP E d mPb_tray 28 [.ref 0, .int a1, .int a2, .int a3] [] σ Q = (if a3 ≤ (nI 60) then WP E d mPb_tray 40 [.ref 0, .int a1, .int a2, .int a3] [] σ Q else WP E d mPb_tray 34 [.ref 0, .int a1, .int a2, .int a3] [] σ Q) := (w_iload_n dPb_tray_28 rfl).trans ((w_bipush (v := (nI 60)) dPb_tray_29 rfl).trans (w_icmple (t := 40) dPb_tray_31 (by decide)))
theorem bPb_tray_34 {E : mEn} {d : Nat} {σ : mSt} {Q : mPost} {a1 : Int32} {a2 : Int32} {a3 : Int32} : WP E (d + 1) mPb_tray 34 [.ref 0, .int a1, .int a2, .int a3] [] σ Q = WP E d mPb_deny 0 [.ref 0, .int (nI 5)] [] σ (fun r σ' => WP E (d + 1) mPb_tray 39 [.ref 0, .int a1, .int a2, .int a3] (r.toList ++ []) σ' Q) := (w_aload_n dPb_tray_34 rfl).trans ((w_iconst (v := (nI 5)) dPb_tray_35 rfl).trans (w_virt (vs := [.int (nI 5)]) (st' := []) (es := [.ref 0, .int (nI 5)]) dPb_tray_36 rz10_85 rfl sh_0 rfl rfl rfl (Nat.le_of_ble_eq_true rfl) (Nat.le_of_ble_eq_true rfl) rfl))
theorem bPb_tray_39 {E : mEn} {d : Nat} {σ : mSt} {Q : mPost} {a1 : Int32} {a2 : Int32} {a3 : Int32} {s0 : Int32} (hz0 : s0 = 0 ∨ s0 = 1) : WP E d mPb_tray 39 [.ref 0, .int a1, .int a2, .int a3] [.int s0] σ Q = Q (some (.int s0)) σ := w_zret dPb_tray_39 rfl hz0
theorem bPb_tray_40 {E : mEn} {d : Nat} {σ : mSt} {Q : mPost} {a1 : Int32} {a2 : Int32} {a3 : Int32} : WP E d mPb_tray 40 [.ref 0, .int a1, .int a2, .int a3] [] σ Q = (if 0 ≤ a3 then WP E d mPb_tray 51 [.ref 0, .int a1, .int a2, .int a3] [] σ Q else WP E d mPb_tray 44 [.ref 0, .int a1, .int a2, .int a3] [] σ Q) := (w_iload_n dPb_tray_40 rfl).trans (w_ifge (t := 51) dPb_tray_41 (by decide))
theorem bPb_tray_44 {E : mEn} {d : Nat} {σ : mSt} {Q : mPost} {a1 : Int32} {a2 : Int32} {a3 : Int32} : WP E (d + 1) mPb_tray 44 [.ref 0, .int a1, .int a2, .int a3] [] σ Q = WP E d mPb_deny 0 [.ref 0, .int (nI 6)] [] σ (fun r σ' => WP E (d + 1) mPb_tray 50 [.ref 0, .int a1, .int a2, .int a3] (r.toList ++ []) σ' Q) := (w_aload_n dPb_tray_44 rfl).trans ((w_bipush (v := (nI 6)) dPb_tray_45 rfl).trans (w_virt (vs := [.int (nI 6)]) (st' := []) (es := [.ref 0, .int (nI 6)]) dPb_tray_47 rz10_85 rfl sh_0 rfl rfl rfl (Nat.le_of_ble_eq_true rfl) (Nat.le_of_ble_eq_true rfl) rfl))
theorem bPb_tray_50 {E : mEn} {d : Nat} {σ : mSt} {Q : mPost} {a1 : Int32} {a2 : Int32} {a3 : Int32} {s0 : Int32} (hz0 : s0 = 0 ∨ s0 = 1) : WP E d mPb_tray 50 [.ref 0, .int a1, .int a2, .int a3] [.int s0] σ Q = Q (some (.int s0)) σ := w_zret dPb_tray_50 rfl hz0
theorem bPb_tray_51 {E : mEn} {d : Nat} {σ : mSt} {Q : mPost} {a1 : Int32} {a2 : Int32} {a3 : Int32} : WP E (d + 1) mPb_tray 51 [.ref 0, .int a1, .int a2, .int a3] [] σ Q = WP E d mTr_lay 0 [.ref 1, .int a1, .int a2, .int a3, uu] [] σ (fun r σ' => WP E (d + 1) mPb_tray 61 [.ref 0, .int a1, .int a2, .int a3] (r.toList ++ []) σ' Q) := (w_aload_n dPb_tray_51 rfl).trans ((w_getr (r := 1) dPb_tray_52 rz10_10 sh_0 rfl).trans ((w_iload_n dPb_tray_55 rfl).trans ((w_iload_n dPb_tray_56 rfl).trans ((w_iload_n dPb_tray_57 rfl).trans (w_virt (vs := [.int a1, .int a2, .int a3]) (st' := []) (es := [.ref 1, .int a1, .int a2, .int a3, uu]) dPb_tray_58 rz10_88 rfl sh_1 rfl rfl rfl (Nat.le_of_ble_eq_true rfl) (Nat.le_of_ble_eq_true rfl) rfl)))))
theorem bPb_tray_61 {E : mEn} {d : Nat} {σ : mSt} {Q : mPost} {a1 : Int32} {a2 : Int32} {a3 : Int32} : WP E (d + 1) mPb_tray 61 [.ref 0, .int a1, .int a2, .int a3] [] σ Q = WP E d mPb_grant 0 [.ref 0] [] σ (fun r σ' => WP E (d + 1) mPb_tray 65 [.ref 0, .int a1, .int a2, .int a3] (r.toList ++ []) σ' Q) := (w_aload_n dPb_tray_61 rfl).trans (w_virt (vs := []) (st' := []) (es := [.ref 0]) dPb_tray_62 rz10_92 rfl sh_0 rfl rfl rfl (Nat.le_of_ble_eq_true rfl) (Nat.le_of_ble_eq_true rfl) rfl)
theorem bPb_tray_65 {E : mEn} {d : Nat} {σ : mSt} {Q : mPost} {a1 : Int32} {a2 : Int32} {a3 : Int32} {s0 : Int32} (hz0 : s0 = 0 ∨ s0 = 1) : WP E d mPb_tray 65 [.ref 0, .int a1, .int a2, .int a3] [.int s0] σ Q = Q (some (.int s0)) σ := w_zret dPb_tray_65 rfl hz0
theorem dPb_deny_0 : decode (mC mPb_deny) 0 = .ok (.aload_n 0, 1) := by decide +kernel
theorem dPb_deny_1 : decode (mC mPb_deny) 1 = .ok (.iload_n 1, 1) := by decide +kernel
theorem dPb_deny_2 : decode (mC mPb_deny) 2 = .ok (.putfield 72, 3) := by decide +kernel
theorem dPb_deny_5 : decode (mC mPb_deny) 5 = .ok (.iconst (0), 1) := by decide +kernel
theorem dPb_deny_6 : decode (mC mPb_deny) 6 = .ok (.ireturn, 1) := by decide +kernel
theorem bPb_deny_0 {E : mEn} {d : Nat} {σ : mSt} {Q : mPost} {a1 : Int32} : WP E d mPb_deny 0 [.ref 0, .int a1] [] σ Q = Q (some (.int 0)) (sI σ 0 10 a1) := (w_aload_n dPb_deny_0 rfl).trans ((w_iload_n dPb_deny_1 rfl).trans ((w_puti dPb_deny_2 rz10_72 sh_0 rfl rfl rfl).trans ((w_iconst (v := 0) dPb_deny_5 rfl).trans (w_zret dPb_deny_6 rfl (Or.inl rfl)))))
theorem dPb_grant_0 : decode (mC mPb_grant) 0 = .ok (.aload_n 0, 1) := by decide +kernel
theorem dPb_grant_1 : decode (mC mPb_grant) 1 = .ok (.iconst (0), 1) := by decide +kernel
theorem dPb_grant_2 : decode (mC mPb_grant) 2 = .ok (.putfield 72, 3) := by decide +kernel
theorem dPb_grant_5 : decode (mC mPb_grant) 5 = .ok (.iconst (1), 1) := by decide +kernel
theorem dPb_grant_6 : decode (mC mPb_grant) 6 = .ok (.ireturn, 1) := by decide +kernel
theorem bPb_grant_0 {E : mEn} {d : Nat} {σ : mSt} {Q : mPost} : WP E d mPb_grant 0 [.ref 0] [] σ Q = Q (some (.int 1)) (sI σ 0 10 0) := (w_aload_n dPb_grant_0 rfl).trans ((w_iconst (v := 0) dPb_grant_1 rfl).trans ((w_puti dPb_grant_2 rz10_72 sh_0 rfl rfl rfl).trans ((w_iconst (v := 1) dPb_grant_5 rfl).trans (w_zret dPb_grant_6 rfl (Or.inr rfl)))))
theorem dPb_write_0 : decode (mC mPb_write) 0 = .ok (.aload_n 0, 1) := by decide +kernel
theorem dPb_write_1 : decode (mC mPb_write) 1 = .ok (.getfield 10, 3) := by decide +kernel
theorem dPb_write_4 : decode (mC mPb_write) 4 = .ok (.iload_n 1, 1) := by decide +kernel
theorem dPb_write_5 : decode (mC mPb_write) 5 = .ok (.iload_n 2, 1) := by decide +kernel
theorem dPb_write_6 : decode (mC mPb_write) 6 = .ok (.invokevirtual 96, 3) := by decide +kernel
theorem dPb_write_9 : decode (mC mPb_write) 9 = .ok (.istore 5, 2) := by decide +kernel
theorem dPb_write_11 : decode (mC mPb_write) 11 = .ok (.iload 5, 2) := by decide +kernel
theorem dPb_write_13 : decode (mC mPb_write) 13 = .ok (.ifCond .eq (10), 3) := by decide +kernel
theorem dPb_write_16 : decode (mC mPb_write) 16 = .ok (.aload_n 0, 1) := by decide +kernel
theorem dPb_write_17 : decode (mC mPb_write) 17 = .ok (.iload 5, 2) := by decide +kernel
theorem dPb_write_19 : decode (mC mPb_write) 19 = .ok (.invokevirtual 85, 3) := by decide +kernel
theorem dPb_write_22 : decode (mC mPb_write) 22 = .ok (.ireturn, 1) := by decide +kernel
theorem dPb_write_23 : decode (mC mPb_write) 23 = .ok (.aload_n 0, 1) := by decide +kernel
theorem dPb_write_24 : decode (mC mPb_write) 24 = .ok (.getfield 10, 3) := by decide +kernel
theorem dPb_write_27 : decode (mC mPb_write) 27 = .ok (.iload_n 1, 1) := by decide +kernel
theorem dPb_write_28 : decode (mC mPb_write) 28 = .ok (.iload_n 2, 1) := by decide +kernel
theorem dPb_write_29 : decode (mC mPb_write) 29 = .ok (.lload_n 3, 1) := by decide +kernel
theorem dPb_write_30 : decode (mC mPb_write) 30 = .ok (.invokevirtual 100, 3) := by decide +kernel
theorem dPb_write_33 : decode (mC mPb_write) 33 = .ok (.aload_n 0, 1) := by decide +kernel
theorem dPb_write_34 : decode (mC mPb_write) 34 = .ok (.invokevirtual 92, 3) := by decide +kernel
theorem dPb_write_37 : decode (mC mPb_write) 37 = .ok (.ireturn, 1) := by decide +kernel
theorem bPb_write_0 {E : mEn} {d : Nat} {σ : mSt} {Q : mPost} {a1 : Int32} {a2 : Int32} {j3 : Int64} {u5 : Value} : WP E (d + 1) mPb_write 0 [.ref 0, .int a1, .int a2, .long j3, uu, u5] [] σ Q = WP E d mTr_whyNot 0 [.ref 1, .int a1, .int a2] [] σ (fun r σ' => WP E (d + 1) mPb_write 9 [.ref 0, .int a1, .int a2, .long j3, uu, u5] (r.toList ++ []) σ' Q) := (w_aload_n dPb_write_0 rfl).trans ((w_getr (r := 1) dPb_write_1 rz10_10 sh_0 rfl).trans ((w_iload_n dPb_write_4 rfl).trans ((w_iload_n dPb_write_5 rfl).trans (w_virt (vs := [.int a1, .int a2]) (st' := []) (es := [.ref 1, .int a1, .int a2]) dPb_write_6 rz10_96 rfl sh_1 rfl rfl rfl (Nat.le_of_ble_eq_true rfl) (Nat.le_of_ble_eq_true rfl) rfl))))
theorem bPb_write_9 {E : mEn} {d : Nat} {σ : mSt} {Q : mPost} {a1 : Int32} {a2 : Int32} {j3 : Int64} {u5 : Value} {s0 : Int32} : WP E d mPb_write 9 [.ref 0, .int a1, .int a2, .long j3, uu, u5] [.int s0] σ Q = (if s0 = 0 then WP E d mPb_write 23 [.ref 0, .int a1, .int a2, .long j3, uu, .int s0] [] σ Q else WP E d mPb_write 16 [.ref 0, .int a1, .int a2, .long j3, uu, .int s0] [] σ Q) := (w_istore (ls' := [.ref 0, .int a1, .int a2, .long j3, uu, .int s0]) dPb_write_9 (Nat.le_of_ble_eq_true rfl) rfl).trans ((w_iload dPb_write_11 rfl).trans (w_ifeq (t := 23) dPb_write_13 (by decide)))
theorem bPb_write_16 {E : mEn} {d : Nat} {σ : mSt} {Q : mPost} {a1 : Int32} {a2 : Int32} {j3 : Int64} {a5 : Int32} : WP E (d + 1) mPb_write 16 [.ref 0, .int a1, .int a2, .long j3, uu, .int a5] [] σ Q = WP E d mPb_deny 0 [.ref 0, .int a5] [] σ (fun r σ' => WP E (d + 1) mPb_write 22 [.ref 0, .int a1, .int a2, .long j3, uu, .int a5] (r.toList ++ []) σ' Q) := (w_aload_n dPb_write_16 rfl).trans ((w_iload dPb_write_17 rfl).trans (w_virt (vs := [.int a5]) (st' := []) (es := [.ref 0, .int a5]) dPb_write_19 rz10_85 rfl sh_0 rfl rfl rfl (Nat.le_of_ble_eq_true rfl) (Nat.le_of_ble_eq_true rfl) rfl))
theorem bPb_write_22 {E : mEn} {d : Nat} {σ : mSt} {Q : mPost} {a1 : Int32} {a2 : Int32} {j3 : Int64} {a5 : Int32} {s0 : Int32} (hz0 : s0 = 0 ∨ s0 = 1) : WP E d mPb_write 22 [.ref 0, .int a1, .int a2, .long j3, uu, .int a5] [.int s0] σ Q = Q (some (.int s0)) σ := w_zret dPb_write_22 rfl hz0
theorem bPb_write_23 {E : mEn} {d : Nat} {σ : mSt} {Q : mPost} {a1 : Int32} {a2 : Int32} {j3 : Int64} {a5 : Int32} : WP E (d + 1) mPb_write 23 [.ref 0, .int a1, .int a2, .long j3, uu, .int a5] [] σ Q = WP E d mTr_put 0 [.ref 1, .int a1, .int a2, .long j3, uu] [] σ (fun r σ' => WP E (d + 1) mPb_write 33 [.ref 0, .int a1, .int a2, .long j3, uu, .int a5] (r.toList ++ []) σ' Q) := (w_aload_n dPb_write_23 rfl).trans ((w_getr (r := 1) dPb_write_24 rz10_10 sh_0 rfl).trans ((w_iload_n dPb_write_27 rfl).trans ((w_iload_n dPb_write_28 rfl).trans ((w_lload_n dPb_write_29 rfl).trans (w_virt (vs := [.int a1, .int a2, .long j3]) (st' := []) (es := [.ref 1, .int a1, .int a2, .long j3, uu]) dPb_write_30 rz10_100 rfl sh_1 rfl rfl rfl (Nat.le_of_ble_eq_true rfl) (Nat.le_of_ble_eq_true rfl) rfl)))))
theorem bPb_write_33 {E : mEn} {d : Nat} {σ : mSt} {Q : mPost} {a1 : Int32} {a2 : Int32} {j3 : Int64} {a5 : Int32} : WP E (d + 1) mPb_write 33 [.ref 0, .int a1, .int a2, .long j3, uu, .int a5] [] σ Q = WP E d mPb_grant 0 [.ref 0] [] σ (fun r σ' => WP E (d + 1) mPb_write 37 [.ref 0, .int a1, .int a2, .long j3, uu, .int a5] (r.toList ++ []) σ' Q) := (w_aload_n dPb_write_33 rfl).trans (w_virt (vs := []) (st' := []) (es := [.ref 0]) dPb_write_34 rz10_92 rfl sh_0 rfl rfl rfl (Nat.le_of_ble_eq_true rfl) (Nat.le_of_ble_eq_true rfl) rfl)
theorem bPb_write_37 {E : mEn} {d : Nat} {σ : mSt} {Q : mPost} {a1 : Int32} {a2 : Int32} {j3 : Int64} {a5 : Int32} {s0 : Int32} (hz0 : s0 = 0 ∨ s0 = 1) : WP E d mPb_write 37 [.ref 0, .int a1, .int a2, .long j3, uu, .int a5] [.int s0] σ Q = Q (some (.int s0)) σ := w_zret dPb_write_37 rfl hz0
theorem dPb_read_0 : decode (mC mPb_read) 0 = .ok (.aload_n 0, 1) := by decide +kernel
theorem dPb_read_1 : decode (mC mPb_read) 1 = .ok (.getfield 10, 3) := by decide +kernel
theorem dPb_read_4 : decode (mC mPb_read) 4 = .ok (.iload_n 1, 1) := by decide +kernel
theorem dPb_read_5 : decode (mC mPb_read) 5 = .ok (.iload_n 2, 1) := by decide +kernel
theorem dPb_read_6 : decode (mC mPb_read) 6 = .ok (.invokevirtual 96, 3) := by decide +kernel
theorem dPb_read_9 : decode (mC mPb_read) 9 = .ok (.istore_n 3, 1) := by decide +kernel
theorem dPb_read_10 : decode (mC mPb_read) 10 = .ok (.iload_n 3, 1) := by decide +kernel
theorem dPb_read_11 : decode (mC mPb_read) 11 = .ok (.ifCond .eq (10), 3) := by decide +kernel
theorem dPb_read_14 : decode (mC mPb_read) 14 = .ok (.aload_n 0, 1) := by decide +kernel
theorem dPb_read_15 : decode (mC mPb_read) 15 = .ok (.iload_n 3, 1) := by decide +kernel
theorem dPb_read_16 : decode (mC mPb_read) 16 = .ok (.invokevirtual 104, 3) := by decide +kernel
theorem dPb_read_19 : decode (mC mPb_read) 19 = .ok (.i2l, 1) := by decide +kernel
theorem dPb_read_20 : decode (mC mPb_read) 20 = .ok (.lreturn, 1) := by decide +kernel
theorem dPb_read_21 : decode (mC mPb_read) 21 = .ok (.aload_n 0, 1) := by decide +kernel
theorem dPb_read_22 : decode (mC mPb_read) 22 = .ok (.iconst (0), 1) := by decide +kernel
theorem dPb_read_23 : decode (mC mPb_read) 23 = .ok (.putfield 72, 3) := by decide +kernel
theorem dPb_read_26 : decode (mC mPb_read) 26 = .ok (.aload_n 0, 1) := by decide +kernel
theorem dPb_read_27 : decode (mC mPb_read) 27 = .ok (.getfield 10, 3) := by decide +kernel
theorem dPb_read_30 : decode (mC mPb_read) 30 = .ok (.iload_n 1, 1) := by decide +kernel
theorem dPb_read_31 : decode (mC mPb_read) 31 = .ok (.iload_n 2, 1) := by decide +kernel
theorem dPb_read_32 : decode (mC mPb_read) 32 = .ok (.invokevirtual 108, 3) := by decide +kernel
theorem dPb_read_35 : decode (mC mPb_read) 35 = .ok (.lreturn, 1) := by decide +kernel
theorem bPb_read_0 {E : mEn} {d : Nat} {σ : mSt} {Q : mPost} {a1 : Int32} {a2 : Int32} {u3 : Value} : WP E (d + 1) mPb_read 0 [.ref 0, .int a1, .int a2, u3] [] σ Q = WP E d mTr_whyNot 0 [.ref 1, .int a1, .int a2] [] σ (fun r σ' => WP E (d + 1) mPb_read 9 [.ref 0, .int a1, .int a2, u3] (r.toList ++ []) σ' Q) := (w_aload_n dPb_read_0 rfl).trans ((w_getr (r := 1) dPb_read_1 rz10_10 sh_0 rfl).trans ((w_iload_n dPb_read_4 rfl).trans ((w_iload_n dPb_read_5 rfl).trans (w_virt (vs := [.int a1, .int a2]) (st' := []) (es := [.ref 1, .int a1, .int a2]) dPb_read_6 rz10_96 rfl sh_1 rfl rfl rfl (Nat.le_of_ble_eq_true rfl) (Nat.le_of_ble_eq_true rfl) rfl))))
theorem bPb_read_9 {E : mEn} {d : Nat} {σ : mSt} {Q : mPost} {a1 : Int32} {a2 : Int32} {u3 : Value} {s0 : Int32} : WP E d mPb_read 9 [.ref 0, .int a1, .int a2, u3] [.int s0] σ Q = (if s0 = 0 then WP E d mPb_read 21 [.ref 0, .int a1, .int a2, .int s0] [] σ Q else WP E d mPb_read 14 [.ref 0, .int a1, .int a2, .int s0] [] σ Q) := (w_istore_n (ls' := [.ref 0, .int a1, .int a2, .int s0]) dPb_read_9 (Nat.le_of_ble_eq_true rfl) rfl).trans ((w_iload_n dPb_read_10 rfl).trans (w_ifeq (t := 21) dPb_read_11 (by decide)))
theorem bPb_read_14 {E : mEn} {d : Nat} {σ : mSt} {Q : mPost} {a1 : Int32} {a2 : Int32} {a3 : Int32} : WP E (d + 1) mPb_read 14 [.ref 0, .int a1, .int a2, .int a3] [] σ Q = WP E d mPb_refuse 0 [.ref 0, .int a3] [] σ (fun r σ' => WP E (d + 1) mPb_read 19 [.ref 0, .int a1, .int a2, .int a3] (r.toList ++ []) σ' Q) := (w_aload_n dPb_read_14 rfl).trans ((w_iload_n dPb_read_15 rfl).trans (w_virt (vs := [.int a3]) (st' := []) (es := [.ref 0, .int a3]) dPb_read_16 rz10_104 rfl sh_0 rfl rfl rfl (Nat.le_of_ble_eq_true rfl) (Nat.le_of_ble_eq_true rfl) rfl))
theorem bPb_read_19 {E : mEn} {d : Nat} {σ : mSt} {Q : mPost} {a1 : Int32} {a2 : Int32} {a3 : Int32} {s0 : Int32} : WP E d mPb_read 19 [.ref 0, .int a1, .int a2, .int a3] [.int s0] σ Q = Q (some (.long (s0.toInt64))) σ := (w_i2l dPb_read_19).trans (w_lret dPb_read_20 rfl)
theorem bPb_read_21 {E : mEn} {d : Nat} {σ : mSt} {Q : mPost} {a1 : Int32} {a2 : Int32} {a3 : Int32} : WP E (d + 1) mPb_read 21 [.ref 0, .int a1, .int a2, .int a3] [] σ Q = WP E d mTr_at 0 [.ref 1, .int a1, .int a2] [] (sI σ 0 10 0) (fun r σ' => WP E (d + 1) mPb_read 35 [.ref 0, .int a1, .int a2, .int a3] (r.toList ++ []) σ' Q) := (w_aload_n dPb_read_21 rfl).trans ((w_iconst (v := 0) dPb_read_22 rfl).trans ((w_puti dPb_read_23 rz10_72 sh_0 rfl rfl rfl).trans ((w_aload_n dPb_read_26 rfl).trans ((w_getr (r := 1) dPb_read_27 rz10_10 sh_0 rfl).trans ((w_iload_n dPb_read_30 rfl).trans ((w_iload_n dPb_read_31 rfl).trans (w_virt (vs := [.int a1, .int a2]) (st' := []) (es := [.ref 1, .int a1, .int a2]) dPb_read_32 rz10_108 rfl sh_1 rfl rfl rfl (Nat.le_of_ble_eq_true rfl) (Nat.le_of_ble_eq_true rfl) rfl)))))))
theorem bPb_read_35 {E : mEn} {d : Nat} {σ : mSt} {Q : mPost} {a1 : Int32} {a2 : Int32} {a3 : Int32} {q0 : Int64} : WP E d mPb_read 35 [.ref 0, .int a1, .int a2, .int a3] [.long q0] σ Q = Q (some (.long q0)) σ := w_lret dPb_read_35 rfl
theorem dPb_refuse_0 : decode (mC mPb_refuse) 0 = .ok (.aload_n 0, 1) := by decide +kernel
theorem dPb_refuse_1 : decode (mC mPb_refuse) 1 = .ok (.iload_n 1, 1) := by decide +kernel
theorem dPb_refuse_2 : decode (mC mPb_refuse) 2 = .ok (.putfield 72, 3) := by decide +kernel
theorem dPb_refuse_5 : decode (mC mPb_refuse) 5 = .ok (.iconst (-1), 1) := by decide +kernel
theorem dPb_refuse_6 : decode (mC mPb_refuse) 6 = .ok (.ireturn, 1) := by decide +kernel
theorem bPb_refuse_0 {E : mEn} {d : Nat} {σ : mSt} {Q : mPost} {a1 : Int32} : WP E d mPb_refuse 0 [.ref 0, .int a1] [] σ Q = Q (some (.int (-1))) (sI σ 0 10 a1) := (w_aload_n dPb_refuse_0 rfl).trans ((w_iload_n dPb_refuse_1 rfl).trans ((w_puti dPb_refuse_2 rz10_72 sh_0 rfl rfl rfl).trans ((w_iconst (v := (-1)) dPb_refuse_5 rfl).trans (w_iret dPb_refuse_6 rfl))))
theorem dPb_pour_0 : decode (mC mPb_pour) 0 = .ok (.aload_n 0, 1) := by decide +kernel
theorem dPb_pour_1 : decode (mC mPb_pour) 1 = .ok (.getfield 10, 3) := by decide +kernel
theorem dPb_pour_4 : decode (mC mPb_pour) 4 = .ok (.iload_n 1, 1) := by decide +kernel
theorem dPb_pour_5 : decode (mC mPb_pour) 5 = .ok (.invokevirtual 78, 3) := by decide +kernel
theorem dPb_pour_8 : decode (mC mPb_pour) 8 = .ok (.ifCond .eq (14), 3) := by decide +kernel
theorem dPb_pour_11 : decode (mC mPb_pour) 11 = .ok (.aload_n 0, 1) := by decide +kernel
theorem dPb_pour_12 : decode (mC mPb_pour) 12 = .ok (.getfield 10, 3) := by decide +kernel
theorem dPb_pour_15 : decode (mC mPb_pour) 15 = .ok (.iload_n 3, 1) := by decide +kernel
theorem dPb_pour_16 : decode (mC mPb_pour) 16 = .ok (.invokevirtual 78, 3) := by decide +kernel
theorem dPb_pour_19 : decode (mC mPb_pour) 19 = .ok (.ifCond .ne (9), 3) := by decide +kernel
theorem dPb_pour_22 : decode (mC mPb_pour) 22 = .ok (.aload_n 0, 1) := by decide +kernel
theorem dPb_pour_23 : decode (mC mPb_pour) 23 = .ok (.iconst (1), 1) := by decide +kernel
theorem dPb_pour_24 : decode (mC mPb_pour) 24 = .ok (.invokevirtual 85, 3) := by decide +kernel
theorem dPb_pour_27 : decode (mC mPb_pour) 27 = .ok (.ireturn, 1) := by decide +kernel
theorem dPb_pour_28 : decode (mC mPb_pour) 28 = .ok (.aload_n 0, 1) := by decide +kernel
theorem dPb_pour_29 : decode (mC mPb_pour) 29 = .ok (.getfield 10, 3) := by decide +kernel
theorem dPb_pour_32 : decode (mC mPb_pour) 32 = .ok (.iload_n 1, 1) := by decide +kernel
theorem dPb_pour_33 : decode (mC mPb_pour) 33 = .ok (.invokevirtual 112, 3) := by decide +kernel
theorem dPb_pour_36 : decode (mC mPb_pour) 36 = .ok (.ifCond .ne (14), 3) := by decide +kernel
theorem dPb_pour_39 : decode (mC mPb_pour) 39 = .ok (.aload_n 0, 1) := by decide +kernel
theorem dPb_pour_40 : decode (mC mPb_pour) 40 = .ok (.getfield 10, 3) := by decide +kernel
theorem dPb_pour_43 : decode (mC mPb_pour) 43 = .ok (.iload_n 3, 1) := by decide +kernel
theorem dPb_pour_44 : decode (mC mPb_pour) 44 = .ok (.invokevirtual 112, 3) := by decide +kernel
theorem dPb_pour_47 : decode (mC mPb_pour) 47 = .ok (.ifCond .eq (9), 3) := by decide +kernel
theorem dPb_pour_50 : decode (mC mPb_pour) 50 = .ok (.aload_n 0, 1) := by decide +kernel
theorem dPb_pour_51 : decode (mC mPb_pour) 51 = .ok (.iconst (3), 1) := by decide +kernel
theorem dPb_pour_52 : decode (mC mPb_pour) 52 = .ok (.invokevirtual 85, 3) := by decide +kernel
theorem dPb_pour_55 : decode (mC mPb_pour) 55 = .ok (.ireturn, 1) := by decide +kernel
theorem dPb_pour_56 : decode (mC mPb_pour) 56 = .ok (.aload_n 0, 1) := by decide +kernel
theorem dPb_pour_57 : decode (mC mPb_pour) 57 = .ok (.getfield 10, 3) := by decide +kernel
theorem dPb_pour_60 : decode (mC mPb_pour) 60 = .ok (.iload_n 1, 1) := by decide +kernel
theorem dPb_pour_61 : decode (mC mPb_pour) 61 = .ok (.iload_n 3, 1) := by decide +kernel
theorem dPb_pour_62 : decode (mC mPb_pour) 62 = .ok (.invokevirtual 115, 3) := by decide +kernel
theorem dPb_pour_65 : decode (mC mPb_pour) 65 = .ok (.ifCond .ne (10), 3) := by decide +kernel
theorem dPb_pour_68 : decode (mC mPb_pour) 68 = .ok (.aload_n 0, 1) := by decide +kernel
theorem dPb_pour_69 : decode (mC mPb_pour) 69 = .ok (.bipush (11), 2) := by decide +kernel
theorem dPb_pour_71 : decode (mC mPb_pour) 71 = .ok (.invokevirtual 85, 3) := by decide +kernel
theorem dPb_pour_74 : decode (mC mPb_pour) 74 = .ok (.ireturn, 1) := by decide +kernel
theorem dPb_pour_75 : decode (mC mPb_pour) 75 = .ok (.iload 5, 2) := by decide +kernel
theorem dPb_pour_77 : decode (mC mPb_pour) 77 = .ok (.ifCond .ge (10), 3) := by decide +kernel
theorem dPb_pour_80 : decode (mC mPb_pour) 80 = .ok (.aload_n 0, 1) := by decide +kernel
theorem dPb_pour_81 : decode (mC mPb_pour) 81 = .ok (.bipush (6), 2) := by decide +kernel
theorem dPb_pour_83 : decode (mC mPb_pour) 83 = .ok (.invokevirtual 85, 3) := by decide +kernel
theorem dPb_pour_86 : decode (mC mPb_pour) 86 = .ok (.ireturn, 1) := by decide +kernel
theorem dPb_pour_87 : decode (mC mPb_pour) 87 = .ok (.aload_n 0, 1) := by decide +kernel
theorem dPb_pour_88 : decode (mC mPb_pour) 88 = .ok (.getfield 10, 3) := by decide +kernel
theorem dPb_pour_91 : decode (mC mPb_pour) 91 = .ok (.iload_n 1, 1) := by decide +kernel
theorem dPb_pour_92 : decode (mC mPb_pour) 92 = .ok (.iload_n 2, 1) := by decide +kernel
theorem dPb_pour_93 : decode (mC mPb_pour) 93 = .ok (.iload 5, 2) := by decide +kernel
theorem dPb_pour_95 : decode (mC mPb_pour) 95 = .ok (.invokevirtual 119, 3) := by decide +kernel
theorem dPb_pour_98 : decode (mC mPb_pour) 98 = .ok (.ifCond .eq (18), 3) := by decide +kernel
theorem dPb_pour_101 : decode (mC mPb_pour) 101 = .ok (.aload_n 0, 1) := by decide +kernel
theorem dPb_pour_102 : decode (mC mPb_pour) 102 = .ok (.getfield 10, 3) := by decide +kernel
theorem dPb_pour_105 : decode (mC mPb_pour) 105 = .ok (.iload_n 3, 1) := by decide +kernel
theorem dPb_pour_106 : decode (mC mPb_pour) 106 = .ok (.iload 4, 2) := by decide +kernel
theorem dPb_pour_108 : decode (mC mPb_pour) 108 = .ok (.iload 5, 2) := by decide +kernel
theorem dPb_pour_110 : decode (mC mPb_pour) 110 = .ok (.invokevirtual 119, 3) := by decide +kernel
theorem dPb_pour_113 : decode (mC mPb_pour) 113 = .ok (.ifCond .ne (9), 3) := by decide +kernel
theorem dPb_pour_116 : decode (mC mPb_pour) 116 = .ok (.aload_n 0, 1) := by decide +kernel
theorem dPb_pour_117 : decode (mC mPb_pour) 117 = .ok (.iconst (4), 1) := by decide +kernel
theorem dPb_pour_118 : decode (mC mPb_pour) 118 = .ok (.invokevirtual 85, 3) := by decide +kernel
theorem dPb_pour_121 : decode (mC mPb_pour) 121 = .ok (.ireturn, 1) := by decide +kernel
theorem dPb_pour_122 : decode (mC mPb_pour) 122 = .ok (.aload_n 0, 1) := by decide +kernel
theorem dPb_pour_123 : decode (mC mPb_pour) 123 = .ok (.getfield 10, 3) := by decide +kernel
theorem dPb_pour_126 : decode (mC mPb_pour) 126 = .ok (.iload_n 1, 1) := by decide +kernel
theorem dPb_pour_127 : decode (mC mPb_pour) 127 = .ok (.iload_n 2, 1) := by decide +kernel
theorem dPb_pour_128 : decode (mC mPb_pour) 128 = .ok (.iload_n 3, 1) := by decide +kernel
theorem dPb_pour_129 : decode (mC mPb_pour) 129 = .ok (.iload 4, 2) := by decide +kernel
theorem dPb_pour_131 : decode (mC mPb_pour) 131 = .ok (.iload 5, 2) := by decide +kernel
theorem dPb_pour_133 : decode (mC mPb_pour) 133 = .ok (.invokevirtual 123, 3) := by decide +kernel
theorem dPb_pour_136 : decode (mC mPb_pour) 136 = .ok (.aload_n 0, 1) := by decide +kernel
theorem dPb_pour_137 : decode (mC mPb_pour) 137 = .ok (.invokevirtual 92, 3) := by decide +kernel
theorem dPb_pour_140 : decode (mC mPb_pour) 140 = .ok (.ireturn, 1) := by decide +kernel
theorem bPb_pour_0 {E : mEn} {d : Nat} {σ : mSt} {Q : mPost} {a1 : Int32} {a2 : Int32} {a3 : Int32} {a4 : Int32} {a5 : Int32} : WP E (d + 1) mPb_pour 0 [.ref 0, .int a1, .int a2, .int a3, .int a4, .int a5] [] σ Q = WP E d mTr_exists 0 [.ref 1, .int a1] [] σ (fun r σ' => WP E (d + 1) mPb_pour 8 [.ref 0, .int a1, .int a2, .int a3, .int a4, .int a5] (r.toList ++ []) σ' Q) := (w_aload_n dPb_pour_0 rfl).trans ((w_getr (r := 1) dPb_pour_1 rz10_10 sh_0 rfl).trans ((w_iload_n dPb_pour_4 rfl).trans (w_virt (vs := [.int a1]) (st' := []) (es := [.ref 1, .int a1]) dPb_pour_5 rz10_78 rfl sh_1 rfl rfl rfl (Nat.le_of_ble_eq_true rfl) (Nat.le_of_ble_eq_true rfl) rfl)))
theorem bPb_pour_8 {E : mEn} {d : Nat} {σ : mSt} {Q : mPost} {a1 : Int32} {a2 : Int32} {a3 : Int32} {a4 : Int32} {a5 : Int32} {s0 : Int32} : WP E d mPb_pour 8 [.ref 0, .int a1, .int a2, .int a3, .int a4, .int a5] [.int s0] σ Q = (if s0 = 0 then WP E d mPb_pour 22 [.ref 0, .int a1, .int a2, .int a3, .int a4, .int a5] [] σ Q else WP E d mPb_pour 11 [.ref 0, .int a1, .int a2, .int a3, .int a4, .int a5] [] σ Q) := w_ifeq (t := 22) dPb_pour_8 (by decide)
theorem bPb_pour_11 {E : mEn} {d : Nat} {σ : mSt} {Q : mPost} {a1 : Int32} {a2 : Int32} {a3 : Int32} {a4 : Int32} {a5 : Int32} : WP E (d + 1) mPb_pour 11 [.ref 0, .int a1, .int a2, .int a3, .int a4, .int a5] [] σ Q = WP E d mTr_exists 0 [.ref 1, .int a3] [] σ (fun r σ' => WP E (d + 1) mPb_pour 19 [.ref 0, .int a1, .int a2, .int a3, .int a4, .int a5] (r.toList ++ []) σ' Q) := (w_aload_n dPb_pour_11 rfl).trans ((w_getr (r := 1) dPb_pour_12 rz10_10 sh_0 rfl).trans ((w_iload_n dPb_pour_15 rfl).trans (w_virt (vs := [.int a3]) (st' := []) (es := [.ref 1, .int a3]) dPb_pour_16 rz10_78 rfl sh_1 rfl rfl rfl (Nat.le_of_ble_eq_true rfl) (Nat.le_of_ble_eq_true rfl) rfl)))
theorem bPb_pour_19 {E : mEn} {d : Nat} {σ : mSt} {Q : mPost} {a1 : Int32} {a2 : Int32} {a3 : Int32} {a4 : Int32} {a5 : Int32} {s0 : Int32} : WP E d mPb_pour 19 [.ref 0, .int a1, .int a2, .int a3, .int a4, .int a5] [.int s0] σ Q = (if ¬ s0 = 0 then WP E d mPb_pour 28 [.ref 0, .int a1, .int a2, .int a3, .int a4, .int a5] [] σ Q else WP E d mPb_pour 22 [.ref 0, .int a1, .int a2, .int a3, .int a4, .int a5] [] σ Q) := w_ifne (t := 28) dPb_pour_19 (by decide)
theorem bPb_pour_22 {E : mEn} {d : Nat} {σ : mSt} {Q : mPost} {a1 : Int32} {a2 : Int32} {a3 : Int32} {a4 : Int32} {a5 : Int32} : WP E (d + 1) mPb_pour 22 [.ref 0, .int a1, .int a2, .int a3, .int a4, .int a5] [] σ Q = WP E d mPb_deny 0 [.ref 0, .int 1] [] σ (fun r σ' => WP E (d + 1) mPb_pour 27 [.ref 0, .int a1, .int a2, .int a3, .int a4, .int a5] (r.toList ++ []) σ' Q) := (w_aload_n dPb_pour_22 rfl).trans ((w_iconst (v := 1) dPb_pour_23 rfl).trans (w_virt (vs := [.int 1]) (st' := []) (es := [.ref 0, .int 1]) dPb_pour_24 rz10_85 rfl sh_0 rfl rfl rfl (Nat.le_of_ble_eq_true rfl) (Nat.le_of_ble_eq_true rfl) rfl))
theorem bPb_pour_27 {E : mEn} {d : Nat} {σ : mSt} {Q : mPost} {a1 : Int32} {a2 : Int32} {a3 : Int32} {a4 : Int32} {a5 : Int32} {s0 : Int32} (hz0 : s0 = 0 ∨ s0 = 1) : WP E d mPb_pour 27 [.ref 0, .int a1, .int a2, .int a3, .int a4, .int a5] [.int s0] σ Q = Q (some (.int s0)) σ := w_zret dPb_pour_27 rfl hz0
theorem bPb_pour_28 {E : mEn} {d : Nat} {σ : mSt} {Q : mPost} {a1 : Int32} {a2 : Int32} {a3 : Int32} {a4 : Int32} {a5 : Int32} : WP E (d + 1) mPb_pour 28 [.ref 0, .int a1, .int a2, .int a3, .int a4, .int a5] [] σ Q = WP E d mTr_isMissing 0 [.ref 1, .int a1] [] σ (fun r σ' => WP E (d + 1) mPb_pour 36 [.ref 0, .int a1, .int a2, .int a3, .int a4, .int a5] (r.toList ++ []) σ' Q) := (w_aload_n dPb_pour_28 rfl).trans ((w_getr (r := 1) dPb_pour_29 rz10_10 sh_0 rfl).trans ((w_iload_n dPb_pour_32 rfl).trans (w_virt (vs := [.int a1]) (st' := []) (es := [.ref 1, .int a1]) dPb_pour_33 rz10_112 rfl sh_1 rfl rfl rfl (Nat.le_of_ble_eq_true rfl) (Nat.le_of_ble_eq_true rfl) rfl)))
theorem bPb_pour_36 {E : mEn} {d : Nat} {σ : mSt} {Q : mPost} {a1 : Int32} {a2 : Int32} {a3 : Int32} {a4 : Int32} {a5 : Int32} {s0 : Int32} : WP E d mPb_pour 36 [.ref 0, .int a1, .int a2, .int a3, .int a4, .int a5] [.int s0] σ Q = (if ¬ s0 = 0 then WP E d mPb_pour 50 [.ref 0, .int a1, .int a2, .int a3, .int a4, .int a5] [] σ Q else WP E d mPb_pour 39 [.ref 0, .int a1, .int a2, .int a3, .int a4, .int a5] [] σ Q) := w_ifne (t := 50) dPb_pour_36 (by decide)
theorem bPb_pour_39 {E : mEn} {d : Nat} {σ : mSt} {Q : mPost} {a1 : Int32} {a2 : Int32} {a3 : Int32} {a4 : Int32} {a5 : Int32} : WP E (d + 1) mPb_pour 39 [.ref 0, .int a1, .int a2, .int a3, .int a4, .int a5] [] σ Q = WP E d mTr_isMissing 0 [.ref 1, .int a3] [] σ (fun r σ' => WP E (d + 1) mPb_pour 47 [.ref 0, .int a1, .int a2, .int a3, .int a4, .int a5] (r.toList ++ []) σ' Q) := (w_aload_n dPb_pour_39 rfl).trans ((w_getr (r := 1) dPb_pour_40 rz10_10 sh_0 rfl).trans ((w_iload_n dPb_pour_43 rfl).trans (w_virt (vs := [.int a3]) (st' := []) (es := [.ref 1, .int a3]) dPb_pour_44 rz10_112 rfl sh_1 rfl rfl rfl (Nat.le_of_ble_eq_true rfl) (Nat.le_of_ble_eq_true rfl) rfl)))
theorem bPb_pour_47 {E : mEn} {d : Nat} {σ : mSt} {Q : mPost} {a1 : Int32} {a2 : Int32} {a3 : Int32} {a4 : Int32} {a5 : Int32} {s0 : Int32} : WP E d mPb_pour 47 [.ref 0, .int a1, .int a2, .int a3, .int a4, .int a5] [.int s0] σ Q = (if s0 = 0 then WP E d mPb_pour 56 [.ref 0, .int a1, .int a2, .int a3, .int a4, .int a5] [] σ Q else WP E d mPb_pour 50 [.ref 0, .int a1, .int a2, .int a3, .int a4, .int a5] [] σ Q) := w_ifeq (t := 56) dPb_pour_47 (by decide)
theorem bPb_pour_50 {E : mEn} {d : Nat} {σ : mSt} {Q : mPost} {a1 : Int32} {a2 : Int32} {a3 : Int32} {a4 : Int32} {a5 : Int32} : WP E (d + 1) mPb_pour 50 [.ref 0, .int a1, .int a2, .int a3, .int a4, .int a5] [] σ Q = WP E d mPb_deny 0 [.ref 0, .int (nI 3)] [] σ (fun r σ' => WP E (d + 1) mPb_pour 55 [.ref 0, .int a1, .int a2, .int a3, .int a4, .int a5] (r.toList ++ []) σ' Q) := (w_aload_n dPb_pour_50 rfl).trans ((w_iconst (v := (nI 3)) dPb_pour_51 rfl).trans (w_virt (vs := [.int (nI 3)]) (st' := []) (es := [.ref 0, .int (nI 3)]) dPb_pour_52 rz10_85 rfl sh_0 rfl rfl rfl (Nat.le_of_ble_eq_true rfl) (Nat.le_of_ble_eq_true rfl) rfl))
theorem bPb_pour_55 {E : mEn} {d : Nat} {σ : mSt} {Q : mPost} {a1 : Int32} {a2 : Int32} {a3 : Int32} {a4 : Int32} {a5 : Int32} {s0 : Int32} (hz0 : s0 = 0 ∨ s0 = 1) : WP E d mPb_pour 55 [.ref 0, .int a1, .int a2, .int a3, .int a4, .int a5] [.int s0] σ Q = Q (some (.int s0)) σ := w_zret dPb_pour_55 rfl hz0
theorem bPb_pour_56 {E : mEn} {d : Nat} {σ : mSt} {Q : mPost} {a1 : Int32} {a2 : Int32} {a3 : Int32} {a4 : Int32} {a5 : Int32} : WP E (d + 1) mPb_pour 56 [.ref 0, .int a1, .int a2, .int a3, .int a4, .int a5] [] σ Q = WP E d mTr_alike 0 [.ref 1, .int a1, .int a3] [] σ (fun r σ' => WP E (d + 1) mPb_pour 65 [.ref 0, .int a1, .int a2, .int a3, .int a4, .int a5] (r.toList ++ []) σ' Q) := (w_aload_n dPb_pour_56 rfl).trans ((w_getr (r := 1) dPb_pour_57 rz10_10 sh_0 rfl).trans ((w_iload_n dPb_pour_60 rfl).trans ((w_iload_n dPb_pour_61 rfl).trans (w_virt (vs := [.int a1, .int a3]) (st' := []) (es := [.ref 1, .int a1, .int a3]) dPb_pour_62 rz10_115 rfl sh_1 rfl rfl rfl (Nat.le_of_ble_eq_true rfl) (Nat.le_of_ble_eq_true rfl) rfl))))
theorem bPb_pour_65 {E : mEn} {d : Nat} {σ : mSt} {Q : mPost} {a1 : Int32} {a2 : Int32} {a3 : Int32} {a4 : Int32} {a5 : Int32} {s0 : Int32} : WP E d mPb_pour 65 [.ref 0, .int a1, .int a2, .int a3, .int a4, .int a5] [.int s0] σ Q = (if ¬ s0 = 0 then WP E d mPb_pour 75 [.ref 0, .int a1, .int a2, .int a3, .int a4, .int a5] [] σ Q else WP E d mPb_pour 68 [.ref 0, .int a1, .int a2, .int a3, .int a4, .int a5] [] σ Q) := w_ifne (t := 75) dPb_pour_65 (by decide)
theorem bPb_pour_68 {E : mEn} {d : Nat} {σ : mSt} {Q : mPost} {a1 : Int32} {a2 : Int32} {a3 : Int32} {a4 : Int32} {a5 : Int32} : WP E (d + 1) mPb_pour 68 [.ref 0, .int a1, .int a2, .int a3, .int a4, .int a5] [] σ Q = WP E d mPb_deny 0 [.ref 0, .int (nI 11)] [] σ (fun r σ' => WP E (d + 1) mPb_pour 74 [.ref 0, .int a1, .int a2, .int a3, .int a4, .int a5] (r.toList ++ []) σ' Q) := (w_aload_n dPb_pour_68 rfl).trans ((w_bipush (v := (nI 11)) dPb_pour_69 rfl).trans (w_virt (vs := [.int (nI 11)]) (st' := []) (es := [.ref 0, .int (nI 11)]) dPb_pour_71 rz10_85 rfl sh_0 rfl rfl rfl (Nat.le_of_ble_eq_true rfl) (Nat.le_of_ble_eq_true rfl) rfl))
theorem bPb_pour_74 {E : mEn} {d : Nat} {σ : mSt} {Q : mPost} {a1 : Int32} {a2 : Int32} {a3 : Int32} {a4 : Int32} {a5 : Int32} {s0 : Int32} (hz0 : s0 = 0 ∨ s0 = 1) : WP E d mPb_pour 74 [.ref 0, .int a1, .int a2, .int a3, .int a4, .int a5] [.int s0] σ Q = Q (some (.int s0)) σ := w_zret dPb_pour_74 rfl hz0
theorem bPb_pour_75 {E : mEn} {d : Nat} {σ : mSt} {Q : mPost} {a1 : Int32} {a2 : Int32} {a3 : Int32} {a4 : Int32} {a5 : Int32} : WP E d mPb_pour 75 [.ref 0, .int a1, .int a2, .int a3, .int a4, .int a5] [] σ Q = (if 0 ≤ a5 then WP E d mPb_pour 87 [.ref 0, .int a1, .int a2, .int a3, .int a4, .int a5] [] σ Q else WP E d mPb_pour 80 [.ref 0, .int a1, .int a2, .int a3, .int a4, .int a5] [] σ Q) := (w_iload dPb_pour_75 rfl).trans (w_ifge (t := 87) dPb_pour_77 (by decide))
theorem bPb_pour_80 {E : mEn} {d : Nat} {σ : mSt} {Q : mPost} {a1 : Int32} {a2 : Int32} {a3 : Int32} {a4 : Int32} {a5 : Int32} : WP E (d + 1) mPb_pour 80 [.ref 0, .int a1, .int a2, .int a3, .int a4, .int a5] [] σ Q = WP E d mPb_deny 0 [.ref 0, .int (nI 6)] [] σ (fun r σ' => WP E (d + 1) mPb_pour 86 [.ref 0, .int a1, .int a2, .int a3, .int a4, .int a5] (r.toList ++ []) σ' Q) := (w_aload_n dPb_pour_80 rfl).trans ((w_bipush (v := (nI 6)) dPb_pour_81 rfl).trans (w_virt (vs := [.int (nI 6)]) (st' := []) (es := [.ref 0, .int (nI 6)]) dPb_pour_83 rz10_85 rfl sh_0 rfl rfl rfl (Nat.le_of_ble_eq_true rfl) (Nat.le_of_ble_eq_true rfl) rfl))
theorem bPb_pour_86 {E : mEn} {d : Nat} {σ : mSt} {Q : mPost} {a1 : Int32} {a2 : Int32} {a3 : Int32} {a4 : Int32} {a5 : Int32} {s0 : Int32} (hz0 : s0 = 0 ∨ s0 = 1) : WP E d mPb_pour 86 [.ref 0, .int a1, .int a2, .int a3, .int a4, .int a5] [.int s0] σ Q = Q (some (.int s0)) σ := w_zret dPb_pour_86 rfl hz0
theorem bPb_pour_87 {E : mEn} {d : Nat} {σ : mSt} {Q : mPost} {a1 : Int32} {a2 : Int32} {a3 : Int32} {a4 : Int32} {a5 : Int32} : WP E (d + 1) mPb_pour 87 [.ref 0, .int a1, .int a2, .int a3, .int a4, .int a5] [] σ Q = WP E d mTr_hasRow 0 [.ref 1, .int a1, .int a2, .int a5] [] σ (fun r σ' => WP E (d + 1) mPb_pour 98 [.ref 0, .int a1, .int a2, .int a3, .int a4, .int a5] (r.toList ++ []) σ' Q) := (w_aload_n dPb_pour_87 rfl).trans ((w_getr (r := 1) dPb_pour_88 rz10_10 sh_0 rfl).trans ((w_iload_n dPb_pour_91 rfl).trans ((w_iload_n dPb_pour_92 rfl).trans ((w_iload dPb_pour_93 rfl).trans (w_virt (vs := [.int a1, .int a2, .int a5]) (st' := []) (es := [.ref 1, .int a1, .int a2, .int a5]) dPb_pour_95 rz10_119 rfl sh_1 rfl rfl rfl (Nat.le_of_ble_eq_true rfl) (Nat.le_of_ble_eq_true rfl) rfl)))))
theorem bPb_pour_98 {E : mEn} {d : Nat} {σ : mSt} {Q : mPost} {a1 : Int32} {a2 : Int32} {a3 : Int32} {a4 : Int32} {a5 : Int32} {s0 : Int32} : WP E d mPb_pour 98 [.ref 0, .int a1, .int a2, .int a3, .int a4, .int a5] [.int s0] σ Q = (if s0 = 0 then WP E d mPb_pour 116 [.ref 0, .int a1, .int a2, .int a3, .int a4, .int a5] [] σ Q else WP E d mPb_pour 101 [.ref 0, .int a1, .int a2, .int a3, .int a4, .int a5] [] σ Q) := w_ifeq (t := 116) dPb_pour_98 (by decide)
theorem bPb_pour_101 {E : mEn} {d : Nat} {σ : mSt} {Q : mPost} {a1 : Int32} {a2 : Int32} {a3 : Int32} {a4 : Int32} {a5 : Int32} : WP E (d + 1) mPb_pour 101 [.ref 0, .int a1, .int a2, .int a3, .int a4, .int a5] [] σ Q = WP E d mTr_hasRow 0 [.ref 1, .int a3, .int a4, .int a5] [] σ (fun r σ' => WP E (d + 1) mPb_pour 113 [.ref 0, .int a1, .int a2, .int a3, .int a4, .int a5] (r.toList ++ []) σ' Q) := (w_aload_n dPb_pour_101 rfl).trans ((w_getr (r := 1) dPb_pour_102 rz10_10 sh_0 rfl).trans ((w_iload_n dPb_pour_105 rfl).trans ((w_iload dPb_pour_106 rfl).trans ((w_iload dPb_pour_108 rfl).trans (w_virt (vs := [.int a3, .int a4, .int a5]) (st' := []) (es := [.ref 1, .int a3, .int a4, .int a5]) dPb_pour_110 rz10_119 rfl sh_1 rfl rfl rfl (Nat.le_of_ble_eq_true rfl) (Nat.le_of_ble_eq_true rfl) rfl)))))
theorem bPb_pour_113 {E : mEn} {d : Nat} {σ : mSt} {Q : mPost} {a1 : Int32} {a2 : Int32} {a3 : Int32} {a4 : Int32} {a5 : Int32} {s0 : Int32} : WP E d mPb_pour 113 [.ref 0, .int a1, .int a2, .int a3, .int a4, .int a5] [.int s0] σ Q = (if ¬ s0 = 0 then WP E d mPb_pour 122 [.ref 0, .int a1, .int a2, .int a3, .int a4, .int a5] [] σ Q else WP E d mPb_pour 116 [.ref 0, .int a1, .int a2, .int a3, .int a4, .int a5] [] σ Q) := w_ifne (t := 122) dPb_pour_113 (by decide)
theorem bPb_pour_116 {E : mEn} {d : Nat} {σ : mSt} {Q : mPost} {a1 : Int32} {a2 : Int32} {a3 : Int32} {a4 : Int32} {a5 : Int32} : WP E (d + 1) mPb_pour 116 [.ref 0, .int a1, .int a2, .int a3, .int a4, .int a5] [] σ Q = WP E d mPb_deny 0 [.ref 0, .int (nI 4)] [] σ (fun r σ' => WP E (d + 1) mPb_pour 121 [.ref 0, .int a1, .int a2, .int a3, .int a4, .int a5] (r.toList ++ []) σ' Q) := (w_aload_n dPb_pour_116 rfl).trans ((w_iconst (v := (nI 4)) dPb_pour_117 rfl).trans (w_virt (vs := [.int (nI 4)]) (st' := []) (es := [.ref 0, .int (nI 4)]) dPb_pour_118 rz10_85 rfl sh_0 rfl rfl rfl (Nat.le_of_ble_eq_true rfl) (Nat.le_of_ble_eq_true rfl) rfl))
theorem bPb_pour_121 {E : mEn} {d : Nat} {σ : mSt} {Q : mPost} {a1 : Int32} {a2 : Int32} {a3 : Int32} {a4 : Int32} {a5 : Int32} {s0 : Int32} (hz0 : s0 = 0 ∨ s0 = 1) : WP E d mPb_pour 121 [.ref 0, .int a1, .int a2, .int a3, .int a4, .int a5] [.int s0] σ Q = Q (some (.int s0)) σ := w_zret dPb_pour_121 rfl hz0
theorem bPb_pour_122 {E : mEn} {d : Nat} {σ : mSt} {Q : mPost} {a1 : Int32} {a2 : Int32} {a3 : Int32} {a4 : Int32} {a5 : Int32} : WP E (d + 1) mPb_pour 122 [.ref 0, .int a1, .int a2, .int a3, .int a4, .int a5] [] σ Q = WP E d mTr_move 0 [.ref 1, .int a1, .int a2, .int a3, .int a4, .int a5] [] σ (fun r σ' => WP E (d + 1) mPb_pour 136 [.ref 0, .int a1, .int a2, .int a3, .int a4, .int a5] (r.toList ++ []) σ' Q) := (w_aload_n dPb_pour_122 rfl).trans ((w_getr (r := 1) dPb_pour_123 rz10_10 sh_0 rfl).trans ((w_iload_n dPb_pour_126 rfl).trans ((w_iload_n dPb_pour_127 rfl).trans ((w_iload_n dPb_pour_128 rfl).trans ((w_iload dPb_pour_129 rfl).trans ((w_iload dPb_pour_131 rfl).trans (w_virt (vs := [.int a1, .int a2, .int a3, .int a4, .int a5]) (st' := []) (es := [.ref 1, .int a1, .int a2, .int a3, .int a4, .int a5]) dPb_pour_133 rz10_123 rfl sh_1 rfl rfl rfl (Nat.le_of_ble_eq_true rfl) (Nat.le_of_ble_eq_true rfl) rfl)))))))
theorem bPb_pour_136 {E : mEn} {d : Nat} {σ : mSt} {Q : mPost} {a1 : Int32} {a2 : Int32} {a3 : Int32} {a4 : Int32} {a5 : Int32} : WP E (d + 1) mPb_pour 136 [.ref 0, .int a1, .int a2, .int a3, .int a4, .int a5] [] σ Q = WP E d mPb_grant 0 [.ref 0] [] σ (fun r σ' => WP E (d + 1) mPb_pour 140 [.ref 0, .int a1, .int a2, .int a3, .int a4, .int a5] (r.toList ++ []) σ' Q) := (w_aload_n dPb_pour_136 rfl).trans (w_virt (vs := []) (st' := []) (es := [.ref 0]) dPb_pour_137 rz10_92 rfl sh_0 rfl rfl rfl (Nat.le_of_ble_eq_true rfl) (Nat.le_of_ble_eq_true rfl) rfl)
theorem bPb_pour_140 {E : mEn} {d : Nat} {σ : mSt} {Q : mPost} {a1 : Int32} {a2 : Int32} {a3 : Int32} {a4 : Int32} {a5 : Int32} {s0 : Int32} (hz0 : s0 = 0 ∨ s0 = 1) : WP E d mPb_pour 140 [.ref 0, .int a1, .int a2, .int a3, .int a4, .int a5] [.int s0] σ Q = Q (some (.int s0)) σ := w_zret dPb_pour_140 rfl hz0
theorem dPb_feed_0 : decode (mC mPb_feed) 0 = .ok (.aload_n 0, 1) := by decide +kernel
theorem dPb_feed_1 : decode (mC mPb_feed) 1 = .ok (.getfield 19, 3) := by decide +kernel
theorem dPb_feed_4 : decode (mC mPb_feed) 4 = .ok (.getfield 127, 3) := by decide +kernel
theorem dPb_feed_7 : decode (mC mPb_feed) 7 = .ok (.astore 6, 2) := by decide +kernel
theorem dPb_feed_9 : decode (mC mPb_feed) 9 = .ok (.aload 6, 2) := by decide +kernel
theorem dPb_feed_11 : decode (mC mPb_feed) 11 = .ok (.bipush (20), 2) := by decide +kernel
theorem dPb_feed_13 : decode (mC mPb_feed) 13 = .ok (.invokevirtual 131, 3) := by decide +kernel
theorem dPb_feed_16 : decode (mC mPb_feed) 16 = .ok (.ifCond .ne (5), 3) := by decide +kernel
theorem dPb_feed_19 : decode (mC mPb_feed) 19 = .ok (.iconst (-1), 1) := by decide +kernel
theorem dPb_feed_20 : decode (mC mPb_feed) 20 = .ok (.ireturn, 1) := by decide +kernel
theorem dPb_feed_21 : decode (mC mPb_feed) 21 = .ok (.aload 6, 2) := by decide +kernel
theorem dPb_feed_23 : decode (mC mPb_feed) 23 = .ok (.iload_n 1, 1) := by decide +kernel
theorem dPb_feed_24 : decode (mC mPb_feed) 24 = .ok (.invokevirtual 136, 3) := by decide +kernel
theorem dPb_feed_27 : decode (mC mPb_feed) 27 = .ok (.aload 6, 2) := by decide +kernel
theorem dPb_feed_29 : decode (mC mPb_feed) 29 = .ok (.iload_n 2, 1) := by decide +kernel
theorem dPb_feed_30 : decode (mC mPb_feed) 30 = .ok (.invokevirtual 136, 3) := by decide +kernel
theorem dPb_feed_33 : decode (mC mPb_feed) 33 = .ok (.aload 6, 2) := by decide +kernel
theorem dPb_feed_35 : decode (mC mPb_feed) 35 = .ok (.iload_n 3, 1) := by decide +kernel
theorem dPb_feed_36 : decode (mC mPb_feed) 36 = .ok (.invokevirtual 136, 3) := by decide +kernel
theorem dPb_feed_39 : decode (mC mPb_feed) 39 = .ok (.aload 6, 2) := by decide +kernel
theorem dPb_feed_41 : decode (mC mPb_feed) 41 = .ok (.iload 4, 2) := by decide +kernel
theorem dPb_feed_43 : decode (mC mPb_feed) 43 = .ok (.invokevirtual 136, 3) := by decide +kernel
theorem dPb_feed_46 : decode (mC mPb_feed) 46 = .ok (.aload 6, 2) := by decide +kernel
theorem dPb_feed_48 : decode (mC mPb_feed) 48 = .ok (.iload 5, 2) := by decide +kernel
theorem dPb_feed_50 : decode (mC mPb_feed) 50 = .ok (.invokevirtual 136, 3) := by decide +kernel
theorem dPb_feed_53 : decode (mC mPb_feed) 53 = .ok (.aload 6, 2) := by decide +kernel
theorem dPb_feed_55 : decode (mC mPb_feed) 55 = .ok (.getfield 140, 3) := by decide +kernel
theorem dPb_feed_58 : decode (mC mPb_feed) 58 = .ok (.ireturn, 1) := by decide +kernel
theorem bPb_feed_0 {E : mEn} {d : Nat} {σ : mSt} {Q : mPost} {a1 : Int32} {a2 : Int32} {a3 : Int32} {a4 : Int32} {a5 : Int32} {u6 : Value} : WP E (d + 1) mPb_feed 0 [.ref 0, .int a1, .int a2, .int a3, .int a4, .int a5, u6] [] σ Q = WP E d mTo_hasRoomFor 0 [.ref 6, .int (nI 20)] [] σ (fun r σ' => WP E (d + 1) mPb_feed 16 [.ref 0, .int a1, .int a2, .int a3, .int a4, .int a5, .ref 6] (r.toList ++ []) σ' Q) := (w_aload_n dPb_feed_0 rfl).trans ((w_getr (r := 5) dPb_feed_1 rz10_19 sh_0 rfl).trans ((w_getr (r := 6) dPb_feed_4 rz10_127 sh_5 rfl).trans ((w_astore (ls' := [.ref 0, .int a1, .int a2, .int a3, .int a4, .int a5, .ref 6]) dPb_feed_7 (Nat.le_of_ble_eq_true rfl) rfl).trans ((w_aload dPb_feed_9 rfl).trans ((w_bipush (v := (nI 20)) dPb_feed_11 rfl).trans (w_virt (vs := [.int (nI 20)]) (st' := []) (es := [.ref 6, .int (nI 20)]) dPb_feed_13 rz10_131 rfl sh_6 rfl rfl rfl (Nat.le_of_ble_eq_true rfl) (Nat.le_of_ble_eq_true rfl) rfl))))))
theorem bPb_feed_16 {E : mEn} {d : Nat} {σ : mSt} {Q : mPost} {a1 : Int32} {a2 : Int32} {a3 : Int32} {a4 : Int32} {a5 : Int32} {s0 : Int32} : WP E d mPb_feed 16 [.ref 0, .int a1, .int a2, .int a3, .int a4, .int a5, .ref 6] [.int s0] σ Q = (if ¬ s0 = 0 then WP E d mPb_feed 21 [.ref 0, .int a1, .int a2, .int a3, .int a4, .int a5, .ref 6] [] σ Q else WP E d mPb_feed 19 [.ref 0, .int a1, .int a2, .int a3, .int a4, .int a5, .ref 6] [] σ Q) := w_ifne (t := 21) dPb_feed_16 (by decide)
theorem bPb_feed_19 {E : mEn} {d : Nat} {σ : mSt} {Q : mPost} {a1 : Int32} {a2 : Int32} {a3 : Int32} {a4 : Int32} {a5 : Int32} : WP E d mPb_feed 19 [.ref 0, .int a1, .int a2, .int a3, .int a4, .int a5, .ref 6] [] σ Q = Q (some (.int (-1))) σ := (w_iconst (v := (-1)) dPb_feed_19 rfl).trans (w_iret dPb_feed_20 rfl)
theorem bPb_feed_21 {E : mEn} {d : Nat} {σ : mSt} {Q : mPost} {a1 : Int32} {a2 : Int32} {a3 : Int32} {a4 : Int32} {a5 : Int32} : WP E (d + 1) mPb_feed 21 [.ref 0, .int a1, .int a2, .int a3, .int a4, .int a5, .ref 6] [] σ Q = WP E d mTo_append 0 [.ref 6, .int a1, uu] [] σ (fun r σ' => WP E (d + 1) mPb_feed 27 [.ref 0, .int a1, .int a2, .int a3, .int a4, .int a5, .ref 6] (r.toList ++ []) σ' Q) := (w_aload dPb_feed_21 rfl).trans ((w_iload_n dPb_feed_23 rfl).trans (w_virt (vs := [.int a1]) (st' := []) (es := [.ref 6, .int a1, uu]) dPb_feed_24 rz10_136 rfl sh_6 rfl rfl rfl (Nat.le_of_ble_eq_true rfl) (Nat.le_of_ble_eq_true rfl) rfl))
theorem bPb_feed_27 {E : mEn} {d : Nat} {σ : mSt} {Q : mPost} {a1 : Int32} {a2 : Int32} {a3 : Int32} {a4 : Int32} {a5 : Int32} : WP E (d + 1) mPb_feed 27 [.ref 0, .int a1, .int a2, .int a3, .int a4, .int a5, .ref 6] [] σ Q = WP E d mTo_append 0 [.ref 6, .int a2, uu] [] σ (fun r σ' => WP E (d + 1) mPb_feed 33 [.ref 0, .int a1, .int a2, .int a3, .int a4, .int a5, .ref 6] (r.toList ++ []) σ' Q) := (w_aload dPb_feed_27 rfl).trans ((w_iload_n dPb_feed_29 rfl).trans (w_virt (vs := [.int a2]) (st' := []) (es := [.ref 6, .int a2, uu]) dPb_feed_30 rz10_136 rfl sh_6 rfl rfl rfl (Nat.le_of_ble_eq_true rfl) (Nat.le_of_ble_eq_true rfl) rfl))
theorem bPb_feed_33 {E : mEn} {d : Nat} {σ : mSt} {Q : mPost} {a1 : Int32} {a2 : Int32} {a3 : Int32} {a4 : Int32} {a5 : Int32} : WP E (d + 1) mPb_feed 33 [.ref 0, .int a1, .int a2, .int a3, .int a4, .int a5, .ref 6] [] σ Q = WP E d mTo_append 0 [.ref 6, .int a3, uu] [] σ (fun r σ' => WP E (d + 1) mPb_feed 39 [.ref 0, .int a1, .int a2, .int a3, .int a4, .int a5, .ref 6] (r.toList ++ []) σ' Q) := (w_aload dPb_feed_33 rfl).trans ((w_iload_n dPb_feed_35 rfl).trans (w_virt (vs := [.int a3]) (st' := []) (es := [.ref 6, .int a3, uu]) dPb_feed_36 rz10_136 rfl sh_6 rfl rfl rfl (Nat.le_of_ble_eq_true rfl) (Nat.le_of_ble_eq_true rfl) rfl))
theorem bPb_feed_39 {E : mEn} {d : Nat} {σ : mSt} {Q : mPost} {a1 : Int32} {a2 : Int32} {a3 : Int32} {a4 : Int32} {a5 : Int32} : WP E (d + 1) mPb_feed 39 [.ref 0, .int a1, .int a2, .int a3, .int a4, .int a5, .ref 6] [] σ Q = WP E d mTo_append 0 [.ref 6, .int a4, uu] [] σ (fun r σ' => WP E (d + 1) mPb_feed 46 [.ref 0, .int a1, .int a2, .int a3, .int a4, .int a5, .ref 6] (r.toList ++ []) σ' Q) := (w_aload dPb_feed_39 rfl).trans ((w_iload dPb_feed_41 rfl).trans (w_virt (vs := [.int a4]) (st' := []) (es := [.ref 6, .int a4, uu]) dPb_feed_43 rz10_136 rfl sh_6 rfl rfl rfl (Nat.le_of_ble_eq_true rfl) (Nat.le_of_ble_eq_true rfl) rfl))
theorem bPb_feed_46 {E : mEn} {d : Nat} {σ : mSt} {Q : mPost} {a1 : Int32} {a2 : Int32} {a3 : Int32} {a4 : Int32} {a5 : Int32} : WP E (d + 1) mPb_feed 46 [.ref 0, .int a1, .int a2, .int a3, .int a4, .int a5, .ref 6] [] σ Q = WP E d mTo_append 0 [.ref 6, .int a5, uu] [] σ (fun r σ' => WP E (d + 1) mPb_feed 53 [.ref 0, .int a1, .int a2, .int a3, .int a4, .int a5, .ref 6] (r.toList ++ []) σ' Q) := (w_aload dPb_feed_46 rfl).trans ((w_iload dPb_feed_48 rfl).trans (w_virt (vs := [.int a5]) (st' := []) (es := [.ref 6, .int a5, uu]) dPb_feed_50 rz10_136 rfl sh_6 rfl rfl rfl (Nat.le_of_ble_eq_true rfl) (Nat.le_of_ble_eq_true rfl) rfl))
theorem bPb_feed_53 {E : mEn} {d : Nat} {σ : mSt} {Q : mPost} {a1 : Int32} {a2 : Int32} {a3 : Int32} {a4 : Int32} {a5 : Int32} : WP E d mPb_feed 53 [.ref 0, .int a1, .int a2, .int a3, .int a4, .int a5, .ref 6] [] σ Q = Q (some (.int (σ.1 6 2))) σ := (w_aload dPb_feed_53 rfl).trans ((w_geti dPb_feed_55 rz10_140 sh_6 rfl).trans (w_iret dPb_feed_58 rfl))
theorem dPb_town_0 : decode (mC mPb_town) 0 = .ok (.iload_n 1, 1) := by decide +kernel
theorem dPb_town_1 : decode (mC mPb_town) 1 = .ok (.ifCond .lt (17), 3) := by decide +kernel
theorem dPb_town_4 : decode (mC mPb_town) 4 = .ok (.iload_n 1, 1) := by decide +kernel
theorem dPb_town_5 : decode (mC mPb_town) 5 = .ok (.aload_n 0, 1) := by decide +kernel
theorem dPb_town_6 : decode (mC mPb_town) 6 = .ok (.getfield 19, 3) := by decide +kernel
theorem dPb_town_9 : decode (mC mPb_town) 9 = .ok (.getfield 127, 3) := by decide +kernel
theorem dPb_town_12 : decode (mC mPb_town) 12 = .ok (.getfield 140, 3) := by decide +kernel
theorem dPb_town_15 : decode (mC mPb_town) 15 = .ok (.if_icmp .le (9), 3) := by decide +kernel
theorem dPb_town_18 : decode (mC mPb_town) 18 = .ok (.aload_n 0, 1) := by decide +kernel
theorem dPb_town_19 : decode (mC mPb_town) 19 = .ok (.iconst (5), 1) := by decide +kernel
theorem dPb_town_20 : decode (mC mPb_town) 20 = .ok (.invokevirtual 104, 3) := by decide +kernel
theorem dPb_town_23 : decode (mC mPb_town) 23 = .ok (.ireturn, 1) := by decide +kernel
theorem dPb_town_24 : decode (mC mPb_town) 24 = .ok (.aload_n 0, 1) := by decide +kernel
theorem dPb_town_25 : decode (mC mPb_town) 25 = .ok (.getfield 19, 3) := by decide +kernel
theorem dPb_town_28 : decode (mC mPb_town) 28 = .ok (.aload_n 0, 1) := by decide +kernel
theorem dPb_town_29 : decode (mC mPb_town) 29 = .ok (.getfield 30, 3) := by decide +kernel
theorem dPb_town_32 : decode (mC mPb_town) 32 = .ok (.iload_n 1, 1) := by decide +kernel
theorem dPb_town_33 : decode (mC mPb_town) 33 = .ok (.invokevirtual 143, 3) := by decide +kernel
theorem dPb_town_36 : decode (mC mPb_town) 36 = .ok (.istore_n 2, 1) := by decide +kernel
theorem dPb_town_37 : decode (mC mPb_town) 37 = .ok (.aload_n 0, 1) := by decide +kernel
theorem dPb_town_38 : decode (mC mPb_town) 38 = .ok (.invokevirtual 147, 3) := by decide +kernel
theorem dPb_town_41 : decode (mC mPb_town) 41 = .ok (.iload_n 2, 1) := by decide +kernel
theorem dPb_town_42 : decode (mC mPb_town) 42 = .ok (.ifCond .ne (10), 3) := by decide +kernel
theorem dPb_town_45 : decode (mC mPb_town) 45 = .ok (.aload_n 0, 1) := by decide +kernel
theorem dPb_town_46 : decode (mC mPb_town) 46 = .ok (.bipush (10), 2) := by decide +kernel
theorem dPb_town_48 : decode (mC mPb_town) 48 = .ok (.invokevirtual 104, 3) := by decide +kernel
theorem dPb_town_51 : decode (mC mPb_town) 51 = .ok (.ireturn, 1) := by decide +kernel
theorem dPb_town_52 : decode (mC mPb_town) 52 = .ok (.aload_n 0, 1) := by decide +kernel
theorem dPb_town_53 : decode (mC mPb_town) 53 = .ok (.getfield 30, 3) := by decide +kernel
theorem dPb_town_56 : decode (mC mPb_town) 56 = .ok (.aload_n 0, 1) := by decide +kernel
theorem dPb_town_57 : decode (mC mPb_town) 57 = .ok (.getfield 26, 3) := by decide +kernel
theorem dPb_town_60 : decode (mC mPb_town) 60 = .ok (.invokestatic 150, 3) := by decide +kernel
theorem dPb_town_63 : decode (mC mPb_town) 63 = .ok (.aload_n 0, 1) := by decide +kernel
theorem dPb_town_64 : decode (mC mPb_town) 64 = .ok (.aload_n 0, 1) := by decide +kernel
theorem dPb_town_65 : decode (mC mPb_town) 65 = .ok (.getfield 26, 3) := by decide +kernel
theorem dPb_town_68 : decode (mC mPb_town) 68 = .ok (.getfield 154, 3) := by decide +kernel
theorem dPb_town_71 : decode (mC mPb_town) 71 = .ok (.invokevirtual 157, 3) := by decide +kernel
theorem dPb_town_74 : decode (mC mPb_town) 74 = .ok (.ireturn, 1) := by decide +kernel
theorem bPb_town_0 {E : mEn} {d : Nat} {σ : mSt} {Q : mPost} {a1 : Int32} {u2 : Value} : WP E d mPb_town 0 [.ref 0, .int a1, u2] [] σ Q = (if a1 < 0 then WP E d mPb_town 18 [.ref 0, .int a1, u2] [] σ Q else WP E d mPb_town 4 [.ref 0, .int a1, u2] [] σ Q) := (w_iload_n dPb_town_0 rfl).trans (w_iflt (t := 18) dPb_town_1 (by decide))
theorem bPb_town_4 {E : mEn} {d : Nat} {σ : mSt} {Q : mPost} {a1 : Int32} {u2 : Value} : WP E d mPb_town 4 [.ref 0, .int a1, u2] [] σ Q = (if a1 ≤ (σ.1 6 2) then WP E d mPb_town 24 [.ref 0, .int a1, u2] [] σ Q else WP E d mPb_town 18 [.ref 0, .int a1, u2] [] σ Q) := (w_iload_n dPb_town_4 rfl).trans ((w_aload_n dPb_town_5 rfl).trans ((w_getr (r := 5) dPb_town_6 rz10_19 sh_0 rfl).trans ((w_getr (r := 6) dPb_town_9 rz10_127 sh_5 rfl).trans ((w_geti dPb_town_12 rz10_140 sh_6 rfl).trans (w_icmple (t := 24) dPb_town_15 (by decide))))))
theorem bPb_town_18 {E : mEn} {d : Nat} {σ : mSt} {Q : mPost} {a1 : Int32} {u2 : Value} : WP E (d + 1) mPb_town 18 [.ref 0, .int a1, u2] [] σ Q = WP E d mPb_refuse 0 [.ref 0, .int (nI 5)] [] σ (fun r σ' => WP E (d + 1) mPb_town 23 [.ref 0, .int a1, u2] (r.toList ++ []) σ' Q) := (w_aload_n dPb_town_18 rfl).trans ((w_iconst (v := (nI 5)) dPb_town_19 rfl).trans (w_virt (vs := [.int (nI 5)]) (st' := []) (es := [.ref 0, .int (nI 5)]) dPb_town_20 rz10_104 rfl sh_0 rfl rfl rfl (Nat.le_of_ble_eq_true rfl) (Nat.le_of_ble_eq_true rfl) rfl))
theorem bPb_town_23 {E : mEn} {d : Nat} {σ : mSt} {Q : mPost} {a1 : Int32} {u2 : Value} {s0 : Int32} : WP E d mPb_town 23 [.ref 0, .int a1, u2] [.int s0] σ Q = Q (some (.int s0)) σ := w_iret dPb_town_23 rfl
theorem bPb_town_24 {E : mEn} {d : Nat} {σ : mSt} {Q : mPost} {a1 : Int32} {u2 : Value} : WP E (d + 1) mPb_town 24 [.ref 0, .int a1, u2] [] σ Q = WP E d mTe_readTown 0 [.ref 5, .ref 35, .int a1, uu] [] σ (fun r σ' => WP E (d + 1) mPb_town 36 [.ref 0, .int a1, u2] (r.toList ++ []) σ' Q) := (w_aload_n dPb_town_24 rfl).trans ((w_getr (r := 5) dPb_town_25 rz10_19 sh_0 rfl).trans ((w_aload_n dPb_town_28 rfl).trans ((w_getr (r := 35) dPb_town_29 rz10_30 sh_0 rfl).trans ((w_iload_n dPb_town_32 rfl).trans (w_virt (vs := [.ref 35, .int a1]) (st' := []) (es := [.ref 5, .ref 35, .int a1, uu]) dPb_town_33 rz10_143 rfl sh_5 rfl rfl rfl (Nat.le_of_ble_eq_true rfl) (Nat.le_of_ble_eq_true rfl) rfl)))))
theorem bPb_town_36 {E : mEn} {d : Nat} {σ : mSt} {Q : mPost} {a1 : Int32} {u2 : Value} {s0 : Int32} : WP E (d + 1) mPb_town 36 [.ref 0, .int a1, u2] [.int s0] σ Q = WP E d mPb_keepFault 0 [.ref 0] [] σ (fun r σ' => WP E (d + 1) mPb_town 41 [.ref 0, .int a1, .int s0] (r.toList ++ []) σ' Q) := (w_istore_n (ls' := [.ref 0, .int a1, .int s0]) dPb_town_36 (Nat.le_of_ble_eq_true rfl) rfl).trans ((w_aload_n dPb_town_37 rfl).trans (w_virt (vs := []) (st' := []) (es := [.ref 0]) dPb_town_38 rz10_147 rfl sh_0 rfl rfl rfl (Nat.le_of_ble_eq_true rfl) (Nat.le_of_ble_eq_true rfl) rfl))
theorem bPb_town_41 {E : mEn} {d : Nat} {σ : mSt} {Q : mPost} {a1 : Int32} {a2 : Int32} : WP E d mPb_town 41 [.ref 0, .int a1, .int a2] [] σ Q = (if ¬ a2 = 0 then WP E d mPb_town 52 [.ref 0, .int a1, .int a2] [] σ Q else WP E d mPb_town 45 [.ref 0, .int a1, .int a2] [] σ Q) := (w_iload_n dPb_town_41 rfl).trans (w_ifne (t := 52) dPb_town_42 (by decide))
theorem bPb_town_45 {E : mEn} {d : Nat} {σ : mSt} {Q : mPost} {a1 : Int32} {a2 : Int32} : WP E (d + 1) mPb_town 45 [.ref 0, .int a1, .int a2] [] σ Q = WP E d mPb_refuse 0 [.ref 0, .int (nI 10)] [] σ (fun r σ' => WP E (d + 1) mPb_town 51 [.ref 0, .int a1, .int a2] (r.toList ++ []) σ' Q) := (w_aload_n dPb_town_45 rfl).trans ((w_bipush (v := (nI 10)) dPb_town_46 rfl).trans (w_virt (vs := [.int (nI 10)]) (st' := []) (es := [.ref 0, .int (nI 10)]) dPb_town_48 rz10_104 rfl sh_0 rfl rfl rfl (Nat.le_of_ble_eq_true rfl) (Nat.le_of_ble_eq_true rfl) rfl))
theorem bPb_town_51 {E : mEn} {d : Nat} {σ : mSt} {Q : mPost} {a1 : Int32} {a2 : Int32} {s0 : Int32} : WP E d mPb_town 51 [.ref 0, .int a1, .int a2] [.int s0] σ Q = Q (some (.int s0)) σ := w_iret dPb_town_51 rfl
theorem bPb_town_52 {E : mEn} {d : Nat} {σ : mSt} {Q : mPost} {a1 : Int32} {a2 : Int32} : WP E (d + 1) mPb_town 52 [.ref 0, .int a1, .int a2] [] σ Q = WP E d mPb_carry 0 [.ref 35, .ref 10] [] σ (fun r σ' => WP E (d + 1) mPb_town 63 [.ref 0, .int a1, .int a2] (r.toList ++ []) σ' Q) := (w_aload_n dPb_town_52 rfl).trans ((w_getr (r := 35) dPb_town_53 rz10_30 sh_0 rfl).trans ((w_aload_n dPb_town_56 rfl).trans ((w_getr (r := 10) dPb_town_57 rz10_26 sh_0 rfl).trans (w_stat (vs := [.ref 35, .ref 10]) (st' := []) (es := [.ref 35, .ref 10]) dPb_town_60 rz10_150 rfl rfl rfl (Nat.le_of_ble_eq_true rfl) (Nat.le_of_ble_eq_true rfl) rfl))))
theorem bPb_town_63 {E : mEn} {d : Nat} {σ : mSt} {Q : mPost} {a1 : Int32} {a2 : Int32} : WP E (d + 1) mPb_town 63 [.ref 0, .int a1, .int a2] [] σ Q = WP E d mPb_answer 0 [.ref 0, .int (σ.1 10 15)] [] σ (fun r σ' => WP E (d + 1) mPb_town 74 [.ref 0, .int a1, .int a2] (r.toList ++ []) σ' Q) := (w_aload_n dPb_town_63 rfl).trans ((w_aload_n dPb_town_64 rfl).trans ((w_getr (r := 10) dPb_town_65 rz10_26 sh_0 rfl).trans ((w_geti dPb_town_68 rz10_154 sh_10 rfl).trans (w_virt (vs := [.int (σ.1 10 15)]) (st' := []) (es := [.ref 0, .int (σ.1 10 15)]) dPb_town_71 rz10_157 rfl sh_0 rfl rfl rfl (Nat.le_of_ble_eq_true rfl) (Nat.le_of_ble_eq_true rfl) rfl))))
theorem bPb_town_74 {E : mEn} {d : Nat} {σ : mSt} {Q : mPost} {a1 : Int32} {a2 : Int32} {s0 : Int32} : WP E d mPb_town 74 [.ref 0, .int a1, .int a2] [.int s0] σ Q = Q (some (.int s0)) σ := w_iret dPb_town_74 rfl
theorem dPb_keepFault_0 : decode (mC mPb_keepFault) 0 = .ok (.aload_n 0, 1) := by decide +kernel
theorem dPb_keepFault_1 : decode (mC mPb_keepFault) 1 = .ok (.aload_n 0, 1) := by decide +kernel
theorem dPb_keepFault_2 : decode (mC mPb_keepFault) 2 = .ok (.getfield 19, 3) := by decide +kernel
theorem dPb_keepFault_5 : decode (mC mPb_keepFault) 5 = .ok (.getfield 127, 3) := by decide +kernel
theorem dPb_keepFault_8 : decode (mC mPb_keepFault) 8 = .ok (.getfield 430, 3) := by decide +kernel
theorem dPb_keepFault_11 : decode (mC mPb_keepFault) 11 = .ok (.putfield 65, 3) := by decide +kernel
theorem dPb_keepFault_14 : decode (mC mPb_keepFault) 14 = .ok (.aload_n 0, 1) := by decide +kernel
theorem dPb_keepFault_15 : decode (mC mPb_keepFault) 15 = .ok (.aload_n 0, 1) := by decide +kernel
theorem dPb_keepFault_16 : decode (mC mPb_keepFault) 16 = .ok (.getfield 19, 3) := by decide +kernel
theorem dPb_keepFault_19 : decode (mC mPb_keepFault) 19 = .ok (.getfield 127, 3) := by decide +kernel
theorem dPb_keepFault_22 : decode (mC mPb_keepFault) 22 = .ok (.getfield 433, 3) := by decide +kernel
theorem dPb_keepFault_25 : decode (mC mPb_keepFault) 25 = .ok (.putfield 69, 3) := by decide +kernel
theorem dPb_keepFault_28 : decode (mC mPb_keepFault) 28 = .ok (.return_, 1) := by decide +kernel
theorem bPb_keepFault_0 {E : mEn} {d : Nat} {σ : mSt} {Q : mPost} : WP E d mPb_keepFault 0 [.ref 0] [] σ Q = Q none (sI (sI σ 0 13 (σ.1 6 9)) 0 14 ((sI σ 0 13 (σ.1 6 9)).1 6 10)) := (w_aload_n dPb_keepFault_0 rfl).trans ((w_aload_n dPb_keepFault_1 rfl).trans ((w_getr (r := 5) dPb_keepFault_2 rz10_19 sh_0 rfl).trans ((w_getr (r := 6) dPb_keepFault_5 rz10_127 sh_5 rfl).trans ((w_geti dPb_keepFault_8 rz10_430 sh_6 rfl).trans ((w_puti dPb_keepFault_11 rz10_65 sh_0 rfl rfl rfl).trans ((w_aload_n dPb_keepFault_14 rfl).trans ((w_aload_n dPb_keepFault_15 rfl).trans ((w_getr (r := 5) dPb_keepFault_16 rz10_19 sh_0 rfl).trans ((w_getr (r := 6) dPb_keepFault_19 rz10_127 sh_5 rfl).trans ((w_geti dPb_keepFault_22 rz10_433 sh_6 rfl).trans ((w_puti dPb_keepFault_25 rz10_69 sh_0 rfl rfl rfl).trans (w_vret dPb_keepFault_28 rfl))))))))))))
theorem dPb_carry_0 : decode (mC mPb_carry) 0 = .ok (.aload_n 0, 1) := by decide +kernel
theorem dPb_carry_1 : decode (mC mPb_carry) 1 = .ok (.ifnull (12), 3) := by decide +kernel
theorem dPb_carry_4 : decode (mC mPb_carry) 4 = .ok (.aload_n 1, 1) := by decide +kernel
theorem dPb_carry_5 : decode (mC mPb_carry) 5 = .ok (.ifnull (8), 3) := by decide +kernel
theorem dPb_carry_8 : decode (mC mPb_carry) 8 = .ok (.aload_n 1, 1) := by decide +kernel
theorem dPb_carry_9 : decode (mC mPb_carry) 9 = .ok (.aload_n 0, 1) := by decide +kernel
theorem dPb_carry_10 : decode (mC mPb_carry) 10 = .ok (.invokevirtual 447, 3) := by decide +kernel
theorem dPb_carry_13 : decode (mC mPb_carry) 13 = .ok (.return_, 1) := by decide +kernel
theorem bPb_carry_0 {E : mEn} {d : Nat} {σ : mSt} {Q : mPost} {t : Nat} (ht : isT t) {t2 : Nat} (ht2 : isT t2) : WP E d mPb_carry 0 [.ref t, .ref t2] [] σ Q = WP E d mPb_carry 4 [.ref t, .ref t2] [] σ Q := (w_aload_n dPb_carry_0 rfl).trans (w_ifnull dPb_carry_1)
theorem bPb_carry_4 {E : mEn} {d : Nat} {σ : mSt} {Q : mPost} {t : Nat} (ht : isT t) {t2 : Nat} (ht2 : isT t2) : WP E d mPb_carry 4 [.ref t, .ref t2] [] σ Q = WP E d mPb_carry 8 [.ref t, .ref t2] [] σ Q := (w_aload_n dPb_carry_4 rfl).trans (w_ifnull dPb_carry_5)
theorem bPb_carry_8 {E : mEn} {d : Nat} {σ : mSt} {Q : mPost} {t : Nat} (ht : isT t) {t2 : Nat} (ht2 : isT t2) : WP E (d + 1) mPb_carry 8 [.ref t, .ref t2] [] σ Q = WP E d mTw_copyOf 0 [.ref t2, .ref t] [] σ (fun r σ' => WP E (d + 1) mPb_carry 13 [.ref t, .ref t2] (r.toList ++ []) σ' Q) := (w_aload_n dPb_carry_8 rfl).trans ((w_aload_n dPb_carry_9 rfl).trans (w_virt (vs := [.ref t]) (st' := []) (es := [.ref t2, .ref t]) dPb_carry_10 rz10_447 rfl (shT_0 ht2) rfl rfl rfl (Nat.le_of_ble_eq_true rfl) (Nat.le_of_ble_eq_true rfl) rfl))
theorem bPb_carry_13 {E : mEn} {d : Nat} {σ : mSt} {Q : mPost} {t : Nat} (ht : isT t) {t2 : Nat} (ht2 : isT t2) : WP E d mPb_carry 13 [.ref t, .ref t2] [] σ Q = Q none σ := w_vret dPb_carry_13 rfl
theorem dPb_answer_0 : decode (mC mPb_answer) 0 = .ok (.aload_n 0, 1) := by decide +kernel
theorem dPb_answer_1 : decode (mC mPb_answer) 1 = .ok (.iconst (0), 1) := by decide +kernel
theorem dPb_answer_2 : decode (mC mPb_answer) 2 = .ok (.putfield 72, 3) := by decide +kernel
theorem dPb_answer_5 : decode (mC mPb_answer) 5 = .ok (.iload_n 1, 1) := by decide +kernel
theorem dPb_answer_6 : decode (mC mPb_answer) 6 = .ok (.ireturn, 1) := by decide +kernel
theorem bPb_answer_0 {E : mEn} {d : Nat} {σ : mSt} {Q : mPost} {a1 : Int32} : WP E d mPb_answer 0 [.ref 0, .int a1] [] σ Q = Q (some (.int a1)) (sI σ 0 10 0) := (w_aload_n dPb_answer_0 rfl).trans ((w_iconst (v := 0) dPb_answer_1 rfl).trans ((w_puti dPb_answer_2 rz10_72 sh_0 rfl rfl rfl).trans ((w_iload_n dPb_answer_5 rfl).trans (w_iret dPb_answer_6 rfl))))
theorem dPb_days_0 : decode (mC mPb_days) 0 = .ok (.iload_n 1, 1) := by decide +kernel
theorem dPb_days_1 : decode (mC mPb_days) 1 = .ok (.ifCond .lt (24), 3) := by decide +kernel
theorem dPb_days_4 : decode (mC mPb_days) 4 = .ok (.iload_n 1, 1) := by decide +kernel
theorem dPb_days_5 : decode (mC mPb_days) 5 = .ok (.aload_n 0, 1) := by decide +kernel
theorem dPb_days_6 : decode (mC mPb_days) 6 = .ok (.getfield 19, 3) := by decide +kernel
theorem dPb_days_9 : decode (mC mPb_days) 9 = .ok (.getfield 127, 3) := by decide +kernel
theorem dPb_days_12 : decode (mC mPb_days) 12 = .ok (.getfield 140, 3) := by decide +kernel
theorem dPb_days_15 : decode (mC mPb_days) 15 = .ok (.if_icmp .gt (10), 3) := by decide +kernel
theorem dPb_days_18 : decode (mC mPb_days) 18 = .ok (.iload_n 1, 1) := by decide +kernel
theorem dPb_days_19 : decode (mC mPb_days) 19 = .ok (.sipush (300), 3) := by decide +kernel
theorem dPb_days_22 : decode (mC mPb_days) 22 = .ok (.if_icmp .le (9), 3) := by decide +kernel
theorem dPb_days_25 : decode (mC mPb_days) 25 = .ok (.aload_n 0, 1) := by decide +kernel
theorem dPb_days_26 : decode (mC mPb_days) 26 = .ok (.iconst (5), 1) := by decide +kernel
theorem dPb_days_27 : decode (mC mPb_days) 27 = .ok (.invokevirtual 104, 3) := by decide +kernel
theorem dPb_days_30 : decode (mC mPb_days) 30 = .ok (.ireturn, 1) := by decide +kernel
theorem dPb_days_31 : decode (mC mPb_days) 31 = .ok (.aload_n 0, 1) := by decide +kernel
theorem dPb_days_32 : decode (mC mPb_days) 32 = .ok (.getfield 19, 3) := by decide +kernel
theorem dPb_days_35 : decode (mC mPb_days) 35 = .ok (.aload_n 0, 1) := by decide +kernel
theorem dPb_days_36 : decode (mC mPb_days) 36 = .ok (.getfield 26, 3) := by decide +kernel
theorem dPb_days_39 : decode (mC mPb_days) 39 = .ok (.getfield 160, 3) := by decide +kernel
theorem dPb_days_42 : decode (mC mPb_days) 42 = .ok (.aload_n 0, 1) := by decide +kernel
theorem dPb_days_43 : decode (mC mPb_days) 43 = .ok (.getfield 30, 3) := by decide +kernel
theorem dPb_days_46 : decode (mC mPb_days) 46 = .ok (.getfield 164, 3) := by decide +kernel
theorem dPb_days_49 : decode (mC mPb_days) 49 = .ok (.iload_n 1, 1) := by decide +kernel
theorem dPb_days_50 : decode (mC mPb_days) 50 = .ok (.invokevirtual 168, 3) := by decide +kernel
theorem dPb_days_53 : decode (mC mPb_days) 53 = .ok (.istore_n 2, 1) := by decide +kernel
theorem dPb_days_54 : decode (mC mPb_days) 54 = .ok (.aload_n 0, 1) := by decide +kernel
theorem dPb_days_55 : decode (mC mPb_days) 55 = .ok (.invokevirtual 147, 3) := by decide +kernel
theorem dPb_days_58 : decode (mC mPb_days) 58 = .ok (.iload_n 2, 1) := by decide +kernel
theorem dPb_days_59 : decode (mC mPb_days) 59 = .ok (.ifCond .ne (10), 3) := by decide +kernel
theorem dPb_days_62 : decode (mC mPb_days) 62 = .ok (.aload_n 0, 1) := by decide +kernel
theorem dPb_days_63 : decode (mC mPb_days) 63 = .ok (.bipush (10), 2) := by decide +kernel
theorem dPb_days_65 : decode (mC mPb_days) 65 = .ok (.invokevirtual 104, 3) := by decide +kernel
theorem dPb_days_68 : decode (mC mPb_days) 68 = .ok (.ireturn, 1) := by decide +kernel
theorem dPb_days_69 : decode (mC mPb_days) 69 = .ok (.aload_n 0, 1) := by decide +kernel
theorem dPb_days_70 : decode (mC mPb_days) 70 = .ok (.getfield 26, 3) := by decide +kernel
theorem dPb_days_73 : decode (mC mPb_days) 73 = .ok (.getfield 164, 3) := by decide +kernel
theorem dPb_days_76 : decode (mC mPb_days) 76 = .ok (.aload_n 0, 1) := by decide +kernel
theorem dPb_days_77 : decode (mC mPb_days) 77 = .ok (.getfield 30, 3) := by decide +kernel
theorem dPb_days_80 : decode (mC mPb_days) 80 = .ok (.getfield 164, 3) := by decide +kernel
theorem dPb_days_83 : decode (mC mPb_days) 83 = .ok (.invokevirtual 172, 3) := by decide +kernel
theorem dPb_days_86 : decode (mC mPb_days) 86 = .ok (.aload_n 0, 1) := by decide +kernel
theorem dPb_days_87 : decode (mC mPb_days) 87 = .ok (.aload_n 0, 1) := by decide +kernel
theorem dPb_days_88 : decode (mC mPb_days) 88 = .ok (.getfield 26, 3) := by decide +kernel
theorem dPb_days_91 : decode (mC mPb_days) 91 = .ok (.getfield 164, 3) := by decide +kernel
theorem dPb_days_94 : decode (mC mPb_days) 94 = .ok (.getfield 178, 3) := by decide +kernel
theorem dPb_days_97 : decode (mC mPb_days) 97 = .ok (.invokevirtual 157, 3) := by decide +kernel
theorem dPb_days_100 : decode (mC mPb_days) 100 = .ok (.ireturn, 1) := by decide +kernel
theorem bPb_days_0 {E : mEn} {d : Nat} {σ : mSt} {Q : mPost} {a1 : Int32} {u2 : Value} : WP E d mPb_days 0 [.ref 0, .int a1, u2] [] σ Q = (if a1 < 0 then WP E d mPb_days 25 [.ref 0, .int a1, u2] [] σ Q else WP E d mPb_days 4 [.ref 0, .int a1, u2] [] σ Q) := (w_iload_n dPb_days_0 rfl).trans (w_iflt (t := 25) dPb_days_1 (by decide))
theorem bPb_days_4 {E : mEn} {d : Nat} {σ : mSt} {Q : mPost} {a1 : Int32} {u2 : Value} : WP E d mPb_days 4 [.ref 0, .int a1, u2] [] σ Q = (if (σ.1 6 2) < a1 then WP E d mPb_days 25 [.ref 0, .int a1, u2] [] σ Q else WP E d mPb_days 18 [.ref 0, .int a1, u2] [] σ Q) := (w_iload_n dPb_days_4 rfl).trans ((w_aload_n dPb_days_5 rfl).trans ((w_getr (r := 5) dPb_days_6 rz10_19 sh_0 rfl).trans ((w_getr (r := 6) dPb_days_9 rz10_127 sh_5 rfl).trans ((w_geti dPb_days_12 rz10_140 sh_6 rfl).trans (w_icmpgt (t := 25) dPb_days_15 (by decide))))))
theorem bPb_days_18 {E : mEn} {d : Nat} {σ : mSt} {Q : mPost} {a1 : Int32} {u2 : Value} : WP E d mPb_days 18 [.ref 0, .int a1, u2] [] σ Q = (if a1 ≤ (nI 300) then WP E d mPb_days 31 [.ref 0, .int a1, u2] [] σ Q else WP E d mPb_days 25 [.ref 0, .int a1, u2] [] σ Q) := (w_iload_n dPb_days_18 rfl).trans ((w_sipush (v := (nI 300)) dPb_days_19 rfl).trans (w_icmple (t := 31) dPb_days_22 (by decide)))
theorem bPb_days_25 {E : mEn} {d : Nat} {σ : mSt} {Q : mPost} {a1 : Int32} {u2 : Value} : WP E (d + 1) mPb_days 25 [.ref 0, .int a1, u2] [] σ Q = WP E d mPb_refuse 0 [.ref 0, .int (nI 5)] [] σ (fun r σ' => WP E (d + 1) mPb_days 30 [.ref 0, .int a1, u2] (r.toList ++ []) σ' Q) := (w_aload_n dPb_days_25 rfl).trans ((w_iconst (v := (nI 5)) dPb_days_26 rfl).trans (w_virt (vs := [.int (nI 5)]) (st' := []) (es := [.ref 0, .int (nI 5)]) dPb_days_27 rz10_104 rfl sh_0 rfl rfl rfl (Nat.le_of_ble_eq_true rfl) (Nat.le_of_ble_eq_true rfl) rfl))
theorem bPb_days_30 {E : mEn} {d : Nat} {σ : mSt} {Q : mPost} {a1 : Int32} {u2 : Value} {s0 : Int32} : WP E d mPb_days 30 [.ref 0, .int a1, u2] [.int s0] σ Q = Q (some (.int s0)) σ := w_iret dPb_days_30 rfl
theorem bPb_days_31 {E : mEn} {d : Nat} {σ : mSt} {Q : mPost} {a1 : Int32} {u2 : Value} : WP E (d + 1) mPb_days 31 [.ref 0, .int a1, u2] [] σ Q = WP E d mTe_readDays 0 [.ref 5, .ref 11, .ref 47, .int a1, uu, uu] [] σ (fun r σ' => WP E (d + 1) mPb_days 53 [.ref 0, .int a1, u2] (r.toList ++ []) σ' Q) := (w_aload_n dPb_days_31 rfl).trans ((w_getr (r := 5) dPb_days_32 rz10_19 sh_0 rfl).trans ((w_aload_n dPb_days_35 rfl).trans ((w_getr (r := 10) dPb_days_36 rz10_26 sh_0 rfl).trans ((w_getr (r := 11) dPb_days_39 rz10_160 sh_10 rfl).trans ((w_aload_n dPb_days_42 rfl).trans ((w_getr (r := 35) dPb_days_43 rz10_30 sh_0 rfl).trans ((w_getr (r := 47) dPb_days_46 rz10_164 sh_35 rfl).trans ((w_iload_n dPb_days_49 rfl).trans (w_virt (vs := [.ref 11, .ref 47, .int a1]) (st' := []) (es := [.ref 5, .ref 11, .ref 47, .int a1, uu, uu]) dPb_days_50 rz10_168 rfl sh_5 rfl rfl rfl (Nat.le_of_ble_eq_true rfl) (Nat.le_of_ble_eq_true rfl) rfl)))))))))
theorem bPb_days_53 {E : mEn} {d : Nat} {σ : mSt} {Q : mPost} {a1 : Int32} {u2 : Value} {s0 : Int32} : WP E (d + 1) mPb_days 53 [.ref 0, .int a1, u2] [.int s0] σ Q = WP E d mPb_keepFault 0 [.ref 0] [] σ (fun r σ' => WP E (d + 1) mPb_days 58 [.ref 0, .int a1, .int s0] (r.toList ++ []) σ' Q) := (w_istore_n (ls' := [.ref 0, .int a1, .int s0]) dPb_days_53 (Nat.le_of_ble_eq_true rfl) rfl).trans ((w_aload_n dPb_days_54 rfl).trans (w_virt (vs := []) (st' := []) (es := [.ref 0]) dPb_days_55 rz10_147 rfl sh_0 rfl rfl rfl (Nat.le_of_ble_eq_true rfl) (Nat.le_of_ble_eq_true rfl) rfl))
theorem bPb_days_58 {E : mEn} {d : Nat} {σ : mSt} {Q : mPost} {a1 : Int32} {a2 : Int32} : WP E d mPb_days 58 [.ref 0, .int a1, .int a2] [] σ Q = (if ¬ a2 = 0 then WP E d mPb_days 69 [.ref 0, .int a1, .int a2] [] σ Q else WP E d mPb_days 62 [.ref 0, .int a1, .int a2] [] σ Q) := (w_iload_n dPb_days_58 rfl).trans (w_ifne (t := 69) dPb_days_59 (by decide))
theorem bPb_days_62 {E : mEn} {d : Nat} {σ : mSt} {Q : mPost} {a1 : Int32} {a2 : Int32} : WP E (d + 1) mPb_days 62 [.ref 0, .int a1, .int a2] [] σ Q = WP E d mPb_refuse 0 [.ref 0, .int (nI 10)] [] σ (fun r σ' => WP E (d + 1) mPb_days 68 [.ref 0, .int a1, .int a2] (r.toList ++ []) σ' Q) := (w_aload_n dPb_days_62 rfl).trans ((w_bipush (v := (nI 10)) dPb_days_63 rfl).trans (w_virt (vs := [.int (nI 10)]) (st' := []) (es := [.ref 0, .int (nI 10)]) dPb_days_65 rz10_104 rfl sh_0 rfl rfl rfl (Nat.le_of_ble_eq_true rfl) (Nat.le_of_ble_eq_true rfl) rfl))
theorem bPb_days_68 {E : mEn} {d : Nat} {σ : mSt} {Q : mPost} {a1 : Int32} {a2 : Int32} {s0 : Int32} : WP E d mPb_days 68 [.ref 0, .int a1, .int a2] [.int s0] σ Q = Q (some (.int s0)) σ := w_iret dPb_days_68 rfl
theorem bPb_days_69 {E : mEn} {d : Nat} {σ : mSt} {Q : mPost} {a1 : Int32} {a2 : Int32} : WP E (d + 1) mPb_days 69 [.ref 0, .int a1, .int a2] [] σ Q = WP E d mDa_copyOf 0 [.ref 22, .ref 47] [] σ (fun r σ' => WP E (d + 1) mPb_days 86 [.ref 0, .int a1, .int a2] (r.toList ++ []) σ' Q) := (w_aload_n dPb_days_69 rfl).trans ((w_getr (r := 10) dPb_days_70 rz10_26 sh_0 rfl).trans ((w_getr (r := 22) dPb_days_73 rz10_164 sh_10 rfl).trans ((w_aload_n dPb_days_76 rfl).trans ((w_getr (r := 35) dPb_days_77 rz10_30 sh_0 rfl).trans ((w_getr (r := 47) dPb_days_80 rz10_164 sh_35 rfl).trans (w_virt (vs := [.ref 47]) (st' := []) (es := [.ref 22, .ref 47]) dPb_days_83 rz10_172 rfl sh_22 rfl rfl rfl (Nat.le_of_ble_eq_true rfl) (Nat.le_of_ble_eq_true rfl) rfl))))))
theorem bPb_days_86 {E : mEn} {d : Nat} {σ : mSt} {Q : mPost} {a1 : Int32} {a2 : Int32} : WP E (d + 1) mPb_days 86 [.ref 0, .int a1, .int a2] [] σ Q = WP E d mPb_answer 0 [.ref 0, .int (σ.1 22 4)] [] σ (fun r σ' => WP E (d + 1) mPb_days 100 [.ref 0, .int a1, .int a2] (r.toList ++ []) σ' Q) := (w_aload_n dPb_days_86 rfl).trans ((w_aload_n dPb_days_87 rfl).trans ((w_getr (r := 10) dPb_days_88 rz10_26 sh_0 rfl).trans ((w_getr (r := 22) dPb_days_91 rz10_164 sh_10 rfl).trans ((w_geti dPb_days_94 rz10_178 sh_22 rfl).trans (w_virt (vs := [.int (σ.1 22 4)]) (st' := []) (es := [.ref 0, .int (σ.1 22 4)]) dPb_days_97 rz10_157 rfl sh_0 rfl rfl rfl (Nat.le_of_ble_eq_true rfl) (Nat.le_of_ble_eq_true rfl) rfl)))))
theorem bPb_days_100 {E : mEn} {d : Nat} {σ : mSt} {Q : mPost} {a1 : Int32} {a2 : Int32} {s0 : Int32} : WP E d mPb_days 100 [.ref 0, .int a1, .int a2] [.int s0] σ Q = Q (some (.int s0)) σ := w_iret dPb_days_100 rfl
theorem dPb_fault_0 : decode (mC mPb_fault) 0 = .ok (.iload_n 1, 1) := by decide +kernel
theorem dPb_fault_1 : decode (mC mPb_fault) 1 = .ok (.ifCond .ne (8), 3) := by decide +kernel
theorem dPb_fault_4 : decode (mC mPb_fault) 4 = .ok (.aload_n 0, 1) := by decide +kernel
theorem dPb_fault_5 : decode (mC mPb_fault) 5 = .ok (.getfield 65, 3) := by decide +kernel
theorem dPb_fault_8 : decode (mC mPb_fault) 8 = .ok (.ireturn, 1) := by decide +kernel
theorem dPb_fault_9 : decode (mC mPb_fault) 9 = .ok (.iload_n 1, 1) := by decide +kernel
theorem dPb_fault_10 : decode (mC mPb_fault) 10 = .ok (.iconst (1), 1) := by decide +kernel
theorem dPb_fault_11 : decode (mC mPb_fault) 11 = .ok (.if_icmp .ne (10), 3) := by decide +kernel
theorem dPb_fault_14 : decode (mC mPb_fault) 14 = .ok (.aload_n 0, 1) := by decide +kernel
theorem dPb_fault_15 : decode (mC mPb_fault) 15 = .ok (.getfield 69, 3) := by decide +kernel
theorem dPb_fault_18 : decode (mC mPb_fault) 18 = .ok (.goto (4), 3) := by decide +kernel
theorem dPb_fault_21 : decode (mC mPb_fault) 21 = .ok (.iconst (-1), 1) := by decide +kernel
theorem dPb_fault_22 : decode (mC mPb_fault) 22 = .ok (.ireturn, 1) := by decide +kernel
theorem bPb_fault_0 {E : mEn} {d : Nat} {σ : mSt} {Q : mPost} {a1 : Int32} : WP E d mPb_fault 0 [.ref 0, .int a1] [] σ Q = (if ¬ a1 = 0 then WP E d mPb_fault 9 [.ref 0, .int a1] [] σ Q else WP E d mPb_fault 4 [.ref 0, .int a1] [] σ Q) := (w_iload_n dPb_fault_0 rfl).trans (w_ifne (t := 9) dPb_fault_1 (by decide))
theorem bPb_fault_4 {E : mEn} {d : Nat} {σ : mSt} {Q : mPost} {a1 : Int32} : WP E d mPb_fault 4 [.ref 0, .int a1] [] σ Q = Q (some (.int (σ.1 0 13))) σ := (w_aload_n dPb_fault_4 rfl).trans ((w_geti dPb_fault_5 rz10_65 sh_0 rfl).trans (w_iret dPb_fault_8 rfl))
theorem bPb_fault_9 {E : mEn} {d : Nat} {σ : mSt} {Q : mPost} {a1 : Int32} : WP E d mPb_fault 9 [.ref 0, .int a1] [] σ Q = (if ¬ a1 = 1 then WP E d mPb_fault 21 [.ref 0, .int a1] [] σ Q else WP E d mPb_fault 14 [.ref 0, .int a1] [] σ Q) := (w_iload_n dPb_fault_9 rfl).trans ((w_iconst (v := 1) dPb_fault_10 rfl).trans (w_icmpne (t := 21) dPb_fault_11 (by decide)))
theorem bPb_fault_14 {E : mEn} {d : Nat} {σ : mSt} {Q : mPost} {a1 : Int32} : WP E d mPb_fault 14 [.ref 0, .int a1] [] σ Q = WP E d mPb_fault 22 [.ref 0, .int a1] [.int (σ.1 0 14)] σ Q := (w_aload_n dPb_fault_14 rfl).trans ((w_geti dPb_fault_15 rz10_69 sh_0 rfl).trans (w_goto (t := 22) dPb_fault_18 (by decide)))
theorem bPb_fault_21 {E : mEn} {d : Nat} {σ : mSt} {Q : mPost} {a1 : Int32} : WP E d mPb_fault 21 [.ref 0, .int a1] [] σ Q = WP E d mPb_fault 22 [.ref 0, .int a1] [.int (-1)] σ Q := w_iconst (v := (-1)) dPb_fault_21 rfl
theorem bPb_fault_22 {E : mEn} {d : Nat} {σ : mSt} {Q : mPost} {a1 : Int32} {s0 : Int32} : WP E d mPb_fault 22 [.ref 0, .int a1] [.int s0] σ Q = Q (some (.int s0)) σ := w_iret dPb_fault_22 rfl
theorem dPb_many_0 : decode (mC mPb_many) 0 = .ok (.iload_n 1, 1) := by decide +kernel
theorem dPb_many_1 : decode (mC mPb_many) 1 = .ok (.tableswitch (130) 0 6 #[43, 55, 67, 79, 94, 106, 118], 43) := by decide +kernel
theorem dPb_many_44 : decode (mC mPb_many) 44 = .ok (.aload_n 0, 1) := by decide +kernel
theorem dPb_many_45 : decode (mC mPb_many) 45 = .ok (.aload_n 0, 1) := by decide +kernel
theorem dPb_many_46 : decode (mC mPb_many) 46 = .ok (.getfield 26, 3) := by decide +kernel
theorem dPb_many_49 : decode (mC mPb_many) 49 = .ok (.getfield 181, 3) := by decide +kernel
theorem dPb_many_52 : decode (mC mPb_many) 52 = .ok (.invokevirtual 157, 3) := by decide +kernel
theorem dPb_many_55 : decode (mC mPb_many) 55 = .ok (.ireturn, 1) := by decide +kernel
theorem dPb_many_56 : decode (mC mPb_many) 56 = .ok (.aload_n 0, 1) := by decide +kernel
theorem dPb_many_57 : decode (mC mPb_many) 57 = .ok (.aload_n 0, 1) := by decide +kernel
theorem dPb_many_58 : decode (mC mPb_many) 58 = .ok (.getfield 26, 3) := by decide +kernel
theorem dPb_many_61 : decode (mC mPb_many) 61 = .ok (.getfield 184, 3) := by decide +kernel
theorem dPb_many_64 : decode (mC mPb_many) 64 = .ok (.invokevirtual 157, 3) := by decide +kernel
theorem dPb_many_67 : decode (mC mPb_many) 67 = .ok (.ireturn, 1) := by decide +kernel
theorem dPb_many_68 : decode (mC mPb_many) 68 = .ok (.aload_n 0, 1) := by decide +kernel
theorem dPb_many_69 : decode (mC mPb_many) 69 = .ok (.aload_n 0, 1) := by decide +kernel
theorem dPb_many_70 : decode (mC mPb_many) 70 = .ok (.getfield 26, 3) := by decide +kernel
theorem dPb_many_73 : decode (mC mPb_many) 73 = .ok (.getfield 154, 3) := by decide +kernel
theorem dPb_many_76 : decode (mC mPb_many) 76 = .ok (.invokevirtual 157, 3) := by decide +kernel
theorem dPb_many_79 : decode (mC mPb_many) 79 = .ok (.ireturn, 1) := by decide +kernel
theorem dPb_many_80 : decode (mC mPb_many) 80 = .ok (.aload_n 0, 1) := by decide +kernel
theorem dPb_many_81 : decode (mC mPb_many) 81 = .ok (.aload_n 0, 1) := by decide +kernel
theorem dPb_many_82 : decode (mC mPb_many) 82 = .ok (.getfield 26, 3) := by decide +kernel
theorem dPb_many_85 : decode (mC mPb_many) 85 = .ok (.getfield 187, 3) := by decide +kernel
theorem dPb_many_88 : decode (mC mPb_many) 88 = .ok (.getfield 191, 3) := by decide +kernel
theorem dPb_many_91 : decode (mC mPb_many) 91 = .ok (.invokevirtual 157, 3) := by decide +kernel
theorem dPb_many_94 : decode (mC mPb_many) 94 = .ok (.ireturn, 1) := by decide +kernel
theorem dPb_many_95 : decode (mC mPb_many) 95 = .ok (.aload_n 0, 1) := by decide +kernel
theorem dPb_many_96 : decode (mC mPb_many) 96 = .ok (.aload_n 0, 1) := by decide +kernel
theorem dPb_many_97 : decode (mC mPb_many) 97 = .ok (.getfield 26, 3) := by decide +kernel
theorem dPb_many_100 : decode (mC mPb_many) 100 = .ok (.getfield 196, 3) := by decide +kernel
theorem dPb_many_103 : decode (mC mPb_many) 103 = .ok (.invokevirtual 157, 3) := by decide +kernel
theorem dPb_many_106 : decode (mC mPb_many) 106 = .ok (.ireturn, 1) := by decide +kernel
theorem dPb_many_107 : decode (mC mPb_many) 107 = .ok (.aload_n 0, 1) := by decide +kernel
theorem dPb_many_108 : decode (mC mPb_many) 108 = .ok (.aload_n 0, 1) := by decide +kernel
theorem dPb_many_109 : decode (mC mPb_many) 109 = .ok (.getfield 26, 3) := by decide +kernel
theorem dPb_many_112 : decode (mC mPb_many) 112 = .ok (.getfield 199, 3) := by decide +kernel
theorem dPb_many_115 : decode (mC mPb_many) 115 = .ok (.invokevirtual 157, 3) := by decide +kernel
theorem dPb_many_118 : decode (mC mPb_many) 118 = .ok (.ireturn, 1) := by decide +kernel
theorem dPb_many_119 : decode (mC mPb_many) 119 = .ok (.aload_n 0, 1) := by decide +kernel
theorem dPb_many_120 : decode (mC mPb_many) 120 = .ok (.aload_n 0, 1) := by decide +kernel
theorem dPb_many_121 : decode (mC mPb_many) 121 = .ok (.getfield 26, 3) := by decide +kernel
theorem dPb_many_124 : decode (mC mPb_many) 124 = .ok (.getfield 202, 3) := by decide +kernel
theorem dPb_many_127 : decode (mC mPb_many) 127 = .ok (.invokevirtual 157, 3) := by decide +kernel
theorem dPb_many_130 : decode (mC mPb_many) 130 = .ok (.ireturn, 1) := by decide +kernel
theorem dPb_many_131 : decode (mC mPb_many) 131 = .ok (.aload_n 0, 1) := by decide +kernel
theorem dPb_many_132 : decode (mC mPb_many) 132 = .ok (.iconst (5), 1) := by decide +kernel
theorem dPb_many_133 : decode (mC mPb_many) 133 = .ok (.invokevirtual 104, 3) := by decide +kernel
theorem dPb_many_136 : decode (mC mPb_many) 136 = .ok (.ireturn, 1) := by decide +kernel
theorem bPb_many_0 {E : mEn} {d : Nat} {σ : mSt} {Q : mPost} {a1 : Int32} : WP E d mPb_many 0 [.ref 0, .int a1] [] σ Q = WP E d mPb_many 1 [.ref 0, .int a1] [.int a1] σ Q := w_iload_n dPb_many_0 rfl
theorem bPb_many_0_s0 {E : mEn} {d : Nat} {σ : mSt} {Q : mPost} {b1 : Int32} : WP E d mPb_many 1 [.ref 0, .int b1] [.int (nI 0)] σ Q = WP E d mPb_many 44 [.ref 0, .int b1] [] σ Q := w_swK 0 dPb_many_1 (by decide) (by decide) (by decide) rfl (by decide)
theorem bPb_many_0_s1 {E : mEn} {d : Nat} {σ : mSt} {Q : mPost} {b1 : Int32} : WP E d mPb_many 1 [.ref 0, .int b1] [.int (nI 1)] σ Q = WP E d mPb_many 56 [.ref 0, .int b1] [] σ Q := w_swK 1 dPb_many_1 (by decide) (by decide) (by decide) rfl (by decide)
theorem bPb_many_0_s2 {E : mEn} {d : Nat} {σ : mSt} {Q : mPost} {b1 : Int32} : WP E d mPb_many 1 [.ref 0, .int b1] [.int (nI 2)] σ Q = WP E d mPb_many 68 [.ref 0, .int b1] [] σ Q := w_swK 2 dPb_many_1 (by decide) (by decide) (by decide) rfl (by decide)
theorem bPb_many_0_s3 {E : mEn} {d : Nat} {σ : mSt} {Q : mPost} {b1 : Int32} : WP E d mPb_many 1 [.ref 0, .int b1] [.int (nI 3)] σ Q = WP E d mPb_many 80 [.ref 0, .int b1] [] σ Q := w_swK 3 dPb_many_1 (by decide) (by decide) (by decide) rfl (by decide)
theorem bPb_many_0_s4 {E : mEn} {d : Nat} {σ : mSt} {Q : mPost} {b1 : Int32} : WP E d mPb_many 1 [.ref 0, .int b1] [.int (nI 4)] σ Q = WP E d mPb_many 95 [.ref 0, .int b1] [] σ Q := w_swK 4 dPb_many_1 (by decide) (by decide) (by decide) rfl (by decide)
theorem bPb_many_0_s5 {E : mEn} {d : Nat} {σ : mSt} {Q : mPost} {b1 : Int32} : WP E d mPb_many 1 [.ref 0, .int b1] [.int (nI 5)] σ Q = WP E d mPb_many 107 [.ref 0, .int b1] [] σ Q := w_swK 5 dPb_many_1 (by decide) (by decide) (by decide) rfl (by decide)
theorem bPb_many_0_s6 {E : mEn} {d : Nat} {σ : mSt} {Q : mPost} {b1 : Int32} : WP E d mPb_many 1 [.ref 0, .int b1] [.int (nI 6)] σ Q = WP E d mPb_many 119 [.ref 0, .int b1] [] σ Q := w_swK 6 dPb_many_1 (by decide) (by decide) (by decide) rfl (by decide)
theorem bPb_many_0_sD {E : mEn} {d : Nat} {σ : mSt} {Q : mPost} {b1 : Int32} {x : Int32} (hne : ∀ k : Nat, 0 ≤ k → k ≤ 6 → x ≠ nI k) : WP E d mPb_many 1 [.ref 0, .int b1] [.int x] σ Q = WP E d mPb_many 131 [.ref 0, .int b1] [] σ Q := w_swD dPb_many_1 (by decide) hne (by decide)
theorem bPb_many_44 {E : mEn} {d : Nat} {σ : mSt} {Q : mPost} {a1 : Int32} : WP E (d + 1) mPb_many 44 [.ref 0, .int a1] [] σ Q = WP E d mPb_answer 0 [.ref 0, .int (σ.1 10 13)] [] σ (fun r σ' => WP E (d + 1) mPb_many 55 [.ref 0, .int a1] (r.toList ++ []) σ' Q) := (w_aload_n dPb_many_44 rfl).trans ((w_aload_n dPb_many_45 rfl).trans ((w_getr (r := 10) dPb_many_46 rz10_26 sh_0 rfl).trans ((w_geti dPb_many_49 rz10_181 sh_10 rfl).trans (w_virt (vs := [.int (σ.1 10 13)]) (st' := []) (es := [.ref 0, .int (σ.1 10 13)]) dPb_many_52 rz10_157 rfl sh_0 rfl rfl rfl (Nat.le_of_ble_eq_true rfl) (Nat.le_of_ble_eq_true rfl) rfl))))
theorem bPb_many_55 {E : mEn} {d : Nat} {σ : mSt} {Q : mPost} {a1 : Int32} {s0 : Int32} : WP E d mPb_many 55 [.ref 0, .int a1] [.int s0] σ Q = Q (some (.int s0)) σ := w_iret dPb_many_55 rfl
theorem bPb_many_56 {E : mEn} {d : Nat} {σ : mSt} {Q : mPost} {a1 : Int32} : WP E (d + 1) mPb_many 56 [.ref 0, .int a1] [] σ Q = WP E d mPb_answer 0 [.ref 0, .int (σ.1 10 14)] [] σ (fun r σ' => WP E (d + 1) mPb_many 67 [.ref 0, .int a1] (r.toList ++ []) σ' Q) := (w_aload_n dPb_many_56 rfl).trans ((w_aload_n dPb_many_57 rfl).trans ((w_getr (r := 10) dPb_many_58 rz10_26 sh_0 rfl).trans ((w_geti dPb_many_61 rz10_184 sh_10 rfl).trans (w_virt (vs := [.int (σ.1 10 14)]) (st' := []) (es := [.ref 0, .int (σ.1 10 14)]) dPb_many_64 rz10_157 rfl sh_0 rfl rfl rfl (Nat.le_of_ble_eq_true rfl) (Nat.le_of_ble_eq_true rfl) rfl))))
theorem bPb_many_67 {E : mEn} {d : Nat} {σ : mSt} {Q : mPost} {a1 : Int32} {s0 : Int32} : WP E d mPb_many 67 [.ref 0, .int a1] [.int s0] σ Q = Q (some (.int s0)) σ := w_iret dPb_many_67 rfl
theorem bPb_many_68 {E : mEn} {d : Nat} {σ : mSt} {Q : mPost} {a1 : Int32} : WP E (d + 1) mPb_many 68 [.ref 0, .int a1] [] σ Q = WP E d mPb_answer 0 [.ref 0, .int (σ.1 10 15)] [] σ (fun r σ' => WP E (d + 1) mPb_many 79 [.ref 0, .int a1] (r.toList ++ []) σ' Q) := (w_aload_n dPb_many_68 rfl).trans ((w_aload_n dPb_many_69 rfl).trans ((w_getr (r := 10) dPb_many_70 rz10_26 sh_0 rfl).trans ((w_geti dPb_many_73 rz10_154 sh_10 rfl).trans (w_virt (vs := [.int (σ.1 10 15)]) (st' := []) (es := [.ref 0, .int (σ.1 10 15)]) dPb_many_76 rz10_157 rfl sh_0 rfl rfl rfl (Nat.le_of_ble_eq_true rfl) (Nat.le_of_ble_eq_true rfl) rfl))))
theorem bPb_many_79 {E : mEn} {d : Nat} {σ : mSt} {Q : mPost} {a1 : Int32} {s0 : Int32} : WP E d mPb_many 79 [.ref 0, .int a1] [.int s0] σ Q = Q (some (.int s0)) σ := w_iret dPb_many_79 rfl
theorem bPb_many_80 {E : mEn} {d : Nat} {σ : mSt} {Q : mPost} {a1 : Int32} : WP E (d + 1) mPb_many 80 [.ref 0, .int a1] [] σ Q = WP E d mPb_answer 0 [.ref 0, .int (σ.1 13 8)] [] σ (fun r σ' => WP E (d + 1) mPb_many 94 [.ref 0, .int a1] (r.toList ++ []) σ' Q) := (w_aload_n dPb_many_80 rfl).trans ((w_aload_n dPb_many_81 rfl).trans ((w_getr (r := 10) dPb_many_82 rz10_26 sh_0 rfl).trans ((w_getr (r := 13) dPb_many_85 rz10_187 sh_10 rfl).trans ((w_geti dPb_many_88 rz10_191 sh_13 rfl).trans (w_virt (vs := [.int (σ.1 13 8)]) (st' := []) (es := [.ref 0, .int (σ.1 13 8)]) dPb_many_91 rz10_157 rfl sh_0 rfl rfl rfl (Nat.le_of_ble_eq_true rfl) (Nat.le_of_ble_eq_true rfl) rfl)))))
theorem bPb_many_94 {E : mEn} {d : Nat} {σ : mSt} {Q : mPost} {a1 : Int32} {s0 : Int32} : WP E d mPb_many 94 [.ref 0, .int a1] [.int s0] σ Q = Q (some (.int s0)) σ := w_iret dPb_many_94 rfl
theorem bPb_many_95 {E : mEn} {d : Nat} {σ : mSt} {Q : mPost} {a1 : Int32} : WP E (d + 1) mPb_many 95 [.ref 0, .int a1] [] σ Q = WP E d mPb_answer 0 [.ref 0, .int (σ.1 10 16)] [] σ (fun r σ' => WP E (d + 1) mPb_many 106 [.ref 0, .int a1] (r.toList ++ []) σ' Q) := (w_aload_n dPb_many_95 rfl).trans ((w_aload_n dPb_many_96 rfl).trans ((w_getr (r := 10) dPb_many_97 rz10_26 sh_0 rfl).trans ((w_geti dPb_many_100 rz10_196 sh_10 rfl).trans (w_virt (vs := [.int (σ.1 10 16)]) (st' := []) (es := [.ref 0, .int (σ.1 10 16)]) dPb_many_103 rz10_157 rfl sh_0 rfl rfl rfl (Nat.le_of_ble_eq_true rfl) (Nat.le_of_ble_eq_true rfl) rfl))))
theorem bPb_many_106 {E : mEn} {d : Nat} {σ : mSt} {Q : mPost} {a1 : Int32} {s0 : Int32} : WP E d mPb_many 106 [.ref 0, .int a1] [.int s0] σ Q = Q (some (.int s0)) σ := w_iret dPb_many_106 rfl
theorem bPb_many_107 {E : mEn} {d : Nat} {σ : mSt} {Q : mPost} {a1 : Int32} : WP E (d + 1) mPb_many 107 [.ref 0, .int a1] [] σ Q = WP E d mPb_answer 0 [.ref 0, .int (σ.1 10 17)] [] σ (fun r σ' => WP E (d + 1) mPb_many 118 [.ref 0, .int a1] (r.toList ++ []) σ' Q) := (w_aload_n dPb_many_107 rfl).trans ((w_aload_n dPb_many_108 rfl).trans ((w_getr (r := 10) dPb_many_109 rz10_26 sh_0 rfl).trans ((w_geti dPb_many_112 rz10_199 sh_10 rfl).trans (w_virt (vs := [.int (σ.1 10 17)]) (st' := []) (es := [.ref 0, .int (σ.1 10 17)]) dPb_many_115 rz10_157 rfl sh_0 rfl rfl rfl (Nat.le_of_ble_eq_true rfl) (Nat.le_of_ble_eq_true rfl) rfl))))
theorem bPb_many_118 {E : mEn} {d : Nat} {σ : mSt} {Q : mPost} {a1 : Int32} {s0 : Int32} : WP E d mPb_many 118 [.ref 0, .int a1] [.int s0] σ Q = Q (some (.int s0)) σ := w_iret dPb_many_118 rfl
theorem bPb_many_119 {E : mEn} {d : Nat} {σ : mSt} {Q : mPost} {a1 : Int32} : WP E (d + 1) mPb_many 119 [.ref 0, .int a1] [] σ Q = WP E d mPb_answer 0 [.ref 0, .int (σ.1 10 18)] [] σ (fun r σ' => WP E (d + 1) mPb_many 130 [.ref 0, .int a1] (r.toList ++ []) σ' Q) := (w_aload_n dPb_many_119 rfl).trans ((w_aload_n dPb_many_120 rfl).trans ((w_getr (r := 10) dPb_many_121 rz10_26 sh_0 rfl).trans ((w_geti dPb_many_124 rz10_202 sh_10 rfl).trans (w_virt (vs := [.int (σ.1 10 18)]) (st' := []) (es := [.ref 0, .int (σ.1 10 18)]) dPb_many_127 rz10_157 rfl sh_0 rfl rfl rfl (Nat.le_of_ble_eq_true rfl) (Nat.le_of_ble_eq_true rfl) rfl))))
theorem bPb_many_130 {E : mEn} {d : Nat} {σ : mSt} {Q : mPost} {a1 : Int32} {s0 : Int32} : WP E d mPb_many 130 [.ref 0, .int a1] [.int s0] σ Q = Q (some (.int s0)) σ := w_iret dPb_many_130 rfl
theorem bPb_many_131 {E : mEn} {d : Nat} {σ : mSt} {Q : mPost} {a1 : Int32} : WP E (d + 1) mPb_many 131 [.ref 0, .int a1] [] σ Q = WP E d mPb_refuse 0 [.ref 0, .int (nI 5)] [] σ (fun r σ' => WP E (d + 1) mPb_many 136 [.ref 0, .int a1] (r.toList ++ []) σ' Q) := (w_aload_n dPb_many_131 rfl).trans ((w_iconst (v := (nI 5)) dPb_many_132 rfl).trans (w_virt (vs := [.int (nI 5)]) (st' := []) (es := [.ref 0, .int (nI 5)]) dPb_many_133 rz10_104 rfl sh_0 rfl rfl rfl (Nat.le_of_ble_eq_true rfl) (Nat.le_of_ble_eq_true rfl) rfl))
theorem bPb_many_136 {E : mEn} {d : Nat} {σ : mSt} {Q : mPost} {a1 : Int32} {s0 : Int32} : WP E d mPb_many 136 [.ref 0, .int a1] [.int s0] σ Q = Q (some (.int s0)) σ := w_iret dPb_many_136 rfl
theorem dPb_person_0 : decode (mC mPb_person) 0 = .ok (.aload_n 0, 1) := by decide +kernel
theorem dPb_person_1 : decode (mC mPb_person) 1 = .ok (.getfield 26, 3) := by decide +kernel
theorem dPb_person_4 : decode (mC mPb_person) 4 = .ok (.iload_n 1, 1) := by decide +kernel
theorem dPb_person_5 : decode (mC mPb_person) 5 = .ok (.invokevirtual 205, 3) := by decide +kernel
theorem dPb_person_8 : decode (mC mPb_person) 8 = .ok (.ifCond .ne (9), 3) := by decide +kernel
theorem dPb_person_11 : decode (mC mPb_person) 11 = .ok (.aload_n 0, 1) := by decide +kernel
theorem dPb_person_12 : decode (mC mPb_person) 12 = .ok (.iconst (2), 1) := by decide +kernel
theorem dPb_person_13 : decode (mC mPb_person) 13 = .ok (.invokevirtual 104, 3) := by decide +kernel
theorem dPb_person_16 : decode (mC mPb_person) 16 = .ok (.ireturn, 1) := by decide +kernel
theorem dPb_person_17 : decode (mC mPb_person) 17 = .ok (.iload_n 2, 1) := by decide +kernel
theorem dPb_person_18 : decode (mC mPb_person) 18 = .ok (.tableswitch (68) 0 2 #[26, 40, 54], 26) := by decide +kernel
theorem dPb_person_44 : decode (mC mPb_person) 44 = .ok (.aload_n 0, 1) := by decide +kernel
theorem dPb_person_45 : decode (mC mPb_person) 45 = .ok (.aload_n 0, 1) := by decide +kernel
theorem dPb_person_46 : decode (mC mPb_person) 46 = .ok (.getfield 26, 3) := by decide +kernel
theorem dPb_person_49 : decode (mC mPb_person) 49 = .ok (.getfield 208, 3) := by decide +kernel
theorem dPb_person_52 : decode (mC mPb_person) 52 = .ok (.iload_n 1, 1) := by decide +kernel
theorem dPb_person_53 : decode (mC mPb_person) 53 = .ok (.iaload, 1) := by decide +kernel
theorem dPb_person_54 : decode (mC mPb_person) 54 = .ok (.invokevirtual 157, 3) := by decide +kernel
theorem dPb_person_57 : decode (mC mPb_person) 57 = .ok (.ireturn, 1) := by decide +kernel
theorem dPb_person_58 : decode (mC mPb_person) 58 = .ok (.aload_n 0, 1) := by decide +kernel
theorem dPb_person_59 : decode (mC mPb_person) 59 = .ok (.aload_n 0, 1) := by decide +kernel
theorem dPb_person_60 : decode (mC mPb_person) 60 = .ok (.getfield 26, 3) := by decide +kernel
theorem dPb_person_63 : decode (mC mPb_person) 63 = .ok (.getfield 212, 3) := by decide +kernel
theorem dPb_person_66 : decode (mC mPb_person) 66 = .ok (.iload_n 1, 1) := by decide +kernel
theorem dPb_person_67 : decode (mC mPb_person) 67 = .ok (.iaload, 1) := by decide +kernel
theorem dPb_person_68 : decode (mC mPb_person) 68 = .ok (.invokevirtual 157, 3) := by decide +kernel
theorem dPb_person_71 : decode (mC mPb_person) 71 = .ok (.ireturn, 1) := by decide +kernel
theorem dPb_person_72 : decode (mC mPb_person) 72 = .ok (.aload_n 0, 1) := by decide +kernel
theorem dPb_person_73 : decode (mC mPb_person) 73 = .ok (.aload_n 0, 1) := by decide +kernel
theorem dPb_person_74 : decode (mC mPb_person) 74 = .ok (.getfield 26, 3) := by decide +kernel
theorem dPb_person_77 : decode (mC mPb_person) 77 = .ok (.getfield 215, 3) := by decide +kernel
theorem dPb_person_80 : decode (mC mPb_person) 80 = .ok (.iload_n 1, 1) := by decide +kernel
theorem dPb_person_81 : decode (mC mPb_person) 81 = .ok (.iaload, 1) := by decide +kernel
theorem dPb_person_82 : decode (mC mPb_person) 82 = .ok (.invokevirtual 157, 3) := by decide +kernel
theorem dPb_person_85 : decode (mC mPb_person) 85 = .ok (.ireturn, 1) := by decide +kernel
theorem dPb_person_86 : decode (mC mPb_person) 86 = .ok (.aload_n 0, 1) := by decide +kernel
theorem dPb_person_87 : decode (mC mPb_person) 87 = .ok (.iconst (5), 1) := by decide +kernel
theorem dPb_person_88 : decode (mC mPb_person) 88 = .ok (.invokevirtual 104, 3) := by decide +kernel
theorem dPb_person_91 : decode (mC mPb_person) 91 = .ok (.ireturn, 1) := by decide +kernel
theorem bPb_person_0 {E : mEn} {d : Nat} {σ : mSt} {Q : mPost} {a1 : Int32} {a2 : Int32} : WP E (d + 1) mPb_person 0 [.ref 0, .int a1, .int a2] [] σ Q = WP E d mTw_hasPerson 0 [.ref 10, .int a1] [] σ (fun r σ' => WP E (d + 1) mPb_person 8 [.ref 0, .int a1, .int a2] (r.toList ++ []) σ' Q) := (w_aload_n dPb_person_0 rfl).trans ((w_getr (r := 10) dPb_person_1 rz10_26 sh_0 rfl).trans ((w_iload_n dPb_person_4 rfl).trans (w_virt (vs := [.int a1]) (st' := []) (es := [.ref 10, .int a1]) dPb_person_5 rz10_205 rfl sh_10 rfl rfl rfl (Nat.le_of_ble_eq_true rfl) (Nat.le_of_ble_eq_true rfl) rfl)))
theorem bPb_person_8 {E : mEn} {d : Nat} {σ : mSt} {Q : mPost} {a1 : Int32} {a2 : Int32} {s0 : Int32} : WP E d mPb_person 8 [.ref 0, .int a1, .int a2] [.int s0] σ Q = (if ¬ s0 = 0 then WP E d mPb_person 17 [.ref 0, .int a1, .int a2] [] σ Q else WP E d mPb_person 11 [.ref 0, .int a1, .int a2] [] σ Q) := w_ifne (t := 17) dPb_person_8 (by decide)
theorem bPb_person_11 {E : mEn} {d : Nat} {σ : mSt} {Q : mPost} {a1 : Int32} {a2 : Int32} : WP E (d + 1) mPb_person 11 [.ref 0, .int a1, .int a2] [] σ Q = WP E d mPb_refuse 0 [.ref 0, .int (nI 2)] [] σ (fun r σ' => WP E (d + 1) mPb_person 16 [.ref 0, .int a1, .int a2] (r.toList ++ []) σ' Q) := (w_aload_n dPb_person_11 rfl).trans ((w_iconst (v := (nI 2)) dPb_person_12 rfl).trans (w_virt (vs := [.int (nI 2)]) (st' := []) (es := [.ref 0, .int (nI 2)]) dPb_person_13 rz10_104 rfl sh_0 rfl rfl rfl (Nat.le_of_ble_eq_true rfl) (Nat.le_of_ble_eq_true rfl) rfl))
theorem bPb_person_16 {E : mEn} {d : Nat} {σ : mSt} {Q : mPost} {a1 : Int32} {a2 : Int32} {s0 : Int32} : WP E d mPb_person 16 [.ref 0, .int a1, .int a2] [.int s0] σ Q = Q (some (.int s0)) σ := w_iret dPb_person_16 rfl
theorem bPb_person_17 {E : mEn} {d : Nat} {σ : mSt} {Q : mPost} {a1 : Int32} {a2 : Int32} : WP E d mPb_person 17 [.ref 0, .int a1, .int a2] [] σ Q = WP E d mPb_person 18 [.ref 0, .int a1, .int a2] [.int a2] σ Q := w_iload_n dPb_person_17 rfl
theorem bPb_person_17_s0 {E : mEn} {d : Nat} {σ : mSt} {Q : mPost} {b1 : Int32} {b2 : Int32} : WP E d mPb_person 18 [.ref 0, .int b1, .int b2] [.int (nI 0)] σ Q = WP E d mPb_person 44 [.ref 0, .int b1, .int b2] [] σ Q := w_swK 0 dPb_person_18 (by decide) (by decide) (by decide) rfl (by decide)
theorem bPb_person_17_s1 {E : mEn} {d : Nat} {σ : mSt} {Q : mPost} {b1 : Int32} {b2 : Int32} : WP E d mPb_person 18 [.ref 0, .int b1, .int b2] [.int (nI 1)] σ Q = WP E d mPb_person 58 [.ref 0, .int b1, .int b2] [] σ Q := w_swK 1 dPb_person_18 (by decide) (by decide) (by decide) rfl (by decide)
theorem bPb_person_17_s2 {E : mEn} {d : Nat} {σ : mSt} {Q : mPost} {b1 : Int32} {b2 : Int32} : WP E d mPb_person 18 [.ref 0, .int b1, .int b2] [.int (nI 2)] σ Q = WP E d mPb_person 72 [.ref 0, .int b1, .int b2] [] σ Q := w_swK 2 dPb_person_18 (by decide) (by decide) (by decide) rfl (by decide)
theorem bPb_person_17_sD {E : mEn} {d : Nat} {σ : mSt} {Q : mPost} {b1 : Int32} {b2 : Int32} {x : Int32} (hne : ∀ k : Nat, 0 ≤ k → k ≤ 2 → x ≠ nI k) : WP E d mPb_person 18 [.ref 0, .int b1, .int b2] [.int x] σ Q = WP E d mPb_person 86 [.ref 0, .int b1, .int b2] [] σ Q := w_swD dPb_person_18 (by decide) hne (by decide)
theorem bPb_person_44 {E : mEn} {d : Nat} {σ : mSt} {Q : mPost} {a1 : Int32} {a2 : Int32} : WP E (d + 1) mPb_person 44 [.ref 0, .int a1, .int a2] [] σ Q = (if mOut a1 8 = true then False else WP E d mPb_answer 0 [.ref 0, .int (σ.1 25 a1.toNatClampNeg)] [] σ (fun r σ' => WP E (d + 1) mPb_person 57 [.ref 0, .int a1, .int a2] (r.toList ++ []) σ' Q)) := (w_aload_n dPb_person_44 rfl).trans ((w_aload_n dPb_person_45 rfl).trans ((w_getr (r := 10) dPb_person_46 rz10_26 sh_0 rfl).trans ((w_getr (r := 25) dPb_person_49 rz10_208 sh_10 rfl).trans ((w_iload_n dPb_person_52 rfl).trans ((w_iald dPb_person_53 sh_25 (by decide)).trans (ite_c (w_virt (vs := [.int (σ.1 25 a1.toNatClampNeg)]) (st' := []) (es := [.ref 0, .int (σ.1 25 a1.toNatClampNeg)]) dPb_person_54 rz10_157 rfl sh_0 rfl rfl rfl (Nat.le_of_ble_eq_true rfl) (Nat.le_of_ble_eq_true rfl) rfl)))))))
theorem bPb_person_57 {E : mEn} {d : Nat} {σ : mSt} {Q : mPost} {a1 : Int32} {a2 : Int32} {s0 : Int32} : WP E d mPb_person 57 [.ref 0, .int a1, .int a2] [.int s0] σ Q = Q (some (.int s0)) σ := w_iret dPb_person_57 rfl
theorem bPb_person_58 {E : mEn} {d : Nat} {σ : mSt} {Q : mPost} {a1 : Int32} {a2 : Int32} : WP E (d + 1) mPb_person 58 [.ref 0, .int a1, .int a2] [] σ Q = (if mOut a1 8 = true then False else WP E d mPb_answer 0 [.ref 0, .int (σ.1 26 a1.toNatClampNeg)] [] σ (fun r σ' => WP E (d + 1) mPb_person 71 [.ref 0, .int a1, .int a2] (r.toList ++ []) σ' Q)) := (w_aload_n dPb_person_58 rfl).trans ((w_aload_n dPb_person_59 rfl).trans ((w_getr (r := 10) dPb_person_60 rz10_26 sh_0 rfl).trans ((w_getr (r := 26) dPb_person_63 rz10_212 sh_10 rfl).trans ((w_iload_n dPb_person_66 rfl).trans ((w_iald dPb_person_67 sh_26 (by decide)).trans (ite_c (w_virt (vs := [.int (σ.1 26 a1.toNatClampNeg)]) (st' := []) (es := [.ref 0, .int (σ.1 26 a1.toNatClampNeg)]) dPb_person_68 rz10_157 rfl sh_0 rfl rfl rfl (Nat.le_of_ble_eq_true rfl) (Nat.le_of_ble_eq_true rfl) rfl)))))))
theorem bPb_person_71 {E : mEn} {d : Nat} {σ : mSt} {Q : mPost} {a1 : Int32} {a2 : Int32} {s0 : Int32} : WP E d mPb_person 71 [.ref 0, .int a1, .int a2] [.int s0] σ Q = Q (some (.int s0)) σ := w_iret dPb_person_71 rfl
theorem bPb_person_72 {E : mEn} {d : Nat} {σ : mSt} {Q : mPost} {a1 : Int32} {a2 : Int32} : WP E (d + 1) mPb_person 72 [.ref 0, .int a1, .int a2] [] σ Q = (if mOut a1 8 = true then False else WP E d mPb_answer 0 [.ref 0, .int (σ.1 27 a1.toNatClampNeg)] [] σ (fun r σ' => WP E (d + 1) mPb_person 85 [.ref 0, .int a1, .int a2] (r.toList ++ []) σ' Q)) := (w_aload_n dPb_person_72 rfl).trans ((w_aload_n dPb_person_73 rfl).trans ((w_getr (r := 10) dPb_person_74 rz10_26 sh_0 rfl).trans ((w_getr (r := 27) dPb_person_77 rz10_215 sh_10 rfl).trans ((w_iload_n dPb_person_80 rfl).trans ((w_iald dPb_person_81 sh_27 (by decide)).trans (ite_c (w_virt (vs := [.int (σ.1 27 a1.toNatClampNeg)]) (st' := []) (es := [.ref 0, .int (σ.1 27 a1.toNatClampNeg)]) dPb_person_82 rz10_157 rfl sh_0 rfl rfl rfl (Nat.le_of_ble_eq_true rfl) (Nat.le_of_ble_eq_true rfl) rfl)))))))
theorem bPb_person_85 {E : mEn} {d : Nat} {σ : mSt} {Q : mPost} {a1 : Int32} {a2 : Int32} {s0 : Int32} : WP E d mPb_person 85 [.ref 0, .int a1, .int a2] [.int s0] σ Q = Q (some (.int s0)) σ := w_iret dPb_person_85 rfl
theorem bPb_person_86 {E : mEn} {d : Nat} {σ : mSt} {Q : mPost} {a1 : Int32} {a2 : Int32} : WP E (d + 1) mPb_person 86 [.ref 0, .int a1, .int a2] [] σ Q = WP E d mPb_refuse 0 [.ref 0, .int (nI 5)] [] σ (fun r σ' => WP E (d + 1) mPb_person 91 [.ref 0, .int a1, .int a2] (r.toList ++ []) σ' Q) := (w_aload_n dPb_person_86 rfl).trans ((w_iconst (v := (nI 5)) dPb_person_87 rfl).trans (w_virt (vs := [.int (nI 5)]) (st' := []) (es := [.ref 0, .int (nI 5)]) dPb_person_88 rz10_104 rfl sh_0 rfl rfl rfl (Nat.le_of_ble_eq_true rfl) (Nat.le_of_ble_eq_true rfl) rfl))
theorem bPb_person_91 {E : mEn} {d : Nat} {σ : mSt} {Q : mPost} {a1 : Int32} {a2 : Int32} {s0 : Int32} : WP E d mPb_person 91 [.ref 0, .int a1, .int a2] [.int s0] σ Q = Q (some (.int s0)) σ := w_iret dPb_person_91 rfl
theorem dPb_loaf_0 : decode (mC mPb_loaf) 0 = .ok (.aload_n 0, 1) := by decide +kernel
theorem dPb_loaf_1 : decode (mC mPb_loaf) 1 = .ok (.getfield 26, 3) := by decide +kernel
theorem dPb_loaf_4 : decode (mC mPb_loaf) 4 = .ok (.iload_n 1, 1) := by decide +kernel
theorem dPb_loaf_5 : decode (mC mPb_loaf) 5 = .ok (.invokevirtual 218, 3) := by decide +kernel
theorem dPb_loaf_8 : decode (mC mPb_loaf) 8 = .ok (.ifCond .ne (9), 3) := by decide +kernel
theorem dPb_loaf_11 : decode (mC mPb_loaf) 11 = .ok (.aload_n 0, 1) := by decide +kernel
theorem dPb_loaf_12 : decode (mC mPb_loaf) 12 = .ok (.iconst (2), 1) := by decide +kernel
theorem dPb_loaf_13 : decode (mC mPb_loaf) 13 = .ok (.invokevirtual 104, 3) := by decide +kernel
theorem dPb_loaf_16 : decode (mC mPb_loaf) 16 = .ok (.ireturn, 1) := by decide +kernel
theorem dPb_loaf_17 : decode (mC mPb_loaf) 17 = .ok (.iload_n 2, 1) := by decide +kernel
theorem dPb_loaf_18 : decode (mC mPb_loaf) 18 = .ok (.tableswitch (162) 0 5 #[38, 52, 86, 100, 114, 128], 38) := by decide +kernel
theorem dPb_loaf_56 : decode (mC mPb_loaf) 56 = .ok (.aload_n 0, 1) := by decide +kernel
theorem dPb_loaf_57 : decode (mC mPb_loaf) 57 = .ok (.aload_n 0, 1) := by decide +kernel
theorem dPb_loaf_58 : decode (mC mPb_loaf) 58 = .ok (.getfield 26, 3) := by decide +kernel
theorem dPb_loaf_61 : decode (mC mPb_loaf) 61 = .ok (.getfield 221, 3) := by decide +kernel
theorem dPb_loaf_64 : decode (mC mPb_loaf) 64 = .ok (.iload_n 1, 1) := by decide +kernel
theorem dPb_loaf_65 : decode (mC mPb_loaf) 65 = .ok (.iaload, 1) := by decide +kernel
theorem dPb_loaf_66 : decode (mC mPb_loaf) 66 = .ok (.invokevirtual 157, 3) := by decide +kernel
theorem dPb_loaf_69 : decode (mC mPb_loaf) 69 = .ok (.ireturn, 1) := by decide +kernel
theorem dPb_loaf_70 : decode (mC mPb_loaf) 70 = .ok (.aload_n 0, 1) := by decide +kernel
theorem dPb_loaf_71 : decode (mC mPb_loaf) 71 = .ok (.getfield 26, 3) := by decide +kernel
theorem dPb_loaf_74 : decode (mC mPb_loaf) 74 = .ok (.iload_n 1, 1) := by decide +kernel
theorem dPb_loaf_75 : decode (mC mPb_loaf) 75 = .ok (.invokevirtual 224, 3) := by decide +kernel
theorem dPb_loaf_78 : decode (mC mPb_loaf) 78 = .ok (.ifCond .eq (12), 3) := by decide +kernel
theorem dPb_loaf_81 : decode (mC mPb_loaf) 81 = .ok (.aload_n 0, 1) := by decide +kernel
theorem dPb_loaf_82 : decode (mC mPb_loaf) 82 = .ok (.bipush (8), 2) := by decide +kernel
theorem dPb_loaf_84 : decode (mC mPb_loaf) 84 = .ok (.invokevirtual 104, 3) := by decide +kernel
theorem dPb_loaf_87 : decode (mC mPb_loaf) 87 = .ok (.goto (16), 3) := by decide +kernel
theorem dPb_loaf_90 : decode (mC mPb_loaf) 90 = .ok (.aload_n 0, 1) := by decide +kernel
theorem dPb_loaf_91 : decode (mC mPb_loaf) 91 = .ok (.aload_n 0, 1) := by decide +kernel
theorem dPb_loaf_92 : decode (mC mPb_loaf) 92 = .ok (.getfield 26, 3) := by decide +kernel
theorem dPb_loaf_95 : decode (mC mPb_loaf) 95 = .ok (.getfield 227, 3) := by decide +kernel
theorem dPb_loaf_98 : decode (mC mPb_loaf) 98 = .ok (.iload_n 1, 1) := by decide +kernel
theorem dPb_loaf_99 : decode (mC mPb_loaf) 99 = .ok (.iaload, 1) := by decide +kernel
theorem dPb_loaf_100 : decode (mC mPb_loaf) 100 = .ok (.invokevirtual 157, 3) := by decide +kernel
theorem dPb_loaf_103 : decode (mC mPb_loaf) 103 = .ok (.ireturn, 1) := by decide +kernel
theorem dPb_loaf_104 : decode (mC mPb_loaf) 104 = .ok (.aload_n 0, 1) := by decide +kernel
theorem dPb_loaf_105 : decode (mC mPb_loaf) 105 = .ok (.aload_n 0, 1) := by decide +kernel
theorem dPb_loaf_106 : decode (mC mPb_loaf) 106 = .ok (.getfield 26, 3) := by decide +kernel
theorem dPb_loaf_109 : decode (mC mPb_loaf) 109 = .ok (.getfield 230, 3) := by decide +kernel
theorem dPb_loaf_112 : decode (mC mPb_loaf) 112 = .ok (.iload_n 1, 1) := by decide +kernel
theorem dPb_loaf_113 : decode (mC mPb_loaf) 113 = .ok (.iaload, 1) := by decide +kernel
theorem dPb_loaf_114 : decode (mC mPb_loaf) 114 = .ok (.invokevirtual 157, 3) := by decide +kernel
theorem dPb_loaf_117 : decode (mC mPb_loaf) 117 = .ok (.ireturn, 1) := by decide +kernel
theorem dPb_loaf_118 : decode (mC mPb_loaf) 118 = .ok (.aload_n 0, 1) := by decide +kernel
theorem dPb_loaf_119 : decode (mC mPb_loaf) 119 = .ok (.aload_n 0, 1) := by decide +kernel
theorem dPb_loaf_120 : decode (mC mPb_loaf) 120 = .ok (.getfield 26, 3) := by decide +kernel
theorem dPb_loaf_123 : decode (mC mPb_loaf) 123 = .ok (.getfield 233, 3) := by decide +kernel
theorem dPb_loaf_126 : decode (mC mPb_loaf) 126 = .ok (.iload_n 1, 1) := by decide +kernel
theorem dPb_loaf_127 : decode (mC mPb_loaf) 127 = .ok (.iaload, 1) := by decide +kernel
theorem dPb_loaf_128 : decode (mC mPb_loaf) 128 = .ok (.invokevirtual 157, 3) := by decide +kernel
theorem dPb_loaf_131 : decode (mC mPb_loaf) 131 = .ok (.ireturn, 1) := by decide +kernel
theorem dPb_loaf_132 : decode (mC mPb_loaf) 132 = .ok (.aload_n 0, 1) := by decide +kernel
theorem dPb_loaf_133 : decode (mC mPb_loaf) 133 = .ok (.aload_n 0, 1) := by decide +kernel
theorem dPb_loaf_134 : decode (mC mPb_loaf) 134 = .ok (.getfield 26, 3) := by decide +kernel
theorem dPb_loaf_137 : decode (mC mPb_loaf) 137 = .ok (.getfield 236, 3) := by decide +kernel
theorem dPb_loaf_140 : decode (mC mPb_loaf) 140 = .ok (.iload_n 1, 1) := by decide +kernel
theorem dPb_loaf_141 : decode (mC mPb_loaf) 141 = .ok (.iaload, 1) := by decide +kernel
theorem dPb_loaf_142 : decode (mC mPb_loaf) 142 = .ok (.invokevirtual 157, 3) := by decide +kernel
theorem dPb_loaf_145 : decode (mC mPb_loaf) 145 = .ok (.ireturn, 1) := by decide +kernel
theorem dPb_loaf_146 : decode (mC mPb_loaf) 146 = .ok (.aload_n 0, 1) := by decide +kernel
theorem dPb_loaf_147 : decode (mC mPb_loaf) 147 = .ok (.getfield 26, 3) := by decide +kernel
theorem dPb_loaf_150 : decode (mC mPb_loaf) 150 = .ok (.iload_n 1, 1) := by decide +kernel
theorem dPb_loaf_151 : decode (mC mPb_loaf) 151 = .ok (.invokevirtual 239, 3) := by decide +kernel
theorem dPb_loaf_154 : decode (mC mPb_loaf) 154 = .ok (.ifCond .eq (19), 3) := by decide +kernel
theorem dPb_loaf_157 : decode (mC mPb_loaf) 157 = .ok (.aload_n 0, 1) := by decide +kernel
theorem dPb_loaf_158 : decode (mC mPb_loaf) 158 = .ok (.aload_n 0, 1) := by decide +kernel
theorem dPb_loaf_159 : decode (mC mPb_loaf) 159 = .ok (.getfield 26, 3) := by decide +kernel
theorem dPb_loaf_162 : decode (mC mPb_loaf) 162 = .ok (.getfield 242, 3) := by decide +kernel
theorem dPb_loaf_165 : decode (mC mPb_loaf) 165 = .ok (.iload_n 1, 1) := by decide +kernel
theorem dPb_loaf_166 : decode (mC mPb_loaf) 166 = .ok (.iaload, 1) := by decide +kernel
theorem dPb_loaf_167 : decode (mC mPb_loaf) 167 = .ok (.invokevirtual 157, 3) := by decide +kernel
theorem dPb_loaf_170 : decode (mC mPb_loaf) 170 = .ok (.goto (9), 3) := by decide +kernel
theorem dPb_loaf_173 : decode (mC mPb_loaf) 173 = .ok (.aload_n 0, 1) := by decide +kernel
theorem dPb_loaf_174 : decode (mC mPb_loaf) 174 = .ok (.bipush (8), 2) := by decide +kernel
theorem dPb_loaf_176 : decode (mC mPb_loaf) 176 = .ok (.invokevirtual 104, 3) := by decide +kernel
theorem dPb_loaf_179 : decode (mC mPb_loaf) 179 = .ok (.ireturn, 1) := by decide +kernel
theorem dPb_loaf_180 : decode (mC mPb_loaf) 180 = .ok (.aload_n 0, 1) := by decide +kernel
theorem dPb_loaf_181 : decode (mC mPb_loaf) 181 = .ok (.iconst (5), 1) := by decide +kernel
theorem dPb_loaf_182 : decode (mC mPb_loaf) 182 = .ok (.invokevirtual 104, 3) := by decide +kernel
theorem dPb_loaf_185 : decode (mC mPb_loaf) 185 = .ok (.ireturn, 1) := by decide +kernel
theorem bPb_loaf_0 {E : mEn} {d : Nat} {σ : mSt} {Q : mPost} {a1 : Int32} {a2 : Int32} : WP E (d + 1) mPb_loaf 0 [.ref 0, .int a1, .int a2] [] σ Q = WP E d mTw_hasLoaf 0 [.ref 10, .int a1] [] σ (fun r σ' => WP E (d + 1) mPb_loaf 8 [.ref 0, .int a1, .int a2] (r.toList ++ []) σ' Q) := (w_aload_n dPb_loaf_0 rfl).trans ((w_getr (r := 10) dPb_loaf_1 rz10_26 sh_0 rfl).trans ((w_iload_n dPb_loaf_4 rfl).trans (w_virt (vs := [.int a1]) (st' := []) (es := [.ref 10, .int a1]) dPb_loaf_5 rz10_218 rfl sh_10 rfl rfl rfl (Nat.le_of_ble_eq_true rfl) (Nat.le_of_ble_eq_true rfl) rfl)))
theorem bPb_loaf_8 {E : mEn} {d : Nat} {σ : mSt} {Q : mPost} {a1 : Int32} {a2 : Int32} {s0 : Int32} : WP E d mPb_loaf 8 [.ref 0, .int a1, .int a2] [.int s0] σ Q = (if ¬ s0 = 0 then WP E d mPb_loaf 17 [.ref 0, .int a1, .int a2] [] σ Q else WP E d mPb_loaf 11 [.ref 0, .int a1, .int a2] [] σ Q) := w_ifne (t := 17) dPb_loaf_8 (by decide)
theorem bPb_loaf_11 {E : mEn} {d : Nat} {σ : mSt} {Q : mPost} {a1 : Int32} {a2 : Int32} : WP E (d + 1) mPb_loaf 11 [.ref 0, .int a1, .int a2] [] σ Q = WP E d mPb_refuse 0 [.ref 0, .int (nI 2)] [] σ (fun r σ' => WP E (d + 1) mPb_loaf 16 [.ref 0, .int a1, .int a2] (r.toList ++ []) σ' Q) := (w_aload_n dPb_loaf_11 rfl).trans ((w_iconst (v := (nI 2)) dPb_loaf_12 rfl).trans (w_virt (vs := [.int (nI 2)]) (st' := []) (es := [.ref 0, .int (nI 2)]) dPb_loaf_13 rz10_104 rfl sh_0 rfl rfl rfl (Nat.le_of_ble_eq_true rfl) (Nat.le_of_ble_eq_true rfl) rfl))
theorem bPb_loaf_16 {E : mEn} {d : Nat} {σ : mSt} {Q : mPost} {a1 : Int32} {a2 : Int32} {s0 : Int32} : WP E d mPb_loaf 16 [.ref 0, .int a1, .int a2] [.int s0] σ Q = Q (some (.int s0)) σ := w_iret dPb_loaf_16 rfl
theorem bPb_loaf_17 {E : mEn} {d : Nat} {σ : mSt} {Q : mPost} {a1 : Int32} {a2 : Int32} : WP E d mPb_loaf 17 [.ref 0, .int a1, .int a2] [] σ Q = WP E d mPb_loaf 18 [.ref 0, .int a1, .int a2] [.int a2] σ Q := w_iload_n dPb_loaf_17 rfl
theorem bPb_loaf_17_s0 {E : mEn} {d : Nat} {σ : mSt} {Q : mPost} {b1 : Int32} {b2 : Int32} : WP E d mPb_loaf 18 [.ref 0, .int b1, .int b2] [.int (nI 0)] σ Q = WP E d mPb_loaf 56 [.ref 0, .int b1, .int b2] [] σ Q := w_swK 0 dPb_loaf_18 (by decide) (by decide) (by decide) rfl (by decide)
theorem bPb_loaf_17_s1 {E : mEn} {d : Nat} {σ : mSt} {Q : mPost} {b1 : Int32} {b2 : Int32} : WP E d mPb_loaf 18 [.ref 0, .int b1, .int b2] [.int (nI 1)] σ Q = WP E d mPb_loaf 70 [.ref 0, .int b1, .int b2] [] σ Q := w_swK 1 dPb_loaf_18 (by decide) (by decide) (by decide) rfl (by decide)
theorem bPb_loaf_17_s2 {E : mEn} {d : Nat} {σ : mSt} {Q : mPost} {b1 : Int32} {b2 : Int32} : WP E d mPb_loaf 18 [.ref 0, .int b1, .int b2] [.int (nI 2)] σ Q = WP E d mPb_loaf 104 [.ref 0, .int b1, .int b2] [] σ Q := w_swK 2 dPb_loaf_18 (by decide) (by decide) (by decide) rfl (by decide)
theorem bPb_loaf_17_s3 {E : mEn} {d : Nat} {σ : mSt} {Q : mPost} {b1 : Int32} {b2 : Int32} : WP E d mPb_loaf 18 [.ref 0, .int b1, .int b2] [.int (nI 3)] σ Q = WP E d mPb_loaf 118 [.ref 0, .int b1, .int b2] [] σ Q := w_swK 3 dPb_loaf_18 (by decide) (by decide) (by decide) rfl (by decide)
theorem bPb_loaf_17_s4 {E : mEn} {d : Nat} {σ : mSt} {Q : mPost} {b1 : Int32} {b2 : Int32} : WP E d mPb_loaf 18 [.ref 0, .int b1, .int b2] [.int (nI 4)] σ Q = WP E d mPb_loaf 132 [.ref 0, .int b1, .int b2] [] σ Q := w_swK 4 dPb_loaf_18 (by decide) (by decide) (by decide) rfl (by decide)
theorem bPb_loaf_17_s5 {E : mEn} {d : Nat} {σ : mSt} {Q : mPost} {b1 : Int32} {b2 : Int32} : WP E d mPb_loaf 18 [.ref 0, .int b1, .int b2] [.int (nI 5)] σ Q = WP E d mPb_loaf 146 [.ref 0, .int b1, .int b2] [] σ Q := w_swK 5 dPb_loaf_18 (by decide) (by decide) (by decide) rfl (by decide)
theorem bPb_loaf_17_sD {E : mEn} {d : Nat} {σ : mSt} {Q : mPost} {b1 : Int32} {b2 : Int32} {x : Int32} (hne : ∀ k : Nat, 0 ≤ k → k ≤ 5 → x ≠ nI k) : WP E d mPb_loaf 18 [.ref 0, .int b1, .int b2] [.int x] σ Q = WP E d mPb_loaf 180 [.ref 0, .int b1, .int b2] [] σ Q := w_swD dPb_loaf_18 (by decide) hne (by decide)
theorem bPb_loaf_56 {E : mEn} {d : Nat} {σ : mSt} {Q : mPost} {a1 : Int32} {a2 : Int32} : WP E (d + 1) mPb_loaf 56 [.ref 0, .int a1, .int a2] [] σ Q = (if mOut a1 8 = true then False else WP E d mPb_answer 0 [.ref 0, .int (σ.1 29 a1.toNatClampNeg)] [] σ (fun r σ' => WP E (d + 1) mPb_loaf 69 [.ref 0, .int a1, .int a2] (r.toList ++ []) σ' Q)) := (w_aload_n dPb_loaf_56 rfl).trans ((w_aload_n dPb_loaf_57 rfl).trans ((w_getr (r := 10) dPb_loaf_58 rz10_26 sh_0 rfl).trans ((w_getr (r := 29) dPb_loaf_61 rz10_221 sh_10 rfl).trans ((w_iload_n dPb_loaf_64 rfl).trans ((w_iald dPb_loaf_65 sh_29 (by decide)).trans (ite_c (w_virt (vs := [.int (σ.1 29 a1.toNatClampNeg)]) (st' := []) (es := [.ref 0, .int (σ.1 29 a1.toNatClampNeg)]) dPb_loaf_66 rz10_157 rfl sh_0 rfl rfl rfl (Nat.le_of_ble_eq_true rfl) (Nat.le_of_ble_eq_true rfl) rfl)))))))
theorem bPb_loaf_69 {E : mEn} {d : Nat} {σ : mSt} {Q : mPost} {a1 : Int32} {a2 : Int32} {s0 : Int32} : WP E d mPb_loaf 69 [.ref 0, .int a1, .int a2] [.int s0] σ Q = Q (some (.int s0)) σ := w_iret dPb_loaf_69 rfl
theorem bPb_loaf_70 {E : mEn} {d : Nat} {σ : mSt} {Q : mPost} {a1 : Int32} {a2 : Int32} : WP E (d + 1) mPb_loaf 70 [.ref 0, .int a1, .int a2] [] σ Q = WP E d mTw_isPaper 0 [.ref 10, .int a1] [] σ (fun r σ' => WP E (d + 1) mPb_loaf 78 [.ref 0, .int a1, .int a2] (r.toList ++ []) σ' Q) := (w_aload_n dPb_loaf_70 rfl).trans ((w_getr (r := 10) dPb_loaf_71 rz10_26 sh_0 rfl).trans ((w_iload_n dPb_loaf_74 rfl).trans (w_virt (vs := [.int a1]) (st' := []) (es := [.ref 10, .int a1]) dPb_loaf_75 rz10_224 rfl sh_10 rfl rfl rfl (Nat.le_of_ble_eq_true rfl) (Nat.le_of_ble_eq_true rfl) rfl)))
theorem bPb_loaf_78 {E : mEn} {d : Nat} {σ : mSt} {Q : mPost} {a1 : Int32} {a2 : Int32} {s0 : Int32} : WP E d mPb_loaf 78 [.ref 0, .int a1, .int a2] [.int s0] σ Q = (if s0 = 0 then WP E d mPb_loaf 90 [.ref 0, .int a1, .int a2] [] σ Q else WP E d mPb_loaf 81 [.ref 0, .int a1, .int a2] [] σ Q) := w_ifeq (t := 90) dPb_loaf_78 (by decide)
theorem bPb_loaf_81 {E : mEn} {d : Nat} {σ : mSt} {Q : mPost} {a1 : Int32} {a2 : Int32} : WP E (d + 1) mPb_loaf 81 [.ref 0, .int a1, .int a2] [] σ Q = WP E d mPb_refuse 0 [.ref 0, .int (nI 8)] [] σ (fun r σ' => WP E (d + 1) mPb_loaf 87 [.ref 0, .int a1, .int a2] (r.toList ++ []) σ' Q) := (w_aload_n dPb_loaf_81 rfl).trans ((w_bipush (v := (nI 8)) dPb_loaf_82 rfl).trans (w_virt (vs := [.int (nI 8)]) (st' := []) (es := [.ref 0, .int (nI 8)]) dPb_loaf_84 rz10_104 rfl sh_0 rfl rfl rfl (Nat.le_of_ble_eq_true rfl) (Nat.le_of_ble_eq_true rfl) rfl))
theorem bPb_loaf_87 {E : mEn} {d : Nat} {σ : mSt} {Q : mPost} {a1 : Int32} {a2 : Int32} {s0 : Int32} : WP E d mPb_loaf 87 [.ref 0, .int a1, .int a2] [.int s0] σ Q = WP E d mPb_loaf 103 [.ref 0, .int a1, .int a2] [.int s0] σ Q := w_goto (t := 103) dPb_loaf_87 (by decide)
theorem bPb_loaf_90 {E : mEn} {d : Nat} {σ : mSt} {Q : mPost} {a1 : Int32} {a2 : Int32} : WP E (d + 1) mPb_loaf 90 [.ref 0, .int a1, .int a2] [] σ Q = (if mOut a1 8 = true then False else WP E d mPb_answer 0 [.ref 0, .int (σ.1 30 a1.toNatClampNeg)] [] σ (fun r σ' => WP E (d + 1) mPb_loaf 103 [.ref 0, .int a1, .int a2] (r.toList ++ []) σ' Q)) := (w_aload_n dPb_loaf_90 rfl).trans ((w_aload_n dPb_loaf_91 rfl).trans ((w_getr (r := 10) dPb_loaf_92 rz10_26 sh_0 rfl).trans ((w_getr (r := 30) dPb_loaf_95 rz10_227 sh_10 rfl).trans ((w_iload_n dPb_loaf_98 rfl).trans ((w_iald dPb_loaf_99 sh_30 (by decide)).trans (ite_c (w_virt (vs := [.int (σ.1 30 a1.toNatClampNeg)]) (st' := []) (es := [.ref 0, .int (σ.1 30 a1.toNatClampNeg)]) dPb_loaf_100 rz10_157 rfl sh_0 rfl rfl rfl (Nat.le_of_ble_eq_true rfl) (Nat.le_of_ble_eq_true rfl) rfl)))))))
theorem bPb_loaf_103 {E : mEn} {d : Nat} {σ : mSt} {Q : mPost} {a1 : Int32} {a2 : Int32} {s0 : Int32} : WP E d mPb_loaf 103 [.ref 0, .int a1, .int a2] [.int s0] σ Q = Q (some (.int s0)) σ := w_iret dPb_loaf_103 rfl
theorem bPb_loaf_104 {E : mEn} {d : Nat} {σ : mSt} {Q : mPost} {a1 : Int32} {a2 : Int32} : WP E (d + 1) mPb_loaf 104 [.ref 0, .int a1, .int a2] [] σ Q = (if mOut a1 8 = true then False else WP E d mPb_answer 0 [.ref 0, .int (σ.1 31 a1.toNatClampNeg)] [] σ (fun r σ' => WP E (d + 1) mPb_loaf 117 [.ref 0, .int a1, .int a2] (r.toList ++ []) σ' Q)) := (w_aload_n dPb_loaf_104 rfl).trans ((w_aload_n dPb_loaf_105 rfl).trans ((w_getr (r := 10) dPb_loaf_106 rz10_26 sh_0 rfl).trans ((w_getr (r := 31) dPb_loaf_109 rz10_230 sh_10 rfl).trans ((w_iload_n dPb_loaf_112 rfl).trans ((w_iald dPb_loaf_113 sh_31 (by decide)).trans (ite_c (w_virt (vs := [.int (σ.1 31 a1.toNatClampNeg)]) (st' := []) (es := [.ref 0, .int (σ.1 31 a1.toNatClampNeg)]) dPb_loaf_114 rz10_157 rfl sh_0 rfl rfl rfl (Nat.le_of_ble_eq_true rfl) (Nat.le_of_ble_eq_true rfl) rfl)))))))
theorem bPb_loaf_117 {E : mEn} {d : Nat} {σ : mSt} {Q : mPost} {a1 : Int32} {a2 : Int32} {s0 : Int32} : WP E d mPb_loaf 117 [.ref 0, .int a1, .int a2] [.int s0] σ Q = Q (some (.int s0)) σ := w_iret dPb_loaf_117 rfl
theorem bPb_loaf_118 {E : mEn} {d : Nat} {σ : mSt} {Q : mPost} {a1 : Int32} {a2 : Int32} : WP E (d + 1) mPb_loaf 118 [.ref 0, .int a1, .int a2] [] σ Q = (if mOut a1 8 = true then False else WP E d mPb_answer 0 [.ref 0, .int (σ.1 32 a1.toNatClampNeg)] [] σ (fun r σ' => WP E (d + 1) mPb_loaf 131 [.ref 0, .int a1, .int a2] (r.toList ++ []) σ' Q)) := (w_aload_n dPb_loaf_118 rfl).trans ((w_aload_n dPb_loaf_119 rfl).trans ((w_getr (r := 10) dPb_loaf_120 rz10_26 sh_0 rfl).trans ((w_getr (r := 32) dPb_loaf_123 rz10_233 sh_10 rfl).trans ((w_iload_n dPb_loaf_126 rfl).trans ((w_iald dPb_loaf_127 sh_32 (by decide)).trans (ite_c (w_virt (vs := [.int (σ.1 32 a1.toNatClampNeg)]) (st' := []) (es := [.ref 0, .int (σ.1 32 a1.toNatClampNeg)]) dPb_loaf_128 rz10_157 rfl sh_0 rfl rfl rfl (Nat.le_of_ble_eq_true rfl) (Nat.le_of_ble_eq_true rfl) rfl)))))))
theorem bPb_loaf_131 {E : mEn} {d : Nat} {σ : mSt} {Q : mPost} {a1 : Int32} {a2 : Int32} {s0 : Int32} : WP E d mPb_loaf 131 [.ref 0, .int a1, .int a2] [.int s0] σ Q = Q (some (.int s0)) σ := w_iret dPb_loaf_131 rfl
theorem bPb_loaf_132 {E : mEn} {d : Nat} {σ : mSt} {Q : mPost} {a1 : Int32} {a2 : Int32} : WP E (d + 1) mPb_loaf 132 [.ref 0, .int a1, .int a2] [] σ Q = (if mOut a1 8 = true then False else WP E d mPb_answer 0 [.ref 0, .int (σ.1 33 a1.toNatClampNeg)] [] σ (fun r σ' => WP E (d + 1) mPb_loaf 145 [.ref 0, .int a1, .int a2] (r.toList ++ []) σ' Q)) := (w_aload_n dPb_loaf_132 rfl).trans ((w_aload_n dPb_loaf_133 rfl).trans ((w_getr (r := 10) dPb_loaf_134 rz10_26 sh_0 rfl).trans ((w_getr (r := 33) dPb_loaf_137 rz10_236 sh_10 rfl).trans ((w_iload_n dPb_loaf_140 rfl).trans ((w_iald dPb_loaf_141 sh_33 (by decide)).trans (ite_c (w_virt (vs := [.int (σ.1 33 a1.toNatClampNeg)]) (st' := []) (es := [.ref 0, .int (σ.1 33 a1.toNatClampNeg)]) dPb_loaf_142 rz10_157 rfl sh_0 rfl rfl rfl (Nat.le_of_ble_eq_true rfl) (Nat.le_of_ble_eq_true rfl) rfl)))))))
theorem bPb_loaf_145 {E : mEn} {d : Nat} {σ : mSt} {Q : mPost} {a1 : Int32} {a2 : Int32} {s0 : Int32} : WP E d mPb_loaf 145 [.ref 0, .int a1, .int a2] [.int s0] σ Q = Q (some (.int s0)) σ := w_iret dPb_loaf_145 rfl
theorem bPb_loaf_146 {E : mEn} {d : Nat} {σ : mSt} {Q : mPost} {a1 : Int32} {a2 : Int32} : WP E (d + 1) mPb_loaf 146 [.ref 0, .int a1, .int a2] [] σ Q = WP E d mTw_isBaked 0 [.ref 10, .int a1] [] σ (fun r σ' => WP E (d + 1) mPb_loaf 154 [.ref 0, .int a1, .int a2] (r.toList ++ []) σ' Q) := (w_aload_n dPb_loaf_146 rfl).trans ((w_getr (r := 10) dPb_loaf_147 rz10_26 sh_0 rfl).trans ((w_iload_n dPb_loaf_150 rfl).trans (w_virt (vs := [.int a1]) (st' := []) (es := [.ref 10, .int a1]) dPb_loaf_151 rz10_239 rfl sh_10 rfl rfl rfl (Nat.le_of_ble_eq_true rfl) (Nat.le_of_ble_eq_true rfl) rfl)))
theorem bPb_loaf_154 {E : mEn} {d : Nat} {σ : mSt} {Q : mPost} {a1 : Int32} {a2 : Int32} {s0 : Int32} : WP E d mPb_loaf 154 [.ref 0, .int a1, .int a2] [.int s0] σ Q = (if s0 = 0 then WP E d mPb_loaf 173 [.ref 0, .int a1, .int a2] [] σ Q else WP E d mPb_loaf 157 [.ref 0, .int a1, .int a2] [] σ Q) := w_ifeq (t := 173) dPb_loaf_154 (by decide)
theorem bPb_loaf_157 {E : mEn} {d : Nat} {σ : mSt} {Q : mPost} {a1 : Int32} {a2 : Int32} : WP E (d + 1) mPb_loaf 157 [.ref 0, .int a1, .int a2] [] σ Q = (if mOut a1 8 = true then False else WP E d mPb_answer 0 [.ref 0, .int (σ.1 34 a1.toNatClampNeg)] [] σ (fun r σ' => WP E (d + 1) mPb_loaf 170 [.ref 0, .int a1, .int a2] (r.toList ++ []) σ' Q)) := (w_aload_n dPb_loaf_157 rfl).trans ((w_aload_n dPb_loaf_158 rfl).trans ((w_getr (r := 10) dPb_loaf_159 rz10_26 sh_0 rfl).trans ((w_getr (r := 34) dPb_loaf_162 rz10_242 sh_10 rfl).trans ((w_iload_n dPb_loaf_165 rfl).trans ((w_iald dPb_loaf_166 sh_34 (by decide)).trans (ite_c (w_virt (vs := [.int (σ.1 34 a1.toNatClampNeg)]) (st' := []) (es := [.ref 0, .int (σ.1 34 a1.toNatClampNeg)]) dPb_loaf_167 rz10_157 rfl sh_0 rfl rfl rfl (Nat.le_of_ble_eq_true rfl) (Nat.le_of_ble_eq_true rfl) rfl)))))))
theorem bPb_loaf_170 {E : mEn} {d : Nat} {σ : mSt} {Q : mPost} {a1 : Int32} {a2 : Int32} {s0 : Int32} : WP E d mPb_loaf 170 [.ref 0, .int a1, .int a2] [.int s0] σ Q = WP E d mPb_loaf 179 [.ref 0, .int a1, .int a2] [.int s0] σ Q := w_goto (t := 179) dPb_loaf_170 (by decide)
theorem bPb_loaf_173 {E : mEn} {d : Nat} {σ : mSt} {Q : mPost} {a1 : Int32} {a2 : Int32} : WP E (d + 1) mPb_loaf 173 [.ref 0, .int a1, .int a2] [] σ Q = WP E d mPb_refuse 0 [.ref 0, .int (nI 8)] [] σ (fun r σ' => WP E (d + 1) mPb_loaf 179 [.ref 0, .int a1, .int a2] (r.toList ++ []) σ' Q) := (w_aload_n dPb_loaf_173 rfl).trans ((w_bipush (v := (nI 8)) dPb_loaf_174 rfl).trans (w_virt (vs := [.int (nI 8)]) (st' := []) (es := [.ref 0, .int (nI 8)]) dPb_loaf_176 rz10_104 rfl sh_0 rfl rfl rfl (Nat.le_of_ble_eq_true rfl) (Nat.le_of_ble_eq_true rfl) rfl))
theorem bPb_loaf_179 {E : mEn} {d : Nat} {σ : mSt} {Q : mPost} {a1 : Int32} {a2 : Int32} {s0 : Int32} : WP E d mPb_loaf 179 [.ref 0, .int a1, .int a2] [.int s0] σ Q = Q (some (.int s0)) σ := w_iret dPb_loaf_179 rfl
theorem bPb_loaf_180 {E : mEn} {d : Nat} {σ : mSt} {Q : mPost} {a1 : Int32} {a2 : Int32} : WP E (d + 1) mPb_loaf 180 [.ref 0, .int a1, .int a2] [] σ Q = WP E d mPb_refuse 0 [.ref 0, .int (nI 5)] [] σ (fun r σ' => WP E (d + 1) mPb_loaf 185 [.ref 0, .int a1, .int a2] (r.toList ++ []) σ' Q) := (w_aload_n dPb_loaf_180 rfl).trans ((w_iconst (v := (nI 5)) dPb_loaf_181 rfl).trans (w_virt (vs := [.int (nI 5)]) (st' := []) (es := [.ref 0, .int (nI 5)]) dPb_loaf_182 rz10_104 rfl sh_0 rfl rfl rfl (Nat.le_of_ble_eq_true rfl) (Nat.le_of_ble_eq_true rfl) rfl))
theorem bPb_loaf_185 {E : mEn} {d : Nat} {σ : mSt} {Q : mPost} {a1 : Int32} {a2 : Int32} {s0 : Int32} : WP E d mPb_loaf 185 [.ref 0, .int a1, .int a2] [.int s0] σ Q = Q (some (.int s0)) σ := w_iret dPb_loaf_185 rfl
theorem dPb_promise_0 : decode (mC mPb_promise) 0 = .ok (.aload_n 0, 1) := by decide +kernel
theorem dPb_promise_1 : decode (mC mPb_promise) 1 = .ok (.getfield 26, 3) := by decide +kernel
theorem dPb_promise_4 : decode (mC mPb_promise) 4 = .ok (.getfield 187, 3) := by decide +kernel
theorem dPb_promise_7 : decode (mC mPb_promise) 7 = .ok (.astore_n 3, 1) := by decide +kernel
theorem dPb_promise_8 : decode (mC mPb_promise) 8 = .ok (.aload_n 3, 1) := by decide +kernel
theorem dPb_promise_9 : decode (mC mPb_promise) 9 = .ok (.iload_n 1, 1) := by decide +kernel
theorem dPb_promise_10 : decode (mC mPb_promise) 10 = .ok (.invokevirtual 245, 3) := by decide +kernel
theorem dPb_promise_13 : decode (mC mPb_promise) 13 = .ok (.ifCond .ne (9), 3) := by decide +kernel
theorem dPb_promise_16 : decode (mC mPb_promise) 16 = .ok (.aload_n 0, 1) := by decide +kernel
theorem dPb_promise_17 : decode (mC mPb_promise) 17 = .ok (.iconst (2), 1) := by decide +kernel
theorem dPb_promise_18 : decode (mC mPb_promise) 18 = .ok (.invokevirtual 104, 3) := by decide +kernel
theorem dPb_promise_21 : decode (mC mPb_promise) 21 = .ok (.ireturn, 1) := by decide +kernel
theorem dPb_promise_22 : decode (mC mPb_promise) 22 = .ok (.iload_n 2, 1) := by decide +kernel
theorem dPb_promise_23 : decode (mC mPb_promise) 23 = .ok (.tableswitch (111) 0 5 #[37, 48, 59, 70, 81, 92], 37) := by decide +kernel
theorem dPb_promise_60 : decode (mC mPb_promise) 60 = .ok (.aload_n 0, 1) := by decide +kernel
theorem dPb_promise_61 : decode (mC mPb_promise) 61 = .ok (.aload_n 3, 1) := by decide +kernel
theorem dPb_promise_62 : decode (mC mPb_promise) 62 = .ok (.getfield 248, 3) := by decide +kernel
theorem dPb_promise_65 : decode (mC mPb_promise) 65 = .ok (.iload_n 1, 1) := by decide +kernel
theorem dPb_promise_66 : decode (mC mPb_promise) 66 = .ok (.iaload, 1) := by decide +kernel
theorem dPb_promise_67 : decode (mC mPb_promise) 67 = .ok (.invokevirtual 157, 3) := by decide +kernel
theorem dPb_promise_70 : decode (mC mPb_promise) 70 = .ok (.ireturn, 1) := by decide +kernel
theorem dPb_promise_71 : decode (mC mPb_promise) 71 = .ok (.aload_n 0, 1) := by decide +kernel
theorem dPb_promise_72 : decode (mC mPb_promise) 72 = .ok (.aload_n 3, 1) := by decide +kernel
theorem dPb_promise_73 : decode (mC mPb_promise) 73 = .ok (.getfield 249, 3) := by decide +kernel
theorem dPb_promise_76 : decode (mC mPb_promise) 76 = .ok (.iload_n 1, 1) := by decide +kernel
theorem dPb_promise_77 : decode (mC mPb_promise) 77 = .ok (.iaload, 1) := by decide +kernel
theorem dPb_promise_78 : decode (mC mPb_promise) 78 = .ok (.invokevirtual 157, 3) := by decide +kernel
theorem dPb_promise_81 : decode (mC mPb_promise) 81 = .ok (.ireturn, 1) := by decide +kernel
theorem dPb_promise_82 : decode (mC mPb_promise) 82 = .ok (.aload_n 0, 1) := by decide +kernel
theorem dPb_promise_83 : decode (mC mPb_promise) 83 = .ok (.aload_n 3, 1) := by decide +kernel
theorem dPb_promise_84 : decode (mC mPb_promise) 84 = .ok (.getfield 252, 3) := by decide +kernel
theorem dPb_promise_87 : decode (mC mPb_promise) 87 = .ok (.iload_n 1, 1) := by decide +kernel
theorem dPb_promise_88 : decode (mC mPb_promise) 88 = .ok (.iaload, 1) := by decide +kernel
theorem dPb_promise_89 : decode (mC mPb_promise) 89 = .ok (.invokevirtual 157, 3) := by decide +kernel
theorem dPb_promise_92 : decode (mC mPb_promise) 92 = .ok (.ireturn, 1) := by decide +kernel
theorem dPb_promise_93 : decode (mC mPb_promise) 93 = .ok (.aload_n 0, 1) := by decide +kernel
theorem dPb_promise_94 : decode (mC mPb_promise) 94 = .ok (.aload_n 3, 1) := by decide +kernel
theorem dPb_promise_95 : decode (mC mPb_promise) 95 = .ok (.getfield 255, 3) := by decide +kernel
theorem dPb_promise_98 : decode (mC mPb_promise) 98 = .ok (.iload_n 1, 1) := by decide +kernel
theorem dPb_promise_99 : decode (mC mPb_promise) 99 = .ok (.iaload, 1) := by decide +kernel
theorem dPb_promise_100 : decode (mC mPb_promise) 100 = .ok (.invokevirtual 157, 3) := by decide +kernel
theorem dPb_promise_103 : decode (mC mPb_promise) 103 = .ok (.ireturn, 1) := by decide +kernel
theorem dPb_promise_104 : decode (mC mPb_promise) 104 = .ok (.aload_n 0, 1) := by decide +kernel
theorem dPb_promise_105 : decode (mC mPb_promise) 105 = .ok (.aload_n 3, 1) := by decide +kernel
theorem dPb_promise_106 : decode (mC mPb_promise) 106 = .ok (.getfield 258, 3) := by decide +kernel
theorem dPb_promise_109 : decode (mC mPb_promise) 109 = .ok (.iload_n 1, 1) := by decide +kernel
theorem dPb_promise_110 : decode (mC mPb_promise) 110 = .ok (.iaload, 1) := by decide +kernel
theorem dPb_promise_111 : decode (mC mPb_promise) 111 = .ok (.invokevirtual 157, 3) := by decide +kernel
theorem dPb_promise_114 : decode (mC mPb_promise) 114 = .ok (.ireturn, 1) := by decide +kernel
theorem dPb_promise_115 : decode (mC mPb_promise) 115 = .ok (.aload_n 0, 1) := by decide +kernel
theorem dPb_promise_116 : decode (mC mPb_promise) 116 = .ok (.aload_n 3, 1) := by decide +kernel
theorem dPb_promise_117 : decode (mC mPb_promise) 117 = .ok (.getfield 261, 3) := by decide +kernel
theorem dPb_promise_120 : decode (mC mPb_promise) 120 = .ok (.iload_n 1, 1) := by decide +kernel
theorem dPb_promise_121 : decode (mC mPb_promise) 121 = .ok (.baload, 1) := by decide +kernel
theorem dPb_promise_122 : decode (mC mPb_promise) 122 = .ok (.ifCond .eq (7), 3) := by decide +kernel
theorem dPb_promise_125 : decode (mC mPb_promise) 125 = .ok (.iconst (1), 1) := by decide +kernel
theorem dPb_promise_126 : decode (mC mPb_promise) 126 = .ok (.goto (4), 3) := by decide +kernel
theorem dPb_promise_129 : decode (mC mPb_promise) 129 = .ok (.iconst (0), 1) := by decide +kernel
theorem dPb_promise_130 : decode (mC mPb_promise) 130 = .ok (.invokevirtual 157, 3) := by decide +kernel
theorem dPb_promise_133 : decode (mC mPb_promise) 133 = .ok (.ireturn, 1) := by decide +kernel
theorem dPb_promise_134 : decode (mC mPb_promise) 134 = .ok (.aload_n 0, 1) := by decide +kernel
theorem dPb_promise_135 : decode (mC mPb_promise) 135 = .ok (.iconst (5), 1) := by decide +kernel
theorem dPb_promise_136 : decode (mC mPb_promise) 136 = .ok (.invokevirtual 104, 3) := by decide +kernel
theorem dPb_promise_139 : decode (mC mPb_promise) 139 = .ok (.ireturn, 1) := by decide +kernel
theorem bPb_promise_0 {E : mEn} {d : Nat} {σ : mSt} {Q : mPost} {a1 : Int32} {a2 : Int32} {u3 : Value} : WP E (d + 1) mPb_promise 0 [.ref 0, .int a1, .int a2, u3] [] σ Q = WP E d mPr_has 0 [.ref 13, .int a1] [] σ (fun r σ' => WP E (d + 1) mPb_promise 13 [.ref 0, .int a1, .int a2, .ref 13] (r.toList ++ []) σ' Q) := (w_aload_n dPb_promise_0 rfl).trans ((w_getr (r := 10) dPb_promise_1 rz10_26 sh_0 rfl).trans ((w_getr (r := 13) dPb_promise_4 rz10_187 sh_10 rfl).trans ((w_astore_n (ls' := [.ref 0, .int a1, .int a2, .ref 13]) dPb_promise_7 (Nat.le_of_ble_eq_true rfl) rfl).trans ((w_aload_n dPb_promise_8 rfl).trans ((w_iload_n dPb_promise_9 rfl).trans (w_virt (vs := [.int a1]) (st' := []) (es := [.ref 13, .int a1]) dPb_promise_10 rz10_245 rfl sh_13 rfl rfl rfl (Nat.le_of_ble_eq_true rfl) (Nat.le_of_ble_eq_true rfl) rfl))))))
theorem bPb_promise_13 {E : mEn} {d : Nat} {σ : mSt} {Q : mPost} {a1 : Int32} {a2 : Int32} {s0 : Int32} : WP E d mPb_promise 13 [.ref 0, .int a1, .int a2, .ref 13] [.int s0] σ Q = (if ¬ s0 = 0 then WP E d mPb_promise 22 [.ref 0, .int a1, .int a2, .ref 13] [] σ Q else WP E d mPb_promise 16 [.ref 0, .int a1, .int a2, .ref 13] [] σ Q) := w_ifne (t := 22) dPb_promise_13 (by decide)
theorem bPb_promise_16 {E : mEn} {d : Nat} {σ : mSt} {Q : mPost} {a1 : Int32} {a2 : Int32} : WP E (d + 1) mPb_promise 16 [.ref 0, .int a1, .int a2, .ref 13] [] σ Q = WP E d mPb_refuse 0 [.ref 0, .int (nI 2)] [] σ (fun r σ' => WP E (d + 1) mPb_promise 21 [.ref 0, .int a1, .int a2, .ref 13] (r.toList ++ []) σ' Q) := (w_aload_n dPb_promise_16 rfl).trans ((w_iconst (v := (nI 2)) dPb_promise_17 rfl).trans (w_virt (vs := [.int (nI 2)]) (st' := []) (es := [.ref 0, .int (nI 2)]) dPb_promise_18 rz10_104 rfl sh_0 rfl rfl rfl (Nat.le_of_ble_eq_true rfl) (Nat.le_of_ble_eq_true rfl) rfl))
theorem bPb_promise_21 {E : mEn} {d : Nat} {σ : mSt} {Q : mPost} {a1 : Int32} {a2 : Int32} {s0 : Int32} : WP E d mPb_promise 21 [.ref 0, .int a1, .int a2, .ref 13] [.int s0] σ Q = Q (some (.int s0)) σ := w_iret dPb_promise_21 rfl
theorem bPb_promise_22 {E : mEn} {d : Nat} {σ : mSt} {Q : mPost} {a1 : Int32} {a2 : Int32} : WP E d mPb_promise 22 [.ref 0, .int a1, .int a2, .ref 13] [] σ Q = WP E d mPb_promise 23 [.ref 0, .int a1, .int a2, .ref 13] [.int a2] σ Q := w_iload_n dPb_promise_22 rfl
theorem bPb_promise_22_s0 {E : mEn} {d : Nat} {σ : mSt} {Q : mPost} {b1 : Int32} {b2 : Int32} : WP E d mPb_promise 23 [.ref 0, .int b1, .int b2, .ref 13] [.int (nI 0)] σ Q = WP E d mPb_promise 60 [.ref 0, .int b1, .int b2, .ref 13] [] σ Q := w_swK 0 dPb_promise_23 (by decide) (by decide) (by decide) rfl (by decide)
theorem bPb_promise_22_s1 {E : mEn} {d : Nat} {σ : mSt} {Q : mPost} {b1 : Int32} {b2 : Int32} : WP E d mPb_promise 23 [.ref 0, .int b1, .int b2, .ref 13] [.int (nI 1)] σ Q = WP E d mPb_promise 71 [.ref 0, .int b1, .int b2, .ref 13] [] σ Q := w_swK 1 dPb_promise_23 (by decide) (by decide) (by decide) rfl (by decide)
theorem bPb_promise_22_s2 {E : mEn} {d : Nat} {σ : mSt} {Q : mPost} {b1 : Int32} {b2 : Int32} : WP E d mPb_promise 23 [.ref 0, .int b1, .int b2, .ref 13] [.int (nI 2)] σ Q = WP E d mPb_promise 82 [.ref 0, .int b1, .int b2, .ref 13] [] σ Q := w_swK 2 dPb_promise_23 (by decide) (by decide) (by decide) rfl (by decide)
theorem bPb_promise_22_s3 {E : mEn} {d : Nat} {σ : mSt} {Q : mPost} {b1 : Int32} {b2 : Int32} : WP E d mPb_promise 23 [.ref 0, .int b1, .int b2, .ref 13] [.int (nI 3)] σ Q = WP E d mPb_promise 93 [.ref 0, .int b1, .int b2, .ref 13] [] σ Q := w_swK 3 dPb_promise_23 (by decide) (by decide) (by decide) rfl (by decide)
theorem bPb_promise_22_s4 {E : mEn} {d : Nat} {σ : mSt} {Q : mPost} {b1 : Int32} {b2 : Int32} : WP E d mPb_promise 23 [.ref 0, .int b1, .int b2, .ref 13] [.int (nI 4)] σ Q = WP E d mPb_promise 104 [.ref 0, .int b1, .int b2, .ref 13] [] σ Q := w_swK 4 dPb_promise_23 (by decide) (by decide) (by decide) rfl (by decide)
theorem bPb_promise_22_s5 {E : mEn} {d : Nat} {σ : mSt} {Q : mPost} {b1 : Int32} {b2 : Int32} : WP E d mPb_promise 23 [.ref 0, .int b1, .int b2, .ref 13] [.int (nI 5)] σ Q = WP E d mPb_promise 115 [.ref 0, .int b1, .int b2, .ref 13] [] σ Q := w_swK 5 dPb_promise_23 (by decide) (by decide) (by decide) rfl (by decide)
theorem bPb_promise_22_sD {E : mEn} {d : Nat} {σ : mSt} {Q : mPost} {b1 : Int32} {b2 : Int32} {x : Int32} (hne : ∀ k : Nat, 0 ≤ k → k ≤ 5 → x ≠ nI k) : WP E d mPb_promise 23 [.ref 0, .int b1, .int b2, .ref 13] [.int x] σ Q = WP E d mPb_promise 134 [.ref 0, .int b1, .int b2, .ref 13] [] σ Q := w_swD dPb_promise_23 (by decide) hne (by decide)
theorem bPb_promise_60 {E : mEn} {d : Nat} {σ : mSt} {Q : mPost} {a1 : Int32} {a2 : Int32} : WP E (d + 1) mPb_promise 60 [.ref 0, .int a1, .int a2, .ref 13] [] σ Q = (if mOut a1 40 = true then False else WP E d mPb_answer 0 [.ref 0, .int (σ.1 14 a1.toNatClampNeg)] [] σ (fun r σ' => WP E (d + 1) mPb_promise 70 [.ref 0, .int a1, .int a2, .ref 13] (r.toList ++ []) σ' Q)) := (w_aload_n dPb_promise_60 rfl).trans ((w_aload_n dPb_promise_61 rfl).trans ((w_getr (r := 14) dPb_promise_62 rz10_248 sh_13 rfl).trans ((w_iload_n dPb_promise_65 rfl).trans ((w_iald dPb_promise_66 sh_14 (by decide)).trans (ite_c (w_virt (vs := [.int (σ.1 14 a1.toNatClampNeg)]) (st' := []) (es := [.ref 0, .int (σ.1 14 a1.toNatClampNeg)]) dPb_promise_67 rz10_157 rfl sh_0 rfl rfl rfl (Nat.le_of_ble_eq_true rfl) (Nat.le_of_ble_eq_true rfl) rfl))))))
theorem bPb_promise_70 {E : mEn} {d : Nat} {σ : mSt} {Q : mPost} {a1 : Int32} {a2 : Int32} {s0 : Int32} : WP E d mPb_promise 70 [.ref 0, .int a1, .int a2, .ref 13] [.int s0] σ Q = Q (some (.int s0)) σ := w_iret dPb_promise_70 rfl
theorem bPb_promise_71 {E : mEn} {d : Nat} {σ : mSt} {Q : mPost} {a1 : Int32} {a2 : Int32} : WP E (d + 1) mPb_promise 71 [.ref 0, .int a1, .int a2, .ref 13] [] σ Q = (if mOut a1 40 = true then False else WP E d mPb_answer 0 [.ref 0, .int (σ.1 15 a1.toNatClampNeg)] [] σ (fun r σ' => WP E (d + 1) mPb_promise 81 [.ref 0, .int a1, .int a2, .ref 13] (r.toList ++ []) σ' Q)) := (w_aload_n dPb_promise_71 rfl).trans ((w_aload_n dPb_promise_72 rfl).trans ((w_getr (r := 15) dPb_promise_73 rz10_249 sh_13 rfl).trans ((w_iload_n dPb_promise_76 rfl).trans ((w_iald dPb_promise_77 sh_15 (by decide)).trans (ite_c (w_virt (vs := [.int (σ.1 15 a1.toNatClampNeg)]) (st' := []) (es := [.ref 0, .int (σ.1 15 a1.toNatClampNeg)]) dPb_promise_78 rz10_157 rfl sh_0 rfl rfl rfl (Nat.le_of_ble_eq_true rfl) (Nat.le_of_ble_eq_true rfl) rfl))))))
theorem bPb_promise_81 {E : mEn} {d : Nat} {σ : mSt} {Q : mPost} {a1 : Int32} {a2 : Int32} {s0 : Int32} : WP E d mPb_promise 81 [.ref 0, .int a1, .int a2, .ref 13] [.int s0] σ Q = Q (some (.int s0)) σ := w_iret dPb_promise_81 rfl
theorem bPb_promise_82 {E : mEn} {d : Nat} {σ : mSt} {Q : mPost} {a1 : Int32} {a2 : Int32} : WP E (d + 1) mPb_promise 82 [.ref 0, .int a1, .int a2, .ref 13] [] σ Q = (if mOut a1 40 = true then False else WP E d mPb_answer 0 [.ref 0, .int (σ.1 16 a1.toNatClampNeg)] [] σ (fun r σ' => WP E (d + 1) mPb_promise 92 [.ref 0, .int a1, .int a2, .ref 13] (r.toList ++ []) σ' Q)) := (w_aload_n dPb_promise_82 rfl).trans ((w_aload_n dPb_promise_83 rfl).trans ((w_getr (r := 16) dPb_promise_84 rz10_252 sh_13 rfl).trans ((w_iload_n dPb_promise_87 rfl).trans ((w_iald dPb_promise_88 sh_16 (by decide)).trans (ite_c (w_virt (vs := [.int (σ.1 16 a1.toNatClampNeg)]) (st' := []) (es := [.ref 0, .int (σ.1 16 a1.toNatClampNeg)]) dPb_promise_89 rz10_157 rfl sh_0 rfl rfl rfl (Nat.le_of_ble_eq_true rfl) (Nat.le_of_ble_eq_true rfl) rfl))))))
theorem bPb_promise_92 {E : mEn} {d : Nat} {σ : mSt} {Q : mPost} {a1 : Int32} {a2 : Int32} {s0 : Int32} : WP E d mPb_promise 92 [.ref 0, .int a1, .int a2, .ref 13] [.int s0] σ Q = Q (some (.int s0)) σ := w_iret dPb_promise_92 rfl
theorem bPb_promise_93 {E : mEn} {d : Nat} {σ : mSt} {Q : mPost} {a1 : Int32} {a2 : Int32} : WP E (d + 1) mPb_promise 93 [.ref 0, .int a1, .int a2, .ref 13] [] σ Q = (if mOut a1 40 = true then False else WP E d mPb_answer 0 [.ref 0, .int (σ.1 17 a1.toNatClampNeg)] [] σ (fun r σ' => WP E (d + 1) mPb_promise 103 [.ref 0, .int a1, .int a2, .ref 13] (r.toList ++ []) σ' Q)) := (w_aload_n dPb_promise_93 rfl).trans ((w_aload_n dPb_promise_94 rfl).trans ((w_getr (r := 17) dPb_promise_95 rz10_255 sh_13 rfl).trans ((w_iload_n dPb_promise_98 rfl).trans ((w_iald dPb_promise_99 sh_17 (by decide)).trans (ite_c (w_virt (vs := [.int (σ.1 17 a1.toNatClampNeg)]) (st' := []) (es := [.ref 0, .int (σ.1 17 a1.toNatClampNeg)]) dPb_promise_100 rz10_157 rfl sh_0 rfl rfl rfl (Nat.le_of_ble_eq_true rfl) (Nat.le_of_ble_eq_true rfl) rfl))))))
theorem bPb_promise_103 {E : mEn} {d : Nat} {σ : mSt} {Q : mPost} {a1 : Int32} {a2 : Int32} {s0 : Int32} : WP E d mPb_promise 103 [.ref 0, .int a1, .int a2, .ref 13] [.int s0] σ Q = Q (some (.int s0)) σ := w_iret dPb_promise_103 rfl
theorem bPb_promise_104 {E : mEn} {d : Nat} {σ : mSt} {Q : mPost} {a1 : Int32} {a2 : Int32} : WP E (d + 1) mPb_promise 104 [.ref 0, .int a1, .int a2, .ref 13] [] σ Q = (if mOut a1 40 = true then False else WP E d mPb_answer 0 [.ref 0, .int (σ.1 18 a1.toNatClampNeg)] [] σ (fun r σ' => WP E (d + 1) mPb_promise 114 [.ref 0, .int a1, .int a2, .ref 13] (r.toList ++ []) σ' Q)) := (w_aload_n dPb_promise_104 rfl).trans ((w_aload_n dPb_promise_105 rfl).trans ((w_getr (r := 18) dPb_promise_106 rz10_258 sh_13 rfl).trans ((w_iload_n dPb_promise_109 rfl).trans ((w_iald dPb_promise_110 sh_18 (by decide)).trans (ite_c (w_virt (vs := [.int (σ.1 18 a1.toNatClampNeg)]) (st' := []) (es := [.ref 0, .int (σ.1 18 a1.toNatClampNeg)]) dPb_promise_111 rz10_157 rfl sh_0 rfl rfl rfl (Nat.le_of_ble_eq_true rfl) (Nat.le_of_ble_eq_true rfl) rfl))))))
theorem bPb_promise_114 {E : mEn} {d : Nat} {σ : mSt} {Q : mPost} {a1 : Int32} {a2 : Int32} {s0 : Int32} : WP E d mPb_promise 114 [.ref 0, .int a1, .int a2, .ref 13] [.int s0] σ Q = Q (some (.int s0)) σ := w_iret dPb_promise_114 rfl
theorem bPb_promise_115 {E : mEn} {d : Nat} {σ : mSt} {Q : mPost} {a1 : Int32} {a2 : Int32} : WP E d mPb_promise 115 [.ref 0, .int a1, .int a2, .ref 13] [] σ Q = (if mOut a1 40 = true then False else (if (σ.1 19 a1.toNatClampNeg) = 0 then WP E d mPb_promise 129 [.ref 0, .int a1, .int a2, .ref 13] [.ref 0] σ Q else WP E d mPb_promise 125 [.ref 0, .int a1, .int a2, .ref 13] [.ref 0] σ Q)) := (w_aload_n dPb_promise_115 rfl).trans ((w_aload_n dPb_promise_116 rfl).trans ((w_getr (r := 19) dPb_promise_117 rz10_261 sh_13 rfl).trans ((w_iload_n dPb_promise_120 rfl).trans ((w_zald dPb_promise_121 sh_19).trans (ite_c (w_ifeq (t := 129) dPb_promise_122 (by decide)))))))
theorem bPb_promise_125 {E : mEn} {d : Nat} {σ : mSt} {Q : mPost} {a1 : Int32} {a2 : Int32} : WP E d mPb_promise 125 [.ref 0, .int a1, .int a2, .ref 13] [.ref 0] σ Q = WP E d mPb_promise 130 [.ref 0, .int a1, .int a2, .ref 13] [.int 1, .ref 0] σ Q := (w_iconst (v := 1) dPb_promise_125 rfl).trans (w_goto (t := 130) dPb_promise_126 (by decide))
theorem bPb_promise_129 {E : mEn} {d : Nat} {σ : mSt} {Q : mPost} {a1 : Int32} {a2 : Int32} : WP E d mPb_promise 129 [.ref 0, .int a1, .int a2, .ref 13] [.ref 0] σ Q = WP E d mPb_promise 130 [.ref 0, .int a1, .int a2, .ref 13] [.int 0, .ref 0] σ Q := w_iconst (v := 0) dPb_promise_129 rfl
theorem bPb_promise_130 {E : mEn} {d : Nat} {σ : mSt} {Q : mPost} {a1 : Int32} {a2 : Int32} {s0 : Int32} : WP E (d + 1) mPb_promise 130 [.ref 0, .int a1, .int a2, .ref 13] [.int s0, .ref 0] σ Q = WP E d mPb_answer 0 [.ref 0, .int s0] [] σ (fun r σ' => WP E (d + 1) mPb_promise 133 [.ref 0, .int a1, .int a2, .ref 13] (r.toList ++ []) σ' Q) := w_virt (vs := [.int s0]) (st' := []) (es := [.ref 0, .int s0]) dPb_promise_130 rz10_157 rfl sh_0 rfl rfl rfl (Nat.le_of_ble_eq_true rfl) (Nat.le_of_ble_eq_true rfl) rfl
theorem bPb_promise_133 {E : mEn} {d : Nat} {σ : mSt} {Q : mPost} {a1 : Int32} {a2 : Int32} {s0 : Int32} : WP E d mPb_promise 133 [.ref 0, .int a1, .int a2, .ref 13] [.int s0] σ Q = Q (some (.int s0)) σ := w_iret dPb_promise_133 rfl
theorem bPb_promise_134 {E : mEn} {d : Nat} {σ : mSt} {Q : mPost} {a1 : Int32} {a2 : Int32} : WP E (d + 1) mPb_promise 134 [.ref 0, .int a1, .int a2, .ref 13] [] σ Q = WP E d mPb_refuse 0 [.ref 0, .int (nI 5)] [] σ (fun r σ' => WP E (d + 1) mPb_promise 139 [.ref 0, .int a1, .int a2, .ref 13] (r.toList ++ []) σ' Q) := (w_aload_n dPb_promise_134 rfl).trans ((w_iconst (v := (nI 5)) dPb_promise_135 rfl).trans (w_virt (vs := [.int (nI 5)]) (st' := []) (es := [.ref 0, .int (nI 5)]) dPb_promise_136 rz10_104 rfl sh_0 rfl rfl rfl (Nat.le_of_ble_eq_true rfl) (Nat.le_of_ble_eq_true rfl) rfl))
theorem bPb_promise_139 {E : mEn} {d : Nat} {σ : mSt} {Q : mPost} {a1 : Int32} {a2 : Int32} {s0 : Int32} : WP E d mPb_promise 139 [.ref 0, .int a1, .int a2, .ref 13] [.int s0] σ Q = Q (some (.int s0)) σ := w_iret dPb_promise_139 rfl
theorem dPb_holds_0 : decode (mC mPb_holds) 0 = .ok (.aload_n 0, 1) := by decide +kernel
theorem dPb_holds_1 : decode (mC mPb_holds) 1 = .ok (.getfield 26, 3) := by decide +kernel
theorem dPb_holds_4 : decode (mC mPb_holds) 4 = .ok (.iload_n 1, 1) := by decide +kernel
theorem dPb_holds_5 : decode (mC mPb_holds) 5 = .ok (.invokevirtual 205, 3) := by decide +kernel
theorem dPb_holds_8 : decode (mC mPb_holds) 8 = .ok (.ifCond .eq (14), 3) := by decide +kernel
theorem dPb_holds_11 : decode (mC mPb_holds) 11 = .ok (.aload_n 0, 1) := by decide +kernel
theorem dPb_holds_12 : decode (mC mPb_holds) 12 = .ok (.getfield 26, 3) := by decide +kernel
theorem dPb_holds_15 : decode (mC mPb_holds) 15 = .ok (.iload_n 2, 1) := by decide +kernel
theorem dPb_holds_16 : decode (mC mPb_holds) 16 = .ok (.invokevirtual 218, 3) := by decide +kernel
theorem dPb_holds_19 : decode (mC mPb_holds) 19 = .ok (.ifCond .ne (9), 3) := by decide +kernel
theorem dPb_holds_22 : decode (mC mPb_holds) 22 = .ok (.aload_n 0, 1) := by decide +kernel
theorem dPb_holds_23 : decode (mC mPb_holds) 23 = .ok (.iconst (2), 1) := by decide +kernel
theorem dPb_holds_24 : decode (mC mPb_holds) 24 = .ok (.invokevirtual 104, 3) := by decide +kernel
theorem dPb_holds_27 : decode (mC mPb_holds) 27 = .ok (.ireturn, 1) := by decide +kernel
theorem dPb_holds_28 : decode (mC mPb_holds) 28 = .ok (.aload_n 0, 1) := by decide +kernel
theorem dPb_holds_29 : decode (mC mPb_holds) 29 = .ok (.getfield 40, 3) := by decide +kernel
theorem dPb_holds_32 : decode (mC mPb_holds) 32 = .ok (.aload_n 0, 1) := by decide +kernel
theorem dPb_holds_33 : decode (mC mPb_holds) 33 = .ok (.getfield 26, 3) := by decide +kernel
theorem dPb_holds_36 : decode (mC mPb_holds) 36 = .ok (.iload_n 2, 1) := by decide +kernel
theorem dPb_holds_37 : decode (mC mPb_holds) 37 = .ok (.invokevirtual 265, 3) := by decide +kernel
theorem dPb_holds_40 : decode (mC mPb_holds) 40 = .ok (.aload_n 0, 1) := by decide +kernel
theorem dPb_holds_41 : decode (mC mPb_holds) 41 = .ok (.aload_n 0, 1) := by decide +kernel
theorem dPb_holds_42 : decode (mC mPb_holds) 42 = .ok (.getfield 40, 3) := by decide +kernel
theorem dPb_holds_45 : decode (mC mPb_holds) 45 = .ok (.getfield 269, 3) := by decide +kernel
theorem dPb_holds_48 : decode (mC mPb_holds) 48 = .ok (.iload_n 1, 1) := by decide +kernel
theorem dPb_holds_49 : decode (mC mPb_holds) 49 = .ok (.iaload, 1) := by decide +kernel
theorem dPb_holds_50 : decode (mC mPb_holds) 50 = .ok (.invokevirtual 157, 3) := by decide +kernel
theorem dPb_holds_53 : decode (mC mPb_holds) 53 = .ok (.ireturn, 1) := by decide +kernel
theorem bPb_holds_0 {E : mEn} {d : Nat} {σ : mSt} {Q : mPost} {a1 : Int32} {a2 : Int32} : WP E (d + 1) mPb_holds 0 [.ref 0, .int a1, .int a2] [] σ Q = WP E d mTw_hasPerson 0 [.ref 10, .int a1] [] σ (fun r σ' => WP E (d + 1) mPb_holds 8 [.ref 0, .int a1, .int a2] (r.toList ++ []) σ' Q) := (w_aload_n dPb_holds_0 rfl).trans ((w_getr (r := 10) dPb_holds_1 rz10_26 sh_0 rfl).trans ((w_iload_n dPb_holds_4 rfl).trans (w_virt (vs := [.int a1]) (st' := []) (es := [.ref 10, .int a1]) dPb_holds_5 rz10_205 rfl sh_10 rfl rfl rfl (Nat.le_of_ble_eq_true rfl) (Nat.le_of_ble_eq_true rfl) rfl)))
theorem bPb_holds_8 {E : mEn} {d : Nat} {σ : mSt} {Q : mPost} {a1 : Int32} {a2 : Int32} {s0 : Int32} : WP E d mPb_holds 8 [.ref 0, .int a1, .int a2] [.int s0] σ Q = (if s0 = 0 then WP E d mPb_holds 22 [.ref 0, .int a1, .int a2] [] σ Q else WP E d mPb_holds 11 [.ref 0, .int a1, .int a2] [] σ Q) := w_ifeq (t := 22) dPb_holds_8 (by decide)
theorem bPb_holds_11 {E : mEn} {d : Nat} {σ : mSt} {Q : mPost} {a1 : Int32} {a2 : Int32} : WP E (d + 1) mPb_holds 11 [.ref 0, .int a1, .int a2] [] σ Q = WP E d mTw_hasLoaf 0 [.ref 10, .int a2] [] σ (fun r σ' => WP E (d + 1) mPb_holds 19 [.ref 0, .int a1, .int a2] (r.toList ++ []) σ' Q) := (w_aload_n dPb_holds_11 rfl).trans ((w_getr (r := 10) dPb_holds_12 rz10_26 sh_0 rfl).trans ((w_iload_n dPb_holds_15 rfl).trans (w_virt (vs := [.int a2]) (st' := []) (es := [.ref 10, .int a2]) dPb_holds_16 rz10_218 rfl sh_10 rfl rfl rfl (Nat.le_of_ble_eq_true rfl) (Nat.le_of_ble_eq_true rfl) rfl)))
theorem bPb_holds_19 {E : mEn} {d : Nat} {σ : mSt} {Q : mPost} {a1 : Int32} {a2 : Int32} {s0 : Int32} : WP E d mPb_holds 19 [.ref 0, .int a1, .int a2] [.int s0] σ Q = (if ¬ s0 = 0 then WP E d mPb_holds 28 [.ref 0, .int a1, .int a2] [] σ Q else WP E d mPb_holds 22 [.ref 0, .int a1, .int a2] [] σ Q) := w_ifne (t := 28) dPb_holds_19 (by decide)
theorem bPb_holds_22 {E : mEn} {d : Nat} {σ : mSt} {Q : mPost} {a1 : Int32} {a2 : Int32} : WP E (d + 1) mPb_holds 22 [.ref 0, .int a1, .int a2] [] σ Q = WP E d mPb_refuse 0 [.ref 0, .int (nI 2)] [] σ (fun r σ' => WP E (d + 1) mPb_holds 27 [.ref 0, .int a1, .int a2] (r.toList ++ []) σ' Q) := (w_aload_n dPb_holds_22 rfl).trans ((w_iconst (v := (nI 2)) dPb_holds_23 rfl).trans (w_virt (vs := [.int (nI 2)]) (st' := []) (es := [.ref 0, .int (nI 2)]) dPb_holds_24 rz10_104 rfl sh_0 rfl rfl rfl (Nat.le_of_ble_eq_true rfl) (Nat.le_of_ble_eq_true rfl) rfl))
theorem bPb_holds_27 {E : mEn} {d : Nat} {σ : mSt} {Q : mPost} {a1 : Int32} {a2 : Int32} {s0 : Int32} : WP E d mPb_holds 27 [.ref 0, .int a1, .int a2] [.int s0] σ Q = Q (some (.int s0)) σ := w_iret dPb_holds_27 rfl
theorem bPb_holds_28 {E : mEn} {d : Nat} {σ : mSt} {Q : mPost} {a1 : Int32} {a2 : Int32} : WP E (d + 1) mPb_holds 28 [.ref 0, .int a1, .int a2] [] σ Q = WP E d mSh_weigh 0 [.ref 61, .ref 10, .int a2, uu, uu] [] σ (fun r σ' => WP E (d + 1) mPb_holds 40 [.ref 0, .int a1, .int a2] (r.toList ++ []) σ' Q) := (w_aload_n dPb_holds_28 rfl).trans ((w_getr (r := 61) dPb_holds_29 rz10_40 sh_0 rfl).trans ((w_aload_n dPb_holds_32 rfl).trans ((w_getr (r := 10) dPb_holds_33 rz10_26 sh_0 rfl).trans ((w_iload_n dPb_holds_36 rfl).trans (w_virt (vs := [.ref 10, .int a2]) (st' := []) (es := [.ref 61, .ref 10, .int a2, uu, uu]) dPb_holds_37 rz10_265 rfl sh_61 rfl rfl rfl (Nat.le_of_ble_eq_true rfl) (Nat.le_of_ble_eq_true rfl) rfl)))))
theorem bPb_holds_40 {E : mEn} {d : Nat} {σ : mSt} {Q : mPost} {a1 : Int32} {a2 : Int32} : WP E (d + 1) mPb_holds 40 [.ref 0, .int a1, .int a2] [] σ Q = (if mOut a1 8 = true then False else WP E d mPb_answer 0 [.ref 0, .int (σ.1 62 a1.toNatClampNeg)] [] σ (fun r σ' => WP E (d + 1) mPb_holds 53 [.ref 0, .int a1, .int a2] (r.toList ++ []) σ' Q)) := (w_aload_n dPb_holds_40 rfl).trans ((w_aload_n dPb_holds_41 rfl).trans ((w_getr (r := 61) dPb_holds_42 rz10_40 sh_0 rfl).trans ((w_getr (r := 62) dPb_holds_45 rz10_269 sh_61 rfl).trans ((w_iload_n dPb_holds_48 rfl).trans ((w_iald dPb_holds_49 sh_62 (by decide)).trans (ite_c (w_virt (vs := [.int (σ.1 62 a1.toNatClampNeg)]) (st' := []) (es := [.ref 0, .int (σ.1 62 a1.toNatClampNeg)]) dPb_holds_50 rz10_157 rfl sh_0 rfl rfl rfl (Nat.le_of_ble_eq_true rfl) (Nat.le_of_ble_eq_true rfl) rfl)))))))
theorem bPb_holds_53 {E : mEn} {d : Nat} {σ : mSt} {Q : mPost} {a1 : Int32} {a2 : Int32} {s0 : Int32} : WP E d mPb_holds 53 [.ref 0, .int a1, .int a2] [.int s0] σ Q = Q (some (.int s0)) σ := w_iret dPb_holds_53 rfl
theorem dPb_deep_0 : decode (mC mPb_deep) 0 = .ok (.aload_n 0, 1) := by decide +kernel
theorem dPb_deep_1 : decode (mC mPb_deep) 1 = .ok (.getfield 26, 3) := by decide +kernel
theorem dPb_deep_4 : decode (mC mPb_deep) 4 = .ok (.iload_n 1, 1) := by decide +kernel
theorem dPb_deep_5 : decode (mC mPb_deep) 5 = .ok (.invokevirtual 218, 3) := by decide +kernel
theorem dPb_deep_8 : decode (mC mPb_deep) 8 = .ok (.ifCond .ne (9), 3) := by decide +kernel
theorem dPb_deep_11 : decode (mC mPb_deep) 11 = .ok (.aload_n 0, 1) := by decide +kernel
theorem dPb_deep_12 : decode (mC mPb_deep) 12 = .ok (.iconst (2), 1) := by decide +kernel
theorem dPb_deep_13 : decode (mC mPb_deep) 13 = .ok (.invokevirtual 104, 3) := by decide +kernel
theorem dPb_deep_16 : decode (mC mPb_deep) 16 = .ok (.ireturn, 1) := by decide +kernel
theorem dPb_deep_17 : decode (mC mPb_deep) 17 = .ok (.aload_n 0, 1) := by decide +kernel
theorem dPb_deep_18 : decode (mC mPb_deep) 18 = .ok (.aload_n 0, 1) := by decide +kernel
theorem dPb_deep_19 : decode (mC mPb_deep) 19 = .ok (.getfield 26, 3) := by decide +kernel
theorem dPb_deep_22 : decode (mC mPb_deep) 22 = .ok (.getfield 187, 3) := by decide +kernel
theorem dPb_deep_25 : decode (mC mPb_deep) 25 = .ok (.iload_n 1, 1) := by decide +kernel
theorem dPb_deep_26 : decode (mC mPb_deep) 26 = .ok (.aload_n 0, 1) := by decide +kernel
theorem dPb_deep_27 : decode (mC mPb_deep) 27 = .ok (.getfield 26, 3) := by decide +kernel
theorem dPb_deep_30 : decode (mC mPb_deep) 30 = .ok (.getfield 221, 3) := by decide +kernel
theorem dPb_deep_33 : decode (mC mPb_deep) 33 = .ok (.iload_n 1, 1) := by decide +kernel
theorem dPb_deep_34 : decode (mC mPb_deep) 34 = .ok (.iaload, 1) := by decide +kernel
theorem dPb_deep_35 : decode (mC mPb_deep) 35 = .ok (.invokevirtual 272, 3) := by decide +kernel
theorem dPb_deep_38 : decode (mC mPb_deep) 38 = .ok (.invokevirtual 157, 3) := by decide +kernel
theorem dPb_deep_41 : decode (mC mPb_deep) 41 = .ok (.ireturn, 1) := by decide +kernel
theorem bPb_deep_0 {E : mEn} {d : Nat} {σ : mSt} {Q : mPost} {a1 : Int32} : WP E (d + 1) mPb_deep 0 [.ref 0, .int a1] [] σ Q = WP E d mTw_hasLoaf 0 [.ref 10, .int a1] [] σ (fun r σ' => WP E (d + 1) mPb_deep 8 [.ref 0, .int a1] (r.toList ++ []) σ' Q) := (w_aload_n dPb_deep_0 rfl).trans ((w_getr (r := 10) dPb_deep_1 rz10_26 sh_0 rfl).trans ((w_iload_n dPb_deep_4 rfl).trans (w_virt (vs := [.int a1]) (st' := []) (es := [.ref 10, .int a1]) dPb_deep_5 rz10_218 rfl sh_10 rfl rfl rfl (Nat.le_of_ble_eq_true rfl) (Nat.le_of_ble_eq_true rfl) rfl)))
theorem bPb_deep_8 {E : mEn} {d : Nat} {σ : mSt} {Q : mPost} {a1 : Int32} {s0 : Int32} : WP E d mPb_deep 8 [.ref 0, .int a1] [.int s0] σ Q = (if ¬ s0 = 0 then WP E d mPb_deep 17 [.ref 0, .int a1] [] σ Q else WP E d mPb_deep 11 [.ref 0, .int a1] [] σ Q) := w_ifne (t := 17) dPb_deep_8 (by decide)
theorem bPb_deep_11 {E : mEn} {d : Nat} {σ : mSt} {Q : mPost} {a1 : Int32} : WP E (d + 1) mPb_deep 11 [.ref 0, .int a1] [] σ Q = WP E d mPb_refuse 0 [.ref 0, .int (nI 2)] [] σ (fun r σ' => WP E (d + 1) mPb_deep 16 [.ref 0, .int a1] (r.toList ++ []) σ' Q) := (w_aload_n dPb_deep_11 rfl).trans ((w_iconst (v := (nI 2)) dPb_deep_12 rfl).trans (w_virt (vs := [.int (nI 2)]) (st' := []) (es := [.ref 0, .int (nI 2)]) dPb_deep_13 rz10_104 rfl sh_0 rfl rfl rfl (Nat.le_of_ble_eq_true rfl) (Nat.le_of_ble_eq_true rfl) rfl))
theorem bPb_deep_16 {E : mEn} {d : Nat} {σ : mSt} {Q : mPost} {a1 : Int32} {s0 : Int32} : WP E d mPb_deep 16 [.ref 0, .int a1] [.int s0] σ Q = Q (some (.int s0)) σ := w_iret dPb_deep_16 rfl
theorem bPb_deep_17 {E : mEn} {d : Nat} {σ : mSt} {Q : mPost} {a1 : Int32} : WP E (d + 1) mPb_deep 17 [.ref 0, .int a1] [] σ Q = (if mOut a1 8 = true then False else WP E d mPr_deepest 0 [.ref 13, .int a1, .int (σ.1 29 a1.toNatClampNeg), uu, uu, uu, uu] [] σ (fun r σ' => WP E (d + 1) mPb_deep 38 [.ref 0, .int a1] (r.toList ++ [.ref 0]) σ' Q)) := (w_aload_n dPb_deep_17 rfl).trans ((w_aload_n dPb_deep_18 rfl).trans ((w_getr (r := 10) dPb_deep_19 rz10_26 sh_0 rfl).trans ((w_getr (r := 13) dPb_deep_22 rz10_187 sh_10 rfl).trans ((w_iload_n dPb_deep_25 rfl).trans ((w_aload_n dPb_deep_26 rfl).trans ((w_getr (r := 10) dPb_deep_27 rz10_26 sh_0 rfl).trans ((w_getr (r := 29) dPb_deep_30 rz10_221 sh_10 rfl).trans ((w_iload_n dPb_deep_33 rfl).trans ((w_iald dPb_deep_34 sh_29 (by decide)).trans (ite_c (w_virt (vs := [.int a1, .int (σ.1 29 a1.toNatClampNeg)]) (st' := [.ref 0]) (es := [.ref 13, .int a1, .int (σ.1 29 a1.toNatClampNeg), uu, uu, uu, uu]) dPb_deep_35 rz10_272 rfl sh_13 rfl rfl rfl (Nat.le_of_ble_eq_true rfl) (Nat.le_of_ble_eq_true rfl) rfl)))))))))))
theorem bPb_deep_38 {E : mEn} {d : Nat} {σ : mSt} {Q : mPost} {a1 : Int32} {s0 : Int32} : WP E (d + 1) mPb_deep 38 [.ref 0, .int a1] [.int s0, .ref 0] σ Q = WP E d mPb_answer 0 [.ref 0, .int s0] [] σ (fun r σ' => WP E (d + 1) mPb_deep 41 [.ref 0, .int a1] (r.toList ++ []) σ' Q) := w_virt (vs := [.int s0]) (st' := []) (es := [.ref 0, .int s0]) dPb_deep_38 rz10_157 rfl sh_0 rfl rfl rfl (Nat.le_of_ble_eq_true rfl) (Nat.le_of_ble_eq_true rfl) rfl
theorem bPb_deep_41 {E : mEn} {d : Nat} {σ : mSt} {Q : mPost} {a1 : Int32} {s0 : Int32} : WP E d mPb_deep 41 [.ref 0, .int a1] [.int s0] σ Q = Q (some (.int s0)) σ := w_iret dPb_deep_41 rfl
theorem dPb_first_0 : decode (mC mPb_first) 0 = .ok (.aload_n 0, 1) := by decide +kernel
theorem dPb_first_1 : decode (mC mPb_first) 1 = .ok (.getfield 26, 3) := by decide +kernel
theorem dPb_first_4 : decode (mC mPb_first) 4 = .ok (.iload_n 1, 1) := by decide +kernel
theorem dPb_first_5 : decode (mC mPb_first) 5 = .ok (.invokevirtual 205, 3) := by decide +kernel
theorem dPb_first_8 : decode (mC mPb_first) 8 = .ok (.ifCond .eq (25), 3) := by decide +kernel
theorem dPb_first_11 : decode (mC mPb_first) 11 = .ok (.aload_n 0, 1) := by decide +kernel
theorem dPb_first_12 : decode (mC mPb_first) 12 = .ok (.getfield 26, 3) := by decide +kernel
theorem dPb_first_15 : decode (mC mPb_first) 15 = .ok (.iload_n 2, 1) := by decide +kernel
theorem dPb_first_16 : decode (mC mPb_first) 16 = .ok (.invokevirtual 205, 3) := by decide +kernel
theorem dPb_first_19 : decode (mC mPb_first) 19 = .ok (.ifCond .eq (14), 3) := by decide +kernel
theorem dPb_first_22 : decode (mC mPb_first) 22 = .ok (.aload_n 0, 1) := by decide +kernel
theorem dPb_first_23 : decode (mC mPb_first) 23 = .ok (.getfield 26, 3) := by decide +kernel
theorem dPb_first_26 : decode (mC mPb_first) 26 = .ok (.iload_n 3, 1) := by decide +kernel
theorem dPb_first_27 : decode (mC mPb_first) 27 = .ok (.invokevirtual 218, 3) := by decide +kernel
theorem dPb_first_30 : decode (mC mPb_first) 30 = .ok (.ifCond .ne (9), 3) := by decide +kernel
theorem dPb_first_33 : decode (mC mPb_first) 33 = .ok (.aload_n 0, 1) := by decide +kernel
theorem dPb_first_34 : decode (mC mPb_first) 34 = .ok (.iconst (2), 1) := by decide +kernel
theorem dPb_first_35 : decode (mC mPb_first) 35 = .ok (.invokevirtual 104, 3) := by decide +kernel
theorem dPb_first_38 : decode (mC mPb_first) 38 = .ok (.ireturn, 1) := by decide +kernel
theorem dPb_first_39 : decode (mC mPb_first) 39 = .ok (.iload_n 1, 1) := by decide +kernel
theorem dPb_first_40 : decode (mC mPb_first) 40 = .ok (.iload_n 2, 1) := by decide +kernel
theorem dPb_first_41 : decode (mC mPb_first) 41 = .ok (.if_icmp .ne (9), 3) := by decide +kernel
theorem dPb_first_44 : decode (mC mPb_first) 44 = .ok (.aload_n 0, 1) := by decide +kernel
theorem dPb_first_45 : decode (mC mPb_first) 45 = .ok (.iconst (5), 1) := by decide +kernel
theorem dPb_first_46 : decode (mC mPb_first) 46 = .ok (.invokevirtual 104, 3) := by decide +kernel
theorem dPb_first_49 : decode (mC mPb_first) 49 = .ok (.ireturn, 1) := by decide +kernel
theorem dPb_first_50 : decode (mC mPb_first) 50 = .ok (.aload_n 0, 1) := by decide +kernel
theorem dPb_first_51 : decode (mC mPb_first) 51 = .ok (.getfield 40, 3) := by decide +kernel
theorem dPb_first_54 : decode (mC mPb_first) 54 = .ok (.aload_n 0, 1) := by decide +kernel
theorem dPb_first_55 : decode (mC mPb_first) 55 = .ok (.getfield 26, 3) := by decide +kernel
theorem dPb_first_58 : decode (mC mPb_first) 58 = .ok (.iload_n 3, 1) := by decide +kernel
theorem dPb_first_59 : decode (mC mPb_first) 59 = .ok (.invokevirtual 265, 3) := by decide +kernel
theorem dPb_first_62 : decode (mC mPb_first) 62 = .ok (.aload_n 0, 1) := by decide +kernel
theorem dPb_first_63 : decode (mC mPb_first) 63 = .ok (.getfield 40, 3) := by decide +kernel
theorem dPb_first_66 : decode (mC mPb_first) 66 = .ok (.getfield 275, 3) := by decide +kernel
theorem dPb_first_69 : decode (mC mPb_first) 69 = .ok (.iload_n 1, 1) := by decide +kernel
theorem dPb_first_70 : decode (mC mPb_first) 70 = .ok (.iaload, 1) := by decide +kernel
theorem dPb_first_71 : decode (mC mPb_first) 71 = .ok (.bipush (40), 2) := by decide +kernel
theorem dPb_first_73 : decode (mC mPb_first) 73 = .ok (.if_icmp .ne (24), 3) := by decide +kernel
theorem dPb_first_76 : decode (mC mPb_first) 76 = .ok (.aload_n 0, 1) := by decide +kernel
theorem dPb_first_77 : decode (mC mPb_first) 77 = .ok (.getfield 40, 3) := by decide +kernel
theorem dPb_first_80 : decode (mC mPb_first) 80 = .ok (.getfield 275, 3) := by decide +kernel
theorem dPb_first_83 : decode (mC mPb_first) 83 = .ok (.iload_n 2, 1) := by decide +kernel
theorem dPb_first_84 : decode (mC mPb_first) 84 = .ok (.iaload, 1) := by decide +kernel
theorem dPb_first_85 : decode (mC mPb_first) 85 = .ok (.bipush (40), 2) := by decide +kernel
theorem dPb_first_87 : decode (mC mPb_first) 87 = .ok (.if_icmp .ne (10), 3) := by decide +kernel
theorem dPb_first_90 : decode (mC mPb_first) 90 = .ok (.aload_n 0, 1) := by decide +kernel
theorem dPb_first_91 : decode (mC mPb_first) 91 = .ok (.bipush (8), 2) := by decide +kernel
theorem dPb_first_93 : decode (mC mPb_first) 93 = .ok (.invokevirtual 104, 3) := by decide +kernel
theorem dPb_first_96 : decode (mC mPb_first) 96 = .ok (.ireturn, 1) := by decide +kernel
theorem dPb_first_97 : decode (mC mPb_first) 97 = .ok (.aload_n 0, 1) := by decide +kernel
theorem dPb_first_98 : decode (mC mPb_first) 98 = .ok (.aload_n 0, 1) := by decide +kernel
theorem dPb_first_99 : decode (mC mPb_first) 99 = .ok (.getfield 40, 3) := by decide +kernel
theorem dPb_first_102 : decode (mC mPb_first) 102 = .ok (.getfield 275, 3) := by decide +kernel
theorem dPb_first_105 : decode (mC mPb_first) 105 = .ok (.iload_n 1, 1) := by decide +kernel
theorem dPb_first_106 : decode (mC mPb_first) 106 = .ok (.iaload, 1) := by decide +kernel
theorem dPb_first_107 : decode (mC mPb_first) 107 = .ok (.aload_n 0, 1) := by decide +kernel
theorem dPb_first_108 : decode (mC mPb_first) 108 = .ok (.getfield 40, 3) := by decide +kernel
theorem dPb_first_111 : decode (mC mPb_first) 111 = .ok (.getfield 275, 3) := by decide +kernel
theorem dPb_first_114 : decode (mC mPb_first) 114 = .ok (.iload_n 2, 1) := by decide +kernel
theorem dPb_first_115 : decode (mC mPb_first) 115 = .ok (.iaload, 1) := by decide +kernel
theorem dPb_first_116 : decode (mC mPb_first) 116 = .ok (.if_icmp .ge (7), 3) := by decide +kernel
theorem dPb_first_119 : decode (mC mPb_first) 119 = .ok (.iload_n 1, 1) := by decide +kernel
theorem dPb_first_120 : decode (mC mPb_first) 120 = .ok (.goto (4), 3) := by decide +kernel
theorem dPb_first_123 : decode (mC mPb_first) 123 = .ok (.iload_n 2, 1) := by decide +kernel
theorem dPb_first_124 : decode (mC mPb_first) 124 = .ok (.invokevirtual 157, 3) := by decide +kernel
theorem dPb_first_127 : decode (mC mPb_first) 127 = .ok (.ireturn, 1) := by decide +kernel
theorem bPb_first_0 {E : mEn} {d : Nat} {σ : mSt} {Q : mPost} {a1 : Int32} {a2 : Int32} {a3 : Int32} : WP E (d + 1) mPb_first 0 [.ref 0, .int a1, .int a2, .int a3] [] σ Q = WP E d mTw_hasPerson 0 [.ref 10, .int a1] [] σ (fun r σ' => WP E (d + 1) mPb_first 8 [.ref 0, .int a1, .int a2, .int a3] (r.toList ++ []) σ' Q) := (w_aload_n dPb_first_0 rfl).trans ((w_getr (r := 10) dPb_first_1 rz10_26 sh_0 rfl).trans ((w_iload_n dPb_first_4 rfl).trans (w_virt (vs := [.int a1]) (st' := []) (es := [.ref 10, .int a1]) dPb_first_5 rz10_205 rfl sh_10 rfl rfl rfl (Nat.le_of_ble_eq_true rfl) (Nat.le_of_ble_eq_true rfl) rfl)))
theorem bPb_first_8 {E : mEn} {d : Nat} {σ : mSt} {Q : mPost} {a1 : Int32} {a2 : Int32} {a3 : Int32} {s0 : Int32} : WP E d mPb_first 8 [.ref 0, .int a1, .int a2, .int a3] [.int s0] σ Q = (if s0 = 0 then WP E d mPb_first 33 [.ref 0, .int a1, .int a2, .int a3] [] σ Q else WP E d mPb_first 11 [.ref 0, .int a1, .int a2, .int a3] [] σ Q) := w_ifeq (t := 33) dPb_first_8 (by decide)
theorem bPb_first_11 {E : mEn} {d : Nat} {σ : mSt} {Q : mPost} {a1 : Int32} {a2 : Int32} {a3 : Int32} : WP E (d + 1) mPb_first 11 [.ref 0, .int a1, .int a2, .int a3] [] σ Q = WP E d mTw_hasPerson 0 [.ref 10, .int a2] [] σ (fun r σ' => WP E (d + 1) mPb_first 19 [.ref 0, .int a1, .int a2, .int a3] (r.toList ++ []) σ' Q) := (w_aload_n dPb_first_11 rfl).trans ((w_getr (r := 10) dPb_first_12 rz10_26 sh_0 rfl).trans ((w_iload_n dPb_first_15 rfl).trans (w_virt (vs := [.int a2]) (st' := []) (es := [.ref 10, .int a2]) dPb_first_16 rz10_205 rfl sh_10 rfl rfl rfl (Nat.le_of_ble_eq_true rfl) (Nat.le_of_ble_eq_true rfl) rfl)))
theorem bPb_first_19 {E : mEn} {d : Nat} {σ : mSt} {Q : mPost} {a1 : Int32} {a2 : Int32} {a3 : Int32} {s0 : Int32} : WP E d mPb_first 19 [.ref 0, .int a1, .int a2, .int a3] [.int s0] σ Q = (if s0 = 0 then WP E d mPb_first 33 [.ref 0, .int a1, .int a2, .int a3] [] σ Q else WP E d mPb_first 22 [.ref 0, .int a1, .int a2, .int a3] [] σ Q) := w_ifeq (t := 33) dPb_first_19 (by decide)
theorem bPb_first_22 {E : mEn} {d : Nat} {σ : mSt} {Q : mPost} {a1 : Int32} {a2 : Int32} {a3 : Int32} : WP E (d + 1) mPb_first 22 [.ref 0, .int a1, .int a2, .int a3] [] σ Q = WP E d mTw_hasLoaf 0 [.ref 10, .int a3] [] σ (fun r σ' => WP E (d + 1) mPb_first 30 [.ref 0, .int a1, .int a2, .int a3] (r.toList ++ []) σ' Q) := (w_aload_n dPb_first_22 rfl).trans ((w_getr (r := 10) dPb_first_23 rz10_26 sh_0 rfl).trans ((w_iload_n dPb_first_26 rfl).trans (w_virt (vs := [.int a3]) (st' := []) (es := [.ref 10, .int a3]) dPb_first_27 rz10_218 rfl sh_10 rfl rfl rfl (Nat.le_of_ble_eq_true rfl) (Nat.le_of_ble_eq_true rfl) rfl)))
theorem bPb_first_30 {E : mEn} {d : Nat} {σ : mSt} {Q : mPost} {a1 : Int32} {a2 : Int32} {a3 : Int32} {s0 : Int32} : WP E d mPb_first 30 [.ref 0, .int a1, .int a2, .int a3] [.int s0] σ Q = (if ¬ s0 = 0 then WP E d mPb_first 39 [.ref 0, .int a1, .int a2, .int a3] [] σ Q else WP E d mPb_first 33 [.ref 0, .int a1, .int a2, .int a3] [] σ Q) := w_ifne (t := 39) dPb_first_30 (by decide)
theorem bPb_first_33 {E : mEn} {d : Nat} {σ : mSt} {Q : mPost} {a1 : Int32} {a2 : Int32} {a3 : Int32} : WP E (d + 1) mPb_first 33 [.ref 0, .int a1, .int a2, .int a3] [] σ Q = WP E d mPb_refuse 0 [.ref 0, .int (nI 2)] [] σ (fun r σ' => WP E (d + 1) mPb_first 38 [.ref 0, .int a1, .int a2, .int a3] (r.toList ++ []) σ' Q) := (w_aload_n dPb_first_33 rfl).trans ((w_iconst (v := (nI 2)) dPb_first_34 rfl).trans (w_virt (vs := [.int (nI 2)]) (st' := []) (es := [.ref 0, .int (nI 2)]) dPb_first_35 rz10_104 rfl sh_0 rfl rfl rfl (Nat.le_of_ble_eq_true rfl) (Nat.le_of_ble_eq_true rfl) rfl))
theorem bPb_first_38 {E : mEn} {d : Nat} {σ : mSt} {Q : mPost} {a1 : Int32} {a2 : Int32} {a3 : Int32} {s0 : Int32} : WP E d mPb_first 38 [.ref 0, .int a1, .int a2, .int a3] [.int s0] σ Q = Q (some (.int s0)) σ := w_iret dPb_first_38 rfl
theorem bPb_first_39 {E : mEn} {d : Nat} {σ : mSt} {Q : mPost} {a1 : Int32} {a2 : Int32} {a3 : Int32} : WP E d mPb_first 39 [.ref 0, .int a1, .int a2, .int a3] [] σ Q = (if ¬ a1 = a2 then WP E d mPb_first 50 [.ref 0, .int a1, .int a2, .int a3] [] σ Q else WP E d mPb_first 44 [.ref 0, .int a1, .int a2, .int a3] [] σ Q) := (w_iload_n dPb_first_39 rfl).trans ((w_iload_n dPb_first_40 rfl).trans (w_icmpne (t := 50) dPb_first_41 (by decide)))
theorem bPb_first_44 {E : mEn} {d : Nat} {σ : mSt} {Q : mPost} {a1 : Int32} {a2 : Int32} {a3 : Int32} : WP E (d + 1) mPb_first 44 [.ref 0, .int a1, .int a2, .int a3] [] σ Q = WP E d mPb_refuse 0 [.ref 0, .int (nI 5)] [] σ (fun r σ' => WP E (d + 1) mPb_first 49 [.ref 0, .int a1, .int a2, .int a3] (r.toList ++ []) σ' Q) := (w_aload_n dPb_first_44 rfl).trans ((w_iconst (v := (nI 5)) dPb_first_45 rfl).trans (w_virt (vs := [.int (nI 5)]) (st' := []) (es := [.ref 0, .int (nI 5)]) dPb_first_46 rz10_104 rfl sh_0 rfl rfl rfl (Nat.le_of_ble_eq_true rfl) (Nat.le_of_ble_eq_true rfl) rfl))
theorem bPb_first_49 {E : mEn} {d : Nat} {σ : mSt} {Q : mPost} {a1 : Int32} {a2 : Int32} {a3 : Int32} {s0 : Int32} : WP E d mPb_first 49 [.ref 0, .int a1, .int a2, .int a3] [.int s0] σ Q = Q (some (.int s0)) σ := w_iret dPb_first_49 rfl
theorem bPb_first_50 {E : mEn} {d : Nat} {σ : mSt} {Q : mPost} {a1 : Int32} {a2 : Int32} {a3 : Int32} : WP E (d + 1) mPb_first 50 [.ref 0, .int a1, .int a2, .int a3] [] σ Q = WP E d mSh_weigh 0 [.ref 61, .ref 10, .int a3, uu, uu] [] σ (fun r σ' => WP E (d + 1) mPb_first 62 [.ref 0, .int a1, .int a2, .int a3] (r.toList ++ []) σ' Q) := (w_aload_n dPb_first_50 rfl).trans ((w_getr (r := 61) dPb_first_51 rz10_40 sh_0 rfl).trans ((w_aload_n dPb_first_54 rfl).trans ((w_getr (r := 10) dPb_first_55 rz10_26 sh_0 rfl).trans ((w_iload_n dPb_first_58 rfl).trans (w_virt (vs := [.ref 10, .int a3]) (st' := []) (es := [.ref 61, .ref 10, .int a3, uu, uu]) dPb_first_59 rz10_265 rfl sh_61 rfl rfl rfl (Nat.le_of_ble_eq_true rfl) (Nat.le_of_ble_eq_true rfl) rfl)))))
theorem bPb_first_62 {E : mEn} {d : Nat} {σ : mSt} {Q : mPost} {a1 : Int32} {a2 : Int32} {a3 : Int32} : WP E d mPb_first 62 [.ref 0, .int a1, .int a2, .int a3] [] σ Q = (if mOut a1 8 = true then False else (if ¬ (σ.1 63 a1.toNatClampNeg) = (nI 40) then WP E d mPb_first 97 [.ref 0, .int a1, .int a2, .int a3] [] σ Q else WP E d mPb_first 76 [.ref 0, .int a1, .int a2, .int a3] [] σ Q)) := (w_aload_n dPb_first_62 rfl).trans ((w_getr (r := 61) dPb_first_63 rz10_40 sh_0 rfl).trans ((w_getr (r := 63) dPb_first_66 rz10_275 sh_61 rfl).trans ((w_iload_n dPb_first_69 rfl).trans ((w_iald dPb_first_70 sh_63 (by decide)).trans (ite_c ((w_bipush (v := (nI 40)) dPb_first_71 rfl).trans (w_icmpne (t := 97) dPb_first_73 (by decide))))))))
theorem bPb_first_76 {E : mEn} {d : Nat} {σ : mSt} {Q : mPost} {a1 : Int32} {a2 : Int32} {a3 : Int32} : WP E d mPb_first 76 [.ref 0, .int a1, .int a2, .int a3] [] σ Q = (if mOut a2 8 = true then False else (if ¬ (σ.1 63 a2.toNatClampNeg) = (nI 40) then WP E d mPb_first 97 [.ref 0, .int a1, .int a2, .int a3] [] σ Q else WP E d mPb_first 90 [.ref 0, .int a1, .int a2, .int a3] [] σ Q)) := (w_aload_n dPb_first_76 rfl).trans ((w_getr (r := 61) dPb_first_77 rz10_40 sh_0 rfl).trans ((w_getr (r := 63) dPb_first_80 rz10_275 sh_61 rfl).trans ((w_iload_n dPb_first_83 rfl).trans ((w_iald dPb_first_84 sh_63 (by decide)).trans (ite_c ((w_bipush (v := (nI 40)) dPb_first_85 rfl).trans (w_icmpne (t := 97) dPb_first_87 (by decide))))))))
theorem bPb_first_90 {E : mEn} {d : Nat} {σ : mSt} {Q : mPost} {a1 : Int32} {a2 : Int32} {a3 : Int32} : WP E (d + 1) mPb_first 90 [.ref 0, .int a1, .int a2, .int a3] [] σ Q = WP E d mPb_refuse 0 [.ref 0, .int (nI 8)] [] σ (fun r σ' => WP E (d + 1) mPb_first 96 [.ref 0, .int a1, .int a2, .int a3] (r.toList ++ []) σ' Q) := (w_aload_n dPb_first_90 rfl).trans ((w_bipush (v := (nI 8)) dPb_first_91 rfl).trans (w_virt (vs := [.int (nI 8)]) (st' := []) (es := [.ref 0, .int (nI 8)]) dPb_first_93 rz10_104 rfl sh_0 rfl rfl rfl (Nat.le_of_ble_eq_true rfl) (Nat.le_of_ble_eq_true rfl) rfl))
theorem bPb_first_96 {E : mEn} {d : Nat} {σ : mSt} {Q : mPost} {a1 : Int32} {a2 : Int32} {a3 : Int32} {s0 : Int32} : WP E d mPb_first 96 [.ref 0, .int a1, .int a2, .int a3] [.int s0] σ Q = Q (some (.int s0)) σ := w_iret dPb_first_96 rfl
theorem bPb_first_97 {E : mEn} {d : Nat} {σ : mSt} {Q : mPost} {a1 : Int32} {a2 : Int32} {a3 : Int32} : WP E d mPb_first 97 [.ref 0, .int a1, .int a2, .int a3] [] σ Q = (if mOut a1 8 = true then False else (if mOut a2 8 = true then False else (if (σ.1 63 a2.toNatClampNeg) ≤ (σ.1 63 a1.toNatClampNeg) then WP E d mPb_first 123 [.ref 0, .int a1, .int a2, .int a3] [.ref 0] σ Q else WP E d mPb_first 119 [.ref 0, .int a1, .int a2, .int a3] [.ref 0] σ Q))) := (w_aload_n dPb_first_97 rfl).trans ((w_aload_n dPb_first_98 rfl).trans ((w_getr (r := 61) dPb_first_99 rz10_40 sh_0 rfl).trans ((w_getr (r := 63) dPb_first_102 rz10_275 sh_61 rfl).trans ((w_iload_n dPb_first_105 rfl).trans ((w_iald dPb_first_106 sh_63 (by decide)).trans (ite_c ((w_aload_n dPb_first_107 rfl).trans ((w_getr (r := 61) dPb_first_108 rz10_40 sh_0 rfl).trans ((w_getr (r := 63) dPb_first_111 rz10_275 sh_61 rfl).trans ((w_iload_n dPb_first_114 rfl).trans ((w_iald dPb_first_115 sh_63 (by decide)).trans (ite_c (w_icmpge (t := 123) dPb_first_116 (by decide))))))))))))))
theorem bPb_first_119 {E : mEn} {d : Nat} {σ : mSt} {Q : mPost} {a1 : Int32} {a2 : Int32} {a3 : Int32} : WP E d mPb_first 119 [.ref 0, .int a1, .int a2, .int a3] [.ref 0] σ Q = WP E d mPb_first 124 [.ref 0, .int a1, .int a2, .int a3] [.int a1, .ref 0] σ Q := (w_iload_n dPb_first_119 rfl).trans (w_goto (t := 124) dPb_first_120 (by decide))
theorem bPb_first_123 {E : mEn} {d : Nat} {σ : mSt} {Q : mPost} {a1 : Int32} {a2 : Int32} {a3 : Int32} : WP E d mPb_first 123 [.ref 0, .int a1, .int a2, .int a3] [.ref 0] σ Q = WP E d mPb_first 124 [.ref 0, .int a1, .int a2, .int a3] [.int a2, .ref 0] σ Q := w_iload_n dPb_first_123 rfl
theorem bPb_first_124 {E : mEn} {d : Nat} {σ : mSt} {Q : mPost} {a1 : Int32} {a2 : Int32} {a3 : Int32} {s0 : Int32} : WP E (d + 1) mPb_first 124 [.ref 0, .int a1, .int a2, .int a3] [.int s0, .ref 0] σ Q = WP E d mPb_answer 0 [.ref 0, .int s0] [] σ (fun r σ' => WP E (d + 1) mPb_first 127 [.ref 0, .int a1, .int a2, .int a3] (r.toList ++ []) σ' Q) := w_virt (vs := [.int s0]) (st' := []) (es := [.ref 0, .int s0]) dPb_first_124 rz10_157 rfl sh_0 rfl rfl rfl (Nat.le_of_ble_eq_true rfl) (Nat.le_of_ble_eq_true rfl) rfl
theorem bPb_first_127 {E : mEn} {d : Nat} {σ : mSt} {Q : mPost} {a1 : Int32} {a2 : Int32} {a3 : Int32} {s0 : Int32} : WP E d mPb_first 127 [.ref 0, .int a1, .int a2, .int a3] [.int s0] σ Q = Q (some (.int s0)) σ := w_iret dPb_first_127 rfl
theorem dPb_line_0 : decode (mC mPb_line) 0 = .ok (.aload_n 0, 1) := by decide +kernel
theorem dPb_line_1 : decode (mC mPb_line) 1 = .ok (.getfield 26, 3) := by decide +kernel
theorem dPb_line_4 : decode (mC mPb_line) 4 = .ok (.iload_n 1, 1) := by decide +kernel
theorem dPb_line_5 : decode (mC mPb_line) 5 = .ok (.invokevirtual 218, 3) := by decide +kernel
theorem dPb_line_8 : decode (mC mPb_line) 8 = .ok (.ifCond .ne (9), 3) := by decide +kernel
theorem dPb_line_11 : decode (mC mPb_line) 11 = .ok (.aload_n 0, 1) := by decide +kernel
theorem dPb_line_12 : decode (mC mPb_line) 12 = .ok (.iconst (2), 1) := by decide +kernel
theorem dPb_line_13 : decode (mC mPb_line) 13 = .ok (.invokevirtual 104, 3) := by decide +kernel
theorem dPb_line_16 : decode (mC mPb_line) 16 = .ok (.ireturn, 1) := by decide +kernel
theorem dPb_line_17 : decode (mC mPb_line) 17 = .ok (.aload_n 0, 1) := by decide +kernel
theorem dPb_line_18 : decode (mC mPb_line) 18 = .ok (.getfield 40, 3) := by decide +kernel
theorem dPb_line_21 : decode (mC mPb_line) 21 = .ok (.aload_n 0, 1) := by decide +kernel
theorem dPb_line_22 : decode (mC mPb_line) 22 = .ok (.getfield 26, 3) := by decide +kernel
theorem dPb_line_25 : decode (mC mPb_line) 25 = .ok (.iload_n 1, 1) := by decide +kernel
theorem dPb_line_26 : decode (mC mPb_line) 26 = .ok (.invokevirtual 265, 3) := by decide +kernel
theorem dPb_line_29 : decode (mC mPb_line) 29 = .ok (.iload_n 2, 1) := by decide +kernel
theorem dPb_line_30 : decode (mC mPb_line) 30 = .ok (.ifCond .lt (14), 3) := by decide +kernel
theorem dPb_line_33 : decode (mC mPb_line) 33 = .ok (.iload_n 2, 1) := by decide +kernel
theorem dPb_line_34 : decode (mC mPb_line) 34 = .ok (.aload_n 0, 1) := by decide +kernel
theorem dPb_line_35 : decode (mC mPb_line) 35 = .ok (.getfield 40, 3) := by decide +kernel
theorem dPb_line_38 : decode (mC mPb_line) 38 = .ok (.getfield 278, 3) := by decide +kernel
theorem dPb_line_41 : decode (mC mPb_line) 41 = .ok (.if_icmp .lt (10), 3) := by decide +kernel
theorem dPb_line_44 : decode (mC mPb_line) 44 = .ok (.aload_n 0, 1) := by decide +kernel
theorem dPb_line_45 : decode (mC mPb_line) 45 = .ok (.bipush (8), 2) := by decide +kernel
theorem dPb_line_47 : decode (mC mPb_line) 47 = .ok (.invokevirtual 104, 3) := by decide +kernel
theorem dPb_line_50 : decode (mC mPb_line) 50 = .ok (.ireturn, 1) := by decide +kernel
theorem dPb_line_51 : decode (mC mPb_line) 51 = .ok (.aload_n 0, 1) := by decide +kernel
theorem dPb_line_52 : decode (mC mPb_line) 52 = .ok (.aload_n 0, 1) := by decide +kernel
theorem dPb_line_53 : decode (mC mPb_line) 53 = .ok (.getfield 40, 3) := by decide +kernel
theorem dPb_line_56 : decode (mC mPb_line) 56 = .ok (.getfield 281, 3) := by decide +kernel
theorem dPb_line_59 : decode (mC mPb_line) 59 = .ok (.iload_n 2, 1) := by decide +kernel
theorem dPb_line_60 : decode (mC mPb_line) 60 = .ok (.iaload, 1) := by decide +kernel
theorem dPb_line_61 : decode (mC mPb_line) 61 = .ok (.invokevirtual 157, 3) := by decide +kernel
theorem dPb_line_64 : decode (mC mPb_line) 64 = .ok (.ireturn, 1) := by decide +kernel
theorem bPb_line_0 {E : mEn} {d : Nat} {σ : mSt} {Q : mPost} {a1 : Int32} {a2 : Int32} : WP E (d + 1) mPb_line 0 [.ref 0, .int a1, .int a2] [] σ Q = WP E d mTw_hasLoaf 0 [.ref 10, .int a1] [] σ (fun r σ' => WP E (d + 1) mPb_line 8 [.ref 0, .int a1, .int a2] (r.toList ++ []) σ' Q) := (w_aload_n dPb_line_0 rfl).trans ((w_getr (r := 10) dPb_line_1 rz10_26 sh_0 rfl).trans ((w_iload_n dPb_line_4 rfl).trans (w_virt (vs := [.int a1]) (st' := []) (es := [.ref 10, .int a1]) dPb_line_5 rz10_218 rfl sh_10 rfl rfl rfl (Nat.le_of_ble_eq_true rfl) (Nat.le_of_ble_eq_true rfl) rfl)))
theorem bPb_line_8 {E : mEn} {d : Nat} {σ : mSt} {Q : mPost} {a1 : Int32} {a2 : Int32} {s0 : Int32} : WP E d mPb_line 8 [.ref 0, .int a1, .int a2] [.int s0] σ Q = (if ¬ s0 = 0 then WP E d mPb_line 17 [.ref 0, .int a1, .int a2] [] σ Q else WP E d mPb_line 11 [.ref 0, .int a1, .int a2] [] σ Q) := w_ifne (t := 17) dPb_line_8 (by decide)
theorem bPb_line_11 {E : mEn} {d : Nat} {σ : mSt} {Q : mPost} {a1 : Int32} {a2 : Int32} : WP E (d + 1) mPb_line 11 [.ref 0, .int a1, .int a2] [] σ Q = WP E d mPb_refuse 0 [.ref 0, .int (nI 2)] [] σ (fun r σ' => WP E (d + 1) mPb_line 16 [.ref 0, .int a1, .int a2] (r.toList ++ []) σ' Q) := (w_aload_n dPb_line_11 rfl).trans ((w_iconst (v := (nI 2)) dPb_line_12 rfl).trans (w_virt (vs := [.int (nI 2)]) (st' := []) (es := [.ref 0, .int (nI 2)]) dPb_line_13 rz10_104 rfl sh_0 rfl rfl rfl (Nat.le_of_ble_eq_true rfl) (Nat.le_of_ble_eq_true rfl) rfl))
theorem bPb_line_16 {E : mEn} {d : Nat} {σ : mSt} {Q : mPost} {a1 : Int32} {a2 : Int32} {s0 : Int32} : WP E d mPb_line 16 [.ref 0, .int a1, .int a2] [.int s0] σ Q = Q (some (.int s0)) σ := w_iret dPb_line_16 rfl
theorem bPb_line_17 {E : mEn} {d : Nat} {σ : mSt} {Q : mPost} {a1 : Int32} {a2 : Int32} : WP E (d + 1) mPb_line 17 [.ref 0, .int a1, .int a2] [] σ Q = WP E d mSh_weigh 0 [.ref 61, .ref 10, .int a1, uu, uu] [] σ (fun r σ' => WP E (d + 1) mPb_line 29 [.ref 0, .int a1, .int a2] (r.toList ++ []) σ' Q) := (w_aload_n dPb_line_17 rfl).trans ((w_getr (r := 61) dPb_line_18 rz10_40 sh_0 rfl).trans ((w_aload_n dPb_line_21 rfl).trans ((w_getr (r := 10) dPb_line_22 rz10_26 sh_0 rfl).trans ((w_iload_n dPb_line_25 rfl).trans (w_virt (vs := [.ref 10, .int a1]) (st' := []) (es := [.ref 61, .ref 10, .int a1, uu, uu]) dPb_line_26 rz10_265 rfl sh_61 rfl rfl rfl (Nat.le_of_ble_eq_true rfl) (Nat.le_of_ble_eq_true rfl) rfl)))))
theorem bPb_line_29 {E : mEn} {d : Nat} {σ : mSt} {Q : mPost} {a1 : Int32} {a2 : Int32} : WP E d mPb_line 29 [.ref 0, .int a1, .int a2] [] σ Q = (if a2 < 0 then WP E d mPb_line 44 [.ref 0, .int a1, .int a2] [] σ Q else WP E d mPb_line 33 [.ref 0, .int a1, .int a2] [] σ Q) := (w_iload_n dPb_line_29 rfl).trans (w_iflt (t := 44) dPb_line_30 (by decide))
theorem bPb_line_33 {E : mEn} {d : Nat} {σ : mSt} {Q : mPost} {a1 : Int32} {a2 : Int32} : WP E d mPb_line 33 [.ref 0, .int a1, .int a2] [] σ Q = (if a2 < (σ.1 61 6) then WP E d mPb_line 51 [.ref 0, .int a1, .int a2] [] σ Q else WP E d mPb_line 44 [.ref 0, .int a1, .int a2] [] σ Q) := (w_iload_n dPb_line_33 rfl).trans ((w_aload_n dPb_line_34 rfl).trans ((w_getr (r := 61) dPb_line_35 rz10_40 sh_0 rfl).trans ((w_geti dPb_line_38 rz10_278 sh_61 rfl).trans (w_icmplt (t := 51) dPb_line_41 (by decide)))))
theorem bPb_line_44 {E : mEn} {d : Nat} {σ : mSt} {Q : mPost} {a1 : Int32} {a2 : Int32} : WP E (d + 1) mPb_line 44 [.ref 0, .int a1, .int a2] [] σ Q = WP E d mPb_refuse 0 [.ref 0, .int (nI 8)] [] σ (fun r σ' => WP E (d + 1) mPb_line 50 [.ref 0, .int a1, .int a2] (r.toList ++ []) σ' Q) := (w_aload_n dPb_line_44 rfl).trans ((w_bipush (v := (nI 8)) dPb_line_45 rfl).trans (w_virt (vs := [.int (nI 8)]) (st' := []) (es := [.ref 0, .int (nI 8)]) dPb_line_47 rz10_104 rfl sh_0 rfl rfl rfl (Nat.le_of_ble_eq_true rfl) (Nat.le_of_ble_eq_true rfl) rfl))
theorem bPb_line_50 {E : mEn} {d : Nat} {σ : mSt} {Q : mPost} {a1 : Int32} {a2 : Int32} {s0 : Int32} : WP E d mPb_line 50 [.ref 0, .int a1, .int a2] [.int s0] σ Q = Q (some (.int s0)) σ := w_iret dPb_line_50 rfl
theorem bPb_line_51 {E : mEn} {d : Nat} {σ : mSt} {Q : mPost} {a1 : Int32} {a2 : Int32} : WP E (d + 1) mPb_line 51 [.ref 0, .int a1, .int a2] [] σ Q = (if mOut a2 8 = true then False else WP E d mPb_answer 0 [.ref 0, .int (σ.1 64 a2.toNatClampNeg)] [] σ (fun r σ' => WP E (d + 1) mPb_line 64 [.ref 0, .int a1, .int a2] (r.toList ++ []) σ' Q)) := (w_aload_n dPb_line_51 rfl).trans ((w_aload_n dPb_line_52 rfl).trans ((w_getr (r := 61) dPb_line_53 rz10_40 sh_0 rfl).trans ((w_getr (r := 64) dPb_line_56 rz10_281 sh_61 rfl).trans ((w_iload_n dPb_line_59 rfl).trans ((w_iald dPb_line_60 sh_64 (by decide)).trans (ite_c (w_virt (vs := [.int (σ.1 64 a2.toNatClampNeg)]) (st' := []) (es := [.ref 0, .int (σ.1 64 a2.toNatClampNeg)]) dPb_line_61 rz10_157 rfl sh_0 rfl rfl rfl (Nat.le_of_ble_eq_true rfl) (Nat.le_of_ble_eq_true rfl) rfl)))))))
theorem bPb_line_64 {E : mEn} {d : Nat} {σ : mSt} {Q : mPost} {a1 : Int32} {a2 : Int32} {s0 : Int32} : WP E d mPb_line 64 [.ref 0, .int a1, .int a2] [.int s0] σ Q = Q (some (.int s0)) σ := w_iret dPb_line_64 rfl
theorem dPb_whose_0 : decode (mC mPb_whose) 0 = .ok (.aload_n 0, 1) := by decide +kernel
theorem dPb_whose_1 : decode (mC mPb_whose) 1 = .ok (.getfield 26, 3) := by decide +kernel
theorem dPb_whose_4 : decode (mC mPb_whose) 4 = .ok (.iload_n 1, 1) := by decide +kernel
theorem dPb_whose_5 : decode (mC mPb_whose) 5 = .ok (.invokevirtual 218, 3) := by decide +kernel
theorem dPb_whose_8 : decode (mC mPb_whose) 8 = .ok (.ifCond .ne (9), 3) := by decide +kernel
theorem dPb_whose_11 : decode (mC mPb_whose) 11 = .ok (.aload_n 0, 1) := by decide +kernel
theorem dPb_whose_12 : decode (mC mPb_whose) 12 = .ok (.iconst (2), 1) := by decide +kernel
theorem dPb_whose_13 : decode (mC mPb_whose) 13 = .ok (.invokevirtual 104, 3) := by decide +kernel
theorem dPb_whose_16 : decode (mC mPb_whose) 16 = .ok (.ireturn, 1) := by decide +kernel
theorem dPb_whose_17 : decode (mC mPb_whose) 17 = .ok (.aload_n 0, 1) := by decide +kernel
theorem dPb_whose_18 : decode (mC mPb_whose) 18 = .ok (.getfield 26, 3) := by decide +kernel
theorem dPb_whose_21 : decode (mC mPb_whose) 21 = .ok (.iload_n 1, 1) := by decide +kernel
theorem dPb_whose_22 : decode (mC mPb_whose) 22 = .ok (.invokevirtual 224, 3) := by decide +kernel
theorem dPb_whose_25 : decode (mC mPb_whose) 25 = .ok (.ifCond .ne (14), 3) := by decide +kernel
theorem dPb_whose_28 : decode (mC mPb_whose) 28 = .ok (.aload_n 0, 1) := by decide +kernel
theorem dPb_whose_29 : decode (mC mPb_whose) 29 = .ok (.getfield 26, 3) := by decide +kernel
theorem dPb_whose_32 : decode (mC mPb_whose) 32 = .ok (.iload_n 1, 1) := by decide +kernel
theorem dPb_whose_33 : decode (mC mPb_whose) 33 = .ok (.invokevirtual 239, 3) := by decide +kernel
theorem dPb_whose_36 : decode (mC mPb_whose) 36 = .ok (.ifCond .eq (10), 3) := by decide +kernel
theorem dPb_whose_39 : decode (mC mPb_whose) 39 = .ok (.aload_n 0, 1) := by decide +kernel
theorem dPb_whose_40 : decode (mC mPb_whose) 40 = .ok (.bipush (9), 2) := by decide +kernel
theorem dPb_whose_42 : decode (mC mPb_whose) 42 = .ok (.invokevirtual 104, 3) := by decide +kernel
theorem dPb_whose_45 : decode (mC mPb_whose) 45 = .ok (.ireturn, 1) := by decide +kernel
theorem dPb_whose_46 : decode (mC mPb_whose) 46 = .ok (.aload_n 0, 1) := by decide +kernel
theorem dPb_whose_47 : decode (mC mPb_whose) 47 = .ok (.getfield 40, 3) := by decide +kernel
theorem dPb_whose_50 : decode (mC mPb_whose) 50 = .ok (.aload_n 0, 1) := by decide +kernel
theorem dPb_whose_51 : decode (mC mPb_whose) 51 = .ok (.getfield 26, 3) := by decide +kernel
theorem dPb_whose_54 : decode (mC mPb_whose) 54 = .ok (.iload_n 1, 1) := by decide +kernel
theorem dPb_whose_55 : decode (mC mPb_whose) 55 = .ok (.invokevirtual 265, 3) := by decide +kernel
theorem dPb_whose_58 : decode (mC mPb_whose) 58 = .ok (.aload_n 0, 1) := by decide +kernel
theorem dPb_whose_59 : decode (mC mPb_whose) 59 = .ok (.getfield 40, 3) := by decide +kernel
theorem dPb_whose_62 : decode (mC mPb_whose) 62 = .ok (.aload_n 0, 1) := by decide +kernel
theorem dPb_whose_63 : decode (mC mPb_whose) 63 = .ok (.getfield 26, 3) := by decide +kernel
theorem dPb_whose_66 : decode (mC mPb_whose) 66 = .ok (.iload_n 1, 1) := by decide +kernel
theorem dPb_whose_67 : decode (mC mPb_whose) 67 = .ok (.iload_n 3, 1) := by decide +kernel
theorem dPb_whose_68 : decode (mC mPb_whose) 68 = .ok (.invokevirtual 284, 3) := by decide +kernel
theorem dPb_whose_71 : decode (mC mPb_whose) 71 = .ok (.invokevirtual 288, 3) := by decide +kernel
theorem dPb_whose_74 : decode (mC mPb_whose) 74 = .ok (.aload_n 0, 1) := by decide +kernel
theorem dPb_whose_75 : decode (mC mPb_whose) 75 = .ok (.getfield 40, 3) := by decide +kernel
theorem dPb_whose_78 : decode (mC mPb_whose) 78 = .ok (.iload_n 2, 1) := by decide +kernel
theorem dPb_whose_79 : decode (mC mPb_whose) 79 = .ok (.invokevirtual 291, 3) := by decide +kernel
theorem dPb_whose_82 : decode (mC mPb_whose) 82 = .ok (.istore 4, 2) := by decide +kernel
theorem dPb_whose_84 : decode (mC mPb_whose) 84 = .ok (.iload 4, 2) := by decide +kernel
theorem dPb_whose_86 : decode (mC mPb_whose) 86 = .ok (.iconst (-1), 1) := by decide +kernel
theorem dPb_whose_87 : decode (mC mPb_whose) 87 = .ok (.if_icmp .ne (12), 3) := by decide +kernel
theorem dPb_whose_90 : decode (mC mPb_whose) 90 = .ok (.aload_n 0, 1) := by decide +kernel
theorem dPb_whose_91 : decode (mC mPb_whose) 91 = .ok (.bipush (8), 2) := by decide +kernel
theorem dPb_whose_93 : decode (mC mPb_whose) 93 = .ok (.invokevirtual 104, 3) := by decide +kernel
theorem dPb_whose_96 : decode (mC mPb_whose) 96 = .ok (.goto (9), 3) := by decide +kernel
theorem dPb_whose_99 : decode (mC mPb_whose) 99 = .ok (.aload_n 0, 1) := by decide +kernel
theorem dPb_whose_100 : decode (mC mPb_whose) 100 = .ok (.iload 4, 2) := by decide +kernel
theorem dPb_whose_102 : decode (mC mPb_whose) 102 = .ok (.invokevirtual 157, 3) := by decide +kernel
theorem dPb_whose_105 : decode (mC mPb_whose) 105 = .ok (.ireturn, 1) := by decide +kernel
theorem bPb_whose_0 {E : mEn} {d : Nat} {σ : mSt} {Q : mPost} {a1 : Int32} {a2 : Int32} {a3 : Int32} {u4 : Value} : WP E (d + 1) mPb_whose 0 [.ref 0, .int a1, .int a2, .int a3, u4] [] σ Q = WP E d mTw_hasLoaf 0 [.ref 10, .int a1] [] σ (fun r σ' => WP E (d + 1) mPb_whose 8 [.ref 0, .int a1, .int a2, .int a3, u4] (r.toList ++ []) σ' Q) := (w_aload_n dPb_whose_0 rfl).trans ((w_getr (r := 10) dPb_whose_1 rz10_26 sh_0 rfl).trans ((w_iload_n dPb_whose_4 rfl).trans (w_virt (vs := [.int a1]) (st' := []) (es := [.ref 10, .int a1]) dPb_whose_5 rz10_218 rfl sh_10 rfl rfl rfl (Nat.le_of_ble_eq_true rfl) (Nat.le_of_ble_eq_true rfl) rfl)))
theorem bPb_whose_8 {E : mEn} {d : Nat} {σ : mSt} {Q : mPost} {a1 : Int32} {a2 : Int32} {a3 : Int32} {u4 : Value} {s0 : Int32} : WP E d mPb_whose 8 [.ref 0, .int a1, .int a2, .int a3, u4] [.int s0] σ Q = (if ¬ s0 = 0 then WP E d mPb_whose 17 [.ref 0, .int a1, .int a2, .int a3, u4] [] σ Q else WP E d mPb_whose 11 [.ref 0, .int a1, .int a2, .int a3, u4] [] σ Q) := w_ifne (t := 17) dPb_whose_8 (by decide)
theorem bPb_whose_11 {E : mEn} {d : Nat} {σ : mSt} {Q : mPost} {a1 : Int32} {a2 : Int32} {a3 : Int32} {u4 : Value} : WP E (d + 1) mPb_whose 11 [.ref 0, .int a1, .int a2, .int a3, u4] [] σ Q = WP E d mPb_refuse 0 [.ref 0, .int (nI 2)] [] σ (fun r σ' => WP E (d + 1) mPb_whose 16 [.ref 0, .int a1, .int a2, .int a3, u4] (r.toList ++ []) σ' Q) := (w_aload_n dPb_whose_11 rfl).trans ((w_iconst (v := (nI 2)) dPb_whose_12 rfl).trans (w_virt (vs := [.int (nI 2)]) (st' := []) (es := [.ref 0, .int (nI 2)]) dPb_whose_13 rz10_104 rfl sh_0 rfl rfl rfl (Nat.le_of_ble_eq_true rfl) (Nat.le_of_ble_eq_true rfl) rfl))
theorem bPb_whose_16 {E : mEn} {d : Nat} {σ : mSt} {Q : mPost} {a1 : Int32} {a2 : Int32} {a3 : Int32} {u4 : Value} {s0 : Int32} : WP E d mPb_whose 16 [.ref 0, .int a1, .int a2, .int a3, u4] [.int s0] σ Q = Q (some (.int s0)) σ := w_iret dPb_whose_16 rfl
theorem bPb_whose_17 {E : mEn} {d : Nat} {σ : mSt} {Q : mPost} {a1 : Int32} {a2 : Int32} {a3 : Int32} {u4 : Value} : WP E (d + 1) mPb_whose 17 [.ref 0, .int a1, .int a2, .int a3, u4] [] σ Q = WP E d mTw_isPaper 0 [.ref 10, .int a1] [] σ (fun r σ' => WP E (d + 1) mPb_whose 25 [.ref 0, .int a1, .int a2, .int a3, u4] (r.toList ++ []) σ' Q) := (w_aload_n dPb_whose_17 rfl).trans ((w_getr (r := 10) dPb_whose_18 rz10_26 sh_0 rfl).trans ((w_iload_n dPb_whose_21 rfl).trans (w_virt (vs := [.int a1]) (st' := []) (es := [.ref 10, .int a1]) dPb_whose_22 rz10_224 rfl sh_10 rfl rfl rfl (Nat.le_of_ble_eq_true rfl) (Nat.le_of_ble_eq_true rfl) rfl)))
theorem bPb_whose_25 {E : mEn} {d : Nat} {σ : mSt} {Q : mPost} {a1 : Int32} {a2 : Int32} {a3 : Int32} {u4 : Value} {s0 : Int32} : WP E d mPb_whose 25 [.ref 0, .int a1, .int a2, .int a3, u4] [.int s0] σ Q = (if ¬ s0 = 0 then WP E d mPb_whose 39 [.ref 0, .int a1, .int a2, .int a3, u4] [] σ Q else WP E d mPb_whose 28 [.ref 0, .int a1, .int a2, .int a3, u4] [] σ Q) := w_ifne (t := 39) dPb_whose_25 (by decide)
theorem bPb_whose_28 {E : mEn} {d : Nat} {σ : mSt} {Q : mPost} {a1 : Int32} {a2 : Int32} {a3 : Int32} {u4 : Value} : WP E (d + 1) mPb_whose 28 [.ref 0, .int a1, .int a2, .int a3, u4] [] σ Q = WP E d mTw_isBaked 0 [.ref 10, .int a1] [] σ (fun r σ' => WP E (d + 1) mPb_whose 36 [.ref 0, .int a1, .int a2, .int a3, u4] (r.toList ++ []) σ' Q) := (w_aload_n dPb_whose_28 rfl).trans ((w_getr (r := 10) dPb_whose_29 rz10_26 sh_0 rfl).trans ((w_iload_n dPb_whose_32 rfl).trans (w_virt (vs := [.int a1]) (st' := []) (es := [.ref 10, .int a1]) dPb_whose_33 rz10_239 rfl sh_10 rfl rfl rfl (Nat.le_of_ble_eq_true rfl) (Nat.le_of_ble_eq_true rfl) rfl)))
theorem bPb_whose_36 {E : mEn} {d : Nat} {σ : mSt} {Q : mPost} {a1 : Int32} {a2 : Int32} {a3 : Int32} {u4 : Value} {s0 : Int32} : WP E d mPb_whose 36 [.ref 0, .int a1, .int a2, .int a3, u4] [.int s0] σ Q = (if s0 = 0 then WP E d mPb_whose 46 [.ref 0, .int a1, .int a2, .int a3, u4] [] σ Q else WP E d mPb_whose 39 [.ref 0, .int a1, .int a2, .int a3, u4] [] σ Q) := w_ifeq (t := 46) dPb_whose_36 (by decide)
theorem bPb_whose_39 {E : mEn} {d : Nat} {σ : mSt} {Q : mPost} {a1 : Int32} {a2 : Int32} {a3 : Int32} {u4 : Value} : WP E (d + 1) mPb_whose 39 [.ref 0, .int a1, .int a2, .int a3, u4] [] σ Q = WP E d mPb_refuse 0 [.ref 0, .int (nI 9)] [] σ (fun r σ' => WP E (d + 1) mPb_whose 45 [.ref 0, .int a1, .int a2, .int a3, u4] (r.toList ++ []) σ' Q) := (w_aload_n dPb_whose_39 rfl).trans ((w_bipush (v := (nI 9)) dPb_whose_40 rfl).trans (w_virt (vs := [.int (nI 9)]) (st' := []) (es := [.ref 0, .int (nI 9)]) dPb_whose_42 rz10_104 rfl sh_0 rfl rfl rfl (Nat.le_of_ble_eq_true rfl) (Nat.le_of_ble_eq_true rfl) rfl))
theorem bPb_whose_45 {E : mEn} {d : Nat} {σ : mSt} {Q : mPost} {a1 : Int32} {a2 : Int32} {a3 : Int32} {u4 : Value} {s0 : Int32} : WP E d mPb_whose 45 [.ref 0, .int a1, .int a2, .int a3, u4] [.int s0] σ Q = Q (some (.int s0)) σ := w_iret dPb_whose_45 rfl
theorem bPb_whose_46 {E : mEn} {d : Nat} {σ : mSt} {Q : mPost} {a1 : Int32} {a2 : Int32} {a3 : Int32} {u4 : Value} : WP E (d + 1) mPb_whose 46 [.ref 0, .int a1, .int a2, .int a3, u4] [] σ Q = WP E d mSh_weigh 0 [.ref 61, .ref 10, .int a1, uu, uu] [] σ (fun r σ' => WP E (d + 1) mPb_whose 58 [.ref 0, .int a1, .int a2, .int a3, u4] (r.toList ++ []) σ' Q) := (w_aload_n dPb_whose_46 rfl).trans ((w_getr (r := 61) dPb_whose_47 rz10_40 sh_0 rfl).trans ((w_aload_n dPb_whose_50 rfl).trans ((w_getr (r := 10) dPb_whose_51 rz10_26 sh_0 rfl).trans ((w_iload_n dPb_whose_54 rfl).trans (w_virt (vs := [.ref 10, .int a1]) (st' := []) (es := [.ref 61, .ref 10, .int a1, uu, uu]) dPb_whose_55 rz10_265 rfl sh_61 rfl rfl rfl (Nat.le_of_ble_eq_true rfl) (Nat.le_of_ble_eq_true rfl) rfl)))))
theorem bPb_whose_58 {E : mEn} {d : Nat} {σ : mSt} {Q : mPost} {a1 : Int32} {a2 : Int32} {a3 : Int32} {u4 : Value} : WP E (d + 1) mPb_whose 58 [.ref 0, .int a1, .int a2, .int a3, u4] [] σ Q = WP E d mTw_comesOf 0 [.ref 10, .int a1, .int a3] [] σ (fun r σ' => WP E (d + 1) mPb_whose 71 [.ref 0, .int a1, .int a2, .int a3, u4] (r.toList ++ [.ref 61]) σ' Q) := (w_aload_n dPb_whose_58 rfl).trans ((w_getr (r := 61) dPb_whose_59 rz10_40 sh_0 rfl).trans ((w_aload_n dPb_whose_62 rfl).trans ((w_getr (r := 10) dPb_whose_63 rz10_26 sh_0 rfl).trans ((w_iload_n dPb_whose_66 rfl).trans ((w_iload_n dPb_whose_67 rfl).trans (w_virt (vs := [.int a1, .int a3]) (st' := [.ref 61]) (es := [.ref 10, .int a1, .int a3]) dPb_whose_68 rz10_284 rfl sh_10 rfl rfl rfl (Nat.le_of_ble_eq_true rfl) (Nat.le_of_ble_eq_true rfl) rfl))))))
theorem bPb_whose_71 {E : mEn} {d : Nat} {σ : mSt} {Q : mPost} {a1 : Int32} {a2 : Int32} {a3 : Int32} {u4 : Value} {s0 : Int32} : WP E (d + 1) mPb_whose 71 [.ref 0, .int a1, .int a2, .int a3, u4] [.int s0, .ref 61] σ Q = WP E d mSh_deal 0 [.ref 61, .int s0, uu, uu, uu] [] σ (fun r σ' => WP E (d + 1) mPb_whose 74 [.ref 0, .int a1, .int a2, .int a3, u4] (r.toList ++ []) σ' Q) := w_virt (vs := [.int s0]) (st' := []) (es := [.ref 61, .int s0, uu, uu, uu]) dPb_whose_71 rz10_288 rfl sh_61 rfl rfl rfl (Nat.le_of_ble_eq_true rfl) (Nat.le_of_ble_eq_true rfl) rfl
theorem bPb_whose_74 {E : mEn} {d : Nat} {σ : mSt} {Q : mPost} {a1 : Int32} {a2 : Int32} {a3 : Int32} {u4 : Value} : WP E (d + 1) mPb_whose 74 [.ref 0, .int a1, .int a2, .int a3, u4] [] σ Q = WP E d mSh_ownerOf 0 [.ref 61, .int a2, uu, uu] [] σ (fun r σ' => WP E (d + 1) mPb_whose 82 [.ref 0, .int a1, .int a2, .int a3, u4] (r.toList ++ []) σ' Q) := (w_aload_n dPb_whose_74 rfl).trans ((w_getr (r := 61) dPb_whose_75 rz10_40 sh_0 rfl).trans ((w_iload_n dPb_whose_78 rfl).trans (w_virt (vs := [.int a2]) (st' := []) (es := [.ref 61, .int a2, uu, uu]) dPb_whose_79 rz10_291 rfl sh_61 rfl rfl rfl (Nat.le_of_ble_eq_true rfl) (Nat.le_of_ble_eq_true rfl) rfl)))
theorem bPb_whose_82 {E : mEn} {d : Nat} {σ : mSt} {Q : mPost} {a1 : Int32} {a2 : Int32} {a3 : Int32} {u4 : Value} {s0 : Int32} : WP E d mPb_whose 82 [.ref 0, .int a1, .int a2, .int a3, u4] [.int s0] σ Q = (if ¬ s0 = (-1) then WP E d mPb_whose 99 [.ref 0, .int a1, .int a2, .int a3, .int s0] [] σ Q else WP E d mPb_whose 90 [.ref 0, .int a1, .int a2, .int a3, .int s0] [] σ Q) := (w_istore (ls' := [.ref 0, .int a1, .int a2, .int a3, .int s0]) dPb_whose_82 (Nat.le_of_ble_eq_true rfl) rfl).trans ((w_iload dPb_whose_84 rfl).trans ((w_iconst (v := (-1)) dPb_whose_86 rfl).trans (w_icmpne (t := 99) dPb_whose_87 (by decide))))
theorem bPb_whose_90 {E : mEn} {d : Nat} {σ : mSt} {Q : mPost} {a1 : Int32} {a2 : Int32} {a3 : Int32} {a4 : Int32} : WP E (d + 1) mPb_whose 90 [.ref 0, .int a1, .int a2, .int a3, .int a4] [] σ Q = WP E d mPb_refuse 0 [.ref 0, .int (nI 8)] [] σ (fun r σ' => WP E (d + 1) mPb_whose 96 [.ref 0, .int a1, .int a2, .int a3, .int a4] (r.toList ++ []) σ' Q) := (w_aload_n dPb_whose_90 rfl).trans ((w_bipush (v := (nI 8)) dPb_whose_91 rfl).trans (w_virt (vs := [.int (nI 8)]) (st' := []) (es := [.ref 0, .int (nI 8)]) dPb_whose_93 rz10_104 rfl sh_0 rfl rfl rfl (Nat.le_of_ble_eq_true rfl) (Nat.le_of_ble_eq_true rfl) rfl))
theorem bPb_whose_96 {E : mEn} {d : Nat} {σ : mSt} {Q : mPost} {a1 : Int32} {a2 : Int32} {a3 : Int32} {a4 : Int32} {s0 : Int32} : WP E d mPb_whose 96 [.ref 0, .int a1, .int a2, .int a3, .int a4] [.int s0] σ Q = WP E d mPb_whose 105 [.ref 0, .int a1, .int a2, .int a3, .int a4] [.int s0] σ Q := w_goto (t := 105) dPb_whose_96 (by decide)
theorem bPb_whose_99 {E : mEn} {d : Nat} {σ : mSt} {Q : mPost} {a1 : Int32} {a2 : Int32} {a3 : Int32} {a4 : Int32} : WP E (d + 1) mPb_whose 99 [.ref 0, .int a1, .int a2, .int a3, .int a4] [] σ Q = WP E d mPb_answer 0 [.ref 0, .int a4] [] σ (fun r σ' => WP E (d + 1) mPb_whose 105 [.ref 0, .int a1, .int a2, .int a3, .int a4] (r.toList ++ []) σ' Q) := (w_aload_n dPb_whose_99 rfl).trans ((w_iload dPb_whose_100 rfl).trans (w_virt (vs := [.int a4]) (st' := []) (es := [.ref 0, .int a4]) dPb_whose_102 rz10_157 rfl sh_0 rfl rfl rfl (Nat.le_of_ble_eq_true rfl) (Nat.le_of_ble_eq_true rfl) rfl))
theorem bPb_whose_105 {E : mEn} {d : Nat} {σ : mSt} {Q : mPost} {a1 : Int32} {a2 : Int32} {a3 : Int32} {a4 : Int32} {s0 : Int32} : WP E d mPb_whose 105 [.ref 0, .int a1, .int a2, .int a3, .int a4] [.int s0] σ Q = Q (some (.int s0)) σ := w_iret dPb_whose_105 rfl
theorem dPb_depth_0 : decode (mC mPb_depth) 0 = .ok (.aload_n 0, 1) := by decide +kernel
theorem dPb_depth_1 : decode (mC mPb_depth) 1 = .ok (.getfield 26, 3) := by decide +kernel
theorem dPb_depth_4 : decode (mC mPb_depth) 4 = .ok (.getfield 187, 3) := by decide +kernel
theorem dPb_depth_7 : decode (mC mPb_depth) 7 = .ok (.astore_n 2, 1) := by decide +kernel
theorem dPb_depth_8 : decode (mC mPb_depth) 8 = .ok (.aload_n 2, 1) := by decide +kernel
theorem dPb_depth_9 : decode (mC mPb_depth) 9 = .ok (.iload_n 1, 1) := by decide +kernel
theorem dPb_depth_10 : decode (mC mPb_depth) 10 = .ok (.invokevirtual 245, 3) := by decide +kernel
theorem dPb_depth_13 : decode (mC mPb_depth) 13 = .ok (.ifCond .ne (9), 3) := by decide +kernel
theorem dPb_depth_16 : decode (mC mPb_depth) 16 = .ok (.aload_n 0, 1) := by decide +kernel
theorem dPb_depth_17 : decode (mC mPb_depth) 17 = .ok (.iconst (2), 1) := by decide +kernel
theorem dPb_depth_18 : decode (mC mPb_depth) 18 = .ok (.invokevirtual 104, 3) := by decide +kernel
theorem dPb_depth_21 : decode (mC mPb_depth) 21 = .ok (.ireturn, 1) := by decide +kernel
theorem dPb_depth_22 : decode (mC mPb_depth) 22 = .ok (.aload_n 2, 1) := by decide +kernel
theorem dPb_depth_23 : decode (mC mPb_depth) 23 = .ok (.getfield 249, 3) := by decide +kernel
theorem dPb_depth_26 : decode (mC mPb_depth) 26 = .ok (.iload_n 1, 1) := by decide +kernel
theorem dPb_depth_27 : decode (mC mPb_depth) 27 = .ok (.iaload, 1) := by decide +kernel
theorem dPb_depth_28 : decode (mC mPb_depth) 28 = .ok (.istore_n 3, 1) := by decide +kernel
theorem dPb_depth_29 : decode (mC mPb_depth) 29 = .ok (.aload_n 2, 1) := by decide +kernel
theorem dPb_depth_30 : decode (mC mPb_depth) 30 = .ok (.iload_n 3, 1) := by decide +kernel
theorem dPb_depth_31 : decode (mC mPb_depth) 31 = .ok (.aload_n 0, 1) := by decide +kernel
theorem dPb_depth_32 : decode (mC mPb_depth) 32 = .ok (.getfield 26, 3) := by decide +kernel
theorem dPb_depth_35 : decode (mC mPb_depth) 35 = .ok (.iload_n 3, 1) := by decide +kernel
theorem dPb_depth_36 : decode (mC mPb_depth) 36 = .ok (.invokevirtual 294, 3) := by decide +kernel
theorem dPb_depth_39 : decode (mC mPb_depth) 39 = .ok (.invokevirtual 272, 3) := by decide +kernel
theorem dPb_depth_42 : decode (mC mPb_depth) 42 = .ok (.pop, 1) := by decide +kernel
theorem dPb_depth_43 : decode (mC mPb_depth) 43 = .ok (.aload_n 0, 1) := by decide +kernel
theorem dPb_depth_44 : decode (mC mPb_depth) 44 = .ok (.aload_n 2, 1) := by decide +kernel
theorem dPb_depth_45 : decode (mC mPb_depth) 45 = .ok (.getfield 261, 3) := by decide +kernel
theorem dPb_depth_48 : decode (mC mPb_depth) 48 = .ok (.iload_n 1, 1) := by decide +kernel
theorem dPb_depth_49 : decode (mC mPb_depth) 49 = .ok (.baload, 1) := by decide +kernel
theorem dPb_depth_50 : decode (mC mPb_depth) 50 = .ok (.ifCond .eq (7), 3) := by decide +kernel
theorem dPb_depth_53 : decode (mC mPb_depth) 53 = .ok (.iconst (0), 1) := by decide +kernel
theorem dPb_depth_54 : decode (mC mPb_depth) 54 = .ok (.goto (9), 3) := by decide +kernel
theorem dPb_depth_57 : decode (mC mPb_depth) 57 = .ok (.aload_n 2, 1) := by decide +kernel
theorem dPb_depth_58 : decode (mC mPb_depth) 58 = .ok (.getfield 297, 3) := by decide +kernel
theorem dPb_depth_61 : decode (mC mPb_depth) 61 = .ok (.iload_n 1, 1) := by decide +kernel
theorem dPb_depth_62 : decode (mC mPb_depth) 62 = .ok (.iaload, 1) := by decide +kernel
theorem dPb_depth_63 : decode (mC mPb_depth) 63 = .ok (.invokevirtual 157, 3) := by decide +kernel
theorem dPb_depth_66 : decode (mC mPb_depth) 66 = .ok (.ireturn, 1) := by decide +kernel
theorem bPb_depth_0 {E : mEn} {d : Nat} {σ : mSt} {Q : mPost} {a1 : Int32} {u2 : Value} {u3 : Value} : WP E (d + 1) mPb_depth 0 [.ref 0, .int a1, u2, u3] [] σ Q = WP E d mPr_has 0 [.ref 13, .int a1] [] σ (fun r σ' => WP E (d + 1) mPb_depth 13 [.ref 0, .int a1, .ref 13, u3] (r.toList ++ []) σ' Q) := (w_aload_n dPb_depth_0 rfl).trans ((w_getr (r := 10) dPb_depth_1 rz10_26 sh_0 rfl).trans ((w_getr (r := 13) dPb_depth_4 rz10_187 sh_10 rfl).trans ((w_astore_n (ls' := [.ref 0, .int a1, .ref 13, u3]) dPb_depth_7 (Nat.le_of_ble_eq_true rfl) rfl).trans ((w_aload_n dPb_depth_8 rfl).trans ((w_iload_n dPb_depth_9 rfl).trans (w_virt (vs := [.int a1]) (st' := []) (es := [.ref 13, .int a1]) dPb_depth_10 rz10_245 rfl sh_13 rfl rfl rfl (Nat.le_of_ble_eq_true rfl) (Nat.le_of_ble_eq_true rfl) rfl))))))
theorem bPb_depth_13 {E : mEn} {d : Nat} {σ : mSt} {Q : mPost} {a1 : Int32} {u3 : Value} {s0 : Int32} : WP E d mPb_depth 13 [.ref 0, .int a1, .ref 13, u3] [.int s0] σ Q = (if ¬ s0 = 0 then WP E d mPb_depth 22 [.ref 0, .int a1, .ref 13, u3] [] σ Q else WP E d mPb_depth 16 [.ref 0, .int a1, .ref 13, u3] [] σ Q) := w_ifne (t := 22) dPb_depth_13 (by decide)
theorem bPb_depth_16 {E : mEn} {d : Nat} {σ : mSt} {Q : mPost} {a1 : Int32} {u3 : Value} : WP E (d + 1) mPb_depth 16 [.ref 0, .int a1, .ref 13, u3] [] σ Q = WP E d mPb_refuse 0 [.ref 0, .int (nI 2)] [] σ (fun r σ' => WP E (d + 1) mPb_depth 21 [.ref 0, .int a1, .ref 13, u3] (r.toList ++ []) σ' Q) := (w_aload_n dPb_depth_16 rfl).trans ((w_iconst (v := (nI 2)) dPb_depth_17 rfl).trans (w_virt (vs := [.int (nI 2)]) (st' := []) (es := [.ref 0, .int (nI 2)]) dPb_depth_18 rz10_104 rfl sh_0 rfl rfl rfl (Nat.le_of_ble_eq_true rfl) (Nat.le_of_ble_eq_true rfl) rfl))
theorem bPb_depth_21 {E : mEn} {d : Nat} {σ : mSt} {Q : mPost} {a1 : Int32} {u3 : Value} {s0 : Int32} : WP E d mPb_depth 21 [.ref 0, .int a1, .ref 13, u3] [.int s0] σ Q = Q (some (.int s0)) σ := w_iret dPb_depth_21 rfl
theorem bPb_depth_22 {E : mEn} {d : Nat} {σ : mSt} {Q : mPost} {a1 : Int32} {u3 : Value} : WP E (d + 1) mPb_depth 22 [.ref 0, .int a1, .ref 13, u3] [] σ Q = (if mOut a1 40 = true then False else WP E d mTw_bakerOf 0 [.ref 10, .int (σ.1 15 a1.toNatClampNeg)] [] σ (fun r σ' => WP E (d + 1) mPb_depth 39 [.ref 0, .int a1, .ref 13, .int (σ.1 15 a1.toNatClampNeg)] (r.toList ++ [.int (σ.1 15 a1.toNatClampNeg), .ref 13]) σ' Q)) := (w_aload_n dPb_depth_22 rfl).trans ((w_getr (r := 15) dPb_depth_23 rz10_249 sh_13 rfl).trans ((w_iload_n dPb_depth_26 rfl).trans ((w_iald dPb_depth_27 sh_15 (by decide)).trans (ite_c ((w_istore_n (ls' := [.ref 0, .int a1, .ref 13, .int (σ.1 15 a1.toNatClampNeg)]) dPb_depth_28 (Nat.le_of_ble_eq_true rfl) rfl).trans ((w_aload_n dPb_depth_29 rfl).trans ((w_iload_n dPb_depth_30 rfl).trans ((w_aload_n dPb_depth_31 rfl).trans ((w_getr (r := 10) dPb_depth_32 rz10_26 sh_0 rfl).trans ((w_iload_n dPb_depth_35 rfl).trans (w_virt (vs := [.int (σ.1 15 a1.toNatClampNeg)]) (st' := [.int (σ.1 15 a1.toNatClampNeg), .ref 13]) (es := [.ref 10, .int (σ.1 15 a1.toNatClampNeg)]) dPb_depth_36 rz10_294 rfl sh_10 rfl rfl rfl (Nat.le_of_ble_eq_true rfl) (Nat.le_of_ble_eq_true rfl) rfl)))))))))))
theorem bPb_depth_39 {E : mEn} {d : Nat} {σ : mSt} {Q : mPost} {a1 : Int32} {a3 : Int32} {s0 : Int32} {s1 : Int32} : WP E (d + 1) mPb_depth 39 [.ref 0, .int a1, .ref 13, .int a3] [.int s0, .int s1, .ref 13] σ Q = WP E d mPr_deepest 0 [.ref 13, .int s1, .int s0, uu, uu, uu, uu] [] σ (fun r σ' => WP E (d + 1) mPb_depth 42 [.ref 0, .int a1, .ref 13, .int a3] (r.toList ++ []) σ' Q) := w_virt (vs := [.int s1, .int s0]) (st' := []) (es := [.ref 13, .int s1, .int s0, uu, uu, uu, uu]) dPb_depth_39 rz10_272 rfl sh_13 rfl rfl rfl (Nat.le_of_ble_eq_true rfl) (Nat.le_of_ble_eq_true rfl) rfl
theorem bPb_depth_42 {E : mEn} {d : Nat} {σ : mSt} {Q : mPost} {a1 : Int32} {a3 : Int32} {s0 : Int32} : WP E d mPb_depth 42 [.ref 0, .int a1, .ref 13, .int a3] [.int s0] σ Q = (if mOut a1 40 = true then False else (if (σ.1 19 a1.toNatClampNeg) = 0 then WP E d mPb_depth 57 [.ref 0, .int a1, .ref 13, .int a3] [.ref 0] σ Q else WP E d mPb_depth 53 [.ref 0, .int a1, .ref 13, .int a3] [.ref 0] σ Q)) := (w_pop dPb_depth_42 rfl).trans ((w_aload_n dPb_depth_43 rfl).trans ((w_aload_n dPb_depth_44 rfl).trans ((w_getr (r := 19) dPb_depth_45 rz10_261 sh_13 rfl).trans ((w_iload_n dPb_depth_48 rfl).trans ((w_zald dPb_depth_49 sh_19).trans (ite_c (w_ifeq (t := 57) dPb_depth_50 (by decide))))))))
theorem bPb_depth_53 {E : mEn} {d : Nat} {σ : mSt} {Q : mPost} {a1 : Int32} {a3 : Int32} : WP E d mPb_depth 53 [.ref 0, .int a1, .ref 13, .int a3] [.ref 0] σ Q = WP E d mPb_depth 63 [.ref 0, .int a1, .ref 13, .int a3] [.int 0, .ref 0] σ Q := (w_iconst (v := 0) dPb_depth_53 rfl).trans (w_goto (t := 63) dPb_depth_54 (by decide))
theorem bPb_depth_57 {E : mEn} {d : Nat} {σ : mSt} {Q : mPost} {a1 : Int32} {a3 : Int32} : WP E d mPb_depth 57 [.ref 0, .int a1, .ref 13, .int a3] [.ref 0] σ Q = (if mOut a1 40 = true then False else WP E d mPb_depth 63 [.ref 0, .int a1, .ref 13, .int a3] [.int (σ.1 20 a1.toNatClampNeg), .ref 0] σ Q) := (w_aload_n dPb_depth_57 rfl).trans ((w_getr (r := 20) dPb_depth_58 rz10_297 sh_13 rfl).trans ((w_iload_n dPb_depth_61 rfl).trans ((w_iald dPb_depth_62 sh_20 (by decide)).trans (ite_c (rfl)))))
theorem bPb_depth_63 {E : mEn} {d : Nat} {σ : mSt} {Q : mPost} {a1 : Int32} {a3 : Int32} {s0 : Int32} : WP E (d + 1) mPb_depth 63 [.ref 0, .int a1, .ref 13, .int a3] [.int s0, .ref 0] σ Q = WP E d mPb_answer 0 [.ref 0, .int s0] [] σ (fun r σ' => WP E (d + 1) mPb_depth 66 [.ref 0, .int a1, .ref 13, .int a3] (r.toList ++ []) σ' Q) := w_virt (vs := [.int s0]) (st' := []) (es := [.ref 0, .int s0]) dPb_depth_63 rz10_157 rfl sh_0 rfl rfl rfl (Nat.le_of_ble_eq_true rfl) (Nat.le_of_ble_eq_true rfl) rfl
theorem bPb_depth_66 {E : mEn} {d : Nat} {σ : mSt} {Q : mPost} {a1 : Int32} {a3 : Int32} {s0 : Int32} : WP E d mPb_depth 66 [.ref 0, .int a1, .ref 13, .int a3] [.int s0] σ Q = Q (some (.int s0)) σ := w_iret dPb_depth_66 rfl
theorem dPb_between_0 : decode (mC mPb_between) 0 = .ok (.aload_n 0, 1) := by decide +kernel
theorem dPb_between_1 : decode (mC mPb_between) 1 = .ok (.getfield 26, 3) := by decide +kernel
theorem dPb_between_4 : decode (mC mPb_between) 4 = .ok (.iload_n 1, 1) := by decide +kernel
theorem dPb_between_5 : decode (mC mPb_between) 5 = .ok (.invokevirtual 205, 3) := by decide +kernel
theorem dPb_between_8 : decode (mC mPb_between) 8 = .ok (.ifCond .eq (14), 3) := by decide +kernel
theorem dPb_between_11 : decode (mC mPb_between) 11 = .ok (.aload_n 0, 1) := by decide +kernel
theorem dPb_between_12 : decode (mC mPb_between) 12 = .ok (.getfield 26, 3) := by decide +kernel
theorem dPb_between_15 : decode (mC mPb_between) 15 = .ok (.iload_n 2, 1) := by decide +kernel
theorem dPb_between_16 : decode (mC mPb_between) 16 = .ok (.invokevirtual 205, 3) := by decide +kernel
theorem dPb_between_19 : decode (mC mPb_between) 19 = .ok (.ifCond .ne (9), 3) := by decide +kernel
theorem dPb_between_22 : decode (mC mPb_between) 22 = .ok (.aload_n 0, 1) := by decide +kernel
theorem dPb_between_23 : decode (mC mPb_between) 23 = .ok (.iconst (2), 1) := by decide +kernel
theorem dPb_between_24 : decode (mC mPb_between) 24 = .ok (.invokevirtual 104, 3) := by decide +kernel
theorem dPb_between_27 : decode (mC mPb_between) 27 = .ok (.ireturn, 1) := by decide +kernel
theorem dPb_between_28 : decode (mC mPb_between) 28 = .ok (.iload_n 1, 1) := by decide +kernel
theorem dPb_between_29 : decode (mC mPb_between) 29 = .ok (.iload_n 2, 1) := by decide +kernel
theorem dPb_between_30 : decode (mC mPb_between) 30 = .ok (.if_icmp .ne (9), 3) := by decide +kernel
theorem dPb_between_33 : decode (mC mPb_between) 33 = .ok (.aload_n 0, 1) := by decide +kernel
theorem dPb_between_34 : decode (mC mPb_between) 34 = .ok (.iconst (5), 1) := by decide +kernel
theorem dPb_between_35 : decode (mC mPb_between) 35 = .ok (.invokevirtual 104, 3) := by decide +kernel
theorem dPb_between_38 : decode (mC mPb_between) 38 = .ok (.ireturn, 1) := by decide +kernel
theorem dPb_between_39 : decode (mC mPb_between) 39 = .ok (.aload_n 0, 1) := by decide +kernel
theorem dPb_between_40 : decode (mC mPb_between) 40 = .ok (.aload_n 0, 1) := by decide +kernel
theorem dPb_between_41 : decode (mC mPb_between) 41 = .ok (.getfield 26, 3) := by decide +kernel
theorem dPb_between_44 : decode (mC mPb_between) 44 = .ok (.getfield 187, 3) := by decide +kernel
theorem dPb_between_47 : decode (mC mPb_between) 47 = .ok (.iload_n 1, 1) := by decide +kernel
theorem dPb_between_48 : decode (mC mPb_between) 48 = .ok (.iload_n 2, 1) := by decide +kernel
theorem dPb_between_49 : decode (mC mPb_between) 49 = .ok (.invokevirtual 300, 3) := by decide +kernel
theorem dPb_between_52 : decode (mC mPb_between) 52 = .ok (.aload_n 0, 1) := by decide +kernel
theorem dPb_between_53 : decode (mC mPb_between) 53 = .ok (.getfield 26, 3) := by decide +kernel
theorem dPb_between_56 : decode (mC mPb_between) 56 = .ok (.getfield 187, 3) := by decide +kernel
theorem dPb_between_59 : decode (mC mPb_between) 59 = .ok (.iload_n 2, 1) := by decide +kernel
theorem dPb_between_60 : decode (mC mPb_between) 60 = .ok (.iload_n 1, 1) := by decide +kernel
theorem dPb_between_61 : decode (mC mPb_between) 61 = .ok (.invokevirtual 300, 3) := by decide +kernel
theorem dPb_between_64 : decode (mC mPb_between) 64 = .ok (.isub, 1) := by decide +kernel
theorem dPb_between_65 : decode (mC mPb_between) 65 = .ok (.invokevirtual 157, 3) := by decide +kernel
theorem dPb_between_68 : decode (mC mPb_between) 68 = .ok (.ireturn, 1) := by decide +kernel
theorem bPb_between_0 {E : mEn} {d : Nat} {σ : mSt} {Q : mPost} {a1 : Int32} {a2 : Int32} : WP E (d + 1) mPb_between 0 [.ref 0, .int a1, .int a2] [] σ Q = WP E d mTw_hasPerson 0 [.ref 10, .int a1] [] σ (fun r σ' => WP E (d + 1) mPb_between 8 [.ref 0, .int a1, .int a2] (r.toList ++ []) σ' Q) := (w_aload_n dPb_between_0 rfl).trans ((w_getr (r := 10) dPb_between_1 rz10_26 sh_0 rfl).trans ((w_iload_n dPb_between_4 rfl).trans (w_virt (vs := [.int a1]) (st' := []) (es := [.ref 10, .int a1]) dPb_between_5 rz10_205 rfl sh_10 rfl rfl rfl (Nat.le_of_ble_eq_true rfl) (Nat.le_of_ble_eq_true rfl) rfl)))
theorem bPb_between_8 {E : mEn} {d : Nat} {σ : mSt} {Q : mPost} {a1 : Int32} {a2 : Int32} {s0 : Int32} : WP E d mPb_between 8 [.ref 0, .int a1, .int a2] [.int s0] σ Q = (if s0 = 0 then WP E d mPb_between 22 [.ref 0, .int a1, .int a2] [] σ Q else WP E d mPb_between 11 [.ref 0, .int a1, .int a2] [] σ Q) := w_ifeq (t := 22) dPb_between_8 (by decide)
theorem bPb_between_11 {E : mEn} {d : Nat} {σ : mSt} {Q : mPost} {a1 : Int32} {a2 : Int32} : WP E (d + 1) mPb_between 11 [.ref 0, .int a1, .int a2] [] σ Q = WP E d mTw_hasPerson 0 [.ref 10, .int a2] [] σ (fun r σ' => WP E (d + 1) mPb_between 19 [.ref 0, .int a1, .int a2] (r.toList ++ []) σ' Q) := (w_aload_n dPb_between_11 rfl).trans ((w_getr (r := 10) dPb_between_12 rz10_26 sh_0 rfl).trans ((w_iload_n dPb_between_15 rfl).trans (w_virt (vs := [.int a2]) (st' := []) (es := [.ref 10, .int a2]) dPb_between_16 rz10_205 rfl sh_10 rfl rfl rfl (Nat.le_of_ble_eq_true rfl) (Nat.le_of_ble_eq_true rfl) rfl)))
theorem bPb_between_19 {E : mEn} {d : Nat} {σ : mSt} {Q : mPost} {a1 : Int32} {a2 : Int32} {s0 : Int32} : WP E d mPb_between 19 [.ref 0, .int a1, .int a2] [.int s0] σ Q = (if ¬ s0 = 0 then WP E d mPb_between 28 [.ref 0, .int a1, .int a2] [] σ Q else WP E d mPb_between 22 [.ref 0, .int a1, .int a2] [] σ Q) := w_ifne (t := 28) dPb_between_19 (by decide)
theorem bPb_between_22 {E : mEn} {d : Nat} {σ : mSt} {Q : mPost} {a1 : Int32} {a2 : Int32} : WP E (d + 1) mPb_between 22 [.ref 0, .int a1, .int a2] [] σ Q = WP E d mPb_refuse 0 [.ref 0, .int (nI 2)] [] σ (fun r σ' => WP E (d + 1) mPb_between 27 [.ref 0, .int a1, .int a2] (r.toList ++ []) σ' Q) := (w_aload_n dPb_between_22 rfl).trans ((w_iconst (v := (nI 2)) dPb_between_23 rfl).trans (w_virt (vs := [.int (nI 2)]) (st' := []) (es := [.ref 0, .int (nI 2)]) dPb_between_24 rz10_104 rfl sh_0 rfl rfl rfl (Nat.le_of_ble_eq_true rfl) (Nat.le_of_ble_eq_true rfl) rfl))
theorem bPb_between_27 {E : mEn} {d : Nat} {σ : mSt} {Q : mPost} {a1 : Int32} {a2 : Int32} {s0 : Int32} : WP E d mPb_between 27 [.ref 0, .int a1, .int a2] [.int s0] σ Q = Q (some (.int s0)) σ := w_iret dPb_between_27 rfl
theorem bPb_between_28 {E : mEn} {d : Nat} {σ : mSt} {Q : mPost} {a1 : Int32} {a2 : Int32} : WP E d mPb_between 28 [.ref 0, .int a1, .int a2] [] σ Q = (if ¬ a1 = a2 then WP E d mPb_between 39 [.ref 0, .int a1, .int a2] [] σ Q else WP E d mPb_between 33 [.ref 0, .int a1, .int a2] [] σ Q) := (w_iload_n dPb_between_28 rfl).trans ((w_iload_n dPb_between_29 rfl).trans (w_icmpne (t := 39) dPb_between_30 (by decide)))
theorem bPb_between_33 {E : mEn} {d : Nat} {σ : mSt} {Q : mPost} {a1 : Int32} {a2 : Int32} : WP E (d + 1) mPb_between 33 [.ref 0, .int a1, .int a2] [] σ Q = WP E d mPb_refuse 0 [.ref 0, .int (nI 5)] [] σ (fun r σ' => WP E (d + 1) mPb_between 38 [.ref 0, .int a1, .int a2] (r.toList ++ []) σ' Q) := (w_aload_n dPb_between_33 rfl).trans ((w_iconst (v := (nI 5)) dPb_between_34 rfl).trans (w_virt (vs := [.int (nI 5)]) (st' := []) (es := [.ref 0, .int (nI 5)]) dPb_between_35 rz10_104 rfl sh_0 rfl rfl rfl (Nat.le_of_ble_eq_true rfl) (Nat.le_of_ble_eq_true rfl) rfl))
theorem bPb_between_38 {E : mEn} {d : Nat} {σ : mSt} {Q : mPost} {a1 : Int32} {a2 : Int32} {s0 : Int32} : WP E d mPb_between 38 [.ref 0, .int a1, .int a2] [.int s0] σ Q = Q (some (.int s0)) σ := w_iret dPb_between_38 rfl
theorem bPb_between_39 {E : mEn} {d : Nat} {σ : mSt} {Q : mPost} {a1 : Int32} {a2 : Int32} : WP E (d + 1) mPb_between 39 [.ref 0, .int a1, .int a2] [] σ Q = WP E d mPr_handed 0 [.ref 13, .int a1, .int a2, uu, uu] [] σ (fun r σ' => WP E (d + 1) mPb_between 52 [.ref 0, .int a1, .int a2] (r.toList ++ [.ref 0]) σ' Q) := (w_aload_n dPb_between_39 rfl).trans ((w_aload_n dPb_between_40 rfl).trans ((w_getr (r := 10) dPb_between_41 rz10_26 sh_0 rfl).trans ((w_getr (r := 13) dPb_between_44 rz10_187 sh_10 rfl).trans ((w_iload_n dPb_between_47 rfl).trans ((w_iload_n dPb_between_48 rfl).trans (w_virt (vs := [.int a1, .int a2]) (st' := [.ref 0]) (es := [.ref 13, .int a1, .int a2, uu, uu]) dPb_between_49 rz10_300 rfl sh_13 rfl rfl rfl (Nat.le_of_ble_eq_true rfl) (Nat.le_of_ble_eq_true rfl) rfl))))))
theorem bPb_between_52 {E : mEn} {d : Nat} {σ : mSt} {Q : mPost} {a1 : Int32} {a2 : Int32} {s0 : Int32} : WP E (d + 1) mPb_between 52 [.ref 0, .int a1, .int a2] [.int s0, .ref 0] σ Q = WP E d mPr_handed 0 [.ref 13, .int a2, .int a1, uu, uu] [] σ (fun r σ' => WP E (d + 1) mPb_between 64 [.ref 0, .int a1, .int a2] (r.toList ++ [.int s0, .ref 0]) σ' Q) := (w_aload_n dPb_between_52 rfl).trans ((w_getr (r := 10) dPb_between_53 rz10_26 sh_0 rfl).trans ((w_getr (r := 13) dPb_between_56 rz10_187 sh_10 rfl).trans ((w_iload_n dPb_between_59 rfl).trans ((w_iload_n dPb_between_60 rfl).trans (w_virt (vs := [.int a2, .int a1]) (st' := [.int s0, .ref 0]) (es := [.ref 13, .int a2, .int a1, uu, uu]) dPb_between_61 rz10_300 rfl sh_13 rfl rfl rfl (Nat.le_of_ble_eq_true rfl) (Nat.le_of_ble_eq_true rfl) rfl)))))
theorem bPb_between_64 {E : mEn} {d : Nat} {σ : mSt} {Q : mPost} {a1 : Int32} {a2 : Int32} {s0 : Int32} {s1 : Int32} : WP E (d + 1) mPb_between 64 [.ref 0, .int a1, .int a2] [.int s0, .int s1, .ref 0] σ Q = WP E d mPb_answer 0 [.ref 0, .int (s1 - s0)] [] σ (fun r σ' => WP E (d + 1) mPb_between 68 [.ref 0, .int a1, .int a2] (r.toList ++ []) σ' Q) := (w_isub dPb_between_64).trans (w_virt (vs := [.int (s1 - s0)]) (st' := []) (es := [.ref 0, .int (s1 - s0)]) dPb_between_65 rz10_157 rfl sh_0 rfl rfl rfl (Nat.le_of_ble_eq_true rfl) (Nat.le_of_ble_eq_true rfl) rfl)
theorem bPb_between_68 {E : mEn} {d : Nat} {σ : mSt} {Q : mPost} {a1 : Int32} {a2 : Int32} {s0 : Int32} : WP E d mPb_between 68 [.ref 0, .int a1, .int a2] [.int s0] σ Q = Q (some (.int s0)) σ := w_iret dPb_between_68 rfl
theorem dPb_gets_0 : decode (mC mPb_gets) 0 = .ok (.aload_n 0, 1) := by decide +kernel
theorem dPb_gets_1 : decode (mC mPb_gets) 1 = .ok (.getfield 26, 3) := by decide +kernel
theorem dPb_gets_4 : decode (mC mPb_gets) 4 = .ok (.iload_n 1, 1) := by decide +kernel
theorem dPb_gets_5 : decode (mC mPb_gets) 5 = .ok (.invokevirtual 205, 3) := by decide +kernel
theorem dPb_gets_8 : decode (mC mPb_gets) 8 = .ok (.ifCond .eq (14), 3) := by decide +kernel
theorem dPb_gets_11 : decode (mC mPb_gets) 11 = .ok (.aload_n 0, 1) := by decide +kernel
theorem dPb_gets_12 : decode (mC mPb_gets) 12 = .ok (.getfield 26, 3) := by decide +kernel
theorem dPb_gets_15 : decode (mC mPb_gets) 15 = .ok (.iload_n 2, 1) := by decide +kernel
theorem dPb_gets_16 : decode (mC mPb_gets) 16 = .ok (.invokevirtual 218, 3) := by decide +kernel
theorem dPb_gets_19 : decode (mC mPb_gets) 19 = .ok (.ifCond .ne (9), 3) := by decide +kernel
theorem dPb_gets_22 : decode (mC mPb_gets) 22 = .ok (.aload_n 0, 1) := by decide +kernel
theorem dPb_gets_23 : decode (mC mPb_gets) 23 = .ok (.iconst (2), 1) := by decide +kernel
theorem dPb_gets_24 : decode (mC mPb_gets) 24 = .ok (.invokevirtual 104, 3) := by decide +kernel
theorem dPb_gets_27 : decode (mC mPb_gets) 27 = .ok (.ireturn, 1) := by decide +kernel
theorem dPb_gets_28 : decode (mC mPb_gets) 28 = .ok (.aload_n 0, 1) := by decide +kernel
theorem dPb_gets_29 : decode (mC mPb_gets) 29 = .ok (.getfield 26, 3) := by decide +kernel
theorem dPb_gets_32 : decode (mC mPb_gets) 32 = .ok (.iload_n 2, 1) := by decide +kernel
theorem dPb_gets_33 : decode (mC mPb_gets) 33 = .ok (.invokevirtual 224, 3) := by decide +kernel
theorem dPb_gets_36 : decode (mC mPb_gets) 36 = .ok (.ifCond .ne (14), 3) := by decide +kernel
theorem dPb_gets_39 : decode (mC mPb_gets) 39 = .ok (.aload_n 0, 1) := by decide +kernel
theorem dPb_gets_40 : decode (mC mPb_gets) 40 = .ok (.getfield 26, 3) := by decide +kernel
theorem dPb_gets_43 : decode (mC mPb_gets) 43 = .ok (.iload_n 2, 1) := by decide +kernel
theorem dPb_gets_44 : decode (mC mPb_gets) 44 = .ok (.invokevirtual 239, 3) := by decide +kernel
theorem dPb_gets_47 : decode (mC mPb_gets) 47 = .ok (.ifCond .eq (10), 3) := by decide +kernel
theorem dPb_gets_50 : decode (mC mPb_gets) 50 = .ok (.aload_n 0, 1) := by decide +kernel
theorem dPb_gets_51 : decode (mC mPb_gets) 51 = .ok (.bipush (9), 2) := by decide +kernel
theorem dPb_gets_53 : decode (mC mPb_gets) 53 = .ok (.invokevirtual 104, 3) := by decide +kernel
theorem dPb_gets_56 : decode (mC mPb_gets) 56 = .ok (.ireturn, 1) := by decide +kernel
theorem dPb_gets_57 : decode (mC mPb_gets) 57 = .ok (.aload_n 0, 1) := by decide +kernel
theorem dPb_gets_58 : decode (mC mPb_gets) 58 = .ok (.aload_n 0, 1) := by decide +kernel
theorem dPb_gets_59 : decode (mC mPb_gets) 59 = .ok (.iload_n 1, 1) := by decide +kernel
theorem dPb_gets_60 : decode (mC mPb_gets) 60 = .ok (.iload_n 2, 1) := by decide +kernel
theorem dPb_gets_61 : decode (mC mPb_gets) 61 = .ok (.iload_n 3, 1) := by decide +kernel
theorem dPb_gets_62 : decode (mC mPb_gets) 62 = .ok (.invokevirtual 303, 3) := by decide +kernel
theorem dPb_gets_65 : decode (mC mPb_gets) 65 = .ok (.invokevirtual 157, 3) := by decide +kernel
theorem dPb_gets_68 : decode (mC mPb_gets) 68 = .ok (.ireturn, 1) := by decide +kernel
theorem bPb_gets_0 {E : mEn} {d : Nat} {σ : mSt} {Q : mPost} {a1 : Int32} {a2 : Int32} {a3 : Int32} : WP E (d + 1) mPb_gets 0 [.ref 0, .int a1, .int a2, .int a3] [] σ Q = WP E d mTw_hasPerson 0 [.ref 10, .int a1] [] σ (fun r σ' => WP E (d + 1) mPb_gets 8 [.ref 0, .int a1, .int a2, .int a3] (r.toList ++ []) σ' Q) := (w_aload_n dPb_gets_0 rfl).trans ((w_getr (r := 10) dPb_gets_1 rz10_26 sh_0 rfl).trans ((w_iload_n dPb_gets_4 rfl).trans (w_virt (vs := [.int a1]) (st' := []) (es := [.ref 10, .int a1]) dPb_gets_5 rz10_205 rfl sh_10 rfl rfl rfl (Nat.le_of_ble_eq_true rfl) (Nat.le_of_ble_eq_true rfl) rfl)))
theorem bPb_gets_8 {E : mEn} {d : Nat} {σ : mSt} {Q : mPost} {a1 : Int32} {a2 : Int32} {a3 : Int32} {s0 : Int32} : WP E d mPb_gets 8 [.ref 0, .int a1, .int a2, .int a3] [.int s0] σ Q = (if s0 = 0 then WP E d mPb_gets 22 [.ref 0, .int a1, .int a2, .int a3] [] σ Q else WP E d mPb_gets 11 [.ref 0, .int a1, .int a2, .int a3] [] σ Q) := w_ifeq (t := 22) dPb_gets_8 (by decide)
theorem bPb_gets_11 {E : mEn} {d : Nat} {σ : mSt} {Q : mPost} {a1 : Int32} {a2 : Int32} {a3 : Int32} : WP E (d + 1) mPb_gets 11 [.ref 0, .int a1, .int a2, .int a3] [] σ Q = WP E d mTw_hasLoaf 0 [.ref 10, .int a2] [] σ (fun r σ' => WP E (d + 1) mPb_gets 19 [.ref 0, .int a1, .int a2, .int a3] (r.toList ++ []) σ' Q) := (w_aload_n dPb_gets_11 rfl).trans ((w_getr (r := 10) dPb_gets_12 rz10_26 sh_0 rfl).trans ((w_iload_n dPb_gets_15 rfl).trans (w_virt (vs := [.int a2]) (st' := []) (es := [.ref 10, .int a2]) dPb_gets_16 rz10_218 rfl sh_10 rfl rfl rfl (Nat.le_of_ble_eq_true rfl) (Nat.le_of_ble_eq_true rfl) rfl)))
theorem bPb_gets_19 {E : mEn} {d : Nat} {σ : mSt} {Q : mPost} {a1 : Int32} {a2 : Int32} {a3 : Int32} {s0 : Int32} : WP E d mPb_gets 19 [.ref 0, .int a1, .int a2, .int a3] [.int s0] σ Q = (if ¬ s0 = 0 then WP E d mPb_gets 28 [.ref 0, .int a1, .int a2, .int a3] [] σ Q else WP E d mPb_gets 22 [.ref 0, .int a1, .int a2, .int a3] [] σ Q) := w_ifne (t := 28) dPb_gets_19 (by decide)
theorem bPb_gets_22 {E : mEn} {d : Nat} {σ : mSt} {Q : mPost} {a1 : Int32} {a2 : Int32} {a3 : Int32} : WP E (d + 1) mPb_gets 22 [.ref 0, .int a1, .int a2, .int a3] [] σ Q = WP E d mPb_refuse 0 [.ref 0, .int (nI 2)] [] σ (fun r σ' => WP E (d + 1) mPb_gets 27 [.ref 0, .int a1, .int a2, .int a3] (r.toList ++ []) σ' Q) := (w_aload_n dPb_gets_22 rfl).trans ((w_iconst (v := (nI 2)) dPb_gets_23 rfl).trans (w_virt (vs := [.int (nI 2)]) (st' := []) (es := [.ref 0, .int (nI 2)]) dPb_gets_24 rz10_104 rfl sh_0 rfl rfl rfl (Nat.le_of_ble_eq_true rfl) (Nat.le_of_ble_eq_true rfl) rfl))
theorem bPb_gets_27 {E : mEn} {d : Nat} {σ : mSt} {Q : mPost} {a1 : Int32} {a2 : Int32} {a3 : Int32} {s0 : Int32} : WP E d mPb_gets 27 [.ref 0, .int a1, .int a2, .int a3] [.int s0] σ Q = Q (some (.int s0)) σ := w_iret dPb_gets_27 rfl
theorem bPb_gets_28 {E : mEn} {d : Nat} {σ : mSt} {Q : mPost} {a1 : Int32} {a2 : Int32} {a3 : Int32} : WP E (d + 1) mPb_gets 28 [.ref 0, .int a1, .int a2, .int a3] [] σ Q = WP E d mTw_isPaper 0 [.ref 10, .int a2] [] σ (fun r σ' => WP E (d + 1) mPb_gets 36 [.ref 0, .int a1, .int a2, .int a3] (r.toList ++ []) σ' Q) := (w_aload_n dPb_gets_28 rfl).trans ((w_getr (r := 10) dPb_gets_29 rz10_26 sh_0 rfl).trans ((w_iload_n dPb_gets_32 rfl).trans (w_virt (vs := [.int a2]) (st' := []) (es := [.ref 10, .int a2]) dPb_gets_33 rz10_224 rfl sh_10 rfl rfl rfl (Nat.le_of_ble_eq_true rfl) (Nat.le_of_ble_eq_true rfl) rfl)))
theorem bPb_gets_36 {E : mEn} {d : Nat} {σ : mSt} {Q : mPost} {a1 : Int32} {a2 : Int32} {a3 : Int32} {s0 : Int32} : WP E d mPb_gets 36 [.ref 0, .int a1, .int a2, .int a3] [.int s0] σ Q = (if ¬ s0 = 0 then WP E d mPb_gets 50 [.ref 0, .int a1, .int a2, .int a3] [] σ Q else WP E d mPb_gets 39 [.ref 0, .int a1, .int a2, .int a3] [] σ Q) := w_ifne (t := 50) dPb_gets_36 (by decide)
theorem bPb_gets_39 {E : mEn} {d : Nat} {σ : mSt} {Q : mPost} {a1 : Int32} {a2 : Int32} {a3 : Int32} : WP E (d + 1) mPb_gets 39 [.ref 0, .int a1, .int a2, .int a3] [] σ Q = WP E d mTw_isBaked 0 [.ref 10, .int a2] [] σ (fun r σ' => WP E (d + 1) mPb_gets 47 [.ref 0, .int a1, .int a2, .int a3] (r.toList ++ []) σ' Q) := (w_aload_n dPb_gets_39 rfl).trans ((w_getr (r := 10) dPb_gets_40 rz10_26 sh_0 rfl).trans ((w_iload_n dPb_gets_43 rfl).trans (w_virt (vs := [.int a2]) (st' := []) (es := [.ref 10, .int a2]) dPb_gets_44 rz10_239 rfl sh_10 rfl rfl rfl (Nat.le_of_ble_eq_true rfl) (Nat.le_of_ble_eq_true rfl) rfl)))
theorem bPb_gets_47 {E : mEn} {d : Nat} {σ : mSt} {Q : mPost} {a1 : Int32} {a2 : Int32} {a3 : Int32} {s0 : Int32} : WP E d mPb_gets 47 [.ref 0, .int a1, .int a2, .int a3] [.int s0] σ Q = (if s0 = 0 then WP E d mPb_gets 57 [.ref 0, .int a1, .int a2, .int a3] [] σ Q else WP E d mPb_gets 50 [.ref 0, .int a1, .int a2, .int a3] [] σ Q) := w_ifeq (t := 57) dPb_gets_47 (by decide)
theorem bPb_gets_50 {E : mEn} {d : Nat} {σ : mSt} {Q : mPost} {a1 : Int32} {a2 : Int32} {a3 : Int32} : WP E (d + 1) mPb_gets 50 [.ref 0, .int a1, .int a2, .int a3] [] σ Q = WP E d mPb_refuse 0 [.ref 0, .int (nI 9)] [] σ (fun r σ' => WP E (d + 1) mPb_gets 56 [.ref 0, .int a1, .int a2, .int a3] (r.toList ++ []) σ' Q) := (w_aload_n dPb_gets_50 rfl).trans ((w_bipush (v := (nI 9)) dPb_gets_51 rfl).trans (w_virt (vs := [.int (nI 9)]) (st' := []) (es := [.ref 0, .int (nI 9)]) dPb_gets_53 rz10_104 rfl sh_0 rfl rfl rfl (Nat.le_of_ble_eq_true rfl) (Nat.le_of_ble_eq_true rfl) rfl))
theorem bPb_gets_56 {E : mEn} {d : Nat} {σ : mSt} {Q : mPost} {a1 : Int32} {a2 : Int32} {a3 : Int32} {s0 : Int32} : WP E d mPb_gets 56 [.ref 0, .int a1, .int a2, .int a3] [.int s0] σ Q = Q (some (.int s0)) σ := w_iret dPb_gets_56 rfl
theorem bPb_gets_57 {E : mEn} {d : Nat} {σ : mSt} {Q : mPost} {a1 : Int32} {a2 : Int32} {a3 : Int32} : WP E (d + 1) mPb_gets 57 [.ref 0, .int a1, .int a2, .int a3] [] σ Q = WP E d mPb_wouldGet 0 [.ref 0, .int a1, .int a2, .int a3] [] σ (fun r σ' => WP E (d + 1) mPb_gets 65 [.ref 0, .int a1, .int a2, .int a3] (r.toList ++ [.ref 0]) σ' Q) := (w_aload_n dPb_gets_57 rfl).trans ((w_aload_n dPb_gets_58 rfl).trans ((w_iload_n dPb_gets_59 rfl).trans ((w_iload_n dPb_gets_60 rfl).trans ((w_iload_n dPb_gets_61 rfl).trans (w_virt (vs := [.int a1, .int a2, .int a3]) (st' := [.ref 0]) (es := [.ref 0, .int a1, .int a2, .int a3]) dPb_gets_62 rz10_303 rfl sh_0 rfl rfl rfl (Nat.le_of_ble_eq_true rfl) (Nat.le_of_ble_eq_true rfl) rfl)))))
theorem bPb_gets_65 {E : mEn} {d : Nat} {σ : mSt} {Q : mPost} {a1 : Int32} {a2 : Int32} {a3 : Int32} {s0 : Int32} : WP E (d + 1) mPb_gets 65 [.ref 0, .int a1, .int a2, .int a3] [.int s0, .ref 0] σ Q = WP E d mPb_answer 0 [.ref 0, .int s0] [] σ (fun r σ' => WP E (d + 1) mPb_gets 68 [.ref 0, .int a1, .int a2, .int a3] (r.toList ++ []) σ' Q) := w_virt (vs := [.int s0]) (st' := []) (es := [.ref 0, .int s0]) dPb_gets_65 rz10_157 rfl sh_0 rfl rfl rfl (Nat.le_of_ble_eq_true rfl) (Nat.le_of_ble_eq_true rfl) rfl
theorem bPb_gets_68 {E : mEn} {d : Nat} {σ : mSt} {Q : mPost} {a1 : Int32} {a2 : Int32} {a3 : Int32} {s0 : Int32} : WP E d mPb_gets 68 [.ref 0, .int a1, .int a2, .int a3] [.int s0] σ Q = Q (some (.int s0)) σ := w_iret dPb_gets_68 rfl
theorem dPb_wouldGet_0 : decode (mC mPb_wouldGet) 0 = .ok (.aload_n 0, 1) := by decide +kernel
theorem dPb_wouldGet_1 : decode (mC mPb_wouldGet) 1 = .ok (.getfield 40, 3) := by decide +kernel
theorem dPb_wouldGet_4 : decode (mC mPb_wouldGet) 4 = .ok (.aload_n 0, 1) := by decide +kernel
theorem dPb_wouldGet_5 : decode (mC mPb_wouldGet) 5 = .ok (.getfield 26, 3) := by decide +kernel
theorem dPb_wouldGet_8 : decode (mC mPb_wouldGet) 8 = .ok (.iload_n 2, 1) := by decide +kernel
theorem dPb_wouldGet_9 : decode (mC mPb_wouldGet) 9 = .ok (.invokevirtual 265, 3) := by decide +kernel
theorem dPb_wouldGet_12 : decode (mC mPb_wouldGet) 12 = .ok (.aload_n 0, 1) := by decide +kernel
theorem dPb_wouldGet_13 : decode (mC mPb_wouldGet) 13 = .ok (.getfield 40, 3) := by decide +kernel
theorem dPb_wouldGet_16 : decode (mC mPb_wouldGet) 16 = .ok (.aload_n 0, 1) := by decide +kernel
theorem dPb_wouldGet_17 : decode (mC mPb_wouldGet) 17 = .ok (.getfield 26, 3) := by decide +kernel
theorem dPb_wouldGet_20 : decode (mC mPb_wouldGet) 20 = .ok (.iload_n 2, 1) := by decide +kernel
theorem dPb_wouldGet_21 : decode (mC mPb_wouldGet) 21 = .ok (.iload_n 3, 1) := by decide +kernel
theorem dPb_wouldGet_22 : decode (mC mPb_wouldGet) 22 = .ok (.invokevirtual 284, 3) := by decide +kernel
theorem dPb_wouldGet_25 : decode (mC mPb_wouldGet) 25 = .ok (.invokevirtual 288, 3) := by decide +kernel
theorem dPb_wouldGet_28 : decode (mC mPb_wouldGet) 28 = .ok (.aload_n 0, 1) := by decide +kernel
theorem dPb_wouldGet_29 : decode (mC mPb_wouldGet) 29 = .ok (.getfield 40, 3) := by decide +kernel
theorem dPb_wouldGet_32 : decode (mC mPb_wouldGet) 32 = .ok (.getfield 436, 3) := by decide +kernel
theorem dPb_wouldGet_35 : decode (mC mPb_wouldGet) 35 = .ok (.iload_n 1, 1) := by decide +kernel
theorem dPb_wouldGet_36 : decode (mC mPb_wouldGet) 36 = .ok (.iaload, 1) := by decide +kernel
theorem dPb_wouldGet_37 : decode (mC mPb_wouldGet) 37 = .ok (.ireturn, 1) := by decide +kernel
theorem bPb_wouldGet_0 {E : mEn} {d : Nat} {σ : mSt} {Q : mPost} {a1 : Int32} {a2 : Int32} {a3 : Int32} : WP E (d + 1) mPb_wouldGet 0 [.ref 0, .int a1, .int a2, .int a3] [] σ Q = WP E d mSh_weigh 0 [.ref 61, .ref 10, .int a2, uu, uu] [] σ (fun r σ' => WP E (d + 1) mPb_wouldGet 12 [.ref 0, .int a1, .int a2, .int a3] (r.toList ++ []) σ' Q) := (w_aload_n dPb_wouldGet_0 rfl).trans ((w_getr (r := 61) dPb_wouldGet_1 rz10_40 sh_0 rfl).trans ((w_aload_n dPb_wouldGet_4 rfl).trans ((w_getr (r := 10) dPb_wouldGet_5 rz10_26 sh_0 rfl).trans ((w_iload_n dPb_wouldGet_8 rfl).trans (w_virt (vs := [.ref 10, .int a2]) (st' := []) (es := [.ref 61, .ref 10, .int a2, uu, uu]) dPb_wouldGet_9 rz10_265 rfl sh_61 rfl rfl rfl (Nat.le_of_ble_eq_true rfl) (Nat.le_of_ble_eq_true rfl) rfl)))))
theorem bPb_wouldGet_12 {E : mEn} {d : Nat} {σ : mSt} {Q : mPost} {a1 : Int32} {a2 : Int32} {a3 : Int32} : WP E (d + 1) mPb_wouldGet 12 [.ref 0, .int a1, .int a2, .int a3] [] σ Q = WP E d mTw_comesOf 0 [.ref 10, .int a2, .int a3] [] σ (fun r σ' => WP E (d + 1) mPb_wouldGet 25 [.ref 0, .int a1, .int a2, .int a3] (r.toList ++ [.ref 61]) σ' Q) := (w_aload_n dPb_wouldGet_12 rfl).trans ((w_getr (r := 61) dPb_wouldGet_13 rz10_40 sh_0 rfl).trans ((w_aload_n dPb_wouldGet_16 rfl).trans ((w_getr (r := 10) dPb_wouldGet_17 rz10_26 sh_0 rfl).trans ((w_iload_n dPb_wouldGet_20 rfl).trans ((w_iload_n dPb_wouldGet_21 rfl).trans (w_virt (vs := [.int a2, .int a3]) (st' := [.ref 61]) (es := [.ref 10, .int a2, .int a3]) dPb_wouldGet_22 rz10_284 rfl sh_10 rfl rfl rfl (Nat.le_of_ble_eq_true rfl) (Nat.le_of_ble_eq_true rfl) rfl))))))
theorem bPb_wouldGet_25 {E : mEn} {d : Nat} {σ : mSt} {Q : mPost} {a1 : Int32} {a2 : Int32} {a3 : Int32} {s0 : Int32} : WP E (d + 1) mPb_wouldGet 25 [.ref 0, .int a1, .int a2, .int a3] [.int s0, .ref 61] σ Q = WP E d mSh_deal 0 [.ref 61, .int s0, uu, uu, uu] [] σ (fun r σ' => WP E (d + 1) mPb_wouldGet 28 [.ref 0, .int a1, .int a2, .int a3] (r.toList ++ []) σ' Q) := w_virt (vs := [.int s0]) (st' := []) (es := [.ref 61, .int s0, uu, uu, uu]) dPb_wouldGet_25 rz10_288 rfl sh_61 rfl rfl rfl (Nat.le_of_ble_eq_true rfl) (Nat.le_of_ble_eq_true rfl) rfl
theorem bPb_wouldGet_28 {E : mEn} {d : Nat} {σ : mSt} {Q : mPost} {a1 : Int32} {a2 : Int32} {a3 : Int32} : WP E d mPb_wouldGet 28 [.ref 0, .int a1, .int a2, .int a3] [] σ Q = (if mOut a1 8 = true then False else Q (some (.int (σ.1 65 a1.toNatClampNeg))) σ) := (w_aload_n dPb_wouldGet_28 rfl).trans ((w_getr (r := 61) dPb_wouldGet_29 rz10_40 sh_0 rfl).trans ((w_getr (r := 65) dPb_wouldGet_32 rz10_436 sh_61 rfl).trans ((w_iload_n dPb_wouldGet_35 rfl).trans ((w_iald dPb_wouldGet_36 sh_65 (by decide)).trans (ite_c (w_iret dPb_wouldGet_37 rfl))))))
theorem dPb_shame_0 : decode (mC mPb_shame) 0 = .ok (.aload_n 0, 1) := by decide +kernel
theorem dPb_shame_1 : decode (mC mPb_shame) 1 = .ok (.getfield 26, 3) := by decide +kernel
theorem dPb_shame_4 : decode (mC mPb_shame) 4 = .ok (.iload_n 1, 1) := by decide +kernel
theorem dPb_shame_5 : decode (mC mPb_shame) 5 = .ok (.invokevirtual 218, 3) := by decide +kernel
theorem dPb_shame_8 : decode (mC mPb_shame) 8 = .ok (.ifCond .ne (9), 3) := by decide +kernel
theorem dPb_shame_11 : decode (mC mPb_shame) 11 = .ok (.aload_n 0, 1) := by decide +kernel
theorem dPb_shame_12 : decode (mC mPb_shame) 12 = .ok (.iconst (2), 1) := by decide +kernel
theorem dPb_shame_13 : decode (mC mPb_shame) 13 = .ok (.invokevirtual 104, 3) := by decide +kernel
theorem dPb_shame_16 : decode (mC mPb_shame) 16 = .ok (.ireturn, 1) := by decide +kernel
theorem dPb_shame_17 : decode (mC mPb_shame) 17 = .ok (.aload_n 0, 1) := by decide +kernel
theorem dPb_shame_18 : decode (mC mPb_shame) 18 = .ok (.getfield 26, 3) := by decide +kernel
theorem dPb_shame_21 : decode (mC mPb_shame) 21 = .ok (.iload_n 1, 1) := by decide +kernel
theorem dPb_shame_22 : decode (mC mPb_shame) 22 = .ok (.invokevirtual 239, 3) := by decide +kernel
theorem dPb_shame_25 : decode (mC mPb_shame) 25 = .ok (.ifCond .eq (10), 3) := by decide +kernel
theorem dPb_shame_28 : decode (mC mPb_shame) 28 = .ok (.aload_n 0, 1) := by decide +kernel
theorem dPb_shame_29 : decode (mC mPb_shame) 29 = .ok (.bipush (9), 2) := by decide +kernel
theorem dPb_shame_31 : decode (mC mPb_shame) 31 = .ok (.invokevirtual 104, 3) := by decide +kernel
theorem dPb_shame_34 : decode (mC mPb_shame) 34 = .ok (.ireturn, 1) := by decide +kernel
theorem dPb_shame_35 : decode (mC mPb_shame) 35 = .ok (.aload_n 0, 1) := by decide +kernel
theorem dPb_shame_36 : decode (mC mPb_shame) 36 = .ok (.getfield 40, 3) := by decide +kernel
theorem dPb_shame_39 : decode (mC mPb_shame) 39 = .ok (.aload_n 0, 1) := by decide +kernel
theorem dPb_shame_40 : decode (mC mPb_shame) 40 = .ok (.getfield 26, 3) := by decide +kernel
theorem dPb_shame_43 : decode (mC mPb_shame) 43 = .ok (.iload_n 1, 1) := by decide +kernel
theorem dPb_shame_44 : decode (mC mPb_shame) 44 = .ok (.iload_n 2, 1) := by decide +kernel
theorem dPb_shame_45 : decode (mC mPb_shame) 45 = .ok (.invokevirtual 307, 3) := by decide +kernel
theorem dPb_shame_48 : decode (mC mPb_shame) 48 = .ok (.iconst (0), 1) := by decide +kernel
theorem dPb_shame_49 : decode (mC mPb_shame) 49 = .ok (.istore_n 3, 1) := by decide +kernel
theorem dPb_shame_50 : decode (mC mPb_shame) 50 = .ok (.iconst (0), 1) := by decide +kernel
theorem dPb_shame_51 : decode (mC mPb_shame) 51 = .ok (.istore 4, 2) := by decide +kernel
theorem dPb_shame_53 : decode (mC mPb_shame) 53 = .ok (.iload 4, 2) := by decide +kernel
theorem dPb_shame_55 : decode (mC mPb_shame) 55 = .ok (.bipush (8), 2) := by decide +kernel
theorem dPb_shame_57 : decode (mC mPb_shame) 57 = .ok (.if_icmp .ge (22), 3) := by decide +kernel
theorem dPb_shame_60 : decode (mC mPb_shame) 60 = .ok (.iload_n 3, 1) := by decide +kernel
theorem dPb_shame_61 : decode (mC mPb_shame) 61 = .ok (.aload_n 0, 1) := by decide +kernel
theorem dPb_shame_62 : decode (mC mPb_shame) 62 = .ok (.getfield 40, 3) := by decide +kernel
theorem dPb_shame_65 : decode (mC mPb_shame) 65 = .ok (.getfield 311, 3) := by decide +kernel
theorem dPb_shame_68 : decode (mC mPb_shame) 68 = .ok (.iload 4, 2) := by decide +kernel
theorem dPb_shame_70 : decode (mC mPb_shame) 70 = .ok (.iaload, 1) := by decide +kernel
theorem dPb_shame_71 : decode (mC mPb_shame) 71 = .ok (.iadd, 1) := by decide +kernel
theorem dPb_shame_72 : decode (mC mPb_shame) 72 = .ok (.istore_n 3, 1) := by decide +kernel
theorem dPb_shame_73 : decode (mC mPb_shame) 73 = .ok (.iinc 4 (1), 3) := by decide +kernel
theorem dPb_shame_76 : decode (mC mPb_shame) 76 = .ok (.goto (-23), 3) := by decide +kernel
theorem dPb_shame_79 : decode (mC mPb_shame) 79 = .ok (.aload_n 0, 1) := by decide +kernel
theorem dPb_shame_80 : decode (mC mPb_shame) 80 = .ok (.iload_n 3, 1) := by decide +kernel
theorem dPb_shame_81 : decode (mC mPb_shame) 81 = .ok (.invokevirtual 157, 3) := by decide +kernel
theorem dPb_shame_84 : decode (mC mPb_shame) 84 = .ok (.ireturn, 1) := by decide +kernel
theorem bPb_shame_0 {E : mEn} {d : Nat} {σ : mSt} {Q : mPost} {a1 : Int32} {a2 : Int32} {u3 : Value} {u4 : Value} : WP E (d + 1) mPb_shame 0 [.ref 0, .int a1, .int a2, u3, u4] [] σ Q = WP E d mTw_hasLoaf 0 [.ref 10, .int a1] [] σ (fun r σ' => WP E (d + 1) mPb_shame 8 [.ref 0, .int a1, .int a2, u3, u4] (r.toList ++ []) σ' Q) := (w_aload_n dPb_shame_0 rfl).trans ((w_getr (r := 10) dPb_shame_1 rz10_26 sh_0 rfl).trans ((w_iload_n dPb_shame_4 rfl).trans (w_virt (vs := [.int a1]) (st' := []) (es := [.ref 10, .int a1]) dPb_shame_5 rz10_218 rfl sh_10 rfl rfl rfl (Nat.le_of_ble_eq_true rfl) (Nat.le_of_ble_eq_true rfl) rfl)))
theorem bPb_shame_8 {E : mEn} {d : Nat} {σ : mSt} {Q : mPost} {a1 : Int32} {a2 : Int32} {u3 : Value} {u4 : Value} {s0 : Int32} : WP E d mPb_shame 8 [.ref 0, .int a1, .int a2, u3, u4] [.int s0] σ Q = (if ¬ s0 = 0 then WP E d mPb_shame 17 [.ref 0, .int a1, .int a2, u3, u4] [] σ Q else WP E d mPb_shame 11 [.ref 0, .int a1, .int a2, u3, u4] [] σ Q) := w_ifne (t := 17) dPb_shame_8 (by decide)
theorem bPb_shame_11 {E : mEn} {d : Nat} {σ : mSt} {Q : mPost} {a1 : Int32} {a2 : Int32} {u3 : Value} {u4 : Value} : WP E (d + 1) mPb_shame 11 [.ref 0, .int a1, .int a2, u3, u4] [] σ Q = WP E d mPb_refuse 0 [.ref 0, .int (nI 2)] [] σ (fun r σ' => WP E (d + 1) mPb_shame 16 [.ref 0, .int a1, .int a2, u3, u4] (r.toList ++ []) σ' Q) := (w_aload_n dPb_shame_11 rfl).trans ((w_iconst (v := (nI 2)) dPb_shame_12 rfl).trans (w_virt (vs := [.int (nI 2)]) (st' := []) (es := [.ref 0, .int (nI 2)]) dPb_shame_13 rz10_104 rfl sh_0 rfl rfl rfl (Nat.le_of_ble_eq_true rfl) (Nat.le_of_ble_eq_true rfl) rfl))
theorem bPb_shame_16 {E : mEn} {d : Nat} {σ : mSt} {Q : mPost} {a1 : Int32} {a2 : Int32} {u3 : Value} {u4 : Value} {s0 : Int32} : WP E d mPb_shame 16 [.ref 0, .int a1, .int a2, u3, u4] [.int s0] σ Q = Q (some (.int s0)) σ := w_iret dPb_shame_16 rfl
theorem bPb_shame_17 {E : mEn} {d : Nat} {σ : mSt} {Q : mPost} {a1 : Int32} {a2 : Int32} {u3 : Value} {u4 : Value} : WP E (d + 1) mPb_shame 17 [.ref 0, .int a1, .int a2, u3, u4] [] σ Q = WP E d mTw_isBaked 0 [.ref 10, .int a1] [] σ (fun r σ' => WP E (d + 1) mPb_shame 25 [.ref 0, .int a1, .int a2, u3, u4] (r.toList ++ []) σ' Q) := (w_aload_n dPb_shame_17 rfl).trans ((w_getr (r := 10) dPb_shame_18 rz10_26 sh_0 rfl).trans ((w_iload_n dPb_shame_21 rfl).trans (w_virt (vs := [.int a1]) (st' := []) (es := [.ref 10, .int a1]) dPb_shame_22 rz10_239 rfl sh_10 rfl rfl rfl (Nat.le_of_ble_eq_true rfl) (Nat.le_of_ble_eq_true rfl) rfl)))
theorem bPb_shame_25 {E : mEn} {d : Nat} {σ : mSt} {Q : mPost} {a1 : Int32} {a2 : Int32} {u3 : Value} {u4 : Value} {s0 : Int32} : WP E d mPb_shame 25 [.ref 0, .int a1, .int a2, u3, u4] [.int s0] σ Q = (if s0 = 0 then WP E d mPb_shame 35 [.ref 0, .int a1, .int a2, u3, u4] [] σ Q else WP E d mPb_shame 28 [.ref 0, .int a1, .int a2, u3, u4] [] σ Q) := w_ifeq (t := 35) dPb_shame_25 (by decide)
theorem bPb_shame_28 {E : mEn} {d : Nat} {σ : mSt} {Q : mPost} {a1 : Int32} {a2 : Int32} {u3 : Value} {u4 : Value} : WP E (d + 1) mPb_shame 28 [.ref 0, .int a1, .int a2, u3, u4] [] σ Q = WP E d mPb_refuse 0 [.ref 0, .int (nI 9)] [] σ (fun r σ' => WP E (d + 1) mPb_shame 34 [.ref 0, .int a1, .int a2, u3, u4] (r.toList ++ []) σ' Q) := (w_aload_n dPb_shame_28 rfl).trans ((w_bipush (v := (nI 9)) dPb_shame_29 rfl).trans (w_virt (vs := [.int (nI 9)]) (st' := []) (es := [.ref 0, .int (nI 9)]) dPb_shame_31 rz10_104 rfl sh_0 rfl rfl rfl (Nat.le_of_ble_eq_true rfl) (Nat.le_of_ble_eq_true rfl) rfl))
theorem bPb_shame_34 {E : mEn} {d : Nat} {σ : mSt} {Q : mPost} {a1 : Int32} {a2 : Int32} {u3 : Value} {u4 : Value} {s0 : Int32} : WP E d mPb_shame 34 [.ref 0, .int a1, .int a2, u3, u4] [.int s0] σ Q = Q (some (.int s0)) σ := w_iret dPb_shame_34 rfl
theorem bPb_shame_35 {E : mEn} {d : Nat} {σ : mSt} {Q : mPost} {a1 : Int32} {a2 : Int32} {u3 : Value} {u4 : Value} : WP E (d + 1) mPb_shame 35 [.ref 0, .int a1, .int a2, u3, u4] [] σ Q = WP E d mSh_settle 0 [.ref 61, .ref 10, .int a1, .int a2, uu, uu, uu] [] σ (fun r σ' => WP E (d + 1) mPb_shame 48 [.ref 0, .int a1, .int a2, u3, u4] (r.toList ++ []) σ' Q) := (w_aload_n dPb_shame_35 rfl).trans ((w_getr (r := 61) dPb_shame_36 rz10_40 sh_0 rfl).trans ((w_aload_n dPb_shame_39 rfl).trans ((w_getr (r := 10) dPb_shame_40 rz10_26 sh_0 rfl).trans ((w_iload_n dPb_shame_43 rfl).trans ((w_iload_n dPb_shame_44 rfl).trans (w_virt (vs := [.ref 10, .int a1, .int a2]) (st' := []) (es := [.ref 61, .ref 10, .int a1, .int a2, uu, uu, uu]) dPb_shame_45 rz10_307 rfl sh_61 rfl rfl rfl (Nat.le_of_ble_eq_true rfl) (Nat.le_of_ble_eq_true rfl) rfl))))))
theorem bPb_shame_48 {E : mEn} {d : Nat} {σ : mSt} {Q : mPost} {a1 : Int32} {a2 : Int32} {u3 : Value} {u4 : Value} : WP E d mPb_shame 48 [.ref 0, .int a1, .int a2, u3, u4] [] σ Q = WP E d mPb_shame 53 [.ref 0, .int a1, .int a2, .int 0, .int 0] [] σ Q := (w_iconst (v := 0) dPb_shame_48 rfl).trans ((w_istore_n (ls' := [.ref 0, .int a1, .int a2, .int 0, u4]) dPb_shame_49 (Nat.le_of_ble_eq_true rfl) rfl).trans ((w_iconst (v := 0) dPb_shame_50 rfl).trans (w_istore (ls' := [.ref 0, .int a1, .int a2, .int 0, .int 0]) dPb_shame_51 (Nat.le_of_ble_eq_true rfl) rfl)))
theorem bPb_shame_53 {E : mEn} {d : Nat} {σ : mSt} {Q : mPost} {a1 : Int32} {a2 : Int32} {a3 : Int32} {a4 : Int32} : WP E d mPb_shame 53 [.ref 0, .int a1, .int a2, .int a3, .int a4] [] σ Q = (if (nI 8) ≤ a4 then WP E d mPb_shame 79 [.ref 0, .int a1, .int a2, .int a3, .int a4] [] σ Q else WP E d mPb_shame 60 [.ref 0, .int a1, .int a2, .int a3, .int a4] [] σ Q) := (w_iload dPb_shame_53 rfl).trans ((w_bipush (v := (nI 8)) dPb_shame_55 rfl).trans (w_icmpge (t := 79) dPb_shame_57 (by decide)))
theorem bPb_shame_60 {E : mEn} {d : Nat} {σ : mSt} {Q : mPost} {a1 : Int32} {a2 : Int32} {a3 : Int32} {a4 : Int32} : WP E d mPb_shame 60 [.ref 0, .int a1, .int a2, .int a3, .int a4] [] σ Q = (if mOut a4 8 = true then False else WP E d mPb_shame 53 [.ref 0, .int a1, .int a2, .int (a3 + (σ.1 66 a4.toNatClampNeg)), .int (a4 + 1)] [] σ Q) := (w_iload_n dPb_shame_60 rfl).trans ((w_aload_n dPb_shame_61 rfl).trans ((w_getr (r := 61) dPb_shame_62 rz10_40 sh_0 rfl).trans ((w_getr (r := 66) dPb_shame_65 rz10_311 sh_61 rfl).trans ((w_iload dPb_shame_68 rfl).trans ((w_iald dPb_shame_70 sh_66 (by decide)).trans (ite_c ((w_iadd dPb_shame_71).trans ((w_istore_n (ls' := [.ref 0, .int a1, .int a2, .int (a3 + (σ.1 66 a4.toNatClampNeg)), .int a4]) dPb_shame_72 (Nat.le_of_ble_eq_true rfl) rfl).trans ((w_iinc (v := 1) (ls' := [.ref 0, .int a1, .int a2, .int (a3 + (σ.1 66 a4.toNatClampNeg)), .int (a4 + 1)]) dPb_shame_73 rfl rfl rfl).trans (w_goto (t := 53) dPb_shame_76 (by decide)))))))))))
theorem bPb_shame_79 {E : mEn} {d : Nat} {σ : mSt} {Q : mPost} {a1 : Int32} {a2 : Int32} {a3 : Int32} {a4 : Int32} : WP E (d + 1) mPb_shame 79 [.ref 0, .int a1, .int a2, .int a3, .int a4] [] σ Q = WP E d mPb_answer 0 [.ref 0, .int a3] [] σ (fun r σ' => WP E (d + 1) mPb_shame 84 [.ref 0, .int a1, .int a2, .int a3, .int a4] (r.toList ++ []) σ' Q) := (w_aload_n dPb_shame_79 rfl).trans ((w_iload_n dPb_shame_80 rfl).trans (w_virt (vs := [.int a3]) (st' := []) (es := [.ref 0, .int a3]) dPb_shame_81 rz10_157 rfl sh_0 rfl rfl rfl (Nat.le_of_ble_eq_true rfl) (Nat.le_of_ble_eq_true rfl) rfl))
theorem bPb_shame_84 {E : mEn} {d : Nat} {σ : mSt} {Q : mPost} {a1 : Int32} {a2 : Int32} {a3 : Int32} {a4 : Int32} {s0 : Int32} : WP E d mPb_shame 84 [.ref 0, .int a1, .int a2, .int a3, .int a4] [.int s0] σ Q = Q (some (.int s0)) σ := w_iret dPb_shame_84 rfl
theorem dPb_mean_0 : decode (mC mPb_mean) 0 = .ok (.aload_n 0, 1) := by decide +kernel
theorem dPb_mean_1 : decode (mC mPb_mean) 1 = .ok (.getfield 26, 3) := by decide +kernel
theorem dPb_mean_4 : decode (mC mPb_mean) 4 = .ok (.iload_n 1, 1) := by decide +kernel
theorem dPb_mean_5 : decode (mC mPb_mean) 5 = .ok (.invokevirtual 205, 3) := by decide +kernel
theorem dPb_mean_8 : decode (mC mPb_mean) 8 = .ok (.ifCond .eq (14), 3) := by decide +kernel
theorem dPb_mean_11 : decode (mC mPb_mean) 11 = .ok (.aload_n 0, 1) := by decide +kernel
theorem dPb_mean_12 : decode (mC mPb_mean) 12 = .ok (.getfield 26, 3) := by decide +kernel
theorem dPb_mean_15 : decode (mC mPb_mean) 15 = .ok (.iload_n 2, 1) := by decide +kernel
theorem dPb_mean_16 : decode (mC mPb_mean) 16 = .ok (.invokevirtual 218, 3) := by decide +kernel
theorem dPb_mean_19 : decode (mC mPb_mean) 19 = .ok (.ifCond .ne (9), 3) := by decide +kernel
theorem dPb_mean_22 : decode (mC mPb_mean) 22 = .ok (.aload_n 0, 1) := by decide +kernel
theorem dPb_mean_23 : decode (mC mPb_mean) 23 = .ok (.iconst (2), 1) := by decide +kernel
theorem dPb_mean_24 : decode (mC mPb_mean) 24 = .ok (.invokevirtual 85, 3) := by decide +kernel
theorem dPb_mean_27 : decode (mC mPb_mean) 27 = .ok (.ireturn, 1) := by decide +kernel
theorem dPb_mean_28 : decode (mC mPb_mean) 28 = .ok (.iload_n 3, 1) := by decide +kernel
theorem dPb_mean_29 : decode (mC mPb_mean) 29 = .ok (.ifCond .lt (8), 3) := by decide +kernel
theorem dPb_mean_32 : decode (mC mPb_mean) 32 = .ok (.iload_n 3, 1) := by decide +kernel
theorem dPb_mean_33 : decode (mC mPb_mean) 33 = .ok (.iconst (1), 1) := by decide +kernel
theorem dPb_mean_34 : decode (mC mPb_mean) 34 = .ok (.if_icmp .le (9), 3) := by decide +kernel
theorem dPb_mean_37 : decode (mC mPb_mean) 37 = .ok (.aload_n 0, 1) := by decide +kernel
theorem dPb_mean_38 : decode (mC mPb_mean) 38 = .ok (.iconst (5), 1) := by decide +kernel
theorem dPb_mean_39 : decode (mC mPb_mean) 39 = .ok (.invokevirtual 85, 3) := by decide +kernel
theorem dPb_mean_42 : decode (mC mPb_mean) 42 = .ok (.ireturn, 1) := by decide +kernel
theorem dPb_mean_43 : decode (mC mPb_mean) 43 = .ok (.aload_n 0, 1) := by decide +kernel
theorem dPb_mean_44 : decode (mC mPb_mean) 44 = .ok (.getfield 26, 3) := by decide +kernel
theorem dPb_mean_47 : decode (mC mPb_mean) 47 = .ok (.iload_n 2, 1) := by decide +kernel
theorem dPb_mean_48 : decode (mC mPb_mean) 48 = .ok (.invokevirtual 224, 3) := by decide +kernel
theorem dPb_mean_51 : decode (mC mPb_mean) 51 = .ok (.ifCond .ne (14), 3) := by decide +kernel
theorem dPb_mean_54 : decode (mC mPb_mean) 54 = .ok (.aload_n 0, 1) := by decide +kernel
theorem dPb_mean_55 : decode (mC mPb_mean) 55 = .ok (.getfield 26, 3) := by decide +kernel
theorem dPb_mean_58 : decode (mC mPb_mean) 58 = .ok (.iload_n 2, 1) := by decide +kernel
theorem dPb_mean_59 : decode (mC mPb_mean) 59 = .ok (.invokevirtual 239, 3) := by decide +kernel
theorem dPb_mean_62 : decode (mC mPb_mean) 62 = .ok (.ifCond .eq (10), 3) := by decide +kernel
theorem dPb_mean_65 : decode (mC mPb_mean) 65 = .ok (.aload_n 0, 1) := by decide +kernel
theorem dPb_mean_66 : decode (mC mPb_mean) 66 = .ok (.bipush (9), 2) := by decide +kernel
theorem dPb_mean_68 : decode (mC mPb_mean) 68 = .ok (.invokevirtual 85, 3) := by decide +kernel
theorem dPb_mean_71 : decode (mC mPb_mean) 71 = .ok (.ireturn, 1) := by decide +kernel
theorem dPb_mean_72 : decode (mC mPb_mean) 72 = .ok (.aload_n 0, 1) := by decide +kernel
theorem dPb_mean_73 : decode (mC mPb_mean) 73 = .ok (.getfield 26, 3) := by decide +kernel
theorem dPb_mean_76 : decode (mC mPb_mean) 76 = .ok (.iload_n 2, 1) := by decide +kernel
theorem dPb_mean_77 : decode (mC mPb_mean) 77 = .ok (.invokevirtual 314, 3) := by decide +kernel
theorem dPb_mean_80 : decode (mC mPb_mean) 80 = .ok (.istore 4, 2) := by decide +kernel
theorem dPb_mean_82 : decode (mC mPb_mean) 82 = .ok (.iload 4, 2) := by decide +kernel
theorem dPb_mean_84 : decode (mC mPb_mean) 84 = .ok (.aload_n 0, 1) := by decide +kernel
theorem dPb_mean_85 : decode (mC mPb_mean) 85 = .ok (.iload_n 1, 1) := by decide +kernel
theorem dPb_mean_86 : decode (mC mPb_mean) 86 = .ok (.iload_n 2, 1) := by decide +kernel
theorem dPb_mean_87 : decode (mC mPb_mean) 87 = .ok (.iconst (1), 1) := by decide +kernel
theorem dPb_mean_88 : decode (mC mPb_mean) 88 = .ok (.invokevirtual 303, 3) := by decide +kernel
theorem dPb_mean_91 : decode (mC mPb_mean) 91 = .ok (.imul, 1) := by decide +kernel
theorem dPb_mean_92 : decode (mC mPb_mean) 92 = .ok (.bipush (16), 2) := by decide +kernel
theorem dPb_mean_94 : decode (mC mPb_mean) 94 = .ok (.iload 4, 2) := by decide +kernel
theorem dPb_mean_96 : decode (mC mPb_mean) 96 = .ok (.isub, 1) := by decide +kernel
theorem dPb_mean_97 : decode (mC mPb_mean) 97 = .ok (.aload_n 0, 1) := by decide +kernel
theorem dPb_mean_98 : decode (mC mPb_mean) 98 = .ok (.iload_n 1, 1) := by decide +kernel
theorem dPb_mean_99 : decode (mC mPb_mean) 99 = .ok (.iload_n 2, 1) := by decide +kernel
theorem dPb_mean_100 : decode (mC mPb_mean) 100 = .ok (.iconst (0), 1) := by decide +kernel
theorem dPb_mean_101 : decode (mC mPb_mean) 101 = .ok (.invokevirtual 303, 3) := by decide +kernel
theorem dPb_mean_104 : decode (mC mPb_mean) 104 = .ok (.imul, 1) := by decide +kernel
theorem dPb_mean_105 : decode (mC mPb_mean) 105 = .ok (.iadd, 1) := by decide +kernel
theorem dPb_mean_106 : decode (mC mPb_mean) 106 = .ok (.istore 5, 2) := by decide +kernel
theorem dPb_mean_108 : decode (mC mPb_mean) 108 = .ok (.aload_n 0, 1) := by decide +kernel
theorem dPb_mean_109 : decode (mC mPb_mean) 109 = .ok (.getfield 40, 3) := by decide +kernel
theorem dPb_mean_112 : decode (mC mPb_mean) 112 = .ok (.getfield 269, 3) := by decide +kernel
theorem dPb_mean_115 : decode (mC mPb_mean) 115 = .ok (.iload_n 1, 1) := by decide +kernel
theorem dPb_mean_116 : decode (mC mPb_mean) 116 = .ok (.iaload, 1) := by decide +kernel
theorem dPb_mean_117 : decode (mC mPb_mean) 117 = .ok (.istore 6, 2) := by decide +kernel
theorem dPb_mean_119 : decode (mC mPb_mean) 119 = .ok (.iload_n 3, 1) := by decide +kernel
theorem dPb_mean_120 : decode (mC mPb_mean) 120 = .ok (.iconst (1), 1) := by decide +kernel
theorem dPb_mean_121 : decode (mC mPb_mean) 121 = .ok (.if_icmp .ne (15), 3) := by decide +kernel
theorem dPb_mean_124 : decode (mC mPb_mean) 124 = .ok (.iload 6, 2) := by decide +kernel
theorem dPb_mean_126 : decode (mC mPb_mean) 126 = .ok (.ifCond .gt (10), 3) := by decide +kernel
theorem dPb_mean_129 : decode (mC mPb_mean) 129 = .ok (.aload_n 0, 1) := by decide +kernel
theorem dPb_mean_130 : decode (mC mPb_mean) 130 = .ok (.bipush (8), 2) := by decide +kernel
theorem dPb_mean_132 : decode (mC mPb_mean) 132 = .ok (.invokevirtual 85, 3) := by decide +kernel
theorem dPb_mean_135 : decode (mC mPb_mean) 135 = .ok (.ireturn, 1) := by decide +kernel
theorem dPb_mean_136 : decode (mC mPb_mean) 136 = .ok (.aload_n 0, 1) := by decide +kernel
theorem dPb_mean_137 : decode (mC mPb_mean) 137 = .ok (.iload 5, 2) := by decide +kernel
theorem dPb_mean_139 : decode (mC mPb_mean) 139 = .ok (.i2l, 1) := by decide +kernel
theorem dPb_mean_140 : decode (mC mPb_mean) 140 = .ok (.iload_n 3, 1) := by decide +kernel
theorem dPb_mean_141 : decode (mC mPb_mean) 141 = .ok (.iconst (1), 1) := by decide +kernel
theorem dPb_mean_142 : decode (mC mPb_mean) 142 = .ok (.if_icmp .ne (12), 3) := by decide +kernel
theorem dPb_mean_145 : decode (mC mPb_mean) 145 = .ok (.bipush (16), 2) := by decide +kernel
theorem dPb_mean_147 : decode (mC mPb_mean) 147 = .ok (.iload 6, 2) := by decide +kernel
theorem dPb_mean_149 : decode (mC mPb_mean) 149 = .ok (.imul, 1) := by decide +kernel
theorem dPb_mean_150 : decode (mC mPb_mean) 150 = .ok (.i2l, 1) := by decide +kernel
theorem dPb_mean_151 : decode (mC mPb_mean) 151 = .ok (.goto (6), 3) := by decide +kernel
theorem dPb_mean_154 : decode (mC mPb_mean) 154 = .ok (.ldc2_w 317, 3) := by decide +kernel
theorem dPb_mean_157 : decode (mC mPb_mean) 157 = .ok (.invokevirtual 319, 3) := by decide +kernel
theorem dPb_mean_160 : decode (mC mPb_mean) 160 = .ok (.aload_n 0, 1) := by decide +kernel
theorem dPb_mean_161 : decode (mC mPb_mean) 161 = .ok (.invokevirtual 92, 3) := by decide +kernel
theorem dPb_mean_164 : decode (mC mPb_mean) 164 = .ok (.ireturn, 1) := by decide +kernel
theorem bPb_mean_0 {E : mEn} {d : Nat} {σ : mSt} {Q : mPost} {a1 : Int32} {a2 : Int32} {a3 : Int32} {u4 : Value} {u5 : Value} {u6 : Value} : WP E (d + 1) mPb_mean 0 [.ref 0, .int a1, .int a2, .int a3, u4, u5, u6] [] σ Q = WP E d mTw_hasPerson 0 [.ref 10, .int a1] [] σ (fun r σ' => WP E (d + 1) mPb_mean 8 [.ref 0, .int a1, .int a2, .int a3, u4, u5, u6] (r.toList ++ []) σ' Q) := (w_aload_n dPb_mean_0 rfl).trans ((w_getr (r := 10) dPb_mean_1 rz10_26 sh_0 rfl).trans ((w_iload_n dPb_mean_4 rfl).trans (w_virt (vs := [.int a1]) (st' := []) (es := [.ref 10, .int a1]) dPb_mean_5 rz10_205 rfl sh_10 rfl rfl rfl (Nat.le_of_ble_eq_true rfl) (Nat.le_of_ble_eq_true rfl) rfl)))
theorem bPb_mean_8 {E : mEn} {d : Nat} {σ : mSt} {Q : mPost} {a1 : Int32} {a2 : Int32} {a3 : Int32} {u4 : Value} {u5 : Value} {u6 : Value} {s0 : Int32} : WP E d mPb_mean 8 [.ref 0, .int a1, .int a2, .int a3, u4, u5, u6] [.int s0] σ Q = (if s0 = 0 then WP E d mPb_mean 22 [.ref 0, .int a1, .int a2, .int a3, u4, u5, u6] [] σ Q else WP E d mPb_mean 11 [.ref 0, .int a1, .int a2, .int a3, u4, u5, u6] [] σ Q) := w_ifeq (t := 22) dPb_mean_8 (by decide)
theorem bPb_mean_11 {E : mEn} {d : Nat} {σ : mSt} {Q : mPost} {a1 : Int32} {a2 : Int32} {a3 : Int32} {u4 : Value} {u5 : Value} {u6 : Value} : WP E (d + 1) mPb_mean 11 [.ref 0, .int a1, .int a2, .int a3, u4, u5, u6] [] σ Q = WP E d mTw_hasLoaf 0 [.ref 10, .int a2] [] σ (fun r σ' => WP E (d + 1) mPb_mean 19 [.ref 0, .int a1, .int a2, .int a3, u4, u5, u6] (r.toList ++ []) σ' Q) := (w_aload_n dPb_mean_11 rfl).trans ((w_getr (r := 10) dPb_mean_12 rz10_26 sh_0 rfl).trans ((w_iload_n dPb_mean_15 rfl).trans (w_virt (vs := [.int a2]) (st' := []) (es := [.ref 10, .int a2]) dPb_mean_16 rz10_218 rfl sh_10 rfl rfl rfl (Nat.le_of_ble_eq_true rfl) (Nat.le_of_ble_eq_true rfl) rfl)))
theorem bPb_mean_19 {E : mEn} {d : Nat} {σ : mSt} {Q : mPost} {a1 : Int32} {a2 : Int32} {a3 : Int32} {u4 : Value} {u5 : Value} {u6 : Value} {s0 : Int32} : WP E d mPb_mean 19 [.ref 0, .int a1, .int a2, .int a3, u4, u5, u6] [.int s0] σ Q = (if ¬ s0 = 0 then WP E d mPb_mean 28 [.ref 0, .int a1, .int a2, .int a3, u4, u5, u6] [] σ Q else WP E d mPb_mean 22 [.ref 0, .int a1, .int a2, .int a3, u4, u5, u6] [] σ Q) := w_ifne (t := 28) dPb_mean_19 (by decide)
theorem bPb_mean_22 {E : mEn} {d : Nat} {σ : mSt} {Q : mPost} {a1 : Int32} {a2 : Int32} {a3 : Int32} {u4 : Value} {u5 : Value} {u6 : Value} : WP E (d + 1) mPb_mean 22 [.ref 0, .int a1, .int a2, .int a3, u4, u5, u6] [] σ Q = WP E d mPb_deny 0 [.ref 0, .int (nI 2)] [] σ (fun r σ' => WP E (d + 1) mPb_mean 27 [.ref 0, .int a1, .int a2, .int a3, u4, u5, u6] (r.toList ++ []) σ' Q) := (w_aload_n dPb_mean_22 rfl).trans ((w_iconst (v := (nI 2)) dPb_mean_23 rfl).trans (w_virt (vs := [.int (nI 2)]) (st' := []) (es := [.ref 0, .int (nI 2)]) dPb_mean_24 rz10_85 rfl sh_0 rfl rfl rfl (Nat.le_of_ble_eq_true rfl) (Nat.le_of_ble_eq_true rfl) rfl))
theorem bPb_mean_27 {E : mEn} {d : Nat} {σ : mSt} {Q : mPost} {a1 : Int32} {a2 : Int32} {a3 : Int32} {u4 : Value} {u5 : Value} {u6 : Value} {s0 : Int32} (hz0 : s0 = 0 ∨ s0 = 1) : WP E d mPb_mean 27 [.ref 0, .int a1, .int a2, .int a3, u4, u5, u6] [.int s0] σ Q = Q (some (.int s0)) σ := w_zret dPb_mean_27 rfl hz0
theorem bPb_mean_28 {E : mEn} {d : Nat} {σ : mSt} {Q : mPost} {a1 : Int32} {a2 : Int32} {a3 : Int32} {u4 : Value} {u5 : Value} {u6 : Value} : WP E d mPb_mean 28 [.ref 0, .int a1, .int a2, .int a3, u4, u5, u6] [] σ Q = (if a3 < 0 then WP E d mPb_mean 37 [.ref 0, .int a1, .int a2, .int a3, u4, u5, u6] [] σ Q else WP E d mPb_mean 32 [.ref 0, .int a1, .int a2, .int a3, u4, u5, u6] [] σ Q) := (w_iload_n dPb_mean_28 rfl).trans (w_iflt (t := 37) dPb_mean_29 (by decide))
theorem bPb_mean_32 {E : mEn} {d : Nat} {σ : mSt} {Q : mPost} {a1 : Int32} {a2 : Int32} {a3 : Int32} {u4 : Value} {u5 : Value} {u6 : Value} : WP E d mPb_mean 32 [.ref 0, .int a1, .int a2, .int a3, u4, u5, u6] [] σ Q = (if a3 ≤ 1 then WP E d mPb_mean 43 [.ref 0, .int a1, .int a2, .int a3, u4, u5, u6] [] σ Q else WP E d mPb_mean 37 [.ref 0, .int a1, .int a2, .int a3, u4, u5, u6] [] σ Q) := (w_iload_n dPb_mean_32 rfl).trans ((w_iconst (v := 1) dPb_mean_33 rfl).trans (w_icmple (t := 43) dPb_mean_34 (by decide)))
theorem bPb_mean_37 {E : mEn} {d : Nat} {σ : mSt} {Q : mPost} {a1 : Int32} {a2 : Int32} {a3 : Int32} {u4 : Value} {u5 : Value} {u6 : Value} : WP E (d + 1) mPb_mean 37 [.ref 0, .int a1, .int a2, .int a3, u4, u5, u6] [] σ Q = WP E d mPb_deny 0 [.ref 0, .int (nI 5)] [] σ (fun r σ' => WP E (d + 1) mPb_mean 42 [.ref 0, .int a1, .int a2, .int a3, u4, u5, u6] (r.toList ++ []) σ' Q) := (w_aload_n dPb_mean_37 rfl).trans ((w_iconst (v := (nI 5)) dPb_mean_38 rfl).trans (w_virt (vs := [.int (nI 5)]) (st' := []) (es := [.ref 0, .int (nI 5)]) dPb_mean_39 rz10_85 rfl sh_0 rfl rfl rfl (Nat.le_of_ble_eq_true rfl) (Nat.le_of_ble_eq_true rfl) rfl))
theorem bPb_mean_42 {E : mEn} {d : Nat} {σ : mSt} {Q : mPost} {a1 : Int32} {a2 : Int32} {a3 : Int32} {u4 : Value} {u5 : Value} {u6 : Value} {s0 : Int32} (hz0 : s0 = 0 ∨ s0 = 1) : WP E d mPb_mean 42 [.ref 0, .int a1, .int a2, .int a3, u4, u5, u6] [.int s0] σ Q = Q (some (.int s0)) σ := w_zret dPb_mean_42 rfl hz0
theorem bPb_mean_43 {E : mEn} {d : Nat} {σ : mSt} {Q : mPost} {a1 : Int32} {a2 : Int32} {a3 : Int32} {u4 : Value} {u5 : Value} {u6 : Value} : WP E (d + 1) mPb_mean 43 [.ref 0, .int a1, .int a2, .int a3, u4, u5, u6] [] σ Q = WP E d mTw_isPaper 0 [.ref 10, .int a2] [] σ (fun r σ' => WP E (d + 1) mPb_mean 51 [.ref 0, .int a1, .int a2, .int a3, u4, u5, u6] (r.toList ++ []) σ' Q) := (w_aload_n dPb_mean_43 rfl).trans ((w_getr (r := 10) dPb_mean_44 rz10_26 sh_0 rfl).trans ((w_iload_n dPb_mean_47 rfl).trans (w_virt (vs := [.int a2]) (st' := []) (es := [.ref 10, .int a2]) dPb_mean_48 rz10_224 rfl sh_10 rfl rfl rfl (Nat.le_of_ble_eq_true rfl) (Nat.le_of_ble_eq_true rfl) rfl)))
theorem bPb_mean_51 {E : mEn} {d : Nat} {σ : mSt} {Q : mPost} {a1 : Int32} {a2 : Int32} {a3 : Int32} {u4 : Value} {u5 : Value} {u6 : Value} {s0 : Int32} : WP E d mPb_mean 51 [.ref 0, .int a1, .int a2, .int a3, u4, u5, u6] [.int s0] σ Q = (if ¬ s0 = 0 then WP E d mPb_mean 65 [.ref 0, .int a1, .int a2, .int a3, u4, u5, u6] [] σ Q else WP E d mPb_mean 54 [.ref 0, .int a1, .int a2, .int a3, u4, u5, u6] [] σ Q) := w_ifne (t := 65) dPb_mean_51 (by decide)
theorem bPb_mean_54 {E : mEn} {d : Nat} {σ : mSt} {Q : mPost} {a1 : Int32} {a2 : Int32} {a3 : Int32} {u4 : Value} {u5 : Value} {u6 : Value} : WP E (d + 1) mPb_mean 54 [.ref 0, .int a1, .int a2, .int a3, u4, u5, u6] [] σ Q = WP E d mTw_isBaked 0 [.ref 10, .int a2] [] σ (fun r σ' => WP E (d + 1) mPb_mean 62 [.ref 0, .int a1, .int a2, .int a3, u4, u5, u6] (r.toList ++ []) σ' Q) := (w_aload_n dPb_mean_54 rfl).trans ((w_getr (r := 10) dPb_mean_55 rz10_26 sh_0 rfl).trans ((w_iload_n dPb_mean_58 rfl).trans (w_virt (vs := [.int a2]) (st' := []) (es := [.ref 10, .int a2]) dPb_mean_59 rz10_239 rfl sh_10 rfl rfl rfl (Nat.le_of_ble_eq_true rfl) (Nat.le_of_ble_eq_true rfl) rfl)))
theorem bPb_mean_62 {E : mEn} {d : Nat} {σ : mSt} {Q : mPost} {a1 : Int32} {a2 : Int32} {a3 : Int32} {u4 : Value} {u5 : Value} {u6 : Value} {s0 : Int32} : WP E d mPb_mean 62 [.ref 0, .int a1, .int a2, .int a3, u4, u5, u6] [.int s0] σ Q = (if s0 = 0 then WP E d mPb_mean 72 [.ref 0, .int a1, .int a2, .int a3, u4, u5, u6] [] σ Q else WP E d mPb_mean 65 [.ref 0, .int a1, .int a2, .int a3, u4, u5, u6] [] σ Q) := w_ifeq (t := 72) dPb_mean_62 (by decide)
theorem bPb_mean_65 {E : mEn} {d : Nat} {σ : mSt} {Q : mPost} {a1 : Int32} {a2 : Int32} {a3 : Int32} {u4 : Value} {u5 : Value} {u6 : Value} : WP E (d + 1) mPb_mean 65 [.ref 0, .int a1, .int a2, .int a3, u4, u5, u6] [] σ Q = WP E d mPb_deny 0 [.ref 0, .int (nI 9)] [] σ (fun r σ' => WP E (d + 1) mPb_mean 71 [.ref 0, .int a1, .int a2, .int a3, u4, u5, u6] (r.toList ++ []) σ' Q) := (w_aload_n dPb_mean_65 rfl).trans ((w_bipush (v := (nI 9)) dPb_mean_66 rfl).trans (w_virt (vs := [.int (nI 9)]) (st' := []) (es := [.ref 0, .int (nI 9)]) dPb_mean_68 rz10_85 rfl sh_0 rfl rfl rfl (Nat.le_of_ble_eq_true rfl) (Nat.le_of_ble_eq_true rfl) rfl))
theorem bPb_mean_71 {E : mEn} {d : Nat} {σ : mSt} {Q : mPost} {a1 : Int32} {a2 : Int32} {a3 : Int32} {u4 : Value} {u5 : Value} {u6 : Value} {s0 : Int32} (hz0 : s0 = 0 ∨ s0 = 1) : WP E d mPb_mean 71 [.ref 0, .int a1, .int a2, .int a3, u4, u5, u6] [.int s0] σ Q = Q (some (.int s0)) σ := w_zret dPb_mean_71 rfl hz0
theorem bPb_mean_72 {E : mEn} {d : Nat} {σ : mSt} {Q : mPost} {a1 : Int32} {a2 : Int32} {a3 : Int32} {u4 : Value} {u5 : Value} {u6 : Value} : WP E (d + 1) mPb_mean 72 [.ref 0, .int a1, .int a2, .int a3, u4, u5, u6] [] σ Q = WP E d mTw_rainOn 0 [.ref 10, .int a2, uu] [] σ (fun r σ' => WP E (d + 1) mPb_mean 80 [.ref 0, .int a1, .int a2, .int a3, u4, u5, u6] (r.toList ++ []) σ' Q) := (w_aload_n dPb_mean_72 rfl).trans ((w_getr (r := 10) dPb_mean_73 rz10_26 sh_0 rfl).trans ((w_iload_n dPb_mean_76 rfl).trans (w_virt (vs := [.int a2]) (st' := []) (es := [.ref 10, .int a2, uu]) dPb_mean_77 rz10_314 rfl sh_10 rfl rfl rfl (Nat.le_of_ble_eq_true rfl) (Nat.le_of_ble_eq_true rfl) rfl)))
theorem bPb_mean_80 {E : mEn} {d : Nat} {σ : mSt} {Q : mPost} {a1 : Int32} {a2 : Int32} {a3 : Int32} {u4 : Value} {u5 : Value} {u6 : Value} {s0 : Int32} : WP E (d + 1) mPb_mean 80 [.ref 0, .int a1, .int a2, .int a3, u4, u5, u6] [.int s0] σ Q = WP E d mPb_wouldGet 0 [.ref 0, .int a1, .int a2, .int 1] [] σ (fun r σ' => WP E (d + 1) mPb_mean 91 [.ref 0, .int a1, .int a2, .int a3, .int s0, u5, u6] (r.toList ++ [.int s0]) σ' Q) := (w_istore (ls' := [.ref 0, .int a1, .int a2, .int a3, .int s0, u5, u6]) dPb_mean_80 (Nat.le_of_ble_eq_true rfl) rfl).trans ((w_iload dPb_mean_82 rfl).trans ((w_aload_n dPb_mean_84 rfl).trans ((w_iload_n dPb_mean_85 rfl).trans ((w_iload_n dPb_mean_86 rfl).trans ((w_iconst (v := 1) dPb_mean_87 rfl).trans (w_virt (vs := [.int a1, .int a2, .int 1]) (st' := [.int s0]) (es := [.ref 0, .int a1, .int a2, .int 1]) dPb_mean_88 rz10_303 rfl sh_0 rfl rfl rfl (Nat.le_of_ble_eq_true rfl) (Nat.le_of_ble_eq_true rfl) rfl))))))
theorem bPb_mean_91 {E : mEn} {d : Nat} {σ : mSt} {Q : mPost} {a1 : Int32} {a2 : Int32} {a3 : Int32} {a4 : Int32} {u5 : Value} {u6 : Value} {s0 : Int32} {s1 : Int32} : WP E (d + 1) mPb_mean 91 [.ref 0, .int a1, .int a2, .int a3, .int a4, u5, u6] [.int s0, .int s1] σ Q = WP E d mPb_wouldGet 0 [.ref 0, .int a1, .int a2, .int 0] [] σ (fun r σ' => WP E (d + 1) mPb_mean 104 [.ref 0, .int a1, .int a2, .int a3, .int a4, u5, u6] (r.toList ++ [.int ((nI 16) - a4), .int (s1 * s0)]) σ' Q) := (w_imul dPb_mean_91).trans ((w_bipush (v := (nI 16)) dPb_mean_92 rfl).trans ((w_iload dPb_mean_94 rfl).trans ((w_isub dPb_mean_96).trans ((w_aload_n dPb_mean_97 rfl).trans ((w_iload_n dPb_mean_98 rfl).trans ((w_iload_n dPb_mean_99 rfl).trans ((w_iconst (v := 0) dPb_mean_100 rfl).trans (w_virt (vs := [.int a1, .int a2, .int 0]) (st' := [.int ((nI 16) - a4), .int (s1 * s0)]) (es := [.ref 0, .int a1, .int a2, .int 0]) dPb_mean_101 rz10_303 rfl sh_0 rfl rfl rfl (Nat.le_of_ble_eq_true rfl) (Nat.le_of_ble_eq_true rfl) rfl))))))))
theorem bPb_mean_104 {E : mEn} {d : Nat} {σ : mSt} {Q : mPost} {a1 : Int32} {a2 : Int32} {a3 : Int32} {a4 : Int32} {u5 : Value} {u6 : Value} {s0 : Int32} {s1 : Int32} {s2 : Int32} : WP E d mPb_mean 104 [.ref 0, .int a1, .int a2, .int a3, .int a4, u5, u6] [.int s0, .int s1, .int s2] σ Q = (if mOut a1 8 = true then False else (if ¬ a3 = 1 then WP E d mPb_mean 136 [.ref 0, .int a1, .int a2, .int a3, .int a4, .int (s2 + (s1 * s0)), .int (σ.1 62 a1.toNatClampNeg)] [] σ Q else WP E d mPb_mean 124 [.ref 0, .int a1, .int a2, .int a3, .int a4, .int (s2 + (s1 * s0)), .int (σ.1 62 a1.toNatClampNeg)] [] σ Q)) := (w_imul dPb_mean_104).trans ((w_iadd dPb_mean_105).trans ((w_istore (ls' := [.ref 0, .int a1, .int a2, .int a3, .int a4, .int (s2 + (s1 * s0)), u6]) dPb_mean_106 (Nat.le_of_ble_eq_true rfl) rfl).trans ((w_aload_n dPb_mean_108 rfl).trans ((w_getr (r := 61) dPb_mean_109 rz10_40 sh_0 rfl).trans ((w_getr (r := 62) dPb_mean_112 rz10_269 sh_61 rfl).trans ((w_iload_n dPb_mean_115 rfl).trans ((w_iald dPb_mean_116 sh_62 (by decide)).trans (ite_c ((w_istore (ls' := [.ref 0, .int a1, .int a2, .int a3, .int a4, .int (s2 + (s1 * s0)), .int (σ.1 62 a1.toNatClampNeg)]) dPb_mean_117 (Nat.le_of_ble_eq_true rfl) rfl).trans ((w_iload_n dPb_mean_119 rfl).trans ((w_iconst (v := 1) dPb_mean_120 rfl).trans (w_icmpne (t := 136) dPb_mean_121 (by decide)))))))))))))
theorem bPb_mean_124 {E : mEn} {d : Nat} {σ : mSt} {Q : mPost} {a1 : Int32} {a2 : Int32} {a3 : Int32} {a4 : Int32} {a5 : Int32} {a6 : Int32} : WP E d mPb_mean 124 [.ref 0, .int a1, .int a2, .int a3, .int a4, .int a5, .int a6] [] σ Q = (if 0 < a6 then WP E d mPb_mean 136 [.ref 0, .int a1, .int a2, .int a3, .int a4, .int a5, .int a6] [] σ Q else WP E d mPb_mean 129 [.ref 0, .int a1, .int a2, .int a3, .int a4, .int a5, .int a6] [] σ Q) := (w_iload dPb_mean_124 rfl).trans (w_ifgt (t := 136) dPb_mean_126 (by decide))
theorem bPb_mean_129 {E : mEn} {d : Nat} {σ : mSt} {Q : mPost} {a1 : Int32} {a2 : Int32} {a3 : Int32} {a4 : Int32} {a5 : Int32} {a6 : Int32} : WP E (d + 1) mPb_mean 129 [.ref 0, .int a1, .int a2, .int a3, .int a4, .int a5, .int a6] [] σ Q = WP E d mPb_deny 0 [.ref 0, .int (nI 8)] [] σ (fun r σ' => WP E (d + 1) mPb_mean 135 [.ref 0, .int a1, .int a2, .int a3, .int a4, .int a5, .int a6] (r.toList ++ []) σ' Q) := (w_aload_n dPb_mean_129 rfl).trans ((w_bipush (v := (nI 8)) dPb_mean_130 rfl).trans (w_virt (vs := [.int (nI 8)]) (st' := []) (es := [.ref 0, .int (nI 8)]) dPb_mean_132 rz10_85 rfl sh_0 rfl rfl rfl (Nat.le_of_ble_eq_true rfl) (Nat.le_of_ble_eq_true rfl) rfl))
theorem bPb_mean_135 {E : mEn} {d : Nat} {σ : mSt} {Q : mPost} {a1 : Int32} {a2 : Int32} {a3 : Int32} {a4 : Int32} {a5 : Int32} {a6 : Int32} {s0 : Int32} (hz0 : s0 = 0 ∨ s0 = 1) : WP E d mPb_mean 135 [.ref 0, .int a1, .int a2, .int a3, .int a4, .int a5, .int a6] [.int s0] σ Q = Q (some (.int s0)) σ := w_zret dPb_mean_135 rfl hz0
theorem bPb_mean_136 {E : mEn} {d : Nat} {σ : mSt} {Q : mPost} {a1 : Int32} {a2 : Int32} {a3 : Int32} {a4 : Int32} {a5 : Int32} {a6 : Int32} : WP E d mPb_mean 136 [.ref 0, .int a1, .int a2, .int a3, .int a4, .int a5, .int a6] [] σ Q = (if ¬ a3 = 1 then WP E d mPb_mean 154 [.ref 0, .int a1, .int a2, .int a3, .int a4, .int a5, .int a6] [.long (a5.toInt64), .ref 0] σ Q else WP E d mPb_mean 145 [.ref 0, .int a1, .int a2, .int a3, .int a4, .int a5, .int a6] [.long (a5.toInt64), .ref 0] σ Q) := (w_aload_n dPb_mean_136 rfl).trans ((w_iload dPb_mean_137 rfl).trans ((w_i2l dPb_mean_139).trans ((w_iload_n dPb_mean_140 rfl).trans ((w_iconst (v := 1) dPb_mean_141 rfl).trans (w_icmpne (t := 154) dPb_mean_142 (by decide))))))
theorem bPb_mean_145 {E : mEn} {d : Nat} {σ : mSt} {Q : mPost} {a1 : Int32} {a2 : Int32} {a3 : Int32} {a4 : Int32} {a5 : Int32} {a6 : Int32} {q0 : Int64} : WP E d mPb_mean 145 [.ref 0, .int a1, .int a2, .int a3, .int a4, .int a5, .int a6] [.long q0, .ref 0] σ Q = WP E d mPb_mean 157 [.ref 0, .int a1, .int a2, .int a3, .int a4, .int a5, .int a6] [.long (((nI 16) * a6).toInt64), .long q0, .ref 0] σ Q := (w_bipush (v := (nI 16)) dPb_mean_145 rfl).trans ((w_iload dPb_mean_147 rfl).trans ((w_imul dPb_mean_149).trans ((w_i2l dPb_mean_150).trans (w_goto (t := 157) dPb_mean_151 (by decide)))))
theorem bPb_mean_154 {E : mEn} {d : Nat} {σ : mSt} {Q : mPost} {a1 : Int32} {a2 : Int32} {a3 : Int32} {a4 : Int32} {a5 : Int32} {a6 : Int32} {q0 : Int64} : WP E d mPb_mean 154 [.ref 0, .int a1, .int a2, .int a3, .int a4, .int a5, .int a6] [.long q0, .ref 0] σ Q = WP E d mPb_mean 157 [.ref 0, .int a1, .int a2, .int a3, .int a4, .int a5, .int a6] [.long (16), .long q0, .ref 0] σ Q := w_ldc2_w dPb_mean_154 rz10_317
theorem bPb_mean_157 {E : mEn} {d : Nat} {σ : mSt} {Q : mPost} {a1 : Int32} {a2 : Int32} {a3 : Int32} {a4 : Int32} {a5 : Int32} {a6 : Int32} {q0 : Int64} {q1 : Int64} : WP E (d + 1) mPb_mean 157 [.ref 0, .int a1, .int a2, .int a3, .int a4, .int a5, .int a6] [.long q0, .long q1, .ref 0] σ Q = WP E d mPb_tell 0 [.ref 0, .long q1, uu, .long q0, uu, uu, uu, uu, uu, uu, uu, uu] [] σ (fun r σ' => WP E (d + 1) mPb_mean 160 [.ref 0, .int a1, .int a2, .int a3, .int a4, .int a5, .int a6] (r.toList ++ []) σ' Q) := w_virt (vs := [.long q1, .long q0]) (st' := []) (es := [.ref 0, .long q1, uu, .long q0, uu, uu, uu, uu, uu, uu, uu, uu]) dPb_mean_157 rz10_319 rfl sh_0 rfl rfl rfl (Nat.le_of_ble_eq_true rfl) (Nat.le_of_ble_eq_true rfl) rfl
theorem bPb_mean_160 {E : mEn} {d : Nat} {σ : mSt} {Q : mPost} {a1 : Int32} {a2 : Int32} {a3 : Int32} {a4 : Int32} {a5 : Int32} {a6 : Int32} : WP E (d + 1) mPb_mean 160 [.ref 0, .int a1, .int a2, .int a3, .int a4, .int a5, .int a6] [] σ Q = WP E d mPb_grant 0 [.ref 0] [] σ (fun r σ' => WP E (d + 1) mPb_mean 164 [.ref 0, .int a1, .int a2, .int a3, .int a4, .int a5, .int a6] (r.toList ++ []) σ' Q) := (w_aload_n dPb_mean_160 rfl).trans (w_virt (vs := []) (st' := []) (es := [.ref 0]) dPb_mean_161 rz10_92 rfl sh_0 rfl rfl rfl (Nat.le_of_ble_eq_true rfl) (Nat.le_of_ble_eq_true rfl) rfl)
theorem bPb_mean_164 {E : mEn} {d : Nat} {σ : mSt} {Q : mPost} {a1 : Int32} {a2 : Int32} {a3 : Int32} {a4 : Int32} {a5 : Int32} {a6 : Int32} {s0 : Int32} (hz0 : s0 = 0 ∨ s0 = 1) : WP E d mPb_mean 164 [.ref 0, .int a1, .int a2, .int a3, .int a4, .int a5, .int a6] [.int s0] σ Q = Q (some (.int s0)) σ := w_zret dPb_mean_164 rfl hz0
theorem dPb_tell_0 : decode (mC mPb_tell) 0 = .ok (.lload_n 1, 1) := by decide +kernel
theorem dPb_tell_1 : decode (mC mPb_tell) 1 = .ok (.lstore 5, 2) := by decide +kernel
theorem dPb_tell_3 : decode (mC mPb_tell) 3 = .ok (.lload_n 3, 1) := by decide +kernel
theorem dPb_tell_4 : decode (mC mPb_tell) 4 = .ok (.lstore 7, 2) := by decide +kernel
theorem dPb_tell_6 : decode (mC mPb_tell) 6 = .ok (.iconst (0), 1) := by decide +kernel
theorem dPb_tell_7 : decode (mC mPb_tell) 7 = .ok (.istore 9, 2) := by decide +kernel
theorem dPb_tell_9 : decode (mC mPb_tell) 9 = .ok (.iload 9, 2) := by decide +kernel
theorem dPb_tell_11 : decode (mC mPb_tell) 11 = .ok (.bipush (100), 2) := by decide +kernel
theorem dPb_tell_13 : decode (mC mPb_tell) 13 = .ok (.if_icmp .ge (31), 3) := by decide +kernel
theorem dPb_tell_16 : decode (mC mPb_tell) 16 = .ok (.lload 7, 2) := by decide +kernel
theorem dPb_tell_18 : decode (mC mPb_tell) 18 = .ok (.lconst 0, 1) := by decide +kernel
theorem dPb_tell_19 : decode (mC mPb_tell) 19 = .ok (.lcmp, 1) := by decide +kernel
theorem dPb_tell_20 : decode (mC mPb_tell) 20 = .ok (.ifCond .eq (24), 3) := by decide +kernel
theorem dPb_tell_23 : decode (mC mPb_tell) 23 = .ok (.lload 5, 2) := by decide +kernel
theorem dPb_tell_25 : decode (mC mPb_tell) 25 = .ok (.lload 7, 2) := by decide +kernel
theorem dPb_tell_27 : decode (mC mPb_tell) 27 = .ok (.lrem, 1) := by decide +kernel
theorem dPb_tell_28 : decode (mC mPb_tell) 28 = .ok (.lstore 10, 2) := by decide +kernel
theorem dPb_tell_30 : decode (mC mPb_tell) 30 = .ok (.lload 7, 2) := by decide +kernel
theorem dPb_tell_32 : decode (mC mPb_tell) 32 = .ok (.lstore 5, 2) := by decide +kernel
theorem dPb_tell_34 : decode (mC mPb_tell) 34 = .ok (.lload 10, 2) := by decide +kernel
theorem dPb_tell_36 : decode (mC mPb_tell) 36 = .ok (.lstore 7, 2) := by decide +kernel
theorem dPb_tell_38 : decode (mC mPb_tell) 38 = .ok (.iinc 9 (1), 3) := by decide +kernel
theorem dPb_tell_41 : decode (mC mPb_tell) 41 = .ok (.goto (-32), 3) := by decide +kernel
theorem dPb_tell_44 : decode (mC mPb_tell) 44 = .ok (.lload 5, 2) := by decide +kernel
theorem dPb_tell_46 : decode (mC mPb_tell) 46 = .ok (.lconst 0, 1) := by decide +kernel
theorem dPb_tell_47 : decode (mC mPb_tell) 47 = .ok (.lcmp, 1) := by decide +kernel
theorem dPb_tell_48 : decode (mC mPb_tell) 48 = .ok (.ifCond .gt (4), 3) := by decide +kernel
theorem dPb_tell_51 : decode (mC mPb_tell) 51 = .ok (.return_, 1) := by decide +kernel
theorem dPb_tell_52 : decode (mC mPb_tell) 52 = .ok (.aload_n 0, 1) := by decide +kernel
theorem dPb_tell_53 : decode (mC mPb_tell) 53 = .ok (.lload_n 1, 1) := by decide +kernel
theorem dPb_tell_54 : decode (mC mPb_tell) 54 = .ok (.lload 5, 2) := by decide +kernel
theorem dPb_tell_56 : decode (mC mPb_tell) 56 = .ok (.ldiv, 1) := by decide +kernel
theorem dPb_tell_57 : decode (mC mPb_tell) 57 = .ok (.putfield 75, 3) := by decide +kernel
theorem dPb_tell_60 : decode (mC mPb_tell) 60 = .ok (.aload_n 0, 1) := by decide +kernel
theorem dPb_tell_61 : decode (mC mPb_tell) 61 = .ok (.lload_n 3, 1) := by decide +kernel
theorem dPb_tell_62 : decode (mC mPb_tell) 62 = .ok (.lload 5, 2) := by decide +kernel
theorem dPb_tell_64 : decode (mC mPb_tell) 64 = .ok (.ldiv, 1) := by decide +kernel
theorem dPb_tell_65 : decode (mC mPb_tell) 65 = .ok (.putfield 61, 3) := by decide +kernel
theorem dPb_tell_68 : decode (mC mPb_tell) 68 = .ok (.return_, 1) := by decide +kernel
theorem bPb_tell_0 {E : mEn} {d : Nat} {σ : mSt} {Q : mPost} {j1 : Int64} {j3 : Int64} {u5 : Value} {u6 : Value} {u7 : Value} {u8 : Value} {u9 : Value} {u10 : Value} {u11 : Value} : WP E d mPb_tell 0 [.ref 0, .long j1, uu, .long j3, uu, u5, u6, u7, u8, u9, u10, u11] [] σ Q = WP E d mPb_tell 9 [.ref 0, .long j1, uu, .long j3, uu, .long j1, uu, .long j3, uu, .int 0, u10, u11] [] σ Q := (w_lload_n dPb_tell_0 rfl).trans ((w_lstore (ls' := [.ref 0, .long j1, uu, .long j3, uu, .long j1, uu, u7, u8, u9, u10, u11]) dPb_tell_1 (Nat.le_of_ble_eq_true rfl) rfl).trans ((w_lload_n dPb_tell_3 rfl).trans ((w_lstore (ls' := [.ref 0, .long j1, uu, .long j3, uu, .long j1, uu, .long j3, uu, u9, u10, u11]) dPb_tell_4 (Nat.le_of_ble_eq_true rfl) rfl).trans ((w_iconst (v := 0) dPb_tell_6 rfl).trans (w_istore (ls' := [.ref 0, .long j1, uu, .long j3, uu, .long j1, uu, .long j3, uu, .int 0, u10, u11]) dPb_tell_7 (Nat.le_of_ble_eq_true rfl) rfl)))))
theorem bPb_tell_9 {E : mEn} {d : Nat} {σ : mSt} {Q : mPost} {j1 : Int64} {j3 : Int64} {j5 : Int64} {j7 : Int64} {a9 : Int32} {u10 : Value} {u11 : Value} : WP E d mPb_tell 9 [.ref 0, .long j1, uu, .long j3, uu, .long j5, uu, .long j7, uu, .int a9, u10, u11] [] σ Q = (if (nI 100) ≤ a9 then WP E d mPb_tell 44 [.ref 0, .long j1, uu, .long j3, uu, .long j5, uu, .long j7, uu, .int a9, u10, u11] [] σ Q else WP E d mPb_tell 16 [.ref 0, .long j1, uu, .long j3, uu, .long j5, uu, .long j7, uu, .int a9, u10, u11] [] σ Q) := (w_iload dPb_tell_9 rfl).trans ((w_bipush (v := (nI 100)) dPb_tell_11 rfl).trans (w_icmpge (t := 44) dPb_tell_13 (by decide)))
theorem bPb_tell_16 {E : mEn} {d : Nat} {σ : mSt} {Q : mPost} {j1 : Int64} {j3 : Int64} {j5 : Int64} {j7 : Int64} {a9 : Int32} {u10 : Value} {u11 : Value} : WP E d mPb_tell 16 [.ref 0, .long j1, uu, .long j3, uu, .long j5, uu, .long j7, uu, .int a9, u10, u11] [] σ Q = (if (lg_cmp j7 0) = 0 then WP E d mPb_tell 44 [.ref 0, .long j1, uu, .long j3, uu, .long j5, uu, .long j7, uu, .int a9, u10, u11] [] σ Q else WP E d mPb_tell 23 [.ref 0, .long j1, uu, .long j3, uu, .long j5, uu, .long j7, uu, .int a9, u10, u11] [] σ Q) := (w_lload dPb_tell_16 rfl).trans ((w_lconst (v := 0) dPb_tell_18 rfl).trans ((w_lcmp dPb_tell_19).trans (w_ifeq (t := 44) dPb_tell_20 (by decide))))
theorem bPb_tell_23 {E : mEn} {d : Nat} {σ : mSt} {Q : mPost} {j1 : Int64} {j3 : Int64} {j5 : Int64} {j7 : Int64} {a9 : Int32} {u10 : Value} {u11 : Value} : WP E d mPb_tell 23 [.ref 0, .long j1, uu, .long j3, uu, .long j5, uu, .long j7, uu, .int a9, u10, u11] [] σ Q = (if j7 = 0 then False else WP E d mPb_tell 9 [.ref 0, .long j1, uu, .long j3, uu, .long j7, uu, .long (j5 - j5 / j7 * j7), uu, .int (a9 + 1), .long (j5 - j5 / j7 * j7), uu] [] σ Q) := (w_lload dPb_tell_23 rfl).trans ((w_lload dPb_tell_25 rfl).trans ((w_lrem dPb_tell_27).trans (ite_c ((w_lstore (ls' := [.ref 0, .long j1, uu, .long j3, uu, .long j5, uu, .long j7, uu, .int a9, .long (j5 - j5 / j7 * j7), uu]) dPb_tell_28 (Nat.le_of_ble_eq_true rfl) rfl).trans ((w_lload dPb_tell_30 rfl).trans ((w_lstore (ls' := [.ref 0, .long j1, uu, .long j3, uu, .long j7, uu, .long j7, uu, .int a9, .long (j5 - j5 / j7 * j7), uu]) dPb_tell_32 (Nat.le_of_ble_eq_true rfl) rfl).trans ((w_lload dPb_tell_34 rfl).trans ((w_lstore (ls' := [.ref 0, .long j1, uu, .long j3, uu, .long j7, uu, .long (j5 - j5 / j7 * j7), uu, .int a9, .long (j5 - j5 / j7 * j7), uu]) dPb_tell_36 (Nat.le_of_ble_eq_true rfl) rfl).trans ((w_iinc (v := 1) (ls' := [.ref 0, .long j1, uu, .long j3, uu, .long j7, uu, .long (j5 - j5 / j7 * j7), uu, .int (a9 + 1), .long (j5 - j5 / j7 * j7), uu]) dPb_tell_38 rfl rfl rfl).trans (w_goto (t := 9) dPb_tell_41 (by decide)))))))))))
theorem bPb_tell_44 {E : mEn} {d : Nat} {σ : mSt} {Q : mPost} {j1 : Int64} {j3 : Int64} {j5 : Int64} {j7 : Int64} {a9 : Int32} {u10 : Value} {u11 : Value} : WP E d mPb_tell 44 [.ref 0, .long j1, uu, .long j3, uu, .long j5, uu, .long j7, uu, .int a9, u10, u11] [] σ Q = (if 0 < (lg_cmp j5 0) then WP E d mPb_tell 52 [.ref 0, .long j1, uu, .long j3, uu, .long j5, uu, .long j7, uu, .int a9, u10, u11] [] σ Q else WP E d mPb_tell 51 [.ref 0, .long j1, uu, .long j3, uu, .long j5, uu, .long j7, uu, .int a9, u10, u11] [] σ Q) := (w_lload dPb_tell_44 rfl).trans ((w_lconst (v := 0) dPb_tell_46 rfl).trans ((w_lcmp dPb_tell_47).trans (w_ifgt (t := 52) dPb_tell_48 (by decide))))
theorem bPb_tell_51 {E : mEn} {d : Nat} {σ : mSt} {Q : mPost} {j1 : Int64} {j3 : Int64} {j5 : Int64} {j7 : Int64} {a9 : Int32} {u10 : Value} {u11 : Value} : WP E d mPb_tell 51 [.ref 0, .long j1, uu, .long j3, uu, .long j5, uu, .long j7, uu, .int a9, u10, u11] [] σ Q = Q none σ := w_vret dPb_tell_51 rfl
theorem bPb_tell_52 {E : mEn} {d : Nat} {σ : mSt} {Q : mPost} {j1 : Int64} {j3 : Int64} {j5 : Int64} {j7 : Int64} {a9 : Int32} {u10 : Value} {u11 : Value} : WP E d mPb_tell 52 [.ref 0, .long j1, uu, .long j3, uu, .long j5, uu, .long j7, uu, .int a9, u10, u11] [] σ Q = (if j5 = 0 then False else (if j5 = 0 then False else Q none (sL (sL σ 0 11 (j1 / j5)) 0 12 (j3 / j5)))) := (w_aload_n dPb_tell_52 rfl).trans ((w_lload_n dPb_tell_53 rfl).trans ((w_lload dPb_tell_54 rfl).trans ((w_ldiv dPb_tell_56).trans (ite_c ((w_putl dPb_tell_57 rz10_75 sh_0 rfl rfl rfl).trans ((w_aload_n dPb_tell_60 rfl).trans ((w_lload_n dPb_tell_61 rfl).trans ((w_lload dPb_tell_62 rfl).trans ((w_ldiv dPb_tell_64).trans (ite_c ((w_putl dPb_tell_65 rz10_61 sh_0 rfl rfl rfl).trans (w_vret dPb_tell_68 rfl))))))))))))
theorem dPb_net_0 : decode (mC mPb_net) 0 = .ok (.aload_n 0, 1) := by decide +kernel
theorem dPb_net_1 : decode (mC mPb_net) 1 = .ok (.getfield 26, 3) := by decide +kernel
theorem dPb_net_4 : decode (mC mPb_net) 4 = .ok (.iload_n 1, 1) := by decide +kernel
theorem dPb_net_5 : decode (mC mPb_net) 5 = .ok (.invokevirtual 205, 3) := by decide +kernel
theorem dPb_net_8 : decode (mC mPb_net) 8 = .ok (.ifCond .ne (9), 3) := by decide +kernel
theorem dPb_net_11 : decode (mC mPb_net) 11 = .ok (.aload_n 0, 1) := by decide +kernel
theorem dPb_net_12 : decode (mC mPb_net) 12 = .ok (.iconst (2), 1) := by decide +kernel
theorem dPb_net_13 : decode (mC mPb_net) 13 = .ok (.invokevirtual 104, 3) := by decide +kernel
theorem dPb_net_16 : decode (mC mPb_net) 16 = .ok (.ireturn, 1) := by decide +kernel
theorem dPb_net_17 : decode (mC mPb_net) 17 = .ok (.aload_n 0, 1) := by decide +kernel
theorem dPb_net_18 : decode (mC mPb_net) 18 = .ok (.aload_n 0, 1) := by decide +kernel
theorem dPb_net_19 : decode (mC mPb_net) 19 = .ok (.getfield 26, 3) := by decide +kernel
theorem dPb_net_22 : decode (mC mPb_net) 22 = .ok (.getfield 187, 3) := by decide +kernel
theorem dPb_net_25 : decode (mC mPb_net) 25 = .ok (.iload_n 1, 1) := by decide +kernel
theorem dPb_net_26 : decode (mC mPb_net) 26 = .ok (.invokevirtual 323, 3) := by decide +kernel
theorem dPb_net_29 : decode (mC mPb_net) 29 = .ok (.invokevirtual 157, 3) := by decide +kernel
theorem dPb_net_32 : decode (mC mPb_net) 32 = .ok (.ireturn, 1) := by decide +kernel
theorem bPb_net_0 {E : mEn} {d : Nat} {σ : mSt} {Q : mPost} {a1 : Int32} : WP E (d + 1) mPb_net 0 [.ref 0, .int a1] [] σ Q = WP E d mTw_hasPerson 0 [.ref 10, .int a1] [] σ (fun r σ' => WP E (d + 1) mPb_net 8 [.ref 0, .int a1] (r.toList ++ []) σ' Q) := (w_aload_n dPb_net_0 rfl).trans ((w_getr (r := 10) dPb_net_1 rz10_26 sh_0 rfl).trans ((w_iload_n dPb_net_4 rfl).trans (w_virt (vs := [.int a1]) (st' := []) (es := [.ref 10, .int a1]) dPb_net_5 rz10_205 rfl sh_10 rfl rfl rfl (Nat.le_of_ble_eq_true rfl) (Nat.le_of_ble_eq_true rfl) rfl)))
theorem bPb_net_8 {E : mEn} {d : Nat} {σ : mSt} {Q : mPost} {a1 : Int32} {s0 : Int32} : WP E d mPb_net 8 [.ref 0, .int a1] [.int s0] σ Q = (if ¬ s0 = 0 then WP E d mPb_net 17 [.ref 0, .int a1] [] σ Q else WP E d mPb_net 11 [.ref 0, .int a1] [] σ Q) := w_ifne (t := 17) dPb_net_8 (by decide)
theorem bPb_net_11 {E : mEn} {d : Nat} {σ : mSt} {Q : mPost} {a1 : Int32} : WP E (d + 1) mPb_net 11 [.ref 0, .int a1] [] σ Q = WP E d mPb_refuse 0 [.ref 0, .int (nI 2)] [] σ (fun r σ' => WP E (d + 1) mPb_net 16 [.ref 0, .int a1] (r.toList ++ []) σ' Q) := (w_aload_n dPb_net_11 rfl).trans ((w_iconst (v := (nI 2)) dPb_net_12 rfl).trans (w_virt (vs := [.int (nI 2)]) (st' := []) (es := [.ref 0, .int (nI 2)]) dPb_net_13 rz10_104 rfl sh_0 rfl rfl rfl (Nat.le_of_ble_eq_true rfl) (Nat.le_of_ble_eq_true rfl) rfl))
theorem bPb_net_16 {E : mEn} {d : Nat} {σ : mSt} {Q : mPost} {a1 : Int32} {s0 : Int32} : WP E d mPb_net 16 [.ref 0, .int a1] [.int s0] σ Q = Q (some (.int s0)) σ := w_iret dPb_net_16 rfl
theorem bPb_net_17 {E : mEn} {d : Nat} {σ : mSt} {Q : mPost} {a1 : Int32} : WP E (d + 1) mPb_net 17 [.ref 0, .int a1] [] σ Q = WP E d mPr_surplus 0 [.ref 13, .int a1, uu, uu] [] σ (fun r σ' => WP E (d + 1) mPb_net 29 [.ref 0, .int a1] (r.toList ++ [.ref 0]) σ' Q) := (w_aload_n dPb_net_17 rfl).trans ((w_aload_n dPb_net_18 rfl).trans ((w_getr (r := 10) dPb_net_19 rz10_26 sh_0 rfl).trans ((w_getr (r := 13) dPb_net_22 rz10_187 sh_10 rfl).trans ((w_iload_n dPb_net_25 rfl).trans (w_virt (vs := [.int a1]) (st' := [.ref 0]) (es := [.ref 13, .int a1, uu, uu]) dPb_net_26 rz10_323 rfl sh_13 rfl rfl rfl (Nat.le_of_ble_eq_true rfl) (Nat.le_of_ble_eq_true rfl) rfl)))))
theorem bPb_net_29 {E : mEn} {d : Nat} {σ : mSt} {Q : mPost} {a1 : Int32} {s0 : Int32} : WP E (d + 1) mPb_net 29 [.ref 0, .int a1] [.int s0, .ref 0] σ Q = WP E d mPb_answer 0 [.ref 0, .int s0] [] σ (fun r σ' => WP E (d + 1) mPb_net 32 [.ref 0, .int a1] (r.toList ++ []) σ' Q) := w_virt (vs := [.int s0]) (st' := []) (es := [.ref 0, .int s0]) dPb_net_29 rz10_157 rfl sh_0 rfl rfl rfl (Nat.le_of_ble_eq_true rfl) (Nat.le_of_ble_eq_true rfl) rfl
theorem bPb_net_32 {E : mEn} {d : Nat} {σ : mSt} {Q : mPost} {a1 : Int32} {s0 : Int32} : WP E d mPb_net 32 [.ref 0, .int a1] [.int s0] σ Q = Q (some (.int s0)) σ := w_iret dPb_net_32 rfl
theorem dPb_handOvers_0 : decode (mC mPb_handOvers) 0 = .ok (.aload_n 0, 1) := by decide +kernel
theorem dPb_handOvers_1 : decode (mC mPb_handOvers) 1 = .ok (.aload_n 0, 1) := by decide +kernel
theorem dPb_handOvers_2 : decode (mC mPb_handOvers) 2 = .ok (.getfield 47, 3) := by decide +kernel
theorem dPb_handOvers_5 : decode (mC mPb_handOvers) 5 = .ok (.aload_n 0, 1) := by decide +kernel
theorem dPb_handOvers_6 : decode (mC mPb_handOvers) 6 = .ok (.getfield 26, 3) := by decide +kernel
theorem dPb_handOvers_9 : decode (mC mPb_handOvers) 9 = .ok (.invokevirtual 326, 3) := by decide +kernel
theorem dPb_handOvers_12 : decode (mC mPb_handOvers) 12 = .ok (.invokevirtual 157, 3) := by decide +kernel
theorem dPb_handOvers_15 : decode (mC mPb_handOvers) 15 = .ok (.ireturn, 1) := by decide +kernel
theorem bPb_handOvers_0 {E : mEn} {d : Nat} {σ : mSt} {Q : mPost} : WP E (d + 1) mPb_handOvers 0 [.ref 0] [] σ Q = WP E d mNe_fewestHandOvers 0 [.ref 68, .ref 10, uu, uu, uu, uu] [] σ (fun r σ' => WP E (d + 1) mPb_handOvers 12 [.ref 0] (r.toList ++ [.ref 0]) σ' Q) := (w_aload_n dPb_handOvers_0 rfl).trans ((w_aload_n dPb_handOvers_1 rfl).trans ((w_getr (r := 68) dPb_handOvers_2 rz10_47 sh_0 rfl).trans ((w_aload_n dPb_handOvers_5 rfl).trans ((w_getr (r := 10) dPb_handOvers_6 rz10_26 sh_0 rfl).trans (w_virt (vs := [.ref 10]) (st' := [.ref 0]) (es := [.ref 68, .ref 10, uu, uu, uu, uu]) dPb_handOvers_9 rz10_326 rfl sh_68 rfl rfl rfl (Nat.le_of_ble_eq_true rfl) (Nat.le_of_ble_eq_true rfl) rfl)))))
theorem bPb_handOvers_12 {E : mEn} {d : Nat} {σ : mSt} {Q : mPost} {s0 : Int32} : WP E (d + 1) mPb_handOvers 12 [.ref 0] [.int s0, .ref 0] σ Q = WP E d mPb_answer 0 [.ref 0, .int s0] [] σ (fun r σ' => WP E (d + 1) mPb_handOvers 15 [.ref 0] (r.toList ++ []) σ' Q) := w_virt (vs := [.int s0]) (st' := []) (es := [.ref 0, .int s0]) dPb_handOvers_12 rz10_157 rfl sh_0 rfl rfl rfl (Nat.le_of_ble_eq_true rfl) (Nat.le_of_ble_eq_true rfl) rfl
theorem bPb_handOvers_15 {E : mEn} {d : Nat} {σ : mSt} {Q : mPost} {s0 : Int32} : WP E d mPb_handOvers 15 [.ref 0] [.int s0] σ Q = Q (some (.int s0)) σ := w_iret dPb_handOvers_15 rfl
theorem dPb_ring_0 : decode (mC mPb_ring) 0 = .ok (.aload_n 0, 1) := by decide +kernel
theorem dPb_ring_1 : decode (mC mPb_ring) 1 = .ok (.getfield 47, 3) := by decide +kernel
theorem dPb_ring_4 : decode (mC mPb_ring) 4 = .ok (.aload_n 0, 1) := by decide +kernel
theorem dPb_ring_5 : decode (mC mPb_ring) 5 = .ok (.getfield 26, 3) := by decide +kernel
theorem dPb_ring_8 : decode (mC mPb_ring) 8 = .ok (.getfield 187, 3) := by decide +kernel
theorem dPb_ring_11 : decode (mC mPb_ring) 11 = .ok (.invokevirtual 330, 3) := by decide +kernel
theorem dPb_ring_14 : decode (mC mPb_ring) 14 = .ok (.istore_n 1, 1) := by decide +kernel
theorem dPb_ring_15 : decode (mC mPb_ring) 15 = .ok (.iload_n 1, 1) := by decide +kernel
theorem dPb_ring_16 : decode (mC mPb_ring) 16 = .ok (.iconst (-1), 1) := by decide +kernel
theorem dPb_ring_17 : decode (mC mPb_ring) 17 = .ok (.if_icmp .ne (12), 3) := by decide +kernel
theorem dPb_ring_20 : decode (mC mPb_ring) 20 = .ok (.aload_n 0, 1) := by decide +kernel
theorem dPb_ring_21 : decode (mC mPb_ring) 21 = .ok (.bipush (8), 2) := by decide +kernel
theorem dPb_ring_23 : decode (mC mPb_ring) 23 = .ok (.invokevirtual 104, 3) := by decide +kernel
theorem dPb_ring_26 : decode (mC mPb_ring) 26 = .ok (.goto (8), 3) := by decide +kernel
theorem dPb_ring_29 : decode (mC mPb_ring) 29 = .ok (.aload_n 0, 1) := by decide +kernel
theorem dPb_ring_30 : decode (mC mPb_ring) 30 = .ok (.iload_n 1, 1) := by decide +kernel
theorem dPb_ring_31 : decode (mC mPb_ring) 31 = .ok (.invokevirtual 157, 3) := by decide +kernel
theorem dPb_ring_34 : decode (mC mPb_ring) 34 = .ok (.ireturn, 1) := by decide +kernel
theorem bPb_ring_0 {E : mEn} {d : Nat} {σ : mSt} {Q : mPost} {u1 : Value} : WP E (d + 1) mPb_ring 0 [.ref 0, u1] [] σ Q = WP E d mNe_findRing 0 [.ref 68, .ref 13, uu, uu, uu, uu, uu] [] σ (fun r σ' => WP E (d + 1) mPb_ring 14 [.ref 0, u1] (r.toList ++ []) σ' Q) := (w_aload_n dPb_ring_0 rfl).trans ((w_getr (r := 68) dPb_ring_1 rz10_47 sh_0 rfl).trans ((w_aload_n dPb_ring_4 rfl).trans ((w_getr (r := 10) dPb_ring_5 rz10_26 sh_0 rfl).trans ((w_getr (r := 13) dPb_ring_8 rz10_187 sh_10 rfl).trans (w_virt (vs := [.ref 13]) (st' := []) (es := [.ref 68, .ref 13, uu, uu, uu, uu, uu]) dPb_ring_11 rz10_330 rfl sh_68 rfl rfl rfl (Nat.le_of_ble_eq_true rfl) (Nat.le_of_ble_eq_true rfl) rfl)))))
theorem bPb_ring_14 {E : mEn} {d : Nat} {σ : mSt} {Q : mPost} {u1 : Value} {s0 : Int32} : WP E d mPb_ring 14 [.ref 0, u1] [.int s0] σ Q = (if ¬ s0 = (-1) then WP E d mPb_ring 29 [.ref 0, .int s0] [] σ Q else WP E d mPb_ring 20 [.ref 0, .int s0] [] σ Q) := (w_istore_n (ls' := [.ref 0, .int s0]) dPb_ring_14 (Nat.le_of_ble_eq_true rfl) rfl).trans ((w_iload_n dPb_ring_15 rfl).trans ((w_iconst (v := (-1)) dPb_ring_16 rfl).trans (w_icmpne (t := 29) dPb_ring_17 (by decide))))
theorem bPb_ring_20 {E : mEn} {d : Nat} {σ : mSt} {Q : mPost} {a1 : Int32} : WP E (d + 1) mPb_ring 20 [.ref 0, .int a1] [] σ Q = WP E d mPb_refuse 0 [.ref 0, .int (nI 8)] [] σ (fun r σ' => WP E (d + 1) mPb_ring 26 [.ref 0, .int a1] (r.toList ++ []) σ' Q) := (w_aload_n dPb_ring_20 rfl).trans ((w_bipush (v := (nI 8)) dPb_ring_21 rfl).trans (w_virt (vs := [.int (nI 8)]) (st' := []) (es := [.ref 0, .int (nI 8)]) dPb_ring_23 rz10_104 rfl sh_0 rfl rfl rfl (Nat.le_of_ble_eq_true rfl) (Nat.le_of_ble_eq_true rfl) rfl))
theorem bPb_ring_26 {E : mEn} {d : Nat} {σ : mSt} {Q : mPost} {a1 : Int32} {s0 : Int32} : WP E d mPb_ring 26 [.ref 0, .int a1] [.int s0] σ Q = WP E d mPb_ring 34 [.ref 0, .int a1] [.int s0] σ Q := w_goto (t := 34) dPb_ring_26 (by decide)
theorem bPb_ring_29 {E : mEn} {d : Nat} {σ : mSt} {Q : mPost} {a1 : Int32} : WP E (d + 1) mPb_ring 29 [.ref 0, .int a1] [] σ Q = WP E d mPb_answer 0 [.ref 0, .int a1] [] σ (fun r σ' => WP E (d + 1) mPb_ring 34 [.ref 0, .int a1] (r.toList ++ []) σ' Q) := (w_aload_n dPb_ring_29 rfl).trans ((w_iload_n dPb_ring_30 rfl).trans (w_virt (vs := [.int a1]) (st' := []) (es := [.ref 0, .int a1]) dPb_ring_31 rz10_157 rfl sh_0 rfl rfl rfl (Nat.le_of_ble_eq_true rfl) (Nat.le_of_ble_eq_true rfl) rfl))
theorem bPb_ring_34 {E : mEn} {d : Nat} {σ : mSt} {Q : mPost} {a1 : Int32} {s0 : Int32} : WP E d mPb_ring 34 [.ref 0, .int a1] [.int s0] σ Q = Q (some (.int s0)) σ := w_iret dPb_ring_34 rfl
theorem dPb_ringAt_0 : decode (mC mPb_ringAt) 0 = .ok (.iload_n 1, 1) := by decide +kernel
theorem dPb_ringAt_1 : decode (mC mPb_ringAt) 1 = .ok (.ifCond .lt (14), 3) := by decide +kernel
theorem dPb_ringAt_4 : decode (mC mPb_ringAt) 4 = .ok (.iload_n 1, 1) := by decide +kernel
theorem dPb_ringAt_5 : decode (mC mPb_ringAt) 5 = .ok (.aload_n 0, 1) := by decide +kernel
theorem dPb_ringAt_6 : decode (mC mPb_ringAt) 6 = .ok (.getfield 47, 3) := by decide +kernel
theorem dPb_ringAt_9 : decode (mC mPb_ringAt) 9 = .ok (.getfield 334, 3) := by decide +kernel
theorem dPb_ringAt_12 : decode (mC mPb_ringAt) 12 = .ok (.if_icmp .lt (10), 3) := by decide +kernel
theorem dPb_ringAt_15 : decode (mC mPb_ringAt) 15 = .ok (.aload_n 0, 1) := by decide +kernel
theorem dPb_ringAt_16 : decode (mC mPb_ringAt) 16 = .ok (.bipush (8), 2) := by decide +kernel
theorem dPb_ringAt_18 : decode (mC mPb_ringAt) 18 = .ok (.invokevirtual 104, 3) := by decide +kernel
theorem dPb_ringAt_21 : decode (mC mPb_ringAt) 21 = .ok (.ireturn, 1) := by decide +kernel
theorem dPb_ringAt_22 : decode (mC mPb_ringAt) 22 = .ok (.aload_n 0, 1) := by decide +kernel
theorem dPb_ringAt_23 : decode (mC mPb_ringAt) 23 = .ok (.aload_n 0, 1) := by decide +kernel
theorem dPb_ringAt_24 : decode (mC mPb_ringAt) 24 = .ok (.getfield 47, 3) := by decide +kernel
theorem dPb_ringAt_27 : decode (mC mPb_ringAt) 27 = .ok (.getfield 337, 3) := by decide +kernel
theorem dPb_ringAt_30 : decode (mC mPb_ringAt) 30 = .ok (.iload_n 1, 1) := by decide +kernel
theorem dPb_ringAt_31 : decode (mC mPb_ringAt) 31 = .ok (.iaload, 1) := by decide +kernel
theorem dPb_ringAt_32 : decode (mC mPb_ringAt) 32 = .ok (.invokevirtual 157, 3) := by decide +kernel
theorem dPb_ringAt_35 : decode (mC mPb_ringAt) 35 = .ok (.ireturn, 1) := by decide +kernel
theorem bPb_ringAt_0 {E : mEn} {d : Nat} {σ : mSt} {Q : mPost} {a1 : Int32} : WP E d mPb_ringAt 0 [.ref 0, .int a1] [] σ Q = (if a1 < 0 then WP E d mPb_ringAt 15 [.ref 0, .int a1] [] σ Q else WP E d mPb_ringAt 4 [.ref 0, .int a1] [] σ Q) := (w_iload_n dPb_ringAt_0 rfl).trans (w_iflt (t := 15) dPb_ringAt_1 (by decide))
theorem bPb_ringAt_4 {E : mEn} {d : Nat} {σ : mSt} {Q : mPost} {a1 : Int32} : WP E d mPb_ringAt 4 [.ref 0, .int a1] [] σ Q = (if a1 < (σ.1 68 4) then WP E d mPb_ringAt 22 [.ref 0, .int a1] [] σ Q else WP E d mPb_ringAt 15 [.ref 0, .int a1] [] σ Q) := (w_iload_n dPb_ringAt_4 rfl).trans ((w_aload_n dPb_ringAt_5 rfl).trans ((w_getr (r := 68) dPb_ringAt_6 rz10_47 sh_0 rfl).trans ((w_geti dPb_ringAt_9 rz10_334 sh_68 rfl).trans (w_icmplt (t := 22) dPb_ringAt_12 (by decide)))))
theorem bPb_ringAt_15 {E : mEn} {d : Nat} {σ : mSt} {Q : mPost} {a1 : Int32} : WP E (d + 1) mPb_ringAt 15 [.ref 0, .int a1] [] σ Q = WP E d mPb_refuse 0 [.ref 0, .int (nI 8)] [] σ (fun r σ' => WP E (d + 1) mPb_ringAt 21 [.ref 0, .int a1] (r.toList ++ []) σ' Q) := (w_aload_n dPb_ringAt_15 rfl).trans ((w_bipush (v := (nI 8)) dPb_ringAt_16 rfl).trans (w_virt (vs := [.int (nI 8)]) (st' := []) (es := [.ref 0, .int (nI 8)]) dPb_ringAt_18 rz10_104 rfl sh_0 rfl rfl rfl (Nat.le_of_ble_eq_true rfl) (Nat.le_of_ble_eq_true rfl) rfl))
theorem bPb_ringAt_21 {E : mEn} {d : Nat} {σ : mSt} {Q : mPost} {a1 : Int32} {s0 : Int32} : WP E d mPb_ringAt 21 [.ref 0, .int a1] [.int s0] σ Q = Q (some (.int s0)) σ := w_iret dPb_ringAt_21 rfl
theorem bPb_ringAt_22 {E : mEn} {d : Nat} {σ : mSt} {Q : mPost} {a1 : Int32} : WP E (d + 1) mPb_ringAt 22 [.ref 0, .int a1] [] σ Q = (if mOut a1 8 = true then False else WP E d mPb_answer 0 [.ref 0, .int (σ.1 72 a1.toNatClampNeg)] [] σ (fun r σ' => WP E (d + 1) mPb_ringAt 35 [.ref 0, .int a1] (r.toList ++ []) σ' Q)) := (w_aload_n dPb_ringAt_22 rfl).trans ((w_aload_n dPb_ringAt_23 rfl).trans ((w_getr (r := 68) dPb_ringAt_24 rz10_47 sh_0 rfl).trans ((w_getr (r := 72) dPb_ringAt_27 rz10_337 sh_68 rfl).trans ((w_iload_n dPb_ringAt_30 rfl).trans ((w_iald dPb_ringAt_31 sh_72 (by decide)).trans (ite_c (w_virt (vs := [.int (σ.1 72 a1.toNatClampNeg)]) (st' := []) (es := [.ref 0, .int (σ.1 72 a1.toNatClampNeg)]) dPb_ringAt_32 rz10_157 rfl sh_0 rfl rfl rfl (Nat.le_of_ble_eq_true rfl) (Nat.le_of_ble_eq_true rfl) rfl)))))))
theorem bPb_ringAt_35 {E : mEn} {d : Nat} {σ : mSt} {Q : mPost} {a1 : Int32} {s0 : Int32} : WP E d mPb_ringAt 35 [.ref 0, .int a1] [.int s0] σ Q = Q (some (.int s0)) σ := w_iret dPb_ringAt_35 rfl
theorem dPb_owing_0 : decode (mC mPb_owing) 0 = .ok (.aload_n 0, 1) := by decide +kernel
theorem dPb_owing_1 : decode (mC mPb_owing) 1 = .ok (.getfield 26, 3) := by decide +kernel
theorem dPb_owing_4 : decode (mC mPb_owing) 4 = .ok (.iload_n 1, 1) := by decide +kernel
theorem dPb_owing_5 : decode (mC mPb_owing) 5 = .ok (.invokevirtual 218, 3) := by decide +kernel
theorem dPb_owing_8 : decode (mC mPb_owing) 8 = .ok (.ifCond .ne (9), 3) := by decide +kernel
theorem dPb_owing_11 : decode (mC mPb_owing) 11 = .ok (.aload_n 0, 1) := by decide +kernel
theorem dPb_owing_12 : decode (mC mPb_owing) 12 = .ok (.iconst (2), 1) := by decide +kernel
theorem dPb_owing_13 : decode (mC mPb_owing) 13 = .ok (.invokevirtual 104, 3) := by decide +kernel
theorem dPb_owing_16 : decode (mC mPb_owing) 16 = .ok (.ireturn, 1) := by decide +kernel
theorem dPb_owing_17 : decode (mC mPb_owing) 17 = .ok (.aload_n 0, 1) := by decide +kernel
theorem dPb_owing_18 : decode (mC mPb_owing) 18 = .ok (.getfield 40, 3) := by decide +kernel
theorem dPb_owing_21 : decode (mC mPb_owing) 21 = .ok (.aload_n 0, 1) := by decide +kernel
theorem dPb_owing_22 : decode (mC mPb_owing) 22 = .ok (.getfield 26, 3) := by decide +kernel
theorem dPb_owing_25 : decode (mC mPb_owing) 25 = .ok (.iload_n 1, 1) := by decide +kernel
theorem dPb_owing_26 : decode (mC mPb_owing) 26 = .ok (.invokevirtual 265, 3) := by decide +kernel
theorem dPb_owing_29 : decode (mC mPb_owing) 29 = .ok (.iconst (0), 1) := by decide +kernel
theorem dPb_owing_30 : decode (mC mPb_owing) 30 = .ok (.istore_n 2, 1) := by decide +kernel
theorem dPb_owing_31 : decode (mC mPb_owing) 31 = .ok (.iconst (0), 1) := by decide +kernel
theorem dPb_owing_32 : decode (mC mPb_owing) 32 = .ok (.istore_n 3, 1) := by decide +kernel
theorem dPb_owing_33 : decode (mC mPb_owing) 33 = .ok (.iload_n 3, 1) := by decide +kernel
theorem dPb_owing_34 : decode (mC mPb_owing) 34 = .ok (.bipush (8), 2) := by decide +kernel
theorem dPb_owing_36 : decode (mC mPb_owing) 36 = .ok (.if_icmp .ge (27), 3) := by decide +kernel
theorem dPb_owing_39 : decode (mC mPb_owing) 39 = .ok (.aload_n 0, 1) := by decide +kernel
theorem dPb_owing_40 : decode (mC mPb_owing) 40 = .ok (.getfield 40, 3) := by decide +kernel
theorem dPb_owing_43 : decode (mC mPb_owing) 43 = .ok (.getfield 269, 3) := by decide +kernel
theorem dPb_owing_46 : decode (mC mPb_owing) 46 = .ok (.iload_n 3, 1) := by decide +kernel
theorem dPb_owing_47 : decode (mC mPb_owing) 47 = .ok (.iaload, 1) := by decide +kernel
theorem dPb_owing_48 : decode (mC mPb_owing) 48 = .ok (.ifCond .ge (9), 3) := by decide +kernel
theorem dPb_owing_51 : decode (mC mPb_owing) 51 = .ok (.iload_n 2, 1) := by decide +kernel
theorem dPb_owing_52 : decode (mC mPb_owing) 52 = .ok (.iconst (1), 1) := by decide +kernel
theorem dPb_owing_53 : decode (mC mPb_owing) 53 = .ok (.iload_n 3, 1) := by decide +kernel
theorem dPb_owing_54 : decode (mC mPb_owing) 54 = .ok (.ishl, 1) := by decide +kernel
theorem dPb_owing_55 : decode (mC mPb_owing) 55 = .ok (.ior, 1) := by decide +kernel
theorem dPb_owing_56 : decode (mC mPb_owing) 56 = .ok (.istore_n 2, 1) := by decide +kernel
theorem dPb_owing_57 : decode (mC mPb_owing) 57 = .ok (.iinc 3 (1), 3) := by decide +kernel
theorem dPb_owing_60 : decode (mC mPb_owing) 60 = .ok (.goto (-27), 3) := by decide +kernel
theorem dPb_owing_63 : decode (mC mPb_owing) 63 = .ok (.aload_n 0, 1) := by decide +kernel
theorem dPb_owing_64 : decode (mC mPb_owing) 64 = .ok (.iload_n 2, 1) := by decide +kernel
theorem dPb_owing_65 : decode (mC mPb_owing) 65 = .ok (.invokevirtual 157, 3) := by decide +kernel
theorem dPb_owing_68 : decode (mC mPb_owing) 68 = .ok (.ireturn, 1) := by decide +kernel
theorem bPb_owing_0 {E : mEn} {d : Nat} {σ : mSt} {Q : mPost} {a1 : Int32} {u2 : Value} {u3 : Value} : WP E (d + 1) mPb_owing 0 [.ref 0, .int a1, u2, u3] [] σ Q = WP E d mTw_hasLoaf 0 [.ref 10, .int a1] [] σ (fun r σ' => WP E (d + 1) mPb_owing 8 [.ref 0, .int a1, u2, u3] (r.toList ++ []) σ' Q) := (w_aload_n dPb_owing_0 rfl).trans ((w_getr (r := 10) dPb_owing_1 rz10_26 sh_0 rfl).trans ((w_iload_n dPb_owing_4 rfl).trans (w_virt (vs := [.int a1]) (st' := []) (es := [.ref 10, .int a1]) dPb_owing_5 rz10_218 rfl sh_10 rfl rfl rfl (Nat.le_of_ble_eq_true rfl) (Nat.le_of_ble_eq_true rfl) rfl)))
theorem bPb_owing_8 {E : mEn} {d : Nat} {σ : mSt} {Q : mPost} {a1 : Int32} {u2 : Value} {u3 : Value} {s0 : Int32} : WP E d mPb_owing 8 [.ref 0, .int a1, u2, u3] [.int s0] σ Q = (if ¬ s0 = 0 then WP E d mPb_owing 17 [.ref 0, .int a1, u2, u3] [] σ Q else WP E d mPb_owing 11 [.ref 0, .int a1, u2, u3] [] σ Q) := w_ifne (t := 17) dPb_owing_8 (by decide)
theorem bPb_owing_11 {E : mEn} {d : Nat} {σ : mSt} {Q : mPost} {a1 : Int32} {u2 : Value} {u3 : Value} : WP E (d + 1) mPb_owing 11 [.ref 0, .int a1, u2, u3] [] σ Q = WP E d mPb_refuse 0 [.ref 0, .int (nI 2)] [] σ (fun r σ' => WP E (d + 1) mPb_owing 16 [.ref 0, .int a1, u2, u3] (r.toList ++ []) σ' Q) := (w_aload_n dPb_owing_11 rfl).trans ((w_iconst (v := (nI 2)) dPb_owing_12 rfl).trans (w_virt (vs := [.int (nI 2)]) (st' := []) (es := [.ref 0, .int (nI 2)]) dPb_owing_13 rz10_104 rfl sh_0 rfl rfl rfl (Nat.le_of_ble_eq_true rfl) (Nat.le_of_ble_eq_true rfl) rfl))
theorem bPb_owing_16 {E : mEn} {d : Nat} {σ : mSt} {Q : mPost} {a1 : Int32} {u2 : Value} {u3 : Value} {s0 : Int32} : WP E d mPb_owing 16 [.ref 0, .int a1, u2, u3] [.int s0] σ Q = Q (some (.int s0)) σ := w_iret dPb_owing_16 rfl
theorem bPb_owing_17 {E : mEn} {d : Nat} {σ : mSt} {Q : mPost} {a1 : Int32} {u2 : Value} {u3 : Value} : WP E (d + 1) mPb_owing 17 [.ref 0, .int a1, u2, u3] [] σ Q = WP E d mSh_weigh 0 [.ref 61, .ref 10, .int a1, uu, uu] [] σ (fun r σ' => WP E (d + 1) mPb_owing 29 [.ref 0, .int a1, u2, u3] (r.toList ++ []) σ' Q) := (w_aload_n dPb_owing_17 rfl).trans ((w_getr (r := 61) dPb_owing_18 rz10_40 sh_0 rfl).trans ((w_aload_n dPb_owing_21 rfl).trans ((w_getr (r := 10) dPb_owing_22 rz10_26 sh_0 rfl).trans ((w_iload_n dPb_owing_25 rfl).trans (w_virt (vs := [.ref 10, .int a1]) (st' := []) (es := [.ref 61, .ref 10, .int a1, uu, uu]) dPb_owing_26 rz10_265 rfl sh_61 rfl rfl rfl (Nat.le_of_ble_eq_true rfl) (Nat.le_of_ble_eq_true rfl) rfl)))))
theorem bPb_owing_29 {E : mEn} {d : Nat} {σ : mSt} {Q : mPost} {a1 : Int32} {u2 : Value} {u3 : Value} : WP E d mPb_owing 29 [.ref 0, .int a1, u2, u3] [] σ Q = WP E d mPb_owing 33 [.ref 0, .int a1, .int 0, .int 0] [] σ Q := (w_iconst (v := 0) dPb_owing_29 rfl).trans ((w_istore_n (ls' := [.ref 0, .int a1, .int 0, u3]) dPb_owing_30 (Nat.le_of_ble_eq_true rfl) rfl).trans ((w_iconst (v := 0) dPb_owing_31 rfl).trans (w_istore_n (ls' := [.ref 0, .int a1, .int 0, .int 0]) dPb_owing_32 (Nat.le_of_ble_eq_true rfl) rfl)))
theorem bPb_owing_33 {E : mEn} {d : Nat} {σ : mSt} {Q : mPost} {a1 : Int32} {a2 : Int32} {a3 : Int32} : WP E d mPb_owing 33 [.ref 0, .int a1, .int a2, .int a3] [] σ Q = (if (nI 8) ≤ a3 then WP E d mPb_owing 63 [.ref 0, .int a1, .int a2, .int a3] [] σ Q else WP E d mPb_owing 39 [.ref 0, .int a1, .int a2, .int a3] [] σ Q) := (w_iload_n dPb_owing_33 rfl).trans ((w_bipush (v := (nI 8)) dPb_owing_34 rfl).trans (w_icmpge (t := 63) dPb_owing_36 (by decide)))
theorem bPb_owing_39 {E : mEn} {d : Nat} {σ : mSt} {Q : mPost} {a1 : Int32} {a2 : Int32} {a3 : Int32} : WP E d mPb_owing 39 [.ref 0, .int a1, .int a2, .int a3] [] σ Q = (if mOut a3 8 = true then False else (if 0 ≤ (σ.1 62 a3.toNatClampNeg) then WP E d mPb_owing 57 [.ref 0, .int a1, .int a2, .int a3] [] σ Q else WP E d mPb_owing 51 [.ref 0, .int a1, .int a2, .int a3] [] σ Q)) := (w_aload_n dPb_owing_39 rfl).trans ((w_getr (r := 61) dPb_owing_40 rz10_40 sh_0 rfl).trans ((w_getr (r := 62) dPb_owing_43 rz10_269 sh_61 rfl).trans ((w_iload_n dPb_owing_46 rfl).trans ((w_iald dPb_owing_47 sh_62 (by decide)).trans (ite_c (w_ifge (t := 57) dPb_owing_48 (by decide)))))))
theorem bPb_owing_51 {E : mEn} {d : Nat} {σ : mSt} {Q : mPost} {a1 : Int32} {a2 : Int32} {a3 : Int32} : WP E d mPb_owing 51 [.ref 0, .int a1, .int a2, .int a3] [] σ Q = WP E d mPb_owing 57 [.ref 0, .int a1, .int (a2 ||| (1 <<< (a3 &&& 31))), .int a3] [] σ Q := (w_iload_n dPb_owing_51 rfl).trans ((w_iconst (v := 1) dPb_owing_52 rfl).trans ((w_iload_n dPb_owing_53 rfl).trans ((w_ishl dPb_owing_54).trans ((w_ior dPb_owing_55).trans (w_istore_n (ls' := [.ref 0, .int a1, .int (a2 ||| (1 <<< (a3 &&& 31))), .int a3]) dPb_owing_56 (Nat.le_of_ble_eq_true rfl) rfl)))))
theorem bPb_owing_57 {E : mEn} {d : Nat} {σ : mSt} {Q : mPost} {a1 : Int32} {a2 : Int32} {a3 : Int32} : WP E d mPb_owing 57 [.ref 0, .int a1, .int a2, .int a3] [] σ Q = WP E d mPb_owing 33 [.ref 0, .int a1, .int a2, .int (a3 + 1)] [] σ Q := (w_iinc (v := 1) (ls' := [.ref 0, .int a1, .int a2, .int (a3 + 1)]) dPb_owing_57 rfl rfl rfl).trans (w_goto (t := 33) dPb_owing_60 (by decide))
theorem bPb_owing_63 {E : mEn} {d : Nat} {σ : mSt} {Q : mPost} {a1 : Int32} {a2 : Int32} {a3 : Int32} : WP E (d + 1) mPb_owing 63 [.ref 0, .int a1, .int a2, .int a3] [] σ Q = WP E d mPb_answer 0 [.ref 0, .int a2] [] σ (fun r σ' => WP E (d + 1) mPb_owing 68 [.ref 0, .int a1, .int a2, .int a3] (r.toList ++ []) σ' Q) := (w_aload_n dPb_owing_63 rfl).trans ((w_iload_n dPb_owing_64 rfl).trans (w_virt (vs := [.int a2]) (st' := []) (es := [.ref 0, .int a2]) dPb_owing_65 rz10_157 rfl sh_0 rfl rfl rfl (Nat.le_of_ble_eq_true rfl) (Nat.le_of_ble_eq_true rfl) rfl))
theorem bPb_owing_68 {E : mEn} {d : Nat} {σ : mSt} {Q : mPost} {a1 : Int32} {a2 : Int32} {a3 : Int32} {s0 : Int32} : WP E d mPb_owing 68 [.ref 0, .int a1, .int a2, .int a3] [.int s0] σ Q = Q (some (.int s0)) σ := w_iret dPb_owing_68 rfl
