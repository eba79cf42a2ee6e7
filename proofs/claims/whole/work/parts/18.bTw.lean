theorem dTw_clear_0 : decode (mC mTw_clear) 0 = .ok (.aload_n 0, 1) := by decide +kernel
theorem dTw_clear_1 : decode (mC mTw_clear) 1 = .ok (.getfield 12, 3) := by decide +kernel
theorem dTw_clear_4 : decode (mC mTw_clear) 4 = .ok (.invokevirtual 63, 3) := by decide +kernel
theorem dTw_clear_7 : decode (mC mTw_clear) 7 = .ok (.aload_n 0, 1) := by decide +kernel
theorem dTw_clear_8 : decode (mC mTw_clear) 8 = .ok (.getfield 21, 3) := by decide +kernel
theorem dTw_clear_11 : decode (mC mTw_clear) 11 = .ok (.iconst (0), 1) := by decide +kernel
theorem dTw_clear_12 : decode (mC mTw_clear) 12 = .ok (.putfield 66, 3) := by decide +kernel
theorem dTw_clear_15 : decode (mC mTw_clear) 15 = .ok (.aload_n 0, 1) := by decide +kernel
theorem dTw_clear_16 : decode (mC mTw_clear) 16 = .ok (.getfield 28, 3) := by decide +kernel
theorem dTw_clear_19 : decode (mC mTw_clear) 19 = .ok (.invokevirtual 70, 3) := by decide +kernel
theorem dTw_clear_22 : decode (mC mTw_clear) 22 = .ok (.aload_n 0, 1) := by decide +kernel
theorem dTw_clear_23 : decode (mC mTw_clear) 23 = .ok (.iconst (0), 1) := by decide +kernel
theorem dTw_clear_24 : decode (mC mTw_clear) 24 = .ok (.putfield 71, 3) := by decide +kernel
theorem dTw_clear_27 : decode (mC mTw_clear) 27 = .ok (.aload_n 0, 1) := by decide +kernel
theorem dTw_clear_28 : decode (mC mTw_clear) 28 = .ok (.iconst (0), 1) := by decide +kernel
theorem dTw_clear_29 : decode (mC mTw_clear) 29 = .ok (.putfield 74, 3) := by decide +kernel
theorem dTw_clear_32 : decode (mC mTw_clear) 32 = .ok (.aload_n 0, 1) := by decide +kernel
theorem dTw_clear_33 : decode (mC mTw_clear) 33 = .ok (.iconst (0), 1) := by decide +kernel
theorem dTw_clear_34 : decode (mC mTw_clear) 34 = .ok (.putfield 77, 3) := by decide +kernel
theorem dTw_clear_37 : decode (mC mTw_clear) 37 = .ok (.aload_n 0, 1) := by decide +kernel
theorem dTw_clear_38 : decode (mC mTw_clear) 38 = .ok (.iconst (0), 1) := by decide +kernel
theorem dTw_clear_39 : decode (mC mTw_clear) 39 = .ok (.putfield 80, 3) := by decide +kernel
theorem dTw_clear_42 : decode (mC mTw_clear) 42 = .ok (.aload_n 0, 1) := by decide +kernel
theorem dTw_clear_43 : decode (mC mTw_clear) 43 = .ok (.iconst (0), 1) := by decide +kernel
theorem dTw_clear_44 : decode (mC mTw_clear) 44 = .ok (.putfield 83, 3) := by decide +kernel
theorem dTw_clear_47 : decode (mC mTw_clear) 47 = .ok (.aload_n 0, 1) := by decide +kernel
theorem dTw_clear_48 : decode (mC mTw_clear) 48 = .ok (.iconst (0), 1) := by decide +kernel
theorem dTw_clear_49 : decode (mC mTw_clear) 49 = .ok (.putfield 86, 3) := by decide +kernel
theorem dTw_clear_52 : decode (mC mTw_clear) 52 = .ok (.return_, 1) := by decide +kernel
theorem bTw_clear_0 {E : mEn} {d : Nat} {σ : mSt} {Q : mPost} {t : Nat} (ht : isT t) : WP E (d + 1) mTw_clear 0 [.ref t] [] σ Q = WP E d mNa_clear 0 [.ref (t + 1)] [] σ (fun r σ' => WP E (d + 1) mTw_clear 7 [.ref t] (r.toList ++ []) σ' Q) := (w_aload_n dTw_clear_0 rfl).trans ((w_getr (r := t + 1) dTw_clear_1 rz8_12 (shT_0 ht) rfl).trans (w_virt (vs := []) (st' := []) (es := [.ref (t + 1)]) dTw_clear_4 rz8_63 rfl (shT_1 ht) rfl rfl rfl (Nat.le_of_ble_eq_true rfl) (Nat.le_of_ble_eq_true rfl) rfl))
theorem bTw_clear_7 {E : mEn} {d : Nat} {σ : mSt} {Q : mPost} {t : Nat} (ht : isT t) : WP E (d + 1) mTw_clear 7 [.ref t] [] σ Q = WP E d mDa_clear 0 [.ref (t + 12)] [] (sI σ (t + 3) 8 0) (fun r σ' => WP E (d + 1) mTw_clear 22 [.ref t] (r.toList ++ []) σ' Q) := (w_aload_n dTw_clear_7 rfl).trans ((w_getr (r := t + 3) dTw_clear_8 rz8_21 (shT_0 ht) rfl).trans ((w_iconst (v := 0) dTw_clear_11 rfl).trans ((w_puti dTw_clear_12 rz8_66 (shT_3 ht) rfl rfl rfl).trans ((w_aload_n dTw_clear_15 rfl).trans ((w_getr (r := t + 12) dTw_clear_16 rz8_28 (shT_0 ht) rfl).trans (w_virt (vs := []) (st' := []) (es := [.ref (t + 12)]) dTw_clear_19 rz8_70 rfl (shT_12 ht) rfl rfl rfl (Nat.le_of_ble_eq_true rfl) (Nat.le_of_ble_eq_true rfl) rfl))))))
theorem bTw_clear_22 {E : mEn} {d : Nat} {σ : mSt} {Q : mPost} {t : Nat} (ht : isT t) : WP E d mTw_clear 22 [.ref t] [] σ Q = Q none (sI (sI (sI (sI (sI (sI σ t 13 0) t 14 0) t 15 0) t 16 0) t 17 0) t 18 0) := (w_aload_n dTw_clear_22 rfl).trans ((w_iconst (v := 0) dTw_clear_23 rfl).trans ((w_puti dTw_clear_24 rz8_71 (shT_0 ht) rfl rfl rfl).trans ((w_aload_n dTw_clear_27 rfl).trans ((w_iconst (v := 0) dTw_clear_28 rfl).trans ((w_puti dTw_clear_29 rz8_74 (shT_0 ht) rfl rfl rfl).trans ((w_aload_n dTw_clear_32 rfl).trans ((w_iconst (v := 0) dTw_clear_33 rfl).trans ((w_puti dTw_clear_34 rz8_77 (shT_0 ht) rfl rfl rfl).trans ((w_aload_n dTw_clear_37 rfl).trans ((w_iconst (v := 0) dTw_clear_38 rfl).trans ((w_puti dTw_clear_39 rz8_80 (shT_0 ht) rfl rfl rfl).trans ((w_aload_n dTw_clear_42 rfl).trans ((w_iconst (v := 0) dTw_clear_43 rfl).trans ((w_puti dTw_clear_44 rz8_83 (shT_0 ht) rfl rfl rfl).trans ((w_aload_n dTw_clear_47 rfl).trans ((w_iconst (v := 0) dTw_clear_48 rfl).trans ((w_puti dTw_clear_49 rz8_86 (shT_0 ht) rfl rfl rfl).trans (w_vret dTw_clear_52 rfl))))))))))))))))))
theorem dTw_addPerson_0 : decode (mC mTw_addPerson) 0 = .ok (.aload_n 0, 1) := by decide +kernel
theorem dTw_addPerson_1 : decode (mC mTw_addPerson) 1 = .ok (.getfield 71, 3) := by decide +kernel
theorem dTw_addPerson_4 : decode (mC mTw_addPerson) 4 = .ok (.ifCond .lt (12), 3) := by decide +kernel
theorem dTw_addPerson_7 : decode (mC mTw_addPerson) 7 = .ok (.aload_n 0, 1) := by decide +kernel
theorem dTw_addPerson_8 : decode (mC mTw_addPerson) 8 = .ok (.getfield 71, 3) := by decide +kernel
theorem dTw_addPerson_11 : decode (mC mTw_addPerson) 11 = .ok (.bipush (8), 2) := by decide +kernel
theorem dTw_addPerson_13 : decode (mC mTw_addPerson) 13 = .ok (.if_icmp .lt (4), 3) := by decide +kernel
theorem dTw_addPerson_16 : decode (mC mTw_addPerson) 16 = .ok (.return_, 1) := by decide +kernel
theorem dTw_addPerson_17 : decode (mC mTw_addPerson) 17 = .ok (.aload_n 0, 1) := by decide +kernel
theorem dTw_addPerson_18 : decode (mC mTw_addPerson) 18 = .ok (.getfield 12, 3) := by decide +kernel
theorem dTw_addPerson_21 : decode (mC mTw_addPerson) 21 = .ok (.iconst (0), 1) := by decide +kernel
theorem dTw_addPerson_22 : decode (mC mTw_addPerson) 22 = .ok (.aload_n 0, 1) := by decide +kernel
theorem dTw_addPerson_23 : decode (mC mTw_addPerson) 23 = .ok (.getfield 71, 3) := by decide +kernel
theorem dTw_addPerson_26 : decode (mC mTw_addPerson) 26 = .ok (.lload_n 1, 1) := by decide +kernel
theorem dTw_addPerson_27 : decode (mC mTw_addPerson) 27 = .ok (.invokevirtual 105, 3) := by decide +kernel
theorem dTw_addPerson_30 : decode (mC mTw_addPerson) 30 = .ok (.aload_n 0, 1) := by decide +kernel
theorem dTw_addPerson_31 : decode (mC mTw_addPerson) 31 = .ok (.getfield 32, 3) := by decide +kernel
theorem dTw_addPerson_34 : decode (mC mTw_addPerson) 34 = .ok (.aload_n 0, 1) := by decide +kernel
theorem dTw_addPerson_35 : decode (mC mTw_addPerson) 35 = .ok (.getfield 71, 3) := by decide +kernel
theorem dTw_addPerson_38 : decode (mC mTw_addPerson) 38 = .ok (.iload_n 3, 1) := by decide +kernel
theorem dTw_addPerson_39 : decode (mC mTw_addPerson) 39 = .ok (.iastore, 1) := by decide +kernel
theorem dTw_addPerson_40 : decode (mC mTw_addPerson) 40 = .ok (.aload_n 0, 1) := by decide +kernel
theorem dTw_addPerson_41 : decode (mC mTw_addPerson) 41 = .ok (.getfield 36, 3) := by decide +kernel
theorem dTw_addPerson_44 : decode (mC mTw_addPerson) 44 = .ok (.aload_n 0, 1) := by decide +kernel
theorem dTw_addPerson_45 : decode (mC mTw_addPerson) 45 = .ok (.getfield 71, 3) := by decide +kernel
theorem dTw_addPerson_48 : decode (mC mTw_addPerson) 48 = .ok (.iconst (0), 1) := by decide +kernel
theorem dTw_addPerson_49 : decode (mC mTw_addPerson) 49 = .ok (.iastore, 1) := by decide +kernel
theorem dTw_addPerson_50 : decode (mC mTw_addPerson) 50 = .ok (.aload_n 0, 1) := by decide +kernel
theorem dTw_addPerson_51 : decode (mC mTw_addPerson) 51 = .ok (.getfield 39, 3) := by decide +kernel
theorem dTw_addPerson_54 : decode (mC mTw_addPerson) 54 = .ok (.aload_n 0, 1) := by decide +kernel
theorem dTw_addPerson_55 : decode (mC mTw_addPerson) 55 = .ok (.getfield 71, 3) := by decide +kernel
theorem dTw_addPerson_58 : decode (mC mTw_addPerson) 58 = .ok (.iconst (0), 1) := by decide +kernel
theorem dTw_addPerson_59 : decode (mC mTw_addPerson) 59 = .ok (.iastore, 1) := by decide +kernel
theorem dTw_addPerson_60 : decode (mC mTw_addPerson) 60 = .ok (.aload_n 0, 1) := by decide +kernel
theorem dTw_addPerson_61 : decode (mC mTw_addPerson) 61 = .ok (.dup, 1) := by decide +kernel
theorem dTw_addPerson_62 : decode (mC mTw_addPerson) 62 = .ok (.getfield 71, 3) := by decide +kernel
theorem dTw_addPerson_65 : decode (mC mTw_addPerson) 65 = .ok (.iconst (1), 1) := by decide +kernel
theorem dTw_addPerson_66 : decode (mC mTw_addPerson) 66 = .ok (.iadd, 1) := by decide +kernel
theorem dTw_addPerson_67 : decode (mC mTw_addPerson) 67 = .ok (.putfield 71, 3) := by decide +kernel
theorem dTw_addPerson_70 : decode (mC mTw_addPerson) 70 = .ok (.return_, 1) := by decide +kernel
theorem bTw_addPerson_0 {E : mEn} {d : Nat} {σ : mSt} {Q : mPost} {j1 : Int64} {a3 : Int32} {t : Nat} (ht : isT t) : WP E d mTw_addPerson 0 [.ref t, .long j1, uu, .int a3] [] σ Q = (if (σ.1 t 13) < 0 then WP E d mTw_addPerson 16 [.ref t, .long j1, uu, .int a3] [] σ Q else WP E d mTw_addPerson 7 [.ref t, .long j1, uu, .int a3] [] σ Q) := (w_aload_n dTw_addPerson_0 rfl).trans ((w_geti dTw_addPerson_1 rz8_71 (shT_0 ht) rfl).trans (w_iflt (t := 16) dTw_addPerson_4 (by decide)))
theorem bTw_addPerson_7 {E : mEn} {d : Nat} {σ : mSt} {Q : mPost} {j1 : Int64} {a3 : Int32} {t : Nat} (ht : isT t) : WP E d mTw_addPerson 7 [.ref t, .long j1, uu, .int a3] [] σ Q = (if (σ.1 t 13) < (nI 8) then WP E d mTw_addPerson 17 [.ref t, .long j1, uu, .int a3] [] σ Q else WP E d mTw_addPerson 16 [.ref t, .long j1, uu, .int a3] [] σ Q) := (w_aload_n dTw_addPerson_7 rfl).trans ((w_geti dTw_addPerson_8 rz8_71 (shT_0 ht) rfl).trans ((w_bipush (v := (nI 8)) dTw_addPerson_11 rfl).trans (w_icmplt (t := 17) dTw_addPerson_13 (by decide))))
theorem bTw_addPerson_16 {E : mEn} {d : Nat} {σ : mSt} {Q : mPost} {j1 : Int64} {a3 : Int32} {t : Nat} (ht : isT t) : WP E d mTw_addPerson 16 [.ref t, .long j1, uu, .int a3] [] σ Q = Q none σ := w_vret dTw_addPerson_16 rfl
theorem bTw_addPerson_17 {E : mEn} {d : Nat} {σ : mSt} {Q : mPost} {j1 : Int64} {a3 : Int32} {t : Nat} (ht : isT t) : WP E (d + 1) mTw_addPerson 17 [.ref t, .long j1, uu, .int a3] [] σ Q = WP E d mNa_give 0 [.ref (t + 1), .int 0, .int (σ.1 t 13), .long j1, uu, uu] [] σ (fun r σ' => WP E (d + 1) mTw_addPerson 30 [.ref t, .long j1, uu, .int a3] (r.toList ++ []) σ' Q) := (w_aload_n dTw_addPerson_17 rfl).trans ((w_getr (r := t + 1) dTw_addPerson_18 rz8_12 (shT_0 ht) rfl).trans ((w_iconst (v := 0) dTw_addPerson_21 rfl).trans ((w_aload_n dTw_addPerson_22 rfl).trans ((w_geti dTw_addPerson_23 rz8_71 (shT_0 ht) rfl).trans ((w_lload_n dTw_addPerson_26 rfl).trans (w_virt (vs := [.int 0, .int (σ.1 t 13), .long j1]) (st' := []) (es := [.ref (t + 1), .int 0, .int (σ.1 t 13), .long j1, uu, uu]) dTw_addPerson_27 rz8_105 rfl (shT_1 ht) rfl rfl rfl (Nat.le_of_ble_eq_true rfl) (Nat.le_of_ble_eq_true rfl) rfl))))))
theorem bTw_addPerson_30 {E : mEn} {d : Nat} {σ : mSt} {Q : mPost} {j1 : Int64} {a3 : Int32} {t : Nat} (ht : isT t) : WP E d mTw_addPerson 30 [.ref t, .long j1, uu, .int a3] [] σ Q = (if mOut (σ.1 t 13) 8 = true then False else (if mOut ((sI σ (t + 15) (σ.1 t 13).toNatClampNeg a3).1 t 13) 8 = true then False else (if mOut ((sI (sI σ (t + 15) (σ.1 t 13).toNatClampNeg a3) (t + 16) ((sI σ (t + 15) (σ.1 t 13).toNatClampNeg a3).1 t 13).toNatClampNeg 0).1 t 13) 8 = true then False else WP E d mTw_addPerson 60 [.ref t, .long j1, uu, .int a3] [] (sI (sI (sI σ (t + 15) (σ.1 t 13).toNatClampNeg a3) (t + 16) ((sI σ (t + 15) (σ.1 t 13).toNatClampNeg a3).1 t 13).toNatClampNeg 0) (t + 17) ((sI (sI σ (t + 15) (σ.1 t 13).toNatClampNeg a3) (t + 16) ((sI σ (t + 15) (σ.1 t 13).toNatClampNeg a3).1 t 13).toNatClampNeg 0).1 t 13).toNatClampNeg 0) Q))) := (w_aload_n dTw_addPerson_30 rfl).trans ((w_getr (r := t + 15) dTw_addPerson_31 rz8_32 (shT_0 ht) rfl).trans ((w_aload_n dTw_addPerson_34 rfl).trans ((w_geti dTw_addPerson_35 rz8_71 (shT_0 ht) rfl).trans ((w_iload_n dTw_addPerson_38 rfl).trans ((w_iast dTw_addPerson_39 (shT_15 ht)).trans (ite_c ((w_aload_n dTw_addPerson_40 rfl).trans ((w_getr (r := t + 16) dTw_addPerson_41 rz8_36 (shT_0 ht) rfl).trans ((w_aload_n dTw_addPerson_44 rfl).trans ((w_geti dTw_addPerson_45 rz8_71 (shT_0 ht) rfl).trans ((w_iconst (v := 0) dTw_addPerson_48 rfl).trans ((w_iast dTw_addPerson_49 (shT_16 ht)).trans (ite_c ((w_aload_n dTw_addPerson_50 rfl).trans ((w_getr (r := t + 17) dTw_addPerson_51 rz8_39 (shT_0 ht) rfl).trans ((w_aload_n dTw_addPerson_54 rfl).trans ((w_geti dTw_addPerson_55 rz8_71 (shT_0 ht) rfl).trans ((w_iconst (v := 0) dTw_addPerson_58 rfl).trans ((w_iast dTw_addPerson_59 (shT_17 ht)).trans (ite_c (rfl)))))))))))))))))))))
theorem bTw_addPerson_60 {E : mEn} {d : Nat} {σ : mSt} {Q : mPost} {j1 : Int64} {a3 : Int32} {t : Nat} (ht : isT t) : WP E d mTw_addPerson 60 [.ref t, .long j1, uu, .int a3] [] σ Q = Q none (sI σ t 13 ((σ.1 t 13) + 1)) := (w_aload_n dTw_addPerson_60 rfl).trans ((w_dup dTw_addPerson_61 rfl).trans ((w_geti dTw_addPerson_62 rz8_71 (shT_0 ht) rfl).trans ((w_iconst (v := 1) dTw_addPerson_65 rfl).trans ((w_iadd dTw_addPerson_66).trans ((w_puti dTw_addPerson_67 rz8_71 (shT_0 ht) rfl rfl rfl).trans (w_vret dTw_addPerson_70 rfl))))))
theorem dTw_addOven_0 : decode (mC mTw_addOven) 0 = .ok (.aload_n 0, 1) := by decide +kernel
theorem dTw_addOven_1 : decode (mC mTw_addOven) 1 = .ok (.getfield 74, 3) := by decide +kernel
theorem dTw_addOven_4 : decode (mC mTw_addOven) 4 = .ok (.ifCond .lt (11), 3) := by decide +kernel
theorem dTw_addOven_7 : decode (mC mTw_addOven) 7 = .ok (.aload_n 0, 1) := by decide +kernel
theorem dTw_addOven_8 : decode (mC mTw_addOven) 8 = .ok (.getfield 74, 3) := by decide +kernel
theorem dTw_addOven_11 : decode (mC mTw_addOven) 11 = .ok (.iconst (4), 1) := by decide +kernel
theorem dTw_addOven_12 : decode (mC mTw_addOven) 12 = .ok (.if_icmp .lt (4), 3) := by decide +kernel
theorem dTw_addOven_15 : decode (mC mTw_addOven) 15 = .ok (.return_, 1) := by decide +kernel
theorem dTw_addOven_16 : decode (mC mTw_addOven) 16 = .ok (.aload_n 0, 1) := by decide +kernel
theorem dTw_addOven_17 : decode (mC mTw_addOven) 17 = .ok (.getfield 12, 3) := by decide +kernel
theorem dTw_addOven_20 : decode (mC mTw_addOven) 20 = .ok (.iconst (1), 1) := by decide +kernel
theorem dTw_addOven_21 : decode (mC mTw_addOven) 21 = .ok (.aload_n 0, 1) := by decide +kernel
theorem dTw_addOven_22 : decode (mC mTw_addOven) 22 = .ok (.getfield 74, 3) := by decide +kernel
theorem dTw_addOven_25 : decode (mC mTw_addOven) 25 = .ok (.lload_n 1, 1) := by decide +kernel
theorem dTw_addOven_26 : decode (mC mTw_addOven) 26 = .ok (.invokevirtual 105, 3) := by decide +kernel
theorem dTw_addOven_29 : decode (mC mTw_addOven) 29 = .ok (.aload_n 0, 1) := by decide +kernel
theorem dTw_addOven_30 : decode (mC mTw_addOven) 30 = .ok (.getfield 42, 3) := by decide +kernel
theorem dTw_addOven_33 : decode (mC mTw_addOven) 33 = .ok (.aload_n 0, 1) := by decide +kernel
theorem dTw_addOven_34 : decode (mC mTw_addOven) 34 = .ok (.getfield 74, 3) := by decide +kernel
theorem dTw_addOven_37 : decode (mC mTw_addOven) 37 = .ok (.iload_n 3, 1) := by decide +kernel
theorem dTw_addOven_38 : decode (mC mTw_addOven) 38 = .ok (.iastore, 1) := by decide +kernel
theorem dTw_addOven_39 : decode (mC mTw_addOven) 39 = .ok (.aload_n 0, 1) := by decide +kernel
theorem dTw_addOven_40 : decode (mC mTw_addOven) 40 = .ok (.dup, 1) := by decide +kernel
theorem dTw_addOven_41 : decode (mC mTw_addOven) 41 = .ok (.getfield 74, 3) := by decide +kernel
theorem dTw_addOven_44 : decode (mC mTw_addOven) 44 = .ok (.iconst (1), 1) := by decide +kernel
theorem dTw_addOven_45 : decode (mC mTw_addOven) 45 = .ok (.iadd, 1) := by decide +kernel
theorem dTw_addOven_46 : decode (mC mTw_addOven) 46 = .ok (.putfield 74, 3) := by decide +kernel
theorem dTw_addOven_49 : decode (mC mTw_addOven) 49 = .ok (.return_, 1) := by decide +kernel
theorem bTw_addOven_0 {E : mEn} {d : Nat} {σ : mSt} {Q : mPost} {j1 : Int64} {a3 : Int32} {t : Nat} (ht : isT t) : WP E d mTw_addOven 0 [.ref t, .long j1, uu, .int a3] [] σ Q = (if (σ.1 t 14) < 0 then WP E d mTw_addOven 15 [.ref t, .long j1, uu, .int a3] [] σ Q else WP E d mTw_addOven 7 [.ref t, .long j1, uu, .int a3] [] σ Q) := (w_aload_n dTw_addOven_0 rfl).trans ((w_geti dTw_addOven_1 rz8_74 (shT_0 ht) rfl).trans (w_iflt (t := 15) dTw_addOven_4 (by decide)))
theorem bTw_addOven_7 {E : mEn} {d : Nat} {σ : mSt} {Q : mPost} {j1 : Int64} {a3 : Int32} {t : Nat} (ht : isT t) : WP E d mTw_addOven 7 [.ref t, .long j1, uu, .int a3] [] σ Q = (if (σ.1 t 14) < (nI 4) then WP E d mTw_addOven 16 [.ref t, .long j1, uu, .int a3] [] σ Q else WP E d mTw_addOven 15 [.ref t, .long j1, uu, .int a3] [] σ Q) := (w_aload_n dTw_addOven_7 rfl).trans ((w_geti dTw_addOven_8 rz8_74 (shT_0 ht) rfl).trans ((w_iconst (v := (nI 4)) dTw_addOven_11 rfl).trans (w_icmplt (t := 16) dTw_addOven_12 (by decide))))
theorem bTw_addOven_15 {E : mEn} {d : Nat} {σ : mSt} {Q : mPost} {j1 : Int64} {a3 : Int32} {t : Nat} (ht : isT t) : WP E d mTw_addOven 15 [.ref t, .long j1, uu, .int a3] [] σ Q = Q none σ := w_vret dTw_addOven_15 rfl
theorem bTw_addOven_16 {E : mEn} {d : Nat} {σ : mSt} {Q : mPost} {j1 : Int64} {a3 : Int32} {t : Nat} (ht : isT t) : WP E (d + 1) mTw_addOven 16 [.ref t, .long j1, uu, .int a3] [] σ Q = WP E d mNa_give 0 [.ref (t + 1), .int 1, .int (σ.1 t 14), .long j1, uu, uu] [] σ (fun r σ' => WP E (d + 1) mTw_addOven 29 [.ref t, .long j1, uu, .int a3] (r.toList ++ []) σ' Q) := (w_aload_n dTw_addOven_16 rfl).trans ((w_getr (r := t + 1) dTw_addOven_17 rz8_12 (shT_0 ht) rfl).trans ((w_iconst (v := 1) dTw_addOven_20 rfl).trans ((w_aload_n dTw_addOven_21 rfl).trans ((w_geti dTw_addOven_22 rz8_74 (shT_0 ht) rfl).trans ((w_lload_n dTw_addOven_25 rfl).trans (w_virt (vs := [.int 1, .int (σ.1 t 14), .long j1]) (st' := []) (es := [.ref (t + 1), .int 1, .int (σ.1 t 14), .long j1, uu, uu]) dTw_addOven_26 rz8_105 rfl (shT_1 ht) rfl rfl rfl (Nat.le_of_ble_eq_true rfl) (Nat.le_of_ble_eq_true rfl) rfl))))))
theorem bTw_addOven_29 {E : mEn} {d : Nat} {σ : mSt} {Q : mPost} {j1 : Int64} {a3 : Int32} {t : Nat} (ht : isT t) : WP E d mTw_addOven 29 [.ref t, .long j1, uu, .int a3] [] σ Q = (if mOut (σ.1 t 14) 4 = true then False else Q none (sI (sI σ (t + 18) (σ.1 t 14).toNatClampNeg a3) t 14 (((sI σ (t + 18) (σ.1 t 14).toNatClampNeg a3).1 t 14) + 1))) := (w_aload_n dTw_addOven_29 rfl).trans ((w_getr (r := t + 18) dTw_addOven_30 rz8_42 (shT_0 ht) rfl).trans ((w_aload_n dTw_addOven_33 rfl).trans ((w_geti dTw_addOven_34 rz8_74 (shT_0 ht) rfl).trans ((w_iload_n dTw_addOven_37 rfl).trans ((w_iast dTw_addOven_38 (shT_18 ht)).trans (ite_c ((w_aload_n dTw_addOven_39 rfl).trans ((w_dup dTw_addOven_40 rfl).trans ((w_geti dTw_addOven_41 rz8_74 (shT_0 ht) rfl).trans ((w_iconst (v := 1) dTw_addOven_44 rfl).trans ((w_iadd dTw_addOven_45).trans ((w_puti dTw_addOven_46 rz8_74 (shT_0 ht) rfl rfl rfl).trans (w_vret dTw_addOven_49 rfl)))))))))))))
theorem dTw_addLoaf_0 : decode (mC mTw_addLoaf) 0 = .ok (.aload_n 0, 1) := by decide +kernel
theorem dTw_addLoaf_1 : decode (mC mTw_addLoaf) 1 = .ok (.getfield 77, 3) := by decide +kernel
theorem dTw_addLoaf_4 : decode (mC mTw_addLoaf) 4 = .ok (.ifCond .lt (20), 3) := by decide +kernel
theorem dTw_addLoaf_7 : decode (mC mTw_addLoaf) 7 = .ok (.aload_n 0, 1) := by decide +kernel
theorem dTw_addLoaf_8 : decode (mC mTw_addLoaf) 8 = .ok (.getfield 77, 3) := by decide +kernel
theorem dTw_addLoaf_11 : decode (mC mTw_addLoaf) 11 = .ok (.bipush (8), 2) := by decide +kernel
theorem dTw_addLoaf_13 : decode (mC mTw_addLoaf) 13 = .ok (.if_icmp .ge (11), 3) := by decide +kernel
theorem dTw_addLoaf_16 : decode (mC mTw_addLoaf) 16 = .ok (.aload_n 0, 1) := by decide +kernel
theorem dTw_addLoaf_17 : decode (mC mTw_addLoaf) 17 = .ok (.iload_n 3, 1) := by decide +kernel
theorem dTw_addLoaf_18 : decode (mC mTw_addLoaf) 18 = .ok (.invokevirtual 109, 3) := by decide +kernel
theorem dTw_addLoaf_21 : decode (mC mTw_addLoaf) 21 = .ok (.ifCond .ne (4), 3) := by decide +kernel
theorem dTw_addLoaf_24 : decode (mC mTw_addLoaf) 24 = .ok (.return_, 1) := by decide +kernel
theorem dTw_addLoaf_25 : decode (mC mTw_addLoaf) 25 = .ok (.aload_n 0, 1) := by decide +kernel
theorem dTw_addLoaf_26 : decode (mC mTw_addLoaf) 26 = .ok (.getfield 12, 3) := by decide +kernel
theorem dTw_addLoaf_29 : decode (mC mTw_addLoaf) 29 = .ok (.iconst (2), 1) := by decide +kernel
theorem dTw_addLoaf_30 : decode (mC mTw_addLoaf) 30 = .ok (.aload_n 0, 1) := by decide +kernel
theorem dTw_addLoaf_31 : decode (mC mTw_addLoaf) 31 = .ok (.getfield 77, 3) := by decide +kernel
theorem dTw_addLoaf_34 : decode (mC mTw_addLoaf) 34 = .ok (.lload_n 1, 1) := by decide +kernel
theorem dTw_addLoaf_35 : decode (mC mTw_addLoaf) 35 = .ok (.invokevirtual 105, 3) := by decide +kernel
theorem dTw_addLoaf_38 : decode (mC mTw_addLoaf) 38 = .ok (.aload_n 0, 1) := by decide +kernel
theorem dTw_addLoaf_39 : decode (mC mTw_addLoaf) 39 = .ok (.getfield 45, 3) := by decide +kernel
theorem dTw_addLoaf_42 : decode (mC mTw_addLoaf) 42 = .ok (.aload_n 0, 1) := by decide +kernel
theorem dTw_addLoaf_43 : decode (mC mTw_addLoaf) 43 = .ok (.getfield 77, 3) := by decide +kernel
theorem dTw_addLoaf_46 : decode (mC mTw_addLoaf) 46 = .ok (.iload_n 3, 1) := by decide +kernel
theorem dTw_addLoaf_47 : decode (mC mTw_addLoaf) 47 = .ok (.iastore, 1) := by decide +kernel
theorem dTw_addLoaf_48 : decode (mC mTw_addLoaf) 48 = .ok (.aload_n 0, 1) := by decide +kernel
theorem dTw_addLoaf_49 : decode (mC mTw_addLoaf) 49 = .ok (.getfield 48, 3) := by decide +kernel
theorem dTw_addLoaf_52 : decode (mC mTw_addLoaf) 52 = .ok (.aload_n 0, 1) := by decide +kernel
theorem dTw_addLoaf_53 : decode (mC mTw_addLoaf) 53 = .ok (.getfield 77, 3) := by decide +kernel
theorem dTw_addLoaf_56 : decode (mC mTw_addLoaf) 56 = .ok (.iload 4, 2) := by decide +kernel
theorem dTw_addLoaf_58 : decode (mC mTw_addLoaf) 58 = .ok (.iastore, 1) := by decide +kernel
theorem dTw_addLoaf_59 : decode (mC mTw_addLoaf) 59 = .ok (.aload_n 0, 1) := by decide +kernel
theorem dTw_addLoaf_60 : decode (mC mTw_addLoaf) 60 = .ok (.getfield 51, 3) := by decide +kernel
theorem dTw_addLoaf_63 : decode (mC mTw_addLoaf) 63 = .ok (.aload_n 0, 1) := by decide +kernel
theorem dTw_addLoaf_64 : decode (mC mTw_addLoaf) 64 = .ok (.getfield 77, 3) := by decide +kernel
theorem dTw_addLoaf_67 : decode (mC mTw_addLoaf) 67 = .ok (.iload 5, 2) := by decide +kernel
theorem dTw_addLoaf_69 : decode (mC mTw_addLoaf) 69 = .ok (.iastore, 1) := by decide +kernel
theorem dTw_addLoaf_70 : decode (mC mTw_addLoaf) 70 = .ok (.aload_n 0, 1) := by decide +kernel
theorem dTw_addLoaf_71 : decode (mC mTw_addLoaf) 71 = .ok (.getfield 54, 3) := by decide +kernel
theorem dTw_addLoaf_74 : decode (mC mTw_addLoaf) 74 = .ok (.aload_n 0, 1) := by decide +kernel
theorem dTw_addLoaf_75 : decode (mC mTw_addLoaf) 75 = .ok (.getfield 77, 3) := by decide +kernel
theorem dTw_addLoaf_78 : decode (mC mTw_addLoaf) 78 = .ok (.iload 6, 2) := by decide +kernel
theorem dTw_addLoaf_80 : decode (mC mTw_addLoaf) 80 = .ok (.iastore, 1) := by decide +kernel
theorem dTw_addLoaf_81 : decode (mC mTw_addLoaf) 81 = .ok (.aload_n 0, 1) := by decide +kernel
theorem dTw_addLoaf_82 : decode (mC mTw_addLoaf) 82 = .ok (.getfield 57, 3) := by decide +kernel
theorem dTw_addLoaf_85 : decode (mC mTw_addLoaf) 85 = .ok (.aload_n 0, 1) := by decide +kernel
theorem dTw_addLoaf_86 : decode (mC mTw_addLoaf) 86 = .ok (.getfield 77, 3) := by decide +kernel
theorem dTw_addLoaf_89 : decode (mC mTw_addLoaf) 89 = .ok (.iload 7, 2) := by decide +kernel
theorem dTw_addLoaf_91 : decode (mC mTw_addLoaf) 91 = .ok (.iastore, 1) := by decide +kernel
theorem dTw_addLoaf_92 : decode (mC mTw_addLoaf) 92 = .ok (.aload_n 0, 1) := by decide +kernel
theorem dTw_addLoaf_93 : decode (mC mTw_addLoaf) 93 = .ok (.getfield 60, 3) := by decide +kernel
theorem dTw_addLoaf_96 : decode (mC mTw_addLoaf) 96 = .ok (.aload_n 0, 1) := by decide +kernel
theorem dTw_addLoaf_97 : decode (mC mTw_addLoaf) 97 = .ok (.getfield 77, 3) := by decide +kernel
theorem dTw_addLoaf_100 : decode (mC mTw_addLoaf) 100 = .ok (.iconst (0), 1) := by decide +kernel
theorem dTw_addLoaf_101 : decode (mC mTw_addLoaf) 101 = .ok (.iastore, 1) := by decide +kernel
theorem dTw_addLoaf_102 : decode (mC mTw_addLoaf) 102 = .ok (.aload_n 0, 1) := by decide +kernel
theorem dTw_addLoaf_103 : decode (mC mTw_addLoaf) 103 = .ok (.dup, 1) := by decide +kernel
theorem dTw_addLoaf_104 : decode (mC mTw_addLoaf) 104 = .ok (.getfield 77, 3) := by decide +kernel
theorem dTw_addLoaf_107 : decode (mC mTw_addLoaf) 107 = .ok (.iconst (1), 1) := by decide +kernel
theorem dTw_addLoaf_108 : decode (mC mTw_addLoaf) 108 = .ok (.iadd, 1) := by decide +kernel
theorem dTw_addLoaf_109 : decode (mC mTw_addLoaf) 109 = .ok (.putfield 77, 3) := by decide +kernel
theorem dTw_addLoaf_112 : decode (mC mTw_addLoaf) 112 = .ok (.return_, 1) := by decide +kernel
theorem bTw_addLoaf_0 {E : mEn} {d : Nat} {σ : mSt} {Q : mPost} {j1 : Int64} {a3 : Int32} {a4 : Int32} {a5 : Int32} {a6 : Int32} {a7 : Int32} {t : Nat} (ht : isT t) : WP E d mTw_addLoaf 0 [.ref t, .long j1, uu, .int a3, .int a4, .int a5, .int a6, .int a7] [] σ Q = (if (σ.1 t 15) < 0 then WP E d mTw_addLoaf 24 [.ref t, .long j1, uu, .int a3, .int a4, .int a5, .int a6, .int a7] [] σ Q else WP E d mTw_addLoaf 7 [.ref t, .long j1, uu, .int a3, .int a4, .int a5, .int a6, .int a7] [] σ Q) := (w_aload_n dTw_addLoaf_0 rfl).trans ((w_geti dTw_addLoaf_1 rz8_77 (shT_0 ht) rfl).trans (w_iflt (t := 24) dTw_addLoaf_4 (by decide)))
theorem bTw_addLoaf_7 {E : mEn} {d : Nat} {σ : mSt} {Q : mPost} {j1 : Int64} {a3 : Int32} {a4 : Int32} {a5 : Int32} {a6 : Int32} {a7 : Int32} {t : Nat} (ht : isT t) : WP E d mTw_addLoaf 7 [.ref t, .long j1, uu, .int a3, .int a4, .int a5, .int a6, .int a7] [] σ Q = (if (nI 8) ≤ (σ.1 t 15) then WP E d mTw_addLoaf 24 [.ref t, .long j1, uu, .int a3, .int a4, .int a5, .int a6, .int a7] [] σ Q else WP E d mTw_addLoaf 16 [.ref t, .long j1, uu, .int a3, .int a4, .int a5, .int a6, .int a7] [] σ Q) := (w_aload_n dTw_addLoaf_7 rfl).trans ((w_geti dTw_addLoaf_8 rz8_77 (shT_0 ht) rfl).trans ((w_bipush (v := (nI 8)) dTw_addLoaf_11 rfl).trans (w_icmpge (t := 24) dTw_addLoaf_13 (by decide))))
theorem bTw_addLoaf_16 {E : mEn} {d : Nat} {σ : mSt} {Q : mPost} {j1 : Int64} {a3 : Int32} {a4 : Int32} {a5 : Int32} {a6 : Int32} {a7 : Int32} {t : Nat} (ht : isT t) : WP E (d + 1) mTw_addLoaf 16 [.ref t, .long j1, uu, .int a3, .int a4, .int a5, .int a6, .int a7] [] σ Q = WP E d mTw_hasPerson 0 [.ref t, .int a3] [] σ (fun r σ' => WP E (d + 1) mTw_addLoaf 21 [.ref t, .long j1, uu, .int a3, .int a4, .int a5, .int a6, .int a7] (r.toList ++ []) σ' Q) := (w_aload_n dTw_addLoaf_16 rfl).trans ((w_iload_n dTw_addLoaf_17 rfl).trans (w_virt (vs := [.int a3]) (st' := []) (es := [.ref t, .int a3]) dTw_addLoaf_18 rz8_109 rfl (shT_0 ht) rfl rfl rfl (Nat.le_of_ble_eq_true rfl) (Nat.le_of_ble_eq_true rfl) rfl))
theorem bTw_addLoaf_21 {E : mEn} {d : Nat} {σ : mSt} {Q : mPost} {j1 : Int64} {a3 : Int32} {a4 : Int32} {a5 : Int32} {a6 : Int32} {a7 : Int32} {s0 : Int32} {t : Nat} (ht : isT t) : WP E d mTw_addLoaf 21 [.ref t, .long j1, uu, .int a3, .int a4, .int a5, .int a6, .int a7] [.int s0] σ Q = (if ¬ s0 = 0 then WP E d mTw_addLoaf 25 [.ref t, .long j1, uu, .int a3, .int a4, .int a5, .int a6, .int a7] [] σ Q else WP E d mTw_addLoaf 24 [.ref t, .long j1, uu, .int a3, .int a4, .int a5, .int a6, .int a7] [] σ Q) := w_ifne (t := 25) dTw_addLoaf_21 (by decide)
theorem bTw_addLoaf_24 {E : mEn} {d : Nat} {σ : mSt} {Q : mPost} {j1 : Int64} {a3 : Int32} {a4 : Int32} {a5 : Int32} {a6 : Int32} {a7 : Int32} {t : Nat} (ht : isT t) : WP E d mTw_addLoaf 24 [.ref t, .long j1, uu, .int a3, .int a4, .int a5, .int a6, .int a7] [] σ Q = Q none σ := w_vret dTw_addLoaf_24 rfl
theorem bTw_addLoaf_25 {E : mEn} {d : Nat} {σ : mSt} {Q : mPost} {j1 : Int64} {a3 : Int32} {a4 : Int32} {a5 : Int32} {a6 : Int32} {a7 : Int32} {t : Nat} (ht : isT t) : WP E (d + 1) mTw_addLoaf 25 [.ref t, .long j1, uu, .int a3, .int a4, .int a5, .int a6, .int a7] [] σ Q = WP E d mNa_give 0 [.ref (t + 1), .int (nI 2), .int (σ.1 t 15), .long j1, uu, uu] [] σ (fun r σ' => WP E (d + 1) mTw_addLoaf 38 [.ref t, .long j1, uu, .int a3, .int a4, .int a5, .int a6, .int a7] (r.toList ++ []) σ' Q) := (w_aload_n dTw_addLoaf_25 rfl).trans ((w_getr (r := t + 1) dTw_addLoaf_26 rz8_12 (shT_0 ht) rfl).trans ((w_iconst (v := (nI 2)) dTw_addLoaf_29 rfl).trans ((w_aload_n dTw_addLoaf_30 rfl).trans ((w_geti dTw_addLoaf_31 rz8_77 (shT_0 ht) rfl).trans ((w_lload_n dTw_addLoaf_34 rfl).trans (w_virt (vs := [.int (nI 2), .int (σ.1 t 15), .long j1]) (st' := []) (es := [.ref (t + 1), .int (nI 2), .int (σ.1 t 15), .long j1, uu, uu]) dTw_addLoaf_35 rz8_105 rfl (shT_1 ht) rfl rfl rfl (Nat.le_of_ble_eq_true rfl) (Nat.le_of_ble_eq_true rfl) rfl))))))
theorem bTw_addLoaf_38 {E : mEn} {d : Nat} {σ : mSt} {Q : mPost} {j1 : Int64} {a3 : Int32} {a4 : Int32} {a5 : Int32} {a6 : Int32} {a7 : Int32} {t : Nat} (ht : isT t) : WP E d mTw_addLoaf 38 [.ref t, .long j1, uu, .int a3, .int a4, .int a5, .int a6, .int a7] [] σ Q = (if mOut (σ.1 t 15) 8 = true then False else (if mOut ((sI σ (t + 19) (σ.1 t 15).toNatClampNeg a3).1 t 15) 8 = true then False else (if mOut ((sI (sI σ (t + 19) (σ.1 t 15).toNatClampNeg a3) (t + 20) ((sI σ (t + 19) (σ.1 t 15).toNatClampNeg a3).1 t 15).toNatClampNeg a4).1 t 15) 8 = true then False else WP E d mTw_addLoaf 70 [.ref t, .long j1, uu, .int a3, .int a4, .int a5, .int a6, .int a7] [] (sI (sI (sI σ (t + 19) (σ.1 t 15).toNatClampNeg a3) (t + 20) ((sI σ (t + 19) (σ.1 t 15).toNatClampNeg a3).1 t 15).toNatClampNeg a4) (t + 21) ((sI (sI σ (t + 19) (σ.1 t 15).toNatClampNeg a3) (t + 20) ((sI σ (t + 19) (σ.1 t 15).toNatClampNeg a3).1 t 15).toNatClampNeg a4).1 t 15).toNatClampNeg a5) Q))) := (w_aload_n dTw_addLoaf_38 rfl).trans ((w_getr (r := t + 19) dTw_addLoaf_39 rz8_45 (shT_0 ht) rfl).trans ((w_aload_n dTw_addLoaf_42 rfl).trans ((w_geti dTw_addLoaf_43 rz8_77 (shT_0 ht) rfl).trans ((w_iload_n dTw_addLoaf_46 rfl).trans ((w_iast dTw_addLoaf_47 (shT_19 ht)).trans (ite_c ((w_aload_n dTw_addLoaf_48 rfl).trans ((w_getr (r := t + 20) dTw_addLoaf_49 rz8_48 (shT_0 ht) rfl).trans ((w_aload_n dTw_addLoaf_52 rfl).trans ((w_geti dTw_addLoaf_53 rz8_77 (shT_0 ht) rfl).trans ((w_iload dTw_addLoaf_56 rfl).trans ((w_iast dTw_addLoaf_58 (shT_20 ht)).trans (ite_c ((w_aload_n dTw_addLoaf_59 rfl).trans ((w_getr (r := t + 21) dTw_addLoaf_60 rz8_51 (shT_0 ht) rfl).trans ((w_aload_n dTw_addLoaf_63 rfl).trans ((w_geti dTw_addLoaf_64 rz8_77 (shT_0 ht) rfl).trans ((w_iload dTw_addLoaf_67 rfl).trans ((w_iast dTw_addLoaf_69 (shT_21 ht)).trans (ite_c (rfl)))))))))))))))))))))
theorem bTw_addLoaf_70 {E : mEn} {d : Nat} {σ : mSt} {Q : mPost} {j1 : Int64} {a3 : Int32} {a4 : Int32} {a5 : Int32} {a6 : Int32} {a7 : Int32} {t : Nat} (ht : isT t) : WP E d mTw_addLoaf 70 [.ref t, .long j1, uu, .int a3, .int a4, .int a5, .int a6, .int a7] [] σ Q = (if mOut (σ.1 t 15) 8 = true then False else (if mOut ((sI σ (t + 22) (σ.1 t 15).toNatClampNeg a6).1 t 15) 8 = true then False else (if mOut ((sI (sI σ (t + 22) (σ.1 t 15).toNatClampNeg a6) (t + 23) ((sI σ (t + 22) (σ.1 t 15).toNatClampNeg a6).1 t 15).toNatClampNeg a7).1 t 15) 8 = true then False else WP E d mTw_addLoaf 102 [.ref t, .long j1, uu, .int a3, .int a4, .int a5, .int a6, .int a7] [] (sI (sI (sI σ (t + 22) (σ.1 t 15).toNatClampNeg a6) (t + 23) ((sI σ (t + 22) (σ.1 t 15).toNatClampNeg a6).1 t 15).toNatClampNeg a7) (t + 24) ((sI (sI σ (t + 22) (σ.1 t 15).toNatClampNeg a6) (t + 23) ((sI σ (t + 22) (σ.1 t 15).toNatClampNeg a6).1 t 15).toNatClampNeg a7).1 t 15).toNatClampNeg 0) Q))) := (w_aload_n dTw_addLoaf_70 rfl).trans ((w_getr (r := t + 22) dTw_addLoaf_71 rz8_54 (shT_0 ht) rfl).trans ((w_aload_n dTw_addLoaf_74 rfl).trans ((w_geti dTw_addLoaf_75 rz8_77 (shT_0 ht) rfl).trans ((w_iload dTw_addLoaf_78 rfl).trans ((w_iast dTw_addLoaf_80 (shT_22 ht)).trans (ite_c ((w_aload_n dTw_addLoaf_81 rfl).trans ((w_getr (r := t + 23) dTw_addLoaf_82 rz8_57 (shT_0 ht) rfl).trans ((w_aload_n dTw_addLoaf_85 rfl).trans ((w_geti dTw_addLoaf_86 rz8_77 (shT_0 ht) rfl).trans ((w_iload dTw_addLoaf_89 rfl).trans ((w_iast dTw_addLoaf_91 (shT_23 ht)).trans (ite_c ((w_aload_n dTw_addLoaf_92 rfl).trans ((w_getr (r := t + 24) dTw_addLoaf_93 rz8_60 (shT_0 ht) rfl).trans ((w_aload_n dTw_addLoaf_96 rfl).trans ((w_geti dTw_addLoaf_97 rz8_77 (shT_0 ht) rfl).trans ((w_iconst (v := 0) dTw_addLoaf_100 rfl).trans ((w_iast dTw_addLoaf_101 (shT_24 ht)).trans (ite_c (rfl)))))))))))))))))))))
theorem bTw_addLoaf_102 {E : mEn} {d : Nat} {σ : mSt} {Q : mPost} {j1 : Int64} {a3 : Int32} {a4 : Int32} {a5 : Int32} {a6 : Int32} {a7 : Int32} {t : Nat} (ht : isT t) : WP E d mTw_addLoaf 102 [.ref t, .long j1, uu, .int a3, .int a4, .int a5, .int a6, .int a7] [] σ Q = Q none (sI σ t 15 ((σ.1 t 15) + 1)) := (w_aload_n dTw_addLoaf_102 rfl).trans ((w_dup dTw_addLoaf_103 rfl).trans ((w_geti dTw_addLoaf_104 rz8_77 (shT_0 ht) rfl).trans ((w_iconst (v := 1) dTw_addLoaf_107 rfl).trans ((w_iadd dTw_addLoaf_108).trans ((w_puti dTw_addLoaf_109 rz8_77 (shT_0 ht) rfl rfl rfl).trans (w_vret dTw_addLoaf_112 rfl))))))
theorem dTw_hasPerson_0 : decode (mC mTw_hasPerson) 0 = .ok (.iload_n 1, 1) := by decide +kernel
theorem dTw_hasPerson_1 : decode (mC mTw_hasPerson) 1 = .ok (.ifCond .lt (21), 3) := by decide +kernel
theorem dTw_hasPerson_4 : decode (mC mTw_hasPerson) 4 = .ok (.iload_n 1, 1) := by decide +kernel
theorem dTw_hasPerson_5 : decode (mC mTw_hasPerson) 5 = .ok (.aload_n 0, 1) := by decide +kernel
theorem dTw_hasPerson_6 : decode (mC mTw_hasPerson) 6 = .ok (.getfield 71, 3) := by decide +kernel
theorem dTw_hasPerson_9 : decode (mC mTw_hasPerson) 9 = .ok (.if_icmp .ge (13), 3) := by decide +kernel
theorem dTw_hasPerson_12 : decode (mC mTw_hasPerson) 12 = .ok (.iload_n 1, 1) := by decide +kernel
theorem dTw_hasPerson_13 : decode (mC mTw_hasPerson) 13 = .ok (.bipush (8), 2) := by decide +kernel
theorem dTw_hasPerson_15 : decode (mC mTw_hasPerson) 15 = .ok (.if_icmp .ge (7), 3) := by decide +kernel
theorem dTw_hasPerson_18 : decode (mC mTw_hasPerson) 18 = .ok (.iconst (1), 1) := by decide +kernel
theorem dTw_hasPerson_19 : decode (mC mTw_hasPerson) 19 = .ok (.goto (4), 3) := by decide +kernel
theorem dTw_hasPerson_22 : decode (mC mTw_hasPerson) 22 = .ok (.iconst (0), 1) := by decide +kernel
theorem dTw_hasPerson_23 : decode (mC mTw_hasPerson) 23 = .ok (.ireturn, 1) := by decide +kernel
theorem bTw_hasPerson_0 {E : mEn} {d : Nat} {σ : mSt} {Q : mPost} {a1 : Int32} {t : Nat} (ht : isT t) : WP E d mTw_hasPerson 0 [.ref t, .int a1] [] σ Q = (if a1 < 0 then WP E d mTw_hasPerson 22 [.ref t, .int a1] [] σ Q else WP E d mTw_hasPerson 4 [.ref t, .int a1] [] σ Q) := (w_iload_n dTw_hasPerson_0 rfl).trans (w_iflt (t := 22) dTw_hasPerson_1 (by decide))
theorem bTw_hasPerson_4 {E : mEn} {d : Nat} {σ : mSt} {Q : mPost} {a1 : Int32} {t : Nat} (ht : isT t) : WP E d mTw_hasPerson 4 [.ref t, .int a1] [] σ Q = (if (σ.1 t 13) ≤ a1 then WP E d mTw_hasPerson 22 [.ref t, .int a1] [] σ Q else WP E d mTw_hasPerson 12 [.ref t, .int a1] [] σ Q) := (w_iload_n dTw_hasPerson_4 rfl).trans ((w_aload_n dTw_hasPerson_5 rfl).trans ((w_geti dTw_hasPerson_6 rz8_71 (shT_0 ht) rfl).trans (w_icmpge (t := 22) dTw_hasPerson_9 (by decide))))
theorem bTw_hasPerson_12 {E : mEn} {d : Nat} {σ : mSt} {Q : mPost} {a1 : Int32} {t : Nat} (ht : isT t) : WP E d mTw_hasPerson 12 [.ref t, .int a1] [] σ Q = (if (nI 8) ≤ a1 then WP E d mTw_hasPerson 22 [.ref t, .int a1] [] σ Q else WP E d mTw_hasPerson 18 [.ref t, .int a1] [] σ Q) := (w_iload_n dTw_hasPerson_12 rfl).trans ((w_bipush (v := (nI 8)) dTw_hasPerson_13 rfl).trans (w_icmpge (t := 22) dTw_hasPerson_15 (by decide)))
theorem bTw_hasPerson_18 {E : mEn} {d : Nat} {σ : mSt} {Q : mPost} {a1 : Int32} {t : Nat} (ht : isT t) : WP E d mTw_hasPerson 18 [.ref t, .int a1] [] σ Q = WP E d mTw_hasPerson 23 [.ref t, .int a1] [.int 1] σ Q := (w_iconst (v := 1) dTw_hasPerson_18 rfl).trans (w_goto (t := 23) dTw_hasPerson_19 (by decide))
theorem bTw_hasPerson_22 {E : mEn} {d : Nat} {σ : mSt} {Q : mPost} {a1 : Int32} {t : Nat} (ht : isT t) : WP E d mTw_hasPerson 22 [.ref t, .int a1] [] σ Q = WP E d mTw_hasPerson 23 [.ref t, .int a1] [.int 0] σ Q := w_iconst (v := 0) dTw_hasPerson_22 rfl
theorem bTw_hasPerson_23 {E : mEn} {d : Nat} {σ : mSt} {Q : mPost} {a1 : Int32} {s0 : Int32} {t : Nat} (ht : isT t) (hz0 : s0 = 0 ∨ s0 = 1) : WP E d mTw_hasPerson 23 [.ref t, .int a1] [.int s0] σ Q = Q (some (.int s0)) σ := w_zret dTw_hasPerson_23 rfl hz0
theorem dTw_handOn_0 : decode (mC mTw_handOn) 0 = .ok (.aload_n 0, 1) := by decide +kernel
theorem dTw_handOn_1 : decode (mC mTw_handOn) 1 = .ok (.getfield 21, 3) := by decide +kernel
theorem dTw_handOn_4 : decode (mC mTw_handOn) 4 = .ok (.getfield 66, 3) := by decide +kernel
theorem dTw_handOn_7 : decode (mC mTw_handOn) 7 = .ok (.istore 6, 2) := by decide +kernel
theorem dTw_handOn_9 : decode (mC mTw_handOn) 9 = .ok (.aload_n 0, 1) := by decide +kernel
theorem dTw_handOn_10 : decode (mC mTw_handOn) 10 = .ok (.getfield 21, 3) := by decide +kernel
theorem dTw_handOn_13 : decode (mC mTw_handOn) 13 = .ok (.invokevirtual 116, 3) := by decide +kernel
theorem dTw_handOn_16 : decode (mC mTw_handOn) 16 = .ok (.ifCond .eq (20), 3) := by decide +kernel
theorem dTw_handOn_19 : decode (mC mTw_handOn) 19 = .ok (.aload_n 0, 1) := by decide +kernel
theorem dTw_handOn_20 : decode (mC mTw_handOn) 20 = .ok (.iload_n 3, 1) := by decide +kernel
theorem dTw_handOn_21 : decode (mC mTw_handOn) 21 = .ok (.invokevirtual 109, 3) := by decide +kernel
theorem dTw_handOn_24 : decode (mC mTw_handOn) 24 = .ok (.ifCond .eq (12), 3) := by decide +kernel
theorem dTw_handOn_27 : decode (mC mTw_handOn) 27 = .ok (.aload_n 0, 1) := by decide +kernel
theorem dTw_handOn_28 : decode (mC mTw_handOn) 28 = .ok (.iload 4, 2) := by decide +kernel
theorem dTw_handOn_30 : decode (mC mTw_handOn) 30 = .ok (.invokevirtual 109, 3) := by decide +kernel
theorem dTw_handOn_33 : decode (mC mTw_handOn) 33 = .ok (.ifCond .ne (5), 3) := by decide +kernel
theorem dTw_handOn_36 : decode (mC mTw_handOn) 36 = .ok (.iconst (-1), 1) := by decide +kernel
theorem dTw_handOn_37 : decode (mC mTw_handOn) 37 = .ok (.ireturn, 1) := by decide +kernel
theorem dTw_handOn_38 : decode (mC mTw_handOn) 38 = .ok (.aload_n 0, 1) := by decide +kernel
theorem dTw_handOn_39 : decode (mC mTw_handOn) 39 = .ok (.getfield 21, 3) := by decide +kernel
theorem dTw_handOn_42 : decode (mC mTw_handOn) 42 = .ok (.getfield 120, 3) := by decide +kernel
theorem dTw_handOn_45 : decode (mC mTw_handOn) 45 = .ok (.iload 6, 2) := by decide +kernel
theorem dTw_handOn_47 : decode (mC mTw_handOn) 47 = .ok (.iload_n 1, 1) := by decide +kernel
theorem dTw_handOn_48 : decode (mC mTw_handOn) 48 = .ok (.iastore, 1) := by decide +kernel
theorem dTw_handOn_49 : decode (mC mTw_handOn) 49 = .ok (.aload_n 0, 1) := by decide +kernel
theorem dTw_handOn_50 : decode (mC mTw_handOn) 50 = .ok (.getfield 21, 3) := by decide +kernel
theorem dTw_handOn_53 : decode (mC mTw_handOn) 53 = .ok (.getfield 121, 3) := by decide +kernel
theorem dTw_handOn_56 : decode (mC mTw_handOn) 56 = .ok (.iload 6, 2) := by decide +kernel
theorem dTw_handOn_58 : decode (mC mTw_handOn) 58 = .ok (.iload_n 2, 1) := by decide +kernel
theorem dTw_handOn_59 : decode (mC mTw_handOn) 59 = .ok (.iastore, 1) := by decide +kernel
theorem dTw_handOn_60 : decode (mC mTw_handOn) 60 = .ok (.aload_n 0, 1) := by decide +kernel
theorem dTw_handOn_61 : decode (mC mTw_handOn) 61 = .ok (.getfield 21, 3) := by decide +kernel
theorem dTw_handOn_64 : decode (mC mTw_handOn) 64 = .ok (.getfield 124, 3) := by decide +kernel
theorem dTw_handOn_67 : decode (mC mTw_handOn) 67 = .ok (.iload 6, 2) := by decide +kernel
theorem dTw_handOn_69 : decode (mC mTw_handOn) 69 = .ok (.iload_n 3, 1) := by decide +kernel
theorem dTw_handOn_70 : decode (mC mTw_handOn) 70 = .ok (.iastore, 1) := by decide +kernel
theorem dTw_handOn_71 : decode (mC mTw_handOn) 71 = .ok (.aload_n 0, 1) := by decide +kernel
theorem dTw_handOn_72 : decode (mC mTw_handOn) 72 = .ok (.getfield 21, 3) := by decide +kernel
theorem dTw_handOn_75 : decode (mC mTw_handOn) 75 = .ok (.getfield 127, 3) := by decide +kernel
theorem dTw_handOn_78 : decode (mC mTw_handOn) 78 = .ok (.iload 6, 2) := by decide +kernel
theorem dTw_handOn_80 : decode (mC mTw_handOn) 80 = .ok (.iload 4, 2) := by decide +kernel
theorem dTw_handOn_82 : decode (mC mTw_handOn) 82 = .ok (.iastore, 1) := by decide +kernel
theorem dTw_handOn_83 : decode (mC mTw_handOn) 83 = .ok (.aload_n 0, 1) := by decide +kernel
theorem dTw_handOn_84 : decode (mC mTw_handOn) 84 = .ok (.getfield 21, 3) := by decide +kernel
theorem dTw_handOn_87 : decode (mC mTw_handOn) 87 = .ok (.getfield 130, 3) := by decide +kernel
theorem dTw_handOn_90 : decode (mC mTw_handOn) 90 = .ok (.iload 6, 2) := by decide +kernel
theorem dTw_handOn_92 : decode (mC mTw_handOn) 92 = .ok (.iload 5, 2) := by decide +kernel
theorem dTw_handOn_94 : decode (mC mTw_handOn) 94 = .ok (.iastore, 1) := by decide +kernel
theorem dTw_handOn_95 : decode (mC mTw_handOn) 95 = .ok (.aload_n 0, 1) := by decide +kernel
theorem dTw_handOn_96 : decode (mC mTw_handOn) 96 = .ok (.getfield 21, 3) := by decide +kernel
theorem dTw_handOn_99 : decode (mC mTw_handOn) 99 = .ok (.getfield 133, 3) := by decide +kernel
theorem dTw_handOn_102 : decode (mC mTw_handOn) 102 = .ok (.iload 6, 2) := by decide +kernel
theorem dTw_handOn_104 : decode (mC mTw_handOn) 104 = .ok (.iconst (0), 1) := by decide +kernel
theorem dTw_handOn_105 : decode (mC mTw_handOn) 105 = .ok (.bastore, 1) := by decide +kernel
theorem dTw_handOn_106 : decode (mC mTw_handOn) 106 = .ok (.aload_n 0, 1) := by decide +kernel
theorem dTw_handOn_107 : decode (mC mTw_handOn) 107 = .ok (.getfield 21, 3) := by decide +kernel
theorem dTw_handOn_110 : decode (mC mTw_handOn) 110 = .ok (.dup, 1) := by decide +kernel
theorem dTw_handOn_111 : decode (mC mTw_handOn) 111 = .ok (.getfield 66, 3) := by decide +kernel
theorem dTw_handOn_114 : decode (mC mTw_handOn) 114 = .ok (.iconst (1), 1) := by decide +kernel
theorem dTw_handOn_115 : decode (mC mTw_handOn) 115 = .ok (.iadd, 1) := by decide +kernel
theorem dTw_handOn_116 : decode (mC mTw_handOn) 116 = .ok (.putfield 66, 3) := by decide +kernel
theorem dTw_handOn_119 : decode (mC mTw_handOn) 119 = .ok (.aload_n 0, 1) := by decide +kernel
theorem dTw_handOn_120 : decode (mC mTw_handOn) 120 = .ok (.getfield 32, 3) := by decide +kernel
theorem dTw_handOn_123 : decode (mC mTw_handOn) 123 = .ok (.iload_n 3, 1) := by decide +kernel
theorem dTw_handOn_124 : decode (mC mTw_handOn) 124 = .ok (.dup2, 1) := by decide +kernel
theorem dTw_handOn_125 : decode (mC mTw_handOn) 125 = .ok (.iaload, 1) := by decide +kernel
theorem dTw_handOn_126 : decode (mC mTw_handOn) 126 = .ok (.iload 5, 2) := by decide +kernel
theorem dTw_handOn_128 : decode (mC mTw_handOn) 128 = .ok (.iadd, 1) := by decide +kernel
theorem dTw_handOn_129 : decode (mC mTw_handOn) 129 = .ok (.iastore, 1) := by decide +kernel
theorem dTw_handOn_130 : decode (mC mTw_handOn) 130 = .ok (.aload_n 0, 1) := by decide +kernel
theorem dTw_handOn_131 : decode (mC mTw_handOn) 131 = .ok (.getfield 32, 3) := by decide +kernel
theorem dTw_handOn_134 : decode (mC mTw_handOn) 134 = .ok (.iload 4, 2) := by decide +kernel
theorem dTw_handOn_136 : decode (mC mTw_handOn) 136 = .ok (.dup2, 1) := by decide +kernel
theorem dTw_handOn_137 : decode (mC mTw_handOn) 137 = .ok (.iaload, 1) := by decide +kernel
theorem dTw_handOn_138 : decode (mC mTw_handOn) 138 = .ok (.iload 5, 2) := by decide +kernel
theorem dTw_handOn_140 : decode (mC mTw_handOn) 140 = .ok (.isub, 1) := by decide +kernel
theorem dTw_handOn_141 : decode (mC mTw_handOn) 141 = .ok (.iastore, 1) := by decide +kernel
theorem dTw_handOn_142 : decode (mC mTw_handOn) 142 = .ok (.iload 6, 2) := by decide +kernel
theorem dTw_handOn_144 : decode (mC mTw_handOn) 144 = .ok (.ireturn, 1) := by decide +kernel
theorem bTw_handOn_0 {E : mEn} {d : Nat} {σ : mSt} {Q : mPost} {a1 : Int32} {a2 : Int32} {a3 : Int32} {a4 : Int32} {a5 : Int32} {u6 : Value} {t : Nat} (ht : isT t) : WP E (d + 1) mTw_handOn 0 [.ref t, .int a1, .int a2, .int a3, .int a4, .int a5, u6] [] σ Q = WP E d mPr_hasRoom 0 [.ref (t + 3)] [] σ (fun r σ' => WP E (d + 1) mTw_handOn 16 [.ref t, .int a1, .int a2, .int a3, .int a4, .int a5, .int (σ.1 (t + 3) 8)] (r.toList ++ []) σ' Q) := (w_aload_n dTw_handOn_0 rfl).trans ((w_getr (r := t + 3) dTw_handOn_1 rz8_21 (shT_0 ht) rfl).trans ((w_geti dTw_handOn_4 rz8_66 (shT_3 ht) rfl).trans ((w_istore (ls' := [.ref t, .int a1, .int a2, .int a3, .int a4, .int a5, .int (σ.1 (t + 3) 8)]) dTw_handOn_7 (Nat.le_of_ble_eq_true rfl) rfl).trans ((w_aload_n dTw_handOn_9 rfl).trans ((w_getr (r := t + 3) dTw_handOn_10 rz8_21 (shT_0 ht) rfl).trans (w_virt (vs := []) (st' := []) (es := [.ref (t + 3)]) dTw_handOn_13 rz8_116 rfl (shT_3 ht) rfl rfl rfl (Nat.le_of_ble_eq_true rfl) (Nat.le_of_ble_eq_true rfl) rfl))))))
theorem bTw_handOn_16 {E : mEn} {d : Nat} {σ : mSt} {Q : mPost} {a1 : Int32} {a2 : Int32} {a3 : Int32} {a4 : Int32} {a5 : Int32} {a6 : Int32} {s0 : Int32} {t : Nat} (ht : isT t) : WP E d mTw_handOn 16 [.ref t, .int a1, .int a2, .int a3, .int a4, .int a5, .int a6] [.int s0] σ Q = (if s0 = 0 then WP E d mTw_handOn 36 [.ref t, .int a1, .int a2, .int a3, .int a4, .int a5, .int a6] [] σ Q else WP E d mTw_handOn 19 [.ref t, .int a1, .int a2, .int a3, .int a4, .int a5, .int a6] [] σ Q) := w_ifeq (t := 36) dTw_handOn_16 (by decide)
theorem bTw_handOn_19 {E : mEn} {d : Nat} {σ : mSt} {Q : mPost} {a1 : Int32} {a2 : Int32} {a3 : Int32} {a4 : Int32} {a5 : Int32} {a6 : Int32} {t : Nat} (ht : isT t) : WP E (d + 1) mTw_handOn 19 [.ref t, .int a1, .int a2, .int a3, .int a4, .int a5, .int a6] [] σ Q = WP E d mTw_hasPerson 0 [.ref t, .int a3] [] σ (fun r σ' => WP E (d + 1) mTw_handOn 24 [.ref t, .int a1, .int a2, .int a3, .int a4, .int a5, .int a6] (r.toList ++ []) σ' Q) := (w_aload_n dTw_handOn_19 rfl).trans ((w_iload_n dTw_handOn_20 rfl).trans (w_virt (vs := [.int a3]) (st' := []) (es := [.ref t, .int a3]) dTw_handOn_21 rz8_109 rfl (shT_0 ht) rfl rfl rfl (Nat.le_of_ble_eq_true rfl) (Nat.le_of_ble_eq_true rfl) rfl))
theorem bTw_handOn_24 {E : mEn} {d : Nat} {σ : mSt} {Q : mPost} {a1 : Int32} {a2 : Int32} {a3 : Int32} {a4 : Int32} {a5 : Int32} {a6 : Int32} {s0 : Int32} {t : Nat} (ht : isT t) : WP E d mTw_handOn 24 [.ref t, .int a1, .int a2, .int a3, .int a4, .int a5, .int a6] [.int s0] σ Q = (if s0 = 0 then WP E d mTw_handOn 36 [.ref t, .int a1, .int a2, .int a3, .int a4, .int a5, .int a6] [] σ Q else WP E d mTw_handOn 27 [.ref t, .int a1, .int a2, .int a3, .int a4, .int a5, .int a6] [] σ Q) := w_ifeq (t := 36) dTw_handOn_24 (by decide)
theorem bTw_handOn_27 {E : mEn} {d : Nat} {σ : mSt} {Q : mPost} {a1 : Int32} {a2 : Int32} {a3 : Int32} {a4 : Int32} {a5 : Int32} {a6 : Int32} {t : Nat} (ht : isT t) : WP E (d + 1) mTw_handOn 27 [.ref t, .int a1, .int a2, .int a3, .int a4, .int a5, .int a6] [] σ Q = WP E d mTw_hasPerson 0 [.ref t, .int a4] [] σ (fun r σ' => WP E (d + 1) mTw_handOn 33 [.ref t, .int a1, .int a2, .int a3, .int a4, .int a5, .int a6] (r.toList ++ []) σ' Q) := (w_aload_n dTw_handOn_27 rfl).trans ((w_iload dTw_handOn_28 rfl).trans (w_virt (vs := [.int a4]) (st' := []) (es := [.ref t, .int a4]) dTw_handOn_30 rz8_109 rfl (shT_0 ht) rfl rfl rfl (Nat.le_of_ble_eq_true rfl) (Nat.le_of_ble_eq_true rfl) rfl))
theorem bTw_handOn_33 {E : mEn} {d : Nat} {σ : mSt} {Q : mPost} {a1 : Int32} {a2 : Int32} {a3 : Int32} {a4 : Int32} {a5 : Int32} {a6 : Int32} {s0 : Int32} {t : Nat} (ht : isT t) : WP E d mTw_handOn 33 [.ref t, .int a1, .int a2, .int a3, .int a4, .int a5, .int a6] [.int s0] σ Q = (if ¬ s0 = 0 then WP E d mTw_handOn 38 [.ref t, .int a1, .int a2, .int a3, .int a4, .int a5, .int a6] [] σ Q else WP E d mTw_handOn 36 [.ref t, .int a1, .int a2, .int a3, .int a4, .int a5, .int a6] [] σ Q) := w_ifne (t := 38) dTw_handOn_33 (by decide)
theorem bTw_handOn_36 {E : mEn} {d : Nat} {σ : mSt} {Q : mPost} {a1 : Int32} {a2 : Int32} {a3 : Int32} {a4 : Int32} {a5 : Int32} {a6 : Int32} {t : Nat} (ht : isT t) : WP E d mTw_handOn 36 [.ref t, .int a1, .int a2, .int a3, .int a4, .int a5, .int a6] [] σ Q = Q (some (.int (-1))) σ := (w_iconst (v := (-1)) dTw_handOn_36 rfl).trans (w_iret dTw_handOn_37 rfl)
theorem bTw_handOn_38 {E : mEn} {d : Nat} {σ : mSt} {Q : mPost} {a1 : Int32} {a2 : Int32} {a3 : Int32} {a4 : Int32} {a5 : Int32} {a6 : Int32} {t : Nat} (ht : isT t) : WP E d mTw_handOn 38 [.ref t, .int a1, .int a2, .int a3, .int a4, .int a5, .int a6] [] σ Q = (if mOut a6 40 = true then False else (if mOut a6 40 = true then False else (if mOut a6 40 = true then False else (if mOut a6 40 = true then False else (if mOut a6 40 = true then False else WP E d mTw_handOn 95 [.ref t, .int a1, .int a2, .int a3, .int a4, .int a5, .int a6] [] (sI (sI (sI (sI (sI σ (t + 4) a6.toNatClampNeg a1) (t + 5) a6.toNatClampNeg a2) (t + 6) a6.toNatClampNeg a3) (t + 7) a6.toNatClampNeg a4) (t + 8) a6.toNatClampNeg a5) Q))))) := (w_aload_n dTw_handOn_38 rfl).trans ((w_getr (r := t + 3) dTw_handOn_39 rz8_21 (shT_0 ht) rfl).trans ((w_getr (r := t + 4) dTw_handOn_42 rz8_120 (shT_3 ht) rfl).trans ((w_iload dTw_handOn_45 rfl).trans ((w_iload_n dTw_handOn_47 rfl).trans ((w_iast dTw_handOn_48 (shT_4 ht)).trans (ite_c ((w_aload_n dTw_handOn_49 rfl).trans ((w_getr (r := t + 3) dTw_handOn_50 rz8_21 (shT_0 ht) rfl).trans ((w_getr (r := t + 5) dTw_handOn_53 rz8_121 (shT_3 ht) rfl).trans ((w_iload dTw_handOn_56 rfl).trans ((w_iload_n dTw_handOn_58 rfl).trans ((w_iast dTw_handOn_59 (shT_5 ht)).trans (ite_c ((w_aload_n dTw_handOn_60 rfl).trans ((w_getr (r := t + 3) dTw_handOn_61 rz8_21 (shT_0 ht) rfl).trans ((w_getr (r := t + 6) dTw_handOn_64 rz8_124 (shT_3 ht) rfl).trans ((w_iload dTw_handOn_67 rfl).trans ((w_iload_n dTw_handOn_69 rfl).trans ((w_iast dTw_handOn_70 (shT_6 ht)).trans (ite_c ((w_aload_n dTw_handOn_71 rfl).trans ((w_getr (r := t + 3) dTw_handOn_72 rz8_21 (shT_0 ht) rfl).trans ((w_getr (r := t + 7) dTw_handOn_75 rz8_127 (shT_3 ht) rfl).trans ((w_iload dTw_handOn_78 rfl).trans ((w_iload dTw_handOn_80 rfl).trans ((w_iast dTw_handOn_82 (shT_7 ht)).trans (ite_c ((w_aload_n dTw_handOn_83 rfl).trans ((w_getr (r := t + 3) dTw_handOn_84 rz8_21 (shT_0 ht) rfl).trans ((w_getr (r := t + 8) dTw_handOn_87 rz8_130 (shT_3 ht) rfl).trans ((w_iload dTw_handOn_90 rfl).trans ((w_iload dTw_handOn_92 rfl).trans ((w_iast dTw_handOn_94 (shT_8 ht)).trans (ite_c (rfl)))))))))))))))))))))))))))))))))))
theorem bTw_handOn_95 {E : mEn} {d : Nat} {σ : mSt} {Q : mPost} {a1 : Int32} {a2 : Int32} {a3 : Int32} {a4 : Int32} {a5 : Int32} {a6 : Int32} {t : Nat} (ht : isT t) : WP E d mTw_handOn 95 [.ref t, .int a1, .int a2, .int a3, .int a4, .int a5, .int a6] [] σ Q = (if mOut a6 40 = true then False else (if mOut a3 8 = true then False else (if mOut a3 8 = true then False else WP E d mTw_handOn 130 [.ref t, .int a1, .int a2, .int a3, .int a4, .int a5, .int a6] [] (sI (sI (sI σ (t + 9) a6.toNatClampNeg (vp_nar .boolean 0)) (t + 3) 8 (((sI σ (t + 9) a6.toNatClampNeg (vp_nar .boolean 0)).1 (t + 3) 8) + 1)) (t + 15) a3.toNatClampNeg (((sI (sI σ (t + 9) a6.toNatClampNeg (vp_nar .boolean 0)) (t + 3) 8 (((sI σ (t + 9) a6.toNatClampNeg (vp_nar .boolean 0)).1 (t + 3) 8) + 1)).1 (t + 15) a3.toNatClampNeg) + a5)) Q))) := (w_aload_n dTw_handOn_95 rfl).trans ((w_getr (r := t + 3) dTw_handOn_96 rz8_21 (shT_0 ht) rfl).trans ((w_getr (r := t + 9) dTw_handOn_99 rz8_133 (shT_3 ht) rfl).trans ((w_iload dTw_handOn_102 rfl).trans ((w_iconst (v := 0) dTw_handOn_104 rfl).trans ((w_zast dTw_handOn_105 (shT_9 ht)).trans (ite_c ((w_aload_n dTw_handOn_106 rfl).trans ((w_getr (r := t + 3) dTw_handOn_107 rz8_21 (shT_0 ht) rfl).trans ((w_dup dTw_handOn_110 rfl).trans ((w_geti dTw_handOn_111 rz8_66 (shT_3 ht) rfl).trans ((w_iconst (v := 1) dTw_handOn_114 rfl).trans ((w_iadd dTw_handOn_115).trans ((w_puti dTw_handOn_116 rz8_66 (shT_3 ht) rfl rfl rfl).trans ((w_aload_n dTw_handOn_119 rfl).trans ((w_getr (r := t + 15) dTw_handOn_120 rz8_32 (shT_0 ht) rfl).trans ((w_iload_n dTw_handOn_123 rfl).trans ((w_dup2 dTw_handOn_124 rfl rfl).trans ((w_iald dTw_handOn_125 (shT_15 ht) (ltT ht (by decide))).trans (ite_c ((w_iload dTw_handOn_126 rfl).trans ((w_iadd dTw_handOn_128).trans ((w_iast dTw_handOn_129 (shT_15 ht)).trans (ite_c (rfl))))))))))))))))))))))))
theorem bTw_handOn_130 {E : mEn} {d : Nat} {σ : mSt} {Q : mPost} {a1 : Int32} {a2 : Int32} {a3 : Int32} {a4 : Int32} {a5 : Int32} {a6 : Int32} {t : Nat} (ht : isT t) : WP E d mTw_handOn 130 [.ref t, .int a1, .int a2, .int a3, .int a4, .int a5, .int a6] [] σ Q = (if mOut a4 8 = true then False else (if mOut a4 8 = true then False else Q (some (.int a6)) (sI σ (t + 15) a4.toNatClampNeg ((σ.1 (t + 15) a4.toNatClampNeg) - a5)))) := (w_aload_n dTw_handOn_130 rfl).trans ((w_getr (r := t + 15) dTw_handOn_131 rz8_32 (shT_0 ht) rfl).trans ((w_iload dTw_handOn_134 rfl).trans ((w_dup2 dTw_handOn_136 rfl rfl).trans ((w_iald dTw_handOn_137 (shT_15 ht) (ltT ht (by decide))).trans (ite_c ((w_iload dTw_handOn_138 rfl).trans ((w_isub dTw_handOn_140).trans ((w_iast dTw_handOn_141 (shT_15 ht)).trans (ite_c ((w_iload dTw_handOn_142 rfl).trans (w_iret dTw_handOn_144 rfl)))))))))))
theorem dTw_copyOf_0 : decode (mC mTw_copyOf) 0 = .ok (.aload_n 0, 1) := by decide +kernel
theorem dTw_copyOf_1 : decode (mC mTw_copyOf) 1 = .ok (.getfield 12, 3) := by decide +kernel
theorem dTw_copyOf_4 : decode (mC mTw_copyOf) 4 = .ok (.aload_n 1, 1) := by decide +kernel
theorem dTw_copyOf_5 : decode (mC mTw_copyOf) 5 = .ok (.getfield 12, 3) := by decide +kernel
theorem dTw_copyOf_8 : decode (mC mTw_copyOf) 8 = .ok (.invokevirtual 89, 3) := by decide +kernel
theorem dTw_copyOf_11 : decode (mC mTw_copyOf) 11 = .ok (.aload_n 0, 1) := by decide +kernel
theorem dTw_copyOf_12 : decode (mC mTw_copyOf) 12 = .ok (.getfield 21, 3) := by decide +kernel
theorem dTw_copyOf_15 : decode (mC mTw_copyOf) 15 = .ok (.aload_n 1, 1) := by decide +kernel
theorem dTw_copyOf_16 : decode (mC mTw_copyOf) 16 = .ok (.getfield 21, 3) := by decide +kernel
theorem dTw_copyOf_19 : decode (mC mTw_copyOf) 19 = .ok (.invokevirtual 93, 3) := by decide +kernel
theorem dTw_copyOf_22 : decode (mC mTw_copyOf) 22 = .ok (.aload_n 0, 1) := by decide +kernel
theorem dTw_copyOf_23 : decode (mC mTw_copyOf) 23 = .ok (.getfield 28, 3) := by decide +kernel
theorem dTw_copyOf_26 : decode (mC mTw_copyOf) 26 = .ok (.aload_n 1, 1) := by decide +kernel
theorem dTw_copyOf_27 : decode (mC mTw_copyOf) 27 = .ok (.getfield 28, 3) := by decide +kernel
theorem dTw_copyOf_30 : decode (mC mTw_copyOf) 30 = .ok (.invokevirtual 96, 3) := by decide +kernel
theorem dTw_copyOf_33 : decode (mC mTw_copyOf) 33 = .ok (.aload_n 1, 1) := by decide +kernel
theorem dTw_copyOf_34 : decode (mC mTw_copyOf) 34 = .ok (.getfield 32, 3) := by decide +kernel
theorem dTw_copyOf_37 : decode (mC mTw_copyOf) 37 = .ok (.iconst (0), 1) := by decide +kernel
theorem dTw_copyOf_38 : decode (mC mTw_copyOf) 38 = .ok (.aload_n 0, 1) := by decide +kernel
theorem dTw_copyOf_39 : decode (mC mTw_copyOf) 39 = .ok (.getfield 32, 3) := by decide +kernel
theorem dTw_copyOf_42 : decode (mC mTw_copyOf) 42 = .ok (.iconst (0), 1) := by decide +kernel
theorem dTw_copyOf_43 : decode (mC mTw_copyOf) 43 = .ok (.bipush (8), 2) := by decide +kernel
theorem dTw_copyOf_45 : decode (mC mTw_copyOf) 45 = .ok (.invokestatic 99, 3) := by decide +kernel
theorem dTw_copyOf_48 : decode (mC mTw_copyOf) 48 = .ok (.aload_n 1, 1) := by decide +kernel
theorem dTw_copyOf_49 : decode (mC mTw_copyOf) 49 = .ok (.getfield 36, 3) := by decide +kernel
theorem dTw_copyOf_52 : decode (mC mTw_copyOf) 52 = .ok (.iconst (0), 1) := by decide +kernel
theorem dTw_copyOf_53 : decode (mC mTw_copyOf) 53 = .ok (.aload_n 0, 1) := by decide +kernel
theorem dTw_copyOf_54 : decode (mC mTw_copyOf) 54 = .ok (.getfield 36, 3) := by decide +kernel
theorem dTw_copyOf_57 : decode (mC mTw_copyOf) 57 = .ok (.iconst (0), 1) := by decide +kernel
theorem dTw_copyOf_58 : decode (mC mTw_copyOf) 58 = .ok (.bipush (8), 2) := by decide +kernel
theorem dTw_copyOf_60 : decode (mC mTw_copyOf) 60 = .ok (.invokestatic 99, 3) := by decide +kernel
theorem dTw_copyOf_63 : decode (mC mTw_copyOf) 63 = .ok (.aload_n 1, 1) := by decide +kernel
theorem dTw_copyOf_64 : decode (mC mTw_copyOf) 64 = .ok (.getfield 39, 3) := by decide +kernel
theorem dTw_copyOf_67 : decode (mC mTw_copyOf) 67 = .ok (.iconst (0), 1) := by decide +kernel
theorem dTw_copyOf_68 : decode (mC mTw_copyOf) 68 = .ok (.aload_n 0, 1) := by decide +kernel
theorem dTw_copyOf_69 : decode (mC mTw_copyOf) 69 = .ok (.getfield 39, 3) := by decide +kernel
theorem dTw_copyOf_72 : decode (mC mTw_copyOf) 72 = .ok (.iconst (0), 1) := by decide +kernel
theorem dTw_copyOf_73 : decode (mC mTw_copyOf) 73 = .ok (.bipush (8), 2) := by decide +kernel
theorem dTw_copyOf_75 : decode (mC mTw_copyOf) 75 = .ok (.invokestatic 99, 3) := by decide +kernel
theorem dTw_copyOf_78 : decode (mC mTw_copyOf) 78 = .ok (.aload_n 1, 1) := by decide +kernel
theorem dTw_copyOf_79 : decode (mC mTw_copyOf) 79 = .ok (.getfield 42, 3) := by decide +kernel
theorem dTw_copyOf_82 : decode (mC mTw_copyOf) 82 = .ok (.iconst (0), 1) := by decide +kernel
theorem dTw_copyOf_83 : decode (mC mTw_copyOf) 83 = .ok (.aload_n 0, 1) := by decide +kernel
theorem dTw_copyOf_84 : decode (mC mTw_copyOf) 84 = .ok (.getfield 42, 3) := by decide +kernel
theorem dTw_copyOf_87 : decode (mC mTw_copyOf) 87 = .ok (.iconst (0), 1) := by decide +kernel
theorem dTw_copyOf_88 : decode (mC mTw_copyOf) 88 = .ok (.iconst (4), 1) := by decide +kernel
theorem dTw_copyOf_89 : decode (mC mTw_copyOf) 89 = .ok (.invokestatic 99, 3) := by decide +kernel
theorem dTw_copyOf_92 : decode (mC mTw_copyOf) 92 = .ok (.aload_n 1, 1) := by decide +kernel
theorem dTw_copyOf_93 : decode (mC mTw_copyOf) 93 = .ok (.getfield 45, 3) := by decide +kernel
theorem dTw_copyOf_96 : decode (mC mTw_copyOf) 96 = .ok (.iconst (0), 1) := by decide +kernel
theorem dTw_copyOf_97 : decode (mC mTw_copyOf) 97 = .ok (.aload_n 0, 1) := by decide +kernel
theorem dTw_copyOf_98 : decode (mC mTw_copyOf) 98 = .ok (.getfield 45, 3) := by decide +kernel
theorem dTw_copyOf_101 : decode (mC mTw_copyOf) 101 = .ok (.iconst (0), 1) := by decide +kernel
theorem dTw_copyOf_102 : decode (mC mTw_copyOf) 102 = .ok (.bipush (8), 2) := by decide +kernel
theorem dTw_copyOf_104 : decode (mC mTw_copyOf) 104 = .ok (.invokestatic 99, 3) := by decide +kernel
theorem dTw_copyOf_107 : decode (mC mTw_copyOf) 107 = .ok (.aload_n 1, 1) := by decide +kernel
theorem dTw_copyOf_108 : decode (mC mTw_copyOf) 108 = .ok (.getfield 48, 3) := by decide +kernel
theorem dTw_copyOf_111 : decode (mC mTw_copyOf) 111 = .ok (.iconst (0), 1) := by decide +kernel
theorem dTw_copyOf_112 : decode (mC mTw_copyOf) 112 = .ok (.aload_n 0, 1) := by decide +kernel
theorem dTw_copyOf_113 : decode (mC mTw_copyOf) 113 = .ok (.getfield 48, 3) := by decide +kernel
theorem dTw_copyOf_116 : decode (mC mTw_copyOf) 116 = .ok (.iconst (0), 1) := by decide +kernel
theorem dTw_copyOf_117 : decode (mC mTw_copyOf) 117 = .ok (.bipush (8), 2) := by decide +kernel
theorem dTw_copyOf_119 : decode (mC mTw_copyOf) 119 = .ok (.invokestatic 99, 3) := by decide +kernel
theorem dTw_copyOf_122 : decode (mC mTw_copyOf) 122 = .ok (.aload_n 1, 1) := by decide +kernel
theorem dTw_copyOf_123 : decode (mC mTw_copyOf) 123 = .ok (.getfield 51, 3) := by decide +kernel
theorem dTw_copyOf_126 : decode (mC mTw_copyOf) 126 = .ok (.iconst (0), 1) := by decide +kernel
theorem dTw_copyOf_127 : decode (mC mTw_copyOf) 127 = .ok (.aload_n 0, 1) := by decide +kernel
theorem dTw_copyOf_128 : decode (mC mTw_copyOf) 128 = .ok (.getfield 51, 3) := by decide +kernel
theorem dTw_copyOf_131 : decode (mC mTw_copyOf) 131 = .ok (.iconst (0), 1) := by decide +kernel
theorem dTw_copyOf_132 : decode (mC mTw_copyOf) 132 = .ok (.bipush (8), 2) := by decide +kernel
theorem dTw_copyOf_134 : decode (mC mTw_copyOf) 134 = .ok (.invokestatic 99, 3) := by decide +kernel
theorem dTw_copyOf_137 : decode (mC mTw_copyOf) 137 = .ok (.aload_n 1, 1) := by decide +kernel
theorem dTw_copyOf_138 : decode (mC mTw_copyOf) 138 = .ok (.getfield 54, 3) := by decide +kernel
theorem dTw_copyOf_141 : decode (mC mTw_copyOf) 141 = .ok (.iconst (0), 1) := by decide +kernel
theorem dTw_copyOf_142 : decode (mC mTw_copyOf) 142 = .ok (.aload_n 0, 1) := by decide +kernel
theorem dTw_copyOf_143 : decode (mC mTw_copyOf) 143 = .ok (.getfield 54, 3) := by decide +kernel
theorem dTw_copyOf_146 : decode (mC mTw_copyOf) 146 = .ok (.iconst (0), 1) := by decide +kernel
theorem dTw_copyOf_147 : decode (mC mTw_copyOf) 147 = .ok (.bipush (8), 2) := by decide +kernel
theorem dTw_copyOf_149 : decode (mC mTw_copyOf) 149 = .ok (.invokestatic 99, 3) := by decide +kernel
theorem dTw_copyOf_152 : decode (mC mTw_copyOf) 152 = .ok (.aload_n 1, 1) := by decide +kernel
theorem dTw_copyOf_153 : decode (mC mTw_copyOf) 153 = .ok (.getfield 57, 3) := by decide +kernel
theorem dTw_copyOf_156 : decode (mC mTw_copyOf) 156 = .ok (.iconst (0), 1) := by decide +kernel
theorem dTw_copyOf_157 : decode (mC mTw_copyOf) 157 = .ok (.aload_n 0, 1) := by decide +kernel
theorem dTw_copyOf_158 : decode (mC mTw_copyOf) 158 = .ok (.getfield 57, 3) := by decide +kernel
theorem dTw_copyOf_161 : decode (mC mTw_copyOf) 161 = .ok (.iconst (0), 1) := by decide +kernel
theorem dTw_copyOf_162 : decode (mC mTw_copyOf) 162 = .ok (.bipush (8), 2) := by decide +kernel
theorem dTw_copyOf_164 : decode (mC mTw_copyOf) 164 = .ok (.invokestatic 99, 3) := by decide +kernel
theorem dTw_copyOf_167 : decode (mC mTw_copyOf) 167 = .ok (.aload_n 1, 1) := by decide +kernel
theorem dTw_copyOf_168 : decode (mC mTw_copyOf) 168 = .ok (.getfield 60, 3) := by decide +kernel
theorem dTw_copyOf_171 : decode (mC mTw_copyOf) 171 = .ok (.iconst (0), 1) := by decide +kernel
theorem dTw_copyOf_172 : decode (mC mTw_copyOf) 172 = .ok (.aload_n 0, 1) := by decide +kernel
theorem dTw_copyOf_173 : decode (mC mTw_copyOf) 173 = .ok (.getfield 60, 3) := by decide +kernel
theorem dTw_copyOf_176 : decode (mC mTw_copyOf) 176 = .ok (.iconst (0), 1) := by decide +kernel
theorem dTw_copyOf_177 : decode (mC mTw_copyOf) 177 = .ok (.bipush (8), 2) := by decide +kernel
theorem dTw_copyOf_179 : decode (mC mTw_copyOf) 179 = .ok (.invokestatic 99, 3) := by decide +kernel
theorem dTw_copyOf_182 : decode (mC mTw_copyOf) 182 = .ok (.aload_n 0, 1) := by decide +kernel
theorem dTw_copyOf_183 : decode (mC mTw_copyOf) 183 = .ok (.aload_n 1, 1) := by decide +kernel
theorem dTw_copyOf_184 : decode (mC mTw_copyOf) 184 = .ok (.getfield 71, 3) := by decide +kernel
theorem dTw_copyOf_187 : decode (mC mTw_copyOf) 187 = .ok (.putfield 71, 3) := by decide +kernel
theorem dTw_copyOf_190 : decode (mC mTw_copyOf) 190 = .ok (.aload_n 0, 1) := by decide +kernel
theorem dTw_copyOf_191 : decode (mC mTw_copyOf) 191 = .ok (.aload_n 1, 1) := by decide +kernel
theorem dTw_copyOf_192 : decode (mC mTw_copyOf) 192 = .ok (.getfield 74, 3) := by decide +kernel
theorem dTw_copyOf_195 : decode (mC mTw_copyOf) 195 = .ok (.putfield 74, 3) := by decide +kernel
theorem dTw_copyOf_198 : decode (mC mTw_copyOf) 198 = .ok (.aload_n 0, 1) := by decide +kernel
theorem dTw_copyOf_199 : decode (mC mTw_copyOf) 199 = .ok (.aload_n 1, 1) := by decide +kernel
theorem dTw_copyOf_200 : decode (mC mTw_copyOf) 200 = .ok (.getfield 77, 3) := by decide +kernel
theorem dTw_copyOf_203 : decode (mC mTw_copyOf) 203 = .ok (.putfield 77, 3) := by decide +kernel
theorem dTw_copyOf_206 : decode (mC mTw_copyOf) 206 = .ok (.aload_n 0, 1) := by decide +kernel
theorem dTw_copyOf_207 : decode (mC mTw_copyOf) 207 = .ok (.aload_n 1, 1) := by decide +kernel
theorem dTw_copyOf_208 : decode (mC mTw_copyOf) 208 = .ok (.getfield 80, 3) := by decide +kernel
theorem dTw_copyOf_211 : decode (mC mTw_copyOf) 211 = .ok (.putfield 80, 3) := by decide +kernel
theorem dTw_copyOf_214 : decode (mC mTw_copyOf) 214 = .ok (.aload_n 0, 1) := by decide +kernel
theorem dTw_copyOf_215 : decode (mC mTw_copyOf) 215 = .ok (.aload_n 1, 1) := by decide +kernel
theorem dTw_copyOf_216 : decode (mC mTw_copyOf) 216 = .ok (.getfield 83, 3) := by decide +kernel
theorem dTw_copyOf_219 : decode (mC mTw_copyOf) 219 = .ok (.putfield 83, 3) := by decide +kernel
theorem dTw_copyOf_222 : decode (mC mTw_copyOf) 222 = .ok (.aload_n 0, 1) := by decide +kernel
theorem dTw_copyOf_223 : decode (mC mTw_copyOf) 223 = .ok (.aload_n 1, 1) := by decide +kernel
theorem dTw_copyOf_224 : decode (mC mTw_copyOf) 224 = .ok (.getfield 86, 3) := by decide +kernel
theorem dTw_copyOf_227 : decode (mC mTw_copyOf) 227 = .ok (.putfield 86, 3) := by decide +kernel
theorem dTw_copyOf_230 : decode (mC mTw_copyOf) 230 = .ok (.return_, 1) := by decide +kernel
theorem bTw_copyOf_0 {E : mEn} {d : Nat} {σ : mSt} {Q : mPost} {t : Nat} (ht : isT t) {t2 : Nat} (ht2 : isT t2) : WP E (d + 1) mTw_copyOf 0 [.ref t, .ref t2] [] σ Q = WP E d mNa_copyOf 0 [.ref (t + 1), .ref (t2 + 1)] [] σ (fun r σ' => WP E (d + 1) mTw_copyOf 11 [.ref t, .ref t2] (r.toList ++ []) σ' Q) := (w_aload_n dTw_copyOf_0 rfl).trans ((w_getr (r := t + 1) dTw_copyOf_1 rz8_12 (shT_0 ht) rfl).trans ((w_aload_n dTw_copyOf_4 rfl).trans ((w_getr (r := t2 + 1) dTw_copyOf_5 rz8_12 (shT_0 ht2) rfl).trans (w_virt (vs := [.ref (t2 + 1)]) (st' := []) (es := [.ref (t + 1), .ref (t2 + 1)]) dTw_copyOf_8 rz8_89 rfl (shT_1 ht) rfl rfl rfl (Nat.le_of_ble_eq_true rfl) (Nat.le_of_ble_eq_true rfl) rfl))))
theorem bTw_copyOf_11 {E : mEn} {d : Nat} {σ : mSt} {Q : mPost} {t : Nat} (ht : isT t) {t2 : Nat} (ht2 : isT t2) : WP E (d + 1) mTw_copyOf 11 [.ref t, .ref t2] [] σ Q = WP E d mPr_copyOf 0 [.ref (t + 3), .ref (t2 + 3)] [] σ (fun r σ' => WP E (d + 1) mTw_copyOf 22 [.ref t, .ref t2] (r.toList ++ []) σ' Q) := (w_aload_n dTw_copyOf_11 rfl).trans ((w_getr (r := t + 3) dTw_copyOf_12 rz8_21 (shT_0 ht) rfl).trans ((w_aload_n dTw_copyOf_15 rfl).trans ((w_getr (r := t2 + 3) dTw_copyOf_16 rz8_21 (shT_0 ht2) rfl).trans (w_virt (vs := [.ref (t2 + 3)]) (st' := []) (es := [.ref (t + 3), .ref (t2 + 3)]) dTw_copyOf_19 rz8_93 rfl (shT_3 ht) rfl rfl rfl (Nat.le_of_ble_eq_true rfl) (Nat.le_of_ble_eq_true rfl) rfl))))
theorem bTw_copyOf_22 {E : mEn} {d : Nat} {σ : mSt} {Q : mPost} {t : Nat} (ht : isT t) {t2 : Nat} (ht2 : isT t2) : WP E (d + 1) mTw_copyOf 22 [.ref t, .ref t2] [] σ Q = WP E d mDa_copyOf 0 [.ref (t + 12), .ref (t2 + 12)] [] σ (fun r σ' => WP E (d + 1) mTw_copyOf 33 [.ref t, .ref t2] (r.toList ++ []) σ' Q) := (w_aload_n dTw_copyOf_22 rfl).trans ((w_getr (r := t + 12) dTw_copyOf_23 rz8_28 (shT_0 ht) rfl).trans ((w_aload_n dTw_copyOf_26 rfl).trans ((w_getr (r := t2 + 12) dTw_copyOf_27 rz8_28 (shT_0 ht2) rfl).trans (w_virt (vs := [.ref (t2 + 12)]) (st' := []) (es := [.ref (t + 12), .ref (t2 + 12)]) dTw_copyOf_30 rz8_96 rfl (shT_12 ht) rfl rfl rfl (Nat.le_of_ble_eq_true rfl) (Nat.le_of_ble_eq_true rfl) rfl))))
theorem bTw_copyOf_33 {E : mEn} {d : Nat} {σ : mSt} {Q : mPost} {t : Nat} (ht : isT t) {t2 : Nat} (ht2 : isT t2) (hc0 : cpOk 0 0 (nI 8) 8 8 = true) (hc1 : cpOk 0 0 (nI 8) 8 8 = true) (hc2 : cpOk 0 0 (nI 8) 8 8 = true) (hc3 : cpOk 0 0 (nI 4) 4 4 = true) (hc4 : cpOk 0 0 (nI 8) 8 8 = true) : WP E d mTw_copyOf 33 [.ref t, .ref t2] [] σ Q = WP E d mTw_copyOf 107 [.ref t, .ref t2] [] (cpI (cpI (cpI (cpI (cpI σ (t2 + 15) (t + 15) 0 0 8) (t2 + 16) (t + 16) 0 0 8) (t2 + 17) (t + 17) 0 0 8) (t2 + 18) (t + 18) 0 0 4) (t2 + 19) (t + 19) 0 0 8) Q := (w_aload_n dTw_copyOf_33 rfl).trans ((w_getr (r := t2 + 15) dTw_copyOf_34 rz8_32 (shT_0 ht2) rfl).trans ((w_iconst (v := 0) dTw_copyOf_37 rfl).trans ((w_aload_n dTw_copyOf_38 rfl).trans ((w_getr (r := t + 15) dTw_copyOf_39 rz8_32 (shT_0 ht) rfl).trans ((w_iconst (v := 0) dTw_copyOf_42 rfl).trans ((w_bipush (v := (nI 8)) dTw_copyOf_43 rfl).trans ((w_cpi dTw_copyOf_45 rz8_99 (shT_15 ht2) (shT_15 ht) hc0 (Nat.le_of_ble_eq_true rfl)).trans ((w_aload_n dTw_copyOf_48 rfl).trans ((w_getr (r := t2 + 16) dTw_copyOf_49 rz8_36 (shT_0 ht2) rfl).trans ((w_iconst (v := 0) dTw_copyOf_52 rfl).trans ((w_aload_n dTw_copyOf_53 rfl).trans ((w_getr (r := t + 16) dTw_copyOf_54 rz8_36 (shT_0 ht) rfl).trans ((w_iconst (v := 0) dTw_copyOf_57 rfl).trans ((w_bipush (v := (nI 8)) dTw_copyOf_58 rfl).trans ((w_cpi dTw_copyOf_60 rz8_99 (shT_16 ht2) (shT_16 ht) hc1 (Nat.le_of_ble_eq_true rfl)).trans ((w_aload_n dTw_copyOf_63 rfl).trans ((w_getr (r := t2 + 17) dTw_copyOf_64 rz8_39 (shT_0 ht2) rfl).trans ((w_iconst (v := 0) dTw_copyOf_67 rfl).trans ((w_aload_n dTw_copyOf_68 rfl).trans ((w_getr (r := t + 17) dTw_copyOf_69 rz8_39 (shT_0 ht) rfl).trans ((w_iconst (v := 0) dTw_copyOf_72 rfl).trans ((w_bipush (v := (nI 8)) dTw_copyOf_73 rfl).trans ((w_cpi dTw_copyOf_75 rz8_99 (shT_17 ht2) (shT_17 ht) hc2 (Nat.le_of_ble_eq_true rfl)).trans ((w_aload_n dTw_copyOf_78 rfl).trans ((w_getr (r := t2 + 18) dTw_copyOf_79 rz8_42 (shT_0 ht2) rfl).trans ((w_iconst (v := 0) dTw_copyOf_82 rfl).trans ((w_aload_n dTw_copyOf_83 rfl).trans ((w_getr (r := t + 18) dTw_copyOf_84 rz8_42 (shT_0 ht) rfl).trans ((w_iconst (v := 0) dTw_copyOf_87 rfl).trans ((w_iconst (v := (nI 4)) dTw_copyOf_88 rfl).trans ((w_cpi dTw_copyOf_89 rz8_99 (shT_18 ht2) (shT_18 ht) hc3 (Nat.le_of_ble_eq_true rfl)).trans ((w_aload_n dTw_copyOf_92 rfl).trans ((w_getr (r := t2 + 19) dTw_copyOf_93 rz8_45 (shT_0 ht2) rfl).trans ((w_iconst (v := 0) dTw_copyOf_96 rfl).trans ((w_aload_n dTw_copyOf_97 rfl).trans ((w_getr (r := t + 19) dTw_copyOf_98 rz8_45 (shT_0 ht) rfl).trans ((w_iconst (v := 0) dTw_copyOf_101 rfl).trans ((w_bipush (v := (nI 8)) dTw_copyOf_102 rfl).trans (w_cpi dTw_copyOf_104 rz8_99 (shT_19 ht2) (shT_19 ht) hc4 (Nat.le_of_ble_eq_true rfl))))))))))))))))))))))))))))))))))))))))
theorem bTw_copyOf_107 {E : mEn} {d : Nat} {σ : mSt} {Q : mPost} {t : Nat} (ht : isT t) {t2 : Nat} (ht2 : isT t2) (hc0 : cpOk 0 0 (nI 8) 8 8 = true) (hc1 : cpOk 0 0 (nI 8) 8 8 = true) (hc2 : cpOk 0 0 (nI 8) 8 8 = true) (hc3 : cpOk 0 0 (nI 8) 8 8 = true) (hc4 : cpOk 0 0 (nI 8) 8 8 = true) : WP E d mTw_copyOf 107 [.ref t, .ref t2] [] σ Q = WP E d mTw_copyOf 182 [.ref t, .ref t2] [] (cpI (cpI (cpI (cpI (cpI σ (t2 + 20) (t + 20) 0 0 8) (t2 + 21) (t + 21) 0 0 8) (t2 + 22) (t + 22) 0 0 8) (t2 + 23) (t + 23) 0 0 8) (t2 + 24) (t + 24) 0 0 8) Q := (w_aload_n dTw_copyOf_107 rfl).trans ((w_getr (r := t2 + 20) dTw_copyOf_108 rz8_48 (shT_0 ht2) rfl).trans ((w_iconst (v := 0) dTw_copyOf_111 rfl).trans ((w_aload_n dTw_copyOf_112 rfl).trans ((w_getr (r := t + 20) dTw_copyOf_113 rz8_48 (shT_0 ht) rfl).trans ((w_iconst (v := 0) dTw_copyOf_116 rfl).trans ((w_bipush (v := (nI 8)) dTw_copyOf_117 rfl).trans ((w_cpi dTw_copyOf_119 rz8_99 (shT_20 ht2) (shT_20 ht) hc0 (Nat.le_of_ble_eq_true rfl)).trans ((w_aload_n dTw_copyOf_122 rfl).trans ((w_getr (r := t2 + 21) dTw_copyOf_123 rz8_51 (shT_0 ht2) rfl).trans ((w_iconst (v := 0) dTw_copyOf_126 rfl).trans ((w_aload_n dTw_copyOf_127 rfl).trans ((w_getr (r := t + 21) dTw_copyOf_128 rz8_51 (shT_0 ht) rfl).trans ((w_iconst (v := 0) dTw_copyOf_131 rfl).trans ((w_bipush (v := (nI 8)) dTw_copyOf_132 rfl).trans ((w_cpi dTw_copyOf_134 rz8_99 (shT_21 ht2) (shT_21 ht) hc1 (Nat.le_of_ble_eq_true rfl)).trans ((w_aload_n dTw_copyOf_137 rfl).trans ((w_getr (r := t2 + 22) dTw_copyOf_138 rz8_54 (shT_0 ht2) rfl).trans ((w_iconst (v := 0) dTw_copyOf_141 rfl).trans ((w_aload_n dTw_copyOf_142 rfl).trans ((w_getr (r := t + 22) dTw_copyOf_143 rz8_54 (shT_0 ht) rfl).trans ((w_iconst (v := 0) dTw_copyOf_146 rfl).trans ((w_bipush (v := (nI 8)) dTw_copyOf_147 rfl).trans ((w_cpi dTw_copyOf_149 rz8_99 (shT_22 ht2) (shT_22 ht) hc2 (Nat.le_of_ble_eq_true rfl)).trans ((w_aload_n dTw_copyOf_152 rfl).trans ((w_getr (r := t2 + 23) dTw_copyOf_153 rz8_57 (shT_0 ht2) rfl).trans ((w_iconst (v := 0) dTw_copyOf_156 rfl).trans ((w_aload_n dTw_copyOf_157 rfl).trans ((w_getr (r := t + 23) dTw_copyOf_158 rz8_57 (shT_0 ht) rfl).trans ((w_iconst (v := 0) dTw_copyOf_161 rfl).trans ((w_bipush (v := (nI 8)) dTw_copyOf_162 rfl).trans ((w_cpi dTw_copyOf_164 rz8_99 (shT_23 ht2) (shT_23 ht) hc3 (Nat.le_of_ble_eq_true rfl)).trans ((w_aload_n dTw_copyOf_167 rfl).trans ((w_getr (r := t2 + 24) dTw_copyOf_168 rz8_60 (shT_0 ht2) rfl).trans ((w_iconst (v := 0) dTw_copyOf_171 rfl).trans ((w_aload_n dTw_copyOf_172 rfl).trans ((w_getr (r := t + 24) dTw_copyOf_173 rz8_60 (shT_0 ht) rfl).trans ((w_iconst (v := 0) dTw_copyOf_176 rfl).trans ((w_bipush (v := (nI 8)) dTw_copyOf_177 rfl).trans (w_cpi dTw_copyOf_179 rz8_99 (shT_24 ht2) (shT_24 ht) hc4 (Nat.le_of_ble_eq_true rfl))))))))))))))))))))))))))))))))))))))))
theorem bTw_copyOf_182 {E : mEn} {d : Nat} {σ : mSt} {Q : mPost} {t : Nat} (ht : isT t) {t2 : Nat} (ht2 : isT t2) : WP E d mTw_copyOf 182 [.ref t, .ref t2] [] σ Q = WP E d mTw_copyOf 206 [.ref t, .ref t2] [] (sI (sI (sI σ t 13 (σ.1 t2 13)) t 14 ((sI σ t 13 (σ.1 t2 13)).1 t2 14)) t 15 ((sI (sI σ t 13 (σ.1 t2 13)) t 14 ((sI σ t 13 (σ.1 t2 13)).1 t2 14)).1 t2 15)) Q := (w_aload_n dTw_copyOf_182 rfl).trans ((w_aload_n dTw_copyOf_183 rfl).trans ((w_geti dTw_copyOf_184 rz8_71 (shT_0 ht2) rfl).trans ((w_puti dTw_copyOf_187 rz8_71 (shT_0 ht) rfl rfl rfl).trans ((w_aload_n dTw_copyOf_190 rfl).trans ((w_aload_n dTw_copyOf_191 rfl).trans ((w_geti dTw_copyOf_192 rz8_74 (shT_0 ht2) rfl).trans ((w_puti dTw_copyOf_195 rz8_74 (shT_0 ht) rfl rfl rfl).trans ((w_aload_n dTw_copyOf_198 rfl).trans ((w_aload_n dTw_copyOf_199 rfl).trans ((w_geti dTw_copyOf_200 rz8_77 (shT_0 ht2) rfl).trans (w_puti dTw_copyOf_203 rz8_77 (shT_0 ht) rfl rfl rfl)))))))))))
theorem bTw_copyOf_206 {E : mEn} {d : Nat} {σ : mSt} {Q : mPost} {t : Nat} (ht : isT t) {t2 : Nat} (ht2 : isT t2) : WP E d mTw_copyOf 206 [.ref t, .ref t2] [] σ Q = WP E d mTw_copyOf 230 [.ref t, .ref t2] [] (sI (sI (sI σ t 16 (σ.1 t2 16)) t 17 ((sI σ t 16 (σ.1 t2 16)).1 t2 17)) t 18 ((sI (sI σ t 16 (σ.1 t2 16)) t 17 ((sI σ t 16 (σ.1 t2 16)).1 t2 17)).1 t2 18)) Q := (w_aload_n dTw_copyOf_206 rfl).trans ((w_aload_n dTw_copyOf_207 rfl).trans ((w_geti dTw_copyOf_208 rz8_80 (shT_0 ht2) rfl).trans ((w_puti dTw_copyOf_211 rz8_80 (shT_0 ht) rfl rfl rfl).trans ((w_aload_n dTw_copyOf_214 rfl).trans ((w_aload_n dTw_copyOf_215 rfl).trans ((w_geti dTw_copyOf_216 rz8_83 (shT_0 ht2) rfl).trans ((w_puti dTw_copyOf_219 rz8_83 (shT_0 ht) rfl rfl rfl).trans ((w_aload_n dTw_copyOf_222 rfl).trans ((w_aload_n dTw_copyOf_223 rfl).trans ((w_geti dTw_copyOf_224 rz8_86 (shT_0 ht2) rfl).trans (w_puti dTw_copyOf_227 rz8_86 (shT_0 ht) rfl rfl rfl)))))))))))
theorem bTw_copyOf_230 {E : mEn} {d : Nat} {σ : mSt} {Q : mPost} {t : Nat} (ht : isT t) {t2 : Nat} (ht2 : isT t2) : WP E d mTw_copyOf 230 [.ref t, .ref t2] [] σ Q = Q none σ := w_vret dTw_copyOf_230 rfl
theorem dTw_hasLoaf_0 : decode (mC mTw_hasLoaf) 0 = .ok (.iload_n 1, 1) := by decide +kernel
theorem dTw_hasLoaf_1 : decode (mC mTw_hasLoaf) 1 = .ok (.ifCond .lt (21), 3) := by decide +kernel
theorem dTw_hasLoaf_4 : decode (mC mTw_hasLoaf) 4 = .ok (.iload_n 1, 1) := by decide +kernel
theorem dTw_hasLoaf_5 : decode (mC mTw_hasLoaf) 5 = .ok (.aload_n 0, 1) := by decide +kernel
theorem dTw_hasLoaf_6 : decode (mC mTw_hasLoaf) 6 = .ok (.getfield 77, 3) := by decide +kernel
theorem dTw_hasLoaf_9 : decode (mC mTw_hasLoaf) 9 = .ok (.if_icmp .ge (13), 3) := by decide +kernel
theorem dTw_hasLoaf_12 : decode (mC mTw_hasLoaf) 12 = .ok (.iload_n 1, 1) := by decide +kernel
theorem dTw_hasLoaf_13 : decode (mC mTw_hasLoaf) 13 = .ok (.bipush (8), 2) := by decide +kernel
theorem dTw_hasLoaf_15 : decode (mC mTw_hasLoaf) 15 = .ok (.if_icmp .ge (7), 3) := by decide +kernel
theorem dTw_hasLoaf_18 : decode (mC mTw_hasLoaf) 18 = .ok (.iconst (1), 1) := by decide +kernel
theorem dTw_hasLoaf_19 : decode (mC mTw_hasLoaf) 19 = .ok (.goto (4), 3) := by decide +kernel
theorem dTw_hasLoaf_22 : decode (mC mTw_hasLoaf) 22 = .ok (.iconst (0), 1) := by decide +kernel
theorem dTw_hasLoaf_23 : decode (mC mTw_hasLoaf) 23 = .ok (.ireturn, 1) := by decide +kernel
theorem bTw_hasLoaf_0 {E : mEn} {d : Nat} {σ : mSt} {Q : mPost} {a1 : Int32} {t : Nat} (ht : isT t) : WP E d mTw_hasLoaf 0 [.ref t, .int a1] [] σ Q = (if a1 < 0 then WP E d mTw_hasLoaf 22 [.ref t, .int a1] [] σ Q else WP E d mTw_hasLoaf 4 [.ref t, .int a1] [] σ Q) := (w_iload_n dTw_hasLoaf_0 rfl).trans (w_iflt (t := 22) dTw_hasLoaf_1 (by decide))
theorem bTw_hasLoaf_4 {E : mEn} {d : Nat} {σ : mSt} {Q : mPost} {a1 : Int32} {t : Nat} (ht : isT t) : WP E d mTw_hasLoaf 4 [.ref t, .int a1] [] σ Q = (if (σ.1 t 15) ≤ a1 then WP E d mTw_hasLoaf 22 [.ref t, .int a1] [] σ Q else WP E d mTw_hasLoaf 12 [.ref t, .int a1] [] σ Q) := (w_iload_n dTw_hasLoaf_4 rfl).trans ((w_aload_n dTw_hasLoaf_5 rfl).trans ((w_geti dTw_hasLoaf_6 rz8_77 (shT_0 ht) rfl).trans (w_icmpge (t := 22) dTw_hasLoaf_9 (by decide))))
theorem bTw_hasLoaf_12 {E : mEn} {d : Nat} {σ : mSt} {Q : mPost} {a1 : Int32} {t : Nat} (ht : isT t) : WP E d mTw_hasLoaf 12 [.ref t, .int a1] [] σ Q = (if (nI 8) ≤ a1 then WP E d mTw_hasLoaf 22 [.ref t, .int a1] [] σ Q else WP E d mTw_hasLoaf 18 [.ref t, .int a1] [] σ Q) := (w_iload_n dTw_hasLoaf_12 rfl).trans ((w_bipush (v := (nI 8)) dTw_hasLoaf_13 rfl).trans (w_icmpge (t := 22) dTw_hasLoaf_15 (by decide)))
theorem bTw_hasLoaf_18 {E : mEn} {d : Nat} {σ : mSt} {Q : mPost} {a1 : Int32} {t : Nat} (ht : isT t) : WP E d mTw_hasLoaf 18 [.ref t, .int a1] [] σ Q = WP E d mTw_hasLoaf 23 [.ref t, .int a1] [.int 1] σ Q := (w_iconst (v := 1) dTw_hasLoaf_18 rfl).trans (w_goto (t := 23) dTw_hasLoaf_19 (by decide))
theorem bTw_hasLoaf_22 {E : mEn} {d : Nat} {σ : mSt} {Q : mPost} {a1 : Int32} {t : Nat} (ht : isT t) : WP E d mTw_hasLoaf 22 [.ref t, .int a1] [] σ Q = WP E d mTw_hasLoaf 23 [.ref t, .int a1] [.int 0] σ Q := w_iconst (v := 0) dTw_hasLoaf_22 rfl
theorem bTw_hasLoaf_23 {E : mEn} {d : Nat} {σ : mSt} {Q : mPost} {a1 : Int32} {s0 : Int32} {t : Nat} (ht : isT t) (hz0 : s0 = 0 ∨ s0 = 1) : WP E d mTw_hasLoaf 23 [.ref t, .int a1] [.int s0] σ Q = Q (some (.int s0)) σ := w_zret dTw_hasLoaf_23 rfl hz0
theorem dTw_isPaper_0 : decode (mC mTw_isPaper) 0 = .ok (.aload_n 0, 1) := by decide +kernel
theorem dTw_isPaper_1 : decode (mC mTw_isPaper) 1 = .ok (.iload_n 1, 1) := by decide +kernel
theorem dTw_isPaper_2 : decode (mC mTw_isPaper) 2 = .ok (.invokevirtual 113, 3) := by decide +kernel
theorem dTw_isPaper_5 : decode (mC mTw_isPaper) 5 = .ok (.ifCond .eq (12), 3) := by decide +kernel
theorem dTw_isPaper_8 : decode (mC mTw_isPaper) 8 = .ok (.aload_n 0, 1) := by decide +kernel
theorem dTw_isPaper_9 : decode (mC mTw_isPaper) 9 = .ok (.getfield 48, 3) := by decide +kernel
theorem dTw_isPaper_12 : decode (mC mTw_isPaper) 12 = .ok (.iload_n 1, 1) := by decide +kernel
theorem dTw_isPaper_13 : decode (mC mTw_isPaper) 13 = .ok (.iaload, 1) := by decide +kernel
theorem dTw_isPaper_14 : decode (mC mTw_isPaper) 14 = .ok (.ifCond .ge (7), 3) := by decide +kernel
theorem dTw_isPaper_17 : decode (mC mTw_isPaper) 17 = .ok (.iconst (1), 1) := by decide +kernel
theorem dTw_isPaper_18 : decode (mC mTw_isPaper) 18 = .ok (.goto (4), 3) := by decide +kernel
theorem dTw_isPaper_21 : decode (mC mTw_isPaper) 21 = .ok (.iconst (0), 1) := by decide +kernel
theorem dTw_isPaper_22 : decode (mC mTw_isPaper) 22 = .ok (.ireturn, 1) := by decide +kernel
theorem bTw_isPaper_0 {E : mEn} {d : Nat} {σ : mSt} {Q : mPost} {a1 : Int32} {t : Nat} (ht : isT t) : WP E (d + 1) mTw_isPaper 0 [.ref t, .int a1] [] σ Q = WP E d mTw_hasLoaf 0 [.ref t, .int a1] [] σ (fun r σ' => WP E (d + 1) mTw_isPaper 5 [.ref t, .int a1] (r.toList ++ []) σ' Q) := (w_aload_n dTw_isPaper_0 rfl).trans ((w_iload_n dTw_isPaper_1 rfl).trans (w_virt (vs := [.int a1]) (st' := []) (es := [.ref t, .int a1]) dTw_isPaper_2 rz8_113 rfl (shT_0 ht) rfl rfl rfl (Nat.le_of_ble_eq_true rfl) (Nat.le_of_ble_eq_true rfl) rfl))
theorem bTw_isPaper_5 {E : mEn} {d : Nat} {σ : mSt} {Q : mPost} {a1 : Int32} {s0 : Int32} {t : Nat} (ht : isT t) : WP E d mTw_isPaper 5 [.ref t, .int a1] [.int s0] σ Q = (if s0 = 0 then WP E d mTw_isPaper 17 [.ref t, .int a1] [] σ Q else WP E d mTw_isPaper 8 [.ref t, .int a1] [] σ Q) := w_ifeq (t := 17) dTw_isPaper_5 (by decide)
theorem bTw_isPaper_8 {E : mEn} {d : Nat} {σ : mSt} {Q : mPost} {a1 : Int32} {t : Nat} (ht : isT t) : WP E d mTw_isPaper 8 [.ref t, .int a1] [] σ Q = (if mOut a1 8 = true then False else (if 0 ≤ (σ.1 (t + 20) a1.toNatClampNeg) then WP E d mTw_isPaper 21 [.ref t, .int a1] [] σ Q else WP E d mTw_isPaper 17 [.ref t, .int a1] [] σ Q)) := (w_aload_n dTw_isPaper_8 rfl).trans ((w_getr (r := t + 20) dTw_isPaper_9 rz8_48 (shT_0 ht) rfl).trans ((w_iload_n dTw_isPaper_12 rfl).trans ((w_iald dTw_isPaper_13 (shT_20 ht) (ltT ht (by decide))).trans (ite_c (w_ifge (t := 21) dTw_isPaper_14 (by decide))))))
theorem bTw_isPaper_17 {E : mEn} {d : Nat} {σ : mSt} {Q : mPost} {a1 : Int32} {t : Nat} (ht : isT t) : WP E d mTw_isPaper 17 [.ref t, .int a1] [] σ Q = WP E d mTw_isPaper 22 [.ref t, .int a1] [.int 1] σ Q := (w_iconst (v := 1) dTw_isPaper_17 rfl).trans (w_goto (t := 22) dTw_isPaper_18 (by decide))
theorem bTw_isPaper_21 {E : mEn} {d : Nat} {σ : mSt} {Q : mPost} {a1 : Int32} {t : Nat} (ht : isT t) : WP E d mTw_isPaper 21 [.ref t, .int a1] [] σ Q = WP E d mTw_isPaper 22 [.ref t, .int a1] [.int 0] σ Q := w_iconst (v := 0) dTw_isPaper_21 rfl
theorem bTw_isPaper_22 {E : mEn} {d : Nat} {σ : mSt} {Q : mPost} {a1 : Int32} {s0 : Int32} {t : Nat} (ht : isT t) (hz0 : s0 = 0 ∨ s0 = 1) : WP E d mTw_isPaper 22 [.ref t, .int a1] [.int s0] σ Q = Q (some (.int s0)) σ := w_zret dTw_isPaper_22 rfl hz0
theorem dTw_isBaked_0 : decode (mC mTw_isBaked) 0 = .ok (.aload_n 0, 1) := by decide +kernel
theorem dTw_isBaked_1 : decode (mC mTw_isBaked) 1 = .ok (.iload_n 1, 1) := by decide +kernel
theorem dTw_isBaked_2 : decode (mC mTw_isBaked) 2 = .ok (.invokevirtual 113, 3) := by decide +kernel
theorem dTw_isBaked_5 : decode (mC mTw_isBaked) 5 = .ok (.ifCond .eq (19), 3) := by decide +kernel
theorem dTw_isBaked_8 : decode (mC mTw_isBaked) 8 = .ok (.aload_n 0, 1) := by decide +kernel
theorem dTw_isBaked_9 : decode (mC mTw_isBaked) 9 = .ok (.getfield 83, 3) := by decide +kernel
theorem dTw_isBaked_12 : decode (mC mTw_isBaked) 12 = .ok (.iload_n 1, 1) := by decide +kernel
theorem dTw_isBaked_13 : decode (mC mTw_isBaked) 13 = .ok (.ishr, 1) := by decide +kernel
theorem dTw_isBaked_14 : decode (mC mTw_isBaked) 14 = .ok (.iconst (1), 1) := by decide +kernel
theorem dTw_isBaked_15 : decode (mC mTw_isBaked) 15 = .ok (.iand, 1) := by decide +kernel
theorem dTw_isBaked_16 : decode (mC mTw_isBaked) 16 = .ok (.iconst (1), 1) := by decide +kernel
theorem dTw_isBaked_17 : decode (mC mTw_isBaked) 17 = .ok (.if_icmp .ne (7), 3) := by decide +kernel
theorem dTw_isBaked_20 : decode (mC mTw_isBaked) 20 = .ok (.iconst (1), 1) := by decide +kernel
theorem dTw_isBaked_21 : decode (mC mTw_isBaked) 21 = .ok (.goto (4), 3) := by decide +kernel
theorem dTw_isBaked_24 : decode (mC mTw_isBaked) 24 = .ok (.iconst (0), 1) := by decide +kernel
theorem dTw_isBaked_25 : decode (mC mTw_isBaked) 25 = .ok (.ireturn, 1) := by decide +kernel
theorem bTw_isBaked_0 {E : mEn} {d : Nat} {σ : mSt} {Q : mPost} {a1 : Int32} {t : Nat} (ht : isT t) : WP E (d + 1) mTw_isBaked 0 [.ref t, .int a1] [] σ Q = WP E d mTw_hasLoaf 0 [.ref t, .int a1] [] σ (fun r σ' => WP E (d + 1) mTw_isBaked 5 [.ref t, .int a1] (r.toList ++ []) σ' Q) := (w_aload_n dTw_isBaked_0 rfl).trans ((w_iload_n dTw_isBaked_1 rfl).trans (w_virt (vs := [.int a1]) (st' := []) (es := [.ref t, .int a1]) dTw_isBaked_2 rz8_113 rfl (shT_0 ht) rfl rfl rfl (Nat.le_of_ble_eq_true rfl) (Nat.le_of_ble_eq_true rfl) rfl))
theorem bTw_isBaked_5 {E : mEn} {d : Nat} {σ : mSt} {Q : mPost} {a1 : Int32} {s0 : Int32} {t : Nat} (ht : isT t) : WP E d mTw_isBaked 5 [.ref t, .int a1] [.int s0] σ Q = (if s0 = 0 then WP E d mTw_isBaked 24 [.ref t, .int a1] [] σ Q else WP E d mTw_isBaked 8 [.ref t, .int a1] [] σ Q) := w_ifeq (t := 24) dTw_isBaked_5 (by decide)
theorem bTw_isBaked_8 {E : mEn} {d : Nat} {σ : mSt} {Q : mPost} {a1 : Int32} {t : Nat} (ht : isT t) : WP E d mTw_isBaked 8 [.ref t, .int a1] [] σ Q = (if ¬ (((σ.1 t 17) >>> (a1 &&& 31)) &&& 1) = 1 then WP E d mTw_isBaked 24 [.ref t, .int a1] [] σ Q else WP E d mTw_isBaked 20 [.ref t, .int a1] [] σ Q) := (w_aload_n dTw_isBaked_8 rfl).trans ((w_geti dTw_isBaked_9 rz8_83 (shT_0 ht) rfl).trans ((w_iload_n dTw_isBaked_12 rfl).trans ((w_ishr dTw_isBaked_13).trans ((w_iconst (v := 1) dTw_isBaked_14 rfl).trans ((w_iand dTw_isBaked_15).trans ((w_iconst (v := 1) dTw_isBaked_16 rfl).trans (w_icmpne (t := 24) dTw_isBaked_17 (by decide))))))))
theorem bTw_isBaked_20 {E : mEn} {d : Nat} {σ : mSt} {Q : mPost} {a1 : Int32} {t : Nat} (ht : isT t) : WP E d mTw_isBaked 20 [.ref t, .int a1] [] σ Q = WP E d mTw_isBaked 25 [.ref t, .int a1] [.int 1] σ Q := (w_iconst (v := 1) dTw_isBaked_20 rfl).trans (w_goto (t := 25) dTw_isBaked_21 (by decide))
theorem bTw_isBaked_24 {E : mEn} {d : Nat} {σ : mSt} {Q : mPost} {a1 : Int32} {t : Nat} (ht : isT t) : WP E d mTw_isBaked 24 [.ref t, .int a1] [] σ Q = WP E d mTw_isBaked 25 [.ref t, .int a1] [.int 0] σ Q := w_iconst (v := 0) dTw_isBaked_24 rfl
theorem bTw_isBaked_25 {E : mEn} {d : Nat} {σ : mSt} {Q : mPost} {a1 : Int32} {s0 : Int32} {t : Nat} (ht : isT t) (hz0 : s0 = 0 ∨ s0 = 1) : WP E d mTw_isBaked 25 [.ref t, .int a1] [.int s0] σ Q = Q (some (.int s0)) σ := w_zret dTw_isBaked_25 rfl hz0
theorem dTw_comesOf_0 : decode (mC mTw_comesOf) 0 = .ok (.aload_n 0, 1) := by decide +kernel
theorem dTw_comesOf_1 : decode (mC mTw_comesOf) 1 = .ok (.iload_n 1, 1) := by decide +kernel
theorem dTw_comesOf_2 : decode (mC mTw_comesOf) 2 = .ok (.invokevirtual 113, 3) := by decide +kernel
theorem dTw_comesOf_5 : decode (mC mTw_comesOf) 5 = .ok (.ifCond .eq (12), 3) := by decide +kernel
theorem dTw_comesOf_8 : decode (mC mTw_comesOf) 8 = .ok (.aload_n 0, 1) := by decide +kernel
theorem dTw_comesOf_9 : decode (mC mTw_comesOf) 9 = .ok (.getfield 48, 3) := by decide +kernel
theorem dTw_comesOf_12 : decode (mC mTw_comesOf) 12 = .ok (.iload_n 1, 1) := by decide +kernel
theorem dTw_comesOf_13 : decode (mC mTw_comesOf) 13 = .ok (.iaload, 1) := by decide +kernel
theorem dTw_comesOf_14 : decode (mC mTw_comesOf) 14 = .ok (.ifCond .ge (5), 3) := by decide +kernel
theorem dTw_comesOf_17 : decode (mC mTw_comesOf) 17 = .ok (.iconst (0), 1) := by decide +kernel
theorem dTw_comesOf_18 : decode (mC mTw_comesOf) 18 = .ok (.ireturn, 1) := by decide +kernel
theorem dTw_comesOf_19 : decode (mC mTw_comesOf) 19 = .ok (.iload_n 2, 1) := by decide +kernel
theorem dTw_comesOf_20 : decode (mC mTw_comesOf) 20 = .ok (.ifCond .eq (14), 3) := by decide +kernel
theorem dTw_comesOf_23 : decode (mC mTw_comesOf) 23 = .ok (.aload_n 0, 1) := by decide +kernel
theorem dTw_comesOf_24 : decode (mC mTw_comesOf) 24 = .ok (.getfield 54, 3) := by decide +kernel
theorem dTw_comesOf_27 : decode (mC mTw_comesOf) 27 = .ok (.iload_n 1, 1) := by decide +kernel
theorem dTw_comesOf_28 : decode (mC mTw_comesOf) 28 = .ok (.iaload, 1) := by decide +kernel
theorem dTw_comesOf_29 : decode (mC mTw_comesOf) 29 = .ok (.iconst (2), 1) := by decide +kernel
theorem dTw_comesOf_30 : decode (mC mTw_comesOf) 30 = .ok (.idiv, 1) := by decide +kernel
theorem dTw_comesOf_31 : decode (mC mTw_comesOf) 31 = .ok (.goto (9), 3) := by decide +kernel
theorem dTw_comesOf_34 : decode (mC mTw_comesOf) 34 = .ok (.aload_n 0, 1) := by decide +kernel
theorem dTw_comesOf_35 : decode (mC mTw_comesOf) 35 = .ok (.getfield 54, 3) := by decide +kernel
theorem dTw_comesOf_38 : decode (mC mTw_comesOf) 38 = .ok (.iload_n 1, 1) := by decide +kernel
theorem dTw_comesOf_39 : decode (mC mTw_comesOf) 39 = .ok (.iaload, 1) := by decide +kernel
theorem dTw_comesOf_40 : decode (mC mTw_comesOf) 40 = .ok (.ireturn, 1) := by decide +kernel
theorem bTw_comesOf_0 {E : mEn} {d : Nat} {σ : mSt} {Q : mPost} {a1 : Int32} {a2 : Int32} {t : Nat} (ht : isT t) : WP E (d + 1) mTw_comesOf 0 [.ref t, .int a1, .int a2] [] σ Q = WP E d mTw_hasLoaf 0 [.ref t, .int a1] [] σ (fun r σ' => WP E (d + 1) mTw_comesOf 5 [.ref t, .int a1, .int a2] (r.toList ++ []) σ' Q) := (w_aload_n dTw_comesOf_0 rfl).trans ((w_iload_n dTw_comesOf_1 rfl).trans (w_virt (vs := [.int a1]) (st' := []) (es := [.ref t, .int a1]) dTw_comesOf_2 rz8_113 rfl (shT_0 ht) rfl rfl rfl (Nat.le_of_ble_eq_true rfl) (Nat.le_of_ble_eq_true rfl) rfl))
theorem bTw_comesOf_5 {E : mEn} {d : Nat} {σ : mSt} {Q : mPost} {a1 : Int32} {a2 : Int32} {s0 : Int32} {t : Nat} (ht : isT t) : WP E d mTw_comesOf 5 [.ref t, .int a1, .int a2] [.int s0] σ Q = (if s0 = 0 then WP E d mTw_comesOf 17 [.ref t, .int a1, .int a2] [] σ Q else WP E d mTw_comesOf 8 [.ref t, .int a1, .int a2] [] σ Q) := w_ifeq (t := 17) dTw_comesOf_5 (by decide)
theorem bTw_comesOf_8 {E : mEn} {d : Nat} {σ : mSt} {Q : mPost} {a1 : Int32} {a2 : Int32} {t : Nat} (ht : isT t) : WP E d mTw_comesOf 8 [.ref t, .int a1, .int a2] [] σ Q = (if mOut a1 8 = true then False else (if 0 ≤ (σ.1 (t + 20) a1.toNatClampNeg) then WP E d mTw_comesOf 19 [.ref t, .int a1, .int a2] [] σ Q else WP E d mTw_comesOf 17 [.ref t, .int a1, .int a2] [] σ Q)) := (w_aload_n dTw_comesOf_8 rfl).trans ((w_getr (r := t + 20) dTw_comesOf_9 rz8_48 (shT_0 ht) rfl).trans ((w_iload_n dTw_comesOf_12 rfl).trans ((w_iald dTw_comesOf_13 (shT_20 ht) (ltT ht (by decide))).trans (ite_c (w_ifge (t := 19) dTw_comesOf_14 (by decide))))))
theorem bTw_comesOf_17 {E : mEn} {d : Nat} {σ : mSt} {Q : mPost} {a1 : Int32} {a2 : Int32} {t : Nat} (ht : isT t) : WP E d mTw_comesOf 17 [.ref t, .int a1, .int a2] [] σ Q = Q (some (.int 0)) σ := (w_iconst (v := 0) dTw_comesOf_17 rfl).trans (w_iret dTw_comesOf_18 rfl)
theorem bTw_comesOf_19 {E : mEn} {d : Nat} {σ : mSt} {Q : mPost} {a1 : Int32} {a2 : Int32} {t : Nat} (ht : isT t) : WP E d mTw_comesOf 19 [.ref t, .int a1, .int a2] [] σ Q = (if a2 = 0 then WP E d mTw_comesOf 34 [.ref t, .int a1, .int a2] [] σ Q else WP E d mTw_comesOf 23 [.ref t, .int a1, .int a2] [] σ Q) := (w_iload_n dTw_comesOf_19 rfl).trans (w_ifeq (t := 34) dTw_comesOf_20 (by decide))
theorem bTw_comesOf_23 {E : mEn} {d : Nat} {σ : mSt} {Q : mPost} {a1 : Int32} {a2 : Int32} {t : Nat} (ht : isT t) : WP E d mTw_comesOf 23 [.ref t, .int a1, .int a2] [] σ Q = (if mOut a1 8 = true then False else WP E d mTw_comesOf 40 [.ref t, .int a1, .int a2] [.int ((σ.1 (t + 22) a1.toNatClampNeg) / (nI 2))] σ Q) := (w_aload_n dTw_comesOf_23 rfl).trans ((w_getr (r := t + 22) dTw_comesOf_24 rz8_54 (shT_0 ht) rfl).trans ((w_iload_n dTw_comesOf_27 rfl).trans ((w_iald dTw_comesOf_28 (shT_22 ht) (ltT ht (by decide))).trans (ite_c ((w_iconst (v := (nI 2)) dTw_comesOf_29 rfl).trans ((w_idiv dTw_comesOf_30 (by decide)).trans (w_goto (t := 40) dTw_comesOf_31 (by decide))))))))
theorem bTw_comesOf_34 {E : mEn} {d : Nat} {σ : mSt} {Q : mPost} {a1 : Int32} {a2 : Int32} {t : Nat} (ht : isT t) : WP E d mTw_comesOf 34 [.ref t, .int a1, .int a2] [] σ Q = (if mOut a1 8 = true then False else WP E d mTw_comesOf 40 [.ref t, .int a1, .int a2] [.int (σ.1 (t + 22) a1.toNatClampNeg)] σ Q) := (w_aload_n dTw_comesOf_34 rfl).trans ((w_getr (r := t + 22) dTw_comesOf_35 rz8_54 (shT_0 ht) rfl).trans ((w_iload_n dTw_comesOf_38 rfl).trans ((w_iald dTw_comesOf_39 (shT_22 ht) (ltT ht (by decide))).trans (ite_c (rfl)))))
theorem bTw_comesOf_40 {E : mEn} {d : Nat} {σ : mSt} {Q : mPost} {a1 : Int32} {a2 : Int32} {s0 : Int32} {t : Nat} (ht : isT t) : WP E d mTw_comesOf 40 [.ref t, .int a1, .int a2] [.int s0] σ Q = Q (some (.int s0)) σ := w_iret dTw_comesOf_40 rfl
theorem dTw_bakerOf_0 : decode (mC mTw_bakerOf) 0 = .ok (.aload_n 0, 1) := by decide +kernel
theorem dTw_bakerOf_1 : decode (mC mTw_bakerOf) 1 = .ok (.iload_n 1, 1) := by decide +kernel
theorem dTw_bakerOf_2 : decode (mC mTw_bakerOf) 2 = .ok (.invokevirtual 113, 3) := by decide +kernel
theorem dTw_bakerOf_5 : decode (mC mTw_bakerOf) 5 = .ok (.ifCond .eq (12), 3) := by decide +kernel
theorem dTw_bakerOf_8 : decode (mC mTw_bakerOf) 8 = .ok (.aload_n 0, 1) := by decide +kernel
theorem dTw_bakerOf_9 : decode (mC mTw_bakerOf) 9 = .ok (.getfield 45, 3) := by decide +kernel
theorem dTw_bakerOf_12 : decode (mC mTw_bakerOf) 12 = .ok (.iload_n 1, 1) := by decide +kernel
theorem dTw_bakerOf_13 : decode (mC mTw_bakerOf) 13 = .ok (.iaload, 1) := by decide +kernel
theorem dTw_bakerOf_14 : decode (mC mTw_bakerOf) 14 = .ok (.goto (4), 3) := by decide +kernel
theorem dTw_bakerOf_17 : decode (mC mTw_bakerOf) 17 = .ok (.iconst (-1), 1) := by decide +kernel
theorem dTw_bakerOf_18 : decode (mC mTw_bakerOf) 18 = .ok (.ireturn, 1) := by decide +kernel
theorem bTw_bakerOf_0 {E : mEn} {d : Nat} {σ : mSt} {Q : mPost} {a1 : Int32} {t : Nat} (ht : isT t) : WP E (d + 1) mTw_bakerOf 0 [.ref t, .int a1] [] σ Q = WP E d mTw_hasLoaf 0 [.ref t, .int a1] [] σ (fun r σ' => WP E (d + 1) mTw_bakerOf 5 [.ref t, .int a1] (r.toList ++ []) σ' Q) := (w_aload_n dTw_bakerOf_0 rfl).trans ((w_iload_n dTw_bakerOf_1 rfl).trans (w_virt (vs := [.int a1]) (st' := []) (es := [.ref t, .int a1]) dTw_bakerOf_2 rz8_113 rfl (shT_0 ht) rfl rfl rfl (Nat.le_of_ble_eq_true rfl) (Nat.le_of_ble_eq_true rfl) rfl))
theorem bTw_bakerOf_5 {E : mEn} {d : Nat} {σ : mSt} {Q : mPost} {a1 : Int32} {s0 : Int32} {t : Nat} (ht : isT t) : WP E d mTw_bakerOf 5 [.ref t, .int a1] [.int s0] σ Q = (if s0 = 0 then WP E d mTw_bakerOf 17 [.ref t, .int a1] [] σ Q else WP E d mTw_bakerOf 8 [.ref t, .int a1] [] σ Q) := w_ifeq (t := 17) dTw_bakerOf_5 (by decide)
theorem bTw_bakerOf_8 {E : mEn} {d : Nat} {σ : mSt} {Q : mPost} {a1 : Int32} {t : Nat} (ht : isT t) : WP E d mTw_bakerOf 8 [.ref t, .int a1] [] σ Q = (if mOut a1 8 = true then False else WP E d mTw_bakerOf 18 [.ref t, .int a1] [.int (σ.1 (t + 19) a1.toNatClampNeg)] σ Q) := (w_aload_n dTw_bakerOf_8 rfl).trans ((w_getr (r := t + 19) dTw_bakerOf_9 rz8_45 (shT_0 ht) rfl).trans ((w_iload_n dTw_bakerOf_12 rfl).trans ((w_iald dTw_bakerOf_13 (shT_19 ht) (ltT ht (by decide))).trans (ite_c (w_goto (t := 18) dTw_bakerOf_14 (by decide))))))
theorem bTw_bakerOf_17 {E : mEn} {d : Nat} {σ : mSt} {Q : mPost} {a1 : Int32} {t : Nat} (ht : isT t) : WP E d mTw_bakerOf 17 [.ref t, .int a1] [] σ Q = WP E d mTw_bakerOf 18 [.ref t, .int a1] [.int (-1)] σ Q := w_iconst (v := (-1)) dTw_bakerOf_17 rfl
theorem bTw_bakerOf_18 {E : mEn} {d : Nat} {σ : mSt} {Q : mPost} {a1 : Int32} {s0 : Int32} {t : Nat} (ht : isT t) : WP E d mTw_bakerOf 18 [.ref t, .int a1] [.int s0] σ Q = Q (some (.int s0)) σ := w_iret dTw_bakerOf_18 rfl
theorem dTw_rainOn_0 : decode (mC mTw_rainOn) 0 = .ok (.aload_n 0, 1) := by decide +kernel
theorem dTw_rainOn_1 : decode (mC mTw_rainOn) 1 = .ok (.iload_n 1, 1) := by decide +kernel
theorem dTw_rainOn_2 : decode (mC mTw_rainOn) 2 = .ok (.invokevirtual 113, 3) := by decide +kernel
theorem dTw_rainOn_5 : decode (mC mTw_rainOn) 5 = .ok (.ifCond .eq (12), 3) := by decide +kernel
theorem dTw_rainOn_8 : decode (mC mTw_rainOn) 8 = .ok (.aload_n 0, 1) := by decide +kernel
theorem dTw_rainOn_9 : decode (mC mTw_rainOn) 9 = .ok (.getfield 48, 3) := by decide +kernel
theorem dTw_rainOn_12 : decode (mC mTw_rainOn) 12 = .ok (.iload_n 1, 1) := by decide +kernel
theorem dTw_rainOn_13 : decode (mC mTw_rainOn) 13 = .ok (.iaload, 1) := by decide +kernel
theorem dTw_rainOn_14 : decode (mC mTw_rainOn) 14 = .ok (.goto (4), 3) := by decide +kernel
theorem dTw_rainOn_17 : decode (mC mTw_rainOn) 17 = .ok (.iconst (-1), 1) := by decide +kernel
theorem dTw_rainOn_18 : decode (mC mTw_rainOn) 18 = .ok (.istore_n 2, 1) := by decide +kernel
theorem dTw_rainOn_19 : decode (mC mTw_rainOn) 19 = .ok (.iload_n 2, 1) := by decide +kernel
theorem dTw_rainOn_20 : decode (mC mTw_rainOn) 20 = .ok (.ifCond .lt (17), 3) := by decide +kernel
theorem dTw_rainOn_23 : decode (mC mTw_rainOn) 23 = .ok (.iload_n 2, 1) := by decide +kernel
theorem dTw_rainOn_24 : decode (mC mTw_rainOn) 24 = .ok (.iconst (4), 1) := by decide +kernel
theorem dTw_rainOn_25 : decode (mC mTw_rainOn) 25 = .ok (.if_icmp .ge (12), 3) := by decide +kernel
theorem dTw_rainOn_28 : decode (mC mTw_rainOn) 28 = .ok (.aload_n 0, 1) := by decide +kernel
theorem dTw_rainOn_29 : decode (mC mTw_rainOn) 29 = .ok (.getfield 42, 3) := by decide +kernel
theorem dTw_rainOn_32 : decode (mC mTw_rainOn) 32 = .ok (.iload_n 2, 1) := by decide +kernel
theorem dTw_rainOn_33 : decode (mC mTw_rainOn) 33 = .ok (.iaload, 1) := by decide +kernel
theorem dTw_rainOn_34 : decode (mC mTw_rainOn) 34 = .ok (.goto (4), 3) := by decide +kernel
theorem dTw_rainOn_37 : decode (mC mTw_rainOn) 37 = .ok (.iconst (0), 1) := by decide +kernel
theorem dTw_rainOn_38 : decode (mC mTw_rainOn) 38 = .ok (.ireturn, 1) := by decide +kernel
theorem bTw_rainOn_0 {E : mEn} {d : Nat} {σ : mSt} {Q : mPost} {a1 : Int32} {u2 : Value} {t : Nat} (ht : isT t) : WP E (d + 1) mTw_rainOn 0 [.ref t, .int a1, u2] [] σ Q = WP E d mTw_hasLoaf 0 [.ref t, .int a1] [] σ (fun r σ' => WP E (d + 1) mTw_rainOn 5 [.ref t, .int a1, u2] (r.toList ++ []) σ' Q) := (w_aload_n dTw_rainOn_0 rfl).trans ((w_iload_n dTw_rainOn_1 rfl).trans (w_virt (vs := [.int a1]) (st' := []) (es := [.ref t, .int a1]) dTw_rainOn_2 rz8_113 rfl (shT_0 ht) rfl rfl rfl (Nat.le_of_ble_eq_true rfl) (Nat.le_of_ble_eq_true rfl) rfl))
theorem bTw_rainOn_5 {E : mEn} {d : Nat} {σ : mSt} {Q : mPost} {a1 : Int32} {u2 : Value} {s0 : Int32} {t : Nat} (ht : isT t) : WP E d mTw_rainOn 5 [.ref t, .int a1, u2] [.int s0] σ Q = (if s0 = 0 then WP E d mTw_rainOn 17 [.ref t, .int a1, u2] [] σ Q else WP E d mTw_rainOn 8 [.ref t, .int a1, u2] [] σ Q) := w_ifeq (t := 17) dTw_rainOn_5 (by decide)
theorem bTw_rainOn_8 {E : mEn} {d : Nat} {σ : mSt} {Q : mPost} {a1 : Int32} {u2 : Value} {t : Nat} (ht : isT t) : WP E d mTw_rainOn 8 [.ref t, .int a1, u2] [] σ Q = (if mOut a1 8 = true then False else WP E d mTw_rainOn 18 [.ref t, .int a1, u2] [.int (σ.1 (t + 20) a1.toNatClampNeg)] σ Q) := (w_aload_n dTw_rainOn_8 rfl).trans ((w_getr (r := t + 20) dTw_rainOn_9 rz8_48 (shT_0 ht) rfl).trans ((w_iload_n dTw_rainOn_12 rfl).trans ((w_iald dTw_rainOn_13 (shT_20 ht) (ltT ht (by decide))).trans (ite_c (w_goto (t := 18) dTw_rainOn_14 (by decide))))))
theorem bTw_rainOn_17 {E : mEn} {d : Nat} {σ : mSt} {Q : mPost} {a1 : Int32} {u2 : Value} {t : Nat} (ht : isT t) : WP E d mTw_rainOn 17 [.ref t, .int a1, u2] [] σ Q = WP E d mTw_rainOn 18 [.ref t, .int a1, u2] [.int (-1)] σ Q := w_iconst (v := (-1)) dTw_rainOn_17 rfl
theorem bTw_rainOn_18 {E : mEn} {d : Nat} {σ : mSt} {Q : mPost} {a1 : Int32} {u2 : Value} {s0 : Int32} {t : Nat} (ht : isT t) : WP E d mTw_rainOn 18 [.ref t, .int a1, u2] [.int s0] σ Q = (if s0 < 0 then WP E d mTw_rainOn 37 [.ref t, .int a1, .int s0] [] σ Q else WP E d mTw_rainOn 23 [.ref t, .int a1, .int s0] [] σ Q) := (w_istore_n (ls' := [.ref t, .int a1, .int s0]) dTw_rainOn_18 (Nat.le_of_ble_eq_true rfl) rfl).trans ((w_iload_n dTw_rainOn_19 rfl).trans (w_iflt (t := 37) dTw_rainOn_20 (by decide)))
theorem bTw_rainOn_23 {E : mEn} {d : Nat} {σ : mSt} {Q : mPost} {a1 : Int32} {a2 : Int32} {t : Nat} (ht : isT t) : WP E d mTw_rainOn 23 [.ref t, .int a1, .int a2] [] σ Q = (if (nI 4) ≤ a2 then WP E d mTw_rainOn 37 [.ref t, .int a1, .int a2] [] σ Q else WP E d mTw_rainOn 28 [.ref t, .int a1, .int a2] [] σ Q) := (w_iload_n dTw_rainOn_23 rfl).trans ((w_iconst (v := (nI 4)) dTw_rainOn_24 rfl).trans (w_icmpge (t := 37) dTw_rainOn_25 (by decide)))
theorem bTw_rainOn_28 {E : mEn} {d : Nat} {σ : mSt} {Q : mPost} {a1 : Int32} {a2 : Int32} {t : Nat} (ht : isT t) : WP E d mTw_rainOn 28 [.ref t, .int a1, .int a2] [] σ Q = (if mOut a2 4 = true then False else WP E d mTw_rainOn 38 [.ref t, .int a1, .int a2] [.int (σ.1 (t + 18) a2.toNatClampNeg)] σ Q) := (w_aload_n dTw_rainOn_28 rfl).trans ((w_getr (r := t + 18) dTw_rainOn_29 rz8_42 (shT_0 ht) rfl).trans ((w_iload_n dTw_rainOn_32 rfl).trans ((w_iald dTw_rainOn_33 (shT_18 ht) (ltT ht (by decide))).trans (ite_c (w_goto (t := 38) dTw_rainOn_34 (by decide))))))
theorem bTw_rainOn_37 {E : mEn} {d : Nat} {σ : mSt} {Q : mPost} {a1 : Int32} {a2 : Int32} {t : Nat} (ht : isT t) : WP E d mTw_rainOn 37 [.ref t, .int a1, .int a2] [] σ Q = WP E d mTw_rainOn 38 [.ref t, .int a1, .int a2] [.int 0] σ Q := w_iconst (v := 0) dTw_rainOn_37 rfl
theorem bTw_rainOn_38 {E : mEn} {d : Nat} {σ : mSt} {Q : mPost} {a1 : Int32} {a2 : Int32} {s0 : Int32} {t : Nat} (ht : isT t) : WP E d mTw_rainOn 38 [.ref t, .int a1, .int a2] [.int s0] σ Q = Q (some (.int s0)) σ := w_iret dTw_rainOn_38 rfl
theorem dTw_flourOf_0 : decode (mC mTw_flourOf) 0 = .ok (.iconst (0), 1) := by decide +kernel
theorem dTw_flourOf_1 : decode (mC mTw_flourOf) 1 = .ok (.istore_n 2, 1) := by decide +kernel
theorem dTw_flourOf_2 : decode (mC mTw_flourOf) 2 = .ok (.iconst (0), 1) := by decide +kernel
theorem dTw_flourOf_3 : decode (mC mTw_flourOf) 3 = .ok (.istore_n 3, 1) := by decide +kernel
theorem dTw_flourOf_4 : decode (mC mTw_flourOf) 4 = .ok (.iload_n 3, 1) := by decide +kernel
theorem dTw_flourOf_5 : decode (mC mTw_flourOf) 5 = .ok (.aload_n 0, 1) := by decide +kernel
theorem dTw_flourOf_6 : decode (mC mTw_flourOf) 6 = .ok (.getfield 77, 3) := by decide +kernel
theorem dTw_flourOf_9 : decode (mC mTw_flourOf) 9 = .ok (.if_icmp .ge (27), 3) := by decide +kernel
theorem dTw_flourOf_12 : decode (mC mTw_flourOf) 12 = .ok (.iload_n 1, 1) := by decide +kernel
theorem dTw_flourOf_13 : decode (mC mTw_flourOf) 13 = .ok (.iload_n 3, 1) := by decide +kernel
theorem dTw_flourOf_14 : decode (mC mTw_flourOf) 14 = .ok (.ishr, 1) := by decide +kernel
theorem dTw_flourOf_15 : decode (mC mTw_flourOf) 15 = .ok (.iconst (1), 1) := by decide +kernel
theorem dTw_flourOf_16 : decode (mC mTw_flourOf) 16 = .ok (.iand, 1) := by decide +kernel
theorem dTw_flourOf_17 : decode (mC mTw_flourOf) 17 = .ok (.iconst (1), 1) := by decide +kernel
theorem dTw_flourOf_18 : decode (mC mTw_flourOf) 18 = .ok (.if_icmp .ne (12), 3) := by decide +kernel
theorem dTw_flourOf_21 : decode (mC mTw_flourOf) 21 = .ok (.iload_n 2, 1) := by decide +kernel
theorem dTw_flourOf_22 : decode (mC mTw_flourOf) 22 = .ok (.aload_n 0, 1) := by decide +kernel
theorem dTw_flourOf_23 : decode (mC mTw_flourOf) 23 = .ok (.getfield 57, 3) := by decide +kernel
theorem dTw_flourOf_26 : decode (mC mTw_flourOf) 26 = .ok (.iload_n 3, 1) := by decide +kernel
theorem dTw_flourOf_27 : decode (mC mTw_flourOf) 27 = .ok (.iaload, 1) := by decide +kernel
theorem dTw_flourOf_28 : decode (mC mTw_flourOf) 28 = .ok (.iadd, 1) := by decide +kernel
theorem dTw_flourOf_29 : decode (mC mTw_flourOf) 29 = .ok (.istore_n 2, 1) := by decide +kernel
theorem dTw_flourOf_30 : decode (mC mTw_flourOf) 30 = .ok (.iinc 3 (1), 3) := by decide +kernel
theorem dTw_flourOf_33 : decode (mC mTw_flourOf) 33 = .ok (.goto (-29), 3) := by decide +kernel
theorem dTw_flourOf_36 : decode (mC mTw_flourOf) 36 = .ok (.iload_n 2, 1) := by decide +kernel
theorem dTw_flourOf_37 : decode (mC mTw_flourOf) 37 = .ok (.ireturn, 1) := by decide +kernel
theorem bTw_flourOf_0 {E : mEn} {d : Nat} {σ : mSt} {Q : mPost} {a1 : Int32} {u2 : Value} {u3 : Value} {t : Nat} (ht : isT t) : WP E d mTw_flourOf 0 [.ref t, .int a1, u2, u3] [] σ Q = WP E d mTw_flourOf 4 [.ref t, .int a1, .int 0, .int 0] [] σ Q := (w_iconst (v := 0) dTw_flourOf_0 rfl).trans ((w_istore_n (ls' := [.ref t, .int a1, .int 0, u3]) dTw_flourOf_1 (Nat.le_of_ble_eq_true rfl) rfl).trans ((w_iconst (v := 0) dTw_flourOf_2 rfl).trans (w_istore_n (ls' := [.ref t, .int a1, .int 0, .int 0]) dTw_flourOf_3 (Nat.le_of_ble_eq_true rfl) rfl)))
theorem bTw_flourOf_4 {E : mEn} {d : Nat} {σ : mSt} {Q : mPost} {a1 : Int32} {a2 : Int32} {a3 : Int32} {t : Nat} (ht : isT t) : WP E d mTw_flourOf 4 [.ref t, .int a1, .int a2, .int a3] [] σ Q = (if (σ.1 t 15) ≤ a3 then WP E d mTw_flourOf 36 [.ref t, .int a1, .int a2, .int a3] [] σ Q else WP E d mTw_flourOf 12 [.ref t, .int a1, .int a2, .int a3] [] σ Q) := (w_iload_n dTw_flourOf_4 rfl).trans ((w_aload_n dTw_flourOf_5 rfl).trans ((w_geti dTw_flourOf_6 rz8_77 (shT_0 ht) rfl).trans (w_icmpge (t := 36) dTw_flourOf_9 (by decide))))
theorem bTw_flourOf_12 {E : mEn} {d : Nat} {σ : mSt} {Q : mPost} {a1 : Int32} {a2 : Int32} {a3 : Int32} {t : Nat} (ht : isT t) : WP E d mTw_flourOf 12 [.ref t, .int a1, .int a2, .int a3] [] σ Q = (if ¬ ((a1 >>> (a3 &&& 31)) &&& 1) = 1 then WP E d mTw_flourOf 30 [.ref t, .int a1, .int a2, .int a3] [] σ Q else WP E d mTw_flourOf 21 [.ref t, .int a1, .int a2, .int a3] [] σ Q) := (w_iload_n dTw_flourOf_12 rfl).trans ((w_iload_n dTw_flourOf_13 rfl).trans ((w_ishr dTw_flourOf_14).trans ((w_iconst (v := 1) dTw_flourOf_15 rfl).trans ((w_iand dTw_flourOf_16).trans ((w_iconst (v := 1) dTw_flourOf_17 rfl).trans (w_icmpne (t := 30) dTw_flourOf_18 (by decide)))))))
theorem bTw_flourOf_21 {E : mEn} {d : Nat} {σ : mSt} {Q : mPost} {a1 : Int32} {a2 : Int32} {a3 : Int32} {t : Nat} (ht : isT t) : WP E d mTw_flourOf 21 [.ref t, .int a1, .int a2, .int a3] [] σ Q = (if mOut a3 8 = true then False else WP E d mTw_flourOf 30 [.ref t, .int a1, .int (a2 + (σ.1 (t + 23) a3.toNatClampNeg)), .int a3] [] σ Q) := (w_iload_n dTw_flourOf_21 rfl).trans ((w_aload_n dTw_flourOf_22 rfl).trans ((w_getr (r := t + 23) dTw_flourOf_23 rz8_57 (shT_0 ht) rfl).trans ((w_iload_n dTw_flourOf_26 rfl).trans ((w_iald dTw_flourOf_27 (shT_23 ht) (ltT ht (by decide))).trans (ite_c ((w_iadd dTw_flourOf_28).trans (w_istore_n (ls' := [.ref t, .int a1, .int (a2 + (σ.1 (t + 23) a3.toNatClampNeg)), .int a3]) dTw_flourOf_29 (Nat.le_of_ble_eq_true rfl) rfl)))))))
theorem bTw_flourOf_30 {E : mEn} {d : Nat} {σ : mSt} {Q : mPost} {a1 : Int32} {a2 : Int32} {a3 : Int32} {t : Nat} (ht : isT t) : WP E d mTw_flourOf 30 [.ref t, .int a1, .int a2, .int a3] [] σ Q = WP E d mTw_flourOf 4 [.ref t, .int a1, .int a2, .int (a3 + 1)] [] σ Q := (w_iinc (v := 1) (ls' := [.ref t, .int a1, .int a2, .int (a3 + 1)]) dTw_flourOf_30 rfl rfl rfl).trans (w_goto (t := 4) dTw_flourOf_33 (by decide))
theorem bTw_flourOf_36 {E : mEn} {d : Nat} {σ : mSt} {Q : mPost} {a1 : Int32} {a2 : Int32} {a3 : Int32} {t : Nat} (ht : isT t) : WP E d mTw_flourOf 36 [.ref t, .int a1, .int a2, .int a3] [] σ Q = Q (some (.int a2)) σ := (w_iload_n dTw_flourOf_36 rfl).trans (w_iret dTw_flourOf_37 rfl)
theorem dTw_release_0 : decode (mC mTw_release) 0 = .ok (.aload_n 0, 1) := by decide +kernel
theorem dTw_release_1 : decode (mC mTw_release) 1 = .ok (.getfield 21, 3) := by decide +kernel
theorem dTw_release_4 : decode (mC mTw_release) 4 = .ok (.iload_n 1, 1) := by decide +kernel
theorem dTw_release_5 : decode (mC mTw_release) 5 = .ok (.invokevirtual 137, 3) := by decide +kernel
theorem dTw_release_8 : decode (mC mTw_release) 8 = .ok (.ifCond .eq (19), 3) := by decide +kernel
theorem dTw_release_11 : decode (mC mTw_release) 11 = .ok (.aload_n 0, 1) := by decide +kernel
theorem dTw_release_12 : decode (mC mTw_release) 12 = .ok (.aload_n 0, 1) := by decide +kernel
theorem dTw_release_13 : decode (mC mTw_release) 13 = .ok (.getfield 21, 3) := by decide +kernel
theorem dTw_release_16 : decode (mC mTw_release) 16 = .ok (.getfield 121, 3) := by decide +kernel
theorem dTw_release_19 : decode (mC mTw_release) 19 = .ok (.iload_n 1, 1) := by decide +kernel
theorem dTw_release_20 : decode (mC mTw_release) 20 = .ok (.iaload, 1) := by decide +kernel
theorem dTw_release_21 : decode (mC mTw_release) 21 = .ok (.invokevirtual 140, 3) := by decide +kernel
theorem dTw_release_24 : decode (mC mTw_release) 24 = .ok (.ifCond .eq (5), 3) := by decide +kernel
theorem dTw_release_27 : decode (mC mTw_release) 27 = .ok (.iconst (0), 1) := by decide +kernel
theorem dTw_release_28 : decode (mC mTw_release) 28 = .ok (.ireturn, 1) := by decide +kernel
theorem dTw_release_29 : decode (mC mTw_release) 29 = .ok (.aload_n 0, 1) := by decide +kernel
theorem dTw_release_30 : decode (mC mTw_release) 30 = .ok (.getfield 21, 3) := by decide +kernel
theorem dTw_release_33 : decode (mC mTw_release) 33 = .ok (.getfield 133, 3) := by decide +kernel
theorem dTw_release_36 : decode (mC mTw_release) 36 = .ok (.iload_n 1, 1) := by decide +kernel
theorem dTw_release_37 : decode (mC mTw_release) 37 = .ok (.iconst (1), 1) := by decide +kernel
theorem dTw_release_38 : decode (mC mTw_release) 38 = .ok (.bastore, 1) := by decide +kernel
theorem dTw_release_39 : decode (mC mTw_release) 39 = .ok (.aload_n 0, 1) := by decide +kernel
theorem dTw_release_40 : decode (mC mTw_release) 40 = .ok (.getfield 32, 3) := by decide +kernel
theorem dTw_release_43 : decode (mC mTw_release) 43 = .ok (.aload_n 0, 1) := by decide +kernel
theorem dTw_release_44 : decode (mC mTw_release) 44 = .ok (.getfield 21, 3) := by decide +kernel
theorem dTw_release_47 : decode (mC mTw_release) 47 = .ok (.getfield 124, 3) := by decide +kernel
theorem dTw_release_50 : decode (mC mTw_release) 50 = .ok (.iload_n 1, 1) := by decide +kernel
theorem dTw_release_51 : decode (mC mTw_release) 51 = .ok (.iaload, 1) := by decide +kernel
theorem dTw_release_52 : decode (mC mTw_release) 52 = .ok (.dup2, 1) := by decide +kernel
theorem dTw_release_53 : decode (mC mTw_release) 53 = .ok (.iaload, 1) := by decide +kernel
theorem dTw_release_54 : decode (mC mTw_release) 54 = .ok (.aload_n 0, 1) := by decide +kernel
theorem dTw_release_55 : decode (mC mTw_release) 55 = .ok (.getfield 21, 3) := by decide +kernel
theorem dTw_release_58 : decode (mC mTw_release) 58 = .ok (.getfield 130, 3) := by decide +kernel
theorem dTw_release_61 : decode (mC mTw_release) 61 = .ok (.iload_n 1, 1) := by decide +kernel
theorem dTw_release_62 : decode (mC mTw_release) 62 = .ok (.iaload, 1) := by decide +kernel
theorem dTw_release_63 : decode (mC mTw_release) 63 = .ok (.isub, 1) := by decide +kernel
theorem dTw_release_64 : decode (mC mTw_release) 64 = .ok (.iastore, 1) := by decide +kernel
theorem dTw_release_65 : decode (mC mTw_release) 65 = .ok (.aload_n 0, 1) := by decide +kernel
theorem dTw_release_66 : decode (mC mTw_release) 66 = .ok (.getfield 32, 3) := by decide +kernel
theorem dTw_release_69 : decode (mC mTw_release) 69 = .ok (.aload_n 0, 1) := by decide +kernel
theorem dTw_release_70 : decode (mC mTw_release) 70 = .ok (.getfield 21, 3) := by decide +kernel
theorem dTw_release_73 : decode (mC mTw_release) 73 = .ok (.getfield 127, 3) := by decide +kernel
theorem dTw_release_76 : decode (mC mTw_release) 76 = .ok (.iload_n 1, 1) := by decide +kernel
theorem dTw_release_77 : decode (mC mTw_release) 77 = .ok (.iaload, 1) := by decide +kernel
theorem dTw_release_78 : decode (mC mTw_release) 78 = .ok (.dup2, 1) := by decide +kernel
theorem dTw_release_79 : decode (mC mTw_release) 79 = .ok (.iaload, 1) := by decide +kernel
theorem dTw_release_80 : decode (mC mTw_release) 80 = .ok (.aload_n 0, 1) := by decide +kernel
theorem dTw_release_81 : decode (mC mTw_release) 81 = .ok (.getfield 21, 3) := by decide +kernel
theorem dTw_release_84 : decode (mC mTw_release) 84 = .ok (.getfield 130, 3) := by decide +kernel
theorem dTw_release_87 : decode (mC mTw_release) 87 = .ok (.iload_n 1, 1) := by decide +kernel
theorem dTw_release_88 : decode (mC mTw_release) 88 = .ok (.iaload, 1) := by decide +kernel
theorem dTw_release_89 : decode (mC mTw_release) 89 = .ok (.iadd, 1) := by decide +kernel
theorem dTw_release_90 : decode (mC mTw_release) 90 = .ok (.iastore, 1) := by decide +kernel
theorem dTw_release_91 : decode (mC mTw_release) 91 = .ok (.iconst (1), 1) := by decide +kernel
theorem dTw_release_92 : decode (mC mTw_release) 92 = .ok (.ireturn, 1) := by decide +kernel
theorem bTw_release_0 {E : mEn} {d : Nat} {σ : mSt} {Q : mPost} {a1 : Int32} {t : Nat} (ht : isT t) : WP E (d + 1) mTw_release 0 [.ref t, .int a1] [] σ Q = WP E d mPr_stands 0 [.ref (t + 3), .int a1] [] σ (fun r σ' => WP E (d + 1) mTw_release 8 [.ref t, .int a1] (r.toList ++ []) σ' Q) := (w_aload_n dTw_release_0 rfl).trans ((w_getr (r := t + 3) dTw_release_1 rz8_21 (shT_0 ht) rfl).trans ((w_iload_n dTw_release_4 rfl).trans (w_virt (vs := [.int a1]) (st' := []) (es := [.ref (t + 3), .int a1]) dTw_release_5 rz8_137 rfl (shT_3 ht) rfl rfl rfl (Nat.le_of_ble_eq_true rfl) (Nat.le_of_ble_eq_true rfl) rfl)))
theorem bTw_release_8 {E : mEn} {d : Nat} {σ : mSt} {Q : mPost} {a1 : Int32} {s0 : Int32} {t : Nat} (ht : isT t) : WP E d mTw_release 8 [.ref t, .int a1] [.int s0] σ Q = (if s0 = 0 then WP E d mTw_release 27 [.ref t, .int a1] [] σ Q else WP E d mTw_release 11 [.ref t, .int a1] [] σ Q) := w_ifeq (t := 27) dTw_release_8 (by decide)
theorem bTw_release_11 {E : mEn} {d : Nat} {σ : mSt} {Q : mPost} {a1 : Int32} {t : Nat} (ht : isT t) : WP E (d + 1) mTw_release 11 [.ref t, .int a1] [] σ Q = (if mOut a1 40 = true then False else WP E d mTw_isBaked 0 [.ref t, .int (σ.1 (t + 5) a1.toNatClampNeg)] [] σ (fun r σ' => WP E (d + 1) mTw_release 24 [.ref t, .int a1] (r.toList ++ []) σ' Q)) := (w_aload_n dTw_release_11 rfl).trans ((w_aload_n dTw_release_12 rfl).trans ((w_getr (r := t + 3) dTw_release_13 rz8_21 (shT_0 ht) rfl).trans ((w_getr (r := t + 5) dTw_release_16 rz8_121 (shT_3 ht) rfl).trans ((w_iload_n dTw_release_19 rfl).trans ((w_iald dTw_release_20 (shT_5 ht) (ltT ht (by decide))).trans (ite_c (w_virt (vs := [.int (σ.1 (t + 5) a1.toNatClampNeg)]) (st' := []) (es := [.ref t, .int (σ.1 (t + 5) a1.toNatClampNeg)]) dTw_release_21 rz8_140 rfl (shT_0 ht) rfl rfl rfl (Nat.le_of_ble_eq_true rfl) (Nat.le_of_ble_eq_true rfl) rfl)))))))
theorem bTw_release_24 {E : mEn} {d : Nat} {σ : mSt} {Q : mPost} {a1 : Int32} {s0 : Int32} {t : Nat} (ht : isT t) : WP E d mTw_release 24 [.ref t, .int a1] [.int s0] σ Q = (if s0 = 0 then WP E d mTw_release 29 [.ref t, .int a1] [] σ Q else WP E d mTw_release 27 [.ref t, .int a1] [] σ Q) := w_ifeq (t := 29) dTw_release_24 (by decide)
theorem bTw_release_27 {E : mEn} {d : Nat} {σ : mSt} {Q : mPost} {a1 : Int32} {t : Nat} (ht : isT t) : WP E d mTw_release 27 [.ref t, .int a1] [] σ Q = Q (some (.int 0)) σ := (w_iconst (v := 0) dTw_release_27 rfl).trans (w_zret dTw_release_28 rfl (Or.inl rfl))
theorem bTw_release_29 {E : mEn} {d : Nat} {σ : mSt} {Q : mPost} {a1 : Int32} {t : Nat} (ht : isT t) : WP E d mTw_release 29 [.ref t, .int a1] [] σ Q = (if mOut a1 40 = true then False else (if mOut a1 40 = true then False else (if mOut ((sI σ (t + 9) a1.toNatClampNeg (vp_nar .boolean 1)).1 (t + 6) a1.toNatClampNeg) 8 = true then False else (if mOut a1 40 = true then False else (if mOut ((sI σ (t + 9) a1.toNatClampNeg (vp_nar .boolean 1)).1 (t + 6) a1.toNatClampNeg) 8 = true then False else WP E d mTw_release 65 [.ref t, .int a1] [] (sI (sI σ (t + 9) a1.toNatClampNeg (vp_nar .boolean 1)) (t + 15) ((sI σ (t + 9) a1.toNatClampNeg (vp_nar .boolean 1)).1 (t + 6) a1.toNatClampNeg).toNatClampNeg (((sI σ (t + 9) a1.toNatClampNeg (vp_nar .boolean 1)).1 (t + 15) ((sI σ (t + 9) a1.toNatClampNeg (vp_nar .boolean 1)).1 (t + 6) a1.toNatClampNeg).toNatClampNeg) - ((sI σ (t + 9) a1.toNatClampNeg (vp_nar .boolean 1)).1 (t + 8) a1.toNatClampNeg))) Q))))) := (w_aload_n dTw_release_29 rfl).trans ((w_getr (r := t + 3) dTw_release_30 rz8_21 (shT_0 ht) rfl).trans ((w_getr (r := t + 9) dTw_release_33 rz8_133 (shT_3 ht) rfl).trans ((w_iload_n dTw_release_36 rfl).trans ((w_iconst (v := 1) dTw_release_37 rfl).trans ((w_zast dTw_release_38 (shT_9 ht)).trans (ite_c ((w_aload_n dTw_release_39 rfl).trans ((w_getr (r := t + 15) dTw_release_40 rz8_32 (shT_0 ht) rfl).trans ((w_aload_n dTw_release_43 rfl).trans ((w_getr (r := t + 3) dTw_release_44 rz8_21 (shT_0 ht) rfl).trans ((w_getr (r := t + 6) dTw_release_47 rz8_124 (shT_3 ht) rfl).trans ((w_iload_n dTw_release_50 rfl).trans ((w_iald dTw_release_51 (shT_6 ht) (ltT ht (by decide))).trans (ite_c ((w_dup2 dTw_release_52 rfl rfl).trans ((w_iald dTw_release_53 (shT_15 ht) (ltT ht (by decide))).trans (ite_c ((w_aload_n dTw_release_54 rfl).trans ((w_getr (r := t + 3) dTw_release_55 rz8_21 (shT_0 ht) rfl).trans ((w_getr (r := t + 8) dTw_release_58 rz8_130 (shT_3 ht) rfl).trans ((w_iload_n dTw_release_61 rfl).trans ((w_iald dTw_release_62 (shT_8 ht) (ltT ht (by decide))).trans (ite_c ((w_isub dTw_release_63).trans ((w_iast dTw_release_64 (shT_15 ht)).trans (ite_c (rfl)))))))))))))))))))))))))))
theorem bTw_release_65 {E : mEn} {d : Nat} {σ : mSt} {Q : mPost} {a1 : Int32} {t : Nat} (ht : isT t) : WP E d mTw_release 65 [.ref t, .int a1] [] σ Q = (if mOut a1 40 = true then False else (if mOut (σ.1 (t + 7) a1.toNatClampNeg) 8 = true then False else (if mOut a1 40 = true then False else (if mOut (σ.1 (t + 7) a1.toNatClampNeg) 8 = true then False else WP E d mTw_release 91 [.ref t, .int a1] [] (sI σ (t + 15) (σ.1 (t + 7) a1.toNatClampNeg).toNatClampNeg ((σ.1 (t + 15) (σ.1 (t + 7) a1.toNatClampNeg).toNatClampNeg) + (σ.1 (t + 8) a1.toNatClampNeg))) Q)))) := (w_aload_n dTw_release_65 rfl).trans ((w_getr (r := t + 15) dTw_release_66 rz8_32 (shT_0 ht) rfl).trans ((w_aload_n dTw_release_69 rfl).trans ((w_getr (r := t + 3) dTw_release_70 rz8_21 (shT_0 ht) rfl).trans ((w_getr (r := t + 7) dTw_release_73 rz8_127 (shT_3 ht) rfl).trans ((w_iload_n dTw_release_76 rfl).trans ((w_iald dTw_release_77 (shT_7 ht) (ltT ht (by decide))).trans (ite_c ((w_dup2 dTw_release_78 rfl rfl).trans ((w_iald dTw_release_79 (shT_15 ht) (ltT ht (by decide))).trans (ite_c ((w_aload_n dTw_release_80 rfl).trans ((w_getr (r := t + 3) dTw_release_81 rz8_21 (shT_0 ht) rfl).trans ((w_getr (r := t + 8) dTw_release_84 rz8_130 (shT_3 ht) rfl).trans ((w_iload_n dTw_release_87 rfl).trans ((w_iald dTw_release_88 (shT_8 ht) (ltT ht (by decide))).trans (ite_c ((w_iadd dTw_release_89).trans ((w_iast dTw_release_90 (shT_15 ht)).trans (ite_c (rfl))))))))))))))))))))
theorem bTw_release_91 {E : mEn} {d : Nat} {σ : mSt} {Q : mPost} {a1 : Int32} {t : Nat} (ht : isT t) : WP E d mTw_release 91 [.ref t, .int a1] [] σ Q = Q (some (.int 1)) σ := (w_iconst (v := 1) dTw_release_91 rfl).trans (w_zret dTw_release_92 rfl (Or.inr rfl))
theorem dTw_canBake_0 : decode (mC mTw_canBake) 0 = .ok (.aload_n 0, 1) := by decide +kernel
theorem dTw_canBake_1 : decode (mC mTw_canBake) 1 = .ok (.iload_n 1, 1) := by decide +kernel
theorem dTw_canBake_2 : decode (mC mTw_canBake) 2 = .ok (.invokevirtual 113, 3) := by decide +kernel
theorem dTw_canBake_5 : decode (mC mTw_canBake) 5 = .ok (.ifCond .eq (36), 3) := by decide +kernel
theorem dTw_canBake_8 : decode (mC mTw_canBake) 8 = .ok (.aload_n 0, 1) := by decide +kernel
theorem dTw_canBake_9 : decode (mC mTw_canBake) 9 = .ok (.iload_n 1, 1) := by decide +kernel
theorem dTw_canBake_10 : decode (mC mTw_canBake) 10 = .ok (.invokevirtual 143, 3) := by decide +kernel
theorem dTw_canBake_13 : decode (mC mTw_canBake) 13 = .ok (.ifCond .ne (28), 3) := by decide +kernel
theorem dTw_canBake_16 : decode (mC mTw_canBake) 16 = .ok (.aload_n 0, 1) := by decide +kernel
theorem dTw_canBake_17 : decode (mC mTw_canBake) 17 = .ok (.iload_n 1, 1) := by decide +kernel
theorem dTw_canBake_18 : decode (mC mTw_canBake) 18 = .ok (.invokevirtual 140, 3) := by decide +kernel
theorem dTw_canBake_21 : decode (mC mTw_canBake) 21 = .ok (.ifCond .ne (20), 3) := by decide +kernel
theorem dTw_canBake_24 : decode (mC mTw_canBake) 24 = .ok (.aload_n 0, 1) := by decide +kernel
theorem dTw_canBake_25 : decode (mC mTw_canBake) 25 = .ok (.getfield 51, 3) := by decide +kernel
theorem dTw_canBake_28 : decode (mC mTw_canBake) 28 = .ok (.iload_n 1, 1) := by decide +kernel
theorem dTw_canBake_29 : decode (mC mTw_canBake) 29 = .ok (.iaload, 1) := by decide +kernel
theorem dTw_canBake_30 : decode (mC mTw_canBake) 30 = .ok (.aload_n 0, 1) := by decide +kernel
theorem dTw_canBake_31 : decode (mC mTw_canBake) 31 = .ok (.getfield 80, 3) := by decide +kernel
theorem dTw_canBake_34 : decode (mC mTw_canBake) 34 = .ok (.if_icmp .ne (7), 3) := by decide +kernel
theorem dTw_canBake_37 : decode (mC mTw_canBake) 37 = .ok (.iconst (1), 1) := by decide +kernel
theorem dTw_canBake_38 : decode (mC mTw_canBake) 38 = .ok (.goto (4), 3) := by decide +kernel
theorem dTw_canBake_41 : decode (mC mTw_canBake) 41 = .ok (.iconst (0), 1) := by decide +kernel
theorem dTw_canBake_42 : decode (mC mTw_canBake) 42 = .ok (.ireturn, 1) := by decide +kernel
theorem bTw_canBake_0 {E : mEn} {d : Nat} {σ : mSt} {Q : mPost} {a1 : Int32} {t : Nat} (ht : isT t) : WP E (d + 1) mTw_canBake 0 [.ref t, .int a1] [] σ Q = WP E d mTw_hasLoaf 0 [.ref t, .int a1] [] σ (fun r σ' => WP E (d + 1) mTw_canBake 5 [.ref t, .int a1] (r.toList ++ []) σ' Q) := (w_aload_n dTw_canBake_0 rfl).trans ((w_iload_n dTw_canBake_1 rfl).trans (w_virt (vs := [.int a1]) (st' := []) (es := [.ref t, .int a1]) dTw_canBake_2 rz8_113 rfl (shT_0 ht) rfl rfl rfl (Nat.le_of_ble_eq_true rfl) (Nat.le_of_ble_eq_true rfl) rfl))
theorem bTw_canBake_5 {E : mEn} {d : Nat} {σ : mSt} {Q : mPost} {a1 : Int32} {s0 : Int32} {t : Nat} (ht : isT t) : WP E d mTw_canBake 5 [.ref t, .int a1] [.int s0] σ Q = (if s0 = 0 then WP E d mTw_canBake 41 [.ref t, .int a1] [] σ Q else WP E d mTw_canBake 8 [.ref t, .int a1] [] σ Q) := w_ifeq (t := 41) dTw_canBake_5 (by decide)
theorem bTw_canBake_8 {E : mEn} {d : Nat} {σ : mSt} {Q : mPost} {a1 : Int32} {t : Nat} (ht : isT t) : WP E (d + 1) mTw_canBake 8 [.ref t, .int a1] [] σ Q = WP E d mTw_isPaper 0 [.ref t, .int a1] [] σ (fun r σ' => WP E (d + 1) mTw_canBake 13 [.ref t, .int a1] (r.toList ++ []) σ' Q) := (w_aload_n dTw_canBake_8 rfl).trans ((w_iload_n dTw_canBake_9 rfl).trans (w_virt (vs := [.int a1]) (st' := []) (es := [.ref t, .int a1]) dTw_canBake_10 rz8_143 rfl (shT_0 ht) rfl rfl rfl (Nat.le_of_ble_eq_true rfl) (Nat.le_of_ble_eq_true rfl) rfl))
theorem bTw_canBake_13 {E : mEn} {d : Nat} {σ : mSt} {Q : mPost} {a1 : Int32} {s0 : Int32} {t : Nat} (ht : isT t) : WP E d mTw_canBake 13 [.ref t, .int a1] [.int s0] σ Q = (if ¬ s0 = 0 then WP E d mTw_canBake 41 [.ref t, .int a1] [] σ Q else WP E d mTw_canBake 16 [.ref t, .int a1] [] σ Q) := w_ifne (t := 41) dTw_canBake_13 (by decide)
theorem bTw_canBake_16 {E : mEn} {d : Nat} {σ : mSt} {Q : mPost} {a1 : Int32} {t : Nat} (ht : isT t) : WP E (d + 1) mTw_canBake 16 [.ref t, .int a1] [] σ Q = WP E d mTw_isBaked 0 [.ref t, .int a1] [] σ (fun r σ' => WP E (d + 1) mTw_canBake 21 [.ref t, .int a1] (r.toList ++ []) σ' Q) := (w_aload_n dTw_canBake_16 rfl).trans ((w_iload_n dTw_canBake_17 rfl).trans (w_virt (vs := [.int a1]) (st' := []) (es := [.ref t, .int a1]) dTw_canBake_18 rz8_140 rfl (shT_0 ht) rfl rfl rfl (Nat.le_of_ble_eq_true rfl) (Nat.le_of_ble_eq_true rfl) rfl))
theorem bTw_canBake_21 {E : mEn} {d : Nat} {σ : mSt} {Q : mPost} {a1 : Int32} {s0 : Int32} {t : Nat} (ht : isT t) : WP E d mTw_canBake 21 [.ref t, .int a1] [.int s0] σ Q = (if ¬ s0 = 0 then WP E d mTw_canBake 41 [.ref t, .int a1] [] σ Q else WP E d mTw_canBake 24 [.ref t, .int a1] [] σ Q) := w_ifne (t := 41) dTw_canBake_21 (by decide)
theorem bTw_canBake_24 {E : mEn} {d : Nat} {σ : mSt} {Q : mPost} {a1 : Int32} {t : Nat} (ht : isT t) : WP E d mTw_canBake 24 [.ref t, .int a1] [] σ Q = (if mOut a1 8 = true then False else (if ¬ (σ.1 (t + 21) a1.toNatClampNeg) = (σ.1 t 16) then WP E d mTw_canBake 41 [.ref t, .int a1] [] σ Q else WP E d mTw_canBake 37 [.ref t, .int a1] [] σ Q)) := (w_aload_n dTw_canBake_24 rfl).trans ((w_getr (r := t + 21) dTw_canBake_25 rz8_51 (shT_0 ht) rfl).trans ((w_iload_n dTw_canBake_28 rfl).trans ((w_iald dTw_canBake_29 (shT_21 ht) (ltT ht (by decide))).trans (ite_c ((w_aload_n dTw_canBake_30 rfl).trans ((w_geti dTw_canBake_31 rz8_80 (shT_0 ht) rfl).trans (w_icmpne (t := 41) dTw_canBake_34 (by decide))))))))
theorem bTw_canBake_37 {E : mEn} {d : Nat} {σ : mSt} {Q : mPost} {a1 : Int32} {t : Nat} (ht : isT t) : WP E d mTw_canBake 37 [.ref t, .int a1] [] σ Q = WP E d mTw_canBake 42 [.ref t, .int a1] [.int 1] σ Q := (w_iconst (v := 1) dTw_canBake_37 rfl).trans (w_goto (t := 42) dTw_canBake_38 (by decide))
theorem bTw_canBake_41 {E : mEn} {d : Nat} {σ : mSt} {Q : mPost} {a1 : Int32} {t : Nat} (ht : isT t) : WP E d mTw_canBake 41 [.ref t, .int a1] [] σ Q = WP E d mTw_canBake 42 [.ref t, .int a1] [.int 0] σ Q := w_iconst (v := 0) dTw_canBake_41 rfl
theorem bTw_canBake_42 {E : mEn} {d : Nat} {σ : mSt} {Q : mPost} {a1 : Int32} {s0 : Int32} {t : Nat} (ht : isT t) (hz0 : s0 = 0 ∨ s0 = 1) : WP E d mTw_canBake 42 [.ref t, .int a1] [.int s0] σ Q = Q (some (.int s0)) σ := w_zret dTw_canBake_42 rfl hz0
theorem dTw_rainsOn_0 : decode (mC mTw_rainsOn) 0 = .ok (.aload_n 0, 1) := by decide +kernel
theorem dTw_rainsOn_1 : decode (mC mTw_rainsOn) 1 = .ok (.iload_n 1, 1) := by decide +kernel
theorem dTw_rainsOn_2 : decode (mC mTw_rainsOn) 2 = .ok (.invokevirtual 113, 3) := by decide +kernel
theorem dTw_rainsOn_5 : decode (mC mTw_rainsOn) 5 = .ok (.ifCond .eq (20), 3) := by decide +kernel
theorem dTw_rainsOn_8 : decode (mC mTw_rainsOn) 8 = .ok (.aload_n 0, 1) := by decide +kernel
theorem dTw_rainsOn_9 : decode (mC mTw_rainsOn) 9 = .ok (.aload_n 0, 1) := by decide +kernel
theorem dTw_rainsOn_10 : decode (mC mTw_rainsOn) 10 = .ok (.getfield 48, 3) := by decide +kernel
theorem dTw_rainsOn_13 : decode (mC mTw_rainsOn) 13 = .ok (.iload_n 1, 1) := by decide +kernel
theorem dTw_rainsOn_14 : decode (mC mTw_rainsOn) 14 = .ok (.iaload, 1) := by decide +kernel
theorem dTw_rainsOn_15 : decode (mC mTw_rainsOn) 15 = .ok (.invokevirtual 146, 3) := by decide +kernel
theorem dTw_rainsOn_18 : decode (mC mTw_rainsOn) 18 = .ok (.ifCond .eq (7), 3) := by decide +kernel
theorem dTw_rainsOn_21 : decode (mC mTw_rainsOn) 21 = .ok (.iconst (1), 1) := by decide +kernel
theorem dTw_rainsOn_22 : decode (mC mTw_rainsOn) 22 = .ok (.goto (4), 3) := by decide +kernel
theorem dTw_rainsOn_25 : decode (mC mTw_rainsOn) 25 = .ok (.iconst (0), 1) := by decide +kernel
theorem dTw_rainsOn_26 : decode (mC mTw_rainsOn) 26 = .ok (.ireturn, 1) := by decide +kernel
theorem bTw_rainsOn_0 {E : mEn} {d : Nat} {σ : mSt} {Q : mPost} {a1 : Int32} {t : Nat} (ht : isT t) : WP E (d + 1) mTw_rainsOn 0 [.ref t, .int a1] [] σ Q = WP E d mTw_hasLoaf 0 [.ref t, .int a1] [] σ (fun r σ' => WP E (d + 1) mTw_rainsOn 5 [.ref t, .int a1] (r.toList ++ []) σ' Q) := (w_aload_n dTw_rainsOn_0 rfl).trans ((w_iload_n dTw_rainsOn_1 rfl).trans (w_virt (vs := [.int a1]) (st' := []) (es := [.ref t, .int a1]) dTw_rainsOn_2 rz8_113 rfl (shT_0 ht) rfl rfl rfl (Nat.le_of_ble_eq_true rfl) (Nat.le_of_ble_eq_true rfl) rfl))
theorem bTw_rainsOn_5 {E : mEn} {d : Nat} {σ : mSt} {Q : mPost} {a1 : Int32} {s0 : Int32} {t : Nat} (ht : isT t) : WP E d mTw_rainsOn 5 [.ref t, .int a1] [.int s0] σ Q = (if s0 = 0 then WP E d mTw_rainsOn 25 [.ref t, .int a1] [] σ Q else WP E d mTw_rainsOn 8 [.ref t, .int a1] [] σ Q) := w_ifeq (t := 25) dTw_rainsOn_5 (by decide)
theorem bTw_rainsOn_8 {E : mEn} {d : Nat} {σ : mSt} {Q : mPost} {a1 : Int32} {t : Nat} (ht : isT t) : WP E (d + 1) mTw_rainsOn 8 [.ref t, .int a1] [] σ Q = (if mOut a1 8 = true then False else WP E d mTw_isWet 0 [.ref t, .int (σ.1 (t + 20) a1.toNatClampNeg)] [] σ (fun r σ' => WP E (d + 1) mTw_rainsOn 18 [.ref t, .int a1] (r.toList ++ []) σ' Q)) := (w_aload_n dTw_rainsOn_8 rfl).trans ((w_aload_n dTw_rainsOn_9 rfl).trans ((w_getr (r := t + 20) dTw_rainsOn_10 rz8_48 (shT_0 ht) rfl).trans ((w_iload_n dTw_rainsOn_13 rfl).trans ((w_iald dTw_rainsOn_14 (shT_20 ht) (ltT ht (by decide))).trans (ite_c (w_virt (vs := [.int (σ.1 (t + 20) a1.toNatClampNeg)]) (st' := []) (es := [.ref t, .int (σ.1 (t + 20) a1.toNatClampNeg)]) dTw_rainsOn_15 rz8_146 rfl (shT_0 ht) rfl rfl rfl (Nat.le_of_ble_eq_true rfl) (Nat.le_of_ble_eq_true rfl) rfl))))))
theorem bTw_rainsOn_18 {E : mEn} {d : Nat} {σ : mSt} {Q : mPost} {a1 : Int32} {s0 : Int32} {t : Nat} (ht : isT t) : WP E d mTw_rainsOn 18 [.ref t, .int a1] [.int s0] σ Q = (if s0 = 0 then WP E d mTw_rainsOn 25 [.ref t, .int a1] [] σ Q else WP E d mTw_rainsOn 21 [.ref t, .int a1] [] σ Q) := w_ifeq (t := 25) dTw_rainsOn_18 (by decide)
theorem bTw_rainsOn_21 {E : mEn} {d : Nat} {σ : mSt} {Q : mPost} {a1 : Int32} {t : Nat} (ht : isT t) : WP E d mTw_rainsOn 21 [.ref t, .int a1] [] σ Q = WP E d mTw_rainsOn 26 [.ref t, .int a1] [.int 1] σ Q := (w_iconst (v := 1) dTw_rainsOn_21 rfl).trans (w_goto (t := 26) dTw_rainsOn_22 (by decide))
theorem bTw_rainsOn_25 {E : mEn} {d : Nat} {σ : mSt} {Q : mPost} {a1 : Int32} {t : Nat} (ht : isT t) : WP E d mTw_rainsOn 25 [.ref t, .int a1] [] σ Q = WP E d mTw_rainsOn 26 [.ref t, .int a1] [.int 0] σ Q := w_iconst (v := 0) dTw_rainsOn_25 rfl
theorem bTw_rainsOn_26 {E : mEn} {d : Nat} {σ : mSt} {Q : mPost} {a1 : Int32} {s0 : Int32} {t : Nat} (ht : isT t) (hz0 : s0 = 0 ∨ s0 = 1) : WP E d mTw_rainsOn 26 [.ref t, .int a1] [.int s0] σ Q = Q (some (.int s0)) σ := w_zret dTw_rainsOn_26 rfl hz0
theorem dTw_isWet_0 : decode (mC mTw_isWet) 0 = .ok (.iload_n 1, 1) := by decide +kernel
theorem dTw_isWet_1 : decode (mC mTw_isWet) 1 = .ok (.ifCond .lt (24), 3) := by decide +kernel
theorem dTw_isWet_4 : decode (mC mTw_isWet) 4 = .ok (.iload_n 1, 1) := by decide +kernel
theorem dTw_isWet_5 : decode (mC mTw_isWet) 5 = .ok (.iconst (4), 1) := by decide +kernel
theorem dTw_isWet_6 : decode (mC mTw_isWet) 6 = .ok (.if_icmp .ge (19), 3) := by decide +kernel
theorem dTw_isWet_9 : decode (mC mTw_isWet) 9 = .ok (.aload_n 0, 1) := by decide +kernel
theorem dTw_isWet_10 : decode (mC mTw_isWet) 10 = .ok (.getfield 86, 3) := by decide +kernel
theorem dTw_isWet_13 : decode (mC mTw_isWet) 13 = .ok (.iload_n 1, 1) := by decide +kernel
theorem dTw_isWet_14 : decode (mC mTw_isWet) 14 = .ok (.ishr, 1) := by decide +kernel
theorem dTw_isWet_15 : decode (mC mTw_isWet) 15 = .ok (.iconst (1), 1) := by decide +kernel
theorem dTw_isWet_16 : decode (mC mTw_isWet) 16 = .ok (.iand, 1) := by decide +kernel
theorem dTw_isWet_17 : decode (mC mTw_isWet) 17 = .ok (.iconst (1), 1) := by decide +kernel
theorem dTw_isWet_18 : decode (mC mTw_isWet) 18 = .ok (.if_icmp .ne (7), 3) := by decide +kernel
theorem dTw_isWet_21 : decode (mC mTw_isWet) 21 = .ok (.iconst (1), 1) := by decide +kernel
theorem dTw_isWet_22 : decode (mC mTw_isWet) 22 = .ok (.goto (4), 3) := by decide +kernel
theorem dTw_isWet_25 : decode (mC mTw_isWet) 25 = .ok (.iconst (0), 1) := by decide +kernel
theorem dTw_isWet_26 : decode (mC mTw_isWet) 26 = .ok (.ireturn, 1) := by decide +kernel
theorem bTw_isWet_0 {E : mEn} {d : Nat} {σ : mSt} {Q : mPost} {a1 : Int32} {t : Nat} (ht : isT t) : WP E d mTw_isWet 0 [.ref t, .int a1] [] σ Q = (if a1 < 0 then WP E d mTw_isWet 25 [.ref t, .int a1] [] σ Q else WP E d mTw_isWet 4 [.ref t, .int a1] [] σ Q) := (w_iload_n dTw_isWet_0 rfl).trans (w_iflt (t := 25) dTw_isWet_1 (by decide))
theorem bTw_isWet_4 {E : mEn} {d : Nat} {σ : mSt} {Q : mPost} {a1 : Int32} {t : Nat} (ht : isT t) : WP E d mTw_isWet 4 [.ref t, .int a1] [] σ Q = (if (nI 4) ≤ a1 then WP E d mTw_isWet 25 [.ref t, .int a1] [] σ Q else WP E d mTw_isWet 9 [.ref t, .int a1] [] σ Q) := (w_iload_n dTw_isWet_4 rfl).trans ((w_iconst (v := (nI 4)) dTw_isWet_5 rfl).trans (w_icmpge (t := 25) dTw_isWet_6 (by decide)))
theorem bTw_isWet_9 {E : mEn} {d : Nat} {σ : mSt} {Q : mPost} {a1 : Int32} {t : Nat} (ht : isT t) : WP E d mTw_isWet 9 [.ref t, .int a1] [] σ Q = (if ¬ (((σ.1 t 18) >>> (a1 &&& 31)) &&& 1) = 1 then WP E d mTw_isWet 25 [.ref t, .int a1] [] σ Q else WP E d mTw_isWet 21 [.ref t, .int a1] [] σ Q) := (w_aload_n dTw_isWet_9 rfl).trans ((w_geti dTw_isWet_10 rz8_86 (shT_0 ht) rfl).trans ((w_iload_n dTw_isWet_13 rfl).trans ((w_ishr dTw_isWet_14).trans ((w_iconst (v := 1) dTw_isWet_15 rfl).trans ((w_iand dTw_isWet_16).trans ((w_iconst (v := 1) dTw_isWet_17 rfl).trans (w_icmpne (t := 25) dTw_isWet_18 (by decide))))))))
theorem bTw_isWet_21 {E : mEn} {d : Nat} {σ : mSt} {Q : mPost} {a1 : Int32} {t : Nat} (ht : isT t) : WP E d mTw_isWet 21 [.ref t, .int a1] [] σ Q = WP E d mTw_isWet 26 [.ref t, .int a1] [.int 1] σ Q := (w_iconst (v := 1) dTw_isWet_21 rfl).trans (w_goto (t := 26) dTw_isWet_22 (by decide))
theorem bTw_isWet_25 {E : mEn} {d : Nat} {σ : mSt} {Q : mPost} {a1 : Int32} {t : Nat} (ht : isT t) : WP E d mTw_isWet 25 [.ref t, .int a1] [] σ Q = WP E d mTw_isWet 26 [.ref t, .int a1] [.int 0] σ Q := w_iconst (v := 0) dTw_isWet_25 rfl
theorem bTw_isWet_26 {E : mEn} {d : Nat} {σ : mSt} {Q : mPost} {a1 : Int32} {s0 : Int32} {t : Nat} (ht : isT t) (hz0 : s0 = 0 ∨ s0 = 1) : WP E d mTw_isWet 26 [.ref t, .int a1] [.int s0] σ Q = Q (some (.int s0)) σ := w_zret dTw_isWet_26 rfl hz0
theorem dTw_bringOut_0 : decode (mC mTw_bringOut) 0 = .ok (.aload_n 0, 1) := by decide +kernel
theorem dTw_bringOut_1 : decode (mC mTw_bringOut) 1 = .ok (.iload_n 1, 1) := by decide +kernel
theorem dTw_bringOut_2 : decode (mC mTw_bringOut) 2 = .ok (.invokevirtual 113, 3) := by decide +kernel
theorem dTw_bringOut_5 : decode (mC mTw_bringOut) 5 = .ok (.ifCond .ne (5), 3) := by decide +kernel
theorem dTw_bringOut_8 : decode (mC mTw_bringOut) 8 = .ok (.iconst (-1), 1) := by decide +kernel
theorem dTw_bringOut_9 : decode (mC mTw_bringOut) 9 = .ok (.ireturn, 1) := by decide +kernel
theorem dTw_bringOut_10 : decode (mC mTw_bringOut) 10 = .ok (.iconst (0), 1) := by decide +kernel
theorem dTw_bringOut_11 : decode (mC mTw_bringOut) 11 = .ok (.istore_n 3, 1) := by decide +kernel
theorem dTw_bringOut_12 : decode (mC mTw_bringOut) 12 = .ok (.iload_n 3, 1) := by decide +kernel
theorem dTw_bringOut_13 : decode (mC mTw_bringOut) 13 = .ok (.aload_n 0, 1) := by decide +kernel
theorem dTw_bringOut_14 : decode (mC mTw_bringOut) 14 = .ok (.getfield 71, 3) := by decide +kernel
theorem dTw_bringOut_17 : decode (mC mTw_bringOut) 17 = .ok (.if_icmp .ge (39), 3) := by decide +kernel
theorem dTw_bringOut_20 : decode (mC mTw_bringOut) 20 = .ok (.aload_n 0, 1) := by decide +kernel
theorem dTw_bringOut_21 : decode (mC mTw_bringOut) 21 = .ok (.getfield 36, 3) := by decide +kernel
theorem dTw_bringOut_24 : decode (mC mTw_bringOut) 24 = .ok (.iload_n 3, 1) := by decide +kernel
theorem dTw_bringOut_25 : decode (mC mTw_bringOut) 25 = .ok (.dup2, 1) := by decide +kernel
theorem dTw_bringOut_26 : decode (mC mTw_bringOut) 26 = .ok (.iaload, 1) := by decide +kernel
theorem dTw_bringOut_27 : decode (mC mTw_bringOut) 27 = .ok (.aload_n 2, 1) := by decide +kernel
theorem dTw_bringOut_28 : decode (mC mTw_bringOut) 28 = .ok (.getfield 149, 3) := by decide +kernel
theorem dTw_bringOut_31 : decode (mC mTw_bringOut) 31 = .ok (.iload_n 3, 1) := by decide +kernel
theorem dTw_bringOut_32 : decode (mC mTw_bringOut) 32 = .ok (.iaload, 1) := by decide +kernel
theorem dTw_bringOut_33 : decode (mC mTw_bringOut) 33 = .ok (.iadd, 1) := by decide +kernel
theorem dTw_bringOut_34 : decode (mC mTw_bringOut) 34 = .ok (.iastore, 1) := by decide +kernel
theorem dTw_bringOut_35 : decode (mC mTw_bringOut) 35 = .ok (.aload_n 0, 1) := by decide +kernel
theorem dTw_bringOut_36 : decode (mC mTw_bringOut) 36 = .ok (.getfield 39, 3) := by decide +kernel
theorem dTw_bringOut_39 : decode (mC mTw_bringOut) 39 = .ok (.iload_n 3, 1) := by decide +kernel
theorem dTw_bringOut_40 : decode (mC mTw_bringOut) 40 = .ok (.dup2, 1) := by decide +kernel
theorem dTw_bringOut_41 : decode (mC mTw_bringOut) 41 = .ok (.iaload, 1) := by decide +kernel
theorem dTw_bringOut_42 : decode (mC mTw_bringOut) 42 = .ok (.aload_n 2, 1) := by decide +kernel
theorem dTw_bringOut_43 : decode (mC mTw_bringOut) 43 = .ok (.getfield 154, 3) := by decide +kernel
theorem dTw_bringOut_46 : decode (mC mTw_bringOut) 46 = .ok (.iload_n 3, 1) := by decide +kernel
theorem dTw_bringOut_47 : decode (mC mTw_bringOut) 47 = .ok (.iaload, 1) := by decide +kernel
theorem dTw_bringOut_48 : decode (mC mTw_bringOut) 48 = .ok (.iadd, 1) := by decide +kernel
theorem dTw_bringOut_49 : decode (mC mTw_bringOut) 49 = .ok (.iastore, 1) := by decide +kernel
theorem dTw_bringOut_50 : decode (mC mTw_bringOut) 50 = .ok (.iinc 3 (1), 3) := by decide +kernel
theorem dTw_bringOut_53 : decode (mC mTw_bringOut) 53 = .ok (.goto (-41), 3) := by decide +kernel
theorem dTw_bringOut_56 : decode (mC mTw_bringOut) 56 = .ok (.aload_n 0, 1) := by decide +kernel
theorem dTw_bringOut_57 : decode (mC mTw_bringOut) 57 = .ok (.getfield 60, 3) := by decide +kernel
theorem dTw_bringOut_60 : decode (mC mTw_bringOut) 60 = .ok (.iload_n 1, 1) := by decide +kernel
theorem dTw_bringOut_61 : decode (mC mTw_bringOut) 61 = .ok (.aload_n 0, 1) := by decide +kernel
theorem dTw_bringOut_62 : decode (mC mTw_bringOut) 62 = .ok (.iload_n 1, 1) := by decide +kernel
theorem dTw_bringOut_63 : decode (mC mTw_bringOut) 63 = .ok (.aload_n 0, 1) := by decide +kernel
theorem dTw_bringOut_64 : decode (mC mTw_bringOut) 64 = .ok (.iload_n 1, 1) := by decide +kernel
theorem dTw_bringOut_65 : decode (mC mTw_bringOut) 65 = .ok (.invokevirtual 157, 3) := by decide +kernel
theorem dTw_bringOut_68 : decode (mC mTw_bringOut) 68 = .ok (.invokevirtual 160, 3) := by decide +kernel
theorem dTw_bringOut_71 : decode (mC mTw_bringOut) 71 = .ok (.iastore, 1) := by decide +kernel
theorem dTw_bringOut_72 : decode (mC mTw_bringOut) 72 = .ok (.aload_n 0, 1) := by decide +kernel
theorem dTw_bringOut_73 : decode (mC mTw_bringOut) 73 = .ok (.dup, 1) := by decide +kernel
theorem dTw_bringOut_74 : decode (mC mTw_bringOut) 74 = .ok (.getfield 83, 3) := by decide +kernel
theorem dTw_bringOut_77 : decode (mC mTw_bringOut) 77 = .ok (.iconst (1), 1) := by decide +kernel
theorem dTw_bringOut_78 : decode (mC mTw_bringOut) 78 = .ok (.iload_n 1, 1) := by decide +kernel
theorem dTw_bringOut_79 : decode (mC mTw_bringOut) 79 = .ok (.ishl, 1) := by decide +kernel
theorem dTw_bringOut_80 : decode (mC mTw_bringOut) 80 = .ok (.ior, 1) := by decide +kernel
theorem dTw_bringOut_81 : decode (mC mTw_bringOut) 81 = .ok (.putfield 83, 3) := by decide +kernel
theorem dTw_bringOut_84 : decode (mC mTw_bringOut) 84 = .ok (.aload_n 0, 1) := by decide +kernel
theorem dTw_bringOut_85 : decode (mC mTw_bringOut) 85 = .ok (.getfield 60, 3) := by decide +kernel
theorem dTw_bringOut_88 : decode (mC mTw_bringOut) 88 = .ok (.iload_n 1, 1) := by decide +kernel
theorem dTw_bringOut_89 : decode (mC mTw_bringOut) 89 = .ok (.iaload, 1) := by decide +kernel
theorem dTw_bringOut_90 : decode (mC mTw_bringOut) 90 = .ok (.ireturn, 1) := by decide +kernel
theorem bTw_bringOut_0 {E : mEn} {d : Nat} {σ : mSt} {Q : mPost} {a1 : Int32} {u3 : Value} {h : Nat} (hh : isH h) {t : Nat} (ht : isT t) : WP E (d + 1) mTw_bringOut 0 [.ref t, .int a1, .ref h, u3] [] σ Q = WP E d mTw_hasLoaf 0 [.ref t, .int a1] [] σ (fun r σ' => WP E (d + 1) mTw_bringOut 5 [.ref t, .int a1, .ref h, u3] (r.toList ++ []) σ' Q) := (w_aload_n dTw_bringOut_0 rfl).trans ((w_iload_n dTw_bringOut_1 rfl).trans (w_virt (vs := [.int a1]) (st' := []) (es := [.ref t, .int a1]) dTw_bringOut_2 rz8_113 rfl (shT_0 ht) rfl rfl rfl (Nat.le_of_ble_eq_true rfl) (Nat.le_of_ble_eq_true rfl) rfl))
theorem bTw_bringOut_5 {E : mEn} {d : Nat} {σ : mSt} {Q : mPost} {a1 : Int32} {u3 : Value} {s0 : Int32} {h : Nat} (hh : isH h) {t : Nat} (ht : isT t) : WP E d mTw_bringOut 5 [.ref t, .int a1, .ref h, u3] [.int s0] σ Q = (if ¬ s0 = 0 then WP E d mTw_bringOut 10 [.ref t, .int a1, .ref h, u3] [] σ Q else WP E d mTw_bringOut 8 [.ref t, .int a1, .ref h, u3] [] σ Q) := w_ifne (t := 10) dTw_bringOut_5 (by decide)
theorem bTw_bringOut_8 {E : mEn} {d : Nat} {σ : mSt} {Q : mPost} {a1 : Int32} {u3 : Value} {h : Nat} (hh : isH h) {t : Nat} (ht : isT t) : WP E d mTw_bringOut 8 [.ref t, .int a1, .ref h, u3] [] σ Q = Q (some (.int (-1))) σ := (w_iconst (v := (-1)) dTw_bringOut_8 rfl).trans (w_iret dTw_bringOut_9 rfl)
theorem bTw_bringOut_10 {E : mEn} {d : Nat} {σ : mSt} {Q : mPost} {a1 : Int32} {u3 : Value} {h : Nat} (hh : isH h) {t : Nat} (ht : isT t) : WP E d mTw_bringOut 10 [.ref t, .int a1, .ref h, u3] [] σ Q = WP E d mTw_bringOut 12 [.ref t, .int a1, .ref h, .int 0] [] σ Q := (w_iconst (v := 0) dTw_bringOut_10 rfl).trans (w_istore_n (ls' := [.ref t, .int a1, .ref h, .int 0]) dTw_bringOut_11 (Nat.le_of_ble_eq_true rfl) rfl)
theorem bTw_bringOut_12 {E : mEn} {d : Nat} {σ : mSt} {Q : mPost} {a1 : Int32} {a3 : Int32} {h : Nat} (hh : isH h) {t : Nat} (ht : isT t) : WP E d mTw_bringOut 12 [.ref t, .int a1, .ref h, .int a3] [] σ Q = (if (σ.1 t 13) ≤ a3 then WP E d mTw_bringOut 56 [.ref t, .int a1, .ref h, .int a3] [] σ Q else WP E d mTw_bringOut 20 [.ref t, .int a1, .ref h, .int a3] [] σ Q) := (w_iload_n dTw_bringOut_12 rfl).trans ((w_aload_n dTw_bringOut_13 rfl).trans ((w_geti dTw_bringOut_14 rz8_71 (shT_0 ht) rfl).trans (w_icmpge (t := 56) dTw_bringOut_17 (by decide))))
theorem bTw_bringOut_20 {E : mEn} {d : Nat} {σ : mSt} {Q : mPost} {a1 : Int32} {a3 : Int32} {h : Nat} (hh : isH h) {t : Nat} (ht : isT t) : WP E d mTw_bringOut 20 [.ref t, .int a1, .ref h, .int a3] [] σ Q = (if mOut a3 8 = true then False else (if mOut a3 8 = true then False else (if mOut a3 8 = true then False else (if mOut a3 8 = true then False else (if mOut a3 8 = true then False else (if mOut a3 8 = true then False else WP E d mTw_bringOut 50 [.ref t, .int a1, .ref h, .int a3] [] (sI (sI σ (t + 16) a3.toNatClampNeg ((σ.1 (t + 16) a3.toNatClampNeg) + (σ.1 (h + 4) a3.toNatClampNeg))) (t + 17) a3.toNatClampNeg (((sI σ (t + 16) a3.toNatClampNeg ((σ.1 (t + 16) a3.toNatClampNeg) + (σ.1 (h + 4) a3.toNatClampNeg))).1 (t + 17) a3.toNatClampNeg) + ((sI σ (t + 16) a3.toNatClampNeg ((σ.1 (t + 16) a3.toNatClampNeg) + (σ.1 (h + 4) a3.toNatClampNeg))).1 (h + 5) a3.toNatClampNeg))) Q)))))) := (w_aload_n dTw_bringOut_20 rfl).trans ((w_getr (r := t + 16) dTw_bringOut_21 rz8_36 (shT_0 ht) rfl).trans ((w_iload_n dTw_bringOut_24 rfl).trans ((w_dup2 dTw_bringOut_25 rfl rfl).trans ((w_iald dTw_bringOut_26 (shT_16 ht) (ltT ht (by decide))).trans (ite_c ((w_aload_n dTw_bringOut_27 rfl).trans ((w_getr (r := h + 4) dTw_bringOut_28 rz8_149 (shH_0 hh) rfl).trans ((w_iload_n dTw_bringOut_31 rfl).trans ((w_iald dTw_bringOut_32 (shH_4 hh) (ltH hh (by decide))).trans (ite_c ((w_iadd dTw_bringOut_33).trans ((w_iast dTw_bringOut_34 (shT_16 ht)).trans (ite_c ((w_aload_n dTw_bringOut_35 rfl).trans ((w_getr (r := t + 17) dTw_bringOut_36 rz8_39 (shT_0 ht) rfl).trans ((w_iload_n dTw_bringOut_39 rfl).trans ((w_dup2 dTw_bringOut_40 rfl rfl).trans ((w_iald dTw_bringOut_41 (shT_17 ht) (ltT ht (by decide))).trans (ite_c ((w_aload_n dTw_bringOut_42 rfl).trans ((w_getr (r := h + 5) dTw_bringOut_43 rz8_154 (shH_0 hh) rfl).trans ((w_iload_n dTw_bringOut_46 rfl).trans ((w_iald dTw_bringOut_47 (shH_5 hh) (ltH hh (by decide))).trans (ite_c ((w_iadd dTw_bringOut_48).trans ((w_iast dTw_bringOut_49 (shT_17 ht)).trans (ite_c (rfl))))))))))))))))))))))))))))
theorem bTw_bringOut_50 {E : mEn} {d : Nat} {σ : mSt} {Q : mPost} {a1 : Int32} {a3 : Int32} {h : Nat} (hh : isH h) {t : Nat} (ht : isT t) : WP E d mTw_bringOut 50 [.ref t, .int a1, .ref h, .int a3] [] σ Q = WP E d mTw_bringOut 12 [.ref t, .int a1, .ref h, .int (a3 + 1)] [] σ Q := (w_iinc (v := 1) (ls' := [.ref t, .int a1, .ref h, .int (a3 + 1)]) dTw_bringOut_50 rfl rfl rfl).trans (w_goto (t := 12) dTw_bringOut_53 (by decide))
theorem bTw_bringOut_56 {E : mEn} {d : Nat} {σ : mSt} {Q : mPost} {a1 : Int32} {a3 : Int32} {h : Nat} (hh : isH h) {t : Nat} (ht : isT t) : WP E (d + 1) mTw_bringOut 56 [.ref t, .int a1, .ref h, .int a3] [] σ Q = WP E d mTw_rainsOn 0 [.ref t, .int a1] [] σ (fun r σ' => WP E (d + 1) mTw_bringOut 68 [.ref t, .int a1, .ref h, .int a3] (r.toList ++ [.int a1, .ref t, .int a1, .ref (t + 24)]) σ' Q) := (w_aload_n dTw_bringOut_56 rfl).trans ((w_getr (r := t + 24) dTw_bringOut_57 rz8_60 (shT_0 ht) rfl).trans ((w_iload_n dTw_bringOut_60 rfl).trans ((w_aload_n dTw_bringOut_61 rfl).trans ((w_iload_n dTw_bringOut_62 rfl).trans ((w_aload_n dTw_bringOut_63 rfl).trans ((w_iload_n dTw_bringOut_64 rfl).trans (w_virt (vs := [.int a1]) (st' := [.int a1, .ref t, .int a1, .ref (t + 24)]) (es := [.ref t, .int a1]) dTw_bringOut_65 rz8_157 rfl (shT_0 ht) rfl rfl rfl (Nat.le_of_ble_eq_true rfl) (Nat.le_of_ble_eq_true rfl) rfl)))))))
theorem bTw_bringOut_68 {E : mEn} {d : Nat} {σ : mSt} {Q : mPost} {a1 : Int32} {a3 : Int32} {s0 : Int32} {s1 : Int32} {s3 : Int32} {h : Nat} (hh : isH h) {t : Nat} (ht : isT t) : WP E (d + 1) mTw_bringOut 68 [.ref t, .int a1, .ref h, .int a3] [.int s0, .int s1, .ref t, .int s3, .ref (t + 24)] σ Q = WP E d mTw_comesOf 0 [.ref t, .int s1, .int s0] [] σ (fun r σ' => WP E (d + 1) mTw_bringOut 71 [.ref t, .int a1, .ref h, .int a3] (r.toList ++ [.int s3, .ref (t + 24)]) σ' Q) := w_virt (vs := [.int s1, .int s0]) (st' := [.int s3, .ref (t + 24)]) (es := [.ref t, .int s1, .int s0]) dTw_bringOut_68 rz8_160 rfl (shT_0 ht) rfl rfl rfl (Nat.le_of_ble_eq_true rfl) (Nat.le_of_ble_eq_true rfl) rfl
theorem bTw_bringOut_71 {E : mEn} {d : Nat} {σ : mSt} {Q : mPost} {a1 : Int32} {a3 : Int32} {s0 : Int32} {s1 : Int32} {h : Nat} (hh : isH h) {t : Nat} (ht : isT t) : WP E d mTw_bringOut 71 [.ref t, .int a1, .ref h, .int a3] [.int s0, .int s1, .ref (t + 24)] σ Q = (if mOut s1 8 = true then False else (if mOut a1 8 = true then False else Q (some (.int ((sI (sI σ (t + 24) s1.toNatClampNeg s0) t 17 (((sI σ (t + 24) s1.toNatClampNeg s0).1 t 17) ||| (1 <<< (a1 &&& 31)))).1 (t + 24) a1.toNatClampNeg))) (sI (sI σ (t + 24) s1.toNatClampNeg s0) t 17 (((sI σ (t + 24) s1.toNatClampNeg s0).1 t 17) ||| (1 <<< (a1 &&& 31)))))) := (w_iast dTw_bringOut_71 (shT_24 ht)).trans (ite_c ((w_aload_n dTw_bringOut_72 rfl).trans ((w_dup dTw_bringOut_73 rfl).trans ((w_geti dTw_bringOut_74 rz8_83 (shT_0 ht) rfl).trans ((w_iconst (v := 1) dTw_bringOut_77 rfl).trans ((w_iload_n dTw_bringOut_78 rfl).trans ((w_ishl dTw_bringOut_79).trans ((w_ior dTw_bringOut_80).trans ((w_puti dTw_bringOut_81 rz8_83 (shT_0 ht) rfl rfl rfl).trans ((w_aload_n dTw_bringOut_84 rfl).trans ((w_getr (r := t + 24) dTw_bringOut_85 rz8_60 (shT_0 ht) rfl).trans ((w_iload_n dTw_bringOut_88 rfl).trans ((w_iald dTw_bringOut_89 (shT_24 ht) (ltT ht (by decide))).trans (ite_c (w_iret dTw_bringOut_90 rfl)))))))))))))))
theorem dTw_feast_0 : decode (mC mTw_feast) 0 = .ok (.aload_n 0, 1) := by decide +kernel
theorem dTw_feast_1 : decode (mC mTw_feast) 1 = .ok (.iload_n 1, 1) := by decide +kernel
theorem dTw_feast_2 : decode (mC mTw_feast) 2 = .ok (.invokevirtual 109, 3) := by decide +kernel
theorem dTw_feast_5 : decode (mC mTw_feast) 5 = .ok (.ifCond .ne (5), 3) := by decide +kernel
theorem dTw_feast_8 : decode (mC mTw_feast) 8 = .ok (.iconst (0), 1) := by decide +kernel
theorem dTw_feast_9 : decode (mC mTw_feast) 9 = .ok (.ireturn, 1) := by decide +kernel
theorem dTw_feast_10 : decode (mC mTw_feast) 10 = .ok (.iload_n 2, 1) := by decide +kernel
theorem dTw_feast_11 : decode (mC mTw_feast) 11 = .ok (.aload_n 0, 1) := by decide +kernel
theorem dTw_feast_12 : decode (mC mTw_feast) 12 = .ok (.getfield 36, 3) := by decide +kernel
theorem dTw_feast_15 : decode (mC mTw_feast) 15 = .ok (.iload_n 1, 1) := by decide +kernel
theorem dTw_feast_16 : decode (mC mTw_feast) 16 = .ok (.iaload, 1) := by decide +kernel
theorem dTw_feast_17 : decode (mC mTw_feast) 17 = .ok (.invokestatic 164, 3) := by decide +kernel
theorem dTw_feast_20 : decode (mC mTw_feast) 20 = .ok (.istore_n 3, 1) := by decide +kernel
theorem dTw_feast_21 : decode (mC mTw_feast) 21 = .ok (.aload_n 0, 1) := by decide +kernel
theorem dTw_feast_22 : decode (mC mTw_feast) 22 = .ok (.getfield 36, 3) := by decide +kernel
theorem dTw_feast_25 : decode (mC mTw_feast) 25 = .ok (.iload_n 1, 1) := by decide +kernel
theorem dTw_feast_26 : decode (mC mTw_feast) 26 = .ok (.dup2, 1) := by decide +kernel
theorem dTw_feast_27 : decode (mC mTw_feast) 27 = .ok (.iaload, 1) := by decide +kernel
theorem dTw_feast_28 : decode (mC mTw_feast) 28 = .ok (.iload_n 3, 1) := by decide +kernel
theorem dTw_feast_29 : decode (mC mTw_feast) 29 = .ok (.isub, 1) := by decide +kernel
theorem dTw_feast_30 : decode (mC mTw_feast) 30 = .ok (.iastore, 1) := by decide +kernel
theorem dTw_feast_31 : decode (mC mTw_feast) 31 = .ok (.iload_n 3, 1) := by decide +kernel
theorem dTw_feast_32 : decode (mC mTw_feast) 32 = .ok (.ireturn, 1) := by decide +kernel
theorem bTw_feast_0 {E : mEn} {d : Nat} {σ : mSt} {Q : mPost} {a1 : Int32} {a2 : Int32} {u3 : Value} {t : Nat} (ht : isT t) : WP E (d + 1) mTw_feast 0 [.ref t, .int a1, .int a2, u3] [] σ Q = WP E d mTw_hasPerson 0 [.ref t, .int a1] [] σ (fun r σ' => WP E (d + 1) mTw_feast 5 [.ref t, .int a1, .int a2, u3] (r.toList ++ []) σ' Q) := (w_aload_n dTw_feast_0 rfl).trans ((w_iload_n dTw_feast_1 rfl).trans (w_virt (vs := [.int a1]) (st' := []) (es := [.ref t, .int a1]) dTw_feast_2 rz8_109 rfl (shT_0 ht) rfl rfl rfl (Nat.le_of_ble_eq_true rfl) (Nat.le_of_ble_eq_true rfl) rfl))
theorem bTw_feast_5 {E : mEn} {d : Nat} {σ : mSt} {Q : mPost} {a1 : Int32} {a2 : Int32} {u3 : Value} {s0 : Int32} {t : Nat} (ht : isT t) : WP E d mTw_feast 5 [.ref t, .int a1, .int a2, u3] [.int s0] σ Q = (if ¬ s0 = 0 then WP E d mTw_feast 10 [.ref t, .int a1, .int a2, u3] [] σ Q else WP E d mTw_feast 8 [.ref t, .int a1, .int a2, u3] [] σ Q) := w_ifne (t := 10) dTw_feast_5 (by decide)
theorem bTw_feast_8 {E : mEn} {d : Nat} {σ : mSt} {Q : mPost} {a1 : Int32} {a2 : Int32} {u3 : Value} {t : Nat} (ht : isT t) : WP E d mTw_feast 8 [.ref t, .int a1, .int a2, u3] [] σ Q = Q (some (.int 0)) σ := (w_iconst (v := 0) dTw_feast_8 rfl).trans (w_iret dTw_feast_9 rfl)
theorem bTw_feast_10 {E : mEn} {d : Nat} {σ : mSt} {Q : mPost} {a1 : Int32} {a2 : Int32} {u3 : Value} {t : Nat} (ht : isT t) : WP E d mTw_feast 10 [.ref t, .int a1, .int a2, u3] [] σ Q = (if mOut a1 8 = true then False else (if mOut a1 8 = true then False else (if mOut a1 8 = true then False else WP E d mTw_feast 31 [.ref t, .int a1, .int a2, .int (if (σ.1 (t + 16) a1.toNatClampNeg) < a2 then (σ.1 (t + 16) a1.toNatClampNeg) else a2)] [] (sI σ (t + 16) a1.toNatClampNeg ((σ.1 (t + 16) a1.toNatClampNeg) - (if (σ.1 (t + 16) a1.toNatClampNeg) < a2 then (σ.1 (t + 16) a1.toNatClampNeg) else a2))) Q))) := (w_iload_n dTw_feast_10 rfl).trans ((w_aload_n dTw_feast_11 rfl).trans ((w_getr (r := t + 16) dTw_feast_12 rz8_36 (shT_0 ht) rfl).trans ((w_iload_n dTw_feast_15 rfl).trans ((w_iald dTw_feast_16 (shT_16 ht) (ltT ht (by decide))).trans (ite_c ((w_min dTw_feast_17 rz8_164 (Nat.le_of_ble_eq_true rfl)).trans ((w_istore_n (ls' := [.ref t, .int a1, .int a2, .int (if (σ.1 (t + 16) a1.toNatClampNeg) < a2 then (σ.1 (t + 16) a1.toNatClampNeg) else a2)]) dTw_feast_20 (Nat.le_of_ble_eq_true rfl) rfl).trans ((w_aload_n dTw_feast_21 rfl).trans ((w_getr (r := t + 16) dTw_feast_22 rz8_36 (shT_0 ht) rfl).trans ((w_iload_n dTw_feast_25 rfl).trans ((w_dup2 dTw_feast_26 rfl rfl).trans ((w_iald dTw_feast_27 (shT_16 ht) (ltT ht (by decide))).trans (ite_c ((w_iload_n dTw_feast_28 rfl).trans ((w_isub dTw_feast_29).trans ((w_iast dTw_feast_30 (shT_16 ht)).trans (ite_c (rfl))))))))))))))))))
theorem bTw_feast_31 {E : mEn} {d : Nat} {σ : mSt} {Q : mPost} {a1 : Int32} {a2 : Int32} {a3 : Int32} {t : Nat} (ht : isT t) : WP E d mTw_feast 31 [.ref t, .int a1, .int a2, .int a3] [] σ Q = Q (some (.int a3)) σ := (w_iload_n dTw_feast_31 rfl).trans (w_iret dTw_feast_32 rfl)
theorem dTw_handMoney_0 : decode (mC mTw_handMoney) 0 = .ok (.aload_n 0, 1) := by decide +kernel
theorem dTw_handMoney_1 : decode (mC mTw_handMoney) 1 = .ok (.iload_n 1, 1) := by decide +kernel
theorem dTw_handMoney_2 : decode (mC mTw_handMoney) 2 = .ok (.invokevirtual 109, 3) := by decide +kernel
theorem dTw_handMoney_5 : decode (mC mTw_handMoney) 5 = .ok (.ifCond .eq (26), 3) := by decide +kernel
theorem dTw_handMoney_8 : decode (mC mTw_handMoney) 8 = .ok (.aload_n 0, 1) := by decide +kernel
theorem dTw_handMoney_9 : decode (mC mTw_handMoney) 9 = .ok (.iload_n 2, 1) := by decide +kernel
theorem dTw_handMoney_10 : decode (mC mTw_handMoney) 10 = .ok (.invokevirtual 109, 3) := by decide +kernel
theorem dTw_handMoney_13 : decode (mC mTw_handMoney) 13 = .ok (.ifCond .eq (18), 3) := by decide +kernel
theorem dTw_handMoney_16 : decode (mC mTw_handMoney) 16 = .ok (.iload_n 1, 1) := by decide +kernel
theorem dTw_handMoney_17 : decode (mC mTw_handMoney) 17 = .ok (.iload_n 2, 1) := by decide +kernel
theorem dTw_handMoney_18 : decode (mC mTw_handMoney) 18 = .ok (.if_icmp .eq (13), 3) := by decide +kernel
theorem dTw_handMoney_21 : decode (mC mTw_handMoney) 21 = .ok (.aload_n 0, 1) := by decide +kernel
theorem dTw_handMoney_22 : decode (mC mTw_handMoney) 22 = .ok (.getfield 32, 3) := by decide +kernel
theorem dTw_handMoney_25 : decode (mC mTw_handMoney) 25 = .ok (.iload_n 1, 1) := by decide +kernel
theorem dTw_handMoney_26 : decode (mC mTw_handMoney) 26 = .ok (.iaload, 1) := by decide +kernel
theorem dTw_handMoney_27 : decode (mC mTw_handMoney) 27 = .ok (.iload_n 3, 1) := by decide +kernel
theorem dTw_handMoney_28 : decode (mC mTw_handMoney) 28 = .ok (.if_icmp .ge (5), 3) := by decide +kernel
theorem dTw_handMoney_31 : decode (mC mTw_handMoney) 31 = .ok (.iconst (0), 1) := by decide +kernel
theorem dTw_handMoney_32 : decode (mC mTw_handMoney) 32 = .ok (.ireturn, 1) := by decide +kernel
theorem dTw_handMoney_33 : decode (mC mTw_handMoney) 33 = .ok (.aload_n 0, 1) := by decide +kernel
theorem dTw_handMoney_34 : decode (mC mTw_handMoney) 34 = .ok (.getfield 32, 3) := by decide +kernel
theorem dTw_handMoney_37 : decode (mC mTw_handMoney) 37 = .ok (.iload_n 1, 1) := by decide +kernel
theorem dTw_handMoney_38 : decode (mC mTw_handMoney) 38 = .ok (.dup2, 1) := by decide +kernel
theorem dTw_handMoney_39 : decode (mC mTw_handMoney) 39 = .ok (.iaload, 1) := by decide +kernel
theorem dTw_handMoney_40 : decode (mC mTw_handMoney) 40 = .ok (.iload_n 3, 1) := by decide +kernel
theorem dTw_handMoney_41 : decode (mC mTw_handMoney) 41 = .ok (.isub, 1) := by decide +kernel
theorem dTw_handMoney_42 : decode (mC mTw_handMoney) 42 = .ok (.iastore, 1) := by decide +kernel
theorem dTw_handMoney_43 : decode (mC mTw_handMoney) 43 = .ok (.aload_n 0, 1) := by decide +kernel
theorem dTw_handMoney_44 : decode (mC mTw_handMoney) 44 = .ok (.getfield 32, 3) := by decide +kernel
theorem dTw_handMoney_47 : decode (mC mTw_handMoney) 47 = .ok (.iload_n 2, 1) := by decide +kernel
theorem dTw_handMoney_48 : decode (mC mTw_handMoney) 48 = .ok (.dup2, 1) := by decide +kernel
theorem dTw_handMoney_49 : decode (mC mTw_handMoney) 49 = .ok (.iaload, 1) := by decide +kernel
theorem dTw_handMoney_50 : decode (mC mTw_handMoney) 50 = .ok (.iload_n 3, 1) := by decide +kernel
theorem dTw_handMoney_51 : decode (mC mTw_handMoney) 51 = .ok (.iadd, 1) := by decide +kernel
theorem dTw_handMoney_52 : decode (mC mTw_handMoney) 52 = .ok (.iastore, 1) := by decide +kernel
theorem dTw_handMoney_53 : decode (mC mTw_handMoney) 53 = .ok (.iconst (1), 1) := by decide +kernel
theorem dTw_handMoney_54 : decode (mC mTw_handMoney) 54 = .ok (.ireturn, 1) := by decide +kernel
theorem bTw_handMoney_0 {E : mEn} {d : Nat} {σ : mSt} {Q : mPost} {a1 : Int32} {a2 : Int32} {a3 : Int32} {t : Nat} (ht : isT t) : WP E (d + 1) mTw_handMoney 0 [.ref t, .int a1, .int a2, .int a3] [] σ Q = WP E d mTw_hasPerson 0 [.ref t, .int a1] [] σ (fun r σ' => WP E (d + 1) mTw_handMoney 5 [.ref t, .int a1, .int a2, .int a3] (r.toList ++ []) σ' Q) := (w_aload_n dTw_handMoney_0 rfl).trans ((w_iload_n dTw_handMoney_1 rfl).trans (w_virt (vs := [.int a1]) (st' := []) (es := [.ref t, .int a1]) dTw_handMoney_2 rz8_109 rfl (shT_0 ht) rfl rfl rfl (Nat.le_of_ble_eq_true rfl) (Nat.le_of_ble_eq_true rfl) rfl))
theorem bTw_handMoney_5 {E : mEn} {d : Nat} {σ : mSt} {Q : mPost} {a1 : Int32} {a2 : Int32} {a3 : Int32} {s0 : Int32} {t : Nat} (ht : isT t) : WP E d mTw_handMoney 5 [.ref t, .int a1, .int a2, .int a3] [.int s0] σ Q = (if s0 = 0 then WP E d mTw_handMoney 31 [.ref t, .int a1, .int a2, .int a3] [] σ Q else WP E d mTw_handMoney 8 [.ref t, .int a1, .int a2, .int a3] [] σ Q) := w_ifeq (t := 31) dTw_handMoney_5 (by decide)
theorem bTw_handMoney_8 {E : mEn} {d : Nat} {σ : mSt} {Q : mPost} {a1 : Int32} {a2 : Int32} {a3 : Int32} {t : Nat} (ht : isT t) : WP E (d + 1) mTw_handMoney 8 [.ref t, .int a1, .int a2, .int a3] [] σ Q = WP E d mTw_hasPerson 0 [.ref t, .int a2] [] σ (fun r σ' => WP E (d + 1) mTw_handMoney 13 [.ref t, .int a1, .int a2, .int a3] (r.toList ++ []) σ' Q) := (w_aload_n dTw_handMoney_8 rfl).trans ((w_iload_n dTw_handMoney_9 rfl).trans (w_virt (vs := [.int a2]) (st' := []) (es := [.ref t, .int a2]) dTw_handMoney_10 rz8_109 rfl (shT_0 ht) rfl rfl rfl (Nat.le_of_ble_eq_true rfl) (Nat.le_of_ble_eq_true rfl) rfl))
theorem bTw_handMoney_13 {E : mEn} {d : Nat} {σ : mSt} {Q : mPost} {a1 : Int32} {a2 : Int32} {a3 : Int32} {s0 : Int32} {t : Nat} (ht : isT t) : WP E d mTw_handMoney 13 [.ref t, .int a1, .int a2, .int a3] [.int s0] σ Q = (if s0 = 0 then WP E d mTw_handMoney 31 [.ref t, .int a1, .int a2, .int a3] [] σ Q else WP E d mTw_handMoney 16 [.ref t, .int a1, .int a2, .int a3] [] σ Q) := w_ifeq (t := 31) dTw_handMoney_13 (by decide)
theorem bTw_handMoney_16 {E : mEn} {d : Nat} {σ : mSt} {Q : mPost} {a1 : Int32} {a2 : Int32} {a3 : Int32} {t : Nat} (ht : isT t) : WP E d mTw_handMoney 16 [.ref t, .int a1, .int a2, .int a3] [] σ Q = (if a1 = a2 then WP E d mTw_handMoney 31 [.ref t, .int a1, .int a2, .int a3] [] σ Q else WP E d mTw_handMoney 21 [.ref t, .int a1, .int a2, .int a3] [] σ Q) := (w_iload_n dTw_handMoney_16 rfl).trans ((w_iload_n dTw_handMoney_17 rfl).trans (w_icmpeq (t := 31) dTw_handMoney_18 (by decide)))
theorem bTw_handMoney_21 {E : mEn} {d : Nat} {σ : mSt} {Q : mPost} {a1 : Int32} {a2 : Int32} {a3 : Int32} {t : Nat} (ht : isT t) : WP E d mTw_handMoney 21 [.ref t, .int a1, .int a2, .int a3] [] σ Q = (if mOut a1 8 = true then False else (if a3 ≤ (σ.1 (t + 15) a1.toNatClampNeg) then WP E d mTw_handMoney 33 [.ref t, .int a1, .int a2, .int a3] [] σ Q else WP E d mTw_handMoney 31 [.ref t, .int a1, .int a2, .int a3] [] σ Q)) := (w_aload_n dTw_handMoney_21 rfl).trans ((w_getr (r := t + 15) dTw_handMoney_22 rz8_32 (shT_0 ht) rfl).trans ((w_iload_n dTw_handMoney_25 rfl).trans ((w_iald dTw_handMoney_26 (shT_15 ht) (ltT ht (by decide))).trans (ite_c ((w_iload_n dTw_handMoney_27 rfl).trans (w_icmpge (t := 33) dTw_handMoney_28 (by decide)))))))
theorem bTw_handMoney_31 {E : mEn} {d : Nat} {σ : mSt} {Q : mPost} {a1 : Int32} {a2 : Int32} {a3 : Int32} {t : Nat} (ht : isT t) : WP E d mTw_handMoney 31 [.ref t, .int a1, .int a2, .int a3] [] σ Q = Q (some (.int 0)) σ := (w_iconst (v := 0) dTw_handMoney_31 rfl).trans (w_zret dTw_handMoney_32 rfl (Or.inl rfl))
theorem bTw_handMoney_33 {E : mEn} {d : Nat} {σ : mSt} {Q : mPost} {a1 : Int32} {a2 : Int32} {a3 : Int32} {t : Nat} (ht : isT t) : WP E d mTw_handMoney 33 [.ref t, .int a1, .int a2, .int a3] [] σ Q = (if mOut a1 8 = true then False else (if mOut a1 8 = true then False else (if mOut a2 8 = true then False else (if mOut a2 8 = true then False else WP E d mTw_handMoney 53 [.ref t, .int a1, .int a2, .int a3] [] (sI (sI σ (t + 15) a1.toNatClampNeg ((σ.1 (t + 15) a1.toNatClampNeg) - a3)) (t + 15) a2.toNatClampNeg (((sI σ (t + 15) a1.toNatClampNeg ((σ.1 (t + 15) a1.toNatClampNeg) - a3)).1 (t + 15) a2.toNatClampNeg) + a3)) Q)))) := (w_aload_n dTw_handMoney_33 rfl).trans ((w_getr (r := t + 15) dTw_handMoney_34 rz8_32 (shT_0 ht) rfl).trans ((w_iload_n dTw_handMoney_37 rfl).trans ((w_dup2 dTw_handMoney_38 rfl rfl).trans ((w_iald dTw_handMoney_39 (shT_15 ht) (ltT ht (by decide))).trans (ite_c ((w_iload_n dTw_handMoney_40 rfl).trans ((w_isub dTw_handMoney_41).trans ((w_iast dTw_handMoney_42 (shT_15 ht)).trans (ite_c ((w_aload_n dTw_handMoney_43 rfl).trans ((w_getr (r := t + 15) dTw_handMoney_44 rz8_32 (shT_0 ht) rfl).trans ((w_iload_n dTw_handMoney_47 rfl).trans ((w_dup2 dTw_handMoney_48 rfl rfl).trans ((w_iald dTw_handMoney_49 (shT_15 ht) (ltT ht (by decide))).trans (ite_c ((w_iload_n dTw_handMoney_50 rfl).trans ((w_iadd dTw_handMoney_51).trans ((w_iast dTw_handMoney_52 (shT_15 ht)).trans (ite_c (rfl))))))))))))))))))))
theorem bTw_handMoney_53 {E : mEn} {d : Nat} {σ : mSt} {Q : mPost} {a1 : Int32} {a2 : Int32} {a3 : Int32} {t : Nat} (ht : isT t) : WP E d mTw_handMoney 53 [.ref t, .int a1, .int a2, .int a3] [] σ Q = Q (some (.int 1)) σ := (w_iconst (v := 1) dTw_handMoney_53 rfl).trans (w_zret dTw_handMoney_54 rfl (Or.inr rfl))
