theorem dDa_clear_0 : decode (mC mDa_clear) 0 = .ok (.aload_n 0, 1) := by decide +kernel
theorem dDa_clear_1 : decode (mC mDa_clear) 1 = .ok (.iconst (0), 1) := by decide +kernel
theorem dDa_clear_2 : decode (mC mDa_clear) 2 = .ok (.putfield 18, 3) := by decide +kernel
theorem dDa_clear_5 : decode (mC mDa_clear) 5 = .ok (.aload_n 0, 1) := by decide +kernel
theorem dDa_clear_6 : decode (mC mDa_clear) 6 = .ok (.iconst (0), 1) := by decide +kernel
theorem dDa_clear_7 : decode (mC mDa_clear) 7 = .ok (.putfield 22, 3) := by decide +kernel
theorem dDa_clear_10 : decode (mC mDa_clear) 10 = .ok (.aload_n 0, 1) := by decide +kernel
theorem dDa_clear_11 : decode (mC mDa_clear) 11 = .ok (.iconst (0), 1) := by decide +kernel
theorem dDa_clear_12 : decode (mC mDa_clear) 12 = .ok (.putfield 25, 3) := by decide +kernel
theorem dDa_clear_15 : decode (mC mDa_clear) 15 = .ok (.aload_n 0, 1) := by decide +kernel
theorem dDa_clear_16 : decode (mC mDa_clear) 16 = .ok (.iconst (0), 1) := by decide +kernel
theorem dDa_clear_17 : decode (mC mDa_clear) 17 = .ok (.putfield 28, 3) := by decide +kernel
theorem dDa_clear_20 : decode (mC mDa_clear) 20 = .ok (.return_, 1) := by decide +kernel
theorem bDa_clear_0 {E : mEn} {d : Nat} {σ : mSt} {Q : mPost} {t : Nat} (ht : isT t) : WP E d mDa_clear 0 [.ref (t + 12)] [] σ Q = Q none (sI (sI (sI (sI σ (t + 12) 2 0) (t + 12) 3 0) (t + 12) 4 0) (t + 12) 5 0) := (w_aload_n dDa_clear_0 rfl).trans ((w_iconst (v := 0) dDa_clear_1 rfl).trans ((w_puti dDa_clear_2 rz0_18 (shT_12 ht) rfl rfl rfl).trans ((w_aload_n dDa_clear_5 rfl).trans ((w_iconst (v := 0) dDa_clear_6 rfl).trans ((w_puti dDa_clear_7 rz0_22 (shT_12 ht) rfl rfl rfl).trans ((w_aload_n dDa_clear_10 rfl).trans ((w_iconst (v := 0) dDa_clear_11 rfl).trans ((w_puti dDa_clear_12 rz0_25 (shT_12 ht) rfl rfl rfl).trans ((w_aload_n dDa_clear_15 rfl).trans ((w_iconst (v := 0) dDa_clear_16 rfl).trans ((w_putz dDa_clear_17 rz0_28 (shT_12 ht) rfl rfl rfl (Or.inl rfl)).trans (w_vret dDa_clear_20 rfl))))))))))))
theorem dDa_copyOf_0 : decode (mC mDa_copyOf) 0 = .ok (.aload_n 1, 1) := by decide +kernel
theorem dDa_copyOf_1 : decode (mC mDa_copyOf) 1 = .ok (.getfield 11, 3) := by decide +kernel
theorem dDa_copyOf_4 : decode (mC mDa_copyOf) 4 = .ok (.iconst (0), 1) := by decide +kernel
theorem dDa_copyOf_5 : decode (mC mDa_copyOf) 5 = .ok (.aload_n 0, 1) := by decide +kernel
theorem dDa_copyOf_6 : decode (mC mDa_copyOf) 6 = .ok (.getfield 11, 3) := by decide +kernel
theorem dDa_copyOf_9 : decode (mC mDa_copyOf) 9 = .ok (.iconst (0), 1) := by decide +kernel
theorem dDa_copyOf_10 : decode (mC mDa_copyOf) 10 = .ok (.aload_n 0, 1) := by decide +kernel
theorem dDa_copyOf_11 : decode (mC mDa_copyOf) 11 = .ok (.getfield 11, 3) := by decide +kernel
theorem dDa_copyOf_14 : decode (mC mDa_copyOf) 14 = .ok (.arraylength, 1) := by decide +kernel
theorem dDa_copyOf_15 : decode (mC mDa_copyOf) 15 = .ok (.invokestatic 32, 3) := by decide +kernel
theorem dDa_copyOf_18 : decode (mC mDa_copyOf) 18 = .ok (.aload_n 0, 1) := by decide +kernel
theorem dDa_copyOf_19 : decode (mC mDa_copyOf) 19 = .ok (.aload_n 1, 1) := by decide +kernel
theorem dDa_copyOf_20 : decode (mC mDa_copyOf) 20 = .ok (.getfield 18, 3) := by decide +kernel
theorem dDa_copyOf_23 : decode (mC mDa_copyOf) 23 = .ok (.putfield 18, 3) := by decide +kernel
theorem dDa_copyOf_26 : decode (mC mDa_copyOf) 26 = .ok (.aload_n 0, 1) := by decide +kernel
theorem dDa_copyOf_27 : decode (mC mDa_copyOf) 27 = .ok (.aload_n 1, 1) := by decide +kernel
theorem dDa_copyOf_28 : decode (mC mDa_copyOf) 28 = .ok (.getfield 22, 3) := by decide +kernel
theorem dDa_copyOf_31 : decode (mC mDa_copyOf) 31 = .ok (.putfield 22, 3) := by decide +kernel
theorem dDa_copyOf_34 : decode (mC mDa_copyOf) 34 = .ok (.aload_n 0, 1) := by decide +kernel
theorem dDa_copyOf_35 : decode (mC mDa_copyOf) 35 = .ok (.aload_n 1, 1) := by decide +kernel
theorem dDa_copyOf_36 : decode (mC mDa_copyOf) 36 = .ok (.getfield 25, 3) := by decide +kernel
theorem dDa_copyOf_39 : decode (mC mDa_copyOf) 39 = .ok (.putfield 25, 3) := by decide +kernel
theorem dDa_copyOf_42 : decode (mC mDa_copyOf) 42 = .ok (.aload_n 0, 1) := by decide +kernel
theorem dDa_copyOf_43 : decode (mC mDa_copyOf) 43 = .ok (.aload_n 1, 1) := by decide +kernel
theorem dDa_copyOf_44 : decode (mC mDa_copyOf) 44 = .ok (.getfield 28, 3) := by decide +kernel
theorem dDa_copyOf_47 : decode (mC mDa_copyOf) 47 = .ok (.putfield 28, 3) := by decide +kernel
theorem dDa_copyOf_50 : decode (mC mDa_copyOf) 50 = .ok (.return_, 1) := by decide +kernel
theorem bDa_copyOf_0 {E : mEn} {d : Nat} {σ : mSt} {Q : mPost} {t : Nat} (ht : isT t) {t2 : Nat} (ht2 : isT t2) (hc0 : cpOk 0 0 (nI 420) 420 420 = true) : WP E d mDa_copyOf 0 [.ref (t + 12), .ref (t2 + 12)] [] σ Q = WP E d mDa_copyOf 34 [.ref (t + 12), .ref (t2 + 12)] [] (sI (sI (cpI σ (t2 + 13) (t + 13) 0 0 420) (t + 12) 2 ((cpI σ (t2 + 13) (t + 13) 0 0 420).1 (t2 + 12) 2)) (t + 12) 3 ((sI (cpI σ (t2 + 13) (t + 13) 0 0 420) (t + 12) 2 ((cpI σ (t2 + 13) (t + 13) 0 0 420).1 (t2 + 12) 2)).1 (t2 + 12) 3)) Q := (w_aload_n dDa_copyOf_0 rfl).trans ((w_getr (r := t2 + 13) dDa_copyOf_1 rz0_11 (shT_12 ht2) rfl).trans ((w_iconst (v := 0) dDa_copyOf_4 rfl).trans ((w_aload_n dDa_copyOf_5 rfl).trans ((w_getr (r := t + 13) dDa_copyOf_6 rz0_11 (shT_12 ht) rfl).trans ((w_iconst (v := 0) dDa_copyOf_9 rfl).trans ((w_aload_n dDa_copyOf_10 rfl).trans ((w_getr (r := t + 13) dDa_copyOf_11 rz0_11 (shT_12 ht) rfl).trans ((w_len dDa_copyOf_14 (aLen_of (shT_13 ht) (ltT ht (by decide)) (by decide))).trans ((w_cpi dDa_copyOf_15 rz0_32 (shT_13 ht2) (shT_13 ht) hc0 (Nat.le_of_ble_eq_true rfl)).trans ((w_aload_n dDa_copyOf_18 rfl).trans ((w_aload_n dDa_copyOf_19 rfl).trans ((w_geti dDa_copyOf_20 rz0_18 (shT_12 ht2) rfl).trans ((w_puti dDa_copyOf_23 rz0_18 (shT_12 ht) rfl rfl rfl).trans ((w_aload_n dDa_copyOf_26 rfl).trans ((w_aload_n dDa_copyOf_27 rfl).trans ((w_geti dDa_copyOf_28 rz0_22 (shT_12 ht2) rfl).trans (w_puti dDa_copyOf_31 rz0_22 (shT_12 ht) rfl rfl rfl)))))))))))))))))
theorem bDa_copyOf_34 {E : mEn} {d : Nat} {σ : mSt} {Q : mPost} {t : Nat} (ht : isT t) {t2 : Nat} (ht2 : isT t2) (hz0 : ((sI σ (t + 12) 4 (σ.1 (t2 + 12) 4)).1 (t2 + 12) 5) = 0 ∨ ((sI σ (t + 12) 4 (σ.1 (t2 + 12) 4)).1 (t2 + 12) 5) = 1) : WP E d mDa_copyOf 34 [.ref (t + 12), .ref (t2 + 12)] [] σ Q = Q none (sI (sI σ (t + 12) 4 (σ.1 (t2 + 12) 4)) (t + 12) 5 ((sI σ (t + 12) 4 (σ.1 (t2 + 12) 4)).1 (t2 + 12) 5)) := (w_aload_n dDa_copyOf_34 rfl).trans ((w_aload_n dDa_copyOf_35 rfl).trans ((w_geti dDa_copyOf_36 rz0_25 (shT_12 ht2) rfl).trans ((w_puti dDa_copyOf_39 rz0_25 (shT_12 ht) rfl rfl rfl).trans ((w_aload_n dDa_copyOf_42 rfl).trans ((w_aload_n dDa_copyOf_43 rfl).trans ((w_geti dDa_copyOf_44 rz0_28 (shT_12 ht2) rfl).trans ((w_putz dDa_copyOf_47 rz0_28 (shT_12 ht) rfl rfl rfl hz0).trans (w_vret dDa_copyOf_50 rfl))))))))
theorem dDa_close_0 : decode (mC mDa_close) 0 = .ok (.aload_n 0, 1) := by decide +kernel
theorem dDa_close_1 : decode (mC mDa_close) 1 = .ok (.getfield 18, 3) := by decide +kernel
theorem dDa_close_4 : decode (mC mDa_close) 4 = .ok (.iconst (1), 1) := by decide +kernel
theorem dDa_close_5 : decode (mC mDa_close) 5 = .ok (.if_icmp .lt (20), 3) := by decide +kernel
theorem dDa_close_8 : decode (mC mDa_close) 8 = .ok (.aload_n 0, 1) := by decide +kernel
theorem dDa_close_9 : decode (mC mDa_close) 9 = .ok (.getfield 18, 3) := by decide +kernel
theorem dDa_close_12 : decode (mC mDa_close) 12 = .ok (.iconst (3), 1) := by decide +kernel
theorem dDa_close_13 : decode (mC mDa_close) 13 = .ok (.if_icmp .gt (12), 3) := by decide +kernel
theorem dDa_close_16 : decode (mC mDa_close) 16 = .ok (.aload_n 0, 1) := by decide +kernel
theorem dDa_close_17 : decode (mC mDa_close) 17 = .ok (.getfield 22, 3) := by decide +kernel
theorem dDa_close_20 : decode (mC mDa_close) 20 = .ok (.bipush (60), 2) := by decide +kernel
theorem dDa_close_22 : decode (mC mDa_close) 22 = .ok (.if_icmp .lt (4), 3) := by decide +kernel
theorem dDa_close_25 : decode (mC mDa_close) 25 = .ok (.return_, 1) := by decide +kernel
theorem dDa_close_26 : decode (mC mDa_close) 26 = .ok (.aload_n 0, 1) := by decide +kernel
theorem dDa_close_27 : decode (mC mDa_close) 27 = .ok (.dup, 1) := by decide +kernel
theorem dDa_close_28 : decode (mC mDa_close) 28 = .ok (.getfield 18, 3) := by decide +kernel
theorem dDa_close_31 : decode (mC mDa_close) 31 = .ok (.iconst (1), 1) := by decide +kernel
theorem dDa_close_32 : decode (mC mDa_close) 32 = .ok (.isub, 1) := by decide +kernel
theorem dDa_close_33 : decode (mC mDa_close) 33 = .ok (.putfield 18, 3) := by decide +kernel
theorem dDa_close_36 : decode (mC mDa_close) 36 = .ok (.aload_n 0, 1) := by decide +kernel
theorem dDa_close_37 : decode (mC mDa_close) 37 = .ok (.getfield 15, 3) := by decide +kernel
theorem dDa_close_40 : decode (mC mDa_close) 40 = .ok (.aload_n 0, 1) := by decide +kernel
theorem dDa_close_41 : decode (mC mDa_close) 41 = .ok (.getfield 18, 3) := by decide +kernel
theorem dDa_close_44 : decode (mC mDa_close) 44 = .ok (.iaload, 1) := by decide +kernel
theorem dDa_close_45 : decode (mC mDa_close) 45 = .ok (.istore_n 2, 1) := by decide +kernel
theorem dDa_close_46 : decode (mC mDa_close) 46 = .ok (.iload_n 2, 1) := by decide +kernel
theorem dDa_close_47 : decode (mC mDa_close) 47 = .ok (.ifCond .lt (11), 3) := by decide +kernel
theorem dDa_close_50 : decode (mC mDa_close) 50 = .ok (.iload_n 2, 1) := by decide +kernel
theorem dDa_close_51 : decode (mC mDa_close) 51 = .ok (.aload_n 0, 1) := by decide +kernel
theorem dDa_close_52 : decode (mC mDa_close) 52 = .ok (.getfield 22, 3) := by decide +kernel
theorem dDa_close_55 : decode (mC mDa_close) 55 = .ok (.if_icmp .lt (4), 3) := by decide +kernel
theorem dDa_close_58 : decode (mC mDa_close) 58 = .ok (.return_, 1) := by decide +kernel
theorem dDa_close_59 : decode (mC mDa_close) 59 = .ok (.aload_n 0, 1) := by decide +kernel
theorem dDa_close_60 : decode (mC mDa_close) 60 = .ok (.bipush (26), 2) := by decide +kernel
theorem dDa_close_62 : decode (mC mDa_close) 62 = .ok (.aload_n 1, 1) := by decide +kernel
theorem dDa_close_63 : decode (mC mDa_close) 63 = .ok (.invokevirtual 40, 3) := by decide +kernel
theorem dDa_close_66 : decode (mC mDa_close) 66 = .ok (.aload_n 0, 1) := by decide +kernel
theorem dDa_close_67 : decode (mC mDa_close) 67 = .ok (.getfield 11, 3) := by decide +kernel
theorem dDa_close_70 : decode (mC mDa_close) 70 = .ok (.aload_n 0, 1) := by decide +kernel
theorem dDa_close_71 : decode (mC mDa_close) 71 = .ok (.getfield 22, 3) := by decide +kernel
theorem dDa_close_74 : decode (mC mDa_close) 74 = .ok (.iconst (1), 1) := by decide +kernel
theorem dDa_close_75 : decode (mC mDa_close) 75 = .ok (.isub, 1) := by decide +kernel
theorem dDa_close_76 : decode (mC mDa_close) 76 = .ok (.bipush (7), 2) := by decide +kernel
theorem dDa_close_78 : decode (mC mDa_close) 78 = .ok (.imul, 1) := by decide +kernel
theorem dDa_close_79 : decode (mC mDa_close) 79 = .ok (.bipush (6), 2) := by decide +kernel
theorem dDa_close_81 : decode (mC mDa_close) 81 = .ok (.iadd, 1) := by decide +kernel
theorem dDa_close_82 : decode (mC mDa_close) 82 = .ok (.iload_n 2, 1) := by decide +kernel
theorem dDa_close_83 : decode (mC mDa_close) 83 = .ok (.iastore, 1) := by decide +kernel
theorem dDa_close_84 : decode (mC mDa_close) 84 = .ok (.aload_n 0, 1) := by decide +kernel
theorem dDa_close_85 : decode (mC mDa_close) 85 = .ok (.getfield 11, 3) := by decide +kernel
theorem dDa_close_88 : decode (mC mDa_close) 88 = .ok (.iload_n 2, 1) := by decide +kernel
theorem dDa_close_89 : decode (mC mDa_close) 89 = .ok (.bipush (7), 2) := by decide +kernel
theorem dDa_close_91 : decode (mC mDa_close) 91 = .ok (.imul, 1) := by decide +kernel
theorem dDa_close_92 : decode (mC mDa_close) 92 = .ok (.bipush (6), 2) := by decide +kernel
theorem dDa_close_94 : decode (mC mDa_close) 94 = .ok (.iadd, 1) := by decide +kernel
theorem dDa_close_95 : decode (mC mDa_close) 95 = .ok (.aload_n 0, 1) := by decide +kernel
theorem dDa_close_96 : decode (mC mDa_close) 96 = .ok (.getfield 22, 3) := by decide +kernel
theorem dDa_close_99 : decode (mC mDa_close) 99 = .ok (.iconst (1), 1) := by decide +kernel
theorem dDa_close_100 : decode (mC mDa_close) 100 = .ok (.isub, 1) := by decide +kernel
theorem dDa_close_101 : decode (mC mDa_close) 101 = .ok (.iastore, 1) := by decide +kernel
theorem dDa_close_102 : decode (mC mDa_close) 102 = .ok (.return_, 1) := by decide +kernel
theorem bDa_close_0 {E : mEn} {d : Nat} {σ : mSt} {Q : mPost} {u2 : Value} {t : Nat} (ht : isT t) : WP E d mDa_close 0 [.ref (t + 12), .ref 9, u2] [] σ Q = (if (σ.1 (t + 12) 2) < 1 then WP E d mDa_close 25 [.ref (t + 12), .ref 9, u2] [] σ Q else WP E d mDa_close 8 [.ref (t + 12), .ref 9, u2] [] σ Q) := (w_aload_n dDa_close_0 rfl).trans ((w_geti dDa_close_1 rz0_18 (shT_12 ht) rfl).trans ((w_iconst (v := 1) dDa_close_4 rfl).trans (w_icmplt (t := 25) dDa_close_5 (by decide))))
theorem bDa_close_8 {E : mEn} {d : Nat} {σ : mSt} {Q : mPost} {u2 : Value} {t : Nat} (ht : isT t) : WP E d mDa_close 8 [.ref (t + 12), .ref 9, u2] [] σ Q = (if (nI 3) < (σ.1 (t + 12) 2) then WP E d mDa_close 25 [.ref (t + 12), .ref 9, u2] [] σ Q else WP E d mDa_close 16 [.ref (t + 12), .ref 9, u2] [] σ Q) := (w_aload_n dDa_close_8 rfl).trans ((w_geti dDa_close_9 rz0_18 (shT_12 ht) rfl).trans ((w_iconst (v := (nI 3)) dDa_close_12 rfl).trans (w_icmpgt (t := 25) dDa_close_13 (by decide))))
theorem bDa_close_16 {E : mEn} {d : Nat} {σ : mSt} {Q : mPost} {u2 : Value} {t : Nat} (ht : isT t) : WP E d mDa_close 16 [.ref (t + 12), .ref 9, u2] [] σ Q = (if (σ.1 (t + 12) 3) < (nI 60) then WP E d mDa_close 26 [.ref (t + 12), .ref 9, u2] [] σ Q else WP E d mDa_close 25 [.ref (t + 12), .ref 9, u2] [] σ Q) := (w_aload_n dDa_close_16 rfl).trans ((w_geti dDa_close_17 rz0_22 (shT_12 ht) rfl).trans ((w_bipush (v := (nI 60)) dDa_close_20 rfl).trans (w_icmplt (t := 26) dDa_close_22 (by decide))))
theorem bDa_close_25 {E : mEn} {d : Nat} {σ : mSt} {Q : mPost} {u2 : Value} {t : Nat} (ht : isT t) : WP E d mDa_close 25 [.ref (t + 12), .ref 9, u2] [] σ Q = Q none σ := w_vret dDa_close_25 rfl
theorem bDa_close_26 {E : mEn} {d : Nat} {σ : mSt} {Q : mPost} {u2 : Value} {t : Nat} (ht : isT t) : WP E d mDa_close 26 [.ref (t + 12), .ref 9, u2] [] σ Q = (if mOut ((sI σ (t + 12) 2 ((σ.1 (t + 12) 2) - 1)).1 (t + 12) 2) 3 = true then False else (if ((sI σ (t + 12) 2 ((σ.1 (t + 12) 2) - 1)).1 (t + 14) ((sI σ (t + 12) 2 ((σ.1 (t + 12) 2) - 1)).1 (t + 12) 2).toNatClampNeg) < 0 then WP E d mDa_close 58 [.ref (t + 12), .ref 9, .int ((sI σ (t + 12) 2 ((σ.1 (t + 12) 2) - 1)).1 (t + 14) ((sI σ (t + 12) 2 ((σ.1 (t + 12) 2) - 1)).1 (t + 12) 2).toNatClampNeg)] [] (sI σ (t + 12) 2 ((σ.1 (t + 12) 2) - 1)) Q else WP E d mDa_close 50 [.ref (t + 12), .ref 9, .int ((sI σ (t + 12) 2 ((σ.1 (t + 12) 2) - 1)).1 (t + 14) ((sI σ (t + 12) 2 ((σ.1 (t + 12) 2) - 1)).1 (t + 12) 2).toNatClampNeg)] [] (sI σ (t + 12) 2 ((σ.1 (t + 12) 2) - 1)) Q)) := (w_aload_n dDa_close_26 rfl).trans ((w_dup dDa_close_27 rfl).trans ((w_geti dDa_close_28 rz0_18 (shT_12 ht) rfl).trans ((w_iconst (v := 1) dDa_close_31 rfl).trans ((w_isub dDa_close_32).trans ((w_puti dDa_close_33 rz0_18 (shT_12 ht) rfl rfl rfl).trans ((w_aload_n dDa_close_36 rfl).trans ((w_getr (r := t + 14) dDa_close_37 rz0_15 (shT_12 ht) rfl).trans ((w_aload_n dDa_close_40 rfl).trans ((w_geti dDa_close_41 rz0_18 (shT_12 ht) rfl).trans ((w_iald dDa_close_44 (shT_14 ht) (ltT ht (by decide))).trans (ite_c ((w_istore_n (ls' := [.ref (t + 12), .ref 9, .int ((sI σ (t + 12) 2 ((σ.1 (t + 12) 2) - 1)).1 (t + 14) ((sI σ (t + 12) 2 ((σ.1 (t + 12) 2) - 1)).1 (t + 12) 2).toNatClampNeg)]) dDa_close_45 (Nat.le_of_ble_eq_true rfl) rfl).trans ((w_iload_n dDa_close_46 rfl).trans (w_iflt (t := 58) dDa_close_47 (by decide)))))))))))))))
theorem bDa_close_50 {E : mEn} {d : Nat} {σ : mSt} {Q : mPost} {a2 : Int32} {t : Nat} (ht : isT t) : WP E d mDa_close 50 [.ref (t + 12), .ref 9, .int a2] [] σ Q = (if a2 < (σ.1 (t + 12) 3) then WP E d mDa_close 59 [.ref (t + 12), .ref 9, .int a2] [] σ Q else WP E d mDa_close 58 [.ref (t + 12), .ref 9, .int a2] [] σ Q) := (w_iload_n dDa_close_50 rfl).trans ((w_aload_n dDa_close_51 rfl).trans ((w_geti dDa_close_52 rz0_22 (shT_12 ht) rfl).trans (w_icmplt (t := 59) dDa_close_55 (by decide))))
theorem bDa_close_58 {E : mEn} {d : Nat} {σ : mSt} {Q : mPost} {a2 : Int32} {t : Nat} (ht : isT t) : WP E d mDa_close 58 [.ref (t + 12), .ref 9, .int a2] [] σ Q = Q none σ := w_vret dDa_close_58 rfl
theorem bDa_close_59 {E : mEn} {d : Nat} {σ : mSt} {Q : mPost} {a2 : Int32} {t : Nat} (ht : isT t) : WP E (d + 1) mDa_close 59 [.ref (t + 12), .ref 9, .int a2] [] σ Q = WP E d mDa_add 0 [.ref (t + 12), .int (nI 26), .ref 9, uu, uu] [] σ (fun r σ' => WP E (d + 1) mDa_close 66 [.ref (t + 12), .ref 9, .int a2] (r.toList ++ []) σ' Q) := (w_aload_n dDa_close_59 rfl).trans ((w_bipush (v := (nI 26)) dDa_close_60 rfl).trans ((w_aload_n dDa_close_62 rfl).trans (w_virt (vs := [.int (nI 26), .ref 9]) (st' := []) (es := [.ref (t + 12), .int (nI 26), .ref 9, uu, uu]) dDa_close_63 rz0_40 rfl (shT_12 ht) rfl rfl rfl (Nat.le_of_ble_eq_true rfl) (Nat.le_of_ble_eq_true rfl) rfl)))
theorem bDa_close_66 {E : mEn} {d : Nat} {σ : mSt} {Q : mPost} {a2 : Int32} {t : Nat} (ht : isT t) : WP E d mDa_close 66 [.ref (t + 12), .ref 9, .int a2] [] σ Q = (if mOut ((((σ.1 (t + 12) 3) - 1) * (nI 7)) + (nI 6)) 420 = true then False else (if mOut ((a2 * (nI 7)) + (nI 6)) 420 = true then False else WP E d mDa_close 102 [.ref (t + 12), .ref 9, .int a2] [] (sI (sI σ (t + 13) ((((σ.1 (t + 12) 3) - 1) * (nI 7)) + (nI 6)).toNatClampNeg a2) (t + 13) ((a2 * (nI 7)) + (nI 6)).toNatClampNeg (((sI σ (t + 13) ((((σ.1 (t + 12) 3) - 1) * (nI 7)) + (nI 6)).toNatClampNeg a2).1 (t + 12) 3) - 1)) Q)) := (w_aload_n dDa_close_66 rfl).trans ((w_getr (r := t + 13) dDa_close_67 rz0_11 (shT_12 ht) rfl).trans ((w_aload_n dDa_close_70 rfl).trans ((w_geti dDa_close_71 rz0_22 (shT_12 ht) rfl).trans ((w_iconst (v := 1) dDa_close_74 rfl).trans ((w_isub dDa_close_75).trans ((w_bipush (v := (nI 7)) dDa_close_76 rfl).trans ((w_imul dDa_close_78).trans ((w_bipush (v := (nI 6)) dDa_close_79 rfl).trans ((w_iadd dDa_close_81).trans ((w_iload_n dDa_close_82 rfl).trans ((w_iast dDa_close_83 (shT_13 ht)).trans (ite_c ((w_aload_n dDa_close_84 rfl).trans ((w_getr (r := t + 13) dDa_close_85 rz0_11 (shT_12 ht) rfl).trans ((w_iload_n dDa_close_88 rfl).trans ((w_bipush (v := (nI 7)) dDa_close_89 rfl).trans ((w_imul dDa_close_91).trans ((w_bipush (v := (nI 6)) dDa_close_92 rfl).trans ((w_iadd dDa_close_94).trans ((w_aload_n dDa_close_95 rfl).trans ((w_geti dDa_close_96 rz0_22 (shT_12 ht) rfl).trans ((w_iconst (v := 1) dDa_close_99 rfl).trans ((w_isub dDa_close_100).trans ((w_iast dDa_close_101 (shT_13 ht)).trans (ite_c (rfl))))))))))))))))))))))))))
theorem bDa_close_102 {E : mEn} {d : Nat} {σ : mSt} {Q : mPost} {a2 : Int32} {t : Nat} (ht : isT t) : WP E d mDa_close 102 [.ref (t + 12), .ref 9, .int a2] [] σ Q = Q none σ := w_vret dDa_close_102 rfl
theorem dDa_add_0 : decode (mC mDa_add) 0 = .ok (.aload_n 0, 1) := by decide +kernel
theorem dDa_add_1 : decode (mC mDa_add) 1 = .ok (.getfield 22, 3) := by decide +kernel
theorem dDa_add_4 : decode (mC mDa_add) 4 = .ok (.ifCond .lt (12), 3) := by decide +kernel
theorem dDa_add_7 : decode (mC mDa_add) 7 = .ok (.aload_n 0, 1) := by decide +kernel
theorem dDa_add_8 : decode (mC mDa_add) 8 = .ok (.getfield 22, 3) := by decide +kernel
theorem dDa_add_11 : decode (mC mDa_add) 11 = .ok (.bipush (60), 2) := by decide +kernel
theorem dDa_add_13 : decode (mC mDa_add) 13 = .ok (.if_icmp .lt (4), 3) := by decide +kernel
theorem dDa_add_16 : decode (mC mDa_add) 16 = .ok (.return_, 1) := by decide +kernel
theorem dDa_add_17 : decode (mC mDa_add) 17 = .ok (.aload_n 0, 1) := by decide +kernel
theorem dDa_add_18 : decode (mC mDa_add) 18 = .ok (.getfield 22, 3) := by decide +kernel
theorem dDa_add_21 : decode (mC mDa_add) 21 = .ok (.bipush (7), 2) := by decide +kernel
theorem dDa_add_23 : decode (mC mDa_add) 23 = .ok (.imul, 1) := by decide +kernel
theorem dDa_add_24 : decode (mC mDa_add) 24 = .ok (.istore_n 3, 1) := by decide +kernel
theorem dDa_add_25 : decode (mC mDa_add) 25 = .ok (.aload_n 0, 1) := by decide +kernel
theorem dDa_add_26 : decode (mC mDa_add) 26 = .ok (.getfield 11, 3) := by decide +kernel
theorem dDa_add_29 : decode (mC mDa_add) 29 = .ok (.iload_n 3, 1) := by decide +kernel
theorem dDa_add_30 : decode (mC mDa_add) 30 = .ok (.iload_n 1, 1) := by decide +kernel
theorem dDa_add_31 : decode (mC mDa_add) 31 = .ok (.iastore, 1) := by decide +kernel
theorem dDa_add_32 : decode (mC mDa_add) 32 = .ok (.iconst (0), 1) := by decide +kernel
theorem dDa_add_33 : decode (mC mDa_add) 33 = .ok (.istore 4, 2) := by decide +kernel
theorem dDa_add_35 : decode (mC mDa_add) 35 = .ok (.iload 4, 2) := by decide +kernel
theorem dDa_add_37 : decode (mC mDa_add) 37 = .ok (.iconst (5), 1) := by decide +kernel
theorem dDa_add_38 : decode (mC mDa_add) 38 = .ok (.if_icmp .ge (31), 3) := by decide +kernel
theorem dDa_add_41 : decode (mC mDa_add) 41 = .ok (.iload 4, 2) := by decide +kernel
theorem dDa_add_43 : decode (mC mDa_add) 43 = .ok (.aload_n 2, 1) := by decide +kernel
theorem dDa_add_44 : decode (mC mDa_add) 44 = .ok (.arraylength, 1) := by decide +kernel
theorem dDa_add_45 : decode (mC mDa_add) 45 = .ok (.if_icmp .ge (24), 3) := by decide +kernel
theorem dDa_add_48 : decode (mC mDa_add) 48 = .ok (.aload_n 0, 1) := by decide +kernel
theorem dDa_add_49 : decode (mC mDa_add) 49 = .ok (.getfield 11, 3) := by decide +kernel
theorem dDa_add_52 : decode (mC mDa_add) 52 = .ok (.iload_n 3, 1) := by decide +kernel
theorem dDa_add_53 : decode (mC mDa_add) 53 = .ok (.iconst (1), 1) := by decide +kernel
theorem dDa_add_54 : decode (mC mDa_add) 54 = .ok (.iadd, 1) := by decide +kernel
theorem dDa_add_55 : decode (mC mDa_add) 55 = .ok (.iload 4, 2) := by decide +kernel
theorem dDa_add_57 : decode (mC mDa_add) 57 = .ok (.iadd, 1) := by decide +kernel
theorem dDa_add_58 : decode (mC mDa_add) 58 = .ok (.aload_n 2, 1) := by decide +kernel
theorem dDa_add_59 : decode (mC mDa_add) 59 = .ok (.iload 4, 2) := by decide +kernel
theorem dDa_add_61 : decode (mC mDa_add) 61 = .ok (.iaload, 1) := by decide +kernel
theorem dDa_add_62 : decode (mC mDa_add) 62 = .ok (.iastore, 1) := by decide +kernel
theorem dDa_add_63 : decode (mC mDa_add) 63 = .ok (.iinc 4 (1), 3) := by decide +kernel
theorem dDa_add_66 : decode (mC mDa_add) 66 = .ok (.goto (-31), 3) := by decide +kernel
theorem dDa_add_69 : decode (mC mDa_add) 69 = .ok (.aload_n 0, 1) := by decide +kernel
theorem dDa_add_70 : decode (mC mDa_add) 70 = .ok (.getfield 11, 3) := by decide +kernel
theorem dDa_add_73 : decode (mC mDa_add) 73 = .ok (.iload_n 3, 1) := by decide +kernel
theorem dDa_add_74 : decode (mC mDa_add) 74 = .ok (.bipush (6), 2) := by decide +kernel
theorem dDa_add_76 : decode (mC mDa_add) 76 = .ok (.iadd, 1) := by decide +kernel
theorem dDa_add_77 : decode (mC mDa_add) 77 = .ok (.iconst (-1), 1) := by decide +kernel
theorem dDa_add_78 : decode (mC mDa_add) 78 = .ok (.iastore, 1) := by decide +kernel
theorem dDa_add_79 : decode (mC mDa_add) 79 = .ok (.aload_n 0, 1) := by decide +kernel
theorem dDa_add_80 : decode (mC mDa_add) 80 = .ok (.dup, 1) := by decide +kernel
theorem dDa_add_81 : decode (mC mDa_add) 81 = .ok (.getfield 22, 3) := by decide +kernel
theorem dDa_add_84 : decode (mC mDa_add) 84 = .ok (.iconst (1), 1) := by decide +kernel
theorem dDa_add_85 : decode (mC mDa_add) 85 = .ok (.iadd, 1) := by decide +kernel
theorem dDa_add_86 : decode (mC mDa_add) 86 = .ok (.putfield 22, 3) := by decide +kernel
theorem dDa_add_89 : decode (mC mDa_add) 89 = .ok (.iload_n 1, 1) := by decide +kernel
theorem dDa_add_90 : decode (mC mDa_add) 90 = .ok (.bipush (26), 2) := by decide +kernel
theorem dDa_add_92 : decode (mC mDa_add) 92 = .ok (.if_icmp .eq (13), 3) := by decide +kernel
theorem dDa_add_95 : decode (mC mDa_add) 95 = .ok (.aload_n 0, 1) := by decide +kernel
theorem dDa_add_96 : decode (mC mDa_add) 96 = .ok (.dup, 1) := by decide +kernel
theorem dDa_add_97 : decode (mC mDa_add) 97 = .ok (.getfield 25, 3) := by decide +kernel
theorem dDa_add_100 : decode (mC mDa_add) 100 = .ok (.iconst (1), 1) := by decide +kernel
theorem dDa_add_101 : decode (mC mDa_add) 101 = .ok (.iadd, 1) := by decide +kernel
theorem dDa_add_102 : decode (mC mDa_add) 102 = .ok (.putfield 25, 3) := by decide +kernel
theorem dDa_add_105 : decode (mC mDa_add) 105 = .ok (.return_, 1) := by decide +kernel
theorem bDa_add_0 {E : mEn} {d : Nat} {σ : mSt} {Q : mPost} {a1 : Int32} {u3 : Value} {u4 : Value} {t : Nat} (ht : isT t) : WP E d mDa_add 0 [.ref (t + 12), .int a1, .ref 9, u3, u4] [] σ Q = (if (σ.1 (t + 12) 3) < 0 then WP E d mDa_add 16 [.ref (t + 12), .int a1, .ref 9, u3, u4] [] σ Q else WP E d mDa_add 7 [.ref (t + 12), .int a1, .ref 9, u3, u4] [] σ Q) := (w_aload_n dDa_add_0 rfl).trans ((w_geti dDa_add_1 rz0_22 (shT_12 ht) rfl).trans (w_iflt (t := 16) dDa_add_4 (by decide)))
theorem bDa_add_7 {E : mEn} {d : Nat} {σ : mSt} {Q : mPost} {a1 : Int32} {u3 : Value} {u4 : Value} {t : Nat} (ht : isT t) : WP E d mDa_add 7 [.ref (t + 12), .int a1, .ref 9, u3, u4] [] σ Q = (if (σ.1 (t + 12) 3) < (nI 60) then WP E d mDa_add 17 [.ref (t + 12), .int a1, .ref 9, u3, u4] [] σ Q else WP E d mDa_add 16 [.ref (t + 12), .int a1, .ref 9, u3, u4] [] σ Q) := (w_aload_n dDa_add_7 rfl).trans ((w_geti dDa_add_8 rz0_22 (shT_12 ht) rfl).trans ((w_bipush (v := (nI 60)) dDa_add_11 rfl).trans (w_icmplt (t := 17) dDa_add_13 (by decide))))
theorem bDa_add_16 {E : mEn} {d : Nat} {σ : mSt} {Q : mPost} {a1 : Int32} {u3 : Value} {u4 : Value} {t : Nat} (ht : isT t) : WP E d mDa_add 16 [.ref (t + 12), .int a1, .ref 9, u3, u4] [] σ Q = Q none σ := w_vret dDa_add_16 rfl
theorem bDa_add_17 {E : mEn} {d : Nat} {σ : mSt} {Q : mPost} {a1 : Int32} {u3 : Value} {u4 : Value} {t : Nat} (ht : isT t) : WP E d mDa_add 17 [.ref (t + 12), .int a1, .ref 9, u3, u4] [] σ Q = (if mOut ((σ.1 (t + 12) 3) * (nI 7)) 420 = true then False else WP E d mDa_add 35 [.ref (t + 12), .int a1, .ref 9, .int ((σ.1 (t + 12) 3) * (nI 7)), .int 0] [] (sI σ (t + 13) ((σ.1 (t + 12) 3) * (nI 7)).toNatClampNeg a1) Q) := (w_aload_n dDa_add_17 rfl).trans ((w_geti dDa_add_18 rz0_22 (shT_12 ht) rfl).trans ((w_bipush (v := (nI 7)) dDa_add_21 rfl).trans ((w_imul dDa_add_23).trans ((w_istore_n (ls' := [.ref (t + 12), .int a1, .ref 9, .int ((σ.1 (t + 12) 3) * (nI 7)), u4]) dDa_add_24 (Nat.le_of_ble_eq_true rfl) rfl).trans ((w_aload_n dDa_add_25 rfl).trans ((w_getr (r := t + 13) dDa_add_26 rz0_11 (shT_12 ht) rfl).trans ((w_iload_n dDa_add_29 rfl).trans ((w_iload_n dDa_add_30 rfl).trans ((w_iast dDa_add_31 (shT_13 ht)).trans (ite_c ((w_iconst (v := 0) dDa_add_32 rfl).trans (w_istore (ls' := [.ref (t + 12), .int a1, .ref 9, .int ((σ.1 (t + 12) 3) * (nI 7)), .int 0]) dDa_add_33 (Nat.le_of_ble_eq_true rfl) rfl))))))))))))
theorem bDa_add_35 {E : mEn} {d : Nat} {σ : mSt} {Q : mPost} {a1 : Int32} {a3 : Int32} {a4 : Int32} {t : Nat} (ht : isT t) : WP E d mDa_add 35 [.ref (t + 12), .int a1, .ref 9, .int a3, .int a4] [] σ Q = (if (nI 5) ≤ a4 then WP E d mDa_add 69 [.ref (t + 12), .int a1, .ref 9, .int a3, .int a4] [] σ Q else WP E d mDa_add 41 [.ref (t + 12), .int a1, .ref 9, .int a3, .int a4] [] σ Q) := (w_iload dDa_add_35 rfl).trans ((w_iconst (v := (nI 5)) dDa_add_37 rfl).trans (w_icmpge (t := 69) dDa_add_38 (by decide)))
theorem bDa_add_41 {E : mEn} {d : Nat} {σ : mSt} {Q : mPost} {a1 : Int32} {a3 : Int32} {a4 : Int32} {t : Nat} (ht : isT t) : WP E d mDa_add 41 [.ref (t + 12), .int a1, .ref 9, .int a3, .int a4] [] σ Q = (if (nI 5) ≤ a4 then WP E d mDa_add 69 [.ref (t + 12), .int a1, .ref 9, .int a3, .int a4] [] σ Q else WP E d mDa_add 48 [.ref (t + 12), .int a1, .ref 9, .int a3, .int a4] [] σ Q) := (w_iload dDa_add_41 rfl).trans ((w_aload_n dDa_add_43 rfl).trans ((w_len dDa_add_44 (aLen_of sh_9 (by decide) (by decide))).trans (w_icmpge (t := 69) dDa_add_45 (by decide))))
theorem bDa_add_48 {E : mEn} {d : Nat} {σ : mSt} {Q : mPost} {a1 : Int32} {a3 : Int32} {a4 : Int32} {t : Nat} (ht : isT t) : WP E d mDa_add 48 [.ref (t + 12), .int a1, .ref 9, .int a3, .int a4] [] σ Q = (if mOut a4 5 = true then False else (if mOut ((a3 + 1) + a4) 420 = true then False else WP E d mDa_add 35 [.ref (t + 12), .int a1, .ref 9, .int a3, .int (a4 + 1)] [] (sI σ (t + 13) ((a3 + 1) + a4).toNatClampNeg (σ.1 9 a4.toNatClampNeg)) Q)) := (w_aload_n dDa_add_48 rfl).trans ((w_getr (r := t + 13) dDa_add_49 rz0_11 (shT_12 ht) rfl).trans ((w_iload_n dDa_add_52 rfl).trans ((w_iconst (v := 1) dDa_add_53 rfl).trans ((w_iadd dDa_add_54).trans ((w_iload dDa_add_55 rfl).trans ((w_iadd dDa_add_57).trans ((w_aload_n dDa_add_58 rfl).trans ((w_iload dDa_add_59 rfl).trans ((w_iald dDa_add_61 sh_9 (by decide)).trans (ite_c ((w_iast dDa_add_62 (shT_13 ht)).trans (ite_c ((w_iinc (v := 1) (ls' := [.ref (t + 12), .int a1, .ref 9, .int a3, .int (a4 + 1)]) dDa_add_63 rfl rfl rfl).trans (w_goto (t := 35) dDa_add_66 (by decide)))))))))))))))
theorem bDa_add_69 {E : mEn} {d : Nat} {σ : mSt} {Q : mPost} {a1 : Int32} {a3 : Int32} {a4 : Int32} {t : Nat} (ht : isT t) : WP E d mDa_add 69 [.ref (t + 12), .int a1, .ref 9, .int a3, .int a4] [] σ Q = (if mOut (a3 + (nI 6)) 420 = true then False else (if a1 = (nI 26) then WP E d mDa_add 105 [.ref (t + 12), .int a1, .ref 9, .int a3, .int a4] [] (sI (sI σ (t + 13) (a3 + (nI 6)).toNatClampNeg (-1)) (t + 12) 3 (((sI σ (t + 13) (a3 + (nI 6)).toNatClampNeg (-1)).1 (t + 12) 3) + 1)) Q else WP E d mDa_add 95 [.ref (t + 12), .int a1, .ref 9, .int a3, .int a4] [] (sI (sI σ (t + 13) (a3 + (nI 6)).toNatClampNeg (-1)) (t + 12) 3 (((sI σ (t + 13) (a3 + (nI 6)).toNatClampNeg (-1)).1 (t + 12) 3) + 1)) Q)) := (w_aload_n dDa_add_69 rfl).trans ((w_getr (r := t + 13) dDa_add_70 rz0_11 (shT_12 ht) rfl).trans ((w_iload_n dDa_add_73 rfl).trans ((w_bipush (v := (nI 6)) dDa_add_74 rfl).trans ((w_iadd dDa_add_76).trans ((w_iconst (v := (-1)) dDa_add_77 rfl).trans ((w_iast dDa_add_78 (shT_13 ht)).trans (ite_c ((w_aload_n dDa_add_79 rfl).trans ((w_dup dDa_add_80 rfl).trans ((w_geti dDa_add_81 rz0_22 (shT_12 ht) rfl).trans ((w_iconst (v := 1) dDa_add_84 rfl).trans ((w_iadd dDa_add_85).trans ((w_puti dDa_add_86 rz0_22 (shT_12 ht) rfl rfl rfl).trans ((w_iload_n dDa_add_89 rfl).trans ((w_bipush (v := (nI 26)) dDa_add_90 rfl).trans (w_icmpeq (t := 105) dDa_add_92 (by decide)))))))))))))))))
theorem bDa_add_95 {E : mEn} {d : Nat} {σ : mSt} {Q : mPost} {a1 : Int32} {a3 : Int32} {a4 : Int32} {t : Nat} (ht : isT t) : WP E d mDa_add 95 [.ref (t + 12), .int a1, .ref 9, .int a3, .int a4] [] σ Q = WP E d mDa_add 105 [.ref (t + 12), .int a1, .ref 9, .int a3, .int a4] [] (sI σ (t + 12) 4 ((σ.1 (t + 12) 4) + 1)) Q := (w_aload_n dDa_add_95 rfl).trans ((w_dup dDa_add_96 rfl).trans ((w_geti dDa_add_97 rz0_25 (shT_12 ht) rfl).trans ((w_iconst (v := 1) dDa_add_100 rfl).trans ((w_iadd dDa_add_101).trans (w_puti dDa_add_102 rz0_25 (shT_12 ht) rfl rfl rfl)))))
theorem bDa_add_105 {E : mEn} {d : Nat} {σ : mSt} {Q : mPost} {a1 : Int32} {a3 : Int32} {a4 : Int32} {t : Nat} (ht : isT t) : WP E d mDa_add 105 [.ref (t + 12), .int a1, .ref 9, .int a3, .int a4] [] σ Q = Q none σ := w_vret dDa_add_105 rfl
theorem dDa_begin_0 : decode (mC mDa_begin) 0 = .ok (.aload_n 0, 1) := by decide +kernel
theorem dDa_begin_1 : decode (mC mDa_begin) 1 = .ok (.getfield 18, 3) := by decide +kernel
theorem dDa_begin_4 : decode (mC mDa_begin) 4 = .ok (.ifCond .lt (36), 3) := by decide +kernel
theorem dDa_begin_7 : decode (mC mDa_begin) 7 = .ok (.aload_n 0, 1) := by decide +kernel
theorem dDa_begin_8 : decode (mC mDa_begin) 8 = .ok (.getfield 18, 3) := by decide +kernel
theorem dDa_begin_11 : decode (mC mDa_begin) 11 = .ok (.iconst (3), 1) := by decide +kernel
theorem dDa_begin_12 : decode (mC mDa_begin) 12 = .ok (.if_icmp .ge (28), 3) := by decide +kernel
theorem dDa_begin_15 : decode (mC mDa_begin) 15 = .ok (.aload_n 0, 1) := by decide +kernel
theorem dDa_begin_16 : decode (mC mDa_begin) 16 = .ok (.getfield 15, 3) := by decide +kernel
theorem dDa_begin_19 : decode (mC mDa_begin) 19 = .ok (.aload_n 0, 1) := by decide +kernel
theorem dDa_begin_20 : decode (mC mDa_begin) 20 = .ok (.getfield 18, 3) := by decide +kernel
theorem dDa_begin_23 : decode (mC mDa_begin) 23 = .ok (.aload_n 0, 1) := by decide +kernel
theorem dDa_begin_24 : decode (mC mDa_begin) 24 = .ok (.getfield 22, 3) := by decide +kernel
theorem dDa_begin_27 : decode (mC mDa_begin) 27 = .ok (.iconst (1), 1) := by decide +kernel
theorem dDa_begin_28 : decode (mC mDa_begin) 28 = .ok (.isub, 1) := by decide +kernel
theorem dDa_begin_29 : decode (mC mDa_begin) 29 = .ok (.iastore, 1) := by decide +kernel
theorem dDa_begin_30 : decode (mC mDa_begin) 30 = .ok (.aload_n 0, 1) := by decide +kernel
theorem dDa_begin_31 : decode (mC mDa_begin) 31 = .ok (.dup, 1) := by decide +kernel
theorem dDa_begin_32 : decode (mC mDa_begin) 32 = .ok (.getfield 18, 3) := by decide +kernel
theorem dDa_begin_35 : decode (mC mDa_begin) 35 = .ok (.iconst (1), 1) := by decide +kernel
theorem dDa_begin_36 : decode (mC mDa_begin) 36 = .ok (.iadd, 1) := by decide +kernel
theorem dDa_begin_37 : decode (mC mDa_begin) 37 = .ok (.putfield 18, 3) := by decide +kernel
theorem dDa_begin_40 : decode (mC mDa_begin) 40 = .ok (.return_, 1) := by decide +kernel
theorem bDa_begin_0 {E : mEn} {d : Nat} {σ : mSt} {Q : mPost} {t : Nat} (ht : isT t) : WP E d mDa_begin 0 [.ref (t + 12)] [] σ Q = (if (σ.1 (t + 12) 2) < 0 then WP E d mDa_begin 40 [.ref (t + 12)] [] σ Q else WP E d mDa_begin 7 [.ref (t + 12)] [] σ Q) := (w_aload_n dDa_begin_0 rfl).trans ((w_geti dDa_begin_1 rz0_18 (shT_12 ht) rfl).trans (w_iflt (t := 40) dDa_begin_4 (by decide)))
theorem bDa_begin_7 {E : mEn} {d : Nat} {σ : mSt} {Q : mPost} {t : Nat} (ht : isT t) : WP E d mDa_begin 7 [.ref (t + 12)] [] σ Q = (if (nI 3) ≤ (σ.1 (t + 12) 2) then WP E d mDa_begin 40 [.ref (t + 12)] [] σ Q else WP E d mDa_begin 15 [.ref (t + 12)] [] σ Q) := (w_aload_n dDa_begin_7 rfl).trans ((w_geti dDa_begin_8 rz0_18 (shT_12 ht) rfl).trans ((w_iconst (v := (nI 3)) dDa_begin_11 rfl).trans (w_icmpge (t := 40) dDa_begin_12 (by decide))))
theorem bDa_begin_15 {E : mEn} {d : Nat} {σ : mSt} {Q : mPost} {t : Nat} (ht : isT t) : WP E d mDa_begin 15 [.ref (t + 12)] [] σ Q = (if mOut (σ.1 (t + 12) 2) 3 = true then False else WP E d mDa_begin 40 [.ref (t + 12)] [] (sI (sI σ (t + 14) (σ.1 (t + 12) 2).toNatClampNeg ((σ.1 (t + 12) 3) - 1)) (t + 12) 2 (((sI σ (t + 14) (σ.1 (t + 12) 2).toNatClampNeg ((σ.1 (t + 12) 3) - 1)).1 (t + 12) 2) + 1)) Q) := (w_aload_n dDa_begin_15 rfl).trans ((w_getr (r := t + 14) dDa_begin_16 rz0_15 (shT_12 ht) rfl).trans ((w_aload_n dDa_begin_19 rfl).trans ((w_geti dDa_begin_20 rz0_18 (shT_12 ht) rfl).trans ((w_aload_n dDa_begin_23 rfl).trans ((w_geti dDa_begin_24 rz0_22 (shT_12 ht) rfl).trans ((w_iconst (v := 1) dDa_begin_27 rfl).trans ((w_isub dDa_begin_28).trans ((w_iast dDa_begin_29 (shT_14 ht)).trans (ite_c ((w_aload_n dDa_begin_30 rfl).trans ((w_dup dDa_begin_31 rfl).trans ((w_geti dDa_begin_32 rz0_18 (shT_12 ht) rfl).trans ((w_iconst (v := 1) dDa_begin_35 rfl).trans ((w_iadd dDa_begin_36).trans (w_puti dDa_begin_37 rz0_18 (shT_12 ht) rfl rfl rfl)))))))))))))))
theorem bDa_begin_40 {E : mEn} {d : Nat} {σ : mSt} {Q : mPost} {t : Nat} (ht : isT t) : WP E d mDa_begin 40 [.ref (t + 12)] [] σ Q = Q none σ := w_vret dDa_begin_40 rfl
theorem dDa_cell_0 : decode (mC mDa_cell) 0 = .ok (.iload_n 1, 1) := by decide +kernel
theorem dDa_cell_1 : decode (mC mDa_cell) 1 = .ok (.ifCond .lt (19), 3) := by decide +kernel
theorem dDa_cell_4 : decode (mC mDa_cell) 4 = .ok (.iload_n 1, 1) := by decide +kernel
theorem dDa_cell_5 : decode (mC mDa_cell) 5 = .ok (.bipush (60), 2) := by decide +kernel
theorem dDa_cell_7 : decode (mC mDa_cell) 7 = .ok (.if_icmp .ge (13), 3) := by decide +kernel
theorem dDa_cell_10 : decode (mC mDa_cell) 10 = .ok (.iload_n 2, 1) := by decide +kernel
theorem dDa_cell_11 : decode (mC mDa_cell) 11 = .ok (.ifCond .lt (9), 3) := by decide +kernel
theorem dDa_cell_14 : decode (mC mDa_cell) 14 = .ok (.iload_n 2, 1) := by decide +kernel
theorem dDa_cell_15 : decode (mC mDa_cell) 15 = .ok (.bipush (7), 2) := by decide +kernel
theorem dDa_cell_17 : decode (mC mDa_cell) 17 = .ok (.if_icmp .lt (5), 3) := by decide +kernel
theorem dDa_cell_20 : decode (mC mDa_cell) 20 = .ok (.iconst (-1), 1) := by decide +kernel
theorem dDa_cell_21 : decode (mC mDa_cell) 21 = .ok (.ireturn, 1) := by decide +kernel
theorem dDa_cell_22 : decode (mC mDa_cell) 22 = .ok (.aload_n 0, 1) := by decide +kernel
theorem dDa_cell_23 : decode (mC mDa_cell) 23 = .ok (.getfield 11, 3) := by decide +kernel
theorem dDa_cell_26 : decode (mC mDa_cell) 26 = .ok (.iload_n 1, 1) := by decide +kernel
theorem dDa_cell_27 : decode (mC mDa_cell) 27 = .ok (.bipush (7), 2) := by decide +kernel
theorem dDa_cell_29 : decode (mC mDa_cell) 29 = .ok (.imul, 1) := by decide +kernel
theorem dDa_cell_30 : decode (mC mDa_cell) 30 = .ok (.iload_n 2, 1) := by decide +kernel
theorem dDa_cell_31 : decode (mC mDa_cell) 31 = .ok (.iadd, 1) := by decide +kernel
theorem dDa_cell_32 : decode (mC mDa_cell) 32 = .ok (.iaload, 1) := by decide +kernel
theorem dDa_cell_33 : decode (mC mDa_cell) 33 = .ok (.ireturn, 1) := by decide +kernel
theorem bDa_cell_0 {E : mEn} {d : Nat} {σ : mSt} {Q : mPost} {a1 : Int32} {a2 : Int32} {t : Nat} (ht : isT t) : WP E d mDa_cell 0 [.ref (t + 12), .int a1, .int a2] [] σ Q = (if a1 < 0 then WP E d mDa_cell 20 [.ref (t + 12), .int a1, .int a2] [] σ Q else WP E d mDa_cell 4 [.ref (t + 12), .int a1, .int a2] [] σ Q) := (w_iload_n dDa_cell_0 rfl).trans (w_iflt (t := 20) dDa_cell_1 (by decide))
theorem bDa_cell_4 {E : mEn} {d : Nat} {σ : mSt} {Q : mPost} {a1 : Int32} {a2 : Int32} {t : Nat} (ht : isT t) : WP E d mDa_cell 4 [.ref (t + 12), .int a1, .int a2] [] σ Q = (if (nI 60) ≤ a1 then WP E d mDa_cell 20 [.ref (t + 12), .int a1, .int a2] [] σ Q else WP E d mDa_cell 10 [.ref (t + 12), .int a1, .int a2] [] σ Q) := (w_iload_n dDa_cell_4 rfl).trans ((w_bipush (v := (nI 60)) dDa_cell_5 rfl).trans (w_icmpge (t := 20) dDa_cell_7 (by decide)))
theorem bDa_cell_10 {E : mEn} {d : Nat} {σ : mSt} {Q : mPost} {a1 : Int32} {a2 : Int32} {t : Nat} (ht : isT t) : WP E d mDa_cell 10 [.ref (t + 12), .int a1, .int a2] [] σ Q = (if a2 < 0 then WP E d mDa_cell 20 [.ref (t + 12), .int a1, .int a2] [] σ Q else WP E d mDa_cell 14 [.ref (t + 12), .int a1, .int a2] [] σ Q) := (w_iload_n dDa_cell_10 rfl).trans (w_iflt (t := 20) dDa_cell_11 (by decide))
theorem bDa_cell_14 {E : mEn} {d : Nat} {σ : mSt} {Q : mPost} {a1 : Int32} {a2 : Int32} {t : Nat} (ht : isT t) : WP E d mDa_cell 14 [.ref (t + 12), .int a1, .int a2] [] σ Q = (if a2 < (nI 7) then WP E d mDa_cell 22 [.ref (t + 12), .int a1, .int a2] [] σ Q else WP E d mDa_cell 20 [.ref (t + 12), .int a1, .int a2] [] σ Q) := (w_iload_n dDa_cell_14 rfl).trans ((w_bipush (v := (nI 7)) dDa_cell_15 rfl).trans (w_icmplt (t := 22) dDa_cell_17 (by decide)))
theorem bDa_cell_20 {E : mEn} {d : Nat} {σ : mSt} {Q : mPost} {a1 : Int32} {a2 : Int32} {t : Nat} (ht : isT t) : WP E d mDa_cell 20 [.ref (t + 12), .int a1, .int a2] [] σ Q = Q (some (.int (-1))) σ := (w_iconst (v := (-1)) dDa_cell_20 rfl).trans (w_iret dDa_cell_21 rfl)
theorem bDa_cell_22 {E : mEn} {d : Nat} {σ : mSt} {Q : mPost} {a1 : Int32} {a2 : Int32} {t : Nat} (ht : isT t) : WP E d mDa_cell 22 [.ref (t + 12), .int a1, .int a2] [] σ Q = (if mOut ((a1 * (nI 7)) + a2) 420 = true then False else Q (some (.int (σ.1 (t + 13) ((a1 * (nI 7)) + a2).toNatClampNeg))) σ) := (w_aload_n dDa_cell_22 rfl).trans ((w_getr (r := t + 13) dDa_cell_23 rz0_11 (shT_12 ht) rfl).trans ((w_iload_n dDa_cell_26 rfl).trans ((w_bipush (v := (nI 7)) dDa_cell_27 rfl).trans ((w_imul dDa_cell_29).trans ((w_iload_n dDa_cell_30 rfl).trans ((w_iadd dDa_cell_31).trans ((w_iald dDa_cell_32 (shT_13 ht) (ltT ht (by decide))).trans (ite_c (w_iret dDa_cell_33 rfl)))))))))
