theorem dPr_hasRoom_0 : decode (mC mPr_hasRoom) 0 = .ok (.aload_n 0, 1) := by decide +kernel
theorem dPr_hasRoom_1 : decode (mC mPr_hasRoom) 1 = .ok (.getfield 37, 3) := by decide +kernel
theorem dPr_hasRoom_4 : decode (mC mPr_hasRoom) 4 = .ok (.ifCond .lt (16), 3) := by decide +kernel
theorem dPr_hasRoom_7 : decode (mC mPr_hasRoom) 7 = .ok (.aload_n 0, 1) := by decide +kernel
theorem dPr_hasRoom_8 : decode (mC mPr_hasRoom) 8 = .ok (.getfield 37, 3) := by decide +kernel
theorem dPr_hasRoom_11 : decode (mC mPr_hasRoom) 11 = .ok (.bipush (40), 2) := by decide +kernel
theorem dPr_hasRoom_13 : decode (mC mPr_hasRoom) 13 = .ok (.if_icmp .ge (7), 3) := by decide +kernel
theorem dPr_hasRoom_16 : decode (mC mPr_hasRoom) 16 = .ok (.iconst (1), 1) := by decide +kernel
theorem dPr_hasRoom_17 : decode (mC mPr_hasRoom) 17 = .ok (.goto (4), 3) := by decide +kernel
theorem dPr_hasRoom_20 : decode (mC mPr_hasRoom) 20 = .ok (.iconst (0), 1) := by decide +kernel
theorem dPr_hasRoom_21 : decode (mC mPr_hasRoom) 21 = .ok (.ireturn, 1) := by decide +kernel
theorem bPr_hasRoom_0 {E : mEn} {d : Nat} {σ : mSt} {Q : mPost} {t : Nat} (ht : isT t) : WP E d mPr_hasRoom 0 [.ref (t + 3)] [] σ Q = (if (σ.1 (t + 3) 8) < 0 then WP E d mPr_hasRoom 20 [.ref (t + 3)] [] σ Q else WP E d mPr_hasRoom 7 [.ref (t + 3)] [] σ Q) := (w_aload_n dPr_hasRoom_0 rfl).trans ((w_geti dPr_hasRoom_1 rz4_37 (shT_3 ht) rfl).trans (w_iflt (t := 20) dPr_hasRoom_4 (by decide)))
theorem bPr_hasRoom_7 {E : mEn} {d : Nat} {σ : mSt} {Q : mPost} {t : Nat} (ht : isT t) : WP E d mPr_hasRoom 7 [.ref (t + 3)] [] σ Q = (if (nI 40) ≤ (σ.1 (t + 3) 8) then WP E d mPr_hasRoom 20 [.ref (t + 3)] [] σ Q else WP E d mPr_hasRoom 16 [.ref (t + 3)] [] σ Q) := (w_aload_n dPr_hasRoom_7 rfl).trans ((w_geti dPr_hasRoom_8 rz4_37 (shT_3 ht) rfl).trans ((w_bipush (v := (nI 40)) dPr_hasRoom_11 rfl).trans (w_icmpge (t := 20) dPr_hasRoom_13 (by decide))))
theorem bPr_hasRoom_16 {E : mEn} {d : Nat} {σ : mSt} {Q : mPost} {t : Nat} (ht : isT t) : WP E d mPr_hasRoom 16 [.ref (t + 3)] [] σ Q = WP E d mPr_hasRoom 21 [.ref (t + 3)] [.int 1] σ Q := (w_iconst (v := 1) dPr_hasRoom_16 rfl).trans (w_goto (t := 21) dPr_hasRoom_17 (by decide))
theorem bPr_hasRoom_20 {E : mEn} {d : Nat} {σ : mSt} {Q : mPost} {t : Nat} (ht : isT t) : WP E d mPr_hasRoom 20 [.ref (t + 3)] [] σ Q = WP E d mPr_hasRoom 21 [.ref (t + 3)] [.int 0] σ Q := w_iconst (v := 0) dPr_hasRoom_20 rfl
theorem bPr_hasRoom_21 {E : mEn} {d : Nat} {σ : mSt} {Q : mPost} {s0 : Int32} {t : Nat} (ht : isT t) (hz0 : s0 = 0 ∨ s0 = 1) : WP E d mPr_hasRoom 21 [.ref (t + 3)] [.int s0] σ Q = Q (some (.int s0)) σ := w_zret dPr_hasRoom_21 rfl hz0
theorem dPr_copyOf_0 : decode (mC mPr_copyOf) 0 = .ok (.aload_n 0, 1) := by decide +kernel
theorem dPr_copyOf_1 : decode (mC mPr_copyOf) 1 = .ok (.aload_n 1, 1) := by decide +kernel
theorem dPr_copyOf_2 : decode (mC mPr_copyOf) 2 = .ok (.getfield 37, 3) := by decide +kernel
theorem dPr_copyOf_5 : decode (mC mPr_copyOf) 5 = .ok (.putfield 37, 3) := by decide +kernel
theorem dPr_copyOf_8 : decode (mC mPr_copyOf) 8 = .ok (.aload_n 1, 1) := by decide +kernel
theorem dPr_copyOf_9 : decode (mC mPr_copyOf) 9 = .ok (.getfield 9, 3) := by decide +kernel
theorem dPr_copyOf_12 : decode (mC mPr_copyOf) 12 = .ok (.iconst (0), 1) := by decide +kernel
theorem dPr_copyOf_13 : decode (mC mPr_copyOf) 13 = .ok (.aload_n 0, 1) := by decide +kernel
theorem dPr_copyOf_14 : decode (mC mPr_copyOf) 14 = .ok (.getfield 9, 3) := by decide +kernel
theorem dPr_copyOf_17 : decode (mC mPr_copyOf) 17 = .ok (.iconst (0), 1) := by decide +kernel
theorem dPr_copyOf_18 : decode (mC mPr_copyOf) 18 = .ok (.bipush (40), 2) := by decide +kernel
theorem dPr_copyOf_20 : decode (mC mPr_copyOf) 20 = .ok (.invokestatic 41, 3) := by decide +kernel
theorem dPr_copyOf_23 : decode (mC mPr_copyOf) 23 = .ok (.aload_n 1, 1) := by decide +kernel
theorem dPr_copyOf_24 : decode (mC mPr_copyOf) 24 = .ok (.getfield 15, 3) := by decide +kernel
theorem dPr_copyOf_27 : decode (mC mPr_copyOf) 27 = .ok (.iconst (0), 1) := by decide +kernel
theorem dPr_copyOf_28 : decode (mC mPr_copyOf) 28 = .ok (.aload_n 0, 1) := by decide +kernel
theorem dPr_copyOf_29 : decode (mC mPr_copyOf) 29 = .ok (.getfield 15, 3) := by decide +kernel
theorem dPr_copyOf_32 : decode (mC mPr_copyOf) 32 = .ok (.iconst (0), 1) := by decide +kernel
theorem dPr_copyOf_33 : decode (mC mPr_copyOf) 33 = .ok (.bipush (40), 2) := by decide +kernel
theorem dPr_copyOf_35 : decode (mC mPr_copyOf) 35 = .ok (.invokestatic 41, 3) := by decide +kernel
theorem dPr_copyOf_38 : decode (mC mPr_copyOf) 38 = .ok (.aload_n 1, 1) := by decide +kernel
theorem dPr_copyOf_39 : decode (mC mPr_copyOf) 39 = .ok (.getfield 18, 3) := by decide +kernel
theorem dPr_copyOf_42 : decode (mC mPr_copyOf) 42 = .ok (.iconst (0), 1) := by decide +kernel
theorem dPr_copyOf_43 : decode (mC mPr_copyOf) 43 = .ok (.aload_n 0, 1) := by decide +kernel
theorem dPr_copyOf_44 : decode (mC mPr_copyOf) 44 = .ok (.getfield 18, 3) := by decide +kernel
theorem dPr_copyOf_47 : decode (mC mPr_copyOf) 47 = .ok (.iconst (0), 1) := by decide +kernel
theorem dPr_copyOf_48 : decode (mC mPr_copyOf) 48 = .ok (.bipush (40), 2) := by decide +kernel
theorem dPr_copyOf_50 : decode (mC mPr_copyOf) 50 = .ok (.invokestatic 41, 3) := by decide +kernel
theorem dPr_copyOf_53 : decode (mC mPr_copyOf) 53 = .ok (.aload_n 1, 1) := by decide +kernel
theorem dPr_copyOf_54 : decode (mC mPr_copyOf) 54 = .ok (.getfield 21, 3) := by decide +kernel
theorem dPr_copyOf_57 : decode (mC mPr_copyOf) 57 = .ok (.iconst (0), 1) := by decide +kernel
theorem dPr_copyOf_58 : decode (mC mPr_copyOf) 58 = .ok (.aload_n 0, 1) := by decide +kernel
theorem dPr_copyOf_59 : decode (mC mPr_copyOf) 59 = .ok (.getfield 21, 3) := by decide +kernel
theorem dPr_copyOf_62 : decode (mC mPr_copyOf) 62 = .ok (.iconst (0), 1) := by decide +kernel
theorem dPr_copyOf_63 : decode (mC mPr_copyOf) 63 = .ok (.bipush (40), 2) := by decide +kernel
theorem dPr_copyOf_65 : decode (mC mPr_copyOf) 65 = .ok (.invokestatic 41, 3) := by decide +kernel
theorem dPr_copyOf_68 : decode (mC mPr_copyOf) 68 = .ok (.aload_n 1, 1) := by decide +kernel
theorem dPr_copyOf_69 : decode (mC mPr_copyOf) 69 = .ok (.getfield 24, 3) := by decide +kernel
theorem dPr_copyOf_72 : decode (mC mPr_copyOf) 72 = .ok (.iconst (0), 1) := by decide +kernel
theorem dPr_copyOf_73 : decode (mC mPr_copyOf) 73 = .ok (.aload_n 0, 1) := by decide +kernel
theorem dPr_copyOf_74 : decode (mC mPr_copyOf) 74 = .ok (.getfield 24, 3) := by decide +kernel
theorem dPr_copyOf_77 : decode (mC mPr_copyOf) 77 = .ok (.iconst (0), 1) := by decide +kernel
theorem dPr_copyOf_78 : decode (mC mPr_copyOf) 78 = .ok (.bipush (40), 2) := by decide +kernel
theorem dPr_copyOf_80 : decode (mC mPr_copyOf) 80 = .ok (.invokestatic 41, 3) := by decide +kernel
theorem dPr_copyOf_83 : decode (mC mPr_copyOf) 83 = .ok (.aload_n 1, 1) := by decide +kernel
theorem dPr_copyOf_84 : decode (mC mPr_copyOf) 84 = .ok (.getfield 27, 3) := by decide +kernel
theorem dPr_copyOf_87 : decode (mC mPr_copyOf) 87 = .ok (.iconst (0), 1) := by decide +kernel
theorem dPr_copyOf_88 : decode (mC mPr_copyOf) 88 = .ok (.aload_n 0, 1) := by decide +kernel
theorem dPr_copyOf_89 : decode (mC mPr_copyOf) 89 = .ok (.getfield 27, 3) := by decide +kernel
theorem dPr_copyOf_92 : decode (mC mPr_copyOf) 92 = .ok (.iconst (0), 1) := by decide +kernel
theorem dPr_copyOf_93 : decode (mC mPr_copyOf) 93 = .ok (.bipush (40), 2) := by decide +kernel
theorem dPr_copyOf_95 : decode (mC mPr_copyOf) 95 = .ok (.invokestatic 41, 3) := by decide +kernel
theorem dPr_copyOf_98 : decode (mC mPr_copyOf) 98 = .ok (.return_, 1) := by decide +kernel
theorem bPr_copyOf_0 {E : mEn} {d : Nat} {σ : mSt} {Q : mPost} {t : Nat} (ht : isT t) {t2 : Nat} (ht2 : isT t2) (hc0 : cpOk 0 0 (nI 40) 40 40 = true) (hc1 : cpOk 0 0 (nI 40) 40 40 = true) (hc2 : cpOk 0 0 (nI 40) 40 40 = true) (hc3 : cpOk 0 0 (nI 40) 40 40 = true) : WP E d mPr_copyOf 0 [.ref (t + 3), .ref (t2 + 3)] [] σ Q = WP E d mPr_copyOf 68 [.ref (t + 3), .ref (t2 + 3)] [] (cpI (cpI (cpI (cpI (sI σ (t + 3) 8 (σ.1 (t2 + 3) 8)) (t2 + 4) (t + 4) 0 0 40) (t2 + 5) (t + 5) 0 0 40) (t2 + 6) (t + 6) 0 0 40) (t2 + 7) (t + 7) 0 0 40) Q := (w_aload_n dPr_copyOf_0 rfl).trans ((w_aload_n dPr_copyOf_1 rfl).trans ((w_geti dPr_copyOf_2 rz4_37 (shT_3 ht2) rfl).trans ((w_puti dPr_copyOf_5 rz4_37 (shT_3 ht) rfl rfl rfl).trans ((w_aload_n dPr_copyOf_8 rfl).trans ((w_getr (r := t2 + 4) dPr_copyOf_9 rz4_9 (shT_3 ht2) rfl).trans ((w_iconst (v := 0) dPr_copyOf_12 rfl).trans ((w_aload_n dPr_copyOf_13 rfl).trans ((w_getr (r := t + 4) dPr_copyOf_14 rz4_9 (shT_3 ht) rfl).trans ((w_iconst (v := 0) dPr_copyOf_17 rfl).trans ((w_bipush (v := (nI 40)) dPr_copyOf_18 rfl).trans ((w_cpi dPr_copyOf_20 rz4_41 (shT_4 ht2) (shT_4 ht) hc0 (Nat.le_of_ble_eq_true rfl)).trans ((w_aload_n dPr_copyOf_23 rfl).trans ((w_getr (r := t2 + 5) dPr_copyOf_24 rz4_15 (shT_3 ht2) rfl).trans ((w_iconst (v := 0) dPr_copyOf_27 rfl).trans ((w_aload_n dPr_copyOf_28 rfl).trans ((w_getr (r := t + 5) dPr_copyOf_29 rz4_15 (shT_3 ht) rfl).trans ((w_iconst (v := 0) dPr_copyOf_32 rfl).trans ((w_bipush (v := (nI 40)) dPr_copyOf_33 rfl).trans ((w_cpi dPr_copyOf_35 rz4_41 (shT_5 ht2) (shT_5 ht) hc1 (Nat.le_of_ble_eq_true rfl)).trans ((w_aload_n dPr_copyOf_38 rfl).trans ((w_getr (r := t2 + 6) dPr_copyOf_39 rz4_18 (shT_3 ht2) rfl).trans ((w_iconst (v := 0) dPr_copyOf_42 rfl).trans ((w_aload_n dPr_copyOf_43 rfl).trans ((w_getr (r := t + 6) dPr_copyOf_44 rz4_18 (shT_3 ht) rfl).trans ((w_iconst (v := 0) dPr_copyOf_47 rfl).trans ((w_bipush (v := (nI 40)) dPr_copyOf_48 rfl).trans ((w_cpi dPr_copyOf_50 rz4_41 (shT_6 ht2) (shT_6 ht) hc2 (Nat.le_of_ble_eq_true rfl)).trans ((w_aload_n dPr_copyOf_53 rfl).trans ((w_getr (r := t2 + 7) dPr_copyOf_54 rz4_21 (shT_3 ht2) rfl).trans ((w_iconst (v := 0) dPr_copyOf_57 rfl).trans ((w_aload_n dPr_copyOf_58 rfl).trans ((w_getr (r := t + 7) dPr_copyOf_59 rz4_21 (shT_3 ht) rfl).trans ((w_iconst (v := 0) dPr_copyOf_62 rfl).trans ((w_bipush (v := (nI 40)) dPr_copyOf_63 rfl).trans (w_cpi dPr_copyOf_65 rz4_41 (shT_7 ht2) (shT_7 ht) hc3 (Nat.le_of_ble_eq_true rfl))))))))))))))))))))))))))))))))))))
theorem bPr_copyOf_68 {E : mEn} {d : Nat} {σ : mSt} {Q : mPost} {t : Nat} (ht : isT t) {t2 : Nat} (ht2 : isT t2) (hc0 : cpOk 0 0 (nI 40) 40 40 = true) (hc1 : cpOk 0 0 (nI 40) 40 40 = true) (hf1 : ∀ j, j < 40 → fits .boolean (.int ((cpI σ (t2 + 8) (t + 8) 0 0 40).1 (t2 + 9) (0 + j))) = true) : WP E d mPr_copyOf 68 [.ref (t + 3), .ref (t2 + 3)] [] σ Q = Q none (cpI (cpI σ (t2 + 8) (t + 8) 0 0 40) (t2 + 9) (t + 9) 0 0 40) := (w_aload_n dPr_copyOf_68 rfl).trans ((w_getr (r := t2 + 8) dPr_copyOf_69 rz4_24 (shT_3 ht2) rfl).trans ((w_iconst (v := 0) dPr_copyOf_72 rfl).trans ((w_aload_n dPr_copyOf_73 rfl).trans ((w_getr (r := t + 8) dPr_copyOf_74 rz4_24 (shT_3 ht) rfl).trans ((w_iconst (v := 0) dPr_copyOf_77 rfl).trans ((w_bipush (v := (nI 40)) dPr_copyOf_78 rfl).trans ((w_cpi dPr_copyOf_80 rz4_41 (shT_8 ht2) (shT_8 ht) hc0 (Nat.le_of_ble_eq_true rfl)).trans ((w_aload_n dPr_copyOf_83 rfl).trans ((w_getr (r := t2 + 9) dPr_copyOf_84 rz4_27 (shT_3 ht2) rfl).trans ((w_iconst (v := 0) dPr_copyOf_87 rfl).trans ((w_aload_n dPr_copyOf_88 rfl).trans ((w_getr (r := t + 9) dPr_copyOf_89 rz4_27 (shT_3 ht) rfl).trans ((w_iconst (v := 0) dPr_copyOf_92 rfl).trans ((w_bipush (v := (nI 40)) dPr_copyOf_93 rfl).trans ((w_cpz dPr_copyOf_95 rz4_41 (shT_9 ht2) (shT_9 ht) hc1 hf1 (Nat.le_of_ble_eq_true rfl)).trans (w_vret dPr_copyOf_98 rfl))))))))))))))))
theorem dPr_has_0 : decode (mC mPr_has) 0 = .ok (.iload_n 1, 1) := by decide +kernel
theorem dPr_has_1 : decode (mC mPr_has) 1 = .ok (.ifCond .lt (21), 3) := by decide +kernel
theorem dPr_has_4 : decode (mC mPr_has) 4 = .ok (.iload_n 1, 1) := by decide +kernel
theorem dPr_has_5 : decode (mC mPr_has) 5 = .ok (.aload_n 0, 1) := by decide +kernel
theorem dPr_has_6 : decode (mC mPr_has) 6 = .ok (.getfield 37, 3) := by decide +kernel
theorem dPr_has_9 : decode (mC mPr_has) 9 = .ok (.if_icmp .ge (13), 3) := by decide +kernel
theorem dPr_has_12 : decode (mC mPr_has) 12 = .ok (.iload_n 1, 1) := by decide +kernel
theorem dPr_has_13 : decode (mC mPr_has) 13 = .ok (.bipush (40), 2) := by decide +kernel
theorem dPr_has_15 : decode (mC mPr_has) 15 = .ok (.if_icmp .ge (7), 3) := by decide +kernel
theorem dPr_has_18 : decode (mC mPr_has) 18 = .ok (.iconst (1), 1) := by decide +kernel
theorem dPr_has_19 : decode (mC mPr_has) 19 = .ok (.goto (4), 3) := by decide +kernel
theorem dPr_has_22 : decode (mC mPr_has) 22 = .ok (.iconst (0), 1) := by decide +kernel
theorem dPr_has_23 : decode (mC mPr_has) 23 = .ok (.ireturn, 1) := by decide +kernel
theorem bPr_has_0 {E : mEn} {d : Nat} {σ : mSt} {Q : mPost} {a1 : Int32} {t : Nat} (ht : isT t) : WP E d mPr_has 0 [.ref (t + 3), .int a1] [] σ Q = (if a1 < 0 then WP E d mPr_has 22 [.ref (t + 3), .int a1] [] σ Q else WP E d mPr_has 4 [.ref (t + 3), .int a1] [] σ Q) := (w_iload_n dPr_has_0 rfl).trans (w_iflt (t := 22) dPr_has_1 (by decide))
theorem bPr_has_4 {E : mEn} {d : Nat} {σ : mSt} {Q : mPost} {a1 : Int32} {t : Nat} (ht : isT t) : WP E d mPr_has 4 [.ref (t + 3), .int a1] [] σ Q = (if (σ.1 (t + 3) 8) ≤ a1 then WP E d mPr_has 22 [.ref (t + 3), .int a1] [] σ Q else WP E d mPr_has 12 [.ref (t + 3), .int a1] [] σ Q) := (w_iload_n dPr_has_4 rfl).trans ((w_aload_n dPr_has_5 rfl).trans ((w_geti dPr_has_6 rz4_37 (shT_3 ht) rfl).trans (w_icmpge (t := 22) dPr_has_9 (by decide))))
theorem bPr_has_12 {E : mEn} {d : Nat} {σ : mSt} {Q : mPost} {a1 : Int32} {t : Nat} (ht : isT t) : WP E d mPr_has 12 [.ref (t + 3), .int a1] [] σ Q = (if (nI 40) ≤ a1 then WP E d mPr_has 22 [.ref (t + 3), .int a1] [] σ Q else WP E d mPr_has 18 [.ref (t + 3), .int a1] [] σ Q) := (w_iload_n dPr_has_12 rfl).trans ((w_bipush (v := (nI 40)) dPr_has_13 rfl).trans (w_icmpge (t := 22) dPr_has_15 (by decide)))
theorem bPr_has_18 {E : mEn} {d : Nat} {σ : mSt} {Q : mPost} {a1 : Int32} {t : Nat} (ht : isT t) : WP E d mPr_has 18 [.ref (t + 3), .int a1] [] σ Q = WP E d mPr_has 23 [.ref (t + 3), .int a1] [.int 1] σ Q := (w_iconst (v := 1) dPr_has_18 rfl).trans (w_goto (t := 23) dPr_has_19 (by decide))
theorem bPr_has_22 {E : mEn} {d : Nat} {σ : mSt} {Q : mPost} {a1 : Int32} {t : Nat} (ht : isT t) : WP E d mPr_has 22 [.ref (t + 3), .int a1] [] σ Q = WP E d mPr_has 23 [.ref (t + 3), .int a1] [.int 0] σ Q := w_iconst (v := 0) dPr_has_22 rfl
theorem bPr_has_23 {E : mEn} {d : Nat} {σ : mSt} {Q : mPost} {a1 : Int32} {s0 : Int32} {t : Nat} (ht : isT t) (hz0 : s0 = 0 ∨ s0 = 1) : WP E d mPr_has 23 [.ref (t + 3), .int a1] [.int s0] σ Q = Q (some (.int s0)) σ := w_zret dPr_has_23 rfl hz0
theorem dPr_deepest_0 : decode (mC mPr_deepest) 0 = .ok (.aload_n 0, 1) := by decide +kernel
theorem dPr_deepest_1 : decode (mC mPr_deepest) 1 = .ok (.getfield 34, 3) := by decide +kernel
theorem dPr_deepest_4 : decode (mC mPr_deepest) 4 = .ok (.iconst (0), 1) := by decide +kernel
theorem dPr_deepest_5 : decode (mC mPr_deepest) 5 = .ok (.invokestatic 51, 3) := by decide +kernel
theorem dPr_deepest_8 : decode (mC mPr_deepest) 8 = .ok (.iconst (0), 1) := by decide +kernel
theorem dPr_deepest_9 : decode (mC mPr_deepest) 9 = .ok (.istore_n 3, 1) := by decide +kernel
theorem dPr_deepest_10 : decode (mC mPr_deepest) 10 = .ok (.iconst (0), 1) := by decide +kernel
theorem dPr_deepest_11 : decode (mC mPr_deepest) 11 = .ok (.istore 4, 2) := by decide +kernel
theorem dPr_deepest_13 : decode (mC mPr_deepest) 13 = .ok (.iload 4, 2) := by decide +kernel
theorem dPr_deepest_15 : decode (mC mPr_deepest) 15 = .ok (.aload_n 0, 1) := by decide +kernel
theorem dPr_deepest_16 : decode (mC mPr_deepest) 16 = .ok (.getfield 37, 3) := by decide +kernel
theorem dPr_deepest_19 : decode (mC mPr_deepest) 19 = .ok (.if_icmp .ge (118), 3) := by decide +kernel
theorem dPr_deepest_22 : decode (mC mPr_deepest) 22 = .ok (.aload_n 0, 1) := by decide +kernel
theorem dPr_deepest_23 : decode (mC mPr_deepest) 23 = .ok (.getfield 27, 3) := by decide +kernel
theorem dPr_deepest_26 : decode (mC mPr_deepest) 26 = .ok (.iload 4, 2) := by decide +kernel
theorem dPr_deepest_28 : decode (mC mPr_deepest) 28 = .ok (.baload, 1) := by decide +kernel
theorem dPr_deepest_29 : decode (mC mPr_deepest) 29 = .ok (.ifCond .ne (102), 3) := by decide +kernel
theorem dPr_deepest_32 : decode (mC mPr_deepest) 32 = .ok (.aload_n 0, 1) := by decide +kernel
theorem dPr_deepest_33 : decode (mC mPr_deepest) 33 = .ok (.getfield 15, 3) := by decide +kernel
theorem dPr_deepest_36 : decode (mC mPr_deepest) 36 = .ok (.iload 4, 2) := by decide +kernel
theorem dPr_deepest_38 : decode (mC mPr_deepest) 38 = .ok (.iaload, 1) := by decide +kernel
theorem dPr_deepest_39 : decode (mC mPr_deepest) 39 = .ok (.iload_n 1, 1) := by decide +kernel
theorem dPr_deepest_40 : decode (mC mPr_deepest) 40 = .ok (.if_icmp .eq (6), 3) := by decide +kernel
theorem dPr_deepest_43 : decode (mC mPr_deepest) 43 = .ok (.goto (88), 3) := by decide +kernel
theorem dPr_deepest_46 : decode (mC mPr_deepest) 46 = .ok (.aload_n 0, 1) := by decide +kernel
theorem dPr_deepest_47 : decode (mC mPr_deepest) 47 = .ok (.getfield 34, 3) := by decide +kernel
theorem dPr_deepest_50 : decode (mC mPr_deepest) 50 = .ok (.aload_n 0, 1) := by decide +kernel
theorem dPr_deepest_51 : decode (mC mPr_deepest) 51 = .ok (.getfield 18, 3) := by decide +kernel
theorem dPr_deepest_54 : decode (mC mPr_deepest) 54 = .ok (.iload 4, 2) := by decide +kernel
theorem dPr_deepest_56 : decode (mC mPr_deepest) 56 = .ok (.iaload, 1) := by decide +kernel
theorem dPr_deepest_57 : decode (mC mPr_deepest) 57 = .ok (.iaload, 1) := by decide +kernel
theorem dPr_deepest_58 : decode (mC mPr_deepest) 58 = .ok (.istore 5, 2) := by decide +kernel
theorem dPr_deepest_60 : decode (mC mPr_deepest) 60 = .ok (.iload 5, 2) := by decide +kernel
theorem dPr_deepest_62 : decode (mC mPr_deepest) 62 = .ok (.ifCond .gt (14), 3) := by decide +kernel
theorem dPr_deepest_65 : decode (mC mPr_deepest) 65 = .ok (.aload_n 0, 1) := by decide +kernel
theorem dPr_deepest_66 : decode (mC mPr_deepest) 66 = .ok (.getfield 18, 3) := by decide +kernel
theorem dPr_deepest_69 : decode (mC mPr_deepest) 69 = .ok (.iload 4, 2) := by decide +kernel
theorem dPr_deepest_71 : decode (mC mPr_deepest) 71 = .ok (.iaload, 1) := by decide +kernel
theorem dPr_deepest_72 : decode (mC mPr_deepest) 72 = .ok (.iload_n 2, 1) := by decide +kernel
theorem dPr_deepest_73 : decode (mC mPr_deepest) 73 = .ok (.if_icmp .ne (10), 3) := by decide +kernel
theorem dPr_deepest_76 : decode (mC mPr_deepest) 76 = .ok (.iload 5, 2) := by decide +kernel
theorem dPr_deepest_78 : decode (mC mPr_deepest) 78 = .ok (.iconst (1), 1) := by decide +kernel
theorem dPr_deepest_79 : decode (mC mPr_deepest) 79 = .ok (.iadd, 1) := by decide +kernel
theorem dPr_deepest_80 : decode (mC mPr_deepest) 80 = .ok (.goto (4), 3) := by decide +kernel
theorem dPr_deepest_83 : decode (mC mPr_deepest) 83 = .ok (.iconst (0), 1) := by decide +kernel
theorem dPr_deepest_84 : decode (mC mPr_deepest) 84 = .ok (.istore 6, 2) := by decide +kernel
theorem dPr_deepest_86 : decode (mC mPr_deepest) 86 = .ok (.aload_n 0, 1) := by decide +kernel
theorem dPr_deepest_87 : decode (mC mPr_deepest) 87 = .ok (.getfield 31, 3) := by decide +kernel
theorem dPr_deepest_90 : decode (mC mPr_deepest) 90 = .ok (.iload 4, 2) := by decide +kernel
theorem dPr_deepest_92 : decode (mC mPr_deepest) 92 = .ok (.iload 6, 2) := by decide +kernel
theorem dPr_deepest_94 : decode (mC mPr_deepest) 94 = .ok (.iastore, 1) := by decide +kernel
theorem dPr_deepest_95 : decode (mC mPr_deepest) 95 = .ok (.aload_n 0, 1) := by decide +kernel
theorem dPr_deepest_96 : decode (mC mPr_deepest) 96 = .ok (.getfield 34, 3) := by decide +kernel
theorem dPr_deepest_99 : decode (mC mPr_deepest) 99 = .ok (.aload_n 0, 1) := by decide +kernel
theorem dPr_deepest_100 : decode (mC mPr_deepest) 100 = .ok (.getfield 21, 3) := by decide +kernel
theorem dPr_deepest_103 : decode (mC mPr_deepest) 103 = .ok (.iload 4, 2) := by decide +kernel
theorem dPr_deepest_105 : decode (mC mPr_deepest) 105 = .ok (.iaload, 1) := by decide +kernel
theorem dPr_deepest_106 : decode (mC mPr_deepest) 106 = .ok (.aload_n 0, 1) := by decide +kernel
theorem dPr_deepest_107 : decode (mC mPr_deepest) 107 = .ok (.getfield 34, 3) := by decide +kernel
theorem dPr_deepest_110 : decode (mC mPr_deepest) 110 = .ok (.aload_n 0, 1) := by decide +kernel
theorem dPr_deepest_111 : decode (mC mPr_deepest) 111 = .ok (.getfield 21, 3) := by decide +kernel
theorem dPr_deepest_114 : decode (mC mPr_deepest) 114 = .ok (.iload 4, 2) := by decide +kernel
theorem dPr_deepest_116 : decode (mC mPr_deepest) 116 = .ok (.iaload, 1) := by decide +kernel
theorem dPr_deepest_117 : decode (mC mPr_deepest) 117 = .ok (.iaload, 1) := by decide +kernel
theorem dPr_deepest_118 : decode (mC mPr_deepest) 118 = .ok (.iload 6, 2) := by decide +kernel
theorem dPr_deepest_120 : decode (mC mPr_deepest) 120 = .ok (.invokestatic 57, 3) := by decide +kernel
theorem dPr_deepest_123 : decode (mC mPr_deepest) 123 = .ok (.iastore, 1) := by decide +kernel
theorem dPr_deepest_124 : decode (mC mPr_deepest) 124 = .ok (.iload_n 3, 1) := by decide +kernel
theorem dPr_deepest_125 : decode (mC mPr_deepest) 125 = .ok (.iload 6, 2) := by decide +kernel
theorem dPr_deepest_127 : decode (mC mPr_deepest) 127 = .ok (.invokestatic 57, 3) := by decide +kernel
theorem dPr_deepest_130 : decode (mC mPr_deepest) 130 = .ok (.istore_n 3, 1) := by decide +kernel
theorem dPr_deepest_131 : decode (mC mPr_deepest) 131 = .ok (.iinc 4 (1), 3) := by decide +kernel
theorem dPr_deepest_134 : decode (mC mPr_deepest) 134 = .ok (.goto (-121), 3) := by decide +kernel
theorem dPr_deepest_137 : decode (mC mPr_deepest) 137 = .ok (.iload_n 3, 1) := by decide +kernel
theorem dPr_deepest_138 : decode (mC mPr_deepest) 138 = .ok (.ireturn, 1) := by decide +kernel
theorem bPr_deepest_0 {E : mEn} {d : Nat} {σ : mSt} {Q : mPost} {a1 : Int32} {a2 : Int32} {u3 : Value} {u4 : Value} {u5 : Value} {u6 : Value} {t : Nat} (ht : isT t) : WP E (d + 1) mPr_deepest 0 [.ref (t + 3), .int a1, .int a2, u3, u4, u5, u6] [] σ Q = WP E d mAr_fill 0 [.ref (t + 11), .int 0, uu, uu] [] σ (fun r σ' => WP E (d + 1) mPr_deepest 8 [.ref (t + 3), .int a1, .int a2, u3, u4, u5, u6] (r.toList ++ []) σ' Q) := (w_aload_n dPr_deepest_0 rfl).trans ((w_getr (r := t + 11) dPr_deepest_1 rz4_34 (shT_3 ht) rfl).trans ((w_iconst (v := 0) dPr_deepest_4 rfl).trans (w_stat (vs := [.ref (t + 11), .int 0]) (st' := []) (es := [.ref (t + 11), .int 0, uu, uu]) dPr_deepest_5 rz4_51 rfl rfl rfl (Nat.le_of_ble_eq_true rfl) (Nat.le_of_ble_eq_true rfl) rfl)))
theorem bPr_deepest_8 {E : mEn} {d : Nat} {σ : mSt} {Q : mPost} {a1 : Int32} {a2 : Int32} {u3 : Value} {u4 : Value} {u5 : Value} {u6 : Value} {t : Nat} (ht : isT t) : WP E d mPr_deepest 8 [.ref (t + 3), .int a1, .int a2, u3, u4, u5, u6] [] σ Q = WP E d mPr_deepest 13 [.ref (t + 3), .int a1, .int a2, .int 0, .int 0, u5, u6] [] σ Q := (w_iconst (v := 0) dPr_deepest_8 rfl).trans ((w_istore_n (ls' := [.ref (t + 3), .int a1, .int a2, .int 0, u4, u5, u6]) dPr_deepest_9 (Nat.le_of_ble_eq_true rfl) rfl).trans ((w_iconst (v := 0) dPr_deepest_10 rfl).trans (w_istore (ls' := [.ref (t + 3), .int a1, .int a2, .int 0, .int 0, u5, u6]) dPr_deepest_11 (Nat.le_of_ble_eq_true rfl) rfl)))
theorem bPr_deepest_13 {E : mEn} {d : Nat} {σ : mSt} {Q : mPost} {a1 : Int32} {a2 : Int32} {a3 : Int32} {a4 : Int32} {u5 : Value} {u6 : Value} {t : Nat} (ht : isT t) : WP E d mPr_deepest 13 [.ref (t + 3), .int a1, .int a2, .int a3, .int a4, u5, u6] [] σ Q = (if (σ.1 (t + 3) 8) ≤ a4 then WP E d mPr_deepest 137 [.ref (t + 3), .int a1, .int a2, .int a3, .int a4, u5, u6] [] σ Q else WP E d mPr_deepest 22 [.ref (t + 3), .int a1, .int a2, .int a3, .int a4, u5, u6] [] σ Q) := (w_iload dPr_deepest_13 rfl).trans ((w_aload_n dPr_deepest_15 rfl).trans ((w_geti dPr_deepest_16 rz4_37 (shT_3 ht) rfl).trans (w_icmpge (t := 137) dPr_deepest_19 (by decide))))
theorem bPr_deepest_22 {E : mEn} {d : Nat} {σ : mSt} {Q : mPost} {a1 : Int32} {a2 : Int32} {a3 : Int32} {a4 : Int32} {u5 : Value} {u6 : Value} {t : Nat} (ht : isT t) : WP E d mPr_deepest 22 [.ref (t + 3), .int a1, .int a2, .int a3, .int a4, u5, u6] [] σ Q = (if mOut a4 40 = true then False else (if ¬ (σ.1 (t + 9) a4.toNatClampNeg) = 0 then WP E d mPr_deepest 131 [.ref (t + 3), .int a1, .int a2, .int a3, .int a4, u5, u6] [] σ Q else WP E d mPr_deepest 32 [.ref (t + 3), .int a1, .int a2, .int a3, .int a4, u5, u6] [] σ Q)) := (w_aload_n dPr_deepest_22 rfl).trans ((w_getr (r := t + 9) dPr_deepest_23 rz4_27 (shT_3 ht) rfl).trans ((w_iload dPr_deepest_26 rfl).trans ((w_zald dPr_deepest_28 (shT_9 ht)).trans (ite_c (w_ifne (t := 131) dPr_deepest_29 (by decide))))))
theorem bPr_deepest_32 {E : mEn} {d : Nat} {σ : mSt} {Q : mPost} {a1 : Int32} {a2 : Int32} {a3 : Int32} {a4 : Int32} {u5 : Value} {u6 : Value} {t : Nat} (ht : isT t) : WP E d mPr_deepest 32 [.ref (t + 3), .int a1, .int a2, .int a3, .int a4, u5, u6] [] σ Q = (if mOut a4 40 = true then False else (if (σ.1 (t + 5) a4.toNatClampNeg) = a1 then WP E d mPr_deepest 46 [.ref (t + 3), .int a1, .int a2, .int a3, .int a4, u5, u6] [] σ Q else WP E d mPr_deepest 43 [.ref (t + 3), .int a1, .int a2, .int a3, .int a4, u5, u6] [] σ Q)) := (w_aload_n dPr_deepest_32 rfl).trans ((w_getr (r := t + 5) dPr_deepest_33 rz4_15 (shT_3 ht) rfl).trans ((w_iload dPr_deepest_36 rfl).trans ((w_iald dPr_deepest_38 (shT_5 ht) (ltT ht (by decide))).trans (ite_c ((w_iload_n dPr_deepest_39 rfl).trans (w_icmpeq (t := 46) dPr_deepest_40 (by decide)))))))
theorem bPr_deepest_43 {E : mEn} {d : Nat} {σ : mSt} {Q : mPost} {a1 : Int32} {a2 : Int32} {a3 : Int32} {a4 : Int32} {u5 : Value} {u6 : Value} {t : Nat} (ht : isT t) : WP E d mPr_deepest 43 [.ref (t + 3), .int a1, .int a2, .int a3, .int a4, u5, u6] [] σ Q = WP E d mPr_deepest 131 [.ref (t + 3), .int a1, .int a2, .int a3, .int a4, u5, u6] [] σ Q := w_goto (t := 131) dPr_deepest_43 (by decide)
theorem bPr_deepest_46 {E : mEn} {d : Nat} {σ : mSt} {Q : mPost} {a1 : Int32} {a2 : Int32} {a3 : Int32} {a4 : Int32} {u5 : Value} {u6 : Value} {t : Nat} (ht : isT t) : WP E d mPr_deepest 46 [.ref (t + 3), .int a1, .int a2, .int a3, .int a4, u5, u6] [] σ Q = (if mOut a4 40 = true then False else (if mOut (σ.1 (t + 6) a4.toNatClampNeg) 8 = true then False else (if 0 < (σ.1 (t + 11) (σ.1 (t + 6) a4.toNatClampNeg).toNatClampNeg) then WP E d mPr_deepest 76 [.ref (t + 3), .int a1, .int a2, .int a3, .int a4, .int (σ.1 (t + 11) (σ.1 (t + 6) a4.toNatClampNeg).toNatClampNeg), u6] [] σ Q else WP E d mPr_deepest 65 [.ref (t + 3), .int a1, .int a2, .int a3, .int a4, .int (σ.1 (t + 11) (σ.1 (t + 6) a4.toNatClampNeg).toNatClampNeg), u6] [] σ Q))) := (w_aload_n dPr_deepest_46 rfl).trans ((w_getr (r := t + 11) dPr_deepest_47 rz4_34 (shT_3 ht) rfl).trans ((w_aload_n dPr_deepest_50 rfl).trans ((w_getr (r := t + 6) dPr_deepest_51 rz4_18 (shT_3 ht) rfl).trans ((w_iload dPr_deepest_54 rfl).trans ((w_iald dPr_deepest_56 (shT_6 ht) (ltT ht (by decide))).trans (ite_c ((w_iald dPr_deepest_57 (shT_11 ht) (ltT ht (by decide))).trans (ite_c ((w_istore (ls' := [.ref (t + 3), .int a1, .int a2, .int a3, .int a4, .int (σ.1 (t + 11) (σ.1 (t + 6) a4.toNatClampNeg).toNatClampNeg), u6]) dPr_deepest_58 (Nat.le_of_ble_eq_true rfl) rfl).trans ((w_iload dPr_deepest_60 rfl).trans (w_ifgt (t := 76) dPr_deepest_62 (by decide))))))))))))
theorem bPr_deepest_65 {E : mEn} {d : Nat} {σ : mSt} {Q : mPost} {a1 : Int32} {a2 : Int32} {a3 : Int32} {a4 : Int32} {a5 : Int32} {u6 : Value} {t : Nat} (ht : isT t) : WP E d mPr_deepest 65 [.ref (t + 3), .int a1, .int a2, .int a3, .int a4, .int a5, u6] [] σ Q = (if mOut a4 40 = true then False else (if ¬ (σ.1 (t + 6) a4.toNatClampNeg) = a2 then WP E d mPr_deepest 83 [.ref (t + 3), .int a1, .int a2, .int a3, .int a4, .int a5, u6] [] σ Q else WP E d mPr_deepest 76 [.ref (t + 3), .int a1, .int a2, .int a3, .int a4, .int a5, u6] [] σ Q)) := (w_aload_n dPr_deepest_65 rfl).trans ((w_getr (r := t + 6) dPr_deepest_66 rz4_18 (shT_3 ht) rfl).trans ((w_iload dPr_deepest_69 rfl).trans ((w_iald dPr_deepest_71 (shT_6 ht) (ltT ht (by decide))).trans (ite_c ((w_iload_n dPr_deepest_72 rfl).trans (w_icmpne (t := 83) dPr_deepest_73 (by decide)))))))
theorem bPr_deepest_76 {E : mEn} {d : Nat} {σ : mSt} {Q : mPost} {a1 : Int32} {a2 : Int32} {a3 : Int32} {a4 : Int32} {a5 : Int32} {u6 : Value} {t : Nat} (ht : isT t) : WP E d mPr_deepest 76 [.ref (t + 3), .int a1, .int a2, .int a3, .int a4, .int a5, u6] [] σ Q = WP E d mPr_deepest 84 [.ref (t + 3), .int a1, .int a2, .int a3, .int a4, .int a5, u6] [.int (a5 + 1)] σ Q := (w_iload dPr_deepest_76 rfl).trans ((w_iconst (v := 1) dPr_deepest_78 rfl).trans ((w_iadd dPr_deepest_79).trans (w_goto (t := 84) dPr_deepest_80 (by decide))))
theorem bPr_deepest_83 {E : mEn} {d : Nat} {σ : mSt} {Q : mPost} {a1 : Int32} {a2 : Int32} {a3 : Int32} {a4 : Int32} {a5 : Int32} {u6 : Value} {t : Nat} (ht : isT t) : WP E d mPr_deepest 83 [.ref (t + 3), .int a1, .int a2, .int a3, .int a4, .int a5, u6] [] σ Q = WP E d mPr_deepest 84 [.ref (t + 3), .int a1, .int a2, .int a3, .int a4, .int a5, u6] [.int 0] σ Q := w_iconst (v := 0) dPr_deepest_83 rfl
theorem bPr_deepest_84 {E : mEn} {d : Nat} {σ : mSt} {Q : mPost} {a1 : Int32} {a2 : Int32} {a3 : Int32} {a4 : Int32} {a5 : Int32} {u6 : Value} {s0 : Int32} {t : Nat} (ht : isT t) : WP E d mPr_deepest 84 [.ref (t + 3), .int a1, .int a2, .int a3, .int a4, .int a5, u6] [.int s0] σ Q = (if mOut a4 40 = true then False else (if mOut a4 40 = true then False else (if mOut a4 40 = true then False else (if mOut ((sI σ (t + 10) a4.toNatClampNeg s0).1 (t + 7) a4.toNatClampNeg) 8 = true then False else (if mOut ((sI σ (t + 10) a4.toNatClampNeg s0).1 (t + 7) a4.toNatClampNeg) 8 = true then False else WP E d mPr_deepest 124 [.ref (t + 3), .int a1, .int a2, .int a3, .int a4, .int a5, .int s0] [] (sI (sI σ (t + 10) a4.toNatClampNeg s0) (t + 11) ((sI σ (t + 10) a4.toNatClampNeg s0).1 (t + 7) a4.toNatClampNeg).toNatClampNeg (if ((sI σ (t + 10) a4.toNatClampNeg s0).1 (t + 11) ((sI σ (t + 10) a4.toNatClampNeg s0).1 (t + 7) a4.toNatClampNeg).toNatClampNeg) < s0 then s0 else ((sI σ (t + 10) a4.toNatClampNeg s0).1 (t + 11) ((sI σ (t + 10) a4.toNatClampNeg s0).1 (t + 7) a4.toNatClampNeg).toNatClampNeg))) Q))))) := (w_istore (ls' := [.ref (t + 3), .int a1, .int a2, .int a3, .int a4, .int a5, .int s0]) dPr_deepest_84 (Nat.le_of_ble_eq_true rfl) rfl).trans ((w_aload_n dPr_deepest_86 rfl).trans ((w_getr (r := t + 10) dPr_deepest_87 rz4_31 (shT_3 ht) rfl).trans ((w_iload dPr_deepest_90 rfl).trans ((w_iload dPr_deepest_92 rfl).trans ((w_iast dPr_deepest_94 (shT_10 ht)).trans (ite_c ((w_aload_n dPr_deepest_95 rfl).trans ((w_getr (r := t + 11) dPr_deepest_96 rz4_34 (shT_3 ht) rfl).trans ((w_aload_n dPr_deepest_99 rfl).trans ((w_getr (r := t + 7) dPr_deepest_100 rz4_21 (shT_3 ht) rfl).trans ((w_iload dPr_deepest_103 rfl).trans ((w_iald dPr_deepest_105 (shT_7 ht) (ltT ht (by decide))).trans (ite_c ((w_aload_n dPr_deepest_106 rfl).trans ((w_getr (r := t + 11) dPr_deepest_107 rz4_34 (shT_3 ht) rfl).trans ((w_aload_n dPr_deepest_110 rfl).trans ((w_getr (r := t + 7) dPr_deepest_111 rz4_21 (shT_3 ht) rfl).trans ((w_iload dPr_deepest_114 rfl).trans ((w_iald dPr_deepest_116 (shT_7 ht) (ltT ht (by decide))).trans (ite_c ((w_iald dPr_deepest_117 (shT_11 ht) (ltT ht (by decide))).trans (ite_c ((w_iload dPr_deepest_118 rfl).trans ((w_max dPr_deepest_120 rz4_57 (Nat.le_of_ble_eq_true rfl)).trans ((w_iast dPr_deepest_123 (shT_11 ht)).trans (ite_c (rfl)))))))))))))))))))))))))))
theorem bPr_deepest_124 {E : mEn} {d : Nat} {σ : mSt} {Q : mPost} {a1 : Int32} {a2 : Int32} {a3 : Int32} {a4 : Int32} {a5 : Int32} {a6 : Int32} {t : Nat} (ht : isT t) : WP E d mPr_deepest 124 [.ref (t + 3), .int a1, .int a2, .int a3, .int a4, .int a5, .int a6] [] σ Q = WP E d mPr_deepest 131 [.ref (t + 3), .int a1, .int a2, .int (if a3 < a6 then a6 else a3), .int a4, .int a5, .int a6] [] σ Q := (w_iload_n dPr_deepest_124 rfl).trans ((w_iload dPr_deepest_125 rfl).trans ((w_max dPr_deepest_127 rz4_57 (Nat.le_of_ble_eq_true rfl)).trans (w_istore_n (ls' := [.ref (t + 3), .int a1, .int a2, .int (if a3 < a6 then a6 else a3), .int a4, .int a5, .int a6]) dPr_deepest_130 (Nat.le_of_ble_eq_true rfl) rfl)))
theorem bPr_deepest_131 {E : mEn} {d : Nat} {σ : mSt} {Q : mPost} {a1 : Int32} {a2 : Int32} {a3 : Int32} {a4 : Int32} {u5 : Value} {u6 : Value} {t : Nat} (ht : isT t) : WP E d mPr_deepest 131 [.ref (t + 3), .int a1, .int a2, .int a3, .int a4, u5, u6] [] σ Q = WP E d mPr_deepest 13 [.ref (t + 3), .int a1, .int a2, .int a3, .int (a4 + 1), u5, u6] [] σ Q := (w_iinc (v := 1) (ls' := [.ref (t + 3), .int a1, .int a2, .int a3, .int (a4 + 1), u5, u6]) dPr_deepest_131 rfl rfl rfl).trans (w_goto (t := 13) dPr_deepest_134 (by decide))
theorem bPr_deepest_137 {E : mEn} {d : Nat} {σ : mSt} {Q : mPost} {a1 : Int32} {a2 : Int32} {a3 : Int32} {a4 : Int32} {u5 : Value} {u6 : Value} {t : Nat} (ht : isT t) : WP E d mPr_deepest 137 [.ref (t + 3), .int a1, .int a2, .int a3, .int a4, u5, u6] [] σ Q = Q (some (.int a3)) σ := (w_iload_n dPr_deepest_137 rfl).trans (w_iret dPr_deepest_138 rfl)
theorem dPr_handed_0 : decode (mC mPr_handed) 0 = .ok (.iconst (0), 1) := by decide +kernel
theorem dPr_handed_1 : decode (mC mPr_handed) 1 = .ok (.istore_n 3, 1) := by decide +kernel
theorem dPr_handed_2 : decode (mC mPr_handed) 2 = .ok (.iconst (0), 1) := by decide +kernel
theorem dPr_handed_3 : decode (mC mPr_handed) 3 = .ok (.istore 4, 2) := by decide +kernel
theorem dPr_handed_5 : decode (mC mPr_handed) 5 = .ok (.iload 4, 2) := by decide +kernel
theorem dPr_handed_7 : decode (mC mPr_handed) 7 = .ok (.aload_n 0, 1) := by decide +kernel
theorem dPr_handed_8 : decode (mC mPr_handed) 8 = .ok (.getfield 37, 3) := by decide +kernel
theorem dPr_handed_11 : decode (mC mPr_handed) 11 = .ok (.if_icmp .ge (50), 3) := by decide +kernel
theorem dPr_handed_14 : decode (mC mPr_handed) 14 = .ok (.aload_n 0, 1) := by decide +kernel
theorem dPr_handed_15 : decode (mC mPr_handed) 15 = .ok (.iload 4, 2) := by decide +kernel
theorem dPr_handed_17 : decode (mC mPr_handed) 17 = .ok (.invokevirtual 63, 3) := by decide +kernel
theorem dPr_handed_20 : decode (mC mPr_handed) 20 = .ok (.ifCond .eq (35), 3) := by decide +kernel
theorem dPr_handed_23 : decode (mC mPr_handed) 23 = .ok (.aload_n 0, 1) := by decide +kernel
theorem dPr_handed_24 : decode (mC mPr_handed) 24 = .ok (.getfield 18, 3) := by decide +kernel
theorem dPr_handed_27 : decode (mC mPr_handed) 27 = .ok (.iload 4, 2) := by decide +kernel
theorem dPr_handed_29 : decode (mC mPr_handed) 29 = .ok (.iaload, 1) := by decide +kernel
theorem dPr_handed_30 : decode (mC mPr_handed) 30 = .ok (.iload_n 1, 1) := by decide +kernel
theorem dPr_handed_31 : decode (mC mPr_handed) 31 = .ok (.if_icmp .ne (24), 3) := by decide +kernel
theorem dPr_handed_34 : decode (mC mPr_handed) 34 = .ok (.aload_n 0, 1) := by decide +kernel
theorem dPr_handed_35 : decode (mC mPr_handed) 35 = .ok (.getfield 21, 3) := by decide +kernel
theorem dPr_handed_38 : decode (mC mPr_handed) 38 = .ok (.iload 4, 2) := by decide +kernel
theorem dPr_handed_40 : decode (mC mPr_handed) 40 = .ok (.iaload, 1) := by decide +kernel
theorem dPr_handed_41 : decode (mC mPr_handed) 41 = .ok (.iload_n 2, 1) := by decide +kernel
theorem dPr_handed_42 : decode (mC mPr_handed) 42 = .ok (.if_icmp .ne (13), 3) := by decide +kernel
theorem dPr_handed_45 : decode (mC mPr_handed) 45 = .ok (.iload_n 3, 1) := by decide +kernel
theorem dPr_handed_46 : decode (mC mPr_handed) 46 = .ok (.aload_n 0, 1) := by decide +kernel
theorem dPr_handed_47 : decode (mC mPr_handed) 47 = .ok (.getfield 9, 3) := by decide +kernel
theorem dPr_handed_50 : decode (mC mPr_handed) 50 = .ok (.iload 4, 2) := by decide +kernel
theorem dPr_handed_52 : decode (mC mPr_handed) 52 = .ok (.iaload, 1) := by decide +kernel
theorem dPr_handed_53 : decode (mC mPr_handed) 53 = .ok (.iadd, 1) := by decide +kernel
theorem dPr_handed_54 : decode (mC mPr_handed) 54 = .ok (.istore_n 3, 1) := by decide +kernel
theorem dPr_handed_55 : decode (mC mPr_handed) 55 = .ok (.iinc 4 (1), 3) := by decide +kernel
theorem dPr_handed_58 : decode (mC mPr_handed) 58 = .ok (.goto (-53), 3) := by decide +kernel
theorem dPr_handed_61 : decode (mC mPr_handed) 61 = .ok (.iload_n 3, 1) := by decide +kernel
theorem dPr_handed_62 : decode (mC mPr_handed) 62 = .ok (.ireturn, 1) := by decide +kernel
theorem bPr_handed_0 {E : mEn} {d : Nat} {σ : mSt} {Q : mPost} {a1 : Int32} {a2 : Int32} {u3 : Value} {u4 : Value} {t : Nat} (ht : isT t) : WP E d mPr_handed 0 [.ref (t + 3), .int a1, .int a2, u3, u4] [] σ Q = WP E d mPr_handed 5 [.ref (t + 3), .int a1, .int a2, .int 0, .int 0] [] σ Q := (w_iconst (v := 0) dPr_handed_0 rfl).trans ((w_istore_n (ls' := [.ref (t + 3), .int a1, .int a2, .int 0, u4]) dPr_handed_1 (Nat.le_of_ble_eq_true rfl) rfl).trans ((w_iconst (v := 0) dPr_handed_2 rfl).trans (w_istore (ls' := [.ref (t + 3), .int a1, .int a2, .int 0, .int 0]) dPr_handed_3 (Nat.le_of_ble_eq_true rfl) rfl)))
theorem bPr_handed_5 {E : mEn} {d : Nat} {σ : mSt} {Q : mPost} {a1 : Int32} {a2 : Int32} {a3 : Int32} {a4 : Int32} {t : Nat} (ht : isT t) : WP E d mPr_handed 5 [.ref (t + 3), .int a1, .int a2, .int a3, .int a4] [] σ Q = (if (σ.1 (t + 3) 8) ≤ a4 then WP E d mPr_handed 61 [.ref (t + 3), .int a1, .int a2, .int a3, .int a4] [] σ Q else WP E d mPr_handed 14 [.ref (t + 3), .int a1, .int a2, .int a3, .int a4] [] σ Q) := (w_iload dPr_handed_5 rfl).trans ((w_aload_n dPr_handed_7 rfl).trans ((w_geti dPr_handed_8 rz4_37 (shT_3 ht) rfl).trans (w_icmpge (t := 61) dPr_handed_11 (by decide))))
theorem bPr_handed_14 {E : mEn} {d : Nat} {σ : mSt} {Q : mPost} {a1 : Int32} {a2 : Int32} {a3 : Int32} {a4 : Int32} {t : Nat} (ht : isT t) : WP E (d + 1) mPr_handed 14 [.ref (t + 3), .int a1, .int a2, .int a3, .int a4] [] σ Q = WP E d mPr_stands 0 [.ref (t + 3), .int a4] [] σ (fun r σ' => WP E (d + 1) mPr_handed 20 [.ref (t + 3), .int a1, .int a2, .int a3, .int a4] (r.toList ++ []) σ' Q) := (w_aload_n dPr_handed_14 rfl).trans ((w_iload dPr_handed_15 rfl).trans (w_virt (vs := [.int a4]) (st' := []) (es := [.ref (t + 3), .int a4]) dPr_handed_17 rz4_63 rfl (shT_3 ht) rfl rfl rfl (Nat.le_of_ble_eq_true rfl) (Nat.le_of_ble_eq_true rfl) rfl))
theorem bPr_handed_20 {E : mEn} {d : Nat} {σ : mSt} {Q : mPost} {a1 : Int32} {a2 : Int32} {a3 : Int32} {a4 : Int32} {s0 : Int32} {t : Nat} (ht : isT t) : WP E d mPr_handed 20 [.ref (t + 3), .int a1, .int a2, .int a3, .int a4] [.int s0] σ Q = (if s0 = 0 then WP E d mPr_handed 55 [.ref (t + 3), .int a1, .int a2, .int a3, .int a4] [] σ Q else WP E d mPr_handed 23 [.ref (t + 3), .int a1, .int a2, .int a3, .int a4] [] σ Q) := w_ifeq (t := 55) dPr_handed_20 (by decide)
theorem bPr_handed_23 {E : mEn} {d : Nat} {σ : mSt} {Q : mPost} {a1 : Int32} {a2 : Int32} {a3 : Int32} {a4 : Int32} {t : Nat} (ht : isT t) : WP E d mPr_handed 23 [.ref (t + 3), .int a1, .int a2, .int a3, .int a4] [] σ Q = (if mOut a4 40 = true then False else (if ¬ (σ.1 (t + 6) a4.toNatClampNeg) = a1 then WP E d mPr_handed 55 [.ref (t + 3), .int a1, .int a2, .int a3, .int a4] [] σ Q else WP E d mPr_handed 34 [.ref (t + 3), .int a1, .int a2, .int a3, .int a4] [] σ Q)) := (w_aload_n dPr_handed_23 rfl).trans ((w_getr (r := t + 6) dPr_handed_24 rz4_18 (shT_3 ht) rfl).trans ((w_iload dPr_handed_27 rfl).trans ((w_iald dPr_handed_29 (shT_6 ht) (ltT ht (by decide))).trans (ite_c ((w_iload_n dPr_handed_30 rfl).trans (w_icmpne (t := 55) dPr_handed_31 (by decide)))))))
theorem bPr_handed_34 {E : mEn} {d : Nat} {σ : mSt} {Q : mPost} {a1 : Int32} {a2 : Int32} {a3 : Int32} {a4 : Int32} {t : Nat} (ht : isT t) : WP E d mPr_handed 34 [.ref (t + 3), .int a1, .int a2, .int a3, .int a4] [] σ Q = (if mOut a4 40 = true then False else (if ¬ (σ.1 (t + 7) a4.toNatClampNeg) = a2 then WP E d mPr_handed 55 [.ref (t + 3), .int a1, .int a2, .int a3, .int a4] [] σ Q else WP E d mPr_handed 45 [.ref (t + 3), .int a1, .int a2, .int a3, .int a4] [] σ Q)) := (w_aload_n dPr_handed_34 rfl).trans ((w_getr (r := t + 7) dPr_handed_35 rz4_21 (shT_3 ht) rfl).trans ((w_iload dPr_handed_38 rfl).trans ((w_iald dPr_handed_40 (shT_7 ht) (ltT ht (by decide))).trans (ite_c ((w_iload_n dPr_handed_41 rfl).trans (w_icmpne (t := 55) dPr_handed_42 (by decide)))))))
theorem bPr_handed_45 {E : mEn} {d : Nat} {σ : mSt} {Q : mPost} {a1 : Int32} {a2 : Int32} {a3 : Int32} {a4 : Int32} {t : Nat} (ht : isT t) : WP E d mPr_handed 45 [.ref (t + 3), .int a1, .int a2, .int a3, .int a4] [] σ Q = (if mOut a4 40 = true then False else WP E d mPr_handed 55 [.ref (t + 3), .int a1, .int a2, .int (a3 + (σ.1 (t + 4) a4.toNatClampNeg)), .int a4] [] σ Q) := (w_iload_n dPr_handed_45 rfl).trans ((w_aload_n dPr_handed_46 rfl).trans ((w_getr (r := t + 4) dPr_handed_47 rz4_9 (shT_3 ht) rfl).trans ((w_iload dPr_handed_50 rfl).trans ((w_iald dPr_handed_52 (shT_4 ht) (ltT ht (by decide))).trans (ite_c ((w_iadd dPr_handed_53).trans (w_istore_n (ls' := [.ref (t + 3), .int a1, .int a2, .int (a3 + (σ.1 (t + 4) a4.toNatClampNeg)), .int a4]) dPr_handed_54 (Nat.le_of_ble_eq_true rfl) rfl)))))))
theorem bPr_handed_55 {E : mEn} {d : Nat} {σ : mSt} {Q : mPost} {a1 : Int32} {a2 : Int32} {a3 : Int32} {a4 : Int32} {t : Nat} (ht : isT t) : WP E d mPr_handed 55 [.ref (t + 3), .int a1, .int a2, .int a3, .int a4] [] σ Q = WP E d mPr_handed 5 [.ref (t + 3), .int a1, .int a2, .int a3, .int (a4 + 1)] [] σ Q := (w_iinc (v := 1) (ls' := [.ref (t + 3), .int a1, .int a2, .int a3, .int (a4 + 1)]) dPr_handed_55 rfl rfl rfl).trans (w_goto (t := 5) dPr_handed_58 (by decide))
theorem bPr_handed_61 {E : mEn} {d : Nat} {σ : mSt} {Q : mPost} {a1 : Int32} {a2 : Int32} {a3 : Int32} {a4 : Int32} {t : Nat} (ht : isT t) : WP E d mPr_handed 61 [.ref (t + 3), .int a1, .int a2, .int a3, .int a4] [] σ Q = Q (some (.int a3)) σ := (w_iload_n dPr_handed_61 rfl).trans (w_iret dPr_handed_62 rfl)
theorem dPr_stands_0 : decode (mC mPr_stands) 0 = .ok (.aload_n 0, 1) := by decide +kernel
theorem dPr_stands_1 : decode (mC mPr_stands) 1 = .ok (.iload_n 1, 1) := by decide +kernel
theorem dPr_stands_2 : decode (mC mPr_stands) 2 = .ok (.invokevirtual 47, 3) := by decide +kernel
theorem dPr_stands_5 : decode (mC mPr_stands) 5 = .ok (.ifCond .eq (16), 3) := by decide +kernel
theorem dPr_stands_8 : decode (mC mPr_stands) 8 = .ok (.aload_n 0, 1) := by decide +kernel
theorem dPr_stands_9 : decode (mC mPr_stands) 9 = .ok (.getfield 27, 3) := by decide +kernel
theorem dPr_stands_12 : decode (mC mPr_stands) 12 = .ok (.iload_n 1, 1) := by decide +kernel
theorem dPr_stands_13 : decode (mC mPr_stands) 13 = .ok (.baload, 1) := by decide +kernel
theorem dPr_stands_14 : decode (mC mPr_stands) 14 = .ok (.ifCond .ne (7), 3) := by decide +kernel
theorem dPr_stands_17 : decode (mC mPr_stands) 17 = .ok (.iconst (1), 1) := by decide +kernel
theorem dPr_stands_18 : decode (mC mPr_stands) 18 = .ok (.goto (4), 3) := by decide +kernel
theorem dPr_stands_21 : decode (mC mPr_stands) 21 = .ok (.iconst (0), 1) := by decide +kernel
theorem dPr_stands_22 : decode (mC mPr_stands) 22 = .ok (.ireturn, 1) := by decide +kernel
theorem bPr_stands_0 {E : mEn} {d : Nat} {σ : mSt} {Q : mPost} {a1 : Int32} {t : Nat} (ht : isT t) : WP E (d + 1) mPr_stands 0 [.ref (t + 3), .int a1] [] σ Q = WP E d mPr_has 0 [.ref (t + 3), .int a1] [] σ (fun r σ' => WP E (d + 1) mPr_stands 5 [.ref (t + 3), .int a1] (r.toList ++ []) σ' Q) := (w_aload_n dPr_stands_0 rfl).trans ((w_iload_n dPr_stands_1 rfl).trans (w_virt (vs := [.int a1]) (st' := []) (es := [.ref (t + 3), .int a1]) dPr_stands_2 rz4_47 rfl (shT_3 ht) rfl rfl rfl (Nat.le_of_ble_eq_true rfl) (Nat.le_of_ble_eq_true rfl) rfl))
theorem bPr_stands_5 {E : mEn} {d : Nat} {σ : mSt} {Q : mPost} {a1 : Int32} {s0 : Int32} {t : Nat} (ht : isT t) : WP E d mPr_stands 5 [.ref (t + 3), .int a1] [.int s0] σ Q = (if s0 = 0 then WP E d mPr_stands 21 [.ref (t + 3), .int a1] [] σ Q else WP E d mPr_stands 8 [.ref (t + 3), .int a1] [] σ Q) := w_ifeq (t := 21) dPr_stands_5 (by decide)
theorem bPr_stands_8 {E : mEn} {d : Nat} {σ : mSt} {Q : mPost} {a1 : Int32} {t : Nat} (ht : isT t) : WP E d mPr_stands 8 [.ref (t + 3), .int a1] [] σ Q = (if mOut a1 40 = true then False else (if ¬ (σ.1 (t + 9) a1.toNatClampNeg) = 0 then WP E d mPr_stands 21 [.ref (t + 3), .int a1] [] σ Q else WP E d mPr_stands 17 [.ref (t + 3), .int a1] [] σ Q)) := (w_aload_n dPr_stands_8 rfl).trans ((w_getr (r := t + 9) dPr_stands_9 rz4_27 (shT_3 ht) rfl).trans ((w_iload_n dPr_stands_12 rfl).trans ((w_zald dPr_stands_13 (shT_9 ht)).trans (ite_c (w_ifne (t := 21) dPr_stands_14 (by decide))))))
theorem bPr_stands_17 {E : mEn} {d : Nat} {σ : mSt} {Q : mPost} {a1 : Int32} {t : Nat} (ht : isT t) : WP E d mPr_stands 17 [.ref (t + 3), .int a1] [] σ Q = WP E d mPr_stands 22 [.ref (t + 3), .int a1] [.int 1] σ Q := (w_iconst (v := 1) dPr_stands_17 rfl).trans (w_goto (t := 22) dPr_stands_18 (by decide))
theorem bPr_stands_21 {E : mEn} {d : Nat} {σ : mSt} {Q : mPost} {a1 : Int32} {t : Nat} (ht : isT t) : WP E d mPr_stands 21 [.ref (t + 3), .int a1] [] σ Q = WP E d mPr_stands 22 [.ref (t + 3), .int a1] [.int 0] σ Q := w_iconst (v := 0) dPr_stands_21 rfl
theorem bPr_stands_22 {E : mEn} {d : Nat} {σ : mSt} {Q : mPost} {a1 : Int32} {s0 : Int32} {t : Nat} (ht : isT t) (hz0 : s0 = 0 ∨ s0 = 1) : WP E d mPr_stands 22 [.ref (t + 3), .int a1] [.int s0] σ Q = Q (some (.int s0)) σ := w_zret dPr_stands_22 rfl hz0
theorem dPr_surplus_0 : decode (mC mPr_surplus) 0 = .ok (.iconst (0), 1) := by decide +kernel
theorem dPr_surplus_1 : decode (mC mPr_surplus) 1 = .ok (.istore_n 2, 1) := by decide +kernel
theorem dPr_surplus_2 : decode (mC mPr_surplus) 2 = .ok (.iconst (0), 1) := by decide +kernel
theorem dPr_surplus_3 : decode (mC mPr_surplus) 3 = .ok (.istore_n 3, 1) := by decide +kernel
theorem dPr_surplus_4 : decode (mC mPr_surplus) 4 = .ok (.iload_n 3, 1) := by decide +kernel
theorem dPr_surplus_5 : decode (mC mPr_surplus) 5 = .ok (.aload_n 0, 1) := by decide +kernel
theorem dPr_surplus_6 : decode (mC mPr_surplus) 6 = .ok (.getfield 37, 3) := by decide +kernel
theorem dPr_surplus_9 : decode (mC mPr_surplus) 9 = .ok (.if_icmp .ge (63), 3) := by decide +kernel
theorem dPr_surplus_12 : decode (mC mPr_surplus) 12 = .ok (.aload_n 0, 1) := by decide +kernel
theorem dPr_surplus_13 : decode (mC mPr_surplus) 13 = .ok (.iload_n 3, 1) := by decide +kernel
theorem dPr_surplus_14 : decode (mC mPr_surplus) 14 = .ok (.invokevirtual 63, 3) := by decide +kernel
theorem dPr_surplus_17 : decode (mC mPr_surplus) 17 = .ok (.ifCond .eq (22), 3) := by decide +kernel
theorem dPr_surplus_20 : decode (mC mPr_surplus) 20 = .ok (.aload_n 0, 1) := by decide +kernel
theorem dPr_surplus_21 : decode (mC mPr_surplus) 21 = .ok (.getfield 21, 3) := by decide +kernel
theorem dPr_surplus_24 : decode (mC mPr_surplus) 24 = .ok (.iload_n 3, 1) := by decide +kernel
theorem dPr_surplus_25 : decode (mC mPr_surplus) 25 = .ok (.iaload, 1) := by decide +kernel
theorem dPr_surplus_26 : decode (mC mPr_surplus) 26 = .ok (.iload_n 1, 1) := by decide +kernel
theorem dPr_surplus_27 : decode (mC mPr_surplus) 27 = .ok (.if_icmp .ne (12), 3) := by decide +kernel
theorem dPr_surplus_30 : decode (mC mPr_surplus) 30 = .ok (.iload_n 2, 1) := by decide +kernel
theorem dPr_surplus_31 : decode (mC mPr_surplus) 31 = .ok (.aload_n 0, 1) := by decide +kernel
theorem dPr_surplus_32 : decode (mC mPr_surplus) 32 = .ok (.getfield 9, 3) := by decide +kernel
theorem dPr_surplus_35 : decode (mC mPr_surplus) 35 = .ok (.iload_n 3, 1) := by decide +kernel
theorem dPr_surplus_36 : decode (mC mPr_surplus) 36 = .ok (.iaload, 1) := by decide +kernel
theorem dPr_surplus_37 : decode (mC mPr_surplus) 37 = .ok (.iadd, 1) := by decide +kernel
theorem dPr_surplus_38 : decode (mC mPr_surplus) 38 = .ok (.istore_n 2, 1) := by decide +kernel
theorem dPr_surplus_39 : decode (mC mPr_surplus) 39 = .ok (.aload_n 0, 1) := by decide +kernel
theorem dPr_surplus_40 : decode (mC mPr_surplus) 40 = .ok (.iload_n 3, 1) := by decide +kernel
theorem dPr_surplus_41 : decode (mC mPr_surplus) 41 = .ok (.invokevirtual 63, 3) := by decide +kernel
theorem dPr_surplus_44 : decode (mC mPr_surplus) 44 = .ok (.ifCond .eq (22), 3) := by decide +kernel
theorem dPr_surplus_47 : decode (mC mPr_surplus) 47 = .ok (.aload_n 0, 1) := by decide +kernel
theorem dPr_surplus_48 : decode (mC mPr_surplus) 48 = .ok (.getfield 18, 3) := by decide +kernel
theorem dPr_surplus_51 : decode (mC mPr_surplus) 51 = .ok (.iload_n 3, 1) := by decide +kernel
theorem dPr_surplus_52 : decode (mC mPr_surplus) 52 = .ok (.iaload, 1) := by decide +kernel
theorem dPr_surplus_53 : decode (mC mPr_surplus) 53 = .ok (.iload_n 1, 1) := by decide +kernel
theorem dPr_surplus_54 : decode (mC mPr_surplus) 54 = .ok (.if_icmp .ne (12), 3) := by decide +kernel
theorem dPr_surplus_57 : decode (mC mPr_surplus) 57 = .ok (.iload_n 2, 1) := by decide +kernel
theorem dPr_surplus_58 : decode (mC mPr_surplus) 58 = .ok (.aload_n 0, 1) := by decide +kernel
theorem dPr_surplus_59 : decode (mC mPr_surplus) 59 = .ok (.getfield 9, 3) := by decide +kernel
theorem dPr_surplus_62 : decode (mC mPr_surplus) 62 = .ok (.iload_n 3, 1) := by decide +kernel
theorem dPr_surplus_63 : decode (mC mPr_surplus) 63 = .ok (.iaload, 1) := by decide +kernel
theorem dPr_surplus_64 : decode (mC mPr_surplus) 64 = .ok (.isub, 1) := by decide +kernel
theorem dPr_surplus_65 : decode (mC mPr_surplus) 65 = .ok (.istore_n 2, 1) := by decide +kernel
theorem dPr_surplus_66 : decode (mC mPr_surplus) 66 = .ok (.iinc 3 (1), 3) := by decide +kernel
theorem dPr_surplus_69 : decode (mC mPr_surplus) 69 = .ok (.goto (-65), 3) := by decide +kernel
theorem dPr_surplus_72 : decode (mC mPr_surplus) 72 = .ok (.iload_n 2, 1) := by decide +kernel
theorem dPr_surplus_73 : decode (mC mPr_surplus) 73 = .ok (.ireturn, 1) := by decide +kernel
theorem bPr_surplus_0 {E : mEn} {d : Nat} {σ : mSt} {Q : mPost} {a1 : Int32} {u2 : Value} {u3 : Value} {t : Nat} (ht : isT t) : WP E d mPr_surplus 0 [.ref (t + 3), .int a1, u2, u3] [] σ Q = WP E d mPr_surplus 4 [.ref (t + 3), .int a1, .int 0, .int 0] [] σ Q := (w_iconst (v := 0) dPr_surplus_0 rfl).trans ((w_istore_n (ls' := [.ref (t + 3), .int a1, .int 0, u3]) dPr_surplus_1 (Nat.le_of_ble_eq_true rfl) rfl).trans ((w_iconst (v := 0) dPr_surplus_2 rfl).trans (w_istore_n (ls' := [.ref (t + 3), .int a1, .int 0, .int 0]) dPr_surplus_3 (Nat.le_of_ble_eq_true rfl) rfl)))
theorem bPr_surplus_4 {E : mEn} {d : Nat} {σ : mSt} {Q : mPost} {a1 : Int32} {a2 : Int32} {a3 : Int32} {t : Nat} (ht : isT t) : WP E d mPr_surplus 4 [.ref (t + 3), .int a1, .int a2, .int a3] [] σ Q = (if (σ.1 (t + 3) 8) ≤ a3 then WP E d mPr_surplus 72 [.ref (t + 3), .int a1, .int a2, .int a3] [] σ Q else WP E d mPr_surplus 12 [.ref (t + 3), .int a1, .int a2, .int a3] [] σ Q) := (w_iload_n dPr_surplus_4 rfl).trans ((w_aload_n dPr_surplus_5 rfl).trans ((w_geti dPr_surplus_6 rz4_37 (shT_3 ht) rfl).trans (w_icmpge (t := 72) dPr_surplus_9 (by decide))))
theorem bPr_surplus_12 {E : mEn} {d : Nat} {σ : mSt} {Q : mPost} {a1 : Int32} {a2 : Int32} {a3 : Int32} {t : Nat} (ht : isT t) : WP E (d + 1) mPr_surplus 12 [.ref (t + 3), .int a1, .int a2, .int a3] [] σ Q = WP E d mPr_stands 0 [.ref (t + 3), .int a3] [] σ (fun r σ' => WP E (d + 1) mPr_surplus 17 [.ref (t + 3), .int a1, .int a2, .int a3] (r.toList ++ []) σ' Q) := (w_aload_n dPr_surplus_12 rfl).trans ((w_iload_n dPr_surplus_13 rfl).trans (w_virt (vs := [.int a3]) (st' := []) (es := [.ref (t + 3), .int a3]) dPr_surplus_14 rz4_63 rfl (shT_3 ht) rfl rfl rfl (Nat.le_of_ble_eq_true rfl) (Nat.le_of_ble_eq_true rfl) rfl))
theorem bPr_surplus_17 {E : mEn} {d : Nat} {σ : mSt} {Q : mPost} {a1 : Int32} {a2 : Int32} {a3 : Int32} {s0 : Int32} {t : Nat} (ht : isT t) : WP E d mPr_surplus 17 [.ref (t + 3), .int a1, .int a2, .int a3] [.int s0] σ Q = (if s0 = 0 then WP E d mPr_surplus 39 [.ref (t + 3), .int a1, .int a2, .int a3] [] σ Q else WP E d mPr_surplus 20 [.ref (t + 3), .int a1, .int a2, .int a3] [] σ Q) := w_ifeq (t := 39) dPr_surplus_17 (by decide)
theorem bPr_surplus_20 {E : mEn} {d : Nat} {σ : mSt} {Q : mPost} {a1 : Int32} {a2 : Int32} {a3 : Int32} {t : Nat} (ht : isT t) : WP E d mPr_surplus 20 [.ref (t + 3), .int a1, .int a2, .int a3] [] σ Q = (if mOut a3 40 = true then False else (if ¬ (σ.1 (t + 7) a3.toNatClampNeg) = a1 then WP E d mPr_surplus 39 [.ref (t + 3), .int a1, .int a2, .int a3] [] σ Q else WP E d mPr_surplus 30 [.ref (t + 3), .int a1, .int a2, .int a3] [] σ Q)) := (w_aload_n dPr_surplus_20 rfl).trans ((w_getr (r := t + 7) dPr_surplus_21 rz4_21 (shT_3 ht) rfl).trans ((w_iload_n dPr_surplus_24 rfl).trans ((w_iald dPr_surplus_25 (shT_7 ht) (ltT ht (by decide))).trans (ite_c ((w_iload_n dPr_surplus_26 rfl).trans (w_icmpne (t := 39) dPr_surplus_27 (by decide)))))))
theorem bPr_surplus_30 {E : mEn} {d : Nat} {σ : mSt} {Q : mPost} {a1 : Int32} {a2 : Int32} {a3 : Int32} {t : Nat} (ht : isT t) : WP E d mPr_surplus 30 [.ref (t + 3), .int a1, .int a2, .int a3] [] σ Q = (if mOut a3 40 = true then False else WP E d mPr_surplus 39 [.ref (t + 3), .int a1, .int (a2 + (σ.1 (t + 4) a3.toNatClampNeg)), .int a3] [] σ Q) := (w_iload_n dPr_surplus_30 rfl).trans ((w_aload_n dPr_surplus_31 rfl).trans ((w_getr (r := t + 4) dPr_surplus_32 rz4_9 (shT_3 ht) rfl).trans ((w_iload_n dPr_surplus_35 rfl).trans ((w_iald dPr_surplus_36 (shT_4 ht) (ltT ht (by decide))).trans (ite_c ((w_iadd dPr_surplus_37).trans (w_istore_n (ls' := [.ref (t + 3), .int a1, .int (a2 + (σ.1 (t + 4) a3.toNatClampNeg)), .int a3]) dPr_surplus_38 (Nat.le_of_ble_eq_true rfl) rfl)))))))
theorem bPr_surplus_39 {E : mEn} {d : Nat} {σ : mSt} {Q : mPost} {a1 : Int32} {a2 : Int32} {a3 : Int32} {t : Nat} (ht : isT t) : WP E (d + 1) mPr_surplus 39 [.ref (t + 3), .int a1, .int a2, .int a3] [] σ Q = WP E d mPr_stands 0 [.ref (t + 3), .int a3] [] σ (fun r σ' => WP E (d + 1) mPr_surplus 44 [.ref (t + 3), .int a1, .int a2, .int a3] (r.toList ++ []) σ' Q) := (w_aload_n dPr_surplus_39 rfl).trans ((w_iload_n dPr_surplus_40 rfl).trans (w_virt (vs := [.int a3]) (st' := []) (es := [.ref (t + 3), .int a3]) dPr_surplus_41 rz4_63 rfl (shT_3 ht) rfl rfl rfl (Nat.le_of_ble_eq_true rfl) (Nat.le_of_ble_eq_true rfl) rfl))
theorem bPr_surplus_44 {E : mEn} {d : Nat} {σ : mSt} {Q : mPost} {a1 : Int32} {a2 : Int32} {a3 : Int32} {s0 : Int32} {t : Nat} (ht : isT t) : WP E d mPr_surplus 44 [.ref (t + 3), .int a1, .int a2, .int a3] [.int s0] σ Q = (if s0 = 0 then WP E d mPr_surplus 66 [.ref (t + 3), .int a1, .int a2, .int a3] [] σ Q else WP E d mPr_surplus 47 [.ref (t + 3), .int a1, .int a2, .int a3] [] σ Q) := w_ifeq (t := 66) dPr_surplus_44 (by decide)
theorem bPr_surplus_47 {E : mEn} {d : Nat} {σ : mSt} {Q : mPost} {a1 : Int32} {a2 : Int32} {a3 : Int32} {t : Nat} (ht : isT t) : WP E d mPr_surplus 47 [.ref (t + 3), .int a1, .int a2, .int a3] [] σ Q = (if mOut a3 40 = true then False else (if ¬ (σ.1 (t + 6) a3.toNatClampNeg) = a1 then WP E d mPr_surplus 66 [.ref (t + 3), .int a1, .int a2, .int a3] [] σ Q else WP E d mPr_surplus 57 [.ref (t + 3), .int a1, .int a2, .int a3] [] σ Q)) := (w_aload_n dPr_surplus_47 rfl).trans ((w_getr (r := t + 6) dPr_surplus_48 rz4_18 (shT_3 ht) rfl).trans ((w_iload_n dPr_surplus_51 rfl).trans ((w_iald dPr_surplus_52 (shT_6 ht) (ltT ht (by decide))).trans (ite_c ((w_iload_n dPr_surplus_53 rfl).trans (w_icmpne (t := 66) dPr_surplus_54 (by decide)))))))
theorem bPr_surplus_57 {E : mEn} {d : Nat} {σ : mSt} {Q : mPost} {a1 : Int32} {a2 : Int32} {a3 : Int32} {t : Nat} (ht : isT t) : WP E d mPr_surplus 57 [.ref (t + 3), .int a1, .int a2, .int a3] [] σ Q = (if mOut a3 40 = true then False else WP E d mPr_surplus 66 [.ref (t + 3), .int a1, .int (a2 - (σ.1 (t + 4) a3.toNatClampNeg)), .int a3] [] σ Q) := (w_iload_n dPr_surplus_57 rfl).trans ((w_aload_n dPr_surplus_58 rfl).trans ((w_getr (r := t + 4) dPr_surplus_59 rz4_9 (shT_3 ht) rfl).trans ((w_iload_n dPr_surplus_62 rfl).trans ((w_iald dPr_surplus_63 (shT_4 ht) (ltT ht (by decide))).trans (ite_c ((w_isub dPr_surplus_64).trans (w_istore_n (ls' := [.ref (t + 3), .int a1, .int (a2 - (σ.1 (t + 4) a3.toNatClampNeg)), .int a3]) dPr_surplus_65 (Nat.le_of_ble_eq_true rfl) rfl)))))))
theorem bPr_surplus_66 {E : mEn} {d : Nat} {σ : mSt} {Q : mPost} {a1 : Int32} {a2 : Int32} {a3 : Int32} {t : Nat} (ht : isT t) : WP E d mPr_surplus 66 [.ref (t + 3), .int a1, .int a2, .int a3] [] σ Q = WP E d mPr_surplus 4 [.ref (t + 3), .int a1, .int a2, .int (a3 + 1)] [] σ Q := (w_iinc (v := 1) (ls' := [.ref (t + 3), .int a1, .int a2, .int (a3 + 1)]) dPr_surplus_66 rfl rfl rfl).trans (w_goto (t := 4) dPr_surplus_69 (by decide))
theorem bPr_surplus_72 {E : mEn} {d : Nat} {σ : mSt} {Q : mPost} {a1 : Int32} {a2 : Int32} {a3 : Int32} {t : Nat} (ht : isT t) : WP E d mPr_surplus 72 [.ref (t + 3), .int a1, .int a2, .int a3] [] σ Q = Q (some (.int a2)) σ := (w_iload_n dPr_surplus_72 rfl).trans (w_iret dPr_surplus_73 rfl)
