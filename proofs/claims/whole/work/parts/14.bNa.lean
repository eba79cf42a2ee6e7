theorem dNa_clear_0 : decode (mC mNa_clear) 0 = .ok (.aload_n 0, 1) := by decide +kernel
theorem dNa_clear_1 : decode (mC mNa_clear) 1 = .ok (.getfield 9, 3) := by decide +kernel
theorem dNa_clear_4 : decode (mC mNa_clear) 4 = .ok (.lconst 0, 1) := by decide +kernel
theorem dNa_clear_5 : decode (mC mNa_clear) 5 = .ok (.invokestatic 15, 3) := by decide +kernel
theorem dNa_clear_8 : decode (mC mNa_clear) 8 = .ok (.return_, 1) := by decide +kernel
theorem bNa_clear_0 {E : mEn} {d : Nat} {σ : mSt} {Q : mPost} {t : Nat} (ht : isT t) : WP E (d + 1) mNa_clear 0 [.ref (t + 1)] [] σ Q = WP E d mAr_filll 0 [.ref (t + 2), .long 0, uu, uu, uu] [] σ (fun r σ' => WP E (d + 1) mNa_clear 8 [.ref (t + 1)] (r.toList ++ []) σ' Q) := (w_aload_n dNa_clear_0 rfl).trans ((w_getr (r := t + 2) dNa_clear_1 rz2_9 (shT_1 ht) rfl).trans ((w_lconst (v := 0) dNa_clear_4 rfl).trans (w_stat (vs := [.ref (t + 2), .long 0]) (st' := []) (es := [.ref (t + 2), .long 0, uu, uu, uu]) dNa_clear_5 rz2_15 rfl rfl rfl (Nat.le_of_ble_eq_true rfl) (Nat.le_of_ble_eq_true rfl) rfl)))
theorem bNa_clear_8 {E : mEn} {d : Nat} {σ : mSt} {Q : mPost} {t : Nat} (ht : isT t) : WP E d mNa_clear 8 [.ref (t + 1)] [] σ Q = Q none σ := w_vret dNa_clear_8 rfl
theorem dNa_isTaken_0 : decode (mC mNa_isTaken) 0 = .ok (.iconst (0), 1) := by decide +kernel
theorem dNa_isTaken_1 : decode (mC mNa_isTaken) 1 = .ok (.istore_n 3, 1) := by decide +kernel
theorem dNa_isTaken_2 : decode (mC mNa_isTaken) 2 = .ok (.iload_n 3, 1) := by decide +kernel
theorem dNa_isTaken_3 : decode (mC mNa_isTaken) 3 = .ok (.aload_n 0, 1) := by decide +kernel
theorem dNa_isTaken_4 : decode (mC mNa_isTaken) 4 = .ok (.getfield 9, 3) := by decide +kernel
theorem dNa_isTaken_7 : decode (mC mNa_isTaken) 7 = .ok (.arraylength, 1) := by decide +kernel
theorem dNa_isTaken_8 : decode (mC mNa_isTaken) 8 = .ok (.if_icmp .ge (22), 3) := by decide +kernel
theorem dNa_isTaken_11 : decode (mC mNa_isTaken) 11 = .ok (.aload_n 0, 1) := by decide +kernel
theorem dNa_isTaken_12 : decode (mC mNa_isTaken) 12 = .ok (.getfield 9, 3) := by decide +kernel
theorem dNa_isTaken_15 : decode (mC mNa_isTaken) 15 = .ok (.iload_n 3, 1) := by decide +kernel
theorem dNa_isTaken_16 : decode (mC mNa_isTaken) 16 = .ok (.laload, 1) := by decide +kernel
theorem dNa_isTaken_17 : decode (mC mNa_isTaken) 17 = .ok (.lload_n 1, 1) := by decide +kernel
theorem dNa_isTaken_18 : decode (mC mNa_isTaken) 18 = .ok (.lcmp, 1) := by decide +kernel
theorem dNa_isTaken_19 : decode (mC mNa_isTaken) 19 = .ok (.ifCond .ne (5), 3) := by decide +kernel
theorem dNa_isTaken_22 : decode (mC mNa_isTaken) 22 = .ok (.iconst (1), 1) := by decide +kernel
theorem dNa_isTaken_23 : decode (mC mNa_isTaken) 23 = .ok (.ireturn, 1) := by decide +kernel
theorem dNa_isTaken_24 : decode (mC mNa_isTaken) 24 = .ok (.iinc 3 (1), 3) := by decide +kernel
theorem dNa_isTaken_27 : decode (mC mNa_isTaken) 27 = .ok (.goto (-25), 3) := by decide +kernel
theorem dNa_isTaken_30 : decode (mC mNa_isTaken) 30 = .ok (.iconst (0), 1) := by decide +kernel
theorem dNa_isTaken_31 : decode (mC mNa_isTaken) 31 = .ok (.ireturn, 1) := by decide +kernel
theorem bNa_isTaken_0 {E : mEn} {d : Nat} {σ : mSt} {Q : mPost} {j1 : Int64} {u3 : Value} {t : Nat} (ht : isT t) : WP E d mNa_isTaken 0 [.ref (t + 1), .long j1, uu, u3] [] σ Q = WP E d mNa_isTaken 2 [.ref (t + 1), .long j1, uu, .int 0] [] σ Q := (w_iconst (v := 0) dNa_isTaken_0 rfl).trans (w_istore_n (ls' := [.ref (t + 1), .long j1, uu, .int 0]) dNa_isTaken_1 (Nat.le_of_ble_eq_true rfl) rfl)
theorem bNa_isTaken_2 {E : mEn} {d : Nat} {σ : mSt} {Q : mPost} {j1 : Int64} {a3 : Int32} {t : Nat} (ht : isT t) : WP E d mNa_isTaken 2 [.ref (t + 1), .long j1, uu, .int a3] [] σ Q = (if (nI 20) ≤ a3 then WP E d mNa_isTaken 30 [.ref (t + 1), .long j1, uu, .int a3] [] σ Q else WP E d mNa_isTaken 11 [.ref (t + 1), .long j1, uu, .int a3] [] σ Q) := (w_iload_n dNa_isTaken_2 rfl).trans ((w_aload_n dNa_isTaken_3 rfl).trans ((w_getr (r := t + 2) dNa_isTaken_4 rz2_9 (shT_1 ht) rfl).trans ((w_len dNa_isTaken_7 (aLen_of (shT_2 ht) (ltT ht (by decide)) (by decide))).trans (w_icmpge (t := 30) dNa_isTaken_8 (by decide)))))
theorem bNa_isTaken_11 {E : mEn} {d : Nat} {σ : mSt} {Q : mPost} {j1 : Int64} {a3 : Int32} {t : Nat} (ht : isT t) : WP E d mNa_isTaken 11 [.ref (t + 1), .long j1, uu, .int a3] [] σ Q = (if mOut a3 20 = true then False else (if ¬ (lg_cmp (σ.2 (t + 2) a3.toNatClampNeg) j1) = 0 then WP E d mNa_isTaken 24 [.ref (t + 1), .long j1, uu, .int a3] [] σ Q else WP E d mNa_isTaken 22 [.ref (t + 1), .long j1, uu, .int a3] [] σ Q)) := (w_aload_n dNa_isTaken_11 rfl).trans ((w_getr (r := t + 2) dNa_isTaken_12 rz2_9 (shT_1 ht) rfl).trans ((w_iload_n dNa_isTaken_15 rfl).trans ((w_lald dNa_isTaken_16 (shT_2 ht)).trans (ite_c ((w_lload_n dNa_isTaken_17 rfl).trans ((w_lcmp dNa_isTaken_18).trans (w_ifne (t := 24) dNa_isTaken_19 (by decide))))))))
theorem bNa_isTaken_22 {E : mEn} {d : Nat} {σ : mSt} {Q : mPost} {j1 : Int64} {a3 : Int32} {t : Nat} (ht : isT t) : WP E d mNa_isTaken 22 [.ref (t + 1), .long j1, uu, .int a3] [] σ Q = Q (some (.int 1)) σ := (w_iconst (v := 1) dNa_isTaken_22 rfl).trans (w_zret dNa_isTaken_23 rfl (Or.inr rfl))
theorem bNa_isTaken_24 {E : mEn} {d : Nat} {σ : mSt} {Q : mPost} {j1 : Int64} {a3 : Int32} {t : Nat} (ht : isT t) : WP E d mNa_isTaken 24 [.ref (t + 1), .long j1, uu, .int a3] [] σ Q = WP E d mNa_isTaken 2 [.ref (t + 1), .long j1, uu, .int (a3 + 1)] [] σ Q := (w_iinc (v := 1) (ls' := [.ref (t + 1), .long j1, uu, .int (a3 + 1)]) dNa_isTaken_24 rfl rfl rfl).trans (w_goto (t := 2) dNa_isTaken_27 (by decide))
theorem bNa_isTaken_30 {E : mEn} {d : Nat} {σ : mSt} {Q : mPost} {j1 : Int64} {a3 : Int32} {t : Nat} (ht : isT t) : WP E d mNa_isTaken 30 [.ref (t + 1), .long j1, uu, .int a3] [] σ Q = Q (some (.int 0)) σ := (w_iconst (v := 0) dNa_isTaken_30 rfl).trans (w_zret dNa_isTaken_31 rfl (Or.inl rfl))
theorem dNa_give_0 : decode (mC mNa_give) 0 = .ok (.iload_n 1, 1) := by decide +kernel
theorem dNa_give_1 : decode (mC mNa_give) 1 = .ok (.ifCond .lt (12), 3) := by decide +kernel
theorem dNa_give_4 : decode (mC mNa_give) 4 = .ok (.iload_n 1, 1) := by decide +kernel
theorem dNa_give_5 : decode (mC mNa_give) 5 = .ok (.iconst (2), 1) := by decide +kernel
theorem dNa_give_6 : decode (mC mNa_give) 6 = .ok (.if_icmp .gt (7), 3) := by decide +kernel
theorem dNa_give_9 : decode (mC mNa_give) 9 = .ok (.iload_n 2, 1) := by decide +kernel
theorem dNa_give_10 : decode (mC mNa_give) 10 = .ok (.ifCond .ge (4), 3) := by decide +kernel
theorem dNa_give_13 : decode (mC mNa_give) 13 = .ok (.return_, 1) := by decide +kernel
theorem dNa_give_14 : decode (mC mNa_give) 14 = .ok (.getstatic 27, 3) := by decide +kernel
theorem dNa_give_17 : decode (mC mNa_give) 17 = .ok (.iload_n 1, 1) := by decide +kernel
theorem dNa_give_18 : decode (mC mNa_give) 18 = .ok (.iaload, 1) := by decide +kernel
theorem dNa_give_19 : decode (mC mNa_give) 19 = .ok (.iload_n 2, 1) := by decide +kernel
theorem dNa_give_20 : decode (mC mNa_give) 20 = .ok (.iadd, 1) := by decide +kernel
theorem dNa_give_21 : decode (mC mNa_give) 21 = .ok (.istore 5, 2) := by decide +kernel
theorem dNa_give_23 : decode (mC mNa_give) 23 = .ok (.iload 5, 2) := by decide +kernel
theorem dNa_give_25 : decode (mC mNa_give) 25 = .ok (.getstatic 27, 3) := by decide +kernel
theorem dNa_give_28 : decode (mC mNa_give) 28 = .ok (.iload_n 1, 1) := by decide +kernel
theorem dNa_give_29 : decode (mC mNa_give) 29 = .ok (.iconst (1), 1) := by decide +kernel
theorem dNa_give_30 : decode (mC mNa_give) 30 = .ok (.iadd, 1) := by decide +kernel
theorem dNa_give_31 : decode (mC mNa_give) 31 = .ok (.iaload, 1) := by decide +kernel
theorem dNa_give_32 : decode (mC mNa_give) 32 = .ok (.if_icmp .ge (11), 3) := by decide +kernel
theorem dNa_give_35 : decode (mC mNa_give) 35 = .ok (.aload_n 0, 1) := by decide +kernel
theorem dNa_give_36 : decode (mC mNa_give) 36 = .ok (.getfield 9, 3) := by decide +kernel
theorem dNa_give_39 : decode (mC mNa_give) 39 = .ok (.iload 5, 2) := by decide +kernel
theorem dNa_give_41 : decode (mC mNa_give) 41 = .ok (.lload_n 3, 1) := by decide +kernel
theorem dNa_give_42 : decode (mC mNa_give) 42 = .ok (.lastore, 1) := by decide +kernel
theorem dNa_give_43 : decode (mC mNa_give) 43 = .ok (.return_, 1) := by decide +kernel
theorem bNa_give_0 {E : mEn} {d : Nat} {σ : mSt} {Q : mPost} {a1 : Int32} {a2 : Int32} {j3 : Int64} {u5 : Value} {t : Nat} (ht : isT t) : WP E d mNa_give 0 [.ref (t + 1), .int a1, .int a2, .long j3, uu, u5] [] σ Q = (if a1 < 0 then WP E d mNa_give 13 [.ref (t + 1), .int a1, .int a2, .long j3, uu, u5] [] σ Q else WP E d mNa_give 4 [.ref (t + 1), .int a1, .int a2, .long j3, uu, u5] [] σ Q) := (w_iload_n dNa_give_0 rfl).trans (w_iflt (t := 13) dNa_give_1 (by decide))
theorem bNa_give_4 {E : mEn} {d : Nat} {σ : mSt} {Q : mPost} {a1 : Int32} {a2 : Int32} {j3 : Int64} {u5 : Value} {t : Nat} (ht : isT t) : WP E d mNa_give 4 [.ref (t + 1), .int a1, .int a2, .long j3, uu, u5] [] σ Q = (if (nI 2) < a1 then WP E d mNa_give 13 [.ref (t + 1), .int a1, .int a2, .long j3, uu, u5] [] σ Q else WP E d mNa_give 9 [.ref (t + 1), .int a1, .int a2, .long j3, uu, u5] [] σ Q) := (w_iload_n dNa_give_4 rfl).trans ((w_iconst (v := (nI 2)) dNa_give_5 rfl).trans (w_icmpgt (t := 13) dNa_give_6 (by decide)))
theorem bNa_give_9 {E : mEn} {d : Nat} {σ : mSt} {Q : mPost} {a1 : Int32} {a2 : Int32} {j3 : Int64} {u5 : Value} {t : Nat} (ht : isT t) : WP E d mNa_give 9 [.ref (t + 1), .int a1, .int a2, .long j3, uu, u5] [] σ Q = (if 0 ≤ a2 then WP E d mNa_give 14 [.ref (t + 1), .int a1, .int a2, .long j3, uu, u5] [] σ Q else WP E d mNa_give 13 [.ref (t + 1), .int a1, .int a2, .long j3, uu, u5] [] σ Q) := (w_iload_n dNa_give_9 rfl).trans (w_ifge (t := 14) dNa_give_10 (by decide))
theorem bNa_give_13 {E : mEn} {d : Nat} {σ : mSt} {Q : mPost} {a1 : Int32} {a2 : Int32} {j3 : Int64} {u5 : Value} {t : Nat} (ht : isT t) : WP E d mNa_give 13 [.ref (t + 1), .int a1, .int a2, .long j3, uu, u5] [] σ Q = Q none σ := w_vret dNa_give_13 rfl
theorem bNa_give_14 {E : mEn} {d : Nat} {σ : mSt} {Q : mPost} {a1 : Int32} {a2 : Int32} {j3 : Int64} {u5 : Value} {t : Nat} (ht : isT t) : WP E d mNa_give 14 [.ref (t + 1), .int a1, .int a2, .long j3, uu, u5] [] σ Q = (if mOut a1 4 = true then False else (if mOut (a1 + 1) 4 = true then False else (if (mStarts (a1 + 1).toNatClampNeg) ≤ ((mStarts a1.toNatClampNeg) + a2) then WP E d mNa_give 43 [.ref (t + 1), .int a1, .int a2, .long j3, uu, .int ((mStarts a1.toNatClampNeg) + a2)] [] σ Q else WP E d mNa_give 35 [.ref (t + 1), .int a1, .int a2, .long j3, uu, .int ((mStarts a1.toNatClampNeg) + a2)] [] σ Q))) := (w_starts dNa_give_14 rz2_27).trans ((w_iload_n dNa_give_17 rfl).trans ((w_iald1 dNa_give_18).trans (ite_c ((w_iload_n dNa_give_19 rfl).trans ((w_iadd dNa_give_20).trans ((w_istore (ls' := [.ref (t + 1), .int a1, .int a2, .long j3, uu, .int ((mStarts a1.toNatClampNeg) + a2)]) dNa_give_21 (Nat.le_of_ble_eq_true rfl) rfl).trans ((w_iload dNa_give_23 rfl).trans ((w_starts dNa_give_25 rz2_27).trans ((w_iload_n dNa_give_28 rfl).trans ((w_iconst (v := 1) dNa_give_29 rfl).trans ((w_iadd dNa_give_30).trans ((w_iald1 dNa_give_31).trans (ite_c (w_icmpge (t := 43) dNa_give_32 (by decide)))))))))))))))
theorem bNa_give_35 {E : mEn} {d : Nat} {σ : mSt} {Q : mPost} {a1 : Int32} {a2 : Int32} {j3 : Int64} {a5 : Int32} {t : Nat} (ht : isT t) : WP E d mNa_give 35 [.ref (t + 1), .int a1, .int a2, .long j3, uu, .int a5] [] σ Q = (if mOut a5 20 = true then False else WP E d mNa_give 43 [.ref (t + 1), .int a1, .int a2, .long j3, uu, .int a5] [] (sL σ (t + 2) a5.toNatClampNeg j3) Q) := (w_aload_n dNa_give_35 rfl).trans ((w_getr (r := t + 2) dNa_give_36 rz2_9 (shT_1 ht) rfl).trans ((w_iload dNa_give_39 rfl).trans ((w_lload_n dNa_give_41 rfl).trans ((w_last dNa_give_42 (shT_2 ht)).trans (ite_c (rfl))))))
theorem bNa_give_43 {E : mEn} {d : Nat} {σ : mSt} {Q : mPost} {a1 : Int32} {a2 : Int32} {j3 : Int64} {a5 : Int32} {t : Nat} (ht : isT t) : WP E d mNa_give 43 [.ref (t + 1), .int a1, .int a2, .long j3, uu, .int a5] [] σ Q = Q none σ := w_vret dNa_give_43 rfl
theorem dNa_numberOf_0 : decode (mC mNa_numberOf) 0 = .ok (.iload_n 1, 1) := by decide +kernel
theorem dNa_numberOf_1 : decode (mC mNa_numberOf) 1 = .ok (.ifCond .lt (8), 3) := by decide +kernel
theorem dNa_numberOf_4 : decode (mC mNa_numberOf) 4 = .ok (.iload_n 1, 1) := by decide +kernel
theorem dNa_numberOf_5 : decode (mC mNa_numberOf) 5 = .ok (.iconst (2), 1) := by decide +kernel
theorem dNa_numberOf_6 : decode (mC mNa_numberOf) 6 = .ok (.if_icmp .le (5), 3) := by decide +kernel
theorem dNa_numberOf_9 : decode (mC mNa_numberOf) 9 = .ok (.iconst (-1), 1) := by decide +kernel
theorem dNa_numberOf_10 : decode (mC mNa_numberOf) 10 = .ok (.ireturn, 1) := by decide +kernel
theorem dNa_numberOf_11 : decode (mC mNa_numberOf) 11 = .ok (.getstatic 27, 3) := by decide +kernel
theorem dNa_numberOf_14 : decode (mC mNa_numberOf) 14 = .ok (.iload_n 1, 1) := by decide +kernel
theorem dNa_numberOf_15 : decode (mC mNa_numberOf) 15 = .ok (.iaload, 1) := by decide +kernel
theorem dNa_numberOf_16 : decode (mC mNa_numberOf) 16 = .ok (.istore 4, 2) := by decide +kernel
theorem dNa_numberOf_18 : decode (mC mNa_numberOf) 18 = .ok (.iload 4, 2) := by decide +kernel
theorem dNa_numberOf_20 : decode (mC mNa_numberOf) 20 = .ok (.getstatic 27, 3) := by decide +kernel
theorem dNa_numberOf_23 : decode (mC mNa_numberOf) 23 = .ok (.iload_n 1, 1) := by decide +kernel
theorem dNa_numberOf_24 : decode (mC mNa_numberOf) 24 = .ok (.iconst (1), 1) := by decide +kernel
theorem dNa_numberOf_25 : decode (mC mNa_numberOf) 25 = .ok (.iadd, 1) := by decide +kernel
theorem dNa_numberOf_26 : decode (mC mNa_numberOf) 26 = .ok (.iaload, 1) := by decide +kernel
theorem dNa_numberOf_27 : decode (mC mNa_numberOf) 27 = .ok (.if_icmp .ge (30), 3) := by decide +kernel
theorem dNa_numberOf_30 : decode (mC mNa_numberOf) 30 = .ok (.aload_n 0, 1) := by decide +kernel
theorem dNa_numberOf_31 : decode (mC mNa_numberOf) 31 = .ok (.getfield 9, 3) := by decide +kernel
theorem dNa_numberOf_34 : decode (mC mNa_numberOf) 34 = .ok (.iload 4, 2) := by decide +kernel
theorem dNa_numberOf_36 : decode (mC mNa_numberOf) 36 = .ok (.laload, 1) := by decide +kernel
theorem dNa_numberOf_37 : decode (mC mNa_numberOf) 37 = .ok (.lload_n 2, 1) := by decide +kernel
theorem dNa_numberOf_38 : decode (mC mNa_numberOf) 38 = .ok (.lcmp, 1) := by decide +kernel
theorem dNa_numberOf_39 : decode (mC mNa_numberOf) 39 = .ok (.ifCond .ne (12), 3) := by decide +kernel
theorem dNa_numberOf_42 : decode (mC mNa_numberOf) 42 = .ok (.iload 4, 2) := by decide +kernel
theorem dNa_numberOf_44 : decode (mC mNa_numberOf) 44 = .ok (.getstatic 27, 3) := by decide +kernel
theorem dNa_numberOf_47 : decode (mC mNa_numberOf) 47 = .ok (.iload_n 1, 1) := by decide +kernel
theorem dNa_numberOf_48 : decode (mC mNa_numberOf) 48 = .ok (.iaload, 1) := by decide +kernel
theorem dNa_numberOf_49 : decode (mC mNa_numberOf) 49 = .ok (.isub, 1) := by decide +kernel
theorem dNa_numberOf_50 : decode (mC mNa_numberOf) 50 = .ok (.ireturn, 1) := by decide +kernel
theorem dNa_numberOf_51 : decode (mC mNa_numberOf) 51 = .ok (.iinc 4 (1), 3) := by decide +kernel
theorem dNa_numberOf_54 : decode (mC mNa_numberOf) 54 = .ok (.goto (-36), 3) := by decide +kernel
theorem dNa_numberOf_57 : decode (mC mNa_numberOf) 57 = .ok (.iconst (-1), 1) := by decide +kernel
theorem dNa_numberOf_58 : decode (mC mNa_numberOf) 58 = .ok (.ireturn, 1) := by decide +kernel
theorem bNa_numberOf_0 {E : mEn} {d : Nat} {σ : mSt} {Q : mPost} {a1 : Int32} {j2 : Int64} {u4 : Value} {t : Nat} (ht : isT t) : WP E d mNa_numberOf 0 [.ref (t + 1), .int a1, .long j2, uu, u4] [] σ Q = (if a1 < 0 then WP E d mNa_numberOf 9 [.ref (t + 1), .int a1, .long j2, uu, u4] [] σ Q else WP E d mNa_numberOf 4 [.ref (t + 1), .int a1, .long j2, uu, u4] [] σ Q) := (w_iload_n dNa_numberOf_0 rfl).trans (w_iflt (t := 9) dNa_numberOf_1 (by decide))
theorem bNa_numberOf_4 {E : mEn} {d : Nat} {σ : mSt} {Q : mPost} {a1 : Int32} {j2 : Int64} {u4 : Value} {t : Nat} (ht : isT t) : WP E d mNa_numberOf 4 [.ref (t + 1), .int a1, .long j2, uu, u4] [] σ Q = (if a1 ≤ (nI 2) then WP E d mNa_numberOf 11 [.ref (t + 1), .int a1, .long j2, uu, u4] [] σ Q else WP E d mNa_numberOf 9 [.ref (t + 1), .int a1, .long j2, uu, u4] [] σ Q) := (w_iload_n dNa_numberOf_4 rfl).trans ((w_iconst (v := (nI 2)) dNa_numberOf_5 rfl).trans (w_icmple (t := 11) dNa_numberOf_6 (by decide)))
theorem bNa_numberOf_9 {E : mEn} {d : Nat} {σ : mSt} {Q : mPost} {a1 : Int32} {j2 : Int64} {u4 : Value} {t : Nat} (ht : isT t) : WP E d mNa_numberOf 9 [.ref (t + 1), .int a1, .long j2, uu, u4] [] σ Q = Q (some (.int (-1))) σ := (w_iconst (v := (-1)) dNa_numberOf_9 rfl).trans (w_iret dNa_numberOf_10 rfl)
theorem bNa_numberOf_11 {E : mEn} {d : Nat} {σ : mSt} {Q : mPost} {a1 : Int32} {j2 : Int64} {u4 : Value} {t : Nat} (ht : isT t) : WP E d mNa_numberOf 11 [.ref (t + 1), .int a1, .long j2, uu, u4] [] σ Q = (if mOut a1 4 = true then False else WP E d mNa_numberOf 18 [.ref (t + 1), .int a1, .long j2, uu, .int (mStarts a1.toNatClampNeg)] [] σ Q) := (w_starts dNa_numberOf_11 rz2_27).trans ((w_iload_n dNa_numberOf_14 rfl).trans ((w_iald1 dNa_numberOf_15).trans (ite_c (w_istore (ls' := [.ref (t + 1), .int a1, .long j2, uu, .int (mStarts a1.toNatClampNeg)]) dNa_numberOf_16 (Nat.le_of_ble_eq_true rfl) rfl))))
theorem bNa_numberOf_18 {E : mEn} {d : Nat} {σ : mSt} {Q : mPost} {a1 : Int32} {j2 : Int64} {a4 : Int32} {t : Nat} (ht : isT t) : WP E d mNa_numberOf 18 [.ref (t + 1), .int a1, .long j2, uu, .int a4] [] σ Q = (if mOut (a1 + 1) 4 = true then False else (if (mStarts (a1 + 1).toNatClampNeg) ≤ a4 then WP E d mNa_numberOf 57 [.ref (t + 1), .int a1, .long j2, uu, .int a4] [] σ Q else WP E d mNa_numberOf 30 [.ref (t + 1), .int a1, .long j2, uu, .int a4] [] σ Q)) := (w_iload dNa_numberOf_18 rfl).trans ((w_starts dNa_numberOf_20 rz2_27).trans ((w_iload_n dNa_numberOf_23 rfl).trans ((w_iconst (v := 1) dNa_numberOf_24 rfl).trans ((w_iadd dNa_numberOf_25).trans ((w_iald1 dNa_numberOf_26).trans (ite_c (w_icmpge (t := 57) dNa_numberOf_27 (by decide))))))))
theorem bNa_numberOf_30 {E : mEn} {d : Nat} {σ : mSt} {Q : mPost} {a1 : Int32} {j2 : Int64} {a4 : Int32} {t : Nat} (ht : isT t) : WP E d mNa_numberOf 30 [.ref (t + 1), .int a1, .long j2, uu, .int a4] [] σ Q = (if mOut a4 20 = true then False else (if ¬ (lg_cmp (σ.2 (t + 2) a4.toNatClampNeg) j2) = 0 then WP E d mNa_numberOf 51 [.ref (t + 1), .int a1, .long j2, uu, .int a4] [] σ Q else WP E d mNa_numberOf 42 [.ref (t + 1), .int a1, .long j2, uu, .int a4] [] σ Q)) := (w_aload_n dNa_numberOf_30 rfl).trans ((w_getr (r := t + 2) dNa_numberOf_31 rz2_9 (shT_1 ht) rfl).trans ((w_iload dNa_numberOf_34 rfl).trans ((w_lald dNa_numberOf_36 (shT_2 ht)).trans (ite_c ((w_lload_n dNa_numberOf_37 rfl).trans ((w_lcmp dNa_numberOf_38).trans (w_ifne (t := 51) dNa_numberOf_39 (by decide))))))))
theorem bNa_numberOf_42 {E : mEn} {d : Nat} {σ : mSt} {Q : mPost} {a1 : Int32} {j2 : Int64} {a4 : Int32} {t : Nat} (ht : isT t) : WP E d mNa_numberOf 42 [.ref (t + 1), .int a1, .long j2, uu, .int a4] [] σ Q = (if mOut a1 4 = true then False else Q (some (.int (a4 - (mStarts a1.toNatClampNeg)))) σ) := (w_iload dNa_numberOf_42 rfl).trans ((w_starts dNa_numberOf_44 rz2_27).trans ((w_iload_n dNa_numberOf_47 rfl).trans ((w_iald1 dNa_numberOf_48).trans (ite_c ((w_isub dNa_numberOf_49).trans (w_iret dNa_numberOf_50 rfl))))))
theorem bNa_numberOf_51 {E : mEn} {d : Nat} {σ : mSt} {Q : mPost} {a1 : Int32} {j2 : Int64} {a4 : Int32} {t : Nat} (ht : isT t) : WP E d mNa_numberOf 51 [.ref (t + 1), .int a1, .long j2, uu, .int a4] [] σ Q = WP E d mNa_numberOf 18 [.ref (t + 1), .int a1, .long j2, uu, .int (a4 + 1)] [] σ Q := (w_iinc (v := 1) (ls' := [.ref (t + 1), .int a1, .long j2, uu, .int (a4 + 1)]) dNa_numberOf_51 rfl rfl rfl).trans (w_goto (t := 18) dNa_numberOf_54 (by decide))
theorem bNa_numberOf_57 {E : mEn} {d : Nat} {σ : mSt} {Q : mPost} {a1 : Int32} {j2 : Int64} {a4 : Int32} {t : Nat} (ht : isT t) : WP E d mNa_numberOf 57 [.ref (t + 1), .int a1, .long j2, uu, .int a4] [] σ Q = Q (some (.int (-1))) σ := (w_iconst (v := (-1)) dNa_numberOf_57 rfl).trans (w_iret dNa_numberOf_58 rfl)
theorem dNa_copyOf_0 : decode (mC mNa_copyOf) 0 = .ok (.aload_n 1, 1) := by decide +kernel
theorem dNa_copyOf_1 : decode (mC mNa_copyOf) 1 = .ok (.getfield 9, 3) := by decide +kernel
theorem dNa_copyOf_4 : decode (mC mNa_copyOf) 4 = .ok (.iconst (0), 1) := by decide +kernel
theorem dNa_copyOf_5 : decode (mC mNa_copyOf) 5 = .ok (.aload_n 0, 1) := by decide +kernel
theorem dNa_copyOf_6 : decode (mC mNa_copyOf) 6 = .ok (.getfield 9, 3) := by decide +kernel
theorem dNa_copyOf_9 : decode (mC mNa_copyOf) 9 = .ok (.iconst (0), 1) := by decide +kernel
theorem dNa_copyOf_10 : decode (mC mNa_copyOf) 10 = .ok (.aload_n 0, 1) := by decide +kernel
theorem dNa_copyOf_11 : decode (mC mNa_copyOf) 11 = .ok (.getfield 9, 3) := by decide +kernel
theorem dNa_copyOf_14 : decode (mC mNa_copyOf) 14 = .ok (.arraylength, 1) := by decide +kernel
theorem dNa_copyOf_15 : decode (mC mNa_copyOf) 15 = .ok (.invokestatic 21, 3) := by decide +kernel
theorem dNa_copyOf_18 : decode (mC mNa_copyOf) 18 = .ok (.return_, 1) := by decide +kernel
theorem bNa_copyOf_0 {E : mEn} {d : Nat} {σ : mSt} {Q : mPost} {t : Nat} (ht : isT t) {t2 : Nat} (ht2 : isT t2) (hc0 : cpOk 0 0 (nI 20) 20 20 = true) : WP E d mNa_copyOf 0 [.ref (t + 1), .ref (t2 + 1)] [] σ Q = Q none (cpL σ (t2 + 2) (t + 2) 0 0 20) := (w_aload_n dNa_copyOf_0 rfl).trans ((w_getr (r := t2 + 2) dNa_copyOf_1 rz2_9 (shT_1 ht2) rfl).trans ((w_iconst (v := 0) dNa_copyOf_4 rfl).trans ((w_aload_n dNa_copyOf_5 rfl).trans ((w_getr (r := t + 2) dNa_copyOf_6 rz2_9 (shT_1 ht) rfl).trans ((w_iconst (v := 0) dNa_copyOf_9 rfl).trans ((w_aload_n dNa_copyOf_10 rfl).trans ((w_getr (r := t + 2) dNa_copyOf_11 rz2_9 (shT_1 ht) rfl).trans ((w_len dNa_copyOf_14 (aLen_of (shT_2 ht) (ltT ht (by decide)) (by decide))).trans ((w_cpl dNa_copyOf_15 rz2_21 (shT_2 ht2) (shT_2 ht) hc0 (Nat.le_of_ble_eq_true rfl)).trans (w_vret dNa_copyOf_18 rfl))))))))))
