theorem dAr_fill_0 : decode (mC mAr_fill) 0 = .ok (.iconst (0), 1) := by decide +kernel
theorem dAr_fill_1 : decode (mC mAr_fill) 1 = .ok (.istore_n 2, 1) := by decide +kernel
theorem dAr_fill_2 : decode (mC mAr_fill) 2 = .ok (.aload_n 0, 1) := by decide +kernel
theorem dAr_fill_3 : decode (mC mAr_fill) 3 = .ok (.arraylength, 1) := by decide +kernel
theorem dAr_fill_4 : decode (mC mAr_fill) 4 = .ok (.istore_n 3, 1) := by decide +kernel
theorem dAr_fill_5 : decode (mC mAr_fill) 5 = .ok (.iload_n 2, 1) := by decide +kernel
theorem dAr_fill_6 : decode (mC mAr_fill) 6 = .ok (.iload_n 3, 1) := by decide +kernel
theorem dAr_fill_7 : decode (mC mAr_fill) 7 = .ok (.if_icmp .ge (13), 3) := by decide +kernel
theorem dAr_fill_10 : decode (mC mAr_fill) 10 = .ok (.aload_n 0, 1) := by decide +kernel
theorem dAr_fill_11 : decode (mC mAr_fill) 11 = .ok (.iload_n 2, 1) := by decide +kernel
theorem dAr_fill_12 : decode (mC mAr_fill) 12 = .ok (.iload_n 1, 1) := by decide +kernel
theorem dAr_fill_13 : decode (mC mAr_fill) 13 = .ok (.iastore, 1) := by decide +kernel
theorem dAr_fill_14 : decode (mC mAr_fill) 14 = .ok (.iinc 2 (1), 3) := by decide +kernel
theorem dAr_fill_17 : decode (mC mAr_fill) 17 = .ok (.goto (-12), 3) := by decide +kernel
theorem dAr_fill_20 : decode (mC mAr_fill) 20 = .ok (.return_, 1) := by decide +kernel
theorem bAr_fill_0 {E : mEn} {d : Nat} {σ : mSt} {Q : mPost} {a1 : Int32} {u2 : Value} {u3 : Value} {n0 : Nat} {ai : Nat} (ha : mS0[ai]? = some (0, n0, [])) (hl0 : ai < 1000) : WP E d mAr_fill 0 [.ref ai, .int a1, u2, u3] [] σ Q = WP E d mAr_fill 5 [.ref ai, .int a1, .int 0, .int (nI n0)] [] σ Q := (w_iconst (v := 0) dAr_fill_0 rfl).trans ((w_istore_n (ls' := [.ref ai, .int a1, .int 0, u3]) dAr_fill_1 (Nat.le_of_ble_eq_true rfl) rfl).trans ((w_aload_n dAr_fill_2 rfl).trans ((w_len dAr_fill_3 (aLen_of ha hl0 (by decide))).trans (w_istore_n (ls' := [.ref ai, .int a1, .int 0, .int (nI n0)]) dAr_fill_4 (Nat.le_of_ble_eq_true rfl) rfl))))
theorem bAr_fill_5 {E : mEn} {d : Nat} {σ : mSt} {Q : mPost} {a1 : Int32} {a2 : Int32} {a3 : Int32} {n0 : Nat} {ai : Nat} (ha : mS0[ai]? = some (0, n0, [])) (hl0 : ai < 1000) : WP E d mAr_fill 5 [.ref ai, .int a1, .int a2, .int a3] [] σ Q = (if a3 ≤ a2 then WP E d mAr_fill 20 [.ref ai, .int a1, .int a2, .int a3] [] σ Q else WP E d mAr_fill 10 [.ref ai, .int a1, .int a2, .int a3] [] σ Q) := (w_iload_n dAr_fill_5 rfl).trans ((w_iload_n dAr_fill_6 rfl).trans (w_icmpge (t := 20) dAr_fill_7 (by decide)))
theorem bAr_fill_10 {E : mEn} {d : Nat} {σ : mSt} {Q : mPost} {a1 : Int32} {a2 : Int32} {a3 : Int32} {n0 : Nat} {ai : Nat} (ha : mS0[ai]? = some (0, n0, [])) (hl0 : ai < 1000) : WP E d mAr_fill 10 [.ref ai, .int a1, .int a2, .int a3] [] σ Q = (if mOut a2 n0 = true then False else WP E d mAr_fill 5 [.ref ai, .int a1, .int (a2 + 1), .int a3] [] (sI σ ai a2.toNatClampNeg a1) Q) := (w_aload_n dAr_fill_10 rfl).trans ((w_iload_n dAr_fill_11 rfl).trans ((w_iload_n dAr_fill_12 rfl).trans ((w_iast dAr_fill_13 ha).trans (ite_c ((w_iinc (v := 1) (ls' := [.ref ai, .int a1, .int (a2 + 1), .int a3]) dAr_fill_14 rfl rfl rfl).trans (w_goto (t := 5) dAr_fill_17 (by decide)))))))
theorem bAr_fill_20 {E : mEn} {d : Nat} {σ : mSt} {Q : mPost} {a1 : Int32} {a2 : Int32} {a3 : Int32} {n0 : Nat} {ai : Nat} (ha : mS0[ai]? = some (0, n0, [])) (hl0 : ai < 1000) : WP E d mAr_fill 20 [.ref ai, .int a1, .int a2, .int a3] [] σ Q = Q none σ := w_vret dAr_fill_20 rfl
theorem dAr_filll_0 : decode (mC mAr_filll) 0 = .ok (.iconst (0), 1) := by decide +kernel
theorem dAr_filll_1 : decode (mC mAr_filll) 1 = .ok (.istore_n 3, 1) := by decide +kernel
theorem dAr_filll_2 : decode (mC mAr_filll) 2 = .ok (.aload_n 0, 1) := by decide +kernel
theorem dAr_filll_3 : decode (mC mAr_filll) 3 = .ok (.arraylength, 1) := by decide +kernel
theorem dAr_filll_4 : decode (mC mAr_filll) 4 = .ok (.istore 4, 2) := by decide +kernel
theorem dAr_filll_6 : decode (mC mAr_filll) 6 = .ok (.iload_n 3, 1) := by decide +kernel
theorem dAr_filll_7 : decode (mC mAr_filll) 7 = .ok (.iload 4, 2) := by decide +kernel
theorem dAr_filll_9 : decode (mC mAr_filll) 9 = .ok (.if_icmp .ge (13), 3) := by decide +kernel
theorem dAr_filll_12 : decode (mC mAr_filll) 12 = .ok (.aload_n 0, 1) := by decide +kernel
theorem dAr_filll_13 : decode (mC mAr_filll) 13 = .ok (.iload_n 3, 1) := by decide +kernel
theorem dAr_filll_14 : decode (mC mAr_filll) 14 = .ok (.lload_n 1, 1) := by decide +kernel
theorem dAr_filll_15 : decode (mC mAr_filll) 15 = .ok (.lastore, 1) := by decide +kernel
theorem dAr_filll_16 : decode (mC mAr_filll) 16 = .ok (.iinc 3 (1), 3) := by decide +kernel
theorem dAr_filll_19 : decode (mC mAr_filll) 19 = .ok (.goto (-13), 3) := by decide +kernel
theorem dAr_filll_22 : decode (mC mAr_filll) 22 = .ok (.return_, 1) := by decide +kernel
theorem bAr_filll_0 {E : mEn} {d : Nat} {σ : mSt} {Q : mPost} {j1 : Int64} {u3 : Value} {u4 : Value} {n0 : Nat} {al : Nat} (ha : mS0[al]? = some (3, n0, [])) (hl0 : al < 1000) : WP E d mAr_filll 0 [.ref al, .long j1, uu, u3, u4] [] σ Q = WP E d mAr_filll 6 [.ref al, .long j1, uu, .int 0, .int (nI n0)] [] σ Q := (w_iconst (v := 0) dAr_filll_0 rfl).trans ((w_istore_n (ls' := [.ref al, .long j1, uu, .int 0, u4]) dAr_filll_1 (Nat.le_of_ble_eq_true rfl) rfl).trans ((w_aload_n dAr_filll_2 rfl).trans ((w_len dAr_filll_3 (aLen_of ha hl0 (by decide))).trans (w_istore (ls' := [.ref al, .long j1, uu, .int 0, .int (nI n0)]) dAr_filll_4 (Nat.le_of_ble_eq_true rfl) rfl))))
theorem bAr_filll_6 {E : mEn} {d : Nat} {σ : mSt} {Q : mPost} {j1 : Int64} {a3 : Int32} {a4 : Int32} {n0 : Nat} {al : Nat} (ha : mS0[al]? = some (3, n0, [])) (hl0 : al < 1000) : WP E d mAr_filll 6 [.ref al, .long j1, uu, .int a3, .int a4] [] σ Q = (if a4 ≤ a3 then WP E d mAr_filll 22 [.ref al, .long j1, uu, .int a3, .int a4] [] σ Q else WP E d mAr_filll 12 [.ref al, .long j1, uu, .int a3, .int a4] [] σ Q) := (w_iload_n dAr_filll_6 rfl).trans ((w_iload dAr_filll_7 rfl).trans (w_icmpge (t := 22) dAr_filll_9 (by decide)))
theorem bAr_filll_12 {E : mEn} {d : Nat} {σ : mSt} {Q : mPost} {j1 : Int64} {a3 : Int32} {a4 : Int32} {n0 : Nat} {al : Nat} (ha : mS0[al]? = some (3, n0, [])) (hl0 : al < 1000) : WP E d mAr_filll 12 [.ref al, .long j1, uu, .int a3, .int a4] [] σ Q = (if mOut a3 n0 = true then False else WP E d mAr_filll 6 [.ref al, .long j1, uu, .int (a3 + 1), .int a4] [] (sL σ al a3.toNatClampNeg j1) Q) := (w_aload_n dAr_filll_12 rfl).trans ((w_iload_n dAr_filll_13 rfl).trans ((w_lload_n dAr_filll_14 rfl).trans ((w_last dAr_filll_15 ha).trans (ite_c ((w_iinc (v := 1) (ls' := [.ref al, .long j1, uu, .int (a3 + 1), .int a4]) dAr_filll_16 rfl rfl rfl).trans (w_goto (t := 6) dAr_filll_19 (by decide)))))))
theorem bAr_filll_22 {E : mEn} {d : Nat} {σ : mSt} {Q : mPost} {j1 : Int64} {a3 : Int32} {a4 : Int32} {n0 : Nat} {al : Nat} (ha : mS0[al]? = some (3, n0, [])) (hl0 : al < 1000) : WP E d mAr_filll 22 [.ref al, .long j1, uu, .int a3, .int a4] [] σ Q = Q none σ := w_vret dAr_filll_22 rfl
