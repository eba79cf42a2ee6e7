theorem dSh_weigh_0 : decode (mC mSh_weigh) 0 = .ok (.aload_n 0, 1) := by decide +kernel
theorem dSh_weigh_1 : decode (mC mSh_weigh) 1 = .ok (.getfield 9, 3) := by decide +kernel
theorem dSh_weigh_4 : decode (mC mSh_weigh) 4 = .ok (.iconst (0), 1) := by decide +kernel
theorem dSh_weigh_5 : decode (mC mSh_weigh) 5 = .ok (.invokestatic 30, 3) := by decide +kernel
theorem dSh_weigh_8 : decode (mC mSh_weigh) 8 = .ok (.aload_n 0, 1) := by decide +kernel
theorem dSh_weigh_9 : decode (mC mSh_weigh) 9 = .ok (.getfield 15, 3) := by decide +kernel
theorem dSh_weigh_12 : decode (mC mSh_weigh) 12 = .ok (.bipush (40), 2) := by decide +kernel
theorem dSh_weigh_14 : decode (mC mSh_weigh) 14 = .ok (.invokestatic 30, 3) := by decide +kernel
theorem dSh_weigh_17 : decode (mC mSh_weigh) 17 = .ok (.aload_n 0, 1) := by decide +kernel
theorem dSh_weigh_18 : decode (mC mSh_weigh) 18 = .ok (.iconst (0), 1) := by decide +kernel
theorem dSh_weigh_19 : decode (mC mSh_weigh) 19 = .ok (.putfield 36, 3) := by decide +kernel
theorem dSh_weigh_22 : decode (mC mSh_weigh) 22 = .ok (.aload_n 1, 1) := by decide +kernel
theorem dSh_weigh_23 : decode (mC mSh_weigh) 23 = .ok (.iload_n 2, 1) := by decide +kernel
theorem dSh_weigh_24 : decode (mC mSh_weigh) 24 = .ok (.invokevirtual 40, 3) := by decide +kernel
theorem dSh_weigh_27 : decode (mC mSh_weigh) 27 = .ok (.ifCond .ne (4), 3) := by decide +kernel
theorem dSh_weigh_30 : decode (mC mSh_weigh) 30 = .ok (.return_, 1) := by decide +kernel
theorem dSh_weigh_31 : decode (mC mSh_weigh) 31 = .ok (.aload_n 0, 1) := by decide +kernel
theorem dSh_weigh_32 : decode (mC mSh_weigh) 32 = .ok (.getfield 9, 3) := by decide +kernel
theorem dSh_weigh_35 : decode (mC mSh_weigh) 35 = .ok (.aload_n 1, 1) := by decide +kernel
theorem dSh_weigh_36 : decode (mC mSh_weigh) 36 = .ok (.getfield 46, 3) := by decide +kernel
theorem dSh_weigh_39 : decode (mC mSh_weigh) 39 = .ok (.iload_n 2, 1) := by decide +kernel
theorem dSh_weigh_40 : decode (mC mSh_weigh) 40 = .ok (.iaload, 1) := by decide +kernel
theorem dSh_weigh_41 : decode (mC mSh_weigh) 41 = .ok (.aload_n 1, 1) := by decide +kernel
theorem dSh_weigh_42 : decode (mC mSh_weigh) 42 = .ok (.getfield 49, 3) := by decide +kernel
theorem dSh_weigh_45 : decode (mC mSh_weigh) 45 = .ok (.iload_n 2, 1) := by decide +kernel
theorem dSh_weigh_46 : decode (mC mSh_weigh) 46 = .ok (.iaload, 1) := by decide +kernel
theorem dSh_weigh_47 : decode (mC mSh_weigh) 47 = .ok (.iastore, 1) := by decide +kernel
theorem dSh_weigh_48 : decode (mC mSh_weigh) 48 = .ok (.aload_n 0, 1) := by decide +kernel
theorem dSh_weigh_49 : decode (mC mSh_weigh) 49 = .ok (.getfield 15, 3) := by decide +kernel
theorem dSh_weigh_52 : decode (mC mSh_weigh) 52 = .ok (.aload_n 1, 1) := by decide +kernel
theorem dSh_weigh_53 : decode (mC mSh_weigh) 53 = .ok (.getfield 46, 3) := by decide +kernel
theorem dSh_weigh_56 : decode (mC mSh_weigh) 56 = .ok (.iload_n 2, 1) := by decide +kernel
theorem dSh_weigh_57 : decode (mC mSh_weigh) 57 = .ok (.iaload, 1) := by decide +kernel
theorem dSh_weigh_58 : decode (mC mSh_weigh) 58 = .ok (.iconst (-1), 1) := by decide +kernel
theorem dSh_weigh_59 : decode (mC mSh_weigh) 59 = .ok (.iastore, 1) := by decide +kernel
theorem dSh_weigh_60 : decode (mC mSh_weigh) 60 = .ok (.aload_n 1, 1) := by decide +kernel
theorem dSh_weigh_61 : decode (mC mSh_weigh) 61 = .ok (.getfield 52, 3) := by decide +kernel
theorem dSh_weigh_64 : decode (mC mSh_weigh) 64 = .ok (.astore_n 3, 1) := by decide +kernel
theorem dSh_weigh_65 : decode (mC mSh_weigh) 65 = .ok (.iconst (0), 1) := by decide +kernel
theorem dSh_weigh_66 : decode (mC mSh_weigh) 66 = .ok (.istore 4, 2) := by decide +kernel
theorem dSh_weigh_68 : decode (mC mSh_weigh) 68 = .ok (.iload 4, 2) := by decide +kernel
theorem dSh_weigh_70 : decode (mC mSh_weigh) 70 = .ok (.aload_n 3, 1) := by decide +kernel
theorem dSh_weigh_71 : decode (mC mSh_weigh) 71 = .ok (.getfield 56, 3) := by decide +kernel
theorem dSh_weigh_74 : decode (mC mSh_weigh) 74 = .ok (.if_icmp .ge (103), 3) := by decide +kernel
theorem dSh_weigh_77 : decode (mC mSh_weigh) 77 = .ok (.aload_n 3, 1) := by decide +kernel
theorem dSh_weigh_78 : decode (mC mSh_weigh) 78 = .ok (.getfield 61, 3) := by decide +kernel
theorem dSh_weigh_81 : decode (mC mSh_weigh) 81 = .ok (.iload 4, 2) := by decide +kernel
theorem dSh_weigh_83 : decode (mC mSh_weigh) 83 = .ok (.baload, 1) := by decide +kernel
theorem dSh_weigh_84 : decode (mC mSh_weigh) 84 = .ok (.ifCond .ne (87), 3) := by decide +kernel
theorem dSh_weigh_87 : decode (mC mSh_weigh) 87 = .ok (.aload_n 3, 1) := by decide +kernel
theorem dSh_weigh_88 : decode (mC mSh_weigh) 88 = .ok (.getfield 65, 3) := by decide +kernel
theorem dSh_weigh_91 : decode (mC mSh_weigh) 91 = .ok (.iload 4, 2) := by decide +kernel
theorem dSh_weigh_93 : decode (mC mSh_weigh) 93 = .ok (.iaload, 1) := by decide +kernel
theorem dSh_weigh_94 : decode (mC mSh_weigh) 94 = .ok (.iload_n 2, 1) := by decide +kernel
theorem dSh_weigh_95 : decode (mC mSh_weigh) 95 = .ok (.if_icmp .ne (76), 3) := by decide +kernel
theorem dSh_weigh_98 : decode (mC mSh_weigh) 98 = .ok (.aload_n 0, 1) := by decide +kernel
theorem dSh_weigh_99 : decode (mC mSh_weigh) 99 = .ok (.getfield 9, 3) := by decide +kernel
theorem dSh_weigh_102 : decode (mC mSh_weigh) 102 = .ok (.aload_n 3, 1) := by decide +kernel
theorem dSh_weigh_103 : decode (mC mSh_weigh) 103 = .ok (.getfield 68, 3) := by decide +kernel
theorem dSh_weigh_106 : decode (mC mSh_weigh) 106 = .ok (.iload 4, 2) := by decide +kernel
theorem dSh_weigh_108 : decode (mC mSh_weigh) 108 = .ok (.iaload, 1) := by decide +kernel
theorem dSh_weigh_109 : decode (mC mSh_weigh) 109 = .ok (.dup2, 1) := by decide +kernel
theorem dSh_weigh_110 : decode (mC mSh_weigh) 110 = .ok (.iaload, 1) := by decide +kernel
theorem dSh_weigh_111 : decode (mC mSh_weigh) 111 = .ok (.aload_n 3, 1) := by decide +kernel
theorem dSh_weigh_112 : decode (mC mSh_weigh) 112 = .ok (.getfield 71, 3) := by decide +kernel
theorem dSh_weigh_115 : decode (mC mSh_weigh) 115 = .ok (.iload 4, 2) := by decide +kernel
theorem dSh_weigh_117 : decode (mC mSh_weigh) 117 = .ok (.iaload, 1) := by decide +kernel
theorem dSh_weigh_118 : decode (mC mSh_weigh) 118 = .ok (.isub, 1) := by decide +kernel
theorem dSh_weigh_119 : decode (mC mSh_weigh) 119 = .ok (.iastore, 1) := by decide +kernel
theorem dSh_weigh_120 : decode (mC mSh_weigh) 120 = .ok (.aload_n 0, 1) := by decide +kernel
theorem dSh_weigh_121 : decode (mC mSh_weigh) 121 = .ok (.getfield 9, 3) := by decide +kernel
theorem dSh_weigh_124 : decode (mC mSh_weigh) 124 = .ok (.aload_n 3, 1) := by decide +kernel
theorem dSh_weigh_125 : decode (mC mSh_weigh) 125 = .ok (.getfield 72, 3) := by decide +kernel
theorem dSh_weigh_128 : decode (mC mSh_weigh) 128 = .ok (.iload 4, 2) := by decide +kernel
theorem dSh_weigh_130 : decode (mC mSh_weigh) 130 = .ok (.iaload, 1) := by decide +kernel
theorem dSh_weigh_131 : decode (mC mSh_weigh) 131 = .ok (.dup2, 1) := by decide +kernel
theorem dSh_weigh_132 : decode (mC mSh_weigh) 132 = .ok (.iaload, 1) := by decide +kernel
theorem dSh_weigh_133 : decode (mC mSh_weigh) 133 = .ok (.aload_n 3, 1) := by decide +kernel
theorem dSh_weigh_134 : decode (mC mSh_weigh) 134 = .ok (.getfield 71, 3) := by decide +kernel
theorem dSh_weigh_137 : decode (mC mSh_weigh) 137 = .ok (.iload 4, 2) := by decide +kernel
theorem dSh_weigh_139 : decode (mC mSh_weigh) 139 = .ok (.iaload, 1) := by decide +kernel
theorem dSh_weigh_140 : decode (mC mSh_weigh) 140 = .ok (.iadd, 1) := by decide +kernel
theorem dSh_weigh_141 : decode (mC mSh_weigh) 141 = .ok (.iastore, 1) := by decide +kernel
theorem dSh_weigh_142 : decode (mC mSh_weigh) 142 = .ok (.aload_n 0, 1) := by decide +kernel
theorem dSh_weigh_143 : decode (mC mSh_weigh) 143 = .ok (.getfield 15, 3) := by decide +kernel
theorem dSh_weigh_146 : decode (mC mSh_weigh) 146 = .ok (.aload_n 3, 1) := by decide +kernel
theorem dSh_weigh_147 : decode (mC mSh_weigh) 147 = .ok (.getfield 72, 3) := by decide +kernel
theorem dSh_weigh_150 : decode (mC mSh_weigh) 150 = .ok (.iload 4, 2) := by decide +kernel
theorem dSh_weigh_152 : decode (mC mSh_weigh) 152 = .ok (.iaload, 1) := by decide +kernel
theorem dSh_weigh_153 : decode (mC mSh_weigh) 153 = .ok (.aload_n 0, 1) := by decide +kernel
theorem dSh_weigh_154 : decode (mC mSh_weigh) 154 = .ok (.getfield 15, 3) := by decide +kernel
theorem dSh_weigh_157 : decode (mC mSh_weigh) 157 = .ok (.aload_n 3, 1) := by decide +kernel
theorem dSh_weigh_158 : decode (mC mSh_weigh) 158 = .ok (.getfield 72, 3) := by decide +kernel
theorem dSh_weigh_161 : decode (mC mSh_weigh) 161 = .ok (.iload 4, 2) := by decide +kernel
theorem dSh_weigh_163 : decode (mC mSh_weigh) 163 = .ok (.iaload, 1) := by decide +kernel
theorem dSh_weigh_164 : decode (mC mSh_weigh) 164 = .ok (.iaload, 1) := by decide +kernel
theorem dSh_weigh_165 : decode (mC mSh_weigh) 165 = .ok (.iload 4, 2) := by decide +kernel
theorem dSh_weigh_167 : decode (mC mSh_weigh) 167 = .ok (.invokestatic 75, 3) := by decide +kernel
theorem dSh_weigh_170 : decode (mC mSh_weigh) 170 = .ok (.iastore, 1) := by decide +kernel
theorem dSh_weigh_171 : decode (mC mSh_weigh) 171 = .ok (.iinc 4 (1), 3) := by decide +kernel
theorem dSh_weigh_174 : decode (mC mSh_weigh) 174 = .ok (.goto (-106), 3) := by decide +kernel
theorem dSh_weigh_177 : decode (mC mSh_weigh) 177 = .ok (.aload_n 0, 1) := by decide +kernel
theorem dSh_weigh_178 : decode (mC mSh_weigh) 178 = .ok (.invokevirtual 81, 3) := by decide +kernel
theorem dSh_weigh_181 : decode (mC mSh_weigh) 181 = .ok (.return_, 1) := by decide +kernel
theorem bSh_weigh_0 {E : mEn} {d : Nat} {σ : mSt} {Q : mPost} {a2 : Int32} {u3 : Value} {u4 : Value} {h : Nat} (hh : isH h) {t : Nat} (ht : isT t) : WP E (d + 1) mSh_weigh 0 [.ref h, .ref t, .int a2, u3, u4] [] σ Q = WP E d mAr_fill 0 [.ref (h + 1), .int 0, uu, uu] [] σ (fun r σ' => WP E (d + 1) mSh_weigh 8 [.ref h, .ref t, .int a2, u3, u4] (r.toList ++ []) σ' Q) := (w_aload_n dSh_weigh_0 rfl).trans ((w_getr (r := h + 1) dSh_weigh_1 rz5_9 (shH_0 hh) rfl).trans ((w_iconst (v := 0) dSh_weigh_4 rfl).trans (w_stat (vs := [.ref (h + 1), .int 0]) (st' := []) (es := [.ref (h + 1), .int 0, uu, uu]) dSh_weigh_5 rz5_30 rfl rfl rfl (Nat.le_of_ble_eq_true rfl) (Nat.le_of_ble_eq_true rfl) rfl)))
theorem bSh_weigh_8 {E : mEn} {d : Nat} {σ : mSt} {Q : mPost} {a2 : Int32} {u3 : Value} {u4 : Value} {h : Nat} (hh : isH h) {t : Nat} (ht : isT t) : WP E (d + 1) mSh_weigh 8 [.ref h, .ref t, .int a2, u3, u4] [] σ Q = WP E d mAr_fill 0 [.ref (h + 2), .int (nI 40), uu, uu] [] σ (fun r σ' => WP E (d + 1) mSh_weigh 17 [.ref h, .ref t, .int a2, u3, u4] (r.toList ++ []) σ' Q) := (w_aload_n dSh_weigh_8 rfl).trans ((w_getr (r := h + 2) dSh_weigh_9 rz5_15 (shH_0 hh) rfl).trans ((w_bipush (v := (nI 40)) dSh_weigh_12 rfl).trans (w_stat (vs := [.ref (h + 2), .int (nI 40)]) (st' := []) (es := [.ref (h + 2), .int (nI 40), uu, uu]) dSh_weigh_14 rz5_30 rfl rfl rfl (Nat.le_of_ble_eq_true rfl) (Nat.le_of_ble_eq_true rfl) rfl)))
theorem bSh_weigh_17 {E : mEn} {d : Nat} {σ : mSt} {Q : mPost} {a2 : Int32} {u3 : Value} {u4 : Value} {h : Nat} (hh : isH h) {t : Nat} (ht : isT t) : WP E (d + 1) mSh_weigh 17 [.ref h, .ref t, .int a2, u3, u4] [] σ Q = WP E d mTw_hasLoaf 0 [.ref t, .int a2] [] (sI σ h 6 0) (fun r σ' => WP E (d + 1) mSh_weigh 27 [.ref h, .ref t, .int a2, u3, u4] (r.toList ++ []) σ' Q) := (w_aload_n dSh_weigh_17 rfl).trans ((w_iconst (v := 0) dSh_weigh_18 rfl).trans ((w_puti dSh_weigh_19 rz5_36 (shH_0 hh) rfl rfl rfl).trans ((w_aload_n dSh_weigh_22 rfl).trans ((w_iload_n dSh_weigh_23 rfl).trans (w_virt (vs := [.int a2]) (st' := []) (es := [.ref t, .int a2]) dSh_weigh_24 rz5_40 rfl (shT_0 ht) rfl rfl rfl (Nat.le_of_ble_eq_true rfl) (Nat.le_of_ble_eq_true rfl) rfl)))))
theorem bSh_weigh_27 {E : mEn} {d : Nat} {σ : mSt} {Q : mPost} {a2 : Int32} {u3 : Value} {u4 : Value} {s0 : Int32} {h : Nat} (hh : isH h) {t : Nat} (ht : isT t) : WP E d mSh_weigh 27 [.ref h, .ref t, .int a2, u3, u4] [.int s0] σ Q = (if ¬ s0 = 0 then WP E d mSh_weigh 31 [.ref h, .ref t, .int a2, u3, u4] [] σ Q else WP E d mSh_weigh 30 [.ref h, .ref t, .int a2, u3, u4] [] σ Q) := w_ifne (t := 31) dSh_weigh_27 (by decide)
theorem bSh_weigh_30 {E : mEn} {d : Nat} {σ : mSt} {Q : mPost} {a2 : Int32} {u3 : Value} {u4 : Value} {h : Nat} (hh : isH h) {t : Nat} (ht : isT t) : WP E d mSh_weigh 30 [.ref h, .ref t, .int a2, u3, u4] [] σ Q = Q none σ := w_vret dSh_weigh_30 rfl
theorem bSh_weigh_31 {E : mEn} {d : Nat} {σ : mSt} {Q : mPost} {a2 : Int32} {u3 : Value} {u4 : Value} {h : Nat} (hh : isH h) {t : Nat} (ht : isT t) : WP E d mSh_weigh 31 [.ref h, .ref t, .int a2, u3, u4] [] σ Q = (if mOut a2 8 = true then False else (if mOut a2 8 = true then False else (if mOut (σ.1 (t + 19) a2.toNatClampNeg) 8 = true then False else (if mOut a2 8 = true then False else (if mOut ((sI σ (h + 1) (σ.1 (t + 19) a2.toNatClampNeg).toNatClampNeg (σ.1 (t + 22) a2.toNatClampNeg)).1 (t + 19) a2.toNatClampNeg) 8 = true then False else WP E d mSh_weigh 60 [.ref h, .ref t, .int a2, u3, u4] [] (sI (sI σ (h + 1) (σ.1 (t + 19) a2.toNatClampNeg).toNatClampNeg (σ.1 (t + 22) a2.toNatClampNeg)) (h + 2) ((sI σ (h + 1) (σ.1 (t + 19) a2.toNatClampNeg).toNatClampNeg (σ.1 (t + 22) a2.toNatClampNeg)).1 (t + 19) a2.toNatClampNeg).toNatClampNeg (-1)) Q))))) := (w_aload_n dSh_weigh_31 rfl).trans ((w_getr (r := h + 1) dSh_weigh_32 rz5_9 (shH_0 hh) rfl).trans ((w_aload_n dSh_weigh_35 rfl).trans ((w_getr (r := t + 19) dSh_weigh_36 rz5_46 (shT_0 ht) rfl).trans ((w_iload_n dSh_weigh_39 rfl).trans ((w_iald dSh_weigh_40 (shT_19 ht) (ltT ht (by decide))).trans (ite_c ((w_aload_n dSh_weigh_41 rfl).trans ((w_getr (r := t + 22) dSh_weigh_42 rz5_49 (shT_0 ht) rfl).trans ((w_iload_n dSh_weigh_45 rfl).trans ((w_iald dSh_weigh_46 (shT_22 ht) (ltT ht (by decide))).trans (ite_c ((w_iast dSh_weigh_47 (shH_1 hh)).trans (ite_c ((w_aload_n dSh_weigh_48 rfl).trans ((w_getr (r := h + 2) dSh_weigh_49 rz5_15 (shH_0 hh) rfl).trans ((w_aload_n dSh_weigh_52 rfl).trans ((w_getr (r := t + 19) dSh_weigh_53 rz5_46 (shT_0 ht) rfl).trans ((w_iload_n dSh_weigh_56 rfl).trans ((w_iald dSh_weigh_57 (shT_19 ht) (ltT ht (by decide))).trans (ite_c ((w_iconst (v := (-1)) dSh_weigh_58 rfl).trans ((w_iast dSh_weigh_59 (shH_2 hh)).trans (ite_c (rfl))))))))))))))))))))))))
theorem bSh_weigh_60 {E : mEn} {d : Nat} {σ : mSt} {Q : mPost} {a2 : Int32} {u3 : Value} {u4 : Value} {h : Nat} (hh : isH h) {t : Nat} (ht : isT t) : WP E d mSh_weigh 60 [.ref h, .ref t, .int a2, u3, u4] [] σ Q = WP E d mSh_weigh 68 [.ref h, .ref t, .int a2, .ref (t + 3), .int 0] [] σ Q := (w_aload_n dSh_weigh_60 rfl).trans ((w_getr (r := t + 3) dSh_weigh_61 rz5_52 (shT_0 ht) rfl).trans ((w_astore_n (ls' := [.ref h, .ref t, .int a2, .ref (t + 3), u4]) dSh_weigh_64 (Nat.le_of_ble_eq_true rfl) rfl).trans ((w_iconst (v := 0) dSh_weigh_65 rfl).trans (w_istore (ls' := [.ref h, .ref t, .int a2, .ref (t + 3), .int 0]) dSh_weigh_66 (Nat.le_of_ble_eq_true rfl) rfl))))
theorem bSh_weigh_68 {E : mEn} {d : Nat} {σ : mSt} {Q : mPost} {a2 : Int32} {a4 : Int32} {h : Nat} (hh : isH h) {t : Nat} (ht : isT t) : WP E d mSh_weigh 68 [.ref h, .ref t, .int a2, .ref (t + 3), .int a4] [] σ Q = (if (σ.1 (t + 3) 8) ≤ a4 then WP E d mSh_weigh 177 [.ref h, .ref t, .int a2, .ref (t + 3), .int a4] [] σ Q else WP E d mSh_weigh 77 [.ref h, .ref t, .int a2, .ref (t + 3), .int a4] [] σ Q) := (w_iload dSh_weigh_68 rfl).trans ((w_aload_n dSh_weigh_70 rfl).trans ((w_geti dSh_weigh_71 rz5_56 (shT_3 ht) rfl).trans (w_icmpge (t := 177) dSh_weigh_74 (by decide))))
theorem bSh_weigh_77 {E : mEn} {d : Nat} {σ : mSt} {Q : mPost} {a2 : Int32} {a4 : Int32} {h : Nat} (hh : isH h) {t : Nat} (ht : isT t) : WP E d mSh_weigh 77 [.ref h, .ref t, .int a2, .ref (t + 3), .int a4] [] σ Q = (if mOut a4 40 = true then False else (if ¬ (σ.1 (t + 9) a4.toNatClampNeg) = 0 then WP E d mSh_weigh 171 [.ref h, .ref t, .int a2, .ref (t + 3), .int a4] [] σ Q else WP E d mSh_weigh 87 [.ref h, .ref t, .int a2, .ref (t + 3), .int a4] [] σ Q)) := (w_aload_n dSh_weigh_77 rfl).trans ((w_getr (r := t + 9) dSh_weigh_78 rz5_61 (shT_3 ht) rfl).trans ((w_iload dSh_weigh_81 rfl).trans ((w_zald dSh_weigh_83 (shT_9 ht)).trans (ite_c (w_ifne (t := 171) dSh_weigh_84 (by decide))))))
theorem bSh_weigh_87 {E : mEn} {d : Nat} {σ : mSt} {Q : mPost} {a2 : Int32} {a4 : Int32} {h : Nat} (hh : isH h) {t : Nat} (ht : isT t) : WP E d mSh_weigh 87 [.ref h, .ref t, .int a2, .ref (t + 3), .int a4] [] σ Q = (if mOut a4 40 = true then False else (if ¬ (σ.1 (t + 5) a4.toNatClampNeg) = a2 then WP E d mSh_weigh 171 [.ref h, .ref t, .int a2, .ref (t + 3), .int a4] [] σ Q else WP E d mSh_weigh 98 [.ref h, .ref t, .int a2, .ref (t + 3), .int a4] [] σ Q)) := (w_aload_n dSh_weigh_87 rfl).trans ((w_getr (r := t + 5) dSh_weigh_88 rz5_65 (shT_3 ht) rfl).trans ((w_iload dSh_weigh_91 rfl).trans ((w_iald dSh_weigh_93 (shT_5 ht) (ltT ht (by decide))).trans (ite_c ((w_iload_n dSh_weigh_94 rfl).trans (w_icmpne (t := 171) dSh_weigh_95 (by decide)))))))
theorem bSh_weigh_98 {E : mEn} {d : Nat} {σ : mSt} {Q : mPost} {a2 : Int32} {a4 : Int32} {h : Nat} (hh : isH h) {t : Nat} (ht : isT t) : WP E d mSh_weigh 98 [.ref h, .ref t, .int a2, .ref (t + 3), .int a4] [] σ Q = (if mOut a4 40 = true then False else (if mOut (σ.1 (t + 6) a4.toNatClampNeg) 8 = true then False else (if mOut a4 40 = true then False else (if mOut (σ.1 (t + 6) a4.toNatClampNeg) 8 = true then False else WP E d mSh_weigh 120 [.ref h, .ref t, .int a2, .ref (t + 3), .int a4] [] (sI σ (h + 1) (σ.1 (t + 6) a4.toNatClampNeg).toNatClampNeg ((σ.1 (h + 1) (σ.1 (t + 6) a4.toNatClampNeg).toNatClampNeg) - (σ.1 (t + 4) a4.toNatClampNeg))) Q)))) := (w_aload_n dSh_weigh_98 rfl).trans ((w_getr (r := h + 1) dSh_weigh_99 rz5_9 (shH_0 hh) rfl).trans ((w_aload_n dSh_weigh_102 rfl).trans ((w_getr (r := t + 6) dSh_weigh_103 rz5_68 (shT_3 ht) rfl).trans ((w_iload dSh_weigh_106 rfl).trans ((w_iald dSh_weigh_108 (shT_6 ht) (ltT ht (by decide))).trans (ite_c ((w_dup2 dSh_weigh_109 rfl rfl).trans ((w_iald dSh_weigh_110 (shH_1 hh) (ltH hh (by decide))).trans (ite_c ((w_aload_n dSh_weigh_111 rfl).trans ((w_getr (r := t + 4) dSh_weigh_112 rz5_71 (shT_3 ht) rfl).trans ((w_iload dSh_weigh_115 rfl).trans ((w_iald dSh_weigh_117 (shT_4 ht) (ltT ht (by decide))).trans (ite_c ((w_isub dSh_weigh_118).trans ((w_iast dSh_weigh_119 (shH_1 hh)).trans (ite_c (rfl))))))))))))))))))
theorem bSh_weigh_120 {E : mEn} {d : Nat} {σ : mSt} {Q : mPost} {a2 : Int32} {a4 : Int32} {h : Nat} (hh : isH h) {t : Nat} (ht : isT t) : WP E d mSh_weigh 120 [.ref h, .ref t, .int a2, .ref (t + 3), .int a4] [] σ Q = (if mOut a4 40 = true then False else (if mOut (σ.1 (t + 7) a4.toNatClampNeg) 8 = true then False else (if mOut a4 40 = true then False else (if mOut (σ.1 (t + 7) a4.toNatClampNeg) 8 = true then False else WP E d mSh_weigh 142 [.ref h, .ref t, .int a2, .ref (t + 3), .int a4] [] (sI σ (h + 1) (σ.1 (t + 7) a4.toNatClampNeg).toNatClampNeg ((σ.1 (h + 1) (σ.1 (t + 7) a4.toNatClampNeg).toNatClampNeg) + (σ.1 (t + 4) a4.toNatClampNeg))) Q)))) := (w_aload_n dSh_weigh_120 rfl).trans ((w_getr (r := h + 1) dSh_weigh_121 rz5_9 (shH_0 hh) rfl).trans ((w_aload_n dSh_weigh_124 rfl).trans ((w_getr (r := t + 7) dSh_weigh_125 rz5_72 (shT_3 ht) rfl).trans ((w_iload dSh_weigh_128 rfl).trans ((w_iald dSh_weigh_130 (shT_7 ht) (ltT ht (by decide))).trans (ite_c ((w_dup2 dSh_weigh_131 rfl rfl).trans ((w_iald dSh_weigh_132 (shH_1 hh) (ltH hh (by decide))).trans (ite_c ((w_aload_n dSh_weigh_133 rfl).trans ((w_getr (r := t + 4) dSh_weigh_134 rz5_71 (shT_3 ht) rfl).trans ((w_iload dSh_weigh_137 rfl).trans ((w_iald dSh_weigh_139 (shT_4 ht) (ltT ht (by decide))).trans (ite_c ((w_iadd dSh_weigh_140).trans ((w_iast dSh_weigh_141 (shH_1 hh)).trans (ite_c (rfl))))))))))))))))))
theorem bSh_weigh_142 {E : mEn} {d : Nat} {σ : mSt} {Q : mPost} {a2 : Int32} {a4 : Int32} {h : Nat} (hh : isH h) {t : Nat} (ht : isT t) : WP E d mSh_weigh 142 [.ref h, .ref t, .int a2, .ref (t + 3), .int a4] [] σ Q = (if mOut a4 40 = true then False else (if mOut a4 40 = true then False else (if mOut (σ.1 (t + 7) a4.toNatClampNeg) 8 = true then False else (if mOut (σ.1 (t + 7) a4.toNatClampNeg) 8 = true then False else WP E d mSh_weigh 171 [.ref h, .ref t, .int a2, .ref (t + 3), .int a4] [] (sI σ (h + 2) (σ.1 (t + 7) a4.toNatClampNeg).toNatClampNeg (if a4 < (σ.1 (h + 2) (σ.1 (t + 7) a4.toNatClampNeg).toNatClampNeg) then a4 else (σ.1 (h + 2) (σ.1 (t + 7) a4.toNatClampNeg).toNatClampNeg))) Q)))) := (w_aload_n dSh_weigh_142 rfl).trans ((w_getr (r := h + 2) dSh_weigh_143 rz5_15 (shH_0 hh) rfl).trans ((w_aload_n dSh_weigh_146 rfl).trans ((w_getr (r := t + 7) dSh_weigh_147 rz5_72 (shT_3 ht) rfl).trans ((w_iload dSh_weigh_150 rfl).trans ((w_iald dSh_weigh_152 (shT_7 ht) (ltT ht (by decide))).trans (ite_c ((w_aload_n dSh_weigh_153 rfl).trans ((w_getr (r := h + 2) dSh_weigh_154 rz5_15 (shH_0 hh) rfl).trans ((w_aload_n dSh_weigh_157 rfl).trans ((w_getr (r := t + 7) dSh_weigh_158 rz5_72 (shT_3 ht) rfl).trans ((w_iload dSh_weigh_161 rfl).trans ((w_iald dSh_weigh_163 (shT_7 ht) (ltT ht (by decide))).trans (ite_c ((w_iald dSh_weigh_164 (shH_2 hh) (ltH hh (by decide))).trans (ite_c ((w_iload dSh_weigh_165 rfl).trans ((w_min dSh_weigh_167 rz5_75 (Nat.le_of_ble_eq_true rfl)).trans ((w_iast dSh_weigh_170 (shH_2 hh)).trans (ite_c (rfl))))))))))))))))))))
theorem bSh_weigh_171 {E : mEn} {d : Nat} {σ : mSt} {Q : mPost} {a2 : Int32} {a4 : Int32} {h : Nat} (hh : isH h) {t : Nat} (ht : isT t) : WP E d mSh_weigh 171 [.ref h, .ref t, .int a2, .ref (t + 3), .int a4] [] σ Q = WP E d mSh_weigh 68 [.ref h, .ref t, .int a2, .ref (t + 3), .int (a4 + 1)] [] σ Q := (w_iinc (v := 1) (ls' := [.ref h, .ref t, .int a2, .ref (t + 3), .int (a4 + 1)]) dSh_weigh_171 rfl rfl rfl).trans (w_goto (t := 68) dSh_weigh_174 (by decide))
theorem bSh_weigh_177 {E : mEn} {d : Nat} {σ : mSt} {Q : mPost} {a2 : Int32} {a4 : Int32} {h : Nat} (hh : isH h) {t : Nat} (ht : isT t) : WP E (d + 1) mSh_weigh 177 [.ref h, .ref t, .int a2, .ref (t + 3), .int a4] [] σ Q = WP E d mSh_lineUp 0 [.ref h, uu, uu] [] σ (fun r σ' => WP E (d + 1) mSh_weigh 181 [.ref h, .ref t, .int a2, .ref (t + 3), .int a4] (r.toList ++ []) σ' Q) := (w_aload_n dSh_weigh_177 rfl).trans (w_virt (vs := []) (st' := []) (es := [.ref h, uu, uu]) dSh_weigh_178 rz5_81 rfl (shH_0 hh) rfl rfl rfl (Nat.le_of_ble_eq_true rfl) (Nat.le_of_ble_eq_true rfl) rfl)
theorem bSh_weigh_181 {E : mEn} {d : Nat} {σ : mSt} {Q : mPost} {a2 : Int32} {a4 : Int32} {h : Nat} (hh : isH h) {t : Nat} (ht : isT t) : WP E d mSh_weigh 181 [.ref h, .ref t, .int a2, .ref (t + 3), .int a4] [] σ Q = Q none σ := w_vret dSh_weigh_181 rfl
theorem dSh_lineUp_0 : decode (mC mSh_lineUp) 0 = .ok (.iconst (0), 1) := by decide +kernel
theorem dSh_lineUp_1 : decode (mC mSh_lineUp) 1 = .ok (.istore_n 1, 1) := by decide +kernel
theorem dSh_lineUp_2 : decode (mC mSh_lineUp) 2 = .ok (.iload_n 1, 1) := by decide +kernel
theorem dSh_lineUp_3 : decode (mC mSh_lineUp) 3 = .ok (.bipush (8), 2) := by decide +kernel
theorem dSh_lineUp_5 : decode (mC mSh_lineUp) 5 = .ok (.if_icmp .ge (89), 3) := by decide +kernel
theorem dSh_lineUp_8 : decode (mC mSh_lineUp) 8 = .ok (.aload_n 0, 1) := by decide +kernel
theorem dSh_lineUp_9 : decode (mC mSh_lineUp) 9 = .ok (.getfield 9, 3) := by decide +kernel
theorem dSh_lineUp_12 : decode (mC mSh_lineUp) 12 = .ok (.iload_n 1, 1) := by decide +kernel
theorem dSh_lineUp_13 : decode (mC mSh_lineUp) 13 = .ok (.iaload, 1) := by decide +kernel
theorem dSh_lineUp_14 : decode (mC mSh_lineUp) 14 = .ok (.ifCond .gt (6), 3) := by decide +kernel
theorem dSh_lineUp_17 : decode (mC mSh_lineUp) 17 = .ok (.goto (71), 3) := by decide +kernel
theorem dSh_lineUp_20 : decode (mC mSh_lineUp) 20 = .ok (.aload_n 0, 1) := by decide +kernel
theorem dSh_lineUp_21 : decode (mC mSh_lineUp) 21 = .ok (.getfield 36, 3) := by decide +kernel
theorem dSh_lineUp_24 : decode (mC mSh_lineUp) 24 = .ok (.istore_n 2, 1) := by decide +kernel
theorem dSh_lineUp_25 : decode (mC mSh_lineUp) 25 = .ok (.iload_n 2, 1) := by decide +kernel
theorem dSh_lineUp_26 : decode (mC mSh_lineUp) 26 = .ok (.ifCond .le (45), 3) := by decide +kernel
theorem dSh_lineUp_29 : decode (mC mSh_lineUp) 29 = .ok (.aload_n 0, 1) := by decide +kernel
theorem dSh_lineUp_30 : decode (mC mSh_lineUp) 30 = .ok (.getfield 15, 3) := by decide +kernel
theorem dSh_lineUp_33 : decode (mC mSh_lineUp) 33 = .ok (.aload_n 0, 1) := by decide +kernel
theorem dSh_lineUp_34 : decode (mC mSh_lineUp) 34 = .ok (.getfield 18, 3) := by decide +kernel
theorem dSh_lineUp_37 : decode (mC mSh_lineUp) 37 = .ok (.iload_n 2, 1) := by decide +kernel
theorem dSh_lineUp_38 : decode (mC mSh_lineUp) 38 = .ok (.iconst (1), 1) := by decide +kernel
theorem dSh_lineUp_39 : decode (mC mSh_lineUp) 39 = .ok (.isub, 1) := by decide +kernel
theorem dSh_lineUp_40 : decode (mC mSh_lineUp) 40 = .ok (.iaload, 1) := by decide +kernel
theorem dSh_lineUp_41 : decode (mC mSh_lineUp) 41 = .ok (.iaload, 1) := by decide +kernel
theorem dSh_lineUp_42 : decode (mC mSh_lineUp) 42 = .ok (.aload_n 0, 1) := by decide +kernel
theorem dSh_lineUp_43 : decode (mC mSh_lineUp) 43 = .ok (.getfield 15, 3) := by decide +kernel
theorem dSh_lineUp_46 : decode (mC mSh_lineUp) 46 = .ok (.iload_n 1, 1) := by decide +kernel
theorem dSh_lineUp_47 : decode (mC mSh_lineUp) 47 = .ok (.iaload, 1) := by decide +kernel
theorem dSh_lineUp_48 : decode (mC mSh_lineUp) 48 = .ok (.if_icmp .le (23), 3) := by decide +kernel
theorem dSh_lineUp_51 : decode (mC mSh_lineUp) 51 = .ok (.aload_n 0, 1) := by decide +kernel
theorem dSh_lineUp_52 : decode (mC mSh_lineUp) 52 = .ok (.getfield 18, 3) := by decide +kernel
theorem dSh_lineUp_55 : decode (mC mSh_lineUp) 55 = .ok (.iload_n 2, 1) := by decide +kernel
theorem dSh_lineUp_56 : decode (mC mSh_lineUp) 56 = .ok (.aload_n 0, 1) := by decide +kernel
theorem dSh_lineUp_57 : decode (mC mSh_lineUp) 57 = .ok (.getfield 18, 3) := by decide +kernel
theorem dSh_lineUp_60 : decode (mC mSh_lineUp) 60 = .ok (.iload_n 2, 1) := by decide +kernel
theorem dSh_lineUp_61 : decode (mC mSh_lineUp) 61 = .ok (.iconst (1), 1) := by decide +kernel
theorem dSh_lineUp_62 : decode (mC mSh_lineUp) 62 = .ok (.isub, 1) := by decide +kernel
theorem dSh_lineUp_63 : decode (mC mSh_lineUp) 63 = .ok (.iaload, 1) := by decide +kernel
theorem dSh_lineUp_64 : decode (mC mSh_lineUp) 64 = .ok (.iastore, 1) := by decide +kernel
theorem dSh_lineUp_65 : decode (mC mSh_lineUp) 65 = .ok (.iinc 2 (-1), 3) := by decide +kernel
theorem dSh_lineUp_68 : decode (mC mSh_lineUp) 68 = .ok (.goto (-43), 3) := by decide +kernel
theorem dSh_lineUp_71 : decode (mC mSh_lineUp) 71 = .ok (.aload_n 0, 1) := by decide +kernel
theorem dSh_lineUp_72 : decode (mC mSh_lineUp) 72 = .ok (.getfield 18, 3) := by decide +kernel
theorem dSh_lineUp_75 : decode (mC mSh_lineUp) 75 = .ok (.iload_n 2, 1) := by decide +kernel
theorem dSh_lineUp_76 : decode (mC mSh_lineUp) 76 = .ok (.iload_n 1, 1) := by decide +kernel
theorem dSh_lineUp_77 : decode (mC mSh_lineUp) 77 = .ok (.iastore, 1) := by decide +kernel
theorem dSh_lineUp_78 : decode (mC mSh_lineUp) 78 = .ok (.aload_n 0, 1) := by decide +kernel
theorem dSh_lineUp_79 : decode (mC mSh_lineUp) 79 = .ok (.dup, 1) := by decide +kernel
theorem dSh_lineUp_80 : decode (mC mSh_lineUp) 80 = .ok (.getfield 36, 3) := by decide +kernel
theorem dSh_lineUp_83 : decode (mC mSh_lineUp) 83 = .ok (.iconst (1), 1) := by decide +kernel
theorem dSh_lineUp_84 : decode (mC mSh_lineUp) 84 = .ok (.iadd, 1) := by decide +kernel
theorem dSh_lineUp_85 : decode (mC mSh_lineUp) 85 = .ok (.putfield 36, 3) := by decide +kernel
theorem dSh_lineUp_88 : decode (mC mSh_lineUp) 88 = .ok (.iinc 1 (1), 3) := by decide +kernel
theorem dSh_lineUp_91 : decode (mC mSh_lineUp) 91 = .ok (.goto (-89), 3) := by decide +kernel
theorem dSh_lineUp_94 : decode (mC mSh_lineUp) 94 = .ok (.return_, 1) := by decide +kernel
theorem bSh_lineUp_0 {E : mEn} {d : Nat} {σ : mSt} {Q : mPost} {u1 : Value} {u2 : Value} {h : Nat} (hh : isH h) : WP E d mSh_lineUp 0 [.ref h, u1, u2] [] σ Q = WP E d mSh_lineUp 2 [.ref h, .int 0, u2] [] σ Q := (w_iconst (v := 0) dSh_lineUp_0 rfl).trans (w_istore_n (ls' := [.ref h, .int 0, u2]) dSh_lineUp_1 (Nat.le_of_ble_eq_true rfl) rfl)
theorem bSh_lineUp_2 {E : mEn} {d : Nat} {σ : mSt} {Q : mPost} {a1 : Int32} {u2 : Value} {h : Nat} (hh : isH h) : WP E d mSh_lineUp 2 [.ref h, .int a1, u2] [] σ Q = (if (nI 8) ≤ a1 then WP E d mSh_lineUp 94 [.ref h, .int a1, u2] [] σ Q else WP E d mSh_lineUp 8 [.ref h, .int a1, u2] [] σ Q) := (w_iload_n dSh_lineUp_2 rfl).trans ((w_bipush (v := (nI 8)) dSh_lineUp_3 rfl).trans (w_icmpge (t := 94) dSh_lineUp_5 (by decide)))
theorem bSh_lineUp_8 {E : mEn} {d : Nat} {σ : mSt} {Q : mPost} {a1 : Int32} {u2 : Value} {h : Nat} (hh : isH h) : WP E d mSh_lineUp 8 [.ref h, .int a1, u2] [] σ Q = (if mOut a1 8 = true then False else (if 0 < (σ.1 (h + 1) a1.toNatClampNeg) then WP E d mSh_lineUp 20 [.ref h, .int a1, u2] [] σ Q else WP E d mSh_lineUp 17 [.ref h, .int a1, u2] [] σ Q)) := (w_aload_n dSh_lineUp_8 rfl).trans ((w_getr (r := h + 1) dSh_lineUp_9 rz5_9 (shH_0 hh) rfl).trans ((w_iload_n dSh_lineUp_12 rfl).trans ((w_iald dSh_lineUp_13 (shH_1 hh) (ltH hh (by decide))).trans (ite_c (w_ifgt (t := 20) dSh_lineUp_14 (by decide))))))
theorem bSh_lineUp_17 {E : mEn} {d : Nat} {σ : mSt} {Q : mPost} {a1 : Int32} {u2 : Value} {h : Nat} (hh : isH h) : WP E d mSh_lineUp 17 [.ref h, .int a1, u2] [] σ Q = WP E d mSh_lineUp 88 [.ref h, .int a1, u2] [] σ Q := w_goto (t := 88) dSh_lineUp_17 (by decide)
theorem bSh_lineUp_20 {E : mEn} {d : Nat} {σ : mSt} {Q : mPost} {a1 : Int32} {u2 : Value} {h : Nat} (hh : isH h) : WP E d mSh_lineUp 20 [.ref h, .int a1, u2] [] σ Q = WP E d mSh_lineUp 25 [.ref h, .int a1, .int (σ.1 h 6)] [] σ Q := (w_aload_n dSh_lineUp_20 rfl).trans ((w_geti dSh_lineUp_21 rz5_36 (shH_0 hh) rfl).trans (w_istore_n (ls' := [.ref h, .int a1, .int (σ.1 h 6)]) dSh_lineUp_24 (Nat.le_of_ble_eq_true rfl) rfl))
theorem bSh_lineUp_25 {E : mEn} {d : Nat} {σ : mSt} {Q : mPost} {a1 : Int32} {a2 : Int32} {h : Nat} (hh : isH h) : WP E d mSh_lineUp 25 [.ref h, .int a1, .int a2] [] σ Q = (if a2 ≤ 0 then WP E d mSh_lineUp 71 [.ref h, .int a1, .int a2] [] σ Q else WP E d mSh_lineUp 29 [.ref h, .int a1, .int a2] [] σ Q) := (w_iload_n dSh_lineUp_25 rfl).trans (w_ifle (t := 71) dSh_lineUp_26 (by decide))
theorem bSh_lineUp_29 {E : mEn} {d : Nat} {σ : mSt} {Q : mPost} {a1 : Int32} {a2 : Int32} {h : Nat} (hh : isH h) : WP E d mSh_lineUp 29 [.ref h, .int a1, .int a2] [] σ Q = (if mOut (a2 - 1) 8 = true then False else (if mOut (σ.1 (h + 3) (a2 - 1).toNatClampNeg) 8 = true then False else (if mOut a1 8 = true then False else (if (σ.1 (h + 2) (σ.1 (h + 3) (a2 - 1).toNatClampNeg).toNatClampNeg) ≤ (σ.1 (h + 2) a1.toNatClampNeg) then WP E d mSh_lineUp 71 [.ref h, .int a1, .int a2] [] σ Q else WP E d mSh_lineUp 51 [.ref h, .int a1, .int a2] [] σ Q)))) := (w_aload_n dSh_lineUp_29 rfl).trans ((w_getr (r := h + 2) dSh_lineUp_30 rz5_15 (shH_0 hh) rfl).trans ((w_aload_n dSh_lineUp_33 rfl).trans ((w_getr (r := h + 3) dSh_lineUp_34 rz5_18 (shH_0 hh) rfl).trans ((w_iload_n dSh_lineUp_37 rfl).trans ((w_iconst (v := 1) dSh_lineUp_38 rfl).trans ((w_isub dSh_lineUp_39).trans ((w_iald dSh_lineUp_40 (shH_3 hh) (ltH hh (by decide))).trans (ite_c ((w_iald dSh_lineUp_41 (shH_2 hh) (ltH hh (by decide))).trans (ite_c ((w_aload_n dSh_lineUp_42 rfl).trans ((w_getr (r := h + 2) dSh_lineUp_43 rz5_15 (shH_0 hh) rfl).trans ((w_iload_n dSh_lineUp_46 rfl).trans ((w_iald dSh_lineUp_47 (shH_2 hh) (ltH hh (by decide))).trans (ite_c (w_icmple (t := 71) dSh_lineUp_48 (by decide)))))))))))))))))
theorem bSh_lineUp_51 {E : mEn} {d : Nat} {σ : mSt} {Q : mPost} {a1 : Int32} {a2 : Int32} {h : Nat} (hh : isH h) : WP E d mSh_lineUp 51 [.ref h, .int a1, .int a2] [] σ Q = (if mOut (a2 - 1) 8 = true then False else (if mOut a2 8 = true then False else WP E d mSh_lineUp 25 [.ref h, .int a1, .int (a2 + (-1))] [] (sI σ (h + 3) a2.toNatClampNeg (σ.1 (h + 3) (a2 - 1).toNatClampNeg)) Q)) := (w_aload_n dSh_lineUp_51 rfl).trans ((w_getr (r := h + 3) dSh_lineUp_52 rz5_18 (shH_0 hh) rfl).trans ((w_iload_n dSh_lineUp_55 rfl).trans ((w_aload_n dSh_lineUp_56 rfl).trans ((w_getr (r := h + 3) dSh_lineUp_57 rz5_18 (shH_0 hh) rfl).trans ((w_iload_n dSh_lineUp_60 rfl).trans ((w_iconst (v := 1) dSh_lineUp_61 rfl).trans ((w_isub dSh_lineUp_62).trans ((w_iald dSh_lineUp_63 (shH_3 hh) (ltH hh (by decide))).trans (ite_c ((w_iast dSh_lineUp_64 (shH_3 hh)).trans (ite_c ((w_iinc (v := (-1)) (ls' := [.ref h, .int a1, .int (a2 + (-1))]) dSh_lineUp_65 rfl rfl rfl).trans (w_goto (t := 25) dSh_lineUp_68 (by decide))))))))))))))
theorem bSh_lineUp_71 {E : mEn} {d : Nat} {σ : mSt} {Q : mPost} {a1 : Int32} {a2 : Int32} {h : Nat} (hh : isH h) : WP E d mSh_lineUp 71 [.ref h, .int a1, .int a2] [] σ Q = (if mOut a2 8 = true then False else WP E d mSh_lineUp 88 [.ref h, .int a1, .int a2] [] (sI (sI σ (h + 3) a2.toNatClampNeg a1) h 6 (((sI σ (h + 3) a2.toNatClampNeg a1).1 h 6) + 1)) Q) := (w_aload_n dSh_lineUp_71 rfl).trans ((w_getr (r := h + 3) dSh_lineUp_72 rz5_18 (shH_0 hh) rfl).trans ((w_iload_n dSh_lineUp_75 rfl).trans ((w_iload_n dSh_lineUp_76 rfl).trans ((w_iast dSh_lineUp_77 (shH_3 hh)).trans (ite_c ((w_aload_n dSh_lineUp_78 rfl).trans ((w_dup dSh_lineUp_79 rfl).trans ((w_geti dSh_lineUp_80 rz5_36 (shH_0 hh) rfl).trans ((w_iconst (v := 1) dSh_lineUp_83 rfl).trans ((w_iadd dSh_lineUp_84).trans (w_puti dSh_lineUp_85 rz5_36 (shH_0 hh) rfl rfl rfl)))))))))))
theorem bSh_lineUp_88 {E : mEn} {d : Nat} {σ : mSt} {Q : mPost} {a1 : Int32} {u2 : Value} {h : Nat} (hh : isH h) : WP E d mSh_lineUp 88 [.ref h, .int a1, u2] [] σ Q = WP E d mSh_lineUp 2 [.ref h, .int (a1 + 1), u2] [] σ Q := (w_iinc (v := 1) (ls' := [.ref h, .int (a1 + 1), u2]) dSh_lineUp_88 rfl rfl rfl).trans (w_goto (t := 2) dSh_lineUp_91 (by decide))
theorem bSh_lineUp_94 {E : mEn} {d : Nat} {σ : mSt} {Q : mPost} {a1 : Int32} {u2 : Value} {h : Nat} (hh : isH h) : WP E d mSh_lineUp 94 [.ref h, .int a1, u2] [] σ Q = Q none σ := w_vret dSh_lineUp_94 rfl
theorem dSh_deal_0 : decode (mC mSh_deal) 0 = .ok (.aload_n 0, 1) := by decide +kernel
theorem dSh_deal_1 : decode (mC mSh_deal) 1 = .ok (.getfield 21, 3) := by decide +kernel
theorem dSh_deal_4 : decode (mC mSh_deal) 4 = .ok (.iconst (0), 1) := by decide +kernel
theorem dSh_deal_5 : decode (mC mSh_deal) 5 = .ok (.invokestatic 30, 3) := by decide +kernel
theorem dSh_deal_8 : decode (mC mSh_deal) 8 = .ok (.iload_n 1, 1) := by decide +kernel
theorem dSh_deal_9 : decode (mC mSh_deal) 9 = .ok (.istore_n 2, 1) := by decide +kernel
theorem dSh_deal_10 : decode (mC mSh_deal) 10 = .ok (.iconst (0), 1) := by decide +kernel
theorem dSh_deal_11 : decode (mC mSh_deal) 11 = .ok (.istore_n 3, 1) := by decide +kernel
theorem dSh_deal_12 : decode (mC mSh_deal) 12 = .ok (.iload_n 3, 1) := by decide +kernel
theorem dSh_deal_13 : decode (mC mSh_deal) 13 = .ok (.aload_n 0, 1) := by decide +kernel
theorem dSh_deal_14 : decode (mC mSh_deal) 14 = .ok (.getfield 36, 3) := by decide +kernel
theorem dSh_deal_17 : decode (mC mSh_deal) 17 = .ok (.if_icmp .ge (45), 3) := by decide +kernel
theorem dSh_deal_20 : decode (mC mSh_deal) 20 = .ok (.aload_n 0, 1) := by decide +kernel
theorem dSh_deal_21 : decode (mC mSh_deal) 21 = .ok (.getfield 18, 3) := by decide +kernel
theorem dSh_deal_24 : decode (mC mSh_deal) 24 = .ok (.iload_n 3, 1) := by decide +kernel
theorem dSh_deal_25 : decode (mC mSh_deal) 25 = .ok (.iaload, 1) := by decide +kernel
theorem dSh_deal_26 : decode (mC mSh_deal) 26 = .ok (.istore 4, 2) := by decide +kernel
theorem dSh_deal_28 : decode (mC mSh_deal) 28 = .ok (.aload_n 0, 1) := by decide +kernel
theorem dSh_deal_29 : decode (mC mSh_deal) 29 = .ok (.getfield 21, 3) := by decide +kernel
theorem dSh_deal_32 : decode (mC mSh_deal) 32 = .ok (.iload 4, 2) := by decide +kernel
theorem dSh_deal_34 : decode (mC mSh_deal) 34 = .ok (.aload_n 0, 1) := by decide +kernel
theorem dSh_deal_35 : decode (mC mSh_deal) 35 = .ok (.getfield 9, 3) := by decide +kernel
theorem dSh_deal_38 : decode (mC mSh_deal) 38 = .ok (.iload 4, 2) := by decide +kernel
theorem dSh_deal_40 : decode (mC mSh_deal) 40 = .ok (.iaload, 1) := by decide +kernel
theorem dSh_deal_41 : decode (mC mSh_deal) 41 = .ok (.iload_n 2, 1) := by decide +kernel
theorem dSh_deal_42 : decode (mC mSh_deal) 42 = .ok (.invokestatic 75, 3) := by decide +kernel
theorem dSh_deal_45 : decode (mC mSh_deal) 45 = .ok (.iastore, 1) := by decide +kernel
theorem dSh_deal_46 : decode (mC mSh_deal) 46 = .ok (.iload_n 2, 1) := by decide +kernel
theorem dSh_deal_47 : decode (mC mSh_deal) 47 = .ok (.aload_n 0, 1) := by decide +kernel
theorem dSh_deal_48 : decode (mC mSh_deal) 48 = .ok (.getfield 21, 3) := by decide +kernel
theorem dSh_deal_51 : decode (mC mSh_deal) 51 = .ok (.iload 4, 2) := by decide +kernel
theorem dSh_deal_53 : decode (mC mSh_deal) 53 = .ok (.iaload, 1) := by decide +kernel
theorem dSh_deal_54 : decode (mC mSh_deal) 54 = .ok (.isub, 1) := by decide +kernel
theorem dSh_deal_55 : decode (mC mSh_deal) 55 = .ok (.istore_n 2, 1) := by decide +kernel
theorem dSh_deal_56 : decode (mC mSh_deal) 56 = .ok (.iinc 3 (1), 3) := by decide +kernel
theorem dSh_deal_59 : decode (mC mSh_deal) 59 = .ok (.goto (-47), 3) := by decide +kernel
theorem dSh_deal_62 : decode (mC mSh_deal) 62 = .ok (.return_, 1) := by decide +kernel
theorem bSh_deal_0 {E : mEn} {d : Nat} {σ : mSt} {Q : mPost} {a1 : Int32} {u2 : Value} {u3 : Value} {u4 : Value} {h : Nat} (hh : isH h) : WP E (d + 1) mSh_deal 0 [.ref h, .int a1, u2, u3, u4] [] σ Q = WP E d mAr_fill 0 [.ref (h + 4), .int 0, uu, uu] [] σ (fun r σ' => WP E (d + 1) mSh_deal 8 [.ref h, .int a1, u2, u3, u4] (r.toList ++ []) σ' Q) := (w_aload_n dSh_deal_0 rfl).trans ((w_getr (r := h + 4) dSh_deal_1 rz5_21 (shH_0 hh) rfl).trans ((w_iconst (v := 0) dSh_deal_4 rfl).trans (w_stat (vs := [.ref (h + 4), .int 0]) (st' := []) (es := [.ref (h + 4), .int 0, uu, uu]) dSh_deal_5 rz5_30 rfl rfl rfl (Nat.le_of_ble_eq_true rfl) (Nat.le_of_ble_eq_true rfl) rfl)))
theorem bSh_deal_8 {E : mEn} {d : Nat} {σ : mSt} {Q : mPost} {a1 : Int32} {u2 : Value} {u3 : Value} {u4 : Value} {h : Nat} (hh : isH h) : WP E d mSh_deal 8 [.ref h, .int a1, u2, u3, u4] [] σ Q = WP E d mSh_deal 12 [.ref h, .int a1, .int a1, .int 0, u4] [] σ Q := (w_iload_n dSh_deal_8 rfl).trans ((w_istore_n (ls' := [.ref h, .int a1, .int a1, u3, u4]) dSh_deal_9 (Nat.le_of_ble_eq_true rfl) rfl).trans ((w_iconst (v := 0) dSh_deal_10 rfl).trans (w_istore_n (ls' := [.ref h, .int a1, .int a1, .int 0, u4]) dSh_deal_11 (Nat.le_of_ble_eq_true rfl) rfl)))
theorem bSh_deal_12 {E : mEn} {d : Nat} {σ : mSt} {Q : mPost} {a1 : Int32} {a2 : Int32} {a3 : Int32} {u4 : Value} {h : Nat} (hh : isH h) : WP E d mSh_deal 12 [.ref h, .int a1, .int a2, .int a3, u4] [] σ Q = (if (σ.1 h 6) ≤ a3 then WP E d mSh_deal 62 [.ref h, .int a1, .int a2, .int a3, u4] [] σ Q else WP E d mSh_deal 20 [.ref h, .int a1, .int a2, .int a3, u4] [] σ Q) := (w_iload_n dSh_deal_12 rfl).trans ((w_aload_n dSh_deal_13 rfl).trans ((w_geti dSh_deal_14 rz5_36 (shH_0 hh) rfl).trans (w_icmpge (t := 62) dSh_deal_17 (by decide))))
theorem bSh_deal_20 {E : mEn} {d : Nat} {σ : mSt} {Q : mPost} {a1 : Int32} {a2 : Int32} {a3 : Int32} {u4 : Value} {h : Nat} (hh : isH h) : WP E d mSh_deal 20 [.ref h, .int a1, .int a2, .int a3, u4] [] σ Q = (if mOut a3 8 = true then False else (if mOut (σ.1 (h + 3) a3.toNatClampNeg) 8 = true then False else (if mOut (σ.1 (h + 3) a3.toNatClampNeg) 8 = true then False else WP E d mSh_deal 46 [.ref h, .int a1, .int a2, .int a3, .int (σ.1 (h + 3) a3.toNatClampNeg)] [] (sI σ (h + 4) (σ.1 (h + 3) a3.toNatClampNeg).toNatClampNeg (if a2 < (σ.1 (h + 1) (σ.1 (h + 3) a3.toNatClampNeg).toNatClampNeg) then a2 else (σ.1 (h + 1) (σ.1 (h + 3) a3.toNatClampNeg).toNatClampNeg))) Q))) := (w_aload_n dSh_deal_20 rfl).trans ((w_getr (r := h + 3) dSh_deal_21 rz5_18 (shH_0 hh) rfl).trans ((w_iload_n dSh_deal_24 rfl).trans ((w_iald dSh_deal_25 (shH_3 hh) (ltH hh (by decide))).trans (ite_c ((w_istore (ls' := [.ref h, .int a1, .int a2, .int a3, .int (σ.1 (h + 3) a3.toNatClampNeg)]) dSh_deal_26 (Nat.le_of_ble_eq_true rfl) rfl).trans ((w_aload_n dSh_deal_28 rfl).trans ((w_getr (r := h + 4) dSh_deal_29 rz5_21 (shH_0 hh) rfl).trans ((w_iload dSh_deal_32 rfl).trans ((w_aload_n dSh_deal_34 rfl).trans ((w_getr (r := h + 1) dSh_deal_35 rz5_9 (shH_0 hh) rfl).trans ((w_iload dSh_deal_38 rfl).trans ((w_iald dSh_deal_40 (shH_1 hh) (ltH hh (by decide))).trans (ite_c ((w_iload_n dSh_deal_41 rfl).trans ((w_min dSh_deal_42 rz5_75 (Nat.le_of_ble_eq_true rfl)).trans ((w_iast dSh_deal_45 (shH_4 hh)).trans (ite_c (rfl))))))))))))))))))
theorem bSh_deal_46 {E : mEn} {d : Nat} {σ : mSt} {Q : mPost} {a1 : Int32} {a2 : Int32} {a3 : Int32} {a4 : Int32} {h : Nat} (hh : isH h) : WP E d mSh_deal 46 [.ref h, .int a1, .int a2, .int a3, .int a4] [] σ Q = (if mOut a4 8 = true then False else WP E d mSh_deal 12 [.ref h, .int a1, .int (a2 - (σ.1 (h + 4) a4.toNatClampNeg)), .int (a3 + 1), .int a4] [] σ Q) := (w_iload_n dSh_deal_46 rfl).trans ((w_aload_n dSh_deal_47 rfl).trans ((w_getr (r := h + 4) dSh_deal_48 rz5_21 (shH_0 hh) rfl).trans ((w_iload dSh_deal_51 rfl).trans ((w_iald dSh_deal_53 (shH_4 hh) (ltH hh (by decide))).trans (ite_c ((w_isub dSh_deal_54).trans ((w_istore_n (ls' := [.ref h, .int a1, .int (a2 - (σ.1 (h + 4) a4.toNatClampNeg)), .int a3, .int a4]) dSh_deal_55 (Nat.le_of_ble_eq_true rfl) rfl).trans ((w_iinc (v := 1) (ls' := [.ref h, .int a1, .int (a2 - (σ.1 (h + 4) a4.toNatClampNeg)), .int (a3 + 1), .int a4]) dSh_deal_56 rfl rfl rfl).trans (w_goto (t := 12) dSh_deal_59 (by decide))))))))))
theorem bSh_deal_62 {E : mEn} {d : Nat} {σ : mSt} {Q : mPost} {a1 : Int32} {a2 : Int32} {a3 : Int32} {u4 : Value} {h : Nat} (hh : isH h) : WP E d mSh_deal 62 [.ref h, .int a1, .int a2, .int a3, u4] [] σ Q = Q none σ := w_vret dSh_deal_62 rfl
theorem dSh_ownerOf_0 : decode (mC mSh_ownerOf) 0 = .ok (.iconst (0), 1) := by decide +kernel
theorem dSh_ownerOf_1 : decode (mC mSh_ownerOf) 1 = .ok (.istore_n 2, 1) := by decide +kernel
theorem dSh_ownerOf_2 : decode (mC mSh_ownerOf) 2 = .ok (.iconst (0), 1) := by decide +kernel
theorem dSh_ownerOf_3 : decode (mC mSh_ownerOf) 3 = .ok (.istore_n 3, 1) := by decide +kernel
theorem dSh_ownerOf_4 : decode (mC mSh_ownerOf) 4 = .ok (.iload_n 3, 1) := by decide +kernel
theorem dSh_ownerOf_5 : decode (mC mSh_ownerOf) 5 = .ok (.aload_n 0, 1) := by decide +kernel
theorem dSh_ownerOf_6 : decode (mC mSh_ownerOf) 6 = .ok (.getfield 36, 3) := by decide +kernel
theorem dSh_ownerOf_9 : decode (mC mSh_ownerOf) 9 = .ok (.if_icmp .ge (39), 3) := by decide +kernel
theorem dSh_ownerOf_12 : decode (mC mSh_ownerOf) 12 = .ok (.iload_n 2, 1) := by decide +kernel
theorem dSh_ownerOf_13 : decode (mC mSh_ownerOf) 13 = .ok (.aload_n 0, 1) := by decide +kernel
theorem dSh_ownerOf_14 : decode (mC mSh_ownerOf) 14 = .ok (.getfield 21, 3) := by decide +kernel
theorem dSh_ownerOf_17 : decode (mC mSh_ownerOf) 17 = .ok (.aload_n 0, 1) := by decide +kernel
theorem dSh_ownerOf_18 : decode (mC mSh_ownerOf) 18 = .ok (.getfield 18, 3) := by decide +kernel
theorem dSh_ownerOf_21 : decode (mC mSh_ownerOf) 21 = .ok (.iload_n 3, 1) := by decide +kernel
theorem dSh_ownerOf_22 : decode (mC mSh_ownerOf) 22 = .ok (.iaload, 1) := by decide +kernel
theorem dSh_ownerOf_23 : decode (mC mSh_ownerOf) 23 = .ok (.iaload, 1) := by decide +kernel
theorem dSh_ownerOf_24 : decode (mC mSh_ownerOf) 24 = .ok (.iadd, 1) := by decide +kernel
theorem dSh_ownerOf_25 : decode (mC mSh_ownerOf) 25 = .ok (.istore_n 2, 1) := by decide +kernel
theorem dSh_ownerOf_26 : decode (mC mSh_ownerOf) 26 = .ok (.iload_n 1, 1) := by decide +kernel
theorem dSh_ownerOf_27 : decode (mC mSh_ownerOf) 27 = .ok (.ifCond .lt (15), 3) := by decide +kernel
theorem dSh_ownerOf_30 : decode (mC mSh_ownerOf) 30 = .ok (.iload_n 1, 1) := by decide +kernel
theorem dSh_ownerOf_31 : decode (mC mSh_ownerOf) 31 = .ok (.iload_n 2, 1) := by decide +kernel
theorem dSh_ownerOf_32 : decode (mC mSh_ownerOf) 32 = .ok (.if_icmp .ge (10), 3) := by decide +kernel
theorem dSh_ownerOf_35 : decode (mC mSh_ownerOf) 35 = .ok (.aload_n 0, 1) := by decide +kernel
theorem dSh_ownerOf_36 : decode (mC mSh_ownerOf) 36 = .ok (.getfield 18, 3) := by decide +kernel
theorem dSh_ownerOf_39 : decode (mC mSh_ownerOf) 39 = .ok (.iload_n 3, 1) := by decide +kernel
theorem dSh_ownerOf_40 : decode (mC mSh_ownerOf) 40 = .ok (.iaload, 1) := by decide +kernel
theorem dSh_ownerOf_41 : decode (mC mSh_ownerOf) 41 = .ok (.ireturn, 1) := by decide +kernel
theorem dSh_ownerOf_42 : decode (mC mSh_ownerOf) 42 = .ok (.iinc 3 (1), 3) := by decide +kernel
theorem dSh_ownerOf_45 : decode (mC mSh_ownerOf) 45 = .ok (.goto (-41), 3) := by decide +kernel
theorem dSh_ownerOf_48 : decode (mC mSh_ownerOf) 48 = .ok (.iconst (-1), 1) := by decide +kernel
theorem dSh_ownerOf_49 : decode (mC mSh_ownerOf) 49 = .ok (.ireturn, 1) := by decide +kernel
theorem bSh_ownerOf_0 {E : mEn} {d : Nat} {σ : mSt} {Q : mPost} {a1 : Int32} {u2 : Value} {u3 : Value} {h : Nat} (hh : isH h) : WP E d mSh_ownerOf 0 [.ref h, .int a1, u2, u3] [] σ Q = WP E d mSh_ownerOf 4 [.ref h, .int a1, .int 0, .int 0] [] σ Q := (w_iconst (v := 0) dSh_ownerOf_0 rfl).trans ((w_istore_n (ls' := [.ref h, .int a1, .int 0, u3]) dSh_ownerOf_1 (Nat.le_of_ble_eq_true rfl) rfl).trans ((w_iconst (v := 0) dSh_ownerOf_2 rfl).trans (w_istore_n (ls' := [.ref h, .int a1, .int 0, .int 0]) dSh_ownerOf_3 (Nat.le_of_ble_eq_true rfl) rfl)))
theorem bSh_ownerOf_4 {E : mEn} {d : Nat} {σ : mSt} {Q : mPost} {a1 : Int32} {a2 : Int32} {a3 : Int32} {h : Nat} (hh : isH h) : WP E d mSh_ownerOf 4 [.ref h, .int a1, .int a2, .int a3] [] σ Q = (if (σ.1 h 6) ≤ a3 then WP E d mSh_ownerOf 48 [.ref h, .int a1, .int a2, .int a3] [] σ Q else WP E d mSh_ownerOf 12 [.ref h, .int a1, .int a2, .int a3] [] σ Q) := (w_iload_n dSh_ownerOf_4 rfl).trans ((w_aload_n dSh_ownerOf_5 rfl).trans ((w_geti dSh_ownerOf_6 rz5_36 (shH_0 hh) rfl).trans (w_icmpge (t := 48) dSh_ownerOf_9 (by decide))))
theorem bSh_ownerOf_12 {E : mEn} {d : Nat} {σ : mSt} {Q : mPost} {a1 : Int32} {a2 : Int32} {a3 : Int32} {h : Nat} (hh : isH h) : WP E d mSh_ownerOf 12 [.ref h, .int a1, .int a2, .int a3] [] σ Q = (if mOut a3 8 = true then False else (if mOut (σ.1 (h + 3) a3.toNatClampNeg) 8 = true then False else (if a1 < 0 then WP E d mSh_ownerOf 42 [.ref h, .int a1, .int (a2 + (σ.1 (h + 4) (σ.1 (h + 3) a3.toNatClampNeg).toNatClampNeg)), .int a3] [] σ Q else WP E d mSh_ownerOf 30 [.ref h, .int a1, .int (a2 + (σ.1 (h + 4) (σ.1 (h + 3) a3.toNatClampNeg).toNatClampNeg)), .int a3] [] σ Q))) := (w_iload_n dSh_ownerOf_12 rfl).trans ((w_aload_n dSh_ownerOf_13 rfl).trans ((w_getr (r := h + 4) dSh_ownerOf_14 rz5_21 (shH_0 hh) rfl).trans ((w_aload_n dSh_ownerOf_17 rfl).trans ((w_getr (r := h + 3) dSh_ownerOf_18 rz5_18 (shH_0 hh) rfl).trans ((w_iload_n dSh_ownerOf_21 rfl).trans ((w_iald dSh_ownerOf_22 (shH_3 hh) (ltH hh (by decide))).trans (ite_c ((w_iald dSh_ownerOf_23 (shH_4 hh) (ltH hh (by decide))).trans (ite_c ((w_iadd dSh_ownerOf_24).trans ((w_istore_n (ls' := [.ref h, .int a1, .int (a2 + (σ.1 (h + 4) (σ.1 (h + 3) a3.toNatClampNeg).toNatClampNeg)), .int a3]) dSh_ownerOf_25 (Nat.le_of_ble_eq_true rfl) rfl).trans ((w_iload_n dSh_ownerOf_26 rfl).trans (w_iflt (t := 42) dSh_ownerOf_27 (by decide))))))))))))))
theorem bSh_ownerOf_30 {E : mEn} {d : Nat} {σ : mSt} {Q : mPost} {a1 : Int32} {a2 : Int32} {a3 : Int32} {h : Nat} (hh : isH h) : WP E d mSh_ownerOf 30 [.ref h, .int a1, .int a2, .int a3] [] σ Q = (if a2 ≤ a1 then WP E d mSh_ownerOf 42 [.ref h, .int a1, .int a2, .int a3] [] σ Q else WP E d mSh_ownerOf 35 [.ref h, .int a1, .int a2, .int a3] [] σ Q) := (w_iload_n dSh_ownerOf_30 rfl).trans ((w_iload_n dSh_ownerOf_31 rfl).trans (w_icmpge (t := 42) dSh_ownerOf_32 (by decide)))
theorem bSh_ownerOf_35 {E : mEn} {d : Nat} {σ : mSt} {Q : mPost} {a1 : Int32} {a2 : Int32} {a3 : Int32} {h : Nat} (hh : isH h) : WP E d mSh_ownerOf 35 [.ref h, .int a1, .int a2, .int a3] [] σ Q = (if mOut a3 8 = true then False else Q (some (.int (σ.1 (h + 3) a3.toNatClampNeg))) σ) := (w_aload_n dSh_ownerOf_35 rfl).trans ((w_getr (r := h + 3) dSh_ownerOf_36 rz5_18 (shH_0 hh) rfl).trans ((w_iload_n dSh_ownerOf_39 rfl).trans ((w_iald dSh_ownerOf_40 (shH_3 hh) (ltH hh (by decide))).trans (ite_c (w_iret dSh_ownerOf_41 rfl)))))
theorem bSh_ownerOf_42 {E : mEn} {d : Nat} {σ : mSt} {Q : mPost} {a1 : Int32} {a2 : Int32} {a3 : Int32} {h : Nat} (hh : isH h) : WP E d mSh_ownerOf 42 [.ref h, .int a1, .int a2, .int a3] [] σ Q = WP E d mSh_ownerOf 4 [.ref h, .int a1, .int a2, .int (a3 + 1)] [] σ Q := (w_iinc (v := 1) (ls' := [.ref h, .int a1, .int a2, .int (a3 + 1)]) dSh_ownerOf_42 rfl rfl rfl).trans (w_goto (t := 4) dSh_ownerOf_45 (by decide))
theorem bSh_ownerOf_48 {E : mEn} {d : Nat} {σ : mSt} {Q : mPost} {a1 : Int32} {a2 : Int32} {a3 : Int32} {h : Nat} (hh : isH h) : WP E d mSh_ownerOf 48 [.ref h, .int a1, .int a2, .int a3] [] σ Q = Q (some (.int (-1))) σ := (w_iconst (v := (-1)) dSh_ownerOf_48 rfl).trans (w_iret dSh_ownerOf_49 rfl)
theorem dSh_settle_0 : decode (mC mSh_settle) 0 = .ok (.aload_n 0, 1) := by decide +kernel
theorem dSh_settle_1 : decode (mC mSh_settle) 1 = .ok (.aload_n 1, 1) := by decide +kernel
theorem dSh_settle_2 : decode (mC mSh_settle) 2 = .ok (.iload_n 2, 1) := by decide +kernel
theorem dSh_settle_3 : decode (mC mSh_settle) 3 = .ok (.invokevirtual 84, 3) := by decide +kernel
theorem dSh_settle_6 : decode (mC mSh_settle) 6 = .ok (.aload_n 0, 1) := by decide +kernel
theorem dSh_settle_7 : decode (mC mSh_settle) 7 = .ok (.aload_n 1, 1) := by decide +kernel
theorem dSh_settle_8 : decode (mC mSh_settle) 8 = .ok (.iload_n 2, 1) := by decide +kernel
theorem dSh_settle_9 : decode (mC mSh_settle) 9 = .ok (.iload_n 3, 1) := by decide +kernel
theorem dSh_settle_10 : decode (mC mSh_settle) 10 = .ok (.invokevirtual 88, 3) := by decide +kernel
theorem dSh_settle_13 : decode (mC mSh_settle) 13 = .ok (.invokevirtual 92, 3) := by decide +kernel
theorem dSh_settle_16 : decode (mC mSh_settle) 16 = .ok (.aload_n 1, 1) := by decide +kernel
theorem dSh_settle_17 : decode (mC mSh_settle) 17 = .ok (.iload_n 2, 1) := by decide +kernel
theorem dSh_settle_18 : decode (mC mSh_settle) 18 = .ok (.invokevirtual 96, 3) := by decide +kernel
theorem dSh_settle_21 : decode (mC mSh_settle) 21 = .ok (.istore 4, 2) := by decide +kernel
theorem dSh_settle_23 : decode (mC mSh_settle) 23 = .ok (.iconst (0), 1) := by decide +kernel
theorem dSh_settle_24 : decode (mC mSh_settle) 24 = .ok (.istore 5, 2) := by decide +kernel
theorem dSh_settle_26 : decode (mC mSh_settle) 26 = .ok (.iconst (0), 1) := by decide +kernel
theorem dSh_settle_27 : decode (mC mSh_settle) 27 = .ok (.istore 6, 2) := by decide +kernel
theorem dSh_settle_29 : decode (mC mSh_settle) 29 = .ok (.iload 6, 2) := by decide +kernel
theorem dSh_settle_31 : decode (mC mSh_settle) 31 = .ok (.bipush (8), 2) := by decide +kernel
theorem dSh_settle_33 : decode (mC mSh_settle) 33 = .ok (.if_icmp .ge (65), 3) := by decide +kernel
theorem dSh_settle_36 : decode (mC mSh_settle) 36 = .ok (.aload_n 0, 1) := by decide +kernel
theorem dSh_settle_37 : decode (mC mSh_settle) 37 = .ok (.getfield 24, 3) := by decide +kernel
theorem dSh_settle_40 : decode (mC mSh_settle) 40 = .ok (.iload 6, 2) := by decide +kernel
theorem dSh_settle_42 : decode (mC mSh_settle) 42 = .ok (.iconst (0), 1) := by decide +kernel
theorem dSh_settle_43 : decode (mC mSh_settle) 43 = .ok (.aload_n 0, 1) := by decide +kernel
theorem dSh_settle_44 : decode (mC mSh_settle) 44 = .ok (.getfield 9, 3) := by decide +kernel
theorem dSh_settle_47 : decode (mC mSh_settle) 47 = .ok (.iload 6, 2) := by decide +kernel
theorem dSh_settle_49 : decode (mC mSh_settle) 49 = .ok (.iaload, 1) := by decide +kernel
theorem dSh_settle_50 : decode (mC mSh_settle) 50 = .ok (.ineg, 1) := by decide +kernel
theorem dSh_settle_51 : decode (mC mSh_settle) 51 = .ok (.invokestatic 100, 3) := by decide +kernel
theorem dSh_settle_54 : decode (mC mSh_settle) 54 = .ok (.iastore, 1) := by decide +kernel
theorem dSh_settle_55 : decode (mC mSh_settle) 55 = .ok (.iload 6, 2) := by decide +kernel
theorem dSh_settle_57 : decode (mC mSh_settle) 57 = .ok (.iload 4, 2) := by decide +kernel
theorem dSh_settle_59 : decode (mC mSh_settle) 59 = .ok (.if_icmp .eq (33), 3) := by decide +kernel
theorem dSh_settle_62 : decode (mC mSh_settle) 62 = .ok (.aload_n 0, 1) := by decide +kernel
theorem dSh_settle_63 : decode (mC mSh_settle) 63 = .ok (.getfield 9, 3) := by decide +kernel
theorem dSh_settle_66 : decode (mC mSh_settle) 66 = .ok (.iload 6, 2) := by decide +kernel
theorem dSh_settle_68 : decode (mC mSh_settle) 68 = .ok (.iaload, 1) := by decide +kernel
theorem dSh_settle_69 : decode (mC mSh_settle) 69 = .ok (.ifCond .le (23), 3) := by decide +kernel
theorem dSh_settle_72 : decode (mC mSh_settle) 72 = .ok (.iload 5, 2) := by decide +kernel
theorem dSh_settle_74 : decode (mC mSh_settle) 74 = .ok (.aload_n 0, 1) := by decide +kernel
theorem dSh_settle_75 : decode (mC mSh_settle) 75 = .ok (.getfield 9, 3) := by decide +kernel
theorem dSh_settle_78 : decode (mC mSh_settle) 78 = .ok (.iload 6, 2) := by decide +kernel
theorem dSh_settle_80 : decode (mC mSh_settle) 80 = .ok (.iaload, 1) := by decide +kernel
theorem dSh_settle_81 : decode (mC mSh_settle) 81 = .ok (.aload_n 0, 1) := by decide +kernel
theorem dSh_settle_82 : decode (mC mSh_settle) 82 = .ok (.getfield 21, 3) := by decide +kernel
theorem dSh_settle_85 : decode (mC mSh_settle) 85 = .ok (.iload 6, 2) := by decide +kernel
theorem dSh_settle_87 : decode (mC mSh_settle) 87 = .ok (.iaload, 1) := by decide +kernel
theorem dSh_settle_88 : decode (mC mSh_settle) 88 = .ok (.isub, 1) := by decide +kernel
theorem dSh_settle_89 : decode (mC mSh_settle) 89 = .ok (.iadd, 1) := by decide +kernel
theorem dSh_settle_90 : decode (mC mSh_settle) 90 = .ok (.istore 5, 2) := by decide +kernel
theorem dSh_settle_92 : decode (mC mSh_settle) 92 = .ok (.iinc 6 (1), 3) := by decide +kernel
theorem dSh_settle_95 : decode (mC mSh_settle) 95 = .ok (.goto (-66), 3) := by decide +kernel
theorem dSh_settle_98 : decode (mC mSh_settle) 98 = .ok (.aload_n 1, 1) := by decide +kernel
theorem dSh_settle_99 : decode (mC mSh_settle) 99 = .ok (.iload 4, 2) := by decide +kernel
theorem dSh_settle_101 : decode (mC mSh_settle) 101 = .ok (.invokevirtual 103, 3) := by decide +kernel
theorem dSh_settle_104 : decode (mC mSh_settle) 104 = .ok (.ifCond .eq (15), 3) := by decide +kernel
theorem dSh_settle_107 : decode (mC mSh_settle) 107 = .ok (.aload_n 0, 1) := by decide +kernel
theorem dSh_settle_108 : decode (mC mSh_settle) 108 = .ok (.getfield 24, 3) := by decide +kernel
theorem dSh_settle_111 : decode (mC mSh_settle) 111 = .ok (.iload 4, 2) := by decide +kernel
theorem dSh_settle_113 : decode (mC mSh_settle) 113 = .ok (.dup2, 1) := by decide +kernel
theorem dSh_settle_114 : decode (mC mSh_settle) 114 = .ok (.iaload, 1) := by decide +kernel
theorem dSh_settle_115 : decode (mC mSh_settle) 115 = .ok (.iload 5, 2) := by decide +kernel
theorem dSh_settle_117 : decode (mC mSh_settle) 117 = .ok (.iadd, 1) := by decide +kernel
theorem dSh_settle_118 : decode (mC mSh_settle) 118 = .ok (.iastore, 1) := by decide +kernel
theorem dSh_settle_119 : decode (mC mSh_settle) 119 = .ok (.return_, 1) := by decide +kernel
theorem bSh_settle_0 {E : mEn} {d : Nat} {σ : mSt} {Q : mPost} {a2 : Int32} {a3 : Int32} {u4 : Value} {u5 : Value} {u6 : Value} {h : Nat} (hh : isH h) {t : Nat} (ht : isT t) : WP E (d + 1) mSh_settle 0 [.ref h, .ref t, .int a2, .int a3, u4, u5, u6] [] σ Q = WP E d mSh_weigh 0 [.ref h, .ref t, .int a2, uu, uu] [] σ (fun r σ' => WP E (d + 1) mSh_settle 6 [.ref h, .ref t, .int a2, .int a3, u4, u5, u6] (r.toList ++ []) σ' Q) := (w_aload_n dSh_settle_0 rfl).trans ((w_aload_n dSh_settle_1 rfl).trans ((w_iload_n dSh_settle_2 rfl).trans (w_virt (vs := [.ref t, .int a2]) (st' := []) (es := [.ref h, .ref t, .int a2, uu, uu]) dSh_settle_3 rz5_84 rfl (shH_0 hh) rfl rfl rfl (Nat.le_of_ble_eq_true rfl) (Nat.le_of_ble_eq_true rfl) rfl)))
theorem bSh_settle_6 {E : mEn} {d : Nat} {σ : mSt} {Q : mPost} {a2 : Int32} {a3 : Int32} {u4 : Value} {u5 : Value} {u6 : Value} {h : Nat} (hh : isH h) {t : Nat} (ht : isT t) : WP E (d + 1) mSh_settle 6 [.ref h, .ref t, .int a2, .int a3, u4, u5, u6] [] σ Q = WP E d mTw_comesOf 0 [.ref t, .int a2, .int a3] [] σ (fun r σ' => WP E (d + 1) mSh_settle 13 [.ref h, .ref t, .int a2, .int a3, u4, u5, u6] (r.toList ++ [.ref h]) σ' Q) := (w_aload_n dSh_settle_6 rfl).trans ((w_aload_n dSh_settle_7 rfl).trans ((w_iload_n dSh_settle_8 rfl).trans ((w_iload_n dSh_settle_9 rfl).trans (w_virt (vs := [.int a2, .int a3]) (st' := [.ref h]) (es := [.ref t, .int a2, .int a3]) dSh_settle_10 rz5_88 rfl (shT_0 ht) rfl rfl rfl (Nat.le_of_ble_eq_true rfl) (Nat.le_of_ble_eq_true rfl) rfl))))
theorem bSh_settle_13 {E : mEn} {d : Nat} {σ : mSt} {Q : mPost} {a2 : Int32} {a3 : Int32} {u4 : Value} {u5 : Value} {u6 : Value} {s0 : Int32} {h : Nat} (hh : isH h) {t : Nat} (ht : isT t) : WP E (d + 1) mSh_settle 13 [.ref h, .ref t, .int a2, .int a3, u4, u5, u6] [.int s0, .ref h] σ Q = WP E d mSh_deal 0 [.ref h, .int s0, uu, uu, uu] [] σ (fun r σ' => WP E (d + 1) mSh_settle 16 [.ref h, .ref t, .int a2, .int a3, u4, u5, u6] (r.toList ++ []) σ' Q) := w_virt (vs := [.int s0]) (st' := []) (es := [.ref h, .int s0, uu, uu, uu]) dSh_settle_13 rz5_92 rfl (shH_0 hh) rfl rfl rfl (Nat.le_of_ble_eq_true rfl) (Nat.le_of_ble_eq_true rfl) rfl
theorem bSh_settle_16 {E : mEn} {d : Nat} {σ : mSt} {Q : mPost} {a2 : Int32} {a3 : Int32} {u4 : Value} {u5 : Value} {u6 : Value} {h : Nat} (hh : isH h) {t : Nat} (ht : isT t) : WP E (d + 1) mSh_settle 16 [.ref h, .ref t, .int a2, .int a3, u4, u5, u6] [] σ Q = WP E d mTw_bakerOf 0 [.ref t, .int a2] [] σ (fun r σ' => WP E (d + 1) mSh_settle 21 [.ref h, .ref t, .int a2, .int a3, u4, u5, u6] (r.toList ++ []) σ' Q) := (w_aload_n dSh_settle_16 rfl).trans ((w_iload_n dSh_settle_17 rfl).trans (w_virt (vs := [.int a2]) (st' := []) (es := [.ref t, .int a2]) dSh_settle_18 rz5_96 rfl (shT_0 ht) rfl rfl rfl (Nat.le_of_ble_eq_true rfl) (Nat.le_of_ble_eq_true rfl) rfl))
theorem bSh_settle_21 {E : mEn} {d : Nat} {σ : mSt} {Q : mPost} {a2 : Int32} {a3 : Int32} {u4 : Value} {u5 : Value} {u6 : Value} {s0 : Int32} {h : Nat} (hh : isH h) {t : Nat} (ht : isT t) : WP E d mSh_settle 21 [.ref h, .ref t, .int a2, .int a3, u4, u5, u6] [.int s0] σ Q = WP E d mSh_settle 29 [.ref h, .ref t, .int a2, .int a3, .int s0, .int 0, .int 0] [] σ Q := (w_istore (ls' := [.ref h, .ref t, .int a2, .int a3, .int s0, u5, u6]) dSh_settle_21 (Nat.le_of_ble_eq_true rfl) rfl).trans ((w_iconst (v := 0) dSh_settle_23 rfl).trans ((w_istore (ls' := [.ref h, .ref t, .int a2, .int a3, .int s0, .int 0, u6]) dSh_settle_24 (Nat.le_of_ble_eq_true rfl) rfl).trans ((w_iconst (v := 0) dSh_settle_26 rfl).trans (w_istore (ls' := [.ref h, .ref t, .int a2, .int a3, .int s0, .int 0, .int 0]) dSh_settle_27 (Nat.le_of_ble_eq_true rfl) rfl))))
theorem bSh_settle_29 {E : mEn} {d : Nat} {σ : mSt} {Q : mPost} {a2 : Int32} {a3 : Int32} {a4 : Int32} {a5 : Int32} {a6 : Int32} {h : Nat} (hh : isH h) {t : Nat} (ht : isT t) : WP E d mSh_settle 29 [.ref h, .ref t, .int a2, .int a3, .int a4, .int a5, .int a6] [] σ Q = (if (nI 8) ≤ a6 then WP E d mSh_settle 98 [.ref h, .ref t, .int a2, .int a3, .int a4, .int a5, .int a6] [] σ Q else WP E d mSh_settle 36 [.ref h, .ref t, .int a2, .int a3, .int a4, .int a5, .int a6] [] σ Q) := (w_iload dSh_settle_29 rfl).trans ((w_bipush (v := (nI 8)) dSh_settle_31 rfl).trans (w_icmpge (t := 98) dSh_settle_33 (by decide)))
theorem bSh_settle_36 {E : mEn} {d : Nat} {σ : mSt} {Q : mPost} {a2 : Int32} {a3 : Int32} {a4 : Int32} {a5 : Int32} {a6 : Int32} {h : Nat} (hh : isH h) {t : Nat} (ht : isT t) : WP E d mSh_settle 36 [.ref h, .ref t, .int a2, .int a3, .int a4, .int a5, .int a6] [] σ Q = (if mOut a6 8 = true then False else (if mOut a6 8 = true then False else (if a6 = a4 then WP E d mSh_settle 92 [.ref h, .ref t, .int a2, .int a3, .int a4, .int a5, .int a6] [] (sI σ (h + 5) a6.toNatClampNeg (if 0 < (-(σ.1 (h + 1) a6.toNatClampNeg)) then (-(σ.1 (h + 1) a6.toNatClampNeg)) else 0)) Q else WP E d mSh_settle 62 [.ref h, .ref t, .int a2, .int a3, .int a4, .int a5, .int a6] [] (sI σ (h + 5) a6.toNatClampNeg (if 0 < (-(σ.1 (h + 1) a6.toNatClampNeg)) then (-(σ.1 (h + 1) a6.toNatClampNeg)) else 0)) Q))) := (w_aload_n dSh_settle_36 rfl).trans ((w_getr (r := h + 5) dSh_settle_37 rz5_24 (shH_0 hh) rfl).trans ((w_iload dSh_settle_40 rfl).trans ((w_iconst (v := 0) dSh_settle_42 rfl).trans ((w_aload_n dSh_settle_43 rfl).trans ((w_getr (r := h + 1) dSh_settle_44 rz5_9 (shH_0 hh) rfl).trans ((w_iload dSh_settle_47 rfl).trans ((w_iald dSh_settle_49 (shH_1 hh) (ltH hh (by decide))).trans (ite_c ((w_ineg dSh_settle_50).trans ((w_max dSh_settle_51 rz5_100 (Nat.le_of_ble_eq_true rfl)).trans ((w_iast dSh_settle_54 (shH_5 hh)).trans (ite_c ((w_iload dSh_settle_55 rfl).trans ((w_iload dSh_settle_57 rfl).trans (w_icmpeq (t := 92) dSh_settle_59 (by decide))))))))))))))))
theorem bSh_settle_62 {E : mEn} {d : Nat} {σ : mSt} {Q : mPost} {a2 : Int32} {a3 : Int32} {a4 : Int32} {a5 : Int32} {a6 : Int32} {h : Nat} (hh : isH h) {t : Nat} (ht : isT t) : WP E d mSh_settle 62 [.ref h, .ref t, .int a2, .int a3, .int a4, .int a5, .int a6] [] σ Q = (if mOut a6 8 = true then False else (if (σ.1 (h + 1) a6.toNatClampNeg) ≤ 0 then WP E d mSh_settle 92 [.ref h, .ref t, .int a2, .int a3, .int a4, .int a5, .int a6] [] σ Q else WP E d mSh_settle 72 [.ref h, .ref t, .int a2, .int a3, .int a4, .int a5, .int a6] [] σ Q)) := (w_aload_n dSh_settle_62 rfl).trans ((w_getr (r := h + 1) dSh_settle_63 rz5_9 (shH_0 hh) rfl).trans ((w_iload dSh_settle_66 rfl).trans ((w_iald dSh_settle_68 (shH_1 hh) (ltH hh (by decide))).trans (ite_c (w_ifle (t := 92) dSh_settle_69 (by decide))))))
theorem bSh_settle_72 {E : mEn} {d : Nat} {σ : mSt} {Q : mPost} {a2 : Int32} {a3 : Int32} {a4 : Int32} {a5 : Int32} {a6 : Int32} {h : Nat} (hh : isH h) {t : Nat} (ht : isT t) : WP E d mSh_settle 72 [.ref h, .ref t, .int a2, .int a3, .int a4, .int a5, .int a6] [] σ Q = (if mOut a6 8 = true then False else (if mOut a6 8 = true then False else WP E d mSh_settle 92 [.ref h, .ref t, .int a2, .int a3, .int a4, .int (a5 + ((σ.1 (h + 1) a6.toNatClampNeg) - (σ.1 (h + 4) a6.toNatClampNeg))), .int a6] [] σ Q)) := (w_iload dSh_settle_72 rfl).trans ((w_aload_n dSh_settle_74 rfl).trans ((w_getr (r := h + 1) dSh_settle_75 rz5_9 (shH_0 hh) rfl).trans ((w_iload dSh_settle_78 rfl).trans ((w_iald dSh_settle_80 (shH_1 hh) (ltH hh (by decide))).trans (ite_c ((w_aload_n dSh_settle_81 rfl).trans ((w_getr (r := h + 4) dSh_settle_82 rz5_21 (shH_0 hh) rfl).trans ((w_iload dSh_settle_85 rfl).trans ((w_iald dSh_settle_87 (shH_4 hh) (ltH hh (by decide))).trans (ite_c ((w_isub dSh_settle_88).trans ((w_iadd dSh_settle_89).trans (w_istore (ls' := [.ref h, .ref t, .int a2, .int a3, .int a4, .int (a5 + ((σ.1 (h + 1) a6.toNatClampNeg) - (σ.1 (h + 4) a6.toNatClampNeg))), .int a6]) dSh_settle_90 (Nat.le_of_ble_eq_true rfl) rfl)))))))))))))
theorem bSh_settle_92 {E : mEn} {d : Nat} {σ : mSt} {Q : mPost} {a2 : Int32} {a3 : Int32} {a4 : Int32} {a5 : Int32} {a6 : Int32} {h : Nat} (hh : isH h) {t : Nat} (ht : isT t) : WP E d mSh_settle 92 [.ref h, .ref t, .int a2, .int a3, .int a4, .int a5, .int a6] [] σ Q = WP E d mSh_settle 29 [.ref h, .ref t, .int a2, .int a3, .int a4, .int a5, .int (a6 + 1)] [] σ Q := (w_iinc (v := 1) (ls' := [.ref h, .ref t, .int a2, .int a3, .int a4, .int a5, .int (a6 + 1)]) dSh_settle_92 rfl rfl rfl).trans (w_goto (t := 29) dSh_settle_95 (by decide))
theorem bSh_settle_98 {E : mEn} {d : Nat} {σ : mSt} {Q : mPost} {a2 : Int32} {a3 : Int32} {a4 : Int32} {a5 : Int32} {a6 : Int32} {h : Nat} (hh : isH h) {t : Nat} (ht : isT t) : WP E (d + 1) mSh_settle 98 [.ref h, .ref t, .int a2, .int a3, .int a4, .int a5, .int a6] [] σ Q = WP E d mTw_hasPerson 0 [.ref t, .int a4] [] σ (fun r σ' => WP E (d + 1) mSh_settle 104 [.ref h, .ref t, .int a2, .int a3, .int a4, .int a5, .int a6] (r.toList ++ []) σ' Q) := (w_aload_n dSh_settle_98 rfl).trans ((w_iload dSh_settle_99 rfl).trans (w_virt (vs := [.int a4]) (st' := []) (es := [.ref t, .int a4]) dSh_settle_101 rz5_103 rfl (shT_0 ht) rfl rfl rfl (Nat.le_of_ble_eq_true rfl) (Nat.le_of_ble_eq_true rfl) rfl))
theorem bSh_settle_104 {E : mEn} {d : Nat} {σ : mSt} {Q : mPost} {a2 : Int32} {a3 : Int32} {a4 : Int32} {a5 : Int32} {a6 : Int32} {s0 : Int32} {h : Nat} (hh : isH h) {t : Nat} (ht : isT t) : WP E d mSh_settle 104 [.ref h, .ref t, .int a2, .int a3, .int a4, .int a5, .int a6] [.int s0] σ Q = (if s0 = 0 then WP E d mSh_settle 119 [.ref h, .ref t, .int a2, .int a3, .int a4, .int a5, .int a6] [] σ Q else WP E d mSh_settle 107 [.ref h, .ref t, .int a2, .int a3, .int a4, .int a5, .int a6] [] σ Q) := w_ifeq (t := 119) dSh_settle_104 (by decide)
theorem bSh_settle_107 {E : mEn} {d : Nat} {σ : mSt} {Q : mPost} {a2 : Int32} {a3 : Int32} {a4 : Int32} {a5 : Int32} {a6 : Int32} {h : Nat} (hh : isH h) {t : Nat} (ht : isT t) : WP E d mSh_settle 107 [.ref h, .ref t, .int a2, .int a3, .int a4, .int a5, .int a6] [] σ Q = (if mOut a4 8 = true then False else (if mOut a4 8 = true then False else WP E d mSh_settle 119 [.ref h, .ref t, .int a2, .int a3, .int a4, .int a5, .int a6] [] (sI σ (h + 5) a4.toNatClampNeg ((σ.1 (h + 5) a4.toNatClampNeg) + a5)) Q)) := (w_aload_n dSh_settle_107 rfl).trans ((w_getr (r := h + 5) dSh_settle_108 rz5_24 (shH_0 hh) rfl).trans ((w_iload dSh_settle_111 rfl).trans ((w_dup2 dSh_settle_113 rfl rfl).trans ((w_iald dSh_settle_114 (shH_5 hh) (ltH hh (by decide))).trans (ite_c ((w_iload dSh_settle_115 rfl).trans ((w_iadd dSh_settle_117).trans ((w_iast dSh_settle_118 (shH_5 hh)).trans (ite_c (rfl))))))))))
theorem bSh_settle_119 {E : mEn} {d : Nat} {σ : mSt} {Q : mPost} {a2 : Int32} {a3 : Int32} {a4 : Int32} {a5 : Int32} {a6 : Int32} {h : Nat} (hh : isH h) {t : Nat} (ht : isT t) : WP E d mSh_settle 119 [.ref h, .ref t, .int a2, .int a3, .int a4, .int a5, .int a6] [] σ Q = Q none σ := w_vret dSh_settle_119 rfl
theorem dSh_gather_0 : decode (mC mSh_gather) 0 = .ok (.aload_n 0, 1) := by decide +kernel
theorem dSh_gather_1 : decode (mC mSh_gather) 1 = .ok (.getfield 27, 3) := by decide +kernel
theorem dSh_gather_4 : decode (mC mSh_gather) 4 = .ok (.iconst (0), 1) := by decide +kernel
theorem dSh_gather_5 : decode (mC mSh_gather) 5 = .ok (.invokestatic 30, 3) := by decide +kernel
theorem dSh_gather_8 : decode (mC mSh_gather) 8 = .ok (.aload_n 1, 1) := by decide +kernel
theorem dSh_gather_9 : decode (mC mSh_gather) 9 = .ok (.iload_n 2, 1) := by decide +kernel
theorem dSh_gather_10 : decode (mC mSh_gather) 10 = .ok (.invokevirtual 103, 3) := by decide +kernel
theorem dSh_gather_13 : decode (mC mSh_gather) 13 = .ok (.ifCond .ne (4), 3) := by decide +kernel
theorem dSh_gather_16 : decode (mC mSh_gather) 16 = .ok (.return_, 1) := by decide +kernel
theorem dSh_gather_17 : decode (mC mSh_gather) 17 = .ok (.iconst (0), 1) := by decide +kernel
theorem dSh_gather_18 : decode (mC mSh_gather) 18 = .ok (.istore_n 3, 1) := by decide +kernel
theorem dSh_gather_19 : decode (mC mSh_gather) 19 = .ok (.iload_n 3, 1) := by decide +kernel
theorem dSh_gather_20 : decode (mC mSh_gather) 20 = .ok (.aload_n 1, 1) := by decide +kernel
theorem dSh_gather_21 : decode (mC mSh_gather) 21 = .ok (.getfield 106, 3) := by decide +kernel
theorem dSh_gather_24 : decode (mC mSh_gather) 24 = .ok (.if_icmp .ge (37), 3) := by decide +kernel
theorem dSh_gather_27 : decode (mC mSh_gather) 27 = .ok (.aload_n 0, 1) := by decide +kernel
theorem dSh_gather_28 : decode (mC mSh_gather) 28 = .ok (.aload_n 1, 1) := by decide +kernel
theorem dSh_gather_29 : decode (mC mSh_gather) 29 = .ok (.iload_n 3, 1) := by decide +kernel
theorem dSh_gather_30 : decode (mC mSh_gather) 30 = .ok (.invokevirtual 84, 3) := by decide +kernel
theorem dSh_gather_33 : decode (mC mSh_gather) 33 = .ok (.aload_n 0, 1) := by decide +kernel
theorem dSh_gather_34 : decode (mC mSh_gather) 34 = .ok (.aload_n 1, 1) := by decide +kernel
theorem dSh_gather_35 : decode (mC mSh_gather) 35 = .ok (.iload_n 3, 1) := by decide +kernel
theorem dSh_gather_36 : decode (mC mSh_gather) 36 = .ok (.iconst (0), 1) := by decide +kernel
theorem dSh_gather_37 : decode (mC mSh_gather) 37 = .ok (.invokevirtual 88, 3) := by decide +kernel
theorem dSh_gather_40 : decode (mC mSh_gather) 40 = .ok (.invokevirtual 92, 3) := by decide +kernel
theorem dSh_gather_43 : decode (mC mSh_gather) 43 = .ok (.aload_n 0, 1) := by decide +kernel
theorem dSh_gather_44 : decode (mC mSh_gather) 44 = .ok (.getfield 27, 3) := by decide +kernel
theorem dSh_gather_47 : decode (mC mSh_gather) 47 = .ok (.iload_n 3, 1) := by decide +kernel
theorem dSh_gather_48 : decode (mC mSh_gather) 48 = .ok (.aload_n 0, 1) := by decide +kernel
theorem dSh_gather_49 : decode (mC mSh_gather) 49 = .ok (.getfield 21, 3) := by decide +kernel
theorem dSh_gather_52 : decode (mC mSh_gather) 52 = .ok (.iload_n 2, 1) := by decide +kernel
theorem dSh_gather_53 : decode (mC mSh_gather) 53 = .ok (.iaload, 1) := by decide +kernel
theorem dSh_gather_54 : decode (mC mSh_gather) 54 = .ok (.iastore, 1) := by decide +kernel
theorem dSh_gather_55 : decode (mC mSh_gather) 55 = .ok (.iinc 3 (1), 3) := by decide +kernel
theorem dSh_gather_58 : decode (mC mSh_gather) 58 = .ok (.goto (-39), 3) := by decide +kernel
theorem dSh_gather_61 : decode (mC mSh_gather) 61 = .ok (.return_, 1) := by decide +kernel
theorem bSh_gather_0 {E : mEn} {d : Nat} {σ : mSt} {Q : mPost} {a2 : Int32} {u3 : Value} {h : Nat} (hh : isH h) {t : Nat} (ht : isT t) : WP E (d + 1) mSh_gather 0 [.ref h, .ref t, .int a2, u3] [] σ Q = WP E d mAr_fill 0 [.ref (h + 6), .int 0, uu, uu] [] σ (fun r σ' => WP E (d + 1) mSh_gather 8 [.ref h, .ref t, .int a2, u3] (r.toList ++ []) σ' Q) := (w_aload_n dSh_gather_0 rfl).trans ((w_getr (r := h + 6) dSh_gather_1 rz5_27 (shH_0 hh) rfl).trans ((w_iconst (v := 0) dSh_gather_4 rfl).trans (w_stat (vs := [.ref (h + 6), .int 0]) (st' := []) (es := [.ref (h + 6), .int 0, uu, uu]) dSh_gather_5 rz5_30 rfl rfl rfl (Nat.le_of_ble_eq_true rfl) (Nat.le_of_ble_eq_true rfl) rfl)))
theorem bSh_gather_8 {E : mEn} {d : Nat} {σ : mSt} {Q : mPost} {a2 : Int32} {u3 : Value} {h : Nat} (hh : isH h) {t : Nat} (ht : isT t) : WP E (d + 1) mSh_gather 8 [.ref h, .ref t, .int a2, u3] [] σ Q = WP E d mTw_hasPerson 0 [.ref t, .int a2] [] σ (fun r σ' => WP E (d + 1) mSh_gather 13 [.ref h, .ref t, .int a2, u3] (r.toList ++ []) σ' Q) := (w_aload_n dSh_gather_8 rfl).trans ((w_iload_n dSh_gather_9 rfl).trans (w_virt (vs := [.int a2]) (st' := []) (es := [.ref t, .int a2]) dSh_gather_10 rz5_103 rfl (shT_0 ht) rfl rfl rfl (Nat.le_of_ble_eq_true rfl) (Nat.le_of_ble_eq_true rfl) rfl))
theorem bSh_gather_13 {E : mEn} {d : Nat} {σ : mSt} {Q : mPost} {a2 : Int32} {u3 : Value} {s0 : Int32} {h : Nat} (hh : isH h) {t : Nat} (ht : isT t) : WP E d mSh_gather 13 [.ref h, .ref t, .int a2, u3] [.int s0] σ Q = (if ¬ s0 = 0 then WP E d mSh_gather 17 [.ref h, .ref t, .int a2, u3] [] σ Q else WP E d mSh_gather 16 [.ref h, .ref t, .int a2, u3] [] σ Q) := w_ifne (t := 17) dSh_gather_13 (by decide)
theorem bSh_gather_16 {E : mEn} {d : Nat} {σ : mSt} {Q : mPost} {a2 : Int32} {u3 : Value} {h : Nat} (hh : isH h) {t : Nat} (ht : isT t) : WP E d mSh_gather 16 [.ref h, .ref t, .int a2, u3] [] σ Q = Q none σ := w_vret dSh_gather_16 rfl
theorem bSh_gather_17 {E : mEn} {d : Nat} {σ : mSt} {Q : mPost} {a2 : Int32} {u3 : Value} {h : Nat} (hh : isH h) {t : Nat} (ht : isT t) : WP E d mSh_gather 17 [.ref h, .ref t, .int a2, u3] [] σ Q = WP E d mSh_gather 19 [.ref h, .ref t, .int a2, .int 0] [] σ Q := (w_iconst (v := 0) dSh_gather_17 rfl).trans (w_istore_n (ls' := [.ref h, .ref t, .int a2, .int 0]) dSh_gather_18 (Nat.le_of_ble_eq_true rfl) rfl)
theorem bSh_gather_19 {E : mEn} {d : Nat} {σ : mSt} {Q : mPost} {a2 : Int32} {a3 : Int32} {h : Nat} (hh : isH h) {t : Nat} (ht : isT t) : WP E d mSh_gather 19 [.ref h, .ref t, .int a2, .int a3] [] σ Q = (if (σ.1 t 15) ≤ a3 then WP E d mSh_gather 61 [.ref h, .ref t, .int a2, .int a3] [] σ Q else WP E d mSh_gather 27 [.ref h, .ref t, .int a2, .int a3] [] σ Q) := (w_iload_n dSh_gather_19 rfl).trans ((w_aload_n dSh_gather_20 rfl).trans ((w_geti dSh_gather_21 rz5_106 (shT_0 ht) rfl).trans (w_icmpge (t := 61) dSh_gather_24 (by decide))))
theorem bSh_gather_27 {E : mEn} {d : Nat} {σ : mSt} {Q : mPost} {a2 : Int32} {a3 : Int32} {h : Nat} (hh : isH h) {t : Nat} (ht : isT t) : WP E (d + 1) mSh_gather 27 [.ref h, .ref t, .int a2, .int a3] [] σ Q = WP E d mSh_weigh 0 [.ref h, .ref t, .int a3, uu, uu] [] σ (fun r σ' => WP E (d + 1) mSh_gather 33 [.ref h, .ref t, .int a2, .int a3] (r.toList ++ []) σ' Q) := (w_aload_n dSh_gather_27 rfl).trans ((w_aload_n dSh_gather_28 rfl).trans ((w_iload_n dSh_gather_29 rfl).trans (w_virt (vs := [.ref t, .int a3]) (st' := []) (es := [.ref h, .ref t, .int a3, uu, uu]) dSh_gather_30 rz5_84 rfl (shH_0 hh) rfl rfl rfl (Nat.le_of_ble_eq_true rfl) (Nat.le_of_ble_eq_true rfl) rfl)))
theorem bSh_gather_33 {E : mEn} {d : Nat} {σ : mSt} {Q : mPost} {a2 : Int32} {a3 : Int32} {h : Nat} (hh : isH h) {t : Nat} (ht : isT t) : WP E (d + 1) mSh_gather 33 [.ref h, .ref t, .int a2, .int a3] [] σ Q = WP E d mTw_comesOf 0 [.ref t, .int a3, .int 0] [] σ (fun r σ' => WP E (d + 1) mSh_gather 40 [.ref h, .ref t, .int a2, .int a3] (r.toList ++ [.ref h]) σ' Q) := (w_aload_n dSh_gather_33 rfl).trans ((w_aload_n dSh_gather_34 rfl).trans ((w_iload_n dSh_gather_35 rfl).trans ((w_iconst (v := 0) dSh_gather_36 rfl).trans (w_virt (vs := [.int a3, .int 0]) (st' := [.ref h]) (es := [.ref t, .int a3, .int 0]) dSh_gather_37 rz5_88 rfl (shT_0 ht) rfl rfl rfl (Nat.le_of_ble_eq_true rfl) (Nat.le_of_ble_eq_true rfl) rfl))))
theorem bSh_gather_40 {E : mEn} {d : Nat} {σ : mSt} {Q : mPost} {a2 : Int32} {a3 : Int32} {s0 : Int32} {h : Nat} (hh : isH h) {t : Nat} (ht : isT t) : WP E (d + 1) mSh_gather 40 [.ref h, .ref t, .int a2, .int a3] [.int s0, .ref h] σ Q = WP E d mSh_deal 0 [.ref h, .int s0, uu, uu, uu] [] σ (fun r σ' => WP E (d + 1) mSh_gather 43 [.ref h, .ref t, .int a2, .int a3] (r.toList ++ []) σ' Q) := w_virt (vs := [.int s0]) (st' := []) (es := [.ref h, .int s0, uu, uu, uu]) dSh_gather_40 rz5_92 rfl (shH_0 hh) rfl rfl rfl (Nat.le_of_ble_eq_true rfl) (Nat.le_of_ble_eq_true rfl) rfl
theorem bSh_gather_43 {E : mEn} {d : Nat} {σ : mSt} {Q : mPost} {a2 : Int32} {a3 : Int32} {h : Nat} (hh : isH h) {t : Nat} (ht : isT t) : WP E d mSh_gather 43 [.ref h, .ref t, .int a2, .int a3] [] σ Q = (if mOut a2 8 = true then False else (if mOut a3 8 = true then False else WP E d mSh_gather 19 [.ref h, .ref t, .int a2, .int (a3 + 1)] [] (sI σ (h + 6) a3.toNatClampNeg (σ.1 (h + 4) a2.toNatClampNeg)) Q)) := (w_aload_n dSh_gather_43 rfl).trans ((w_getr (r := h + 6) dSh_gather_44 rz5_27 (shH_0 hh) rfl).trans ((w_iload_n dSh_gather_47 rfl).trans ((w_aload_n dSh_gather_48 rfl).trans ((w_getr (r := h + 4) dSh_gather_49 rz5_21 (shH_0 hh) rfl).trans ((w_iload_n dSh_gather_52 rfl).trans ((w_iald dSh_gather_53 (shH_4 hh) (ltH hh (by decide))).trans (ite_c ((w_iast dSh_gather_54 (shH_6 hh)).trans (ite_c ((w_iinc (v := 1) (ls' := [.ref h, .ref t, .int a2, .int (a3 + 1)]) dSh_gather_55 rfl rfl rfl).trans (w_goto (t := 19) dSh_gather_58 (by decide))))))))))))
theorem bSh_gather_61 {E : mEn} {d : Nat} {σ : mSt} {Q : mPost} {a2 : Int32} {a3 : Int32} {h : Nat} (hh : isH h) {t : Nat} (ht : isT t) : WP E d mSh_gather 61 [.ref h, .ref t, .int a2, .int a3] [] σ Q = Q none σ := w_vret dSh_gather_61 rfl
theorem dSh_cheapestSet_0 : decode (mC mSh_cheapestSet) 0 = .ok (.iconst (0), 1) := by decide +kernel
theorem dSh_cheapestSet_1 : decode (mC mSh_cheapestSet) 1 = .ok (.istore_n 3, 1) := by decide +kernel
theorem dSh_cheapestSet_2 : decode (mC mSh_cheapestSet) 2 = .ok (.iconst (0), 1) := by decide +kernel
theorem dSh_cheapestSet_3 : decode (mC mSh_cheapestSet) 3 = .ok (.istore 4, 2) := by decide +kernel
theorem dSh_cheapestSet_5 : decode (mC mSh_cheapestSet) 5 = .ok (.iload 4, 2) := by decide +kernel
theorem dSh_cheapestSet_7 : decode (mC mSh_cheapestSet) 7 = .ok (.aload_n 1, 1) := by decide +kernel
theorem dSh_cheapestSet_8 : decode (mC mSh_cheapestSet) 8 = .ok (.getfield 106, 3) := by decide +kernel
theorem dSh_cheapestSet_11 : decode (mC mSh_cheapestSet) 11 = .ok (.if_icmp .ge (34), 3) := by decide +kernel
theorem dSh_cheapestSet_14 : decode (mC mSh_cheapestSet) 14 = .ok (.aload_n 1, 1) := by decide +kernel
theorem dSh_cheapestSet_15 : decode (mC mSh_cheapestSet) 15 = .ok (.iload 4, 2) := by decide +kernel
theorem dSh_cheapestSet_17 : decode (mC mSh_cheapestSet) 17 = .ok (.invokevirtual 109, 3) := by decide +kernel
theorem dSh_cheapestSet_20 : decode (mC mSh_cheapestSet) 20 = .ok (.ifCond .ne (19), 3) := by decide +kernel
theorem dSh_cheapestSet_23 : decode (mC mSh_cheapestSet) 23 = .ok (.aload_n 1, 1) := by decide +kernel
theorem dSh_cheapestSet_24 : decode (mC mSh_cheapestSet) 24 = .ok (.iload 4, 2) := by decide +kernel
theorem dSh_cheapestSet_26 : decode (mC mSh_cheapestSet) 26 = .ok (.invokevirtual 112, 3) := by decide +kernel
theorem dSh_cheapestSet_29 : decode (mC mSh_cheapestSet) 29 = .ok (.ifCond .ne (10), 3) := by decide +kernel
theorem dSh_cheapestSet_32 : decode (mC mSh_cheapestSet) 32 = .ok (.iload_n 3, 1) := by decide +kernel
theorem dSh_cheapestSet_33 : decode (mC mSh_cheapestSet) 33 = .ok (.iconst (1), 1) := by decide +kernel
theorem dSh_cheapestSet_34 : decode (mC mSh_cheapestSet) 34 = .ok (.iload 4, 2) := by decide +kernel
theorem dSh_cheapestSet_36 : decode (mC mSh_cheapestSet) 36 = .ok (.ishl, 1) := by decide +kernel
theorem dSh_cheapestSet_37 : decode (mC mSh_cheapestSet) 37 = .ok (.ior, 1) := by decide +kernel
theorem dSh_cheapestSet_38 : decode (mC mSh_cheapestSet) 38 = .ok (.istore_n 3, 1) := by decide +kernel
theorem dSh_cheapestSet_39 : decode (mC mSh_cheapestSet) 39 = .ok (.iinc 4 (1), 3) := by decide +kernel
theorem dSh_cheapestSet_42 : decode (mC mSh_cheapestSet) 42 = .ok (.goto (-37), 3) := by decide +kernel
theorem dSh_cheapestSet_45 : decode (mC mSh_cheapestSet) 45 = .ok (.iconst (-1), 1) := by decide +kernel
theorem dSh_cheapestSet_46 : decode (mC mSh_cheapestSet) 46 = .ok (.istore 4, 2) := by decide +kernel
theorem dSh_cheapestSet_48 : decode (mC mSh_cheapestSet) 48 = .ok (.iconst (0), 1) := by decide +kernel
theorem dSh_cheapestSet_49 : decode (mC mSh_cheapestSet) 49 = .ok (.istore 5, 2) := by decide +kernel
theorem dSh_cheapestSet_51 : decode (mC mSh_cheapestSet) 51 = .ok (.iconst (1), 1) := by decide +kernel
theorem dSh_cheapestSet_52 : decode (mC mSh_cheapestSet) 52 = .ok (.istore 6, 2) := by decide +kernel
theorem dSh_cheapestSet_54 : decode (mC mSh_cheapestSet) 54 = .ok (.iload 6, 2) := by decide +kernel
theorem dSh_cheapestSet_56 : decode (mC mSh_cheapestSet) 56 = .ok (.sipush (256), 3) := by decide +kernel
theorem dSh_cheapestSet_59 : decode (mC mSh_cheapestSet) 59 = .ok (.if_icmp .ge (60), 3) := by decide +kernel
theorem dSh_cheapestSet_62 : decode (mC mSh_cheapestSet) 62 = .ok (.iload 6, 2) := by decide +kernel
theorem dSh_cheapestSet_64 : decode (mC mSh_cheapestSet) 64 = .ok (.iload_n 3, 1) := by decide +kernel
theorem dSh_cheapestSet_65 : decode (mC mSh_cheapestSet) 65 = .ok (.iconst (-1), 1) := by decide +kernel
theorem dSh_cheapestSet_66 : decode (mC mSh_cheapestSet) 66 = .ok (.ixor, 1) := by decide +kernel
theorem dSh_cheapestSet_67 : decode (mC mSh_cheapestSet) 67 = .ok (.iand, 1) := by decide +kernel
theorem dSh_cheapestSet_68 : decode (mC mSh_cheapestSet) 68 = .ok (.ifCond .ne (45), 3) := by decide +kernel
theorem dSh_cheapestSet_71 : decode (mC mSh_cheapestSet) 71 = .ok (.aload_n 0, 1) := by decide +kernel
theorem dSh_cheapestSet_72 : decode (mC mSh_cheapestSet) 72 = .ok (.iload 6, 2) := by decide +kernel
theorem dSh_cheapestSet_74 : decode (mC mSh_cheapestSet) 74 = .ok (.invokevirtual 115, 3) := by decide +kernel
theorem dSh_cheapestSet_77 : decode (mC mSh_cheapestSet) 77 = .ok (.iload_n 2, 1) := by decide +kernel
theorem dSh_cheapestSet_78 : decode (mC mSh_cheapestSet) 78 = .ok (.if_icmp .ge (6), 3) := by decide +kernel
theorem dSh_cheapestSet_81 : decode (mC mSh_cheapestSet) 81 = .ok (.goto (32), 3) := by decide +kernel
theorem dSh_cheapestSet_84 : decode (mC mSh_cheapestSet) 84 = .ok (.aload_n 1, 1) := by decide +kernel
theorem dSh_cheapestSet_85 : decode (mC mSh_cheapestSet) 85 = .ok (.iload 6, 2) := by decide +kernel
theorem dSh_cheapestSet_87 : decode (mC mSh_cheapestSet) 87 = .ok (.invokevirtual 118, 3) := by decide +kernel
theorem dSh_cheapestSet_90 : decode (mC mSh_cheapestSet) 90 = .ok (.istore 7, 2) := by decide +kernel
theorem dSh_cheapestSet_92 : decode (mC mSh_cheapestSet) 92 = .ok (.iload 4, 2) := by decide +kernel
theorem dSh_cheapestSet_94 : decode (mC mSh_cheapestSet) 94 = .ok (.iconst (-1), 1) := by decide +kernel
theorem dSh_cheapestSet_95 : decode (mC mSh_cheapestSet) 95 = .ok (.if_icmp .eq (10), 3) := by decide +kernel
theorem dSh_cheapestSet_98 : decode (mC mSh_cheapestSet) 98 = .ok (.iload 7, 2) := by decide +kernel
theorem dSh_cheapestSet_100 : decode (mC mSh_cheapestSet) 100 = .ok (.iload 5, 2) := by decide +kernel
theorem dSh_cheapestSet_102 : decode (mC mSh_cheapestSet) 102 = .ok (.if_icmp .ge (11), 3) := by decide +kernel
theorem dSh_cheapestSet_105 : decode (mC mSh_cheapestSet) 105 = .ok (.iload 6, 2) := by decide +kernel
theorem dSh_cheapestSet_107 : decode (mC mSh_cheapestSet) 107 = .ok (.istore 4, 2) := by decide +kernel
theorem dSh_cheapestSet_109 : decode (mC mSh_cheapestSet) 109 = .ok (.iload 7, 2) := by decide +kernel
theorem dSh_cheapestSet_111 : decode (mC mSh_cheapestSet) 111 = .ok (.istore 5, 2) := by decide +kernel
theorem dSh_cheapestSet_113 : decode (mC mSh_cheapestSet) 113 = .ok (.iinc 6 (1), 3) := by decide +kernel
theorem dSh_cheapestSet_116 : decode (mC mSh_cheapestSet) 116 = .ok (.goto (-62), 3) := by decide +kernel
theorem dSh_cheapestSet_119 : decode (mC mSh_cheapestSet) 119 = .ok (.iload 4, 2) := by decide +kernel
theorem dSh_cheapestSet_121 : decode (mC mSh_cheapestSet) 121 = .ok (.ireturn, 1) := by decide +kernel
theorem bSh_cheapestSet_0 {E : mEn} {d : Nat} {σ : mSt} {Q : mPost} {a2 : Int32} {u3 : Value} {u4 : Value} {u5 : Value} {u6 : Value} {u7 : Value} {h : Nat} (hh : isH h) {t : Nat} (ht : isT t) : WP E d mSh_cheapestSet 0 [.ref h, .ref t, .int a2, u3, u4, u5, u6, u7] [] σ Q = WP E d mSh_cheapestSet 5 [.ref h, .ref t, .int a2, .int 0, .int 0, u5, u6, u7] [] σ Q := (w_iconst (v := 0) dSh_cheapestSet_0 rfl).trans ((w_istore_n (ls' := [.ref h, .ref t, .int a2, .int 0, u4, u5, u6, u7]) dSh_cheapestSet_1 (Nat.le_of_ble_eq_true rfl) rfl).trans ((w_iconst (v := 0) dSh_cheapestSet_2 rfl).trans (w_istore (ls' := [.ref h, .ref t, .int a2, .int 0, .int 0, u5, u6, u7]) dSh_cheapestSet_3 (Nat.le_of_ble_eq_true rfl) rfl)))
theorem bSh_cheapestSet_5 {E : mEn} {d : Nat} {σ : mSt} {Q : mPost} {a2 : Int32} {a3 : Int32} {a4 : Int32} {u5 : Value} {u6 : Value} {u7 : Value} {h : Nat} (hh : isH h) {t : Nat} (ht : isT t) : WP E d mSh_cheapestSet 5 [.ref h, .ref t, .int a2, .int a3, .int a4, u5, u6, u7] [] σ Q = (if (σ.1 t 15) ≤ a4 then WP E d mSh_cheapestSet 45 [.ref h, .ref t, .int a2, .int a3, .int a4, u5, u6, u7] [] σ Q else WP E d mSh_cheapestSet 14 [.ref h, .ref t, .int a2, .int a3, .int a4, u5, u6, u7] [] σ Q) := (w_iload dSh_cheapestSet_5 rfl).trans ((w_aload_n dSh_cheapestSet_7 rfl).trans ((w_geti dSh_cheapestSet_8 rz5_106 (shT_0 ht) rfl).trans (w_icmpge (t := 45) dSh_cheapestSet_11 (by decide))))
theorem bSh_cheapestSet_14 {E : mEn} {d : Nat} {σ : mSt} {Q : mPost} {a2 : Int32} {a3 : Int32} {a4 : Int32} {u5 : Value} {u6 : Value} {u7 : Value} {h : Nat} (hh : isH h) {t : Nat} (ht : isT t) : WP E (d + 1) mSh_cheapestSet 14 [.ref h, .ref t, .int a2, .int a3, .int a4, u5, u6, u7] [] σ Q = WP E d mTw_isPaper 0 [.ref t, .int a4] [] σ (fun r σ' => WP E (d + 1) mSh_cheapestSet 20 [.ref h, .ref t, .int a2, .int a3, .int a4, u5, u6, u7] (r.toList ++ []) σ' Q) := (w_aload_n dSh_cheapestSet_14 rfl).trans ((w_iload dSh_cheapestSet_15 rfl).trans (w_virt (vs := [.int a4]) (st' := []) (es := [.ref t, .int a4]) dSh_cheapestSet_17 rz5_109 rfl (shT_0 ht) rfl rfl rfl (Nat.le_of_ble_eq_true rfl) (Nat.le_of_ble_eq_true rfl) rfl))
theorem bSh_cheapestSet_20 {E : mEn} {d : Nat} {σ : mSt} {Q : mPost} {a2 : Int32} {a3 : Int32} {a4 : Int32} {u5 : Value} {u6 : Value} {u7 : Value} {s0 : Int32} {h : Nat} (hh : isH h) {t : Nat} (ht : isT t) : WP E d mSh_cheapestSet 20 [.ref h, .ref t, .int a2, .int a3, .int a4, u5, u6, u7] [.int s0] σ Q = (if ¬ s0 = 0 then WP E d mSh_cheapestSet 39 [.ref h, .ref t, .int a2, .int a3, .int a4, u5, u6, u7] [] σ Q else WP E d mSh_cheapestSet 23 [.ref h, .ref t, .int a2, .int a3, .int a4, u5, u6, u7] [] σ Q) := w_ifne (t := 39) dSh_cheapestSet_20 (by decide)
theorem bSh_cheapestSet_23 {E : mEn} {d : Nat} {σ : mSt} {Q : mPost} {a2 : Int32} {a3 : Int32} {a4 : Int32} {u5 : Value} {u6 : Value} {u7 : Value} {h : Nat} (hh : isH h) {t : Nat} (ht : isT t) : WP E (d + 1) mSh_cheapestSet 23 [.ref h, .ref t, .int a2, .int a3, .int a4, u5, u6, u7] [] σ Q = WP E d mTw_isBaked 0 [.ref t, .int a4] [] σ (fun r σ' => WP E (d + 1) mSh_cheapestSet 29 [.ref h, .ref t, .int a2, .int a3, .int a4, u5, u6, u7] (r.toList ++ []) σ' Q) := (w_aload_n dSh_cheapestSet_23 rfl).trans ((w_iload dSh_cheapestSet_24 rfl).trans (w_virt (vs := [.int a4]) (st' := []) (es := [.ref t, .int a4]) dSh_cheapestSet_26 rz5_112 rfl (shT_0 ht) rfl rfl rfl (Nat.le_of_ble_eq_true rfl) (Nat.le_of_ble_eq_true rfl) rfl))
theorem bSh_cheapestSet_29 {E : mEn} {d : Nat} {σ : mSt} {Q : mPost} {a2 : Int32} {a3 : Int32} {a4 : Int32} {u5 : Value} {u6 : Value} {u7 : Value} {s0 : Int32} {h : Nat} (hh : isH h) {t : Nat} (ht : isT t) : WP E d mSh_cheapestSet 29 [.ref h, .ref t, .int a2, .int a3, .int a4, u5, u6, u7] [.int s0] σ Q = (if ¬ s0 = 0 then WP E d mSh_cheapestSet 39 [.ref h, .ref t, .int a2, .int a3, .int a4, u5, u6, u7] [] σ Q else WP E d mSh_cheapestSet 32 [.ref h, .ref t, .int a2, .int a3, .int a4, u5, u6, u7] [] σ Q) := w_ifne (t := 39) dSh_cheapestSet_29 (by decide)
theorem bSh_cheapestSet_32 {E : mEn} {d : Nat} {σ : mSt} {Q : mPost} {a2 : Int32} {a3 : Int32} {a4 : Int32} {u5 : Value} {u6 : Value} {u7 : Value} {h : Nat} (hh : isH h) {t : Nat} (ht : isT t) : WP E d mSh_cheapestSet 32 [.ref h, .ref t, .int a2, .int a3, .int a4, u5, u6, u7] [] σ Q = WP E d mSh_cheapestSet 39 [.ref h, .ref t, .int a2, .int (a3 ||| (1 <<< (a4 &&& 31))), .int a4, u5, u6, u7] [] σ Q := (w_iload_n dSh_cheapestSet_32 rfl).trans ((w_iconst (v := 1) dSh_cheapestSet_33 rfl).trans ((w_iload dSh_cheapestSet_34 rfl).trans ((w_ishl dSh_cheapestSet_36).trans ((w_ior dSh_cheapestSet_37).trans (w_istore_n (ls' := [.ref h, .ref t, .int a2, .int (a3 ||| (1 <<< (a4 &&& 31))), .int a4, u5, u6, u7]) dSh_cheapestSet_38 (Nat.le_of_ble_eq_true rfl) rfl)))))
theorem bSh_cheapestSet_39 {E : mEn} {d : Nat} {σ : mSt} {Q : mPost} {a2 : Int32} {a3 : Int32} {a4 : Int32} {u5 : Value} {u6 : Value} {u7 : Value} {h : Nat} (hh : isH h) {t : Nat} (ht : isT t) : WP E d mSh_cheapestSet 39 [.ref h, .ref t, .int a2, .int a3, .int a4, u5, u6, u7] [] σ Q = WP E d mSh_cheapestSet 5 [.ref h, .ref t, .int a2, .int a3, .int (a4 + 1), u5, u6, u7] [] σ Q := (w_iinc (v := 1) (ls' := [.ref h, .ref t, .int a2, .int a3, .int (a4 + 1), u5, u6, u7]) dSh_cheapestSet_39 rfl rfl rfl).trans (w_goto (t := 5) dSh_cheapestSet_42 (by decide))
theorem bSh_cheapestSet_45 {E : mEn} {d : Nat} {σ : mSt} {Q : mPost} {a2 : Int32} {a3 : Int32} {a4 : Int32} {u5 : Value} {u6 : Value} {u7 : Value} {h : Nat} (hh : isH h) {t : Nat} (ht : isT t) : WP E d mSh_cheapestSet 45 [.ref h, .ref t, .int a2, .int a3, .int a4, u5, u6, u7] [] σ Q = WP E d mSh_cheapestSet 54 [.ref h, .ref t, .int a2, .int a3, .int (-1), .int 0, .int 1, u7] [] σ Q := (w_iconst (v := (-1)) dSh_cheapestSet_45 rfl).trans ((w_istore (ls' := [.ref h, .ref t, .int a2, .int a3, .int (-1), u5, u6, u7]) dSh_cheapestSet_46 (Nat.le_of_ble_eq_true rfl) rfl).trans ((w_iconst (v := 0) dSh_cheapestSet_48 rfl).trans ((w_istore (ls' := [.ref h, .ref t, .int a2, .int a3, .int (-1), .int 0, u6, u7]) dSh_cheapestSet_49 (Nat.le_of_ble_eq_true rfl) rfl).trans ((w_iconst (v := 1) dSh_cheapestSet_51 rfl).trans (w_istore (ls' := [.ref h, .ref t, .int a2, .int a3, .int (-1), .int 0, .int 1, u7]) dSh_cheapestSet_52 (Nat.le_of_ble_eq_true rfl) rfl)))))
theorem bSh_cheapestSet_54 {E : mEn} {d : Nat} {σ : mSt} {Q : mPost} {a2 : Int32} {a3 : Int32} {a4 : Int32} {a5 : Int32} {a6 : Int32} {u7 : Value} {h : Nat} (hh : isH h) {t : Nat} (ht : isT t) : WP E d mSh_cheapestSet 54 [.ref h, .ref t, .int a2, .int a3, .int a4, .int a5, .int a6, u7] [] σ Q = (if (nI 256) ≤ a6 then WP E d mSh_cheapestSet 119 [.ref h, .ref t, .int a2, .int a3, .int a4, .int a5, .int a6, u7] [] σ Q else WP E d mSh_cheapestSet 62 [.ref h, .ref t, .int a2, .int a3, .int a4, .int a5, .int a6, u7] [] σ Q) := (w_iload dSh_cheapestSet_54 rfl).trans ((w_sipush (v := (nI 256)) dSh_cheapestSet_56 rfl).trans (w_icmpge (t := 119) dSh_cheapestSet_59 (by decide)))
theorem bSh_cheapestSet_62 {E : mEn} {d : Nat} {σ : mSt} {Q : mPost} {a2 : Int32} {a3 : Int32} {a4 : Int32} {a5 : Int32} {a6 : Int32} {u7 : Value} {h : Nat} (hh : isH h) {t : Nat} (ht : isT t) : WP E d mSh_cheapestSet 62 [.ref h, .ref t, .int a2, .int a3, .int a4, .int a5, .int a6, u7] [] σ Q = (if ¬ (a6 &&& (a3 ^^^ (-1))) = 0 then WP E d mSh_cheapestSet 113 [.ref h, .ref t, .int a2, .int a3, .int a4, .int a5, .int a6, u7] [] σ Q else WP E d mSh_cheapestSet 71 [.ref h, .ref t, .int a2, .int a3, .int a4, .int a5, .int a6, u7] [] σ Q) := (w_iload dSh_cheapestSet_62 rfl).trans ((w_iload_n dSh_cheapestSet_64 rfl).trans ((w_iconst (v := (-1)) dSh_cheapestSet_65 rfl).trans ((w_ixor dSh_cheapestSet_66).trans ((w_iand dSh_cheapestSet_67).trans (w_ifne (t := 113) dSh_cheapestSet_68 (by decide))))))
theorem bSh_cheapestSet_71 {E : mEn} {d : Nat} {σ : mSt} {Q : mPost} {a2 : Int32} {a3 : Int32} {a4 : Int32} {a5 : Int32} {a6 : Int32} {u7 : Value} {h : Nat} (hh : isH h) {t : Nat} (ht : isT t) : WP E (d + 1) mSh_cheapestSet 71 [.ref h, .ref t, .int a2, .int a3, .int a4, .int a5, .int a6, u7] [] σ Q = WP E d mSh_gathered 0 [.ref h, .int a6, uu, uu] [] σ (fun r σ' => WP E (d + 1) mSh_cheapestSet 77 [.ref h, .ref t, .int a2, .int a3, .int a4, .int a5, .int a6, u7] (r.toList ++ []) σ' Q) := (w_aload_n dSh_cheapestSet_71 rfl).trans ((w_iload dSh_cheapestSet_72 rfl).trans (w_virt (vs := [.int a6]) (st' := []) (es := [.ref h, .int a6, uu, uu]) dSh_cheapestSet_74 rz5_115 rfl (shH_0 hh) rfl rfl rfl (Nat.le_of_ble_eq_true rfl) (Nat.le_of_ble_eq_true rfl) rfl))
theorem bSh_cheapestSet_77 {E : mEn} {d : Nat} {σ : mSt} {Q : mPost} {a2 : Int32} {a3 : Int32} {a4 : Int32} {a5 : Int32} {a6 : Int32} {u7 : Value} {s0 : Int32} {h : Nat} (hh : isH h) {t : Nat} (ht : isT t) : WP E d mSh_cheapestSet 77 [.ref h, .ref t, .int a2, .int a3, .int a4, .int a5, .int a6, u7] [.int s0] σ Q = (if a2 ≤ s0 then WP E d mSh_cheapestSet 84 [.ref h, .ref t, .int a2, .int a3, .int a4, .int a5, .int a6, u7] [] σ Q else WP E d mSh_cheapestSet 81 [.ref h, .ref t, .int a2, .int a3, .int a4, .int a5, .int a6, u7] [] σ Q) := (w_iload_n dSh_cheapestSet_77 rfl).trans (w_icmpge (t := 84) dSh_cheapestSet_78 (by decide))
theorem bSh_cheapestSet_81 {E : mEn} {d : Nat} {σ : mSt} {Q : mPost} {a2 : Int32} {a3 : Int32} {a4 : Int32} {a5 : Int32} {a6 : Int32} {u7 : Value} {h : Nat} (hh : isH h) {t : Nat} (ht : isT t) : WP E d mSh_cheapestSet 81 [.ref h, .ref t, .int a2, .int a3, .int a4, .int a5, .int a6, u7] [] σ Q = WP E d mSh_cheapestSet 113 [.ref h, .ref t, .int a2, .int a3, .int a4, .int a5, .int a6, u7] [] σ Q := w_goto (t := 113) dSh_cheapestSet_81 (by decide)
theorem bSh_cheapestSet_84 {E : mEn} {d : Nat} {σ : mSt} {Q : mPost} {a2 : Int32} {a3 : Int32} {a4 : Int32} {a5 : Int32} {a6 : Int32} {u7 : Value} {h : Nat} (hh : isH h) {t : Nat} (ht : isT t) : WP E (d + 1) mSh_cheapestSet 84 [.ref h, .ref t, .int a2, .int a3, .int a4, .int a5, .int a6, u7] [] σ Q = WP E d mTw_flourOf 0 [.ref t, .int a6, uu, uu] [] σ (fun r σ' => WP E (d + 1) mSh_cheapestSet 90 [.ref h, .ref t, .int a2, .int a3, .int a4, .int a5, .int a6, u7] (r.toList ++ []) σ' Q) := (w_aload_n dSh_cheapestSet_84 rfl).trans ((w_iload dSh_cheapestSet_85 rfl).trans (w_virt (vs := [.int a6]) (st' := []) (es := [.ref t, .int a6, uu, uu]) dSh_cheapestSet_87 rz5_118 rfl (shT_0 ht) rfl rfl rfl (Nat.le_of_ble_eq_true rfl) (Nat.le_of_ble_eq_true rfl) rfl))
theorem bSh_cheapestSet_90 {E : mEn} {d : Nat} {σ : mSt} {Q : mPost} {a2 : Int32} {a3 : Int32} {a4 : Int32} {a5 : Int32} {a6 : Int32} {u7 : Value} {s0 : Int32} {h : Nat} (hh : isH h) {t : Nat} (ht : isT t) : WP E d mSh_cheapestSet 90 [.ref h, .ref t, .int a2, .int a3, .int a4, .int a5, .int a6, u7] [.int s0] σ Q = (if a4 = (-1) then WP E d mSh_cheapestSet 105 [.ref h, .ref t, .int a2, .int a3, .int a4, .int a5, .int a6, .int s0] [] σ Q else WP E d mSh_cheapestSet 98 [.ref h, .ref t, .int a2, .int a3, .int a4, .int a5, .int a6, .int s0] [] σ Q) := (w_istore (ls' := [.ref h, .ref t, .int a2, .int a3, .int a4, .int a5, .int a6, .int s0]) dSh_cheapestSet_90 (Nat.le_of_ble_eq_true rfl) rfl).trans ((w_iload dSh_cheapestSet_92 rfl).trans ((w_iconst (v := (-1)) dSh_cheapestSet_94 rfl).trans (w_icmpeq (t := 105) dSh_cheapestSet_95 (by decide))))
theorem bSh_cheapestSet_98 {E : mEn} {d : Nat} {σ : mSt} {Q : mPost} {a2 : Int32} {a3 : Int32} {a4 : Int32} {a5 : Int32} {a6 : Int32} {a7 : Int32} {h : Nat} (hh : isH h) {t : Nat} (ht : isT t) : WP E d mSh_cheapestSet 98 [.ref h, .ref t, .int a2, .int a3, .int a4, .int a5, .int a6, .int a7] [] σ Q = (if a5 ≤ a7 then WP E d mSh_cheapestSet 113 [.ref h, .ref t, .int a2, .int a3, .int a4, .int a5, .int a6, .int a7] [] σ Q else WP E d mSh_cheapestSet 105 [.ref h, .ref t, .int a2, .int a3, .int a4, .int a5, .int a6, .int a7] [] σ Q) := (w_iload dSh_cheapestSet_98 rfl).trans ((w_iload dSh_cheapestSet_100 rfl).trans (w_icmpge (t := 113) dSh_cheapestSet_102 (by decide)))
theorem bSh_cheapestSet_105 {E : mEn} {d : Nat} {σ : mSt} {Q : mPost} {a2 : Int32} {a3 : Int32} {a4 : Int32} {a5 : Int32} {a6 : Int32} {a7 : Int32} {h : Nat} (hh : isH h) {t : Nat} (ht : isT t) : WP E d mSh_cheapestSet 105 [.ref h, .ref t, .int a2, .int a3, .int a4, .int a5, .int a6, .int a7] [] σ Q = WP E d mSh_cheapestSet 113 [.ref h, .ref t, .int a2, .int a3, .int a6, .int a7, .int a6, .int a7] [] σ Q := (w_iload dSh_cheapestSet_105 rfl).trans ((w_istore (ls' := [.ref h, .ref t, .int a2, .int a3, .int a6, .int a5, .int a6, .int a7]) dSh_cheapestSet_107 (Nat.le_of_ble_eq_true rfl) rfl).trans ((w_iload dSh_cheapestSet_109 rfl).trans (w_istore (ls' := [.ref h, .ref t, .int a2, .int a3, .int a6, .int a7, .int a6, .int a7]) dSh_cheapestSet_111 (Nat.le_of_ble_eq_true rfl) rfl)))
theorem bSh_cheapestSet_113 {E : mEn} {d : Nat} {σ : mSt} {Q : mPost} {a2 : Int32} {a3 : Int32} {a4 : Int32} {a5 : Int32} {a6 : Int32} {u7 : Value} {h : Nat} (hh : isH h) {t : Nat} (ht : isT t) : WP E d mSh_cheapestSet 113 [.ref h, .ref t, .int a2, .int a3, .int a4, .int a5, .int a6, u7] [] σ Q = WP E d mSh_cheapestSet 54 [.ref h, .ref t, .int a2, .int a3, .int a4, .int a5, .int (a6 + 1), u7] [] σ Q := (w_iinc (v := 1) (ls' := [.ref h, .ref t, .int a2, .int a3, .int a4, .int a5, .int (a6 + 1), u7]) dSh_cheapestSet_113 rfl rfl rfl).trans (w_goto (t := 54) dSh_cheapestSet_116 (by decide))
theorem bSh_cheapestSet_119 {E : mEn} {d : Nat} {σ : mSt} {Q : mPost} {a2 : Int32} {a3 : Int32} {a4 : Int32} {a5 : Int32} {a6 : Int32} {u7 : Value} {h : Nat} (hh : isH h) {t : Nat} (ht : isT t) : WP E d mSh_cheapestSet 119 [.ref h, .ref t, .int a2, .int a3, .int a4, .int a5, .int a6, u7] [] σ Q = Q (some (.int a4)) σ := (w_iload dSh_cheapestSet_119 rfl).trans (w_iret dSh_cheapestSet_121 rfl)
theorem dSh_gathered_0 : decode (mC mSh_gathered) 0 = .ok (.iconst (0), 1) := by decide +kernel
theorem dSh_gathered_1 : decode (mC mSh_gathered) 1 = .ok (.istore_n 2, 1) := by decide +kernel
theorem dSh_gathered_2 : decode (mC mSh_gathered) 2 = .ok (.iconst (0), 1) := by decide +kernel
theorem dSh_gathered_3 : decode (mC mSh_gathered) 3 = .ok (.istore_n 3, 1) := by decide +kernel
theorem dSh_gathered_4 : decode (mC mSh_gathered) 4 = .ok (.iload_n 3, 1) := by decide +kernel
theorem dSh_gathered_5 : decode (mC mSh_gathered) 5 = .ok (.bipush (8), 2) := by decide +kernel
theorem dSh_gathered_7 : decode (mC mSh_gathered) 7 = .ok (.if_icmp .ge (27), 3) := by decide +kernel
theorem dSh_gathered_10 : decode (mC mSh_gathered) 10 = .ok (.iload_n 1, 1) := by decide +kernel
theorem dSh_gathered_11 : decode (mC mSh_gathered) 11 = .ok (.iload_n 3, 1) := by decide +kernel
theorem dSh_gathered_12 : decode (mC mSh_gathered) 12 = .ok (.ishr, 1) := by decide +kernel
theorem dSh_gathered_13 : decode (mC mSh_gathered) 13 = .ok (.iconst (1), 1) := by decide +kernel
theorem dSh_gathered_14 : decode (mC mSh_gathered) 14 = .ok (.iand, 1) := by decide +kernel
theorem dSh_gathered_15 : decode (mC mSh_gathered) 15 = .ok (.iconst (1), 1) := by decide +kernel
theorem dSh_gathered_16 : decode (mC mSh_gathered) 16 = .ok (.if_icmp .ne (12), 3) := by decide +kernel
theorem dSh_gathered_19 : decode (mC mSh_gathered) 19 = .ok (.iload_n 2, 1) := by decide +kernel
theorem dSh_gathered_20 : decode (mC mSh_gathered) 20 = .ok (.aload_n 0, 1) := by decide +kernel
theorem dSh_gathered_21 : decode (mC mSh_gathered) 21 = .ok (.getfield 27, 3) := by decide +kernel
theorem dSh_gathered_24 : decode (mC mSh_gathered) 24 = .ok (.iload_n 3, 1) := by decide +kernel
theorem dSh_gathered_25 : decode (mC mSh_gathered) 25 = .ok (.iaload, 1) := by decide +kernel
theorem dSh_gathered_26 : decode (mC mSh_gathered) 26 = .ok (.iadd, 1) := by decide +kernel
theorem dSh_gathered_27 : decode (mC mSh_gathered) 27 = .ok (.istore_n 2, 1) := by decide +kernel
theorem dSh_gathered_28 : decode (mC mSh_gathered) 28 = .ok (.iinc 3 (1), 3) := by decide +kernel
theorem dSh_gathered_31 : decode (mC mSh_gathered) 31 = .ok (.goto (-27), 3) := by decide +kernel
theorem dSh_gathered_34 : decode (mC mSh_gathered) 34 = .ok (.iload_n 2, 1) := by decide +kernel
theorem dSh_gathered_35 : decode (mC mSh_gathered) 35 = .ok (.ireturn, 1) := by decide +kernel
theorem bSh_gathered_0 {E : mEn} {d : Nat} {σ : mSt} {Q : mPost} {a1 : Int32} {u2 : Value} {u3 : Value} {h : Nat} (hh : isH h) : WP E d mSh_gathered 0 [.ref h, .int a1, u2, u3] [] σ Q = WP E d mSh_gathered 4 [.ref h, .int a1, .int 0, .int 0] [] σ Q := (w_iconst (v := 0) dSh_gathered_0 rfl).trans ((w_istore_n (ls' := [.ref h, .int a1, .int 0, u3]) dSh_gathered_1 (Nat.le_of_ble_eq_true rfl) rfl).trans ((w_iconst (v := 0) dSh_gathered_2 rfl).trans (w_istore_n (ls' := [.ref h, .int a1, .int 0, .int 0]) dSh_gathered_3 (Nat.le_of_ble_eq_true rfl) rfl)))
theorem bSh_gathered_4 {E : mEn} {d : Nat} {σ : mSt} {Q : mPost} {a1 : Int32} {a2 : Int32} {a3 : Int32} {h : Nat} (hh : isH h) : WP E d mSh_gathered 4 [.ref h, .int a1, .int a2, .int a3] [] σ Q = (if (nI 8) ≤ a3 then WP E d mSh_gathered 34 [.ref h, .int a1, .int a2, .int a3] [] σ Q else WP E d mSh_gathered 10 [.ref h, .int a1, .int a2, .int a3] [] σ Q) := (w_iload_n dSh_gathered_4 rfl).trans ((w_bipush (v := (nI 8)) dSh_gathered_5 rfl).trans (w_icmpge (t := 34) dSh_gathered_7 (by decide)))
theorem bSh_gathered_10 {E : mEn} {d : Nat} {σ : mSt} {Q : mPost} {a1 : Int32} {a2 : Int32} {a3 : Int32} {h : Nat} (hh : isH h) : WP E d mSh_gathered 10 [.ref h, .int a1, .int a2, .int a3] [] σ Q = (if ¬ ((a1 >>> (a3 &&& 31)) &&& 1) = 1 then WP E d mSh_gathered 28 [.ref h, .int a1, .int a2, .int a3] [] σ Q else WP E d mSh_gathered 19 [.ref h, .int a1, .int a2, .int a3] [] σ Q) := (w_iload_n dSh_gathered_10 rfl).trans ((w_iload_n dSh_gathered_11 rfl).trans ((w_ishr dSh_gathered_12).trans ((w_iconst (v := 1) dSh_gathered_13 rfl).trans ((w_iand dSh_gathered_14).trans ((w_iconst (v := 1) dSh_gathered_15 rfl).trans (w_icmpne (t := 28) dSh_gathered_16 (by decide)))))))
theorem bSh_gathered_19 {E : mEn} {d : Nat} {σ : mSt} {Q : mPost} {a1 : Int32} {a2 : Int32} {a3 : Int32} {h : Nat} (hh : isH h) : WP E d mSh_gathered 19 [.ref h, .int a1, .int a2, .int a3] [] σ Q = (if mOut a3 8 = true then False else WP E d mSh_gathered 28 [.ref h, .int a1, .int (a2 + (σ.1 (h + 6) a3.toNatClampNeg)), .int a3] [] σ Q) := (w_iload_n dSh_gathered_19 rfl).trans ((w_aload_n dSh_gathered_20 rfl).trans ((w_getr (r := h + 6) dSh_gathered_21 rz5_27 (shH_0 hh) rfl).trans ((w_iload_n dSh_gathered_24 rfl).trans ((w_iald dSh_gathered_25 (shH_6 hh) (ltH hh (by decide))).trans (ite_c ((w_iadd dSh_gathered_26).trans (w_istore_n (ls' := [.ref h, .int a1, .int (a2 + (σ.1 (h + 6) a3.toNatClampNeg)), .int a3]) dSh_gathered_27 (Nat.le_of_ble_eq_true rfl) rfl)))))))
theorem bSh_gathered_28 {E : mEn} {d : Nat} {σ : mSt} {Q : mPost} {a1 : Int32} {a2 : Int32} {a3 : Int32} {h : Nat} (hh : isH h) : WP E d mSh_gathered 28 [.ref h, .int a1, .int a2, .int a3] [] σ Q = WP E d mSh_gathered 4 [.ref h, .int a1, .int a2, .int (a3 + 1)] [] σ Q := (w_iinc (v := 1) (ls' := [.ref h, .int a1, .int a2, .int (a3 + 1)]) dSh_gathered_28 rfl rfl rfl).trans (w_goto (t := 4) dSh_gathered_31 (by decide))
theorem bSh_gathered_34 {E : mEn} {d : Nat} {σ : mSt} {Q : mPost} {a1 : Int32} {a2 : Int32} {a3 : Int32} {h : Nat} (hh : isH h) : WP E d mSh_gathered 34 [.ref h, .int a1, .int a2, .int a3] [] σ Q = Q (some (.int a2)) σ := (w_iload_n dSh_gathered_34 rfl).trans (w_iret dSh_gathered_35 rfl)
theorem dSh_othersHold_0 : decode (mC mSh_othersHold) 0 = .ok (.iconst (0), 1) := by decide +kernel
theorem dSh_othersHold_1 : decode (mC mSh_othersHold) 1 = .ok (.istore_n 2, 1) := by decide +kernel
theorem dSh_othersHold_2 : decode (mC mSh_othersHold) 2 = .ok (.iload_n 2, 1) := by decide +kernel
theorem dSh_othersHold_3 : decode (mC mSh_othersHold) 3 = .ok (.aload_n 0, 1) := by decide +kernel
theorem dSh_othersHold_4 : decode (mC mSh_othersHold) 4 = .ok (.getfield 36, 3) := by decide +kernel
theorem dSh_othersHold_7 : decode (mC mSh_othersHold) 7 = .ok (.if_icmp .ge (21), 3) := by decide +kernel
theorem dSh_othersHold_10 : decode (mC mSh_othersHold) 10 = .ok (.aload_n 0, 1) := by decide +kernel
theorem dSh_othersHold_11 : decode (mC mSh_othersHold) 11 = .ok (.getfield 18, 3) := by decide +kernel
theorem dSh_othersHold_14 : decode (mC mSh_othersHold) 14 = .ok (.iload_n 2, 1) := by decide +kernel
theorem dSh_othersHold_15 : decode (mC mSh_othersHold) 15 = .ok (.iaload, 1) := by decide +kernel
theorem dSh_othersHold_16 : decode (mC mSh_othersHold) 16 = .ok (.iload_n 1, 1) := by decide +kernel
theorem dSh_othersHold_17 : decode (mC mSh_othersHold) 17 = .ok (.if_icmp .eq (5), 3) := by decide +kernel
theorem dSh_othersHold_20 : decode (mC mSh_othersHold) 20 = .ok (.iconst (1), 1) := by decide +kernel
theorem dSh_othersHold_21 : decode (mC mSh_othersHold) 21 = .ok (.ireturn, 1) := by decide +kernel
theorem dSh_othersHold_22 : decode (mC mSh_othersHold) 22 = .ok (.iinc 2 (1), 3) := by decide +kernel
theorem dSh_othersHold_25 : decode (mC mSh_othersHold) 25 = .ok (.goto (-23), 3) := by decide +kernel
theorem dSh_othersHold_28 : decode (mC mSh_othersHold) 28 = .ok (.iconst (0), 1) := by decide +kernel
theorem dSh_othersHold_29 : decode (mC mSh_othersHold) 29 = .ok (.ireturn, 1) := by decide +kernel
theorem bSh_othersHold_0 {E : mEn} {d : Nat} {σ : mSt} {Q : mPost} {a1 : Int32} {u2 : Value} {h : Nat} (hh : isH h) : WP E d mSh_othersHold 0 [.ref h, .int a1, u2] [] σ Q = WP E d mSh_othersHold 2 [.ref h, .int a1, .int 0] [] σ Q := (w_iconst (v := 0) dSh_othersHold_0 rfl).trans (w_istore_n (ls' := [.ref h, .int a1, .int 0]) dSh_othersHold_1 (Nat.le_of_ble_eq_true rfl) rfl)
theorem bSh_othersHold_2 {E : mEn} {d : Nat} {σ : mSt} {Q : mPost} {a1 : Int32} {a2 : Int32} {h : Nat} (hh : isH h) : WP E d mSh_othersHold 2 [.ref h, .int a1, .int a2] [] σ Q = (if (σ.1 h 6) ≤ a2 then WP E d mSh_othersHold 28 [.ref h, .int a1, .int a2] [] σ Q else WP E d mSh_othersHold 10 [.ref h, .int a1, .int a2] [] σ Q) := (w_iload_n dSh_othersHold_2 rfl).trans ((w_aload_n dSh_othersHold_3 rfl).trans ((w_geti dSh_othersHold_4 rz5_36 (shH_0 hh) rfl).trans (w_icmpge (t := 28) dSh_othersHold_7 (by decide))))
theorem bSh_othersHold_10 {E : mEn} {d : Nat} {σ : mSt} {Q : mPost} {a1 : Int32} {a2 : Int32} {h : Nat} (hh : isH h) : WP E d mSh_othersHold 10 [.ref h, .int a1, .int a2] [] σ Q = (if mOut a2 8 = true then False else (if (σ.1 (h + 3) a2.toNatClampNeg) = a1 then WP E d mSh_othersHold 22 [.ref h, .int a1, .int a2] [] σ Q else WP E d mSh_othersHold 20 [.ref h, .int a1, .int a2] [] σ Q)) := (w_aload_n dSh_othersHold_10 rfl).trans ((w_getr (r := h + 3) dSh_othersHold_11 rz5_18 (shH_0 hh) rfl).trans ((w_iload_n dSh_othersHold_14 rfl).trans ((w_iald dSh_othersHold_15 (shH_3 hh) (ltH hh (by decide))).trans (ite_c ((w_iload_n dSh_othersHold_16 rfl).trans (w_icmpeq (t := 22) dSh_othersHold_17 (by decide)))))))
theorem bSh_othersHold_20 {E : mEn} {d : Nat} {σ : mSt} {Q : mPost} {a1 : Int32} {a2 : Int32} {h : Nat} (hh : isH h) : WP E d mSh_othersHold 20 [.ref h, .int a1, .int a2] [] σ Q = Q (some (.int 1)) σ := (w_iconst (v := 1) dSh_othersHold_20 rfl).trans (w_zret dSh_othersHold_21 rfl (Or.inr rfl))
theorem bSh_othersHold_22 {E : mEn} {d : Nat} {σ : mSt} {Q : mPost} {a1 : Int32} {a2 : Int32} {h : Nat} (hh : isH h) : WP E d mSh_othersHold 22 [.ref h, .int a1, .int a2] [] σ Q = WP E d mSh_othersHold 2 [.ref h, .int a1, .int (a2 + 1)] [] σ Q := (w_iinc (v := 1) (ls' := [.ref h, .int a1, .int (a2 + 1)]) dSh_othersHold_22 rfl rfl rfl).trans (w_goto (t := 2) dSh_othersHold_25 (by decide))
theorem bSh_othersHold_28 {E : mEn} {d : Nat} {σ : mSt} {Q : mPost} {a1 : Int32} {a2 : Int32} {h : Nat} (hh : isH h) : WP E d mSh_othersHold 28 [.ref h, .int a1, .int a2] [] σ Q = Q (some (.int 0)) σ := (w_iconst (v := 0) dSh_othersHold_28 rfl).trans (w_zret dSh_othersHold_29 rfl (Or.inl rfl))
