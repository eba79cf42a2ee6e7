theorem dMo_readTest_0 : decode (mC mMo_readTest) 0 = .ok (.aload_n 0, 1) := by decide +kernel
theorem dMo_readTest_1 : decode (mC mMo_readTest) 1 = .ok (.invokevirtual 210, 3) := by decide +kernel
theorem dMo_readTest_4 : decode (mC mMo_readTest) 4 = .ok (.istore_n 2, 1) := by decide +kernel
theorem dMo_readTest_5 : decode (mC mMo_readTest) 5 = .ok (.aload_n 0, 1) := by decide +kernel
theorem dMo_readTest_6 : decode (mC mMo_readTest) 6 = .ok (.iload_n 2, 1) := by decide +kernel
theorem dMo_readTest_7 : decode (mC mMo_readTest) 7 = .ok (.ifCond .lt (7), 3) := by decide +kernel
theorem dMo_readTest_10 : decode (mC mMo_readTest) 10 = .ok (.iconst (1), 1) := by decide +kernel
theorem dMo_readTest_11 : decode (mC mMo_readTest) 11 = .ok (.goto (4), 3) := by decide +kernel
theorem dMo_readTest_14 : decode (mC mMo_readTest) 14 = .ok (.iconst (0), 1) := by decide +kernel
theorem dMo_readTest_15 : decode (mC mMo_readTest) 15 = .ok (.invokevirtual 264, 3) := by decide +kernel
theorem dMo_readTest_18 : decode (mC mMo_readTest) 18 = .ok (.aload_n 0, 1) := by decide +kernel
theorem dMo_readTest_19 : decode (mC mMo_readTest) 19 = .ok (.getfield 35, 3) := by decide +kernel
theorem dMo_readTest_22 : decode (mC mMo_readTest) 22 = .ok (.iload_n 1, 1) := by decide +kernel
theorem dMo_readTest_23 : decode (mC mMo_readTest) 23 = .ok (.bipush (6), 2) := by decide +kernel
theorem dMo_readTest_25 : decode (mC mMo_readTest) 25 = .ok (.iadd, 1) := by decide +kernel
theorem dMo_readTest_26 : decode (mC mMo_readTest) 26 = .ok (.iload_n 2, 1) := by decide +kernel
theorem dMo_readTest_27 : decode (mC mMo_readTest) 27 = .ok (.iastore, 1) := by decide +kernel
theorem dMo_readTest_28 : decode (mC mMo_readTest) 28 = .ok (.iload_n 2, 1) := by decide +kernel
theorem dMo_readTest_29 : decode (mC mMo_readTest) 29 = .ok (.ifCond .le (35), 3) := by decide +kernel
theorem dMo_readTest_32 : decode (mC mMo_readTest) 32 = .ok (.aload_n 0, 1) := by decide +kernel
theorem dMo_readTest_33 : decode (mC mMo_readTest) 33 = .ok (.getfield 35, 3) := by decide +kernel
theorem dMo_readTest_36 : decode (mC mMo_readTest) 36 = .ok (.iload_n 1, 1) := by decide +kernel
theorem dMo_readTest_37 : decode (mC mMo_readTest) 37 = .ok (.iconst (1), 1) := by decide +kernel
theorem dMo_readTest_38 : decode (mC mMo_readTest) 38 = .ok (.iadd, 1) := by decide +kernel
theorem dMo_readTest_39 : decode (mC mMo_readTest) 39 = .ok (.aload_n 0, 1) := by decide +kernel
theorem dMo_readTest_40 : decode (mC mMo_readTest) 40 = .ok (.iconst (0), 1) := by decide +kernel
theorem dMo_readTest_41 : decode (mC mMo_readTest) 41 = .ok (.iload_n 2, 1) := by decide +kernel
theorem dMo_readTest_42 : decode (mC mMo_readTest) 42 = .ok (.iconst (1), 1) := by decide +kernel
theorem dMo_readTest_43 : decode (mC mMo_readTest) 43 = .ok (.if_icmp .ne (7), 3) := by decide +kernel
theorem dMo_readTest_46 : decode (mC mMo_readTest) 46 = .ok (.iconst (0), 1) := by decide +kernel
theorem dMo_readTest_47 : decode (mC mMo_readTest) 47 = .ok (.goto (13), 3) := by decide +kernel
theorem dMo_readTest_50 : decode (mC mMo_readTest) 50 = .ok (.iload_n 2, 1) := by decide +kernel
theorem dMo_readTest_51 : decode (mC mMo_readTest) 51 = .ok (.iconst (2), 1) := by decide +kernel
theorem dMo_readTest_52 : decode (mC mMo_readTest) 52 = .ok (.if_icmp .ne (7), 3) := by decide +kernel
theorem dMo_readTest_55 : decode (mC mMo_readTest) 55 = .ok (.iconst (2), 1) := by decide +kernel
theorem dMo_readTest_56 : decode (mC mMo_readTest) 56 = .ok (.goto (4), 3) := by decide +kernel
theorem dMo_readTest_59 : decode (mC mMo_readTest) 59 = .ok (.iconst (1), 1) := by decide +kernel
theorem dMo_readTest_60 : decode (mC mMo_readTest) 60 = .ok (.invokevirtual 274, 3) := by decide +kernel
theorem dMo_readTest_63 : decode (mC mMo_readTest) 63 = .ok (.iastore, 1) := by decide +kernel
theorem dMo_readTest_64 : decode (mC mMo_readTest) 64 = .ok (.aload_n 0, 1) := by decide +kernel
theorem dMo_readTest_65 : decode (mC mMo_readTest) 65 = .ok (.getfield 219, 3) := by decide +kernel
theorem dMo_readTest_68 : decode (mC mMo_readTest) 68 = .ok (.ifCond .gt (8), 3) := by decide +kernel
theorem dMo_readTest_71 : decode (mC mMo_readTest) 71 = .ok (.iload_n 2, 1) := by decide +kernel
theorem dMo_readTest_72 : decode (mC mMo_readTest) 72 = .ok (.iconst (1), 1) := by decide +kernel
theorem dMo_readTest_73 : decode (mC mMo_readTest) 73 = .ok (.if_icmp .le (4), 3) := by decide +kernel
theorem dMo_readTest_76 : decode (mC mMo_readTest) 76 = .ok (.return_, 1) := by decide +kernel
theorem dMo_readTest_77 : decode (mC mMo_readTest) 77 = .ok (.aload_n 0, 1) := by decide +kernel
theorem dMo_readTest_78 : decode (mC mMo_readTest) 78 = .ok (.getfield 35, 3) := by decide +kernel
theorem dMo_readTest_81 : decode (mC mMo_readTest) 81 = .ok (.iload_n 1, 1) := by decide +kernel
theorem dMo_readTest_82 : decode (mC mMo_readTest) 82 = .ok (.bipush (7), 2) := by decide +kernel
theorem dMo_readTest_84 : decode (mC mMo_readTest) 84 = .ok (.iadd, 1) := by decide +kernel
theorem dMo_readTest_85 : decode (mC mMo_readTest) 85 = .ok (.aload_n 0, 1) := by decide +kernel
theorem dMo_readTest_86 : decode (mC mMo_readTest) 86 = .ok (.getfield 125, 3) := by decide +kernel
theorem dMo_readTest_89 : decode (mC mMo_readTest) 89 = .ok (.iconst (3), 1) := by decide +kernel
theorem dMo_readTest_90 : decode (mC mMo_readTest) 90 = .ok (.if_icmp .ne (10), 3) := by decide +kernel
theorem dMo_readTest_93 : decode (mC mMo_readTest) 93 = .ok (.aload_n 0, 1) := by decide +kernel
theorem dMo_readTest_94 : decode (mC mMo_readTest) 94 = .ok (.getfield 144, 3) := by decide +kernel
theorem dMo_readTest_97 : decode (mC mMo_readTest) 97 = .ok (.goto (4), 3) := by decide +kernel
theorem dMo_readTest_100 : decode (mC mMo_readTest) 100 = .ok (.iconst (0), 1) := by decide +kernel
theorem dMo_readTest_101 : decode (mC mMo_readTest) 101 = .ok (.iastore, 1) := by decide +kernel
theorem dMo_readTest_102 : decode (mC mMo_readTest) 102 = .ok (.aload_n 0, 1) := by decide +kernel
theorem dMo_readTest_103 : decode (mC mMo_readTest) 103 = .ok (.aload_n 0, 1) := by decide +kernel
theorem dMo_readTest_104 : decode (mC mMo_readTest) 104 = .ok (.bipush (60), 2) := by decide +kernel
theorem dMo_readTest_106 : decode (mC mMo_readTest) 106 = .ok (.invokevirtual 296, 3) := by decide +kernel
theorem dMo_readTest_109 : decode (mC mMo_readTest) 109 = .ok (.ifCond .ne (21), 3) := by decide +kernel
theorem dMo_readTest_112 : decode (mC mMo_readTest) 112 = .ok (.aload_n 0, 1) := by decide +kernel
theorem dMo_readTest_113 : decode (mC mMo_readTest) 113 = .ok (.bipush (62), 2) := by decide +kernel
theorem dMo_readTest_115 : decode (mC mMo_readTest) 115 = .ok (.invokevirtual 296, 3) := by decide +kernel
theorem dMo_readTest_118 : decode (mC mMo_readTest) 118 = .ok (.ifCond .ne (12), 3) := by decide +kernel
theorem dMo_readTest_121 : decode (mC mMo_readTest) 121 = .ok (.aload_n 0, 1) := by decide +kernel
theorem dMo_readTest_122 : decode (mC mMo_readTest) 122 = .ok (.bipush (61), 2) := by decide +kernel
theorem dMo_readTest_124 : decode (mC mMo_readTest) 124 = .ok (.invokevirtual 296, 3) := by decide +kernel
theorem dMo_readTest_127 : decode (mC mMo_readTest) 127 = .ok (.ifCond .eq (7), 3) := by decide +kernel
theorem dMo_readTest_130 : decode (mC mMo_readTest) 130 = .ok (.iconst (1), 1) := by decide +kernel
theorem dMo_readTest_131 : decode (mC mMo_readTest) 131 = .ok (.goto (4), 3) := by decide +kernel
theorem dMo_readTest_134 : decode (mC mMo_readTest) 134 = .ok (.iconst (0), 1) := by decide +kernel
theorem dMo_readTest_135 : decode (mC mMo_readTest) 135 = .ok (.invokevirtual 264, 3) := by decide +kernel
theorem dMo_readTest_138 : decode (mC mMo_readTest) 138 = .ok (.aload_n 0, 1) := by decide +kernel
theorem dMo_readTest_139 : decode (mC mMo_readTest) 139 = .ok (.getfield 35, 3) := by decide +kernel
theorem dMo_readTest_142 : decode (mC mMo_readTest) 142 = .ok (.iload_n 1, 1) := by decide +kernel
theorem dMo_readTest_143 : decode (mC mMo_readTest) 143 = .ok (.iconst (2), 1) := by decide +kernel
theorem dMo_readTest_144 : decode (mC mMo_readTest) 144 = .ok (.iadd, 1) := by decide +kernel
theorem dMo_readTest_145 : decode (mC mMo_readTest) 145 = .ok (.aload_n 0, 1) := by decide +kernel
theorem dMo_readTest_146 : decode (mC mMo_readTest) 146 = .ok (.iconst (0), 1) := by decide +kernel
theorem dMo_readTest_147 : decode (mC mMo_readTest) 147 = .ok (.iload_n 2, 1) := by decide +kernel
theorem dMo_readTest_148 : decode (mC mMo_readTest) 148 = .ok (.ifCond .ne (8), 3) := by decide +kernel
theorem dMo_readTest_151 : decode (mC mMo_readTest) 151 = .ok (.bipush (99), 2) := by decide +kernel
theorem dMo_readTest_153 : decode (mC mMo_readTest) 153 = .ok (.goto (6), 3) := by decide +kernel
theorem dMo_readTest_156 : decode (mC mMo_readTest) 156 = .ok (.sipush (999), 3) := by decide +kernel
theorem dMo_readTest_159 : decode (mC mMo_readTest) 159 = .ok (.invokevirtual 271, 3) := by decide +kernel
theorem dMo_readTest_162 : decode (mC mMo_readTest) 162 = .ok (.iastore, 1) := by decide +kernel
theorem dMo_readTest_163 : decode (mC mMo_readTest) 163 = .ok (.return_, 1) := by decide +kernel
theorem bMo_readTest_0 {E : mEn} {d : Nat} {σ : mSt} {Q : mPost} {a1 : Int32} {u2 : Value} : WP E (d + 1) mMo_readTest 0 [.ref 166, .int a1, u2] [] σ Q = WP E d mMo_testWord 0 [.ref 166] [] σ (fun r σ' => WP E (d + 1) mMo_readTest 4 [.ref 166, .int a1, u2] (r.toList ++ []) σ' Q) := (w_aload_n dMo_readTest_0 rfl).trans (w_virt (vs := []) (st' := []) (es := [.ref 166]) dMo_readTest_1 rz11_210 rfl sh_166 rfl rfl rfl (Nat.le_of_ble_eq_true rfl) (Nat.le_of_ble_eq_true rfl) rfl)
theorem bMo_readTest_4 {E : mEn} {d : Nat} {σ : mSt} {Q : mPost} {a1 : Int32} {u2 : Value} {s0 : Int32} : WP E d mMo_readTest 4 [.ref 166, .int a1, u2] [.int s0] σ Q = (if s0 < 0 then WP E d mMo_readTest 14 [.ref 166, .int a1, .int s0] [.ref 166] σ Q else WP E d mMo_readTest 10 [.ref 166, .int a1, .int s0] [.ref 166] σ Q) := (w_istore_n (ls' := [.ref 166, .int a1, .int s0]) dMo_readTest_4 (Nat.le_of_ble_eq_true rfl) rfl).trans ((w_aload_n dMo_readTest_5 rfl).trans ((w_iload_n dMo_readTest_6 rfl).trans (w_iflt (t := 14) dMo_readTest_7 (by decide))))
theorem bMo_readTest_10 {E : mEn} {d : Nat} {σ : mSt} {Q : mPost} {a1 : Int32} {a2 : Int32} : WP E d mMo_readTest 10 [.ref 166, .int a1, .int a2] [.ref 166] σ Q = WP E d mMo_readTest 15 [.ref 166, .int a1, .int a2] [.int 1, .ref 166] σ Q := (w_iconst (v := 1) dMo_readTest_10 rfl).trans (w_goto (t := 15) dMo_readTest_11 (by decide))
theorem bMo_readTest_14 {E : mEn} {d : Nat} {σ : mSt} {Q : mPost} {a1 : Int32} {a2 : Int32} : WP E d mMo_readTest 14 [.ref 166, .int a1, .int a2] [.ref 166] σ Q = WP E d mMo_readTest 15 [.ref 166, .int a1, .int a2] [.int 0, .ref 166] σ Q := w_iconst (v := 0) dMo_readTest_14 rfl
theorem bMo_readTest_15 {E : mEn} {d : Nat} {σ : mSt} {Q : mPost} {a1 : Int32} {a2 : Int32} {s0 : Int32} : WP E (d + 1) mMo_readTest 15 [.ref 166, .int a1, .int a2] [.int s0, .ref 166] σ Q = WP E d mMo_must 0 [.ref 166, .int s0] [] σ (fun r σ' => WP E (d + 1) mMo_readTest 18 [.ref 166, .int a1, .int a2] (r.toList ++ []) σ' Q) := w_virt (vs := [.int s0]) (st' := []) (es := [.ref 166, .int s0]) dMo_readTest_15 rz11_264 rfl sh_166 rfl rfl rfl (Nat.le_of_ble_eq_true rfl) (Nat.le_of_ble_eq_true rfl) rfl
theorem bMo_readTest_18 {E : mEn} {d : Nat} {σ : mSt} {Q : mPost} {a1 : Int32} {a2 : Int32} : WP E d mMo_readTest 18 [.ref 166, .int a1, .int a2] [] σ Q = (if mOut (a1 + (nI 6)) 3000 = true then False else (if a2 ≤ 0 then WP E d mMo_readTest 64 [.ref 166, .int a1, .int a2] [] (sI σ 171 (a1 + (nI 6)).toNatClampNeg a2) Q else WP E d mMo_readTest 32 [.ref 166, .int a1, .int a2] [] (sI σ 171 (a1 + (nI 6)).toNatClampNeg a2) Q)) := (w_aload_n dMo_readTest_18 rfl).trans ((w_getr (r := 171) dMo_readTest_19 rz11_35 sh_166 rfl).trans ((w_iload_n dMo_readTest_22 rfl).trans ((w_bipush (v := (nI 6)) dMo_readTest_23 rfl).trans ((w_iadd dMo_readTest_25).trans ((w_iload_n dMo_readTest_26 rfl).trans ((w_iast dMo_readTest_27 sh_171).trans (ite_c ((w_iload_n dMo_readTest_28 rfl).trans (w_ifle (t := 64) dMo_readTest_29 (by decide))))))))))
theorem bMo_readTest_32 {E : mEn} {d : Nat} {σ : mSt} {Q : mPost} {a1 : Int32} {a2 : Int32} : WP E d mMo_readTest 32 [.ref 166, .int a1, .int a2] [] σ Q = (if ¬ a2 = 1 then WP E d mMo_readTest 50 [.ref 166, .int a1, .int a2] [.int 0, .ref 166, .int (a1 + 1), .ref 171] σ Q else WP E d mMo_readTest 46 [.ref 166, .int a1, .int a2] [.int 0, .ref 166, .int (a1 + 1), .ref 171] σ Q) := (w_aload_n dMo_readTest_32 rfl).trans ((w_getr (r := 171) dMo_readTest_33 rz11_35 sh_166 rfl).trans ((w_iload_n dMo_readTest_36 rfl).trans ((w_iconst (v := 1) dMo_readTest_37 rfl).trans ((w_iadd dMo_readTest_38).trans ((w_aload_n dMo_readTest_39 rfl).trans ((w_iconst (v := 0) dMo_readTest_40 rfl).trans ((w_iload_n dMo_readTest_41 rfl).trans ((w_iconst (v := 1) dMo_readTest_42 rfl).trans (w_icmpne (t := 50) dMo_readTest_43 (by decide))))))))))
theorem bMo_readTest_46 {E : mEn} {d : Nat} {σ : mSt} {Q : mPost} {a1 : Int32} {a2 : Int32} {s0 : Int32} {s2 : Int32} : WP E d mMo_readTest 46 [.ref 166, .int a1, .int a2] [.int s0, .ref 166, .int s2, .ref 171] σ Q = WP E d mMo_readTest 60 [.ref 166, .int a1, .int a2] [.int 0, .int s0, .ref 166, .int s2, .ref 171] σ Q := (w_iconst (v := 0) dMo_readTest_46 rfl).trans (w_goto (t := 60) dMo_readTest_47 (by decide))
theorem bMo_readTest_50 {E : mEn} {d : Nat} {σ : mSt} {Q : mPost} {a1 : Int32} {a2 : Int32} {s0 : Int32} {s2 : Int32} : WP E d mMo_readTest 50 [.ref 166, .int a1, .int a2] [.int s0, .ref 166, .int s2, .ref 171] σ Q = (if ¬ a2 = (nI 2) then WP E d mMo_readTest 59 [.ref 166, .int a1, .int a2] [.int s0, .ref 166, .int s2, .ref 171] σ Q else WP E d mMo_readTest 55 [.ref 166, .int a1, .int a2] [.int s0, .ref 166, .int s2, .ref 171] σ Q) := (w_iload_n dMo_readTest_50 rfl).trans ((w_iconst (v := (nI 2)) dMo_readTest_51 rfl).trans (w_icmpne (t := 59) dMo_readTest_52 (by decide)))
theorem bMo_readTest_55 {E : mEn} {d : Nat} {σ : mSt} {Q : mPost} {a1 : Int32} {a2 : Int32} {s0 : Int32} {s2 : Int32} : WP E d mMo_readTest 55 [.ref 166, .int a1, .int a2] [.int s0, .ref 166, .int s2, .ref 171] σ Q = WP E d mMo_readTest 60 [.ref 166, .int a1, .int a2] [.int (nI 2), .int s0, .ref 166, .int s2, .ref 171] σ Q := (w_iconst (v := (nI 2)) dMo_readTest_55 rfl).trans (w_goto (t := 60) dMo_readTest_56 (by decide))
theorem bMo_readTest_59 {E : mEn} {d : Nat} {σ : mSt} {Q : mPost} {a1 : Int32} {a2 : Int32} {s0 : Int32} {s2 : Int32} : WP E d mMo_readTest 59 [.ref 166, .int a1, .int a2] [.int s0, .ref 166, .int s2, .ref 171] σ Q = WP E d mMo_readTest 60 [.ref 166, .int a1, .int a2] [.int 1, .int s0, .ref 166, .int s2, .ref 171] σ Q := w_iconst (v := 1) dMo_readTest_59 rfl
theorem bMo_readTest_60 {E : mEn} {d : Nat} {σ : mSt} {Q : mPost} {a1 : Int32} {a2 : Int32} {s0 : Int32} {s1 : Int32} {s3 : Int32} : WP E (d + 1) mMo_readTest 60 [.ref 166, .int a1, .int a2] [.int s0, .int s1, .ref 166, .int s3, .ref 171] σ Q = WP E d mMo_readTold 0 [.ref 166, .int s1, .int s0, uu] [] σ (fun r σ' => WP E (d + 1) mMo_readTest 63 [.ref 166, .int a1, .int a2] (r.toList ++ [.int s3, .ref 171]) σ' Q) := w_virt (vs := [.int s1, .int s0]) (st' := [.int s3, .ref 171]) (es := [.ref 166, .int s1, .int s0, uu]) dMo_readTest_60 rz11_274 rfl sh_166 rfl rfl rfl (Nat.le_of_ble_eq_true rfl) (Nat.le_of_ble_eq_true rfl) rfl
theorem bMo_readTest_63 {E : mEn} {d : Nat} {σ : mSt} {Q : mPost} {a1 : Int32} {a2 : Int32} {s0 : Int32} {s1 : Int32} : WP E d mMo_readTest 63 [.ref 166, .int a1, .int a2] [.int s0, .int s1, .ref 171] σ Q = (if mOut s1 3000 = true then False else WP E d mMo_readTest 64 [.ref 166, .int a1, .int a2] [] (sI σ 171 s1.toNatClampNeg s0) Q) := (w_iast dMo_readTest_63 sh_171).trans (ite_c (rfl))
theorem bMo_readTest_64 {E : mEn} {d : Nat} {σ : mSt} {Q : mPost} {a1 : Int32} {a2 : Int32} : WP E d mMo_readTest 64 [.ref 166, .int a1, .int a2] [] σ Q = (if 0 < (σ.1 166 12) then WP E d mMo_readTest 76 [.ref 166, .int a1, .int a2] [] σ Q else WP E d mMo_readTest 71 [.ref 166, .int a1, .int a2] [] σ Q) := (w_aload_n dMo_readTest_64 rfl).trans ((w_geti dMo_readTest_65 rz11_219 sh_166 rfl).trans (w_ifgt (t := 76) dMo_readTest_68 (by decide)))
theorem bMo_readTest_71 {E : mEn} {d : Nat} {σ : mSt} {Q : mPost} {a1 : Int32} {a2 : Int32} : WP E d mMo_readTest 71 [.ref 166, .int a1, .int a2] [] σ Q = (if a2 ≤ 1 then WP E d mMo_readTest 77 [.ref 166, .int a1, .int a2] [] σ Q else WP E d mMo_readTest 76 [.ref 166, .int a1, .int a2] [] σ Q) := (w_iload_n dMo_readTest_71 rfl).trans ((w_iconst (v := 1) dMo_readTest_72 rfl).trans (w_icmple (t := 77) dMo_readTest_73 (by decide)))
theorem bMo_readTest_76 {E : mEn} {d : Nat} {σ : mSt} {Q : mPost} {a1 : Int32} {a2 : Int32} : WP E d mMo_readTest 76 [.ref 166, .int a1, .int a2] [] σ Q = Q none σ := w_vret dMo_readTest_76 rfl
theorem bMo_readTest_77 {E : mEn} {d : Nat} {σ : mSt} {Q : mPost} {a1 : Int32} {a2 : Int32} : WP E d mMo_readTest 77 [.ref 166, .int a1, .int a2] [] σ Q = (if ¬ (σ.1 166 14) = (nI 3) then WP E d mMo_readTest 100 [.ref 166, .int a1, .int a2] [.int (a1 + (nI 7)), .ref 171] σ Q else WP E d mMo_readTest 93 [.ref 166, .int a1, .int a2] [.int (a1 + (nI 7)), .ref 171] σ Q) := (w_aload_n dMo_readTest_77 rfl).trans ((w_getr (r := 171) dMo_readTest_78 rz11_35 sh_166 rfl).trans ((w_iload_n dMo_readTest_81 rfl).trans ((w_bipush (v := (nI 7)) dMo_readTest_82 rfl).trans ((w_iadd dMo_readTest_84).trans ((w_aload_n dMo_readTest_85 rfl).trans ((w_geti dMo_readTest_86 rz11_125 sh_166 rfl).trans ((w_iconst (v := (nI 3)) dMo_readTest_89 rfl).trans (w_icmpne (t := 100) dMo_readTest_90 (by decide)))))))))
theorem bMo_readTest_93 {E : mEn} {d : Nat} {σ : mSt} {Q : mPost} {a1 : Int32} {a2 : Int32} {s0 : Int32} : WP E d mMo_readTest 93 [.ref 166, .int a1, .int a2] [.int s0, .ref 171] σ Q = WP E d mMo_readTest 101 [.ref 166, .int a1, .int a2] [.int (σ.1 166 17), .int s0, .ref 171] σ Q := (w_aload_n dMo_readTest_93 rfl).trans ((w_geti dMo_readTest_94 rz11_144 sh_166 rfl).trans (w_goto (t := 101) dMo_readTest_97 (by decide)))
theorem bMo_readTest_100 {E : mEn} {d : Nat} {σ : mSt} {Q : mPost} {a1 : Int32} {a2 : Int32} {s0 : Int32} : WP E d mMo_readTest 100 [.ref 166, .int a1, .int a2] [.int s0, .ref 171] σ Q = WP E d mMo_readTest 101 [.ref 166, .int a1, .int a2] [.int 0, .int s0, .ref 171] σ Q := w_iconst (v := 0) dMo_readTest_100 rfl
theorem bMo_readTest_101 {E : mEn} {d : Nat} {σ : mSt} {Q : mPost} {a1 : Int32} {a2 : Int32} {s0 : Int32} {s1 : Int32} : WP E (d + 1) mMo_readTest 101 [.ref 166, .int a1, .int a2] [.int s0, .int s1, .ref 171] σ Q = (if mOut s1 3000 = true then False else WP E d mMo_isSign 0 [.ref 166, .int (nI 60)] [] (sI σ 171 s1.toNatClampNeg s0) (fun r σ' => WP E (d + 1) mMo_readTest 109 [.ref 166, .int a1, .int a2] (r.toList ++ [.ref 166]) σ' Q)) := (w_iast dMo_readTest_101 sh_171).trans (ite_c ((w_aload_n dMo_readTest_102 rfl).trans ((w_aload_n dMo_readTest_103 rfl).trans ((w_bipush (v := (nI 60)) dMo_readTest_104 rfl).trans (w_virt (vs := [.int (nI 60)]) (st' := [.ref 166]) (es := [.ref 166, .int (nI 60)]) dMo_readTest_106 rz11_296 rfl sh_166 rfl rfl rfl (Nat.le_of_ble_eq_true rfl) (Nat.le_of_ble_eq_true rfl) rfl)))))
theorem bMo_readTest_109 {E : mEn} {d : Nat} {σ : mSt} {Q : mPost} {a1 : Int32} {a2 : Int32} {s0 : Int32} : WP E d mMo_readTest 109 [.ref 166, .int a1, .int a2] [.int s0, .ref 166] σ Q = (if ¬ s0 = 0 then WP E d mMo_readTest 130 [.ref 166, .int a1, .int a2] [.ref 166] σ Q else WP E d mMo_readTest 112 [.ref 166, .int a1, .int a2] [.ref 166] σ Q) := w_ifne (t := 130) dMo_readTest_109 (by decide)
theorem bMo_readTest_112 {E : mEn} {d : Nat} {σ : mSt} {Q : mPost} {a1 : Int32} {a2 : Int32} : WP E (d + 1) mMo_readTest 112 [.ref 166, .int a1, .int a2] [.ref 166] σ Q = WP E d mMo_isSign 0 [.ref 166, .int (nI 62)] [] σ (fun r σ' => WP E (d + 1) mMo_readTest 118 [.ref 166, .int a1, .int a2] (r.toList ++ [.ref 166]) σ' Q) := (w_aload_n dMo_readTest_112 rfl).trans ((w_bipush (v := (nI 62)) dMo_readTest_113 rfl).trans (w_virt (vs := [.int (nI 62)]) (st' := [.ref 166]) (es := [.ref 166, .int (nI 62)]) dMo_readTest_115 rz11_296 rfl sh_166 rfl rfl rfl (Nat.le_of_ble_eq_true rfl) (Nat.le_of_ble_eq_true rfl) rfl))
theorem bMo_readTest_118 {E : mEn} {d : Nat} {σ : mSt} {Q : mPost} {a1 : Int32} {a2 : Int32} {s0 : Int32} : WP E d mMo_readTest 118 [.ref 166, .int a1, .int a2] [.int s0, .ref 166] σ Q = (if ¬ s0 = 0 then WP E d mMo_readTest 130 [.ref 166, .int a1, .int a2] [.ref 166] σ Q else WP E d mMo_readTest 121 [.ref 166, .int a1, .int a2] [.ref 166] σ Q) := w_ifne (t := 130) dMo_readTest_118 (by decide)
theorem bMo_readTest_121 {E : mEn} {d : Nat} {σ : mSt} {Q : mPost} {a1 : Int32} {a2 : Int32} : WP E (d + 1) mMo_readTest 121 [.ref 166, .int a1, .int a2] [.ref 166] σ Q = WP E d mMo_isSign 0 [.ref 166, .int (nI 61)] [] σ (fun r σ' => WP E (d + 1) mMo_readTest 127 [.ref 166, .int a1, .int a2] (r.toList ++ [.ref 166]) σ' Q) := (w_aload_n dMo_readTest_121 rfl).trans ((w_bipush (v := (nI 61)) dMo_readTest_122 rfl).trans (w_virt (vs := [.int (nI 61)]) (st' := [.ref 166]) (es := [.ref 166, .int (nI 61)]) dMo_readTest_124 rz11_296 rfl sh_166 rfl rfl rfl (Nat.le_of_ble_eq_true rfl) (Nat.le_of_ble_eq_true rfl) rfl))
theorem bMo_readTest_127 {E : mEn} {d : Nat} {σ : mSt} {Q : mPost} {a1 : Int32} {a2 : Int32} {s0 : Int32} : WP E d mMo_readTest 127 [.ref 166, .int a1, .int a2] [.int s0, .ref 166] σ Q = (if s0 = 0 then WP E d mMo_readTest 134 [.ref 166, .int a1, .int a2] [.ref 166] σ Q else WP E d mMo_readTest 130 [.ref 166, .int a1, .int a2] [.ref 166] σ Q) := w_ifeq (t := 134) dMo_readTest_127 (by decide)
theorem bMo_readTest_130 {E : mEn} {d : Nat} {σ : mSt} {Q : mPost} {a1 : Int32} {a2 : Int32} : WP E d mMo_readTest 130 [.ref 166, .int a1, .int a2] [.ref 166] σ Q = WP E d mMo_readTest 135 [.ref 166, .int a1, .int a2] [.int 1, .ref 166] σ Q := (w_iconst (v := 1) dMo_readTest_130 rfl).trans (w_goto (t := 135) dMo_readTest_131 (by decide))
theorem bMo_readTest_134 {E : mEn} {d : Nat} {σ : mSt} {Q : mPost} {a1 : Int32} {a2 : Int32} : WP E d mMo_readTest 134 [.ref 166, .int a1, .int a2] [.ref 166] σ Q = WP E d mMo_readTest 135 [.ref 166, .int a1, .int a2] [.int 0, .ref 166] σ Q := w_iconst (v := 0) dMo_readTest_134 rfl
theorem bMo_readTest_135 {E : mEn} {d : Nat} {σ : mSt} {Q : mPost} {a1 : Int32} {a2 : Int32} {s0 : Int32} : WP E (d + 1) mMo_readTest 135 [.ref 166, .int a1, .int a2] [.int s0, .ref 166] σ Q = WP E d mMo_must 0 [.ref 166, .int s0] [] σ (fun r σ' => WP E (d + 1) mMo_readTest 138 [.ref 166, .int a1, .int a2] (r.toList ++ []) σ' Q) := w_virt (vs := [.int s0]) (st' := []) (es := [.ref 166, .int s0]) dMo_readTest_135 rz11_264 rfl sh_166 rfl rfl rfl (Nat.le_of_ble_eq_true rfl) (Nat.le_of_ble_eq_true rfl) rfl
theorem bMo_readTest_138 {E : mEn} {d : Nat} {σ : mSt} {Q : mPost} {a1 : Int32} {a2 : Int32} : WP E d mMo_readTest 138 [.ref 166, .int a1, .int a2] [] σ Q = (if ¬ a2 = 0 then WP E d mMo_readTest 156 [.ref 166, .int a1, .int a2] [.int 0, .ref 166, .int (a1 + (nI 2)), .ref 171] σ Q else WP E d mMo_readTest 151 [.ref 166, .int a1, .int a2] [.int 0, .ref 166, .int (a1 + (nI 2)), .ref 171] σ Q) := (w_aload_n dMo_readTest_138 rfl).trans ((w_getr (r := 171) dMo_readTest_139 rz11_35 sh_166 rfl).trans ((w_iload_n dMo_readTest_142 rfl).trans ((w_iconst (v := (nI 2)) dMo_readTest_143 rfl).trans ((w_iadd dMo_readTest_144).trans ((w_aload_n dMo_readTest_145 rfl).trans ((w_iconst (v := 0) dMo_readTest_146 rfl).trans ((w_iload_n dMo_readTest_147 rfl).trans (w_ifne (t := 156) dMo_readTest_148 (by decide)))))))))
theorem bMo_readTest_151 {E : mEn} {d : Nat} {σ : mSt} {Q : mPost} {a1 : Int32} {a2 : Int32} {s0 : Int32} {s2 : Int32} : WP E d mMo_readTest 151 [.ref 166, .int a1, .int a2] [.int s0, .ref 166, .int s2, .ref 171] σ Q = WP E d mMo_readTest 159 [.ref 166, .int a1, .int a2] [.int (nI 99), .int s0, .ref 166, .int s2, .ref 171] σ Q := (w_bipush (v := (nI 99)) dMo_readTest_151 rfl).trans (w_goto (t := 159) dMo_readTest_153 (by decide))
theorem bMo_readTest_156 {E : mEn} {d : Nat} {σ : mSt} {Q : mPost} {a1 : Int32} {a2 : Int32} {s0 : Int32} {s2 : Int32} : WP E d mMo_readTest 156 [.ref 166, .int a1, .int a2] [.int s0, .ref 166, .int s2, .ref 171] σ Q = WP E d mMo_readTest 159 [.ref 166, .int a1, .int a2] [.int (nI 999), .int s0, .ref 166, .int s2, .ref 171] σ Q := w_sipush (v := (nI 999)) dMo_readTest_156 rfl
theorem bMo_readTest_159 {E : mEn} {d : Nat} {σ : mSt} {Q : mPost} {a1 : Int32} {a2 : Int32} {s0 : Int32} {s1 : Int32} {s3 : Int32} : WP E (d + 1) mMo_readTest 159 [.ref 166, .int a1, .int a2] [.int s0, .int s1, .ref 166, .int s3, .ref 171] σ Q = WP E d mMo_count 0 [.ref 166, .int s1, .int s0, uu] [] σ (fun r σ' => WP E (d + 1) mMo_readTest 162 [.ref 166, .int a1, .int a2] (r.toList ++ [.int s3, .ref 171]) σ' Q) := w_virt (vs := [.int s1, .int s0]) (st' := [.int s3, .ref 171]) (es := [.ref 166, .int s1, .int s0, uu]) dMo_readTest_159 rz11_271 rfl sh_166 rfl rfl rfl (Nat.le_of_ble_eq_true rfl) (Nat.le_of_ble_eq_true rfl) rfl
theorem bMo_readTest_162 {E : mEn} {d : Nat} {σ : mSt} {Q : mPost} {a1 : Int32} {a2 : Int32} {s0 : Int32} {s1 : Int32} : WP E d mMo_readTest 162 [.ref 166, .int a1, .int a2] [.int s0, .int s1, .ref 171] σ Q = (if mOut s1 3000 = true then False else Q none (sI σ 171 s1.toNatClampNeg s0)) := (w_iast dMo_readTest_162 sh_171).trans (ite_c (w_vret dMo_readTest_163 rfl))
theorem dMo_many_0 : decode (mC mMo_many) 0 = .ok (.aload_n 0, 1) := by decide +kernel
theorem dMo_many_1 : decode (mC mMo_many) 1 = .ok (.iconst (0), 1) := by decide +kernel
theorem dMo_many_2 : decode (mC mMo_many) 2 = .ok (.putfield 74, 3) := by decide +kernel
theorem dMo_many_5 : decode (mC mMo_many) 5 = .ok (.aload_n 0, 1) := by decide +kernel
theorem dMo_many_6 : decode (mC mMo_many) 6 = .ok (.iconst (0), 1) := by decide +kernel
theorem dMo_many_7 : decode (mC mMo_many) 7 = .ok (.putfield 77, 3) := by decide +kernel
theorem dMo_many_10 : decode (mC mMo_many) 10 = .ok (.iload_n 1, 1) := by decide +kernel
theorem dMo_many_11 : decode (mC mMo_many) 11 = .ok (.tableswitch (88) 0 6 #[41, 48, 55, 62, 69, 76, 81], 41) := by decide +kernel
theorem dMo_many_52 : decode (mC mMo_many) 52 = .ok (.aload_n 0, 1) := by decide +kernel
theorem dMo_many_53 : decode (mC mMo_many) 53 = .ok (.getfield 35, 3) := by decide +kernel
theorem dMo_many_56 : decode (mC mMo_many) 56 = .ok (.iconst (0), 1) := by decide +kernel
theorem dMo_many_57 : decode (mC mMo_many) 57 = .ok (.iaload, 1) := by decide +kernel
theorem dMo_many_58 : decode (mC mMo_many) 58 = .ok (.ireturn, 1) := by decide +kernel
theorem dMo_many_59 : decode (mC mMo_many) 59 = .ok (.aload_n 0, 1) := by decide +kernel
theorem dMo_many_60 : decode (mC mMo_many) 60 = .ok (.getfield 35, 3) := by decide +kernel
theorem dMo_many_63 : decode (mC mMo_many) 63 = .ok (.iconst (1), 1) := by decide +kernel
theorem dMo_many_64 : decode (mC mMo_many) 64 = .ok (.iaload, 1) := by decide +kernel
theorem dMo_many_65 : decode (mC mMo_many) 65 = .ok (.ireturn, 1) := by decide +kernel
theorem dMo_many_66 : decode (mC mMo_many) 66 = .ok (.aload_n 0, 1) := by decide +kernel
theorem dMo_many_67 : decode (mC mMo_many) 67 = .ok (.getfield 35, 3) := by decide +kernel
theorem dMo_many_70 : decode (mC mMo_many) 70 = .ok (.iconst (2), 1) := by decide +kernel
theorem dMo_many_71 : decode (mC mMo_many) 71 = .ok (.iaload, 1) := by decide +kernel
theorem dMo_many_72 : decode (mC mMo_many) 72 = .ok (.ireturn, 1) := by decide +kernel
theorem dMo_many_73 : decode (mC mMo_many) 73 = .ok (.aload_n 0, 1) := by decide +kernel
theorem dMo_many_74 : decode (mC mMo_many) 74 = .ok (.getfield 35, 3) := by decide +kernel
theorem dMo_many_77 : decode (mC mMo_many) 77 = .ok (.iconst (3), 1) := by decide +kernel
theorem dMo_many_78 : decode (mC mMo_many) 78 = .ok (.iaload, 1) := by decide +kernel
theorem dMo_many_79 : decode (mC mMo_many) 79 = .ok (.ireturn, 1) := by decide +kernel
theorem dMo_many_80 : decode (mC mMo_many) 80 = .ok (.aload_n 0, 1) := by decide +kernel
theorem dMo_many_81 : decode (mC mMo_many) 81 = .ok (.getfield 35, 3) := by decide +kernel
theorem dMo_many_84 : decode (mC mMo_many) 84 = .ok (.iconst (4), 1) := by decide +kernel
theorem dMo_many_85 : decode (mC mMo_many) 85 = .ok (.iaload, 1) := by decide +kernel
theorem dMo_many_86 : decode (mC mMo_many) 86 = .ok (.ireturn, 1) := by decide +kernel
theorem dMo_many_87 : decode (mC mMo_many) 87 = .ok (.aload_n 0, 1) := by decide +kernel
theorem dMo_many_88 : decode (mC mMo_many) 88 = .ok (.invokevirtual 326, 3) := by decide +kernel
theorem dMo_many_91 : decode (mC mMo_many) 91 = .ok (.ireturn, 1) := by decide +kernel
theorem dMo_many_92 : decode (mC mMo_many) 92 = .ok (.aload_n 0, 1) := by decide +kernel
theorem dMo_many_93 : decode (mC mMo_many) 93 = .ok (.getfield 35, 3) := by decide +kernel
theorem dMo_many_96 : decode (mC mMo_many) 96 = .ok (.iconst (5), 1) := by decide +kernel
theorem dMo_many_97 : decode (mC mMo_many) 97 = .ok (.iaload, 1) := by decide +kernel
theorem dMo_many_98 : decode (mC mMo_many) 98 = .ok (.ireturn, 1) := by decide +kernel
theorem dMo_many_99 : decode (mC mMo_many) 99 = .ok (.aload_n 0, 1) := by decide +kernel
theorem dMo_many_100 : decode (mC mMo_many) 100 = .ok (.iconst (5), 1) := by decide +kernel
theorem dMo_many_101 : decode (mC mMo_many) 101 = .ok (.invokevirtual 329, 3) := by decide +kernel
theorem dMo_many_104 : decode (mC mMo_many) 104 = .ok (.ireturn, 1) := by decide +kernel
theorem bMo_many_0 {E : mEn} {d : Nat} {σ : mSt} {Q : mPost} {a1 : Int32} : WP E d mMo_many 0 [.ref 166, .int a1] [] σ Q = WP E d mMo_many 11 [.ref 166, .int a1] [.int a1] (sI (sI σ 166 1 0) 166 0 0) Q := (w_aload_n dMo_many_0 rfl).trans ((w_iconst (v := 0) dMo_many_1 rfl).trans ((w_puti dMo_many_2 rz11_74 sh_166 rfl rfl rfl).trans ((w_aload_n dMo_many_5 rfl).trans ((w_iconst (v := 0) dMo_many_6 rfl).trans ((w_puti dMo_many_7 rz11_77 sh_166 rfl rfl rfl).trans (w_iload_n dMo_many_10 rfl))))))
theorem bMo_many_0_s0 {E : mEn} {d : Nat} {σ : mSt} {Q : mPost} {b1 : Int32} : WP E d mMo_many 11 [.ref 166, .int b1] [.int (nI 0)] σ Q = WP E d mMo_many 52 [.ref 166, .int b1] [] σ Q := w_swK 0 dMo_many_11 (by decide) (by decide) (by decide) rfl (by decide)
theorem bMo_many_0_s1 {E : mEn} {d : Nat} {σ : mSt} {Q : mPost} {b1 : Int32} : WP E d mMo_many 11 [.ref 166, .int b1] [.int (nI 1)] σ Q = WP E d mMo_many 59 [.ref 166, .int b1] [] σ Q := w_swK 1 dMo_many_11 (by decide) (by decide) (by decide) rfl (by decide)
theorem bMo_many_0_s2 {E : mEn} {d : Nat} {σ : mSt} {Q : mPost} {b1 : Int32} : WP E d mMo_many 11 [.ref 166, .int b1] [.int (nI 2)] σ Q = WP E d mMo_many 66 [.ref 166, .int b1] [] σ Q := w_swK 2 dMo_many_11 (by decide) (by decide) (by decide) rfl (by decide)
theorem bMo_many_0_s3 {E : mEn} {d : Nat} {σ : mSt} {Q : mPost} {b1 : Int32} : WP E d mMo_many 11 [.ref 166, .int b1] [.int (nI 3)] σ Q = WP E d mMo_many 73 [.ref 166, .int b1] [] σ Q := w_swK 3 dMo_many_11 (by decide) (by decide) (by decide) rfl (by decide)
theorem bMo_many_0_s4 {E : mEn} {d : Nat} {σ : mSt} {Q : mPost} {b1 : Int32} : WP E d mMo_many 11 [.ref 166, .int b1] [.int (nI 4)] σ Q = WP E d mMo_many 80 [.ref 166, .int b1] [] σ Q := w_swK 4 dMo_many_11 (by decide) (by decide) (by decide) rfl (by decide)
theorem bMo_many_0_s5 {E : mEn} {d : Nat} {σ : mSt} {Q : mPost} {b1 : Int32} : WP E d mMo_many 11 [.ref 166, .int b1] [.int (nI 5)] σ Q = WP E d mMo_many 87 [.ref 166, .int b1] [] σ Q := w_swK 5 dMo_many_11 (by decide) (by decide) (by decide) rfl (by decide)
theorem bMo_many_0_s6 {E : mEn} {d : Nat} {σ : mSt} {Q : mPost} {b1 : Int32} : WP E d mMo_many 11 [.ref 166, .int b1] [.int (nI 6)] σ Q = WP E d mMo_many 92 [.ref 166, .int b1] [] σ Q := w_swK 6 dMo_many_11 (by decide) (by decide) (by decide) rfl (by decide)
theorem bMo_many_0_sD {E : mEn} {d : Nat} {σ : mSt} {Q : mPost} {b1 : Int32} {x : Int32} (hne : ∀ k : Nat, 0 ≤ k → k ≤ 6 → x ≠ nI k) : WP E d mMo_many 11 [.ref 166, .int b1] [.int x] σ Q = WP E d mMo_many 99 [.ref 166, .int b1] [] σ Q := w_swD dMo_many_11 (by decide) hne (by decide)
theorem bMo_many_52 {E : mEn} {d : Nat} {σ : mSt} {Q : mPost} {a1 : Int32} : WP E d mMo_many 52 [.ref 166, .int a1] [] σ Q = (if mOut 0 3000 = true then False else Q (some (.int (σ.1 171 0))) σ) := (w_aload_n dMo_many_52 rfl).trans ((w_getr (r := 171) dMo_many_53 rz11_35 sh_166 rfl).trans ((w_iconst (v := 0) dMo_many_56 rfl).trans ((w_iald dMo_many_57 sh_171 (by decide)).trans (ite_c (w_iret dMo_many_58 rfl)))))
theorem bMo_many_59 {E : mEn} {d : Nat} {σ : mSt} {Q : mPost} {a1 : Int32} : WP E d mMo_many 59 [.ref 166, .int a1] [] σ Q = (if mOut 1 3000 = true then False else Q (some (.int (σ.1 171 1))) σ) := (w_aload_n dMo_many_59 rfl).trans ((w_getr (r := 171) dMo_many_60 rz11_35 sh_166 rfl).trans ((w_iconst (v := 1) dMo_many_63 rfl).trans ((w_iald dMo_many_64 sh_171 (by decide)).trans (ite_c (w_iret dMo_many_65 rfl)))))
theorem bMo_many_66 {E : mEn} {d : Nat} {σ : mSt} {Q : mPost} {a1 : Int32} : WP E d mMo_many 66 [.ref 166, .int a1] [] σ Q = (if mOut (nI 2) 3000 = true then False else Q (some (.int (σ.1 171 2))) σ) := (w_aload_n dMo_many_66 rfl).trans ((w_getr (r := 171) dMo_many_67 rz11_35 sh_166 rfl).trans ((w_iconst (v := (nI 2)) dMo_many_70 rfl).trans ((w_iald dMo_many_71 sh_171 (by decide)).trans (ite_c (w_iret dMo_many_72 rfl)))))
theorem bMo_many_73 {E : mEn} {d : Nat} {σ : mSt} {Q : mPost} {a1 : Int32} : WP E d mMo_many 73 [.ref 166, .int a1] [] σ Q = (if mOut (nI 3) 3000 = true then False else Q (some (.int (σ.1 171 3))) σ) := (w_aload_n dMo_many_73 rfl).trans ((w_getr (r := 171) dMo_many_74 rz11_35 sh_166 rfl).trans ((w_iconst (v := (nI 3)) dMo_many_77 rfl).trans ((w_iald dMo_many_78 sh_171 (by decide)).trans (ite_c (w_iret dMo_many_79 rfl)))))
theorem bMo_many_80 {E : mEn} {d : Nat} {σ : mSt} {Q : mPost} {a1 : Int32} : WP E d mMo_many 80 [.ref 166, .int a1] [] σ Q = (if mOut (nI 4) 3000 = true then False else Q (some (.int (σ.1 171 4))) σ) := (w_aload_n dMo_many_80 rfl).trans ((w_getr (r := 171) dMo_many_81 rz11_35 sh_166 rfl).trans ((w_iconst (v := (nI 4)) dMo_many_84 rfl).trans ((w_iald dMo_many_85 sh_171 (by decide)).trans (ite_c (w_iret dMo_many_86 rfl)))))
theorem bMo_many_87 {E : mEn} {d : Nat} {σ : mSt} {Q : mPost} {a1 : Int32} : WP E (d + 1) mMo_many 87 [.ref 166, .int a1] [] σ Q = WP E d mMo_bakedSet 0 [.ref 166, uu, uu] [] σ (fun r σ' => WP E (d + 1) mMo_many 91 [.ref 166, .int a1] (r.toList ++ []) σ' Q) := (w_aload_n dMo_many_87 rfl).trans (w_virt (vs := []) (st' := []) (es := [.ref 166, uu, uu]) dMo_many_88 rz11_326 rfl sh_166 rfl rfl rfl (Nat.le_of_ble_eq_true rfl) (Nat.le_of_ble_eq_true rfl) rfl)
theorem bMo_many_91 {E : mEn} {d : Nat} {σ : mSt} {Q : mPost} {a1 : Int32} {s0 : Int32} : WP E d mMo_many 91 [.ref 166, .int a1] [.int s0] σ Q = Q (some (.int s0)) σ := w_iret dMo_many_91 rfl
theorem bMo_many_92 {E : mEn} {d : Nat} {σ : mSt} {Q : mPost} {a1 : Int32} : WP E d mMo_many 92 [.ref 166, .int a1] [] σ Q = (if mOut (nI 5) 3000 = true then False else Q (some (.int (σ.1 171 5))) σ) := (w_aload_n dMo_many_92 rfl).trans ((w_getr (r := 171) dMo_many_93 rz11_35 sh_166 rfl).trans ((w_iconst (v := (nI 5)) dMo_many_96 rfl).trans ((w_iald dMo_many_97 sh_171 (by decide)).trans (ite_c (w_iret dMo_many_98 rfl)))))
theorem bMo_many_99 {E : mEn} {d : Nat} {σ : mSt} {Q : mPost} {a1 : Int32} : WP E (d + 1) mMo_many 99 [.ref 166, .int a1] [] σ Q = WP E d mMo_refuse 0 [.ref 166, .int (nI 5)] [] σ (fun r σ' => WP E (d + 1) mMo_many 104 [.ref 166, .int a1] (r.toList ++ []) σ' Q) := (w_aload_n dMo_many_99 rfl).trans ((w_iconst (v := (nI 5)) dMo_many_100 rfl).trans (w_virt (vs := [.int (nI 5)]) (st' := []) (es := [.ref 166, .int (nI 5)]) dMo_many_101 rz11_329 rfl sh_166 rfl rfl rfl (Nat.le_of_ble_eq_true rfl) (Nat.le_of_ble_eq_true rfl) rfl))
theorem bMo_many_104 {E : mEn} {d : Nat} {σ : mSt} {Q : mPost} {a1 : Int32} {s0 : Int32} : WP E d mMo_many 104 [.ref 166, .int a1] [.int s0] σ Q = Q (some (.int s0)) σ := w_iret dMo_many_104 rfl
theorem dMo_bakedSet_0 : decode (mC mMo_bakedSet) 0 = .ok (.iconst (0), 1) := by decide +kernel
theorem dMo_bakedSet_1 : decode (mC mMo_bakedSet) 1 = .ok (.istore_n 1, 1) := by decide +kernel
theorem dMo_bakedSet_2 : decode (mC mMo_bakedSet) 2 = .ok (.iconst (0), 1) := by decide +kernel
theorem dMo_bakedSet_3 : decode (mC mMo_bakedSet) 3 = .ok (.istore_n 2, 1) := by decide +kernel
theorem dMo_bakedSet_4 : decode (mC mMo_bakedSet) 4 = .ok (.iload_n 2, 1) := by decide +kernel
theorem dMo_bakedSet_5 : decode (mC mMo_bakedSet) 5 = .ok (.aload_n 0, 1) := by decide +kernel
theorem dMo_bakedSet_6 : decode (mC mMo_bakedSet) 6 = .ok (.getfield 35, 3) := by decide +kernel
theorem dMo_bakedSet_9 : decode (mC mMo_bakedSet) 9 = .ok (.iconst (2), 1) := by decide +kernel
theorem dMo_bakedSet_10 : decode (mC mMo_bakedSet) 10 = .ok (.iaload, 1) := by decide +kernel
theorem dMo_bakedSet_11 : decode (mC mMo_bakedSet) 11 = .ok (.if_icmp .ge (27), 3) := by decide +kernel
theorem dMo_bakedSet_14 : decode (mC mMo_bakedSet) 14 = .ok (.iload_n 1, 1) := by decide +kernel
theorem dMo_bakedSet_15 : decode (mC mMo_bakedSet) 15 = .ok (.aload_n 0, 1) := by decide +kernel
theorem dMo_bakedSet_16 : decode (mC mMo_bakedSet) 16 = .ok (.iload_n 2, 1) := by decide +kernel
theorem dMo_bakedSet_17 : decode (mC mMo_bakedSet) 17 = .ok (.invokevirtual 323, 3) := by decide +kernel
theorem dMo_bakedSet_20 : decode (mC mMo_bakedSet) 20 = .ok (.ifCond .eq (9), 3) := by decide +kernel
theorem dMo_bakedSet_23 : decode (mC mMo_bakedSet) 23 = .ok (.iconst (1), 1) := by decide +kernel
theorem dMo_bakedSet_24 : decode (mC mMo_bakedSet) 24 = .ok (.iload_n 2, 1) := by decide +kernel
theorem dMo_bakedSet_25 : decode (mC mMo_bakedSet) 25 = .ok (.ishl, 1) := by decide +kernel
theorem dMo_bakedSet_26 : decode (mC mMo_bakedSet) 26 = .ok (.goto (4), 3) := by decide +kernel
theorem dMo_bakedSet_29 : decode (mC mMo_bakedSet) 29 = .ok (.iconst (0), 1) := by decide +kernel
theorem dMo_bakedSet_30 : decode (mC mMo_bakedSet) 30 = .ok (.ior, 1) := by decide +kernel
theorem dMo_bakedSet_31 : decode (mC mMo_bakedSet) 31 = .ok (.istore_n 1, 1) := by decide +kernel
theorem dMo_bakedSet_32 : decode (mC mMo_bakedSet) 32 = .ok (.iinc 2 (1), 3) := by decide +kernel
theorem dMo_bakedSet_35 : decode (mC mMo_bakedSet) 35 = .ok (.goto (-31), 3) := by decide +kernel
theorem dMo_bakedSet_38 : decode (mC mMo_bakedSet) 38 = .ok (.iload_n 1, 1) := by decide +kernel
theorem dMo_bakedSet_39 : decode (mC mMo_bakedSet) 39 = .ok (.ireturn, 1) := by decide +kernel
theorem bMo_bakedSet_0 {E : mEn} {d : Nat} {σ : mSt} {Q : mPost} {u1 : Value} {u2 : Value} : WP E d mMo_bakedSet 0 [.ref 166, u1, u2] [] σ Q = WP E d mMo_bakedSet 4 [.ref 166, .int 0, .int 0] [] σ Q := (w_iconst (v := 0) dMo_bakedSet_0 rfl).trans ((w_istore_n (ls' := [.ref 166, .int 0, u2]) dMo_bakedSet_1 (Nat.le_of_ble_eq_true rfl) rfl).trans ((w_iconst (v := 0) dMo_bakedSet_2 rfl).trans (w_istore_n (ls' := [.ref 166, .int 0, .int 0]) dMo_bakedSet_3 (Nat.le_of_ble_eq_true rfl) rfl)))
theorem bMo_bakedSet_4 {E : mEn} {d : Nat} {σ : mSt} {Q : mPost} {a1 : Int32} {a2 : Int32} : WP E d mMo_bakedSet 4 [.ref 166, .int a1, .int a2] [] σ Q = (if mOut (nI 2) 3000 = true then False else (if (σ.1 171 2) ≤ a2 then WP E d mMo_bakedSet 38 [.ref 166, .int a1, .int a2] [] σ Q else WP E d mMo_bakedSet 14 [.ref 166, .int a1, .int a2] [] σ Q)) := (w_iload_n dMo_bakedSet_4 rfl).trans ((w_aload_n dMo_bakedSet_5 rfl).trans ((w_getr (r := 171) dMo_bakedSet_6 rz11_35 sh_166 rfl).trans ((w_iconst (v := (nI 2)) dMo_bakedSet_9 rfl).trans ((w_iald dMo_bakedSet_10 sh_171 (by decide)).trans (ite_c (w_icmpge (t := 38) dMo_bakedSet_11 (by decide)))))))
theorem bMo_bakedSet_14 {E : mEn} {d : Nat} {σ : mSt} {Q : mPost} {a1 : Int32} {a2 : Int32} : WP E (d + 1) mMo_bakedSet 14 [.ref 166, .int a1, .int a2] [] σ Q = WP E d mMo_isBaked 0 [.ref 166, .int a2] [] σ (fun r σ' => WP E (d + 1) mMo_bakedSet 20 [.ref 166, .int a1, .int a2] (r.toList ++ [.int a1]) σ' Q) := (w_iload_n dMo_bakedSet_14 rfl).trans ((w_aload_n dMo_bakedSet_15 rfl).trans ((w_iload_n dMo_bakedSet_16 rfl).trans (w_virt (vs := [.int a2]) (st' := [.int a1]) (es := [.ref 166, .int a2]) dMo_bakedSet_17 rz11_323 rfl sh_166 rfl rfl rfl (Nat.le_of_ble_eq_true rfl) (Nat.le_of_ble_eq_true rfl) rfl)))
theorem bMo_bakedSet_20 {E : mEn} {d : Nat} {σ : mSt} {Q : mPost} {a1 : Int32} {a2 : Int32} {s0 : Int32} {s1 : Int32} : WP E d mMo_bakedSet 20 [.ref 166, .int a1, .int a2] [.int s0, .int s1] σ Q = (if s0 = 0 then WP E d mMo_bakedSet 29 [.ref 166, .int a1, .int a2] [.int s1] σ Q else WP E d mMo_bakedSet 23 [.ref 166, .int a1, .int a2] [.int s1] σ Q) := w_ifeq (t := 29) dMo_bakedSet_20 (by decide)
theorem bMo_bakedSet_23 {E : mEn} {d : Nat} {σ : mSt} {Q : mPost} {a1 : Int32} {a2 : Int32} {s0 : Int32} : WP E d mMo_bakedSet 23 [.ref 166, .int a1, .int a2] [.int s0] σ Q = WP E d mMo_bakedSet 30 [.ref 166, .int a1, .int a2] [.int (1 <<< (a2 &&& 31)), .int s0] σ Q := (w_iconst (v := 1) dMo_bakedSet_23 rfl).trans ((w_iload_n dMo_bakedSet_24 rfl).trans ((w_ishl dMo_bakedSet_25).trans (w_goto (t := 30) dMo_bakedSet_26 (by decide))))
theorem bMo_bakedSet_29 {E : mEn} {d : Nat} {σ : mSt} {Q : mPost} {a1 : Int32} {a2 : Int32} {s0 : Int32} : WP E d mMo_bakedSet 29 [.ref 166, .int a1, .int a2] [.int s0] σ Q = WP E d mMo_bakedSet 30 [.ref 166, .int a1, .int a2] [.int 0, .int s0] σ Q := w_iconst (v := 0) dMo_bakedSet_29 rfl
theorem bMo_bakedSet_30 {E : mEn} {d : Nat} {σ : mSt} {Q : mPost} {a1 : Int32} {a2 : Int32} {s0 : Int32} {s1 : Int32} : WP E d mMo_bakedSet 30 [.ref 166, .int a1, .int a2] [.int s0, .int s1] σ Q = WP E d mMo_bakedSet 4 [.ref 166, .int (s1 ||| s0), .int (a2 + 1)] [] σ Q := (w_ior dMo_bakedSet_30).trans ((w_istore_n (ls' := [.ref 166, .int (s1 ||| s0), .int a2]) dMo_bakedSet_31 (Nat.le_of_ble_eq_true rfl) rfl).trans ((w_iinc (v := 1) (ls' := [.ref 166, .int (s1 ||| s0), .int (a2 + 1)]) dMo_bakedSet_32 rfl rfl rfl).trans (w_goto (t := 4) dMo_bakedSet_35 (by decide))))
theorem bMo_bakedSet_38 {E : mEn} {d : Nat} {σ : mSt} {Q : mPost} {a1 : Int32} {a2 : Int32} : WP E d mMo_bakedSet 38 [.ref 166, .int a1, .int a2] [] σ Q = Q (some (.int a1)) σ := (w_iload_n dMo_bakedSet_38 rfl).trans (w_iret dMo_bakedSet_39 rfl)
theorem dMo_isBaked_0 : decode (mC mMo_isBaked) 0 = .ok (.aload_n 0, 1) := by decide +kernel
theorem dMo_isBaked_1 : decode (mC mMo_isBaked) 1 = .ok (.getfield 35, 3) := by decide +kernel
theorem dMo_isBaked_4 : decode (mC mMo_isBaked) 4 = .ok (.bipush (74), 2) := by decide +kernel
theorem dMo_isBaked_6 : decode (mC mMo_isBaked) 6 = .ok (.iload_n 1, 1) := by decide +kernel
theorem dMo_isBaked_7 : decode (mC mMo_isBaked) 7 = .ok (.iadd, 1) := by decide +kernel
theorem dMo_isBaked_8 : decode (mC mMo_isBaked) 8 = .ok (.iaload, 1) := by decide +kernel
theorem dMo_isBaked_9 : decode (mC mMo_isBaked) 9 = .ok (.ifCond .lt (7), 3) := by decide +kernel
theorem dMo_isBaked_12 : decode (mC mMo_isBaked) 12 = .ok (.iconst (1), 1) := by decide +kernel
theorem dMo_isBaked_13 : decode (mC mMo_isBaked) 13 = .ok (.goto (4), 3) := by decide +kernel
theorem dMo_isBaked_16 : decode (mC mMo_isBaked) 16 = .ok (.iconst (0), 1) := by decide +kernel
theorem dMo_isBaked_17 : decode (mC mMo_isBaked) 17 = .ok (.ireturn, 1) := by decide +kernel
theorem bMo_isBaked_0 {E : mEn} {d : Nat} {σ : mSt} {Q : mPost} {a1 : Int32} : WP E d mMo_isBaked 0 [.ref 166, .int a1] [] σ Q = (if mOut ((nI 74) + a1) 3000 = true then False else (if (σ.1 171 ((nI 74) + a1).toNatClampNeg) < 0 then WP E d mMo_isBaked 16 [.ref 166, .int a1] [] σ Q else WP E d mMo_isBaked 12 [.ref 166, .int a1] [] σ Q)) := (w_aload_n dMo_isBaked_0 rfl).trans ((w_getr (r := 171) dMo_isBaked_1 rz11_35 sh_166 rfl).trans ((w_bipush (v := (nI 74)) dMo_isBaked_4 rfl).trans ((w_iload_n dMo_isBaked_6 rfl).trans ((w_iadd dMo_isBaked_7).trans ((w_iald dMo_isBaked_8 sh_171 (by decide)).trans (ite_c (w_iflt (t := 16) dMo_isBaked_9 (by decide))))))))
theorem bMo_isBaked_12 {E : mEn} {d : Nat} {σ : mSt} {Q : mPost} {a1 : Int32} : WP E d mMo_isBaked 12 [.ref 166, .int a1] [] σ Q = WP E d mMo_isBaked 17 [.ref 166, .int a1] [.int 1] σ Q := (w_iconst (v := 1) dMo_isBaked_12 rfl).trans (w_goto (t := 17) dMo_isBaked_13 (by decide))
theorem bMo_isBaked_16 {E : mEn} {d : Nat} {σ : mSt} {Q : mPost} {a1 : Int32} : WP E d mMo_isBaked 16 [.ref 166, .int a1] [] σ Q = WP E d mMo_isBaked 17 [.ref 166, .int a1] [.int 0] σ Q := w_iconst (v := 0) dMo_isBaked_16 rfl
theorem bMo_isBaked_17 {E : mEn} {d : Nat} {σ : mSt} {Q : mPost} {a1 : Int32} {s0 : Int32} (hz0 : s0 = 0 ∨ s0 = 1) : WP E d mMo_isBaked 17 [.ref 166, .int a1] [.int s0] σ Q = Q (some (.int s0)) σ := w_zret dMo_isBaked_17 rfl hz0
theorem dMo_refuse_0 : decode (mC mMo_refuse) 0 = .ok (.aload_n 0, 1) := by decide +kernel
theorem dMo_refuse_1 : decode (mC mMo_refuse) 1 = .ok (.iload_n 1, 1) := by decide +kernel
theorem dMo_refuse_2 : decode (mC mMo_refuse) 2 = .ok (.putfield 77, 3) := by decide +kernel
theorem dMo_refuse_5 : decode (mC mMo_refuse) 5 = .ok (.iconst (-1), 1) := by decide +kernel
theorem dMo_refuse_6 : decode (mC mMo_refuse) 6 = .ok (.ireturn, 1) := by decide +kernel
theorem bMo_refuse_0 {E : mEn} {d : Nat} {σ : mSt} {Q : mPost} {a1 : Int32} : WP E d mMo_refuse 0 [.ref 166, .int a1] [] σ Q = Q (some (.int (-1))) (sI σ 166 0 a1) := (w_aload_n dMo_refuse_0 rfl).trans ((w_iload_n dMo_refuse_1 rfl).trans ((w_puti dMo_refuse_2 rz11_77 sh_166 rfl rfl rfl).trans ((w_iconst (v := (-1)) dMo_refuse_5 rfl).trans (w_iret dMo_refuse_6 rfl))))
theorem dMo_person_0 : decode (mC mMo_person) 0 = .ok (.aload_n 0, 1) := by decide +kernel
theorem dMo_person_1 : decode (mC mMo_person) 1 = .ok (.iconst (0), 1) := by decide +kernel
theorem dMo_person_2 : decode (mC mMo_person) 2 = .ok (.putfield 74, 3) := by decide +kernel
theorem dMo_person_5 : decode (mC mMo_person) 5 = .ok (.aload_n 0, 1) := by decide +kernel
theorem dMo_person_6 : decode (mC mMo_person) 6 = .ok (.iconst (0), 1) := by decide +kernel
theorem dMo_person_7 : decode (mC mMo_person) 7 = .ok (.putfield 77, 3) := by decide +kernel
theorem dMo_person_10 : decode (mC mMo_person) 10 = .ok (.aload_n 0, 1) := by decide +kernel
theorem dMo_person_11 : decode (mC mMo_person) 11 = .ok (.iload_n 1, 1) := by decide +kernel
theorem dMo_person_12 : decode (mC mMo_person) 12 = .ok (.invokevirtual 332, 3) := by decide +kernel
theorem dMo_person_15 : decode (mC mMo_person) 15 = .ok (.ifCond .ne (9), 3) := by decide +kernel
theorem dMo_person_18 : decode (mC mMo_person) 18 = .ok (.aload_n 0, 1) := by decide +kernel
theorem dMo_person_19 : decode (mC mMo_person) 19 = .ok (.iconst (2), 1) := by decide +kernel
theorem dMo_person_20 : decode (mC mMo_person) 20 = .ok (.invokevirtual 329, 3) := by decide +kernel
theorem dMo_person_23 : decode (mC mMo_person) 23 = .ok (.ireturn, 1) := by decide +kernel
theorem dMo_person_24 : decode (mC mMo_person) 24 = .ok (.iload_n 2, 1) := by decide +kernel
theorem dMo_person_25 : decode (mC mMo_person) 25 = .ok (.ifCond .ne (15), 3) := by decide +kernel
theorem dMo_person_28 : decode (mC mMo_person) 28 = .ok (.aload_n 0, 1) := by decide +kernel
theorem dMo_person_29 : decode (mC mMo_person) 29 = .ok (.getfield 35, 3) := by decide +kernel
theorem dMo_person_32 : decode (mC mMo_person) 32 = .ok (.bipush (6), 2) := by decide +kernel
theorem dMo_person_34 : decode (mC mMo_person) 34 = .ok (.iload_n 1, 1) := by decide +kernel
theorem dMo_person_35 : decode (mC mMo_person) 35 = .ok (.iadd, 1) := by decide +kernel
theorem dMo_person_36 : decode (mC mMo_person) 36 = .ok (.iaload, 1) := by decide +kernel
theorem dMo_person_37 : decode (mC mMo_person) 37 = .ok (.goto (42), 3) := by decide +kernel
theorem dMo_person_40 : decode (mC mMo_person) 40 = .ok (.iload_n 2, 1) := by decide +kernel
theorem dMo_person_41 : decode (mC mMo_person) 41 = .ok (.iconst (1), 1) := by decide +kernel
theorem dMo_person_42 : decode (mC mMo_person) 42 = .ok (.if_icmp .ne (15), 3) := by decide +kernel
theorem dMo_person_45 : decode (mC mMo_person) 45 = .ok (.aload_n 0, 1) := by decide +kernel
theorem dMo_person_46 : decode (mC mMo_person) 46 = .ok (.getfield 35, 3) := by decide +kernel
theorem dMo_person_49 : decode (mC mMo_person) 49 = .ok (.bipush (14), 2) := by decide +kernel
theorem dMo_person_51 : decode (mC mMo_person) 51 = .ok (.iload_n 1, 1) := by decide +kernel
theorem dMo_person_52 : decode (mC mMo_person) 52 = .ok (.iadd, 1) := by decide +kernel
theorem dMo_person_53 : decode (mC mMo_person) 53 = .ok (.iaload, 1) := by decide +kernel
theorem dMo_person_54 : decode (mC mMo_person) 54 = .ok (.goto (25), 3) := by decide +kernel
theorem dMo_person_57 : decode (mC mMo_person) 57 = .ok (.iload_n 2, 1) := by decide +kernel
theorem dMo_person_58 : decode (mC mMo_person) 58 = .ok (.iconst (2), 1) := by decide +kernel
theorem dMo_person_59 : decode (mC mMo_person) 59 = .ok (.if_icmp .ne (15), 3) := by decide +kernel
theorem dMo_person_62 : decode (mC mMo_person) 62 = .ok (.aload_n 0, 1) := by decide +kernel
theorem dMo_person_63 : decode (mC mMo_person) 63 = .ok (.getfield 35, 3) := by decide +kernel
theorem dMo_person_66 : decode (mC mMo_person) 66 = .ok (.bipush (22), 2) := by decide +kernel
theorem dMo_person_68 : decode (mC mMo_person) 68 = .ok (.iload_n 1, 1) := by decide +kernel
theorem dMo_person_69 : decode (mC mMo_person) 69 = .ok (.iadd, 1) := by decide +kernel
theorem dMo_person_70 : decode (mC mMo_person) 70 = .ok (.iaload, 1) := by decide +kernel
theorem dMo_person_71 : decode (mC mMo_person) 71 = .ok (.goto (8), 3) := by decide +kernel
theorem dMo_person_74 : decode (mC mMo_person) 74 = .ok (.aload_n 0, 1) := by decide +kernel
theorem dMo_person_75 : decode (mC mMo_person) 75 = .ok (.iconst (5), 1) := by decide +kernel
theorem dMo_person_76 : decode (mC mMo_person) 76 = .ok (.invokevirtual 329, 3) := by decide +kernel
theorem dMo_person_79 : decode (mC mMo_person) 79 = .ok (.ireturn, 1) := by decide +kernel
theorem bMo_person_0 {E : mEn} {d : Nat} {σ : mSt} {Q : mPost} {a1 : Int32} {a2 : Int32} : WP E (d + 1) mMo_person 0 [.ref 166, .int a1, .int a2] [] σ Q = WP E d mMo_isPersonAt 0 [.ref 166, .int a1] [] (sI (sI σ 166 1 0) 166 0 0) (fun r σ' => WP E (d + 1) mMo_person 15 [.ref 166, .int a1, .int a2] (r.toList ++ []) σ' Q) := (w_aload_n dMo_person_0 rfl).trans ((w_iconst (v := 0) dMo_person_1 rfl).trans ((w_puti dMo_person_2 rz11_74 sh_166 rfl rfl rfl).trans ((w_aload_n dMo_person_5 rfl).trans ((w_iconst (v := 0) dMo_person_6 rfl).trans ((w_puti dMo_person_7 rz11_77 sh_166 rfl rfl rfl).trans ((w_aload_n dMo_person_10 rfl).trans ((w_iload_n dMo_person_11 rfl).trans (w_virt (vs := [.int a1]) (st' := []) (es := [.ref 166, .int a1]) dMo_person_12 rz11_332 rfl sh_166 rfl rfl rfl (Nat.le_of_ble_eq_true rfl) (Nat.le_of_ble_eq_true rfl) rfl))))))))
theorem bMo_person_15 {E : mEn} {d : Nat} {σ : mSt} {Q : mPost} {a1 : Int32} {a2 : Int32} {s0 : Int32} : WP E d mMo_person 15 [.ref 166, .int a1, .int a2] [.int s0] σ Q = (if ¬ s0 = 0 then WP E d mMo_person 24 [.ref 166, .int a1, .int a2] [] σ Q else WP E d mMo_person 18 [.ref 166, .int a1, .int a2] [] σ Q) := w_ifne (t := 24) dMo_person_15 (by decide)
theorem bMo_person_18 {E : mEn} {d : Nat} {σ : mSt} {Q : mPost} {a1 : Int32} {a2 : Int32} : WP E (d + 1) mMo_person 18 [.ref 166, .int a1, .int a2] [] σ Q = WP E d mMo_refuse 0 [.ref 166, .int (nI 2)] [] σ (fun r σ' => WP E (d + 1) mMo_person 23 [.ref 166, .int a1, .int a2] (r.toList ++ []) σ' Q) := (w_aload_n dMo_person_18 rfl).trans ((w_iconst (v := (nI 2)) dMo_person_19 rfl).trans (w_virt (vs := [.int (nI 2)]) (st' := []) (es := [.ref 166, .int (nI 2)]) dMo_person_20 rz11_329 rfl sh_166 rfl rfl rfl (Nat.le_of_ble_eq_true rfl) (Nat.le_of_ble_eq_true rfl) rfl))
theorem bMo_person_23 {E : mEn} {d : Nat} {σ : mSt} {Q : mPost} {a1 : Int32} {a2 : Int32} {s0 : Int32} : WP E d mMo_person 23 [.ref 166, .int a1, .int a2] [.int s0] σ Q = Q (some (.int s0)) σ := w_iret dMo_person_23 rfl
theorem bMo_person_24 {E : mEn} {d : Nat} {σ : mSt} {Q : mPost} {a1 : Int32} {a2 : Int32} : WP E d mMo_person 24 [.ref 166, .int a1, .int a2] [] σ Q = (if ¬ a2 = 0 then WP E d mMo_person 40 [.ref 166, .int a1, .int a2] [] σ Q else WP E d mMo_person 28 [.ref 166, .int a1, .int a2] [] σ Q) := (w_iload_n dMo_person_24 rfl).trans (w_ifne (t := 40) dMo_person_25 (by decide))
theorem bMo_person_28 {E : mEn} {d : Nat} {σ : mSt} {Q : mPost} {a1 : Int32} {a2 : Int32} : WP E d mMo_person 28 [.ref 166, .int a1, .int a2] [] σ Q = (if mOut ((nI 6) + a1) 3000 = true then False else WP E d mMo_person 79 [.ref 166, .int a1, .int a2] [.int (σ.1 171 ((nI 6) + a1).toNatClampNeg)] σ Q) := (w_aload_n dMo_person_28 rfl).trans ((w_getr (r := 171) dMo_person_29 rz11_35 sh_166 rfl).trans ((w_bipush (v := (nI 6)) dMo_person_32 rfl).trans ((w_iload_n dMo_person_34 rfl).trans ((w_iadd dMo_person_35).trans ((w_iald dMo_person_36 sh_171 (by decide)).trans (ite_c (w_goto (t := 79) dMo_person_37 (by decide))))))))
theorem bMo_person_40 {E : mEn} {d : Nat} {σ : mSt} {Q : mPost} {a1 : Int32} {a2 : Int32} : WP E d mMo_person 40 [.ref 166, .int a1, .int a2] [] σ Q = (if ¬ a2 = 1 then WP E d mMo_person 57 [.ref 166, .int a1, .int a2] [] σ Q else WP E d mMo_person 45 [.ref 166, .int a1, .int a2] [] σ Q) := (w_iload_n dMo_person_40 rfl).trans ((w_iconst (v := 1) dMo_person_41 rfl).trans (w_icmpne (t := 57) dMo_person_42 (by decide)))
theorem bMo_person_45 {E : mEn} {d : Nat} {σ : mSt} {Q : mPost} {a1 : Int32} {a2 : Int32} : WP E d mMo_person 45 [.ref 166, .int a1, .int a2] [] σ Q = (if mOut ((nI 14) + a1) 3000 = true then False else WP E d mMo_person 79 [.ref 166, .int a1, .int a2] [.int (σ.1 171 ((nI 14) + a1).toNatClampNeg)] σ Q) := (w_aload_n dMo_person_45 rfl).trans ((w_getr (r := 171) dMo_person_46 rz11_35 sh_166 rfl).trans ((w_bipush (v := (nI 14)) dMo_person_49 rfl).trans ((w_iload_n dMo_person_51 rfl).trans ((w_iadd dMo_person_52).trans ((w_iald dMo_person_53 sh_171 (by decide)).trans (ite_c (w_goto (t := 79) dMo_person_54 (by decide))))))))
theorem bMo_person_57 {E : mEn} {d : Nat} {σ : mSt} {Q : mPost} {a1 : Int32} {a2 : Int32} : WP E d mMo_person 57 [.ref 166, .int a1, .int a2] [] σ Q = (if ¬ a2 = (nI 2) then WP E d mMo_person 74 [.ref 166, .int a1, .int a2] [] σ Q else WP E d mMo_person 62 [.ref 166, .int a1, .int a2] [] σ Q) := (w_iload_n dMo_person_57 rfl).trans ((w_iconst (v := (nI 2)) dMo_person_58 rfl).trans (w_icmpne (t := 74) dMo_person_59 (by decide)))
theorem bMo_person_62 {E : mEn} {d : Nat} {σ : mSt} {Q : mPost} {a1 : Int32} {a2 : Int32} : WP E d mMo_person 62 [.ref 166, .int a1, .int a2] [] σ Q = (if mOut ((nI 22) + a1) 3000 = true then False else WP E d mMo_person 79 [.ref 166, .int a1, .int a2] [.int (σ.1 171 ((nI 22) + a1).toNatClampNeg)] σ Q) := (w_aload_n dMo_person_62 rfl).trans ((w_getr (r := 171) dMo_person_63 rz11_35 sh_166 rfl).trans ((w_bipush (v := (nI 22)) dMo_person_66 rfl).trans ((w_iload_n dMo_person_68 rfl).trans ((w_iadd dMo_person_69).trans ((w_iald dMo_person_70 sh_171 (by decide)).trans (ite_c (w_goto (t := 79) dMo_person_71 (by decide))))))))
theorem bMo_person_74 {E : mEn} {d : Nat} {σ : mSt} {Q : mPost} {a1 : Int32} {a2 : Int32} : WP E (d + 1) mMo_person 74 [.ref 166, .int a1, .int a2] [] σ Q = WP E d mMo_refuse 0 [.ref 166, .int (nI 5)] [] σ (fun r σ' => WP E (d + 1) mMo_person 79 [.ref 166, .int a1, .int a2] (r.toList ++ []) σ' Q) := (w_aload_n dMo_person_74 rfl).trans ((w_iconst (v := (nI 5)) dMo_person_75 rfl).trans (w_virt (vs := [.int (nI 5)]) (st' := []) (es := [.ref 166, .int (nI 5)]) dMo_person_76 rz11_329 rfl sh_166 rfl rfl rfl (Nat.le_of_ble_eq_true rfl) (Nat.le_of_ble_eq_true rfl) rfl))
theorem bMo_person_79 {E : mEn} {d : Nat} {σ : mSt} {Q : mPost} {a1 : Int32} {a2 : Int32} {s0 : Int32} : WP E d mMo_person 79 [.ref 166, .int a1, .int a2] [.int s0] σ Q = Q (some (.int s0)) σ := w_iret dMo_person_79 rfl
theorem dMo_isPersonAt_0 : decode (mC mMo_isPersonAt) 0 = .ok (.iload_n 1, 1) := by decide +kernel
theorem dMo_isPersonAt_1 : decode (mC mMo_isPersonAt) 1 = .ok (.i2l, 1) := by decide +kernel
theorem dMo_isPersonAt_2 : decode (mC mMo_isPersonAt) 2 = .ok (.lconst 0, 1) := by decide +kernel
theorem dMo_isPersonAt_3 : decode (mC mMo_isPersonAt) 3 = .ok (.aload_n 0, 1) := by decide +kernel
theorem dMo_isPersonAt_4 : decode (mC mMo_isPersonAt) 4 = .ok (.getfield 35, 3) := by decide +kernel
theorem dMo_isPersonAt_7 : decode (mC mMo_isPersonAt) 7 = .ok (.iconst (0), 1) := by decide +kernel
theorem dMo_isPersonAt_8 : decode (mC mMo_isPersonAt) 8 = .ok (.iaload, 1) := by decide +kernel
theorem dMo_isPersonAt_9 : decode (mC mMo_isPersonAt) 9 = .ok (.iconst (1), 1) := by decide +kernel
theorem dMo_isPersonAt_10 : decode (mC mMo_isPersonAt) 10 = .ok (.isub, 1) := by decide +kernel
theorem dMo_isPersonAt_11 : decode (mC mMo_isPersonAt) 11 = .ok (.i2l, 1) := by decide +kernel
theorem dMo_isPersonAt_12 : decode (mC mMo_isPersonAt) 12 = .ok (.invokestatic 109, 3) := by decide +kernel
theorem dMo_isPersonAt_15 : decode (mC mMo_isPersonAt) 15 = .ok (.ireturn, 1) := by decide +kernel
theorem bMo_isPersonAt_0 {E : mEn} {d : Nat} {σ : mSt} {Q : mPost} {a1 : Int32} : WP E (d + 1) mMo_isPersonAt 0 [.ref 166, .int a1] [] σ Q = (if mOut 0 3000 = true then False else WP E d mMo_isIn 0 [.long (a1.toInt64), uu, .long 0, uu, .long (((σ.1 171 0) - 1).toInt64), uu] [] σ (fun r σ' => WP E (d + 1) mMo_isPersonAt 15 [.ref 166, .int a1] (r.toList ++ []) σ' Q)) := (w_iload_n dMo_isPersonAt_0 rfl).trans ((w_i2l dMo_isPersonAt_1).trans ((w_lconst (v := 0) dMo_isPersonAt_2 rfl).trans ((w_aload_n dMo_isPersonAt_3 rfl).trans ((w_getr (r := 171) dMo_isPersonAt_4 rz11_35 sh_166 rfl).trans ((w_iconst (v := 0) dMo_isPersonAt_7 rfl).trans ((w_iald dMo_isPersonAt_8 sh_171 (by decide)).trans (ite_c ((w_iconst (v := 1) dMo_isPersonAt_9 rfl).trans ((w_isub dMo_isPersonAt_10).trans ((w_i2l dMo_isPersonAt_11).trans (w_stat (vs := [.long (a1.toInt64), .long 0, .long (((σ.1 171 0) - 1).toInt64)]) (st' := []) (es := [.long (a1.toInt64), uu, .long 0, uu, .long (((σ.1 171 0) - 1).toInt64), uu]) dMo_isPersonAt_12 rz11_109 rfl rfl rfl (Nat.le_of_ble_eq_true rfl) (Nat.le_of_ble_eq_true rfl) rfl)))))))))))
theorem bMo_isPersonAt_15 {E : mEn} {d : Nat} {σ : mSt} {Q : mPost} {a1 : Int32} {s0 : Int32} (hz0 : s0 = 0 ∨ s0 = 1) : WP E d mMo_isPersonAt 15 [.ref 166, .int a1] [.int s0] σ Q = Q (some (.int s0)) σ := w_zret dMo_isPersonAt_15 rfl hz0
theorem dMo_loaf_0 : decode (mC mMo_loaf) 0 = .ok (.aload_n 0, 1) := by decide +kernel
theorem dMo_loaf_1 : decode (mC mMo_loaf) 1 = .ok (.iconst (0), 1) := by decide +kernel
theorem dMo_loaf_2 : decode (mC mMo_loaf) 2 = .ok (.putfield 74, 3) := by decide +kernel
theorem dMo_loaf_5 : decode (mC mMo_loaf) 5 = .ok (.aload_n 0, 1) := by decide +kernel
theorem dMo_loaf_6 : decode (mC mMo_loaf) 6 = .ok (.iconst (0), 1) := by decide +kernel
theorem dMo_loaf_7 : decode (mC mMo_loaf) 7 = .ok (.putfield 77, 3) := by decide +kernel
theorem dMo_loaf_10 : decode (mC mMo_loaf) 10 = .ok (.aload_n 0, 1) := by decide +kernel
theorem dMo_loaf_11 : decode (mC mMo_loaf) 11 = .ok (.iload_n 1, 1) := by decide +kernel
theorem dMo_loaf_12 : decode (mC mMo_loaf) 12 = .ok (.invokevirtual 335, 3) := by decide +kernel
theorem dMo_loaf_15 : decode (mC mMo_loaf) 15 = .ok (.ifCond .ne (9), 3) := by decide +kernel
theorem dMo_loaf_18 : decode (mC mMo_loaf) 18 = .ok (.aload_n 0, 1) := by decide +kernel
theorem dMo_loaf_19 : decode (mC mMo_loaf) 19 = .ok (.iconst (2), 1) := by decide +kernel
theorem dMo_loaf_20 : decode (mC mMo_loaf) 20 = .ok (.invokevirtual 329, 3) := by decide +kernel
theorem dMo_loaf_23 : decode (mC mMo_loaf) 23 = .ok (.ireturn, 1) := by decide +kernel
theorem dMo_loaf_24 : decode (mC mMo_loaf) 24 = .ok (.iload_n 2, 1) := by decide +kernel
theorem dMo_loaf_25 : decode (mC mMo_loaf) 25 = .ok (.tableswitch (133) 0 5 #[39, 49, 76, 86, 96, 106], 39) := by decide +kernel
theorem dMo_loaf_64 : decode (mC mMo_loaf) 64 = .ok (.aload_n 0, 1) := by decide +kernel
theorem dMo_loaf_65 : decode (mC mMo_loaf) 65 = .ok (.getfield 35, 3) := by decide +kernel
theorem dMo_loaf_68 : decode (mC mMo_loaf) 68 = .ok (.bipush (34), 2) := by decide +kernel
theorem dMo_loaf_70 : decode (mC mMo_loaf) 70 = .ok (.iload_n 1, 1) := by decide +kernel
theorem dMo_loaf_71 : decode (mC mMo_loaf) 71 = .ok (.iadd, 1) := by decide +kernel
theorem dMo_loaf_72 : decode (mC mMo_loaf) 72 = .ok (.iaload, 1) := by decide +kernel
theorem dMo_loaf_73 : decode (mC mMo_loaf) 73 = .ok (.ireturn, 1) := by decide +kernel
theorem dMo_loaf_74 : decode (mC mMo_loaf) 74 = .ok (.aload_n 0, 1) := by decide +kernel
theorem dMo_loaf_75 : decode (mC mMo_loaf) 75 = .ok (.iload_n 1, 1) := by decide +kernel
theorem dMo_loaf_76 : decode (mC mMo_loaf) 76 = .ok (.invokevirtual 338, 3) := by decide +kernel
theorem dMo_loaf_79 : decode (mC mMo_loaf) 79 = .ok (.ifCond .eq (12), 3) := by decide +kernel
theorem dMo_loaf_82 : decode (mC mMo_loaf) 82 = .ok (.aload_n 0, 1) := by decide +kernel
theorem dMo_loaf_83 : decode (mC mMo_loaf) 83 = .ok (.bipush (8), 2) := by decide +kernel
theorem dMo_loaf_85 : decode (mC mMo_loaf) 85 = .ok (.invokevirtual 329, 3) := by decide +kernel
theorem dMo_loaf_88 : decode (mC mMo_loaf) 88 = .ok (.goto (12), 3) := by decide +kernel
theorem dMo_loaf_91 : decode (mC mMo_loaf) 91 = .ok (.aload_n 0, 1) := by decide +kernel
theorem dMo_loaf_92 : decode (mC mMo_loaf) 92 = .ok (.getfield 35, 3) := by decide +kernel
theorem dMo_loaf_95 : decode (mC mMo_loaf) 95 = .ok (.bipush (42), 2) := by decide +kernel
theorem dMo_loaf_97 : decode (mC mMo_loaf) 97 = .ok (.iload_n 1, 1) := by decide +kernel
theorem dMo_loaf_98 : decode (mC mMo_loaf) 98 = .ok (.iadd, 1) := by decide +kernel
theorem dMo_loaf_99 : decode (mC mMo_loaf) 99 = .ok (.iaload, 1) := by decide +kernel
theorem dMo_loaf_100 : decode (mC mMo_loaf) 100 = .ok (.ireturn, 1) := by decide +kernel
theorem dMo_loaf_101 : decode (mC mMo_loaf) 101 = .ok (.aload_n 0, 1) := by decide +kernel
theorem dMo_loaf_102 : decode (mC mMo_loaf) 102 = .ok (.getfield 35, 3) := by decide +kernel
theorem dMo_loaf_105 : decode (mC mMo_loaf) 105 = .ok (.bipush (50), 2) := by decide +kernel
theorem dMo_loaf_107 : decode (mC mMo_loaf) 107 = .ok (.iload_n 1, 1) := by decide +kernel
theorem dMo_loaf_108 : decode (mC mMo_loaf) 108 = .ok (.iadd, 1) := by decide +kernel
theorem dMo_loaf_109 : decode (mC mMo_loaf) 109 = .ok (.iaload, 1) := by decide +kernel
theorem dMo_loaf_110 : decode (mC mMo_loaf) 110 = .ok (.ireturn, 1) := by decide +kernel
theorem dMo_loaf_111 : decode (mC mMo_loaf) 111 = .ok (.aload_n 0, 1) := by decide +kernel
theorem dMo_loaf_112 : decode (mC mMo_loaf) 112 = .ok (.getfield 35, 3) := by decide +kernel
theorem dMo_loaf_115 : decode (mC mMo_loaf) 115 = .ok (.bipush (58), 2) := by decide +kernel
theorem dMo_loaf_117 : decode (mC mMo_loaf) 117 = .ok (.iload_n 1, 1) := by decide +kernel
theorem dMo_loaf_118 : decode (mC mMo_loaf) 118 = .ok (.iadd, 1) := by decide +kernel
theorem dMo_loaf_119 : decode (mC mMo_loaf) 119 = .ok (.iaload, 1) := by decide +kernel
theorem dMo_loaf_120 : decode (mC mMo_loaf) 120 = .ok (.ireturn, 1) := by decide +kernel
theorem dMo_loaf_121 : decode (mC mMo_loaf) 121 = .ok (.aload_n 0, 1) := by decide +kernel
theorem dMo_loaf_122 : decode (mC mMo_loaf) 122 = .ok (.getfield 35, 3) := by decide +kernel
theorem dMo_loaf_125 : decode (mC mMo_loaf) 125 = .ok (.bipush (66), 2) := by decide +kernel
theorem dMo_loaf_127 : decode (mC mMo_loaf) 127 = .ok (.iload_n 1, 1) := by decide +kernel
theorem dMo_loaf_128 : decode (mC mMo_loaf) 128 = .ok (.iadd, 1) := by decide +kernel
theorem dMo_loaf_129 : decode (mC mMo_loaf) 129 = .ok (.iaload, 1) := by decide +kernel
theorem dMo_loaf_130 : decode (mC mMo_loaf) 130 = .ok (.ireturn, 1) := by decide +kernel
theorem dMo_loaf_131 : decode (mC mMo_loaf) 131 = .ok (.aload_n 0, 1) := by decide +kernel
theorem dMo_loaf_132 : decode (mC mMo_loaf) 132 = .ok (.iload_n 1, 1) := by decide +kernel
theorem dMo_loaf_133 : decode (mC mMo_loaf) 133 = .ok (.invokevirtual 323, 3) := by decide +kernel
theorem dMo_loaf_136 : decode (mC mMo_loaf) 136 = .ok (.ifCond .eq (15), 3) := by decide +kernel
theorem dMo_loaf_139 : decode (mC mMo_loaf) 139 = .ok (.aload_n 0, 1) := by decide +kernel
theorem dMo_loaf_140 : decode (mC mMo_loaf) 140 = .ok (.getfield 35, 3) := by decide +kernel
theorem dMo_loaf_143 : decode (mC mMo_loaf) 143 = .ok (.bipush (74), 2) := by decide +kernel
theorem dMo_loaf_145 : decode (mC mMo_loaf) 145 = .ok (.iload_n 1, 1) := by decide +kernel
theorem dMo_loaf_146 : decode (mC mMo_loaf) 146 = .ok (.iadd, 1) := by decide +kernel
theorem dMo_loaf_147 : decode (mC mMo_loaf) 147 = .ok (.iaload, 1) := by decide +kernel
theorem dMo_loaf_148 : decode (mC mMo_loaf) 148 = .ok (.goto (9), 3) := by decide +kernel
theorem dMo_loaf_151 : decode (mC mMo_loaf) 151 = .ok (.aload_n 0, 1) := by decide +kernel
theorem dMo_loaf_152 : decode (mC mMo_loaf) 152 = .ok (.bipush (8), 2) := by decide +kernel
theorem dMo_loaf_154 : decode (mC mMo_loaf) 154 = .ok (.invokevirtual 329, 3) := by decide +kernel
theorem dMo_loaf_157 : decode (mC mMo_loaf) 157 = .ok (.ireturn, 1) := by decide +kernel
theorem dMo_loaf_158 : decode (mC mMo_loaf) 158 = .ok (.aload_n 0, 1) := by decide +kernel
theorem dMo_loaf_159 : decode (mC mMo_loaf) 159 = .ok (.iconst (5), 1) := by decide +kernel
theorem dMo_loaf_160 : decode (mC mMo_loaf) 160 = .ok (.invokevirtual 329, 3) := by decide +kernel
theorem dMo_loaf_163 : decode (mC mMo_loaf) 163 = .ok (.ireturn, 1) := by decide +kernel
theorem bMo_loaf_0 {E : mEn} {d : Nat} {σ : mSt} {Q : mPost} {a1 : Int32} {a2 : Int32} : WP E (d + 1) mMo_loaf 0 [.ref 166, .int a1, .int a2] [] σ Q = WP E d mMo_isLoafAt 0 [.ref 166, .int a1] [] (sI (sI σ 166 1 0) 166 0 0) (fun r σ' => WP E (d + 1) mMo_loaf 15 [.ref 166, .int a1, .int a2] (r.toList ++ []) σ' Q) := (w_aload_n dMo_loaf_0 rfl).trans ((w_iconst (v := 0) dMo_loaf_1 rfl).trans ((w_puti dMo_loaf_2 rz11_74 sh_166 rfl rfl rfl).trans ((w_aload_n dMo_loaf_5 rfl).trans ((w_iconst (v := 0) dMo_loaf_6 rfl).trans ((w_puti dMo_loaf_7 rz11_77 sh_166 rfl rfl rfl).trans ((w_aload_n dMo_loaf_10 rfl).trans ((w_iload_n dMo_loaf_11 rfl).trans (w_virt (vs := [.int a1]) (st' := []) (es := [.ref 166, .int a1]) dMo_loaf_12 rz11_335 rfl sh_166 rfl rfl rfl (Nat.le_of_ble_eq_true rfl) (Nat.le_of_ble_eq_true rfl) rfl))))))))
theorem bMo_loaf_15 {E : mEn} {d : Nat} {σ : mSt} {Q : mPost} {a1 : Int32} {a2 : Int32} {s0 : Int32} : WP E d mMo_loaf 15 [.ref 166, .int a1, .int a2] [.int s0] σ Q = (if ¬ s0 = 0 then WP E d mMo_loaf 24 [.ref 166, .int a1, .int a2] [] σ Q else WP E d mMo_loaf 18 [.ref 166, .int a1, .int a2] [] σ Q) := w_ifne (t := 24) dMo_loaf_15 (by decide)
theorem bMo_loaf_18 {E : mEn} {d : Nat} {σ : mSt} {Q : mPost} {a1 : Int32} {a2 : Int32} : WP E (d + 1) mMo_loaf 18 [.ref 166, .int a1, .int a2] [] σ Q = WP E d mMo_refuse 0 [.ref 166, .int (nI 2)] [] σ (fun r σ' => WP E (d + 1) mMo_loaf 23 [.ref 166, .int a1, .int a2] (r.toList ++ []) σ' Q) := (w_aload_n dMo_loaf_18 rfl).trans ((w_iconst (v := (nI 2)) dMo_loaf_19 rfl).trans (w_virt (vs := [.int (nI 2)]) (st' := []) (es := [.ref 166, .int (nI 2)]) dMo_loaf_20 rz11_329 rfl sh_166 rfl rfl rfl (Nat.le_of_ble_eq_true rfl) (Nat.le_of_ble_eq_true rfl) rfl))
theorem bMo_loaf_23 {E : mEn} {d : Nat} {σ : mSt} {Q : mPost} {a1 : Int32} {a2 : Int32} {s0 : Int32} : WP E d mMo_loaf 23 [.ref 166, .int a1, .int a2] [.int s0] σ Q = Q (some (.int s0)) σ := w_iret dMo_loaf_23 rfl
theorem bMo_loaf_24 {E : mEn} {d : Nat} {σ : mSt} {Q : mPost} {a1 : Int32} {a2 : Int32} : WP E d mMo_loaf 24 [.ref 166, .int a1, .int a2] [] σ Q = WP E d mMo_loaf 25 [.ref 166, .int a1, .int a2] [.int a2] σ Q := w_iload_n dMo_loaf_24 rfl
theorem bMo_loaf_24_s0 {E : mEn} {d : Nat} {σ : mSt} {Q : mPost} {b1 : Int32} {b2 : Int32} : WP E d mMo_loaf 25 [.ref 166, .int b1, .int b2] [.int (nI 0)] σ Q = WP E d mMo_loaf 64 [.ref 166, .int b1, .int b2] [] σ Q := w_swK 0 dMo_loaf_25 (by decide) (by decide) (by decide) rfl (by decide)
theorem bMo_loaf_24_s1 {E : mEn} {d : Nat} {σ : mSt} {Q : mPost} {b1 : Int32} {b2 : Int32} : WP E d mMo_loaf 25 [.ref 166, .int b1, .int b2] [.int (nI 1)] σ Q = WP E d mMo_loaf 74 [.ref 166, .int b1, .int b2] [] σ Q := w_swK 1 dMo_loaf_25 (by decide) (by decide) (by decide) rfl (by decide)
theorem bMo_loaf_24_s2 {E : mEn} {d : Nat} {σ : mSt} {Q : mPost} {b1 : Int32} {b2 : Int32} : WP E d mMo_loaf 25 [.ref 166, .int b1, .int b2] [.int (nI 2)] σ Q = WP E d mMo_loaf 101 [.ref 166, .int b1, .int b2] [] σ Q := w_swK 2 dMo_loaf_25 (by decide) (by decide) (by decide) rfl (by decide)
theorem bMo_loaf_24_s3 {E : mEn} {d : Nat} {σ : mSt} {Q : mPost} {b1 : Int32} {b2 : Int32} : WP E d mMo_loaf 25 [.ref 166, .int b1, .int b2] [.int (nI 3)] σ Q = WP E d mMo_loaf 111 [.ref 166, .int b1, .int b2] [] σ Q := w_swK 3 dMo_loaf_25 (by decide) (by decide) (by decide) rfl (by decide)
theorem bMo_loaf_24_s4 {E : mEn} {d : Nat} {σ : mSt} {Q : mPost} {b1 : Int32} {b2 : Int32} : WP E d mMo_loaf 25 [.ref 166, .int b1, .int b2] [.int (nI 4)] σ Q = WP E d mMo_loaf 121 [.ref 166, .int b1, .int b2] [] σ Q := w_swK 4 dMo_loaf_25 (by decide) (by decide) (by decide) rfl (by decide)
theorem bMo_loaf_24_s5 {E : mEn} {d : Nat} {σ : mSt} {Q : mPost} {b1 : Int32} {b2 : Int32} : WP E d mMo_loaf 25 [.ref 166, .int b1, .int b2] [.int (nI 5)] σ Q = WP E d mMo_loaf 131 [.ref 166, .int b1, .int b2] [] σ Q := w_swK 5 dMo_loaf_25 (by decide) (by decide) (by decide) rfl (by decide)
theorem bMo_loaf_24_sD {E : mEn} {d : Nat} {σ : mSt} {Q : mPost} {b1 : Int32} {b2 : Int32} {x : Int32} (hne : ∀ k : Nat, 0 ≤ k → k ≤ 5 → x ≠ nI k) : WP E d mMo_loaf 25 [.ref 166, .int b1, .int b2] [.int x] σ Q = WP E d mMo_loaf 158 [.ref 166, .int b1, .int b2] [] σ Q := w_swD dMo_loaf_25 (by decide) hne (by decide)
theorem bMo_loaf_64 {E : mEn} {d : Nat} {σ : mSt} {Q : mPost} {a1 : Int32} {a2 : Int32} : WP E d mMo_loaf 64 [.ref 166, .int a1, .int a2] [] σ Q = (if mOut ((nI 34) + a1) 3000 = true then False else Q (some (.int (σ.1 171 ((nI 34) + a1).toNatClampNeg))) σ) := (w_aload_n dMo_loaf_64 rfl).trans ((w_getr (r := 171) dMo_loaf_65 rz11_35 sh_166 rfl).trans ((w_bipush (v := (nI 34)) dMo_loaf_68 rfl).trans ((w_iload_n dMo_loaf_70 rfl).trans ((w_iadd dMo_loaf_71).trans ((w_iald dMo_loaf_72 sh_171 (by decide)).trans (ite_c (w_iret dMo_loaf_73 rfl)))))))
theorem bMo_loaf_74 {E : mEn} {d : Nat} {σ : mSt} {Q : mPost} {a1 : Int32} {a2 : Int32} : WP E (d + 1) mMo_loaf 74 [.ref 166, .int a1, .int a2] [] σ Q = WP E d mMo_isPaper 0 [.ref 166, .int a1] [] σ (fun r σ' => WP E (d + 1) mMo_loaf 79 [.ref 166, .int a1, .int a2] (r.toList ++ []) σ' Q) := (w_aload_n dMo_loaf_74 rfl).trans ((w_iload_n dMo_loaf_75 rfl).trans (w_virt (vs := [.int a1]) (st' := []) (es := [.ref 166, .int a1]) dMo_loaf_76 rz11_338 rfl sh_166 rfl rfl rfl (Nat.le_of_ble_eq_true rfl) (Nat.le_of_ble_eq_true rfl) rfl))
theorem bMo_loaf_79 {E : mEn} {d : Nat} {σ : mSt} {Q : mPost} {a1 : Int32} {a2 : Int32} {s0 : Int32} : WP E d mMo_loaf 79 [.ref 166, .int a1, .int a2] [.int s0] σ Q = (if s0 = 0 then WP E d mMo_loaf 91 [.ref 166, .int a1, .int a2] [] σ Q else WP E d mMo_loaf 82 [.ref 166, .int a1, .int a2] [] σ Q) := w_ifeq (t := 91) dMo_loaf_79 (by decide)
theorem bMo_loaf_82 {E : mEn} {d : Nat} {σ : mSt} {Q : mPost} {a1 : Int32} {a2 : Int32} : WP E (d + 1) mMo_loaf 82 [.ref 166, .int a1, .int a2] [] σ Q = WP E d mMo_refuse 0 [.ref 166, .int (nI 8)] [] σ (fun r σ' => WP E (d + 1) mMo_loaf 88 [.ref 166, .int a1, .int a2] (r.toList ++ []) σ' Q) := (w_aload_n dMo_loaf_82 rfl).trans ((w_bipush (v := (nI 8)) dMo_loaf_83 rfl).trans (w_virt (vs := [.int (nI 8)]) (st' := []) (es := [.ref 166, .int (nI 8)]) dMo_loaf_85 rz11_329 rfl sh_166 rfl rfl rfl (Nat.le_of_ble_eq_true rfl) (Nat.le_of_ble_eq_true rfl) rfl))
theorem bMo_loaf_88 {E : mEn} {d : Nat} {σ : mSt} {Q : mPost} {a1 : Int32} {a2 : Int32} {s0 : Int32} : WP E d mMo_loaf 88 [.ref 166, .int a1, .int a2] [.int s0] σ Q = WP E d mMo_loaf 100 [.ref 166, .int a1, .int a2] [.int s0] σ Q := w_goto (t := 100) dMo_loaf_88 (by decide)
theorem bMo_loaf_91 {E : mEn} {d : Nat} {σ : mSt} {Q : mPost} {a1 : Int32} {a2 : Int32} : WP E d mMo_loaf 91 [.ref 166, .int a1, .int a2] [] σ Q = (if mOut ((nI 42) + a1) 3000 = true then False else WP E d mMo_loaf 100 [.ref 166, .int a1, .int a2] [.int (σ.1 171 ((nI 42) + a1).toNatClampNeg)] σ Q) := (w_aload_n dMo_loaf_91 rfl).trans ((w_getr (r := 171) dMo_loaf_92 rz11_35 sh_166 rfl).trans ((w_bipush (v := (nI 42)) dMo_loaf_95 rfl).trans ((w_iload_n dMo_loaf_97 rfl).trans ((w_iadd dMo_loaf_98).trans ((w_iald dMo_loaf_99 sh_171 (by decide)).trans (ite_c (rfl)))))))
theorem bMo_loaf_100 {E : mEn} {d : Nat} {σ : mSt} {Q : mPost} {a1 : Int32} {a2 : Int32} {s0 : Int32} : WP E d mMo_loaf 100 [.ref 166, .int a1, .int a2] [.int s0] σ Q = Q (some (.int s0)) σ := w_iret dMo_loaf_100 rfl
theorem bMo_loaf_101 {E : mEn} {d : Nat} {σ : mSt} {Q : mPost} {a1 : Int32} {a2 : Int32} : WP E d mMo_loaf 101 [.ref 166, .int a1, .int a2] [] σ Q = (if mOut ((nI 50) + a1) 3000 = true then False else Q (some (.int (σ.1 171 ((nI 50) + a1).toNatClampNeg))) σ) := (w_aload_n dMo_loaf_101 rfl).trans ((w_getr (r := 171) dMo_loaf_102 rz11_35 sh_166 rfl).trans ((w_bipush (v := (nI 50)) dMo_loaf_105 rfl).trans ((w_iload_n dMo_loaf_107 rfl).trans ((w_iadd dMo_loaf_108).trans ((w_iald dMo_loaf_109 sh_171 (by decide)).trans (ite_c (w_iret dMo_loaf_110 rfl)))))))
theorem bMo_loaf_111 {E : mEn} {d : Nat} {σ : mSt} {Q : mPost} {a1 : Int32} {a2 : Int32} : WP E d mMo_loaf 111 [.ref 166, .int a1, .int a2] [] σ Q = (if mOut ((nI 58) + a1) 3000 = true then False else Q (some (.int (σ.1 171 ((nI 58) + a1).toNatClampNeg))) σ) := (w_aload_n dMo_loaf_111 rfl).trans ((w_getr (r := 171) dMo_loaf_112 rz11_35 sh_166 rfl).trans ((w_bipush (v := (nI 58)) dMo_loaf_115 rfl).trans ((w_iload_n dMo_loaf_117 rfl).trans ((w_iadd dMo_loaf_118).trans ((w_iald dMo_loaf_119 sh_171 (by decide)).trans (ite_c (w_iret dMo_loaf_120 rfl)))))))
theorem bMo_loaf_121 {E : mEn} {d : Nat} {σ : mSt} {Q : mPost} {a1 : Int32} {a2 : Int32} : WP E d mMo_loaf 121 [.ref 166, .int a1, .int a2] [] σ Q = (if mOut ((nI 66) + a1) 3000 = true then False else Q (some (.int (σ.1 171 ((nI 66) + a1).toNatClampNeg))) σ) := (w_aload_n dMo_loaf_121 rfl).trans ((w_getr (r := 171) dMo_loaf_122 rz11_35 sh_166 rfl).trans ((w_bipush (v := (nI 66)) dMo_loaf_125 rfl).trans ((w_iload_n dMo_loaf_127 rfl).trans ((w_iadd dMo_loaf_128).trans ((w_iald dMo_loaf_129 sh_171 (by decide)).trans (ite_c (w_iret dMo_loaf_130 rfl)))))))
theorem bMo_loaf_131 {E : mEn} {d : Nat} {σ : mSt} {Q : mPost} {a1 : Int32} {a2 : Int32} : WP E (d + 1) mMo_loaf 131 [.ref 166, .int a1, .int a2] [] σ Q = WP E d mMo_isBaked 0 [.ref 166, .int a1] [] σ (fun r σ' => WP E (d + 1) mMo_loaf 136 [.ref 166, .int a1, .int a2] (r.toList ++ []) σ' Q) := (w_aload_n dMo_loaf_131 rfl).trans ((w_iload_n dMo_loaf_132 rfl).trans (w_virt (vs := [.int a1]) (st' := []) (es := [.ref 166, .int a1]) dMo_loaf_133 rz11_323 rfl sh_166 rfl rfl rfl (Nat.le_of_ble_eq_true rfl) (Nat.le_of_ble_eq_true rfl) rfl))
theorem bMo_loaf_136 {E : mEn} {d : Nat} {σ : mSt} {Q : mPost} {a1 : Int32} {a2 : Int32} {s0 : Int32} : WP E d mMo_loaf 136 [.ref 166, .int a1, .int a2] [.int s0] σ Q = (if s0 = 0 then WP E d mMo_loaf 151 [.ref 166, .int a1, .int a2] [] σ Q else WP E d mMo_loaf 139 [.ref 166, .int a1, .int a2] [] σ Q) := w_ifeq (t := 151) dMo_loaf_136 (by decide)
theorem bMo_loaf_139 {E : mEn} {d : Nat} {σ : mSt} {Q : mPost} {a1 : Int32} {a2 : Int32} : WP E d mMo_loaf 139 [.ref 166, .int a1, .int a2] [] σ Q = (if mOut ((nI 74) + a1) 3000 = true then False else WP E d mMo_loaf 157 [.ref 166, .int a1, .int a2] [.int (σ.1 171 ((nI 74) + a1).toNatClampNeg)] σ Q) := (w_aload_n dMo_loaf_139 rfl).trans ((w_getr (r := 171) dMo_loaf_140 rz11_35 sh_166 rfl).trans ((w_bipush (v := (nI 74)) dMo_loaf_143 rfl).trans ((w_iload_n dMo_loaf_145 rfl).trans ((w_iadd dMo_loaf_146).trans ((w_iald dMo_loaf_147 sh_171 (by decide)).trans (ite_c (w_goto (t := 157) dMo_loaf_148 (by decide))))))))
theorem bMo_loaf_151 {E : mEn} {d : Nat} {σ : mSt} {Q : mPost} {a1 : Int32} {a2 : Int32} : WP E (d + 1) mMo_loaf 151 [.ref 166, .int a1, .int a2] [] σ Q = WP E d mMo_refuse 0 [.ref 166, .int (nI 8)] [] σ (fun r σ' => WP E (d + 1) mMo_loaf 157 [.ref 166, .int a1, .int a2] (r.toList ++ []) σ' Q) := (w_aload_n dMo_loaf_151 rfl).trans ((w_bipush (v := (nI 8)) dMo_loaf_152 rfl).trans (w_virt (vs := [.int (nI 8)]) (st' := []) (es := [.ref 166, .int (nI 8)]) dMo_loaf_154 rz11_329 rfl sh_166 rfl rfl rfl (Nat.le_of_ble_eq_true rfl) (Nat.le_of_ble_eq_true rfl) rfl))
theorem bMo_loaf_157 {E : mEn} {d : Nat} {σ : mSt} {Q : mPost} {a1 : Int32} {a2 : Int32} {s0 : Int32} : WP E d mMo_loaf 157 [.ref 166, .int a1, .int a2] [.int s0] σ Q = Q (some (.int s0)) σ := w_iret dMo_loaf_157 rfl
theorem bMo_loaf_158 {E : mEn} {d : Nat} {σ : mSt} {Q : mPost} {a1 : Int32} {a2 : Int32} : WP E (d + 1) mMo_loaf 158 [.ref 166, .int a1, .int a2] [] σ Q = WP E d mMo_refuse 0 [.ref 166, .int (nI 5)] [] σ (fun r σ' => WP E (d + 1) mMo_loaf 163 [.ref 166, .int a1, .int a2] (r.toList ++ []) σ' Q) := (w_aload_n dMo_loaf_158 rfl).trans ((w_iconst (v := (nI 5)) dMo_loaf_159 rfl).trans (w_virt (vs := [.int (nI 5)]) (st' := []) (es := [.ref 166, .int (nI 5)]) dMo_loaf_160 rz11_329 rfl sh_166 rfl rfl rfl (Nat.le_of_ble_eq_true rfl) (Nat.le_of_ble_eq_true rfl) rfl))
theorem bMo_loaf_163 {E : mEn} {d : Nat} {σ : mSt} {Q : mPost} {a1 : Int32} {a2 : Int32} {s0 : Int32} : WP E d mMo_loaf 163 [.ref 166, .int a1, .int a2] [.int s0] σ Q = Q (some (.int s0)) σ := w_iret dMo_loaf_163 rfl
theorem dMo_isLoafAt_0 : decode (mC mMo_isLoafAt) 0 = .ok (.iload_n 1, 1) := by decide +kernel
theorem dMo_isLoafAt_1 : decode (mC mMo_isLoafAt) 1 = .ok (.i2l, 1) := by decide +kernel
theorem dMo_isLoafAt_2 : decode (mC mMo_isLoafAt) 2 = .ok (.lconst 0, 1) := by decide +kernel
theorem dMo_isLoafAt_3 : decode (mC mMo_isLoafAt) 3 = .ok (.aload_n 0, 1) := by decide +kernel
theorem dMo_isLoafAt_4 : decode (mC mMo_isLoafAt) 4 = .ok (.getfield 35, 3) := by decide +kernel
theorem dMo_isLoafAt_7 : decode (mC mMo_isLoafAt) 7 = .ok (.iconst (2), 1) := by decide +kernel
theorem dMo_isLoafAt_8 : decode (mC mMo_isLoafAt) 8 = .ok (.iaload, 1) := by decide +kernel
theorem dMo_isLoafAt_9 : decode (mC mMo_isLoafAt) 9 = .ok (.iconst (1), 1) := by decide +kernel
theorem dMo_isLoafAt_10 : decode (mC mMo_isLoafAt) 10 = .ok (.isub, 1) := by decide +kernel
theorem dMo_isLoafAt_11 : decode (mC mMo_isLoafAt) 11 = .ok (.i2l, 1) := by decide +kernel
theorem dMo_isLoafAt_12 : decode (mC mMo_isLoafAt) 12 = .ok (.invokestatic 109, 3) := by decide +kernel
theorem dMo_isLoafAt_15 : decode (mC mMo_isLoafAt) 15 = .ok (.ireturn, 1) := by decide +kernel
theorem bMo_isLoafAt_0 {E : mEn} {d : Nat} {σ : mSt} {Q : mPost} {a1 : Int32} : WP E (d + 1) mMo_isLoafAt 0 [.ref 166, .int a1] [] σ Q = (if mOut (nI 2) 3000 = true then False else WP E d mMo_isIn 0 [.long (a1.toInt64), uu, .long 0, uu, .long (((σ.1 171 2) - 1).toInt64), uu] [] σ (fun r σ' => WP E (d + 1) mMo_isLoafAt 15 [.ref 166, .int a1] (r.toList ++ []) σ' Q)) := (w_iload_n dMo_isLoafAt_0 rfl).trans ((w_i2l dMo_isLoafAt_1).trans ((w_lconst (v := 0) dMo_isLoafAt_2 rfl).trans ((w_aload_n dMo_isLoafAt_3 rfl).trans ((w_getr (r := 171) dMo_isLoafAt_4 rz11_35 sh_166 rfl).trans ((w_iconst (v := (nI 2)) dMo_isLoafAt_7 rfl).trans ((w_iald dMo_isLoafAt_8 sh_171 (by decide)).trans (ite_c ((w_iconst (v := 1) dMo_isLoafAt_9 rfl).trans ((w_isub dMo_isLoafAt_10).trans ((w_i2l dMo_isLoafAt_11).trans (w_stat (vs := [.long (a1.toInt64), .long 0, .long (((σ.1 171 2) - 1).toInt64)]) (st' := []) (es := [.long (a1.toInt64), uu, .long 0, uu, .long (((σ.1 171 2) - 1).toInt64), uu]) dMo_isLoafAt_12 rz11_109 rfl rfl rfl (Nat.le_of_ble_eq_true rfl) (Nat.le_of_ble_eq_true rfl) rfl)))))))))))
theorem bMo_isLoafAt_15 {E : mEn} {d : Nat} {σ : mSt} {Q : mPost} {a1 : Int32} {s0 : Int32} (hz0 : s0 = 0 ∨ s0 = 1) : WP E d mMo_isLoafAt 15 [.ref 166, .int a1] [.int s0] σ Q = Q (some (.int s0)) σ := w_zret dMo_isLoafAt_15 rfl hz0
theorem dMo_isPaper_0 : decode (mC mMo_isPaper) 0 = .ok (.aload_n 0, 1) := by decide +kernel
theorem dMo_isPaper_1 : decode (mC mMo_isPaper) 1 = .ok (.getfield 35, 3) := by decide +kernel
theorem dMo_isPaper_4 : decode (mC mMo_isPaper) 4 = .ok (.bipush (42), 2) := by decide +kernel
theorem dMo_isPaper_6 : decode (mC mMo_isPaper) 6 = .ok (.iload_n 1, 1) := by decide +kernel
theorem dMo_isPaper_7 : decode (mC mMo_isPaper) 7 = .ok (.iadd, 1) := by decide +kernel
theorem dMo_isPaper_8 : decode (mC mMo_isPaper) 8 = .ok (.iaload, 1) := by decide +kernel
theorem dMo_isPaper_9 : decode (mC mMo_isPaper) 9 = .ok (.ifCond .ge (7), 3) := by decide +kernel
theorem dMo_isPaper_12 : decode (mC mMo_isPaper) 12 = .ok (.iconst (1), 1) := by decide +kernel
theorem dMo_isPaper_13 : decode (mC mMo_isPaper) 13 = .ok (.goto (4), 3) := by decide +kernel
theorem dMo_isPaper_16 : decode (mC mMo_isPaper) 16 = .ok (.iconst (0), 1) := by decide +kernel
theorem dMo_isPaper_17 : decode (mC mMo_isPaper) 17 = .ok (.ireturn, 1) := by decide +kernel
theorem bMo_isPaper_0 {E : mEn} {d : Nat} {σ : mSt} {Q : mPost} {a1 : Int32} : WP E d mMo_isPaper 0 [.ref 166, .int a1] [] σ Q = (if mOut ((nI 42) + a1) 3000 = true then False else (if 0 ≤ (σ.1 171 ((nI 42) + a1).toNatClampNeg) then WP E d mMo_isPaper 16 [.ref 166, .int a1] [] σ Q else WP E d mMo_isPaper 12 [.ref 166, .int a1] [] σ Q)) := (w_aload_n dMo_isPaper_0 rfl).trans ((w_getr (r := 171) dMo_isPaper_1 rz11_35 sh_166 rfl).trans ((w_bipush (v := (nI 42)) dMo_isPaper_4 rfl).trans ((w_iload_n dMo_isPaper_6 rfl).trans ((w_iadd dMo_isPaper_7).trans ((w_iald dMo_isPaper_8 sh_171 (by decide)).trans (ite_c (w_ifge (t := 16) dMo_isPaper_9 (by decide))))))))
theorem bMo_isPaper_12 {E : mEn} {d : Nat} {σ : mSt} {Q : mPost} {a1 : Int32} : WP E d mMo_isPaper 12 [.ref 166, .int a1] [] σ Q = WP E d mMo_isPaper 17 [.ref 166, .int a1] [.int 1] σ Q := (w_iconst (v := 1) dMo_isPaper_12 rfl).trans (w_goto (t := 17) dMo_isPaper_13 (by decide))
theorem bMo_isPaper_16 {E : mEn} {d : Nat} {σ : mSt} {Q : mPost} {a1 : Int32} : WP E d mMo_isPaper 16 [.ref 166, .int a1] [] σ Q = WP E d mMo_isPaper 17 [.ref 166, .int a1] [.int 0] σ Q := w_iconst (v := 0) dMo_isPaper_16 rfl
theorem bMo_isPaper_17 {E : mEn} {d : Nat} {σ : mSt} {Q : mPost} {a1 : Int32} {s0 : Int32} (hz0 : s0 = 0 ∨ s0 = 1) : WP E d mMo_isPaper 17 [.ref 166, .int a1] [.int s0] σ Q = Q (some (.int s0)) σ := w_zret dMo_isPaper_17 rfl hz0
theorem dMo_promise_0 : decode (mC mMo_promise) 0 = .ok (.aload_n 0, 1) := by decide +kernel
theorem dMo_promise_1 : decode (mC mMo_promise) 1 = .ok (.iconst (0), 1) := by decide +kernel
theorem dMo_promise_2 : decode (mC mMo_promise) 2 = .ok (.putfield 74, 3) := by decide +kernel
theorem dMo_promise_5 : decode (mC mMo_promise) 5 = .ok (.aload_n 0, 1) := by decide +kernel
theorem dMo_promise_6 : decode (mC mMo_promise) 6 = .ok (.iconst (0), 1) := by decide +kernel
theorem dMo_promise_7 : decode (mC mMo_promise) 7 = .ok (.putfield 77, 3) := by decide +kernel
theorem dMo_promise_10 : decode (mC mMo_promise) 10 = .ok (.aload_n 0, 1) := by decide +kernel
theorem dMo_promise_11 : decode (mC mMo_promise) 11 = .ok (.iload_n 1, 1) := by decide +kernel
theorem dMo_promise_12 : decode (mC mMo_promise) 12 = .ok (.invokevirtual 341, 3) := by decide +kernel
theorem dMo_promise_15 : decode (mC mMo_promise) 15 = .ok (.ifCond .ne (9), 3) := by decide +kernel
theorem dMo_promise_18 : decode (mC mMo_promise) 18 = .ok (.aload_n 0, 1) := by decide +kernel
theorem dMo_promise_19 : decode (mC mMo_promise) 19 = .ok (.iconst (2), 1) := by decide +kernel
theorem dMo_promise_20 : decode (mC mMo_promise) 20 = .ok (.invokevirtual 329, 3) := by decide +kernel
theorem dMo_promise_23 : decode (mC mMo_promise) 23 = .ok (.ireturn, 1) := by decide +kernel
theorem dMo_promise_24 : decode (mC mMo_promise) 24 = .ok (.iload_n 2, 1) := by decide +kernel
theorem dMo_promise_25 : decode (mC mMo_promise) 25 = .ok (.i2l, 1) := by decide +kernel
theorem dMo_promise_26 : decode (mC mMo_promise) 26 = .ok (.lconst 0, 1) := by decide +kernel
theorem dMo_promise_27 : decode (mC mMo_promise) 27 = .ok (.ldc2_w 158, 3) := by decide +kernel
theorem dMo_promise_30 : decode (mC mMo_promise) 30 = .ok (.invokestatic 109, 3) := by decide +kernel
theorem dMo_promise_33 : decode (mC mMo_promise) 33 = .ok (.ifCond .eq (17), 3) := by decide +kernel
theorem dMo_promise_36 : decode (mC mMo_promise) 36 = .ok (.aload_n 0, 1) := by decide +kernel
theorem dMo_promise_37 : decode (mC mMo_promise) 37 = .ok (.getfield 35, 3) := by decide +kernel
theorem dMo_promise_40 : decode (mC mMo_promise) 40 = .ok (.iload_n 1, 1) := by decide +kernel
theorem dMo_promise_41 : decode (mC mMo_promise) 41 = .ok (.invokestatic 317, 3) := by decide +kernel
theorem dMo_promise_44 : decode (mC mMo_promise) 44 = .ok (.iload_n 2, 1) := by decide +kernel
theorem dMo_promise_45 : decode (mC mMo_promise) 45 = .ok (.iadd, 1) := by decide +kernel
theorem dMo_promise_46 : decode (mC mMo_promise) 46 = .ok (.iaload, 1) := by decide +kernel
theorem dMo_promise_47 : decode (mC mMo_promise) 47 = .ok (.goto (8), 3) := by decide +kernel
theorem dMo_promise_50 : decode (mC mMo_promise) 50 = .ok (.aload_n 0, 1) := by decide +kernel
theorem dMo_promise_51 : decode (mC mMo_promise) 51 = .ok (.iconst (5), 1) := by decide +kernel
theorem dMo_promise_52 : decode (mC mMo_promise) 52 = .ok (.invokevirtual 329, 3) := by decide +kernel
theorem dMo_promise_55 : decode (mC mMo_promise) 55 = .ok (.ireturn, 1) := by decide +kernel
theorem bMo_promise_0 {E : mEn} {d : Nat} {σ : mSt} {Q : mPost} {a1 : Int32} {a2 : Int32} : WP E (d + 1) mMo_promise 0 [.ref 166, .int a1, .int a2] [] σ Q = WP E d mMo_isPromiseAt 0 [.ref 166, .int a1] [] (sI (sI σ 166 1 0) 166 0 0) (fun r σ' => WP E (d + 1) mMo_promise 15 [.ref 166, .int a1, .int a2] (r.toList ++ []) σ' Q) := (w_aload_n dMo_promise_0 rfl).trans ((w_iconst (v := 0) dMo_promise_1 rfl).trans ((w_puti dMo_promise_2 rz11_74 sh_166 rfl rfl rfl).trans ((w_aload_n dMo_promise_5 rfl).trans ((w_iconst (v := 0) dMo_promise_6 rfl).trans ((w_puti dMo_promise_7 rz11_77 sh_166 rfl rfl rfl).trans ((w_aload_n dMo_promise_10 rfl).trans ((w_iload_n dMo_promise_11 rfl).trans (w_virt (vs := [.int a1]) (st' := []) (es := [.ref 166, .int a1]) dMo_promise_12 rz11_341 rfl sh_166 rfl rfl rfl (Nat.le_of_ble_eq_true rfl) (Nat.le_of_ble_eq_true rfl) rfl))))))))
theorem bMo_promise_15 {E : mEn} {d : Nat} {σ : mSt} {Q : mPost} {a1 : Int32} {a2 : Int32} {s0 : Int32} : WP E d mMo_promise 15 [.ref 166, .int a1, .int a2] [.int s0] σ Q = (if ¬ s0 = 0 then WP E d mMo_promise 24 [.ref 166, .int a1, .int a2] [] σ Q else WP E d mMo_promise 18 [.ref 166, .int a1, .int a2] [] σ Q) := w_ifne (t := 24) dMo_promise_15 (by decide)
theorem bMo_promise_18 {E : mEn} {d : Nat} {σ : mSt} {Q : mPost} {a1 : Int32} {a2 : Int32} : WP E (d + 1) mMo_promise 18 [.ref 166, .int a1, .int a2] [] σ Q = WP E d mMo_refuse 0 [.ref 166, .int (nI 2)] [] σ (fun r σ' => WP E (d + 1) mMo_promise 23 [.ref 166, .int a1, .int a2] (r.toList ++ []) σ' Q) := (w_aload_n dMo_promise_18 rfl).trans ((w_iconst (v := (nI 2)) dMo_promise_19 rfl).trans (w_virt (vs := [.int (nI 2)]) (st' := []) (es := [.ref 166, .int (nI 2)]) dMo_promise_20 rz11_329 rfl sh_166 rfl rfl rfl (Nat.le_of_ble_eq_true rfl) (Nat.le_of_ble_eq_true rfl) rfl))
theorem bMo_promise_23 {E : mEn} {d : Nat} {σ : mSt} {Q : mPost} {a1 : Int32} {a2 : Int32} {s0 : Int32} : WP E d mMo_promise 23 [.ref 166, .int a1, .int a2] [.int s0] σ Q = Q (some (.int s0)) σ := w_iret dMo_promise_23 rfl
theorem bMo_promise_24 {E : mEn} {d : Nat} {σ : mSt} {Q : mPost} {a1 : Int32} {a2 : Int32} : WP E (d + 1) mMo_promise 24 [.ref 166, .int a1, .int a2] [] σ Q = WP E d mMo_isIn 0 [.long (a2.toInt64), uu, .long 0, uu, .long (5), uu] [] σ (fun r σ' => WP E (d + 1) mMo_promise 33 [.ref 166, .int a1, .int a2] (r.toList ++ []) σ' Q) := (w_iload_n dMo_promise_24 rfl).trans ((w_i2l dMo_promise_25).trans ((w_lconst (v := 0) dMo_promise_26 rfl).trans ((w_ldc2_w dMo_promise_27 rz11_158).trans (w_stat (vs := [.long (a2.toInt64), .long 0, .long (5)]) (st' := []) (es := [.long (a2.toInt64), uu, .long 0, uu, .long (5), uu]) dMo_promise_30 rz11_109 rfl rfl rfl (Nat.le_of_ble_eq_true rfl) (Nat.le_of_ble_eq_true rfl) rfl))))
theorem bMo_promise_33 {E : mEn} {d : Nat} {σ : mSt} {Q : mPost} {a1 : Int32} {a2 : Int32} {s0 : Int32} : WP E d mMo_promise 33 [.ref 166, .int a1, .int a2] [.int s0] σ Q = (if s0 = 0 then WP E d mMo_promise 50 [.ref 166, .int a1, .int a2] [] σ Q else WP E d mMo_promise 36 [.ref 166, .int a1, .int a2] [] σ Q) := w_ifeq (t := 50) dMo_promise_33 (by decide)
theorem bMo_promise_36 {E : mEn} {d : Nat} {σ : mSt} {Q : mPost} {a1 : Int32} {a2 : Int32} : WP E (d + 1) mMo_promise 36 [.ref 166, .int a1, .int a2] [] σ Q = WP E d mMo_part 0 [.int a1] [] σ (fun r σ' => WP E (d + 1) mMo_promise 44 [.ref 166, .int a1, .int a2] (r.toList ++ [.ref 171]) σ' Q) := (w_aload_n dMo_promise_36 rfl).trans ((w_getr (r := 171) dMo_promise_37 rz11_35 sh_166 rfl).trans ((w_iload_n dMo_promise_40 rfl).trans (w_stat (vs := [.int a1]) (st' := [.ref 171]) (es := [.int a1]) dMo_promise_41 rz11_317 rfl rfl rfl (Nat.le_of_ble_eq_true rfl) (Nat.le_of_ble_eq_true rfl) rfl)))
theorem bMo_promise_44 {E : mEn} {d : Nat} {σ : mSt} {Q : mPost} {a1 : Int32} {a2 : Int32} {s0 : Int32} : WP E d mMo_promise 44 [.ref 166, .int a1, .int a2] [.int s0, .ref 171] σ Q = (if mOut (s0 + a2) 3000 = true then False else WP E d mMo_promise 55 [.ref 166, .int a1, .int a2] [.int (σ.1 171 (s0 + a2).toNatClampNeg)] σ Q) := (w_iload_n dMo_promise_44 rfl).trans ((w_iadd dMo_promise_45).trans ((w_iald dMo_promise_46 sh_171 (by decide)).trans (ite_c (w_goto (t := 55) dMo_promise_47 (by decide)))))
theorem bMo_promise_50 {E : mEn} {d : Nat} {σ : mSt} {Q : mPost} {a1 : Int32} {a2 : Int32} : WP E (d + 1) mMo_promise 50 [.ref 166, .int a1, .int a2] [] σ Q = WP E d mMo_refuse 0 [.ref 166, .int (nI 5)] [] σ (fun r σ' => WP E (d + 1) mMo_promise 55 [.ref 166, .int a1, .int a2] (r.toList ++ []) σ' Q) := (w_aload_n dMo_promise_50 rfl).trans ((w_iconst (v := (nI 5)) dMo_promise_51 rfl).trans (w_virt (vs := [.int (nI 5)]) (st' := []) (es := [.ref 166, .int (nI 5)]) dMo_promise_52 rz11_329 rfl sh_166 rfl rfl rfl (Nat.le_of_ble_eq_true rfl) (Nat.le_of_ble_eq_true rfl) rfl))
theorem bMo_promise_55 {E : mEn} {d : Nat} {σ : mSt} {Q : mPost} {a1 : Int32} {a2 : Int32} {s0 : Int32} : WP E d mMo_promise 55 [.ref 166, .int a1, .int a2] [.int s0] σ Q = Q (some (.int s0)) σ := w_iret dMo_promise_55 rfl
theorem dMo_isPromiseAt_0 : decode (mC mMo_isPromiseAt) 0 = .ok (.iload_n 1, 1) := by decide +kernel
theorem dMo_isPromiseAt_1 : decode (mC mMo_isPromiseAt) 1 = .ok (.i2l, 1) := by decide +kernel
theorem dMo_isPromiseAt_2 : decode (mC mMo_isPromiseAt) 2 = .ok (.lconst 0, 1) := by decide +kernel
theorem dMo_isPromiseAt_3 : decode (mC mMo_isPromiseAt) 3 = .ok (.aload_n 0, 1) := by decide +kernel
theorem dMo_isPromiseAt_4 : decode (mC mMo_isPromiseAt) 4 = .ok (.getfield 35, 3) := by decide +kernel
theorem dMo_isPromiseAt_7 : decode (mC mMo_isPromiseAt) 7 = .ok (.iconst (3), 1) := by decide +kernel
theorem dMo_isPromiseAt_8 : decode (mC mMo_isPromiseAt) 8 = .ok (.iaload, 1) := by decide +kernel
theorem dMo_isPromiseAt_9 : decode (mC mMo_isPromiseAt) 9 = .ok (.iconst (1), 1) := by decide +kernel
theorem dMo_isPromiseAt_10 : decode (mC mMo_isPromiseAt) 10 = .ok (.isub, 1) := by decide +kernel
theorem dMo_isPromiseAt_11 : decode (mC mMo_isPromiseAt) 11 = .ok (.i2l, 1) := by decide +kernel
theorem dMo_isPromiseAt_12 : decode (mC mMo_isPromiseAt) 12 = .ok (.invokestatic 109, 3) := by decide +kernel
theorem dMo_isPromiseAt_15 : decode (mC mMo_isPromiseAt) 15 = .ok (.ireturn, 1) := by decide +kernel
theorem bMo_isPromiseAt_0 {E : mEn} {d : Nat} {σ : mSt} {Q : mPost} {a1 : Int32} : WP E (d + 1) mMo_isPromiseAt 0 [.ref 166, .int a1] [] σ Q = (if mOut (nI 3) 3000 = true then False else WP E d mMo_isIn 0 [.long (a1.toInt64), uu, .long 0, uu, .long (((σ.1 171 3) - 1).toInt64), uu] [] σ (fun r σ' => WP E (d + 1) mMo_isPromiseAt 15 [.ref 166, .int a1] (r.toList ++ []) σ' Q)) := (w_iload_n dMo_isPromiseAt_0 rfl).trans ((w_i2l dMo_isPromiseAt_1).trans ((w_lconst (v := 0) dMo_isPromiseAt_2 rfl).trans ((w_aload_n dMo_isPromiseAt_3 rfl).trans ((w_getr (r := 171) dMo_isPromiseAt_4 rz11_35 sh_166 rfl).trans ((w_iconst (v := (nI 3)) dMo_isPromiseAt_7 rfl).trans ((w_iald dMo_isPromiseAt_8 sh_171 (by decide)).trans (ite_c ((w_iconst (v := 1) dMo_isPromiseAt_9 rfl).trans ((w_isub dMo_isPromiseAt_10).trans ((w_i2l dMo_isPromiseAt_11).trans (w_stat (vs := [.long (a1.toInt64), .long 0, .long (((σ.1 171 3) - 1).toInt64)]) (st' := []) (es := [.long (a1.toInt64), uu, .long 0, uu, .long (((σ.1 171 3) - 1).toInt64), uu]) dMo_isPromiseAt_12 rz11_109 rfl rfl rfl (Nat.le_of_ble_eq_true rfl) (Nat.le_of_ble_eq_true rfl) rfl)))))))))))
theorem bMo_isPromiseAt_15 {E : mEn} {d : Nat} {σ : mSt} {Q : mPost} {a1 : Int32} {s0 : Int32} (hz0 : s0 = 0 ∨ s0 = 1) : WP E d mMo_isPromiseAt 15 [.ref 166, .int a1] [.int s0] σ Q = Q (some (.int s0)) σ := w_zret dMo_isPromiseAt_15 rfl hz0
theorem dMo_part_0 : decode (mC mMo_part) 0 = .ok (.bipush (82), 2) := by decide +kernel
theorem dMo_part_2 : decode (mC mMo_part) 2 = .ok (.bipush (6), 2) := by decide +kernel
theorem dMo_part_4 : decode (mC mMo_part) 4 = .ok (.iload_n 0, 1) := by decide +kernel
theorem dMo_part_5 : decode (mC mMo_part) 5 = .ok (.imul, 1) := by decide +kernel
theorem dMo_part_6 : decode (mC mMo_part) 6 = .ok (.iadd, 1) := by decide +kernel
theorem dMo_part_7 : decode (mC mMo_part) 7 = .ok (.ireturn, 1) := by decide +kernel
theorem bMo_part_0 {E : mEn} {d : Nat} {σ : mSt} {Q : mPost} {a0 : Int32} : WP E d mMo_part 0 [.int a0] [] σ Q = Q (some (.int ((nI 82) + ((nI 6) * a0)))) σ := (w_bipush (v := (nI 82)) dMo_part_0 rfl).trans ((w_bipush (v := (nI 6)) dMo_part_2 rfl).trans ((w_iload_n dMo_part_4 rfl).trans ((w_imul dMo_part_5).trans ((w_iadd dMo_part_6).trans (w_iret dMo_part_7 rfl)))))
theorem dMo_holds_0 : decode (mC mMo_holds) 0 = .ok (.aload_n 0, 1) := by decide +kernel
theorem dMo_holds_1 : decode (mC mMo_holds) 1 = .ok (.iconst (0), 1) := by decide +kernel
theorem dMo_holds_2 : decode (mC mMo_holds) 2 = .ok (.putfield 74, 3) := by decide +kernel
theorem dMo_holds_5 : decode (mC mMo_holds) 5 = .ok (.aload_n 0, 1) := by decide +kernel
theorem dMo_holds_6 : decode (mC mMo_holds) 6 = .ok (.iconst (0), 1) := by decide +kernel
theorem dMo_holds_7 : decode (mC mMo_holds) 7 = .ok (.putfield 77, 3) := by decide +kernel
theorem dMo_holds_10 : decode (mC mMo_holds) 10 = .ok (.aload_n 0, 1) := by decide +kernel
theorem dMo_holds_11 : decode (mC mMo_holds) 11 = .ok (.iload_n 1, 1) := by decide +kernel
theorem dMo_holds_12 : decode (mC mMo_holds) 12 = .ok (.invokevirtual 332, 3) := by decide +kernel
theorem dMo_holds_15 : decode (mC mMo_holds) 15 = .ok (.ifCond .eq (20), 3) := by decide +kernel
theorem dMo_holds_18 : decode (mC mMo_holds) 18 = .ok (.aload_n 0, 1) := by decide +kernel
theorem dMo_holds_19 : decode (mC mMo_holds) 19 = .ok (.iload_n 2, 1) := by decide +kernel
theorem dMo_holds_20 : decode (mC mMo_holds) 20 = .ok (.invokevirtual 335, 3) := by decide +kernel
theorem dMo_holds_23 : decode (mC mMo_holds) 23 = .ok (.ifCond .eq (12), 3) := by decide +kernel
theorem dMo_holds_26 : decode (mC mMo_holds) 26 = .ok (.aload_n 0, 1) := by decide +kernel
theorem dMo_holds_27 : decode (mC mMo_holds) 27 = .ok (.iload_n 1, 1) := by decide +kernel
theorem dMo_holds_28 : decode (mC mMo_holds) 28 = .ok (.iload_n 2, 1) := by decide +kernel
theorem dMo_holds_29 : decode (mC mMo_holds) 29 = .ok (.invokevirtual 347, 3) := by decide +kernel
theorem dMo_holds_32 : decode (mC mMo_holds) 32 = .ok (.goto (8), 3) := by decide +kernel
theorem dMo_holds_35 : decode (mC mMo_holds) 35 = .ok (.aload_n 0, 1) := by decide +kernel
theorem dMo_holds_36 : decode (mC mMo_holds) 36 = .ok (.iconst (2), 1) := by decide +kernel
theorem dMo_holds_37 : decode (mC mMo_holds) 37 = .ok (.invokevirtual 329, 3) := by decide +kernel
theorem dMo_holds_40 : decode (mC mMo_holds) 40 = .ok (.ireturn, 1) := by decide +kernel
theorem bMo_holds_0 {E : mEn} {d : Nat} {σ : mSt} {Q : mPost} {a1 : Int32} {a2 : Int32} : WP E (d + 1) mMo_holds 0 [.ref 166, .int a1, .int a2] [] σ Q = WP E d mMo_isPersonAt 0 [.ref 166, .int a1] [] (sI (sI σ 166 1 0) 166 0 0) (fun r σ' => WP E (d + 1) mMo_holds 15 [.ref 166, .int a1, .int a2] (r.toList ++ []) σ' Q) := (w_aload_n dMo_holds_0 rfl).trans ((w_iconst (v := 0) dMo_holds_1 rfl).trans ((w_puti dMo_holds_2 rz11_74 sh_166 rfl rfl rfl).trans ((w_aload_n dMo_holds_5 rfl).trans ((w_iconst (v := 0) dMo_holds_6 rfl).trans ((w_puti dMo_holds_7 rz11_77 sh_166 rfl rfl rfl).trans ((w_aload_n dMo_holds_10 rfl).trans ((w_iload_n dMo_holds_11 rfl).trans (w_virt (vs := [.int a1]) (st' := []) (es := [.ref 166, .int a1]) dMo_holds_12 rz11_332 rfl sh_166 rfl rfl rfl (Nat.le_of_ble_eq_true rfl) (Nat.le_of_ble_eq_true rfl) rfl))))))))
theorem bMo_holds_15 {E : mEn} {d : Nat} {σ : mSt} {Q : mPost} {a1 : Int32} {a2 : Int32} {s0 : Int32} : WP E d mMo_holds 15 [.ref 166, .int a1, .int a2] [.int s0] σ Q = (if s0 = 0 then WP E d mMo_holds 35 [.ref 166, .int a1, .int a2] [] σ Q else WP E d mMo_holds 18 [.ref 166, .int a1, .int a2] [] σ Q) := w_ifeq (t := 35) dMo_holds_15 (by decide)
theorem bMo_holds_18 {E : mEn} {d : Nat} {σ : mSt} {Q : mPost} {a1 : Int32} {a2 : Int32} : WP E (d + 1) mMo_holds 18 [.ref 166, .int a1, .int a2] [] σ Q = WP E d mMo_isLoafAt 0 [.ref 166, .int a2] [] σ (fun r σ' => WP E (d + 1) mMo_holds 23 [.ref 166, .int a1, .int a2] (r.toList ++ []) σ' Q) := (w_aload_n dMo_holds_18 rfl).trans ((w_iload_n dMo_holds_19 rfl).trans (w_virt (vs := [.int a2]) (st' := []) (es := [.ref 166, .int a2]) dMo_holds_20 rz11_335 rfl sh_166 rfl rfl rfl (Nat.le_of_ble_eq_true rfl) (Nat.le_of_ble_eq_true rfl) rfl))
theorem bMo_holds_23 {E : mEn} {d : Nat} {σ : mSt} {Q : mPost} {a1 : Int32} {a2 : Int32} {s0 : Int32} : WP E d mMo_holds 23 [.ref 166, .int a1, .int a2] [.int s0] σ Q = (if s0 = 0 then WP E d mMo_holds 35 [.ref 166, .int a1, .int a2] [] σ Q else WP E d mMo_holds 26 [.ref 166, .int a1, .int a2] [] σ Q) := w_ifeq (t := 35) dMo_holds_23 (by decide)
theorem bMo_holds_26 {E : mEn} {d : Nat} {σ : mSt} {Q : mPost} {a1 : Int32} {a2 : Int32} : WP E (d + 1) mMo_holds 26 [.ref 166, .int a1, .int a2] [] σ Q = WP E d mMo_holdsOf 0 [.ref 166, .int a1, .int a2, uu, uu] [] σ (fun r σ' => WP E (d + 1) mMo_holds 32 [.ref 166, .int a1, .int a2] (r.toList ++ []) σ' Q) := (w_aload_n dMo_holds_26 rfl).trans ((w_iload_n dMo_holds_27 rfl).trans ((w_iload_n dMo_holds_28 rfl).trans (w_virt (vs := [.int a1, .int a2]) (st' := []) (es := [.ref 166, .int a1, .int a2, uu, uu]) dMo_holds_29 rz11_347 rfl sh_166 rfl rfl rfl (Nat.le_of_ble_eq_true rfl) (Nat.le_of_ble_eq_true rfl) rfl)))
theorem bMo_holds_32 {E : mEn} {d : Nat} {σ : mSt} {Q : mPost} {a1 : Int32} {a2 : Int32} {s0 : Int32} : WP E d mMo_holds 32 [.ref 166, .int a1, .int a2] [.int s0] σ Q = WP E d mMo_holds 40 [.ref 166, .int a1, .int a2] [.int s0] σ Q := w_goto (t := 40) dMo_holds_32 (by decide)
theorem bMo_holds_35 {E : mEn} {d : Nat} {σ : mSt} {Q : mPost} {a1 : Int32} {a2 : Int32} : WP E (d + 1) mMo_holds 35 [.ref 166, .int a1, .int a2] [] σ Q = WP E d mMo_refuse 0 [.ref 166, .int (nI 2)] [] σ (fun r σ' => WP E (d + 1) mMo_holds 40 [.ref 166, .int a1, .int a2] (r.toList ++ []) σ' Q) := (w_aload_n dMo_holds_35 rfl).trans ((w_iconst (v := (nI 2)) dMo_holds_36 rfl).trans (w_virt (vs := [.int (nI 2)]) (st' := []) (es := [.ref 166, .int (nI 2)]) dMo_holds_37 rz11_329 rfl sh_166 rfl rfl rfl (Nat.le_of_ble_eq_true rfl) (Nat.le_of_ble_eq_true rfl) rfl))
theorem bMo_holds_40 {E : mEn} {d : Nat} {σ : mSt} {Q : mPost} {a1 : Int32} {a2 : Int32} {s0 : Int32} : WP E d mMo_holds 40 [.ref 166, .int a1, .int a2] [.int s0] σ Q = Q (some (.int s0)) σ := w_iret dMo_holds_40 rfl
theorem dMo_holdsOf_0 : decode (mC mMo_holdsOf) 0 = .ok (.aload_n 0, 1) := by decide +kernel
theorem dMo_holdsOf_1 : decode (mC mMo_holdsOf) 1 = .ok (.getfield 35, 3) := by decide +kernel
theorem dMo_holdsOf_4 : decode (mC mMo_holdsOf) 4 = .ok (.bipush (34), 2) := by decide +kernel
theorem dMo_holdsOf_6 : decode (mC mMo_holdsOf) 6 = .ok (.iload_n 2, 1) := by decide +kernel
theorem dMo_holdsOf_7 : decode (mC mMo_holdsOf) 7 = .ok (.iadd, 1) := by decide +kernel
theorem dMo_holdsOf_8 : decode (mC mMo_holdsOf) 8 = .ok (.iaload, 1) := by decide +kernel
theorem dMo_holdsOf_9 : decode (mC mMo_holdsOf) 9 = .ok (.iload_n 1, 1) := by decide +kernel
theorem dMo_holdsOf_10 : decode (mC mMo_holdsOf) 10 = .ok (.if_icmp .ne (15), 3) := by decide +kernel
theorem dMo_holdsOf_13 : decode (mC mMo_holdsOf) 13 = .ok (.aload_n 0, 1) := by decide +kernel
theorem dMo_holdsOf_14 : decode (mC mMo_holdsOf) 14 = .ok (.getfield 35, 3) := by decide +kernel
theorem dMo_holdsOf_17 : decode (mC mMo_holdsOf) 17 = .ok (.bipush (58), 2) := by decide +kernel
theorem dMo_holdsOf_19 : decode (mC mMo_holdsOf) 19 = .ok (.iload_n 2, 1) := by decide +kernel
theorem dMo_holdsOf_20 : decode (mC mMo_holdsOf) 20 = .ok (.iadd, 1) := by decide +kernel
theorem dMo_holdsOf_21 : decode (mC mMo_holdsOf) 21 = .ok (.iaload, 1) := by decide +kernel
theorem dMo_holdsOf_22 : decode (mC mMo_holdsOf) 22 = .ok (.goto (4), 3) := by decide +kernel
theorem dMo_holdsOf_25 : decode (mC mMo_holdsOf) 25 = .ok (.iconst (0), 1) := by decide +kernel
theorem dMo_holdsOf_26 : decode (mC mMo_holdsOf) 26 = .ok (.istore_n 3, 1) := by decide +kernel
theorem dMo_holdsOf_27 : decode (mC mMo_holdsOf) 27 = .ok (.iconst (0), 1) := by decide +kernel
theorem dMo_holdsOf_28 : decode (mC mMo_holdsOf) 28 = .ok (.istore 4, 2) := by decide +kernel
theorem dMo_holdsOf_30 : decode (mC mMo_holdsOf) 30 = .ok (.iload 4, 2) := by decide +kernel
theorem dMo_holdsOf_32 : decode (mC mMo_holdsOf) 32 = .ok (.aload_n 0, 1) := by decide +kernel
theorem dMo_holdsOf_33 : decode (mC mMo_holdsOf) 33 = .ok (.getfield 35, 3) := by decide +kernel
theorem dMo_holdsOf_36 : decode (mC mMo_holdsOf) 36 = .ok (.iconst (3), 1) := by decide +kernel
theorem dMo_holdsOf_37 : decode (mC mMo_holdsOf) 37 = .ok (.iaload, 1) := by decide +kernel
theorem dMo_holdsOf_38 : decode (mC mMo_holdsOf) 38 = .ok (.if_icmp .ge (88), 3) := by decide +kernel
theorem dMo_holdsOf_41 : decode (mC mMo_holdsOf) 41 = .ok (.aload_n 0, 1) := by decide +kernel
theorem dMo_holdsOf_42 : decode (mC mMo_holdsOf) 42 = .ok (.iload 4, 2) := by decide +kernel
theorem dMo_holdsOf_44 : decode (mC mMo_holdsOf) 44 = .ok (.iload_n 2, 1) := by decide +kernel
theorem dMo_holdsOf_45 : decode (mC mMo_holdsOf) 45 = .ok (.invokevirtual 344, 3) := by decide +kernel
theorem dMo_holdsOf_48 : decode (mC mMo_holdsOf) 48 = .ok (.ifCond .ne (6), 3) := by decide +kernel
theorem dMo_holdsOf_51 : decode (mC mMo_holdsOf) 51 = .ok (.goto (69), 3) := by decide +kernel
theorem dMo_holdsOf_54 : decode (mC mMo_holdsOf) 54 = .ok (.iload_n 3, 1) := by decide +kernel
theorem dMo_holdsOf_55 : decode (mC mMo_holdsOf) 55 = .ok (.aload_n 0, 1) := by decide +kernel
theorem dMo_holdsOf_56 : decode (mC mMo_holdsOf) 56 = .ok (.getfield 35, 3) := by decide +kernel
theorem dMo_holdsOf_59 : decode (mC mMo_holdsOf) 59 = .ok (.iload 4, 2) := by decide +kernel
theorem dMo_holdsOf_61 : decode (mC mMo_holdsOf) 61 = .ok (.invokestatic 317, 3) := by decide +kernel
theorem dMo_holdsOf_64 : decode (mC mMo_holdsOf) 64 = .ok (.iconst (3), 1) := by decide +kernel
theorem dMo_holdsOf_65 : decode (mC mMo_holdsOf) 65 = .ok (.iadd, 1) := by decide +kernel
theorem dMo_holdsOf_66 : decode (mC mMo_holdsOf) 66 = .ok (.iaload, 1) := by decide +kernel
theorem dMo_holdsOf_67 : decode (mC mMo_holdsOf) 67 = .ok (.iload_n 1, 1) := by decide +kernel
theorem dMo_holdsOf_68 : decode (mC mMo_holdsOf) 68 = .ok (.if_icmp .ne (16), 3) := by decide +kernel
theorem dMo_holdsOf_71 : decode (mC mMo_holdsOf) 71 = .ok (.aload_n 0, 1) := by decide +kernel
theorem dMo_holdsOf_72 : decode (mC mMo_holdsOf) 72 = .ok (.getfield 35, 3) := by decide +kernel
theorem dMo_holdsOf_75 : decode (mC mMo_holdsOf) 75 = .ok (.iload 4, 2) := by decide +kernel
theorem dMo_holdsOf_77 : decode (mC mMo_holdsOf) 77 = .ok (.invokestatic 317, 3) := by decide +kernel
theorem dMo_holdsOf_80 : decode (mC mMo_holdsOf) 80 = .ok (.iaload, 1) := by decide +kernel
theorem dMo_holdsOf_81 : decode (mC mMo_holdsOf) 81 = .ok (.goto (4), 3) := by decide +kernel
theorem dMo_holdsOf_84 : decode (mC mMo_holdsOf) 84 = .ok (.iconst (0), 1) := by decide +kernel
theorem dMo_holdsOf_85 : decode (mC mMo_holdsOf) 85 = .ok (.iadd, 1) := by decide +kernel
theorem dMo_holdsOf_86 : decode (mC mMo_holdsOf) 86 = .ok (.istore_n 3, 1) := by decide +kernel
theorem dMo_holdsOf_87 : decode (mC mMo_holdsOf) 87 = .ok (.iload_n 3, 1) := by decide +kernel
theorem dMo_holdsOf_88 : decode (mC mMo_holdsOf) 88 = .ok (.aload_n 0, 1) := by decide +kernel
theorem dMo_holdsOf_89 : decode (mC mMo_holdsOf) 89 = .ok (.getfield 35, 3) := by decide +kernel
theorem dMo_holdsOf_92 : decode (mC mMo_holdsOf) 92 = .ok (.iload 4, 2) := by decide +kernel
theorem dMo_holdsOf_94 : decode (mC mMo_holdsOf) 94 = .ok (.invokestatic 317, 3) := by decide +kernel
theorem dMo_holdsOf_97 : decode (mC mMo_holdsOf) 97 = .ok (.iconst (2), 1) := by decide +kernel
theorem dMo_holdsOf_98 : decode (mC mMo_holdsOf) 98 = .ok (.iadd, 1) := by decide +kernel
theorem dMo_holdsOf_99 : decode (mC mMo_holdsOf) 99 = .ok (.iaload, 1) := by decide +kernel
theorem dMo_holdsOf_100 : decode (mC mMo_holdsOf) 100 = .ok (.iload_n 1, 1) := by decide +kernel
theorem dMo_holdsOf_101 : decode (mC mMo_holdsOf) 101 = .ok (.if_icmp .ne (16), 3) := by decide +kernel
theorem dMo_holdsOf_104 : decode (mC mMo_holdsOf) 104 = .ok (.aload_n 0, 1) := by decide +kernel
theorem dMo_holdsOf_105 : decode (mC mMo_holdsOf) 105 = .ok (.getfield 35, 3) := by decide +kernel
theorem dMo_holdsOf_108 : decode (mC mMo_holdsOf) 108 = .ok (.iload 4, 2) := by decide +kernel
theorem dMo_holdsOf_110 : decode (mC mMo_holdsOf) 110 = .ok (.invokestatic 317, 3) := by decide +kernel
theorem dMo_holdsOf_113 : decode (mC mMo_holdsOf) 113 = .ok (.iaload, 1) := by decide +kernel
theorem dMo_holdsOf_114 : decode (mC mMo_holdsOf) 114 = .ok (.goto (4), 3) := by decide +kernel
theorem dMo_holdsOf_117 : decode (mC mMo_holdsOf) 117 = .ok (.iconst (0), 1) := by decide +kernel
theorem dMo_holdsOf_118 : decode (mC mMo_holdsOf) 118 = .ok (.isub, 1) := by decide +kernel
theorem dMo_holdsOf_119 : decode (mC mMo_holdsOf) 119 = .ok (.istore_n 3, 1) := by decide +kernel
theorem dMo_holdsOf_120 : decode (mC mMo_holdsOf) 120 = .ok (.iinc 4 (1), 3) := by decide +kernel
theorem dMo_holdsOf_123 : decode (mC mMo_holdsOf) 123 = .ok (.goto (-93), 3) := by decide +kernel
theorem dMo_holdsOf_126 : decode (mC mMo_holdsOf) 126 = .ok (.iload_n 3, 1) := by decide +kernel
theorem dMo_holdsOf_127 : decode (mC mMo_holdsOf) 127 = .ok (.ireturn, 1) := by decide +kernel
theorem bMo_holdsOf_0 {E : mEn} {d : Nat} {σ : mSt} {Q : mPost} {a1 : Int32} {a2 : Int32} {u3 : Value} {u4 : Value} : WP E d mMo_holdsOf 0 [.ref 166, .int a1, .int a2, u3, u4] [] σ Q = (if mOut ((nI 34) + a2) 3000 = true then False else (if ¬ (σ.1 171 ((nI 34) + a2).toNatClampNeg) = a1 then WP E d mMo_holdsOf 25 [.ref 166, .int a1, .int a2, u3, u4] [] σ Q else WP E d mMo_holdsOf 13 [.ref 166, .int a1, .int a2, u3, u4] [] σ Q)) := (w_aload_n dMo_holdsOf_0 rfl).trans ((w_getr (r := 171) dMo_holdsOf_1 rz11_35 sh_166 rfl).trans ((w_bipush (v := (nI 34)) dMo_holdsOf_4 rfl).trans ((w_iload_n dMo_holdsOf_6 rfl).trans ((w_iadd dMo_holdsOf_7).trans ((w_iald dMo_holdsOf_8 sh_171 (by decide)).trans (ite_c ((w_iload_n dMo_holdsOf_9 rfl).trans (w_icmpne (t := 25) dMo_holdsOf_10 (by decide)))))))))
theorem bMo_holdsOf_13 {E : mEn} {d : Nat} {σ : mSt} {Q : mPost} {a1 : Int32} {a2 : Int32} {u3 : Value} {u4 : Value} : WP E d mMo_holdsOf 13 [.ref 166, .int a1, .int a2, u3, u4] [] σ Q = (if mOut ((nI 58) + a2) 3000 = true then False else WP E d mMo_holdsOf 26 [.ref 166, .int a1, .int a2, u3, u4] [.int (σ.1 171 ((nI 58) + a2).toNatClampNeg)] σ Q) := (w_aload_n dMo_holdsOf_13 rfl).trans ((w_getr (r := 171) dMo_holdsOf_14 rz11_35 sh_166 rfl).trans ((w_bipush (v := (nI 58)) dMo_holdsOf_17 rfl).trans ((w_iload_n dMo_holdsOf_19 rfl).trans ((w_iadd dMo_holdsOf_20).trans ((w_iald dMo_holdsOf_21 sh_171 (by decide)).trans (ite_c (w_goto (t := 26) dMo_holdsOf_22 (by decide))))))))
theorem bMo_holdsOf_25 {E : mEn} {d : Nat} {σ : mSt} {Q : mPost} {a1 : Int32} {a2 : Int32} {u3 : Value} {u4 : Value} : WP E d mMo_holdsOf 25 [.ref 166, .int a1, .int a2, u3, u4] [] σ Q = WP E d mMo_holdsOf 26 [.ref 166, .int a1, .int a2, u3, u4] [.int 0] σ Q := w_iconst (v := 0) dMo_holdsOf_25 rfl
theorem bMo_holdsOf_26 {E : mEn} {d : Nat} {σ : mSt} {Q : mPost} {a1 : Int32} {a2 : Int32} {u3 : Value} {u4 : Value} {s0 : Int32} : WP E d mMo_holdsOf 26 [.ref 166, .int a1, .int a2, u3, u4] [.int s0] σ Q = WP E d mMo_holdsOf 30 [.ref 166, .int a1, .int a2, .int s0, .int 0] [] σ Q := (w_istore_n (ls' := [.ref 166, .int a1, .int a2, .int s0, u4]) dMo_holdsOf_26 (Nat.le_of_ble_eq_true rfl) rfl).trans ((w_iconst (v := 0) dMo_holdsOf_27 rfl).trans (w_istore (ls' := [.ref 166, .int a1, .int a2, .int s0, .int 0]) dMo_holdsOf_28 (Nat.le_of_ble_eq_true rfl) rfl))
theorem bMo_holdsOf_30 {E : mEn} {d : Nat} {σ : mSt} {Q : mPost} {a1 : Int32} {a2 : Int32} {a3 : Int32} {a4 : Int32} : WP E d mMo_holdsOf 30 [.ref 166, .int a1, .int a2, .int a3, .int a4] [] σ Q = (if mOut (nI 3) 3000 = true then False else (if (σ.1 171 3) ≤ a4 then WP E d mMo_holdsOf 126 [.ref 166, .int a1, .int a2, .int a3, .int a4] [] σ Q else WP E d mMo_holdsOf 41 [.ref 166, .int a1, .int a2, .int a3, .int a4] [] σ Q)) := (w_iload dMo_holdsOf_30 rfl).trans ((w_aload_n dMo_holdsOf_32 rfl).trans ((w_getr (r := 171) dMo_holdsOf_33 rz11_35 sh_166 rfl).trans ((w_iconst (v := (nI 3)) dMo_holdsOf_36 rfl).trans ((w_iald dMo_holdsOf_37 sh_171 (by decide)).trans (ite_c (w_icmpge (t := 126) dMo_holdsOf_38 (by decide)))))))
theorem bMo_holdsOf_41 {E : mEn} {d : Nat} {σ : mSt} {Q : mPost} {a1 : Int32} {a2 : Int32} {a3 : Int32} {a4 : Int32} : WP E (d + 1) mMo_holdsOf 41 [.ref 166, .int a1, .int a2, .int a3, .int a4] [] σ Q = WP E d mMo_isOfLoaf 0 [.ref 166, .int a4, .int a2] [] σ (fun r σ' => WP E (d + 1) mMo_holdsOf 48 [.ref 166, .int a1, .int a2, .int a3, .int a4] (r.toList ++ []) σ' Q) := (w_aload_n dMo_holdsOf_41 rfl).trans ((w_iload dMo_holdsOf_42 rfl).trans ((w_iload_n dMo_holdsOf_44 rfl).trans (w_virt (vs := [.int a4, .int a2]) (st' := []) (es := [.ref 166, .int a4, .int a2]) dMo_holdsOf_45 rz11_344 rfl sh_166 rfl rfl rfl (Nat.le_of_ble_eq_true rfl) (Nat.le_of_ble_eq_true rfl) rfl)))
theorem bMo_holdsOf_48 {E : mEn} {d : Nat} {σ : mSt} {Q : mPost} {a1 : Int32} {a2 : Int32} {a3 : Int32} {a4 : Int32} {s0 : Int32} : WP E d mMo_holdsOf 48 [.ref 166, .int a1, .int a2, .int a3, .int a4] [.int s0] σ Q = (if ¬ s0 = 0 then WP E d mMo_holdsOf 54 [.ref 166, .int a1, .int a2, .int a3, .int a4] [] σ Q else WP E d mMo_holdsOf 51 [.ref 166, .int a1, .int a2, .int a3, .int a4] [] σ Q) := w_ifne (t := 54) dMo_holdsOf_48 (by decide)
theorem bMo_holdsOf_51 {E : mEn} {d : Nat} {σ : mSt} {Q : mPost} {a1 : Int32} {a2 : Int32} {a3 : Int32} {a4 : Int32} : WP E d mMo_holdsOf 51 [.ref 166, .int a1, .int a2, .int a3, .int a4] [] σ Q = WP E d mMo_holdsOf 120 [.ref 166, .int a1, .int a2, .int a3, .int a4] [] σ Q := w_goto (t := 120) dMo_holdsOf_51 (by decide)
theorem bMo_holdsOf_54 {E : mEn} {d : Nat} {σ : mSt} {Q : mPost} {a1 : Int32} {a2 : Int32} {a3 : Int32} {a4 : Int32} : WP E (d + 1) mMo_holdsOf 54 [.ref 166, .int a1, .int a2, .int a3, .int a4] [] σ Q = WP E d mMo_part 0 [.int a4] [] σ (fun r σ' => WP E (d + 1) mMo_holdsOf 64 [.ref 166, .int a1, .int a2, .int a3, .int a4] (r.toList ++ [.ref 171, .int a3]) σ' Q) := (w_iload_n dMo_holdsOf_54 rfl).trans ((w_aload_n dMo_holdsOf_55 rfl).trans ((w_getr (r := 171) dMo_holdsOf_56 rz11_35 sh_166 rfl).trans ((w_iload dMo_holdsOf_59 rfl).trans (w_stat (vs := [.int a4]) (st' := [.ref 171, .int a3]) (es := [.int a4]) dMo_holdsOf_61 rz11_317 rfl rfl rfl (Nat.le_of_ble_eq_true rfl) (Nat.le_of_ble_eq_true rfl) rfl))))
theorem bMo_holdsOf_64 {E : mEn} {d : Nat} {σ : mSt} {Q : mPost} {a1 : Int32} {a2 : Int32} {a3 : Int32} {a4 : Int32} {s0 : Int32} {s2 : Int32} : WP E d mMo_holdsOf 64 [.ref 166, .int a1, .int a2, .int a3, .int a4] [.int s0, .ref 171, .int s2] σ Q = (if mOut (s0 + (nI 3)) 3000 = true then False else (if ¬ (σ.1 171 (s0 + (nI 3)).toNatClampNeg) = a1 then WP E d mMo_holdsOf 84 [.ref 166, .int a1, .int a2, .int a3, .int a4] [.int s2] σ Q else WP E d mMo_holdsOf 71 [.ref 166, .int a1, .int a2, .int a3, .int a4] [.int s2] σ Q)) := (w_iconst (v := (nI 3)) dMo_holdsOf_64 rfl).trans ((w_iadd dMo_holdsOf_65).trans ((w_iald dMo_holdsOf_66 sh_171 (by decide)).trans (ite_c ((w_iload_n dMo_holdsOf_67 rfl).trans (w_icmpne (t := 84) dMo_holdsOf_68 (by decide))))))
theorem bMo_holdsOf_71 {E : mEn} {d : Nat} {σ : mSt} {Q : mPost} {a1 : Int32} {a2 : Int32} {a3 : Int32} {a4 : Int32} {s0 : Int32} : WP E (d + 1) mMo_holdsOf 71 [.ref 166, .int a1, .int a2, .int a3, .int a4] [.int s0] σ Q = WP E d mMo_part 0 [.int a4] [] σ (fun r σ' => WP E (d + 1) mMo_holdsOf 80 [.ref 166, .int a1, .int a2, .int a3, .int a4] (r.toList ++ [.ref 171, .int s0]) σ' Q) := (w_aload_n dMo_holdsOf_71 rfl).trans ((w_getr (r := 171) dMo_holdsOf_72 rz11_35 sh_166 rfl).trans ((w_iload dMo_holdsOf_75 rfl).trans (w_stat (vs := [.int a4]) (st' := [.ref 171, .int s0]) (es := [.int a4]) dMo_holdsOf_77 rz11_317 rfl rfl rfl (Nat.le_of_ble_eq_true rfl) (Nat.le_of_ble_eq_true rfl) rfl)))
theorem bMo_holdsOf_80 {E : mEn} {d : Nat} {σ : mSt} {Q : mPost} {a1 : Int32} {a2 : Int32} {a3 : Int32} {a4 : Int32} {s0 : Int32} {s2 : Int32} : WP E d mMo_holdsOf 80 [.ref 166, .int a1, .int a2, .int a3, .int a4] [.int s0, .ref 171, .int s2] σ Q = (if mOut s0 3000 = true then False else WP E d mMo_holdsOf 85 [.ref 166, .int a1, .int a2, .int a3, .int a4] [.int (σ.1 171 s0.toNatClampNeg), .int s2] σ Q) := (w_iald dMo_holdsOf_80 sh_171 (by decide)).trans (ite_c (w_goto (t := 85) dMo_holdsOf_81 (by decide)))
theorem bMo_holdsOf_84 {E : mEn} {d : Nat} {σ : mSt} {Q : mPost} {a1 : Int32} {a2 : Int32} {a3 : Int32} {a4 : Int32} {s0 : Int32} : WP E d mMo_holdsOf 84 [.ref 166, .int a1, .int a2, .int a3, .int a4] [.int s0] σ Q = WP E d mMo_holdsOf 85 [.ref 166, .int a1, .int a2, .int a3, .int a4] [.int 0, .int s0] σ Q := w_iconst (v := 0) dMo_holdsOf_84 rfl
theorem bMo_holdsOf_85 {E : mEn} {d : Nat} {σ : mSt} {Q : mPost} {a1 : Int32} {a2 : Int32} {a3 : Int32} {a4 : Int32} {s0 : Int32} {s1 : Int32} : WP E (d + 1) mMo_holdsOf 85 [.ref 166, .int a1, .int a2, .int a3, .int a4] [.int s0, .int s1] σ Q = WP E d mMo_part 0 [.int a4] [] σ (fun r σ' => WP E (d + 1) mMo_holdsOf 97 [.ref 166, .int a1, .int a2, .int (s1 + s0), .int a4] (r.toList ++ [.ref 171, .int (s1 + s0)]) σ' Q) := (w_iadd dMo_holdsOf_85).trans ((w_istore_n (ls' := [.ref 166, .int a1, .int a2, .int (s1 + s0), .int a4]) dMo_holdsOf_86 (Nat.le_of_ble_eq_true rfl) rfl).trans ((w_iload_n dMo_holdsOf_87 rfl).trans ((w_aload_n dMo_holdsOf_88 rfl).trans ((w_getr (r := 171) dMo_holdsOf_89 rz11_35 sh_166 rfl).trans ((w_iload dMo_holdsOf_92 rfl).trans (w_stat (vs := [.int a4]) (st' := [.ref 171, .int (s1 + s0)]) (es := [.int a4]) dMo_holdsOf_94 rz11_317 rfl rfl rfl (Nat.le_of_ble_eq_true rfl) (Nat.le_of_ble_eq_true rfl) rfl))))))
theorem bMo_holdsOf_97 {E : mEn} {d : Nat} {σ : mSt} {Q : mPost} {a1 : Int32} {a2 : Int32} {a3 : Int32} {a4 : Int32} {s0 : Int32} {s2 : Int32} : WP E d mMo_holdsOf 97 [.ref 166, .int a1, .int a2, .int a3, .int a4] [.int s0, .ref 171, .int s2] σ Q = (if mOut (s0 + (nI 2)) 3000 = true then False else (if ¬ (σ.1 171 (s0 + (nI 2)).toNatClampNeg) = a1 then WP E d mMo_holdsOf 117 [.ref 166, .int a1, .int a2, .int a3, .int a4] [.int s2] σ Q else WP E d mMo_holdsOf 104 [.ref 166, .int a1, .int a2, .int a3, .int a4] [.int s2] σ Q)) := (w_iconst (v := (nI 2)) dMo_holdsOf_97 rfl).trans ((w_iadd dMo_holdsOf_98).trans ((w_iald dMo_holdsOf_99 sh_171 (by decide)).trans (ite_c ((w_iload_n dMo_holdsOf_100 rfl).trans (w_icmpne (t := 117) dMo_holdsOf_101 (by decide))))))
theorem bMo_holdsOf_104 {E : mEn} {d : Nat} {σ : mSt} {Q : mPost} {a1 : Int32} {a2 : Int32} {a3 : Int32} {a4 : Int32} {s0 : Int32} : WP E (d + 1) mMo_holdsOf 104 [.ref 166, .int a1, .int a2, .int a3, .int a4] [.int s0] σ Q = WP E d mMo_part 0 [.int a4] [] σ (fun r σ' => WP E (d + 1) mMo_holdsOf 113 [.ref 166, .int a1, .int a2, .int a3, .int a4] (r.toList ++ [.ref 171, .int s0]) σ' Q) := (w_aload_n dMo_holdsOf_104 rfl).trans ((w_getr (r := 171) dMo_holdsOf_105 rz11_35 sh_166 rfl).trans ((w_iload dMo_holdsOf_108 rfl).trans (w_stat (vs := [.int a4]) (st' := [.ref 171, .int s0]) (es := [.int a4]) dMo_holdsOf_110 rz11_317 rfl rfl rfl (Nat.le_of_ble_eq_true rfl) (Nat.le_of_ble_eq_true rfl) rfl)))
theorem bMo_holdsOf_113 {E : mEn} {d : Nat} {σ : mSt} {Q : mPost} {a1 : Int32} {a2 : Int32} {a3 : Int32} {a4 : Int32} {s0 : Int32} {s2 : Int32} : WP E d mMo_holdsOf 113 [.ref 166, .int a1, .int a2, .int a3, .int a4] [.int s0, .ref 171, .int s2] σ Q = (if mOut s0 3000 = true then False else WP E d mMo_holdsOf 118 [.ref 166, .int a1, .int a2, .int a3, .int a4] [.int (σ.1 171 s0.toNatClampNeg), .int s2] σ Q) := (w_iald dMo_holdsOf_113 sh_171 (by decide)).trans (ite_c (w_goto (t := 118) dMo_holdsOf_114 (by decide)))
theorem bMo_holdsOf_117 {E : mEn} {d : Nat} {σ : mSt} {Q : mPost} {a1 : Int32} {a2 : Int32} {a3 : Int32} {a4 : Int32} {s0 : Int32} : WP E d mMo_holdsOf 117 [.ref 166, .int a1, .int a2, .int a3, .int a4] [.int s0] σ Q = WP E d mMo_holdsOf 118 [.ref 166, .int a1, .int a2, .int a3, .int a4] [.int 0, .int s0] σ Q := w_iconst (v := 0) dMo_holdsOf_117 rfl
theorem bMo_holdsOf_118 {E : mEn} {d : Nat} {σ : mSt} {Q : mPost} {a1 : Int32} {a2 : Int32} {a3 : Int32} {a4 : Int32} {s0 : Int32} {s1 : Int32} : WP E d mMo_holdsOf 118 [.ref 166, .int a1, .int a2, .int a3, .int a4] [.int s0, .int s1] σ Q = WP E d mMo_holdsOf 120 [.ref 166, .int a1, .int a2, .int (s1 - s0), .int a4] [] σ Q := (w_isub dMo_holdsOf_118).trans (w_istore_n (ls' := [.ref 166, .int a1, .int a2, .int (s1 - s0), .int a4]) dMo_holdsOf_119 (Nat.le_of_ble_eq_true rfl) rfl)
theorem bMo_holdsOf_120 {E : mEn} {d : Nat} {σ : mSt} {Q : mPost} {a1 : Int32} {a2 : Int32} {a3 : Int32} {a4 : Int32} : WP E d mMo_holdsOf 120 [.ref 166, .int a1, .int a2, .int a3, .int a4] [] σ Q = WP E d mMo_holdsOf 30 [.ref 166, .int a1, .int a2, .int a3, .int (a4 + 1)] [] σ Q := (w_iinc (v := 1) (ls' := [.ref 166, .int a1, .int a2, .int a3, .int (a4 + 1)]) dMo_holdsOf_120 rfl rfl rfl).trans (w_goto (t := 30) dMo_holdsOf_123 (by decide))
theorem bMo_holdsOf_126 {E : mEn} {d : Nat} {σ : mSt} {Q : mPost} {a1 : Int32} {a2 : Int32} {a3 : Int32} {a4 : Int32} : WP E d mMo_holdsOf 126 [.ref 166, .int a1, .int a2, .int a3, .int a4] [] σ Q = Q (some (.int a3)) σ := (w_iload_n dMo_holdsOf_126 rfl).trans (w_iret dMo_holdsOf_127 rfl)
theorem dMo_isOfLoaf_0 : decode (mC mMo_isOfLoaf) 0 = .ok (.aload_n 0, 1) := by decide +kernel
theorem dMo_isOfLoaf_1 : decode (mC mMo_isOfLoaf) 1 = .ok (.iload_n 1, 1) := by decide +kernel
theorem dMo_isOfLoaf_2 : decode (mC mMo_isOfLoaf) 2 = .ok (.invokevirtual 320, 3) := by decide +kernel
theorem dMo_isOfLoaf_5 : decode (mC mMo_isOfLoaf) 5 = .ok (.ifCond .eq (22), 3) := by decide +kernel
theorem dMo_isOfLoaf_8 : decode (mC mMo_isOfLoaf) 8 = .ok (.aload_n 0, 1) := by decide +kernel
theorem dMo_isOfLoaf_9 : decode (mC mMo_isOfLoaf) 9 = .ok (.getfield 35, 3) := by decide +kernel
theorem dMo_isOfLoaf_12 : decode (mC mMo_isOfLoaf) 12 = .ok (.iload_n 1, 1) := by decide +kernel
theorem dMo_isOfLoaf_13 : decode (mC mMo_isOfLoaf) 13 = .ok (.invokestatic 317, 3) := by decide +kernel
theorem dMo_isOfLoaf_16 : decode (mC mMo_isOfLoaf) 16 = .ok (.iconst (1), 1) := by decide +kernel
theorem dMo_isOfLoaf_17 : decode (mC mMo_isOfLoaf) 17 = .ok (.iadd, 1) := by decide +kernel
theorem dMo_isOfLoaf_18 : decode (mC mMo_isOfLoaf) 18 = .ok (.iaload, 1) := by decide +kernel
theorem dMo_isOfLoaf_19 : decode (mC mMo_isOfLoaf) 19 = .ok (.iload_n 2, 1) := by decide +kernel
theorem dMo_isOfLoaf_20 : decode (mC mMo_isOfLoaf) 20 = .ok (.if_icmp .ne (7), 3) := by decide +kernel
theorem dMo_isOfLoaf_23 : decode (mC mMo_isOfLoaf) 23 = .ok (.iconst (1), 1) := by decide +kernel
theorem dMo_isOfLoaf_24 : decode (mC mMo_isOfLoaf) 24 = .ok (.goto (4), 3) := by decide +kernel
theorem dMo_isOfLoaf_27 : decode (mC mMo_isOfLoaf) 27 = .ok (.iconst (0), 1) := by decide +kernel
theorem dMo_isOfLoaf_28 : decode (mC mMo_isOfLoaf) 28 = .ok (.ireturn, 1) := by decide +kernel
theorem bMo_isOfLoaf_0 {E : mEn} {d : Nat} {σ : mSt} {Q : mPost} {a1 : Int32} {a2 : Int32} : WP E (d + 1) mMo_isOfLoaf 0 [.ref 166, .int a1, .int a2] [] σ Q = WP E d mMo_isMade 0 [.ref 166, .int a1] [] σ (fun r σ' => WP E (d + 1) mMo_isOfLoaf 5 [.ref 166, .int a1, .int a2] (r.toList ++ []) σ' Q) := (w_aload_n dMo_isOfLoaf_0 rfl).trans ((w_iload_n dMo_isOfLoaf_1 rfl).trans (w_virt (vs := [.int a1]) (st' := []) (es := [.ref 166, .int a1]) dMo_isOfLoaf_2 rz11_320 rfl sh_166 rfl rfl rfl (Nat.le_of_ble_eq_true rfl) (Nat.le_of_ble_eq_true rfl) rfl))
theorem bMo_isOfLoaf_5 {E : mEn} {d : Nat} {σ : mSt} {Q : mPost} {a1 : Int32} {a2 : Int32} {s0 : Int32} : WP E d mMo_isOfLoaf 5 [.ref 166, .int a1, .int a2] [.int s0] σ Q = (if s0 = 0 then WP E d mMo_isOfLoaf 27 [.ref 166, .int a1, .int a2] [] σ Q else WP E d mMo_isOfLoaf 8 [.ref 166, .int a1, .int a2] [] σ Q) := w_ifeq (t := 27) dMo_isOfLoaf_5 (by decide)
theorem bMo_isOfLoaf_8 {E : mEn} {d : Nat} {σ : mSt} {Q : mPost} {a1 : Int32} {a2 : Int32} : WP E (d + 1) mMo_isOfLoaf 8 [.ref 166, .int a1, .int a2] [] σ Q = WP E d mMo_part 0 [.int a1] [] σ (fun r σ' => WP E (d + 1) mMo_isOfLoaf 16 [.ref 166, .int a1, .int a2] (r.toList ++ [.ref 171]) σ' Q) := (w_aload_n dMo_isOfLoaf_8 rfl).trans ((w_getr (r := 171) dMo_isOfLoaf_9 rz11_35 sh_166 rfl).trans ((w_iload_n dMo_isOfLoaf_12 rfl).trans (w_stat (vs := [.int a1]) (st' := [.ref 171]) (es := [.int a1]) dMo_isOfLoaf_13 rz11_317 rfl rfl rfl (Nat.le_of_ble_eq_true rfl) (Nat.le_of_ble_eq_true rfl) rfl)))
theorem bMo_isOfLoaf_16 {E : mEn} {d : Nat} {σ : mSt} {Q : mPost} {a1 : Int32} {a2 : Int32} {s0 : Int32} : WP E d mMo_isOfLoaf 16 [.ref 166, .int a1, .int a2] [.int s0, .ref 171] σ Q = (if mOut (s0 + 1) 3000 = true then False else (if ¬ (σ.1 171 (s0 + 1).toNatClampNeg) = a2 then WP E d mMo_isOfLoaf 27 [.ref 166, .int a1, .int a2] [] σ Q else WP E d mMo_isOfLoaf 23 [.ref 166, .int a1, .int a2] [] σ Q)) := (w_iconst (v := 1) dMo_isOfLoaf_16 rfl).trans ((w_iadd dMo_isOfLoaf_17).trans ((w_iald dMo_isOfLoaf_18 sh_171 (by decide)).trans (ite_c ((w_iload_n dMo_isOfLoaf_19 rfl).trans (w_icmpne (t := 27) dMo_isOfLoaf_20 (by decide))))))
theorem bMo_isOfLoaf_23 {E : mEn} {d : Nat} {σ : mSt} {Q : mPost} {a1 : Int32} {a2 : Int32} : WP E d mMo_isOfLoaf 23 [.ref 166, .int a1, .int a2] [] σ Q = WP E d mMo_isOfLoaf 28 [.ref 166, .int a1, .int a2] [.int 1] σ Q := (w_iconst (v := 1) dMo_isOfLoaf_23 rfl).trans (w_goto (t := 28) dMo_isOfLoaf_24 (by decide))
theorem bMo_isOfLoaf_27 {E : mEn} {d : Nat} {σ : mSt} {Q : mPost} {a1 : Int32} {a2 : Int32} : WP E d mMo_isOfLoaf 27 [.ref 166, .int a1, .int a2] [] σ Q = WP E d mMo_isOfLoaf 28 [.ref 166, .int a1, .int a2] [.int 0] σ Q := w_iconst (v := 0) dMo_isOfLoaf_27 rfl
theorem bMo_isOfLoaf_28 {E : mEn} {d : Nat} {σ : mSt} {Q : mPost} {a1 : Int32} {a2 : Int32} {s0 : Int32} (hz0 : s0 = 0 ∨ s0 = 1) : WP E d mMo_isOfLoaf 28 [.ref 166, .int a1, .int a2] [.int s0] σ Q = Q (some (.int s0)) σ := w_zret dMo_isOfLoaf_28 rfl hz0
theorem dMo_isMade_0 : decode (mC mMo_isMade) 0 = .ok (.aload_n 0, 1) := by decide +kernel
theorem dMo_isMade_1 : decode (mC mMo_isMade) 1 = .ok (.getfield 35, 3) := by decide +kernel
theorem dMo_isMade_4 : decode (mC mMo_isMade) 4 = .ok (.iload_n 1, 1) := by decide +kernel
theorem dMo_isMade_5 : decode (mC mMo_isMade) 5 = .ok (.invokestatic 317, 3) := by decide +kernel
theorem dMo_isMade_8 : decode (mC mMo_isMade) 8 = .ok (.iconst (5), 1) := by decide +kernel
theorem dMo_isMade_9 : decode (mC mMo_isMade) 9 = .ok (.iadd, 1) := by decide +kernel
theorem dMo_isMade_10 : decode (mC mMo_isMade) 10 = .ok (.iaload, 1) := by decide +kernel
theorem dMo_isMade_11 : decode (mC mMo_isMade) 11 = .ok (.ifCond .ne (7), 3) := by decide +kernel
theorem dMo_isMade_14 : decode (mC mMo_isMade) 14 = .ok (.iconst (1), 1) := by decide +kernel
theorem dMo_isMade_15 : decode (mC mMo_isMade) 15 = .ok (.goto (4), 3) := by decide +kernel
theorem dMo_isMade_18 : decode (mC mMo_isMade) 18 = .ok (.iconst (0), 1) := by decide +kernel
theorem dMo_isMade_19 : decode (mC mMo_isMade) 19 = .ok (.ireturn, 1) := by decide +kernel
theorem bMo_isMade_0 {E : mEn} {d : Nat} {σ : mSt} {Q : mPost} {a1 : Int32} : WP E (d + 1) mMo_isMade 0 [.ref 166, .int a1] [] σ Q = WP E d mMo_part 0 [.int a1] [] σ (fun r σ' => WP E (d + 1) mMo_isMade 8 [.ref 166, .int a1] (r.toList ++ [.ref 171]) σ' Q) := (w_aload_n dMo_isMade_0 rfl).trans ((w_getr (r := 171) dMo_isMade_1 rz11_35 sh_166 rfl).trans ((w_iload_n dMo_isMade_4 rfl).trans (w_stat (vs := [.int a1]) (st' := [.ref 171]) (es := [.int a1]) dMo_isMade_5 rz11_317 rfl rfl rfl (Nat.le_of_ble_eq_true rfl) (Nat.le_of_ble_eq_true rfl) rfl)))
theorem bMo_isMade_8 {E : mEn} {d : Nat} {σ : mSt} {Q : mPost} {a1 : Int32} {s0 : Int32} : WP E d mMo_isMade 8 [.ref 166, .int a1] [.int s0, .ref 171] σ Q = (if mOut (s0 + (nI 5)) 3000 = true then False else (if ¬ (σ.1 171 (s0 + (nI 5)).toNatClampNeg) = 0 then WP E d mMo_isMade 18 [.ref 166, .int a1] [] σ Q else WP E d mMo_isMade 14 [.ref 166, .int a1] [] σ Q)) := (w_iconst (v := (nI 5)) dMo_isMade_8 rfl).trans ((w_iadd dMo_isMade_9).trans ((w_iald dMo_isMade_10 sh_171 (by decide)).trans (ite_c (w_ifne (t := 18) dMo_isMade_11 (by decide)))))
theorem bMo_isMade_14 {E : mEn} {d : Nat} {σ : mSt} {Q : mPost} {a1 : Int32} : WP E d mMo_isMade 14 [.ref 166, .int a1] [] σ Q = WP E d mMo_isMade 19 [.ref 166, .int a1] [.int 1] σ Q := (w_iconst (v := 1) dMo_isMade_14 rfl).trans (w_goto (t := 19) dMo_isMade_15 (by decide))
theorem bMo_isMade_18 {E : mEn} {d : Nat} {σ : mSt} {Q : mPost} {a1 : Int32} : WP E d mMo_isMade 18 [.ref 166, .int a1] [] σ Q = WP E d mMo_isMade 19 [.ref 166, .int a1] [.int 0] σ Q := w_iconst (v := 0) dMo_isMade_18 rfl
theorem bMo_isMade_19 {E : mEn} {d : Nat} {σ : mSt} {Q : mPost} {a1 : Int32} {s0 : Int32} (hz0 : s0 = 0 ∨ s0 = 1) : WP E d mMo_isMade 19 [.ref 166, .int a1] [.int s0] σ Q = Q (some (.int s0)) σ := w_zret dMo_isMade_19 rfl hz0
theorem dMo_deep_0 : decode (mC mMo_deep) 0 = .ok (.aload_n 0, 1) := by decide +kernel
theorem dMo_deep_1 : decode (mC mMo_deep) 1 = .ok (.iconst (0), 1) := by decide +kernel
theorem dMo_deep_2 : decode (mC mMo_deep) 2 = .ok (.putfield 74, 3) := by decide +kernel
theorem dMo_deep_5 : decode (mC mMo_deep) 5 = .ok (.aload_n 0, 1) := by decide +kernel
theorem dMo_deep_6 : decode (mC mMo_deep) 6 = .ok (.iconst (0), 1) := by decide +kernel
theorem dMo_deep_7 : decode (mC mMo_deep) 7 = .ok (.putfield 77, 3) := by decide +kernel
theorem dMo_deep_10 : decode (mC mMo_deep) 10 = .ok (.aload_n 0, 1) := by decide +kernel
theorem dMo_deep_11 : decode (mC mMo_deep) 11 = .ok (.iload_n 1, 1) := by decide +kernel
theorem dMo_deep_12 : decode (mC mMo_deep) 12 = .ok (.invokevirtual 335, 3) := by decide +kernel
theorem dMo_deep_15 : decode (mC mMo_deep) 15 = .ok (.ifCond .ne (9), 3) := by decide +kernel
theorem dMo_deep_18 : decode (mC mMo_deep) 18 = .ok (.aload_n 0, 1) := by decide +kernel
theorem dMo_deep_19 : decode (mC mMo_deep) 19 = .ok (.iconst (2), 1) := by decide +kernel
theorem dMo_deep_20 : decode (mC mMo_deep) 20 = .ok (.invokevirtual 329, 3) := by decide +kernel
theorem dMo_deep_23 : decode (mC mMo_deep) 23 = .ok (.ireturn, 1) := by decide +kernel
theorem dMo_deep_24 : decode (mC mMo_deep) 24 = .ok (.aload_n 0, 1) := by decide +kernel
theorem dMo_deep_25 : decode (mC mMo_deep) 25 = .ok (.invokevirtual 350, 3) := by decide +kernel
theorem dMo_deep_28 : decode (mC mMo_deep) 28 = .ok (.iconst (0), 1) := by decide +kernel
theorem dMo_deep_29 : decode (mC mMo_deep) 29 = .ok (.istore_n 2, 1) := by decide +kernel
theorem dMo_deep_30 : decode (mC mMo_deep) 30 = .ok (.iconst (0), 1) := by decide +kernel
theorem dMo_deep_31 : decode (mC mMo_deep) 31 = .ok (.istore_n 3, 1) := by decide +kernel
theorem dMo_deep_32 : decode (mC mMo_deep) 32 = .ok (.iload_n 3, 1) := by decide +kernel
theorem dMo_deep_33 : decode (mC mMo_deep) 33 = .ok (.aload_n 0, 1) := by decide +kernel
theorem dMo_deep_34 : decode (mC mMo_deep) 34 = .ok (.getfield 35, 3) := by decide +kernel
theorem dMo_deep_37 : decode (mC mMo_deep) 37 = .ok (.iconst (3), 1) := by decide +kernel
theorem dMo_deep_38 : decode (mC mMo_deep) 38 = .ok (.iaload, 1) := by decide +kernel
theorem dMo_deep_39 : decode (mC mMo_deep) 39 = .ok (.if_icmp .ge (29), 3) := by decide +kernel
theorem dMo_deep_42 : decode (mC mMo_deep) 42 = .ok (.aload_n 0, 1) := by decide +kernel
theorem dMo_deep_43 : decode (mC mMo_deep) 43 = .ok (.iload_n 3, 1) := by decide +kernel
theorem dMo_deep_44 : decode (mC mMo_deep) 44 = .ok (.iload_n 1, 1) := by decide +kernel
theorem dMo_deep_45 : decode (mC mMo_deep) 45 = .ok (.invokevirtual 344, 3) := by decide +kernel
theorem dMo_deep_48 : decode (mC mMo_deep) 48 = .ok (.ifCond .eq (14), 3) := by decide +kernel
theorem dMo_deep_51 : decode (mC mMo_deep) 51 = .ok (.iload_n 2, 1) := by decide +kernel
theorem dMo_deep_52 : decode (mC mMo_deep) 52 = .ok (.aload_n 0, 1) := by decide +kernel
theorem dMo_deep_53 : decode (mC mMo_deep) 53 = .ok (.getfield 44, 3) := by decide +kernel
theorem dMo_deep_56 : decode (mC mMo_deep) 56 = .ok (.iload_n 3, 1) := by decide +kernel
theorem dMo_deep_57 : decode (mC mMo_deep) 57 = .ok (.iaload, 1) := by decide +kernel
theorem dMo_deep_58 : decode (mC mMo_deep) 58 = .ok (.invokestatic 258, 3) := by decide +kernel
theorem dMo_deep_61 : decode (mC mMo_deep) 61 = .ok (.istore_n 2, 1) := by decide +kernel
theorem dMo_deep_62 : decode (mC mMo_deep) 62 = .ok (.iinc 3 (1), 3) := by decide +kernel
theorem dMo_deep_65 : decode (mC mMo_deep) 65 = .ok (.goto (-33), 3) := by decide +kernel
theorem dMo_deep_68 : decode (mC mMo_deep) 68 = .ok (.iload_n 2, 1) := by decide +kernel
theorem dMo_deep_69 : decode (mC mMo_deep) 69 = .ok (.ireturn, 1) := by decide +kernel
theorem bMo_deep_0 {E : mEn} {d : Nat} {σ : mSt} {Q : mPost} {a1 : Int32} {u2 : Value} {u3 : Value} : WP E (d + 1) mMo_deep 0 [.ref 166, .int a1, u2, u3] [] σ Q = WP E d mMo_isLoafAt 0 [.ref 166, .int a1] [] (sI (sI σ 166 1 0) 166 0 0) (fun r σ' => WP E (d + 1) mMo_deep 15 [.ref 166, .int a1, u2, u3] (r.toList ++ []) σ' Q) := (w_aload_n dMo_deep_0 rfl).trans ((w_iconst (v := 0) dMo_deep_1 rfl).trans ((w_puti dMo_deep_2 rz11_74 sh_166 rfl rfl rfl).trans ((w_aload_n dMo_deep_5 rfl).trans ((w_iconst (v := 0) dMo_deep_6 rfl).trans ((w_puti dMo_deep_7 rz11_77 sh_166 rfl rfl rfl).trans ((w_aload_n dMo_deep_10 rfl).trans ((w_iload_n dMo_deep_11 rfl).trans (w_virt (vs := [.int a1]) (st' := []) (es := [.ref 166, .int a1]) dMo_deep_12 rz11_335 rfl sh_166 rfl rfl rfl (Nat.le_of_ble_eq_true rfl) (Nat.le_of_ble_eq_true rfl) rfl))))))))
theorem bMo_deep_15 {E : mEn} {d : Nat} {σ : mSt} {Q : mPost} {a1 : Int32} {u2 : Value} {u3 : Value} {s0 : Int32} : WP E d mMo_deep 15 [.ref 166, .int a1, u2, u3] [.int s0] σ Q = (if ¬ s0 = 0 then WP E d mMo_deep 24 [.ref 166, .int a1, u2, u3] [] σ Q else WP E d mMo_deep 18 [.ref 166, .int a1, u2, u3] [] σ Q) := w_ifne (t := 24) dMo_deep_15 (by decide)
theorem bMo_deep_18 {E : mEn} {d : Nat} {σ : mSt} {Q : mPost} {a1 : Int32} {u2 : Value} {u3 : Value} : WP E (d + 1) mMo_deep 18 [.ref 166, .int a1, u2, u3] [] σ Q = WP E d mMo_refuse 0 [.ref 166, .int (nI 2)] [] σ (fun r σ' => WP E (d + 1) mMo_deep 23 [.ref 166, .int a1, u2, u3] (r.toList ++ []) σ' Q) := (w_aload_n dMo_deep_18 rfl).trans ((w_iconst (v := (nI 2)) dMo_deep_19 rfl).trans (w_virt (vs := [.int (nI 2)]) (st' := []) (es := [.ref 166, .int (nI 2)]) dMo_deep_20 rz11_329 rfl sh_166 rfl rfl rfl (Nat.le_of_ble_eq_true rfl) (Nat.le_of_ble_eq_true rfl) rfl))
theorem bMo_deep_23 {E : mEn} {d : Nat} {σ : mSt} {Q : mPost} {a1 : Int32} {u2 : Value} {u3 : Value} {s0 : Int32} : WP E d mMo_deep 23 [.ref 166, .int a1, u2, u3] [.int s0] σ Q = Q (some (.int s0)) σ := w_iret dMo_deep_23 rfl
theorem bMo_deep_24 {E : mEn} {d : Nat} {σ : mSt} {Q : mPost} {a1 : Int32} {u2 : Value} {u3 : Value} : WP E (d + 1) mMo_deep 24 [.ref 166, .int a1, u2, u3] [] σ Q = WP E d mMo_deepens 0 [.ref 166, uu, uu, uu] [] σ (fun r σ' => WP E (d + 1) mMo_deep 28 [.ref 166, .int a1, u2, u3] (r.toList ++ []) σ' Q) := (w_aload_n dMo_deep_24 rfl).trans (w_virt (vs := []) (st' := []) (es := [.ref 166, uu, uu, uu]) dMo_deep_25 rz11_350 rfl sh_166 rfl rfl rfl (Nat.le_of_ble_eq_true rfl) (Nat.le_of_ble_eq_true rfl) rfl)
theorem bMo_deep_28 {E : mEn} {d : Nat} {σ : mSt} {Q : mPost} {a1 : Int32} {u2 : Value} {u3 : Value} : WP E d mMo_deep 28 [.ref 166, .int a1, u2, u3] [] σ Q = WP E d mMo_deep 32 [.ref 166, .int a1, .int 0, .int 0] [] σ Q := (w_iconst (v := 0) dMo_deep_28 rfl).trans ((w_istore_n (ls' := [.ref 166, .int a1, .int 0, u3]) dMo_deep_29 (Nat.le_of_ble_eq_true rfl) rfl).trans ((w_iconst (v := 0) dMo_deep_30 rfl).trans (w_istore_n (ls' := [.ref 166, .int a1, .int 0, .int 0]) dMo_deep_31 (Nat.le_of_ble_eq_true rfl) rfl)))
theorem bMo_deep_32 {E : mEn} {d : Nat} {σ : mSt} {Q : mPost} {a1 : Int32} {a2 : Int32} {a3 : Int32} : WP E d mMo_deep 32 [.ref 166, .int a1, .int a2, .int a3] [] σ Q = (if mOut (nI 3) 3000 = true then False else (if (σ.1 171 3) ≤ a3 then WP E d mMo_deep 68 [.ref 166, .int a1, .int a2, .int a3] [] σ Q else WP E d mMo_deep 42 [.ref 166, .int a1, .int a2, .int a3] [] σ Q)) := (w_iload_n dMo_deep_32 rfl).trans ((w_aload_n dMo_deep_33 rfl).trans ((w_getr (r := 171) dMo_deep_34 rz11_35 sh_166 rfl).trans ((w_iconst (v := (nI 3)) dMo_deep_37 rfl).trans ((w_iald dMo_deep_38 sh_171 (by decide)).trans (ite_c (w_icmpge (t := 68) dMo_deep_39 (by decide)))))))
theorem bMo_deep_42 {E : mEn} {d : Nat} {σ : mSt} {Q : mPost} {a1 : Int32} {a2 : Int32} {a3 : Int32} : WP E (d + 1) mMo_deep 42 [.ref 166, .int a1, .int a2, .int a3] [] σ Q = WP E d mMo_isOfLoaf 0 [.ref 166, .int a3, .int a1] [] σ (fun r σ' => WP E (d + 1) mMo_deep 48 [.ref 166, .int a1, .int a2, .int a3] (r.toList ++ []) σ' Q) := (w_aload_n dMo_deep_42 rfl).trans ((w_iload_n dMo_deep_43 rfl).trans ((w_iload_n dMo_deep_44 rfl).trans (w_virt (vs := [.int a3, .int a1]) (st' := []) (es := [.ref 166, .int a3, .int a1]) dMo_deep_45 rz11_344 rfl sh_166 rfl rfl rfl (Nat.le_of_ble_eq_true rfl) (Nat.le_of_ble_eq_true rfl) rfl)))
theorem bMo_deep_48 {E : mEn} {d : Nat} {σ : mSt} {Q : mPost} {a1 : Int32} {a2 : Int32} {a3 : Int32} {s0 : Int32} : WP E d mMo_deep 48 [.ref 166, .int a1, .int a2, .int a3] [.int s0] σ Q = (if s0 = 0 then WP E d mMo_deep 62 [.ref 166, .int a1, .int a2, .int a3] [] σ Q else WP E d mMo_deep 51 [.ref 166, .int a1, .int a2, .int a3] [] σ Q) := w_ifeq (t := 62) dMo_deep_48 (by decide)
theorem bMo_deep_51 {E : mEn} {d : Nat} {σ : mSt} {Q : mPost} {a1 : Int32} {a2 : Int32} {a3 : Int32} : WP E d mMo_deep 51 [.ref 166, .int a1, .int a2, .int a3] [] σ Q = (if mOut a3 40 = true then False else WP E d mMo_deep 62 [.ref 166, .int a1, .int (if a2 < (σ.1 174 a3.toNatClampNeg) then (σ.1 174 a3.toNatClampNeg) else a2), .int a3] [] σ Q) := (w_iload_n dMo_deep_51 rfl).trans ((w_aload_n dMo_deep_52 rfl).trans ((w_getr (r := 174) dMo_deep_53 rz11_44 sh_166 rfl).trans ((w_iload_n dMo_deep_56 rfl).trans ((w_iald dMo_deep_57 sh_174 (by decide)).trans (ite_c ((w_max dMo_deep_58 rz11_258 (Nat.le_of_ble_eq_true rfl)).trans (w_istore_n (ls' := [.ref 166, .int a1, .int (if a2 < (σ.1 174 a3.toNatClampNeg) then (σ.1 174 a3.toNatClampNeg) else a2), .int a3]) dMo_deep_61 (Nat.le_of_ble_eq_true rfl) rfl)))))))
theorem bMo_deep_62 {E : mEn} {d : Nat} {σ : mSt} {Q : mPost} {a1 : Int32} {a2 : Int32} {a3 : Int32} : WP E d mMo_deep 62 [.ref 166, .int a1, .int a2, .int a3] [] σ Q = WP E d mMo_deep 32 [.ref 166, .int a1, .int a2, .int (a3 + 1)] [] σ Q := (w_iinc (v := 1) (ls' := [.ref 166, .int a1, .int a2, .int (a3 + 1)]) dMo_deep_62 rfl rfl rfl).trans (w_goto (t := 32) dMo_deep_65 (by decide))
theorem bMo_deep_68 {E : mEn} {d : Nat} {σ : mSt} {Q : mPost} {a1 : Int32} {a2 : Int32} {a3 : Int32} : WP E d mMo_deep 68 [.ref 166, .int a1, .int a2, .int a3] [] σ Q = Q (some (.int a2)) σ := (w_iload_n dMo_deep_68 rfl).trans (w_iret dMo_deep_69 rfl)
theorem dMo_deepens_0 : decode (mC mMo_deepens) 0 = .ok (.iconst (0), 1) := by decide +kernel
theorem dMo_deepens_1 : decode (mC mMo_deepens) 1 = .ok (.istore_n 1, 1) := by decide +kernel
theorem dMo_deepens_2 : decode (mC mMo_deepens) 2 = .ok (.iload_n 1, 1) := by decide +kernel
theorem dMo_deepens_3 : decode (mC mMo_deepens) 3 = .ok (.aload_n 0, 1) := by decide +kernel
theorem dMo_deepens_4 : decode (mC mMo_deepens) 4 = .ok (.getfield 35, 3) := by decide +kernel
theorem dMo_deepens_7 : decode (mC mMo_deepens) 7 = .ok (.iconst (3), 1) := by decide +kernel
theorem dMo_deepens_8 : decode (mC mMo_deepens) 8 = .ok (.iaload, 1) := by decide +kernel
theorem dMo_deepens_9 : decode (mC mMo_deepens) 9 = .ok (.if_icmp .ge (152), 3) := by decide +kernel
theorem dMo_deepens_12 : decode (mC mMo_deepens) 12 = .ok (.aload_n 0, 1) := by decide +kernel
theorem dMo_deepens_13 : decode (mC mMo_deepens) 13 = .ok (.getfield 44, 3) := by decide +kernel
theorem dMo_deepens_16 : decode (mC mMo_deepens) 16 = .ok (.iload_n 1, 1) := by decide +kernel
theorem dMo_deepens_17 : decode (mC mMo_deepens) 17 = .ok (.iconst (0), 1) := by decide +kernel
theorem dMo_deepens_18 : decode (mC mMo_deepens) 18 = .ok (.iastore, 1) := by decide +kernel
theorem dMo_deepens_19 : decode (mC mMo_deepens) 19 = .ok (.aload_n 0, 1) := by decide +kernel
theorem dMo_deepens_20 : decode (mC mMo_deepens) 20 = .ok (.getfield 35, 3) := by decide +kernel
theorem dMo_deepens_23 : decode (mC mMo_deepens) 23 = .ok (.iload_n 1, 1) := by decide +kernel
theorem dMo_deepens_24 : decode (mC mMo_deepens) 24 = .ok (.invokestatic 317, 3) := by decide +kernel
theorem dMo_deepens_27 : decode (mC mMo_deepens) 27 = .ok (.iconst (1), 1) := by decide +kernel
theorem dMo_deepens_28 : decode (mC mMo_deepens) 28 = .ok (.iadd, 1) := by decide +kernel
theorem dMo_deepens_29 : decode (mC mMo_deepens) 29 = .ok (.iaload, 1) := by decide +kernel
theorem dMo_deepens_30 : decode (mC mMo_deepens) 30 = .ok (.istore_n 2, 1) := by decide +kernel
theorem dMo_deepens_31 : decode (mC mMo_deepens) 31 = .ok (.aload_n 0, 1) := by decide +kernel
theorem dMo_deepens_32 : decode (mC mMo_deepens) 32 = .ok (.iload_n 1, 1) := by decide +kernel
theorem dMo_deepens_33 : decode (mC mMo_deepens) 33 = .ok (.invokevirtual 320, 3) := by decide +kernel
theorem dMo_deepens_36 : decode (mC mMo_deepens) 36 = .ok (.ifCond .ne (6), 3) := by decide +kernel
theorem dMo_deepens_39 : decode (mC mMo_deepens) 39 = .ok (.goto (116), 3) := by decide +kernel
theorem dMo_deepens_42 : decode (mC mMo_deepens) 42 = .ok (.aload_n 0, 1) := by decide +kernel
theorem dMo_deepens_43 : decode (mC mMo_deepens) 43 = .ok (.getfield 44, 3) := by decide +kernel
theorem dMo_deepens_46 : decode (mC mMo_deepens) 46 = .ok (.iload_n 1, 1) := by decide +kernel
theorem dMo_deepens_47 : decode (mC mMo_deepens) 47 = .ok (.aload_n 0, 1) := by decide +kernel
theorem dMo_deepens_48 : decode (mC mMo_deepens) 48 = .ok (.getfield 35, 3) := by decide +kernel
theorem dMo_deepens_51 : decode (mC mMo_deepens) 51 = .ok (.iload_n 1, 1) := by decide +kernel
theorem dMo_deepens_52 : decode (mC mMo_deepens) 52 = .ok (.invokestatic 317, 3) := by decide +kernel
theorem dMo_deepens_55 : decode (mC mMo_deepens) 55 = .ok (.iconst (2), 1) := by decide +kernel
theorem dMo_deepens_56 : decode (mC mMo_deepens) 56 = .ok (.iadd, 1) := by decide +kernel
theorem dMo_deepens_57 : decode (mC mMo_deepens) 57 = .ok (.iaload, 1) := by decide +kernel
theorem dMo_deepens_58 : decode (mC mMo_deepens) 58 = .ok (.aload_n 0, 1) := by decide +kernel
theorem dMo_deepens_59 : decode (mC mMo_deepens) 59 = .ok (.getfield 35, 3) := by decide +kernel
theorem dMo_deepens_62 : decode (mC mMo_deepens) 62 = .ok (.bipush (34), 2) := by decide +kernel
theorem dMo_deepens_64 : decode (mC mMo_deepens) 64 = .ok (.iload_n 2, 1) := by decide +kernel
theorem dMo_deepens_65 : decode (mC mMo_deepens) 65 = .ok (.iadd, 1) := by decide +kernel
theorem dMo_deepens_66 : decode (mC mMo_deepens) 66 = .ok (.iaload, 1) := by decide +kernel
theorem dMo_deepens_67 : decode (mC mMo_deepens) 67 = .ok (.if_icmp .ne (7), 3) := by decide +kernel
theorem dMo_deepens_70 : decode (mC mMo_deepens) 70 = .ok (.iconst (1), 1) := by decide +kernel
theorem dMo_deepens_71 : decode (mC mMo_deepens) 71 = .ok (.goto (4), 3) := by decide +kernel
theorem dMo_deepens_74 : decode (mC mMo_deepens) 74 = .ok (.iconst (0), 1) := by decide +kernel
theorem dMo_deepens_75 : decode (mC mMo_deepens) 75 = .ok (.iastore, 1) := by decide +kernel
theorem dMo_deepens_76 : decode (mC mMo_deepens) 76 = .ok (.iconst (0), 1) := by decide +kernel
theorem dMo_deepens_77 : decode (mC mMo_deepens) 77 = .ok (.istore_n 3, 1) := by decide +kernel
theorem dMo_deepens_78 : decode (mC mMo_deepens) 78 = .ok (.iload_n 3, 1) := by decide +kernel
theorem dMo_deepens_79 : decode (mC mMo_deepens) 79 = .ok (.iload_n 1, 1) := by decide +kernel
theorem dMo_deepens_80 : decode (mC mMo_deepens) 80 = .ok (.if_icmp .ge (75), 3) := by decide +kernel
theorem dMo_deepens_83 : decode (mC mMo_deepens) 83 = .ok (.aload_n 0, 1) := by decide +kernel
theorem dMo_deepens_84 : decode (mC mMo_deepens) 84 = .ok (.iload_n 3, 1) := by decide +kernel
theorem dMo_deepens_85 : decode (mC mMo_deepens) 85 = .ok (.iload_n 2, 1) := by decide +kernel
theorem dMo_deepens_86 : decode (mC mMo_deepens) 86 = .ok (.invokevirtual 344, 3) := by decide +kernel
theorem dMo_deepens_89 : decode (mC mMo_deepens) 89 = .ok (.ifCond .eq (60), 3) := by decide +kernel
theorem dMo_deepens_92 : decode (mC mMo_deepens) 92 = .ok (.aload_n 0, 1) := by decide +kernel
theorem dMo_deepens_93 : decode (mC mMo_deepens) 93 = .ok (.getfield 35, 3) := by decide +kernel
theorem dMo_deepens_96 : decode (mC mMo_deepens) 96 = .ok (.iload_n 3, 1) := by decide +kernel
theorem dMo_deepens_97 : decode (mC mMo_deepens) 97 = .ok (.invokestatic 317, 3) := by decide +kernel
theorem dMo_deepens_100 : decode (mC mMo_deepens) 100 = .ok (.iconst (3), 1) := by decide +kernel
theorem dMo_deepens_101 : decode (mC mMo_deepens) 101 = .ok (.iadd, 1) := by decide +kernel
theorem dMo_deepens_102 : decode (mC mMo_deepens) 102 = .ok (.iaload, 1) := by decide +kernel
theorem dMo_deepens_103 : decode (mC mMo_deepens) 103 = .ok (.aload_n 0, 1) := by decide +kernel
theorem dMo_deepens_104 : decode (mC mMo_deepens) 104 = .ok (.getfield 35, 3) := by decide +kernel
theorem dMo_deepens_107 : decode (mC mMo_deepens) 107 = .ok (.iload_n 1, 1) := by decide +kernel
theorem dMo_deepens_108 : decode (mC mMo_deepens) 108 = .ok (.invokestatic 317, 3) := by decide +kernel
theorem dMo_deepens_111 : decode (mC mMo_deepens) 111 = .ok (.iconst (2), 1) := by decide +kernel
theorem dMo_deepens_112 : decode (mC mMo_deepens) 112 = .ok (.iadd, 1) := by decide +kernel
theorem dMo_deepens_113 : decode (mC mMo_deepens) 113 = .ok (.iaload, 1) := by decide +kernel
theorem dMo_deepens_114 : decode (mC mMo_deepens) 114 = .ok (.if_icmp .ne (35), 3) := by decide +kernel
theorem dMo_deepens_117 : decode (mC mMo_deepens) 117 = .ok (.aload_n 0, 1) := by decide +kernel
theorem dMo_deepens_118 : decode (mC mMo_deepens) 118 = .ok (.getfield 44, 3) := by decide +kernel
theorem dMo_deepens_121 : decode (mC mMo_deepens) 121 = .ok (.iload_n 3, 1) := by decide +kernel
theorem dMo_deepens_122 : decode (mC mMo_deepens) 122 = .ok (.iaload, 1) := by decide +kernel
theorem dMo_deepens_123 : decode (mC mMo_deepens) 123 = .ok (.ifCond .le (26), 3) := by decide +kernel
theorem dMo_deepens_126 : decode (mC mMo_deepens) 126 = .ok (.aload_n 0, 1) := by decide +kernel
theorem dMo_deepens_127 : decode (mC mMo_deepens) 127 = .ok (.getfield 44, 3) := by decide +kernel
theorem dMo_deepens_130 : decode (mC mMo_deepens) 130 = .ok (.iload_n 1, 1) := by decide +kernel
theorem dMo_deepens_131 : decode (mC mMo_deepens) 131 = .ok (.aload_n 0, 1) := by decide +kernel
theorem dMo_deepens_132 : decode (mC mMo_deepens) 132 = .ok (.getfield 44, 3) := by decide +kernel
theorem dMo_deepens_135 : decode (mC mMo_deepens) 135 = .ok (.iload_n 1, 1) := by decide +kernel
theorem dMo_deepens_136 : decode (mC mMo_deepens) 136 = .ok (.iaload, 1) := by decide +kernel
theorem dMo_deepens_137 : decode (mC mMo_deepens) 137 = .ok (.aload_n 0, 1) := by decide +kernel
theorem dMo_deepens_138 : decode (mC mMo_deepens) 138 = .ok (.getfield 44, 3) := by decide +kernel
theorem dMo_deepens_141 : decode (mC mMo_deepens) 141 = .ok (.iload_n 3, 1) := by decide +kernel
theorem dMo_deepens_142 : decode (mC mMo_deepens) 142 = .ok (.iaload, 1) := by decide +kernel
theorem dMo_deepens_143 : decode (mC mMo_deepens) 143 = .ok (.iconst (1), 1) := by decide +kernel
theorem dMo_deepens_144 : decode (mC mMo_deepens) 144 = .ok (.iadd, 1) := by decide +kernel
theorem dMo_deepens_145 : decode (mC mMo_deepens) 145 = .ok (.invokestatic 258, 3) := by decide +kernel
theorem dMo_deepens_148 : decode (mC mMo_deepens) 148 = .ok (.iastore, 1) := by decide +kernel
theorem dMo_deepens_149 : decode (mC mMo_deepens) 149 = .ok (.iinc 3 (1), 3) := by decide +kernel
theorem dMo_deepens_152 : decode (mC mMo_deepens) 152 = .ok (.goto (-74), 3) := by decide +kernel
theorem dMo_deepens_155 : decode (mC mMo_deepens) 155 = .ok (.iinc 1 (1), 3) := by decide +kernel
theorem dMo_deepens_158 : decode (mC mMo_deepens) 158 = .ok (.goto (-156), 3) := by decide +kernel
theorem dMo_deepens_161 : decode (mC mMo_deepens) 161 = .ok (.return_, 1) := by decide +kernel
theorem bMo_deepens_0 {E : mEn} {d : Nat} {σ : mSt} {Q : mPost} {u1 : Value} {u2 : Value} {u3 : Value} : WP E d mMo_deepens 0 [.ref 166, u1, u2, u3] [] σ Q = WP E d mMo_deepens 2 [.ref 166, .int 0, u2, u3] [] σ Q := (w_iconst (v := 0) dMo_deepens_0 rfl).trans (w_istore_n (ls' := [.ref 166, .int 0, u2, u3]) dMo_deepens_1 (Nat.le_of_ble_eq_true rfl) rfl)
theorem bMo_deepens_2 {E : mEn} {d : Nat} {σ : mSt} {Q : mPost} {a1 : Int32} {u2 : Value} {u3 : Value} : WP E d mMo_deepens 2 [.ref 166, .int a1, u2, u3] [] σ Q = (if mOut (nI 3) 3000 = true then False else (if (σ.1 171 3) ≤ a1 then WP E d mMo_deepens 161 [.ref 166, .int a1, u2, u3] [] σ Q else WP E d mMo_deepens 12 [.ref 166, .int a1, u2, u3] [] σ Q)) := (w_iload_n dMo_deepens_2 rfl).trans ((w_aload_n dMo_deepens_3 rfl).trans ((w_getr (r := 171) dMo_deepens_4 rz11_35 sh_166 rfl).trans ((w_iconst (v := (nI 3)) dMo_deepens_7 rfl).trans ((w_iald dMo_deepens_8 sh_171 (by decide)).trans (ite_c (w_icmpge (t := 161) dMo_deepens_9 (by decide)))))))
theorem bMo_deepens_12 {E : mEn} {d : Nat} {σ : mSt} {Q : mPost} {a1 : Int32} {u2 : Value} {u3 : Value} : WP E (d + 1) mMo_deepens 12 [.ref 166, .int a1, u2, u3] [] σ Q = (if mOut a1 40 = true then False else WP E d mMo_part 0 [.int a1] [] (sI σ 174 a1.toNatClampNeg 0) (fun r σ' => WP E (d + 1) mMo_deepens 27 [.ref 166, .int a1, u2, u3] (r.toList ++ [.ref 171]) σ' Q)) := (w_aload_n dMo_deepens_12 rfl).trans ((w_getr (r := 174) dMo_deepens_13 rz11_44 sh_166 rfl).trans ((w_iload_n dMo_deepens_16 rfl).trans ((w_iconst (v := 0) dMo_deepens_17 rfl).trans ((w_iast dMo_deepens_18 sh_174).trans (ite_c ((w_aload_n dMo_deepens_19 rfl).trans ((w_getr (r := 171) dMo_deepens_20 rz11_35 sh_166 rfl).trans ((w_iload_n dMo_deepens_23 rfl).trans (w_stat (vs := [.int a1]) (st' := [.ref 171]) (es := [.int a1]) dMo_deepens_24 rz11_317 rfl rfl rfl (Nat.le_of_ble_eq_true rfl) (Nat.le_of_ble_eq_true rfl) rfl)))))))))
theorem bMo_deepens_27 {E : mEn} {d : Nat} {σ : mSt} {Q : mPost} {a1 : Int32} {u2 : Value} {u3 : Value} {s0 : Int32} : WP E (d + 1) mMo_deepens 27 [.ref 166, .int a1, u2, u3] [.int s0, .ref 171] σ Q = (if mOut (s0 + 1) 3000 = true then False else WP E d mMo_isMade 0 [.ref 166, .int a1] [] σ (fun r σ' => WP E (d + 1) mMo_deepens 36 [.ref 166, .int a1, .int (σ.1 171 (s0 + 1).toNatClampNeg), u3] (r.toList ++ []) σ' Q)) := (w_iconst (v := 1) dMo_deepens_27 rfl).trans ((w_iadd dMo_deepens_28).trans ((w_iald dMo_deepens_29 sh_171 (by decide)).trans (ite_c ((w_istore_n (ls' := [.ref 166, .int a1, .int (σ.1 171 (s0 + 1).toNatClampNeg), u3]) dMo_deepens_30 (Nat.le_of_ble_eq_true rfl) rfl).trans ((w_aload_n dMo_deepens_31 rfl).trans ((w_iload_n dMo_deepens_32 rfl).trans (w_virt (vs := [.int a1]) (st' := []) (es := [.ref 166, .int a1]) dMo_deepens_33 rz11_320 rfl sh_166 rfl rfl rfl (Nat.le_of_ble_eq_true rfl) (Nat.le_of_ble_eq_true rfl) rfl)))))))
theorem bMo_deepens_36 {E : mEn} {d : Nat} {σ : mSt} {Q : mPost} {a1 : Int32} {a2 : Int32} {u3 : Value} {s0 : Int32} : WP E d mMo_deepens 36 [.ref 166, .int a1, .int a2, u3] [.int s0] σ Q = (if ¬ s0 = 0 then WP E d mMo_deepens 42 [.ref 166, .int a1, .int a2, u3] [] σ Q else WP E d mMo_deepens 39 [.ref 166, .int a1, .int a2, u3] [] σ Q) := w_ifne (t := 42) dMo_deepens_36 (by decide)
theorem bMo_deepens_39 {E : mEn} {d : Nat} {σ : mSt} {Q : mPost} {a1 : Int32} {a2 : Int32} {u3 : Value} : WP E d mMo_deepens 39 [.ref 166, .int a1, .int a2, u3] [] σ Q = WP E d mMo_deepens 155 [.ref 166, .int a1, .int a2, u3] [] σ Q := w_goto (t := 155) dMo_deepens_39 (by decide)
theorem bMo_deepens_42 {E : mEn} {d : Nat} {σ : mSt} {Q : mPost} {a1 : Int32} {a2 : Int32} {u3 : Value} : WP E (d + 1) mMo_deepens 42 [.ref 166, .int a1, .int a2, u3] [] σ Q = WP E d mMo_part 0 [.int a1] [] σ (fun r σ' => WP E (d + 1) mMo_deepens 55 [.ref 166, .int a1, .int a2, u3] (r.toList ++ [.ref 171, .int a1, .ref 174]) σ' Q) := (w_aload_n dMo_deepens_42 rfl).trans ((w_getr (r := 174) dMo_deepens_43 rz11_44 sh_166 rfl).trans ((w_iload_n dMo_deepens_46 rfl).trans ((w_aload_n dMo_deepens_47 rfl).trans ((w_getr (r := 171) dMo_deepens_48 rz11_35 sh_166 rfl).trans ((w_iload_n dMo_deepens_51 rfl).trans (w_stat (vs := [.int a1]) (st' := [.ref 171, .int a1, .ref 174]) (es := [.int a1]) dMo_deepens_52 rz11_317 rfl rfl rfl (Nat.le_of_ble_eq_true rfl) (Nat.le_of_ble_eq_true rfl) rfl))))))
theorem bMo_deepens_55 {E : mEn} {d : Nat} {σ : mSt} {Q : mPost} {a1 : Int32} {a2 : Int32} {u3 : Value} {s0 : Int32} {s2 : Int32} : WP E d mMo_deepens 55 [.ref 166, .int a1, .int a2, u3] [.int s0, .ref 171, .int s2, .ref 174] σ Q = (if mOut (s0 + (nI 2)) 3000 = true then False else (if mOut ((nI 34) + a2) 3000 = true then False else (if ¬ (σ.1 171 (s0 + (nI 2)).toNatClampNeg) = (σ.1 171 ((nI 34) + a2).toNatClampNeg) then WP E d mMo_deepens 74 [.ref 166, .int a1, .int a2, u3] [.int s2, .ref 174] σ Q else WP E d mMo_deepens 70 [.ref 166, .int a1, .int a2, u3] [.int s2, .ref 174] σ Q))) := (w_iconst (v := (nI 2)) dMo_deepens_55 rfl).trans ((w_iadd dMo_deepens_56).trans ((w_iald dMo_deepens_57 sh_171 (by decide)).trans (ite_c ((w_aload_n dMo_deepens_58 rfl).trans ((w_getr (r := 171) dMo_deepens_59 rz11_35 sh_166 rfl).trans ((w_bipush (v := (nI 34)) dMo_deepens_62 rfl).trans ((w_iload_n dMo_deepens_64 rfl).trans ((w_iadd dMo_deepens_65).trans ((w_iald dMo_deepens_66 sh_171 (by decide)).trans (ite_c (w_icmpne (t := 74) dMo_deepens_67 (by decide))))))))))))
theorem bMo_deepens_70 {E : mEn} {d : Nat} {σ : mSt} {Q : mPost} {a1 : Int32} {a2 : Int32} {u3 : Value} {s0 : Int32} : WP E d mMo_deepens 70 [.ref 166, .int a1, .int a2, u3] [.int s0, .ref 174] σ Q = WP E d mMo_deepens 75 [.ref 166, .int a1, .int a2, u3] [.int 1, .int s0, .ref 174] σ Q := (w_iconst (v := 1) dMo_deepens_70 rfl).trans (w_goto (t := 75) dMo_deepens_71 (by decide))
theorem bMo_deepens_74 {E : mEn} {d : Nat} {σ : mSt} {Q : mPost} {a1 : Int32} {a2 : Int32} {u3 : Value} {s0 : Int32} : WP E d mMo_deepens 74 [.ref 166, .int a1, .int a2, u3] [.int s0, .ref 174] σ Q = WP E d mMo_deepens 75 [.ref 166, .int a1, .int a2, u3] [.int 0, .int s0, .ref 174] σ Q := w_iconst (v := 0) dMo_deepens_74 rfl
theorem bMo_deepens_75 {E : mEn} {d : Nat} {σ : mSt} {Q : mPost} {a1 : Int32} {a2 : Int32} {u3 : Value} {s0 : Int32} {s1 : Int32} : WP E d mMo_deepens 75 [.ref 166, .int a1, .int a2, u3] [.int s0, .int s1, .ref 174] σ Q = (if mOut s1 40 = true then False else WP E d mMo_deepens 78 [.ref 166, .int a1, .int a2, .int 0] [] (sI σ 174 s1.toNatClampNeg s0) Q) := (w_iast dMo_deepens_75 sh_174).trans (ite_c ((w_iconst (v := 0) dMo_deepens_76 rfl).trans (w_istore_n (ls' := [.ref 166, .int a1, .int a2, .int 0]) dMo_deepens_77 (Nat.le_of_ble_eq_true rfl) rfl)))
theorem bMo_deepens_78 {E : mEn} {d : Nat} {σ : mSt} {Q : mPost} {a1 : Int32} {a2 : Int32} {a3 : Int32} : WP E d mMo_deepens 78 [.ref 166, .int a1, .int a2, .int a3] [] σ Q = (if a1 ≤ a3 then WP E d mMo_deepens 155 [.ref 166, .int a1, .int a2, .int a3] [] σ Q else WP E d mMo_deepens 83 [.ref 166, .int a1, .int a2, .int a3] [] σ Q) := (w_iload_n dMo_deepens_78 rfl).trans ((w_iload_n dMo_deepens_79 rfl).trans (w_icmpge (t := 155) dMo_deepens_80 (by decide)))
theorem bMo_deepens_83 {E : mEn} {d : Nat} {σ : mSt} {Q : mPost} {a1 : Int32} {a2 : Int32} {a3 : Int32} : WP E (d + 1) mMo_deepens 83 [.ref 166, .int a1, .int a2, .int a3] [] σ Q = WP E d mMo_isOfLoaf 0 [.ref 166, .int a3, .int a2] [] σ (fun r σ' => WP E (d + 1) mMo_deepens 89 [.ref 166, .int a1, .int a2, .int a3] (r.toList ++ []) σ' Q) := (w_aload_n dMo_deepens_83 rfl).trans ((w_iload_n dMo_deepens_84 rfl).trans ((w_iload_n dMo_deepens_85 rfl).trans (w_virt (vs := [.int a3, .int a2]) (st' := []) (es := [.ref 166, .int a3, .int a2]) dMo_deepens_86 rz11_344 rfl sh_166 rfl rfl rfl (Nat.le_of_ble_eq_true rfl) (Nat.le_of_ble_eq_true rfl) rfl)))
theorem bMo_deepens_89 {E : mEn} {d : Nat} {σ : mSt} {Q : mPost} {a1 : Int32} {a2 : Int32} {a3 : Int32} {s0 : Int32} : WP E d mMo_deepens 89 [.ref 166, .int a1, .int a2, .int a3] [.int s0] σ Q = (if s0 = 0 then WP E d mMo_deepens 149 [.ref 166, .int a1, .int a2, .int a3] [] σ Q else WP E d mMo_deepens 92 [.ref 166, .int a1, .int a2, .int a3] [] σ Q) := w_ifeq (t := 149) dMo_deepens_89 (by decide)
theorem bMo_deepens_92 {E : mEn} {d : Nat} {σ : mSt} {Q : mPost} {a1 : Int32} {a2 : Int32} {a3 : Int32} : WP E (d + 1) mMo_deepens 92 [.ref 166, .int a1, .int a2, .int a3] [] σ Q = WP E d mMo_part 0 [.int a3] [] σ (fun r σ' => WP E (d + 1) mMo_deepens 100 [.ref 166, .int a1, .int a2, .int a3] (r.toList ++ [.ref 171]) σ' Q) := (w_aload_n dMo_deepens_92 rfl).trans ((w_getr (r := 171) dMo_deepens_93 rz11_35 sh_166 rfl).trans ((w_iload_n dMo_deepens_96 rfl).trans (w_stat (vs := [.int a3]) (st' := [.ref 171]) (es := [.int a3]) dMo_deepens_97 rz11_317 rfl rfl rfl (Nat.le_of_ble_eq_true rfl) (Nat.le_of_ble_eq_true rfl) rfl)))
theorem bMo_deepens_100 {E : mEn} {d : Nat} {σ : mSt} {Q : mPost} {a1 : Int32} {a2 : Int32} {a3 : Int32} {s0 : Int32} : WP E (d + 1) mMo_deepens 100 [.ref 166, .int a1, .int a2, .int a3] [.int s0, .ref 171] σ Q = (if mOut (s0 + (nI 3)) 3000 = true then False else WP E d mMo_part 0 [.int a1] [] σ (fun r σ' => WP E (d + 1) mMo_deepens 111 [.ref 166, .int a1, .int a2, .int a3] (r.toList ++ [.ref 171, .int (σ.1 171 (s0 + (nI 3)).toNatClampNeg)]) σ' Q)) := (w_iconst (v := (nI 3)) dMo_deepens_100 rfl).trans ((w_iadd dMo_deepens_101).trans ((w_iald dMo_deepens_102 sh_171 (by decide)).trans (ite_c ((w_aload_n dMo_deepens_103 rfl).trans ((w_getr (r := 171) dMo_deepens_104 rz11_35 sh_166 rfl).trans ((w_iload_n dMo_deepens_107 rfl).trans (w_stat (vs := [.int a1]) (st' := [.ref 171, .int (σ.1 171 (s0 + (nI 3)).toNatClampNeg)]) (es := [.int a1]) dMo_deepens_108 rz11_317 rfl rfl rfl (Nat.le_of_ble_eq_true rfl) (Nat.le_of_ble_eq_true rfl) rfl)))))))
theorem bMo_deepens_111 {E : mEn} {d : Nat} {σ : mSt} {Q : mPost} {a1 : Int32} {a2 : Int32} {a3 : Int32} {s0 : Int32} {s2 : Int32} : WP E d mMo_deepens 111 [.ref 166, .int a1, .int a2, .int a3] [.int s0, .ref 171, .int s2] σ Q = (if mOut (s0 + (nI 2)) 3000 = true then False else (if ¬ s2 = (σ.1 171 (s0 + (nI 2)).toNatClampNeg) then WP E d mMo_deepens 149 [.ref 166, .int a1, .int a2, .int a3] [] σ Q else WP E d mMo_deepens 117 [.ref 166, .int a1, .int a2, .int a3] [] σ Q)) := (w_iconst (v := (nI 2)) dMo_deepens_111 rfl).trans ((w_iadd dMo_deepens_112).trans ((w_iald dMo_deepens_113 sh_171 (by decide)).trans (ite_c (w_icmpne (t := 149) dMo_deepens_114 (by decide)))))
theorem bMo_deepens_117 {E : mEn} {d : Nat} {σ : mSt} {Q : mPost} {a1 : Int32} {a2 : Int32} {a3 : Int32} : WP E d mMo_deepens 117 [.ref 166, .int a1, .int a2, .int a3] [] σ Q = (if mOut a3 40 = true then False else (if (σ.1 174 a3.toNatClampNeg) ≤ 0 then WP E d mMo_deepens 149 [.ref 166, .int a1, .int a2, .int a3] [] σ Q else WP E d mMo_deepens 126 [.ref 166, .int a1, .int a2, .int a3] [] σ Q)) := (w_aload_n dMo_deepens_117 rfl).trans ((w_getr (r := 174) dMo_deepens_118 rz11_44 sh_166 rfl).trans ((w_iload_n dMo_deepens_121 rfl).trans ((w_iald dMo_deepens_122 sh_174 (by decide)).trans (ite_c (w_ifle (t := 149) dMo_deepens_123 (by decide))))))
theorem bMo_deepens_126 {E : mEn} {d : Nat} {σ : mSt} {Q : mPost} {a1 : Int32} {a2 : Int32} {a3 : Int32} : WP E d mMo_deepens 126 [.ref 166, .int a1, .int a2, .int a3] [] σ Q = (if mOut a1 40 = true then False else (if mOut a3 40 = true then False else (if mOut a1 40 = true then False else WP E d mMo_deepens 149 [.ref 166, .int a1, .int a2, .int a3] [] (sI σ 174 a1.toNatClampNeg (if (σ.1 174 a1.toNatClampNeg) < ((σ.1 174 a3.toNatClampNeg) + 1) then ((σ.1 174 a3.toNatClampNeg) + 1) else (σ.1 174 a1.toNatClampNeg))) Q))) := (w_aload_n dMo_deepens_126 rfl).trans ((w_getr (r := 174) dMo_deepens_127 rz11_44 sh_166 rfl).trans ((w_iload_n dMo_deepens_130 rfl).trans ((w_aload_n dMo_deepens_131 rfl).trans ((w_getr (r := 174) dMo_deepens_132 rz11_44 sh_166 rfl).trans ((w_iload_n dMo_deepens_135 rfl).trans ((w_iald dMo_deepens_136 sh_174 (by decide)).trans (ite_c ((w_aload_n dMo_deepens_137 rfl).trans ((w_getr (r := 174) dMo_deepens_138 rz11_44 sh_166 rfl).trans ((w_iload_n dMo_deepens_141 rfl).trans ((w_iald dMo_deepens_142 sh_174 (by decide)).trans (ite_c ((w_iconst (v := 1) dMo_deepens_143 rfl).trans ((w_iadd dMo_deepens_144).trans ((w_max dMo_deepens_145 rz11_258 (Nat.le_of_ble_eq_true rfl)).trans ((w_iast dMo_deepens_148 sh_174).trans (ite_c (rfl))))))))))))))))))
theorem bMo_deepens_149 {E : mEn} {d : Nat} {σ : mSt} {Q : mPost} {a1 : Int32} {a2 : Int32} {a3 : Int32} : WP E d mMo_deepens 149 [.ref 166, .int a1, .int a2, .int a3] [] σ Q = WP E d mMo_deepens 78 [.ref 166, .int a1, .int a2, .int (a3 + 1)] [] σ Q := (w_iinc (v := 1) (ls' := [.ref 166, .int a1, .int a2, .int (a3 + 1)]) dMo_deepens_149 rfl rfl rfl).trans (w_goto (t := 78) dMo_deepens_152 (by decide))
theorem bMo_deepens_155 {E : mEn} {d : Nat} {σ : mSt} {Q : mPost} {a1 : Int32} {a2 : Int32} {u3 : Value} : WP E d mMo_deepens 155 [.ref 166, .int a1, .int a2, u3] [] σ Q = WP E d mMo_deepens 2 [.ref 166, .int (a1 + 1), .int a2, u3] [] σ Q := (w_iinc (v := 1) (ls' := [.ref 166, .int (a1 + 1), .int a2, u3]) dMo_deepens_155 rfl rfl rfl).trans (w_goto (t := 2) dMo_deepens_158 (by decide))
theorem bMo_deepens_161 {E : mEn} {d : Nat} {σ : mSt} {Q : mPost} {a1 : Int32} {u2 : Value} {u3 : Value} : WP E d mMo_deepens 161 [.ref 166, .int a1, u2, u3] [] σ Q = Q none σ := w_vret dMo_deepens_161 rfl
theorem dMo_depth_0 : decode (mC mMo_depth) 0 = .ok (.aload_n 0, 1) := by decide +kernel
theorem dMo_depth_1 : decode (mC mMo_depth) 1 = .ok (.iconst (0), 1) := by decide +kernel
theorem dMo_depth_2 : decode (mC mMo_depth) 2 = .ok (.putfield 74, 3) := by decide +kernel
theorem dMo_depth_5 : decode (mC mMo_depth) 5 = .ok (.aload_n 0, 1) := by decide +kernel
theorem dMo_depth_6 : decode (mC mMo_depth) 6 = .ok (.iconst (0), 1) := by decide +kernel
theorem dMo_depth_7 : decode (mC mMo_depth) 7 = .ok (.putfield 77, 3) := by decide +kernel
theorem dMo_depth_10 : decode (mC mMo_depth) 10 = .ok (.aload_n 0, 1) := by decide +kernel
theorem dMo_depth_11 : decode (mC mMo_depth) 11 = .ok (.iload_n 1, 1) := by decide +kernel
theorem dMo_depth_12 : decode (mC mMo_depth) 12 = .ok (.invokevirtual 341, 3) := by decide +kernel
theorem dMo_depth_15 : decode (mC mMo_depth) 15 = .ok (.ifCond .ne (9), 3) := by decide +kernel
theorem dMo_depth_18 : decode (mC mMo_depth) 18 = .ok (.aload_n 0, 1) := by decide +kernel
theorem dMo_depth_19 : decode (mC mMo_depth) 19 = .ok (.iconst (2), 1) := by decide +kernel
theorem dMo_depth_20 : decode (mC mMo_depth) 20 = .ok (.invokevirtual 329, 3) := by decide +kernel
theorem dMo_depth_23 : decode (mC mMo_depth) 23 = .ok (.ireturn, 1) := by decide +kernel
theorem dMo_depth_24 : decode (mC mMo_depth) 24 = .ok (.aload_n 0, 1) := by decide +kernel
theorem dMo_depth_25 : decode (mC mMo_depth) 25 = .ok (.invokevirtual 350, 3) := by decide +kernel
theorem dMo_depth_28 : decode (mC mMo_depth) 28 = .ok (.aload_n 0, 1) := by decide +kernel
theorem dMo_depth_29 : decode (mC mMo_depth) 29 = .ok (.getfield 44, 3) := by decide +kernel
theorem dMo_depth_32 : decode (mC mMo_depth) 32 = .ok (.iload_n 1, 1) := by decide +kernel
theorem dMo_depth_33 : decode (mC mMo_depth) 33 = .ok (.iaload, 1) := by decide +kernel
theorem dMo_depth_34 : decode (mC mMo_depth) 34 = .ok (.ireturn, 1) := by decide +kernel
theorem bMo_depth_0 {E : mEn} {d : Nat} {σ : mSt} {Q : mPost} {a1 : Int32} : WP E (d + 1) mMo_depth 0 [.ref 166, .int a1] [] σ Q = WP E d mMo_isPromiseAt 0 [.ref 166, .int a1] [] (sI (sI σ 166 1 0) 166 0 0) (fun r σ' => WP E (d + 1) mMo_depth 15 [.ref 166, .int a1] (r.toList ++ []) σ' Q) := (w_aload_n dMo_depth_0 rfl).trans ((w_iconst (v := 0) dMo_depth_1 rfl).trans ((w_puti dMo_depth_2 rz11_74 sh_166 rfl rfl rfl).trans ((w_aload_n dMo_depth_5 rfl).trans ((w_iconst (v := 0) dMo_depth_6 rfl).trans ((w_puti dMo_depth_7 rz11_77 sh_166 rfl rfl rfl).trans ((w_aload_n dMo_depth_10 rfl).trans ((w_iload_n dMo_depth_11 rfl).trans (w_virt (vs := [.int a1]) (st' := []) (es := [.ref 166, .int a1]) dMo_depth_12 rz11_341 rfl sh_166 rfl rfl rfl (Nat.le_of_ble_eq_true rfl) (Nat.le_of_ble_eq_true rfl) rfl))))))))
theorem bMo_depth_15 {E : mEn} {d : Nat} {σ : mSt} {Q : mPost} {a1 : Int32} {s0 : Int32} : WP E d mMo_depth 15 [.ref 166, .int a1] [.int s0] σ Q = (if ¬ s0 = 0 then WP E d mMo_depth 24 [.ref 166, .int a1] [] σ Q else WP E d mMo_depth 18 [.ref 166, .int a1] [] σ Q) := w_ifne (t := 24) dMo_depth_15 (by decide)
theorem bMo_depth_18 {E : mEn} {d : Nat} {σ : mSt} {Q : mPost} {a1 : Int32} : WP E (d + 1) mMo_depth 18 [.ref 166, .int a1] [] σ Q = WP E d mMo_refuse 0 [.ref 166, .int (nI 2)] [] σ (fun r σ' => WP E (d + 1) mMo_depth 23 [.ref 166, .int a1] (r.toList ++ []) σ' Q) := (w_aload_n dMo_depth_18 rfl).trans ((w_iconst (v := (nI 2)) dMo_depth_19 rfl).trans (w_virt (vs := [.int (nI 2)]) (st' := []) (es := [.ref 166, .int (nI 2)]) dMo_depth_20 rz11_329 rfl sh_166 rfl rfl rfl (Nat.le_of_ble_eq_true rfl) (Nat.le_of_ble_eq_true rfl) rfl))
theorem bMo_depth_23 {E : mEn} {d : Nat} {σ : mSt} {Q : mPost} {a1 : Int32} {s0 : Int32} : WP E d mMo_depth 23 [.ref 166, .int a1] [.int s0] σ Q = Q (some (.int s0)) σ := w_iret dMo_depth_23 rfl
theorem bMo_depth_24 {E : mEn} {d : Nat} {σ : mSt} {Q : mPost} {a1 : Int32} : WP E (d + 1) mMo_depth 24 [.ref 166, .int a1] [] σ Q = WP E d mMo_deepens 0 [.ref 166, uu, uu, uu] [] σ (fun r σ' => WP E (d + 1) mMo_depth 28 [.ref 166, .int a1] (r.toList ++ []) σ' Q) := (w_aload_n dMo_depth_24 rfl).trans (w_virt (vs := []) (st' := []) (es := [.ref 166, uu, uu, uu]) dMo_depth_25 rz11_350 rfl sh_166 rfl rfl rfl (Nat.le_of_ble_eq_true rfl) (Nat.le_of_ble_eq_true rfl) rfl)
theorem bMo_depth_28 {E : mEn} {d : Nat} {σ : mSt} {Q : mPost} {a1 : Int32} : WP E d mMo_depth 28 [.ref 166, .int a1] [] σ Q = (if mOut a1 40 = true then False else Q (some (.int (σ.1 174 a1.toNatClampNeg))) σ) := (w_aload_n dMo_depth_28 rfl).trans ((w_getr (r := 174) dMo_depth_29 rz11_44 sh_166 rfl).trans ((w_iload_n dMo_depth_32 rfl).trans ((w_iald dMo_depth_33 sh_174 (by decide)).trans (ite_c (w_iret dMo_depth_34 rfl)))))
theorem dMo_first_0 : decode (mC mMo_first) 0 = .ok (.aload_n 0, 1) := by decide +kernel
theorem dMo_first_1 : decode (mC mMo_first) 1 = .ok (.iconst (0), 1) := by decide +kernel
theorem dMo_first_2 : decode (mC mMo_first) 2 = .ok (.putfield 74, 3) := by decide +kernel
theorem dMo_first_5 : decode (mC mMo_first) 5 = .ok (.aload_n 0, 1) := by decide +kernel
theorem dMo_first_6 : decode (mC mMo_first) 6 = .ok (.iconst (0), 1) := by decide +kernel
theorem dMo_first_7 : decode (mC mMo_first) 7 = .ok (.putfield 77, 3) := by decide +kernel
theorem dMo_first_10 : decode (mC mMo_first) 10 = .ok (.aload_n 0, 1) := by decide +kernel
theorem dMo_first_11 : decode (mC mMo_first) 11 = .ok (.iload_n 1, 1) := by decide +kernel
theorem dMo_first_12 : decode (mC mMo_first) 12 = .ok (.invokevirtual 332, 3) := by decide +kernel
theorem dMo_first_15 : decode (mC mMo_first) 15 = .ok (.ifCond .eq (19), 3) := by decide +kernel
theorem dMo_first_18 : decode (mC mMo_first) 18 = .ok (.aload_n 0, 1) := by decide +kernel
theorem dMo_first_19 : decode (mC mMo_first) 19 = .ok (.iload_n 2, 1) := by decide +kernel
theorem dMo_first_20 : decode (mC mMo_first) 20 = .ok (.invokevirtual 332, 3) := by decide +kernel
theorem dMo_first_23 : decode (mC mMo_first) 23 = .ok (.ifCond .eq (11), 3) := by decide +kernel
theorem dMo_first_26 : decode (mC mMo_first) 26 = .ok (.aload_n 0, 1) := by decide +kernel
theorem dMo_first_27 : decode (mC mMo_first) 27 = .ok (.iload_n 3, 1) := by decide +kernel
theorem dMo_first_28 : decode (mC mMo_first) 28 = .ok (.invokevirtual 335, 3) := by decide +kernel
theorem dMo_first_31 : decode (mC mMo_first) 31 = .ok (.ifCond .ne (9), 3) := by decide +kernel
theorem dMo_first_34 : decode (mC mMo_first) 34 = .ok (.aload_n 0, 1) := by decide +kernel
theorem dMo_first_35 : decode (mC mMo_first) 35 = .ok (.iconst (2), 1) := by decide +kernel
theorem dMo_first_36 : decode (mC mMo_first) 36 = .ok (.invokevirtual 329, 3) := by decide +kernel
theorem dMo_first_39 : decode (mC mMo_first) 39 = .ok (.ireturn, 1) := by decide +kernel
theorem dMo_first_40 : decode (mC mMo_first) 40 = .ok (.iload_n 1, 1) := by decide +kernel
theorem dMo_first_41 : decode (mC mMo_first) 41 = .ok (.iload_n 2, 1) := by decide +kernel
theorem dMo_first_42 : decode (mC mMo_first) 42 = .ok (.if_icmp .ne (9), 3) := by decide +kernel
theorem dMo_first_45 : decode (mC mMo_first) 45 = .ok (.aload_n 0, 1) := by decide +kernel
theorem dMo_first_46 : decode (mC mMo_first) 46 = .ok (.iconst (5), 1) := by decide +kernel
theorem dMo_first_47 : decode (mC mMo_first) 47 = .ok (.invokevirtual 329, 3) := by decide +kernel
theorem dMo_first_50 : decode (mC mMo_first) 50 = .ok (.ireturn, 1) := by decide +kernel
theorem dMo_first_51 : decode (mC mMo_first) 51 = .ok (.aload_n 0, 1) := by decide +kernel
theorem dMo_first_52 : decode (mC mMo_first) 52 = .ok (.iload_n 1, 1) := by decide +kernel
theorem dMo_first_53 : decode (mC mMo_first) 53 = .ok (.iload_n 3, 1) := by decide +kernel
theorem dMo_first_54 : decode (mC mMo_first) 54 = .ok (.invokevirtual 354, 3) := by decide +kernel
theorem dMo_first_57 : decode (mC mMo_first) 57 = .ok (.ldc_w 353, 3) := by decide +kernel
theorem dMo_first_60 : decode (mC mMo_first) 60 = .ok (.if_icmp .ne (22), 3) := by decide +kernel
theorem dMo_first_63 : decode (mC mMo_first) 63 = .ok (.aload_n 0, 1) := by decide +kernel
theorem dMo_first_64 : decode (mC mMo_first) 64 = .ok (.iload_n 2, 1) := by decide +kernel
theorem dMo_first_65 : decode (mC mMo_first) 65 = .ok (.iload_n 3, 1) := by decide +kernel
theorem dMo_first_66 : decode (mC mMo_first) 66 = .ok (.invokevirtual 354, 3) := by decide +kernel
theorem dMo_first_69 : decode (mC mMo_first) 69 = .ok (.ldc_w 353, 3) := by decide +kernel
theorem dMo_first_72 : decode (mC mMo_first) 72 = .ok (.if_icmp .ne (10), 3) := by decide +kernel
theorem dMo_first_75 : decode (mC mMo_first) 75 = .ok (.aload_n 0, 1) := by decide +kernel
theorem dMo_first_76 : decode (mC mMo_first) 76 = .ok (.bipush (8), 2) := by decide +kernel
theorem dMo_first_78 : decode (mC mMo_first) 78 = .ok (.invokevirtual 329, 3) := by decide +kernel
theorem dMo_first_81 : decode (mC mMo_first) 81 = .ok (.ireturn, 1) := by decide +kernel
theorem dMo_first_82 : decode (mC mMo_first) 82 = .ok (.aload_n 0, 1) := by decide +kernel
theorem dMo_first_83 : decode (mC mMo_first) 83 = .ok (.iload_n 1, 1) := by decide +kernel
theorem dMo_first_84 : decode (mC mMo_first) 84 = .ok (.iload_n 3, 1) := by decide +kernel
theorem dMo_first_85 : decode (mC mMo_first) 85 = .ok (.invokevirtual 354, 3) := by decide +kernel
theorem dMo_first_88 : decode (mC mMo_first) 88 = .ok (.aload_n 0, 1) := by decide +kernel
theorem dMo_first_89 : decode (mC mMo_first) 89 = .ok (.iload_n 2, 1) := by decide +kernel
theorem dMo_first_90 : decode (mC mMo_first) 90 = .ok (.iload_n 3, 1) := by decide +kernel
theorem dMo_first_91 : decode (mC mMo_first) 91 = .ok (.invokevirtual 354, 3) := by decide +kernel
theorem dMo_first_94 : decode (mC mMo_first) 94 = .ok (.if_icmp .ge (7), 3) := by decide +kernel
theorem dMo_first_97 : decode (mC mMo_first) 97 = .ok (.iload_n 1, 1) := by decide +kernel
theorem dMo_first_98 : decode (mC mMo_first) 98 = .ok (.goto (4), 3) := by decide +kernel
theorem dMo_first_101 : decode (mC mMo_first) 101 = .ok (.iload_n 2, 1) := by decide +kernel
theorem dMo_first_102 : decode (mC mMo_first) 102 = .ok (.ireturn, 1) := by decide +kernel
theorem bMo_first_0 {E : mEn} {d : Nat} {σ : mSt} {Q : mPost} {a1 : Int32} {a2 : Int32} {a3 : Int32} : WP E (d + 1) mMo_first 0 [.ref 166, .int a1, .int a2, .int a3] [] σ Q = WP E d mMo_isPersonAt 0 [.ref 166, .int a1] [] (sI (sI σ 166 1 0) 166 0 0) (fun r σ' => WP E (d + 1) mMo_first 15 [.ref 166, .int a1, .int a2, .int a3] (r.toList ++ []) σ' Q) := (w_aload_n dMo_first_0 rfl).trans ((w_iconst (v := 0) dMo_first_1 rfl).trans ((w_puti dMo_first_2 rz11_74 sh_166 rfl rfl rfl).trans ((w_aload_n dMo_first_5 rfl).trans ((w_iconst (v := 0) dMo_first_6 rfl).trans ((w_puti dMo_first_7 rz11_77 sh_166 rfl rfl rfl).trans ((w_aload_n dMo_first_10 rfl).trans ((w_iload_n dMo_first_11 rfl).trans (w_virt (vs := [.int a1]) (st' := []) (es := [.ref 166, .int a1]) dMo_first_12 rz11_332 rfl sh_166 rfl rfl rfl (Nat.le_of_ble_eq_true rfl) (Nat.le_of_ble_eq_true rfl) rfl))))))))
theorem bMo_first_15 {E : mEn} {d : Nat} {σ : mSt} {Q : mPost} {a1 : Int32} {a2 : Int32} {a3 : Int32} {s0 : Int32} : WP E d mMo_first 15 [.ref 166, .int a1, .int a2, .int a3] [.int s0] σ Q = (if s0 = 0 then WP E d mMo_first 34 [.ref 166, .int a1, .int a2, .int a3] [] σ Q else WP E d mMo_first 18 [.ref 166, .int a1, .int a2, .int a3] [] σ Q) := w_ifeq (t := 34) dMo_first_15 (by decide)
theorem bMo_first_18 {E : mEn} {d : Nat} {σ : mSt} {Q : mPost} {a1 : Int32} {a2 : Int32} {a3 : Int32} : WP E (d + 1) mMo_first 18 [.ref 166, .int a1, .int a2, .int a3] [] σ Q = WP E d mMo_isPersonAt 0 [.ref 166, .int a2] [] σ (fun r σ' => WP E (d + 1) mMo_first 23 [.ref 166, .int a1, .int a2, .int a3] (r.toList ++ []) σ' Q) := (w_aload_n dMo_first_18 rfl).trans ((w_iload_n dMo_first_19 rfl).trans (w_virt (vs := [.int a2]) (st' := []) (es := [.ref 166, .int a2]) dMo_first_20 rz11_332 rfl sh_166 rfl rfl rfl (Nat.le_of_ble_eq_true rfl) (Nat.le_of_ble_eq_true rfl) rfl))
theorem bMo_first_23 {E : mEn} {d : Nat} {σ : mSt} {Q : mPost} {a1 : Int32} {a2 : Int32} {a3 : Int32} {s0 : Int32} : WP E d mMo_first 23 [.ref 166, .int a1, .int a2, .int a3] [.int s0] σ Q = (if s0 = 0 then WP E d mMo_first 34 [.ref 166, .int a1, .int a2, .int a3] [] σ Q else WP E d mMo_first 26 [.ref 166, .int a1, .int a2, .int a3] [] σ Q) := w_ifeq (t := 34) dMo_first_23 (by decide)
theorem bMo_first_26 {E : mEn} {d : Nat} {σ : mSt} {Q : mPost} {a1 : Int32} {a2 : Int32} {a3 : Int32} : WP E (d + 1) mMo_first 26 [.ref 166, .int a1, .int a2, .int a3] [] σ Q = WP E d mMo_isLoafAt 0 [.ref 166, .int a3] [] σ (fun r σ' => WP E (d + 1) mMo_first 31 [.ref 166, .int a1, .int a2, .int a3] (r.toList ++ []) σ' Q) := (w_aload_n dMo_first_26 rfl).trans ((w_iload_n dMo_first_27 rfl).trans (w_virt (vs := [.int a3]) (st' := []) (es := [.ref 166, .int a3]) dMo_first_28 rz11_335 rfl sh_166 rfl rfl rfl (Nat.le_of_ble_eq_true rfl) (Nat.le_of_ble_eq_true rfl) rfl))
theorem bMo_first_31 {E : mEn} {d : Nat} {σ : mSt} {Q : mPost} {a1 : Int32} {a2 : Int32} {a3 : Int32} {s0 : Int32} : WP E d mMo_first 31 [.ref 166, .int a1, .int a2, .int a3] [.int s0] σ Q = (if ¬ s0 = 0 then WP E d mMo_first 40 [.ref 166, .int a1, .int a2, .int a3] [] σ Q else WP E d mMo_first 34 [.ref 166, .int a1, .int a2, .int a3] [] σ Q) := w_ifne (t := 40) dMo_first_31 (by decide)
theorem bMo_first_34 {E : mEn} {d : Nat} {σ : mSt} {Q : mPost} {a1 : Int32} {a2 : Int32} {a3 : Int32} : WP E (d + 1) mMo_first 34 [.ref 166, .int a1, .int a2, .int a3] [] σ Q = WP E d mMo_refuse 0 [.ref 166, .int (nI 2)] [] σ (fun r σ' => WP E (d + 1) mMo_first 39 [.ref 166, .int a1, .int a2, .int a3] (r.toList ++ []) σ' Q) := (w_aload_n dMo_first_34 rfl).trans ((w_iconst (v := (nI 2)) dMo_first_35 rfl).trans (w_virt (vs := [.int (nI 2)]) (st' := []) (es := [.ref 166, .int (nI 2)]) dMo_first_36 rz11_329 rfl sh_166 rfl rfl rfl (Nat.le_of_ble_eq_true rfl) (Nat.le_of_ble_eq_true rfl) rfl))
theorem bMo_first_39 {E : mEn} {d : Nat} {σ : mSt} {Q : mPost} {a1 : Int32} {a2 : Int32} {a3 : Int32} {s0 : Int32} : WP E d mMo_first 39 [.ref 166, .int a1, .int a2, .int a3] [.int s0] σ Q = Q (some (.int s0)) σ := w_iret dMo_first_39 rfl
theorem bMo_first_40 {E : mEn} {d : Nat} {σ : mSt} {Q : mPost} {a1 : Int32} {a2 : Int32} {a3 : Int32} : WP E d mMo_first 40 [.ref 166, .int a1, .int a2, .int a3] [] σ Q = (if ¬ a1 = a2 then WP E d mMo_first 51 [.ref 166, .int a1, .int a2, .int a3] [] σ Q else WP E d mMo_first 45 [.ref 166, .int a1, .int a2, .int a3] [] σ Q) := (w_iload_n dMo_first_40 rfl).trans ((w_iload_n dMo_first_41 rfl).trans (w_icmpne (t := 51) dMo_first_42 (by decide)))
theorem bMo_first_45 {E : mEn} {d : Nat} {σ : mSt} {Q : mPost} {a1 : Int32} {a2 : Int32} {a3 : Int32} : WP E (d + 1) mMo_first 45 [.ref 166, .int a1, .int a2, .int a3] [] σ Q = WP E d mMo_refuse 0 [.ref 166, .int (nI 5)] [] σ (fun r σ' => WP E (d + 1) mMo_first 50 [.ref 166, .int a1, .int a2, .int a3] (r.toList ++ []) σ' Q) := (w_aload_n dMo_first_45 rfl).trans ((w_iconst (v := (nI 5)) dMo_first_46 rfl).trans (w_virt (vs := [.int (nI 5)]) (st' := []) (es := [.ref 166, .int (nI 5)]) dMo_first_47 rz11_329 rfl sh_166 rfl rfl rfl (Nat.le_of_ble_eq_true rfl) (Nat.le_of_ble_eq_true rfl) rfl))
theorem bMo_first_50 {E : mEn} {d : Nat} {σ : mSt} {Q : mPost} {a1 : Int32} {a2 : Int32} {a3 : Int32} {s0 : Int32} : WP E d mMo_first 50 [.ref 166, .int a1, .int a2, .int a3] [.int s0] σ Q = Q (some (.int s0)) σ := w_iret dMo_first_50 rfl
theorem bMo_first_51 {E : mEn} {d : Nat} {σ : mSt} {Q : mPost} {a1 : Int32} {a2 : Int32} {a3 : Int32} : WP E (d + 1) mMo_first 51 [.ref 166, .int a1, .int a2, .int a3] [] σ Q = WP E d mMo_turnOf 0 [.ref 166, .int a1, .int a3, uu] [] σ (fun r σ' => WP E (d + 1) mMo_first 57 [.ref 166, .int a1, .int a2, .int a3] (r.toList ++ []) σ' Q) := (w_aload_n dMo_first_51 rfl).trans ((w_iload_n dMo_first_52 rfl).trans ((w_iload_n dMo_first_53 rfl).trans (w_virt (vs := [.int a1, .int a3]) (st' := []) (es := [.ref 166, .int a1, .int a3, uu]) dMo_first_54 rz11_354 rfl sh_166 rfl rfl rfl (Nat.le_of_ble_eq_true rfl) (Nat.le_of_ble_eq_true rfl) rfl)))
theorem bMo_first_57 {E : mEn} {d : Nat} {σ : mSt} {Q : mPost} {a1 : Int32} {a2 : Int32} {a3 : Int32} {s0 : Int32} : WP E d mMo_first 57 [.ref 166, .int a1, .int a2, .int a3] [.int s0] σ Q = (if ¬ s0 = (1000000) then WP E d mMo_first 82 [.ref 166, .int a1, .int a2, .int a3] [] σ Q else WP E d mMo_first 63 [.ref 166, .int a1, .int a2, .int a3] [] σ Q) := (w_ldc_w dMo_first_57 rz11_353).trans (w_icmpne (t := 82) dMo_first_60 (by decide))
theorem bMo_first_63 {E : mEn} {d : Nat} {σ : mSt} {Q : mPost} {a1 : Int32} {a2 : Int32} {a3 : Int32} : WP E (d + 1) mMo_first 63 [.ref 166, .int a1, .int a2, .int a3] [] σ Q = WP E d mMo_turnOf 0 [.ref 166, .int a2, .int a3, uu] [] σ (fun r σ' => WP E (d + 1) mMo_first 69 [.ref 166, .int a1, .int a2, .int a3] (r.toList ++ []) σ' Q) := (w_aload_n dMo_first_63 rfl).trans ((w_iload_n dMo_first_64 rfl).trans ((w_iload_n dMo_first_65 rfl).trans (w_virt (vs := [.int a2, .int a3]) (st' := []) (es := [.ref 166, .int a2, .int a3, uu]) dMo_first_66 rz11_354 rfl sh_166 rfl rfl rfl (Nat.le_of_ble_eq_true rfl) (Nat.le_of_ble_eq_true rfl) rfl)))
theorem bMo_first_69 {E : mEn} {d : Nat} {σ : mSt} {Q : mPost} {a1 : Int32} {a2 : Int32} {a3 : Int32} {s0 : Int32} : WP E d mMo_first 69 [.ref 166, .int a1, .int a2, .int a3] [.int s0] σ Q = (if ¬ s0 = (1000000) then WP E d mMo_first 82 [.ref 166, .int a1, .int a2, .int a3] [] σ Q else WP E d mMo_first 75 [.ref 166, .int a1, .int a2, .int a3] [] σ Q) := (w_ldc_w dMo_first_69 rz11_353).trans (w_icmpne (t := 82) dMo_first_72 (by decide))
theorem bMo_first_75 {E : mEn} {d : Nat} {σ : mSt} {Q : mPost} {a1 : Int32} {a2 : Int32} {a3 : Int32} : WP E (d + 1) mMo_first 75 [.ref 166, .int a1, .int a2, .int a3] [] σ Q = WP E d mMo_refuse 0 [.ref 166, .int (nI 8)] [] σ (fun r σ' => WP E (d + 1) mMo_first 81 [.ref 166, .int a1, .int a2, .int a3] (r.toList ++ []) σ' Q) := (w_aload_n dMo_first_75 rfl).trans ((w_bipush (v := (nI 8)) dMo_first_76 rfl).trans (w_virt (vs := [.int (nI 8)]) (st' := []) (es := [.ref 166, .int (nI 8)]) dMo_first_78 rz11_329 rfl sh_166 rfl rfl rfl (Nat.le_of_ble_eq_true rfl) (Nat.le_of_ble_eq_true rfl) rfl))
theorem bMo_first_81 {E : mEn} {d : Nat} {σ : mSt} {Q : mPost} {a1 : Int32} {a2 : Int32} {a3 : Int32} {s0 : Int32} : WP E d mMo_first 81 [.ref 166, .int a1, .int a2, .int a3] [.int s0] σ Q = Q (some (.int s0)) σ := w_iret dMo_first_81 rfl
theorem bMo_first_82 {E : mEn} {d : Nat} {σ : mSt} {Q : mPost} {a1 : Int32} {a2 : Int32} {a3 : Int32} : WP E (d + 1) mMo_first 82 [.ref 166, .int a1, .int a2, .int a3] [] σ Q = WP E d mMo_turnOf 0 [.ref 166, .int a1, .int a3, uu] [] σ (fun r σ' => WP E (d + 1) mMo_first 88 [.ref 166, .int a1, .int a2, .int a3] (r.toList ++ []) σ' Q) := (w_aload_n dMo_first_82 rfl).trans ((w_iload_n dMo_first_83 rfl).trans ((w_iload_n dMo_first_84 rfl).trans (w_virt (vs := [.int a1, .int a3]) (st' := []) (es := [.ref 166, .int a1, .int a3, uu]) dMo_first_85 rz11_354 rfl sh_166 rfl rfl rfl (Nat.le_of_ble_eq_true rfl) (Nat.le_of_ble_eq_true rfl) rfl)))
theorem bMo_first_88 {E : mEn} {d : Nat} {σ : mSt} {Q : mPost} {a1 : Int32} {a2 : Int32} {a3 : Int32} {s0 : Int32} : WP E (d + 1) mMo_first 88 [.ref 166, .int a1, .int a2, .int a3] [.int s0] σ Q = WP E d mMo_turnOf 0 [.ref 166, .int a2, .int a3, uu] [] σ (fun r σ' => WP E (d + 1) mMo_first 94 [.ref 166, .int a1, .int a2, .int a3] (r.toList ++ [.int s0]) σ' Q) := (w_aload_n dMo_first_88 rfl).trans ((w_iload_n dMo_first_89 rfl).trans ((w_iload_n dMo_first_90 rfl).trans (w_virt (vs := [.int a2, .int a3]) (st' := [.int s0]) (es := [.ref 166, .int a2, .int a3, uu]) dMo_first_91 rz11_354 rfl sh_166 rfl rfl rfl (Nat.le_of_ble_eq_true rfl) (Nat.le_of_ble_eq_true rfl) rfl)))
theorem bMo_first_94 {E : mEn} {d : Nat} {σ : mSt} {Q : mPost} {a1 : Int32} {a2 : Int32} {a3 : Int32} {s0 : Int32} {s1 : Int32} : WP E d mMo_first 94 [.ref 166, .int a1, .int a2, .int a3] [.int s0, .int s1] σ Q = (if s0 ≤ s1 then WP E d mMo_first 101 [.ref 166, .int a1, .int a2, .int a3] [] σ Q else WP E d mMo_first 97 [.ref 166, .int a1, .int a2, .int a3] [] σ Q) := w_icmpge (t := 101) dMo_first_94 (by decide)
theorem bMo_first_97 {E : mEn} {d : Nat} {σ : mSt} {Q : mPost} {a1 : Int32} {a2 : Int32} {a3 : Int32} : WP E d mMo_first 97 [.ref 166, .int a1, .int a2, .int a3] [] σ Q = WP E d mMo_first 102 [.ref 166, .int a1, .int a2, .int a3] [.int a1] σ Q := (w_iload_n dMo_first_97 rfl).trans (w_goto (t := 102) dMo_first_98 (by decide))
theorem bMo_first_101 {E : mEn} {d : Nat} {σ : mSt} {Q : mPost} {a1 : Int32} {a2 : Int32} {a3 : Int32} : WP E d mMo_first 101 [.ref 166, .int a1, .int a2, .int a3] [] σ Q = WP E d mMo_first 102 [.ref 166, .int a1, .int a2, .int a3] [.int a2] σ Q := w_iload_n dMo_first_101 rfl
theorem bMo_first_102 {E : mEn} {d : Nat} {σ : mSt} {Q : mPost} {a1 : Int32} {a2 : Int32} {a3 : Int32} {s0 : Int32} : WP E d mMo_first 102 [.ref 166, .int a1, .int a2, .int a3] [.int s0] σ Q = Q (some (.int s0)) σ := w_iret dMo_first_102 rfl
theorem dMo_turnOf_0 : decode (mC mMo_turnOf) 0 = .ok (.aload_n 0, 1) := by decide +kernel
theorem dMo_turnOf_1 : decode (mC mMo_turnOf) 1 = .ok (.getfield 35, 3) := by decide +kernel
theorem dMo_turnOf_4 : decode (mC mMo_turnOf) 4 = .ok (.bipush (34), 2) := by decide +kernel
theorem dMo_turnOf_6 : decode (mC mMo_turnOf) 6 = .ok (.iload_n 2, 1) := by decide +kernel
theorem dMo_turnOf_7 : decode (mC mMo_turnOf) 7 = .ok (.iadd, 1) := by decide +kernel
theorem dMo_turnOf_8 : decode (mC mMo_turnOf) 8 = .ok (.iaload, 1) := by decide +kernel
theorem dMo_turnOf_9 : decode (mC mMo_turnOf) 9 = .ok (.iload_n 1, 1) := by decide +kernel
theorem dMo_turnOf_10 : decode (mC mMo_turnOf) 10 = .ok (.if_icmp .ne (5), 3) := by decide +kernel
theorem dMo_turnOf_13 : decode (mC mMo_turnOf) 13 = .ok (.iconst (-1), 1) := by decide +kernel
theorem dMo_turnOf_14 : decode (mC mMo_turnOf) 14 = .ok (.ireturn, 1) := by decide +kernel
theorem dMo_turnOf_15 : decode (mC mMo_turnOf) 15 = .ok (.iconst (0), 1) := by decide +kernel
theorem dMo_turnOf_16 : decode (mC mMo_turnOf) 16 = .ok (.istore_n 3, 1) := by decide +kernel
theorem dMo_turnOf_17 : decode (mC mMo_turnOf) 17 = .ok (.iload_n 3, 1) := by decide +kernel
theorem dMo_turnOf_18 : decode (mC mMo_turnOf) 18 = .ok (.aload_n 0, 1) := by decide +kernel
theorem dMo_turnOf_19 : decode (mC mMo_turnOf) 19 = .ok (.getfield 35, 3) := by decide +kernel
theorem dMo_turnOf_22 : decode (mC mMo_turnOf) 22 = .ok (.iconst (3), 1) := by decide +kernel
theorem dMo_turnOf_23 : decode (mC mMo_turnOf) 23 = .ok (.iaload, 1) := by decide +kernel
theorem dMo_turnOf_24 : decode (mC mMo_turnOf) 24 = .ok (.if_icmp .ge (35), 3) := by decide +kernel
theorem dMo_turnOf_27 : decode (mC mMo_turnOf) 27 = .ok (.aload_n 0, 1) := by decide +kernel
theorem dMo_turnOf_28 : decode (mC mMo_turnOf) 28 = .ok (.iload_n 3, 1) := by decide +kernel
theorem dMo_turnOf_29 : decode (mC mMo_turnOf) 29 = .ok (.iload_n 2, 1) := by decide +kernel
theorem dMo_turnOf_30 : decode (mC mMo_turnOf) 30 = .ok (.invokevirtual 344, 3) := by decide +kernel
theorem dMo_turnOf_33 : decode (mC mMo_turnOf) 33 = .ok (.ifCond .eq (20), 3) := by decide +kernel
theorem dMo_turnOf_36 : decode (mC mMo_turnOf) 36 = .ok (.aload_n 0, 1) := by decide +kernel
theorem dMo_turnOf_37 : decode (mC mMo_turnOf) 37 = .ok (.getfield 35, 3) := by decide +kernel
theorem dMo_turnOf_40 : decode (mC mMo_turnOf) 40 = .ok (.iload_n 3, 1) := by decide +kernel
theorem dMo_turnOf_41 : decode (mC mMo_turnOf) 41 = .ok (.invokestatic 317, 3) := by decide +kernel
theorem dMo_turnOf_44 : decode (mC mMo_turnOf) 44 = .ok (.iconst (3), 1) := by decide +kernel
theorem dMo_turnOf_45 : decode (mC mMo_turnOf) 45 = .ok (.iadd, 1) := by decide +kernel
theorem dMo_turnOf_46 : decode (mC mMo_turnOf) 46 = .ok (.iaload, 1) := by decide +kernel
theorem dMo_turnOf_47 : decode (mC mMo_turnOf) 47 = .ok (.iload_n 1, 1) := by decide +kernel
theorem dMo_turnOf_48 : decode (mC mMo_turnOf) 48 = .ok (.if_icmp .ne (5), 3) := by decide +kernel
theorem dMo_turnOf_51 : decode (mC mMo_turnOf) 51 = .ok (.iload_n 3, 1) := by decide +kernel
theorem dMo_turnOf_52 : decode (mC mMo_turnOf) 52 = .ok (.ireturn, 1) := by decide +kernel
theorem dMo_turnOf_53 : decode (mC mMo_turnOf) 53 = .ok (.iinc 3 (1), 3) := by decide +kernel
theorem dMo_turnOf_56 : decode (mC mMo_turnOf) 56 = .ok (.goto (-39), 3) := by decide +kernel
theorem dMo_turnOf_59 : decode (mC mMo_turnOf) 59 = .ok (.ldc_w 353, 3) := by decide +kernel
theorem dMo_turnOf_62 : decode (mC mMo_turnOf) 62 = .ok (.ireturn, 1) := by decide +kernel
theorem bMo_turnOf_0 {E : mEn} {d : Nat} {σ : mSt} {Q : mPost} {a1 : Int32} {a2 : Int32} {u3 : Value} : WP E d mMo_turnOf 0 [.ref 166, .int a1, .int a2, u3] [] σ Q = (if mOut ((nI 34) + a2) 3000 = true then False else (if ¬ (σ.1 171 ((nI 34) + a2).toNatClampNeg) = a1 then WP E d mMo_turnOf 15 [.ref 166, .int a1, .int a2, u3] [] σ Q else WP E d mMo_turnOf 13 [.ref 166, .int a1, .int a2, u3] [] σ Q)) := (w_aload_n dMo_turnOf_0 rfl).trans ((w_getr (r := 171) dMo_turnOf_1 rz11_35 sh_166 rfl).trans ((w_bipush (v := (nI 34)) dMo_turnOf_4 rfl).trans ((w_iload_n dMo_turnOf_6 rfl).trans ((w_iadd dMo_turnOf_7).trans ((w_iald dMo_turnOf_8 sh_171 (by decide)).trans (ite_c ((w_iload_n dMo_turnOf_9 rfl).trans (w_icmpne (t := 15) dMo_turnOf_10 (by decide)))))))))
theorem bMo_turnOf_13 {E : mEn} {d : Nat} {σ : mSt} {Q : mPost} {a1 : Int32} {a2 : Int32} {u3 : Value} : WP E d mMo_turnOf 13 [.ref 166, .int a1, .int a2, u3] [] σ Q = Q (some (.int (-1))) σ := (w_iconst (v := (-1)) dMo_turnOf_13 rfl).trans (w_iret dMo_turnOf_14 rfl)
theorem bMo_turnOf_15 {E : mEn} {d : Nat} {σ : mSt} {Q : mPost} {a1 : Int32} {a2 : Int32} {u3 : Value} : WP E d mMo_turnOf 15 [.ref 166, .int a1, .int a2, u3] [] σ Q = WP E d mMo_turnOf 17 [.ref 166, .int a1, .int a2, .int 0] [] σ Q := (w_iconst (v := 0) dMo_turnOf_15 rfl).trans (w_istore_n (ls' := [.ref 166, .int a1, .int a2, .int 0]) dMo_turnOf_16 (Nat.le_of_ble_eq_true rfl) rfl)
theorem bMo_turnOf_17 {E : mEn} {d : Nat} {σ : mSt} {Q : mPost} {a1 : Int32} {a2 : Int32} {a3 : Int32} : WP E d mMo_turnOf 17 [.ref 166, .int a1, .int a2, .int a3] [] σ Q = (if mOut (nI 3) 3000 = true then False else (if (σ.1 171 3) ≤ a3 then WP E d mMo_turnOf 59 [.ref 166, .int a1, .int a2, .int a3] [] σ Q else WP E d mMo_turnOf 27 [.ref 166, .int a1, .int a2, .int a3] [] σ Q)) := (w_iload_n dMo_turnOf_17 rfl).trans ((w_aload_n dMo_turnOf_18 rfl).trans ((w_getr (r := 171) dMo_turnOf_19 rz11_35 sh_166 rfl).trans ((w_iconst (v := (nI 3)) dMo_turnOf_22 rfl).trans ((w_iald dMo_turnOf_23 sh_171 (by decide)).trans (ite_c (w_icmpge (t := 59) dMo_turnOf_24 (by decide)))))))
theorem bMo_turnOf_27 {E : mEn} {d : Nat} {σ : mSt} {Q : mPost} {a1 : Int32} {a2 : Int32} {a3 : Int32} : WP E (d + 1) mMo_turnOf 27 [.ref 166, .int a1, .int a2, .int a3] [] σ Q = WP E d mMo_isOfLoaf 0 [.ref 166, .int a3, .int a2] [] σ (fun r σ' => WP E (d + 1) mMo_turnOf 33 [.ref 166, .int a1, .int a2, .int a3] (r.toList ++ []) σ' Q) := (w_aload_n dMo_turnOf_27 rfl).trans ((w_iload_n dMo_turnOf_28 rfl).trans ((w_iload_n dMo_turnOf_29 rfl).trans (w_virt (vs := [.int a3, .int a2]) (st' := []) (es := [.ref 166, .int a3, .int a2]) dMo_turnOf_30 rz11_344 rfl sh_166 rfl rfl rfl (Nat.le_of_ble_eq_true rfl) (Nat.le_of_ble_eq_true rfl) rfl)))
theorem bMo_turnOf_33 {E : mEn} {d : Nat} {σ : mSt} {Q : mPost} {a1 : Int32} {a2 : Int32} {a3 : Int32} {s0 : Int32} : WP E d mMo_turnOf 33 [.ref 166, .int a1, .int a2, .int a3] [.int s0] σ Q = (if s0 = 0 then WP E d mMo_turnOf 53 [.ref 166, .int a1, .int a2, .int a3] [] σ Q else WP E d mMo_turnOf 36 [.ref 166, .int a1, .int a2, .int a3] [] σ Q) := w_ifeq (t := 53) dMo_turnOf_33 (by decide)
theorem bMo_turnOf_36 {E : mEn} {d : Nat} {σ : mSt} {Q : mPost} {a1 : Int32} {a2 : Int32} {a3 : Int32} : WP E (d + 1) mMo_turnOf 36 [.ref 166, .int a1, .int a2, .int a3] [] σ Q = WP E d mMo_part 0 [.int a3] [] σ (fun r σ' => WP E (d + 1) mMo_turnOf 44 [.ref 166, .int a1, .int a2, .int a3] (r.toList ++ [.ref 171]) σ' Q) := (w_aload_n dMo_turnOf_36 rfl).trans ((w_getr (r := 171) dMo_turnOf_37 rz11_35 sh_166 rfl).trans ((w_iload_n dMo_turnOf_40 rfl).trans (w_stat (vs := [.int a3]) (st' := [.ref 171]) (es := [.int a3]) dMo_turnOf_41 rz11_317 rfl rfl rfl (Nat.le_of_ble_eq_true rfl) (Nat.le_of_ble_eq_true rfl) rfl)))
theorem bMo_turnOf_44 {E : mEn} {d : Nat} {σ : mSt} {Q : mPost} {a1 : Int32} {a2 : Int32} {a3 : Int32} {s0 : Int32} : WP E d mMo_turnOf 44 [.ref 166, .int a1, .int a2, .int a3] [.int s0, .ref 171] σ Q = (if mOut (s0 + (nI 3)) 3000 = true then False else (if ¬ (σ.1 171 (s0 + (nI 3)).toNatClampNeg) = a1 then WP E d mMo_turnOf 53 [.ref 166, .int a1, .int a2, .int a3] [] σ Q else WP E d mMo_turnOf 51 [.ref 166, .int a1, .int a2, .int a3] [] σ Q)) := (w_iconst (v := (nI 3)) dMo_turnOf_44 rfl).trans ((w_iadd dMo_turnOf_45).trans ((w_iald dMo_turnOf_46 sh_171 (by decide)).trans (ite_c ((w_iload_n dMo_turnOf_47 rfl).trans (w_icmpne (t := 53) dMo_turnOf_48 (by decide))))))
theorem bMo_turnOf_51 {E : mEn} {d : Nat} {σ : mSt} {Q : mPost} {a1 : Int32} {a2 : Int32} {a3 : Int32} : WP E d mMo_turnOf 51 [.ref 166, .int a1, .int a2, .int a3] [] σ Q = Q (some (.int a3)) σ := (w_iload_n dMo_turnOf_51 rfl).trans (w_iret dMo_turnOf_52 rfl)
theorem bMo_turnOf_53 {E : mEn} {d : Nat} {σ : mSt} {Q : mPost} {a1 : Int32} {a2 : Int32} {a3 : Int32} : WP E d mMo_turnOf 53 [.ref 166, .int a1, .int a2, .int a3] [] σ Q = WP E d mMo_turnOf 17 [.ref 166, .int a1, .int a2, .int (a3 + 1)] [] σ Q := (w_iinc (v := 1) (ls' := [.ref 166, .int a1, .int a2, .int (a3 + 1)]) dMo_turnOf_53 rfl rfl rfl).trans (w_goto (t := 17) dMo_turnOf_56 (by decide))
theorem bMo_turnOf_59 {E : mEn} {d : Nat} {σ : mSt} {Q : mPost} {a1 : Int32} {a2 : Int32} {a3 : Int32} : WP E d mMo_turnOf 59 [.ref 166, .int a1, .int a2, .int a3] [] σ Q = Q (some (.int (1000000))) σ := (w_ldc_w dMo_turnOf_59 rz11_353).trans (w_iret dMo_turnOf_62 rfl)
theorem dMo_line_0 : decode (mC mMo_line) 0 = .ok (.aload_n 0, 1) := by decide +kernel
theorem dMo_line_1 : decode (mC mMo_line) 1 = .ok (.iconst (0), 1) := by decide +kernel
theorem dMo_line_2 : decode (mC mMo_line) 2 = .ok (.putfield 74, 3) := by decide +kernel
theorem dMo_line_5 : decode (mC mMo_line) 5 = .ok (.aload_n 0, 1) := by decide +kernel
theorem dMo_line_6 : decode (mC mMo_line) 6 = .ok (.iconst (0), 1) := by decide +kernel
theorem dMo_line_7 : decode (mC mMo_line) 7 = .ok (.putfield 77, 3) := by decide +kernel
theorem dMo_line_10 : decode (mC mMo_line) 10 = .ok (.aload_n 0, 1) := by decide +kernel
theorem dMo_line_11 : decode (mC mMo_line) 11 = .ok (.iload_n 1, 1) := by decide +kernel
theorem dMo_line_12 : decode (mC mMo_line) 12 = .ok (.invokevirtual 335, 3) := by decide +kernel
theorem dMo_line_15 : decode (mC mMo_line) 15 = .ok (.ifCond .ne (9), 3) := by decide +kernel
theorem dMo_line_18 : decode (mC mMo_line) 18 = .ok (.aload_n 0, 1) := by decide +kernel
theorem dMo_line_19 : decode (mC mMo_line) 19 = .ok (.iconst (2), 1) := by decide +kernel
theorem dMo_line_20 : decode (mC mMo_line) 20 = .ok (.invokevirtual 329, 3) := by decide +kernel
theorem dMo_line_23 : decode (mC mMo_line) 23 = .ok (.ireturn, 1) := by decide +kernel
theorem dMo_line_24 : decode (mC mMo_line) 24 = .ok (.aload_n 0, 1) := by decide +kernel
theorem dMo_line_25 : decode (mC mMo_line) 25 = .ok (.iload_n 1, 1) := by decide +kernel
theorem dMo_line_26 : decode (mC mMo_line) 26 = .ok (.invokevirtual 360, 3) := by decide +kernel
theorem dMo_line_29 : decode (mC mMo_line) 29 = .ok (.iload_n 2, 1) := by decide +kernel
theorem dMo_line_30 : decode (mC mMo_line) 30 = .ok (.i2l, 1) := by decide +kernel
theorem dMo_line_31 : decode (mC mMo_line) 31 = .ok (.lconst 0, 1) := by decide +kernel
theorem dMo_line_32 : decode (mC mMo_line) 32 = .ok (.aload_n 0, 1) := by decide +kernel
theorem dMo_line_33 : decode (mC mMo_line) 33 = .ok (.getfield 357, 3) := by decide +kernel
theorem dMo_line_36 : decode (mC mMo_line) 36 = .ok (.iconst (1), 1) := by decide +kernel
theorem dMo_line_37 : decode (mC mMo_line) 37 = .ok (.isub, 1) := by decide +kernel
theorem dMo_line_38 : decode (mC mMo_line) 38 = .ok (.i2l, 1) := by decide +kernel
theorem dMo_line_39 : decode (mC mMo_line) 39 = .ok (.invokestatic 109, 3) := by decide +kernel
theorem dMo_line_42 : decode (mC mMo_line) 42 = .ok (.ifCond .eq (12), 3) := by decide +kernel
theorem dMo_line_45 : decode (mC mMo_line) 45 = .ok (.aload_n 0, 1) := by decide +kernel
theorem dMo_line_46 : decode (mC mMo_line) 46 = .ok (.getfield 47, 3) := by decide +kernel
theorem dMo_line_49 : decode (mC mMo_line) 49 = .ok (.iload_n 2, 1) := by decide +kernel
theorem dMo_line_50 : decode (mC mMo_line) 50 = .ok (.iaload, 1) := by decide +kernel
theorem dMo_line_51 : decode (mC mMo_line) 51 = .ok (.goto (9), 3) := by decide +kernel
theorem dMo_line_54 : decode (mC mMo_line) 54 = .ok (.aload_n 0, 1) := by decide +kernel
theorem dMo_line_55 : decode (mC mMo_line) 55 = .ok (.bipush (8), 2) := by decide +kernel
theorem dMo_line_57 : decode (mC mMo_line) 57 = .ok (.invokevirtual 329, 3) := by decide +kernel
theorem dMo_line_60 : decode (mC mMo_line) 60 = .ok (.ireturn, 1) := by decide +kernel
theorem bMo_line_0 {E : mEn} {d : Nat} {σ : mSt} {Q : mPost} {a1 : Int32} {a2 : Int32} : WP E (d + 1) mMo_line 0 [.ref 166, .int a1, .int a2] [] σ Q = WP E d mMo_isLoafAt 0 [.ref 166, .int a1] [] (sI (sI σ 166 1 0) 166 0 0) (fun r σ' => WP E (d + 1) mMo_line 15 [.ref 166, .int a1, .int a2] (r.toList ++ []) σ' Q) := (w_aload_n dMo_line_0 rfl).trans ((w_iconst (v := 0) dMo_line_1 rfl).trans ((w_puti dMo_line_2 rz11_74 sh_166 rfl rfl rfl).trans ((w_aload_n dMo_line_5 rfl).trans ((w_iconst (v := 0) dMo_line_6 rfl).trans ((w_puti dMo_line_7 rz11_77 sh_166 rfl rfl rfl).trans ((w_aload_n dMo_line_10 rfl).trans ((w_iload_n dMo_line_11 rfl).trans (w_virt (vs := [.int a1]) (st' := []) (es := [.ref 166, .int a1]) dMo_line_12 rz11_335 rfl sh_166 rfl rfl rfl (Nat.le_of_ble_eq_true rfl) (Nat.le_of_ble_eq_true rfl) rfl))))))))
theorem bMo_line_15 {E : mEn} {d : Nat} {σ : mSt} {Q : mPost} {a1 : Int32} {a2 : Int32} {s0 : Int32} : WP E d mMo_line 15 [.ref 166, .int a1, .int a2] [.int s0] σ Q = (if ¬ s0 = 0 then WP E d mMo_line 24 [.ref 166, .int a1, .int a2] [] σ Q else WP E d mMo_line 18 [.ref 166, .int a1, .int a2] [] σ Q) := w_ifne (t := 24) dMo_line_15 (by decide)
theorem bMo_line_18 {E : mEn} {d : Nat} {σ : mSt} {Q : mPost} {a1 : Int32} {a2 : Int32} : WP E (d + 1) mMo_line 18 [.ref 166, .int a1, .int a2] [] σ Q = WP E d mMo_refuse 0 [.ref 166, .int (nI 2)] [] σ (fun r σ' => WP E (d + 1) mMo_line 23 [.ref 166, .int a1, .int a2] (r.toList ++ []) σ' Q) := (w_aload_n dMo_line_18 rfl).trans ((w_iconst (v := (nI 2)) dMo_line_19 rfl).trans (w_virt (vs := [.int (nI 2)]) (st' := []) (es := [.ref 166, .int (nI 2)]) dMo_line_20 rz11_329 rfl sh_166 rfl rfl rfl (Nat.le_of_ble_eq_true rfl) (Nat.le_of_ble_eq_true rfl) rfl))
theorem bMo_line_23 {E : mEn} {d : Nat} {σ : mSt} {Q : mPost} {a1 : Int32} {a2 : Int32} {s0 : Int32} : WP E d mMo_line 23 [.ref 166, .int a1, .int a2] [.int s0] σ Q = Q (some (.int s0)) σ := w_iret dMo_line_23 rfl
theorem bMo_line_24 {E : mEn} {d : Nat} {σ : mSt} {Q : mPost} {a1 : Int32} {a2 : Int32} : WP E (d + 1) mMo_line 24 [.ref 166, .int a1, .int a2] [] σ Q = WP E d mMo_lines 0 [.ref 166, .int a1, uu, uu] [] σ (fun r σ' => WP E (d + 1) mMo_line 29 [.ref 166, .int a1, .int a2] (r.toList ++ []) σ' Q) := (w_aload_n dMo_line_24 rfl).trans ((w_iload_n dMo_line_25 rfl).trans (w_virt (vs := [.int a1]) (st' := []) (es := [.ref 166, .int a1, uu, uu]) dMo_line_26 rz11_360 rfl sh_166 rfl rfl rfl (Nat.le_of_ble_eq_true rfl) (Nat.le_of_ble_eq_true rfl) rfl))
theorem bMo_line_29 {E : mEn} {d : Nat} {σ : mSt} {Q : mPost} {a1 : Int32} {a2 : Int32} : WP E (d + 1) mMo_line 29 [.ref 166, .int a1, .int a2] [] σ Q = WP E d mMo_isIn 0 [.long (a2.toInt64), uu, .long 0, uu, .long (((σ.1 166 28) - 1).toInt64), uu] [] σ (fun r σ' => WP E (d + 1) mMo_line 42 [.ref 166, .int a1, .int a2] (r.toList ++ []) σ' Q) := (w_iload_n dMo_line_29 rfl).trans ((w_i2l dMo_line_30).trans ((w_lconst (v := 0) dMo_line_31 rfl).trans ((w_aload_n dMo_line_32 rfl).trans ((w_geti dMo_line_33 rz11_357 sh_166 rfl).trans ((w_iconst (v := 1) dMo_line_36 rfl).trans ((w_isub dMo_line_37).trans ((w_i2l dMo_line_38).trans (w_stat (vs := [.long (a2.toInt64), .long 0, .long (((σ.1 166 28) - 1).toInt64)]) (st' := []) (es := [.long (a2.toInt64), uu, .long 0, uu, .long (((σ.1 166 28) - 1).toInt64), uu]) dMo_line_39 rz11_109 rfl rfl rfl (Nat.le_of_ble_eq_true rfl) (Nat.le_of_ble_eq_true rfl) rfl))))))))
theorem bMo_line_42 {E : mEn} {d : Nat} {σ : mSt} {Q : mPost} {a1 : Int32} {a2 : Int32} {s0 : Int32} : WP E d mMo_line 42 [.ref 166, .int a1, .int a2] [.int s0] σ Q = (if s0 = 0 then WP E d mMo_line 54 [.ref 166, .int a1, .int a2] [] σ Q else WP E d mMo_line 45 [.ref 166, .int a1, .int a2] [] σ Q) := w_ifeq (t := 54) dMo_line_42 (by decide)
theorem bMo_line_45 {E : mEn} {d : Nat} {σ : mSt} {Q : mPost} {a1 : Int32} {a2 : Int32} : WP E d mMo_line 45 [.ref 166, .int a1, .int a2] [] σ Q = (if mOut a2 8 = true then False else WP E d mMo_line 60 [.ref 166, .int a1, .int a2] [.int (σ.1 175 a2.toNatClampNeg)] σ Q) := (w_aload_n dMo_line_45 rfl).trans ((w_getr (r := 175) dMo_line_46 rz11_47 sh_166 rfl).trans ((w_iload_n dMo_line_49 rfl).trans ((w_iald dMo_line_50 sh_175 (by decide)).trans (ite_c (w_goto (t := 60) dMo_line_51 (by decide))))))
theorem bMo_line_54 {E : mEn} {d : Nat} {σ : mSt} {Q : mPost} {a1 : Int32} {a2 : Int32} : WP E (d + 1) mMo_line 54 [.ref 166, .int a1, .int a2] [] σ Q = WP E d mMo_refuse 0 [.ref 166, .int (nI 8)] [] σ (fun r σ' => WP E (d + 1) mMo_line 60 [.ref 166, .int a1, .int a2] (r.toList ++ []) σ' Q) := (w_aload_n dMo_line_54 rfl).trans ((w_bipush (v := (nI 8)) dMo_line_55 rfl).trans (w_virt (vs := [.int (nI 8)]) (st' := []) (es := [.ref 166, .int (nI 8)]) dMo_line_57 rz11_329 rfl sh_166 rfl rfl rfl (Nat.le_of_ble_eq_true rfl) (Nat.le_of_ble_eq_true rfl) rfl))
theorem bMo_line_60 {E : mEn} {d : Nat} {σ : mSt} {Q : mPost} {a1 : Int32} {a2 : Int32} {s0 : Int32} : WP E d mMo_line 60 [.ref 166, .int a1, .int a2] [.int s0] σ Q = Q (some (.int s0)) σ := w_iret dMo_line_60 rfl
theorem dMo_lines_0 : decode (mC mMo_lines) 0 = .ok (.aload_n 0, 1) := by decide +kernel
theorem dMo_lines_1 : decode (mC mMo_lines) 1 = .ok (.iconst (0), 1) := by decide +kernel
theorem dMo_lines_2 : decode (mC mMo_lines) 2 = .ok (.putfield 357, 3) := by decide +kernel
theorem dMo_lines_5 : decode (mC mMo_lines) 5 = .ok (.iconst (0), 1) := by decide +kernel
theorem dMo_lines_6 : decode (mC mMo_lines) 6 = .ok (.istore_n 2, 1) := by decide +kernel
theorem dMo_lines_7 : decode (mC mMo_lines) 7 = .ok (.iload_n 2, 1) := by decide +kernel
theorem dMo_lines_8 : decode (mC mMo_lines) 8 = .ok (.aload_n 0, 1) := by decide +kernel
theorem dMo_lines_9 : decode (mC mMo_lines) 9 = .ok (.getfield 35, 3) := by decide +kernel
theorem dMo_lines_12 : decode (mC mMo_lines) 12 = .ok (.iconst (0), 1) := by decide +kernel
theorem dMo_lines_13 : decode (mC mMo_lines) 13 = .ok (.iaload, 1) := by decide +kernel
theorem dMo_lines_14 : decode (mC mMo_lines) 14 = .ok (.if_icmp .ge (89), 3) := by decide +kernel
theorem dMo_lines_17 : decode (mC mMo_lines) 17 = .ok (.aload_n 0, 1) := by decide +kernel
theorem dMo_lines_18 : decode (mC mMo_lines) 18 = .ok (.iload_n 2, 1) := by decide +kernel
theorem dMo_lines_19 : decode (mC mMo_lines) 19 = .ok (.iload_n 1, 1) := by decide +kernel
theorem dMo_lines_20 : decode (mC mMo_lines) 20 = .ok (.invokevirtual 347, 3) := by decide +kernel
theorem dMo_lines_23 : decode (mC mMo_lines) 23 = .ok (.ifCond .gt (6), 3) := by decide +kernel
theorem dMo_lines_26 : decode (mC mMo_lines) 26 = .ok (.goto (71), 3) := by decide +kernel
theorem dMo_lines_29 : decode (mC mMo_lines) 29 = .ok (.aload_n 0, 1) := by decide +kernel
theorem dMo_lines_30 : decode (mC mMo_lines) 30 = .ok (.getfield 357, 3) := by decide +kernel
theorem dMo_lines_33 : decode (mC mMo_lines) 33 = .ok (.istore_n 3, 1) := by decide +kernel
theorem dMo_lines_34 : decode (mC mMo_lines) 34 = .ok (.iload_n 3, 1) := by decide +kernel
theorem dMo_lines_35 : decode (mC mMo_lines) 35 = .ok (.ifCond .le (45), 3) := by decide +kernel
theorem dMo_lines_38 : decode (mC mMo_lines) 38 = .ok (.aload_n 0, 1) := by decide +kernel
theorem dMo_lines_39 : decode (mC mMo_lines) 39 = .ok (.aload_n 0, 1) := by decide +kernel
theorem dMo_lines_40 : decode (mC mMo_lines) 40 = .ok (.getfield 47, 3) := by decide +kernel
theorem dMo_lines_43 : decode (mC mMo_lines) 43 = .ok (.iload_n 3, 1) := by decide +kernel
theorem dMo_lines_44 : decode (mC mMo_lines) 44 = .ok (.iconst (1), 1) := by decide +kernel
theorem dMo_lines_45 : decode (mC mMo_lines) 45 = .ok (.isub, 1) := by decide +kernel
theorem dMo_lines_46 : decode (mC mMo_lines) 46 = .ok (.iaload, 1) := by decide +kernel
theorem dMo_lines_47 : decode (mC mMo_lines) 47 = .ok (.iload_n 1, 1) := by decide +kernel
theorem dMo_lines_48 : decode (mC mMo_lines) 48 = .ok (.invokevirtual 354, 3) := by decide +kernel
theorem dMo_lines_51 : decode (mC mMo_lines) 51 = .ok (.aload_n 0, 1) := by decide +kernel
theorem dMo_lines_52 : decode (mC mMo_lines) 52 = .ok (.iload_n 2, 1) := by decide +kernel
theorem dMo_lines_53 : decode (mC mMo_lines) 53 = .ok (.iload_n 1, 1) := by decide +kernel
theorem dMo_lines_54 : decode (mC mMo_lines) 54 = .ok (.invokevirtual 354, 3) := by decide +kernel
theorem dMo_lines_57 : decode (mC mMo_lines) 57 = .ok (.if_icmp .le (23), 3) := by decide +kernel
theorem dMo_lines_60 : decode (mC mMo_lines) 60 = .ok (.aload_n 0, 1) := by decide +kernel
theorem dMo_lines_61 : decode (mC mMo_lines) 61 = .ok (.getfield 47, 3) := by decide +kernel
theorem dMo_lines_64 : decode (mC mMo_lines) 64 = .ok (.iload_n 3, 1) := by decide +kernel
theorem dMo_lines_65 : decode (mC mMo_lines) 65 = .ok (.aload_n 0, 1) := by decide +kernel
theorem dMo_lines_66 : decode (mC mMo_lines) 66 = .ok (.getfield 47, 3) := by decide +kernel
theorem dMo_lines_69 : decode (mC mMo_lines) 69 = .ok (.iload_n 3, 1) := by decide +kernel
theorem dMo_lines_70 : decode (mC mMo_lines) 70 = .ok (.iconst (1), 1) := by decide +kernel
theorem dMo_lines_71 : decode (mC mMo_lines) 71 = .ok (.isub, 1) := by decide +kernel
theorem dMo_lines_72 : decode (mC mMo_lines) 72 = .ok (.iaload, 1) := by decide +kernel
theorem dMo_lines_73 : decode (mC mMo_lines) 73 = .ok (.iastore, 1) := by decide +kernel
theorem dMo_lines_74 : decode (mC mMo_lines) 74 = .ok (.iinc 3 (-1), 3) := by decide +kernel
theorem dMo_lines_77 : decode (mC mMo_lines) 77 = .ok (.goto (-43), 3) := by decide +kernel
theorem dMo_lines_80 : decode (mC mMo_lines) 80 = .ok (.aload_n 0, 1) := by decide +kernel
theorem dMo_lines_81 : decode (mC mMo_lines) 81 = .ok (.getfield 47, 3) := by decide +kernel
theorem dMo_lines_84 : decode (mC mMo_lines) 84 = .ok (.iload_n 3, 1) := by decide +kernel
theorem dMo_lines_85 : decode (mC mMo_lines) 85 = .ok (.iload_n 2, 1) := by decide +kernel
theorem dMo_lines_86 : decode (mC mMo_lines) 86 = .ok (.iastore, 1) := by decide +kernel
theorem dMo_lines_87 : decode (mC mMo_lines) 87 = .ok (.aload_n 0, 1) := by decide +kernel
theorem dMo_lines_88 : decode (mC mMo_lines) 88 = .ok (.dup, 1) := by decide +kernel
theorem dMo_lines_89 : decode (mC mMo_lines) 89 = .ok (.getfield 357, 3) := by decide +kernel
theorem dMo_lines_92 : decode (mC mMo_lines) 92 = .ok (.iconst (1), 1) := by decide +kernel
theorem dMo_lines_93 : decode (mC mMo_lines) 93 = .ok (.iadd, 1) := by decide +kernel
theorem dMo_lines_94 : decode (mC mMo_lines) 94 = .ok (.putfield 357, 3) := by decide +kernel
theorem dMo_lines_97 : decode (mC mMo_lines) 97 = .ok (.iinc 2 (1), 3) := by decide +kernel
theorem dMo_lines_100 : decode (mC mMo_lines) 100 = .ok (.goto (-93), 3) := by decide +kernel
theorem dMo_lines_103 : decode (mC mMo_lines) 103 = .ok (.return_, 1) := by decide +kernel
theorem bMo_lines_0 {E : mEn} {d : Nat} {σ : mSt} {Q : mPost} {a1 : Int32} {u2 : Value} {u3 : Value} : WP E d mMo_lines 0 [.ref 166, .int a1, u2, u3] [] σ Q = WP E d mMo_lines 7 [.ref 166, .int a1, .int 0, u3] [] (sI σ 166 28 0) Q := (w_aload_n dMo_lines_0 rfl).trans ((w_iconst (v := 0) dMo_lines_1 rfl).trans ((w_puti dMo_lines_2 rz11_357 sh_166 rfl rfl rfl).trans ((w_iconst (v := 0) dMo_lines_5 rfl).trans (w_istore_n (ls' := [.ref 166, .int a1, .int 0, u3]) dMo_lines_6 (Nat.le_of_ble_eq_true rfl) rfl))))
theorem bMo_lines_7 {E : mEn} {d : Nat} {σ : mSt} {Q : mPost} {a1 : Int32} {a2 : Int32} {u3 : Value} : WP E d mMo_lines 7 [.ref 166, .int a1, .int a2, u3] [] σ Q = (if mOut 0 3000 = true then False else (if (σ.1 171 0) ≤ a2 then WP E d mMo_lines 103 [.ref 166, .int a1, .int a2, u3] [] σ Q else WP E d mMo_lines 17 [.ref 166, .int a1, .int a2, u3] [] σ Q)) := (w_iload_n dMo_lines_7 rfl).trans ((w_aload_n dMo_lines_8 rfl).trans ((w_getr (r := 171) dMo_lines_9 rz11_35 sh_166 rfl).trans ((w_iconst (v := 0) dMo_lines_12 rfl).trans ((w_iald dMo_lines_13 sh_171 (by decide)).trans (ite_c (w_icmpge (t := 103) dMo_lines_14 (by decide)))))))
theorem bMo_lines_17 {E : mEn} {d : Nat} {σ : mSt} {Q : mPost} {a1 : Int32} {a2 : Int32} {u3 : Value} : WP E (d + 1) mMo_lines 17 [.ref 166, .int a1, .int a2, u3] [] σ Q = WP E d mMo_holdsOf 0 [.ref 166, .int a2, .int a1, uu, uu] [] σ (fun r σ' => WP E (d + 1) mMo_lines 23 [.ref 166, .int a1, .int a2, u3] (r.toList ++ []) σ' Q) := (w_aload_n dMo_lines_17 rfl).trans ((w_iload_n dMo_lines_18 rfl).trans ((w_iload_n dMo_lines_19 rfl).trans (w_virt (vs := [.int a2, .int a1]) (st' := []) (es := [.ref 166, .int a2, .int a1, uu, uu]) dMo_lines_20 rz11_347 rfl sh_166 rfl rfl rfl (Nat.le_of_ble_eq_true rfl) (Nat.le_of_ble_eq_true rfl) rfl)))
theorem bMo_lines_23 {E : mEn} {d : Nat} {σ : mSt} {Q : mPost} {a1 : Int32} {a2 : Int32} {u3 : Value} {s0 : Int32} : WP E d mMo_lines 23 [.ref 166, .int a1, .int a2, u3] [.int s0] σ Q = (if 0 < s0 then WP E d mMo_lines 29 [.ref 166, .int a1, .int a2, u3] [] σ Q else WP E d mMo_lines 26 [.ref 166, .int a1, .int a2, u3] [] σ Q) := w_ifgt (t := 29) dMo_lines_23 (by decide)
theorem bMo_lines_26 {E : mEn} {d : Nat} {σ : mSt} {Q : mPost} {a1 : Int32} {a2 : Int32} {u3 : Value} : WP E d mMo_lines 26 [.ref 166, .int a1, .int a2, u3] [] σ Q = WP E d mMo_lines 97 [.ref 166, .int a1, .int a2, u3] [] σ Q := w_goto (t := 97) dMo_lines_26 (by decide)
theorem bMo_lines_29 {E : mEn} {d : Nat} {σ : mSt} {Q : mPost} {a1 : Int32} {a2 : Int32} {u3 : Value} : WP E d mMo_lines 29 [.ref 166, .int a1, .int a2, u3] [] σ Q = WP E d mMo_lines 34 [.ref 166, .int a1, .int a2, .int (σ.1 166 28)] [] σ Q := (w_aload_n dMo_lines_29 rfl).trans ((w_geti dMo_lines_30 rz11_357 sh_166 rfl).trans (w_istore_n (ls' := [.ref 166, .int a1, .int a2, .int (σ.1 166 28)]) dMo_lines_33 (Nat.le_of_ble_eq_true rfl) rfl))
theorem bMo_lines_34 {E : mEn} {d : Nat} {σ : mSt} {Q : mPost} {a1 : Int32} {a2 : Int32} {a3 : Int32} : WP E d mMo_lines 34 [.ref 166, .int a1, .int a2, .int a3] [] σ Q = (if a3 ≤ 0 then WP E d mMo_lines 80 [.ref 166, .int a1, .int a2, .int a3] [] σ Q else WP E d mMo_lines 38 [.ref 166, .int a1, .int a2, .int a3] [] σ Q) := (w_iload_n dMo_lines_34 rfl).trans (w_ifle (t := 80) dMo_lines_35 (by decide))
theorem bMo_lines_38 {E : mEn} {d : Nat} {σ : mSt} {Q : mPost} {a1 : Int32} {a2 : Int32} {a3 : Int32} : WP E (d + 1) mMo_lines 38 [.ref 166, .int a1, .int a2, .int a3] [] σ Q = (if mOut (a3 - 1) 8 = true then False else WP E d mMo_turnOf 0 [.ref 166, .int (σ.1 175 (a3 - 1).toNatClampNeg), .int a1, uu] [] σ (fun r σ' => WP E (d + 1) mMo_lines 51 [.ref 166, .int a1, .int a2, .int a3] (r.toList ++ []) σ' Q)) := (w_aload_n dMo_lines_38 rfl).trans ((w_aload_n dMo_lines_39 rfl).trans ((w_getr (r := 175) dMo_lines_40 rz11_47 sh_166 rfl).trans ((w_iload_n dMo_lines_43 rfl).trans ((w_iconst (v := 1) dMo_lines_44 rfl).trans ((w_isub dMo_lines_45).trans ((w_iald dMo_lines_46 sh_175 (by decide)).trans (ite_c ((w_iload_n dMo_lines_47 rfl).trans (w_virt (vs := [.int (σ.1 175 (a3 - 1).toNatClampNeg), .int a1]) (st' := []) (es := [.ref 166, .int (σ.1 175 (a3 - 1).toNatClampNeg), .int a1, uu]) dMo_lines_48 rz11_354 rfl sh_166 rfl rfl rfl (Nat.le_of_ble_eq_true rfl) (Nat.le_of_ble_eq_true rfl) rfl)))))))))
theorem bMo_lines_51 {E : mEn} {d : Nat} {σ : mSt} {Q : mPost} {a1 : Int32} {a2 : Int32} {a3 : Int32} {s0 : Int32} : WP E (d + 1) mMo_lines 51 [.ref 166, .int a1, .int a2, .int a3] [.int s0] σ Q = WP E d mMo_turnOf 0 [.ref 166, .int a2, .int a1, uu] [] σ (fun r σ' => WP E (d + 1) mMo_lines 57 [.ref 166, .int a1, .int a2, .int a3] (r.toList ++ [.int s0]) σ' Q) := (w_aload_n dMo_lines_51 rfl).trans ((w_iload_n dMo_lines_52 rfl).trans ((w_iload_n dMo_lines_53 rfl).trans (w_virt (vs := [.int a2, .int a1]) (st' := [.int s0]) (es := [.ref 166, .int a2, .int a1, uu]) dMo_lines_54 rz11_354 rfl sh_166 rfl rfl rfl (Nat.le_of_ble_eq_true rfl) (Nat.le_of_ble_eq_true rfl) rfl)))
theorem bMo_lines_57 {E : mEn} {d : Nat} {σ : mSt} {Q : mPost} {a1 : Int32} {a2 : Int32} {a3 : Int32} {s0 : Int32} {s1 : Int32} : WP E d mMo_lines 57 [.ref 166, .int a1, .int a2, .int a3] [.int s0, .int s1] σ Q = (if s1 ≤ s0 then WP E d mMo_lines 80 [.ref 166, .int a1, .int a2, .int a3] [] σ Q else WP E d mMo_lines 60 [.ref 166, .int a1, .int a2, .int a3] [] σ Q) := w_icmple (t := 80) dMo_lines_57 (by decide)
theorem bMo_lines_60 {E : mEn} {d : Nat} {σ : mSt} {Q : mPost} {a1 : Int32} {a2 : Int32} {a3 : Int32} : WP E d mMo_lines 60 [.ref 166, .int a1, .int a2, .int a3] [] σ Q = (if mOut (a3 - 1) 8 = true then False else (if mOut a3 8 = true then False else WP E d mMo_lines 34 [.ref 166, .int a1, .int a2, .int (a3 + (-1))] [] (sI σ 175 a3.toNatClampNeg (σ.1 175 (a3 - 1).toNatClampNeg)) Q)) := (w_aload_n dMo_lines_60 rfl).trans ((w_getr (r := 175) dMo_lines_61 rz11_47 sh_166 rfl).trans ((w_iload_n dMo_lines_64 rfl).trans ((w_aload_n dMo_lines_65 rfl).trans ((w_getr (r := 175) dMo_lines_66 rz11_47 sh_166 rfl).trans ((w_iload_n dMo_lines_69 rfl).trans ((w_iconst (v := 1) dMo_lines_70 rfl).trans ((w_isub dMo_lines_71).trans ((w_iald dMo_lines_72 sh_175 (by decide)).trans (ite_c ((w_iast dMo_lines_73 sh_175).trans (ite_c ((w_iinc (v := (-1)) (ls' := [.ref 166, .int a1, .int a2, .int (a3 + (-1))]) dMo_lines_74 rfl rfl rfl).trans (w_goto (t := 34) dMo_lines_77 (by decide))))))))))))))
theorem bMo_lines_80 {E : mEn} {d : Nat} {σ : mSt} {Q : mPost} {a1 : Int32} {a2 : Int32} {a3 : Int32} : WP E d mMo_lines 80 [.ref 166, .int a1, .int a2, .int a3] [] σ Q = (if mOut a3 8 = true then False else WP E d mMo_lines 97 [.ref 166, .int a1, .int a2, .int a3] [] (sI (sI σ 175 a3.toNatClampNeg a2) 166 28 (((sI σ 175 a3.toNatClampNeg a2).1 166 28) + 1)) Q) := (w_aload_n dMo_lines_80 rfl).trans ((w_getr (r := 175) dMo_lines_81 rz11_47 sh_166 rfl).trans ((w_iload_n dMo_lines_84 rfl).trans ((w_iload_n dMo_lines_85 rfl).trans ((w_iast dMo_lines_86 sh_175).trans (ite_c ((w_aload_n dMo_lines_87 rfl).trans ((w_dup dMo_lines_88 rfl).trans ((w_geti dMo_lines_89 rz11_357 sh_166 rfl).trans ((w_iconst (v := 1) dMo_lines_92 rfl).trans ((w_iadd dMo_lines_93).trans (w_puti dMo_lines_94 rz11_357 sh_166 rfl rfl rfl)))))))))))
theorem bMo_lines_97 {E : mEn} {d : Nat} {σ : mSt} {Q : mPost} {a1 : Int32} {a2 : Int32} {u3 : Value} : WP E d mMo_lines 97 [.ref 166, .int a1, .int a2, u3] [] σ Q = WP E d mMo_lines 7 [.ref 166, .int a1, .int (a2 + 1), u3] [] σ Q := (w_iinc (v := 1) (ls' := [.ref 166, .int a1, .int (a2 + 1), u3]) dMo_lines_97 rfl rfl rfl).trans (w_goto (t := 7) dMo_lines_100 (by decide))
theorem bMo_lines_103 {E : mEn} {d : Nat} {σ : mSt} {Q : mPost} {a1 : Int32} {a2 : Int32} {u3 : Value} : WP E d mMo_lines 103 [.ref 166, .int a1, .int a2, u3] [] σ Q = Q none σ := w_vret dMo_lines_103 rfl
theorem dMo_whose_0 : decode (mC mMo_whose) 0 = .ok (.aload_n 0, 1) := by decide +kernel
theorem dMo_whose_1 : decode (mC mMo_whose) 1 = .ok (.iconst (0), 1) := by decide +kernel
theorem dMo_whose_2 : decode (mC mMo_whose) 2 = .ok (.putfield 74, 3) := by decide +kernel
theorem dMo_whose_5 : decode (mC mMo_whose) 5 = .ok (.aload_n 0, 1) := by decide +kernel
theorem dMo_whose_6 : decode (mC mMo_whose) 6 = .ok (.iconst (0), 1) := by decide +kernel
theorem dMo_whose_7 : decode (mC mMo_whose) 7 = .ok (.putfield 77, 3) := by decide +kernel
theorem dMo_whose_10 : decode (mC mMo_whose) 10 = .ok (.aload_n 0, 1) := by decide +kernel
theorem dMo_whose_11 : decode (mC mMo_whose) 11 = .ok (.iload_n 1, 1) := by decide +kernel
theorem dMo_whose_12 : decode (mC mMo_whose) 12 = .ok (.invokevirtual 335, 3) := by decide +kernel
theorem dMo_whose_15 : decode (mC mMo_whose) 15 = .ok (.ifCond .ne (9), 3) := by decide +kernel
theorem dMo_whose_18 : decode (mC mMo_whose) 18 = .ok (.aload_n 0, 1) := by decide +kernel
theorem dMo_whose_19 : decode (mC mMo_whose) 19 = .ok (.iconst (2), 1) := by decide +kernel
theorem dMo_whose_20 : decode (mC mMo_whose) 20 = .ok (.invokevirtual 329, 3) := by decide +kernel
theorem dMo_whose_23 : decode (mC mMo_whose) 23 = .ok (.ireturn, 1) := by decide +kernel
theorem dMo_whose_24 : decode (mC mMo_whose) 24 = .ok (.aload_n 0, 1) := by decide +kernel
theorem dMo_whose_25 : decode (mC mMo_whose) 25 = .ok (.iload_n 1, 1) := by decide +kernel
theorem dMo_whose_26 : decode (mC mMo_whose) 26 = .ok (.invokevirtual 338, 3) := by decide +kernel
theorem dMo_whose_29 : decode (mC mMo_whose) 29 = .ok (.ifCond .ne (11), 3) := by decide +kernel
theorem dMo_whose_32 : decode (mC mMo_whose) 32 = .ok (.aload_n 0, 1) := by decide +kernel
theorem dMo_whose_33 : decode (mC mMo_whose) 33 = .ok (.iload_n 1, 1) := by decide +kernel
theorem dMo_whose_34 : decode (mC mMo_whose) 34 = .ok (.invokevirtual 323, 3) := by decide +kernel
theorem dMo_whose_37 : decode (mC mMo_whose) 37 = .ok (.ifCond .eq (10), 3) := by decide +kernel
theorem dMo_whose_40 : decode (mC mMo_whose) 40 = .ok (.aload_n 0, 1) := by decide +kernel
theorem dMo_whose_41 : decode (mC mMo_whose) 41 = .ok (.bipush (9), 2) := by decide +kernel
theorem dMo_whose_43 : decode (mC mMo_whose) 43 = .ok (.invokevirtual 329, 3) := by decide +kernel
theorem dMo_whose_46 : decode (mC mMo_whose) 46 = .ok (.ireturn, 1) := by decide +kernel
theorem dMo_whose_47 : decode (mC mMo_whose) 47 = .ok (.aload_n 0, 1) := by decide +kernel
theorem dMo_whose_48 : decode (mC mMo_whose) 48 = .ok (.iload_n 1, 1) := by decide +kernel
theorem dMo_whose_49 : decode (mC mMo_whose) 49 = .ok (.iload_n 3, 1) := by decide +kernel
theorem dMo_whose_50 : decode (mC mMo_whose) 50 = .ok (.invokevirtual 370, 3) := by decide +kernel
theorem dMo_whose_53 : decode (mC mMo_whose) 53 = .ok (.iload_n 2, 1) := by decide +kernel
theorem dMo_whose_54 : decode (mC mMo_whose) 54 = .ok (.istore 4, 2) := by decide +kernel
theorem dMo_whose_56 : decode (mC mMo_whose) 56 = .ok (.iconst (0), 1) := by decide +kernel
theorem dMo_whose_57 : decode (mC mMo_whose) 57 = .ok (.istore 5, 2) := by decide +kernel
theorem dMo_whose_59 : decode (mC mMo_whose) 59 = .ok (.iload 5, 2) := by decide +kernel
theorem dMo_whose_61 : decode (mC mMo_whose) 61 = .ok (.aload_n 0, 1) := by decide +kernel
theorem dMo_whose_62 : decode (mC mMo_whose) 62 = .ok (.getfield 357, 3) := by decide +kernel
theorem dMo_whose_65 : decode (mC mMo_whose) 65 = .ok (.if_icmp .ge (55), 3) := by decide +kernel
theorem dMo_whose_68 : decode (mC mMo_whose) 68 = .ok (.iload_n 2, 1) := by decide +kernel
theorem dMo_whose_69 : decode (mC mMo_whose) 69 = .ok (.ifCond .lt (51), 3) := by decide +kernel
theorem dMo_whose_72 : decode (mC mMo_whose) 72 = .ok (.iload 4, 2) := by decide +kernel
theorem dMo_whose_74 : decode (mC mMo_whose) 74 = .ok (.aload_n 0, 1) := by decide +kernel
theorem dMo_whose_75 : decode (mC mMo_whose) 75 = .ok (.getfield 50, 3) := by decide +kernel
theorem dMo_whose_78 : decode (mC mMo_whose) 78 = .ok (.aload_n 0, 1) := by decide +kernel
theorem dMo_whose_79 : decode (mC mMo_whose) 79 = .ok (.getfield 47, 3) := by decide +kernel
theorem dMo_whose_82 : decode (mC mMo_whose) 82 = .ok (.iload 5, 2) := by decide +kernel
theorem dMo_whose_84 : decode (mC mMo_whose) 84 = .ok (.iaload, 1) := by decide +kernel
theorem dMo_whose_85 : decode (mC mMo_whose) 85 = .ok (.iaload, 1) := by decide +kernel
theorem dMo_whose_86 : decode (mC mMo_whose) 86 = .ok (.if_icmp .ge (11), 3) := by decide +kernel
theorem dMo_whose_89 : decode (mC mMo_whose) 89 = .ok (.aload_n 0, 1) := by decide +kernel
theorem dMo_whose_90 : decode (mC mMo_whose) 90 = .ok (.getfield 47, 3) := by decide +kernel
theorem dMo_whose_93 : decode (mC mMo_whose) 93 = .ok (.iload 5, 2) := by decide +kernel
theorem dMo_whose_95 : decode (mC mMo_whose) 95 = .ok (.iaload, 1) := by decide +kernel
theorem dMo_whose_96 : decode (mC mMo_whose) 96 = .ok (.ireturn, 1) := by decide +kernel
theorem dMo_whose_97 : decode (mC mMo_whose) 97 = .ok (.iload 4, 2) := by decide +kernel
theorem dMo_whose_99 : decode (mC mMo_whose) 99 = .ok (.aload_n 0, 1) := by decide +kernel
theorem dMo_whose_100 : decode (mC mMo_whose) 100 = .ok (.getfield 50, 3) := by decide +kernel
theorem dMo_whose_103 : decode (mC mMo_whose) 103 = .ok (.aload_n 0, 1) := by decide +kernel
theorem dMo_whose_104 : decode (mC mMo_whose) 104 = .ok (.getfield 47, 3) := by decide +kernel
theorem dMo_whose_107 : decode (mC mMo_whose) 107 = .ok (.iload 5, 2) := by decide +kernel
theorem dMo_whose_109 : decode (mC mMo_whose) 109 = .ok (.iaload, 1) := by decide +kernel
theorem dMo_whose_110 : decode (mC mMo_whose) 110 = .ok (.iaload, 1) := by decide +kernel
theorem dMo_whose_111 : decode (mC mMo_whose) 111 = .ok (.isub, 1) := by decide +kernel
theorem dMo_whose_112 : decode (mC mMo_whose) 112 = .ok (.istore 4, 2) := by decide +kernel
theorem dMo_whose_114 : decode (mC mMo_whose) 114 = .ok (.iinc 5 (1), 3) := by decide +kernel
theorem dMo_whose_117 : decode (mC mMo_whose) 117 = .ok (.goto (-58), 3) := by decide +kernel
theorem dMo_whose_120 : decode (mC mMo_whose) 120 = .ok (.aload_n 0, 1) := by decide +kernel
theorem dMo_whose_121 : decode (mC mMo_whose) 121 = .ok (.bipush (8), 2) := by decide +kernel
theorem dMo_whose_123 : decode (mC mMo_whose) 123 = .ok (.invokevirtual 329, 3) := by decide +kernel
theorem dMo_whose_126 : decode (mC mMo_whose) 126 = .ok (.ireturn, 1) := by decide +kernel
theorem bMo_whose_0 {E : mEn} {d : Nat} {σ : mSt} {Q : mPost} {a1 : Int32} {a2 : Int32} {a3 : Int32} {u4 : Value} {u5 : Value} : WP E (d + 1) mMo_whose 0 [.ref 166, .int a1, .int a2, .int a3, u4, u5] [] σ Q = WP E d mMo_isLoafAt 0 [.ref 166, .int a1] [] (sI (sI σ 166 1 0) 166 0 0) (fun r σ' => WP E (d + 1) mMo_whose 15 [.ref 166, .int a1, .int a2, .int a3, u4, u5] (r.toList ++ []) σ' Q) := (w_aload_n dMo_whose_0 rfl).trans ((w_iconst (v := 0) dMo_whose_1 rfl).trans ((w_puti dMo_whose_2 rz11_74 sh_166 rfl rfl rfl).trans ((w_aload_n dMo_whose_5 rfl).trans ((w_iconst (v := 0) dMo_whose_6 rfl).trans ((w_puti dMo_whose_7 rz11_77 sh_166 rfl rfl rfl).trans ((w_aload_n dMo_whose_10 rfl).trans ((w_iload_n dMo_whose_11 rfl).trans (w_virt (vs := [.int a1]) (st' := []) (es := [.ref 166, .int a1]) dMo_whose_12 rz11_335 rfl sh_166 rfl rfl rfl (Nat.le_of_ble_eq_true rfl) (Nat.le_of_ble_eq_true rfl) rfl))))))))
theorem bMo_whose_15 {E : mEn} {d : Nat} {σ : mSt} {Q : mPost} {a1 : Int32} {a2 : Int32} {a3 : Int32} {u4 : Value} {u5 : Value} {s0 : Int32} : WP E d mMo_whose 15 [.ref 166, .int a1, .int a2, .int a3, u4, u5] [.int s0] σ Q = (if ¬ s0 = 0 then WP E d mMo_whose 24 [.ref 166, .int a1, .int a2, .int a3, u4, u5] [] σ Q else WP E d mMo_whose 18 [.ref 166, .int a1, .int a2, .int a3, u4, u5] [] σ Q) := w_ifne (t := 24) dMo_whose_15 (by decide)
theorem bMo_whose_18 {E : mEn} {d : Nat} {σ : mSt} {Q : mPost} {a1 : Int32} {a2 : Int32} {a3 : Int32} {u4 : Value} {u5 : Value} : WP E (d + 1) mMo_whose 18 [.ref 166, .int a1, .int a2, .int a3, u4, u5] [] σ Q = WP E d mMo_refuse 0 [.ref 166, .int (nI 2)] [] σ (fun r σ' => WP E (d + 1) mMo_whose 23 [.ref 166, .int a1, .int a2, .int a3, u4, u5] (r.toList ++ []) σ' Q) := (w_aload_n dMo_whose_18 rfl).trans ((w_iconst (v := (nI 2)) dMo_whose_19 rfl).trans (w_virt (vs := [.int (nI 2)]) (st' := []) (es := [.ref 166, .int (nI 2)]) dMo_whose_20 rz11_329 rfl sh_166 rfl rfl rfl (Nat.le_of_ble_eq_true rfl) (Nat.le_of_ble_eq_true rfl) rfl))
theorem bMo_whose_23 {E : mEn} {d : Nat} {σ : mSt} {Q : mPost} {a1 : Int32} {a2 : Int32} {a3 : Int32} {u4 : Value} {u5 : Value} {s0 : Int32} : WP E d mMo_whose 23 [.ref 166, .int a1, .int a2, .int a3, u4, u5] [.int s0] σ Q = Q (some (.int s0)) σ := w_iret dMo_whose_23 rfl
theorem bMo_whose_24 {E : mEn} {d : Nat} {σ : mSt} {Q : mPost} {a1 : Int32} {a2 : Int32} {a3 : Int32} {u4 : Value} {u5 : Value} : WP E (d + 1) mMo_whose 24 [.ref 166, .int a1, .int a2, .int a3, u4, u5] [] σ Q = WP E d mMo_isPaper 0 [.ref 166, .int a1] [] σ (fun r σ' => WP E (d + 1) mMo_whose 29 [.ref 166, .int a1, .int a2, .int a3, u4, u5] (r.toList ++ []) σ' Q) := (w_aload_n dMo_whose_24 rfl).trans ((w_iload_n dMo_whose_25 rfl).trans (w_virt (vs := [.int a1]) (st' := []) (es := [.ref 166, .int a1]) dMo_whose_26 rz11_338 rfl sh_166 rfl rfl rfl (Nat.le_of_ble_eq_true rfl) (Nat.le_of_ble_eq_true rfl) rfl))
theorem bMo_whose_29 {E : mEn} {d : Nat} {σ : mSt} {Q : mPost} {a1 : Int32} {a2 : Int32} {a3 : Int32} {u4 : Value} {u5 : Value} {s0 : Int32} : WP E d mMo_whose 29 [.ref 166, .int a1, .int a2, .int a3, u4, u5] [.int s0] σ Q = (if ¬ s0 = 0 then WP E d mMo_whose 40 [.ref 166, .int a1, .int a2, .int a3, u4, u5] [] σ Q else WP E d mMo_whose 32 [.ref 166, .int a1, .int a2, .int a3, u4, u5] [] σ Q) := w_ifne (t := 40) dMo_whose_29 (by decide)
theorem bMo_whose_32 {E : mEn} {d : Nat} {σ : mSt} {Q : mPost} {a1 : Int32} {a2 : Int32} {a3 : Int32} {u4 : Value} {u5 : Value} : WP E (d + 1) mMo_whose 32 [.ref 166, .int a1, .int a2, .int a3, u4, u5] [] σ Q = WP E d mMo_isBaked 0 [.ref 166, .int a1] [] σ (fun r σ' => WP E (d + 1) mMo_whose 37 [.ref 166, .int a1, .int a2, .int a3, u4, u5] (r.toList ++ []) σ' Q) := (w_aload_n dMo_whose_32 rfl).trans ((w_iload_n dMo_whose_33 rfl).trans (w_virt (vs := [.int a1]) (st' := []) (es := [.ref 166, .int a1]) dMo_whose_34 rz11_323 rfl sh_166 rfl rfl rfl (Nat.le_of_ble_eq_true rfl) (Nat.le_of_ble_eq_true rfl) rfl))
theorem bMo_whose_37 {E : mEn} {d : Nat} {σ : mSt} {Q : mPost} {a1 : Int32} {a2 : Int32} {a3 : Int32} {u4 : Value} {u5 : Value} {s0 : Int32} : WP E d mMo_whose 37 [.ref 166, .int a1, .int a2, .int a3, u4, u5] [.int s0] σ Q = (if s0 = 0 then WP E d mMo_whose 47 [.ref 166, .int a1, .int a2, .int a3, u4, u5] [] σ Q else WP E d mMo_whose 40 [.ref 166, .int a1, .int a2, .int a3, u4, u5] [] σ Q) := w_ifeq (t := 47) dMo_whose_37 (by decide)
theorem bMo_whose_40 {E : mEn} {d : Nat} {σ : mSt} {Q : mPost} {a1 : Int32} {a2 : Int32} {a3 : Int32} {u4 : Value} {u5 : Value} : WP E (d + 1) mMo_whose 40 [.ref 166, .int a1, .int a2, .int a3, u4, u5] [] σ Q = WP E d mMo_refuse 0 [.ref 166, .int (nI 9)] [] σ (fun r σ' => WP E (d + 1) mMo_whose 46 [.ref 166, .int a1, .int a2, .int a3, u4, u5] (r.toList ++ []) σ' Q) := (w_aload_n dMo_whose_40 rfl).trans ((w_bipush (v := (nI 9)) dMo_whose_41 rfl).trans (w_virt (vs := [.int (nI 9)]) (st' := []) (es := [.ref 166, .int (nI 9)]) dMo_whose_43 rz11_329 rfl sh_166 rfl rfl rfl (Nat.le_of_ble_eq_true rfl) (Nat.le_of_ble_eq_true rfl) rfl))
theorem bMo_whose_46 {E : mEn} {d : Nat} {σ : mSt} {Q : mPost} {a1 : Int32} {a2 : Int32} {a3 : Int32} {u4 : Value} {u5 : Value} {s0 : Int32} : WP E d mMo_whose 46 [.ref 166, .int a1, .int a2, .int a3, u4, u5] [.int s0] σ Q = Q (some (.int s0)) σ := w_iret dMo_whose_46 rfl
theorem bMo_whose_47 {E : mEn} {d : Nat} {σ : mSt} {Q : mPost} {a1 : Int32} {a2 : Int32} {a3 : Int32} {u4 : Value} {u5 : Value} : WP E (d + 1) mMo_whose 47 [.ref 166, .int a1, .int a2, .int a3, u4, u5] [] σ Q = WP E d mMo_deals 0 [.ref 166, .int a1, .int a3, uu, uu] [] σ (fun r σ' => WP E (d + 1) mMo_whose 53 [.ref 166, .int a1, .int a2, .int a3, u4, u5] (r.toList ++ []) σ' Q) := (w_aload_n dMo_whose_47 rfl).trans ((w_iload_n dMo_whose_48 rfl).trans ((w_iload_n dMo_whose_49 rfl).trans (w_virt (vs := [.int a1, .int a3]) (st' := []) (es := [.ref 166, .int a1, .int a3, uu, uu]) dMo_whose_50 rz11_370 rfl sh_166 rfl rfl rfl (Nat.le_of_ble_eq_true rfl) (Nat.le_of_ble_eq_true rfl) rfl)))
theorem bMo_whose_53 {E : mEn} {d : Nat} {σ : mSt} {Q : mPost} {a1 : Int32} {a2 : Int32} {a3 : Int32} {u4 : Value} {u5 : Value} : WP E d mMo_whose 53 [.ref 166, .int a1, .int a2, .int a3, u4, u5] [] σ Q = WP E d mMo_whose 59 [.ref 166, .int a1, .int a2, .int a3, .int a2, .int 0] [] σ Q := (w_iload_n dMo_whose_53 rfl).trans ((w_istore (ls' := [.ref 166, .int a1, .int a2, .int a3, .int a2, u5]) dMo_whose_54 (Nat.le_of_ble_eq_true rfl) rfl).trans ((w_iconst (v := 0) dMo_whose_56 rfl).trans (w_istore (ls' := [.ref 166, .int a1, .int a2, .int a3, .int a2, .int 0]) dMo_whose_57 (Nat.le_of_ble_eq_true rfl) rfl)))
theorem bMo_whose_59 {E : mEn} {d : Nat} {σ : mSt} {Q : mPost} {a1 : Int32} {a2 : Int32} {a3 : Int32} {a4 : Int32} {a5 : Int32} : WP E d mMo_whose 59 [.ref 166, .int a1, .int a2, .int a3, .int a4, .int a5] [] σ Q = (if (σ.1 166 28) ≤ a5 then WP E d mMo_whose 120 [.ref 166, .int a1, .int a2, .int a3, .int a4, .int a5] [] σ Q else WP E d mMo_whose 68 [.ref 166, .int a1, .int a2, .int a3, .int a4, .int a5] [] σ Q) := (w_iload dMo_whose_59 rfl).trans ((w_aload_n dMo_whose_61 rfl).trans ((w_geti dMo_whose_62 rz11_357 sh_166 rfl).trans (w_icmpge (t := 120) dMo_whose_65 (by decide))))
theorem bMo_whose_68 {E : mEn} {d : Nat} {σ : mSt} {Q : mPost} {a1 : Int32} {a2 : Int32} {a3 : Int32} {a4 : Int32} {a5 : Int32} : WP E d mMo_whose 68 [.ref 166, .int a1, .int a2, .int a3, .int a4, .int a5] [] σ Q = (if a2 < 0 then WP E d mMo_whose 120 [.ref 166, .int a1, .int a2, .int a3, .int a4, .int a5] [] σ Q else WP E d mMo_whose 72 [.ref 166, .int a1, .int a2, .int a3, .int a4, .int a5] [] σ Q) := (w_iload_n dMo_whose_68 rfl).trans (w_iflt (t := 120) dMo_whose_69 (by decide))
theorem bMo_whose_72 {E : mEn} {d : Nat} {σ : mSt} {Q : mPost} {a1 : Int32} {a2 : Int32} {a3 : Int32} {a4 : Int32} {a5 : Int32} : WP E d mMo_whose 72 [.ref 166, .int a1, .int a2, .int a3, .int a4, .int a5] [] σ Q = (if mOut a5 8 = true then False else (if mOut (σ.1 175 a5.toNatClampNeg) 8 = true then False else (if (σ.1 176 (σ.1 175 a5.toNatClampNeg).toNatClampNeg) ≤ a4 then WP E d mMo_whose 97 [.ref 166, .int a1, .int a2, .int a3, .int a4, .int a5] [] σ Q else WP E d mMo_whose 89 [.ref 166, .int a1, .int a2, .int a3, .int a4, .int a5] [] σ Q))) := (w_iload dMo_whose_72 rfl).trans ((w_aload_n dMo_whose_74 rfl).trans ((w_getr (r := 176) dMo_whose_75 rz11_50 sh_166 rfl).trans ((w_aload_n dMo_whose_78 rfl).trans ((w_getr (r := 175) dMo_whose_79 rz11_47 sh_166 rfl).trans ((w_iload dMo_whose_82 rfl).trans ((w_iald dMo_whose_84 sh_175 (by decide)).trans (ite_c ((w_iald dMo_whose_85 sh_176 (by decide)).trans (ite_c (w_icmpge (t := 97) dMo_whose_86 (by decide)))))))))))
theorem bMo_whose_89 {E : mEn} {d : Nat} {σ : mSt} {Q : mPost} {a1 : Int32} {a2 : Int32} {a3 : Int32} {a4 : Int32} {a5 : Int32} : WP E d mMo_whose 89 [.ref 166, .int a1, .int a2, .int a3, .int a4, .int a5] [] σ Q = (if mOut a5 8 = true then False else Q (some (.int (σ.1 175 a5.toNatClampNeg))) σ) := (w_aload_n dMo_whose_89 rfl).trans ((w_getr (r := 175) dMo_whose_90 rz11_47 sh_166 rfl).trans ((w_iload dMo_whose_93 rfl).trans ((w_iald dMo_whose_95 sh_175 (by decide)).trans (ite_c (w_iret dMo_whose_96 rfl)))))
theorem bMo_whose_97 {E : mEn} {d : Nat} {σ : mSt} {Q : mPost} {a1 : Int32} {a2 : Int32} {a3 : Int32} {a4 : Int32} {a5 : Int32} : WP E d mMo_whose 97 [.ref 166, .int a1, .int a2, .int a3, .int a4, .int a5] [] σ Q = (if mOut a5 8 = true then False else (if mOut (σ.1 175 a5.toNatClampNeg) 8 = true then False else WP E d mMo_whose 59 [.ref 166, .int a1, .int a2, .int a3, .int (a4 - (σ.1 176 (σ.1 175 a5.toNatClampNeg).toNatClampNeg)), .int (a5 + 1)] [] σ Q)) := (w_iload dMo_whose_97 rfl).trans ((w_aload_n dMo_whose_99 rfl).trans ((w_getr (r := 176) dMo_whose_100 rz11_50 sh_166 rfl).trans ((w_aload_n dMo_whose_103 rfl).trans ((w_getr (r := 175) dMo_whose_104 rz11_47 sh_166 rfl).trans ((w_iload dMo_whose_107 rfl).trans ((w_iald dMo_whose_109 sh_175 (by decide)).trans (ite_c ((w_iald dMo_whose_110 sh_176 (by decide)).trans (ite_c ((w_isub dMo_whose_111).trans ((w_istore (ls' := [.ref 166, .int a1, .int a2, .int a3, .int (a4 - (σ.1 176 (σ.1 175 a5.toNatClampNeg).toNatClampNeg)), .int a5]) dMo_whose_112 (Nat.le_of_ble_eq_true rfl) rfl).trans ((w_iinc (v := 1) (ls' := [.ref 166, .int a1, .int a2, .int a3, .int (a4 - (σ.1 176 (σ.1 175 a5.toNatClampNeg).toNatClampNeg)), .int (a5 + 1)]) dMo_whose_114 rfl rfl rfl).trans (w_goto (t := 59) dMo_whose_117 (by decide))))))))))))))
theorem bMo_whose_120 {E : mEn} {d : Nat} {σ : mSt} {Q : mPost} {a1 : Int32} {a2 : Int32} {a3 : Int32} {a4 : Int32} {a5 : Int32} : WP E (d + 1) mMo_whose 120 [.ref 166, .int a1, .int a2, .int a3, .int a4, .int a5] [] σ Q = WP E d mMo_refuse 0 [.ref 166, .int (nI 8)] [] σ (fun r σ' => WP E (d + 1) mMo_whose 126 [.ref 166, .int a1, .int a2, .int a3, .int a4, .int a5] (r.toList ++ []) σ' Q) := (w_aload_n dMo_whose_120 rfl).trans ((w_bipush (v := (nI 8)) dMo_whose_121 rfl).trans (w_virt (vs := [.int (nI 8)]) (st' := []) (es := [.ref 166, .int (nI 8)]) dMo_whose_123 rz11_329 rfl sh_166 rfl rfl rfl (Nat.le_of_ble_eq_true rfl) (Nat.le_of_ble_eq_true rfl) rfl))
theorem bMo_whose_126 {E : mEn} {d : Nat} {σ : mSt} {Q : mPost} {a1 : Int32} {a2 : Int32} {a3 : Int32} {a4 : Int32} {a5 : Int32} {s0 : Int32} : WP E d mMo_whose 126 [.ref 166, .int a1, .int a2, .int a3, .int a4, .int a5] [.int s0] σ Q = Q (some (.int s0)) σ := w_iret dMo_whose_126 rfl
theorem dMo_deals_0 : decode (mC mMo_deals) 0 = .ok (.aload_n 0, 1) := by decide +kernel
theorem dMo_deals_1 : decode (mC mMo_deals) 1 = .ok (.iload_n 1, 1) := by decide +kernel
theorem dMo_deals_2 : decode (mC mMo_deals) 2 = .ok (.invokevirtual 360, 3) := by decide +kernel
theorem dMo_deals_5 : decode (mC mMo_deals) 5 = .ok (.iconst (0), 1) := by decide +kernel
theorem dMo_deals_6 : decode (mC mMo_deals) 6 = .ok (.istore_n 3, 1) := by decide +kernel
theorem dMo_deals_7 : decode (mC mMo_deals) 7 = .ok (.iload_n 3, 1) := by decide +kernel
theorem dMo_deals_8 : decode (mC mMo_deals) 8 = .ok (.bipush (8), 2) := by decide +kernel
theorem dMo_deals_10 : decode (mC mMo_deals) 10 = .ok (.if_icmp .ge (16), 3) := by decide +kernel
theorem dMo_deals_13 : decode (mC mMo_deals) 13 = .ok (.aload_n 0, 1) := by decide +kernel
theorem dMo_deals_14 : decode (mC mMo_deals) 14 = .ok (.getfield 50, 3) := by decide +kernel
theorem dMo_deals_17 : decode (mC mMo_deals) 17 = .ok (.iload_n 3, 1) := by decide +kernel
theorem dMo_deals_18 : decode (mC mMo_deals) 18 = .ok (.iconst (0), 1) := by decide +kernel
theorem dMo_deals_19 : decode (mC mMo_deals) 19 = .ok (.iastore, 1) := by decide +kernel
theorem dMo_deals_20 : decode (mC mMo_deals) 20 = .ok (.iinc 3 (1), 3) := by decide +kernel
theorem dMo_deals_23 : decode (mC mMo_deals) 23 = .ok (.goto (-16), 3) := by decide +kernel
theorem dMo_deals_26 : decode (mC mMo_deals) 26 = .ok (.aload_n 0, 1) := by decide +kernel
theorem dMo_deals_27 : decode (mC mMo_deals) 27 = .ok (.iload_n 1, 1) := by decide +kernel
theorem dMo_deals_28 : decode (mC mMo_deals) 28 = .ok (.iload_n 2, 1) := by decide +kernel
theorem dMo_deals_29 : decode (mC mMo_deals) 29 = .ok (.invokevirtual 363, 3) := by decide +kernel
theorem dMo_deals_32 : decode (mC mMo_deals) 32 = .ok (.istore_n 3, 1) := by decide +kernel
theorem dMo_deals_33 : decode (mC mMo_deals) 33 = .ok (.iconst (0), 1) := by decide +kernel
theorem dMo_deals_34 : decode (mC mMo_deals) 34 = .ok (.istore 4, 2) := by decide +kernel
theorem dMo_deals_36 : decode (mC mMo_deals) 36 = .ok (.iload 4, 2) := by decide +kernel
theorem dMo_deals_38 : decode (mC mMo_deals) 38 = .ok (.aload_n 0, 1) := by decide +kernel
theorem dMo_deals_39 : decode (mC mMo_deals) 39 = .ok (.getfield 357, 3) := by decide +kernel
theorem dMo_deals_42 : decode (mC mMo_deals) 42 = .ok (.if_icmp .ge (52), 3) := by decide +kernel
theorem dMo_deals_45 : decode (mC mMo_deals) 45 = .ok (.aload_n 0, 1) := by decide +kernel
theorem dMo_deals_46 : decode (mC mMo_deals) 46 = .ok (.getfield 50, 3) := by decide +kernel
theorem dMo_deals_49 : decode (mC mMo_deals) 49 = .ok (.aload_n 0, 1) := by decide +kernel
theorem dMo_deals_50 : decode (mC mMo_deals) 50 = .ok (.getfield 47, 3) := by decide +kernel
theorem dMo_deals_53 : decode (mC mMo_deals) 53 = .ok (.iload 4, 2) := by decide +kernel
theorem dMo_deals_55 : decode (mC mMo_deals) 55 = .ok (.iaload, 1) := by decide +kernel
theorem dMo_deals_56 : decode (mC mMo_deals) 56 = .ok (.iload_n 3, 1) := by decide +kernel
theorem dMo_deals_57 : decode (mC mMo_deals) 57 = .ok (.aload_n 0, 1) := by decide +kernel
theorem dMo_deals_58 : decode (mC mMo_deals) 58 = .ok (.aload_n 0, 1) := by decide +kernel
theorem dMo_deals_59 : decode (mC mMo_deals) 59 = .ok (.getfield 47, 3) := by decide +kernel
theorem dMo_deals_62 : decode (mC mMo_deals) 62 = .ok (.iload 4, 2) := by decide +kernel
theorem dMo_deals_64 : decode (mC mMo_deals) 64 = .ok (.iaload, 1) := by decide +kernel
theorem dMo_deals_65 : decode (mC mMo_deals) 65 = .ok (.iload_n 1, 1) := by decide +kernel
theorem dMo_deals_66 : decode (mC mMo_deals) 66 = .ok (.invokevirtual 347, 3) := by decide +kernel
theorem dMo_deals_69 : decode (mC mMo_deals) 69 = .ok (.invokestatic 367, 3) := by decide +kernel
theorem dMo_deals_72 : decode (mC mMo_deals) 72 = .ok (.iastore, 1) := by decide +kernel
theorem dMo_deals_73 : decode (mC mMo_deals) 73 = .ok (.iload_n 3, 1) := by decide +kernel
theorem dMo_deals_74 : decode (mC mMo_deals) 74 = .ok (.aload_n 0, 1) := by decide +kernel
theorem dMo_deals_75 : decode (mC mMo_deals) 75 = .ok (.getfield 50, 3) := by decide +kernel
theorem dMo_deals_78 : decode (mC mMo_deals) 78 = .ok (.aload_n 0, 1) := by decide +kernel
theorem dMo_deals_79 : decode (mC mMo_deals) 79 = .ok (.getfield 47, 3) := by decide +kernel
theorem dMo_deals_82 : decode (mC mMo_deals) 82 = .ok (.iload 4, 2) := by decide +kernel
theorem dMo_deals_84 : decode (mC mMo_deals) 84 = .ok (.iaload, 1) := by decide +kernel
theorem dMo_deals_85 : decode (mC mMo_deals) 85 = .ok (.iaload, 1) := by decide +kernel
theorem dMo_deals_86 : decode (mC mMo_deals) 86 = .ok (.isub, 1) := by decide +kernel
theorem dMo_deals_87 : decode (mC mMo_deals) 87 = .ok (.istore_n 3, 1) := by decide +kernel
theorem dMo_deals_88 : decode (mC mMo_deals) 88 = .ok (.iinc 4 (1), 3) := by decide +kernel
theorem dMo_deals_91 : decode (mC mMo_deals) 91 = .ok (.goto (-55), 3) := by decide +kernel
theorem dMo_deals_94 : decode (mC mMo_deals) 94 = .ok (.return_, 1) := by decide +kernel
theorem bMo_deals_0 {E : mEn} {d : Nat} {σ : mSt} {Q : mPost} {a1 : Int32} {a2 : Int32} {u3 : Value} {u4 : Value} : WP E (d + 1) mMo_deals 0 [.ref 166, .int a1, .int a2, u3, u4] [] σ Q = WP E d mMo_lines 0 [.ref 166, .int a1, uu, uu] [] σ (fun r σ' => WP E (d + 1) mMo_deals 5 [.ref 166, .int a1, .int a2, u3, u4] (r.toList ++ []) σ' Q) := (w_aload_n dMo_deals_0 rfl).trans ((w_iload_n dMo_deals_1 rfl).trans (w_virt (vs := [.int a1]) (st' := []) (es := [.ref 166, .int a1, uu, uu]) dMo_deals_2 rz11_360 rfl sh_166 rfl rfl rfl (Nat.le_of_ble_eq_true rfl) (Nat.le_of_ble_eq_true rfl) rfl))
theorem bMo_deals_5 {E : mEn} {d : Nat} {σ : mSt} {Q : mPost} {a1 : Int32} {a2 : Int32} {u3 : Value} {u4 : Value} : WP E d mMo_deals 5 [.ref 166, .int a1, .int a2, u3, u4] [] σ Q = WP E d mMo_deals 7 [.ref 166, .int a1, .int a2, .int 0, u4] [] σ Q := (w_iconst (v := 0) dMo_deals_5 rfl).trans (w_istore_n (ls' := [.ref 166, .int a1, .int a2, .int 0, u4]) dMo_deals_6 (Nat.le_of_ble_eq_true rfl) rfl)
theorem bMo_deals_7 {E : mEn} {d : Nat} {σ : mSt} {Q : mPost} {a1 : Int32} {a2 : Int32} {a3 : Int32} {u4 : Value} : WP E d mMo_deals 7 [.ref 166, .int a1, .int a2, .int a3, u4] [] σ Q = (if (nI 8) ≤ a3 then WP E d mMo_deals 26 [.ref 166, .int a1, .int a2, .int a3, u4] [] σ Q else WP E d mMo_deals 13 [.ref 166, .int a1, .int a2, .int a3, u4] [] σ Q) := (w_iload_n dMo_deals_7 rfl).trans ((w_bipush (v := (nI 8)) dMo_deals_8 rfl).trans (w_icmpge (t := 26) dMo_deals_10 (by decide)))
theorem bMo_deals_13 {E : mEn} {d : Nat} {σ : mSt} {Q : mPost} {a1 : Int32} {a2 : Int32} {a3 : Int32} {u4 : Value} : WP E d mMo_deals 13 [.ref 166, .int a1, .int a2, .int a3, u4] [] σ Q = (if mOut a3 8 = true then False else WP E d mMo_deals 7 [.ref 166, .int a1, .int a2, .int (a3 + 1), u4] [] (sI σ 176 a3.toNatClampNeg 0) Q) := (w_aload_n dMo_deals_13 rfl).trans ((w_getr (r := 176) dMo_deals_14 rz11_50 sh_166 rfl).trans ((w_iload_n dMo_deals_17 rfl).trans ((w_iconst (v := 0) dMo_deals_18 rfl).trans ((w_iast dMo_deals_19 sh_176).trans (ite_c ((w_iinc (v := 1) (ls' := [.ref 166, .int a1, .int a2, .int (a3 + 1), u4]) dMo_deals_20 rfl rfl rfl).trans (w_goto (t := 7) dMo_deals_23 (by decide))))))))
theorem bMo_deals_26 {E : mEn} {d : Nat} {σ : mSt} {Q : mPost} {a1 : Int32} {a2 : Int32} {a3 : Int32} {u4 : Value} : WP E (d + 1) mMo_deals 26 [.ref 166, .int a1, .int a2, .int a3, u4] [] σ Q = WP E d mMo_comes 0 [.ref 166, .int a1, .int a2] [] σ (fun r σ' => WP E (d + 1) mMo_deals 32 [.ref 166, .int a1, .int a2, .int a3, u4] (r.toList ++ []) σ' Q) := (w_aload_n dMo_deals_26 rfl).trans ((w_iload_n dMo_deals_27 rfl).trans ((w_iload_n dMo_deals_28 rfl).trans (w_virt (vs := [.int a1, .int a2]) (st' := []) (es := [.ref 166, .int a1, .int a2]) dMo_deals_29 rz11_363 rfl sh_166 rfl rfl rfl (Nat.le_of_ble_eq_true rfl) (Nat.le_of_ble_eq_true rfl) rfl)))
theorem bMo_deals_32 {E : mEn} {d : Nat} {σ : mSt} {Q : mPost} {a1 : Int32} {a2 : Int32} {a3 : Int32} {u4 : Value} {s0 : Int32} : WP E d mMo_deals 32 [.ref 166, .int a1, .int a2, .int a3, u4] [.int s0] σ Q = WP E d mMo_deals 36 [.ref 166, .int a1, .int a2, .int s0, .int 0] [] σ Q := (w_istore_n (ls' := [.ref 166, .int a1, .int a2, .int s0, u4]) dMo_deals_32 (Nat.le_of_ble_eq_true rfl) rfl).trans ((w_iconst (v := 0) dMo_deals_33 rfl).trans (w_istore (ls' := [.ref 166, .int a1, .int a2, .int s0, .int 0]) dMo_deals_34 (Nat.le_of_ble_eq_true rfl) rfl))
theorem bMo_deals_36 {E : mEn} {d : Nat} {σ : mSt} {Q : mPost} {a1 : Int32} {a2 : Int32} {a3 : Int32} {a4 : Int32} : WP E d mMo_deals 36 [.ref 166, .int a1, .int a2, .int a3, .int a4] [] σ Q = (if (σ.1 166 28) ≤ a4 then WP E d mMo_deals 94 [.ref 166, .int a1, .int a2, .int a3, .int a4] [] σ Q else WP E d mMo_deals 45 [.ref 166, .int a1, .int a2, .int a3, .int a4] [] σ Q) := (w_iload dMo_deals_36 rfl).trans ((w_aload_n dMo_deals_38 rfl).trans ((w_geti dMo_deals_39 rz11_357 sh_166 rfl).trans (w_icmpge (t := 94) dMo_deals_42 (by decide))))
theorem bMo_deals_45 {E : mEn} {d : Nat} {σ : mSt} {Q : mPost} {a1 : Int32} {a2 : Int32} {a3 : Int32} {a4 : Int32} : WP E (d + 1) mMo_deals 45 [.ref 166, .int a1, .int a2, .int a3, .int a4] [] σ Q = (if mOut a4 8 = true then False else (if mOut a4 8 = true then False else WP E d mMo_holdsOf 0 [.ref 166, .int (σ.1 175 a4.toNatClampNeg), .int a1, uu, uu] [] σ (fun r σ' => WP E (d + 1) mMo_deals 69 [.ref 166, .int a1, .int a2, .int a3, .int a4] (r.toList ++ [.int a3, .int (σ.1 175 a4.toNatClampNeg), .ref 176]) σ' Q))) := (w_aload_n dMo_deals_45 rfl).trans ((w_getr (r := 176) dMo_deals_46 rz11_50 sh_166 rfl).trans ((w_aload_n dMo_deals_49 rfl).trans ((w_getr (r := 175) dMo_deals_50 rz11_47 sh_166 rfl).trans ((w_iload dMo_deals_53 rfl).trans ((w_iald dMo_deals_55 sh_175 (by decide)).trans (ite_c ((w_iload_n dMo_deals_56 rfl).trans ((w_aload_n dMo_deals_57 rfl).trans ((w_aload_n dMo_deals_58 rfl).trans ((w_getr (r := 175) dMo_deals_59 rz11_47 sh_166 rfl).trans ((w_iload dMo_deals_62 rfl).trans ((w_iald dMo_deals_64 sh_175 (by decide)).trans (ite_c ((w_iload_n dMo_deals_65 rfl).trans (w_virt (vs := [.int (σ.1 175 a4.toNatClampNeg), .int a1]) (st' := [.int a3, .int (σ.1 175 a4.toNatClampNeg), .ref 176]) (es := [.ref 166, .int (σ.1 175 a4.toNatClampNeg), .int a1, uu, uu]) dMo_deals_66 rz11_347 rfl sh_166 rfl rfl rfl (Nat.le_of_ble_eq_true rfl) (Nat.le_of_ble_eq_true rfl) rfl)))))))))))))))
theorem bMo_deals_69 {E : mEn} {d : Nat} {σ : mSt} {Q : mPost} {a1 : Int32} {a2 : Int32} {a3 : Int32} {a4 : Int32} {s0 : Int32} {s1 : Int32} {s2 : Int32} : WP E d mMo_deals 69 [.ref 166, .int a1, .int a2, .int a3, .int a4] [.int s0, .int s1, .int s2, .ref 176] σ Q = (if mOut s2 8 = true then False else (if mOut a4 8 = true then False else (if mOut ((sI σ 176 s2.toNatClampNeg (if s0 < s1 then s0 else s1)).1 175 a4.toNatClampNeg) 8 = true then False else WP E d mMo_deals 36 [.ref 166, .int a1, .int a2, .int (a3 - ((sI σ 176 s2.toNatClampNeg (if s0 < s1 then s0 else s1)).1 176 ((sI σ 176 s2.toNatClampNeg (if s0 < s1 then s0 else s1)).1 175 a4.toNatClampNeg).toNatClampNeg)), .int (a4 + 1)] [] (sI σ 176 s2.toNatClampNeg (if s0 < s1 then s0 else s1)) Q))) := (w_min dMo_deals_69 rz11_367 (Nat.le_of_ble_eq_true rfl)).trans ((w_iast dMo_deals_72 sh_176).trans (ite_c ((w_iload_n dMo_deals_73 rfl).trans ((w_aload_n dMo_deals_74 rfl).trans ((w_getr (r := 176) dMo_deals_75 rz11_50 sh_166 rfl).trans ((w_aload_n dMo_deals_78 rfl).trans ((w_getr (r := 175) dMo_deals_79 rz11_47 sh_166 rfl).trans ((w_iload dMo_deals_82 rfl).trans ((w_iald dMo_deals_84 sh_175 (by decide)).trans (ite_c ((w_iald dMo_deals_85 sh_176 (by decide)).trans (ite_c ((w_isub dMo_deals_86).trans ((w_istore_n (ls' := [.ref 166, .int a1, .int a2, .int (a3 - ((sI σ 176 s2.toNatClampNeg (if s0 < s1 then s0 else s1)).1 176 ((sI σ 176 s2.toNatClampNeg (if s0 < s1 then s0 else s1)).1 175 a4.toNatClampNeg).toNatClampNeg)), .int a4]) dMo_deals_87 (Nat.le_of_ble_eq_true rfl) rfl).trans ((w_iinc (v := 1) (ls' := [.ref 166, .int a1, .int a2, .int (a3 - ((sI σ 176 s2.toNatClampNeg (if s0 < s1 then s0 else s1)).1 176 ((sI σ 176 s2.toNatClampNeg (if s0 < s1 then s0 else s1)).1 175 a4.toNatClampNeg).toNatClampNeg)), .int (a4 + 1)]) dMo_deals_88 rfl rfl rfl).trans (w_goto (t := 36) dMo_deals_91 (by decide)))))))))))))))))
theorem bMo_deals_94 {E : mEn} {d : Nat} {σ : mSt} {Q : mPost} {a1 : Int32} {a2 : Int32} {a3 : Int32} {a4 : Int32} : WP E d mMo_deals 94 [.ref 166, .int a1, .int a2, .int a3, .int a4] [] σ Q = Q none σ := w_vret dMo_deals_94 rfl
theorem dMo_comes_0 : decode (mC mMo_comes) 0 = .ok (.aload_n 0, 1) := by decide +kernel
theorem dMo_comes_1 : decode (mC mMo_comes) 1 = .ok (.iload_n 1, 1) := by decide +kernel
theorem dMo_comes_2 : decode (mC mMo_comes) 2 = .ok (.invokevirtual 338, 3) := by decide +kernel
theorem dMo_comes_5 : decode (mC mMo_comes) 5 = .ok (.ifCond .eq (7), 3) := by decide +kernel
theorem dMo_comes_8 : decode (mC mMo_comes) 8 = .ok (.iconst (0), 1) := by decide +kernel
theorem dMo_comes_9 : decode (mC mMo_comes) 9 = .ok (.goto (30), 3) := by decide +kernel
theorem dMo_comes_12 : decode (mC mMo_comes) 12 = .ok (.iload_n 2, 1) := by decide +kernel
theorem dMo_comes_13 : decode (mC mMo_comes) 13 = .ok (.ifCond .eq (17), 3) := by decide +kernel
theorem dMo_comes_16 : decode (mC mMo_comes) 16 = .ok (.aload_n 0, 1) := by decide +kernel
theorem dMo_comes_17 : decode (mC mMo_comes) 17 = .ok (.getfield 35, 3) := by decide +kernel
theorem dMo_comes_20 : decode (mC mMo_comes) 20 = .ok (.bipush (58), 2) := by decide +kernel
theorem dMo_comes_22 : decode (mC mMo_comes) 22 = .ok (.iload_n 1, 1) := by decide +kernel
theorem dMo_comes_23 : decode (mC mMo_comes) 23 = .ok (.iadd, 1) := by decide +kernel
theorem dMo_comes_24 : decode (mC mMo_comes) 24 = .ok (.iaload, 1) := by decide +kernel
theorem dMo_comes_25 : decode (mC mMo_comes) 25 = .ok (.iconst (2), 1) := by decide +kernel
theorem dMo_comes_26 : decode (mC mMo_comes) 26 = .ok (.idiv, 1) := by decide +kernel
theorem dMo_comes_27 : decode (mC mMo_comes) 27 = .ok (.goto (12), 3) := by decide +kernel
theorem dMo_comes_30 : decode (mC mMo_comes) 30 = .ok (.aload_n 0, 1) := by decide +kernel
theorem dMo_comes_31 : decode (mC mMo_comes) 31 = .ok (.getfield 35, 3) := by decide +kernel
theorem dMo_comes_34 : decode (mC mMo_comes) 34 = .ok (.bipush (58), 2) := by decide +kernel
theorem dMo_comes_36 : decode (mC mMo_comes) 36 = .ok (.iload_n 1, 1) := by decide +kernel
theorem dMo_comes_37 : decode (mC mMo_comes) 37 = .ok (.iadd, 1) := by decide +kernel
theorem dMo_comes_38 : decode (mC mMo_comes) 38 = .ok (.iaload, 1) := by decide +kernel
theorem dMo_comes_39 : decode (mC mMo_comes) 39 = .ok (.ireturn, 1) := by decide +kernel
theorem bMo_comes_0 {E : mEn} {d : Nat} {σ : mSt} {Q : mPost} {a1 : Int32} {a2 : Int32} : WP E (d + 1) mMo_comes 0 [.ref 166, .int a1, .int a2] [] σ Q = WP E d mMo_isPaper 0 [.ref 166, .int a1] [] σ (fun r σ' => WP E (d + 1) mMo_comes 5 [.ref 166, .int a1, .int a2] (r.toList ++ []) σ' Q) := (w_aload_n dMo_comes_0 rfl).trans ((w_iload_n dMo_comes_1 rfl).trans (w_virt (vs := [.int a1]) (st' := []) (es := [.ref 166, .int a1]) dMo_comes_2 rz11_338 rfl sh_166 rfl rfl rfl (Nat.le_of_ble_eq_true rfl) (Nat.le_of_ble_eq_true rfl) rfl))
theorem bMo_comes_5 {E : mEn} {d : Nat} {σ : mSt} {Q : mPost} {a1 : Int32} {a2 : Int32} {s0 : Int32} : WP E d mMo_comes 5 [.ref 166, .int a1, .int a2] [.int s0] σ Q = (if s0 = 0 then WP E d mMo_comes 12 [.ref 166, .int a1, .int a2] [] σ Q else WP E d mMo_comes 8 [.ref 166, .int a1, .int a2] [] σ Q) := w_ifeq (t := 12) dMo_comes_5 (by decide)
theorem bMo_comes_8 {E : mEn} {d : Nat} {σ : mSt} {Q : mPost} {a1 : Int32} {a2 : Int32} : WP E d mMo_comes 8 [.ref 166, .int a1, .int a2] [] σ Q = WP E d mMo_comes 39 [.ref 166, .int a1, .int a2] [.int 0] σ Q := (w_iconst (v := 0) dMo_comes_8 rfl).trans (w_goto (t := 39) dMo_comes_9 (by decide))
theorem bMo_comes_12 {E : mEn} {d : Nat} {σ : mSt} {Q : mPost} {a1 : Int32} {a2 : Int32} : WP E d mMo_comes 12 [.ref 166, .int a1, .int a2] [] σ Q = (if a2 = 0 then WP E d mMo_comes 30 [.ref 166, .int a1, .int a2] [] σ Q else WP E d mMo_comes 16 [.ref 166, .int a1, .int a2] [] σ Q) := (w_iload_n dMo_comes_12 rfl).trans (w_ifeq (t := 30) dMo_comes_13 (by decide))
theorem bMo_comes_16 {E : mEn} {d : Nat} {σ : mSt} {Q : mPost} {a1 : Int32} {a2 : Int32} : WP E d mMo_comes 16 [.ref 166, .int a1, .int a2] [] σ Q = (if mOut ((nI 58) + a1) 3000 = true then False else WP E d mMo_comes 39 [.ref 166, .int a1, .int a2] [.int ((σ.1 171 ((nI 58) + a1).toNatClampNeg) / (nI 2))] σ Q) := (w_aload_n dMo_comes_16 rfl).trans ((w_getr (r := 171) dMo_comes_17 rz11_35 sh_166 rfl).trans ((w_bipush (v := (nI 58)) dMo_comes_20 rfl).trans ((w_iload_n dMo_comes_22 rfl).trans ((w_iadd dMo_comes_23).trans ((w_iald dMo_comes_24 sh_171 (by decide)).trans (ite_c ((w_iconst (v := (nI 2)) dMo_comes_25 rfl).trans ((w_idiv dMo_comes_26 (by decide)).trans (w_goto (t := 39) dMo_comes_27 (by decide))))))))))
theorem bMo_comes_30 {E : mEn} {d : Nat} {σ : mSt} {Q : mPost} {a1 : Int32} {a2 : Int32} : WP E d mMo_comes 30 [.ref 166, .int a1, .int a2] [] σ Q = (if mOut ((nI 58) + a1) 3000 = true then False else WP E d mMo_comes 39 [.ref 166, .int a1, .int a2] [.int (σ.1 171 ((nI 58) + a1).toNatClampNeg)] σ Q) := (w_aload_n dMo_comes_30 rfl).trans ((w_getr (r := 171) dMo_comes_31 rz11_35 sh_166 rfl).trans ((w_bipush (v := (nI 58)) dMo_comes_34 rfl).trans ((w_iload_n dMo_comes_36 rfl).trans ((w_iadd dMo_comes_37).trans ((w_iald dMo_comes_38 sh_171 (by decide)).trans (ite_c (rfl)))))))
theorem bMo_comes_39 {E : mEn} {d : Nat} {σ : mSt} {Q : mPost} {a1 : Int32} {a2 : Int32} {s0 : Int32} : WP E d mMo_comes 39 [.ref 166, .int a1, .int a2] [.int s0] σ Q = Q (some (.int s0)) σ := w_iret dMo_comes_39 rfl
theorem dMo_gets_0 : decode (mC mMo_gets) 0 = .ok (.aload_n 0, 1) := by decide +kernel
theorem dMo_gets_1 : decode (mC mMo_gets) 1 = .ok (.iconst (0), 1) := by decide +kernel
theorem dMo_gets_2 : decode (mC mMo_gets) 2 = .ok (.putfield 74, 3) := by decide +kernel
theorem dMo_gets_5 : decode (mC mMo_gets) 5 = .ok (.aload_n 0, 1) := by decide +kernel
theorem dMo_gets_6 : decode (mC mMo_gets) 6 = .ok (.iconst (0), 1) := by decide +kernel
theorem dMo_gets_7 : decode (mC mMo_gets) 7 = .ok (.putfield 77, 3) := by decide +kernel
theorem dMo_gets_10 : decode (mC mMo_gets) 10 = .ok (.aload_n 0, 1) := by decide +kernel
theorem dMo_gets_11 : decode (mC mMo_gets) 11 = .ok (.iload_n 1, 1) := by decide +kernel
theorem dMo_gets_12 : decode (mC mMo_gets) 12 = .ok (.invokevirtual 332, 3) := by decide +kernel
theorem dMo_gets_15 : decode (mC mMo_gets) 15 = .ok (.ifCond .eq (11), 3) := by decide +kernel
theorem dMo_gets_18 : decode (mC mMo_gets) 18 = .ok (.aload_n 0, 1) := by decide +kernel
theorem dMo_gets_19 : decode (mC mMo_gets) 19 = .ok (.iload_n 2, 1) := by decide +kernel
theorem dMo_gets_20 : decode (mC mMo_gets) 20 = .ok (.invokevirtual 335, 3) := by decide +kernel
theorem dMo_gets_23 : decode (mC mMo_gets) 23 = .ok (.ifCond .ne (9), 3) := by decide +kernel
theorem dMo_gets_26 : decode (mC mMo_gets) 26 = .ok (.aload_n 0, 1) := by decide +kernel
theorem dMo_gets_27 : decode (mC mMo_gets) 27 = .ok (.iconst (2), 1) := by decide +kernel
theorem dMo_gets_28 : decode (mC mMo_gets) 28 = .ok (.invokevirtual 329, 3) := by decide +kernel
theorem dMo_gets_31 : decode (mC mMo_gets) 31 = .ok (.ireturn, 1) := by decide +kernel
theorem dMo_gets_32 : decode (mC mMo_gets) 32 = .ok (.aload_n 0, 1) := by decide +kernel
theorem dMo_gets_33 : decode (mC mMo_gets) 33 = .ok (.iload_n 2, 1) := by decide +kernel
theorem dMo_gets_34 : decode (mC mMo_gets) 34 = .ok (.invokevirtual 338, 3) := by decide +kernel
theorem dMo_gets_37 : decode (mC mMo_gets) 37 = .ok (.ifCond .ne (11), 3) := by decide +kernel
theorem dMo_gets_40 : decode (mC mMo_gets) 40 = .ok (.aload_n 0, 1) := by decide +kernel
theorem dMo_gets_41 : decode (mC mMo_gets) 41 = .ok (.iload_n 2, 1) := by decide +kernel
theorem dMo_gets_42 : decode (mC mMo_gets) 42 = .ok (.invokevirtual 323, 3) := by decide +kernel
theorem dMo_gets_45 : decode (mC mMo_gets) 45 = .ok (.ifCond .eq (12), 3) := by decide +kernel
theorem dMo_gets_48 : decode (mC mMo_gets) 48 = .ok (.aload_n 0, 1) := by decide +kernel
theorem dMo_gets_49 : decode (mC mMo_gets) 49 = .ok (.bipush (9), 2) := by decide +kernel
theorem dMo_gets_51 : decode (mC mMo_gets) 51 = .ok (.invokevirtual 329, 3) := by decide +kernel
theorem dMo_gets_54 : decode (mC mMo_gets) 54 = .ok (.goto (10), 3) := by decide +kernel
theorem dMo_gets_57 : decode (mC mMo_gets) 57 = .ok (.aload_n 0, 1) := by decide +kernel
theorem dMo_gets_58 : decode (mC mMo_gets) 58 = .ok (.iload_n 1, 1) := by decide +kernel
theorem dMo_gets_59 : decode (mC mMo_gets) 59 = .ok (.iload_n 2, 1) := by decide +kernel
theorem dMo_gets_60 : decode (mC mMo_gets) 60 = .ok (.iload_n 3, 1) := by decide +kernel
theorem dMo_gets_61 : decode (mC mMo_gets) 61 = .ok (.invokevirtual 374, 3) := by decide +kernel
theorem dMo_gets_64 : decode (mC mMo_gets) 64 = .ok (.ireturn, 1) := by decide +kernel
theorem bMo_gets_0 {E : mEn} {d : Nat} {σ : mSt} {Q : mPost} {a1 : Int32} {a2 : Int32} {a3 : Int32} : WP E (d + 1) mMo_gets 0 [.ref 166, .int a1, .int a2, .int a3] [] σ Q = WP E d mMo_isPersonAt 0 [.ref 166, .int a1] [] (sI (sI σ 166 1 0) 166 0 0) (fun r σ' => WP E (d + 1) mMo_gets 15 [.ref 166, .int a1, .int a2, .int a3] (r.toList ++ []) σ' Q) := (w_aload_n dMo_gets_0 rfl).trans ((w_iconst (v := 0) dMo_gets_1 rfl).trans ((w_puti dMo_gets_2 rz11_74 sh_166 rfl rfl rfl).trans ((w_aload_n dMo_gets_5 rfl).trans ((w_iconst (v := 0) dMo_gets_6 rfl).trans ((w_puti dMo_gets_7 rz11_77 sh_166 rfl rfl rfl).trans ((w_aload_n dMo_gets_10 rfl).trans ((w_iload_n dMo_gets_11 rfl).trans (w_virt (vs := [.int a1]) (st' := []) (es := [.ref 166, .int a1]) dMo_gets_12 rz11_332 rfl sh_166 rfl rfl rfl (Nat.le_of_ble_eq_true rfl) (Nat.le_of_ble_eq_true rfl) rfl))))))))
theorem bMo_gets_15 {E : mEn} {d : Nat} {σ : mSt} {Q : mPost} {a1 : Int32} {a2 : Int32} {a3 : Int32} {s0 : Int32} : WP E d mMo_gets 15 [.ref 166, .int a1, .int a2, .int a3] [.int s0] σ Q = (if s0 = 0 then WP E d mMo_gets 26 [.ref 166, .int a1, .int a2, .int a3] [] σ Q else WP E d mMo_gets 18 [.ref 166, .int a1, .int a2, .int a3] [] σ Q) := w_ifeq (t := 26) dMo_gets_15 (by decide)
theorem bMo_gets_18 {E : mEn} {d : Nat} {σ : mSt} {Q : mPost} {a1 : Int32} {a2 : Int32} {a3 : Int32} : WP E (d + 1) mMo_gets 18 [.ref 166, .int a1, .int a2, .int a3] [] σ Q = WP E d mMo_isLoafAt 0 [.ref 166, .int a2] [] σ (fun r σ' => WP E (d + 1) mMo_gets 23 [.ref 166, .int a1, .int a2, .int a3] (r.toList ++ []) σ' Q) := (w_aload_n dMo_gets_18 rfl).trans ((w_iload_n dMo_gets_19 rfl).trans (w_virt (vs := [.int a2]) (st' := []) (es := [.ref 166, .int a2]) dMo_gets_20 rz11_335 rfl sh_166 rfl rfl rfl (Nat.le_of_ble_eq_true rfl) (Nat.le_of_ble_eq_true rfl) rfl))
theorem bMo_gets_23 {E : mEn} {d : Nat} {σ : mSt} {Q : mPost} {a1 : Int32} {a2 : Int32} {a3 : Int32} {s0 : Int32} : WP E d mMo_gets 23 [.ref 166, .int a1, .int a2, .int a3] [.int s0] σ Q = (if ¬ s0 = 0 then WP E d mMo_gets 32 [.ref 166, .int a1, .int a2, .int a3] [] σ Q else WP E d mMo_gets 26 [.ref 166, .int a1, .int a2, .int a3] [] σ Q) := w_ifne (t := 32) dMo_gets_23 (by decide)
theorem bMo_gets_26 {E : mEn} {d : Nat} {σ : mSt} {Q : mPost} {a1 : Int32} {a2 : Int32} {a3 : Int32} : WP E (d + 1) mMo_gets 26 [.ref 166, .int a1, .int a2, .int a3] [] σ Q = WP E d mMo_refuse 0 [.ref 166, .int (nI 2)] [] σ (fun r σ' => WP E (d + 1) mMo_gets 31 [.ref 166, .int a1, .int a2, .int a3] (r.toList ++ []) σ' Q) := (w_aload_n dMo_gets_26 rfl).trans ((w_iconst (v := (nI 2)) dMo_gets_27 rfl).trans (w_virt (vs := [.int (nI 2)]) (st' := []) (es := [.ref 166, .int (nI 2)]) dMo_gets_28 rz11_329 rfl sh_166 rfl rfl rfl (Nat.le_of_ble_eq_true rfl) (Nat.le_of_ble_eq_true rfl) rfl))
theorem bMo_gets_31 {E : mEn} {d : Nat} {σ : mSt} {Q : mPost} {a1 : Int32} {a2 : Int32} {a3 : Int32} {s0 : Int32} : WP E d mMo_gets 31 [.ref 166, .int a1, .int a2, .int a3] [.int s0] σ Q = Q (some (.int s0)) σ := w_iret dMo_gets_31 rfl
theorem bMo_gets_32 {E : mEn} {d : Nat} {σ : mSt} {Q : mPost} {a1 : Int32} {a2 : Int32} {a3 : Int32} : WP E (d + 1) mMo_gets 32 [.ref 166, .int a1, .int a2, .int a3] [] σ Q = WP E d mMo_isPaper 0 [.ref 166, .int a2] [] σ (fun r σ' => WP E (d + 1) mMo_gets 37 [.ref 166, .int a1, .int a2, .int a3] (r.toList ++ []) σ' Q) := (w_aload_n dMo_gets_32 rfl).trans ((w_iload_n dMo_gets_33 rfl).trans (w_virt (vs := [.int a2]) (st' := []) (es := [.ref 166, .int a2]) dMo_gets_34 rz11_338 rfl sh_166 rfl rfl rfl (Nat.le_of_ble_eq_true rfl) (Nat.le_of_ble_eq_true rfl) rfl))
theorem bMo_gets_37 {E : mEn} {d : Nat} {σ : mSt} {Q : mPost} {a1 : Int32} {a2 : Int32} {a3 : Int32} {s0 : Int32} : WP E d mMo_gets 37 [.ref 166, .int a1, .int a2, .int a3] [.int s0] σ Q = (if ¬ s0 = 0 then WP E d mMo_gets 48 [.ref 166, .int a1, .int a2, .int a3] [] σ Q else WP E d mMo_gets 40 [.ref 166, .int a1, .int a2, .int a3] [] σ Q) := w_ifne (t := 48) dMo_gets_37 (by decide)
theorem bMo_gets_40 {E : mEn} {d : Nat} {σ : mSt} {Q : mPost} {a1 : Int32} {a2 : Int32} {a3 : Int32} : WP E (d + 1) mMo_gets 40 [.ref 166, .int a1, .int a2, .int a3] [] σ Q = WP E d mMo_isBaked 0 [.ref 166, .int a2] [] σ (fun r σ' => WP E (d + 1) mMo_gets 45 [.ref 166, .int a1, .int a2, .int a3] (r.toList ++ []) σ' Q) := (w_aload_n dMo_gets_40 rfl).trans ((w_iload_n dMo_gets_41 rfl).trans (w_virt (vs := [.int a2]) (st' := []) (es := [.ref 166, .int a2]) dMo_gets_42 rz11_323 rfl sh_166 rfl rfl rfl (Nat.le_of_ble_eq_true rfl) (Nat.le_of_ble_eq_true rfl) rfl))
theorem bMo_gets_45 {E : mEn} {d : Nat} {σ : mSt} {Q : mPost} {a1 : Int32} {a2 : Int32} {a3 : Int32} {s0 : Int32} : WP E d mMo_gets 45 [.ref 166, .int a1, .int a2, .int a3] [.int s0] σ Q = (if s0 = 0 then WP E d mMo_gets 57 [.ref 166, .int a1, .int a2, .int a3] [] σ Q else WP E d mMo_gets 48 [.ref 166, .int a1, .int a2, .int a3] [] σ Q) := w_ifeq (t := 57) dMo_gets_45 (by decide)
theorem bMo_gets_48 {E : mEn} {d : Nat} {σ : mSt} {Q : mPost} {a1 : Int32} {a2 : Int32} {a3 : Int32} : WP E (d + 1) mMo_gets 48 [.ref 166, .int a1, .int a2, .int a3] [] σ Q = WP E d mMo_refuse 0 [.ref 166, .int (nI 9)] [] σ (fun r σ' => WP E (d + 1) mMo_gets 54 [.ref 166, .int a1, .int a2, .int a3] (r.toList ++ []) σ' Q) := (w_aload_n dMo_gets_48 rfl).trans ((w_bipush (v := (nI 9)) dMo_gets_49 rfl).trans (w_virt (vs := [.int (nI 9)]) (st' := []) (es := [.ref 166, .int (nI 9)]) dMo_gets_51 rz11_329 rfl sh_166 rfl rfl rfl (Nat.le_of_ble_eq_true rfl) (Nat.le_of_ble_eq_true rfl) rfl))
theorem bMo_gets_54 {E : mEn} {d : Nat} {σ : mSt} {Q : mPost} {a1 : Int32} {a2 : Int32} {a3 : Int32} {s0 : Int32} : WP E d mMo_gets 54 [.ref 166, .int a1, .int a2, .int a3] [.int s0] σ Q = WP E d mMo_gets 64 [.ref 166, .int a1, .int a2, .int a3] [.int s0] σ Q := w_goto (t := 64) dMo_gets_54 (by decide)
theorem bMo_gets_57 {E : mEn} {d : Nat} {σ : mSt} {Q : mPost} {a1 : Int32} {a2 : Int32} {a3 : Int32} : WP E (d + 1) mMo_gets 57 [.ref 166, .int a1, .int a2, .int a3] [] σ Q = WP E d mMo_getsOf 0 [.ref 166, .int a1, .int a2, .int a3] [] σ (fun r σ' => WP E (d + 1) mMo_gets 64 [.ref 166, .int a1, .int a2, .int a3] (r.toList ++ []) σ' Q) := (w_aload_n dMo_gets_57 rfl).trans ((w_iload_n dMo_gets_58 rfl).trans ((w_iload_n dMo_gets_59 rfl).trans ((w_iload_n dMo_gets_60 rfl).trans (w_virt (vs := [.int a1, .int a2, .int a3]) (st' := []) (es := [.ref 166, .int a1, .int a2, .int a3]) dMo_gets_61 rz11_374 rfl sh_166 rfl rfl rfl (Nat.le_of_ble_eq_true rfl) (Nat.le_of_ble_eq_true rfl) rfl))))
theorem bMo_gets_64 {E : mEn} {d : Nat} {σ : mSt} {Q : mPost} {a1 : Int32} {a2 : Int32} {a3 : Int32} {s0 : Int32} : WP E d mMo_gets 64 [.ref 166, .int a1, .int a2, .int a3] [.int s0] σ Q = Q (some (.int s0)) σ := w_iret dMo_gets_64 rfl
theorem dMo_getsOf_0 : decode (mC mMo_getsOf) 0 = .ok (.aload_n 0, 1) := by decide +kernel
theorem dMo_getsOf_1 : decode (mC mMo_getsOf) 1 = .ok (.iload_n 2, 1) := by decide +kernel
theorem dMo_getsOf_2 : decode (mC mMo_getsOf) 2 = .ok (.iload_n 3, 1) := by decide +kernel
theorem dMo_getsOf_3 : decode (mC mMo_getsOf) 3 = .ok (.invokevirtual 370, 3) := by decide +kernel
theorem dMo_getsOf_6 : decode (mC mMo_getsOf) 6 = .ok (.aload_n 0, 1) := by decide +kernel
theorem dMo_getsOf_7 : decode (mC mMo_getsOf) 7 = .ok (.getfield 50, 3) := by decide +kernel
theorem dMo_getsOf_10 : decode (mC mMo_getsOf) 10 = .ok (.iload_n 1, 1) := by decide +kernel
theorem dMo_getsOf_11 : decode (mC mMo_getsOf) 11 = .ok (.iaload, 1) := by decide +kernel
theorem dMo_getsOf_12 : decode (mC mMo_getsOf) 12 = .ok (.ireturn, 1) := by decide +kernel
theorem bMo_getsOf_0 {E : mEn} {d : Nat} {σ : mSt} {Q : mPost} {a1 : Int32} {a2 : Int32} {a3 : Int32} : WP E (d + 1) mMo_getsOf 0 [.ref 166, .int a1, .int a2, .int a3] [] σ Q = WP E d mMo_deals 0 [.ref 166, .int a2, .int a3, uu, uu] [] σ (fun r σ' => WP E (d + 1) mMo_getsOf 6 [.ref 166, .int a1, .int a2, .int a3] (r.toList ++ []) σ' Q) := (w_aload_n dMo_getsOf_0 rfl).trans ((w_iload_n dMo_getsOf_1 rfl).trans ((w_iload_n dMo_getsOf_2 rfl).trans (w_virt (vs := [.int a2, .int a3]) (st' := []) (es := [.ref 166, .int a2, .int a3, uu, uu]) dMo_getsOf_3 rz11_370 rfl sh_166 rfl rfl rfl (Nat.le_of_ble_eq_true rfl) (Nat.le_of_ble_eq_true rfl) rfl)))
theorem bMo_getsOf_6 {E : mEn} {d : Nat} {σ : mSt} {Q : mPost} {a1 : Int32} {a2 : Int32} {a3 : Int32} : WP E d mMo_getsOf 6 [.ref 166, .int a1, .int a2, .int a3] [] σ Q = (if mOut a1 8 = true then False else Q (some (.int (σ.1 176 a1.toNatClampNeg))) σ) := (w_aload_n dMo_getsOf_6 rfl).trans ((w_getr (r := 176) dMo_getsOf_7 rz11_50 sh_166 rfl).trans ((w_iload_n dMo_getsOf_10 rfl).trans ((w_iald dMo_getsOf_11 sh_176 (by decide)).trans (ite_c (w_iret dMo_getsOf_12 rfl)))))
theorem dMo_shame_0 : decode (mC mMo_shame) 0 = .ok (.aload_n 0, 1) := by decide +kernel
theorem dMo_shame_1 : decode (mC mMo_shame) 1 = .ok (.iconst (0), 1) := by decide +kernel
theorem dMo_shame_2 : decode (mC mMo_shame) 2 = .ok (.putfield 74, 3) := by decide +kernel
theorem dMo_shame_5 : decode (mC mMo_shame) 5 = .ok (.aload_n 0, 1) := by decide +kernel
theorem dMo_shame_6 : decode (mC mMo_shame) 6 = .ok (.iconst (0), 1) := by decide +kernel
theorem dMo_shame_7 : decode (mC mMo_shame) 7 = .ok (.putfield 77, 3) := by decide +kernel
theorem dMo_shame_10 : decode (mC mMo_shame) 10 = .ok (.aload_n 0, 1) := by decide +kernel
theorem dMo_shame_11 : decode (mC mMo_shame) 11 = .ok (.iload_n 1, 1) := by decide +kernel
theorem dMo_shame_12 : decode (mC mMo_shame) 12 = .ok (.invokevirtual 335, 3) := by decide +kernel
theorem dMo_shame_15 : decode (mC mMo_shame) 15 = .ok (.ifCond .ne (9), 3) := by decide +kernel
theorem dMo_shame_18 : decode (mC mMo_shame) 18 = .ok (.aload_n 0, 1) := by decide +kernel
theorem dMo_shame_19 : decode (mC mMo_shame) 19 = .ok (.iconst (2), 1) := by decide +kernel
theorem dMo_shame_20 : decode (mC mMo_shame) 20 = .ok (.invokevirtual 329, 3) := by decide +kernel
theorem dMo_shame_23 : decode (mC mMo_shame) 23 = .ok (.ireturn, 1) := by decide +kernel
theorem dMo_shame_24 : decode (mC mMo_shame) 24 = .ok (.aload_n 0, 1) := by decide +kernel
theorem dMo_shame_25 : decode (mC mMo_shame) 25 = .ok (.iload_n 1, 1) := by decide +kernel
theorem dMo_shame_26 : decode (mC mMo_shame) 26 = .ok (.invokevirtual 323, 3) := by decide +kernel
theorem dMo_shame_29 : decode (mC mMo_shame) 29 = .ok (.ifCond .eq (10), 3) := by decide +kernel
theorem dMo_shame_32 : decode (mC mMo_shame) 32 = .ok (.aload_n 0, 1) := by decide +kernel
theorem dMo_shame_33 : decode (mC mMo_shame) 33 = .ok (.bipush (9), 2) := by decide +kernel
theorem dMo_shame_35 : decode (mC mMo_shame) 35 = .ok (.invokevirtual 329, 3) := by decide +kernel
theorem dMo_shame_38 : decode (mC mMo_shame) 38 = .ok (.ireturn, 1) := by decide +kernel
theorem dMo_shame_39 : decode (mC mMo_shame) 39 = .ok (.aload_n 0, 1) := by decide +kernel
theorem dMo_shame_40 : decode (mC mMo_shame) 40 = .ok (.iload_n 1, 1) := by decide +kernel
theorem dMo_shame_41 : decode (mC mMo_shame) 41 = .ok (.iload_n 2, 1) := by decide +kernel
theorem dMo_shame_42 : decode (mC mMo_shame) 42 = .ok (.invokevirtual 378, 3) := by decide +kernel
theorem dMo_shame_45 : decode (mC mMo_shame) 45 = .ok (.istore_n 3, 1) := by decide +kernel
theorem dMo_shame_46 : decode (mC mMo_shame) 46 = .ok (.iconst (0), 1) := by decide +kernel
theorem dMo_shame_47 : decode (mC mMo_shame) 47 = .ok (.istore 4, 2) := by decide +kernel
theorem dMo_shame_49 : decode (mC mMo_shame) 49 = .ok (.iload 4, 2) := by decide +kernel
theorem dMo_shame_51 : decode (mC mMo_shame) 51 = .ok (.aload_n 0, 1) := by decide +kernel
theorem dMo_shame_52 : decode (mC mMo_shame) 52 = .ok (.getfield 35, 3) := by decide +kernel
theorem dMo_shame_55 : decode (mC mMo_shame) 55 = .ok (.iconst (0), 1) := by decide +kernel
theorem dMo_shame_56 : decode (mC mMo_shame) 56 = .ok (.iaload, 1) := by decide +kernel
theorem dMo_shame_57 : decode (mC mMo_shame) 57 = .ok (.if_icmp .ge (19), 3) := by decide +kernel
theorem dMo_shame_60 : decode (mC mMo_shame) 60 = .ok (.iload_n 3, 1) := by decide +kernel
theorem dMo_shame_61 : decode (mC mMo_shame) 61 = .ok (.aload_n 0, 1) := by decide +kernel
theorem dMo_shame_62 : decode (mC mMo_shame) 62 = .ok (.iload 4, 2) := by decide +kernel
theorem dMo_shame_64 : decode (mC mMo_shame) 64 = .ok (.iload_n 1, 1) := by decide +kernel
theorem dMo_shame_65 : decode (mC mMo_shame) 65 = .ok (.invokevirtual 381, 3) := by decide +kernel
theorem dMo_shame_68 : decode (mC mMo_shame) 68 = .ok (.iadd, 1) := by decide +kernel
theorem dMo_shame_69 : decode (mC mMo_shame) 69 = .ok (.istore_n 3, 1) := by decide +kernel
theorem dMo_shame_70 : decode (mC mMo_shame) 70 = .ok (.iinc 4 (1), 3) := by decide +kernel
theorem dMo_shame_73 : decode (mC mMo_shame) 73 = .ok (.goto (-24), 3) := by decide +kernel
theorem dMo_shame_76 : decode (mC mMo_shame) 76 = .ok (.iload_n 3, 1) := by decide +kernel
theorem dMo_shame_77 : decode (mC mMo_shame) 77 = .ok (.ireturn, 1) := by decide +kernel
theorem bMo_shame_0 {E : mEn} {d : Nat} {σ : mSt} {Q : mPost} {a1 : Int32} {a2 : Int32} {u3 : Value} {u4 : Value} : WP E (d + 1) mMo_shame 0 [.ref 166, .int a1, .int a2, u3, u4] [] σ Q = WP E d mMo_isLoafAt 0 [.ref 166, .int a1] [] (sI (sI σ 166 1 0) 166 0 0) (fun r σ' => WP E (d + 1) mMo_shame 15 [.ref 166, .int a1, .int a2, u3, u4] (r.toList ++ []) σ' Q) := (w_aload_n dMo_shame_0 rfl).trans ((w_iconst (v := 0) dMo_shame_1 rfl).trans ((w_puti dMo_shame_2 rz11_74 sh_166 rfl rfl rfl).trans ((w_aload_n dMo_shame_5 rfl).trans ((w_iconst (v := 0) dMo_shame_6 rfl).trans ((w_puti dMo_shame_7 rz11_77 sh_166 rfl rfl rfl).trans ((w_aload_n dMo_shame_10 rfl).trans ((w_iload_n dMo_shame_11 rfl).trans (w_virt (vs := [.int a1]) (st' := []) (es := [.ref 166, .int a1]) dMo_shame_12 rz11_335 rfl sh_166 rfl rfl rfl (Nat.le_of_ble_eq_true rfl) (Nat.le_of_ble_eq_true rfl) rfl))))))))
theorem bMo_shame_15 {E : mEn} {d : Nat} {σ : mSt} {Q : mPost} {a1 : Int32} {a2 : Int32} {u3 : Value} {u4 : Value} {s0 : Int32} : WP E d mMo_shame 15 [.ref 166, .int a1, .int a2, u3, u4] [.int s0] σ Q = (if ¬ s0 = 0 then WP E d mMo_shame 24 [.ref 166, .int a1, .int a2, u3, u4] [] σ Q else WP E d mMo_shame 18 [.ref 166, .int a1, .int a2, u3, u4] [] σ Q) := w_ifne (t := 24) dMo_shame_15 (by decide)
theorem bMo_shame_18 {E : mEn} {d : Nat} {σ : mSt} {Q : mPost} {a1 : Int32} {a2 : Int32} {u3 : Value} {u4 : Value} : WP E (d + 1) mMo_shame 18 [.ref 166, .int a1, .int a2, u3, u4] [] σ Q = WP E d mMo_refuse 0 [.ref 166, .int (nI 2)] [] σ (fun r σ' => WP E (d + 1) mMo_shame 23 [.ref 166, .int a1, .int a2, u3, u4] (r.toList ++ []) σ' Q) := (w_aload_n dMo_shame_18 rfl).trans ((w_iconst (v := (nI 2)) dMo_shame_19 rfl).trans (w_virt (vs := [.int (nI 2)]) (st' := []) (es := [.ref 166, .int (nI 2)]) dMo_shame_20 rz11_329 rfl sh_166 rfl rfl rfl (Nat.le_of_ble_eq_true rfl) (Nat.le_of_ble_eq_true rfl) rfl))
theorem bMo_shame_23 {E : mEn} {d : Nat} {σ : mSt} {Q : mPost} {a1 : Int32} {a2 : Int32} {u3 : Value} {u4 : Value} {s0 : Int32} : WP E d mMo_shame 23 [.ref 166, .int a1, .int a2, u3, u4] [.int s0] σ Q = Q (some (.int s0)) σ := w_iret dMo_shame_23 rfl
theorem bMo_shame_24 {E : mEn} {d : Nat} {σ : mSt} {Q : mPost} {a1 : Int32} {a2 : Int32} {u3 : Value} {u4 : Value} : WP E (d + 1) mMo_shame 24 [.ref 166, .int a1, .int a2, u3, u4] [] σ Q = WP E d mMo_isBaked 0 [.ref 166, .int a1] [] σ (fun r σ' => WP E (d + 1) mMo_shame 29 [.ref 166, .int a1, .int a2, u3, u4] (r.toList ++ []) σ' Q) := (w_aload_n dMo_shame_24 rfl).trans ((w_iload_n dMo_shame_25 rfl).trans (w_virt (vs := [.int a1]) (st' := []) (es := [.ref 166, .int a1]) dMo_shame_26 rz11_323 rfl sh_166 rfl rfl rfl (Nat.le_of_ble_eq_true rfl) (Nat.le_of_ble_eq_true rfl) rfl))
theorem bMo_shame_29 {E : mEn} {d : Nat} {σ : mSt} {Q : mPost} {a1 : Int32} {a2 : Int32} {u3 : Value} {u4 : Value} {s0 : Int32} : WP E d mMo_shame 29 [.ref 166, .int a1, .int a2, u3, u4] [.int s0] σ Q = (if s0 = 0 then WP E d mMo_shame 39 [.ref 166, .int a1, .int a2, u3, u4] [] σ Q else WP E d mMo_shame 32 [.ref 166, .int a1, .int a2, u3, u4] [] σ Q) := w_ifeq (t := 39) dMo_shame_29 (by decide)
theorem bMo_shame_32 {E : mEn} {d : Nat} {σ : mSt} {Q : mPost} {a1 : Int32} {a2 : Int32} {u3 : Value} {u4 : Value} : WP E (d + 1) mMo_shame 32 [.ref 166, .int a1, .int a2, u3, u4] [] σ Q = WP E d mMo_refuse 0 [.ref 166, .int (nI 9)] [] σ (fun r σ' => WP E (d + 1) mMo_shame 38 [.ref 166, .int a1, .int a2, u3, u4] (r.toList ++ []) σ' Q) := (w_aload_n dMo_shame_32 rfl).trans ((w_bipush (v := (nI 9)) dMo_shame_33 rfl).trans (w_virt (vs := [.int (nI 9)]) (st' := []) (es := [.ref 166, .int (nI 9)]) dMo_shame_35 rz11_329 rfl sh_166 rfl rfl rfl (Nat.le_of_ble_eq_true rfl) (Nat.le_of_ble_eq_true rfl) rfl))
theorem bMo_shame_38 {E : mEn} {d : Nat} {σ : mSt} {Q : mPost} {a1 : Int32} {a2 : Int32} {u3 : Value} {u4 : Value} {s0 : Int32} : WP E d mMo_shame 38 [.ref 166, .int a1, .int a2, u3, u4] [.int s0] σ Q = Q (some (.int s0)) σ := w_iret dMo_shame_38 rfl
theorem bMo_shame_39 {E : mEn} {d : Nat} {σ : mSt} {Q : mPost} {a1 : Int32} {a2 : Int32} {u3 : Value} {u4 : Value} : WP E (d + 1) mMo_shame 39 [.ref 166, .int a1, .int a2, u3, u4] [] σ Q = WP E d mMo_unmet 0 [.ref 166, .int a1, .int a2, uu, uu] [] σ (fun r σ' => WP E (d + 1) mMo_shame 45 [.ref 166, .int a1, .int a2, u3, u4] (r.toList ++ []) σ' Q) := (w_aload_n dMo_shame_39 rfl).trans ((w_iload_n dMo_shame_40 rfl).trans ((w_iload_n dMo_shame_41 rfl).trans (w_virt (vs := [.int a1, .int a2]) (st' := []) (es := [.ref 166, .int a1, .int a2, uu, uu]) dMo_shame_42 rz11_378 rfl sh_166 rfl rfl rfl (Nat.le_of_ble_eq_true rfl) (Nat.le_of_ble_eq_true rfl) rfl)))
theorem bMo_shame_45 {E : mEn} {d : Nat} {σ : mSt} {Q : mPost} {a1 : Int32} {a2 : Int32} {u3 : Value} {u4 : Value} {s0 : Int32} : WP E d mMo_shame 45 [.ref 166, .int a1, .int a2, u3, u4] [.int s0] σ Q = WP E d mMo_shame 49 [.ref 166, .int a1, .int a2, .int s0, .int 0] [] σ Q := (w_istore_n (ls' := [.ref 166, .int a1, .int a2, .int s0, u4]) dMo_shame_45 (Nat.le_of_ble_eq_true rfl) rfl).trans ((w_iconst (v := 0) dMo_shame_46 rfl).trans (w_istore (ls' := [.ref 166, .int a1, .int a2, .int s0, .int 0]) dMo_shame_47 (Nat.le_of_ble_eq_true rfl) rfl))
theorem bMo_shame_49 {E : mEn} {d : Nat} {σ : mSt} {Q : mPost} {a1 : Int32} {a2 : Int32} {a3 : Int32} {a4 : Int32} : WP E d mMo_shame 49 [.ref 166, .int a1, .int a2, .int a3, .int a4] [] σ Q = (if mOut 0 3000 = true then False else (if (σ.1 171 0) ≤ a4 then WP E d mMo_shame 76 [.ref 166, .int a1, .int a2, .int a3, .int a4] [] σ Q else WP E d mMo_shame 60 [.ref 166, .int a1, .int a2, .int a3, .int a4] [] σ Q)) := (w_iload dMo_shame_49 rfl).trans ((w_aload_n dMo_shame_51 rfl).trans ((w_getr (r := 171) dMo_shame_52 rz11_35 sh_166 rfl).trans ((w_iconst (v := 0) dMo_shame_55 rfl).trans ((w_iald dMo_shame_56 sh_171 (by decide)).trans (ite_c (w_icmpge (t := 76) dMo_shame_57 (by decide)))))))
theorem bMo_shame_60 {E : mEn} {d : Nat} {σ : mSt} {Q : mPost} {a1 : Int32} {a2 : Int32} {a3 : Int32} {a4 : Int32} : WP E (d + 1) mMo_shame 60 [.ref 166, .int a1, .int a2, .int a3, .int a4] [] σ Q = WP E d mMo_owesOf 0 [.ref 166, .int a4, .int a1] [] σ (fun r σ' => WP E (d + 1) mMo_shame 68 [.ref 166, .int a1, .int a2, .int a3, .int a4] (r.toList ++ [.int a3]) σ' Q) := (w_iload_n dMo_shame_60 rfl).trans ((w_aload_n dMo_shame_61 rfl).trans ((w_iload dMo_shame_62 rfl).trans ((w_iload_n dMo_shame_64 rfl).trans (w_virt (vs := [.int a4, .int a1]) (st' := [.int a3]) (es := [.ref 166, .int a4, .int a1]) dMo_shame_65 rz11_381 rfl sh_166 rfl rfl rfl (Nat.le_of_ble_eq_true rfl) (Nat.le_of_ble_eq_true rfl) rfl))))
theorem bMo_shame_68 {E : mEn} {d : Nat} {σ : mSt} {Q : mPost} {a1 : Int32} {a2 : Int32} {a3 : Int32} {a4 : Int32} {s0 : Int32} {s1 : Int32} : WP E d mMo_shame 68 [.ref 166, .int a1, .int a2, .int a3, .int a4] [.int s0, .int s1] σ Q = WP E d mMo_shame 49 [.ref 166, .int a1, .int a2, .int (s1 + s0), .int (a4 + 1)] [] σ Q := (w_iadd dMo_shame_68).trans ((w_istore_n (ls' := [.ref 166, .int a1, .int a2, .int (s1 + s0), .int a4]) dMo_shame_69 (Nat.le_of_ble_eq_true rfl) rfl).trans ((w_iinc (v := 1) (ls' := [.ref 166, .int a1, .int a2, .int (s1 + s0), .int (a4 + 1)]) dMo_shame_70 rfl rfl rfl).trans (w_goto (t := 49) dMo_shame_73 (by decide))))
theorem bMo_shame_76 {E : mEn} {d : Nat} {σ : mSt} {Q : mPost} {a1 : Int32} {a2 : Int32} {a3 : Int32} {a4 : Int32} : WP E d mMo_shame 76 [.ref 166, .int a1, .int a2, .int a3, .int a4] [] σ Q = Q (some (.int a3)) σ := (w_iload_n dMo_shame_76 rfl).trans (w_iret dMo_shame_77 rfl)
theorem dMo_unmet_0 : decode (mC mMo_unmet) 0 = .ok (.aload_n 0, 1) := by decide +kernel
theorem dMo_unmet_1 : decode (mC mMo_unmet) 1 = .ok (.iload_n 1, 1) := by decide +kernel
theorem dMo_unmet_2 : decode (mC mMo_unmet) 2 = .ok (.iload_n 2, 1) := by decide +kernel
theorem dMo_unmet_3 : decode (mC mMo_unmet) 3 = .ok (.invokevirtual 370, 3) := by decide +kernel
theorem dMo_unmet_6 : decode (mC mMo_unmet) 6 = .ok (.iconst (0), 1) := by decide +kernel
theorem dMo_unmet_7 : decode (mC mMo_unmet) 7 = .ok (.istore_n 3, 1) := by decide +kernel
theorem dMo_unmet_8 : decode (mC mMo_unmet) 8 = .ok (.iconst (0), 1) := by decide +kernel
theorem dMo_unmet_9 : decode (mC mMo_unmet) 9 = .ok (.istore 4, 2) := by decide +kernel
theorem dMo_unmet_11 : decode (mC mMo_unmet) 11 = .ok (.iload 4, 2) := by decide +kernel
theorem dMo_unmet_13 : decode (mC mMo_unmet) 13 = .ok (.aload_n 0, 1) := by decide +kernel
theorem dMo_unmet_14 : decode (mC mMo_unmet) 14 = .ok (.getfield 357, 3) := by decide +kernel
theorem dMo_unmet_17 : decode (mC mMo_unmet) 17 = .ok (.if_icmp .ge (60), 3) := by decide +kernel
theorem dMo_unmet_20 : decode (mC mMo_unmet) 20 = .ok (.iload_n 3, 1) := by decide +kernel
theorem dMo_unmet_21 : decode (mC mMo_unmet) 21 = .ok (.aload_n 0, 1) := by decide +kernel
theorem dMo_unmet_22 : decode (mC mMo_unmet) 22 = .ok (.getfield 47, 3) := by decide +kernel
theorem dMo_unmet_25 : decode (mC mMo_unmet) 25 = .ok (.iload 4, 2) := by decide +kernel
theorem dMo_unmet_27 : decode (mC mMo_unmet) 27 = .ok (.iaload, 1) := by decide +kernel
theorem dMo_unmet_28 : decode (mC mMo_unmet) 28 = .ok (.aload_n 0, 1) := by decide +kernel
theorem dMo_unmet_29 : decode (mC mMo_unmet) 29 = .ok (.getfield 35, 3) := by decide +kernel
theorem dMo_unmet_32 : decode (mC mMo_unmet) 32 = .ok (.bipush (34), 2) := by decide +kernel
theorem dMo_unmet_34 : decode (mC mMo_unmet) 34 = .ok (.iload_n 1, 1) := by decide +kernel
theorem dMo_unmet_35 : decode (mC mMo_unmet) 35 = .ok (.iadd, 1) := by decide +kernel
theorem dMo_unmet_36 : decode (mC mMo_unmet) 36 = .ok (.iaload, 1) := by decide +kernel
theorem dMo_unmet_37 : decode (mC mMo_unmet) 37 = .ok (.if_icmp .ne (7), 3) := by decide +kernel
theorem dMo_unmet_40 : decode (mC mMo_unmet) 40 = .ok (.iconst (0), 1) := by decide +kernel
theorem dMo_unmet_41 : decode (mC mMo_unmet) 41 = .ok (.goto (28), 3) := by decide +kernel
theorem dMo_unmet_44 : decode (mC mMo_unmet) 44 = .ok (.aload_n 0, 1) := by decide +kernel
theorem dMo_unmet_45 : decode (mC mMo_unmet) 45 = .ok (.aload_n 0, 1) := by decide +kernel
theorem dMo_unmet_46 : decode (mC mMo_unmet) 46 = .ok (.getfield 47, 3) := by decide +kernel
theorem dMo_unmet_49 : decode (mC mMo_unmet) 49 = .ok (.iload 4, 2) := by decide +kernel
theorem dMo_unmet_51 : decode (mC mMo_unmet) 51 = .ok (.iaload, 1) := by decide +kernel
theorem dMo_unmet_52 : decode (mC mMo_unmet) 52 = .ok (.iload_n 1, 1) := by decide +kernel
theorem dMo_unmet_53 : decode (mC mMo_unmet) 53 = .ok (.invokevirtual 347, 3) := by decide +kernel
theorem dMo_unmet_56 : decode (mC mMo_unmet) 56 = .ok (.aload_n 0, 1) := by decide +kernel
theorem dMo_unmet_57 : decode (mC mMo_unmet) 57 = .ok (.getfield 50, 3) := by decide +kernel
theorem dMo_unmet_60 : decode (mC mMo_unmet) 60 = .ok (.aload_n 0, 1) := by decide +kernel
theorem dMo_unmet_61 : decode (mC mMo_unmet) 61 = .ok (.getfield 47, 3) := by decide +kernel
theorem dMo_unmet_64 : decode (mC mMo_unmet) 64 = .ok (.iload 4, 2) := by decide +kernel
theorem dMo_unmet_66 : decode (mC mMo_unmet) 66 = .ok (.iaload, 1) := by decide +kernel
theorem dMo_unmet_67 : decode (mC mMo_unmet) 67 = .ok (.iaload, 1) := by decide +kernel
theorem dMo_unmet_68 : decode (mC mMo_unmet) 68 = .ok (.isub, 1) := by decide +kernel
theorem dMo_unmet_69 : decode (mC mMo_unmet) 69 = .ok (.iadd, 1) := by decide +kernel
theorem dMo_unmet_70 : decode (mC mMo_unmet) 70 = .ok (.istore_n 3, 1) := by decide +kernel
theorem dMo_unmet_71 : decode (mC mMo_unmet) 71 = .ok (.iinc 4 (1), 3) := by decide +kernel
theorem dMo_unmet_74 : decode (mC mMo_unmet) 74 = .ok (.goto (-63), 3) := by decide +kernel
theorem dMo_unmet_77 : decode (mC mMo_unmet) 77 = .ok (.iload_n 3, 1) := by decide +kernel
theorem dMo_unmet_78 : decode (mC mMo_unmet) 78 = .ok (.ireturn, 1) := by decide +kernel
theorem bMo_unmet_0 {E : mEn} {d : Nat} {σ : mSt} {Q : mPost} {a1 : Int32} {a2 : Int32} {u3 : Value} {u4 : Value} : WP E (d + 1) mMo_unmet 0 [.ref 166, .int a1, .int a2, u3, u4] [] σ Q = WP E d mMo_deals 0 [.ref 166, .int a1, .int a2, uu, uu] [] σ (fun r σ' => WP E (d + 1) mMo_unmet 6 [.ref 166, .int a1, .int a2, u3, u4] (r.toList ++ []) σ' Q) := (w_aload_n dMo_unmet_0 rfl).trans ((w_iload_n dMo_unmet_1 rfl).trans ((w_iload_n dMo_unmet_2 rfl).trans (w_virt (vs := [.int a1, .int a2]) (st' := []) (es := [.ref 166, .int a1, .int a2, uu, uu]) dMo_unmet_3 rz11_370 rfl sh_166 rfl rfl rfl (Nat.le_of_ble_eq_true rfl) (Nat.le_of_ble_eq_true rfl) rfl)))
theorem bMo_unmet_6 {E : mEn} {d : Nat} {σ : mSt} {Q : mPost} {a1 : Int32} {a2 : Int32} {u3 : Value} {u4 : Value} : WP E d mMo_unmet 6 [.ref 166, .int a1, .int a2, u3, u4] [] σ Q = WP E d mMo_unmet 11 [.ref 166, .int a1, .int a2, .int 0, .int 0] [] σ Q := (w_iconst (v := 0) dMo_unmet_6 rfl).trans ((w_istore_n (ls' := [.ref 166, .int a1, .int a2, .int 0, u4]) dMo_unmet_7 (Nat.le_of_ble_eq_true rfl) rfl).trans ((w_iconst (v := 0) dMo_unmet_8 rfl).trans (w_istore (ls' := [.ref 166, .int a1, .int a2, .int 0, .int 0]) dMo_unmet_9 (Nat.le_of_ble_eq_true rfl) rfl)))
theorem bMo_unmet_11 {E : mEn} {d : Nat} {σ : mSt} {Q : mPost} {a1 : Int32} {a2 : Int32} {a3 : Int32} {a4 : Int32} : WP E d mMo_unmet 11 [.ref 166, .int a1, .int a2, .int a3, .int a4] [] σ Q = (if (σ.1 166 28) ≤ a4 then WP E d mMo_unmet 77 [.ref 166, .int a1, .int a2, .int a3, .int a4] [] σ Q else WP E d mMo_unmet 20 [.ref 166, .int a1, .int a2, .int a3, .int a4] [] σ Q) := (w_iload dMo_unmet_11 rfl).trans ((w_aload_n dMo_unmet_13 rfl).trans ((w_geti dMo_unmet_14 rz11_357 sh_166 rfl).trans (w_icmpge (t := 77) dMo_unmet_17 (by decide))))
theorem bMo_unmet_20 {E : mEn} {d : Nat} {σ : mSt} {Q : mPost} {a1 : Int32} {a2 : Int32} {a3 : Int32} {a4 : Int32} : WP E d mMo_unmet 20 [.ref 166, .int a1, .int a2, .int a3, .int a4] [] σ Q = (if mOut a4 8 = true then False else (if mOut ((nI 34) + a1) 3000 = true then False else (if ¬ (σ.1 175 a4.toNatClampNeg) = (σ.1 171 ((nI 34) + a1).toNatClampNeg) then WP E d mMo_unmet 44 [.ref 166, .int a1, .int a2, .int a3, .int a4] [.int a3] σ Q else WP E d mMo_unmet 40 [.ref 166, .int a1, .int a2, .int a3, .int a4] [.int a3] σ Q))) := (w_iload_n dMo_unmet_20 rfl).trans ((w_aload_n dMo_unmet_21 rfl).trans ((w_getr (r := 175) dMo_unmet_22 rz11_47 sh_166 rfl).trans ((w_iload dMo_unmet_25 rfl).trans ((w_iald dMo_unmet_27 sh_175 (by decide)).trans (ite_c ((w_aload_n dMo_unmet_28 rfl).trans ((w_getr (r := 171) dMo_unmet_29 rz11_35 sh_166 rfl).trans ((w_bipush (v := (nI 34)) dMo_unmet_32 rfl).trans ((w_iload_n dMo_unmet_34 rfl).trans ((w_iadd dMo_unmet_35).trans ((w_iald dMo_unmet_36 sh_171 (by decide)).trans (ite_c (w_icmpne (t := 44) dMo_unmet_37 (by decide))))))))))))))
theorem bMo_unmet_40 {E : mEn} {d : Nat} {σ : mSt} {Q : mPost} {a1 : Int32} {a2 : Int32} {a3 : Int32} {a4 : Int32} {s0 : Int32} : WP E d mMo_unmet 40 [.ref 166, .int a1, .int a2, .int a3, .int a4] [.int s0] σ Q = WP E d mMo_unmet 69 [.ref 166, .int a1, .int a2, .int a3, .int a4] [.int 0, .int s0] σ Q := (w_iconst (v := 0) dMo_unmet_40 rfl).trans (w_goto (t := 69) dMo_unmet_41 (by decide))
theorem bMo_unmet_44 {E : mEn} {d : Nat} {σ : mSt} {Q : mPost} {a1 : Int32} {a2 : Int32} {a3 : Int32} {a4 : Int32} {s0 : Int32} : WP E (d + 1) mMo_unmet 44 [.ref 166, .int a1, .int a2, .int a3, .int a4] [.int s0] σ Q = (if mOut a4 8 = true then False else WP E d mMo_holdsOf 0 [.ref 166, .int (σ.1 175 a4.toNatClampNeg), .int a1, uu, uu] [] σ (fun r σ' => WP E (d + 1) mMo_unmet 56 [.ref 166, .int a1, .int a2, .int a3, .int a4] (r.toList ++ [.int s0]) σ' Q)) := (w_aload_n dMo_unmet_44 rfl).trans ((w_aload_n dMo_unmet_45 rfl).trans ((w_getr (r := 175) dMo_unmet_46 rz11_47 sh_166 rfl).trans ((w_iload dMo_unmet_49 rfl).trans ((w_iald dMo_unmet_51 sh_175 (by decide)).trans (ite_c ((w_iload_n dMo_unmet_52 rfl).trans (w_virt (vs := [.int (σ.1 175 a4.toNatClampNeg), .int a1]) (st' := [.int s0]) (es := [.ref 166, .int (σ.1 175 a4.toNatClampNeg), .int a1, uu, uu]) dMo_unmet_53 rz11_347 rfl sh_166 rfl rfl rfl (Nat.le_of_ble_eq_true rfl) (Nat.le_of_ble_eq_true rfl) rfl)))))))
theorem bMo_unmet_56 {E : mEn} {d : Nat} {σ : mSt} {Q : mPost} {a1 : Int32} {a2 : Int32} {a3 : Int32} {a4 : Int32} {s0 : Int32} {s1 : Int32} : WP E d mMo_unmet 56 [.ref 166, .int a1, .int a2, .int a3, .int a4] [.int s0, .int s1] σ Q = (if mOut a4 8 = true then False else (if mOut (σ.1 175 a4.toNatClampNeg) 8 = true then False else WP E d mMo_unmet 69 [.ref 166, .int a1, .int a2, .int a3, .int a4] [.int (s0 - (σ.1 176 (σ.1 175 a4.toNatClampNeg).toNatClampNeg)), .int s1] σ Q)) := (w_aload_n dMo_unmet_56 rfl).trans ((w_getr (r := 176) dMo_unmet_57 rz11_50 sh_166 rfl).trans ((w_aload_n dMo_unmet_60 rfl).trans ((w_getr (r := 175) dMo_unmet_61 rz11_47 sh_166 rfl).trans ((w_iload dMo_unmet_64 rfl).trans ((w_iald dMo_unmet_66 sh_175 (by decide)).trans (ite_c ((w_iald dMo_unmet_67 sh_176 (by decide)).trans (ite_c (w_isub dMo_unmet_68)))))))))
theorem bMo_unmet_69 {E : mEn} {d : Nat} {σ : mSt} {Q : mPost} {a1 : Int32} {a2 : Int32} {a3 : Int32} {a4 : Int32} {s0 : Int32} {s1 : Int32} : WP E d mMo_unmet 69 [.ref 166, .int a1, .int a2, .int a3, .int a4] [.int s0, .int s1] σ Q = WP E d mMo_unmet 11 [.ref 166, .int a1, .int a2, .int (s1 + s0), .int (a4 + 1)] [] σ Q := (w_iadd dMo_unmet_69).trans ((w_istore_n (ls' := [.ref 166, .int a1, .int a2, .int (s1 + s0), .int a4]) dMo_unmet_70 (Nat.le_of_ble_eq_true rfl) rfl).trans ((w_iinc (v := 1) (ls' := [.ref 166, .int a1, .int a2, .int (s1 + s0), .int (a4 + 1)]) dMo_unmet_71 rfl rfl rfl).trans (w_goto (t := 11) dMo_unmet_74 (by decide))))
theorem bMo_unmet_77 {E : mEn} {d : Nat} {σ : mSt} {Q : mPost} {a1 : Int32} {a2 : Int32} {a3 : Int32} {a4 : Int32} : WP E d mMo_unmet 77 [.ref 166, .int a1, .int a2, .int a3, .int a4] [] σ Q = Q (some (.int a3)) σ := (w_iload_n dMo_unmet_77 rfl).trans (w_iret dMo_unmet_78 rfl)
theorem dMo_owesOf_0 : decode (mC mMo_owesOf) 0 = .ok (.iconst (0), 1) := by decide +kernel
theorem dMo_owesOf_1 : decode (mC mMo_owesOf) 1 = .ok (.aload_n 0, 1) := by decide +kernel
theorem dMo_owesOf_2 : decode (mC mMo_owesOf) 2 = .ok (.iload_n 1, 1) := by decide +kernel
theorem dMo_owesOf_3 : decode (mC mMo_owesOf) 3 = .ok (.iload_n 2, 1) := by decide +kernel
theorem dMo_owesOf_4 : decode (mC mMo_owesOf) 4 = .ok (.invokevirtual 347, 3) := by decide +kernel
theorem dMo_owesOf_7 : decode (mC mMo_owesOf) 7 = .ok (.ineg, 1) := by decide +kernel
theorem dMo_owesOf_8 : decode (mC mMo_owesOf) 8 = .ok (.invokestatic 258, 3) := by decide +kernel
theorem dMo_owesOf_11 : decode (mC mMo_owesOf) 11 = .ok (.ireturn, 1) := by decide +kernel
theorem bMo_owesOf_0 {E : mEn} {d : Nat} {σ : mSt} {Q : mPost} {a1 : Int32} {a2 : Int32} : WP E (d + 1) mMo_owesOf 0 [.ref 166, .int a1, .int a2] [] σ Q = WP E d mMo_holdsOf 0 [.ref 166, .int a1, .int a2, uu, uu] [] σ (fun r σ' => WP E (d + 1) mMo_owesOf 7 [.ref 166, .int a1, .int a2] (r.toList ++ [.int 0]) σ' Q) := (w_iconst (v := 0) dMo_owesOf_0 rfl).trans ((w_aload_n dMo_owesOf_1 rfl).trans ((w_iload_n dMo_owesOf_2 rfl).trans ((w_iload_n dMo_owesOf_3 rfl).trans (w_virt (vs := [.int a1, .int a2]) (st' := [.int 0]) (es := [.ref 166, .int a1, .int a2, uu, uu]) dMo_owesOf_4 rz11_347 rfl sh_166 rfl rfl rfl (Nat.le_of_ble_eq_true rfl) (Nat.le_of_ble_eq_true rfl) rfl))))
theorem bMo_owesOf_7 {E : mEn} {d : Nat} {σ : mSt} {Q : mPost} {a1 : Int32} {a2 : Int32} {s0 : Int32} {s1 : Int32} : WP E d mMo_owesOf 7 [.ref 166, .int a1, .int a2] [.int s0, .int s1] σ Q = Q (some (.int (if s1 < (-s0) then (-s0) else s1))) σ := (w_ineg dMo_owesOf_7).trans ((w_max dMo_owesOf_8 rz11_258 (Nat.le_of_ble_eq_true rfl)).trans (w_iret dMo_owesOf_11 rfl))
