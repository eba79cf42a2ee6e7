theorem dMo_stepWord_0 : decode (mC mMo_stepWord) 0 = .ok (.aload_n 0, 1) := by decide +kernel
theorem dMo_stepWord_1 : decode (mC mMo_stepWord) 1 = .ok (.invokevirtual 160, 3) := by decide +kernel
theorem dMo_stepWord_4 : decode (mC mMo_stepWord) 4 = .ok (.ifCond .eq (5), 3) := by decide +kernel
theorem dMo_stepWord_7 : decode (mC mMo_stepWord) 7 = .ok (.iconst (0), 1) := by decide +kernel
theorem dMo_stepWord_8 : decode (mC mMo_stepWord) 8 = .ok (.ireturn, 1) := by decide +kernel
theorem dMo_stepWord_9 : decode (mC mMo_stepWord) 9 = .ok (.aload_n 0, 1) := by decide +kernel
theorem dMo_stepWord_10 : decode (mC mMo_stepWord) 10 = .ok (.bipush (98), 2) := by decide +kernel
theorem dMo_stepWord_12 : decode (mC mMo_stepWord) 12 = .ok (.bipush (114), 2) := by decide +kernel
theorem dMo_stepWord_14 : decode (mC mMo_stepWord) 14 = .ok (.bipush (101), 2) := by decide +kernel
theorem dMo_stepWord_16 : decode (mC mMo_stepWord) 16 = .ok (.bipush (97), 2) := by decide +kernel
theorem dMo_stepWord_18 : decode (mC mMo_stepWord) 18 = .ok (.bipush (107), 2) := by decide +kernel
theorem dMo_stepWord_20 : decode (mC mMo_stepWord) 20 = .ok (.iconst (0), 1) := by decide +kernel
theorem dMo_stepWord_21 : decode (mC mMo_stepWord) 21 = .ok (.invokestatic 150, 3) := by decide +kernel
theorem dMo_stepWord_24 : decode (mC mMo_stepWord) 24 = .ok (.invokevirtual 154, 3) := by decide +kernel
theorem dMo_stepWord_27 : decode (mC mMo_stepWord) 27 = .ok (.ifCond .eq (5), 3) := by decide +kernel
theorem dMo_stepWord_30 : decode (mC mMo_stepWord) 30 = .ok (.iconst (1), 1) := by decide +kernel
theorem dMo_stepWord_31 : decode (mC mMo_stepWord) 31 = .ok (.ireturn, 1) := by decide +kernel
theorem dMo_stepWord_32 : decode (mC mMo_stepWord) 32 = .ok (.aload_n 0, 1) := by decide +kernel
theorem dMo_stepWord_33 : decode (mC mMo_stepWord) 33 = .ok (.bipush (98), 2) := by decide +kernel
theorem dMo_stepWord_35 : decode (mC mMo_stepWord) 35 = .ok (.bipush (97), 2) := by decide +kernel
theorem dMo_stepWord_37 : decode (mC mMo_stepWord) 37 = .ok (.bipush (107), 2) := by decide +kernel
theorem dMo_stepWord_39 : decode (mC mMo_stepWord) 39 = .ok (.bipush (101), 2) := by decide +kernel
theorem dMo_stepWord_41 : decode (mC mMo_stepWord) 41 = .ok (.iconst (0), 1) := by decide +kernel
theorem dMo_stepWord_42 : decode (mC mMo_stepWord) 42 = .ok (.iconst (0), 1) := by decide +kernel
theorem dMo_stepWord_43 : decode (mC mMo_stepWord) 43 = .ok (.invokestatic 150, 3) := by decide +kernel
theorem dMo_stepWord_46 : decode (mC mMo_stepWord) 46 = .ok (.invokevirtual 154, 3) := by decide +kernel
theorem dMo_stepWord_49 : decode (mC mMo_stepWord) 49 = .ok (.ifCond .eq (5), 3) := by decide +kernel
theorem dMo_stepWord_52 : decode (mC mMo_stepWord) 52 = .ok (.iconst (2), 1) := by decide +kernel
theorem dMo_stepWord_53 : decode (mC mMo_stepWord) 53 = .ok (.ireturn, 1) := by decide +kernel
theorem dMo_stepWord_54 : decode (mC mMo_stepWord) 54 = .ok (.aload_n 0, 1) := by decide +kernel
theorem dMo_stepWord_55 : decode (mC mMo_stepWord) 55 = .ok (.bipush (119), 2) := by decide +kernel
theorem dMo_stepWord_57 : decode (mC mMo_stepWord) 57 = .ok (.bipush (97), 2) := by decide +kernel
theorem dMo_stepWord_59 : decode (mC mMo_stepWord) 59 = .ok (.bipush (105), 2) := by decide +kernel
theorem dMo_stepWord_61 : decode (mC mMo_stepWord) 61 = .ok (.bipush (116), 2) := by decide +kernel
theorem dMo_stepWord_63 : decode (mC mMo_stepWord) 63 = .ok (.iconst (0), 1) := by decide +kernel
theorem dMo_stepWord_64 : decode (mC mMo_stepWord) 64 = .ok (.iconst (0), 1) := by decide +kernel
theorem dMo_stepWord_65 : decode (mC mMo_stepWord) 65 = .ok (.invokestatic 150, 3) := by decide +kernel
theorem dMo_stepWord_68 : decode (mC mMo_stepWord) 68 = .ok (.invokevirtual 154, 3) := by decide +kernel
theorem dMo_stepWord_71 : decode (mC mMo_stepWord) 71 = .ok (.ifCond .eq (5), 3) := by decide +kernel
theorem dMo_stepWord_74 : decode (mC mMo_stepWord) 74 = .ok (.iconst (3), 1) := by decide +kernel
theorem dMo_stepWord_75 : decode (mC mMo_stepWord) 75 = .ok (.ireturn, 1) := by decide +kernel
theorem dMo_stepWord_76 : decode (mC mMo_stepWord) 76 = .ok (.aload_n 0, 1) := by decide +kernel
theorem dMo_stepWord_77 : decode (mC mMo_stepWord) 77 = .ok (.bipush (101), 2) := by decide +kernel
theorem dMo_stepWord_79 : decode (mC mMo_stepWord) 79 = .ok (.bipush (97), 2) := by decide +kernel
theorem dMo_stepWord_81 : decode (mC mMo_stepWord) 81 = .ok (.bipush (116), 2) := by decide +kernel
theorem dMo_stepWord_83 : decode (mC mMo_stepWord) 83 = .ok (.iconst (0), 1) := by decide +kernel
theorem dMo_stepWord_84 : decode (mC mMo_stepWord) 84 = .ok (.iconst (0), 1) := by decide +kernel
theorem dMo_stepWord_85 : decode (mC mMo_stepWord) 85 = .ok (.iconst (0), 1) := by decide +kernel
theorem dMo_stepWord_86 : decode (mC mMo_stepWord) 86 = .ok (.invokestatic 150, 3) := by decide +kernel
theorem dMo_stepWord_89 : decode (mC mMo_stepWord) 89 = .ok (.invokevirtual 154, 3) := by decide +kernel
theorem dMo_stepWord_92 : decode (mC mMo_stepWord) 92 = .ok (.ifCond .eq (5), 3) := by decide +kernel
theorem dMo_stepWord_95 : decode (mC mMo_stepWord) 95 = .ok (.iconst (4), 1) := by decide +kernel
theorem dMo_stepWord_96 : decode (mC mMo_stepWord) 96 = .ok (.ireturn, 1) := by decide +kernel
theorem dMo_stepWord_97 : decode (mC mMo_stepWord) 97 = .ok (.aload_n 0, 1) := by decide +kernel
theorem dMo_stepWord_98 : decode (mC mMo_stepWord) 98 = .ok (.bipush (112), 2) := by decide +kernel
theorem dMo_stepWord_100 : decode (mC mMo_stepWord) 100 = .ok (.bipush (97), 2) := by decide +kernel
theorem dMo_stepWord_102 : decode (mC mMo_stepWord) 102 = .ok (.bipush (121), 2) := by decide +kernel
theorem dMo_stepWord_104 : decode (mC mMo_stepWord) 104 = .ok (.iconst (0), 1) := by decide +kernel
theorem dMo_stepWord_105 : decode (mC mMo_stepWord) 105 = .ok (.iconst (0), 1) := by decide +kernel
theorem dMo_stepWord_106 : decode (mC mMo_stepWord) 106 = .ok (.iconst (0), 1) := by decide +kernel
theorem dMo_stepWord_107 : decode (mC mMo_stepWord) 107 = .ok (.invokestatic 150, 3) := by decide +kernel
theorem dMo_stepWord_110 : decode (mC mMo_stepWord) 110 = .ok (.invokevirtual 154, 3) := by decide +kernel
theorem dMo_stepWord_113 : decode (mC mMo_stepWord) 113 = .ok (.ifCond .eq (5), 3) := by decide +kernel
theorem dMo_stepWord_116 : decode (mC mMo_stepWord) 116 = .ok (.iconst (5), 1) := by decide +kernel
theorem dMo_stepWord_117 : decode (mC mMo_stepWord) 117 = .ok (.ireturn, 1) := by decide +kernel
theorem dMo_stepWord_118 : decode (mC mMo_stepWord) 118 = .ok (.aload_n 0, 1) := by decide +kernel
theorem dMo_stepWord_119 : decode (mC mMo_stepWord) 119 = .ok (.bipush (119), 2) := by decide +kernel
theorem dMo_stepWord_121 : decode (mC mMo_stepWord) 121 = .ok (.bipush (104), 2) := by decide +kernel
theorem dMo_stepWord_123 : decode (mC mMo_stepWord) 123 = .ok (.bipush (101), 2) := by decide +kernel
theorem dMo_stepWord_125 : decode (mC mMo_stepWord) 125 = .ok (.bipush (110), 2) := by decide +kernel
theorem dMo_stepWord_127 : decode (mC mMo_stepWord) 127 = .ok (.iconst (0), 1) := by decide +kernel
theorem dMo_stepWord_128 : decode (mC mMo_stepWord) 128 = .ok (.iconst (0), 1) := by decide +kernel
theorem dMo_stepWord_129 : decode (mC mMo_stepWord) 129 = .ok (.invokestatic 150, 3) := by decide +kernel
theorem dMo_stepWord_132 : decode (mC mMo_stepWord) 132 = .ok (.invokevirtual 154, 3) := by decide +kernel
theorem dMo_stepWord_135 : decode (mC mMo_stepWord) 135 = .ok (.ifCond .eq (6), 3) := by decide +kernel
theorem dMo_stepWord_138 : decode (mC mMo_stepWord) 138 = .ok (.bipush (6), 2) := by decide +kernel
theorem dMo_stepWord_140 : decode (mC mMo_stepWord) 140 = .ok (.ireturn, 1) := by decide +kernel
theorem dMo_stepWord_141 : decode (mC mMo_stepWord) 141 = .ok (.aload_n 0, 1) := by decide +kernel
theorem dMo_stepWord_142 : decode (mC mMo_stepWord) 142 = .ok (.bipush (108), 2) := by decide +kernel
theorem dMo_stepWord_144 : decode (mC mMo_stepWord) 144 = .ok (.bipush (111), 2) := by decide +kernel
theorem dMo_stepWord_146 : decode (mC mMo_stepWord) 146 = .ok (.bipush (111), 2) := by decide +kernel
theorem dMo_stepWord_148 : decode (mC mMo_stepWord) 148 = .ok (.bipush (112), 2) := by decide +kernel
theorem dMo_stepWord_150 : decode (mC mMo_stepWord) 150 = .ok (.iconst (0), 1) := by decide +kernel
theorem dMo_stepWord_151 : decode (mC mMo_stepWord) 151 = .ok (.iconst (0), 1) := by decide +kernel
theorem dMo_stepWord_152 : decode (mC mMo_stepWord) 152 = .ok (.invokestatic 150, 3) := by decide +kernel
theorem dMo_stepWord_155 : decode (mC mMo_stepWord) 155 = .ok (.invokevirtual 154, 3) := by decide +kernel
theorem dMo_stepWord_158 : decode (mC mMo_stepWord) 158 = .ok (.ifCond .eq (6), 3) := by decide +kernel
theorem dMo_stepWord_161 : decode (mC mMo_stepWord) 161 = .ok (.bipush (7), 2) := by decide +kernel
theorem dMo_stepWord_163 : decode (mC mMo_stepWord) 163 = .ok (.ireturn, 1) := by decide +kernel
theorem dMo_stepWord_164 : decode (mC mMo_stepWord) 164 = .ok (.aload_n 0, 1) := by decide +kernel
theorem dMo_stepWord_165 : decode (mC mMo_stepWord) 165 = .ok (.bipush (115), 2) := by decide +kernel
theorem dMo_stepWord_167 : decode (mC mMo_stepWord) 167 = .ok (.bipush (116), 2) := by decide +kernel
theorem dMo_stepWord_169 : decode (mC mMo_stepWord) 169 = .ok (.bipush (111), 2) := by decide +kernel
theorem dMo_stepWord_171 : decode (mC mMo_stepWord) 171 = .ok (.bipush (112), 2) := by decide +kernel
theorem dMo_stepWord_173 : decode (mC mMo_stepWord) 173 = .ok (.iconst (0), 1) := by decide +kernel
theorem dMo_stepWord_174 : decode (mC mMo_stepWord) 174 = .ok (.iconst (0), 1) := by decide +kernel
theorem dMo_stepWord_175 : decode (mC mMo_stepWord) 175 = .ok (.invokestatic 150, 3) := by decide +kernel
theorem dMo_stepWord_178 : decode (mC mMo_stepWord) 178 = .ok (.invokevirtual 154, 3) := by decide +kernel
theorem dMo_stepWord_181 : decode (mC mMo_stepWord) 181 = .ok (.ifCond .eq (8), 3) := by decide +kernel
theorem dMo_stepWord_184 : decode (mC mMo_stepWord) 184 = .ok (.bipush (8), 2) := by decide +kernel
theorem dMo_stepWord_186 : decode (mC mMo_stepWord) 186 = .ok (.goto (4), 3) := by decide +kernel
theorem dMo_stepWord_189 : decode (mC mMo_stepWord) 189 = .ok (.iconst (-1), 1) := by decide +kernel
theorem dMo_stepWord_190 : decode (mC mMo_stepWord) 190 = .ok (.ireturn, 1) := by decide +kernel
theorem bMo_stepWord_0 {E : mEn} {d : Nat} {σ : mSt} {Q : mPost} : WP E (d + 1) mMo_stepWord 0 [.ref 166] [] σ Q = WP E d mMo_isPromise 0 [.ref 166] [] σ (fun r σ' => WP E (d + 1) mMo_stepWord 4 [.ref 166] (r.toList ++ []) σ' Q) := (w_aload_n dMo_stepWord_0 rfl).trans (w_virt (vs := []) (st' := []) (es := [.ref 166]) dMo_stepWord_1 rz11_160 rfl sh_166 rfl rfl rfl (Nat.le_of_ble_eq_true rfl) (Nat.le_of_ble_eq_true rfl) rfl)
theorem bMo_stepWord_4 {E : mEn} {d : Nat} {σ : mSt} {Q : mPost} {s0 : Int32} : WP E d mMo_stepWord 4 [.ref 166] [.int s0] σ Q = (if s0 = 0 then WP E d mMo_stepWord 9 [.ref 166] [] σ Q else WP E d mMo_stepWord 7 [.ref 166] [] σ Q) := w_ifeq (t := 9) dMo_stepWord_4 (by decide)
theorem bMo_stepWord_7 {E : mEn} {d : Nat} {σ : mSt} {Q : mPost} : WP E d mMo_stepWord 7 [.ref 166] [] σ Q = Q (some (.int 0)) σ := (w_iconst (v := 0) dMo_stepWord_7 rfl).trans (w_iret dMo_stepWord_8 rfl)
theorem bMo_stepWord_9 {E : mEn} {d : Nat} {σ : mSt} {Q : mPost} : WP E (d + 1) mMo_stepWord 9 [.ref 166] [] σ Q = WP E d mMo_spelled 0 [.int (nI 98), .int (nI 114), .int (nI 101), .int (nI 97), .int (nI 107), .int 0, uu, uu] [] σ (fun r σ' => WP E (d + 1) mMo_stepWord 24 [.ref 166] (r.toList ++ [.ref 166]) σ' Q) := (w_aload_n dMo_stepWord_9 rfl).trans ((w_bipush (v := (nI 98)) dMo_stepWord_10 rfl).trans ((w_bipush (v := (nI 114)) dMo_stepWord_12 rfl).trans ((w_bipush (v := (nI 101)) dMo_stepWord_14 rfl).trans ((w_bipush (v := (nI 97)) dMo_stepWord_16 rfl).trans ((w_bipush (v := (nI 107)) dMo_stepWord_18 rfl).trans ((w_iconst (v := 0) dMo_stepWord_20 rfl).trans (w_stat (vs := [.int (nI 98), .int (nI 114), .int (nI 101), .int (nI 97), .int (nI 107), .int 0]) (st' := [.ref 166]) (es := [.int (nI 98), .int (nI 114), .int (nI 101), .int (nI 97), .int (nI 107), .int 0, uu, uu]) dMo_stepWord_21 rz11_150 rfl rfl rfl (Nat.le_of_ble_eq_true rfl) (Nat.le_of_ble_eq_true rfl) rfl)))))))
theorem bMo_stepWord_24 {E : mEn} {d : Nat} {σ : mSt} {Q : mPost} {q0 : Int64} : WP E (d + 1) mMo_stepWord 24 [.ref 166] [.long q0, .ref 166] σ Q = WP E d mMo_isWord 0 [.ref 166, .long q0, uu] [] σ (fun r σ' => WP E (d + 1) mMo_stepWord 27 [.ref 166] (r.toList ++ []) σ' Q) := w_virt (vs := [.long q0]) (st' := []) (es := [.ref 166, .long q0, uu]) dMo_stepWord_24 rz11_154 rfl sh_166 rfl rfl rfl (Nat.le_of_ble_eq_true rfl) (Nat.le_of_ble_eq_true rfl) rfl
theorem bMo_stepWord_27 {E : mEn} {d : Nat} {σ : mSt} {Q : mPost} {s0 : Int32} : WP E d mMo_stepWord 27 [.ref 166] [.int s0] σ Q = (if s0 = 0 then WP E d mMo_stepWord 32 [.ref 166] [] σ Q else WP E d mMo_stepWord 30 [.ref 166] [] σ Q) := w_ifeq (t := 32) dMo_stepWord_27 (by decide)
theorem bMo_stepWord_30 {E : mEn} {d : Nat} {σ : mSt} {Q : mPost} : WP E d mMo_stepWord 30 [.ref 166] [] σ Q = Q (some (.int 1)) σ := (w_iconst (v := 1) dMo_stepWord_30 rfl).trans (w_iret dMo_stepWord_31 rfl)
theorem bMo_stepWord_32 {E : mEn} {d : Nat} {σ : mSt} {Q : mPost} : WP E (d + 1) mMo_stepWord 32 [.ref 166] [] σ Q = WP E d mMo_spelled 0 [.int (nI 98), .int (nI 97), .int (nI 107), .int (nI 101), .int 0, .int 0, uu, uu] [] σ (fun r σ' => WP E (d + 1) mMo_stepWord 46 [.ref 166] (r.toList ++ [.ref 166]) σ' Q) := (w_aload_n dMo_stepWord_32 rfl).trans ((w_bipush (v := (nI 98)) dMo_stepWord_33 rfl).trans ((w_bipush (v := (nI 97)) dMo_stepWord_35 rfl).trans ((w_bipush (v := (nI 107)) dMo_stepWord_37 rfl).trans ((w_bipush (v := (nI 101)) dMo_stepWord_39 rfl).trans ((w_iconst (v := 0) dMo_stepWord_41 rfl).trans ((w_iconst (v := 0) dMo_stepWord_42 rfl).trans (w_stat (vs := [.int (nI 98), .int (nI 97), .int (nI 107), .int (nI 101), .int 0, .int 0]) (st' := [.ref 166]) (es := [.int (nI 98), .int (nI 97), .int (nI 107), .int (nI 101), .int 0, .int 0, uu, uu]) dMo_stepWord_43 rz11_150 rfl rfl rfl (Nat.le_of_ble_eq_true rfl) (Nat.le_of_ble_eq_true rfl) rfl)))))))
theorem bMo_stepWord_46 {E : mEn} {d : Nat} {σ : mSt} {Q : mPost} {q0 : Int64} : WP E (d + 1) mMo_stepWord 46 [.ref 166] [.long q0, .ref 166] σ Q = WP E d mMo_isWord 0 [.ref 166, .long q0, uu] [] σ (fun r σ' => WP E (d + 1) mMo_stepWord 49 [.ref 166] (r.toList ++ []) σ' Q) := w_virt (vs := [.long q0]) (st' := []) (es := [.ref 166, .long q0, uu]) dMo_stepWord_46 rz11_154 rfl sh_166 rfl rfl rfl (Nat.le_of_ble_eq_true rfl) (Nat.le_of_ble_eq_true rfl) rfl
theorem bMo_stepWord_49 {E : mEn} {d : Nat} {σ : mSt} {Q : mPost} {s0 : Int32} : WP E d mMo_stepWord 49 [.ref 166] [.int s0] σ Q = (if s0 = 0 then WP E d mMo_stepWord 54 [.ref 166] [] σ Q else WP E d mMo_stepWord 52 [.ref 166] [] σ Q) := w_ifeq (t := 54) dMo_stepWord_49 (by decide)
theorem bMo_stepWord_52 {E : mEn} {d : Nat} {σ : mSt} {Q : mPost} : WP E d mMo_stepWord 52 [.ref 166] [] σ Q = Q (some (.int (nI 2))) σ := (w_iconst (v := (nI 2)) dMo_stepWord_52 rfl).trans (w_iret dMo_stepWord_53 rfl)
theorem bMo_stepWord_54 {E : mEn} {d : Nat} {σ : mSt} {Q : mPost} : WP E (d + 1) mMo_stepWord 54 [.ref 166] [] σ Q = WP E d mMo_spelled 0 [.int (nI 119), .int (nI 97), .int (nI 105), .int (nI 116), .int 0, .int 0, uu, uu] [] σ (fun r σ' => WP E (d + 1) mMo_stepWord 68 [.ref 166] (r.toList ++ [.ref 166]) σ' Q) := (w_aload_n dMo_stepWord_54 rfl).trans ((w_bipush (v := (nI 119)) dMo_stepWord_55 rfl).trans ((w_bipush (v := (nI 97)) dMo_stepWord_57 rfl).trans ((w_bipush (v := (nI 105)) dMo_stepWord_59 rfl).trans ((w_bipush (v := (nI 116)) dMo_stepWord_61 rfl).trans ((w_iconst (v := 0) dMo_stepWord_63 rfl).trans ((w_iconst (v := 0) dMo_stepWord_64 rfl).trans (w_stat (vs := [.int (nI 119), .int (nI 97), .int (nI 105), .int (nI 116), .int 0, .int 0]) (st' := [.ref 166]) (es := [.int (nI 119), .int (nI 97), .int (nI 105), .int (nI 116), .int 0, .int 0, uu, uu]) dMo_stepWord_65 rz11_150 rfl rfl rfl (Nat.le_of_ble_eq_true rfl) (Nat.le_of_ble_eq_true rfl) rfl)))))))
theorem bMo_stepWord_68 {E : mEn} {d : Nat} {σ : mSt} {Q : mPost} {q0 : Int64} : WP E (d + 1) mMo_stepWord 68 [.ref 166] [.long q0, .ref 166] σ Q = WP E d mMo_isWord 0 [.ref 166, .long q0, uu] [] σ (fun r σ' => WP E (d + 1) mMo_stepWord 71 [.ref 166] (r.toList ++ []) σ' Q) := w_virt (vs := [.long q0]) (st' := []) (es := [.ref 166, .long q0, uu]) dMo_stepWord_68 rz11_154 rfl sh_166 rfl rfl rfl (Nat.le_of_ble_eq_true rfl) (Nat.le_of_ble_eq_true rfl) rfl
theorem bMo_stepWord_71 {E : mEn} {d : Nat} {σ : mSt} {Q : mPost} {s0 : Int32} : WP E d mMo_stepWord 71 [.ref 166] [.int s0] σ Q = (if s0 = 0 then WP E d mMo_stepWord 76 [.ref 166] [] σ Q else WP E d mMo_stepWord 74 [.ref 166] [] σ Q) := w_ifeq (t := 76) dMo_stepWord_71 (by decide)
theorem bMo_stepWord_74 {E : mEn} {d : Nat} {σ : mSt} {Q : mPost} : WP E d mMo_stepWord 74 [.ref 166] [] σ Q = Q (some (.int (nI 3))) σ := (w_iconst (v := (nI 3)) dMo_stepWord_74 rfl).trans (w_iret dMo_stepWord_75 rfl)
theorem bMo_stepWord_76 {E : mEn} {d : Nat} {σ : mSt} {Q : mPost} : WP E (d + 1) mMo_stepWord 76 [.ref 166] [] σ Q = WP E d mMo_spelled 0 [.int (nI 101), .int (nI 97), .int (nI 116), .int 0, .int 0, .int 0, uu, uu] [] σ (fun r σ' => WP E (d + 1) mMo_stepWord 89 [.ref 166] (r.toList ++ [.ref 166]) σ' Q) := (w_aload_n dMo_stepWord_76 rfl).trans ((w_bipush (v := (nI 101)) dMo_stepWord_77 rfl).trans ((w_bipush (v := (nI 97)) dMo_stepWord_79 rfl).trans ((w_bipush (v := (nI 116)) dMo_stepWord_81 rfl).trans ((w_iconst (v := 0) dMo_stepWord_83 rfl).trans ((w_iconst (v := 0) dMo_stepWord_84 rfl).trans ((w_iconst (v := 0) dMo_stepWord_85 rfl).trans (w_stat (vs := [.int (nI 101), .int (nI 97), .int (nI 116), .int 0, .int 0, .int 0]) (st' := [.ref 166]) (es := [.int (nI 101), .int (nI 97), .int (nI 116), .int 0, .int 0, .int 0, uu, uu]) dMo_stepWord_86 rz11_150 rfl rfl rfl (Nat.le_of_ble_eq_true rfl) (Nat.le_of_ble_eq_true rfl) rfl)))))))
theorem bMo_stepWord_89 {E : mEn} {d : Nat} {σ : mSt} {Q : mPost} {q0 : Int64} : WP E (d + 1) mMo_stepWord 89 [.ref 166] [.long q0, .ref 166] σ Q = WP E d mMo_isWord 0 [.ref 166, .long q0, uu] [] σ (fun r σ' => WP E (d + 1) mMo_stepWord 92 [.ref 166] (r.toList ++ []) σ' Q) := w_virt (vs := [.long q0]) (st' := []) (es := [.ref 166, .long q0, uu]) dMo_stepWord_89 rz11_154 rfl sh_166 rfl rfl rfl (Nat.le_of_ble_eq_true rfl) (Nat.le_of_ble_eq_true rfl) rfl
theorem bMo_stepWord_92 {E : mEn} {d : Nat} {σ : mSt} {Q : mPost} {s0 : Int32} : WP E d mMo_stepWord 92 [.ref 166] [.int s0] σ Q = (if s0 = 0 then WP E d mMo_stepWord 97 [.ref 166] [] σ Q else WP E d mMo_stepWord 95 [.ref 166] [] σ Q) := w_ifeq (t := 97) dMo_stepWord_92 (by decide)
theorem bMo_stepWord_95 {E : mEn} {d : Nat} {σ : mSt} {Q : mPost} : WP E d mMo_stepWord 95 [.ref 166] [] σ Q = Q (some (.int (nI 4))) σ := (w_iconst (v := (nI 4)) dMo_stepWord_95 rfl).trans (w_iret dMo_stepWord_96 rfl)
theorem bMo_stepWord_97 {E : mEn} {d : Nat} {σ : mSt} {Q : mPost} : WP E (d + 1) mMo_stepWord 97 [.ref 166] [] σ Q = WP E d mMo_spelled 0 [.int (nI 112), .int (nI 97), .int (nI 121), .int 0, .int 0, .int 0, uu, uu] [] σ (fun r σ' => WP E (d + 1) mMo_stepWord 110 [.ref 166] (r.toList ++ [.ref 166]) σ' Q) := (w_aload_n dMo_stepWord_97 rfl).trans ((w_bipush (v := (nI 112)) dMo_stepWord_98 rfl).trans ((w_bipush (v := (nI 97)) dMo_stepWord_100 rfl).trans ((w_bipush (v := (nI 121)) dMo_stepWord_102 rfl).trans ((w_iconst (v := 0) dMo_stepWord_104 rfl).trans ((w_iconst (v := 0) dMo_stepWord_105 rfl).trans ((w_iconst (v := 0) dMo_stepWord_106 rfl).trans (w_stat (vs := [.int (nI 112), .int (nI 97), .int (nI 121), .int 0, .int 0, .int 0]) (st' := [.ref 166]) (es := [.int (nI 112), .int (nI 97), .int (nI 121), .int 0, .int 0, .int 0, uu, uu]) dMo_stepWord_107 rz11_150 rfl rfl rfl (Nat.le_of_ble_eq_true rfl) (Nat.le_of_ble_eq_true rfl) rfl)))))))
theorem bMo_stepWord_110 {E : mEn} {d : Nat} {σ : mSt} {Q : mPost} {q0 : Int64} : WP E (d + 1) mMo_stepWord 110 [.ref 166] [.long q0, .ref 166] σ Q = WP E d mMo_isWord 0 [.ref 166, .long q0, uu] [] σ (fun r σ' => WP E (d + 1) mMo_stepWord 113 [.ref 166] (r.toList ++ []) σ' Q) := w_virt (vs := [.long q0]) (st' := []) (es := [.ref 166, .long q0, uu]) dMo_stepWord_110 rz11_154 rfl sh_166 rfl rfl rfl (Nat.le_of_ble_eq_true rfl) (Nat.le_of_ble_eq_true rfl) rfl
theorem bMo_stepWord_113 {E : mEn} {d : Nat} {σ : mSt} {Q : mPost} {s0 : Int32} : WP E d mMo_stepWord 113 [.ref 166] [.int s0] σ Q = (if s0 = 0 then WP E d mMo_stepWord 118 [.ref 166] [] σ Q else WP E d mMo_stepWord 116 [.ref 166] [] σ Q) := w_ifeq (t := 118) dMo_stepWord_113 (by decide)
theorem bMo_stepWord_116 {E : mEn} {d : Nat} {σ : mSt} {Q : mPost} : WP E d mMo_stepWord 116 [.ref 166] [] σ Q = Q (some (.int (nI 5))) σ := (w_iconst (v := (nI 5)) dMo_stepWord_116 rfl).trans (w_iret dMo_stepWord_117 rfl)
theorem bMo_stepWord_118 {E : mEn} {d : Nat} {σ : mSt} {Q : mPost} : WP E (d + 1) mMo_stepWord 118 [.ref 166] [] σ Q = WP E d mMo_spelled 0 [.int (nI 119), .int (nI 104), .int (nI 101), .int (nI 110), .int 0, .int 0, uu, uu] [] σ (fun r σ' => WP E (d + 1) mMo_stepWord 132 [.ref 166] (r.toList ++ [.ref 166]) σ' Q) := (w_aload_n dMo_stepWord_118 rfl).trans ((w_bipush (v := (nI 119)) dMo_stepWord_119 rfl).trans ((w_bipush (v := (nI 104)) dMo_stepWord_121 rfl).trans ((w_bipush (v := (nI 101)) dMo_stepWord_123 rfl).trans ((w_bipush (v := (nI 110)) dMo_stepWord_125 rfl).trans ((w_iconst (v := 0) dMo_stepWord_127 rfl).trans ((w_iconst (v := 0) dMo_stepWord_128 rfl).trans (w_stat (vs := [.int (nI 119), .int (nI 104), .int (nI 101), .int (nI 110), .int 0, .int 0]) (st' := [.ref 166]) (es := [.int (nI 119), .int (nI 104), .int (nI 101), .int (nI 110), .int 0, .int 0, uu, uu]) dMo_stepWord_129 rz11_150 rfl rfl rfl (Nat.le_of_ble_eq_true rfl) (Nat.le_of_ble_eq_true rfl) rfl)))))))
theorem bMo_stepWord_132 {E : mEn} {d : Nat} {σ : mSt} {Q : mPost} {q0 : Int64} : WP E (d + 1) mMo_stepWord 132 [.ref 166] [.long q0, .ref 166] σ Q = WP E d mMo_isWord 0 [.ref 166, .long q0, uu] [] σ (fun r σ' => WP E (d + 1) mMo_stepWord 135 [.ref 166] (r.toList ++ []) σ' Q) := w_virt (vs := [.long q0]) (st' := []) (es := [.ref 166, .long q0, uu]) dMo_stepWord_132 rz11_154 rfl sh_166 rfl rfl rfl (Nat.le_of_ble_eq_true rfl) (Nat.le_of_ble_eq_true rfl) rfl
theorem bMo_stepWord_135 {E : mEn} {d : Nat} {σ : mSt} {Q : mPost} {s0 : Int32} : WP E d mMo_stepWord 135 [.ref 166] [.int s0] σ Q = (if s0 = 0 then WP E d mMo_stepWord 141 [.ref 166] [] σ Q else WP E d mMo_stepWord 138 [.ref 166] [] σ Q) := w_ifeq (t := 141) dMo_stepWord_135 (by decide)
theorem bMo_stepWord_138 {E : mEn} {d : Nat} {σ : mSt} {Q : mPost} : WP E d mMo_stepWord 138 [.ref 166] [] σ Q = Q (some (.int (nI 6))) σ := (w_bipush (v := (nI 6)) dMo_stepWord_138 rfl).trans (w_iret dMo_stepWord_140 rfl)
theorem bMo_stepWord_141 {E : mEn} {d : Nat} {σ : mSt} {Q : mPost} : WP E (d + 1) mMo_stepWord 141 [.ref 166] [] σ Q = WP E d mMo_spelled 0 [.int (nI 108), .int (nI 111), .int (nI 111), .int (nI 112), .int 0, .int 0, uu, uu] [] σ (fun r σ' => WP E (d + 1) mMo_stepWord 155 [.ref 166] (r.toList ++ [.ref 166]) σ' Q) := (w_aload_n dMo_stepWord_141 rfl).trans ((w_bipush (v := (nI 108)) dMo_stepWord_142 rfl).trans ((w_bipush (v := (nI 111)) dMo_stepWord_144 rfl).trans ((w_bipush (v := (nI 111)) dMo_stepWord_146 rfl).trans ((w_bipush (v := (nI 112)) dMo_stepWord_148 rfl).trans ((w_iconst (v := 0) dMo_stepWord_150 rfl).trans ((w_iconst (v := 0) dMo_stepWord_151 rfl).trans (w_stat (vs := [.int (nI 108), .int (nI 111), .int (nI 111), .int (nI 112), .int 0, .int 0]) (st' := [.ref 166]) (es := [.int (nI 108), .int (nI 111), .int (nI 111), .int (nI 112), .int 0, .int 0, uu, uu]) dMo_stepWord_152 rz11_150 rfl rfl rfl (Nat.le_of_ble_eq_true rfl) (Nat.le_of_ble_eq_true rfl) rfl)))))))
theorem bMo_stepWord_155 {E : mEn} {d : Nat} {σ : mSt} {Q : mPost} {q0 : Int64} : WP E (d + 1) mMo_stepWord 155 [.ref 166] [.long q0, .ref 166] σ Q = WP E d mMo_isWord 0 [.ref 166, .long q0, uu] [] σ (fun r σ' => WP E (d + 1) mMo_stepWord 158 [.ref 166] (r.toList ++ []) σ' Q) := w_virt (vs := [.long q0]) (st' := []) (es := [.ref 166, .long q0, uu]) dMo_stepWord_155 rz11_154 rfl sh_166 rfl rfl rfl (Nat.le_of_ble_eq_true rfl) (Nat.le_of_ble_eq_true rfl) rfl
theorem bMo_stepWord_158 {E : mEn} {d : Nat} {σ : mSt} {Q : mPost} {s0 : Int32} : WP E d mMo_stepWord 158 [.ref 166] [.int s0] σ Q = (if s0 = 0 then WP E d mMo_stepWord 164 [.ref 166] [] σ Q else WP E d mMo_stepWord 161 [.ref 166] [] σ Q) := w_ifeq (t := 164) dMo_stepWord_158 (by decide)
theorem bMo_stepWord_161 {E : mEn} {d : Nat} {σ : mSt} {Q : mPost} : WP E d mMo_stepWord 161 [.ref 166] [] σ Q = Q (some (.int (nI 7))) σ := (w_bipush (v := (nI 7)) dMo_stepWord_161 rfl).trans (w_iret dMo_stepWord_163 rfl)
theorem bMo_stepWord_164 {E : mEn} {d : Nat} {σ : mSt} {Q : mPost} : WP E (d + 1) mMo_stepWord 164 [.ref 166] [] σ Q = WP E d mMo_spelled 0 [.int (nI 115), .int (nI 116), .int (nI 111), .int (nI 112), .int 0, .int 0, uu, uu] [] σ (fun r σ' => WP E (d + 1) mMo_stepWord 178 [.ref 166] (r.toList ++ [.ref 166]) σ' Q) := (w_aload_n dMo_stepWord_164 rfl).trans ((w_bipush (v := (nI 115)) dMo_stepWord_165 rfl).trans ((w_bipush (v := (nI 116)) dMo_stepWord_167 rfl).trans ((w_bipush (v := (nI 111)) dMo_stepWord_169 rfl).trans ((w_bipush (v := (nI 112)) dMo_stepWord_171 rfl).trans ((w_iconst (v := 0) dMo_stepWord_173 rfl).trans ((w_iconst (v := 0) dMo_stepWord_174 rfl).trans (w_stat (vs := [.int (nI 115), .int (nI 116), .int (nI 111), .int (nI 112), .int 0, .int 0]) (st' := [.ref 166]) (es := [.int (nI 115), .int (nI 116), .int (nI 111), .int (nI 112), .int 0, .int 0, uu, uu]) dMo_stepWord_175 rz11_150 rfl rfl rfl (Nat.le_of_ble_eq_true rfl) (Nat.le_of_ble_eq_true rfl) rfl)))))))
theorem bMo_stepWord_178 {E : mEn} {d : Nat} {σ : mSt} {Q : mPost} {q0 : Int64} : WP E (d + 1) mMo_stepWord 178 [.ref 166] [.long q0, .ref 166] σ Q = WP E d mMo_isWord 0 [.ref 166, .long q0, uu] [] σ (fun r σ' => WP E (d + 1) mMo_stepWord 181 [.ref 166] (r.toList ++ []) σ' Q) := w_virt (vs := [.long q0]) (st' := []) (es := [.ref 166, .long q0, uu]) dMo_stepWord_178 rz11_154 rfl sh_166 rfl rfl rfl (Nat.le_of_ble_eq_true rfl) (Nat.le_of_ble_eq_true rfl) rfl
theorem bMo_stepWord_181 {E : mEn} {d : Nat} {σ : mSt} {Q : mPost} {s0 : Int32} : WP E d mMo_stepWord 181 [.ref 166] [.int s0] σ Q = (if s0 = 0 then WP E d mMo_stepWord 189 [.ref 166] [] σ Q else WP E d mMo_stepWord 184 [.ref 166] [] σ Q) := w_ifeq (t := 189) dMo_stepWord_181 (by decide)
theorem bMo_stepWord_184 {E : mEn} {d : Nat} {σ : mSt} {Q : mPost} : WP E d mMo_stepWord 184 [.ref 166] [] σ Q = WP E d mMo_stepWord 190 [.ref 166] [.int (nI 8)] σ Q := (w_bipush (v := (nI 8)) dMo_stepWord_184 rfl).trans (w_goto (t := 190) dMo_stepWord_186 (by decide))
theorem bMo_stepWord_189 {E : mEn} {d : Nat} {σ : mSt} {Q : mPost} : WP E d mMo_stepWord 189 [.ref 166] [] σ Q = WP E d mMo_stepWord 190 [.ref 166] [.int (-1)] σ Q := w_iconst (v := (-1)) dMo_stepWord_189 rfl
theorem bMo_stepWord_190 {E : mEn} {d : Nat} {σ : mSt} {Q : mPost} {s0 : Int32} : WP E d mMo_stepWord 190 [.ref 166] [.int s0] σ Q = Q (some (.int s0)) σ := w_iret dMo_stepWord_190 rfl
theorem dMo_isPromise_0 : decode (mC mMo_isPromise) 0 = .ok (.aload_n 0, 1) := by decide +kernel
theorem dMo_isPromise_1 : decode (mC mMo_isPromise) 1 = .ok (.bipush (112), 2) := by decide +kernel
theorem dMo_isPromise_3 : decode (mC mMo_isPromise) 3 = .ok (.bipush (114), 2) := by decide +kernel
theorem dMo_isPromise_5 : decode (mC mMo_isPromise) 5 = .ok (.bipush (111), 2) := by decide +kernel
theorem dMo_isPromise_7 : decode (mC mMo_isPromise) 7 = .ok (.bipush (109), 2) := by decide +kernel
theorem dMo_isPromise_9 : decode (mC mMo_isPromise) 9 = .ok (.bipush (105), 2) := by decide +kernel
theorem dMo_isPromise_11 : decode (mC mMo_isPromise) 11 = .ok (.bipush (115), 2) := by decide +kernel
theorem dMo_isPromise_13 : decode (mC mMo_isPromise) 13 = .ok (.invokestatic 150, 3) := by decide +kernel
theorem dMo_isPromise_16 : decode (mC mMo_isPromise) 16 = .ok (.ldc2_w 134, 3) := by decide +kernel
theorem dMo_isPromise_19 : decode (mC mMo_isPromise) 19 = .ok (.lmul, 1) := by decide +kernel
theorem dMo_isPromise_20 : decode (mC mMo_isPromise) 20 = .ok (.ldc2_w 158, 3) := by decide +kernel
theorem dMo_isPromise_23 : decode (mC mMo_isPromise) 23 = .ok (.ladd, 1) := by decide +kernel
theorem dMo_isPromise_24 : decode (mC mMo_isPromise) 24 = .ok (.invokevirtual 154, 3) := by decide +kernel
theorem dMo_isPromise_27 : decode (mC mMo_isPromise) 27 = .ok (.ireturn, 1) := by decide +kernel
theorem bMo_isPromise_0 {E : mEn} {d : Nat} {σ : mSt} {Q : mPost} : WP E (d + 1) mMo_isPromise 0 [.ref 166] [] σ Q = WP E d mMo_spelled 0 [.int (nI 112), .int (nI 114), .int (nI 111), .int (nI 109), .int (nI 105), .int (nI 115), uu, uu] [] σ (fun r σ' => WP E (d + 1) mMo_isPromise 16 [.ref 166] (r.toList ++ [.ref 166]) σ' Q) := (w_aload_n dMo_isPromise_0 rfl).trans ((w_bipush (v := (nI 112)) dMo_isPromise_1 rfl).trans ((w_bipush (v := (nI 114)) dMo_isPromise_3 rfl).trans ((w_bipush (v := (nI 111)) dMo_isPromise_5 rfl).trans ((w_bipush (v := (nI 109)) dMo_isPromise_7 rfl).trans ((w_bipush (v := (nI 105)) dMo_isPromise_9 rfl).trans ((w_bipush (v := (nI 115)) dMo_isPromise_11 rfl).trans (w_stat (vs := [.int (nI 112), .int (nI 114), .int (nI 111), .int (nI 109), .int (nI 105), .int (nI 115)]) (st' := [.ref 166]) (es := [.int (nI 112), .int (nI 114), .int (nI 111), .int (nI 109), .int (nI 105), .int (nI 115), uu, uu]) dMo_isPromise_13 rz11_150 rfl rfl rfl (Nat.le_of_ble_eq_true rfl) (Nat.le_of_ble_eq_true rfl) rfl)))))))
theorem bMo_isPromise_16 {E : mEn} {d : Nat} {σ : mSt} {Q : mPost} {q0 : Int64} : WP E (d + 1) mMo_isPromise 16 [.ref 166] [.long q0, .ref 166] σ Q = WP E d mMo_isWord 0 [.ref 166, .long ((q0 * (32)) + (5)), uu] [] σ (fun r σ' => WP E (d + 1) mMo_isPromise 27 [.ref 166] (r.toList ++ []) σ' Q) := (w_ldc2_w dMo_isPromise_16 rz11_134).trans ((w_lmul dMo_isPromise_19).trans ((w_ldc2_w dMo_isPromise_20 rz11_158).trans ((w_ladd dMo_isPromise_23).trans (w_virt (vs := [.long ((q0 * (32)) + (5))]) (st' := []) (es := [.ref 166, .long ((q0 * (32)) + (5)), uu]) dMo_isPromise_24 rz11_154 rfl sh_166 rfl rfl rfl (Nat.le_of_ble_eq_true rfl) (Nat.le_of_ble_eq_true rfl) rfl))))
theorem bMo_isPromise_27 {E : mEn} {d : Nat} {σ : mSt} {Q : mPost} {s0 : Int32} (hz0 : s0 = 0 ∨ s0 = 1) : WP E d mMo_isPromise 27 [.ref 166] [.int s0] σ Q = Q (some (.int s0)) σ := w_zret dMo_isPromise_27 rfl hz0
theorem dMo_testWord_0 : decode (mC mMo_testWord) 0 = .ok (.aload_n 0, 1) := by decide +kernel
theorem dMo_testWord_1 : decode (mC mMo_testWord) 1 = .ok (.bipush (100), 2) := by decide +kernel
theorem dMo_testWord_3 : decode (mC mMo_testWord) 3 = .ok (.bipush (97), 2) := by decide +kernel
theorem dMo_testWord_5 : decode (mC mMo_testWord) 5 = .ok (.bipush (121), 2) := by decide +kernel
theorem dMo_testWord_7 : decode (mC mMo_testWord) 7 = .ok (.iconst (0), 1) := by decide +kernel
theorem dMo_testWord_8 : decode (mC mMo_testWord) 8 = .ok (.iconst (0), 1) := by decide +kernel
theorem dMo_testWord_9 : decode (mC mMo_testWord) 9 = .ok (.iconst (0), 1) := by decide +kernel
theorem dMo_testWord_10 : decode (mC mMo_testWord) 10 = .ok (.invokestatic 150, 3) := by decide +kernel
theorem dMo_testWord_13 : decode (mC mMo_testWord) 13 = .ok (.invokevirtual 154, 3) := by decide +kernel
theorem dMo_testWord_16 : decode (mC mMo_testWord) 16 = .ok (.ifCond .eq (5), 3) := by decide +kernel
theorem dMo_testWord_19 : decode (mC mMo_testWord) 19 = .ok (.iconst (0), 1) := by decide +kernel
theorem dMo_testWord_20 : decode (mC mMo_testWord) 20 = .ok (.ireturn, 1) := by decide +kernel
theorem dMo_testWord_21 : decode (mC mMo_testWord) 21 = .ok (.aload_n 0, 1) := by decide +kernel
theorem dMo_testWord_22 : decode (mC mMo_testWord) 22 = .ok (.bipush (104), 2) := by decide +kernel
theorem dMo_testWord_24 : decode (mC mMo_testWord) 24 = .ok (.bipush (97), 2) := by decide +kernel
theorem dMo_testWord_26 : decode (mC mMo_testWord) 26 = .ok (.bipush (115), 2) := by decide +kernel
theorem dMo_testWord_28 : decode (mC mMo_testWord) 28 = .ok (.iconst (0), 1) := by decide +kernel
theorem dMo_testWord_29 : decode (mC mMo_testWord) 29 = .ok (.iconst (0), 1) := by decide +kernel
theorem dMo_testWord_30 : decode (mC mMo_testWord) 30 = .ok (.iconst (0), 1) := by decide +kernel
theorem dMo_testWord_31 : decode (mC mMo_testWord) 31 = .ok (.invokestatic 150, 3) := by decide +kernel
theorem dMo_testWord_34 : decode (mC mMo_testWord) 34 = .ok (.invokevirtual 154, 3) := by decide +kernel
theorem dMo_testWord_37 : decode (mC mMo_testWord) 37 = .ok (.ifCond .eq (5), 3) := by decide +kernel
theorem dMo_testWord_40 : decode (mC mMo_testWord) 40 = .ok (.iconst (1), 1) := by decide +kernel
theorem dMo_testWord_41 : decode (mC mMo_testWord) 41 = .ok (.ireturn, 1) := by decide +kernel
theorem dMo_testWord_42 : decode (mC mMo_testWord) 42 = .ok (.aload_n 0, 1) := by decide +kernel
theorem dMo_testWord_43 : decode (mC mMo_testWord) 43 = .ok (.bipush (98), 2) := by decide +kernel
theorem dMo_testWord_45 : decode (mC mMo_testWord) 45 = .ok (.bipush (97), 2) := by decide +kernel
theorem dMo_testWord_47 : decode (mC mMo_testWord) 47 = .ok (.bipush (107), 2) := by decide +kernel
theorem dMo_testWord_49 : decode (mC mMo_testWord) 49 = .ok (.bipush (101), 2) := by decide +kernel
theorem dMo_testWord_51 : decode (mC mMo_testWord) 51 = .ok (.bipush (100), 2) := by decide +kernel
theorem dMo_testWord_53 : decode (mC mMo_testWord) 53 = .ok (.iconst (0), 1) := by decide +kernel
theorem dMo_testWord_54 : decode (mC mMo_testWord) 54 = .ok (.invokestatic 150, 3) := by decide +kernel
theorem dMo_testWord_57 : decode (mC mMo_testWord) 57 = .ok (.invokevirtual 154, 3) := by decide +kernel
theorem dMo_testWord_60 : decode (mC mMo_testWord) 60 = .ok (.ifCond .eq (5), 3) := by decide +kernel
theorem dMo_testWord_63 : decode (mC mMo_testWord) 63 = .ok (.iconst (2), 1) := by decide +kernel
theorem dMo_testWord_64 : decode (mC mMo_testWord) 64 = .ok (.ireturn, 1) := by decide +kernel
theorem dMo_testWord_65 : decode (mC mMo_testWord) 65 = .ok (.aload_n 0, 1) := by decide +kernel
theorem dMo_testWord_66 : decode (mC mMo_testWord) 66 = .ok (.bipush (119), 2) := by decide +kernel
theorem dMo_testWord_68 : decode (mC mMo_testWord) 68 = .ok (.bipush (101), 2) := by decide +kernel
theorem dMo_testWord_70 : decode (mC mMo_testWord) 70 = .ok (.bipush (116), 2) := by decide +kernel
theorem dMo_testWord_72 : decode (mC mMo_testWord) 72 = .ok (.iconst (0), 1) := by decide +kernel
theorem dMo_testWord_73 : decode (mC mMo_testWord) 73 = .ok (.iconst (0), 1) := by decide +kernel
theorem dMo_testWord_74 : decode (mC mMo_testWord) 74 = .ok (.iconst (0), 1) := by decide +kernel
theorem dMo_testWord_75 : decode (mC mMo_testWord) 75 = .ok (.invokestatic 150, 3) := by decide +kernel
theorem dMo_testWord_78 : decode (mC mMo_testWord) 78 = .ok (.invokevirtual 154, 3) := by decide +kernel
theorem dMo_testWord_81 : decode (mC mMo_testWord) 81 = .ok (.ifCond .eq (7), 3) := by decide +kernel
theorem dMo_testWord_84 : decode (mC mMo_testWord) 84 = .ok (.iconst (3), 1) := by decide +kernel
theorem dMo_testWord_85 : decode (mC mMo_testWord) 85 = .ok (.goto (4), 3) := by decide +kernel
theorem dMo_testWord_88 : decode (mC mMo_testWord) 88 = .ok (.iconst (-1), 1) := by decide +kernel
theorem dMo_testWord_89 : decode (mC mMo_testWord) 89 = .ok (.ireturn, 1) := by decide +kernel
theorem bMo_testWord_0 {E : mEn} {d : Nat} {σ : mSt} {Q : mPost} : WP E (d + 1) mMo_testWord 0 [.ref 166] [] σ Q = WP E d mMo_spelled 0 [.int (nI 100), .int (nI 97), .int (nI 121), .int 0, .int 0, .int 0, uu, uu] [] σ (fun r σ' => WP E (d + 1) mMo_testWord 13 [.ref 166] (r.toList ++ [.ref 166]) σ' Q) := (w_aload_n dMo_testWord_0 rfl).trans ((w_bipush (v := (nI 100)) dMo_testWord_1 rfl).trans ((w_bipush (v := (nI 97)) dMo_testWord_3 rfl).trans ((w_bipush (v := (nI 121)) dMo_testWord_5 rfl).trans ((w_iconst (v := 0) dMo_testWord_7 rfl).trans ((w_iconst (v := 0) dMo_testWord_8 rfl).trans ((w_iconst (v := 0) dMo_testWord_9 rfl).trans (w_stat (vs := [.int (nI 100), .int (nI 97), .int (nI 121), .int 0, .int 0, .int 0]) (st' := [.ref 166]) (es := [.int (nI 100), .int (nI 97), .int (nI 121), .int 0, .int 0, .int 0, uu, uu]) dMo_testWord_10 rz11_150 rfl rfl rfl (Nat.le_of_ble_eq_true rfl) (Nat.le_of_ble_eq_true rfl) rfl)))))))
theorem bMo_testWord_13 {E : mEn} {d : Nat} {σ : mSt} {Q : mPost} {q0 : Int64} : WP E (d + 1) mMo_testWord 13 [.ref 166] [.long q0, .ref 166] σ Q = WP E d mMo_isWord 0 [.ref 166, .long q0, uu] [] σ (fun r σ' => WP E (d + 1) mMo_testWord 16 [.ref 166] (r.toList ++ []) σ' Q) := w_virt (vs := [.long q0]) (st' := []) (es := [.ref 166, .long q0, uu]) dMo_testWord_13 rz11_154 rfl sh_166 rfl rfl rfl (Nat.le_of_ble_eq_true rfl) (Nat.le_of_ble_eq_true rfl) rfl
theorem bMo_testWord_16 {E : mEn} {d : Nat} {σ : mSt} {Q : mPost} {s0 : Int32} : WP E d mMo_testWord 16 [.ref 166] [.int s0] σ Q = (if s0 = 0 then WP E d mMo_testWord 21 [.ref 166] [] σ Q else WP E d mMo_testWord 19 [.ref 166] [] σ Q) := w_ifeq (t := 21) dMo_testWord_16 (by decide)
theorem bMo_testWord_19 {E : mEn} {d : Nat} {σ : mSt} {Q : mPost} : WP E d mMo_testWord 19 [.ref 166] [] σ Q = Q (some (.int 0)) σ := (w_iconst (v := 0) dMo_testWord_19 rfl).trans (w_iret dMo_testWord_20 rfl)
theorem bMo_testWord_21 {E : mEn} {d : Nat} {σ : mSt} {Q : mPost} : WP E (d + 1) mMo_testWord 21 [.ref 166] [] σ Q = WP E d mMo_spelled 0 [.int (nI 104), .int (nI 97), .int (nI 115), .int 0, .int 0, .int 0, uu, uu] [] σ (fun r σ' => WP E (d + 1) mMo_testWord 34 [.ref 166] (r.toList ++ [.ref 166]) σ' Q) := (w_aload_n dMo_testWord_21 rfl).trans ((w_bipush (v := (nI 104)) dMo_testWord_22 rfl).trans ((w_bipush (v := (nI 97)) dMo_testWord_24 rfl).trans ((w_bipush (v := (nI 115)) dMo_testWord_26 rfl).trans ((w_iconst (v := 0) dMo_testWord_28 rfl).trans ((w_iconst (v := 0) dMo_testWord_29 rfl).trans ((w_iconst (v := 0) dMo_testWord_30 rfl).trans (w_stat (vs := [.int (nI 104), .int (nI 97), .int (nI 115), .int 0, .int 0, .int 0]) (st' := [.ref 166]) (es := [.int (nI 104), .int (nI 97), .int (nI 115), .int 0, .int 0, .int 0, uu, uu]) dMo_testWord_31 rz11_150 rfl rfl rfl (Nat.le_of_ble_eq_true rfl) (Nat.le_of_ble_eq_true rfl) rfl)))))))
theorem bMo_testWord_34 {E : mEn} {d : Nat} {σ : mSt} {Q : mPost} {q0 : Int64} : WP E (d + 1) mMo_testWord 34 [.ref 166] [.long q0, .ref 166] σ Q = WP E d mMo_isWord 0 [.ref 166, .long q0, uu] [] σ (fun r σ' => WP E (d + 1) mMo_testWord 37 [.ref 166] (r.toList ++ []) σ' Q) := w_virt (vs := [.long q0]) (st' := []) (es := [.ref 166, .long q0, uu]) dMo_testWord_34 rz11_154 rfl sh_166 rfl rfl rfl (Nat.le_of_ble_eq_true rfl) (Nat.le_of_ble_eq_true rfl) rfl
theorem bMo_testWord_37 {E : mEn} {d : Nat} {σ : mSt} {Q : mPost} {s0 : Int32} : WP E d mMo_testWord 37 [.ref 166] [.int s0] σ Q = (if s0 = 0 then WP E d mMo_testWord 42 [.ref 166] [] σ Q else WP E d mMo_testWord 40 [.ref 166] [] σ Q) := w_ifeq (t := 42) dMo_testWord_37 (by decide)
theorem bMo_testWord_40 {E : mEn} {d : Nat} {σ : mSt} {Q : mPost} : WP E d mMo_testWord 40 [.ref 166] [] σ Q = Q (some (.int 1)) σ := (w_iconst (v := 1) dMo_testWord_40 rfl).trans (w_iret dMo_testWord_41 rfl)
theorem bMo_testWord_42 {E : mEn} {d : Nat} {σ : mSt} {Q : mPost} : WP E (d + 1) mMo_testWord 42 [.ref 166] [] σ Q = WP E d mMo_spelled 0 [.int (nI 98), .int (nI 97), .int (nI 107), .int (nI 101), .int (nI 100), .int 0, uu, uu] [] σ (fun r σ' => WP E (d + 1) mMo_testWord 57 [.ref 166] (r.toList ++ [.ref 166]) σ' Q) := (w_aload_n dMo_testWord_42 rfl).trans ((w_bipush (v := (nI 98)) dMo_testWord_43 rfl).trans ((w_bipush (v := (nI 97)) dMo_testWord_45 rfl).trans ((w_bipush (v := (nI 107)) dMo_testWord_47 rfl).trans ((w_bipush (v := (nI 101)) dMo_testWord_49 rfl).trans ((w_bipush (v := (nI 100)) dMo_testWord_51 rfl).trans ((w_iconst (v := 0) dMo_testWord_53 rfl).trans (w_stat (vs := [.int (nI 98), .int (nI 97), .int (nI 107), .int (nI 101), .int (nI 100), .int 0]) (st' := [.ref 166]) (es := [.int (nI 98), .int (nI 97), .int (nI 107), .int (nI 101), .int (nI 100), .int 0, uu, uu]) dMo_testWord_54 rz11_150 rfl rfl rfl (Nat.le_of_ble_eq_true rfl) (Nat.le_of_ble_eq_true rfl) rfl)))))))
theorem bMo_testWord_57 {E : mEn} {d : Nat} {σ : mSt} {Q : mPost} {q0 : Int64} : WP E (d + 1) mMo_testWord 57 [.ref 166] [.long q0, .ref 166] σ Q = WP E d mMo_isWord 0 [.ref 166, .long q0, uu] [] σ (fun r σ' => WP E (d + 1) mMo_testWord 60 [.ref 166] (r.toList ++ []) σ' Q) := w_virt (vs := [.long q0]) (st' := []) (es := [.ref 166, .long q0, uu]) dMo_testWord_57 rz11_154 rfl sh_166 rfl rfl rfl (Nat.le_of_ble_eq_true rfl) (Nat.le_of_ble_eq_true rfl) rfl
theorem bMo_testWord_60 {E : mEn} {d : Nat} {σ : mSt} {Q : mPost} {s0 : Int32} : WP E d mMo_testWord 60 [.ref 166] [.int s0] σ Q = (if s0 = 0 then WP E d mMo_testWord 65 [.ref 166] [] σ Q else WP E d mMo_testWord 63 [.ref 166] [] σ Q) := w_ifeq (t := 65) dMo_testWord_60 (by decide)
theorem bMo_testWord_63 {E : mEn} {d : Nat} {σ : mSt} {Q : mPost} : WP E d mMo_testWord 63 [.ref 166] [] σ Q = Q (some (.int (nI 2))) σ := (w_iconst (v := (nI 2)) dMo_testWord_63 rfl).trans (w_iret dMo_testWord_64 rfl)
theorem bMo_testWord_65 {E : mEn} {d : Nat} {σ : mSt} {Q : mPost} : WP E (d + 1) mMo_testWord 65 [.ref 166] [] σ Q = WP E d mMo_spelled 0 [.int (nI 119), .int (nI 101), .int (nI 116), .int 0, .int 0, .int 0, uu, uu] [] σ (fun r σ' => WP E (d + 1) mMo_testWord 78 [.ref 166] (r.toList ++ [.ref 166]) σ' Q) := (w_aload_n dMo_testWord_65 rfl).trans ((w_bipush (v := (nI 119)) dMo_testWord_66 rfl).trans ((w_bipush (v := (nI 101)) dMo_testWord_68 rfl).trans ((w_bipush (v := (nI 116)) dMo_testWord_70 rfl).trans ((w_iconst (v := 0) dMo_testWord_72 rfl).trans ((w_iconst (v := 0) dMo_testWord_73 rfl).trans ((w_iconst (v := 0) dMo_testWord_74 rfl).trans (w_stat (vs := [.int (nI 119), .int (nI 101), .int (nI 116), .int 0, .int 0, .int 0]) (st' := [.ref 166]) (es := [.int (nI 119), .int (nI 101), .int (nI 116), .int 0, .int 0, .int 0, uu, uu]) dMo_testWord_75 rz11_150 rfl rfl rfl (Nat.le_of_ble_eq_true rfl) (Nat.le_of_ble_eq_true rfl) rfl)))))))
theorem bMo_testWord_78 {E : mEn} {d : Nat} {σ : mSt} {Q : mPost} {q0 : Int64} : WP E (d + 1) mMo_testWord 78 [.ref 166] [.long q0, .ref 166] σ Q = WP E d mMo_isWord 0 [.ref 166, .long q0, uu] [] σ (fun r σ' => WP E (d + 1) mMo_testWord 81 [.ref 166] (r.toList ++ []) σ' Q) := w_virt (vs := [.long q0]) (st' := []) (es := [.ref 166, .long q0, uu]) dMo_testWord_78 rz11_154 rfl sh_166 rfl rfl rfl (Nat.le_of_ble_eq_true rfl) (Nat.le_of_ble_eq_true rfl) rfl
theorem bMo_testWord_81 {E : mEn} {d : Nat} {σ : mSt} {Q : mPost} {s0 : Int32} : WP E d mMo_testWord 81 [.ref 166] [.int s0] σ Q = (if s0 = 0 then WP E d mMo_testWord 88 [.ref 166] [] σ Q else WP E d mMo_testWord 84 [.ref 166] [] σ Q) := w_ifeq (t := 88) dMo_testWord_81 (by decide)
theorem bMo_testWord_84 {E : mEn} {d : Nat} {σ : mSt} {Q : mPost} : WP E d mMo_testWord 84 [.ref 166] [] σ Q = WP E d mMo_testWord 89 [.ref 166] [.int (nI 3)] σ Q := (w_iconst (v := (nI 3)) dMo_testWord_84 rfl).trans (w_goto (t := 89) dMo_testWord_85 (by decide))
theorem bMo_testWord_88 {E : mEn} {d : Nat} {σ : mSt} {Q : mPost} : WP E d mMo_testWord 88 [.ref 166] [] σ Q = WP E d mMo_testWord 89 [.ref 166] [.int (-1)] σ Q := w_iconst (v := (-1)) dMo_testWord_88 rfl
theorem bMo_testWord_89 {E : mEn} {d : Nat} {σ : mSt} {Q : mPost} {s0 : Int32} : WP E d mMo_testWord 89 [.ref 166] [.int s0] σ Q = Q (some (.int s0)) σ := w_iret dMo_testWord_89 rfl
theorem dMo_isEnd_0 : decode (mC mMo_isEnd) 0 = .ok (.aload_n 0, 1) := by decide +kernel
theorem dMo_isEnd_1 : decode (mC mMo_isEnd) 1 = .ok (.bipush (101), 2) := by decide +kernel
theorem dMo_isEnd_3 : decode (mC mMo_isEnd) 3 = .ok (.bipush (110), 2) := by decide +kernel
theorem dMo_isEnd_5 : decode (mC mMo_isEnd) 5 = .ok (.bipush (100), 2) := by decide +kernel
theorem dMo_isEnd_7 : decode (mC mMo_isEnd) 7 = .ok (.iconst (0), 1) := by decide +kernel
theorem dMo_isEnd_8 : decode (mC mMo_isEnd) 8 = .ok (.iconst (0), 1) := by decide +kernel
theorem dMo_isEnd_9 : decode (mC mMo_isEnd) 9 = .ok (.iconst (0), 1) := by decide +kernel
theorem dMo_isEnd_10 : decode (mC mMo_isEnd) 10 = .ok (.invokestatic 150, 3) := by decide +kernel
theorem dMo_isEnd_13 : decode (mC mMo_isEnd) 13 = .ok (.invokevirtual 154, 3) := by decide +kernel
theorem dMo_isEnd_16 : decode (mC mMo_isEnd) 16 = .ok (.ireturn, 1) := by decide +kernel
theorem bMo_isEnd_0 {E : mEn} {d : Nat} {σ : mSt} {Q : mPost} : WP E (d + 1) mMo_isEnd 0 [.ref 166] [] σ Q = WP E d mMo_spelled 0 [.int (nI 101), .int (nI 110), .int (nI 100), .int 0, .int 0, .int 0, uu, uu] [] σ (fun r σ' => WP E (d + 1) mMo_isEnd 13 [.ref 166] (r.toList ++ [.ref 166]) σ' Q) := (w_aload_n dMo_isEnd_0 rfl).trans ((w_bipush (v := (nI 101)) dMo_isEnd_1 rfl).trans ((w_bipush (v := (nI 110)) dMo_isEnd_3 rfl).trans ((w_bipush (v := (nI 100)) dMo_isEnd_5 rfl).trans ((w_iconst (v := 0) dMo_isEnd_7 rfl).trans ((w_iconst (v := 0) dMo_isEnd_8 rfl).trans ((w_iconst (v := 0) dMo_isEnd_9 rfl).trans (w_stat (vs := [.int (nI 101), .int (nI 110), .int (nI 100), .int 0, .int 0, .int 0]) (st' := [.ref 166]) (es := [.int (nI 101), .int (nI 110), .int (nI 100), .int 0, .int 0, .int 0, uu, uu]) dMo_isEnd_10 rz11_150 rfl rfl rfl (Nat.le_of_ble_eq_true rfl) (Nat.le_of_ble_eq_true rfl) rfl)))))))
theorem bMo_isEnd_13 {E : mEn} {d : Nat} {σ : mSt} {Q : mPost} {q0 : Int64} : WP E (d + 1) mMo_isEnd 13 [.ref 166] [.long q0, .ref 166] σ Q = WP E d mMo_isWord 0 [.ref 166, .long q0, uu] [] σ (fun r σ' => WP E (d + 1) mMo_isEnd 16 [.ref 166] (r.toList ++ []) σ' Q) := w_virt (vs := [.long q0]) (st' := []) (es := [.ref 166, .long q0, uu]) dMo_isEnd_13 rz11_154 rfl sh_166 rfl rfl rfl (Nat.le_of_ble_eq_true rfl) (Nat.le_of_ble_eq_true rfl) rfl
theorem bMo_isEnd_16 {E : mEn} {d : Nat} {σ : mSt} {Q : mPost} {s0 : Int32} (hz0 : s0 = 0 ∨ s0 = 1) : WP E d mMo_isEnd 16 [.ref 166] [.int s0] σ Q = Q (some (.int s0)) σ := w_zret dMo_isEnd_16 rfl hz0
theorem dMo_wrong_0 : decode (mC mMo_wrong) 0 = .ok (.aload_n 0, 1) := by decide +kernel
theorem dMo_wrong_1 : decode (mC mMo_wrong) 1 = .ok (.aload_n 0, 1) := by decide +kernel
theorem dMo_wrong_2 : decode (mC mMo_wrong) 2 = .ok (.getfield 125, 3) := by decide +kernel
theorem dMo_wrong_5 : decode (mC mMo_wrong) 5 = .ok (.iconst (4), 1) := by decide +kernel
theorem dMo_wrong_6 : decode (mC mMo_wrong) 6 = .ok (.if_icmp .ne (7), 3) := by decide +kernel
theorem dMo_wrong_9 : decode (mC mMo_wrong) 9 = .ok (.iconst (1), 1) := by decide +kernel
theorem dMo_wrong_10 : decode (mC mMo_wrong) 10 = .ok (.goto (4), 3) := by decide +kernel
theorem dMo_wrong_13 : decode (mC mMo_wrong) 13 = .ok (.iconst (2), 1) := by decide +kernel
theorem dMo_wrong_14 : decode (mC mMo_wrong) 14 = .ok (.aload_n 0, 1) := by decide +kernel
theorem dMo_wrong_15 : decode (mC mMo_wrong) 15 = .ok (.getfield 119, 3) := by decide +kernel
theorem dMo_wrong_18 : decode (mC mMo_wrong) 18 = .ok (.invokevirtual 225, 3) := by decide +kernel
theorem dMo_wrong_21 : decode (mC mMo_wrong) 21 = .ok (.return_, 1) := by decide +kernel
theorem bMo_wrong_0 {E : mEn} {d : Nat} {σ : mSt} {Q : mPost} : WP E d mMo_wrong 0 [.ref 166] [] σ Q = (if ¬ (σ.1 166 14) = (nI 4) then WP E d mMo_wrong 13 [.ref 166] [.ref 166] σ Q else WP E d mMo_wrong 9 [.ref 166] [.ref 166] σ Q) := (w_aload_n dMo_wrong_0 rfl).trans ((w_aload_n dMo_wrong_1 rfl).trans ((w_geti dMo_wrong_2 rz11_125 sh_166 rfl).trans ((w_iconst (v := (nI 4)) dMo_wrong_5 rfl).trans (w_icmpne (t := 13) dMo_wrong_6 (by decide)))))
theorem bMo_wrong_9 {E : mEn} {d : Nat} {σ : mSt} {Q : mPost} : WP E d mMo_wrong 9 [.ref 166] [.ref 166] σ Q = WP E d mMo_wrong 14 [.ref 166] [.int 1, .ref 166] σ Q := (w_iconst (v := 1) dMo_wrong_9 rfl).trans (w_goto (t := 14) dMo_wrong_10 (by decide))
theorem bMo_wrong_13 {E : mEn} {d : Nat} {σ : mSt} {Q : mPost} : WP E d mMo_wrong 13 [.ref 166] [.ref 166] σ Q = WP E d mMo_wrong 14 [.ref 166] [.int (nI 2), .ref 166] σ Q := w_iconst (v := (nI 2)) dMo_wrong_13 rfl
theorem bMo_wrong_14 {E : mEn} {d : Nat} {σ : mSt} {Q : mPost} {s0 : Int32} : WP E (d + 1) mMo_wrong 14 [.ref 166] [.int s0, .ref 166] σ Q = WP E d mMo_fail 0 [.ref 166, .int s0, .int (σ.1 166 15)] [] σ (fun r σ' => WP E (d + 1) mMo_wrong 21 [.ref 166] (r.toList ++ []) σ' Q) := (w_aload_n dMo_wrong_14 rfl).trans ((w_geti dMo_wrong_15 rz11_119 sh_166 rfl).trans (w_virt (vs := [.int s0, .int (σ.1 166 15)]) (st' := []) (es := [.ref 166, .int s0, .int (σ.1 166 15)]) dMo_wrong_18 rz11_225 rfl sh_166 rfl rfl rfl (Nat.le_of_ble_eq_true rfl) (Nat.le_of_ble_eq_true rfl) rfl))
theorem bMo_wrong_21 {E : mEn} {d : Nat} {σ : mSt} {Q : mPost} : WP E d mMo_wrong 21 [.ref 166] [] σ Q = Q none σ := w_vret dMo_wrong_21 rfl
theorem dMo_personNamed_0 : decode (mC mMo_personNamed) 0 = .ok (.aload_n 0, 1) := by decide +kernel
theorem dMo_personNamed_1 : decode (mC mMo_personNamed) 1 = .ok (.iload_n 1, 1) := by decide +kernel
theorem dMo_personNamed_2 : decode (mC mMo_personNamed) 2 = .ok (.iconst (0), 1) := by decide +kernel
theorem dMo_personNamed_3 : decode (mC mMo_personNamed) 3 = .ok (.aload_n 0, 1) := by decide +kernel
theorem dMo_personNamed_4 : decode (mC mMo_personNamed) 4 = .ok (.getfield 35, 3) := by decide +kernel
theorem dMo_personNamed_7 : decode (mC mMo_personNamed) 7 = .ok (.sipush (600), 3) := by decide +kernel
theorem dMo_personNamed_10 : decode (mC mMo_personNamed) 10 = .ok (.iload_n 1, 1) := by decide +kernel
theorem dMo_personNamed_11 : decode (mC mMo_personNamed) 11 = .ok (.imul, 1) := by decide +kernel
theorem dMo_personNamed_12 : decode (mC mMo_personNamed) 12 = .ok (.iaload, 1) := by decide +kernel
theorem dMo_personNamed_13 : decode (mC mMo_personNamed) 13 = .ok (.invokevirtual 242, 3) := by decide +kernel
theorem dMo_personNamed_16 : decode (mC mMo_personNamed) 16 = .ok (.ireturn, 1) := by decide +kernel
theorem bMo_personNamed_0 {E : mEn} {d : Nat} {σ : mSt} {Q : mPost} {a1 : Int32} : WP E (d + 1) mMo_personNamed 0 [.ref 166, .int a1] [] σ Q = (if mOut ((nI 600) * a1) 3000 = true then False else WP E d mMo_named 0 [.ref 166, .int a1, .int 0, .int (σ.1 171 ((nI 600) * a1).toNatClampNeg), uu] [] σ (fun r σ' => WP E (d + 1) mMo_personNamed 16 [.ref 166, .int a1] (r.toList ++ []) σ' Q)) := (w_aload_n dMo_personNamed_0 rfl).trans ((w_iload_n dMo_personNamed_1 rfl).trans ((w_iconst (v := 0) dMo_personNamed_2 rfl).trans ((w_aload_n dMo_personNamed_3 rfl).trans ((w_getr (r := 171) dMo_personNamed_4 rz11_35 sh_166 rfl).trans ((w_sipush (v := (nI 600)) dMo_personNamed_7 rfl).trans ((w_iload_n dMo_personNamed_10 rfl).trans ((w_imul dMo_personNamed_11).trans ((w_iald dMo_personNamed_12 sh_171 (by decide)).trans (ite_c (w_virt (vs := [.int a1, .int 0, .int (σ.1 171 ((nI 600) * a1).toNatClampNeg)]) (st' := []) (es := [.ref 166, .int a1, .int 0, .int (σ.1 171 ((nI 600) * a1).toNatClampNeg), uu]) dMo_personNamed_13 rz11_242 rfl sh_166 rfl rfl rfl (Nat.le_of_ble_eq_true rfl) (Nat.le_of_ble_eq_true rfl) rfl))))))))))
theorem bMo_personNamed_16 {E : mEn} {d : Nat} {σ : mSt} {Q : mPost} {a1 : Int32} {s0 : Int32} : WP E d mMo_personNamed 16 [.ref 166, .int a1] [.int s0] σ Q = Q (some (.int s0)) σ := w_iret dMo_personNamed_16 rfl
theorem dMo_named_0 : decode (mC mMo_named) 0 = .ok (.iconst (0), 1) := by decide +kernel
theorem dMo_named_1 : decode (mC mMo_named) 1 = .ok (.istore 4, 2) := by decide +kernel
theorem dMo_named_3 : decode (mC mMo_named) 3 = .ok (.iload 4, 2) := by decide +kernel
theorem dMo_named_5 : decode (mC mMo_named) 5 = .ok (.iload_n 3, 1) := by decide +kernel
theorem dMo_named_6 : decode (mC mMo_named) 6 = .ok (.if_icmp .ge (34), 3) := by decide +kernel
theorem dMo_named_9 : decode (mC mMo_named) 9 = .ok (.aload_n 0, 1) := by decide +kernel
theorem dMo_named_10 : decode (mC mMo_named) 10 = .ok (.getfield 41, 3) := by decide +kernel
theorem dMo_named_13 : decode (mC mMo_named) 13 = .ok (.bipush (20), 2) := by decide +kernel
theorem dMo_named_15 : decode (mC mMo_named) 15 = .ok (.iload_n 1, 1) := by decide +kernel
theorem dMo_named_16 : decode (mC mMo_named) 16 = .ok (.imul, 1) := by decide +kernel
theorem dMo_named_17 : decode (mC mMo_named) 17 = .ok (.iload_n 2, 1) := by decide +kernel
theorem dMo_named_18 : decode (mC mMo_named) 18 = .ok (.iadd, 1) := by decide +kernel
theorem dMo_named_19 : decode (mC mMo_named) 19 = .ok (.iload 4, 2) := by decide +kernel
theorem dMo_named_21 : decode (mC mMo_named) 21 = .ok (.iadd, 1) := by decide +kernel
theorem dMo_named_22 : decode (mC mMo_named) 22 = .ok (.laload, 1) := by decide +kernel
theorem dMo_named_23 : decode (mC mMo_named) 23 = .ok (.aload_n 0, 1) := by decide +kernel
theorem dMo_named_24 : decode (mC mMo_named) 24 = .ok (.getfield 131, 3) := by decide +kernel
theorem dMo_named_27 : decode (mC mMo_named) 27 = .ok (.lcmp, 1) := by decide +kernel
theorem dMo_named_28 : decode (mC mMo_named) 28 = .ok (.ifCond .ne (6), 3) := by decide +kernel
theorem dMo_named_31 : decode (mC mMo_named) 31 = .ok (.iload 4, 2) := by decide +kernel
theorem dMo_named_33 : decode (mC mMo_named) 33 = .ok (.ireturn, 1) := by decide +kernel
theorem dMo_named_34 : decode (mC mMo_named) 34 = .ok (.iinc 4 (1), 3) := by decide +kernel
theorem dMo_named_37 : decode (mC mMo_named) 37 = .ok (.goto (-34), 3) := by decide +kernel
theorem dMo_named_40 : decode (mC mMo_named) 40 = .ok (.iconst (-1), 1) := by decide +kernel
theorem dMo_named_41 : decode (mC mMo_named) 41 = .ok (.ireturn, 1) := by decide +kernel
theorem bMo_named_0 {E : mEn} {d : Nat} {σ : mSt} {Q : mPost} {a1 : Int32} {a2 : Int32} {a3 : Int32} {u4 : Value} : WP E d mMo_named 0 [.ref 166, .int a1, .int a2, .int a3, u4] [] σ Q = WP E d mMo_named 3 [.ref 166, .int a1, .int a2, .int a3, .int 0] [] σ Q := (w_iconst (v := 0) dMo_named_0 rfl).trans (w_istore (ls' := [.ref 166, .int a1, .int a2, .int a3, .int 0]) dMo_named_1 (Nat.le_of_ble_eq_true rfl) rfl)
theorem bMo_named_3 {E : mEn} {d : Nat} {σ : mSt} {Q : mPost} {a1 : Int32} {a2 : Int32} {a3 : Int32} {a4 : Int32} : WP E d mMo_named 3 [.ref 166, .int a1, .int a2, .int a3, .int a4] [] σ Q = (if a3 ≤ a4 then WP E d mMo_named 40 [.ref 166, .int a1, .int a2, .int a3, .int a4] [] σ Q else WP E d mMo_named 9 [.ref 166, .int a1, .int a2, .int a3, .int a4] [] σ Q) := (w_iload dMo_named_3 rfl).trans ((w_iload_n dMo_named_5 rfl).trans (w_icmpge (t := 40) dMo_named_6 (by decide)))
theorem bMo_named_9 {E : mEn} {d : Nat} {σ : mSt} {Q : mPost} {a1 : Int32} {a2 : Int32} {a3 : Int32} {a4 : Int32} : WP E d mMo_named 9 [.ref 166, .int a1, .int a2, .int a3, .int a4] [] σ Q = (if mOut ((((nI 20) * a1) + a2) + a4) 100 = true then False else (if ¬ (lg_cmp (σ.2 173 ((((nI 20) * a1) + a2) + a4).toNatClampNeg) (σ.2 166 19)) = 0 then WP E d mMo_named 34 [.ref 166, .int a1, .int a2, .int a3, .int a4] [] σ Q else WP E d mMo_named 31 [.ref 166, .int a1, .int a2, .int a3, .int a4] [] σ Q)) := (w_aload_n dMo_named_9 rfl).trans ((w_getr (r := 173) dMo_named_10 rz11_41 sh_166 rfl).trans ((w_bipush (v := (nI 20)) dMo_named_13 rfl).trans ((w_iload_n dMo_named_15 rfl).trans ((w_imul dMo_named_16).trans ((w_iload_n dMo_named_17 rfl).trans ((w_iadd dMo_named_18).trans ((w_iload dMo_named_19 rfl).trans ((w_iadd dMo_named_21).trans ((w_lald dMo_named_22 sh_173).trans (ite_c ((w_aload_n dMo_named_23 rfl).trans ((w_getl dMo_named_24 rz11_131 sh_166 rfl).trans ((w_lcmp dMo_named_27).trans (w_ifne (t := 34) dMo_named_28 (by decide)))))))))))))))
theorem bMo_named_31 {E : mEn} {d : Nat} {σ : mSt} {Q : mPost} {a1 : Int32} {a2 : Int32} {a3 : Int32} {a4 : Int32} : WP E d mMo_named 31 [.ref 166, .int a1, .int a2, .int a3, .int a4] [] σ Q = Q (some (.int a4)) σ := (w_iload dMo_named_31 rfl).trans (w_iret dMo_named_33 rfl)
theorem bMo_named_34 {E : mEn} {d : Nat} {σ : mSt} {Q : mPost} {a1 : Int32} {a2 : Int32} {a3 : Int32} {a4 : Int32} : WP E d mMo_named 34 [.ref 166, .int a1, .int a2, .int a3, .int a4] [] σ Q = WP E d mMo_named 3 [.ref 166, .int a1, .int a2, .int a3, .int (a4 + 1)] [] σ Q := (w_iinc (v := 1) (ls' := [.ref 166, .int a1, .int a2, .int a3, .int (a4 + 1)]) dMo_named_34 rfl rfl rfl).trans (w_goto (t := 3) dMo_named_37 (by decide))
theorem bMo_named_40 {E : mEn} {d : Nat} {σ : mSt} {Q : mPost} {a1 : Int32} {a2 : Int32} {a3 : Int32} {a4 : Int32} : WP E d mMo_named 40 [.ref 166, .int a1, .int a2, .int a3, .int a4] [] σ Q = Q (some (.int (-1))) σ := (w_iconst (v := (-1)) dMo_named_40 rfl).trans (w_iret dMo_named_41 rfl)
theorem dMo_ovenNamed_0 : decode (mC mMo_ovenNamed) 0 = .ok (.aload_n 0, 1) := by decide +kernel
theorem dMo_ovenNamed_1 : decode (mC mMo_ovenNamed) 1 = .ok (.iload_n 1, 1) := by decide +kernel
theorem dMo_ovenNamed_2 : decode (mC mMo_ovenNamed) 2 = .ok (.bipush (8), 2) := by decide +kernel
theorem dMo_ovenNamed_4 : decode (mC mMo_ovenNamed) 4 = .ok (.aload_n 0, 1) := by decide +kernel
theorem dMo_ovenNamed_5 : decode (mC mMo_ovenNamed) 5 = .ok (.getfield 35, 3) := by decide +kernel
theorem dMo_ovenNamed_8 : decode (mC mMo_ovenNamed) 8 = .ok (.sipush (600), 3) := by decide +kernel
theorem dMo_ovenNamed_11 : decode (mC mMo_ovenNamed) 11 = .ok (.iload_n 1, 1) := by decide +kernel
theorem dMo_ovenNamed_12 : decode (mC mMo_ovenNamed) 12 = .ok (.imul, 1) := by decide +kernel
theorem dMo_ovenNamed_13 : decode (mC mMo_ovenNamed) 13 = .ok (.iconst (1), 1) := by decide +kernel
theorem dMo_ovenNamed_14 : decode (mC mMo_ovenNamed) 14 = .ok (.iadd, 1) := by decide +kernel
theorem dMo_ovenNamed_15 : decode (mC mMo_ovenNamed) 15 = .ok (.iaload, 1) := by decide +kernel
theorem dMo_ovenNamed_16 : decode (mC mMo_ovenNamed) 16 = .ok (.invokevirtual 242, 3) := by decide +kernel
theorem dMo_ovenNamed_19 : decode (mC mMo_ovenNamed) 19 = .ok (.ireturn, 1) := by decide +kernel
theorem bMo_ovenNamed_0 {E : mEn} {d : Nat} {σ : mSt} {Q : mPost} {a1 : Int32} : WP E (d + 1) mMo_ovenNamed 0 [.ref 166, .int a1] [] σ Q = (if mOut (((nI 600) * a1) + 1) 3000 = true then False else WP E d mMo_named 0 [.ref 166, .int a1, .int (nI 8), .int (σ.1 171 (((nI 600) * a1) + 1).toNatClampNeg), uu] [] σ (fun r σ' => WP E (d + 1) mMo_ovenNamed 19 [.ref 166, .int a1] (r.toList ++ []) σ' Q)) := (w_aload_n dMo_ovenNamed_0 rfl).trans ((w_iload_n dMo_ovenNamed_1 rfl).trans ((w_bipush (v := (nI 8)) dMo_ovenNamed_2 rfl).trans ((w_aload_n dMo_ovenNamed_4 rfl).trans ((w_getr (r := 171) dMo_ovenNamed_5 rz11_35 sh_166 rfl).trans ((w_sipush (v := (nI 600)) dMo_ovenNamed_8 rfl).trans ((w_iload_n dMo_ovenNamed_11 rfl).trans ((w_imul dMo_ovenNamed_12).trans ((w_iconst (v := 1) dMo_ovenNamed_13 rfl).trans ((w_iadd dMo_ovenNamed_14).trans ((w_iald dMo_ovenNamed_15 sh_171 (by decide)).trans (ite_c (w_virt (vs := [.int a1, .int (nI 8), .int (σ.1 171 (((nI 600) * a1) + 1).toNatClampNeg)]) (st' := []) (es := [.ref 166, .int a1, .int (nI 8), .int (σ.1 171 (((nI 600) * a1) + 1).toNatClampNeg), uu]) dMo_ovenNamed_16 rz11_242 rfl sh_166 rfl rfl rfl (Nat.le_of_ble_eq_true rfl) (Nat.le_of_ble_eq_true rfl) rfl))))))))))))
theorem bMo_ovenNamed_19 {E : mEn} {d : Nat} {σ : mSt} {Q : mPost} {a1 : Int32} {s0 : Int32} : WP E d mMo_ovenNamed 19 [.ref 166, .int a1] [.int s0] σ Q = Q (some (.int s0)) σ := w_iret dMo_ovenNamed_19 rfl
theorem dMo_loafNamed_0 : decode (mC mMo_loafNamed) 0 = .ok (.aload_n 0, 1) := by decide +kernel
theorem dMo_loafNamed_1 : decode (mC mMo_loafNamed) 1 = .ok (.iload_n 1, 1) := by decide +kernel
theorem dMo_loafNamed_2 : decode (mC mMo_loafNamed) 2 = .ok (.bipush (12), 2) := by decide +kernel
theorem dMo_loafNamed_4 : decode (mC mMo_loafNamed) 4 = .ok (.aload_n 0, 1) := by decide +kernel
theorem dMo_loafNamed_5 : decode (mC mMo_loafNamed) 5 = .ok (.getfield 35, 3) := by decide +kernel
theorem dMo_loafNamed_8 : decode (mC mMo_loafNamed) 8 = .ok (.sipush (600), 3) := by decide +kernel
theorem dMo_loafNamed_11 : decode (mC mMo_loafNamed) 11 = .ok (.iload_n 1, 1) := by decide +kernel
theorem dMo_loafNamed_12 : decode (mC mMo_loafNamed) 12 = .ok (.imul, 1) := by decide +kernel
theorem dMo_loafNamed_13 : decode (mC mMo_loafNamed) 13 = .ok (.iconst (2), 1) := by decide +kernel
theorem dMo_loafNamed_14 : decode (mC mMo_loafNamed) 14 = .ok (.iadd, 1) := by decide +kernel
theorem dMo_loafNamed_15 : decode (mC mMo_loafNamed) 15 = .ok (.iaload, 1) := by decide +kernel
theorem dMo_loafNamed_16 : decode (mC mMo_loafNamed) 16 = .ok (.invokevirtual 242, 3) := by decide +kernel
theorem dMo_loafNamed_19 : decode (mC mMo_loafNamed) 19 = .ok (.ireturn, 1) := by decide +kernel
theorem bMo_loafNamed_0 {E : mEn} {d : Nat} {σ : mSt} {Q : mPost} {a1 : Int32} : WP E (d + 1) mMo_loafNamed 0 [.ref 166, .int a1] [] σ Q = (if mOut (((nI 600) * a1) + (nI 2)) 3000 = true then False else WP E d mMo_named 0 [.ref 166, .int a1, .int (nI 12), .int (σ.1 171 (((nI 600) * a1) + (nI 2)).toNatClampNeg), uu] [] σ (fun r σ' => WP E (d + 1) mMo_loafNamed 19 [.ref 166, .int a1] (r.toList ++ []) σ' Q)) := (w_aload_n dMo_loafNamed_0 rfl).trans ((w_iload_n dMo_loafNamed_1 rfl).trans ((w_bipush (v := (nI 12)) dMo_loafNamed_2 rfl).trans ((w_aload_n dMo_loafNamed_4 rfl).trans ((w_getr (r := 171) dMo_loafNamed_5 rz11_35 sh_166 rfl).trans ((w_sipush (v := (nI 600)) dMo_loafNamed_8 rfl).trans ((w_iload_n dMo_loafNamed_11 rfl).trans ((w_imul dMo_loafNamed_12).trans ((w_iconst (v := (nI 2)) dMo_loafNamed_13 rfl).trans ((w_iadd dMo_loafNamed_14).trans ((w_iald dMo_loafNamed_15 sh_171 (by decide)).trans (ite_c (w_virt (vs := [.int a1, .int (nI 12), .int (σ.1 171 (((nI 600) * a1) + (nI 2)).toNatClampNeg)]) (st' := []) (es := [.ref 166, .int a1, .int (nI 12), .int (σ.1 171 (((nI 600) * a1) + (nI 2)).toNatClampNeg), uu]) dMo_loafNamed_16 rz11_242 rfl sh_166 rfl rfl rfl (Nat.le_of_ble_eq_true rfl) (Nat.le_of_ble_eq_true rfl) rfl))))))))))))
theorem bMo_loafNamed_19 {E : mEn} {d : Nat} {σ : mSt} {Q : mPost} {a1 : Int32} {s0 : Int32} : WP E d mMo_loafNamed 19 [.ref 166, .int a1] [.int s0] σ Q = Q (some (.int s0)) σ := w_iret dMo_loafNamed_19 rfl
theorem dMo_count_0 : decode (mC mMo_count) 0 = .ok (.aload_n 0, 1) := by decide +kernel
theorem dMo_count_1 : decode (mC mMo_count) 1 = .ok (.getfield 219, 3) := by decide +kernel
theorem dMo_count_4 : decode (mC mMo_count) 4 = .ok (.ifCond .ne (15), 3) := by decide +kernel
theorem dMo_count_7 : decode (mC mMo_count) 7 = .ok (.aload_n 0, 1) := by decide +kernel
theorem dMo_count_8 : decode (mC mMo_count) 8 = .ok (.getfield 125, 3) := by decide +kernel
theorem dMo_count_11 : decode (mC mMo_count) 11 = .ok (.iconst (2), 1) := by decide +kernel
theorem dMo_count_12 : decode (mC mMo_count) 12 = .ok (.if_icmp .eq (7), 3) := by decide +kernel
theorem dMo_count_15 : decode (mC mMo_count) 15 = .ok (.aload_n 0, 1) := by decide +kernel
theorem dMo_count_16 : decode (mC mMo_count) 16 = .ok (.invokevirtual 232, 3) := by decide +kernel
theorem dMo_count_19 : decode (mC mMo_count) 19 = .ok (.aload_n 0, 1) := by decide +kernel
theorem dMo_count_20 : decode (mC mMo_count) 20 = .ok (.getfield 219, 3) := by decide +kernel
theorem dMo_count_23 : decode (mC mMo_count) 23 = .ok (.ifCond .ne (27), 3) := by decide +kernel
theorem dMo_count_26 : decode (mC mMo_count) 26 = .ok (.aload_n 0, 1) := by decide +kernel
theorem dMo_count_27 : decode (mC mMo_count) 27 = .ok (.getfield 144, 3) := by decide +kernel
theorem dMo_count_30 : decode (mC mMo_count) 30 = .ok (.i2l, 1) := by decide +kernel
theorem dMo_count_31 : decode (mC mMo_count) 31 = .ok (.iload_n 1, 1) := by decide +kernel
theorem dMo_count_32 : decode (mC mMo_count) 32 = .ok (.i2l, 1) := by decide +kernel
theorem dMo_count_33 : decode (mC mMo_count) 33 = .ok (.iload_n 2, 1) := by decide +kernel
theorem dMo_count_34 : decode (mC mMo_count) 34 = .ok (.i2l, 1) := by decide +kernel
theorem dMo_count_35 : decode (mC mMo_count) 35 = .ok (.invokestatic 109, 3) := by decide +kernel
theorem dMo_count_38 : decode (mC mMo_count) 38 = .ok (.ifCond .ne (12), 3) := by decide +kernel
theorem dMo_count_41 : decode (mC mMo_count) 41 = .ok (.aload_n 0, 1) := by decide +kernel
theorem dMo_count_42 : decode (mC mMo_count) 42 = .ok (.iconst (4), 1) := by decide +kernel
theorem dMo_count_43 : decode (mC mMo_count) 43 = .ok (.aload_n 0, 1) := by decide +kernel
theorem dMo_count_44 : decode (mC mMo_count) 44 = .ok (.getfield 119, 3) := by decide +kernel
theorem dMo_count_47 : decode (mC mMo_count) 47 = .ok (.invokevirtual 225, 3) := by decide +kernel
theorem dMo_count_50 : decode (mC mMo_count) 50 = .ok (.aload_n 0, 1) := by decide +kernel
theorem dMo_count_51 : decode (mC mMo_count) 51 = .ok (.getfield 219, 3) := by decide +kernel
theorem dMo_count_54 : decode (mC mMo_count) 54 = .ok (.ifCond .le (5), 3) := by decide +kernel
theorem dMo_count_57 : decode (mC mMo_count) 57 = .ok (.iconst (0), 1) := by decide +kernel
theorem dMo_count_58 : decode (mC mMo_count) 58 = .ok (.ireturn, 1) := by decide +kernel
theorem dMo_count_59 : decode (mC mMo_count) 59 = .ok (.aload_n 0, 1) := by decide +kernel
theorem dMo_count_60 : decode (mC mMo_count) 60 = .ok (.getfield 144, 3) := by decide +kernel
theorem dMo_count_63 : decode (mC mMo_count) 63 = .ok (.istore_n 3, 1) := by decide +kernel
theorem dMo_count_64 : decode (mC mMo_count) 64 = .ok (.aload_n 0, 1) := by decide +kernel
theorem dMo_count_65 : decode (mC mMo_count) 65 = .ok (.invokevirtual 229, 3) := by decide +kernel
theorem dMo_count_68 : decode (mC mMo_count) 68 = .ok (.iload_n 3, 1) := by decide +kernel
theorem dMo_count_69 : decode (mC mMo_count) 69 = .ok (.ireturn, 1) := by decide +kernel
theorem bMo_count_0 {E : mEn} {d : Nat} {σ : mSt} {Q : mPost} {a1 : Int32} {a2 : Int32} {u3 : Value} : WP E d mMo_count 0 [.ref 166, .int a1, .int a2, u3] [] σ Q = (if ¬ (σ.1 166 12) = 0 then WP E d mMo_count 19 [.ref 166, .int a1, .int a2, u3] [] σ Q else WP E d mMo_count 7 [.ref 166, .int a1, .int a2, u3] [] σ Q) := (w_aload_n dMo_count_0 rfl).trans ((w_geti dMo_count_1 rz11_219 sh_166 rfl).trans (w_ifne (t := 19) dMo_count_4 (by decide)))
theorem bMo_count_7 {E : mEn} {d : Nat} {σ : mSt} {Q : mPost} {a1 : Int32} {a2 : Int32} {u3 : Value} : WP E d mMo_count 7 [.ref 166, .int a1, .int a2, u3] [] σ Q = (if (σ.1 166 14) = (nI 2) then WP E d mMo_count 19 [.ref 166, .int a1, .int a2, u3] [] σ Q else WP E d mMo_count 15 [.ref 166, .int a1, .int a2, u3] [] σ Q) := (w_aload_n dMo_count_7 rfl).trans ((w_geti dMo_count_8 rz11_125 sh_166 rfl).trans ((w_iconst (v := (nI 2)) dMo_count_11 rfl).trans (w_icmpeq (t := 19) dMo_count_12 (by decide))))
theorem bMo_count_15 {E : mEn} {d : Nat} {σ : mSt} {Q : mPost} {a1 : Int32} {a2 : Int32} {u3 : Value} : WP E (d + 1) mMo_count 15 [.ref 166, .int a1, .int a2, u3] [] σ Q = WP E d mMo_wrong 0 [.ref 166] [] σ (fun r σ' => WP E (d + 1) mMo_count 19 [.ref 166, .int a1, .int a2, u3] (r.toList ++ []) σ' Q) := (w_aload_n dMo_count_15 rfl).trans (w_virt (vs := []) (st' := []) (es := [.ref 166]) dMo_count_16 rz11_232 rfl sh_166 rfl rfl rfl (Nat.le_of_ble_eq_true rfl) (Nat.le_of_ble_eq_true rfl) rfl)
theorem bMo_count_19 {E : mEn} {d : Nat} {σ : mSt} {Q : mPost} {a1 : Int32} {a2 : Int32} {u3 : Value} : WP E d mMo_count 19 [.ref 166, .int a1, .int a2, u3] [] σ Q = (if ¬ (σ.1 166 12) = 0 then WP E d mMo_count 50 [.ref 166, .int a1, .int a2, u3] [] σ Q else WP E d mMo_count 26 [.ref 166, .int a1, .int a2, u3] [] σ Q) := (w_aload_n dMo_count_19 rfl).trans ((w_geti dMo_count_20 rz11_219 sh_166 rfl).trans (w_ifne (t := 50) dMo_count_23 (by decide)))
theorem bMo_count_26 {E : mEn} {d : Nat} {σ : mSt} {Q : mPost} {a1 : Int32} {a2 : Int32} {u3 : Value} : WP E (d + 1) mMo_count 26 [.ref 166, .int a1, .int a2, u3] [] σ Q = WP E d mMo_isIn 0 [.long ((σ.1 166 17).toInt64), uu, .long (a1.toInt64), uu, .long (a2.toInt64), uu] [] σ (fun r σ' => WP E (d + 1) mMo_count 38 [.ref 166, .int a1, .int a2, u3] (r.toList ++ []) σ' Q) := (w_aload_n dMo_count_26 rfl).trans ((w_geti dMo_count_27 rz11_144 sh_166 rfl).trans ((w_i2l dMo_count_30).trans ((w_iload_n dMo_count_31 rfl).trans ((w_i2l dMo_count_32).trans ((w_iload_n dMo_count_33 rfl).trans ((w_i2l dMo_count_34).trans (w_stat (vs := [.long ((σ.1 166 17).toInt64), .long (a1.toInt64), .long (a2.toInt64)]) (st' := []) (es := [.long ((σ.1 166 17).toInt64), uu, .long (a1.toInt64), uu, .long (a2.toInt64), uu]) dMo_count_35 rz11_109 rfl rfl rfl (Nat.le_of_ble_eq_true rfl) (Nat.le_of_ble_eq_true rfl) rfl)))))))
theorem bMo_count_38 {E : mEn} {d : Nat} {σ : mSt} {Q : mPost} {a1 : Int32} {a2 : Int32} {u3 : Value} {s0 : Int32} : WP E d mMo_count 38 [.ref 166, .int a1, .int a2, u3] [.int s0] σ Q = (if ¬ s0 = 0 then WP E d mMo_count 50 [.ref 166, .int a1, .int a2, u3] [] σ Q else WP E d mMo_count 41 [.ref 166, .int a1, .int a2, u3] [] σ Q) := w_ifne (t := 50) dMo_count_38 (by decide)
theorem bMo_count_41 {E : mEn} {d : Nat} {σ : mSt} {Q : mPost} {a1 : Int32} {a2 : Int32} {u3 : Value} : WP E (d + 1) mMo_count 41 [.ref 166, .int a1, .int a2, u3] [] σ Q = WP E d mMo_fail 0 [.ref 166, .int (nI 4), .int (σ.1 166 15)] [] σ (fun r σ' => WP E (d + 1) mMo_count 50 [.ref 166, .int a1, .int a2, u3] (r.toList ++ []) σ' Q) := (w_aload_n dMo_count_41 rfl).trans ((w_iconst (v := (nI 4)) dMo_count_42 rfl).trans ((w_aload_n dMo_count_43 rfl).trans ((w_geti dMo_count_44 rz11_119 sh_166 rfl).trans (w_virt (vs := [.int (nI 4), .int (σ.1 166 15)]) (st' := []) (es := [.ref 166, .int (nI 4), .int (σ.1 166 15)]) dMo_count_47 rz11_225 rfl sh_166 rfl rfl rfl (Nat.le_of_ble_eq_true rfl) (Nat.le_of_ble_eq_true rfl) rfl))))
theorem bMo_count_50 {E : mEn} {d : Nat} {σ : mSt} {Q : mPost} {a1 : Int32} {a2 : Int32} {u3 : Value} : WP E d mMo_count 50 [.ref 166, .int a1, .int a2, u3] [] σ Q = (if (σ.1 166 12) ≤ 0 then WP E d mMo_count 59 [.ref 166, .int a1, .int a2, u3] [] σ Q else WP E d mMo_count 57 [.ref 166, .int a1, .int a2, u3] [] σ Q) := (w_aload_n dMo_count_50 rfl).trans ((w_geti dMo_count_51 rz11_219 sh_166 rfl).trans (w_ifle (t := 59) dMo_count_54 (by decide)))
theorem bMo_count_57 {E : mEn} {d : Nat} {σ : mSt} {Q : mPost} {a1 : Int32} {a2 : Int32} {u3 : Value} : WP E d mMo_count 57 [.ref 166, .int a1, .int a2, u3] [] σ Q = Q (some (.int 0)) σ := (w_iconst (v := 0) dMo_count_57 rfl).trans (w_iret dMo_count_58 rfl)
theorem bMo_count_59 {E : mEn} {d : Nat} {σ : mSt} {Q : mPost} {a1 : Int32} {a2 : Int32} {u3 : Value} : WP E (d + 1) mMo_count 59 [.ref 166, .int a1, .int a2, u3] [] σ Q = WP E d mMo_next 0 [.ref 166, uu] [] σ (fun r σ' => WP E (d + 1) mMo_count 68 [.ref 166, .int a1, .int a2, .int (σ.1 166 17)] (r.toList ++ []) σ' Q) := (w_aload_n dMo_count_59 rfl).trans ((w_geti dMo_count_60 rz11_144 sh_166 rfl).trans ((w_istore_n (ls' := [.ref 166, .int a1, .int a2, .int (σ.1 166 17)]) dMo_count_63 (Nat.le_of_ble_eq_true rfl) rfl).trans ((w_aload_n dMo_count_64 rfl).trans (w_virt (vs := []) (st' := []) (es := [.ref 166, uu]) dMo_count_65 rz11_229 rfl sh_166 rfl rfl rfl (Nat.le_of_ble_eq_true rfl) (Nat.le_of_ble_eq_true rfl) rfl))))
theorem bMo_count_68 {E : mEn} {d : Nat} {σ : mSt} {Q : mPost} {a1 : Int32} {a2 : Int32} {a3 : Int32} : WP E d mMo_count 68 [.ref 166, .int a1, .int a2, .int a3] [] σ Q = Q (some (.int a3)) σ := (w_iload_n dMo_count_68 rfl).trans (w_iret dMo_count_69 rfl)
theorem dMo_isIn_0 : decode (mC mMo_isIn) 0 = .ok (.lload_n 0, 1) := by decide +kernel
theorem dMo_isIn_1 : decode (mC mMo_isIn) 1 = .ok (.lload_n 2, 1) := by decide +kernel
theorem dMo_isIn_2 : decode (mC mMo_isIn) 2 = .ok (.lcmp, 1) := by decide +kernel
theorem dMo_isIn_3 : decode (mC mMo_isIn) 3 = .ok (.ifCond .lt (14), 3) := by decide +kernel
theorem dMo_isIn_6 : decode (mC mMo_isIn) 6 = .ok (.lload_n 0, 1) := by decide +kernel
theorem dMo_isIn_7 : decode (mC mMo_isIn) 7 = .ok (.lload 4, 2) := by decide +kernel
theorem dMo_isIn_9 : decode (mC mMo_isIn) 9 = .ok (.lcmp, 1) := by decide +kernel
theorem dMo_isIn_10 : decode (mC mMo_isIn) 10 = .ok (.ifCond .gt (7), 3) := by decide +kernel
theorem dMo_isIn_13 : decode (mC mMo_isIn) 13 = .ok (.iconst (1), 1) := by decide +kernel
theorem dMo_isIn_14 : decode (mC mMo_isIn) 14 = .ok (.goto (4), 3) := by decide +kernel
theorem dMo_isIn_17 : decode (mC mMo_isIn) 17 = .ok (.iconst (0), 1) := by decide +kernel
theorem dMo_isIn_18 : decode (mC mMo_isIn) 18 = .ok (.ireturn, 1) := by decide +kernel
theorem bMo_isIn_0 {E : mEn} {d : Nat} {σ : mSt} {Q : mPost} {j0 : Int64} {j2 : Int64} {j4 : Int64} : WP E d mMo_isIn 0 [.long j0, uu, .long j2, uu, .long j4, uu] [] σ Q = (if (lg_cmp j0 j2) < 0 then WP E d mMo_isIn 17 [.long j0, uu, .long j2, uu, .long j4, uu] [] σ Q else WP E d mMo_isIn 6 [.long j0, uu, .long j2, uu, .long j4, uu] [] σ Q) := (w_lload_n dMo_isIn_0 rfl).trans ((w_lload_n dMo_isIn_1 rfl).trans ((w_lcmp dMo_isIn_2).trans (w_iflt (t := 17) dMo_isIn_3 (by decide))))
theorem bMo_isIn_6 {E : mEn} {d : Nat} {σ : mSt} {Q : mPost} {j0 : Int64} {j2 : Int64} {j4 : Int64} : WP E d mMo_isIn 6 [.long j0, uu, .long j2, uu, .long j4, uu] [] σ Q = (if 0 < (lg_cmp j0 j4) then WP E d mMo_isIn 17 [.long j0, uu, .long j2, uu, .long j4, uu] [] σ Q else WP E d mMo_isIn 13 [.long j0, uu, .long j2, uu, .long j4, uu] [] σ Q) := (w_lload_n dMo_isIn_6 rfl).trans ((w_lload dMo_isIn_7 rfl).trans ((w_lcmp dMo_isIn_9).trans (w_ifgt (t := 17) dMo_isIn_10 (by decide))))
theorem bMo_isIn_13 {E : mEn} {d : Nat} {σ : mSt} {Q : mPost} {j0 : Int64} {j2 : Int64} {j4 : Int64} : WP E d mMo_isIn 13 [.long j0, uu, .long j2, uu, .long j4, uu] [] σ Q = WP E d mMo_isIn 18 [.long j0, uu, .long j2, uu, .long j4, uu] [.int 1] σ Q := (w_iconst (v := 1) dMo_isIn_13 rfl).trans (w_goto (t := 18) dMo_isIn_14 (by decide))
theorem bMo_isIn_17 {E : mEn} {d : Nat} {σ : mSt} {Q : mPost} {j0 : Int64} {j2 : Int64} {j4 : Int64} : WP E d mMo_isIn 17 [.long j0, uu, .long j2, uu, .long j4, uu] [] σ Q = WP E d mMo_isIn 18 [.long j0, uu, .long j2, uu, .long j4, uu] [.int 0] σ Q := w_iconst (v := 0) dMo_isIn_17 rfl
theorem bMo_isIn_18 {E : mEn} {d : Nat} {σ : mSt} {Q : mPost} {j0 : Int64} {j2 : Int64} {j4 : Int64} {s0 : Int32} (hz0 : s0 = 0 ∨ s0 = 1) : WP E d mMo_isIn 18 [.long j0, uu, .long j2, uu, .long j4, uu] [.int s0] σ Q = Q (some (.int s0)) σ := w_zret dMo_isIn_18 rfl hz0
theorem dMo_readOven_0 : decode (mC mMo_readOven) 0 = .ok (.aload_n 0, 1) := by decide +kernel
theorem dMo_readOven_1 : decode (mC mMo_readOven) 1 = .ok (.getfield 35, 3) := by decide +kernel
theorem dMo_readOven_4 : decode (mC mMo_readOven) 4 = .ok (.sipush (2401), 3) := by decide +kernel
theorem dMo_readOven_7 : decode (mC mMo_readOven) 7 = .ok (.iaload, 1) := by decide +kernel
theorem dMo_readOven_8 : decode (mC mMo_readOven) 8 = .ok (.istore_n 1, 1) := by decide +kernel
theorem dMo_readOven_9 : decode (mC mMo_readOven) 9 = .ok (.iload_n 1, 1) := by decide +kernel
theorem dMo_readOven_10 : decode (mC mMo_readOven) 10 = .ok (.iconst (4), 1) := by decide +kernel
theorem dMo_readOven_11 : decode (mC mMo_readOven) 11 = .ok (.if_icmp .ne (13), 3) := by decide +kernel
theorem dMo_readOven_14 : decode (mC mMo_readOven) 14 = .ok (.aload_n 0, 1) := by decide +kernel
theorem dMo_readOven_15 : decode (mC mMo_readOven) 15 = .ok (.bipush (6), 2) := by decide +kernel
theorem dMo_readOven_17 : decode (mC mMo_readOven) 17 = .ok (.aload_n 0, 1) := by decide +kernel
theorem dMo_readOven_18 : decode (mC mMo_readOven) 18 = .ok (.getfield 119, 3) := by decide +kernel
theorem dMo_readOven_21 : decode (mC mMo_readOven) 21 = .ok (.invokevirtual 225, 3) := by decide +kernel
theorem dMo_readOven_24 : decode (mC mMo_readOven) 24 = .ok (.aload_n 0, 1) := by decide +kernel
theorem dMo_readOven_25 : decode (mC mMo_readOven) 25 = .ok (.getfield 219, 3) := by decide +kernel
theorem dMo_readOven_28 : decode (mC mMo_readOven) 28 = .ok (.ifCond .le (4), 3) := by decide +kernel
theorem dMo_readOven_31 : decode (mC mMo_readOven) 31 = .ok (.return_, 1) := by decide +kernel
theorem dMo_readOven_32 : decode (mC mMo_readOven) 32 = .ok (.aload_n 0, 1) := by decide +kernel
theorem dMo_readOven_33 : decode (mC mMo_readOven) 33 = .ok (.bipush (8), 2) := by decide +kernel
theorem dMo_readOven_35 : decode (mC mMo_readOven) 35 = .ok (.iload_n 1, 1) := by decide +kernel
theorem dMo_readOven_36 : decode (mC mMo_readOven) 36 = .ok (.iadd, 1) := by decide +kernel
theorem dMo_readOven_37 : decode (mC mMo_readOven) 37 = .ok (.invokevirtual 268, 3) := by decide +kernel
theorem dMo_readOven_40 : decode (mC mMo_readOven) 40 = .ok (.aload_n 0, 1) := by decide +kernel
theorem dMo_readOven_41 : decode (mC mMo_readOven) 41 = .ok (.getfield 219, 3) := by decide +kernel
theorem dMo_readOven_44 : decode (mC mMo_readOven) 44 = .ok (.ifCond .ne (31), 3) := by decide +kernel
theorem dMo_readOven_47 : decode (mC mMo_readOven) 47 = .ok (.aload_n 0, 1) := by decide +kernel
theorem dMo_readOven_48 : decode (mC mMo_readOven) 48 = .ok (.invokevirtual 173, 3) := by decide +kernel
theorem dMo_readOven_51 : decode (mC mMo_readOven) 51 = .ok (.ifCond .eq (24), 3) := by decide +kernel
theorem dMo_readOven_54 : decode (mC mMo_readOven) 54 = .ok (.aload_n 0, 1) := by decide +kernel
theorem dMo_readOven_55 : decode (mC mMo_readOven) 55 = .ok (.invokevirtual 229, 3) := by decide +kernel
theorem dMo_readOven_58 : decode (mC mMo_readOven) 58 = .ok (.aload_n 0, 1) := by decide +kernel
theorem dMo_readOven_59 : decode (mC mMo_readOven) 59 = .ok (.getfield 35, 3) := by decide +kernel
theorem dMo_readOven_62 : decode (mC mMo_readOven) 62 = .ok (.sipush (2430), 3) := by decide +kernel
theorem dMo_readOven_65 : decode (mC mMo_readOven) 65 = .ok (.iload_n 1, 1) := by decide +kernel
theorem dMo_readOven_66 : decode (mC mMo_readOven) 66 = .ok (.iadd, 1) := by decide +kernel
theorem dMo_readOven_67 : decode (mC mMo_readOven) 67 = .ok (.aload_n 0, 1) := by decide +kernel
theorem dMo_readOven_68 : decode (mC mMo_readOven) 68 = .ok (.iconst (0), 1) := by decide +kernel
theorem dMo_readOven_69 : decode (mC mMo_readOven) 69 = .ok (.bipush (16), 2) := by decide +kernel
theorem dMo_readOven_71 : decode (mC mMo_readOven) 71 = .ok (.invokevirtual 271, 3) := by decide +kernel
theorem dMo_readOven_74 : decode (mC mMo_readOven) 74 = .ok (.iastore, 1) := by decide +kernel
theorem dMo_readOven_75 : decode (mC mMo_readOven) 75 = .ok (.aload_n 0, 1) := by decide +kernel
theorem dMo_readOven_76 : decode (mC mMo_readOven) 76 = .ok (.getfield 219, 3) := by decide +kernel
theorem dMo_readOven_79 : decode (mC mMo_readOven) 79 = .ok (.ifCond .ne (15), 3) := by decide +kernel
theorem dMo_readOven_82 : decode (mC mMo_readOven) 82 = .ok (.aload_n 0, 1) := by decide +kernel
theorem dMo_readOven_83 : decode (mC mMo_readOven) 83 = .ok (.getfield 35, 3) := by decide +kernel
theorem dMo_readOven_86 : decode (mC mMo_readOven) 86 = .ok (.sipush (2401), 3) := by decide +kernel
theorem dMo_readOven_89 : decode (mC mMo_readOven) 89 = .ok (.dup2, 1) := by decide +kernel
theorem dMo_readOven_90 : decode (mC mMo_readOven) 90 = .ok (.iaload, 1) := by decide +kernel
theorem dMo_readOven_91 : decode (mC mMo_readOven) 91 = .ok (.iconst (1), 1) := by decide +kernel
theorem dMo_readOven_92 : decode (mC mMo_readOven) 92 = .ok (.iadd, 1) := by decide +kernel
theorem dMo_readOven_93 : decode (mC mMo_readOven) 93 = .ok (.iastore, 1) := by decide +kernel
theorem dMo_readOven_94 : decode (mC mMo_readOven) 94 = .ok (.return_, 1) := by decide +kernel
theorem bMo_readOven_0 {E : mEn} {d : Nat} {σ : mSt} {Q : mPost} {u1 : Value} : WP E d mMo_readOven 0 [.ref 166, u1] [] σ Q = (if mOut (nI 2401) 3000 = true then False else (if ¬ (σ.1 171 2401) = (nI 4) then WP E d mMo_readOven 24 [.ref 166, .int (σ.1 171 2401)] [] σ Q else WP E d mMo_readOven 14 [.ref 166, .int (σ.1 171 2401)] [] σ Q)) := (w_aload_n dMo_readOven_0 rfl).trans ((w_getr (r := 171) dMo_readOven_1 rz11_35 sh_166 rfl).trans ((w_sipush (v := (nI 2401)) dMo_readOven_4 rfl).trans ((w_iald dMo_readOven_7 sh_171 (by decide)).trans (ite_c ((w_istore_n (ls' := [.ref 166, .int (σ.1 171 2401)]) dMo_readOven_8 (Nat.le_of_ble_eq_true rfl) rfl).trans ((w_iload_n dMo_readOven_9 rfl).trans ((w_iconst (v := (nI 4)) dMo_readOven_10 rfl).trans (w_icmpne (t := 24) dMo_readOven_11 (by decide)))))))))
theorem bMo_readOven_14 {E : mEn} {d : Nat} {σ : mSt} {Q : mPost} {a1 : Int32} : WP E (d + 1) mMo_readOven 14 [.ref 166, .int a1] [] σ Q = WP E d mMo_fail 0 [.ref 166, .int (nI 6), .int (σ.1 166 15)] [] σ (fun r σ' => WP E (d + 1) mMo_readOven 24 [.ref 166, .int a1] (r.toList ++ []) σ' Q) := (w_aload_n dMo_readOven_14 rfl).trans ((w_bipush (v := (nI 6)) dMo_readOven_15 rfl).trans ((w_aload_n dMo_readOven_17 rfl).trans ((w_geti dMo_readOven_18 rz11_119 sh_166 rfl).trans (w_virt (vs := [.int (nI 6), .int (σ.1 166 15)]) (st' := []) (es := [.ref 166, .int (nI 6), .int (σ.1 166 15)]) dMo_readOven_21 rz11_225 rfl sh_166 rfl rfl rfl (Nat.le_of_ble_eq_true rfl) (Nat.le_of_ble_eq_true rfl) rfl))))
theorem bMo_readOven_24 {E : mEn} {d : Nat} {σ : mSt} {Q : mPost} {a1 : Int32} : WP E d mMo_readOven 24 [.ref 166, .int a1] [] σ Q = (if (σ.1 166 12) ≤ 0 then WP E d mMo_readOven 32 [.ref 166, .int a1] [] σ Q else WP E d mMo_readOven 31 [.ref 166, .int a1] [] σ Q) := (w_aload_n dMo_readOven_24 rfl).trans ((w_geti dMo_readOven_25 rz11_219 sh_166 rfl).trans (w_ifle (t := 32) dMo_readOven_28 (by decide)))
theorem bMo_readOven_31 {E : mEn} {d : Nat} {σ : mSt} {Q : mPost} {a1 : Int32} : WP E d mMo_readOven 31 [.ref 166, .int a1] [] σ Q = Q none σ := w_vret dMo_readOven_31 rfl
theorem bMo_readOven_32 {E : mEn} {d : Nat} {σ : mSt} {Q : mPost} {a1 : Int32} : WP E (d + 1) mMo_readOven 32 [.ref 166, .int a1] [] σ Q = WP E d mMo_readNew 0 [.ref 166, .int ((nI 8) + a1)] [] σ (fun r σ' => WP E (d + 1) mMo_readOven 40 [.ref 166, .int a1] (r.toList ++ []) σ' Q) := (w_aload_n dMo_readOven_32 rfl).trans ((w_bipush (v := (nI 8)) dMo_readOven_33 rfl).trans ((w_iload_n dMo_readOven_35 rfl).trans ((w_iadd dMo_readOven_36).trans (w_virt (vs := [.int ((nI 8) + a1)]) (st' := []) (es := [.ref 166, .int ((nI 8) + a1)]) dMo_readOven_37 rz11_268 rfl sh_166 rfl rfl rfl (Nat.le_of_ble_eq_true rfl) (Nat.le_of_ble_eq_true rfl) rfl))))
theorem bMo_readOven_40 {E : mEn} {d : Nat} {σ : mSt} {Q : mPost} {a1 : Int32} : WP E d mMo_readOven 40 [.ref 166, .int a1] [] σ Q = (if ¬ (σ.1 166 12) = 0 then WP E d mMo_readOven 75 [.ref 166, .int a1] [] σ Q else WP E d mMo_readOven 47 [.ref 166, .int a1] [] σ Q) := (w_aload_n dMo_readOven_40 rfl).trans ((w_geti dMo_readOven_41 rz11_219 sh_166 rfl).trans (w_ifne (t := 75) dMo_readOven_44 (by decide)))
theorem bMo_readOven_47 {E : mEn} {d : Nat} {σ : mSt} {Q : mPost} {a1 : Int32} : WP E (d + 1) mMo_readOven 47 [.ref 166, .int a1] [] σ Q = WP E d mMo_isRain 0 [.ref 166] [] σ (fun r σ' => WP E (d + 1) mMo_readOven 51 [.ref 166, .int a1] (r.toList ++ []) σ' Q) := (w_aload_n dMo_readOven_47 rfl).trans (w_virt (vs := []) (st' := []) (es := [.ref 166]) dMo_readOven_48 rz11_173 rfl sh_166 rfl rfl rfl (Nat.le_of_ble_eq_true rfl) (Nat.le_of_ble_eq_true rfl) rfl)
theorem bMo_readOven_51 {E : mEn} {d : Nat} {σ : mSt} {Q : mPost} {a1 : Int32} {s0 : Int32} : WP E d mMo_readOven 51 [.ref 166, .int a1] [.int s0] σ Q = (if s0 = 0 then WP E d mMo_readOven 75 [.ref 166, .int a1] [] σ Q else WP E d mMo_readOven 54 [.ref 166, .int a1] [] σ Q) := w_ifeq (t := 75) dMo_readOven_51 (by decide)
theorem bMo_readOven_54 {E : mEn} {d : Nat} {σ : mSt} {Q : mPost} {a1 : Int32} : WP E (d + 1) mMo_readOven 54 [.ref 166, .int a1] [] σ Q = WP E d mMo_next 0 [.ref 166, uu] [] σ (fun r σ' => WP E (d + 1) mMo_readOven 58 [.ref 166, .int a1] (r.toList ++ []) σ' Q) := (w_aload_n dMo_readOven_54 rfl).trans (w_virt (vs := []) (st' := []) (es := [.ref 166, uu]) dMo_readOven_55 rz11_229 rfl sh_166 rfl rfl rfl (Nat.le_of_ble_eq_true rfl) (Nat.le_of_ble_eq_true rfl) rfl)
theorem bMo_readOven_58 {E : mEn} {d : Nat} {σ : mSt} {Q : mPost} {a1 : Int32} : WP E (d + 1) mMo_readOven 58 [.ref 166, .int a1] [] σ Q = WP E d mMo_count 0 [.ref 166, .int 0, .int (nI 16), uu] [] σ (fun r σ' => WP E (d + 1) mMo_readOven 74 [.ref 166, .int a1] (r.toList ++ [.int ((nI 2430) + a1), .ref 171]) σ' Q) := (w_aload_n dMo_readOven_58 rfl).trans ((w_getr (r := 171) dMo_readOven_59 rz11_35 sh_166 rfl).trans ((w_sipush (v := (nI 2430)) dMo_readOven_62 rfl).trans ((w_iload_n dMo_readOven_65 rfl).trans ((w_iadd dMo_readOven_66).trans ((w_aload_n dMo_readOven_67 rfl).trans ((w_iconst (v := 0) dMo_readOven_68 rfl).trans ((w_bipush (v := (nI 16)) dMo_readOven_69 rfl).trans (w_virt (vs := [.int 0, .int (nI 16)]) (st' := [.int ((nI 2430) + a1), .ref 171]) (es := [.ref 166, .int 0, .int (nI 16), uu]) dMo_readOven_71 rz11_271 rfl sh_166 rfl rfl rfl (Nat.le_of_ble_eq_true rfl) (Nat.le_of_ble_eq_true rfl) rfl))))))))
theorem bMo_readOven_74 {E : mEn} {d : Nat} {σ : mSt} {Q : mPost} {a1 : Int32} {s0 : Int32} {s1 : Int32} : WP E d mMo_readOven 74 [.ref 166, .int a1] [.int s0, .int s1, .ref 171] σ Q = (if mOut s1 3000 = true then False else WP E d mMo_readOven 75 [.ref 166, .int a1] [] (sI σ 171 s1.toNatClampNeg s0) Q) := (w_iast dMo_readOven_74 sh_171).trans (ite_c (rfl))
theorem bMo_readOven_75 {E : mEn} {d : Nat} {σ : mSt} {Q : mPost} {a1 : Int32} : WP E d mMo_readOven 75 [.ref 166, .int a1] [] σ Q = (if ¬ (σ.1 166 12) = 0 then WP E d mMo_readOven 94 [.ref 166, .int a1] [] σ Q else WP E d mMo_readOven 82 [.ref 166, .int a1] [] σ Q) := (w_aload_n dMo_readOven_75 rfl).trans ((w_geti dMo_readOven_76 rz11_219 sh_166 rfl).trans (w_ifne (t := 94) dMo_readOven_79 (by decide)))
theorem bMo_readOven_82 {E : mEn} {d : Nat} {σ : mSt} {Q : mPost} {a1 : Int32} : WP E d mMo_readOven 82 [.ref 166, .int a1] [] σ Q = (if mOut (nI 2401) 3000 = true then False else (if mOut (nI 2401) 3000 = true then False else WP E d mMo_readOven 94 [.ref 166, .int a1] [] (sI σ 171 2401 ((σ.1 171 2401) + 1)) Q)) := (w_aload_n dMo_readOven_82 rfl).trans ((w_getr (r := 171) dMo_readOven_83 rz11_35 sh_166 rfl).trans ((w_sipush (v := (nI 2401)) dMo_readOven_86 rfl).trans ((w_dup2 dMo_readOven_89 rfl rfl).trans ((w_iald dMo_readOven_90 sh_171 (by decide)).trans (ite_c ((w_iconst (v := 1) dMo_readOven_91 rfl).trans ((w_iadd dMo_readOven_92).trans ((w_iast dMo_readOven_93 sh_171).trans (ite_c (rfl))))))))))
theorem bMo_readOven_94 {E : mEn} {d : Nat} {σ : mSt} {Q : mPost} {a1 : Int32} : WP E d mMo_readOven 94 [.ref 166, .int a1] [] σ Q = Q none σ := w_vret dMo_readOven_94 rfl
theorem dMo_readLoaf_0 : decode (mC mMo_readLoaf) 0 = .ok (.aload_n 0, 1) := by decide +kernel
theorem dMo_readLoaf_1 : decode (mC mMo_readLoaf) 1 = .ok (.getfield 35, 3) := by decide +kernel
theorem dMo_readLoaf_4 : decode (mC mMo_readLoaf) 4 = .ok (.sipush (2402), 3) := by decide +kernel
theorem dMo_readLoaf_7 : decode (mC mMo_readLoaf) 7 = .ok (.iaload, 1) := by decide +kernel
theorem dMo_readLoaf_8 : decode (mC mMo_readLoaf) 8 = .ok (.istore_n 1, 1) := by decide +kernel
theorem dMo_readLoaf_9 : decode (mC mMo_readLoaf) 9 = .ok (.iload_n 1, 1) := by decide +kernel
theorem dMo_readLoaf_10 : decode (mC mMo_readLoaf) 10 = .ok (.bipush (8), 2) := by decide +kernel
theorem dMo_readLoaf_12 : decode (mC mMo_readLoaf) 12 = .ok (.if_icmp .ne (13), 3) := by decide +kernel
theorem dMo_readLoaf_15 : decode (mC mMo_readLoaf) 15 = .ok (.aload_n 0, 1) := by decide +kernel
theorem dMo_readLoaf_16 : decode (mC mMo_readLoaf) 16 = .ok (.bipush (6), 2) := by decide +kernel
theorem dMo_readLoaf_18 : decode (mC mMo_readLoaf) 18 = .ok (.aload_n 0, 1) := by decide +kernel
theorem dMo_readLoaf_19 : decode (mC mMo_readLoaf) 19 = .ok (.getfield 119, 3) := by decide +kernel
theorem dMo_readLoaf_22 : decode (mC mMo_readLoaf) 22 = .ok (.invokevirtual 225, 3) := by decide +kernel
theorem dMo_readLoaf_25 : decode (mC mMo_readLoaf) 25 = .ok (.aload_n 0, 1) := by decide +kernel
theorem dMo_readLoaf_26 : decode (mC mMo_readLoaf) 26 = .ok (.getfield 219, 3) := by decide +kernel
theorem dMo_readLoaf_29 : decode (mC mMo_readLoaf) 29 = .ok (.ifCond .le (4), 3) := by decide +kernel
theorem dMo_readLoaf_32 : decode (mC mMo_readLoaf) 32 = .ok (.return_, 1) := by decide +kernel
theorem dMo_readLoaf_33 : decode (mC mMo_readLoaf) 33 = .ok (.aload_n 0, 1) := by decide +kernel
theorem dMo_readLoaf_34 : decode (mC mMo_readLoaf) 34 = .ok (.bipush (12), 2) := by decide +kernel
theorem dMo_readLoaf_36 : decode (mC mMo_readLoaf) 36 = .ok (.iload_n 1, 1) := by decide +kernel
theorem dMo_readLoaf_37 : decode (mC mMo_readLoaf) 37 = .ok (.iadd, 1) := by decide +kernel
theorem dMo_readLoaf_38 : decode (mC mMo_readLoaf) 38 = .ok (.invokevirtual 268, 3) := by decide +kernel
theorem dMo_readLoaf_41 : decode (mC mMo_readLoaf) 41 = .ok (.aload_n 0, 1) := by decide +kernel
theorem dMo_readLoaf_42 : decode (mC mMo_readLoaf) 42 = .ok (.aload_n 0, 1) := by decide +kernel
theorem dMo_readLoaf_43 : decode (mC mMo_readLoaf) 43 = .ok (.invokevirtual 179, 3) := by decide +kernel
theorem dMo_readLoaf_46 : decode (mC mMo_readLoaf) 46 = .ok (.invokevirtual 264, 3) := by decide +kernel
theorem dMo_readLoaf_49 : decode (mC mMo_readLoaf) 49 = .ok (.aload_n 0, 1) := by decide +kernel
theorem dMo_readLoaf_50 : decode (mC mMo_readLoaf) 50 = .ok (.getfield 35, 3) := by decide +kernel
theorem dMo_readLoaf_53 : decode (mC mMo_readLoaf) 53 = .ok (.sipush (2434), 3) := by decide +kernel
theorem dMo_readLoaf_56 : decode (mC mMo_readLoaf) 56 = .ok (.iload_n 1, 1) := by decide +kernel
theorem dMo_readLoaf_57 : decode (mC mMo_readLoaf) 57 = .ok (.iadd, 1) := by decide +kernel
theorem dMo_readLoaf_58 : decode (mC mMo_readLoaf) 58 = .ok (.aload_n 0, 1) := by decide +kernel
theorem dMo_readLoaf_59 : decode (mC mMo_readLoaf) 59 = .ok (.iconst (4), 1) := by decide +kernel
theorem dMo_readLoaf_60 : decode (mC mMo_readLoaf) 60 = .ok (.iconst (0), 1) := by decide +kernel
theorem dMo_readLoaf_61 : decode (mC mMo_readLoaf) 61 = .ok (.invokevirtual 274, 3) := by decide +kernel
theorem dMo_readLoaf_64 : decode (mC mMo_readLoaf) 64 = .ok (.iastore, 1) := by decide +kernel
theorem dMo_readLoaf_65 : decode (mC mMo_readLoaf) 65 = .ok (.aload_n 0, 1) := by decide +kernel
theorem dMo_readLoaf_66 : decode (mC mMo_readLoaf) 66 = .ok (.getfield 35, 3) := by decide +kernel
theorem dMo_readLoaf_69 : decode (mC mMo_readLoaf) 69 = .ok (.sipush (2442), 3) := by decide +kernel
theorem dMo_readLoaf_72 : decode (mC mMo_readLoaf) 72 = .ok (.iload_n 1, 1) := by decide +kernel
theorem dMo_readLoaf_73 : decode (mC mMo_readLoaf) 73 = .ok (.iadd, 1) := by decide +kernel
theorem dMo_readLoaf_74 : decode (mC mMo_readLoaf) 74 = .ok (.iconst (-1), 1) := by decide +kernel
theorem dMo_readLoaf_75 : decode (mC mMo_readLoaf) 75 = .ok (.iastore, 1) := by decide +kernel
theorem dMo_readLoaf_76 : decode (mC mMo_readLoaf) 76 = .ok (.aload_n 0, 1) := by decide +kernel
theorem dMo_readLoaf_77 : decode (mC mMo_readLoaf) 77 = .ok (.getfield 219, 3) := by decide +kernel
theorem dMo_readLoaf_80 : decode (mC mMo_readLoaf) 80 = .ok (.ifCond .ne (30), 3) := by decide +kernel
theorem dMo_readLoaf_83 : decode (mC mMo_readLoaf) 83 = .ok (.aload_n 0, 1) := by decide +kernel
theorem dMo_readLoaf_84 : decode (mC mMo_readLoaf) 84 = .ok (.invokevirtual 182, 3) := by decide +kernel
theorem dMo_readLoaf_87 : decode (mC mMo_readLoaf) 87 = .ok (.ifCond .eq (23), 3) := by decide +kernel
theorem dMo_readLoaf_90 : decode (mC mMo_readLoaf) 90 = .ok (.aload_n 0, 1) := by decide +kernel
theorem dMo_readLoaf_91 : decode (mC mMo_readLoaf) 91 = .ok (.invokevirtual 229, 3) := by decide +kernel
theorem dMo_readLoaf_94 : decode (mC mMo_readLoaf) 94 = .ok (.aload_n 0, 1) := by decide +kernel
theorem dMo_readLoaf_95 : decode (mC mMo_readLoaf) 95 = .ok (.getfield 35, 3) := by decide +kernel
theorem dMo_readLoaf_98 : decode (mC mMo_readLoaf) 98 = .ok (.sipush (2442), 3) := by decide +kernel
theorem dMo_readLoaf_101 : decode (mC mMo_readLoaf) 101 = .ok (.iload_n 1, 1) := by decide +kernel
theorem dMo_readLoaf_102 : decode (mC mMo_readLoaf) 102 = .ok (.iadd, 1) := by decide +kernel
theorem dMo_readLoaf_103 : decode (mC mMo_readLoaf) 103 = .ok (.aload_n 0, 1) := by decide +kernel
theorem dMo_readLoaf_104 : decode (mC mMo_readLoaf) 104 = .ok (.iconst (4), 1) := by decide +kernel
theorem dMo_readLoaf_105 : decode (mC mMo_readLoaf) 105 = .ok (.iconst (1), 1) := by decide +kernel
theorem dMo_readLoaf_106 : decode (mC mMo_readLoaf) 106 = .ok (.invokevirtual 274, 3) := by decide +kernel
theorem dMo_readLoaf_109 : decode (mC mMo_readLoaf) 109 = .ok (.iastore, 1) := by decide +kernel
theorem dMo_readLoaf_110 : decode (mC mMo_readLoaf) 110 = .ok (.aload_n 0, 1) := by decide +kernel
theorem dMo_readLoaf_111 : decode (mC mMo_readLoaf) 111 = .ok (.aload_n 0, 1) := by decide +kernel
theorem dMo_readLoaf_112 : decode (mC mMo_readLoaf) 112 = .ok (.invokevirtual 185, 3) := by decide +kernel
theorem dMo_readLoaf_115 : decode (mC mMo_readLoaf) 115 = .ok (.invokevirtual 264, 3) := by decide +kernel
theorem dMo_readLoaf_118 : decode (mC mMo_readLoaf) 118 = .ok (.aload_n 0, 1) := by decide +kernel
theorem dMo_readLoaf_119 : decode (mC mMo_readLoaf) 119 = .ok (.getfield 35, 3) := by decide +kernel
theorem dMo_readLoaf_122 : decode (mC mMo_readLoaf) 122 = .ok (.sipush (2450), 3) := by decide +kernel
theorem dMo_readLoaf_125 : decode (mC mMo_readLoaf) 125 = .ok (.iload_n 1, 1) := by decide +kernel
theorem dMo_readLoaf_126 : decode (mC mMo_readLoaf) 126 = .ok (.iadd, 1) := by decide +kernel
theorem dMo_readLoaf_127 : decode (mC mMo_readLoaf) 127 = .ok (.aload_n 0, 1) := by decide +kernel
theorem dMo_readLoaf_128 : decode (mC mMo_readLoaf) 128 = .ok (.iconst (0), 1) := by decide +kernel
theorem dMo_readLoaf_129 : decode (mC mMo_readLoaf) 129 = .ok (.bipush (99), 2) := by decide +kernel
theorem dMo_readLoaf_131 : decode (mC mMo_readLoaf) 131 = .ok (.invokevirtual 271, 3) := by decide +kernel
theorem dMo_readLoaf_134 : decode (mC mMo_readLoaf) 134 = .ok (.iastore, 1) := by decide +kernel
theorem dMo_readLoaf_135 : decode (mC mMo_readLoaf) 135 = .ok (.aload_n 0, 1) := by decide +kernel
theorem dMo_readLoaf_136 : decode (mC mMo_readLoaf) 136 = .ok (.aload_n 0, 1) := by decide +kernel
theorem dMo_readLoaf_137 : decode (mC mMo_readLoaf) 137 = .ok (.invokevirtual 188, 3) := by decide +kernel
theorem dMo_readLoaf_140 : decode (mC mMo_readLoaf) 140 = .ok (.invokevirtual 264, 3) := by decide +kernel
theorem dMo_readLoaf_143 : decode (mC mMo_readLoaf) 143 = .ok (.aload_n 0, 1) := by decide +kernel
theorem dMo_readLoaf_144 : decode (mC mMo_readLoaf) 144 = .ok (.getfield 35, 3) := by decide +kernel
theorem dMo_readLoaf_147 : decode (mC mMo_readLoaf) 147 = .ok (.sipush (2458), 3) := by decide +kernel
theorem dMo_readLoaf_150 : decode (mC mMo_readLoaf) 150 = .ok (.iload_n 1, 1) := by decide +kernel
theorem dMo_readLoaf_151 : decode (mC mMo_readLoaf) 151 = .ok (.iadd, 1) := by decide +kernel
theorem dMo_readLoaf_152 : decode (mC mMo_readLoaf) 152 = .ok (.aload_n 0, 1) := by decide +kernel
theorem dMo_readLoaf_153 : decode (mC mMo_readLoaf) 153 = .ok (.iconst (1), 1) := by decide +kernel
theorem dMo_readLoaf_154 : decode (mC mMo_readLoaf) 154 = .ok (.bipush (99), 2) := by decide +kernel
theorem dMo_readLoaf_156 : decode (mC mMo_readLoaf) 156 = .ok (.invokevirtual 271, 3) := by decide +kernel
theorem dMo_readLoaf_159 : decode (mC mMo_readLoaf) 159 = .ok (.iastore, 1) := by decide +kernel
theorem dMo_readLoaf_160 : decode (mC mMo_readLoaf) 160 = .ok (.aload_n 0, 1) := by decide +kernel
theorem dMo_readLoaf_161 : decode (mC mMo_readLoaf) 161 = .ok (.aload_n 0, 1) := by decide +kernel
theorem dMo_readLoaf_162 : decode (mC mMo_readLoaf) 162 = .ok (.invokevirtual 191, 3) := by decide +kernel
theorem dMo_readLoaf_165 : decode (mC mMo_readLoaf) 165 = .ok (.invokevirtual 264, 3) := by decide +kernel
theorem dMo_readLoaf_168 : decode (mC mMo_readLoaf) 168 = .ok (.aload_n 0, 1) := by decide +kernel
theorem dMo_readLoaf_169 : decode (mC mMo_readLoaf) 169 = .ok (.getfield 35, 3) := by decide +kernel
theorem dMo_readLoaf_172 : decode (mC mMo_readLoaf) 172 = .ok (.sipush (2466), 3) := by decide +kernel
theorem dMo_readLoaf_175 : decode (mC mMo_readLoaf) 175 = .ok (.iload_n 1, 1) := by decide +kernel
theorem dMo_readLoaf_176 : decode (mC mMo_readLoaf) 176 = .ok (.iadd, 1) := by decide +kernel
theorem dMo_readLoaf_177 : decode (mC mMo_readLoaf) 177 = .ok (.aload_n 0, 1) := by decide +kernel
theorem dMo_readLoaf_178 : decode (mC mMo_readLoaf) 178 = .ok (.iconst (0), 1) := by decide +kernel
theorem dMo_readLoaf_179 : decode (mC mMo_readLoaf) 179 = .ok (.sipush (999), 3) := by decide +kernel
theorem dMo_readLoaf_182 : decode (mC mMo_readLoaf) 182 = .ok (.invokevirtual 271, 3) := by decide +kernel
theorem dMo_readLoaf_185 : decode (mC mMo_readLoaf) 185 = .ok (.iastore, 1) := by decide +kernel
theorem dMo_readLoaf_186 : decode (mC mMo_readLoaf) 186 = .ok (.aload_n 0, 1) := by decide +kernel
theorem dMo_readLoaf_187 : decode (mC mMo_readLoaf) 187 = .ok (.getfield 35, 3) := by decide +kernel
theorem dMo_readLoaf_190 : decode (mC mMo_readLoaf) 190 = .ok (.sipush (2474), 3) := by decide +kernel
theorem dMo_readLoaf_193 : decode (mC mMo_readLoaf) 193 = .ok (.iload_n 1, 1) := by decide +kernel
theorem dMo_readLoaf_194 : decode (mC mMo_readLoaf) 194 = .ok (.iadd, 1) := by decide +kernel
theorem dMo_readLoaf_195 : decode (mC mMo_readLoaf) 195 = .ok (.iconst (-1), 1) := by decide +kernel
theorem dMo_readLoaf_196 : decode (mC mMo_readLoaf) 196 = .ok (.iastore, 1) := by decide +kernel
theorem dMo_readLoaf_197 : decode (mC mMo_readLoaf) 197 = .ok (.aload_n 0, 1) := by decide +kernel
theorem dMo_readLoaf_198 : decode (mC mMo_readLoaf) 198 = .ok (.getfield 219, 3) := by decide +kernel
theorem dMo_readLoaf_201 : decode (mC mMo_readLoaf) 201 = .ok (.ifCond .ne (15), 3) := by decide +kernel
theorem dMo_readLoaf_204 : decode (mC mMo_readLoaf) 204 = .ok (.aload_n 0, 1) := by decide +kernel
theorem dMo_readLoaf_205 : decode (mC mMo_readLoaf) 205 = .ok (.getfield 35, 3) := by decide +kernel
theorem dMo_readLoaf_208 : decode (mC mMo_readLoaf) 208 = .ok (.sipush (2402), 3) := by decide +kernel
theorem dMo_readLoaf_211 : decode (mC mMo_readLoaf) 211 = .ok (.dup2, 1) := by decide +kernel
theorem dMo_readLoaf_212 : decode (mC mMo_readLoaf) 212 = .ok (.iaload, 1) := by decide +kernel
theorem dMo_readLoaf_213 : decode (mC mMo_readLoaf) 213 = .ok (.iconst (1), 1) := by decide +kernel
theorem dMo_readLoaf_214 : decode (mC mMo_readLoaf) 214 = .ok (.iadd, 1) := by decide +kernel
theorem dMo_readLoaf_215 : decode (mC mMo_readLoaf) 215 = .ok (.iastore, 1) := by decide +kernel
theorem dMo_readLoaf_216 : decode (mC mMo_readLoaf) 216 = .ok (.return_, 1) := by decide +kernel
theorem bMo_readLoaf_0 {E : mEn} {d : Nat} {σ : mSt} {Q : mPost} {u1 : Value} : WP E d mMo_readLoaf 0 [.ref 166, u1] [] σ Q = (if mOut (nI 2402) 3000 = true then False else (if ¬ (σ.1 171 2402) = (nI 8) then WP E d mMo_readLoaf 25 [.ref 166, .int (σ.1 171 2402)] [] σ Q else WP E d mMo_readLoaf 15 [.ref 166, .int (σ.1 171 2402)] [] σ Q)) := (w_aload_n dMo_readLoaf_0 rfl).trans ((w_getr (r := 171) dMo_readLoaf_1 rz11_35 sh_166 rfl).trans ((w_sipush (v := (nI 2402)) dMo_readLoaf_4 rfl).trans ((w_iald dMo_readLoaf_7 sh_171 (by decide)).trans (ite_c ((w_istore_n (ls' := [.ref 166, .int (σ.1 171 2402)]) dMo_readLoaf_8 (Nat.le_of_ble_eq_true rfl) rfl).trans ((w_iload_n dMo_readLoaf_9 rfl).trans ((w_bipush (v := (nI 8)) dMo_readLoaf_10 rfl).trans (w_icmpne (t := 25) dMo_readLoaf_12 (by decide)))))))))
theorem bMo_readLoaf_15 {E : mEn} {d : Nat} {σ : mSt} {Q : mPost} {a1 : Int32} : WP E (d + 1) mMo_readLoaf 15 [.ref 166, .int a1] [] σ Q = WP E d mMo_fail 0 [.ref 166, .int (nI 6), .int (σ.1 166 15)] [] σ (fun r σ' => WP E (d + 1) mMo_readLoaf 25 [.ref 166, .int a1] (r.toList ++ []) σ' Q) := (w_aload_n dMo_readLoaf_15 rfl).trans ((w_bipush (v := (nI 6)) dMo_readLoaf_16 rfl).trans ((w_aload_n dMo_readLoaf_18 rfl).trans ((w_geti dMo_readLoaf_19 rz11_119 sh_166 rfl).trans (w_virt (vs := [.int (nI 6), .int (σ.1 166 15)]) (st' := []) (es := [.ref 166, .int (nI 6), .int (σ.1 166 15)]) dMo_readLoaf_22 rz11_225 rfl sh_166 rfl rfl rfl (Nat.le_of_ble_eq_true rfl) (Nat.le_of_ble_eq_true rfl) rfl))))
theorem bMo_readLoaf_25 {E : mEn} {d : Nat} {σ : mSt} {Q : mPost} {a1 : Int32} : WP E d mMo_readLoaf 25 [.ref 166, .int a1] [] σ Q = (if (σ.1 166 12) ≤ 0 then WP E d mMo_readLoaf 33 [.ref 166, .int a1] [] σ Q else WP E d mMo_readLoaf 32 [.ref 166, .int a1] [] σ Q) := (w_aload_n dMo_readLoaf_25 rfl).trans ((w_geti dMo_readLoaf_26 rz11_219 sh_166 rfl).trans (w_ifle (t := 33) dMo_readLoaf_29 (by decide)))
theorem bMo_readLoaf_32 {E : mEn} {d : Nat} {σ : mSt} {Q : mPost} {a1 : Int32} : WP E d mMo_readLoaf 32 [.ref 166, .int a1] [] σ Q = Q none σ := w_vret dMo_readLoaf_32 rfl
theorem bMo_readLoaf_33 {E : mEn} {d : Nat} {σ : mSt} {Q : mPost} {a1 : Int32} : WP E (d + 1) mMo_readLoaf 33 [.ref 166, .int a1] [] σ Q = WP E d mMo_readNew 0 [.ref 166, .int ((nI 12) + a1)] [] σ (fun r σ' => WP E (d + 1) mMo_readLoaf 41 [.ref 166, .int a1] (r.toList ++ []) σ' Q) := (w_aload_n dMo_readLoaf_33 rfl).trans ((w_bipush (v := (nI 12)) dMo_readLoaf_34 rfl).trans ((w_iload_n dMo_readLoaf_36 rfl).trans ((w_iadd dMo_readLoaf_37).trans (w_virt (vs := [.int ((nI 12) + a1)]) (st' := []) (es := [.ref 166, .int ((nI 12) + a1)]) dMo_readLoaf_38 rz11_268 rfl sh_166 rfl rfl rfl (Nat.le_of_ble_eq_true rfl) (Nat.le_of_ble_eq_true rfl) rfl))))
theorem bMo_readLoaf_41 {E : mEn} {d : Nat} {σ : mSt} {Q : mPost} {a1 : Int32} : WP E (d + 1) mMo_readLoaf 41 [.ref 166, .int a1] [] σ Q = WP E d mMo_isBy 0 [.ref 166] [] σ (fun r σ' => WP E (d + 1) mMo_readLoaf 46 [.ref 166, .int a1] (r.toList ++ [.ref 166]) σ' Q) := (w_aload_n dMo_readLoaf_41 rfl).trans ((w_aload_n dMo_readLoaf_42 rfl).trans (w_virt (vs := []) (st' := [.ref 166]) (es := [.ref 166]) dMo_readLoaf_43 rz11_179 rfl sh_166 rfl rfl rfl (Nat.le_of_ble_eq_true rfl) (Nat.le_of_ble_eq_true rfl) rfl))
theorem bMo_readLoaf_46 {E : mEn} {d : Nat} {σ : mSt} {Q : mPost} {a1 : Int32} {s0 : Int32} : WP E (d + 1) mMo_readLoaf 46 [.ref 166, .int a1] [.int s0, .ref 166] σ Q = WP E d mMo_must 0 [.ref 166, .int s0] [] σ (fun r σ' => WP E (d + 1) mMo_readLoaf 49 [.ref 166, .int a1] (r.toList ++ []) σ' Q) := w_virt (vs := [.int s0]) (st' := []) (es := [.ref 166, .int s0]) dMo_readLoaf_46 rz11_264 rfl sh_166 rfl rfl rfl (Nat.le_of_ble_eq_true rfl) (Nat.le_of_ble_eq_true rfl) rfl
theorem bMo_readLoaf_49 {E : mEn} {d : Nat} {σ : mSt} {Q : mPost} {a1 : Int32} : WP E (d + 1) mMo_readLoaf 49 [.ref 166, .int a1] [] σ Q = WP E d mMo_readTold 0 [.ref 166, .int (nI 4), .int 0, uu] [] σ (fun r σ' => WP E (d + 1) mMo_readLoaf 64 [.ref 166, .int a1] (r.toList ++ [.int ((nI 2434) + a1), .ref 171]) σ' Q) := (w_aload_n dMo_readLoaf_49 rfl).trans ((w_getr (r := 171) dMo_readLoaf_50 rz11_35 sh_166 rfl).trans ((w_sipush (v := (nI 2434)) dMo_readLoaf_53 rfl).trans ((w_iload_n dMo_readLoaf_56 rfl).trans ((w_iadd dMo_readLoaf_57).trans ((w_aload_n dMo_readLoaf_58 rfl).trans ((w_iconst (v := (nI 4)) dMo_readLoaf_59 rfl).trans ((w_iconst (v := 0) dMo_readLoaf_60 rfl).trans (w_virt (vs := [.int (nI 4), .int 0]) (st' := [.int ((nI 2434) + a1), .ref 171]) (es := [.ref 166, .int (nI 4), .int 0, uu]) dMo_readLoaf_61 rz11_274 rfl sh_166 rfl rfl rfl (Nat.le_of_ble_eq_true rfl) (Nat.le_of_ble_eq_true rfl) rfl))))))))
theorem bMo_readLoaf_64 {E : mEn} {d : Nat} {σ : mSt} {Q : mPost} {a1 : Int32} {s0 : Int32} {s1 : Int32} : WP E d mMo_readLoaf 64 [.ref 166, .int a1] [.int s0, .int s1, .ref 171] σ Q = (if mOut s1 3000 = true then False else (if mOut ((nI 2442) + a1) 3000 = true then False else (if ¬ ((sI (sI σ 171 s1.toNatClampNeg s0) 171 ((nI 2442) + a1).toNatClampNeg (-1)).1 166 12) = 0 then WP E d mMo_readLoaf 110 [.ref 166, .int a1] [] (sI (sI σ 171 s1.toNatClampNeg s0) 171 ((nI 2442) + a1).toNatClampNeg (-1)) Q else WP E d mMo_readLoaf 83 [.ref 166, .int a1] [] (sI (sI σ 171 s1.toNatClampNeg s0) 171 ((nI 2442) + a1).toNatClampNeg (-1)) Q))) := (w_iast dMo_readLoaf_64 sh_171).trans (ite_c ((w_aload_n dMo_readLoaf_65 rfl).trans ((w_getr (r := 171) dMo_readLoaf_66 rz11_35 sh_166 rfl).trans ((w_sipush (v := (nI 2442)) dMo_readLoaf_69 rfl).trans ((w_iload_n dMo_readLoaf_72 rfl).trans ((w_iadd dMo_readLoaf_73).trans ((w_iconst (v := (-1)) dMo_readLoaf_74 rfl).trans ((w_iast dMo_readLoaf_75 sh_171).trans (ite_c ((w_aload_n dMo_readLoaf_76 rfl).trans ((w_geti dMo_readLoaf_77 rz11_219 sh_166 rfl).trans (w_ifne (t := 110) dMo_readLoaf_80 (by decide)))))))))))))
theorem bMo_readLoaf_83 {E : mEn} {d : Nat} {σ : mSt} {Q : mPost} {a1 : Int32} : WP E (d + 1) mMo_readLoaf 83 [.ref 166, .int a1] [] σ Q = WP E d mMo_isInWord 0 [.ref 166] [] σ (fun r σ' => WP E (d + 1) mMo_readLoaf 87 [.ref 166, .int a1] (r.toList ++ []) σ' Q) := (w_aload_n dMo_readLoaf_83 rfl).trans (w_virt (vs := []) (st' := []) (es := [.ref 166]) dMo_readLoaf_84 rz11_182 rfl sh_166 rfl rfl rfl (Nat.le_of_ble_eq_true rfl) (Nat.le_of_ble_eq_true rfl) rfl)
theorem bMo_readLoaf_87 {E : mEn} {d : Nat} {σ : mSt} {Q : mPost} {a1 : Int32} {s0 : Int32} : WP E d mMo_readLoaf 87 [.ref 166, .int a1] [.int s0] σ Q = (if s0 = 0 then WP E d mMo_readLoaf 110 [.ref 166, .int a1] [] σ Q else WP E d mMo_readLoaf 90 [.ref 166, .int a1] [] σ Q) := w_ifeq (t := 110) dMo_readLoaf_87 (by decide)
theorem bMo_readLoaf_90 {E : mEn} {d : Nat} {σ : mSt} {Q : mPost} {a1 : Int32} : WP E (d + 1) mMo_readLoaf 90 [.ref 166, .int a1] [] σ Q = WP E d mMo_next 0 [.ref 166, uu] [] σ (fun r σ' => WP E (d + 1) mMo_readLoaf 94 [.ref 166, .int a1] (r.toList ++ []) σ' Q) := (w_aload_n dMo_readLoaf_90 rfl).trans (w_virt (vs := []) (st' := []) (es := [.ref 166, uu]) dMo_readLoaf_91 rz11_229 rfl sh_166 rfl rfl rfl (Nat.le_of_ble_eq_true rfl) (Nat.le_of_ble_eq_true rfl) rfl)
theorem bMo_readLoaf_94 {E : mEn} {d : Nat} {σ : mSt} {Q : mPost} {a1 : Int32} : WP E (d + 1) mMo_readLoaf 94 [.ref 166, .int a1] [] σ Q = WP E d mMo_readTold 0 [.ref 166, .int (nI 4), .int 1, uu] [] σ (fun r σ' => WP E (d + 1) mMo_readLoaf 109 [.ref 166, .int a1] (r.toList ++ [.int ((nI 2442) + a1), .ref 171]) σ' Q) := (w_aload_n dMo_readLoaf_94 rfl).trans ((w_getr (r := 171) dMo_readLoaf_95 rz11_35 sh_166 rfl).trans ((w_sipush (v := (nI 2442)) dMo_readLoaf_98 rfl).trans ((w_iload_n dMo_readLoaf_101 rfl).trans ((w_iadd dMo_readLoaf_102).trans ((w_aload_n dMo_readLoaf_103 rfl).trans ((w_iconst (v := (nI 4)) dMo_readLoaf_104 rfl).trans ((w_iconst (v := 1) dMo_readLoaf_105 rfl).trans (w_virt (vs := [.int (nI 4), .int 1]) (st' := [.int ((nI 2442) + a1), .ref 171]) (es := [.ref 166, .int (nI 4), .int 1, uu]) dMo_readLoaf_106 rz11_274 rfl sh_166 rfl rfl rfl (Nat.le_of_ble_eq_true rfl) (Nat.le_of_ble_eq_true rfl) rfl))))))))
theorem bMo_readLoaf_109 {E : mEn} {d : Nat} {σ : mSt} {Q : mPost} {a1 : Int32} {s0 : Int32} {s1 : Int32} : WP E d mMo_readLoaf 109 [.ref 166, .int a1] [.int s0, .int s1, .ref 171] σ Q = (if mOut s1 3000 = true then False else WP E d mMo_readLoaf 110 [.ref 166, .int a1] [] (sI σ 171 s1.toNatClampNeg s0) Q) := (w_iast dMo_readLoaf_109 sh_171).trans (ite_c (rfl))
theorem bMo_readLoaf_110 {E : mEn} {d : Nat} {σ : mSt} {Q : mPost} {a1 : Int32} : WP E (d + 1) mMo_readLoaf 110 [.ref 166, .int a1] [] σ Q = WP E d mMo_isOn 0 [.ref 166] [] σ (fun r σ' => WP E (d + 1) mMo_readLoaf 115 [.ref 166, .int a1] (r.toList ++ [.ref 166]) σ' Q) := (w_aload_n dMo_readLoaf_110 rfl).trans ((w_aload_n dMo_readLoaf_111 rfl).trans (w_virt (vs := []) (st' := [.ref 166]) (es := [.ref 166]) dMo_readLoaf_112 rz11_185 rfl sh_166 rfl rfl rfl (Nat.le_of_ble_eq_true rfl) (Nat.le_of_ble_eq_true rfl) rfl))
theorem bMo_readLoaf_115 {E : mEn} {d : Nat} {σ : mSt} {Q : mPost} {a1 : Int32} {s0 : Int32} : WP E (d + 1) mMo_readLoaf 115 [.ref 166, .int a1] [.int s0, .ref 166] σ Q = WP E d mMo_must 0 [.ref 166, .int s0] [] σ (fun r σ' => WP E (d + 1) mMo_readLoaf 118 [.ref 166, .int a1] (r.toList ++ []) σ' Q) := w_virt (vs := [.int s0]) (st' := []) (es := [.ref 166, .int s0]) dMo_readLoaf_115 rz11_264 rfl sh_166 rfl rfl rfl (Nat.le_of_ble_eq_true rfl) (Nat.le_of_ble_eq_true rfl) rfl
theorem bMo_readLoaf_118 {E : mEn} {d : Nat} {σ : mSt} {Q : mPost} {a1 : Int32} : WP E (d + 1) mMo_readLoaf 118 [.ref 166, .int a1] [] σ Q = WP E d mMo_count 0 [.ref 166, .int 0, .int (nI 99), uu] [] σ (fun r σ' => WP E (d + 1) mMo_readLoaf 134 [.ref 166, .int a1] (r.toList ++ [.int ((nI 2450) + a1), .ref 171]) σ' Q) := (w_aload_n dMo_readLoaf_118 rfl).trans ((w_getr (r := 171) dMo_readLoaf_119 rz11_35 sh_166 rfl).trans ((w_sipush (v := (nI 2450)) dMo_readLoaf_122 rfl).trans ((w_iload_n dMo_readLoaf_125 rfl).trans ((w_iadd dMo_readLoaf_126).trans ((w_aload_n dMo_readLoaf_127 rfl).trans ((w_iconst (v := 0) dMo_readLoaf_128 rfl).trans ((w_bipush (v := (nI 99)) dMo_readLoaf_129 rfl).trans (w_virt (vs := [.int 0, .int (nI 99)]) (st' := [.int ((nI 2450) + a1), .ref 171]) (es := [.ref 166, .int 0, .int (nI 99), uu]) dMo_readLoaf_131 rz11_271 rfl sh_166 rfl rfl rfl (Nat.le_of_ble_eq_true rfl) (Nat.le_of_ble_eq_true rfl) rfl))))))))
theorem bMo_readLoaf_134 {E : mEn} {d : Nat} {σ : mSt} {Q : mPost} {a1 : Int32} {s0 : Int32} {s1 : Int32} : WP E (d + 1) mMo_readLoaf 134 [.ref 166, .int a1] [.int s0, .int s1, .ref 171] σ Q = (if mOut s1 3000 = true then False else WP E d mMo_isSlices 0 [.ref 166] [] (sI σ 171 s1.toNatClampNeg s0) (fun r σ' => WP E (d + 1) mMo_readLoaf 140 [.ref 166, .int a1] (r.toList ++ [.ref 166]) σ' Q)) := (w_iast dMo_readLoaf_134 sh_171).trans (ite_c ((w_aload_n dMo_readLoaf_135 rfl).trans ((w_aload_n dMo_readLoaf_136 rfl).trans (w_virt (vs := []) (st' := [.ref 166]) (es := [.ref 166]) dMo_readLoaf_137 rz11_188 rfl sh_166 rfl rfl rfl (Nat.le_of_ble_eq_true rfl) (Nat.le_of_ble_eq_true rfl) rfl))))
theorem bMo_readLoaf_140 {E : mEn} {d : Nat} {σ : mSt} {Q : mPost} {a1 : Int32} {s0 : Int32} : WP E (d + 1) mMo_readLoaf 140 [.ref 166, .int a1] [.int s0, .ref 166] σ Q = WP E d mMo_must 0 [.ref 166, .int s0] [] σ (fun r σ' => WP E (d + 1) mMo_readLoaf 143 [.ref 166, .int a1] (r.toList ++ []) σ' Q) := w_virt (vs := [.int s0]) (st' := []) (es := [.ref 166, .int s0]) dMo_readLoaf_140 rz11_264 rfl sh_166 rfl rfl rfl (Nat.le_of_ble_eq_true rfl) (Nat.le_of_ble_eq_true rfl) rfl
theorem bMo_readLoaf_143 {E : mEn} {d : Nat} {σ : mSt} {Q : mPost} {a1 : Int32} : WP E (d + 1) mMo_readLoaf 143 [.ref 166, .int a1] [] σ Q = WP E d mMo_count 0 [.ref 166, .int 1, .int (nI 99), uu] [] σ (fun r σ' => WP E (d + 1) mMo_readLoaf 159 [.ref 166, .int a1] (r.toList ++ [.int ((nI 2458) + a1), .ref 171]) σ' Q) := (w_aload_n dMo_readLoaf_143 rfl).trans ((w_getr (r := 171) dMo_readLoaf_144 rz11_35 sh_166 rfl).trans ((w_sipush (v := (nI 2458)) dMo_readLoaf_147 rfl).trans ((w_iload_n dMo_readLoaf_150 rfl).trans ((w_iadd dMo_readLoaf_151).trans ((w_aload_n dMo_readLoaf_152 rfl).trans ((w_iconst (v := 1) dMo_readLoaf_153 rfl).trans ((w_bipush (v := (nI 99)) dMo_readLoaf_154 rfl).trans (w_virt (vs := [.int 1, .int (nI 99)]) (st' := [.int ((nI 2458) + a1), .ref 171]) (es := [.ref 166, .int 1, .int (nI 99), uu]) dMo_readLoaf_156 rz11_271 rfl sh_166 rfl rfl rfl (Nat.le_of_ble_eq_true rfl) (Nat.le_of_ble_eq_true rfl) rfl))))))))
theorem bMo_readLoaf_159 {E : mEn} {d : Nat} {σ : mSt} {Q : mPost} {a1 : Int32} {s0 : Int32} {s1 : Int32} : WP E (d + 1) mMo_readLoaf 159 [.ref 166, .int a1] [.int s0, .int s1, .ref 171] σ Q = (if mOut s1 3000 = true then False else WP E d mMo_isFlour 0 [.ref 166] [] (sI σ 171 s1.toNatClampNeg s0) (fun r σ' => WP E (d + 1) mMo_readLoaf 165 [.ref 166, .int a1] (r.toList ++ [.ref 166]) σ' Q)) := (w_iast dMo_readLoaf_159 sh_171).trans (ite_c ((w_aload_n dMo_readLoaf_160 rfl).trans ((w_aload_n dMo_readLoaf_161 rfl).trans (w_virt (vs := []) (st' := [.ref 166]) (es := [.ref 166]) dMo_readLoaf_162 rz11_191 rfl sh_166 rfl rfl rfl (Nat.le_of_ble_eq_true rfl) (Nat.le_of_ble_eq_true rfl) rfl))))
theorem bMo_readLoaf_165 {E : mEn} {d : Nat} {σ : mSt} {Q : mPost} {a1 : Int32} {s0 : Int32} : WP E (d + 1) mMo_readLoaf 165 [.ref 166, .int a1] [.int s0, .ref 166] σ Q = WP E d mMo_must 0 [.ref 166, .int s0] [] σ (fun r σ' => WP E (d + 1) mMo_readLoaf 168 [.ref 166, .int a1] (r.toList ++ []) σ' Q) := w_virt (vs := [.int s0]) (st' := []) (es := [.ref 166, .int s0]) dMo_readLoaf_165 rz11_264 rfl sh_166 rfl rfl rfl (Nat.le_of_ble_eq_true rfl) (Nat.le_of_ble_eq_true rfl) rfl
theorem bMo_readLoaf_168 {E : mEn} {d : Nat} {σ : mSt} {Q : mPost} {a1 : Int32} : WP E (d + 1) mMo_readLoaf 168 [.ref 166, .int a1] [] σ Q = WP E d mMo_count 0 [.ref 166, .int 0, .int (nI 999), uu] [] σ (fun r σ' => WP E (d + 1) mMo_readLoaf 185 [.ref 166, .int a1] (r.toList ++ [.int ((nI 2466) + a1), .ref 171]) σ' Q) := (w_aload_n dMo_readLoaf_168 rfl).trans ((w_getr (r := 171) dMo_readLoaf_169 rz11_35 sh_166 rfl).trans ((w_sipush (v := (nI 2466)) dMo_readLoaf_172 rfl).trans ((w_iload_n dMo_readLoaf_175 rfl).trans ((w_iadd dMo_readLoaf_176).trans ((w_aload_n dMo_readLoaf_177 rfl).trans ((w_iconst (v := 0) dMo_readLoaf_178 rfl).trans ((w_sipush (v := (nI 999)) dMo_readLoaf_179 rfl).trans (w_virt (vs := [.int 0, .int (nI 999)]) (st' := [.int ((nI 2466) + a1), .ref 171]) (es := [.ref 166, .int 0, .int (nI 999), uu]) dMo_readLoaf_182 rz11_271 rfl sh_166 rfl rfl rfl (Nat.le_of_ble_eq_true rfl) (Nat.le_of_ble_eq_true rfl) rfl))))))))
theorem bMo_readLoaf_185 {E : mEn} {d : Nat} {σ : mSt} {Q : mPost} {a1 : Int32} {s0 : Int32} {s1 : Int32} : WP E d mMo_readLoaf 185 [.ref 166, .int a1] [.int s0, .int s1, .ref 171] σ Q = (if mOut s1 3000 = true then False else (if mOut ((nI 2474) + a1) 3000 = true then False else (if ¬ ((sI (sI σ 171 s1.toNatClampNeg s0) 171 ((nI 2474) + a1).toNatClampNeg (-1)).1 166 12) = 0 then WP E d mMo_readLoaf 216 [.ref 166, .int a1] [] (sI (sI σ 171 s1.toNatClampNeg s0) 171 ((nI 2474) + a1).toNatClampNeg (-1)) Q else WP E d mMo_readLoaf 204 [.ref 166, .int a1] [] (sI (sI σ 171 s1.toNatClampNeg s0) 171 ((nI 2474) + a1).toNatClampNeg (-1)) Q))) := (w_iast dMo_readLoaf_185 sh_171).trans (ite_c ((w_aload_n dMo_readLoaf_186 rfl).trans ((w_getr (r := 171) dMo_readLoaf_187 rz11_35 sh_166 rfl).trans ((w_sipush (v := (nI 2474)) dMo_readLoaf_190 rfl).trans ((w_iload_n dMo_readLoaf_193 rfl).trans ((w_iadd dMo_readLoaf_194).trans ((w_iconst (v := (-1)) dMo_readLoaf_195 rfl).trans ((w_iast dMo_readLoaf_196 sh_171).trans (ite_c ((w_aload_n dMo_readLoaf_197 rfl).trans ((w_geti dMo_readLoaf_198 rz11_219 sh_166 rfl).trans (w_ifne (t := 216) dMo_readLoaf_201 (by decide)))))))))))))
theorem bMo_readLoaf_204 {E : mEn} {d : Nat} {σ : mSt} {Q : mPost} {a1 : Int32} : WP E d mMo_readLoaf 204 [.ref 166, .int a1] [] σ Q = (if mOut (nI 2402) 3000 = true then False else (if mOut (nI 2402) 3000 = true then False else WP E d mMo_readLoaf 216 [.ref 166, .int a1] [] (sI σ 171 2402 ((σ.1 171 2402) + 1)) Q)) := (w_aload_n dMo_readLoaf_204 rfl).trans ((w_getr (r := 171) dMo_readLoaf_205 rz11_35 sh_166 rfl).trans ((w_sipush (v := (nI 2402)) dMo_readLoaf_208 rfl).trans ((w_dup2 dMo_readLoaf_211 rfl rfl).trans ((w_iald dMo_readLoaf_212 sh_171 (by decide)).trans (ite_c ((w_iconst (v := 1) dMo_readLoaf_213 rfl).trans ((w_iadd dMo_readLoaf_214).trans ((w_iast dMo_readLoaf_215 sh_171).trans (ite_c (rfl))))))))))
theorem bMo_readLoaf_216 {E : mEn} {d : Nat} {σ : mSt} {Q : mPost} {a1 : Int32} : WP E d mMo_readLoaf 216 [.ref 166, .int a1] [] σ Q = Q none σ := w_vret dMo_readLoaf_216 rfl
theorem dMo_must_0 : decode (mC mMo_must) 0 = .ok (.aload_n 0, 1) := by decide +kernel
theorem dMo_must_1 : decode (mC mMo_must) 1 = .ok (.getfield 219, 3) := by decide +kernel
theorem dMo_must_4 : decode (mC mMo_must) 4 = .ok (.ifCond .le (4), 3) := by decide +kernel
theorem dMo_must_7 : decode (mC mMo_must) 7 = .ok (.return_, 1) := by decide +kernel
theorem dMo_must_8 : decode (mC mMo_must) 8 = .ok (.iload_n 1, 1) := by decide +kernel
theorem dMo_must_9 : decode (mC mMo_must) 9 = .ok (.ifCond .eq (10), 3) := by decide +kernel
theorem dMo_must_12 : decode (mC mMo_must) 12 = .ok (.aload_n 0, 1) := by decide +kernel
theorem dMo_must_13 : decode (mC mMo_must) 13 = .ok (.invokevirtual 229, 3) := by decide +kernel
theorem dMo_must_16 : decode (mC mMo_must) 16 = .ok (.goto (7), 3) := by decide +kernel
theorem dMo_must_19 : decode (mC mMo_must) 19 = .ok (.aload_n 0, 1) := by decide +kernel
theorem dMo_must_20 : decode (mC mMo_must) 20 = .ok (.invokevirtual 232, 3) := by decide +kernel
theorem dMo_must_23 : decode (mC mMo_must) 23 = .ok (.return_, 1) := by decide +kernel
theorem bMo_must_0 {E : mEn} {d : Nat} {σ : mSt} {Q : mPost} {a1 : Int32} : WP E d mMo_must 0 [.ref 166, .int a1] [] σ Q = (if (σ.1 166 12) ≤ 0 then WP E d mMo_must 8 [.ref 166, .int a1] [] σ Q else WP E d mMo_must 7 [.ref 166, .int a1] [] σ Q) := (w_aload_n dMo_must_0 rfl).trans ((w_geti dMo_must_1 rz11_219 sh_166 rfl).trans (w_ifle (t := 8) dMo_must_4 (by decide)))
theorem bMo_must_7 {E : mEn} {d : Nat} {σ : mSt} {Q : mPost} {a1 : Int32} : WP E d mMo_must 7 [.ref 166, .int a1] [] σ Q = Q none σ := w_vret dMo_must_7 rfl
theorem bMo_must_8 {E : mEn} {d : Nat} {σ : mSt} {Q : mPost} {a1 : Int32} : WP E d mMo_must 8 [.ref 166, .int a1] [] σ Q = (if a1 = 0 then WP E d mMo_must 19 [.ref 166, .int a1] [] σ Q else WP E d mMo_must 12 [.ref 166, .int a1] [] σ Q) := (w_iload_n dMo_must_8 rfl).trans (w_ifeq (t := 19) dMo_must_9 (by decide))
theorem bMo_must_12 {E : mEn} {d : Nat} {σ : mSt} {Q : mPost} {a1 : Int32} : WP E (d + 1) mMo_must 12 [.ref 166, .int a1] [] σ Q = WP E d mMo_next 0 [.ref 166, uu] [] σ (fun r σ' => WP E (d + 1) mMo_must 16 [.ref 166, .int a1] (r.toList ++ []) σ' Q) := (w_aload_n dMo_must_12 rfl).trans (w_virt (vs := []) (st' := []) (es := [.ref 166, uu]) dMo_must_13 rz11_229 rfl sh_166 rfl rfl rfl (Nat.le_of_ble_eq_true rfl) (Nat.le_of_ble_eq_true rfl) rfl)
theorem bMo_must_16 {E : mEn} {d : Nat} {σ : mSt} {Q : mPost} {a1 : Int32} : WP E d mMo_must 16 [.ref 166, .int a1] [] σ Q = WP E d mMo_must 23 [.ref 166, .int a1] [] σ Q := w_goto (t := 23) dMo_must_16 (by decide)
theorem bMo_must_19 {E : mEn} {d : Nat} {σ : mSt} {Q : mPost} {a1 : Int32} : WP E (d + 1) mMo_must 19 [.ref 166, .int a1] [] σ Q = WP E d mMo_wrong 0 [.ref 166] [] σ (fun r σ' => WP E (d + 1) mMo_must 23 [.ref 166, .int a1] (r.toList ++ []) σ' Q) := (w_aload_n dMo_must_19 rfl).trans (w_virt (vs := []) (st' := []) (es := [.ref 166]) dMo_must_20 rz11_232 rfl sh_166 rfl rfl rfl (Nat.le_of_ble_eq_true rfl) (Nat.le_of_ble_eq_true rfl) rfl)
theorem bMo_must_23 {E : mEn} {d : Nat} {σ : mSt} {Q : mPost} {a1 : Int32} : WP E d mMo_must 23 [.ref 166, .int a1] [] σ Q = Q none σ := w_vret dMo_must_23 rfl
theorem dMo_readTold_0 : decode (mC mMo_readTold) 0 = .ok (.aload_n 0, 1) := by decide +kernel
theorem dMo_readTold_1 : decode (mC mMo_readTold) 1 = .ok (.iload_n 1, 1) := by decide +kernel
theorem dMo_readTold_2 : decode (mC mMo_readTold) 2 = .ok (.iload_n 2, 1) := by decide +kernel
theorem dMo_readTold_3 : decode (mC mMo_readTold) 3 = .ok (.invokevirtual 261, 3) := by decide +kernel
theorem dMo_readTold_6 : decode (mC mMo_readTold) 6 = .ok (.istore_n 3, 1) := by decide +kernel
theorem dMo_readTold_7 : decode (mC mMo_readTold) 7 = .ok (.aload_n 0, 1) := by decide +kernel
theorem dMo_readTold_8 : decode (mC mMo_readTold) 8 = .ok (.iconst (1), 1) := by decide +kernel
theorem dMo_readTold_9 : decode (mC mMo_readTold) 9 = .ok (.invokevirtual 264, 3) := by decide +kernel
theorem dMo_readTold_12 : decode (mC mMo_readTold) 12 = .ok (.iload_n 3, 1) := by decide +kernel
theorem dMo_readTold_13 : decode (mC mMo_readTold) 13 = .ok (.ireturn, 1) := by decide +kernel
theorem bMo_readTold_0 {E : mEn} {d : Nat} {σ : mSt} {Q : mPost} {a1 : Int32} {a2 : Int32} {u3 : Value} : WP E (d + 1) mMo_readTold 0 [.ref 166, .int a1, .int a2, u3] [] σ Q = WP E d mMo_told 0 [.ref 166, .int a1, .int a2, uu] [] σ (fun r σ' => WP E (d + 1) mMo_readTold 6 [.ref 166, .int a1, .int a2, u3] (r.toList ++ []) σ' Q) := (w_aload_n dMo_readTold_0 rfl).trans ((w_iload_n dMo_readTold_1 rfl).trans ((w_iload_n dMo_readTold_2 rfl).trans (w_virt (vs := [.int a1, .int a2]) (st' := []) (es := [.ref 166, .int a1, .int a2, uu]) dMo_readTold_3 rz11_261 rfl sh_166 rfl rfl rfl (Nat.le_of_ble_eq_true rfl) (Nat.le_of_ble_eq_true rfl) rfl)))
theorem bMo_readTold_6 {E : mEn} {d : Nat} {σ : mSt} {Q : mPost} {a1 : Int32} {a2 : Int32} {u3 : Value} {s0 : Int32} : WP E (d + 1) mMo_readTold 6 [.ref 166, .int a1, .int a2, u3] [.int s0] σ Q = WP E d mMo_must 0 [.ref 166, .int 1] [] σ (fun r σ' => WP E (d + 1) mMo_readTold 12 [.ref 166, .int a1, .int a2, .int s0] (r.toList ++ []) σ' Q) := (w_istore_n (ls' := [.ref 166, .int a1, .int a2, .int s0]) dMo_readTold_6 (Nat.le_of_ble_eq_true rfl) rfl).trans ((w_aload_n dMo_readTold_7 rfl).trans ((w_iconst (v := 1) dMo_readTold_8 rfl).trans (w_virt (vs := [.int 1]) (st' := []) (es := [.ref 166, .int 1]) dMo_readTold_9 rz11_264 rfl sh_166 rfl rfl rfl (Nat.le_of_ble_eq_true rfl) (Nat.le_of_ble_eq_true rfl) rfl)))
theorem bMo_readTold_12 {E : mEn} {d : Nat} {σ : mSt} {Q : mPost} {a1 : Int32} {a2 : Int32} {a3 : Int32} : WP E d mMo_readTold 12 [.ref 166, .int a1, .int a2, .int a3] [] σ Q = Q (some (.int a3)) σ := (w_iload_n dMo_readTold_12 rfl).trans (w_iret dMo_readTold_13 rfl)
theorem dMo_told_0 : decode (mC mMo_told) 0 = .ok (.aload_n 0, 1) := by decide +kernel
theorem dMo_told_1 : decode (mC mMo_told) 1 = .ok (.getfield 219, 3) := by decide +kernel
theorem dMo_told_4 : decode (mC mMo_told) 4 = .ok (.ifCond .ne (14), 3) := by decide +kernel
theorem dMo_told_7 : decode (mC mMo_told) 7 = .ok (.aload_n 0, 1) := by decide +kernel
theorem dMo_told_8 : decode (mC mMo_told) 8 = .ok (.invokevirtual 246, 3) := by decide +kernel
theorem dMo_told_11 : decode (mC mMo_told) 11 = .ok (.ifCond .ne (7), 3) := by decide +kernel
theorem dMo_told_14 : decode (mC mMo_told) 14 = .ok (.aload_n 0, 1) := by decide +kernel
theorem dMo_told_15 : decode (mC mMo_told) 15 = .ok (.invokevirtual 232, 3) := by decide +kernel
theorem dMo_told_18 : decode (mC mMo_told) 18 = .ok (.aload_n 0, 1) := by decide +kernel
theorem dMo_told_19 : decode (mC mMo_told) 19 = .ok (.getfield 219, 3) := by decide +kernel
theorem dMo_told_22 : decode (mC mMo_told) 22 = .ok (.ifCond .le (5), 3) := by decide +kernel
theorem dMo_told_25 : decode (mC mMo_told) 25 = .ok (.iconst (0), 1) := by decide +kernel
theorem dMo_told_26 : decode (mC mMo_told) 26 = .ok (.ireturn, 1) := by decide +kernel
theorem dMo_told_27 : decode (mC mMo_told) 27 = .ok (.iload_n 2, 1) := by decide +kernel
theorem dMo_told_28 : decode (mC mMo_told) 28 = .ok (.ifCond .ne (11), 3) := by decide +kernel
theorem dMo_told_31 : decode (mC mMo_told) 31 = .ok (.aload_n 0, 1) := by decide +kernel
theorem dMo_told_32 : decode (mC mMo_told) 32 = .ok (.iload_n 1, 1) := by decide +kernel
theorem dMo_told_33 : decode (mC mMo_told) 33 = .ok (.invokevirtual 249, 3) := by decide +kernel
theorem dMo_told_36 : decode (mC mMo_told) 36 = .ok (.goto (21), 3) := by decide +kernel
theorem dMo_told_39 : decode (mC mMo_told) 39 = .ok (.iload_n 2, 1) := by decide +kernel
theorem dMo_told_40 : decode (mC mMo_told) 40 = .ok (.iconst (1), 1) := by decide +kernel
theorem dMo_told_41 : decode (mC mMo_told) 41 = .ok (.if_icmp .ne (11), 3) := by decide +kernel
theorem dMo_told_44 : decode (mC mMo_told) 44 = .ok (.aload_n 0, 1) := by decide +kernel
theorem dMo_told_45 : decode (mC mMo_told) 45 = .ok (.iload_n 1, 1) := by decide +kernel
theorem dMo_told_46 : decode (mC mMo_told) 46 = .ok (.invokevirtual 252, 3) := by decide +kernel
theorem dMo_told_49 : decode (mC mMo_told) 49 = .ok (.goto (8), 3) := by decide +kernel
theorem dMo_told_52 : decode (mC mMo_told) 52 = .ok (.aload_n 0, 1) := by decide +kernel
theorem dMo_told_53 : decode (mC mMo_told) 53 = .ok (.iload_n 1, 1) := by decide +kernel
theorem dMo_told_54 : decode (mC mMo_told) 54 = .ok (.invokevirtual 255, 3) := by decide +kernel
theorem dMo_told_57 : decode (mC mMo_told) 57 = .ok (.istore_n 3, 1) := by decide +kernel
theorem dMo_told_58 : decode (mC mMo_told) 58 = .ok (.iload_n 3, 1) := by decide +kernel
theorem dMo_told_59 : decode (mC mMo_told) 59 = .ok (.ifCond .ge (12), 3) := by decide +kernel
theorem dMo_told_62 : decode (mC mMo_told) 62 = .ok (.aload_n 0, 1) := by decide +kernel
theorem dMo_told_63 : decode (mC mMo_told) 63 = .ok (.iconst (3), 1) := by decide +kernel
theorem dMo_told_64 : decode (mC mMo_told) 64 = .ok (.aload_n 0, 1) := by decide +kernel
theorem dMo_told_65 : decode (mC mMo_told) 65 = .ok (.getfield 119, 3) := by decide +kernel
theorem dMo_told_68 : decode (mC mMo_told) 68 = .ok (.invokevirtual 225, 3) := by decide +kernel
theorem dMo_told_71 : decode (mC mMo_told) 71 = .ok (.iconst (0), 1) := by decide +kernel
theorem dMo_told_72 : decode (mC mMo_told) 72 = .ok (.iload_n 3, 1) := by decide +kernel
theorem dMo_told_73 : decode (mC mMo_told) 73 = .ok (.invokestatic 258, 3) := by decide +kernel
theorem dMo_told_76 : decode (mC mMo_told) 76 = .ok (.ireturn, 1) := by decide +kernel
theorem bMo_told_0 {E : mEn} {d : Nat} {σ : mSt} {Q : mPost} {a1 : Int32} {a2 : Int32} {u3 : Value} : WP E d mMo_told 0 [.ref 166, .int a1, .int a2, u3] [] σ Q = (if ¬ (σ.1 166 12) = 0 then WP E d mMo_told 18 [.ref 166, .int a1, .int a2, u3] [] σ Q else WP E d mMo_told 7 [.ref 166, .int a1, .int a2, u3] [] σ Q) := (w_aload_n dMo_told_0 rfl).trans ((w_geti dMo_told_1 rz11_219 sh_166 rfl).trans (w_ifne (t := 18) dMo_told_4 (by decide)))
theorem bMo_told_7 {E : mEn} {d : Nat} {σ : mSt} {Q : mPost} {a1 : Int32} {a2 : Int32} {u3 : Value} : WP E (d + 1) mMo_told 7 [.ref 166, .int a1, .int a2, u3] [] σ Q = WP E d mMo_isName 0 [.ref 166] [] σ (fun r σ' => WP E (d + 1) mMo_told 11 [.ref 166, .int a1, .int a2, u3] (r.toList ++ []) σ' Q) := (w_aload_n dMo_told_7 rfl).trans (w_virt (vs := []) (st' := []) (es := [.ref 166]) dMo_told_8 rz11_246 rfl sh_166 rfl rfl rfl (Nat.le_of_ble_eq_true rfl) (Nat.le_of_ble_eq_true rfl) rfl)
theorem bMo_told_11 {E : mEn} {d : Nat} {σ : mSt} {Q : mPost} {a1 : Int32} {a2 : Int32} {u3 : Value} {s0 : Int32} : WP E d mMo_told 11 [.ref 166, .int a1, .int a2, u3] [.int s0] σ Q = (if ¬ s0 = 0 then WP E d mMo_told 18 [.ref 166, .int a1, .int a2, u3] [] σ Q else WP E d mMo_told 14 [.ref 166, .int a1, .int a2, u3] [] σ Q) := w_ifne (t := 18) dMo_told_11 (by decide)
theorem bMo_told_14 {E : mEn} {d : Nat} {σ : mSt} {Q : mPost} {a1 : Int32} {a2 : Int32} {u3 : Value} : WP E (d + 1) mMo_told 14 [.ref 166, .int a1, .int a2, u3] [] σ Q = WP E d mMo_wrong 0 [.ref 166] [] σ (fun r σ' => WP E (d + 1) mMo_told 18 [.ref 166, .int a1, .int a2, u3] (r.toList ++ []) σ' Q) := (w_aload_n dMo_told_14 rfl).trans (w_virt (vs := []) (st' := []) (es := [.ref 166]) dMo_told_15 rz11_232 rfl sh_166 rfl rfl rfl (Nat.le_of_ble_eq_true rfl) (Nat.le_of_ble_eq_true rfl) rfl)
theorem bMo_told_18 {E : mEn} {d : Nat} {σ : mSt} {Q : mPost} {a1 : Int32} {a2 : Int32} {u3 : Value} : WP E d mMo_told 18 [.ref 166, .int a1, .int a2, u3] [] σ Q = (if (σ.1 166 12) ≤ 0 then WP E d mMo_told 27 [.ref 166, .int a1, .int a2, u3] [] σ Q else WP E d mMo_told 25 [.ref 166, .int a1, .int a2, u3] [] σ Q) := (w_aload_n dMo_told_18 rfl).trans ((w_geti dMo_told_19 rz11_219 sh_166 rfl).trans (w_ifle (t := 27) dMo_told_22 (by decide)))
theorem bMo_told_25 {E : mEn} {d : Nat} {σ : mSt} {Q : mPost} {a1 : Int32} {a2 : Int32} {u3 : Value} : WP E d mMo_told 25 [.ref 166, .int a1, .int a2, u3] [] σ Q = Q (some (.int 0)) σ := (w_iconst (v := 0) dMo_told_25 rfl).trans (w_iret dMo_told_26 rfl)
theorem bMo_told_27 {E : mEn} {d : Nat} {σ : mSt} {Q : mPost} {a1 : Int32} {a2 : Int32} {u3 : Value} : WP E d mMo_told 27 [.ref 166, .int a1, .int a2, u3] [] σ Q = (if ¬ a2 = 0 then WP E d mMo_told 39 [.ref 166, .int a1, .int a2, u3] [] σ Q else WP E d mMo_told 31 [.ref 166, .int a1, .int a2, u3] [] σ Q) := (w_iload_n dMo_told_27 rfl).trans (w_ifne (t := 39) dMo_told_28 (by decide))
theorem bMo_told_31 {E : mEn} {d : Nat} {σ : mSt} {Q : mPost} {a1 : Int32} {a2 : Int32} {u3 : Value} : WP E (d + 1) mMo_told 31 [.ref 166, .int a1, .int a2, u3] [] σ Q = WP E d mMo_personNamed 0 [.ref 166, .int a1] [] σ (fun r σ' => WP E (d + 1) mMo_told 36 [.ref 166, .int a1, .int a2, u3] (r.toList ++ []) σ' Q) := (w_aload_n dMo_told_31 rfl).trans ((w_iload_n dMo_told_32 rfl).trans (w_virt (vs := [.int a1]) (st' := []) (es := [.ref 166, .int a1]) dMo_told_33 rz11_249 rfl sh_166 rfl rfl rfl (Nat.le_of_ble_eq_true rfl) (Nat.le_of_ble_eq_true rfl) rfl))
theorem bMo_told_36 {E : mEn} {d : Nat} {σ : mSt} {Q : mPost} {a1 : Int32} {a2 : Int32} {u3 : Value} {s0 : Int32} : WP E d mMo_told 36 [.ref 166, .int a1, .int a2, u3] [.int s0] σ Q = WP E d mMo_told 57 [.ref 166, .int a1, .int a2, u3] [.int s0] σ Q := w_goto (t := 57) dMo_told_36 (by decide)
theorem bMo_told_39 {E : mEn} {d : Nat} {σ : mSt} {Q : mPost} {a1 : Int32} {a2 : Int32} {u3 : Value} : WP E d mMo_told 39 [.ref 166, .int a1, .int a2, u3] [] σ Q = (if ¬ a2 = 1 then WP E d mMo_told 52 [.ref 166, .int a1, .int a2, u3] [] σ Q else WP E d mMo_told 44 [.ref 166, .int a1, .int a2, u3] [] σ Q) := (w_iload_n dMo_told_39 rfl).trans ((w_iconst (v := 1) dMo_told_40 rfl).trans (w_icmpne (t := 52) dMo_told_41 (by decide)))
theorem bMo_told_44 {E : mEn} {d : Nat} {σ : mSt} {Q : mPost} {a1 : Int32} {a2 : Int32} {u3 : Value} : WP E (d + 1) mMo_told 44 [.ref 166, .int a1, .int a2, u3] [] σ Q = WP E d mMo_ovenNamed 0 [.ref 166, .int a1] [] σ (fun r σ' => WP E (d + 1) mMo_told 49 [.ref 166, .int a1, .int a2, u3] (r.toList ++ []) σ' Q) := (w_aload_n dMo_told_44 rfl).trans ((w_iload_n dMo_told_45 rfl).trans (w_virt (vs := [.int a1]) (st' := []) (es := [.ref 166, .int a1]) dMo_told_46 rz11_252 rfl sh_166 rfl rfl rfl (Nat.le_of_ble_eq_true rfl) (Nat.le_of_ble_eq_true rfl) rfl))
theorem bMo_told_49 {E : mEn} {d : Nat} {σ : mSt} {Q : mPost} {a1 : Int32} {a2 : Int32} {u3 : Value} {s0 : Int32} : WP E d mMo_told 49 [.ref 166, .int a1, .int a2, u3] [.int s0] σ Q = WP E d mMo_told 57 [.ref 166, .int a1, .int a2, u3] [.int s0] σ Q := w_goto (t := 57) dMo_told_49 (by decide)
theorem bMo_told_52 {E : mEn} {d : Nat} {σ : mSt} {Q : mPost} {a1 : Int32} {a2 : Int32} {u3 : Value} : WP E (d + 1) mMo_told 52 [.ref 166, .int a1, .int a2, u3] [] σ Q = WP E d mMo_loafNamed 0 [.ref 166, .int a1] [] σ (fun r σ' => WP E (d + 1) mMo_told 57 [.ref 166, .int a1, .int a2, u3] (r.toList ++ []) σ' Q) := (w_aload_n dMo_told_52 rfl).trans ((w_iload_n dMo_told_53 rfl).trans (w_virt (vs := [.int a1]) (st' := []) (es := [.ref 166, .int a1]) dMo_told_54 rz11_255 rfl sh_166 rfl rfl rfl (Nat.le_of_ble_eq_true rfl) (Nat.le_of_ble_eq_true rfl) rfl))
theorem bMo_told_57 {E : mEn} {d : Nat} {σ : mSt} {Q : mPost} {a1 : Int32} {a2 : Int32} {u3 : Value} {s0 : Int32} : WP E d mMo_told 57 [.ref 166, .int a1, .int a2, u3] [.int s0] σ Q = (if 0 ≤ s0 then WP E d mMo_told 71 [.ref 166, .int a1, .int a2, .int s0] [] σ Q else WP E d mMo_told 62 [.ref 166, .int a1, .int a2, .int s0] [] σ Q) := (w_istore_n (ls' := [.ref 166, .int a1, .int a2, .int s0]) dMo_told_57 (Nat.le_of_ble_eq_true rfl) rfl).trans ((w_iload_n dMo_told_58 rfl).trans (w_ifge (t := 71) dMo_told_59 (by decide)))
theorem bMo_told_62 {E : mEn} {d : Nat} {σ : mSt} {Q : mPost} {a1 : Int32} {a2 : Int32} {a3 : Int32} : WP E (d + 1) mMo_told 62 [.ref 166, .int a1, .int a2, .int a3] [] σ Q = WP E d mMo_fail 0 [.ref 166, .int (nI 3), .int (σ.1 166 15)] [] σ (fun r σ' => WP E (d + 1) mMo_told 71 [.ref 166, .int a1, .int a2, .int a3] (r.toList ++ []) σ' Q) := (w_aload_n dMo_told_62 rfl).trans ((w_iconst (v := (nI 3)) dMo_told_63 rfl).trans ((w_aload_n dMo_told_64 rfl).trans ((w_geti dMo_told_65 rz11_119 sh_166 rfl).trans (w_virt (vs := [.int (nI 3), .int (σ.1 166 15)]) (st' := []) (es := [.ref 166, .int (nI 3), .int (σ.1 166 15)]) dMo_told_68 rz11_225 rfl sh_166 rfl rfl rfl (Nat.le_of_ble_eq_true rfl) (Nat.le_of_ble_eq_true rfl) rfl))))
theorem bMo_told_71 {E : mEn} {d : Nat} {σ : mSt} {Q : mPost} {a1 : Int32} {a2 : Int32} {a3 : Int32} : WP E d mMo_told 71 [.ref 166, .int a1, .int a2, .int a3] [] σ Q = Q (some (.int (if 0 < a3 then a3 else 0))) σ := (w_iconst (v := 0) dMo_told_71 rfl).trans ((w_iload_n dMo_told_72 rfl).trans ((w_max dMo_told_73 rz11_258 (Nat.le_of_ble_eq_true rfl)).trans (w_iret dMo_told_76 rfl)))
theorem dMo_readPromise_0 : decode (mC mMo_readPromise) 0 = .ok (.aload_n 0, 1) := by decide +kernel
theorem dMo_readPromise_1 : decode (mC mMo_readPromise) 1 = .ok (.getfield 35, 3) := by decide +kernel
theorem dMo_readPromise_4 : decode (mC mMo_readPromise) 4 = .ok (.sipush (2403), 3) := by decide +kernel
theorem dMo_readPromise_7 : decode (mC mMo_readPromise) 7 = .ok (.iaload, 1) := by decide +kernel
theorem dMo_readPromise_8 : decode (mC mMo_readPromise) 8 = .ok (.istore_n 1, 1) := by decide +kernel
theorem dMo_readPromise_9 : decode (mC mMo_readPromise) 9 = .ok (.iload_n 1, 1) := by decide +kernel
theorem dMo_readPromise_10 : decode (mC mMo_readPromise) 10 = .ok (.bipush (16), 2) := by decide +kernel
theorem dMo_readPromise_12 : decode (mC mMo_readPromise) 12 = .ok (.if_icmp .ne (13), 3) := by decide +kernel
theorem dMo_readPromise_15 : decode (mC mMo_readPromise) 15 = .ok (.aload_n 0, 1) := by decide +kernel
theorem dMo_readPromise_16 : decode (mC mMo_readPromise) 16 = .ok (.bipush (6), 2) := by decide +kernel
theorem dMo_readPromise_18 : decode (mC mMo_readPromise) 18 = .ok (.aload_n 0, 1) := by decide +kernel
theorem dMo_readPromise_19 : decode (mC mMo_readPromise) 19 = .ok (.getfield 119, 3) := by decide +kernel
theorem dMo_readPromise_22 : decode (mC mMo_readPromise) 22 = .ok (.invokevirtual 225, 3) := by decide +kernel
theorem dMo_readPromise_25 : decode (mC mMo_readPromise) 25 = .ok (.aload_n 0, 1) := by decide +kernel
theorem dMo_readPromise_26 : decode (mC mMo_readPromise) 26 = .ok (.getfield 219, 3) := by decide +kernel
theorem dMo_readPromise_29 : decode (mC mMo_readPromise) 29 = .ok (.ifCond .le (4), 3) := by decide +kernel
theorem dMo_readPromise_32 : decode (mC mMo_readPromise) 32 = .ok (.return_, 1) := by decide +kernel
theorem dMo_readPromise_33 : decode (mC mMo_readPromise) 33 = .ok (.aload_n 0, 1) := by decide +kernel
theorem dMo_readPromise_34 : decode (mC mMo_readPromise) 34 = .ok (.invokevirtual 229, 3) := by decide +kernel
theorem dMo_readPromise_37 : decode (mC mMo_readPromise) 37 = .ok (.sipush (2482), 3) := by decide +kernel
theorem dMo_readPromise_40 : decode (mC mMo_readPromise) 40 = .ok (.bipush (6), 2) := by decide +kernel
theorem dMo_readPromise_42 : decode (mC mMo_readPromise) 42 = .ok (.iload_n 1, 1) := by decide +kernel
theorem dMo_readPromise_43 : decode (mC mMo_readPromise) 43 = .ok (.imul, 1) := by decide +kernel
theorem dMo_readPromise_44 : decode (mC mMo_readPromise) 44 = .ok (.iadd, 1) := by decide +kernel
theorem dMo_readPromise_45 : decode (mC mMo_readPromise) 45 = .ok (.istore_n 2, 1) := by decide +kernel
theorem dMo_readPromise_46 : decode (mC mMo_readPromise) 46 = .ok (.aload_n 0, 1) := by decide +kernel
theorem dMo_readPromise_47 : decode (mC mMo_readPromise) 47 = .ok (.iconst (4), 1) := by decide +kernel
theorem dMo_readPromise_48 : decode (mC mMo_readPromise) 48 = .ok (.iload_n 2, 1) := by decide +kernel
theorem dMo_readPromise_49 : decode (mC mMo_readPromise) 49 = .ok (.invokevirtual 277, 3) := by decide +kernel
theorem dMo_readPromise_52 : decode (mC mMo_readPromise) 52 = .ok (.aload_n 0, 1) := by decide +kernel
theorem dMo_readPromise_53 : decode (mC mMo_readPromise) 53 = .ok (.getfield 219, 3) := by decide +kernel
theorem dMo_readPromise_56 : decode (mC mMo_readPromise) 56 = .ok (.ifCond .le (4), 3) := by decide +kernel
theorem dMo_readPromise_59 : decode (mC mMo_readPromise) 59 = .ok (.return_, 1) := by decide +kernel
theorem dMo_readPromise_60 : decode (mC mMo_readPromise) 60 = .ok (.aload_n 0, 1) := by decide +kernel
theorem dMo_readPromise_61 : decode (mC mMo_readPromise) 61 = .ok (.getfield 35, 3) := by decide +kernel
theorem dMo_readPromise_64 : decode (mC mMo_readPromise) 64 = .ok (.iload_n 2, 1) := by decide +kernel
theorem dMo_readPromise_65 : decode (mC mMo_readPromise) 65 = .ok (.iconst (5), 1) := by decide +kernel
theorem dMo_readPromise_66 : decode (mC mMo_readPromise) 66 = .ok (.iadd, 1) := by decide +kernel
theorem dMo_readPromise_67 : decode (mC mMo_readPromise) 67 = .ok (.iconst (0), 1) := by decide +kernel
theorem dMo_readPromise_68 : decode (mC mMo_readPromise) 68 = .ok (.iastore, 1) := by decide +kernel
theorem dMo_readPromise_69 : decode (mC mMo_readPromise) 69 = .ok (.aload_n 0, 1) := by decide +kernel
theorem dMo_readPromise_70 : decode (mC mMo_readPromise) 70 = .ok (.getfield 35, 3) := by decide +kernel
theorem dMo_readPromise_73 : decode (mC mMo_readPromise) 73 = .ok (.sipush (2403), 3) := by decide +kernel
theorem dMo_readPromise_76 : decode (mC mMo_readPromise) 76 = .ok (.dup2, 1) := by decide +kernel
theorem dMo_readPromise_77 : decode (mC mMo_readPromise) 77 = .ok (.iaload, 1) := by decide +kernel
theorem dMo_readPromise_78 : decode (mC mMo_readPromise) 78 = .ok (.iconst (1), 1) := by decide +kernel
theorem dMo_readPromise_79 : decode (mC mMo_readPromise) 79 = .ok (.iadd, 1) := by decide +kernel
theorem dMo_readPromise_80 : decode (mC mMo_readPromise) 80 = .ok (.iastore, 1) := by decide +kernel
theorem dMo_readPromise_81 : decode (mC mMo_readPromise) 81 = .ok (.aload_n 0, 1) := by decide +kernel
theorem dMo_readPromise_82 : decode (mC mMo_readPromise) 82 = .ok (.getfield 35, 3) := by decide +kernel
theorem dMo_readPromise_85 : decode (mC mMo_readPromise) 85 = .ok (.sipush (2406), 3) := by decide +kernel
theorem dMo_readPromise_88 : decode (mC mMo_readPromise) 88 = .ok (.aload_n 0, 1) := by decide +kernel
theorem dMo_readPromise_89 : decode (mC mMo_readPromise) 89 = .ok (.getfield 35, 3) := by decide +kernel
theorem dMo_readPromise_92 : decode (mC mMo_readPromise) 92 = .ok (.iload_n 2, 1) := by decide +kernel
theorem dMo_readPromise_93 : decode (mC mMo_readPromise) 93 = .ok (.iconst (3), 1) := by decide +kernel
theorem dMo_readPromise_94 : decode (mC mMo_readPromise) 94 = .ok (.iadd, 1) := by decide +kernel
theorem dMo_readPromise_95 : decode (mC mMo_readPromise) 95 = .ok (.iaload, 1) := by decide +kernel
theorem dMo_readPromise_96 : decode (mC mMo_readPromise) 96 = .ok (.iadd, 1) := by decide +kernel
theorem dMo_readPromise_97 : decode (mC mMo_readPromise) 97 = .ok (.dup2, 1) := by decide +kernel
theorem dMo_readPromise_98 : decode (mC mMo_readPromise) 98 = .ok (.iaload, 1) := by decide +kernel
theorem dMo_readPromise_99 : decode (mC mMo_readPromise) 99 = .ok (.aload_n 0, 1) := by decide +kernel
theorem dMo_readPromise_100 : decode (mC mMo_readPromise) 100 = .ok (.getfield 35, 3) := by decide +kernel
theorem dMo_readPromise_103 : decode (mC mMo_readPromise) 103 = .ok (.iload_n 2, 1) := by decide +kernel
theorem dMo_readPromise_104 : decode (mC mMo_readPromise) 104 = .ok (.iconst (4), 1) := by decide +kernel
theorem dMo_readPromise_105 : decode (mC mMo_readPromise) 105 = .ok (.iadd, 1) := by decide +kernel
theorem dMo_readPromise_106 : decode (mC mMo_readPromise) 106 = .ok (.iaload, 1) := by decide +kernel
theorem dMo_readPromise_107 : decode (mC mMo_readPromise) 107 = .ok (.isub, 1) := by decide +kernel
theorem dMo_readPromise_108 : decode (mC mMo_readPromise) 108 = .ok (.iastore, 1) := by decide +kernel
theorem dMo_readPromise_109 : decode (mC mMo_readPromise) 109 = .ok (.aload_n 0, 1) := by decide +kernel
theorem dMo_readPromise_110 : decode (mC mMo_readPromise) 110 = .ok (.getfield 35, 3) := by decide +kernel
theorem dMo_readPromise_113 : decode (mC mMo_readPromise) 113 = .ok (.sipush (2406), 3) := by decide +kernel
theorem dMo_readPromise_116 : decode (mC mMo_readPromise) 116 = .ok (.aload_n 0, 1) := by decide +kernel
theorem dMo_readPromise_117 : decode (mC mMo_readPromise) 117 = .ok (.getfield 35, 3) := by decide +kernel
theorem dMo_readPromise_120 : decode (mC mMo_readPromise) 120 = .ok (.iload_n 2, 1) := by decide +kernel
theorem dMo_readPromise_121 : decode (mC mMo_readPromise) 121 = .ok (.iconst (2), 1) := by decide +kernel
theorem dMo_readPromise_122 : decode (mC mMo_readPromise) 122 = .ok (.iadd, 1) := by decide +kernel
theorem dMo_readPromise_123 : decode (mC mMo_readPromise) 123 = .ok (.iaload, 1) := by decide +kernel
theorem dMo_readPromise_124 : decode (mC mMo_readPromise) 124 = .ok (.iadd, 1) := by decide +kernel
theorem dMo_readPromise_125 : decode (mC mMo_readPromise) 125 = .ok (.dup2, 1) := by decide +kernel
theorem dMo_readPromise_126 : decode (mC mMo_readPromise) 126 = .ok (.iaload, 1) := by decide +kernel
theorem dMo_readPromise_127 : decode (mC mMo_readPromise) 127 = .ok (.aload_n 0, 1) := by decide +kernel
theorem dMo_readPromise_128 : decode (mC mMo_readPromise) 128 = .ok (.getfield 35, 3) := by decide +kernel
theorem dMo_readPromise_131 : decode (mC mMo_readPromise) 131 = .ok (.iload_n 2, 1) := by decide +kernel
theorem dMo_readPromise_132 : decode (mC mMo_readPromise) 132 = .ok (.iconst (4), 1) := by decide +kernel
theorem dMo_readPromise_133 : decode (mC mMo_readPromise) 133 = .ok (.iadd, 1) := by decide +kernel
theorem dMo_readPromise_134 : decode (mC mMo_readPromise) 134 = .ok (.iaload, 1) := by decide +kernel
theorem dMo_readPromise_135 : decode (mC mMo_readPromise) 135 = .ok (.iadd, 1) := by decide +kernel
theorem dMo_readPromise_136 : decode (mC mMo_readPromise) 136 = .ok (.iastore, 1) := by decide +kernel
theorem dMo_readPromise_137 : decode (mC mMo_readPromise) 137 = .ok (.return_, 1) := by decide +kernel
theorem bMo_readPromise_0 {E : mEn} {d : Nat} {σ : mSt} {Q : mPost} {u1 : Value} {u2 : Value} : WP E d mMo_readPromise 0 [.ref 166, u1, u2] [] σ Q = (if mOut (nI 2403) 3000 = true then False else (if ¬ (σ.1 171 2403) = (nI 16) then WP E d mMo_readPromise 25 [.ref 166, .int (σ.1 171 2403), u2] [] σ Q else WP E d mMo_readPromise 15 [.ref 166, .int (σ.1 171 2403), u2] [] σ Q)) := (w_aload_n dMo_readPromise_0 rfl).trans ((w_getr (r := 171) dMo_readPromise_1 rz11_35 sh_166 rfl).trans ((w_sipush (v := (nI 2403)) dMo_readPromise_4 rfl).trans ((w_iald dMo_readPromise_7 sh_171 (by decide)).trans (ite_c ((w_istore_n (ls' := [.ref 166, .int (σ.1 171 2403), u2]) dMo_readPromise_8 (Nat.le_of_ble_eq_true rfl) rfl).trans ((w_iload_n dMo_readPromise_9 rfl).trans ((w_bipush (v := (nI 16)) dMo_readPromise_10 rfl).trans (w_icmpne (t := 25) dMo_readPromise_12 (by decide)))))))))
theorem bMo_readPromise_15 {E : mEn} {d : Nat} {σ : mSt} {Q : mPost} {a1 : Int32} {u2 : Value} : WP E (d + 1) mMo_readPromise 15 [.ref 166, .int a1, u2] [] σ Q = WP E d mMo_fail 0 [.ref 166, .int (nI 6), .int (σ.1 166 15)] [] σ (fun r σ' => WP E (d + 1) mMo_readPromise 25 [.ref 166, .int a1, u2] (r.toList ++ []) σ' Q) := (w_aload_n dMo_readPromise_15 rfl).trans ((w_bipush (v := (nI 6)) dMo_readPromise_16 rfl).trans ((w_aload_n dMo_readPromise_18 rfl).trans ((w_geti dMo_readPromise_19 rz11_119 sh_166 rfl).trans (w_virt (vs := [.int (nI 6), .int (σ.1 166 15)]) (st' := []) (es := [.ref 166, .int (nI 6), .int (σ.1 166 15)]) dMo_readPromise_22 rz11_225 rfl sh_166 rfl rfl rfl (Nat.le_of_ble_eq_true rfl) (Nat.le_of_ble_eq_true rfl) rfl))))
theorem bMo_readPromise_25 {E : mEn} {d : Nat} {σ : mSt} {Q : mPost} {a1 : Int32} {u2 : Value} : WP E d mMo_readPromise 25 [.ref 166, .int a1, u2] [] σ Q = (if (σ.1 166 12) ≤ 0 then WP E d mMo_readPromise 33 [.ref 166, .int a1, u2] [] σ Q else WP E d mMo_readPromise 32 [.ref 166, .int a1, u2] [] σ Q) := (w_aload_n dMo_readPromise_25 rfl).trans ((w_geti dMo_readPromise_26 rz11_219 sh_166 rfl).trans (w_ifle (t := 33) dMo_readPromise_29 (by decide)))
theorem bMo_readPromise_32 {E : mEn} {d : Nat} {σ : mSt} {Q : mPost} {a1 : Int32} {u2 : Value} : WP E d mMo_readPromise 32 [.ref 166, .int a1, u2] [] σ Q = Q none σ := w_vret dMo_readPromise_32 rfl
theorem bMo_readPromise_33 {E : mEn} {d : Nat} {σ : mSt} {Q : mPost} {a1 : Int32} {u2 : Value} : WP E (d + 1) mMo_readPromise 33 [.ref 166, .int a1, u2] [] σ Q = WP E d mMo_next 0 [.ref 166, uu] [] σ (fun r σ' => WP E (d + 1) mMo_readPromise 37 [.ref 166, .int a1, u2] (r.toList ++ []) σ' Q) := (w_aload_n dMo_readPromise_33 rfl).trans (w_virt (vs := []) (st' := []) (es := [.ref 166, uu]) dMo_readPromise_34 rz11_229 rfl sh_166 rfl rfl rfl (Nat.le_of_ble_eq_true rfl) (Nat.le_of_ble_eq_true rfl) rfl)
theorem bMo_readPromise_37 {E : mEn} {d : Nat} {σ : mSt} {Q : mPost} {a1 : Int32} {u2 : Value} : WP E (d + 1) mMo_readPromise 37 [.ref 166, .int a1, u2] [] σ Q = WP E d mMo_readPart 0 [.ref 166, .int (nI 4), .int ((nI 2482) + ((nI 6) * a1))] [] σ (fun r σ' => WP E (d + 1) mMo_readPromise 52 [.ref 166, .int a1, .int ((nI 2482) + ((nI 6) * a1))] (r.toList ++ []) σ' Q) := (w_sipush (v := (nI 2482)) dMo_readPromise_37 rfl).trans ((w_bipush (v := (nI 6)) dMo_readPromise_40 rfl).trans ((w_iload_n dMo_readPromise_42 rfl).trans ((w_imul dMo_readPromise_43).trans ((w_iadd dMo_readPromise_44).trans ((w_istore_n (ls' := [.ref 166, .int a1, .int ((nI 2482) + ((nI 6) * a1))]) dMo_readPromise_45 (Nat.le_of_ble_eq_true rfl) rfl).trans ((w_aload_n dMo_readPromise_46 rfl).trans ((w_iconst (v := (nI 4)) dMo_readPromise_47 rfl).trans ((w_iload_n dMo_readPromise_48 rfl).trans (w_virt (vs := [.int (nI 4), .int ((nI 2482) + ((nI 6) * a1))]) (st' := []) (es := [.ref 166, .int (nI 4), .int ((nI 2482) + ((nI 6) * a1))]) dMo_readPromise_49 rz11_277 rfl sh_166 rfl rfl rfl (Nat.le_of_ble_eq_true rfl) (Nat.le_of_ble_eq_true rfl) rfl)))))))))
theorem bMo_readPromise_52 {E : mEn} {d : Nat} {σ : mSt} {Q : mPost} {a1 : Int32} {a2 : Int32} : WP E d mMo_readPromise 52 [.ref 166, .int a1, .int a2] [] σ Q = (if (σ.1 166 12) ≤ 0 then WP E d mMo_readPromise 60 [.ref 166, .int a1, .int a2] [] σ Q else WP E d mMo_readPromise 59 [.ref 166, .int a1, .int a2] [] σ Q) := (w_aload_n dMo_readPromise_52 rfl).trans ((w_geti dMo_readPromise_53 rz11_219 sh_166 rfl).trans (w_ifle (t := 60) dMo_readPromise_56 (by decide)))
theorem bMo_readPromise_59 {E : mEn} {d : Nat} {σ : mSt} {Q : mPost} {a1 : Int32} {a2 : Int32} : WP E d mMo_readPromise 59 [.ref 166, .int a1, .int a2] [] σ Q = Q none σ := w_vret dMo_readPromise_59 rfl
theorem bMo_readPromise_60 {E : mEn} {d : Nat} {σ : mSt} {Q : mPost} {a1 : Int32} {a2 : Int32} : WP E d mMo_readPromise 60 [.ref 166, .int a1, .int a2] [] σ Q = (if mOut (a2 + (nI 5)) 3000 = true then False else (if mOut (nI 2403) 3000 = true then False else (if mOut (nI 2403) 3000 = true then False else (if mOut (a2 + (nI 3)) 3000 = true then False else (if mOut ((nI 2406) + ((sI (sI σ 171 (a2 + (nI 5)).toNatClampNeg 0) 171 2403 (((sI σ 171 (a2 + (nI 5)).toNatClampNeg 0).1 171 2403) + 1)).1 171 (a2 + (nI 3)).toNatClampNeg)) 3000 = true then False else (if mOut (a2 + (nI 4)) 3000 = true then False else (if mOut ((nI 2406) + ((sI (sI σ 171 (a2 + (nI 5)).toNatClampNeg 0) 171 2403 (((sI σ 171 (a2 + (nI 5)).toNatClampNeg 0).1 171 2403) + 1)).1 171 (a2 + (nI 3)).toNatClampNeg)) 3000 = true then False else WP E d mMo_readPromise 109 [.ref 166, .int a1, .int a2] [] (sI (sI (sI σ 171 (a2 + (nI 5)).toNatClampNeg 0) 171 2403 (((sI σ 171 (a2 + (nI 5)).toNatClampNeg 0).1 171 2403) + 1)) 171 ((nI 2406) + ((sI (sI σ 171 (a2 + (nI 5)).toNatClampNeg 0) 171 2403 (((sI σ 171 (a2 + (nI 5)).toNatClampNeg 0).1 171 2403) + 1)).1 171 (a2 + (nI 3)).toNatClampNeg)).toNatClampNeg (((sI (sI σ 171 (a2 + (nI 5)).toNatClampNeg 0) 171 2403 (((sI σ 171 (a2 + (nI 5)).toNatClampNeg 0).1 171 2403) + 1)).1 171 ((nI 2406) + ((sI (sI σ 171 (a2 + (nI 5)).toNatClampNeg 0) 171 2403 (((sI σ 171 (a2 + (nI 5)).toNatClampNeg 0).1 171 2403) + 1)).1 171 (a2 + (nI 3)).toNatClampNeg)).toNatClampNeg) - ((sI (sI σ 171 (a2 + (nI 5)).toNatClampNeg 0) 171 2403 (((sI σ 171 (a2 + (nI 5)).toNatClampNeg 0).1 171 2403) + 1)).1 171 (a2 + (nI 4)).toNatClampNeg))) Q))))))) := (w_aload_n dMo_readPromise_60 rfl).trans ((w_getr (r := 171) dMo_readPromise_61 rz11_35 sh_166 rfl).trans ((w_iload_n dMo_readPromise_64 rfl).trans ((w_iconst (v := (nI 5)) dMo_readPromise_65 rfl).trans ((w_iadd dMo_readPromise_66).trans ((w_iconst (v := 0) dMo_readPromise_67 rfl).trans ((w_iast dMo_readPromise_68 sh_171).trans (ite_c ((w_aload_n dMo_readPromise_69 rfl).trans ((w_getr (r := 171) dMo_readPromise_70 rz11_35 sh_166 rfl).trans ((w_sipush (v := (nI 2403)) dMo_readPromise_73 rfl).trans ((w_dup2 dMo_readPromise_76 rfl rfl).trans ((w_iald dMo_readPromise_77 sh_171 (by decide)).trans (ite_c ((w_iconst (v := 1) dMo_readPromise_78 rfl).trans ((w_iadd dMo_readPromise_79).trans ((w_iast dMo_readPromise_80 sh_171).trans (ite_c ((w_aload_n dMo_readPromise_81 rfl).trans ((w_getr (r := 171) dMo_readPromise_82 rz11_35 sh_166 rfl).trans ((w_sipush (v := (nI 2406)) dMo_readPromise_85 rfl).trans ((w_aload_n dMo_readPromise_88 rfl).trans ((w_getr (r := 171) dMo_readPromise_89 rz11_35 sh_166 rfl).trans ((w_iload_n dMo_readPromise_92 rfl).trans ((w_iconst (v := (nI 3)) dMo_readPromise_93 rfl).trans ((w_iadd dMo_readPromise_94).trans ((w_iald dMo_readPromise_95 sh_171 (by decide)).trans (ite_c ((w_iadd dMo_readPromise_96).trans ((w_dup2 dMo_readPromise_97 rfl rfl).trans ((w_iald dMo_readPromise_98 sh_171 (by decide)).trans (ite_c ((w_aload_n dMo_readPromise_99 rfl).trans ((w_getr (r := 171) dMo_readPromise_100 rz11_35 sh_166 rfl).trans ((w_iload_n dMo_readPromise_103 rfl).trans ((w_iconst (v := (nI 4)) dMo_readPromise_104 rfl).trans ((w_iadd dMo_readPromise_105).trans ((w_iald dMo_readPromise_106 sh_171 (by decide)).trans (ite_c ((w_isub dMo_readPromise_107).trans ((w_iast dMo_readPromise_108 sh_171).trans (ite_c (rfl))))))))))))))))))))))))))))))))))))))))))
theorem bMo_readPromise_109 {E : mEn} {d : Nat} {σ : mSt} {Q : mPost} {a1 : Int32} {a2 : Int32} : WP E d mMo_readPromise 109 [.ref 166, .int a1, .int a2] [] σ Q = (if mOut (a2 + (nI 2)) 3000 = true then False else (if mOut ((nI 2406) + (σ.1 171 (a2 + (nI 2)).toNatClampNeg)) 3000 = true then False else (if mOut (a2 + (nI 4)) 3000 = true then False else (if mOut ((nI 2406) + (σ.1 171 (a2 + (nI 2)).toNatClampNeg)) 3000 = true then False else WP E d mMo_readPromise 137 [.ref 166, .int a1, .int a2] [] (sI σ 171 ((nI 2406) + (σ.1 171 (a2 + (nI 2)).toNatClampNeg)).toNatClampNeg ((σ.1 171 ((nI 2406) + (σ.1 171 (a2 + (nI 2)).toNatClampNeg)).toNatClampNeg) + (σ.1 171 (a2 + (nI 4)).toNatClampNeg))) Q)))) := (w_aload_n dMo_readPromise_109 rfl).trans ((w_getr (r := 171) dMo_readPromise_110 rz11_35 sh_166 rfl).trans ((w_sipush (v := (nI 2406)) dMo_readPromise_113 rfl).trans ((w_aload_n dMo_readPromise_116 rfl).trans ((w_getr (r := 171) dMo_readPromise_117 rz11_35 sh_166 rfl).trans ((w_iload_n dMo_readPromise_120 rfl).trans ((w_iconst (v := (nI 2)) dMo_readPromise_121 rfl).trans ((w_iadd dMo_readPromise_122).trans ((w_iald dMo_readPromise_123 sh_171 (by decide)).trans (ite_c ((w_iadd dMo_readPromise_124).trans ((w_dup2 dMo_readPromise_125 rfl rfl).trans ((w_iald dMo_readPromise_126 sh_171 (by decide)).trans (ite_c ((w_aload_n dMo_readPromise_127 rfl).trans ((w_getr (r := 171) dMo_readPromise_128 rz11_35 sh_166 rfl).trans ((w_iload_n dMo_readPromise_131 rfl).trans ((w_iconst (v := (nI 4)) dMo_readPromise_132 rfl).trans ((w_iadd dMo_readPromise_133).trans ((w_iald dMo_readPromise_134 sh_171 (by decide)).trans (ite_c ((w_iadd dMo_readPromise_135).trans ((w_iast dMo_readPromise_136 sh_171).trans (ite_c (rfl))))))))))))))))))))))))
theorem bMo_readPromise_137 {E : mEn} {d : Nat} {σ : mSt} {Q : mPost} {a1 : Int32} {a2 : Int32} : WP E d mMo_readPromise 137 [.ref 166, .int a1, .int a2] [] σ Q = Q none σ := w_vret dMo_readPromise_137 rfl
theorem dMo_readPart_0 : decode (mC mMo_readPart) 0 = .ok (.aload_n 0, 1) := by decide +kernel
theorem dMo_readPart_1 : decode (mC mMo_readPart) 1 = .ok (.getfield 35, 3) := by decide +kernel
theorem dMo_readPart_4 : decode (mC mMo_readPart) 4 = .ok (.iload_n 2, 1) := by decide +kernel
theorem dMo_readPart_5 : decode (mC mMo_readPart) 5 = .ok (.aload_n 0, 1) := by decide +kernel
theorem dMo_readPart_6 : decode (mC mMo_readPart) 6 = .ok (.iconst (1), 1) := by decide +kernel
theorem dMo_readPart_7 : decode (mC mMo_readPart) 7 = .ok (.bipush (99), 2) := by decide +kernel
theorem dMo_readPart_9 : decode (mC mMo_readPart) 9 = .ok (.invokevirtual 271, 3) := by decide +kernel
theorem dMo_readPart_12 : decode (mC mMo_readPart) 12 = .ok (.iastore, 1) := by decide +kernel
theorem dMo_readPart_13 : decode (mC mMo_readPart) 13 = .ok (.aload_n 0, 1) := by decide +kernel
theorem dMo_readPart_14 : decode (mC mMo_readPart) 14 = .ok (.aload_n 0, 1) := by decide +kernel
theorem dMo_readPart_15 : decode (mC mMo_readPart) 15 = .ok (.invokevirtual 194, 3) := by decide +kernel
theorem dMo_readPart_18 : decode (mC mMo_readPart) 18 = .ok (.invokevirtual 264, 3) := by decide +kernel
theorem dMo_readPart_21 : decode (mC mMo_readPart) 21 = .ok (.aload_n 0, 1) := by decide +kernel
theorem dMo_readPart_22 : decode (mC mMo_readPart) 22 = .ok (.getfield 35, 3) := by decide +kernel
theorem dMo_readPart_25 : decode (mC mMo_readPart) 25 = .ok (.iload_n 2, 1) := by decide +kernel
theorem dMo_readPart_26 : decode (mC mMo_readPart) 26 = .ok (.iconst (1), 1) := by decide +kernel
theorem dMo_readPart_27 : decode (mC mMo_readPart) 27 = .ok (.iadd, 1) := by decide +kernel
theorem dMo_readPart_28 : decode (mC mMo_readPart) 28 = .ok (.aload_n 0, 1) := by decide +kernel
theorem dMo_readPart_29 : decode (mC mMo_readPart) 29 = .ok (.iload_n 1, 1) := by decide +kernel
theorem dMo_readPart_30 : decode (mC mMo_readPart) 30 = .ok (.iconst (2), 1) := by decide +kernel
theorem dMo_readPart_31 : decode (mC mMo_readPart) 31 = .ok (.invokevirtual 274, 3) := by decide +kernel
theorem dMo_readPart_34 : decode (mC mMo_readPart) 34 = .ok (.iastore, 1) := by decide +kernel
theorem dMo_readPart_35 : decode (mC mMo_readPart) 35 = .ok (.aload_n 0, 1) := by decide +kernel
theorem dMo_readPart_36 : decode (mC mMo_readPart) 36 = .ok (.aload_n 0, 1) := by decide +kernel
theorem dMo_readPart_37 : decode (mC mMo_readPart) 37 = .ok (.invokevirtual 197, 3) := by decide +kernel
theorem dMo_readPart_40 : decode (mC mMo_readPart) 40 = .ok (.invokevirtual 264, 3) := by decide +kernel
theorem dMo_readPart_43 : decode (mC mMo_readPart) 43 = .ok (.aload_n 0, 1) := by decide +kernel
theorem dMo_readPart_44 : decode (mC mMo_readPart) 44 = .ok (.getfield 35, 3) := by decide +kernel
theorem dMo_readPart_47 : decode (mC mMo_readPart) 47 = .ok (.iload_n 2, 1) := by decide +kernel
theorem dMo_readPart_48 : decode (mC mMo_readPart) 48 = .ok (.iconst (2), 1) := by decide +kernel
theorem dMo_readPart_49 : decode (mC mMo_readPart) 49 = .ok (.iadd, 1) := by decide +kernel
theorem dMo_readPart_50 : decode (mC mMo_readPart) 50 = .ok (.aload_n 0, 1) := by decide +kernel
theorem dMo_readPart_51 : decode (mC mMo_readPart) 51 = .ok (.iload_n 1, 1) := by decide +kernel
theorem dMo_readPart_52 : decode (mC mMo_readPart) 52 = .ok (.iconst (0), 1) := by decide +kernel
theorem dMo_readPart_53 : decode (mC mMo_readPart) 53 = .ok (.invokevirtual 274, 3) := by decide +kernel
theorem dMo_readPart_56 : decode (mC mMo_readPart) 56 = .ok (.iastore, 1) := by decide +kernel
theorem dMo_readPart_57 : decode (mC mMo_readPart) 57 = .ok (.aload_n 0, 1) := by decide +kernel
theorem dMo_readPart_58 : decode (mC mMo_readPart) 58 = .ok (.aload_n 0, 1) := by decide +kernel
theorem dMo_readPart_59 : decode (mC mMo_readPart) 59 = .ok (.invokevirtual 200, 3) := by decide +kernel
theorem dMo_readPart_62 : decode (mC mMo_readPart) 62 = .ok (.invokevirtual 264, 3) := by decide +kernel
theorem dMo_readPart_65 : decode (mC mMo_readPart) 65 = .ok (.aload_n 0, 1) := by decide +kernel
theorem dMo_readPart_66 : decode (mC mMo_readPart) 66 = .ok (.getfield 35, 3) := by decide +kernel
theorem dMo_readPart_69 : decode (mC mMo_readPart) 69 = .ok (.iload_n 2, 1) := by decide +kernel
theorem dMo_readPart_70 : decode (mC mMo_readPart) 70 = .ok (.iconst (3), 1) := by decide +kernel
theorem dMo_readPart_71 : decode (mC mMo_readPart) 71 = .ok (.iadd, 1) := by decide +kernel
theorem dMo_readPart_72 : decode (mC mMo_readPart) 72 = .ok (.aload_n 0, 1) := by decide +kernel
theorem dMo_readPart_73 : decode (mC mMo_readPart) 73 = .ok (.iload_n 1, 1) := by decide +kernel
theorem dMo_readPart_74 : decode (mC mMo_readPart) 74 = .ok (.iconst (0), 1) := by decide +kernel
theorem dMo_readPart_75 : decode (mC mMo_readPart) 75 = .ok (.invokevirtual 261, 3) := by decide +kernel
theorem dMo_readPart_78 : decode (mC mMo_readPart) 78 = .ok (.iastore, 1) := by decide +kernel
theorem dMo_readPart_79 : decode (mC mMo_readPart) 79 = .ok (.aload_n 0, 1) := by decide +kernel
theorem dMo_readPart_80 : decode (mC mMo_readPart) 80 = .ok (.getfield 219, 3) := by decide +kernel
theorem dMo_readPart_83 : decode (mC mMo_readPart) 83 = .ok (.ifCond .ne (31), 3) := by decide +kernel
theorem dMo_readPart_86 : decode (mC mMo_readPart) 86 = .ok (.aload_n 0, 1) := by decide +kernel
theorem dMo_readPart_87 : decode (mC mMo_readPart) 87 = .ok (.getfield 35, 3) := by decide +kernel
theorem dMo_readPart_90 : decode (mC mMo_readPart) 90 = .ok (.iload_n 2, 1) := by decide +kernel
theorem dMo_readPart_91 : decode (mC mMo_readPart) 91 = .ok (.iconst (2), 1) := by decide +kernel
theorem dMo_readPart_92 : decode (mC mMo_readPart) 92 = .ok (.iadd, 1) := by decide +kernel
theorem dMo_readPart_93 : decode (mC mMo_readPart) 93 = .ok (.iaload, 1) := by decide +kernel
theorem dMo_readPart_94 : decode (mC mMo_readPart) 94 = .ok (.aload_n 0, 1) := by decide +kernel
theorem dMo_readPart_95 : decode (mC mMo_readPart) 95 = .ok (.getfield 35, 3) := by decide +kernel
theorem dMo_readPart_98 : decode (mC mMo_readPart) 98 = .ok (.iload_n 2, 1) := by decide +kernel
theorem dMo_readPart_99 : decode (mC mMo_readPart) 99 = .ok (.iconst (3), 1) := by decide +kernel
theorem dMo_readPart_100 : decode (mC mMo_readPart) 100 = .ok (.iadd, 1) := by decide +kernel
theorem dMo_readPart_101 : decode (mC mMo_readPart) 101 = .ok (.iaload, 1) := by decide +kernel
theorem dMo_readPart_102 : decode (mC mMo_readPart) 102 = .ok (.if_icmp .ne (12), 3) := by decide +kernel
theorem dMo_readPart_105 : decode (mC mMo_readPart) 105 = .ok (.aload_n 0, 1) := by decide +kernel
theorem dMo_readPart_106 : decode (mC mMo_readPart) 106 = .ok (.iconst (5), 1) := by decide +kernel
theorem dMo_readPart_107 : decode (mC mMo_readPart) 107 = .ok (.aload_n 0, 1) := by decide +kernel
theorem dMo_readPart_108 : decode (mC mMo_readPart) 108 = .ok (.getfield 119, 3) := by decide +kernel
theorem dMo_readPart_111 : decode (mC mMo_readPart) 111 = .ok (.invokevirtual 225, 3) := by decide +kernel
theorem dMo_readPart_114 : decode (mC mMo_readPart) 114 = .ok (.aload_n 0, 1) := by decide +kernel
theorem dMo_readPart_115 : decode (mC mMo_readPart) 115 = .ok (.iconst (1), 1) := by decide +kernel
theorem dMo_readPart_116 : decode (mC mMo_readPart) 116 = .ok (.invokevirtual 264, 3) := by decide +kernel
theorem dMo_readPart_119 : decode (mC mMo_readPart) 119 = .ok (.aload_n 0, 1) := by decide +kernel
theorem dMo_readPart_120 : decode (mC mMo_readPart) 120 = .ok (.getfield 35, 3) := by decide +kernel
theorem dMo_readPart_123 : decode (mC mMo_readPart) 123 = .ok (.iload_n 2, 1) := by decide +kernel
theorem dMo_readPart_124 : decode (mC mMo_readPart) 124 = .ok (.iconst (4), 1) := by decide +kernel
theorem dMo_readPart_125 : decode (mC mMo_readPart) 125 = .ok (.iadd, 1) := by decide +kernel
theorem dMo_readPart_126 : decode (mC mMo_readPart) 126 = .ok (.iconst (0), 1) := by decide +kernel
theorem dMo_readPart_127 : decode (mC mMo_readPart) 127 = .ok (.iastore, 1) := by decide +kernel
theorem dMo_readPart_128 : decode (mC mMo_readPart) 128 = .ok (.aload_n 0, 1) := by decide +kernel
theorem dMo_readPart_129 : decode (mC mMo_readPart) 129 = .ok (.getfield 219, 3) := by decide +kernel
theorem dMo_readPart_132 : decode (mC mMo_readPart) 132 = .ok (.ifCond .gt (10), 3) := by decide +kernel
theorem dMo_readPart_135 : decode (mC mMo_readPart) 135 = .ok (.aload_n 0, 1) := by decide +kernel
theorem dMo_readPart_136 : decode (mC mMo_readPart) 136 = .ok (.invokevirtual 203, 3) := by decide +kernel
theorem dMo_readPart_139 : decode (mC mMo_readPart) 139 = .ok (.ifCond .ne (4), 3) := by decide +kernel
theorem dMo_readPart_142 : decode (mC mMo_readPart) 142 = .ok (.return_, 1) := by decide +kernel
theorem dMo_readPart_143 : decode (mC mMo_readPart) 143 = .ok (.aload_n 0, 1) := by decide +kernel
theorem dMo_readPart_144 : decode (mC mMo_readPart) 144 = .ok (.invokevirtual 229, 3) := by decide +kernel
theorem dMo_readPart_147 : decode (mC mMo_readPart) 147 = .ok (.aload_n 0, 1) := by decide +kernel
theorem dMo_readPart_148 : decode (mC mMo_readPart) 148 = .ok (.getfield 35, 3) := by decide +kernel
theorem dMo_readPart_151 : decode (mC mMo_readPart) 151 = .ok (.iload_n 2, 1) := by decide +kernel
theorem dMo_readPart_152 : decode (mC mMo_readPart) 152 = .ok (.iconst (4), 1) := by decide +kernel
theorem dMo_readPart_153 : decode (mC mMo_readPart) 153 = .ok (.iadd, 1) := by decide +kernel
theorem dMo_readPart_154 : decode (mC mMo_readPart) 154 = .ok (.aload_n 0, 1) := by decide +kernel
theorem dMo_readPart_155 : decode (mC mMo_readPart) 155 = .ok (.iconst (0), 1) := by decide +kernel
theorem dMo_readPart_156 : decode (mC mMo_readPart) 156 = .ok (.sipush (999), 3) := by decide +kernel
theorem dMo_readPart_159 : decode (mC mMo_readPart) 159 = .ok (.invokevirtual 271, 3) := by decide +kernel
theorem dMo_readPart_162 : decode (mC mMo_readPart) 162 = .ok (.iastore, 1) := by decide +kernel
theorem dMo_readPart_163 : decode (mC mMo_readPart) 163 = .ok (.return_, 1) := by decide +kernel
theorem bMo_readPart_0 {E : mEn} {d : Nat} {σ : mSt} {Q : mPost} {a1 : Int32} {a2 : Int32} : WP E (d + 1) mMo_readPart 0 [.ref 166, .int a1, .int a2] [] σ Q = WP E d mMo_count 0 [.ref 166, .int 1, .int (nI 99), uu] [] σ (fun r σ' => WP E (d + 1) mMo_readPart 12 [.ref 166, .int a1, .int a2] (r.toList ++ [.int a2, .ref 171]) σ' Q) := (w_aload_n dMo_readPart_0 rfl).trans ((w_getr (r := 171) dMo_readPart_1 rz11_35 sh_166 rfl).trans ((w_iload_n dMo_readPart_4 rfl).trans ((w_aload_n dMo_readPart_5 rfl).trans ((w_iconst (v := 1) dMo_readPart_6 rfl).trans ((w_bipush (v := (nI 99)) dMo_readPart_7 rfl).trans (w_virt (vs := [.int 1, .int (nI 99)]) (st' := [.int a2, .ref 171]) (es := [.ref 166, .int 1, .int (nI 99), uu]) dMo_readPart_9 rz11_271 rfl sh_166 rfl rfl rfl (Nat.le_of_ble_eq_true rfl) (Nat.le_of_ble_eq_true rfl) rfl))))))
theorem bMo_readPart_12 {E : mEn} {d : Nat} {σ : mSt} {Q : mPost} {a1 : Int32} {a2 : Int32} {s0 : Int32} {s1 : Int32} : WP E (d + 1) mMo_readPart 12 [.ref 166, .int a1, .int a2] [.int s0, .int s1, .ref 171] σ Q = (if mOut s1 3000 = true then False else WP E d mMo_isOf 0 [.ref 166] [] (sI σ 171 s1.toNatClampNeg s0) (fun r σ' => WP E (d + 1) mMo_readPart 18 [.ref 166, .int a1, .int a2] (r.toList ++ [.ref 166]) σ' Q)) := (w_iast dMo_readPart_12 sh_171).trans (ite_c ((w_aload_n dMo_readPart_13 rfl).trans ((w_aload_n dMo_readPart_14 rfl).trans (w_virt (vs := []) (st' := [.ref 166]) (es := [.ref 166]) dMo_readPart_15 rz11_194 rfl sh_166 rfl rfl rfl (Nat.le_of_ble_eq_true rfl) (Nat.le_of_ble_eq_true rfl) rfl))))
theorem bMo_readPart_18 {E : mEn} {d : Nat} {σ : mSt} {Q : mPost} {a1 : Int32} {a2 : Int32} {s0 : Int32} : WP E (d + 1) mMo_readPart 18 [.ref 166, .int a1, .int a2] [.int s0, .ref 166] σ Q = WP E d mMo_must 0 [.ref 166, .int s0] [] σ (fun r σ' => WP E (d + 1) mMo_readPart 21 [.ref 166, .int a1, .int a2] (r.toList ++ []) σ' Q) := w_virt (vs := [.int s0]) (st' := []) (es := [.ref 166, .int s0]) dMo_readPart_18 rz11_264 rfl sh_166 rfl rfl rfl (Nat.le_of_ble_eq_true rfl) (Nat.le_of_ble_eq_true rfl) rfl
theorem bMo_readPart_21 {E : mEn} {d : Nat} {σ : mSt} {Q : mPost} {a1 : Int32} {a2 : Int32} : WP E (d + 1) mMo_readPart 21 [.ref 166, .int a1, .int a2] [] σ Q = WP E d mMo_readTold 0 [.ref 166, .int a1, .int (nI 2), uu] [] σ (fun r σ' => WP E (d + 1) mMo_readPart 34 [.ref 166, .int a1, .int a2] (r.toList ++ [.int (a2 + 1), .ref 171]) σ' Q) := (w_aload_n dMo_readPart_21 rfl).trans ((w_getr (r := 171) dMo_readPart_22 rz11_35 sh_166 rfl).trans ((w_iload_n dMo_readPart_25 rfl).trans ((w_iconst (v := 1) dMo_readPart_26 rfl).trans ((w_iadd dMo_readPart_27).trans ((w_aload_n dMo_readPart_28 rfl).trans ((w_iload_n dMo_readPart_29 rfl).trans ((w_iconst (v := (nI 2)) dMo_readPart_30 rfl).trans (w_virt (vs := [.int a1, .int (nI 2)]) (st' := [.int (a2 + 1), .ref 171]) (es := [.ref 166, .int a1, .int (nI 2), uu]) dMo_readPart_31 rz11_274 rfl sh_166 rfl rfl rfl (Nat.le_of_ble_eq_true rfl) (Nat.le_of_ble_eq_true rfl) rfl))))))))
theorem bMo_readPart_34 {E : mEn} {d : Nat} {σ : mSt} {Q : mPost} {a1 : Int32} {a2 : Int32} {s0 : Int32} {s1 : Int32} : WP E (d + 1) mMo_readPart 34 [.ref 166, .int a1, .int a2] [.int s0, .int s1, .ref 171] σ Q = (if mOut s1 3000 = true then False else WP E d mMo_isFrom 0 [.ref 166] [] (sI σ 171 s1.toNatClampNeg s0) (fun r σ' => WP E (d + 1) mMo_readPart 40 [.ref 166, .int a1, .int a2] (r.toList ++ [.ref 166]) σ' Q)) := (w_iast dMo_readPart_34 sh_171).trans (ite_c ((w_aload_n dMo_readPart_35 rfl).trans ((w_aload_n dMo_readPart_36 rfl).trans (w_virt (vs := []) (st' := [.ref 166]) (es := [.ref 166]) dMo_readPart_37 rz11_197 rfl sh_166 rfl rfl rfl (Nat.le_of_ble_eq_true rfl) (Nat.le_of_ble_eq_true rfl) rfl))))
theorem bMo_readPart_40 {E : mEn} {d : Nat} {σ : mSt} {Q : mPost} {a1 : Int32} {a2 : Int32} {s0 : Int32} : WP E (d + 1) mMo_readPart 40 [.ref 166, .int a1, .int a2] [.int s0, .ref 166] σ Q = WP E d mMo_must 0 [.ref 166, .int s0] [] σ (fun r σ' => WP E (d + 1) mMo_readPart 43 [.ref 166, .int a1, .int a2] (r.toList ++ []) σ' Q) := w_virt (vs := [.int s0]) (st' := []) (es := [.ref 166, .int s0]) dMo_readPart_40 rz11_264 rfl sh_166 rfl rfl rfl (Nat.le_of_ble_eq_true rfl) (Nat.le_of_ble_eq_true rfl) rfl
theorem bMo_readPart_43 {E : mEn} {d : Nat} {σ : mSt} {Q : mPost} {a1 : Int32} {a2 : Int32} : WP E (d + 1) mMo_readPart 43 [.ref 166, .int a1, .int a2] [] σ Q = WP E d mMo_readTold 0 [.ref 166, .int a1, .int 0, uu] [] σ (fun r σ' => WP E (d + 1) mMo_readPart 56 [.ref 166, .int a1, .int a2] (r.toList ++ [.int (a2 + (nI 2)), .ref 171]) σ' Q) := (w_aload_n dMo_readPart_43 rfl).trans ((w_getr (r := 171) dMo_readPart_44 rz11_35 sh_166 rfl).trans ((w_iload_n dMo_readPart_47 rfl).trans ((w_iconst (v := (nI 2)) dMo_readPart_48 rfl).trans ((w_iadd dMo_readPart_49).trans ((w_aload_n dMo_readPart_50 rfl).trans ((w_iload_n dMo_readPart_51 rfl).trans ((w_iconst (v := 0) dMo_readPart_52 rfl).trans (w_virt (vs := [.int a1, .int 0]) (st' := [.int (a2 + (nI 2)), .ref 171]) (es := [.ref 166, .int a1, .int 0, uu]) dMo_readPart_53 rz11_274 rfl sh_166 rfl rfl rfl (Nat.le_of_ble_eq_true rfl) (Nat.le_of_ble_eq_true rfl) rfl))))))))
theorem bMo_readPart_56 {E : mEn} {d : Nat} {σ : mSt} {Q : mPost} {a1 : Int32} {a2 : Int32} {s0 : Int32} {s1 : Int32} : WP E (d + 1) mMo_readPart 56 [.ref 166, .int a1, .int a2] [.int s0, .int s1, .ref 171] σ Q = (if mOut s1 3000 = true then False else WP E d mMo_isTo 0 [.ref 166] [] (sI σ 171 s1.toNatClampNeg s0) (fun r σ' => WP E (d + 1) mMo_readPart 62 [.ref 166, .int a1, .int a2] (r.toList ++ [.ref 166]) σ' Q)) := (w_iast dMo_readPart_56 sh_171).trans (ite_c ((w_aload_n dMo_readPart_57 rfl).trans ((w_aload_n dMo_readPart_58 rfl).trans (w_virt (vs := []) (st' := [.ref 166]) (es := [.ref 166]) dMo_readPart_59 rz11_200 rfl sh_166 rfl rfl rfl (Nat.le_of_ble_eq_true rfl) (Nat.le_of_ble_eq_true rfl) rfl))))
theorem bMo_readPart_62 {E : mEn} {d : Nat} {σ : mSt} {Q : mPost} {a1 : Int32} {a2 : Int32} {s0 : Int32} : WP E (d + 1) mMo_readPart 62 [.ref 166, .int a1, .int a2] [.int s0, .ref 166] σ Q = WP E d mMo_must 0 [.ref 166, .int s0] [] σ (fun r σ' => WP E (d + 1) mMo_readPart 65 [.ref 166, .int a1, .int a2] (r.toList ++ []) σ' Q) := w_virt (vs := [.int s0]) (st' := []) (es := [.ref 166, .int s0]) dMo_readPart_62 rz11_264 rfl sh_166 rfl rfl rfl (Nat.le_of_ble_eq_true rfl) (Nat.le_of_ble_eq_true rfl) rfl
theorem bMo_readPart_65 {E : mEn} {d : Nat} {σ : mSt} {Q : mPost} {a1 : Int32} {a2 : Int32} : WP E (d + 1) mMo_readPart 65 [.ref 166, .int a1, .int a2] [] σ Q = WP E d mMo_told 0 [.ref 166, .int a1, .int 0, uu] [] σ (fun r σ' => WP E (d + 1) mMo_readPart 78 [.ref 166, .int a1, .int a2] (r.toList ++ [.int (a2 + (nI 3)), .ref 171]) σ' Q) := (w_aload_n dMo_readPart_65 rfl).trans ((w_getr (r := 171) dMo_readPart_66 rz11_35 sh_166 rfl).trans ((w_iload_n dMo_readPart_69 rfl).trans ((w_iconst (v := (nI 3)) dMo_readPart_70 rfl).trans ((w_iadd dMo_readPart_71).trans ((w_aload_n dMo_readPart_72 rfl).trans ((w_iload_n dMo_readPart_73 rfl).trans ((w_iconst (v := 0) dMo_readPart_74 rfl).trans (w_virt (vs := [.int a1, .int 0]) (st' := [.int (a2 + (nI 3)), .ref 171]) (es := [.ref 166, .int a1, .int 0, uu]) dMo_readPart_75 rz11_261 rfl sh_166 rfl rfl rfl (Nat.le_of_ble_eq_true rfl) (Nat.le_of_ble_eq_true rfl) rfl))))))))
theorem bMo_readPart_78 {E : mEn} {d : Nat} {σ : mSt} {Q : mPost} {a1 : Int32} {a2 : Int32} {s0 : Int32} {s1 : Int32} : WP E d mMo_readPart 78 [.ref 166, .int a1, .int a2] [.int s0, .int s1, .ref 171] σ Q = (if mOut s1 3000 = true then False else (if ¬ ((sI σ 171 s1.toNatClampNeg s0).1 166 12) = 0 then WP E d mMo_readPart 114 [.ref 166, .int a1, .int a2] [] (sI σ 171 s1.toNatClampNeg s0) Q else WP E d mMo_readPart 86 [.ref 166, .int a1, .int a2] [] (sI σ 171 s1.toNatClampNeg s0) Q)) := (w_iast dMo_readPart_78 sh_171).trans (ite_c ((w_aload_n dMo_readPart_79 rfl).trans ((w_geti dMo_readPart_80 rz11_219 sh_166 rfl).trans (w_ifne (t := 114) dMo_readPart_83 (by decide)))))
theorem bMo_readPart_86 {E : mEn} {d : Nat} {σ : mSt} {Q : mPost} {a1 : Int32} {a2 : Int32} : WP E d mMo_readPart 86 [.ref 166, .int a1, .int a2] [] σ Q = (if mOut (a2 + (nI 2)) 3000 = true then False else (if mOut (a2 + (nI 3)) 3000 = true then False else (if ¬ (σ.1 171 (a2 + (nI 2)).toNatClampNeg) = (σ.1 171 (a2 + (nI 3)).toNatClampNeg) then WP E d mMo_readPart 114 [.ref 166, .int a1, .int a2] [] σ Q else WP E d mMo_readPart 105 [.ref 166, .int a1, .int a2] [] σ Q))) := (w_aload_n dMo_readPart_86 rfl).trans ((w_getr (r := 171) dMo_readPart_87 rz11_35 sh_166 rfl).trans ((w_iload_n dMo_readPart_90 rfl).trans ((w_iconst (v := (nI 2)) dMo_readPart_91 rfl).trans ((w_iadd dMo_readPart_92).trans ((w_iald dMo_readPart_93 sh_171 (by decide)).trans (ite_c ((w_aload_n dMo_readPart_94 rfl).trans ((w_getr (r := 171) dMo_readPart_95 rz11_35 sh_166 rfl).trans ((w_iload_n dMo_readPart_98 rfl).trans ((w_iconst (v := (nI 3)) dMo_readPart_99 rfl).trans ((w_iadd dMo_readPart_100).trans ((w_iald dMo_readPart_101 sh_171 (by decide)).trans (ite_c (w_icmpne (t := 114) dMo_readPart_102 (by decide)))))))))))))))
theorem bMo_readPart_105 {E : mEn} {d : Nat} {σ : mSt} {Q : mPost} {a1 : Int32} {a2 : Int32} : WP E (d + 1) mMo_readPart 105 [.ref 166, .int a1, .int a2] [] σ Q = WP E d mMo_fail 0 [.ref 166, .int (nI 5), .int (σ.1 166 15)] [] σ (fun r σ' => WP E (d + 1) mMo_readPart 114 [.ref 166, .int a1, .int a2] (r.toList ++ []) σ' Q) := (w_aload_n dMo_readPart_105 rfl).trans ((w_iconst (v := (nI 5)) dMo_readPart_106 rfl).trans ((w_aload_n dMo_readPart_107 rfl).trans ((w_geti dMo_readPart_108 rz11_119 sh_166 rfl).trans (w_virt (vs := [.int (nI 5), .int (σ.1 166 15)]) (st' := []) (es := [.ref 166, .int (nI 5), .int (σ.1 166 15)]) dMo_readPart_111 rz11_225 rfl sh_166 rfl rfl rfl (Nat.le_of_ble_eq_true rfl) (Nat.le_of_ble_eq_true rfl) rfl))))
theorem bMo_readPart_114 {E : mEn} {d : Nat} {σ : mSt} {Q : mPost} {a1 : Int32} {a2 : Int32} : WP E (d + 1) mMo_readPart 114 [.ref 166, .int a1, .int a2] [] σ Q = WP E d mMo_must 0 [.ref 166, .int 1] [] σ (fun r σ' => WP E (d + 1) mMo_readPart 119 [.ref 166, .int a1, .int a2] (r.toList ++ []) σ' Q) := (w_aload_n dMo_readPart_114 rfl).trans ((w_iconst (v := 1) dMo_readPart_115 rfl).trans (w_virt (vs := [.int 1]) (st' := []) (es := [.ref 166, .int 1]) dMo_readPart_116 rz11_264 rfl sh_166 rfl rfl rfl (Nat.le_of_ble_eq_true rfl) (Nat.le_of_ble_eq_true rfl) rfl))
theorem bMo_readPart_119 {E : mEn} {d : Nat} {σ : mSt} {Q : mPost} {a1 : Int32} {a2 : Int32} : WP E d mMo_readPart 119 [.ref 166, .int a1, .int a2] [] σ Q = (if mOut (a2 + (nI 4)) 3000 = true then False else (if 0 < ((sI σ 171 (a2 + (nI 4)).toNatClampNeg 0).1 166 12) then WP E d mMo_readPart 142 [.ref 166, .int a1, .int a2] [] (sI σ 171 (a2 + (nI 4)).toNatClampNeg 0) Q else WP E d mMo_readPart 135 [.ref 166, .int a1, .int a2] [] (sI σ 171 (a2 + (nI 4)).toNatClampNeg 0) Q)) := (w_aload_n dMo_readPart_119 rfl).trans ((w_getr (r := 171) dMo_readPart_120 rz11_35 sh_166 rfl).trans ((w_iload_n dMo_readPart_123 rfl).trans ((w_iconst (v := (nI 4)) dMo_readPart_124 rfl).trans ((w_iadd dMo_readPart_125).trans ((w_iconst (v := 0) dMo_readPart_126 rfl).trans ((w_iast dMo_readPart_127 sh_171).trans (ite_c ((w_aload_n dMo_readPart_128 rfl).trans ((w_geti dMo_readPart_129 rz11_219 sh_166 rfl).trans (w_ifgt (t := 142) dMo_readPart_132 (by decide)))))))))))
theorem bMo_readPart_135 {E : mEn} {d : Nat} {σ : mSt} {Q : mPost} {a1 : Int32} {a2 : Int32} : WP E (d + 1) mMo_readPart 135 [.ref 166, .int a1, .int a2] [] σ Q = WP E d mMo_isFor 0 [.ref 166] [] σ (fun r σ' => WP E (d + 1) mMo_readPart 139 [.ref 166, .int a1, .int a2] (r.toList ++ []) σ' Q) := (w_aload_n dMo_readPart_135 rfl).trans (w_virt (vs := []) (st' := []) (es := [.ref 166]) dMo_readPart_136 rz11_203 rfl sh_166 rfl rfl rfl (Nat.le_of_ble_eq_true rfl) (Nat.le_of_ble_eq_true rfl) rfl)
theorem bMo_readPart_139 {E : mEn} {d : Nat} {σ : mSt} {Q : mPost} {a1 : Int32} {a2 : Int32} {s0 : Int32} : WP E d mMo_readPart 139 [.ref 166, .int a1, .int a2] [.int s0] σ Q = (if ¬ s0 = 0 then WP E d mMo_readPart 143 [.ref 166, .int a1, .int a2] [] σ Q else WP E d mMo_readPart 142 [.ref 166, .int a1, .int a2] [] σ Q) := w_ifne (t := 143) dMo_readPart_139 (by decide)
theorem bMo_readPart_142 {E : mEn} {d : Nat} {σ : mSt} {Q : mPost} {a1 : Int32} {a2 : Int32} : WP E d mMo_readPart 142 [.ref 166, .int a1, .int a2] [] σ Q = Q none σ := w_vret dMo_readPart_142 rfl
theorem bMo_readPart_143 {E : mEn} {d : Nat} {σ : mSt} {Q : mPost} {a1 : Int32} {a2 : Int32} : WP E (d + 1) mMo_readPart 143 [.ref 166, .int a1, .int a2] [] σ Q = WP E d mMo_next 0 [.ref 166, uu] [] σ (fun r σ' => WP E (d + 1) mMo_readPart 147 [.ref 166, .int a1, .int a2] (r.toList ++ []) σ' Q) := (w_aload_n dMo_readPart_143 rfl).trans (w_virt (vs := []) (st' := []) (es := [.ref 166, uu]) dMo_readPart_144 rz11_229 rfl sh_166 rfl rfl rfl (Nat.le_of_ble_eq_true rfl) (Nat.le_of_ble_eq_true rfl) rfl)
theorem bMo_readPart_147 {E : mEn} {d : Nat} {σ : mSt} {Q : mPost} {a1 : Int32} {a2 : Int32} : WP E (d + 1) mMo_readPart 147 [.ref 166, .int a1, .int a2] [] σ Q = WP E d mMo_count 0 [.ref 166, .int 0, .int (nI 999), uu] [] σ (fun r σ' => WP E (d + 1) mMo_readPart 162 [.ref 166, .int a1, .int a2] (r.toList ++ [.int (a2 + (nI 4)), .ref 171]) σ' Q) := (w_aload_n dMo_readPart_147 rfl).trans ((w_getr (r := 171) dMo_readPart_148 rz11_35 sh_166 rfl).trans ((w_iload_n dMo_readPart_151 rfl).trans ((w_iconst (v := (nI 4)) dMo_readPart_152 rfl).trans ((w_iadd dMo_readPart_153).trans ((w_aload_n dMo_readPart_154 rfl).trans ((w_iconst (v := 0) dMo_readPart_155 rfl).trans ((w_sipush (v := (nI 999)) dMo_readPart_156 rfl).trans (w_virt (vs := [.int 0, .int (nI 999)]) (st' := [.int (a2 + (nI 4)), .ref 171]) (es := [.ref 166, .int 0, .int (nI 999), uu]) dMo_readPart_159 rz11_271 rfl sh_166 rfl rfl rfl (Nat.le_of_ble_eq_true rfl) (Nat.le_of_ble_eq_true rfl) rfl))))))))
theorem bMo_readPart_162 {E : mEn} {d : Nat} {σ : mSt} {Q : mPost} {a1 : Int32} {a2 : Int32} {s0 : Int32} {s1 : Int32} : WP E d mMo_readPart 162 [.ref 166, .int a1, .int a2] [.int s0, .int s1, .ref 171] σ Q = (if mOut s1 3000 = true then False else Q none (sI σ 171 s1.toNatClampNeg s0)) := (w_iast dMo_readPart_162 sh_171).trans (ite_c (w_vret dMo_readPart_163 rfl))
theorem dMo_isSign_0 : decode (mC mMo_isSign) 0 = .ok (.aload_n 0, 1) := by decide +kernel
theorem dMo_isSign_1 : decode (mC mMo_isSign) 1 = .ok (.getfield 125, 3) := by decide +kernel
theorem dMo_isSign_4 : decode (mC mMo_isSign) 4 = .ok (.iconst (3), 1) := by decide +kernel
theorem dMo_isSign_5 : decode (mC mMo_isSign) 5 = .ok (.if_icmp .ne (15), 3) := by decide +kernel
theorem dMo_isSign_8 : decode (mC mMo_isSign) 8 = .ok (.aload_n 0, 1) := by decide +kernel
theorem dMo_isSign_9 : decode (mC mMo_isSign) 9 = .ok (.getfield 144, 3) := by decide +kernel
theorem dMo_isSign_12 : decode (mC mMo_isSign) 12 = .ok (.iload_n 1, 1) := by decide +kernel
theorem dMo_isSign_13 : decode (mC mMo_isSign) 13 = .ok (.if_icmp .ne (7), 3) := by decide +kernel
theorem dMo_isSign_16 : decode (mC mMo_isSign) 16 = .ok (.iconst (1), 1) := by decide +kernel
theorem dMo_isSign_17 : decode (mC mMo_isSign) 17 = .ok (.goto (4), 3) := by decide +kernel
theorem dMo_isSign_20 : decode (mC mMo_isSign) 20 = .ok (.iconst (0), 1) := by decide +kernel
theorem dMo_isSign_21 : decode (mC mMo_isSign) 21 = .ok (.ireturn, 1) := by decide +kernel
theorem bMo_isSign_0 {E : mEn} {d : Nat} {σ : mSt} {Q : mPost} {a1 : Int32} : WP E d mMo_isSign 0 [.ref 166, .int a1] [] σ Q = (if ¬ (σ.1 166 14) = (nI 3) then WP E d mMo_isSign 20 [.ref 166, .int a1] [] σ Q else WP E d mMo_isSign 8 [.ref 166, .int a1] [] σ Q) := (w_aload_n dMo_isSign_0 rfl).trans ((w_geti dMo_isSign_1 rz11_125 sh_166 rfl).trans ((w_iconst (v := (nI 3)) dMo_isSign_4 rfl).trans (w_icmpne (t := 20) dMo_isSign_5 (by decide))))
theorem bMo_isSign_8 {E : mEn} {d : Nat} {σ : mSt} {Q : mPost} {a1 : Int32} : WP E d mMo_isSign 8 [.ref 166, .int a1] [] σ Q = (if ¬ (σ.1 166 17) = a1 then WP E d mMo_isSign 20 [.ref 166, .int a1] [] σ Q else WP E d mMo_isSign 16 [.ref 166, .int a1] [] σ Q) := (w_aload_n dMo_isSign_8 rfl).trans ((w_geti dMo_isSign_9 rz11_144 sh_166 rfl).trans ((w_iload_n dMo_isSign_12 rfl).trans (w_icmpne (t := 20) dMo_isSign_13 (by decide))))
theorem bMo_isSign_16 {E : mEn} {d : Nat} {σ : mSt} {Q : mPost} {a1 : Int32} : WP E d mMo_isSign 16 [.ref 166, .int a1] [] σ Q = WP E d mMo_isSign 21 [.ref 166, .int a1] [.int 1] σ Q := (w_iconst (v := 1) dMo_isSign_16 rfl).trans (w_goto (t := 21) dMo_isSign_17 (by decide))
theorem bMo_isSign_20 {E : mEn} {d : Nat} {σ : mSt} {Q : mPost} {a1 : Int32} : WP E d mMo_isSign 20 [.ref 166, .int a1] [] σ Q = WP E d mMo_isSign 21 [.ref 166, .int a1] [.int 0] σ Q := w_iconst (v := 0) dMo_isSign_20 rfl
theorem bMo_isSign_21 {E : mEn} {d : Nat} {σ : mSt} {Q : mPost} {a1 : Int32} {s0 : Int32} (hz0 : s0 = 0 ∨ s0 = 1) : WP E d mMo_isSign 21 [.ref 166, .int a1] [.int s0] σ Q = Q (some (.int s0)) σ := w_zret dMo_isSign_21 rfl hz0
theorem dMo_isWell_0 : decode (mC mMo_isWell) 0 = .ok (.aload_n 0, 1) := by decide +kernel
theorem dMo_isWell_1 : decode (mC mMo_isWell) 1 = .ok (.aload_n 0, 1) := by decide +kernel
theorem dMo_isWell_2 : decode (mC mMo_isWell) 2 = .ok (.getfield 219, 3) := by decide +kernel
theorem dMo_isWell_5 : decode (mC mMo_isWell) 5 = .ok (.putfield 28, 3) := by decide +kernel
theorem dMo_isWell_8 : decode (mC mMo_isWell) 8 = .ok (.aload_n 0, 1) := by decide +kernel
theorem dMo_isWell_9 : decode (mC mMo_isWell) 9 = .ok (.aload_n 0, 1) := by decide +kernel
theorem dMo_isWell_10 : decode (mC mMo_isWell) 10 = .ok (.getfield 219, 3) := by decide +kernel
theorem dMo_isWell_13 : decode (mC mMo_isWell) 13 = .ok (.ifCond .ne (7), 3) := by decide +kernel
theorem dMo_isWell_16 : decode (mC mMo_isWell) 16 = .ok (.iconst (-1), 1) := by decide +kernel
theorem dMo_isWell_17 : decode (mC mMo_isWell) 17 = .ok (.goto (7), 3) := by decide +kernel
theorem dMo_isWell_20 : decode (mC mMo_isWell) 20 = .ok (.aload_n 0, 1) := by decide +kernel
theorem dMo_isWell_21 : decode (mC mMo_isWell) 21 = .ok (.getfield 222, 3) := by decide +kernel
theorem dMo_isWell_24 : decode (mC mMo_isWell) 24 = .ok (.putfield 32, 3) := by decide +kernel
theorem dMo_isWell_27 : decode (mC mMo_isWell) 27 = .ok (.aload_n 0, 1) := by decide +kernel
theorem dMo_isWell_28 : decode (mC mMo_isWell) 28 = .ok (.getfield 219, 3) := by decide +kernel
theorem dMo_isWell_31 : decode (mC mMo_isWell) 31 = .ok (.ifCond .eq (12), 3) := by decide +kernel
theorem dMo_isWell_34 : decode (mC mMo_isWell) 34 = .ok (.aload_n 0, 1) := by decide +kernel
theorem dMo_isWell_35 : decode (mC mMo_isWell) 35 = .ok (.bipush (10), 2) := by decide +kernel
theorem dMo_isWell_37 : decode (mC mMo_isWell) 37 = .ok (.invokevirtual 89, 3) := by decide +kernel
theorem dMo_isWell_40 : decode (mC mMo_isWell) 40 = .ok (.ifCond .eq (7), 3) := by decide +kernel
theorem dMo_isWell_43 : decode (mC mMo_isWell) 43 = .ok (.iconst (1), 1) := by decide +kernel
theorem dMo_isWell_44 : decode (mC mMo_isWell) 44 = .ok (.goto (4), 3) := by decide +kernel
theorem dMo_isWell_47 : decode (mC mMo_isWell) 47 = .ok (.iconst (0), 1) := by decide +kernel
theorem dMo_isWell_48 : decode (mC mMo_isWell) 48 = .ok (.ireturn, 1) := by decide +kernel
theorem bMo_isWell_0 {E : mEn} {d : Nat} {σ : mSt} {Q : mPost} : WP E d mMo_isWell 0 [.ref 166] [] σ Q = (if ¬ ((sI σ 166 10 (σ.1 166 12)).1 166 12) = 0 then WP E d mMo_isWell 20 [.ref 166] [.ref 166] (sI σ 166 10 (σ.1 166 12)) Q else WP E d mMo_isWell 16 [.ref 166] [.ref 166] (sI σ 166 10 (σ.1 166 12)) Q) := (w_aload_n dMo_isWell_0 rfl).trans ((w_aload_n dMo_isWell_1 rfl).trans ((w_geti dMo_isWell_2 rz11_219 sh_166 rfl).trans ((w_puti dMo_isWell_5 rz11_28 sh_166 rfl rfl rfl).trans ((w_aload_n dMo_isWell_8 rfl).trans ((w_aload_n dMo_isWell_9 rfl).trans ((w_geti dMo_isWell_10 rz11_219 sh_166 rfl).trans (w_ifne (t := 20) dMo_isWell_13 (by decide))))))))
theorem bMo_isWell_16 {E : mEn} {d : Nat} {σ : mSt} {Q : mPost} : WP E d mMo_isWell 16 [.ref 166] [.ref 166] σ Q = WP E d mMo_isWell 24 [.ref 166] [.int (-1), .ref 166] σ Q := (w_iconst (v := (-1)) dMo_isWell_16 rfl).trans (w_goto (t := 24) dMo_isWell_17 (by decide))
theorem bMo_isWell_20 {E : mEn} {d : Nat} {σ : mSt} {Q : mPost} : WP E d mMo_isWell 20 [.ref 166] [.ref 166] σ Q = WP E d mMo_isWell 24 [.ref 166] [.int (σ.1 166 13), .ref 166] σ Q := (w_aload_n dMo_isWell_20 rfl).trans (w_geti dMo_isWell_21 rz11_222 sh_166 rfl)
theorem bMo_isWell_24 {E : mEn} {d : Nat} {σ : mSt} {Q : mPost} {s0 : Int32} : WP E d mMo_isWell 24 [.ref 166] [.int s0, .ref 166] σ Q = (if ((sI σ 166 11 s0).1 166 12) = 0 then WP E d mMo_isWell 43 [.ref 166] [] (sI σ 166 11 s0) Q else WP E d mMo_isWell 34 [.ref 166] [] (sI σ 166 11 s0) Q) := (w_puti dMo_isWell_24 rz11_32 sh_166 rfl rfl rfl).trans ((w_aload_n dMo_isWell_27 rfl).trans ((w_geti dMo_isWell_28 rz11_219 sh_166 rfl).trans (w_ifeq (t := 43) dMo_isWell_31 (by decide))))
theorem bMo_isWell_34 {E : mEn} {d : Nat} {σ : mSt} {Q : mPost} : WP E (d + 1) mMo_isWell 34 [.ref 166] [] σ Q = WP E d mMo_no 0 [.ref 166, .int (nI 10)] [] σ (fun r σ' => WP E (d + 1) mMo_isWell 40 [.ref 166] (r.toList ++ []) σ' Q) := (w_aload_n dMo_isWell_34 rfl).trans ((w_bipush (v := (nI 10)) dMo_isWell_35 rfl).trans (w_virt (vs := [.int (nI 10)]) (st' := []) (es := [.ref 166, .int (nI 10)]) dMo_isWell_37 rz11_89 rfl sh_166 rfl rfl rfl (Nat.le_of_ble_eq_true rfl) (Nat.le_of_ble_eq_true rfl) rfl))
theorem bMo_isWell_40 {E : mEn} {d : Nat} {σ : mSt} {Q : mPost} {s0 : Int32} : WP E d mMo_isWell 40 [.ref 166] [.int s0] σ Q = (if s0 = 0 then WP E d mMo_isWell 47 [.ref 166] [] σ Q else WP E d mMo_isWell 43 [.ref 166] [] σ Q) := w_ifeq (t := 47) dMo_isWell_40 (by decide)
theorem bMo_isWell_43 {E : mEn} {d : Nat} {σ : mSt} {Q : mPost} : WP E d mMo_isWell 43 [.ref 166] [] σ Q = WP E d mMo_isWell 48 [.ref 166] [.int 1] σ Q := (w_iconst (v := 1) dMo_isWell_43 rfl).trans (w_goto (t := 48) dMo_isWell_44 (by decide))
theorem bMo_isWell_47 {E : mEn} {d : Nat} {σ : mSt} {Q : mPost} : WP E d mMo_isWell 47 [.ref 166] [] σ Q = WP E d mMo_isWell 48 [.ref 166] [.int 0] σ Q := w_iconst (v := 0) dMo_isWell_47 rfl
theorem bMo_isWell_48 {E : mEn} {d : Nat} {σ : mSt} {Q : mPost} {s0 : Int32} (hz0 : s0 = 0 ∨ s0 = 1) : WP E d mMo_isWell 48 [.ref 166] [.int s0] σ Q = Q (some (.int s0)) σ := w_zret dMo_isWell_48 rfl hz0
theorem dMo_copy_0 : decode (mC mMo_copy) 0 = .ok (.iconst (0), 1) := by decide +kernel
theorem dMo_copy_1 : decode (mC mMo_copy) 1 = .ok (.istore_n 3, 1) := by decide +kernel
theorem dMo_copy_2 : decode (mC mMo_copy) 2 = .ok (.iload_n 3, 1) := by decide +kernel
theorem dMo_copy_3 : decode (mC mMo_copy) 3 = .ok (.sipush (600), 3) := by decide +kernel
theorem dMo_copy_6 : decode (mC mMo_copy) 6 = .ok (.if_icmp .ge (33), 3) := by decide +kernel
theorem dMo_copy_9 : decode (mC mMo_copy) 9 = .ok (.aload_n 0, 1) := by decide +kernel
theorem dMo_copy_10 : decode (mC mMo_copy) 10 = .ok (.getfield 35, 3) := by decide +kernel
theorem dMo_copy_13 : decode (mC mMo_copy) 13 = .ok (.sipush (600), 3) := by decide +kernel
theorem dMo_copy_16 : decode (mC mMo_copy) 16 = .ok (.iload_n 2, 1) := by decide +kernel
theorem dMo_copy_17 : decode (mC mMo_copy) 17 = .ok (.imul, 1) := by decide +kernel
theorem dMo_copy_18 : decode (mC mMo_copy) 18 = .ok (.iload_n 3, 1) := by decide +kernel
theorem dMo_copy_19 : decode (mC mMo_copy) 19 = .ok (.iadd, 1) := by decide +kernel
theorem dMo_copy_20 : decode (mC mMo_copy) 20 = .ok (.aload_n 0, 1) := by decide +kernel
theorem dMo_copy_21 : decode (mC mMo_copy) 21 = .ok (.getfield 35, 3) := by decide +kernel
theorem dMo_copy_24 : decode (mC mMo_copy) 24 = .ok (.sipush (600), 3) := by decide +kernel
theorem dMo_copy_27 : decode (mC mMo_copy) 27 = .ok (.iload_n 1, 1) := by decide +kernel
theorem dMo_copy_28 : decode (mC mMo_copy) 28 = .ok (.imul, 1) := by decide +kernel
theorem dMo_copy_29 : decode (mC mMo_copy) 29 = .ok (.iload_n 3, 1) := by decide +kernel
theorem dMo_copy_30 : decode (mC mMo_copy) 30 = .ok (.iadd, 1) := by decide +kernel
theorem dMo_copy_31 : decode (mC mMo_copy) 31 = .ok (.iaload, 1) := by decide +kernel
theorem dMo_copy_32 : decode (mC mMo_copy) 32 = .ok (.iastore, 1) := by decide +kernel
theorem dMo_copy_33 : decode (mC mMo_copy) 33 = .ok (.iinc 3 (1), 3) := by decide +kernel
theorem dMo_copy_36 : decode (mC mMo_copy) 36 = .ok (.goto (-34), 3) := by decide +kernel
theorem dMo_copy_39 : decode (mC mMo_copy) 39 = .ok (.iconst (0), 1) := by decide +kernel
theorem dMo_copy_40 : decode (mC mMo_copy) 40 = .ok (.istore_n 3, 1) := by decide +kernel
theorem dMo_copy_41 : decode (mC mMo_copy) 41 = .ok (.iload_n 3, 1) := by decide +kernel
theorem dMo_copy_42 : decode (mC mMo_copy) 42 = .ok (.bipush (20), 2) := by decide +kernel
theorem dMo_copy_44 : decode (mC mMo_copy) 44 = .ok (.if_icmp .ge (31), 3) := by decide +kernel
theorem dMo_copy_47 : decode (mC mMo_copy) 47 = .ok (.aload_n 0, 1) := by decide +kernel
theorem dMo_copy_48 : decode (mC mMo_copy) 48 = .ok (.getfield 41, 3) := by decide +kernel
theorem dMo_copy_51 : decode (mC mMo_copy) 51 = .ok (.bipush (20), 2) := by decide +kernel
theorem dMo_copy_53 : decode (mC mMo_copy) 53 = .ok (.iload_n 2, 1) := by decide +kernel
theorem dMo_copy_54 : decode (mC mMo_copy) 54 = .ok (.imul, 1) := by decide +kernel
theorem dMo_copy_55 : decode (mC mMo_copy) 55 = .ok (.iload_n 3, 1) := by decide +kernel
theorem dMo_copy_56 : decode (mC mMo_copy) 56 = .ok (.iadd, 1) := by decide +kernel
theorem dMo_copy_57 : decode (mC mMo_copy) 57 = .ok (.aload_n 0, 1) := by decide +kernel
theorem dMo_copy_58 : decode (mC mMo_copy) 58 = .ok (.getfield 41, 3) := by decide +kernel
theorem dMo_copy_61 : decode (mC mMo_copy) 61 = .ok (.bipush (20), 2) := by decide +kernel
theorem dMo_copy_63 : decode (mC mMo_copy) 63 = .ok (.iload_n 1, 1) := by decide +kernel
theorem dMo_copy_64 : decode (mC mMo_copy) 64 = .ok (.imul, 1) := by decide +kernel
theorem dMo_copy_65 : decode (mC mMo_copy) 65 = .ok (.iload_n 3, 1) := by decide +kernel
theorem dMo_copy_66 : decode (mC mMo_copy) 66 = .ok (.iadd, 1) := by decide +kernel
theorem dMo_copy_67 : decode (mC mMo_copy) 67 = .ok (.laload, 1) := by decide +kernel
theorem dMo_copy_68 : decode (mC mMo_copy) 68 = .ok (.lastore, 1) := by decide +kernel
theorem dMo_copy_69 : decode (mC mMo_copy) 69 = .ok (.iinc 3 (1), 3) := by decide +kernel
theorem dMo_copy_72 : decode (mC mMo_copy) 72 = .ok (.goto (-31), 3) := by decide +kernel
theorem dMo_copy_75 : decode (mC mMo_copy) 75 = .ok (.return_, 1) := by decide +kernel
theorem bMo_copy_0 {E : mEn} {d : Nat} {σ : mSt} {Q : mPost} {a1 : Int32} {a2 : Int32} {u3 : Value} : WP E d mMo_copy 0 [.ref 166, .int a1, .int a2, u3] [] σ Q = WP E d mMo_copy 2 [.ref 166, .int a1, .int a2, .int 0] [] σ Q := (w_iconst (v := 0) dMo_copy_0 rfl).trans (w_istore_n (ls' := [.ref 166, .int a1, .int a2, .int 0]) dMo_copy_1 (Nat.le_of_ble_eq_true rfl) rfl)
theorem bMo_copy_2 {E : mEn} {d : Nat} {σ : mSt} {Q : mPost} {a1 : Int32} {a2 : Int32} {a3 : Int32} : WP E d mMo_copy 2 [.ref 166, .int a1, .int a2, .int a3] [] σ Q = (if (nI 600) ≤ a3 then WP E d mMo_copy 39 [.ref 166, .int a1, .int a2, .int a3] [] σ Q else WP E d mMo_copy 9 [.ref 166, .int a1, .int a2, .int a3] [] σ Q) := (w_iload_n dMo_copy_2 rfl).trans ((w_sipush (v := (nI 600)) dMo_copy_3 rfl).trans (w_icmpge (t := 39) dMo_copy_6 (by decide)))
theorem bMo_copy_9 {E : mEn} {d : Nat} {σ : mSt} {Q : mPost} {a1 : Int32} {a2 : Int32} {a3 : Int32} : WP E d mMo_copy 9 [.ref 166, .int a1, .int a2, .int a3] [] σ Q = (if mOut (((nI 600) * a1) + a3) 3000 = true then False else (if mOut (((nI 600) * a2) + a3) 3000 = true then False else WP E d mMo_copy 2 [.ref 166, .int a1, .int a2, .int (a3 + 1)] [] (sI σ 171 (((nI 600) * a2) + a3).toNatClampNeg (σ.1 171 (((nI 600) * a1) + a3).toNatClampNeg)) Q)) := (w_aload_n dMo_copy_9 rfl).trans ((w_getr (r := 171) dMo_copy_10 rz11_35 sh_166 rfl).trans ((w_sipush (v := (nI 600)) dMo_copy_13 rfl).trans ((w_iload_n dMo_copy_16 rfl).trans ((w_imul dMo_copy_17).trans ((w_iload_n dMo_copy_18 rfl).trans ((w_iadd dMo_copy_19).trans ((w_aload_n dMo_copy_20 rfl).trans ((w_getr (r := 171) dMo_copy_21 rz11_35 sh_166 rfl).trans ((w_sipush (v := (nI 600)) dMo_copy_24 rfl).trans ((w_iload_n dMo_copy_27 rfl).trans ((w_imul dMo_copy_28).trans ((w_iload_n dMo_copy_29 rfl).trans ((w_iadd dMo_copy_30).trans ((w_iald dMo_copy_31 sh_171 (by decide)).trans (ite_c ((w_iast dMo_copy_32 sh_171).trans (ite_c ((w_iinc (v := 1) (ls' := [.ref 166, .int a1, .int a2, .int (a3 + 1)]) dMo_copy_33 rfl rfl rfl).trans (w_goto (t := 2) dMo_copy_36 (by decide))))))))))))))))))))
theorem bMo_copy_39 {E : mEn} {d : Nat} {σ : mSt} {Q : mPost} {a1 : Int32} {a2 : Int32} {a3 : Int32} : WP E d mMo_copy 39 [.ref 166, .int a1, .int a2, .int a3] [] σ Q = WP E d mMo_copy 41 [.ref 166, .int a1, .int a2, .int 0] [] σ Q := (w_iconst (v := 0) dMo_copy_39 rfl).trans (w_istore_n (ls' := [.ref 166, .int a1, .int a2, .int 0]) dMo_copy_40 (Nat.le_of_ble_eq_true rfl) rfl)
theorem bMo_copy_41 {E : mEn} {d : Nat} {σ : mSt} {Q : mPost} {a1 : Int32} {a2 : Int32} {a3 : Int32} : WP E d mMo_copy 41 [.ref 166, .int a1, .int a2, .int a3] [] σ Q = (if (nI 20) ≤ a3 then WP E d mMo_copy 75 [.ref 166, .int a1, .int a2, .int a3] [] σ Q else WP E d mMo_copy 47 [.ref 166, .int a1, .int a2, .int a3] [] σ Q) := (w_iload_n dMo_copy_41 rfl).trans ((w_bipush (v := (nI 20)) dMo_copy_42 rfl).trans (w_icmpge (t := 75) dMo_copy_44 (by decide)))
theorem bMo_copy_47 {E : mEn} {d : Nat} {σ : mSt} {Q : mPost} {a1 : Int32} {a2 : Int32} {a3 : Int32} : WP E d mMo_copy 47 [.ref 166, .int a1, .int a2, .int a3] [] σ Q = (if mOut (((nI 20) * a1) + a3) 100 = true then False else (if mOut (((nI 20) * a2) + a3) 100 = true then False else WP E d mMo_copy 41 [.ref 166, .int a1, .int a2, .int (a3 + 1)] [] (sL σ 173 (((nI 20) * a2) + a3).toNatClampNeg (σ.2 173 (((nI 20) * a1) + a3).toNatClampNeg)) Q)) := (w_aload_n dMo_copy_47 rfl).trans ((w_getr (r := 173) dMo_copy_48 rz11_41 sh_166 rfl).trans ((w_bipush (v := (nI 20)) dMo_copy_51 rfl).trans ((w_iload_n dMo_copy_53 rfl).trans ((w_imul dMo_copy_54).trans ((w_iload_n dMo_copy_55 rfl).trans ((w_iadd dMo_copy_56).trans ((w_aload_n dMo_copy_57 rfl).trans ((w_getr (r := 173) dMo_copy_58 rz11_41 sh_166 rfl).trans ((w_bipush (v := (nI 20)) dMo_copy_61 rfl).trans ((w_iload_n dMo_copy_63 rfl).trans ((w_imul dMo_copy_64).trans ((w_iload_n dMo_copy_65 rfl).trans ((w_iadd dMo_copy_66).trans ((w_lald dMo_copy_67 sh_173).trans (ite_c ((w_last dMo_copy_68 sh_173).trans (ite_c ((w_iinc (v := 1) (ls' := [.ref 166, .int a1, .int a2, .int (a3 + 1)]) dMo_copy_69 rfl rfl rfl).trans (w_goto (t := 41) dMo_copy_72 (by decide))))))))))))))))))))
theorem bMo_copy_75 {E : mEn} {d : Nat} {σ : mSt} {Q : mPost} {a1 : Int32} {a2 : Int32} {a3 : Int32} : WP E d mMo_copy 75 [.ref 166, .int a1, .int a2, .int a3] [] σ Q = Q none σ := w_vret dMo_copy_75 rfl
theorem dMo_days_0 : decode (mC mMo_days) 0 = .ok (.aload_n 0, 1) := by decide +kernel
theorem dMo_days_1 : decode (mC mMo_days) 1 = .ok (.iconst (0), 1) := by decide +kernel
theorem dMo_days_2 : decode (mC mMo_days) 2 = .ok (.putfield 74, 3) := by decide +kernel
theorem dMo_days_5 : decode (mC mMo_days) 5 = .ok (.aload_n 0, 1) := by decide +kernel
theorem dMo_days_6 : decode (mC mMo_days) 6 = .ok (.iconst (0), 1) := by decide +kernel
theorem dMo_days_7 : decode (mC mMo_days) 7 = .ok (.putfield 77, 3) := by decide +kernel
theorem dMo_days_10 : decode (mC mMo_days) 10 = .ok (.aload_n 0, 1) := by decide +kernel
theorem dMo_days_11 : decode (mC mMo_days) 11 = .ok (.iload_n 1, 1) := by decide +kernel
theorem dMo_days_12 : decode (mC mMo_days) 12 = .ok (.sipush (300), 3) := by decide +kernel
theorem dMo_days_15 : decode (mC mMo_days) 15 = .ok (.invokevirtual 280, 3) := by decide +kernel
theorem dMo_days_18 : decode (mC mMo_days) 18 = .ok (.ifCond .ne (5), 3) := by decide +kernel
theorem dMo_days_21 : decode (mC mMo_days) 21 = .ok (.iconst (-1), 1) := by decide +kernel
theorem dMo_days_22 : decode (mC mMo_days) 22 = .ok (.ireturn, 1) := by decide +kernel
theorem dMo_days_23 : decode (mC mMo_days) 23 = .ok (.aload_n 0, 1) := by decide +kernel
theorem dMo_days_24 : decode (mC mMo_days) 24 = .ok (.iconst (0), 1) := by decide +kernel
theorem dMo_days_25 : decode (mC mMo_days) 25 = .ok (.putfield 308, 3) := by decide +kernel
theorem dMo_days_28 : decode (mC mMo_days) 28 = .ok (.aload_n 0, 1) := by decide +kernel
theorem dMo_days_29 : decode (mC mMo_days) 29 = .ok (.getfield 219, 3) := by decide +kernel
theorem dMo_days_32 : decode (mC mMo_days) 32 = .ok (.ifCond .ne (18), 3) := by decide +kernel
theorem dMo_days_35 : decode (mC mMo_days) 35 = .ok (.aload_n 0, 1) := by decide +kernel
theorem dMo_days_36 : decode (mC mMo_days) 36 = .ok (.getfield 125, 3) := by decide +kernel
theorem dMo_days_39 : decode (mC mMo_days) 39 = .ok (.ifCond .eq (11), 3) := by decide +kernel
theorem dMo_days_42 : decode (mC mMo_days) 42 = .ok (.aload_n 0, 1) := by decide +kernel
theorem dMo_days_43 : decode (mC mMo_days) 43 = .ok (.iconst (0), 1) := by decide +kernel
theorem dMo_days_44 : decode (mC mMo_days) 44 = .ok (.invokevirtual 314, 3) := by decide +kernel
theorem dMo_days_47 : decode (mC mMo_days) 47 = .ok (.goto (-19), 3) := by decide +kernel
theorem dMo_days_50 : decode (mC mMo_days) 50 = .ok (.aload_n 0, 1) := by decide +kernel
theorem dMo_days_51 : decode (mC mMo_days) 51 = .ok (.invokevirtual 299, 3) := by decide +kernel
theorem dMo_days_54 : decode (mC mMo_days) 54 = .ok (.ifCond .ne (5), 3) := by decide +kernel
theorem dMo_days_57 : decode (mC mMo_days) 57 = .ok (.iconst (-1), 1) := by decide +kernel
theorem dMo_days_58 : decode (mC mMo_days) 58 = .ok (.ireturn, 1) := by decide +kernel
theorem dMo_days_59 : decode (mC mMo_days) 59 = .ok (.aload_n 0, 1) := by decide +kernel
theorem dMo_days_60 : decode (mC mMo_days) 60 = .ok (.getfield 35, 3) := by decide +kernel
theorem dMo_days_63 : decode (mC mMo_days) 63 = .ok (.sipush (322), 3) := by decide +kernel
theorem dMo_days_66 : decode (mC mMo_days) 66 = .ok (.iconst (1), 1) := by decide +kernel
theorem dMo_days_67 : decode (mC mMo_days) 67 = .ok (.iastore, 1) := by decide +kernel
theorem dMo_days_68 : decode (mC mMo_days) 68 = .ok (.aload_n 0, 1) := by decide +kernel
theorem dMo_days_69 : decode (mC mMo_days) 69 = .ok (.getfield 35, 3) := by decide +kernel
theorem dMo_days_72 : decode (mC mMo_days) 72 = .ok (.sipush (323), 3) := by decide +kernel
theorem dMo_days_75 : decode (mC mMo_days) 75 = .ok (.aload_n 0, 1) := by decide +kernel
theorem dMo_days_76 : decode (mC mMo_days) 76 = .ok (.getfield 308, 3) := by decide +kernel
theorem dMo_days_79 : decode (mC mMo_days) 79 = .ok (.iastore, 1) := by decide +kernel
theorem dMo_days_80 : decode (mC mMo_days) 80 = .ok (.iconst (0), 1) := by decide +kernel
theorem dMo_days_81 : decode (mC mMo_days) 81 = .ok (.istore_n 2, 1) := by decide +kernel
theorem dMo_days_82 : decode (mC mMo_days) 82 = .ok (.iload_n 2, 1) := by decide +kernel
theorem dMo_days_83 : decode (mC mMo_days) 83 = .ok (.bipush (9), 2) := by decide +kernel
theorem dMo_days_85 : decode (mC mMo_days) 85 = .ok (.aload_n 0, 1) := by decide +kernel
theorem dMo_days_86 : decode (mC mMo_days) 86 = .ok (.getfield 308, 3) := by decide +kernel
theorem dMo_days_89 : decode (mC mMo_days) 89 = .ok (.imul, 1) := by decide +kernel
theorem dMo_days_90 : decode (mC mMo_days) 90 = .ok (.if_icmp .ge (29), 3) := by decide +kernel
theorem dMo_days_93 : decode (mC mMo_days) 93 = .ok (.aload_n 0, 1) := by decide +kernel
theorem dMo_days_94 : decode (mC mMo_days) 94 = .ok (.getfield 35, 3) := by decide +kernel
theorem dMo_days_97 : decode (mC mMo_days) 97 = .ok (.sipush (324), 3) := by decide +kernel
theorem dMo_days_100 : decode (mC mMo_days) 100 = .ok (.iload_n 2, 1) := by decide +kernel
theorem dMo_days_101 : decode (mC mMo_days) 101 = .ok (.iadd, 1) := by decide +kernel
theorem dMo_days_102 : decode (mC mMo_days) 102 = .ok (.aload_n 0, 1) := by decide +kernel
theorem dMo_days_103 : decode (mC mMo_days) 103 = .ok (.getfield 35, 3) := by decide +kernel
theorem dMo_days_106 : decode (mC mMo_days) 106 = .ok (.sipush (2724), 3) := by decide +kernel
theorem dMo_days_109 : decode (mC mMo_days) 109 = .ok (.iload_n 2, 1) := by decide +kernel
theorem dMo_days_110 : decode (mC mMo_days) 110 = .ok (.iadd, 1) := by decide +kernel
theorem dMo_days_111 : decode (mC mMo_days) 111 = .ok (.iaload, 1) := by decide +kernel
theorem dMo_days_112 : decode (mC mMo_days) 112 = .ok (.iastore, 1) := by decide +kernel
theorem dMo_days_113 : decode (mC mMo_days) 113 = .ok (.iinc 2 (1), 3) := by decide +kernel
theorem dMo_days_116 : decode (mC mMo_days) 116 = .ok (.goto (-34), 3) := by decide +kernel
theorem dMo_days_119 : decode (mC mMo_days) 119 = .ok (.aload_n 0, 1) := by decide +kernel
theorem dMo_days_120 : decode (mC mMo_days) 120 = .ok (.getfield 308, 3) := by decide +kernel
theorem dMo_days_123 : decode (mC mMo_days) 123 = .ok (.ireturn, 1) := by decide +kernel
theorem bMo_days_0 {E : mEn} {d : Nat} {σ : mSt} {Q : mPost} {a1 : Int32} {u2 : Value} : WP E (d + 1) mMo_days 0 [.ref 166, .int a1, u2] [] σ Q = WP E d mMo_opens 0 [.ref 166, .int a1, .int (nI 300)] [] (sI (sI σ 166 1 0) 166 0 0) (fun r σ' => WP E (d + 1) mMo_days 18 [.ref 166, .int a1, u2] (r.toList ++ []) σ' Q) := (w_aload_n dMo_days_0 rfl).trans ((w_iconst (v := 0) dMo_days_1 rfl).trans ((w_puti dMo_days_2 rz11_74 sh_166 rfl rfl rfl).trans ((w_aload_n dMo_days_5 rfl).trans ((w_iconst (v := 0) dMo_days_6 rfl).trans ((w_puti dMo_days_7 rz11_77 sh_166 rfl rfl rfl).trans ((w_aload_n dMo_days_10 rfl).trans ((w_iload_n dMo_days_11 rfl).trans ((w_sipush (v := (nI 300)) dMo_days_12 rfl).trans (w_virt (vs := [.int a1, .int (nI 300)]) (st' := []) (es := [.ref 166, .int a1, .int (nI 300)]) dMo_days_15 rz11_280 rfl sh_166 rfl rfl rfl (Nat.le_of_ble_eq_true rfl) (Nat.le_of_ble_eq_true rfl) rfl)))))))))
theorem bMo_days_18 {E : mEn} {d : Nat} {σ : mSt} {Q : mPost} {a1 : Int32} {u2 : Value} {s0 : Int32} : WP E d mMo_days 18 [.ref 166, .int a1, u2] [.int s0] σ Q = (if ¬ s0 = 0 then WP E d mMo_days 23 [.ref 166, .int a1, u2] [] σ Q else WP E d mMo_days 21 [.ref 166, .int a1, u2] [] σ Q) := w_ifne (t := 23) dMo_days_18 (by decide)
theorem bMo_days_21 {E : mEn} {d : Nat} {σ : mSt} {Q : mPost} {a1 : Int32} {u2 : Value} : WP E d mMo_days 21 [.ref 166, .int a1, u2] [] σ Q = Q (some (.int (-1))) σ := (w_iconst (v := (-1)) dMo_days_21 rfl).trans (w_iret dMo_days_22 rfl)
theorem bMo_days_23 {E : mEn} {d : Nat} {σ : mSt} {Q : mPost} {a1 : Int32} {u2 : Value} : WP E d mMo_days 23 [.ref 166, .int a1, u2] [] σ Q = WP E d mMo_days 28 [.ref 166, .int a1, u2] [] (sI σ 166 24 0) Q := (w_aload_n dMo_days_23 rfl).trans ((w_iconst (v := 0) dMo_days_24 rfl).trans (w_puti dMo_days_25 rz11_308 sh_166 rfl rfl rfl))
theorem bMo_days_28 {E : mEn} {d : Nat} {σ : mSt} {Q : mPost} {a1 : Int32} {u2 : Value} : WP E d mMo_days 28 [.ref 166, .int a1, u2] [] σ Q = (if ¬ (σ.1 166 12) = 0 then WP E d mMo_days 50 [.ref 166, .int a1, u2] [] σ Q else WP E d mMo_days 35 [.ref 166, .int a1, u2] [] σ Q) := (w_aload_n dMo_days_28 rfl).trans ((w_geti dMo_days_29 rz11_219 sh_166 rfl).trans (w_ifne (t := 50) dMo_days_32 (by decide)))
theorem bMo_days_35 {E : mEn} {d : Nat} {σ : mSt} {Q : mPost} {a1 : Int32} {u2 : Value} : WP E d mMo_days 35 [.ref 166, .int a1, u2] [] σ Q = (if (σ.1 166 14) = 0 then WP E d mMo_days 50 [.ref 166, .int a1, u2] [] σ Q else WP E d mMo_days 42 [.ref 166, .int a1, u2] [] σ Q) := (w_aload_n dMo_days_35 rfl).trans ((w_geti dMo_days_36 rz11_125 sh_166 rfl).trans (w_ifeq (t := 50) dMo_days_39 (by decide)))
theorem bMo_days_42 {E : mEn} {d : Nat} {σ : mSt} {Q : mPost} {a1 : Int32} {u2 : Value} : WP E (d + 1) mMo_days 42 [.ref 166, .int a1, u2] [] σ Q = WP E d mMo_readStep 0 [.ref 166, .int 0, uu, uu, uu] [] σ (fun r σ' => WP E (d + 1) mMo_days 47 [.ref 166, .int a1, u2] (r.toList ++ []) σ' Q) := (w_aload_n dMo_days_42 rfl).trans ((w_iconst (v := 0) dMo_days_43 rfl).trans (w_virt (vs := [.int 0]) (st' := []) (es := [.ref 166, .int 0, uu, uu, uu]) dMo_days_44 rz11_314 rfl sh_166 rfl rfl rfl (Nat.le_of_ble_eq_true rfl) (Nat.le_of_ble_eq_true rfl) rfl))
theorem bMo_days_47 {E : mEn} {d : Nat} {σ : mSt} {Q : mPost} {a1 : Int32} {u2 : Value} : WP E d mMo_days 47 [.ref 166, .int a1, u2] [] σ Q = WP E d mMo_days 28 [.ref 166, .int a1, u2] [] σ Q := w_goto (t := 28) dMo_days_47 (by decide)
theorem bMo_days_50 {E : mEn} {d : Nat} {σ : mSt} {Q : mPost} {a1 : Int32} {u2 : Value} : WP E (d + 1) mMo_days 50 [.ref 166, .int a1, u2] [] σ Q = WP E d mMo_isWell 0 [.ref 166] [] σ (fun r σ' => WP E (d + 1) mMo_days 54 [.ref 166, .int a1, u2] (r.toList ++ []) σ' Q) := (w_aload_n dMo_days_50 rfl).trans (w_virt (vs := []) (st' := []) (es := [.ref 166]) dMo_days_51 rz11_299 rfl sh_166 rfl rfl rfl (Nat.le_of_ble_eq_true rfl) (Nat.le_of_ble_eq_true rfl) rfl)
theorem bMo_days_54 {E : mEn} {d : Nat} {σ : mSt} {Q : mPost} {a1 : Int32} {u2 : Value} {s0 : Int32} : WP E d mMo_days 54 [.ref 166, .int a1, u2] [.int s0] σ Q = (if ¬ s0 = 0 then WP E d mMo_days 59 [.ref 166, .int a1, u2] [] σ Q else WP E d mMo_days 57 [.ref 166, .int a1, u2] [] σ Q) := w_ifne (t := 59) dMo_days_54 (by decide)
theorem bMo_days_57 {E : mEn} {d : Nat} {σ : mSt} {Q : mPost} {a1 : Int32} {u2 : Value} : WP E d mMo_days 57 [.ref 166, .int a1, u2] [] σ Q = Q (some (.int (-1))) σ := (w_iconst (v := (-1)) dMo_days_57 rfl).trans (w_iret dMo_days_58 rfl)
theorem bMo_days_59 {E : mEn} {d : Nat} {σ : mSt} {Q : mPost} {a1 : Int32} {u2 : Value} : WP E d mMo_days 59 [.ref 166, .int a1, u2] [] σ Q = (if mOut (nI 322) 3000 = true then False else (if mOut (nI 323) 3000 = true then False else WP E d mMo_days 82 [.ref 166, .int a1, .int 0] [] (sI (sI σ 171 322 1) 171 323 ((sI σ 171 322 1).1 166 24)) Q)) := (w_aload_n dMo_days_59 rfl).trans ((w_getr (r := 171) dMo_days_60 rz11_35 sh_166 rfl).trans ((w_sipush (v := (nI 322)) dMo_days_63 rfl).trans ((w_iconst (v := 1) dMo_days_66 rfl).trans ((w_iast dMo_days_67 sh_171).trans (ite_c ((w_aload_n dMo_days_68 rfl).trans ((w_getr (r := 171) dMo_days_69 rz11_35 sh_166 rfl).trans ((w_sipush (v := (nI 323)) dMo_days_72 rfl).trans ((w_aload_n dMo_days_75 rfl).trans ((w_geti dMo_days_76 rz11_308 sh_166 rfl).trans ((w_iast dMo_days_79 sh_171).trans (ite_c ((w_iconst (v := 0) dMo_days_80 rfl).trans (w_istore_n (ls' := [.ref 166, .int a1, .int 0]) dMo_days_81 (Nat.le_of_ble_eq_true rfl) rfl))))))))))))))
theorem bMo_days_82 {E : mEn} {d : Nat} {σ : mSt} {Q : mPost} {a1 : Int32} {a2 : Int32} : WP E d mMo_days 82 [.ref 166, .int a1, .int a2] [] σ Q = (if ((nI 9) * (σ.1 166 24)) ≤ a2 then WP E d mMo_days 119 [.ref 166, .int a1, .int a2] [] σ Q else WP E d mMo_days 93 [.ref 166, .int a1, .int a2] [] σ Q) := (w_iload_n dMo_days_82 rfl).trans ((w_bipush (v := (nI 9)) dMo_days_83 rfl).trans ((w_aload_n dMo_days_85 rfl).trans ((w_geti dMo_days_86 rz11_308 sh_166 rfl).trans ((w_imul dMo_days_89).trans (w_icmpge (t := 119) dMo_days_90 (by decide))))))
theorem bMo_days_93 {E : mEn} {d : Nat} {σ : mSt} {Q : mPost} {a1 : Int32} {a2 : Int32} : WP E d mMo_days 93 [.ref 166, .int a1, .int a2] [] σ Q = (if mOut ((nI 2724) + a2) 3000 = true then False else (if mOut ((nI 324) + a2) 3000 = true then False else WP E d mMo_days 82 [.ref 166, .int a1, .int (a2 + 1)] [] (sI σ 171 ((nI 324) + a2).toNatClampNeg (σ.1 171 ((nI 2724) + a2).toNatClampNeg)) Q)) := (w_aload_n dMo_days_93 rfl).trans ((w_getr (r := 171) dMo_days_94 rz11_35 sh_166 rfl).trans ((w_sipush (v := (nI 324)) dMo_days_97 rfl).trans ((w_iload_n dMo_days_100 rfl).trans ((w_iadd dMo_days_101).trans ((w_aload_n dMo_days_102 rfl).trans ((w_getr (r := 171) dMo_days_103 rz11_35 sh_166 rfl).trans ((w_sipush (v := (nI 2724)) dMo_days_106 rfl).trans ((w_iload_n dMo_days_109 rfl).trans ((w_iadd dMo_days_110).trans ((w_iald dMo_days_111 sh_171 (by decide)).trans (ite_c ((w_iast dMo_days_112 sh_171).trans (ite_c ((w_iinc (v := 1) (ls' := [.ref 166, .int a1, .int (a2 + 1)]) dMo_days_113 rfl rfl rfl).trans (w_goto (t := 82) dMo_days_116 (by decide))))))))))))))))
theorem bMo_days_119 {E : mEn} {d : Nat} {σ : mSt} {Q : mPost} {a1 : Int32} {a2 : Int32} : WP E d mMo_days 119 [.ref 166, .int a1, .int a2] [] σ Q = Q (some (.int (σ.1 166 24))) σ := (w_aload_n dMo_days_119 rfl).trans ((w_geti dMo_days_120 rz11_308 sh_166 rfl).trans (w_iret dMo_days_123 rfl))
theorem dMo_readStep_0 : decode (mC mMo_readStep) 0 = .ok (.aload_n 0, 1) := by decide +kernel
theorem dMo_readStep_1 : decode (mC mMo_readStep) 1 = .ok (.invokevirtual 206, 3) := by decide +kernel
theorem dMo_readStep_4 : decode (mC mMo_readStep) 4 = .ok (.istore_n 2, 1) := by decide +kernel
theorem dMo_readStep_5 : decode (mC mMo_readStep) 5 = .ok (.iload_n 2, 1) := by decide +kernel
theorem dMo_readStep_6 : decode (mC mMo_readStep) 6 = .ok (.bipush (6), 2) := by decide +kernel
theorem dMo_readStep_8 : decode (mC mMo_readStep) 8 = .ok (.if_icmp .eq (9), 3) := by decide +kernel
theorem dMo_readStep_11 : decode (mC mMo_readStep) 11 = .ok (.iload_n 2, 1) := by decide +kernel
theorem dMo_readStep_12 : decode (mC mMo_readStep) 12 = .ok (.bipush (7), 2) := by decide +kernel
theorem dMo_readStep_14 : decode (mC mMo_readStep) 14 = .ok (.if_icmp .ne (7), 3) := by decide +kernel
theorem dMo_readStep_17 : decode (mC mMo_readStep) 17 = .ok (.iconst (1), 1) := by decide +kernel
theorem dMo_readStep_18 : decode (mC mMo_readStep) 18 = .ok (.goto (4), 3) := by decide +kernel
theorem dMo_readStep_21 : decode (mC mMo_readStep) 21 = .ok (.iconst (0), 1) := by decide +kernel
theorem dMo_readStep_22 : decode (mC mMo_readStep) 22 = .ok (.istore_n 3, 1) := by decide +kernel
theorem dMo_readStep_23 : decode (mC mMo_readStep) 23 = .ok (.iload_n 2, 1) := by decide +kernel
theorem dMo_readStep_24 : decode (mC mMo_readStep) 24 = .ok (.ifCond .ge (7), 3) := by decide +kernel
theorem dMo_readStep_27 : decode (mC mMo_readStep) 27 = .ok (.aload_n 0, 1) := by decide +kernel
theorem dMo_readStep_28 : decode (mC mMo_readStep) 28 = .ok (.invokevirtual 232, 3) := by decide +kernel
theorem dMo_readStep_31 : decode (mC mMo_readStep) 31 = .ok (.aload_n 0, 1) := by decide +kernel
theorem dMo_readStep_32 : decode (mC mMo_readStep) 32 = .ok (.getfield 219, 3) := by decide +kernel
theorem dMo_readStep_35 : decode (mC mMo_readStep) 35 = .ok (.ifCond .ne (22), 3) := by decide +kernel
theorem dMo_readStep_38 : decode (mC mMo_readStep) 38 = .ok (.aload_n 0, 1) := by decide +kernel
theorem dMo_readStep_39 : decode (mC mMo_readStep) 39 = .ok (.getfield 308, 3) := by decide +kernel
theorem dMo_readStep_42 : decode (mC mMo_readStep) 42 = .ok (.bipush (30), 2) := by decide +kernel
theorem dMo_readStep_44 : decode (mC mMo_readStep) 44 = .ok (.if_icmp .ne (13), 3) := by decide +kernel
theorem dMo_readStep_47 : decode (mC mMo_readStep) 47 = .ok (.aload_n 0, 1) := by decide +kernel
theorem dMo_readStep_48 : decode (mC mMo_readStep) 48 = .ok (.bipush (6), 2) := by decide +kernel
theorem dMo_readStep_50 : decode (mC mMo_readStep) 50 = .ok (.aload_n 0, 1) := by decide +kernel
theorem dMo_readStep_51 : decode (mC mMo_readStep) 51 = .ok (.getfield 119, 3) := by decide +kernel
theorem dMo_readStep_54 : decode (mC mMo_readStep) 54 = .ok (.invokevirtual 225, 3) := by decide +kernel
theorem dMo_readStep_57 : decode (mC mMo_readStep) 57 = .ok (.aload_n 0, 1) := by decide +kernel
theorem dMo_readStep_58 : decode (mC mMo_readStep) 58 = .ok (.getfield 219, 3) := by decide +kernel
theorem dMo_readStep_61 : decode (mC mMo_readStep) 61 = .ok (.ifCond .ne (22), 3) := by decide +kernel
theorem dMo_readStep_64 : decode (mC mMo_readStep) 64 = .ok (.iload_n 3, 1) := by decide +kernel
theorem dMo_readStep_65 : decode (mC mMo_readStep) 65 = .ok (.ifCond .eq (18), 3) := by decide +kernel
theorem dMo_readStep_68 : decode (mC mMo_readStep) 68 = .ok (.iload_n 1, 1) := by decide +kernel
theorem dMo_readStep_69 : decode (mC mMo_readStep) 69 = .ok (.iconst (3), 1) := by decide +kernel
theorem dMo_readStep_70 : decode (mC mMo_readStep) 70 = .ok (.if_icmp .ne (13), 3) := by decide +kernel
theorem dMo_readStep_73 : decode (mC mMo_readStep) 73 = .ok (.aload_n 0, 1) := by decide +kernel
theorem dMo_readStep_74 : decode (mC mMo_readStep) 74 = .ok (.bipush (7), 2) := by decide +kernel
theorem dMo_readStep_76 : decode (mC mMo_readStep) 76 = .ok (.aload_n 0, 1) := by decide +kernel
theorem dMo_readStep_77 : decode (mC mMo_readStep) 77 = .ok (.getfield 119, 3) := by decide +kernel
theorem dMo_readStep_80 : decode (mC mMo_readStep) 80 = .ok (.invokevirtual 225, 3) := by decide +kernel
theorem dMo_readStep_83 : decode (mC mMo_readStep) 83 = .ok (.aload_n 0, 1) := by decide +kernel
theorem dMo_readStep_84 : decode (mC mMo_readStep) 84 = .ok (.getfield 219, 3) := by decide +kernel
theorem dMo_readStep_87 : decode (mC mMo_readStep) 87 = .ok (.ifCond .le (4), 3) := by decide +kernel
theorem dMo_readStep_90 : decode (mC mMo_readStep) 90 = .ok (.return_, 1) := by decide +kernel
theorem dMo_readStep_91 : decode (mC mMo_readStep) 91 = .ok (.sipush (2724), 3) := by decide +kernel
theorem dMo_readStep_94 : decode (mC mMo_readStep) 94 = .ok (.bipush (9), 2) := by decide +kernel
theorem dMo_readStep_96 : decode (mC mMo_readStep) 96 = .ok (.aload_n 0, 1) := by decide +kernel
theorem dMo_readStep_97 : decode (mC mMo_readStep) 97 = .ok (.getfield 308, 3) := by decide +kernel
theorem dMo_readStep_100 : decode (mC mMo_readStep) 100 = .ok (.imul, 1) := by decide +kernel
theorem dMo_readStep_101 : decode (mC mMo_readStep) 101 = .ok (.iadd, 1) := by decide +kernel
theorem dMo_readStep_102 : decode (mC mMo_readStep) 102 = .ok (.istore 4, 2) := by decide +kernel
theorem dMo_readStep_104 : decode (mC mMo_readStep) 104 = .ok (.aload_n 0, 1) := by decide +kernel
theorem dMo_readStep_105 : decode (mC mMo_readStep) 105 = .ok (.dup, 1) := by decide +kernel
theorem dMo_readStep_106 : decode (mC mMo_readStep) 106 = .ok (.getfield 308, 3) := by decide +kernel
theorem dMo_readStep_109 : decode (mC mMo_readStep) 109 = .ok (.iconst (1), 1) := by decide +kernel
theorem dMo_readStep_110 : decode (mC mMo_readStep) 110 = .ok (.iadd, 1) := by decide +kernel
theorem dMo_readStep_111 : decode (mC mMo_readStep) 111 = .ok (.putfield 308, 3) := by decide +kernel
theorem dMo_readStep_114 : decode (mC mMo_readStep) 114 = .ok (.aload_n 0, 1) := by decide +kernel
theorem dMo_readStep_115 : decode (mC mMo_readStep) 115 = .ok (.invokevirtual 229, 3) := by decide +kernel
theorem dMo_readStep_118 : decode (mC mMo_readStep) 118 = .ok (.aload_n 0, 1) := by decide +kernel
theorem dMo_readStep_119 : decode (mC mMo_readStep) 119 = .ok (.getfield 35, 3) := by decide +kernel
theorem dMo_readStep_122 : decode (mC mMo_readStep) 122 = .ok (.iload 4, 2) := by decide +kernel
theorem dMo_readStep_124 : decode (mC mMo_readStep) 124 = .ok (.iload_n 2, 1) := by decide +kernel
theorem dMo_readStep_125 : decode (mC mMo_readStep) 125 = .ok (.iastore, 1) := by decide +kernel
theorem dMo_readStep_126 : decode (mC mMo_readStep) 126 = .ok (.aload_n 0, 1) := by decide +kernel
theorem dMo_readStep_127 : decode (mC mMo_readStep) 127 = .ok (.iload 4, 2) := by decide +kernel
theorem dMo_readStep_129 : decode (mC mMo_readStep) 129 = .ok (.invokevirtual 311, 3) := by decide +kernel
theorem dMo_readStep_132 : decode (mC mMo_readStep) 132 = .ok (.aload_n 0, 1) := by decide +kernel
theorem dMo_readStep_133 : decode (mC mMo_readStep) 133 = .ok (.aload_n 0, 1) := by decide +kernel
theorem dMo_readStep_134 : decode (mC mMo_readStep) 134 = .ok (.bipush (59), 2) := by decide +kernel
theorem dMo_readStep_136 : decode (mC mMo_readStep) 136 = .ok (.invokevirtual 296, 3) := by decide +kernel
theorem dMo_readStep_139 : decode (mC mMo_readStep) 139 = .ok (.invokevirtual 264, 3) := by decide +kernel
theorem dMo_readStep_142 : decode (mC mMo_readStep) 142 = .ok (.iload_n 3, 1) := by decide +kernel
theorem dMo_readStep_143 : decode (mC mMo_readStep) 143 = .ok (.ifCond .eq (27), 3) := by decide +kernel
theorem dMo_readStep_146 : decode (mC mMo_readStep) 146 = .ok (.aload_n 0, 1) := by decide +kernel
theorem dMo_readStep_147 : decode (mC mMo_readStep) 147 = .ok (.getfield 219, 3) := by decide +kernel
theorem dMo_readStep_150 : decode (mC mMo_readStep) 150 = .ok (.ifCond .ne (20), 3) := by decide +kernel
theorem dMo_readStep_153 : decode (mC mMo_readStep) 153 = .ok (.aload_n 0, 1) := by decide +kernel
theorem dMo_readStep_154 : decode (mC mMo_readStep) 154 = .ok (.invokevirtual 213, 3) := by decide +kernel
theorem dMo_readStep_157 : decode (mC mMo_readStep) 157 = .ok (.ifCond .ne (13), 3) := by decide +kernel
theorem dMo_readStep_160 : decode (mC mMo_readStep) 160 = .ok (.aload_n 0, 1) := by decide +kernel
theorem dMo_readStep_161 : decode (mC mMo_readStep) 161 = .ok (.iload_n 1, 1) := by decide +kernel
theorem dMo_readStep_162 : decode (mC mMo_readStep) 162 = .ok (.iconst (1), 1) := by decide +kernel
theorem dMo_readStep_163 : decode (mC mMo_readStep) 163 = .ok (.iadd, 1) := by decide +kernel
theorem dMo_readStep_164 : decode (mC mMo_readStep) 164 = .ok (.invokevirtual 314, 3) := by decide +kernel
theorem dMo_readStep_167 : decode (mC mMo_readStep) 167 = .ok (.goto (-25), 3) := by decide +kernel
theorem dMo_readStep_170 : decode (mC mMo_readStep) 170 = .ok (.iload_n 3, 1) := by decide +kernel
theorem dMo_readStep_171 : decode (mC mMo_readStep) 171 = .ok (.ifCond .eq (21), 3) := by decide +kernel
theorem dMo_readStep_174 : decode (mC mMo_readStep) 174 = .ok (.aload_n 0, 1) := by decide +kernel
theorem dMo_readStep_175 : decode (mC mMo_readStep) 175 = .ok (.aload_n 0, 1) := by decide +kernel
theorem dMo_readStep_176 : decode (mC mMo_readStep) 176 = .ok (.invokevirtual 213, 3) := by decide +kernel
theorem dMo_readStep_179 : decode (mC mMo_readStep) 179 = .ok (.invokevirtual 264, 3) := by decide +kernel
theorem dMo_readStep_182 : decode (mC mMo_readStep) 182 = .ok (.aload_n 0, 1) := by decide +kernel
theorem dMo_readStep_183 : decode (mC mMo_readStep) 183 = .ok (.aload_n 0, 1) := by decide +kernel
theorem dMo_readStep_184 : decode (mC mMo_readStep) 184 = .ok (.bipush (59), 2) := by decide +kernel
theorem dMo_readStep_186 : decode (mC mMo_readStep) 186 = .ok (.invokevirtual 296, 3) := by decide +kernel
theorem dMo_readStep_189 : decode (mC mMo_readStep) 189 = .ok (.invokevirtual 264, 3) := by decide +kernel
theorem dMo_readStep_192 : decode (mC mMo_readStep) 192 = .ok (.aload_n 0, 1) := by decide +kernel
theorem dMo_readStep_193 : decode (mC mMo_readStep) 193 = .ok (.getfield 35, 3) := by decide +kernel
theorem dMo_readStep_196 : decode (mC mMo_readStep) 196 = .ok (.iload 4, 2) := by decide +kernel
theorem dMo_readStep_198 : decode (mC mMo_readStep) 198 = .ok (.bipush (8), 2) := by decide +kernel
theorem dMo_readStep_200 : decode (mC mMo_readStep) 200 = .ok (.iadd, 1) := by decide +kernel
theorem dMo_readStep_201 : decode (mC mMo_readStep) 201 = .ok (.aload_n 0, 1) := by decide +kernel
theorem dMo_readStep_202 : decode (mC mMo_readStep) 202 = .ok (.getfield 308, 3) := by decide +kernel
theorem dMo_readStep_205 : decode (mC mMo_readStep) 205 = .ok (.iastore, 1) := by decide +kernel
theorem dMo_readStep_206 : decode (mC mMo_readStep) 206 = .ok (.return_, 1) := by decide +kernel
theorem bMo_readStep_0 {E : mEn} {d : Nat} {σ : mSt} {Q : mPost} {a1 : Int32} {u2 : Value} {u3 : Value} {u4 : Value} : WP E (d + 1) mMo_readStep 0 [.ref 166, .int a1, u2, u3, u4] [] σ Q = WP E d mMo_stepWord 0 [.ref 166] [] σ (fun r σ' => WP E (d + 1) mMo_readStep 4 [.ref 166, .int a1, u2, u3, u4] (r.toList ++ []) σ' Q) := (w_aload_n dMo_readStep_0 rfl).trans (w_virt (vs := []) (st' := []) (es := [.ref 166]) dMo_readStep_1 rz11_206 rfl sh_166 rfl rfl rfl (Nat.le_of_ble_eq_true rfl) (Nat.le_of_ble_eq_true rfl) rfl)
theorem bMo_readStep_4 {E : mEn} {d : Nat} {σ : mSt} {Q : mPost} {a1 : Int32} {u2 : Value} {u3 : Value} {u4 : Value} {s0 : Int32} : WP E d mMo_readStep 4 [.ref 166, .int a1, u2, u3, u4] [.int s0] σ Q = (if s0 = (nI 6) then WP E d mMo_readStep 17 [.ref 166, .int a1, .int s0, u3, u4] [] σ Q else WP E d mMo_readStep 11 [.ref 166, .int a1, .int s0, u3, u4] [] σ Q) := (w_istore_n (ls' := [.ref 166, .int a1, .int s0, u3, u4]) dMo_readStep_4 (Nat.le_of_ble_eq_true rfl) rfl).trans ((w_iload_n dMo_readStep_5 rfl).trans ((w_bipush (v := (nI 6)) dMo_readStep_6 rfl).trans (w_icmpeq (t := 17) dMo_readStep_8 (by decide))))
theorem bMo_readStep_11 {E : mEn} {d : Nat} {σ : mSt} {Q : mPost} {a1 : Int32} {a2 : Int32} {u3 : Value} {u4 : Value} : WP E d mMo_readStep 11 [.ref 166, .int a1, .int a2, u3, u4] [] σ Q = (if ¬ a2 = (nI 7) then WP E d mMo_readStep 21 [.ref 166, .int a1, .int a2, u3, u4] [] σ Q else WP E d mMo_readStep 17 [.ref 166, .int a1, .int a2, u3, u4] [] σ Q) := (w_iload_n dMo_readStep_11 rfl).trans ((w_bipush (v := (nI 7)) dMo_readStep_12 rfl).trans (w_icmpne (t := 21) dMo_readStep_14 (by decide)))
theorem bMo_readStep_17 {E : mEn} {d : Nat} {σ : mSt} {Q : mPost} {a1 : Int32} {a2 : Int32} {u3 : Value} {u4 : Value} : WP E d mMo_readStep 17 [.ref 166, .int a1, .int a2, u3, u4] [] σ Q = WP E d mMo_readStep 22 [.ref 166, .int a1, .int a2, u3, u4] [.int 1] σ Q := (w_iconst (v := 1) dMo_readStep_17 rfl).trans (w_goto (t := 22) dMo_readStep_18 (by decide))
theorem bMo_readStep_21 {E : mEn} {d : Nat} {σ : mSt} {Q : mPost} {a1 : Int32} {a2 : Int32} {u3 : Value} {u4 : Value} : WP E d mMo_readStep 21 [.ref 166, .int a1, .int a2, u3, u4] [] σ Q = WP E d mMo_readStep 22 [.ref 166, .int a1, .int a2, u3, u4] [.int 0] σ Q := w_iconst (v := 0) dMo_readStep_21 rfl
theorem bMo_readStep_22 {E : mEn} {d : Nat} {σ : mSt} {Q : mPost} {a1 : Int32} {a2 : Int32} {u3 : Value} {u4 : Value} {s0 : Int32} : WP E d mMo_readStep 22 [.ref 166, .int a1, .int a2, u3, u4] [.int s0] σ Q = (if 0 ≤ a2 then WP E d mMo_readStep 31 [.ref 166, .int a1, .int a2, .int s0, u4] [] σ Q else WP E d mMo_readStep 27 [.ref 166, .int a1, .int a2, .int s0, u4] [] σ Q) := (w_istore_n (ls' := [.ref 166, .int a1, .int a2, .int s0, u4]) dMo_readStep_22 (Nat.le_of_ble_eq_true rfl) rfl).trans ((w_iload_n dMo_readStep_23 rfl).trans (w_ifge (t := 31) dMo_readStep_24 (by decide)))
theorem bMo_readStep_27 {E : mEn} {d : Nat} {σ : mSt} {Q : mPost} {a1 : Int32} {a2 : Int32} {a3 : Int32} {u4 : Value} : WP E (d + 1) mMo_readStep 27 [.ref 166, .int a1, .int a2, .int a3, u4] [] σ Q = WP E d mMo_wrong 0 [.ref 166] [] σ (fun r σ' => WP E (d + 1) mMo_readStep 31 [.ref 166, .int a1, .int a2, .int a3, u4] (r.toList ++ []) σ' Q) := (w_aload_n dMo_readStep_27 rfl).trans (w_virt (vs := []) (st' := []) (es := [.ref 166]) dMo_readStep_28 rz11_232 rfl sh_166 rfl rfl rfl (Nat.le_of_ble_eq_true rfl) (Nat.le_of_ble_eq_true rfl) rfl)
theorem bMo_readStep_31 {E : mEn} {d : Nat} {σ : mSt} {Q : mPost} {a1 : Int32} {a2 : Int32} {a3 : Int32} {u4 : Value} : WP E d mMo_readStep 31 [.ref 166, .int a1, .int a2, .int a3, u4] [] σ Q = (if ¬ (σ.1 166 12) = 0 then WP E d mMo_readStep 57 [.ref 166, .int a1, .int a2, .int a3, u4] [] σ Q else WP E d mMo_readStep 38 [.ref 166, .int a1, .int a2, .int a3, u4] [] σ Q) := (w_aload_n dMo_readStep_31 rfl).trans ((w_geti dMo_readStep_32 rz11_219 sh_166 rfl).trans (w_ifne (t := 57) dMo_readStep_35 (by decide)))
theorem bMo_readStep_38 {E : mEn} {d : Nat} {σ : mSt} {Q : mPost} {a1 : Int32} {a2 : Int32} {a3 : Int32} {u4 : Value} : WP E d mMo_readStep 38 [.ref 166, .int a1, .int a2, .int a3, u4] [] σ Q = (if ¬ (σ.1 166 24) = (nI 30) then WP E d mMo_readStep 57 [.ref 166, .int a1, .int a2, .int a3, u4] [] σ Q else WP E d mMo_readStep 47 [.ref 166, .int a1, .int a2, .int a3, u4] [] σ Q) := (w_aload_n dMo_readStep_38 rfl).trans ((w_geti dMo_readStep_39 rz11_308 sh_166 rfl).trans ((w_bipush (v := (nI 30)) dMo_readStep_42 rfl).trans (w_icmpne (t := 57) dMo_readStep_44 (by decide))))
theorem bMo_readStep_47 {E : mEn} {d : Nat} {σ : mSt} {Q : mPost} {a1 : Int32} {a2 : Int32} {a3 : Int32} {u4 : Value} : WP E (d + 1) mMo_readStep 47 [.ref 166, .int a1, .int a2, .int a3, u4] [] σ Q = WP E d mMo_fail 0 [.ref 166, .int (nI 6), .int (σ.1 166 15)] [] σ (fun r σ' => WP E (d + 1) mMo_readStep 57 [.ref 166, .int a1, .int a2, .int a3, u4] (r.toList ++ []) σ' Q) := (w_aload_n dMo_readStep_47 rfl).trans ((w_bipush (v := (nI 6)) dMo_readStep_48 rfl).trans ((w_aload_n dMo_readStep_50 rfl).trans ((w_geti dMo_readStep_51 rz11_119 sh_166 rfl).trans (w_virt (vs := [.int (nI 6), .int (σ.1 166 15)]) (st' := []) (es := [.ref 166, .int (nI 6), .int (σ.1 166 15)]) dMo_readStep_54 rz11_225 rfl sh_166 rfl rfl rfl (Nat.le_of_ble_eq_true rfl) (Nat.le_of_ble_eq_true rfl) rfl))))
theorem bMo_readStep_57 {E : mEn} {d : Nat} {σ : mSt} {Q : mPost} {a1 : Int32} {a2 : Int32} {a3 : Int32} {u4 : Value} : WP E d mMo_readStep 57 [.ref 166, .int a1, .int a2, .int a3, u4] [] σ Q = (if ¬ (σ.1 166 12) = 0 then WP E d mMo_readStep 83 [.ref 166, .int a1, .int a2, .int a3, u4] [] σ Q else WP E d mMo_readStep 64 [.ref 166, .int a1, .int a2, .int a3, u4] [] σ Q) := (w_aload_n dMo_readStep_57 rfl).trans ((w_geti dMo_readStep_58 rz11_219 sh_166 rfl).trans (w_ifne (t := 83) dMo_readStep_61 (by decide)))
theorem bMo_readStep_64 {E : mEn} {d : Nat} {σ : mSt} {Q : mPost} {a1 : Int32} {a2 : Int32} {a3 : Int32} {u4 : Value} : WP E d mMo_readStep 64 [.ref 166, .int a1, .int a2, .int a3, u4] [] σ Q = (if a3 = 0 then WP E d mMo_readStep 83 [.ref 166, .int a1, .int a2, .int a3, u4] [] σ Q else WP E d mMo_readStep 68 [.ref 166, .int a1, .int a2, .int a3, u4] [] σ Q) := (w_iload_n dMo_readStep_64 rfl).trans (w_ifeq (t := 83) dMo_readStep_65 (by decide))
theorem bMo_readStep_68 {E : mEn} {d : Nat} {σ : mSt} {Q : mPost} {a1 : Int32} {a2 : Int32} {a3 : Int32} {u4 : Value} : WP E d mMo_readStep 68 [.ref 166, .int a1, .int a2, .int a3, u4] [] σ Q = (if ¬ a1 = (nI 3) then WP E d mMo_readStep 83 [.ref 166, .int a1, .int a2, .int a3, u4] [] σ Q else WP E d mMo_readStep 73 [.ref 166, .int a1, .int a2, .int a3, u4] [] σ Q) := (w_iload_n dMo_readStep_68 rfl).trans ((w_iconst (v := (nI 3)) dMo_readStep_69 rfl).trans (w_icmpne (t := 83) dMo_readStep_70 (by decide)))
theorem bMo_readStep_73 {E : mEn} {d : Nat} {σ : mSt} {Q : mPost} {a1 : Int32} {a2 : Int32} {a3 : Int32} {u4 : Value} : WP E (d + 1) mMo_readStep 73 [.ref 166, .int a1, .int a2, .int a3, u4] [] σ Q = WP E d mMo_fail 0 [.ref 166, .int (nI 7), .int (σ.1 166 15)] [] σ (fun r σ' => WP E (d + 1) mMo_readStep 83 [.ref 166, .int a1, .int a2, .int a3, u4] (r.toList ++ []) σ' Q) := (w_aload_n dMo_readStep_73 rfl).trans ((w_bipush (v := (nI 7)) dMo_readStep_74 rfl).trans ((w_aload_n dMo_readStep_76 rfl).trans ((w_geti dMo_readStep_77 rz11_119 sh_166 rfl).trans (w_virt (vs := [.int (nI 7), .int (σ.1 166 15)]) (st' := []) (es := [.ref 166, .int (nI 7), .int (σ.1 166 15)]) dMo_readStep_80 rz11_225 rfl sh_166 rfl rfl rfl (Nat.le_of_ble_eq_true rfl) (Nat.le_of_ble_eq_true rfl) rfl))))
theorem bMo_readStep_83 {E : mEn} {d : Nat} {σ : mSt} {Q : mPost} {a1 : Int32} {a2 : Int32} {a3 : Int32} {u4 : Value} : WP E d mMo_readStep 83 [.ref 166, .int a1, .int a2, .int a3, u4] [] σ Q = (if (σ.1 166 12) ≤ 0 then WP E d mMo_readStep 91 [.ref 166, .int a1, .int a2, .int a3, u4] [] σ Q else WP E d mMo_readStep 90 [.ref 166, .int a1, .int a2, .int a3, u4] [] σ Q) := (w_aload_n dMo_readStep_83 rfl).trans ((w_geti dMo_readStep_84 rz11_219 sh_166 rfl).trans (w_ifle (t := 91) dMo_readStep_87 (by decide)))
theorem bMo_readStep_90 {E : mEn} {d : Nat} {σ : mSt} {Q : mPost} {a1 : Int32} {a2 : Int32} {a3 : Int32} {u4 : Value} : WP E d mMo_readStep 90 [.ref 166, .int a1, .int a2, .int a3, u4] [] σ Q = Q none σ := w_vret dMo_readStep_90 rfl
theorem bMo_readStep_91 {E : mEn} {d : Nat} {σ : mSt} {Q : mPost} {a1 : Int32} {a2 : Int32} {a3 : Int32} {u4 : Value} : WP E (d + 1) mMo_readStep 91 [.ref 166, .int a1, .int a2, .int a3, u4] [] σ Q = WP E d mMo_next 0 [.ref 166, uu] [] (sI σ 166 24 ((σ.1 166 24) + 1)) (fun r σ' => WP E (d + 1) mMo_readStep 118 [.ref 166, .int a1, .int a2, .int a3, .int ((nI 2724) + ((nI 9) * (σ.1 166 24)))] (r.toList ++ []) σ' Q) := (w_sipush (v := (nI 2724)) dMo_readStep_91 rfl).trans ((w_bipush (v := (nI 9)) dMo_readStep_94 rfl).trans ((w_aload_n dMo_readStep_96 rfl).trans ((w_geti dMo_readStep_97 rz11_308 sh_166 rfl).trans ((w_imul dMo_readStep_100).trans ((w_iadd dMo_readStep_101).trans ((w_istore (ls' := [.ref 166, .int a1, .int a2, .int a3, .int ((nI 2724) + ((nI 9) * (σ.1 166 24)))]) dMo_readStep_102 (Nat.le_of_ble_eq_true rfl) rfl).trans ((w_aload_n dMo_readStep_104 rfl).trans ((w_dup dMo_readStep_105 rfl).trans ((w_geti dMo_readStep_106 rz11_308 sh_166 rfl).trans ((w_iconst (v := 1) dMo_readStep_109 rfl).trans ((w_iadd dMo_readStep_110).trans ((w_puti dMo_readStep_111 rz11_308 sh_166 rfl rfl rfl).trans ((w_aload_n dMo_readStep_114 rfl).trans (w_virt (vs := []) (st' := []) (es := [.ref 166, uu]) dMo_readStep_115 rz11_229 rfl sh_166 rfl rfl rfl (Nat.le_of_ble_eq_true rfl) (Nat.le_of_ble_eq_true rfl) rfl))))))))))))))
theorem bMo_readStep_118 {E : mEn} {d : Nat} {σ : mSt} {Q : mPost} {a1 : Int32} {a2 : Int32} {a3 : Int32} {a4 : Int32} : WP E (d + 1) mMo_readStep 118 [.ref 166, .int a1, .int a2, .int a3, .int a4] [] σ Q = (if mOut a4 3000 = true then False else WP E d mMo_readRest 0 [.ref 166, .int a4, uu] [] (sI σ 171 a4.toNatClampNeg a2) (fun r σ' => WP E (d + 1) mMo_readStep 132 [.ref 166, .int a1, .int a2, .int a3, .int a4] (r.toList ++ []) σ' Q)) := (w_aload_n dMo_readStep_118 rfl).trans ((w_getr (r := 171) dMo_readStep_119 rz11_35 sh_166 rfl).trans ((w_iload dMo_readStep_122 rfl).trans ((w_iload_n dMo_readStep_124 rfl).trans ((w_iast dMo_readStep_125 sh_171).trans (ite_c ((w_aload_n dMo_readStep_126 rfl).trans ((w_iload dMo_readStep_127 rfl).trans (w_virt (vs := [.int a4]) (st' := []) (es := [.ref 166, .int a4, uu]) dMo_readStep_129 rz11_311 rfl sh_166 rfl rfl rfl (Nat.le_of_ble_eq_true rfl) (Nat.le_of_ble_eq_true rfl) rfl))))))))
theorem bMo_readStep_132 {E : mEn} {d : Nat} {σ : mSt} {Q : mPost} {a1 : Int32} {a2 : Int32} {a3 : Int32} {a4 : Int32} : WP E (d + 1) mMo_readStep 132 [.ref 166, .int a1, .int a2, .int a3, .int a4] [] σ Q = WP E d mMo_isSign 0 [.ref 166, .int (nI 59)] [] σ (fun r σ' => WP E (d + 1) mMo_readStep 139 [.ref 166, .int a1, .int a2, .int a3, .int a4] (r.toList ++ [.ref 166]) σ' Q) := (w_aload_n dMo_readStep_132 rfl).trans ((w_aload_n dMo_readStep_133 rfl).trans ((w_bipush (v := (nI 59)) dMo_readStep_134 rfl).trans (w_virt (vs := [.int (nI 59)]) (st' := [.ref 166]) (es := [.ref 166, .int (nI 59)]) dMo_readStep_136 rz11_296 rfl sh_166 rfl rfl rfl (Nat.le_of_ble_eq_true rfl) (Nat.le_of_ble_eq_true rfl) rfl)))
theorem bMo_readStep_139 {E : mEn} {d : Nat} {σ : mSt} {Q : mPost} {a1 : Int32} {a2 : Int32} {a3 : Int32} {a4 : Int32} {s0 : Int32} : WP E (d + 1) mMo_readStep 139 [.ref 166, .int a1, .int a2, .int a3, .int a4] [.int s0, .ref 166] σ Q = WP E d mMo_must 0 [.ref 166, .int s0] [] σ (fun r σ' => WP E (d + 1) mMo_readStep 142 [.ref 166, .int a1, .int a2, .int a3, .int a4] (r.toList ++ []) σ' Q) := w_virt (vs := [.int s0]) (st' := []) (es := [.ref 166, .int s0]) dMo_readStep_139 rz11_264 rfl sh_166 rfl rfl rfl (Nat.le_of_ble_eq_true rfl) (Nat.le_of_ble_eq_true rfl) rfl
theorem bMo_readStep_142 {E : mEn} {d : Nat} {σ : mSt} {Q : mPost} {a1 : Int32} {a2 : Int32} {a3 : Int32} {a4 : Int32} : WP E d mMo_readStep 142 [.ref 166, .int a1, .int a2, .int a3, .int a4] [] σ Q = (if a3 = 0 then WP E d mMo_readStep 170 [.ref 166, .int a1, .int a2, .int a3, .int a4] [] σ Q else WP E d mMo_readStep 146 [.ref 166, .int a1, .int a2, .int a3, .int a4] [] σ Q) := (w_iload_n dMo_readStep_142 rfl).trans (w_ifeq (t := 170) dMo_readStep_143 (by decide))
theorem bMo_readStep_146 {E : mEn} {d : Nat} {σ : mSt} {Q : mPost} {a1 : Int32} {a2 : Int32} {a3 : Int32} {a4 : Int32} : WP E d mMo_readStep 146 [.ref 166, .int a1, .int a2, .int a3, .int a4] [] σ Q = (if ¬ (σ.1 166 12) = 0 then WP E d mMo_readStep 170 [.ref 166, .int a1, .int a2, .int a3, .int a4] [] σ Q else WP E d mMo_readStep 153 [.ref 166, .int a1, .int a2, .int a3, .int a4] [] σ Q) := (w_aload_n dMo_readStep_146 rfl).trans ((w_geti dMo_readStep_147 rz11_219 sh_166 rfl).trans (w_ifne (t := 170) dMo_readStep_150 (by decide)))
theorem bMo_readStep_153 {E : mEn} {d : Nat} {σ : mSt} {Q : mPost} {a1 : Int32} {a2 : Int32} {a3 : Int32} {a4 : Int32} : WP E (d + 1) mMo_readStep 153 [.ref 166, .int a1, .int a2, .int a3, .int a4] [] σ Q = WP E d mMo_isEnd 0 [.ref 166] [] σ (fun r σ' => WP E (d + 1) mMo_readStep 157 [.ref 166, .int a1, .int a2, .int a3, .int a4] (r.toList ++ []) σ' Q) := (w_aload_n dMo_readStep_153 rfl).trans (w_virt (vs := []) (st' := []) (es := [.ref 166]) dMo_readStep_154 rz11_213 rfl sh_166 rfl rfl rfl (Nat.le_of_ble_eq_true rfl) (Nat.le_of_ble_eq_true rfl) rfl)
theorem bMo_readStep_157 {E : mEn} {d : Nat} {σ : mSt} {Q : mPost} {a1 : Int32} {a2 : Int32} {a3 : Int32} {a4 : Int32} {s0 : Int32} : WP E d mMo_readStep 157 [.ref 166, .int a1, .int a2, .int a3, .int a4] [.int s0] σ Q = (if ¬ s0 = 0 then WP E d mMo_readStep 170 [.ref 166, .int a1, .int a2, .int a3, .int a4] [] σ Q else WP E d mMo_readStep 160 [.ref 166, .int a1, .int a2, .int a3, .int a4] [] σ Q) := w_ifne (t := 170) dMo_readStep_157 (by decide)
theorem bMo_readStep_160 {E : mEn} {d : Nat} {σ : mSt} {Q : mPost} {a1 : Int32} {a2 : Int32} {a3 : Int32} {a4 : Int32} : WP E (d + 1) mMo_readStep 160 [.ref 166, .int a1, .int a2, .int a3, .int a4] [] σ Q = WP E d mMo_readStep 0 [.ref 166, .int (a1 + 1), uu, uu, uu] [] σ (fun r σ' => WP E (d + 1) mMo_readStep 167 [.ref 166, .int a1, .int a2, .int a3, .int a4] (r.toList ++ []) σ' Q) := (w_aload_n dMo_readStep_160 rfl).trans ((w_iload_n dMo_readStep_161 rfl).trans ((w_iconst (v := 1) dMo_readStep_162 rfl).trans ((w_iadd dMo_readStep_163).trans (w_virt (vs := [.int (a1 + 1)]) (st' := []) (es := [.ref 166, .int (a1 + 1), uu, uu, uu]) dMo_readStep_164 rz11_314 rfl sh_166 rfl rfl rfl (Nat.le_of_ble_eq_true rfl) (Nat.le_of_ble_eq_true rfl) rfl))))
theorem bMo_readStep_167 {E : mEn} {d : Nat} {σ : mSt} {Q : mPost} {a1 : Int32} {a2 : Int32} {a3 : Int32} {a4 : Int32} : WP E d mMo_readStep 167 [.ref 166, .int a1, .int a2, .int a3, .int a4] [] σ Q = WP E d mMo_readStep 142 [.ref 166, .int a1, .int a2, .int a3, .int a4] [] σ Q := w_goto (t := 142) dMo_readStep_167 (by decide)
theorem bMo_readStep_170 {E : mEn} {d : Nat} {σ : mSt} {Q : mPost} {a1 : Int32} {a2 : Int32} {a3 : Int32} {a4 : Int32} : WP E d mMo_readStep 170 [.ref 166, .int a1, .int a2, .int a3, .int a4] [] σ Q = (if a3 = 0 then WP E d mMo_readStep 192 [.ref 166, .int a1, .int a2, .int a3, .int a4] [] σ Q else WP E d mMo_readStep 174 [.ref 166, .int a1, .int a2, .int a3, .int a4] [] σ Q) := (w_iload_n dMo_readStep_170 rfl).trans (w_ifeq (t := 192) dMo_readStep_171 (by decide))
theorem bMo_readStep_174 {E : mEn} {d : Nat} {σ : mSt} {Q : mPost} {a1 : Int32} {a2 : Int32} {a3 : Int32} {a4 : Int32} : WP E (d + 1) mMo_readStep 174 [.ref 166, .int a1, .int a2, .int a3, .int a4] [] σ Q = WP E d mMo_isEnd 0 [.ref 166] [] σ (fun r σ' => WP E (d + 1) mMo_readStep 179 [.ref 166, .int a1, .int a2, .int a3, .int a4] (r.toList ++ [.ref 166]) σ' Q) := (w_aload_n dMo_readStep_174 rfl).trans ((w_aload_n dMo_readStep_175 rfl).trans (w_virt (vs := []) (st' := [.ref 166]) (es := [.ref 166]) dMo_readStep_176 rz11_213 rfl sh_166 rfl rfl rfl (Nat.le_of_ble_eq_true rfl) (Nat.le_of_ble_eq_true rfl) rfl))
theorem bMo_readStep_179 {E : mEn} {d : Nat} {σ : mSt} {Q : mPost} {a1 : Int32} {a2 : Int32} {a3 : Int32} {a4 : Int32} {s0 : Int32} : WP E (d + 1) mMo_readStep 179 [.ref 166, .int a1, .int a2, .int a3, .int a4] [.int s0, .ref 166] σ Q = WP E d mMo_must 0 [.ref 166, .int s0] [] σ (fun r σ' => WP E (d + 1) mMo_readStep 182 [.ref 166, .int a1, .int a2, .int a3, .int a4] (r.toList ++ []) σ' Q) := w_virt (vs := [.int s0]) (st' := []) (es := [.ref 166, .int s0]) dMo_readStep_179 rz11_264 rfl sh_166 rfl rfl rfl (Nat.le_of_ble_eq_true rfl) (Nat.le_of_ble_eq_true rfl) rfl
theorem bMo_readStep_182 {E : mEn} {d : Nat} {σ : mSt} {Q : mPost} {a1 : Int32} {a2 : Int32} {a3 : Int32} {a4 : Int32} : WP E (d + 1) mMo_readStep 182 [.ref 166, .int a1, .int a2, .int a3, .int a4] [] σ Q = WP E d mMo_isSign 0 [.ref 166, .int (nI 59)] [] σ (fun r σ' => WP E (d + 1) mMo_readStep 189 [.ref 166, .int a1, .int a2, .int a3, .int a4] (r.toList ++ [.ref 166]) σ' Q) := (w_aload_n dMo_readStep_182 rfl).trans ((w_aload_n dMo_readStep_183 rfl).trans ((w_bipush (v := (nI 59)) dMo_readStep_184 rfl).trans (w_virt (vs := [.int (nI 59)]) (st' := [.ref 166]) (es := [.ref 166, .int (nI 59)]) dMo_readStep_186 rz11_296 rfl sh_166 rfl rfl rfl (Nat.le_of_ble_eq_true rfl) (Nat.le_of_ble_eq_true rfl) rfl)))
theorem bMo_readStep_189 {E : mEn} {d : Nat} {σ : mSt} {Q : mPost} {a1 : Int32} {a2 : Int32} {a3 : Int32} {a4 : Int32} {s0 : Int32} : WP E (d + 1) mMo_readStep 189 [.ref 166, .int a1, .int a2, .int a3, .int a4] [.int s0, .ref 166] σ Q = WP E d mMo_must 0 [.ref 166, .int s0] [] σ (fun r σ' => WP E (d + 1) mMo_readStep 192 [.ref 166, .int a1, .int a2, .int a3, .int a4] (r.toList ++ []) σ' Q) := w_virt (vs := [.int s0]) (st' := []) (es := [.ref 166, .int s0]) dMo_readStep_189 rz11_264 rfl sh_166 rfl rfl rfl (Nat.le_of_ble_eq_true rfl) (Nat.le_of_ble_eq_true rfl) rfl
theorem bMo_readStep_192 {E : mEn} {d : Nat} {σ : mSt} {Q : mPost} {a1 : Int32} {a2 : Int32} {a3 : Int32} {a4 : Int32} : WP E d mMo_readStep 192 [.ref 166, .int a1, .int a2, .int a3, .int a4] [] σ Q = (if mOut (a4 + (nI 8)) 3000 = true then False else Q none (sI σ 171 (a4 + (nI 8)).toNatClampNeg (σ.1 166 24))) := (w_aload_n dMo_readStep_192 rfl).trans ((w_getr (r := 171) dMo_readStep_193 rz11_35 sh_166 rfl).trans ((w_iload dMo_readStep_196 rfl).trans ((w_bipush (v := (nI 8)) dMo_readStep_198 rfl).trans ((w_iadd dMo_readStep_200).trans ((w_aload_n dMo_readStep_201 rfl).trans ((w_geti dMo_readStep_202 rz11_308 sh_166 rfl).trans ((w_iast dMo_readStep_205 sh_171).trans (ite_c (w_vret dMo_readStep_206 rfl)))))))))
theorem dMo_readRest_0 : decode (mC mMo_readRest) 0 = .ok (.aload_n 0, 1) := by decide +kernel
theorem dMo_readRest_1 : decode (mC mMo_readRest) 1 = .ok (.getfield 35, 3) := by decide +kernel
theorem dMo_readRest_4 : decode (mC mMo_readRest) 4 = .ok (.iload_n 1, 1) := by decide +kernel
theorem dMo_readRest_5 : decode (mC mMo_readRest) 5 = .ok (.iaload, 1) := by decide +kernel
theorem dMo_readRest_6 : decode (mC mMo_readRest) 6 = .ok (.istore_n 2, 1) := by decide +kernel
theorem dMo_readRest_7 : decode (mC mMo_readRest) 7 = .ok (.iload_n 2, 1) := by decide +kernel
theorem dMo_readRest_8 : decode (mC mMo_readRest) 8 = .ok (.ifCond .ne (14), 3) := by decide +kernel
theorem dMo_readRest_11 : decode (mC mMo_readRest) 11 = .ok (.aload_n 0, 1) := by decide +kernel
theorem dMo_readRest_12 : decode (mC mMo_readRest) 12 = .ok (.iconst (0), 1) := by decide +kernel
theorem dMo_readRest_13 : decode (mC mMo_readRest) 13 = .ok (.iload_n 1, 1) := by decide +kernel
theorem dMo_readRest_14 : decode (mC mMo_readRest) 14 = .ok (.iconst (1), 1) := by decide +kernel
theorem dMo_readRest_15 : decode (mC mMo_readRest) 15 = .ok (.iadd, 1) := by decide +kernel
theorem dMo_readRest_16 : decode (mC mMo_readRest) 16 = .ok (.invokevirtual 277, 3) := by decide +kernel
theorem dMo_readRest_19 : decode (mC mMo_readRest) 19 = .ok (.goto (195), 3) := by decide +kernel
theorem dMo_readRest_22 : decode (mC mMo_readRest) 22 = .ok (.iload_n 2, 1) := by decide +kernel
theorem dMo_readRest_23 : decode (mC mMo_readRest) 23 = .ok (.iconst (1), 1) := by decide +kernel
theorem dMo_readRest_24 : decode (mC mMo_readRest) 24 = .ok (.if_icmp .ne (21), 3) := by decide +kernel
theorem dMo_readRest_27 : decode (mC mMo_readRest) 27 = .ok (.aload_n 0, 1) := by decide +kernel
theorem dMo_readRest_28 : decode (mC mMo_readRest) 28 = .ok (.getfield 35, 3) := by decide +kernel
theorem dMo_readRest_31 : decode (mC mMo_readRest) 31 = .ok (.iload_n 1, 1) := by decide +kernel
theorem dMo_readRest_32 : decode (mC mMo_readRest) 32 = .ok (.iconst (1), 1) := by decide +kernel
theorem dMo_readRest_33 : decode (mC mMo_readRest) 33 = .ok (.iadd, 1) := by decide +kernel
theorem dMo_readRest_34 : decode (mC mMo_readRest) 34 = .ok (.aload_n 0, 1) := by decide +kernel
theorem dMo_readRest_35 : decode (mC mMo_readRest) 35 = .ok (.iconst (0), 1) := by decide +kernel
theorem dMo_readRest_36 : decode (mC mMo_readRest) 36 = .ok (.bipush (39), 2) := by decide +kernel
theorem dMo_readRest_38 : decode (mC mMo_readRest) 38 = .ok (.invokevirtual 271, 3) := by decide +kernel
theorem dMo_readRest_41 : decode (mC mMo_readRest) 41 = .ok (.iastore, 1) := by decide +kernel
theorem dMo_readRest_42 : decode (mC mMo_readRest) 42 = .ok (.goto (172), 3) := by decide +kernel
theorem dMo_readRest_45 : decode (mC mMo_readRest) 45 = .ok (.iload_n 2, 1) := by decide +kernel
theorem dMo_readRest_46 : decode (mC mMo_readRest) 46 = .ok (.iconst (2), 1) := by decide +kernel
theorem dMo_readRest_47 : decode (mC mMo_readRest) 47 = .ok (.if_icmp .ne (20), 3) := by decide +kernel
theorem dMo_readRest_50 : decode (mC mMo_readRest) 50 = .ok (.aload_n 0, 1) := by decide +kernel
theorem dMo_readRest_51 : decode (mC mMo_readRest) 51 = .ok (.getfield 35, 3) := by decide +kernel
theorem dMo_readRest_54 : decode (mC mMo_readRest) 54 = .ok (.iload_n 1, 1) := by decide +kernel
theorem dMo_readRest_55 : decode (mC mMo_readRest) 55 = .ok (.iconst (1), 1) := by decide +kernel
theorem dMo_readRest_56 : decode (mC mMo_readRest) 56 = .ok (.iadd, 1) := by decide +kernel
theorem dMo_readRest_57 : decode (mC mMo_readRest) 57 = .ok (.aload_n 0, 1) := by decide +kernel
theorem dMo_readRest_58 : decode (mC mMo_readRest) 58 = .ok (.iconst (0), 1) := by decide +kernel
theorem dMo_readRest_59 : decode (mC mMo_readRest) 59 = .ok (.iconst (2), 1) := by decide +kernel
theorem dMo_readRest_60 : decode (mC mMo_readRest) 60 = .ok (.invokevirtual 274, 3) := by decide +kernel
theorem dMo_readRest_63 : decode (mC mMo_readRest) 63 = .ok (.iastore, 1) := by decide +kernel
theorem dMo_readRest_64 : decode (mC mMo_readRest) 64 = .ok (.goto (150), 3) := by decide +kernel
theorem dMo_readRest_67 : decode (mC mMo_readRest) 67 = .ok (.iload_n 2, 1) := by decide +kernel
theorem dMo_readRest_68 : decode (mC mMo_readRest) 68 = .ok (.iconst (3), 1) := by decide +kernel
theorem dMo_readRest_69 : decode (mC mMo_readRest) 69 = .ok (.if_icmp .ne (21), 3) := by decide +kernel
theorem dMo_readRest_72 : decode (mC mMo_readRest) 72 = .ok (.aload_n 0, 1) := by decide +kernel
theorem dMo_readRest_73 : decode (mC mMo_readRest) 73 = .ok (.getfield 35, 3) := by decide +kernel
theorem dMo_readRest_76 : decode (mC mMo_readRest) 76 = .ok (.iload_n 1, 1) := by decide +kernel
theorem dMo_readRest_77 : decode (mC mMo_readRest) 77 = .ok (.iconst (1), 1) := by decide +kernel
theorem dMo_readRest_78 : decode (mC mMo_readRest) 78 = .ok (.iadd, 1) := by decide +kernel
theorem dMo_readRest_79 : decode (mC mMo_readRest) 79 = .ok (.aload_n 0, 1) := by decide +kernel
theorem dMo_readRest_80 : decode (mC mMo_readRest) 80 = .ok (.iconst (1), 1) := by decide +kernel
theorem dMo_readRest_81 : decode (mC mMo_readRest) 81 = .ok (.bipush (9), 2) := by decide +kernel
theorem dMo_readRest_83 : decode (mC mMo_readRest) 83 = .ok (.invokevirtual 271, 3) := by decide +kernel
theorem dMo_readRest_86 : decode (mC mMo_readRest) 86 = .ok (.iastore, 1) := by decide +kernel
theorem dMo_readRest_87 : decode (mC mMo_readRest) 87 = .ok (.goto (127), 3) := by decide +kernel
theorem dMo_readRest_90 : decode (mC mMo_readRest) 90 = .ok (.iload_n 2, 1) := by decide +kernel
theorem dMo_readRest_91 : decode (mC mMo_readRest) 91 = .ok (.iconst (4), 1) := by decide +kernel
theorem dMo_readRest_92 : decode (mC mMo_readRest) 92 = .ok (.if_icmp .ne (35), 3) := by decide +kernel
theorem dMo_readRest_95 : decode (mC mMo_readRest) 95 = .ok (.aload_n 0, 1) := by decide +kernel
theorem dMo_readRest_96 : decode (mC mMo_readRest) 96 = .ok (.getfield 35, 3) := by decide +kernel
theorem dMo_readRest_99 : decode (mC mMo_readRest) 99 = .ok (.iload_n 1, 1) := by decide +kernel
theorem dMo_readRest_100 : decode (mC mMo_readRest) 100 = .ok (.iconst (1), 1) := by decide +kernel
theorem dMo_readRest_101 : decode (mC mMo_readRest) 101 = .ok (.iadd, 1) := by decide +kernel
theorem dMo_readRest_102 : decode (mC mMo_readRest) 102 = .ok (.aload_n 0, 1) := by decide +kernel
theorem dMo_readRest_103 : decode (mC mMo_readRest) 103 = .ok (.iconst (0), 1) := by decide +kernel
theorem dMo_readRest_104 : decode (mC mMo_readRest) 104 = .ok (.iconst (0), 1) := by decide +kernel
theorem dMo_readRest_105 : decode (mC mMo_readRest) 105 = .ok (.invokevirtual 274, 3) := by decide +kernel
theorem dMo_readRest_108 : decode (mC mMo_readRest) 108 = .ok (.iastore, 1) := by decide +kernel
theorem dMo_readRest_109 : decode (mC mMo_readRest) 109 = .ok (.aload_n 0, 1) := by decide +kernel
theorem dMo_readRest_110 : decode (mC mMo_readRest) 110 = .ok (.getfield 35, 3) := by decide +kernel
theorem dMo_readRest_113 : decode (mC mMo_readRest) 113 = .ok (.iload_n 1, 1) := by decide +kernel
theorem dMo_readRest_114 : decode (mC mMo_readRest) 114 = .ok (.iconst (2), 1) := by decide +kernel
theorem dMo_readRest_115 : decode (mC mMo_readRest) 115 = .ok (.iadd, 1) := by decide +kernel
theorem dMo_readRest_116 : decode (mC mMo_readRest) 116 = .ok (.aload_n 0, 1) := by decide +kernel
theorem dMo_readRest_117 : decode (mC mMo_readRest) 117 = .ok (.iconst (1), 1) := by decide +kernel
theorem dMo_readRest_118 : decode (mC mMo_readRest) 118 = .ok (.bipush (99), 2) := by decide +kernel
theorem dMo_readRest_120 : decode (mC mMo_readRest) 120 = .ok (.invokevirtual 271, 3) := by decide +kernel
theorem dMo_readRest_123 : decode (mC mMo_readRest) 123 = .ok (.iastore, 1) := by decide +kernel
theorem dMo_readRest_124 : decode (mC mMo_readRest) 124 = .ok (.goto (90), 3) := by decide +kernel
theorem dMo_readRest_127 : decode (mC mMo_readRest) 127 = .ok (.iload_n 2, 1) := by decide +kernel
theorem dMo_readRest_128 : decode (mC mMo_readRest) 128 = .ok (.iconst (5), 1) := by decide +kernel
theorem dMo_readRest_129 : decode (mC mMo_readRest) 129 = .ok (.if_icmp .ne (50), 3) := by decide +kernel
theorem dMo_readRest_132 : decode (mC mMo_readRest) 132 = .ok (.aload_n 0, 1) := by decide +kernel
theorem dMo_readRest_133 : decode (mC mMo_readRest) 133 = .ok (.getfield 35, 3) := by decide +kernel
theorem dMo_readRest_136 : decode (mC mMo_readRest) 136 = .ok (.iload_n 1, 1) := by decide +kernel
theorem dMo_readRest_137 : decode (mC mMo_readRest) 137 = .ok (.iconst (1), 1) := by decide +kernel
theorem dMo_readRest_138 : decode (mC mMo_readRest) 138 = .ok (.iadd, 1) := by decide +kernel
theorem dMo_readRest_139 : decode (mC mMo_readRest) 139 = .ok (.aload_n 0, 1) := by decide +kernel
theorem dMo_readRest_140 : decode (mC mMo_readRest) 140 = .ok (.iconst (0), 1) := by decide +kernel
theorem dMo_readRest_141 : decode (mC mMo_readRest) 141 = .ok (.iconst (0), 1) := by decide +kernel
theorem dMo_readRest_142 : decode (mC mMo_readRest) 142 = .ok (.invokevirtual 274, 3) := by decide +kernel
theorem dMo_readRest_145 : decode (mC mMo_readRest) 145 = .ok (.iastore, 1) := by decide +kernel
theorem dMo_readRest_146 : decode (mC mMo_readRest) 146 = .ok (.aload_n 0, 1) := by decide +kernel
theorem dMo_readRest_147 : decode (mC mMo_readRest) 147 = .ok (.getfield 35, 3) := by decide +kernel
theorem dMo_readRest_150 : decode (mC mMo_readRest) 150 = .ok (.iload_n 1, 1) := by decide +kernel
theorem dMo_readRest_151 : decode (mC mMo_readRest) 151 = .ok (.iconst (2), 1) := by decide +kernel
theorem dMo_readRest_152 : decode (mC mMo_readRest) 152 = .ok (.iadd, 1) := by decide +kernel
theorem dMo_readRest_153 : decode (mC mMo_readRest) 153 = .ok (.aload_n 0, 1) := by decide +kernel
theorem dMo_readRest_154 : decode (mC mMo_readRest) 154 = .ok (.iconst (0), 1) := by decide +kernel
theorem dMo_readRest_155 : decode (mC mMo_readRest) 155 = .ok (.iconst (0), 1) := by decide +kernel
theorem dMo_readRest_156 : decode (mC mMo_readRest) 156 = .ok (.invokevirtual 274, 3) := by decide +kernel
theorem dMo_readRest_159 : decode (mC mMo_readRest) 159 = .ok (.iastore, 1) := by decide +kernel
theorem dMo_readRest_160 : decode (mC mMo_readRest) 160 = .ok (.aload_n 0, 1) := by decide +kernel
theorem dMo_readRest_161 : decode (mC mMo_readRest) 161 = .ok (.getfield 35, 3) := by decide +kernel
theorem dMo_readRest_164 : decode (mC mMo_readRest) 164 = .ok (.iload_n 1, 1) := by decide +kernel
theorem dMo_readRest_165 : decode (mC mMo_readRest) 165 = .ok (.iconst (3), 1) := by decide +kernel
theorem dMo_readRest_166 : decode (mC mMo_readRest) 166 = .ok (.iadd, 1) := by decide +kernel
theorem dMo_readRest_167 : decode (mC mMo_readRest) 167 = .ok (.aload_n 0, 1) := by decide +kernel
theorem dMo_readRest_168 : decode (mC mMo_readRest) 168 = .ok (.iconst (1), 1) := by decide +kernel
theorem dMo_readRest_169 : decode (mC mMo_readRest) 169 = .ok (.sipush (999), 3) := by decide +kernel
theorem dMo_readRest_172 : decode (mC mMo_readRest) 172 = .ok (.invokevirtual 271, 3) := by decide +kernel
theorem dMo_readRest_175 : decode (mC mMo_readRest) 175 = .ok (.iastore, 1) := by decide +kernel
theorem dMo_readRest_176 : decode (mC mMo_readRest) 176 = .ok (.goto (38), 3) := by decide +kernel
theorem dMo_readRest_179 : decode (mC mMo_readRest) 179 = .ok (.iload_n 2, 1) := by decide +kernel
theorem dMo_readRest_180 : decode (mC mMo_readRest) 180 = .ok (.bipush (6), 2) := by decide +kernel
theorem dMo_readRest_182 : decode (mC mMo_readRest) 182 = .ok (.if_icmp .ne (11), 3) := by decide +kernel
theorem dMo_readRest_185 : decode (mC mMo_readRest) 185 = .ok (.aload_n 0, 1) := by decide +kernel
theorem dMo_readRest_186 : decode (mC mMo_readRest) 186 = .ok (.iload_n 1, 1) := by decide +kernel
theorem dMo_readRest_187 : decode (mC mMo_readRest) 187 = .ok (.invokevirtual 305, 3) := by decide +kernel
theorem dMo_readRest_190 : decode (mC mMo_readRest) 190 = .ok (.goto (24), 3) := by decide +kernel
theorem dMo_readRest_193 : decode (mC mMo_readRest) 193 = .ok (.iload_n 2, 1) := by decide +kernel
theorem dMo_readRest_194 : decode (mC mMo_readRest) 194 = .ok (.bipush (7), 2) := by decide +kernel
theorem dMo_readRest_196 : decode (mC mMo_readRest) 196 = .ok (.if_icmp .ne (18), 3) := by decide +kernel
theorem dMo_readRest_199 : decode (mC mMo_readRest) 199 = .ok (.aload_n 0, 1) := by decide +kernel
theorem dMo_readRest_200 : decode (mC mMo_readRest) 200 = .ok (.getfield 35, 3) := by decide +kernel
theorem dMo_readRest_203 : decode (mC mMo_readRest) 203 = .ok (.iload_n 1, 1) := by decide +kernel
theorem dMo_readRest_204 : decode (mC mMo_readRest) 204 = .ok (.iconst (1), 1) := by decide +kernel
theorem dMo_readRest_205 : decode (mC mMo_readRest) 205 = .ok (.iadd, 1) := by decide +kernel
theorem dMo_readRest_206 : decode (mC mMo_readRest) 206 = .ok (.aload_n 0, 1) := by decide +kernel
theorem dMo_readRest_207 : decode (mC mMo_readRest) 207 = .ok (.iconst (1), 1) := by decide +kernel
theorem dMo_readRest_208 : decode (mC mMo_readRest) 208 = .ok (.bipush (99), 2) := by decide +kernel
theorem dMo_readRest_210 : decode (mC mMo_readRest) 210 = .ok (.invokevirtual 271, 3) := by decide +kernel
theorem dMo_readRest_213 : decode (mC mMo_readRest) 213 = .ok (.iastore, 1) := by decide +kernel
theorem dMo_readRest_214 : decode (mC mMo_readRest) 214 = .ok (.return_, 1) := by decide +kernel
theorem bMo_readRest_0 {E : mEn} {d : Nat} {σ : mSt} {Q : mPost} {a1 : Int32} {u2 : Value} : WP E d mMo_readRest 0 [.ref 166, .int a1, u2] [] σ Q = (if mOut a1 3000 = true then False else (if ¬ (σ.1 171 a1.toNatClampNeg) = 0 then WP E d mMo_readRest 22 [.ref 166, .int a1, .int (σ.1 171 a1.toNatClampNeg)] [] σ Q else WP E d mMo_readRest 11 [.ref 166, .int a1, .int (σ.1 171 a1.toNatClampNeg)] [] σ Q)) := (w_aload_n dMo_readRest_0 rfl).trans ((w_getr (r := 171) dMo_readRest_1 rz11_35 sh_166 rfl).trans ((w_iload_n dMo_readRest_4 rfl).trans ((w_iald dMo_readRest_5 sh_171 (by decide)).trans (ite_c ((w_istore_n (ls' := [.ref 166, .int a1, .int (σ.1 171 a1.toNatClampNeg)]) dMo_readRest_6 (Nat.le_of_ble_eq_true rfl) rfl).trans ((w_iload_n dMo_readRest_7 rfl).trans (w_ifne (t := 22) dMo_readRest_8 (by decide))))))))
theorem bMo_readRest_11 {E : mEn} {d : Nat} {σ : mSt} {Q : mPost} {a1 : Int32} {a2 : Int32} : WP E (d + 1) mMo_readRest 11 [.ref 166, .int a1, .int a2] [] σ Q = WP E d mMo_readPart 0 [.ref 166, .int 0, .int (a1 + 1)] [] σ (fun r σ' => WP E (d + 1) mMo_readRest 19 [.ref 166, .int a1, .int a2] (r.toList ++ []) σ' Q) := (w_aload_n dMo_readRest_11 rfl).trans ((w_iconst (v := 0) dMo_readRest_12 rfl).trans ((w_iload_n dMo_readRest_13 rfl).trans ((w_iconst (v := 1) dMo_readRest_14 rfl).trans ((w_iadd dMo_readRest_15).trans (w_virt (vs := [.int 0, .int (a1 + 1)]) (st' := []) (es := [.ref 166, .int 0, .int (a1 + 1)]) dMo_readRest_16 rz11_277 rfl sh_166 rfl rfl rfl (Nat.le_of_ble_eq_true rfl) (Nat.le_of_ble_eq_true rfl) rfl)))))
theorem bMo_readRest_19 {E : mEn} {d : Nat} {σ : mSt} {Q : mPost} {a1 : Int32} {a2 : Int32} : WP E d mMo_readRest 19 [.ref 166, .int a1, .int a2] [] σ Q = WP E d mMo_readRest 214 [.ref 166, .int a1, .int a2] [] σ Q := w_goto (t := 214) dMo_readRest_19 (by decide)
theorem bMo_readRest_22 {E : mEn} {d : Nat} {σ : mSt} {Q : mPost} {a1 : Int32} {a2 : Int32} : WP E d mMo_readRest 22 [.ref 166, .int a1, .int a2] [] σ Q = (if ¬ a2 = 1 then WP E d mMo_readRest 45 [.ref 166, .int a1, .int a2] [] σ Q else WP E d mMo_readRest 27 [.ref 166, .int a1, .int a2] [] σ Q) := (w_iload_n dMo_readRest_22 rfl).trans ((w_iconst (v := 1) dMo_readRest_23 rfl).trans (w_icmpne (t := 45) dMo_readRest_24 (by decide)))
theorem bMo_readRest_27 {E : mEn} {d : Nat} {σ : mSt} {Q : mPost} {a1 : Int32} {a2 : Int32} : WP E (d + 1) mMo_readRest 27 [.ref 166, .int a1, .int a2] [] σ Q = WP E d mMo_count 0 [.ref 166, .int 0, .int (nI 39), uu] [] σ (fun r σ' => WP E (d + 1) mMo_readRest 41 [.ref 166, .int a1, .int a2] (r.toList ++ [.int (a1 + 1), .ref 171]) σ' Q) := (w_aload_n dMo_readRest_27 rfl).trans ((w_getr (r := 171) dMo_readRest_28 rz11_35 sh_166 rfl).trans ((w_iload_n dMo_readRest_31 rfl).trans ((w_iconst (v := 1) dMo_readRest_32 rfl).trans ((w_iadd dMo_readRest_33).trans ((w_aload_n dMo_readRest_34 rfl).trans ((w_iconst (v := 0) dMo_readRest_35 rfl).trans ((w_bipush (v := (nI 39)) dMo_readRest_36 rfl).trans (w_virt (vs := [.int 0, .int (nI 39)]) (st' := [.int (a1 + 1), .ref 171]) (es := [.ref 166, .int 0, .int (nI 39), uu]) dMo_readRest_38 rz11_271 rfl sh_166 rfl rfl rfl (Nat.le_of_ble_eq_true rfl) (Nat.le_of_ble_eq_true rfl) rfl))))))))
theorem bMo_readRest_41 {E : mEn} {d : Nat} {σ : mSt} {Q : mPost} {a1 : Int32} {a2 : Int32} {s0 : Int32} {s1 : Int32} : WP E d mMo_readRest 41 [.ref 166, .int a1, .int a2] [.int s0, .int s1, .ref 171] σ Q = (if mOut s1 3000 = true then False else WP E d mMo_readRest 214 [.ref 166, .int a1, .int a2] [] (sI σ 171 s1.toNatClampNeg s0) Q) := (w_iast dMo_readRest_41 sh_171).trans (ite_c (w_goto (t := 214) dMo_readRest_42 (by decide)))
theorem bMo_readRest_45 {E : mEn} {d : Nat} {σ : mSt} {Q : mPost} {a1 : Int32} {a2 : Int32} : WP E d mMo_readRest 45 [.ref 166, .int a1, .int a2] [] σ Q = (if ¬ a2 = (nI 2) then WP E d mMo_readRest 67 [.ref 166, .int a1, .int a2] [] σ Q else WP E d mMo_readRest 50 [.ref 166, .int a1, .int a2] [] σ Q) := (w_iload_n dMo_readRest_45 rfl).trans ((w_iconst (v := (nI 2)) dMo_readRest_46 rfl).trans (w_icmpne (t := 67) dMo_readRest_47 (by decide)))
theorem bMo_readRest_50 {E : mEn} {d : Nat} {σ : mSt} {Q : mPost} {a1 : Int32} {a2 : Int32} : WP E (d + 1) mMo_readRest 50 [.ref 166, .int a1, .int a2] [] σ Q = WP E d mMo_readTold 0 [.ref 166, .int 0, .int (nI 2), uu] [] σ (fun r σ' => WP E (d + 1) mMo_readRest 63 [.ref 166, .int a1, .int a2] (r.toList ++ [.int (a1 + 1), .ref 171]) σ' Q) := (w_aload_n dMo_readRest_50 rfl).trans ((w_getr (r := 171) dMo_readRest_51 rz11_35 sh_166 rfl).trans ((w_iload_n dMo_readRest_54 rfl).trans ((w_iconst (v := 1) dMo_readRest_55 rfl).trans ((w_iadd dMo_readRest_56).trans ((w_aload_n dMo_readRest_57 rfl).trans ((w_iconst (v := 0) dMo_readRest_58 rfl).trans ((w_iconst (v := (nI 2)) dMo_readRest_59 rfl).trans (w_virt (vs := [.int 0, .int (nI 2)]) (st' := [.int (a1 + 1), .ref 171]) (es := [.ref 166, .int 0, .int (nI 2), uu]) dMo_readRest_60 rz11_274 rfl sh_166 rfl rfl rfl (Nat.le_of_ble_eq_true rfl) (Nat.le_of_ble_eq_true rfl) rfl))))))))
theorem bMo_readRest_63 {E : mEn} {d : Nat} {σ : mSt} {Q : mPost} {a1 : Int32} {a2 : Int32} {s0 : Int32} {s1 : Int32} : WP E d mMo_readRest 63 [.ref 166, .int a1, .int a2] [.int s0, .int s1, .ref 171] σ Q = (if mOut s1 3000 = true then False else WP E d mMo_readRest 214 [.ref 166, .int a1, .int a2] [] (sI σ 171 s1.toNatClampNeg s0) Q) := (w_iast dMo_readRest_63 sh_171).trans (ite_c (w_goto (t := 214) dMo_readRest_64 (by decide)))
theorem bMo_readRest_67 {E : mEn} {d : Nat} {σ : mSt} {Q : mPost} {a1 : Int32} {a2 : Int32} : WP E d mMo_readRest 67 [.ref 166, .int a1, .int a2] [] σ Q = (if ¬ a2 = (nI 3) then WP E d mMo_readRest 90 [.ref 166, .int a1, .int a2] [] σ Q else WP E d mMo_readRest 72 [.ref 166, .int a1, .int a2] [] σ Q) := (w_iload_n dMo_readRest_67 rfl).trans ((w_iconst (v := (nI 3)) dMo_readRest_68 rfl).trans (w_icmpne (t := 90) dMo_readRest_69 (by decide)))
theorem bMo_readRest_72 {E : mEn} {d : Nat} {σ : mSt} {Q : mPost} {a1 : Int32} {a2 : Int32} : WP E (d + 1) mMo_readRest 72 [.ref 166, .int a1, .int a2] [] σ Q = WP E d mMo_count 0 [.ref 166, .int 1, .int (nI 9), uu] [] σ (fun r σ' => WP E (d + 1) mMo_readRest 86 [.ref 166, .int a1, .int a2] (r.toList ++ [.int (a1 + 1), .ref 171]) σ' Q) := (w_aload_n dMo_readRest_72 rfl).trans ((w_getr (r := 171) dMo_readRest_73 rz11_35 sh_166 rfl).trans ((w_iload_n dMo_readRest_76 rfl).trans ((w_iconst (v := 1) dMo_readRest_77 rfl).trans ((w_iadd dMo_readRest_78).trans ((w_aload_n dMo_readRest_79 rfl).trans ((w_iconst (v := 1) dMo_readRest_80 rfl).trans ((w_bipush (v := (nI 9)) dMo_readRest_81 rfl).trans (w_virt (vs := [.int 1, .int (nI 9)]) (st' := [.int (a1 + 1), .ref 171]) (es := [.ref 166, .int 1, .int (nI 9), uu]) dMo_readRest_83 rz11_271 rfl sh_166 rfl rfl rfl (Nat.le_of_ble_eq_true rfl) (Nat.le_of_ble_eq_true rfl) rfl))))))))
theorem bMo_readRest_86 {E : mEn} {d : Nat} {σ : mSt} {Q : mPost} {a1 : Int32} {a2 : Int32} {s0 : Int32} {s1 : Int32} : WP E d mMo_readRest 86 [.ref 166, .int a1, .int a2] [.int s0, .int s1, .ref 171] σ Q = (if mOut s1 3000 = true then False else WP E d mMo_readRest 214 [.ref 166, .int a1, .int a2] [] (sI σ 171 s1.toNatClampNeg s0) Q) := (w_iast dMo_readRest_86 sh_171).trans (ite_c (w_goto (t := 214) dMo_readRest_87 (by decide)))
theorem bMo_readRest_90 {E : mEn} {d : Nat} {σ : mSt} {Q : mPost} {a1 : Int32} {a2 : Int32} : WP E d mMo_readRest 90 [.ref 166, .int a1, .int a2] [] σ Q = (if ¬ a2 = (nI 4) then WP E d mMo_readRest 127 [.ref 166, .int a1, .int a2] [] σ Q else WP E d mMo_readRest 95 [.ref 166, .int a1, .int a2] [] σ Q) := (w_iload_n dMo_readRest_90 rfl).trans ((w_iconst (v := (nI 4)) dMo_readRest_91 rfl).trans (w_icmpne (t := 127) dMo_readRest_92 (by decide)))
theorem bMo_readRest_95 {E : mEn} {d : Nat} {σ : mSt} {Q : mPost} {a1 : Int32} {a2 : Int32} : WP E (d + 1) mMo_readRest 95 [.ref 166, .int a1, .int a2] [] σ Q = WP E d mMo_readTold 0 [.ref 166, .int 0, .int 0, uu] [] σ (fun r σ' => WP E (d + 1) mMo_readRest 108 [.ref 166, .int a1, .int a2] (r.toList ++ [.int (a1 + 1), .ref 171]) σ' Q) := (w_aload_n dMo_readRest_95 rfl).trans ((w_getr (r := 171) dMo_readRest_96 rz11_35 sh_166 rfl).trans ((w_iload_n dMo_readRest_99 rfl).trans ((w_iconst (v := 1) dMo_readRest_100 rfl).trans ((w_iadd dMo_readRest_101).trans ((w_aload_n dMo_readRest_102 rfl).trans ((w_iconst (v := 0) dMo_readRest_103 rfl).trans ((w_iconst (v := 0) dMo_readRest_104 rfl).trans (w_virt (vs := [.int 0, .int 0]) (st' := [.int (a1 + 1), .ref 171]) (es := [.ref 166, .int 0, .int 0, uu]) dMo_readRest_105 rz11_274 rfl sh_166 rfl rfl rfl (Nat.le_of_ble_eq_true rfl) (Nat.le_of_ble_eq_true rfl) rfl))))))))
theorem bMo_readRest_108 {E : mEn} {d : Nat} {σ : mSt} {Q : mPost} {a1 : Int32} {a2 : Int32} {s0 : Int32} {s1 : Int32} : WP E (d + 1) mMo_readRest 108 [.ref 166, .int a1, .int a2] [.int s0, .int s1, .ref 171] σ Q = (if mOut s1 3000 = true then False else WP E d mMo_count 0 [.ref 166, .int 1, .int (nI 99), uu] [] (sI σ 171 s1.toNatClampNeg s0) (fun r σ' => WP E (d + 1) mMo_readRest 123 [.ref 166, .int a1, .int a2] (r.toList ++ [.int (a1 + (nI 2)), .ref 171]) σ' Q)) := (w_iast dMo_readRest_108 sh_171).trans (ite_c ((w_aload_n dMo_readRest_109 rfl).trans ((w_getr (r := 171) dMo_readRest_110 rz11_35 sh_166 rfl).trans ((w_iload_n dMo_readRest_113 rfl).trans ((w_iconst (v := (nI 2)) dMo_readRest_114 rfl).trans ((w_iadd dMo_readRest_115).trans ((w_aload_n dMo_readRest_116 rfl).trans ((w_iconst (v := 1) dMo_readRest_117 rfl).trans ((w_bipush (v := (nI 99)) dMo_readRest_118 rfl).trans (w_virt (vs := [.int 1, .int (nI 99)]) (st' := [.int (a1 + (nI 2)), .ref 171]) (es := [.ref 166, .int 1, .int (nI 99), uu]) dMo_readRest_120 rz11_271 rfl sh_166 rfl rfl rfl (Nat.le_of_ble_eq_true rfl) (Nat.le_of_ble_eq_true rfl) rfl))))))))))
theorem bMo_readRest_123 {E : mEn} {d : Nat} {σ : mSt} {Q : mPost} {a1 : Int32} {a2 : Int32} {s0 : Int32} {s1 : Int32} : WP E d mMo_readRest 123 [.ref 166, .int a1, .int a2] [.int s0, .int s1, .ref 171] σ Q = (if mOut s1 3000 = true then False else WP E d mMo_readRest 214 [.ref 166, .int a1, .int a2] [] (sI σ 171 s1.toNatClampNeg s0) Q) := (w_iast dMo_readRest_123 sh_171).trans (ite_c (w_goto (t := 214) dMo_readRest_124 (by decide)))
theorem bMo_readRest_127 {E : mEn} {d : Nat} {σ : mSt} {Q : mPost} {a1 : Int32} {a2 : Int32} : WP E d mMo_readRest 127 [.ref 166, .int a1, .int a2] [] σ Q = (if ¬ a2 = (nI 5) then WP E d mMo_readRest 179 [.ref 166, .int a1, .int a2] [] σ Q else WP E d mMo_readRest 132 [.ref 166, .int a1, .int a2] [] σ Q) := (w_iload_n dMo_readRest_127 rfl).trans ((w_iconst (v := (nI 5)) dMo_readRest_128 rfl).trans (w_icmpne (t := 179) dMo_readRest_129 (by decide)))
theorem bMo_readRest_132 {E : mEn} {d : Nat} {σ : mSt} {Q : mPost} {a1 : Int32} {a2 : Int32} : WP E (d + 1) mMo_readRest 132 [.ref 166, .int a1, .int a2] [] σ Q = WP E d mMo_readTold 0 [.ref 166, .int 0, .int 0, uu] [] σ (fun r σ' => WP E (d + 1) mMo_readRest 145 [.ref 166, .int a1, .int a2] (r.toList ++ [.int (a1 + 1), .ref 171]) σ' Q) := (w_aload_n dMo_readRest_132 rfl).trans ((w_getr (r := 171) dMo_readRest_133 rz11_35 sh_166 rfl).trans ((w_iload_n dMo_readRest_136 rfl).trans ((w_iconst (v := 1) dMo_readRest_137 rfl).trans ((w_iadd dMo_readRest_138).trans ((w_aload_n dMo_readRest_139 rfl).trans ((w_iconst (v := 0) dMo_readRest_140 rfl).trans ((w_iconst (v := 0) dMo_readRest_141 rfl).trans (w_virt (vs := [.int 0, .int 0]) (st' := [.int (a1 + 1), .ref 171]) (es := [.ref 166, .int 0, .int 0, uu]) dMo_readRest_142 rz11_274 rfl sh_166 rfl rfl rfl (Nat.le_of_ble_eq_true rfl) (Nat.le_of_ble_eq_true rfl) rfl))))))))
theorem bMo_readRest_145 {E : mEn} {d : Nat} {σ : mSt} {Q : mPost} {a1 : Int32} {a2 : Int32} {s0 : Int32} {s1 : Int32} : WP E (d + 1) mMo_readRest 145 [.ref 166, .int a1, .int a2] [.int s0, .int s1, .ref 171] σ Q = (if mOut s1 3000 = true then False else WP E d mMo_readTold 0 [.ref 166, .int 0, .int 0, uu] [] (sI σ 171 s1.toNatClampNeg s0) (fun r σ' => WP E (d + 1) mMo_readRest 159 [.ref 166, .int a1, .int a2] (r.toList ++ [.int (a1 + (nI 2)), .ref 171]) σ' Q)) := (w_iast dMo_readRest_145 sh_171).trans (ite_c ((w_aload_n dMo_readRest_146 rfl).trans ((w_getr (r := 171) dMo_readRest_147 rz11_35 sh_166 rfl).trans ((w_iload_n dMo_readRest_150 rfl).trans ((w_iconst (v := (nI 2)) dMo_readRest_151 rfl).trans ((w_iadd dMo_readRest_152).trans ((w_aload_n dMo_readRest_153 rfl).trans ((w_iconst (v := 0) dMo_readRest_154 rfl).trans ((w_iconst (v := 0) dMo_readRest_155 rfl).trans (w_virt (vs := [.int 0, .int 0]) (st' := [.int (a1 + (nI 2)), .ref 171]) (es := [.ref 166, .int 0, .int 0, uu]) dMo_readRest_156 rz11_274 rfl sh_166 rfl rfl rfl (Nat.le_of_ble_eq_true rfl) (Nat.le_of_ble_eq_true rfl) rfl))))))))))
theorem bMo_readRest_159 {E : mEn} {d : Nat} {σ : mSt} {Q : mPost} {a1 : Int32} {a2 : Int32} {s0 : Int32} {s1 : Int32} : WP E (d + 1) mMo_readRest 159 [.ref 166, .int a1, .int a2] [.int s0, .int s1, .ref 171] σ Q = (if mOut s1 3000 = true then False else WP E d mMo_count 0 [.ref 166, .int 1, .int (nI 999), uu] [] (sI σ 171 s1.toNatClampNeg s0) (fun r σ' => WP E (d + 1) mMo_readRest 175 [.ref 166, .int a1, .int a2] (r.toList ++ [.int (a1 + (nI 3)), .ref 171]) σ' Q)) := (w_iast dMo_readRest_159 sh_171).trans (ite_c ((w_aload_n dMo_readRest_160 rfl).trans ((w_getr (r := 171) dMo_readRest_161 rz11_35 sh_166 rfl).trans ((w_iload_n dMo_readRest_164 rfl).trans ((w_iconst (v := (nI 3)) dMo_readRest_165 rfl).trans ((w_iadd dMo_readRest_166).trans ((w_aload_n dMo_readRest_167 rfl).trans ((w_iconst (v := 1) dMo_readRest_168 rfl).trans ((w_sipush (v := (nI 999)) dMo_readRest_169 rfl).trans (w_virt (vs := [.int 1, .int (nI 999)]) (st' := [.int (a1 + (nI 3)), .ref 171]) (es := [.ref 166, .int 1, .int (nI 999), uu]) dMo_readRest_172 rz11_271 rfl sh_166 rfl rfl rfl (Nat.le_of_ble_eq_true rfl) (Nat.le_of_ble_eq_true rfl) rfl))))))))))
theorem bMo_readRest_175 {E : mEn} {d : Nat} {σ : mSt} {Q : mPost} {a1 : Int32} {a2 : Int32} {s0 : Int32} {s1 : Int32} : WP E d mMo_readRest 175 [.ref 166, .int a1, .int a2] [.int s0, .int s1, .ref 171] σ Q = (if mOut s1 3000 = true then False else WP E d mMo_readRest 214 [.ref 166, .int a1, .int a2] [] (sI σ 171 s1.toNatClampNeg s0) Q) := (w_iast dMo_readRest_175 sh_171).trans (ite_c (w_goto (t := 214) dMo_readRest_176 (by decide)))
theorem bMo_readRest_179 {E : mEn} {d : Nat} {σ : mSt} {Q : mPost} {a1 : Int32} {a2 : Int32} : WP E d mMo_readRest 179 [.ref 166, .int a1, .int a2] [] σ Q = (if ¬ a2 = (nI 6) then WP E d mMo_readRest 193 [.ref 166, .int a1, .int a2] [] σ Q else WP E d mMo_readRest 185 [.ref 166, .int a1, .int a2] [] σ Q) := (w_iload_n dMo_readRest_179 rfl).trans ((w_bipush (v := (nI 6)) dMo_readRest_180 rfl).trans (w_icmpne (t := 193) dMo_readRest_182 (by decide)))
theorem bMo_readRest_185 {E : mEn} {d : Nat} {σ : mSt} {Q : mPost} {a1 : Int32} {a2 : Int32} : WP E (d + 1) mMo_readRest 185 [.ref 166, .int a1, .int a2] [] σ Q = WP E d mMo_readTest 0 [.ref 166, .int a1, uu] [] σ (fun r σ' => WP E (d + 1) mMo_readRest 190 [.ref 166, .int a1, .int a2] (r.toList ++ []) σ' Q) := (w_aload_n dMo_readRest_185 rfl).trans ((w_iload_n dMo_readRest_186 rfl).trans (w_virt (vs := [.int a1]) (st' := []) (es := [.ref 166, .int a1, uu]) dMo_readRest_187 rz11_305 rfl sh_166 rfl rfl rfl (Nat.le_of_ble_eq_true rfl) (Nat.le_of_ble_eq_true rfl) rfl))
theorem bMo_readRest_190 {E : mEn} {d : Nat} {σ : mSt} {Q : mPost} {a1 : Int32} {a2 : Int32} : WP E d mMo_readRest 190 [.ref 166, .int a1, .int a2] [] σ Q = WP E d mMo_readRest 214 [.ref 166, .int a1, .int a2] [] σ Q := w_goto (t := 214) dMo_readRest_190 (by decide)
theorem bMo_readRest_193 {E : mEn} {d : Nat} {σ : mSt} {Q : mPost} {a1 : Int32} {a2 : Int32} : WP E d mMo_readRest 193 [.ref 166, .int a1, .int a2] [] σ Q = (if ¬ a2 = (nI 7) then WP E d mMo_readRest 214 [.ref 166, .int a1, .int a2] [] σ Q else WP E d mMo_readRest 199 [.ref 166, .int a1, .int a2] [] σ Q) := (w_iload_n dMo_readRest_193 rfl).trans ((w_bipush (v := (nI 7)) dMo_readRest_194 rfl).trans (w_icmpne (t := 214) dMo_readRest_196 (by decide)))
theorem bMo_readRest_199 {E : mEn} {d : Nat} {σ : mSt} {Q : mPost} {a1 : Int32} {a2 : Int32} : WP E (d + 1) mMo_readRest 199 [.ref 166, .int a1, .int a2] [] σ Q = WP E d mMo_count 0 [.ref 166, .int 1, .int (nI 99), uu] [] σ (fun r σ' => WP E (d + 1) mMo_readRest 213 [.ref 166, .int a1, .int a2] (r.toList ++ [.int (a1 + 1), .ref 171]) σ' Q) := (w_aload_n dMo_readRest_199 rfl).trans ((w_getr (r := 171) dMo_readRest_200 rz11_35 sh_166 rfl).trans ((w_iload_n dMo_readRest_203 rfl).trans ((w_iconst (v := 1) dMo_readRest_204 rfl).trans ((w_iadd dMo_readRest_205).trans ((w_aload_n dMo_readRest_206 rfl).trans ((w_iconst (v := 1) dMo_readRest_207 rfl).trans ((w_bipush (v := (nI 99)) dMo_readRest_208 rfl).trans (w_virt (vs := [.int 1, .int (nI 99)]) (st' := [.int (a1 + 1), .ref 171]) (es := [.ref 166, .int 1, .int (nI 99), uu]) dMo_readRest_210 rz11_271 rfl sh_166 rfl rfl rfl (Nat.le_of_ble_eq_true rfl) (Nat.le_of_ble_eq_true rfl) rfl))))))))
theorem bMo_readRest_213 {E : mEn} {d : Nat} {σ : mSt} {Q : mPost} {a1 : Int32} {a2 : Int32} {s0 : Int32} {s1 : Int32} : WP E d mMo_readRest 213 [.ref 166, .int a1, .int a2] [.int s0, .int s1, .ref 171] σ Q = (if mOut s1 3000 = true then False else WP E d mMo_readRest 214 [.ref 166, .int a1, .int a2] [] (sI σ 171 s1.toNatClampNeg s0) Q) := (w_iast dMo_readRest_213 sh_171).trans (ite_c (rfl))
theorem bMo_readRest_214 {E : mEn} {d : Nat} {σ : mSt} {Q : mPost} {a1 : Int32} {a2 : Int32} : WP E d mMo_readRest 214 [.ref 166, .int a1, .int a2] [] σ Q = Q none σ := w_vret dMo_readRest_214 rfl
