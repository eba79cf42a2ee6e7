theorem dMo_cuts_0 : decode (mC mMo_cuts) 0 = .ok (.aload_n 0, 1) := by decide +kernel
theorem dMo_cuts_1 : decode (mC mMo_cuts) 1 = .ok (.iconst (0), 1) := by decide +kernel
theorem dMo_cuts_2 : decode (mC mMo_cuts) 2 = .ok (.putfield 74, 3) := by decide +kernel
theorem dMo_cuts_5 : decode (mC mMo_cuts) 5 = .ok (.aload_n 0, 1) := by decide +kernel
theorem dMo_cuts_6 : decode (mC mMo_cuts) 6 = .ok (.iconst (0), 1) := by decide +kernel
theorem dMo_cuts_7 : decode (mC mMo_cuts) 7 = .ok (.putfield 77, 3) := by decide +kernel
theorem dMo_cuts_10 : decode (mC mMo_cuts) 10 = .ok (.iload_n 1, 1) := by decide +kernel
theorem dMo_cuts_11 : decode (mC mMo_cuts) 11 = .ok (.i2l, 1) := by decide +kernel
theorem dMo_cuts_12 : decode (mC mMo_cuts) 12 = .ok (.lconst 1, 1) := by decide +kernel
theorem dMo_cuts_13 : decode (mC mMo_cuts) 13 = .ok (.ldc2_w 414, 3) := by decide +kernel
theorem dMo_cuts_16 : decode (mC mMo_cuts) 16 = .ok (.invokestatic 109, 3) := by decide +kernel
theorem dMo_cuts_19 : decode (mC mMo_cuts) 19 = .ok (.ifCond .eq (53), 3) := by decide +kernel
theorem dMo_cuts_22 : decode (mC mMo_cuts) 22 = .ok (.iload_n 2, 1) := by decide +kernel
theorem dMo_cuts_23 : decode (mC mMo_cuts) 23 = .ok (.i2l, 1) := by decide +kernel
theorem dMo_cuts_24 : decode (mC mMo_cuts) 24 = .ok (.ldc2_w 420, 3) := by decide +kernel
theorem dMo_cuts_27 : decode (mC mMo_cuts) 27 = .ok (.ldc2_w 422, 3) := by decide +kernel
theorem dMo_cuts_30 : decode (mC mMo_cuts) 30 = .ok (.invokestatic 109, 3) := by decide +kernel
theorem dMo_cuts_33 : decode (mC mMo_cuts) 33 = .ok (.ifCond .eq (39), 3) := by decide +kernel
theorem dMo_cuts_36 : decode (mC mMo_cuts) 36 = .ok (.iload_n 3, 1) := by decide +kernel
theorem dMo_cuts_37 : decode (mC mMo_cuts) 37 = .ok (.i2l, 1) := by decide +kernel
theorem dMo_cuts_38 : decode (mC mMo_cuts) 38 = .ok (.lconst 1, 1) := by decide +kernel
theorem dMo_cuts_39 : decode (mC mMo_cuts) 39 = .ok (.ldc2_w 424, 3) := by decide +kernel
theorem dMo_cuts_42 : decode (mC mMo_cuts) 42 = .ok (.invokestatic 109, 3) := by decide +kernel
theorem dMo_cuts_45 : decode (mC mMo_cuts) 45 = .ok (.ifCond .eq (27), 3) := by decide +kernel
theorem dMo_cuts_48 : decode (mC mMo_cuts) 48 = .ok (.iload 4, 2) := by decide +kernel
theorem dMo_cuts_50 : decode (mC mMo_cuts) 50 = .ok (.i2l, 1) := by decide +kernel
theorem dMo_cuts_51 : decode (mC mMo_cuts) 51 = .ok (.lconst 0, 1) := by decide +kernel
theorem dMo_cuts_52 : decode (mC mMo_cuts) 52 = .ok (.ldc2_w 414, 3) := by decide +kernel
theorem dMo_cuts_55 : decode (mC mMo_cuts) 55 = .ok (.invokestatic 109, 3) := by decide +kernel
theorem dMo_cuts_58 : decode (mC mMo_cuts) 58 = .ok (.ifCond .eq (14), 3) := by decide +kernel
theorem dMo_cuts_61 : decode (mC mMo_cuts) 61 = .ok (.iload 5, 2) := by decide +kernel
theorem dMo_cuts_63 : decode (mC mMo_cuts) 63 = .ok (.i2l, 1) := by decide +kernel
theorem dMo_cuts_64 : decode (mC mMo_cuts) 64 = .ok (.lconst 0, 1) := by decide +kernel
theorem dMo_cuts_65 : decode (mC mMo_cuts) 65 = .ok (.lconst 1, 1) := by decide +kernel
theorem dMo_cuts_66 : decode (mC mMo_cuts) 66 = .ok (.invokestatic 109, 3) := by decide +kernel
theorem dMo_cuts_69 : decode (mC mMo_cuts) 69 = .ok (.ifCond .ne (9), 3) := by decide +kernel
theorem dMo_cuts_72 : decode (mC mMo_cuts) 72 = .ok (.aload_n 0, 1) := by decide +kernel
theorem dMo_cuts_73 : decode (mC mMo_cuts) 73 = .ok (.iconst (5), 1) := by decide +kernel
theorem dMo_cuts_74 : decode (mC mMo_cuts) 74 = .ok (.invokevirtual 329, 3) := by decide +kernel
theorem dMo_cuts_77 : decode (mC mMo_cuts) 77 = .ok (.ireturn, 1) := by decide +kernel
theorem dMo_cuts_78 : decode (mC mMo_cuts) 78 = .ok (.iload_n 1, 1) := by decide +kernel
theorem dMo_cuts_79 : decode (mC mMo_cuts) 79 = .ok (.iload_n 3, 1) := by decide +kernel
theorem dMo_cuts_80 : decode (mC mMo_cuts) 80 = .ok (.invokestatic 367, 3) := by decide +kernel
theorem dMo_cuts_83 : decode (mC mMo_cuts) 83 = .ok (.istore 6, 2) := by decide +kernel
theorem dMo_cuts_85 : decode (mC mMo_cuts) 85 = .ok (.aload_n 0, 1) := by decide +kernel
theorem dMo_cuts_86 : decode (mC mMo_cuts) 86 = .ok (.getfield 65, 3) := by decide +kernel
theorem dMo_cuts_89 : decode (mC mMo_cuts) 89 = .ok (.iload 6, 2) := by decide +kernel
theorem dMo_cuts_91 : decode (mC mMo_cuts) 91 = .ok (.iconst (-1), 1) := by decide +kernel
theorem dMo_cuts_92 : decode (mC mMo_cuts) 92 = .ok (.iastore, 1) := by decide +kernel
theorem dMo_cuts_93 : decode (mC mMo_cuts) 93 = .ok (.iload 6, 2) := by decide +kernel
theorem dMo_cuts_95 : decode (mC mMo_cuts) 95 = .ok (.iconst (1), 1) := by decide +kernel
theorem dMo_cuts_96 : decode (mC mMo_cuts) 96 = .ok (.isub, 1) := by decide +kernel
theorem dMo_cuts_97 : decode (mC mMo_cuts) 97 = .ok (.istore 7, 2) := by decide +kernel
theorem dMo_cuts_99 : decode (mC mMo_cuts) 99 = .ok (.iload 7, 2) := by decide +kernel
theorem dMo_cuts_101 : decode (mC mMo_cuts) 101 = .ok (.ifCond .lt (119), 3) := by decide +kernel
theorem dMo_cuts_104 : decode (mC mMo_cuts) 104 = .ok (.iload_n 1, 1) := by decide +kernel
theorem dMo_cuts_105 : decode (mC mMo_cuts) 105 = .ok (.iload 7, 2) := by decide +kernel
theorem dMo_cuts_107 : decode (mC mMo_cuts) 107 = .ok (.isub, 1) := by decide +kernel
theorem dMo_cuts_108 : decode (mC mMo_cuts) 108 = .ok (.iload 4, 2) := by decide +kernel
theorem dMo_cuts_110 : decode (mC mMo_cuts) 110 = .ok (.isub, 1) := by decide +kernel
theorem dMo_cuts_111 : decode (mC mMo_cuts) 111 = .ok (.istore 8, 2) := by decide +kernel
theorem dMo_cuts_113 : decode (mC mMo_cuts) 113 = .ok (.aload_n 0, 1) := by decide +kernel
theorem dMo_cuts_114 : decode (mC mMo_cuts) 114 = .ok (.getfield 65, 3) := by decide +kernel
theorem dMo_cuts_117 : decode (mC mMo_cuts) 117 = .ok (.iload 7, 2) := by decide +kernel
theorem dMo_cuts_119 : decode (mC mMo_cuts) 119 = .ok (.iconst (1), 1) := by decide +kernel
theorem dMo_cuts_120 : decode (mC mMo_cuts) 120 = .ok (.iadd, 1) := by decide +kernel
theorem dMo_cuts_121 : decode (mC mMo_cuts) 121 = .ok (.iaload, 1) := by decide +kernel
theorem dMo_cuts_122 : decode (mC mMo_cuts) 122 = .ok (.ifCond .lt (21), 3) := by decide +kernel
theorem dMo_cuts_125 : decode (mC mMo_cuts) 125 = .ok (.aload_n 0, 1) := by decide +kernel
theorem dMo_cuts_126 : decode (mC mMo_cuts) 126 = .ok (.getfield 65, 3) := by decide +kernel
theorem dMo_cuts_129 : decode (mC mMo_cuts) 129 = .ok (.iload 7, 2) := by decide +kernel
theorem dMo_cuts_131 : decode (mC mMo_cuts) 131 = .ok (.iconst (1), 1) := by decide +kernel
theorem dMo_cuts_132 : decode (mC mMo_cuts) 132 = .ok (.iadd, 1) := by decide +kernel
theorem dMo_cuts_133 : decode (mC mMo_cuts) 133 = .ok (.iaload, 1) := by decide +kernel
theorem dMo_cuts_134 : decode (mC mMo_cuts) 134 = .ok (.iload_n 2, 1) := by decide +kernel
theorem dMo_cuts_135 : decode (mC mMo_cuts) 135 = .ok (.irem, 1) := by decide +kernel
theorem dMo_cuts_136 : decode (mC mMo_cuts) 136 = .ok (.iload 7, 2) := by decide +kernel
theorem dMo_cuts_138 : decode (mC mMo_cuts) 138 = .ok (.iload_n 2, 1) := by decide +kernel
theorem dMo_cuts_139 : decode (mC mMo_cuts) 139 = .ok (.irem, 1) := by decide +kernel
theorem dMo_cuts_140 : decode (mC mMo_cuts) 140 = .ok (.if_icmp .eq (7), 3) := by decide +kernel
theorem dMo_cuts_143 : decode (mC mMo_cuts) 143 = .ok (.iconst (0), 1) := by decide +kernel
theorem dMo_cuts_144 : decode (mC mMo_cuts) 144 = .ok (.goto (12), 3) := by decide +kernel
theorem dMo_cuts_147 : decode (mC mMo_cuts) 147 = .ok (.aload_n 0, 1) := by decide +kernel
theorem dMo_cuts_148 : decode (mC mMo_cuts) 148 = .ok (.getfield 68, 3) := by decide +kernel
theorem dMo_cuts_151 : decode (mC mMo_cuts) 151 = .ok (.iload 7, 2) := by decide +kernel
theorem dMo_cuts_153 : decode (mC mMo_cuts) 153 = .ok (.iconst (1), 1) := by decide +kernel
theorem dMo_cuts_154 : decode (mC mMo_cuts) 154 = .ok (.iadd, 1) := by decide +kernel
theorem dMo_cuts_155 : decode (mC mMo_cuts) 155 = .ok (.iaload, 1) := by decide +kernel
theorem dMo_cuts_156 : decode (mC mMo_cuts) 156 = .ok (.istore 9, 2) := by decide +kernel
theorem dMo_cuts_158 : decode (mC mMo_cuts) 158 = .ok (.aload_n 0, 1) := by decide +kernel
theorem dMo_cuts_159 : decode (mC mMo_cuts) 159 = .ok (.getfield 65, 3) := by decide +kernel
theorem dMo_cuts_162 : decode (mC mMo_cuts) 162 = .ok (.iload 7, 2) := by decide +kernel
theorem dMo_cuts_164 : decode (mC mMo_cuts) 164 = .ok (.iload 8, 2) := by decide +kernel
theorem dMo_cuts_166 : decode (mC mMo_cuts) 166 = .ok (.iload 9, 2) := by decide +kernel
theorem dMo_cuts_168 : decode (mC mMo_cuts) 168 = .ok (.if_icmp .lt (8), 3) := by decide +kernel
theorem dMo_cuts_171 : decode (mC mMo_cuts) 171 = .ok (.iload 7, 2) := by decide +kernel
theorem dMo_cuts_173 : decode (mC mMo_cuts) 173 = .ok (.goto (12), 3) := by decide +kernel
theorem dMo_cuts_176 : decode (mC mMo_cuts) 176 = .ok (.aload_n 0, 1) := by decide +kernel
theorem dMo_cuts_177 : decode (mC mMo_cuts) 177 = .ok (.getfield 65, 3) := by decide +kernel
theorem dMo_cuts_180 : decode (mC mMo_cuts) 180 = .ok (.iload 7, 2) := by decide +kernel
theorem dMo_cuts_182 : decode (mC mMo_cuts) 182 = .ok (.iconst (1), 1) := by decide +kernel
theorem dMo_cuts_183 : decode (mC mMo_cuts) 183 = .ok (.iadd, 1) := by decide +kernel
theorem dMo_cuts_184 : decode (mC mMo_cuts) 184 = .ok (.iaload, 1) := by decide +kernel
theorem dMo_cuts_185 : decode (mC mMo_cuts) 185 = .ok (.iastore, 1) := by decide +kernel
theorem dMo_cuts_186 : decode (mC mMo_cuts) 186 = .ok (.aload_n 0, 1) := by decide +kernel
theorem dMo_cuts_187 : decode (mC mMo_cuts) 187 = .ok (.getfield 68, 3) := by decide +kernel
theorem dMo_cuts_190 : decode (mC mMo_cuts) 190 = .ok (.iload 7, 2) := by decide +kernel
theorem dMo_cuts_192 : decode (mC mMo_cuts) 192 = .ok (.iload 8, 2) := by decide +kernel
theorem dMo_cuts_194 : decode (mC mMo_cuts) 194 = .ok (.iload 9, 2) := by decide +kernel
theorem dMo_cuts_196 : decode (mC mMo_cuts) 196 = .ok (.if_icmp .lt (8), 3) := by decide +kernel
theorem dMo_cuts_199 : decode (mC mMo_cuts) 199 = .ok (.iload 8, 2) := by decide +kernel
theorem dMo_cuts_201 : decode (mC mMo_cuts) 201 = .ok (.goto (12), 3) := by decide +kernel
theorem dMo_cuts_204 : decode (mC mMo_cuts) 204 = .ok (.aload_n 0, 1) := by decide +kernel
theorem dMo_cuts_205 : decode (mC mMo_cuts) 205 = .ok (.getfield 68, 3) := by decide +kernel
theorem dMo_cuts_208 : decode (mC mMo_cuts) 208 = .ok (.iload 7, 2) := by decide +kernel
theorem dMo_cuts_210 : decode (mC mMo_cuts) 210 = .ok (.iconst (1), 1) := by decide +kernel
theorem dMo_cuts_211 : decode (mC mMo_cuts) 211 = .ok (.iadd, 1) := by decide +kernel
theorem dMo_cuts_212 : decode (mC mMo_cuts) 212 = .ok (.iaload, 1) := by decide +kernel
theorem dMo_cuts_213 : decode (mC mMo_cuts) 213 = .ok (.iastore, 1) := by decide +kernel
theorem dMo_cuts_214 : decode (mC mMo_cuts) 214 = .ok (.iinc 7 (-1), 3) := by decide +kernel
theorem dMo_cuts_217 : decode (mC mMo_cuts) 217 = .ok (.goto (-118), 3) := by decide +kernel
theorem dMo_cuts_220 : decode (mC mMo_cuts) 220 = .ok (.aload_n 0, 1) := by decide +kernel
theorem dMo_cuts_221 : decode (mC mMo_cuts) 221 = .ok (.getfield 65, 3) := by decide +kernel
theorem dMo_cuts_224 : decode (mC mMo_cuts) 224 = .ok (.iconst (0), 1) := by decide +kernel
theorem dMo_cuts_225 : decode (mC mMo_cuts) 225 = .ok (.iaload, 1) := by decide +kernel
theorem dMo_cuts_226 : decode (mC mMo_cuts) 226 = .ok (.ifCond .ge (12), 3) := by decide +kernel
theorem dMo_cuts_229 : decode (mC mMo_cuts) 229 = .ok (.aload_n 0, 1) := by decide +kernel
theorem dMo_cuts_230 : decode (mC mMo_cuts) 230 = .ok (.bipush (8), 2) := by decide +kernel
theorem dMo_cuts_232 : decode (mC mMo_cuts) 232 = .ok (.invokevirtual 329, 3) := by decide +kernel
theorem dMo_cuts_235 : decode (mC mMo_cuts) 235 = .ok (.goto (25), 3) := by decide +kernel
theorem dMo_cuts_238 : decode (mC mMo_cuts) 238 = .ok (.iload 5, 2) := by decide +kernel
theorem dMo_cuts_240 : decode (mC mMo_cuts) 240 = .ok (.ifCond .ne (14), 3) := by decide +kernel
theorem dMo_cuts_243 : decode (mC mMo_cuts) 243 = .ok (.aload_n 0, 1) := by decide +kernel
theorem dMo_cuts_244 : decode (mC mMo_cuts) 244 = .ok (.getfield 65, 3) := by decide +kernel
theorem dMo_cuts_247 : decode (mC mMo_cuts) 247 = .ok (.iconst (0), 1) := by decide +kernel
theorem dMo_cuts_248 : decode (mC mMo_cuts) 248 = .ok (.iaload, 1) := by decide +kernel
theorem dMo_cuts_249 : decode (mC mMo_cuts) 249 = .ok (.iload_n 2, 1) := by decide +kernel
theorem dMo_cuts_250 : decode (mC mMo_cuts) 250 = .ok (.irem, 1) := by decide +kernel
theorem dMo_cuts_251 : decode (mC mMo_cuts) 251 = .ok (.goto (9), 3) := by decide +kernel
theorem dMo_cuts_254 : decode (mC mMo_cuts) 254 = .ok (.aload_n 0, 1) := by decide +kernel
theorem dMo_cuts_255 : decode (mC mMo_cuts) 255 = .ok (.getfield 65, 3) := by decide +kernel
theorem dMo_cuts_258 : decode (mC mMo_cuts) 258 = .ok (.iconst (0), 1) := by decide +kernel
theorem dMo_cuts_259 : decode (mC mMo_cuts) 259 = .ok (.iaload, 1) := by decide +kernel
theorem dMo_cuts_260 : decode (mC mMo_cuts) 260 = .ok (.ireturn, 1) := by decide +kernel
theorem bMo_cuts_0 {E : mEn} {d : Nat} {σ : mSt} {Q : mPost} {a1 : Int32} {a2 : Int32} {a3 : Int32} {a4 : Int32} {a5 : Int32} {u6 : Value} {u7 : Value} {u8 : Value} {u9 : Value} : WP E (d + 1) mMo_cuts 0 [.ref 166, .int a1, .int a2, .int a3, .int a4, .int a5, u6, u7, u8, u9] [] σ Q = WP E d mMo_isIn 0 [.long (a1.toInt64), uu, .long 1, uu, .long (60), uu] [] (sI (sI σ 166 1 0) 166 0 0) (fun r σ' => WP E (d + 1) mMo_cuts 19 [.ref 166, .int a1, .int a2, .int a3, .int a4, .int a5, u6, u7, u8, u9] (r.toList ++ []) σ' Q) := (w_aload_n dMo_cuts_0 rfl).trans ((w_iconst (v := 0) dMo_cuts_1 rfl).trans ((w_puti dMo_cuts_2 rz11_74 sh_166 rfl rfl rfl).trans ((w_aload_n dMo_cuts_5 rfl).trans ((w_iconst (v := 0) dMo_cuts_6 rfl).trans ((w_puti dMo_cuts_7 rz11_77 sh_166 rfl rfl rfl).trans ((w_iload_n dMo_cuts_10 rfl).trans ((w_i2l dMo_cuts_11).trans ((w_lconst (v := 1) dMo_cuts_12 rfl).trans ((w_ldc2_w dMo_cuts_13 rz11_414).trans (w_stat (vs := [.long (a1.toInt64), .long 1, .long (60)]) (st' := []) (es := [.long (a1.toInt64), uu, .long 1, uu, .long (60), uu]) dMo_cuts_16 rz11_109 rfl rfl rfl (Nat.le_of_ble_eq_true rfl) (Nat.le_of_ble_eq_true rfl) rfl))))))))))
theorem bMo_cuts_19 {E : mEn} {d : Nat} {σ : mSt} {Q : mPost} {a1 : Int32} {a2 : Int32} {a3 : Int32} {a4 : Int32} {a5 : Int32} {u6 : Value} {u7 : Value} {u8 : Value} {u9 : Value} {s0 : Int32} : WP E d mMo_cuts 19 [.ref 166, .int a1, .int a2, .int a3, .int a4, .int a5, u6, u7, u8, u9] [.int s0] σ Q = (if s0 = 0 then WP E d mMo_cuts 72 [.ref 166, .int a1, .int a2, .int a3, .int a4, .int a5, u6, u7, u8, u9] [] σ Q else WP E d mMo_cuts 22 [.ref 166, .int a1, .int a2, .int a3, .int a4, .int a5, u6, u7, u8, u9] [] σ Q) := w_ifeq (t := 72) dMo_cuts_19 (by decide)
theorem bMo_cuts_22 {E : mEn} {d : Nat} {σ : mSt} {Q : mPost} {a1 : Int32} {a2 : Int32} {a3 : Int32} {a4 : Int32} {a5 : Int32} {u6 : Value} {u7 : Value} {u8 : Value} {u9 : Value} : WP E (d + 1) mMo_cuts 22 [.ref 166, .int a1, .int a2, .int a3, .int a4, .int a5, u6, u7, u8, u9] [] σ Q = WP E d mMo_isIn 0 [.long (a2.toInt64), uu, .long (2), uu, .long (8), uu] [] σ (fun r σ' => WP E (d + 1) mMo_cuts 33 [.ref 166, .int a1, .int a2, .int a3, .int a4, .int a5, u6, u7, u8, u9] (r.toList ++ []) σ' Q) := (w_iload_n dMo_cuts_22 rfl).trans ((w_i2l dMo_cuts_23).trans ((w_ldc2_w dMo_cuts_24 rz11_420).trans ((w_ldc2_w dMo_cuts_27 rz11_422).trans (w_stat (vs := [.long (a2.toInt64), .long (2), .long (8)]) (st' := []) (es := [.long (a2.toInt64), uu, .long (2), uu, .long (8), uu]) dMo_cuts_30 rz11_109 rfl rfl rfl (Nat.le_of_ble_eq_true rfl) (Nat.le_of_ble_eq_true rfl) rfl))))
theorem bMo_cuts_33 {E : mEn} {d : Nat} {σ : mSt} {Q : mPost} {a1 : Int32} {a2 : Int32} {a3 : Int32} {a4 : Int32} {a5 : Int32} {u6 : Value} {u7 : Value} {u8 : Value} {u9 : Value} {s0 : Int32} : WP E d mMo_cuts 33 [.ref 166, .int a1, .int a2, .int a3, .int a4, .int a5, u6, u7, u8, u9] [.int s0] σ Q = (if s0 = 0 then WP E d mMo_cuts 72 [.ref 166, .int a1, .int a2, .int a3, .int a4, .int a5, u6, u7, u8, u9] [] σ Q else WP E d mMo_cuts 36 [.ref 166, .int a1, .int a2, .int a3, .int a4, .int a5, u6, u7, u8, u9] [] σ Q) := w_ifeq (t := 72) dMo_cuts_33 (by decide)
theorem bMo_cuts_36 {E : mEn} {d : Nat} {σ : mSt} {Q : mPost} {a1 : Int32} {a2 : Int32} {a3 : Int32} {a4 : Int32} {a5 : Int32} {u6 : Value} {u7 : Value} {u8 : Value} {u9 : Value} : WP E (d + 1) mMo_cuts 36 [.ref 166, .int a1, .int a2, .int a3, .int a4, .int a5, u6, u7, u8, u9] [] σ Q = WP E d mMo_isIn 0 [.long (a3.toInt64), uu, .long 1, uu, .long (40), uu] [] σ (fun r σ' => WP E (d + 1) mMo_cuts 45 [.ref 166, .int a1, .int a2, .int a3, .int a4, .int a5, u6, u7, u8, u9] (r.toList ++ []) σ' Q) := (w_iload_n dMo_cuts_36 rfl).trans ((w_i2l dMo_cuts_37).trans ((w_lconst (v := 1) dMo_cuts_38 rfl).trans ((w_ldc2_w dMo_cuts_39 rz11_424).trans (w_stat (vs := [.long (a3.toInt64), .long 1, .long (40)]) (st' := []) (es := [.long (a3.toInt64), uu, .long 1, uu, .long (40), uu]) dMo_cuts_42 rz11_109 rfl rfl rfl (Nat.le_of_ble_eq_true rfl) (Nat.le_of_ble_eq_true rfl) rfl))))
theorem bMo_cuts_45 {E : mEn} {d : Nat} {σ : mSt} {Q : mPost} {a1 : Int32} {a2 : Int32} {a3 : Int32} {a4 : Int32} {a5 : Int32} {u6 : Value} {u7 : Value} {u8 : Value} {u9 : Value} {s0 : Int32} : WP E d mMo_cuts 45 [.ref 166, .int a1, .int a2, .int a3, .int a4, .int a5, u6, u7, u8, u9] [.int s0] σ Q = (if s0 = 0 then WP E d mMo_cuts 72 [.ref 166, .int a1, .int a2, .int a3, .int a4, .int a5, u6, u7, u8, u9] [] σ Q else WP E d mMo_cuts 48 [.ref 166, .int a1, .int a2, .int a3, .int a4, .int a5, u6, u7, u8, u9] [] σ Q) := w_ifeq (t := 72) dMo_cuts_45 (by decide)
theorem bMo_cuts_48 {E : mEn} {d : Nat} {σ : mSt} {Q : mPost} {a1 : Int32} {a2 : Int32} {a3 : Int32} {a4 : Int32} {a5 : Int32} {u6 : Value} {u7 : Value} {u8 : Value} {u9 : Value} : WP E (d + 1) mMo_cuts 48 [.ref 166, .int a1, .int a2, .int a3, .int a4, .int a5, u6, u7, u8, u9] [] σ Q = WP E d mMo_isIn 0 [.long (a4.toInt64), uu, .long 0, uu, .long (60), uu] [] σ (fun r σ' => WP E (d + 1) mMo_cuts 58 [.ref 166, .int a1, .int a2, .int a3, .int a4, .int a5, u6, u7, u8, u9] (r.toList ++ []) σ' Q) := (w_iload dMo_cuts_48 rfl).trans ((w_i2l dMo_cuts_50).trans ((w_lconst (v := 0) dMo_cuts_51 rfl).trans ((w_ldc2_w dMo_cuts_52 rz11_414).trans (w_stat (vs := [.long (a4.toInt64), .long 0, .long (60)]) (st' := []) (es := [.long (a4.toInt64), uu, .long 0, uu, .long (60), uu]) dMo_cuts_55 rz11_109 rfl rfl rfl (Nat.le_of_ble_eq_true rfl) (Nat.le_of_ble_eq_true rfl) rfl))))
theorem bMo_cuts_58 {E : mEn} {d : Nat} {σ : mSt} {Q : mPost} {a1 : Int32} {a2 : Int32} {a3 : Int32} {a4 : Int32} {a5 : Int32} {u6 : Value} {u7 : Value} {u8 : Value} {u9 : Value} {s0 : Int32} : WP E d mMo_cuts 58 [.ref 166, .int a1, .int a2, .int a3, .int a4, .int a5, u6, u7, u8, u9] [.int s0] σ Q = (if s0 = 0 then WP E d mMo_cuts 72 [.ref 166, .int a1, .int a2, .int a3, .int a4, .int a5, u6, u7, u8, u9] [] σ Q else WP E d mMo_cuts 61 [.ref 166, .int a1, .int a2, .int a3, .int a4, .int a5, u6, u7, u8, u9] [] σ Q) := w_ifeq (t := 72) dMo_cuts_58 (by decide)
theorem bMo_cuts_61 {E : mEn} {d : Nat} {σ : mSt} {Q : mPost} {a1 : Int32} {a2 : Int32} {a3 : Int32} {a4 : Int32} {a5 : Int32} {u6 : Value} {u7 : Value} {u8 : Value} {u9 : Value} : WP E (d + 1) mMo_cuts 61 [.ref 166, .int a1, .int a2, .int a3, .int a4, .int a5, u6, u7, u8, u9] [] σ Q = WP E d mMo_isIn 0 [.long (a5.toInt64), uu, .long 0, uu, .long 1, uu] [] σ (fun r σ' => WP E (d + 1) mMo_cuts 69 [.ref 166, .int a1, .int a2, .int a3, .int a4, .int a5, u6, u7, u8, u9] (r.toList ++ []) σ' Q) := (w_iload dMo_cuts_61 rfl).trans ((w_i2l dMo_cuts_63).trans ((w_lconst (v := 0) dMo_cuts_64 rfl).trans ((w_lconst (v := 1) dMo_cuts_65 rfl).trans (w_stat (vs := [.long (a5.toInt64), .long 0, .long 1]) (st' := []) (es := [.long (a5.toInt64), uu, .long 0, uu, .long 1, uu]) dMo_cuts_66 rz11_109 rfl rfl rfl (Nat.le_of_ble_eq_true rfl) (Nat.le_of_ble_eq_true rfl) rfl))))
theorem bMo_cuts_69 {E : mEn} {d : Nat} {σ : mSt} {Q : mPost} {a1 : Int32} {a2 : Int32} {a3 : Int32} {a4 : Int32} {a5 : Int32} {u6 : Value} {u7 : Value} {u8 : Value} {u9 : Value} {s0 : Int32} : WP E d mMo_cuts 69 [.ref 166, .int a1, .int a2, .int a3, .int a4, .int a5, u6, u7, u8, u9] [.int s0] σ Q = (if ¬ s0 = 0 then WP E d mMo_cuts 78 [.ref 166, .int a1, .int a2, .int a3, .int a4, .int a5, u6, u7, u8, u9] [] σ Q else WP E d mMo_cuts 72 [.ref 166, .int a1, .int a2, .int a3, .int a4, .int a5, u6, u7, u8, u9] [] σ Q) := w_ifne (t := 78) dMo_cuts_69 (by decide)
theorem bMo_cuts_72 {E : mEn} {d : Nat} {σ : mSt} {Q : mPost} {a1 : Int32} {a2 : Int32} {a3 : Int32} {a4 : Int32} {a5 : Int32} {u6 : Value} {u7 : Value} {u8 : Value} {u9 : Value} : WP E (d + 1) mMo_cuts 72 [.ref 166, .int a1, .int a2, .int a3, .int a4, .int a5, u6, u7, u8, u9] [] σ Q = WP E d mMo_refuse 0 [.ref 166, .int (nI 5)] [] σ (fun r σ' => WP E (d + 1) mMo_cuts 77 [.ref 166, .int a1, .int a2, .int a3, .int a4, .int a5, u6, u7, u8, u9] (r.toList ++ []) σ' Q) := (w_aload_n dMo_cuts_72 rfl).trans ((w_iconst (v := (nI 5)) dMo_cuts_73 rfl).trans (w_virt (vs := [.int (nI 5)]) (st' := []) (es := [.ref 166, .int (nI 5)]) dMo_cuts_74 rz11_329 rfl sh_166 rfl rfl rfl (Nat.le_of_ble_eq_true rfl) (Nat.le_of_ble_eq_true rfl) rfl))
theorem bMo_cuts_77 {E : mEn} {d : Nat} {σ : mSt} {Q : mPost} {a1 : Int32} {a2 : Int32} {a3 : Int32} {a4 : Int32} {a5 : Int32} {u6 : Value} {u7 : Value} {u8 : Value} {u9 : Value} {s0 : Int32} : WP E d mMo_cuts 77 [.ref 166, .int a1, .int a2, .int a3, .int a4, .int a5, u6, u7, u8, u9] [.int s0] σ Q = Q (some (.int s0)) σ := w_iret dMo_cuts_77 rfl
theorem bMo_cuts_78 {E : mEn} {d : Nat} {σ : mSt} {Q : mPost} {a1 : Int32} {a2 : Int32} {a3 : Int32} {a4 : Int32} {a5 : Int32} {u6 : Value} {u7 : Value} {u8 : Value} {u9 : Value} : WP E d mMo_cuts 78 [.ref 166, .int a1, .int a2, .int a3, .int a4, .int a5, u6, u7, u8, u9] [] σ Q = (if mOut (if a3 < a1 then a3 else a1) 42 = true then False else WP E d mMo_cuts 99 [.ref 166, .int a1, .int a2, .int a3, .int a4, .int a5, .int (if a3 < a1 then a3 else a1), .int ((if a3 < a1 then a3 else a1) - 1), u8, u9] [] (sI σ 181 (if a3 < a1 then a3 else a1).toNatClampNeg (-1)) Q) := (w_iload_n dMo_cuts_78 rfl).trans ((w_iload_n dMo_cuts_79 rfl).trans ((w_min dMo_cuts_80 rz11_367 (Nat.le_of_ble_eq_true rfl)).trans ((w_istore (ls' := [.ref 166, .int a1, .int a2, .int a3, .int a4, .int a5, .int (if a3 < a1 then a3 else a1), u7, u8, u9]) dMo_cuts_83 (Nat.le_of_ble_eq_true rfl) rfl).trans ((w_aload_n dMo_cuts_85 rfl).trans ((w_getr (r := 181) dMo_cuts_86 rz11_65 sh_166 rfl).trans ((w_iload dMo_cuts_89 rfl).trans ((w_iconst (v := (-1)) dMo_cuts_91 rfl).trans ((w_iast dMo_cuts_92 sh_181).trans (ite_c ((w_iload dMo_cuts_93 rfl).trans ((w_iconst (v := 1) dMo_cuts_95 rfl).trans ((w_isub dMo_cuts_96).trans (w_istore (ls' := [.ref 166, .int a1, .int a2, .int a3, .int a4, .int a5, .int (if a3 < a1 then a3 else a1), .int ((if a3 < a1 then a3 else a1) - 1), u8, u9]) dMo_cuts_97 (Nat.le_of_ble_eq_true rfl) rfl)))))))))))))
theorem bMo_cuts_99 {E : mEn} {d : Nat} {σ : mSt} {Q : mPost} {a1 : Int32} {a2 : Int32} {a3 : Int32} {a4 : Int32} {a5 : Int32} {a6 : Int32} {a7 : Int32} {u8 : Value} {u9 : Value} : WP E d mMo_cuts 99 [.ref 166, .int a1, .int a2, .int a3, .int a4, .int a5, .int a6, .int a7, u8, u9] [] σ Q = (if a7 < 0 then WP E d mMo_cuts 220 [.ref 166, .int a1, .int a2, .int a3, .int a4, .int a5, .int a6, .int a7, u8, u9] [] σ Q else WP E d mMo_cuts 104 [.ref 166, .int a1, .int a2, .int a3, .int a4, .int a5, .int a6, .int a7, u8, u9] [] σ Q) := (w_iload dMo_cuts_99 rfl).trans (w_iflt (t := 220) dMo_cuts_101 (by decide))
theorem bMo_cuts_104 {E : mEn} {d : Nat} {σ : mSt} {Q : mPost} {a1 : Int32} {a2 : Int32} {a3 : Int32} {a4 : Int32} {a5 : Int32} {a6 : Int32} {a7 : Int32} {u8 : Value} {u9 : Value} : WP E d mMo_cuts 104 [.ref 166, .int a1, .int a2, .int a3, .int a4, .int a5, .int a6, .int a7, u8, u9] [] σ Q = (if mOut (a7 + 1) 42 = true then False else (if (σ.1 181 (a7 + 1).toNatClampNeg) < 0 then WP E d mMo_cuts 143 [.ref 166, .int a1, .int a2, .int a3, .int a4, .int a5, .int a6, .int a7, .int ((a1 - a7) - a4), u9] [] σ Q else WP E d mMo_cuts 125 [.ref 166, .int a1, .int a2, .int a3, .int a4, .int a5, .int a6, .int a7, .int ((a1 - a7) - a4), u9] [] σ Q)) := (w_iload_n dMo_cuts_104 rfl).trans ((w_iload dMo_cuts_105 rfl).trans ((w_isub dMo_cuts_107).trans ((w_iload dMo_cuts_108 rfl).trans ((w_isub dMo_cuts_110).trans ((w_istore (ls' := [.ref 166, .int a1, .int a2, .int a3, .int a4, .int a5, .int a6, .int a7, .int ((a1 - a7) - a4), u9]) dMo_cuts_111 (Nat.le_of_ble_eq_true rfl) rfl).trans ((w_aload_n dMo_cuts_113 rfl).trans ((w_getr (r := 181) dMo_cuts_114 rz11_65 sh_166 rfl).trans ((w_iload dMo_cuts_117 rfl).trans ((w_iconst (v := 1) dMo_cuts_119 rfl).trans ((w_iadd dMo_cuts_120).trans ((w_iald dMo_cuts_121 sh_181 (by decide)).trans (ite_c (w_iflt (t := 143) dMo_cuts_122 (by decide))))))))))))))
theorem bMo_cuts_125 {E : mEn} {d : Nat} {σ : mSt} {Q : mPost} {a1 : Int32} {a2 : Int32} {a3 : Int32} {a4 : Int32} {a5 : Int32} {a6 : Int32} {a7 : Int32} {a8 : Int32} {u9 : Value} : WP E d mMo_cuts 125 [.ref 166, .int a1, .int a2, .int a3, .int a4, .int a5, .int a6, .int a7, .int a8, u9] [] σ Q = (if mOut (a7 + 1) 42 = true then False else (if a2 = 0 then False else (if a2 = 0 then False else (if ((σ.1 181 (a7 + 1).toNatClampNeg) - (σ.1 181 (a7 + 1).toNatClampNeg) / a2 * a2) = (a7 - a7 / a2 * a2) then WP E d mMo_cuts 147 [.ref 166, .int a1, .int a2, .int a3, .int a4, .int a5, .int a6, .int a7, .int a8, u9] [] σ Q else WP E d mMo_cuts 143 [.ref 166, .int a1, .int a2, .int a3, .int a4, .int a5, .int a6, .int a7, .int a8, u9] [] σ Q)))) := (w_aload_n dMo_cuts_125 rfl).trans ((w_getr (r := 181) dMo_cuts_126 rz11_65 sh_166 rfl).trans ((w_iload dMo_cuts_129 rfl).trans ((w_iconst (v := 1) dMo_cuts_131 rfl).trans ((w_iadd dMo_cuts_132).trans ((w_iald dMo_cuts_133 sh_181 (by decide)).trans (ite_c ((w_iload_n dMo_cuts_134 rfl).trans ((w_irem' dMo_cuts_135).trans (ite_c ((w_iload dMo_cuts_136 rfl).trans ((w_iload_n dMo_cuts_138 rfl).trans ((w_irem' dMo_cuts_139).trans (ite_c (w_icmpeq (t := 147) dMo_cuts_140 (by decide)))))))))))))))
theorem bMo_cuts_143 {E : mEn} {d : Nat} {σ : mSt} {Q : mPost} {a1 : Int32} {a2 : Int32} {a3 : Int32} {a4 : Int32} {a5 : Int32} {a6 : Int32} {a7 : Int32} {a8 : Int32} {u9 : Value} : WP E d mMo_cuts 143 [.ref 166, .int a1, .int a2, .int a3, .int a4, .int a5, .int a6, .int a7, .int a8, u9] [] σ Q = WP E d mMo_cuts 156 [.ref 166, .int a1, .int a2, .int a3, .int a4, .int a5, .int a6, .int a7, .int a8, u9] [.int 0] σ Q := (w_iconst (v := 0) dMo_cuts_143 rfl).trans (w_goto (t := 156) dMo_cuts_144 (by decide))
theorem bMo_cuts_147 {E : mEn} {d : Nat} {σ : mSt} {Q : mPost} {a1 : Int32} {a2 : Int32} {a3 : Int32} {a4 : Int32} {a5 : Int32} {a6 : Int32} {a7 : Int32} {a8 : Int32} {u9 : Value} : WP E d mMo_cuts 147 [.ref 166, .int a1, .int a2, .int a3, .int a4, .int a5, .int a6, .int a7, .int a8, u9] [] σ Q = (if mOut (a7 + 1) 42 = true then False else WP E d mMo_cuts 156 [.ref 166, .int a1, .int a2, .int a3, .int a4, .int a5, .int a6, .int a7, .int a8, u9] [.int (σ.1 182 (a7 + 1).toNatClampNeg)] σ Q) := (w_aload_n dMo_cuts_147 rfl).trans ((w_getr (r := 182) dMo_cuts_148 rz11_68 sh_166 rfl).trans ((w_iload dMo_cuts_151 rfl).trans ((w_iconst (v := 1) dMo_cuts_153 rfl).trans ((w_iadd dMo_cuts_154).trans ((w_iald dMo_cuts_155 sh_182 (by decide)).trans (ite_c (rfl)))))))
theorem bMo_cuts_156 {E : mEn} {d : Nat} {σ : mSt} {Q : mPost} {a1 : Int32} {a2 : Int32} {a3 : Int32} {a4 : Int32} {a5 : Int32} {a6 : Int32} {a7 : Int32} {a8 : Int32} {u9 : Value} {s0 : Int32} : WP E d mMo_cuts 156 [.ref 166, .int a1, .int a2, .int a3, .int a4, .int a5, .int a6, .int a7, .int a8, u9] [.int s0] σ Q = (if a8 < s0 then WP E d mMo_cuts 176 [.ref 166, .int a1, .int a2, .int a3, .int a4, .int a5, .int a6, .int a7, .int a8, .int s0] [.int a7, .ref 181] σ Q else WP E d mMo_cuts 171 [.ref 166, .int a1, .int a2, .int a3, .int a4, .int a5, .int a6, .int a7, .int a8, .int s0] [.int a7, .ref 181] σ Q) := (w_istore (ls' := [.ref 166, .int a1, .int a2, .int a3, .int a4, .int a5, .int a6, .int a7, .int a8, .int s0]) dMo_cuts_156 (Nat.le_of_ble_eq_true rfl) rfl).trans ((w_aload_n dMo_cuts_158 rfl).trans ((w_getr (r := 181) dMo_cuts_159 rz11_65 sh_166 rfl).trans ((w_iload dMo_cuts_162 rfl).trans ((w_iload dMo_cuts_164 rfl).trans ((w_iload dMo_cuts_166 rfl).trans (w_icmplt (t := 176) dMo_cuts_168 (by decide)))))))
theorem bMo_cuts_171 {E : mEn} {d : Nat} {σ : mSt} {Q : mPost} {a1 : Int32} {a2 : Int32} {a3 : Int32} {a4 : Int32} {a5 : Int32} {a6 : Int32} {a7 : Int32} {a8 : Int32} {a9 : Int32} {s0 : Int32} : WP E d mMo_cuts 171 [.ref 166, .int a1, .int a2, .int a3, .int a4, .int a5, .int a6, .int a7, .int a8, .int a9] [.int s0, .ref 181] σ Q = WP E d mMo_cuts 185 [.ref 166, .int a1, .int a2, .int a3, .int a4, .int a5, .int a6, .int a7, .int a8, .int a9] [.int a7, .int s0, .ref 181] σ Q := (w_iload dMo_cuts_171 rfl).trans (w_goto (t := 185) dMo_cuts_173 (by decide))
theorem bMo_cuts_176 {E : mEn} {d : Nat} {σ : mSt} {Q : mPost} {a1 : Int32} {a2 : Int32} {a3 : Int32} {a4 : Int32} {a5 : Int32} {a6 : Int32} {a7 : Int32} {a8 : Int32} {a9 : Int32} {s0 : Int32} : WP E d mMo_cuts 176 [.ref 166, .int a1, .int a2, .int a3, .int a4, .int a5, .int a6, .int a7, .int a8, .int a9] [.int s0, .ref 181] σ Q = (if mOut (a7 + 1) 42 = true then False else WP E d mMo_cuts 185 [.ref 166, .int a1, .int a2, .int a3, .int a4, .int a5, .int a6, .int a7, .int a8, .int a9] [.int (σ.1 181 (a7 + 1).toNatClampNeg), .int s0, .ref 181] σ Q) := (w_aload_n dMo_cuts_176 rfl).trans ((w_getr (r := 181) dMo_cuts_177 rz11_65 sh_166 rfl).trans ((w_iload dMo_cuts_180 rfl).trans ((w_iconst (v := 1) dMo_cuts_182 rfl).trans ((w_iadd dMo_cuts_183).trans ((w_iald dMo_cuts_184 sh_181 (by decide)).trans (ite_c (rfl)))))))
theorem bMo_cuts_185 {E : mEn} {d : Nat} {σ : mSt} {Q : mPost} {a1 : Int32} {a2 : Int32} {a3 : Int32} {a4 : Int32} {a5 : Int32} {a6 : Int32} {a7 : Int32} {a8 : Int32} {a9 : Int32} {s0 : Int32} {s1 : Int32} : WP E d mMo_cuts 185 [.ref 166, .int a1, .int a2, .int a3, .int a4, .int a5, .int a6, .int a7, .int a8, .int a9] [.int s0, .int s1, .ref 181] σ Q = (if mOut s1 42 = true then False else (if a8 < a9 then WP E d mMo_cuts 204 [.ref 166, .int a1, .int a2, .int a3, .int a4, .int a5, .int a6, .int a7, .int a8, .int a9] [.int a7, .ref 182] (sI σ 181 s1.toNatClampNeg s0) Q else WP E d mMo_cuts 199 [.ref 166, .int a1, .int a2, .int a3, .int a4, .int a5, .int a6, .int a7, .int a8, .int a9] [.int a7, .ref 182] (sI σ 181 s1.toNatClampNeg s0) Q)) := (w_iast dMo_cuts_185 sh_181).trans (ite_c ((w_aload_n dMo_cuts_186 rfl).trans ((w_getr (r := 182) dMo_cuts_187 rz11_68 sh_166 rfl).trans ((w_iload dMo_cuts_190 rfl).trans ((w_iload dMo_cuts_192 rfl).trans ((w_iload dMo_cuts_194 rfl).trans (w_icmplt (t := 204) dMo_cuts_196 (by decide))))))))
theorem bMo_cuts_199 {E : mEn} {d : Nat} {σ : mSt} {Q : mPost} {a1 : Int32} {a2 : Int32} {a3 : Int32} {a4 : Int32} {a5 : Int32} {a6 : Int32} {a7 : Int32} {a8 : Int32} {a9 : Int32} {s0 : Int32} : WP E d mMo_cuts 199 [.ref 166, .int a1, .int a2, .int a3, .int a4, .int a5, .int a6, .int a7, .int a8, .int a9] [.int s0, .ref 182] σ Q = WP E d mMo_cuts 213 [.ref 166, .int a1, .int a2, .int a3, .int a4, .int a5, .int a6, .int a7, .int a8, .int a9] [.int a8, .int s0, .ref 182] σ Q := (w_iload dMo_cuts_199 rfl).trans (w_goto (t := 213) dMo_cuts_201 (by decide))
theorem bMo_cuts_204 {E : mEn} {d : Nat} {σ : mSt} {Q : mPost} {a1 : Int32} {a2 : Int32} {a3 : Int32} {a4 : Int32} {a5 : Int32} {a6 : Int32} {a7 : Int32} {a8 : Int32} {a9 : Int32} {s0 : Int32} : WP E d mMo_cuts 204 [.ref 166, .int a1, .int a2, .int a3, .int a4, .int a5, .int a6, .int a7, .int a8, .int a9] [.int s0, .ref 182] σ Q = (if mOut (a7 + 1) 42 = true then False else WP E d mMo_cuts 213 [.ref 166, .int a1, .int a2, .int a3, .int a4, .int a5, .int a6, .int a7, .int a8, .int a9] [.int (σ.1 182 (a7 + 1).toNatClampNeg), .int s0, .ref 182] σ Q) := (w_aload_n dMo_cuts_204 rfl).trans ((w_getr (r := 182) dMo_cuts_205 rz11_68 sh_166 rfl).trans ((w_iload dMo_cuts_208 rfl).trans ((w_iconst (v := 1) dMo_cuts_210 rfl).trans ((w_iadd dMo_cuts_211).trans ((w_iald dMo_cuts_212 sh_182 (by decide)).trans (ite_c (rfl)))))))
theorem bMo_cuts_213 {E : mEn} {d : Nat} {σ : mSt} {Q : mPost} {a1 : Int32} {a2 : Int32} {a3 : Int32} {a4 : Int32} {a5 : Int32} {a6 : Int32} {a7 : Int32} {a8 : Int32} {a9 : Int32} {s0 : Int32} {s1 : Int32} : WP E d mMo_cuts 213 [.ref 166, .int a1, .int a2, .int a3, .int a4, .int a5, .int a6, .int a7, .int a8, .int a9] [.int s0, .int s1, .ref 182] σ Q = (if mOut s1 42 = true then False else WP E d mMo_cuts 99 [.ref 166, .int a1, .int a2, .int a3, .int a4, .int a5, .int a6, .int (a7 + (-1)), .int a8, .int a9] [] (sI σ 182 s1.toNatClampNeg s0) Q) := (w_iast dMo_cuts_213 sh_182).trans (ite_c ((w_iinc (v := (-1)) (ls' := [.ref 166, .int a1, .int a2, .int a3, .int a4, .int a5, .int a6, .int (a7 + (-1)), .int a8, .int a9]) dMo_cuts_214 rfl rfl rfl).trans (w_goto (t := 99) dMo_cuts_217 (by decide))))
theorem bMo_cuts_220 {E : mEn} {d : Nat} {σ : mSt} {Q : mPost} {a1 : Int32} {a2 : Int32} {a3 : Int32} {a4 : Int32} {a5 : Int32} {a6 : Int32} {a7 : Int32} {u8 : Value} {u9 : Value} : WP E d mMo_cuts 220 [.ref 166, .int a1, .int a2, .int a3, .int a4, .int a5, .int a6, .int a7, u8, u9] [] σ Q = (if mOut 0 42 = true then False else (if 0 ≤ (σ.1 181 0) then WP E d mMo_cuts 238 [.ref 166, .int a1, .int a2, .int a3, .int a4, .int a5, .int a6, .int a7, u8, u9] [] σ Q else WP E d mMo_cuts 229 [.ref 166, .int a1, .int a2, .int a3, .int a4, .int a5, .int a6, .int a7, u8, u9] [] σ Q)) := (w_aload_n dMo_cuts_220 rfl).trans ((w_getr (r := 181) dMo_cuts_221 rz11_65 sh_166 rfl).trans ((w_iconst (v := 0) dMo_cuts_224 rfl).trans ((w_iald dMo_cuts_225 sh_181 (by decide)).trans (ite_c (w_ifge (t := 238) dMo_cuts_226 (by decide))))))
theorem bMo_cuts_229 {E : mEn} {d : Nat} {σ : mSt} {Q : mPost} {a1 : Int32} {a2 : Int32} {a3 : Int32} {a4 : Int32} {a5 : Int32} {a6 : Int32} {a7 : Int32} {u8 : Value} {u9 : Value} : WP E (d + 1) mMo_cuts 229 [.ref 166, .int a1, .int a2, .int a3, .int a4, .int a5, .int a6, .int a7, u8, u9] [] σ Q = WP E d mMo_refuse 0 [.ref 166, .int (nI 8)] [] σ (fun r σ' => WP E (d + 1) mMo_cuts 235 [.ref 166, .int a1, .int a2, .int a3, .int a4, .int a5, .int a6, .int a7, u8, u9] (r.toList ++ []) σ' Q) := (w_aload_n dMo_cuts_229 rfl).trans ((w_bipush (v := (nI 8)) dMo_cuts_230 rfl).trans (w_virt (vs := [.int (nI 8)]) (st' := []) (es := [.ref 166, .int (nI 8)]) dMo_cuts_232 rz11_329 rfl sh_166 rfl rfl rfl (Nat.le_of_ble_eq_true rfl) (Nat.le_of_ble_eq_true rfl) rfl))
theorem bMo_cuts_235 {E : mEn} {d : Nat} {σ : mSt} {Q : mPost} {a1 : Int32} {a2 : Int32} {a3 : Int32} {a4 : Int32} {a5 : Int32} {a6 : Int32} {a7 : Int32} {u8 : Value} {u9 : Value} {s0 : Int32} : WP E d mMo_cuts 235 [.ref 166, .int a1, .int a2, .int a3, .int a4, .int a5, .int a6, .int a7, u8, u9] [.int s0] σ Q = WP E d mMo_cuts 260 [.ref 166, .int a1, .int a2, .int a3, .int a4, .int a5, .int a6, .int a7, u8, u9] [.int s0] σ Q := w_goto (t := 260) dMo_cuts_235 (by decide)
theorem bMo_cuts_238 {E : mEn} {d : Nat} {σ : mSt} {Q : mPost} {a1 : Int32} {a2 : Int32} {a3 : Int32} {a4 : Int32} {a5 : Int32} {a6 : Int32} {a7 : Int32} {u8 : Value} {u9 : Value} : WP E d mMo_cuts 238 [.ref 166, .int a1, .int a2, .int a3, .int a4, .int a5, .int a6, .int a7, u8, u9] [] σ Q = (if ¬ a5 = 0 then WP E d mMo_cuts 254 [.ref 166, .int a1, .int a2, .int a3, .int a4, .int a5, .int a6, .int a7, u8, u9] [] σ Q else WP E d mMo_cuts 243 [.ref 166, .int a1, .int a2, .int a3, .int a4, .int a5, .int a6, .int a7, u8, u9] [] σ Q) := (w_iload dMo_cuts_238 rfl).trans (w_ifne (t := 254) dMo_cuts_240 (by decide))
theorem bMo_cuts_243 {E : mEn} {d : Nat} {σ : mSt} {Q : mPost} {a1 : Int32} {a2 : Int32} {a3 : Int32} {a4 : Int32} {a5 : Int32} {a6 : Int32} {a7 : Int32} {u8 : Value} {u9 : Value} : WP E d mMo_cuts 243 [.ref 166, .int a1, .int a2, .int a3, .int a4, .int a5, .int a6, .int a7, u8, u9] [] σ Q = (if mOut 0 42 = true then False else (if a2 = 0 then False else WP E d mMo_cuts 260 [.ref 166, .int a1, .int a2, .int a3, .int a4, .int a5, .int a6, .int a7, u8, u9] [.int ((σ.1 181 0) - (σ.1 181 0) / a2 * a2)] σ Q)) := (w_aload_n dMo_cuts_243 rfl).trans ((w_getr (r := 181) dMo_cuts_244 rz11_65 sh_166 rfl).trans ((w_iconst (v := 0) dMo_cuts_247 rfl).trans ((w_iald dMo_cuts_248 sh_181 (by decide)).trans (ite_c ((w_iload_n dMo_cuts_249 rfl).trans ((w_irem' dMo_cuts_250).trans (ite_c (w_goto (t := 260) dMo_cuts_251 (by decide)))))))))
theorem bMo_cuts_254 {E : mEn} {d : Nat} {σ : mSt} {Q : mPost} {a1 : Int32} {a2 : Int32} {a3 : Int32} {a4 : Int32} {a5 : Int32} {a6 : Int32} {a7 : Int32} {u8 : Value} {u9 : Value} : WP E d mMo_cuts 254 [.ref 166, .int a1, .int a2, .int a3, .int a4, .int a5, .int a6, .int a7, u8, u9] [] σ Q = (if mOut 0 42 = true then False else WP E d mMo_cuts 260 [.ref 166, .int a1, .int a2, .int a3, .int a4, .int a5, .int a6, .int a7, u8, u9] [.int (σ.1 181 0)] σ Q) := (w_aload_n dMo_cuts_254 rfl).trans ((w_getr (r := 181) dMo_cuts_255 rz11_65 sh_166 rfl).trans ((w_iconst (v := 0) dMo_cuts_258 rfl).trans ((w_iald dMo_cuts_259 sh_181 (by decide)).trans (ite_c (rfl)))))
theorem bMo_cuts_260 {E : mEn} {d : Nat} {σ : mSt} {Q : mPost} {a1 : Int32} {a2 : Int32} {a3 : Int32} {a4 : Int32} {a5 : Int32} {a6 : Int32} {a7 : Int32} {u8 : Value} {u9 : Value} {s0 : Int32} : WP E d mMo_cuts 260 [.ref 166, .int a1, .int a2, .int a3, .int a4, .int a5, .int a6, .int a7, u8, u9] [.int s0] σ Q = Q (some (.int s0)) σ := w_iret dMo_cuts_260 rfl
theorem dMo_auction_0 : decode (mC mMo_auction) 0 = .ok (.aload_n 0, 1) := by decide +kernel
theorem dMo_auction_1 : decode (mC mMo_auction) 1 = .ok (.iconst (0), 1) := by decide +kernel
theorem dMo_auction_2 : decode (mC mMo_auction) 2 = .ok (.putfield 74, 3) := by decide +kernel
theorem dMo_auction_5 : decode (mC mMo_auction) 5 = .ok (.aload_n 0, 1) := by decide +kernel
theorem dMo_auction_6 : decode (mC mMo_auction) 6 = .ok (.iconst (0), 1) := by decide +kernel
theorem dMo_auction_7 : decode (mC mMo_auction) 7 = .ok (.putfield 77, 3) := by decide +kernel
theorem dMo_auction_10 : decode (mC mMo_auction) 10 = .ok (.aload_n 0, 1) := by decide +kernel
theorem dMo_auction_11 : decode (mC mMo_auction) 11 = .ok (.iload_n 1, 1) := by decide +kernel
theorem dMo_auction_12 : decode (mC mMo_auction) 12 = .ok (.invokevirtual 411, 3) := by decide +kernel
theorem dMo_auction_15 : decode (mC mMo_auction) 15 = .ok (.ifCond .ne (9), 3) := by decide +kernel
theorem dMo_auction_18 : decode (mC mMo_auction) 18 = .ok (.aload_n 0, 1) := by decide +kernel
theorem dMo_auction_19 : decode (mC mMo_auction) 19 = .ok (.iconst (1), 1) := by decide +kernel
theorem dMo_auction_20 : decode (mC mMo_auction) 20 = .ok (.invokevirtual 329, 3) := by decide +kernel
theorem dMo_auction_23 : decode (mC mMo_auction) 23 = .ok (.ireturn, 1) := by decide +kernel
theorem dMo_auction_24 : decode (mC mMo_auction) 24 = .ok (.aload_n 0, 1) := by decide +kernel
theorem dMo_auction_25 : decode (mC mMo_auction) 25 = .ok (.getfield 17, 3) := by decide +kernel
theorem dMo_auction_28 : decode (mC mMo_auction) 28 = .ok (.iload_n 1, 1) := by decide +kernel
theorem dMo_auction_29 : decode (mC mMo_auction) 29 = .ok (.iaload, 1) := by decide +kernel
theorem dMo_auction_30 : decode (mC mMo_auction) 30 = .ok (.ifCond .ge (9), 3) := by decide +kernel
theorem dMo_auction_33 : decode (mC mMo_auction) 33 = .ok (.aload_n 0, 1) := by decide +kernel
theorem dMo_auction_34 : decode (mC mMo_auction) 34 = .ok (.iconst (3), 1) := by decide +kernel
theorem dMo_auction_35 : decode (mC mMo_auction) 35 = .ok (.invokevirtual 329, 3) := by decide +kernel
theorem dMo_auction_38 : decode (mC mMo_auction) 38 = .ok (.ireturn, 1) := by decide +kernel
theorem dMo_auction_39 : decode (mC mMo_auction) 39 = .ok (.aload_n 0, 1) := by decide +kernel
theorem dMo_auction_40 : decode (mC mMo_auction) 40 = .ok (.getfield 17, 3) := by decide +kernel
theorem dMo_auction_43 : decode (mC mMo_auction) 43 = .ok (.iload_n 1, 1) := by decide +kernel
theorem dMo_auction_44 : decode (mC mMo_auction) 44 = .ok (.iaload, 1) := by decide +kernel
theorem dMo_auction_45 : decode (mC mMo_auction) 45 = .ok (.iload_n 2, 1) := by decide +kernel
theorem dMo_auction_46 : decode (mC mMo_auction) 46 = .ok (.if_icmp .ge (9), 3) := by decide +kernel
theorem dMo_auction_49 : decode (mC mMo_auction) 49 = .ok (.aload_n 0, 1) := by decide +kernel
theorem dMo_auction_50 : decode (mC mMo_auction) 50 = .ok (.iconst (4), 1) := by decide +kernel
theorem dMo_auction_51 : decode (mC mMo_auction) 51 = .ok (.invokevirtual 329, 3) := by decide +kernel
theorem dMo_auction_54 : decode (mC mMo_auction) 54 = .ok (.ireturn, 1) := by decide +kernel
theorem dMo_auction_55 : decode (mC mMo_auction) 55 = .ok (.iload_n 2, 1) := by decide +kernel
theorem dMo_auction_56 : decode (mC mMo_auction) 56 = .ok (.i2l, 1) := by decide +kernel
theorem dMo_auction_57 : decode (mC mMo_auction) 57 = .ok (.lconst 1, 1) := by decide +kernel
theorem dMo_auction_58 : decode (mC mMo_auction) 58 = .ok (.ldc2_w 422, 3) := by decide +kernel
theorem dMo_auction_61 : decode (mC mMo_auction) 61 = .ok (.invokestatic 109, 3) := by decide +kernel
theorem dMo_auction_64 : decode (mC mMo_auction) 64 = .ok (.ifCond .eq (13), 3) := by decide +kernel
theorem dMo_auction_67 : decode (mC mMo_auction) 67 = .ok (.iload_n 3, 1) := by decide +kernel
theorem dMo_auction_68 : decode (mC mMo_auction) 68 = .ok (.i2l, 1) := by decide +kernel
theorem dMo_auction_69 : decode (mC mMo_auction) 69 = .ok (.lconst 0, 1) := by decide +kernel
theorem dMo_auction_70 : decode (mC mMo_auction) 70 = .ok (.lconst 1, 1) := by decide +kernel
theorem dMo_auction_71 : decode (mC mMo_auction) 71 = .ok (.invokestatic 109, 3) := by decide +kernel
theorem dMo_auction_74 : decode (mC mMo_auction) 74 = .ok (.ifCond .ne (9), 3) := by decide +kernel
theorem dMo_auction_77 : decode (mC mMo_auction) 77 = .ok (.aload_n 0, 1) := by decide +kernel
theorem dMo_auction_78 : decode (mC mMo_auction) 78 = .ok (.iconst (5), 1) := by decide +kernel
theorem dMo_auction_79 : decode (mC mMo_auction) 79 = .ok (.invokevirtual 329, 3) := by decide +kernel
theorem dMo_auction_82 : decode (mC mMo_auction) 82 = .ok (.ireturn, 1) := by decide +kernel
theorem dMo_auction_83 : decode (mC mMo_auction) 83 = .ok (.iconst (0), 1) := by decide +kernel
theorem dMo_auction_84 : decode (mC mMo_auction) 84 = .ok (.istore 4, 2) := by decide +kernel
theorem dMo_auction_86 : decode (mC mMo_auction) 86 = .ok (.iload 4, 2) := by decide +kernel
theorem dMo_auction_88 : decode (mC mMo_auction) 88 = .ok (.iload_n 2, 1) := by decide +kernel
theorem dMo_auction_89 : decode (mC mMo_auction) 89 = .ok (.if_icmp .ge (32), 3) := by decide +kernel
theorem dMo_auction_92 : decode (mC mMo_auction) 92 = .ok (.aload_n 0, 1) := by decide +kernel
theorem dMo_auction_93 : decode (mC mMo_auction) 93 = .ok (.iload_n 1, 1) := by decide +kernel
theorem dMo_auction_94 : decode (mC mMo_auction) 94 = .ok (.iload 4, 2) := by decide +kernel
theorem dMo_auction_96 : decode (mC mMo_auction) 96 = .ok (.invokevirtual 416, 3) := by decide +kernel
theorem dMo_auction_99 : decode (mC mMo_auction) 99 = .ok (.lconst 0, 1) := by decide +kernel
theorem dMo_auction_100 : decode (mC mMo_auction) 100 = .ok (.ldc2_w 426, 3) := by decide +kernel
theorem dMo_auction_103 : decode (mC mMo_auction) 103 = .ok (.invokestatic 109, 3) := by decide +kernel
theorem dMo_auction_106 : decode (mC mMo_auction) 106 = .ok (.ifCond .ne (9), 3) := by decide +kernel
theorem dMo_auction_109 : decode (mC mMo_auction) 109 = .ok (.aload_n 0, 1) := by decide +kernel
theorem dMo_auction_110 : decode (mC mMo_auction) 110 = .ok (.iconst (5), 1) := by decide +kernel
theorem dMo_auction_111 : decode (mC mMo_auction) 111 = .ok (.invokevirtual 329, 3) := by decide +kernel
theorem dMo_auction_114 : decode (mC mMo_auction) 114 = .ok (.ireturn, 1) := by decide +kernel
theorem dMo_auction_115 : decode (mC mMo_auction) 115 = .ok (.iinc 4 (1), 3) := by decide +kernel
theorem dMo_auction_118 : decode (mC mMo_auction) 118 = .ok (.goto (-32), 3) := by decide +kernel
theorem dMo_auction_121 : decode (mC mMo_auction) 121 = .ok (.iconst (0), 1) := by decide +kernel
theorem dMo_auction_122 : decode (mC mMo_auction) 122 = .ok (.istore 4, 2) := by decide +kernel
theorem dMo_auction_124 : decode (mC mMo_auction) 124 = .ok (.iconst (1), 1) := by decide +kernel
theorem dMo_auction_125 : decode (mC mMo_auction) 125 = .ok (.istore 5, 2) := by decide +kernel
theorem dMo_auction_127 : decode (mC mMo_auction) 127 = .ok (.iload 5, 2) := by decide +kernel
theorem dMo_auction_129 : decode (mC mMo_auction) 129 = .ok (.iload_n 2, 1) := by decide +kernel
theorem dMo_auction_130 : decode (mC mMo_auction) 130 = .ok (.if_icmp .ge (31), 3) := by decide +kernel
theorem dMo_auction_133 : decode (mC mMo_auction) 133 = .ok (.aload_n 0, 1) := by decide +kernel
theorem dMo_auction_134 : decode (mC mMo_auction) 134 = .ok (.iload_n 1, 1) := by decide +kernel
theorem dMo_auction_135 : decode (mC mMo_auction) 135 = .ok (.iload 5, 2) := by decide +kernel
theorem dMo_auction_137 : decode (mC mMo_auction) 137 = .ok (.invokevirtual 416, 3) := by decide +kernel
theorem dMo_auction_140 : decode (mC mMo_auction) 140 = .ok (.aload_n 0, 1) := by decide +kernel
theorem dMo_auction_141 : decode (mC mMo_auction) 141 = .ok (.iload_n 1, 1) := by decide +kernel
theorem dMo_auction_142 : decode (mC mMo_auction) 142 = .ok (.iload 4, 2) := by decide +kernel
theorem dMo_auction_144 : decode (mC mMo_auction) 144 = .ok (.invokevirtual 416, 3) := by decide +kernel
theorem dMo_auction_147 : decode (mC mMo_auction) 147 = .ok (.lcmp, 1) := by decide +kernel
theorem dMo_auction_148 : decode (mC mMo_auction) 148 = .ok (.ifCond .le (7), 3) := by decide +kernel
theorem dMo_auction_151 : decode (mC mMo_auction) 151 = .ok (.iload 5, 2) := by decide +kernel
theorem dMo_auction_153 : decode (mC mMo_auction) 153 = .ok (.istore 4, 2) := by decide +kernel
theorem dMo_auction_155 : decode (mC mMo_auction) 155 = .ok (.iinc 5 (1), 3) := by decide +kernel
theorem dMo_auction_158 : decode (mC mMo_auction) 158 = .ok (.goto (-31), 3) := by decide +kernel
theorem dMo_auction_161 : decode (mC mMo_auction) 161 = .ok (.aload_n 0, 1) := by decide +kernel
theorem dMo_auction_162 : decode (mC mMo_auction) 162 = .ok (.iload_n 1, 1) := by decide +kernel
theorem dMo_auction_163 : decode (mC mMo_auction) 163 = .ok (.iload 4, 2) := by decide +kernel
theorem dMo_auction_165 : decode (mC mMo_auction) 165 = .ok (.invokevirtual 416, 3) := by decide +kernel
theorem dMo_auction_168 : decode (mC mMo_auction) 168 = .ok (.lconst 0, 1) := by decide +kernel
theorem dMo_auction_169 : decode (mC mMo_auction) 169 = .ok (.lcmp, 1) := by decide +kernel
theorem dMo_auction_170 : decode (mC mMo_auction) 170 = .ok (.ifCond .ne (10), 3) := by decide +kernel
theorem dMo_auction_173 : decode (mC mMo_auction) 173 = .ok (.aload_n 0, 1) := by decide +kernel
theorem dMo_auction_174 : decode (mC mMo_auction) 174 = .ok (.bipush (8), 2) := by decide +kernel
theorem dMo_auction_176 : decode (mC mMo_auction) 176 = .ok (.invokevirtual 329, 3) := by decide +kernel
theorem dMo_auction_179 : decode (mC mMo_auction) 179 = .ok (.ireturn, 1) := by decide +kernel
theorem dMo_auction_180 : decode (mC mMo_auction) 180 = .ok (.lconst 0, 1) := by decide +kernel
theorem dMo_auction_181 : decode (mC mMo_auction) 181 = .ok (.lstore 5, 2) := by decide +kernel
theorem dMo_auction_183 : decode (mC mMo_auction) 183 = .ok (.iconst (0), 1) := by decide +kernel
theorem dMo_auction_184 : decode (mC mMo_auction) 184 = .ok (.istore 7, 2) := by decide +kernel
theorem dMo_auction_186 : decode (mC mMo_auction) 186 = .ok (.iload 7, 2) := by decide +kernel
theorem dMo_auction_188 : decode (mC mMo_auction) 188 = .ok (.iload_n 2, 1) := by decide +kernel
theorem dMo_auction_189 : decode (mC mMo_auction) 189 = .ok (.if_icmp .ge (30), 3) := by decide +kernel
theorem dMo_auction_192 : decode (mC mMo_auction) 192 = .ok (.iload 7, 2) := by decide +kernel
theorem dMo_auction_194 : decode (mC mMo_auction) 194 = .ok (.iload 4, 2) := by decide +kernel
theorem dMo_auction_196 : decode (mC mMo_auction) 196 = .ok (.if_icmp .eq (17), 3) := by decide +kernel
theorem dMo_auction_199 : decode (mC mMo_auction) 199 = .ok (.lload 5, 2) := by decide +kernel
theorem dMo_auction_201 : decode (mC mMo_auction) 201 = .ok (.aload_n 0, 1) := by decide +kernel
theorem dMo_auction_202 : decode (mC mMo_auction) 202 = .ok (.iload_n 1, 1) := by decide +kernel
theorem dMo_auction_203 : decode (mC mMo_auction) 203 = .ok (.iload 7, 2) := by decide +kernel
theorem dMo_auction_205 : decode (mC mMo_auction) 205 = .ok (.invokevirtual 416, 3) := by decide +kernel
theorem dMo_auction_208 : decode (mC mMo_auction) 208 = .ok (.invokestatic 428, 3) := by decide +kernel
theorem dMo_auction_211 : decode (mC mMo_auction) 211 = .ok (.lstore 5, 2) := by decide +kernel
theorem dMo_auction_213 : decode (mC mMo_auction) 213 = .ok (.iinc 7 (1), 3) := by decide +kernel
theorem dMo_auction_216 : decode (mC mMo_auction) 216 = .ok (.goto (-30), 3) := by decide +kernel
theorem dMo_auction_219 : decode (mC mMo_auction) 219 = .ok (.iload_n 3, 1) := by decide +kernel
theorem dMo_auction_220 : decode (mC mMo_auction) 220 = .ok (.ifCond .ne (8), 3) := by decide +kernel
theorem dMo_auction_223 : decode (mC mMo_auction) 223 = .ok (.iload 4, 2) := by decide +kernel
theorem dMo_auction_225 : decode (mC mMo_auction) 225 = .ok (.goto (6), 3) := by decide +kernel
theorem dMo_auction_228 : decode (mC mMo_auction) 228 = .ok (.lload 5, 2) := by decide +kernel
theorem dMo_auction_230 : decode (mC mMo_auction) 230 = .ok (.l2i, 1) := by decide +kernel
theorem dMo_auction_231 : decode (mC mMo_auction) 231 = .ok (.ireturn, 1) := by decide +kernel
theorem bMo_auction_0 {E : mEn} {d : Nat} {σ : mSt} {Q : mPost} {a1 : Int32} {a2 : Int32} {a3 : Int32} {u4 : Value} {u5 : Value} {u6 : Value} {u7 : Value} : WP E (d + 1) mMo_auction 0 [.ref 166, .int a1, .int a2, .int a3, u4, u5, u6, u7] [] σ Q = WP E d mMo_isTray 0 [.ref 166, .int a1] [] (sI (sI σ 166 1 0) 166 0 0) (fun r σ' => WP E (d + 1) mMo_auction 15 [.ref 166, .int a1, .int a2, .int a3, u4, u5, u6, u7] (r.toList ++ []) σ' Q) := (w_aload_n dMo_auction_0 rfl).trans ((w_iconst (v := 0) dMo_auction_1 rfl).trans ((w_puti dMo_auction_2 rz11_74 sh_166 rfl rfl rfl).trans ((w_aload_n dMo_auction_5 rfl).trans ((w_iconst (v := 0) dMo_auction_6 rfl).trans ((w_puti dMo_auction_7 rz11_77 sh_166 rfl rfl rfl).trans ((w_aload_n dMo_auction_10 rfl).trans ((w_iload_n dMo_auction_11 rfl).trans (w_virt (vs := [.int a1]) (st' := []) (es := [.ref 166, .int a1]) dMo_auction_12 rz11_411 rfl sh_166 rfl rfl rfl (Nat.le_of_ble_eq_true rfl) (Nat.le_of_ble_eq_true rfl) rfl))))))))
theorem bMo_auction_15 {E : mEn} {d : Nat} {σ : mSt} {Q : mPost} {a1 : Int32} {a2 : Int32} {a3 : Int32} {u4 : Value} {u5 : Value} {u6 : Value} {u7 : Value} {s0 : Int32} : WP E d mMo_auction 15 [.ref 166, .int a1, .int a2, .int a3, u4, u5, u6, u7] [.int s0] σ Q = (if ¬ s0 = 0 then WP E d mMo_auction 24 [.ref 166, .int a1, .int a2, .int a3, u4, u5, u6, u7] [] σ Q else WP E d mMo_auction 18 [.ref 166, .int a1, .int a2, .int a3, u4, u5, u6, u7] [] σ Q) := w_ifne (t := 24) dMo_auction_15 (by decide)
theorem bMo_auction_18 {E : mEn} {d : Nat} {σ : mSt} {Q : mPost} {a1 : Int32} {a2 : Int32} {a3 : Int32} {u4 : Value} {u5 : Value} {u6 : Value} {u7 : Value} : WP E (d + 1) mMo_auction 18 [.ref 166, .int a1, .int a2, .int a3, u4, u5, u6, u7] [] σ Q = WP E d mMo_refuse 0 [.ref 166, .int 1] [] σ (fun r σ' => WP E (d + 1) mMo_auction 23 [.ref 166, .int a1, .int a2, .int a3, u4, u5, u6, u7] (r.toList ++ []) σ' Q) := (w_aload_n dMo_auction_18 rfl).trans ((w_iconst (v := 1) dMo_auction_19 rfl).trans (w_virt (vs := [.int 1]) (st' := []) (es := [.ref 166, .int 1]) dMo_auction_20 rz11_329 rfl sh_166 rfl rfl rfl (Nat.le_of_ble_eq_true rfl) (Nat.le_of_ble_eq_true rfl) rfl))
theorem bMo_auction_23 {E : mEn} {d : Nat} {σ : mSt} {Q : mPost} {a1 : Int32} {a2 : Int32} {a3 : Int32} {u4 : Value} {u5 : Value} {u6 : Value} {u7 : Value} {s0 : Int32} : WP E d mMo_auction 23 [.ref 166, .int a1, .int a2, .int a3, u4, u5, u6, u7] [.int s0] σ Q = Q (some (.int s0)) σ := w_iret dMo_auction_23 rfl
theorem bMo_auction_24 {E : mEn} {d : Nat} {σ : mSt} {Q : mPost} {a1 : Int32} {a2 : Int32} {a3 : Int32} {u4 : Value} {u5 : Value} {u6 : Value} {u7 : Value} : WP E d mMo_auction 24 [.ref 166, .int a1, .int a2, .int a3, u4, u5, u6, u7] [] σ Q = (if mOut a1 4 = true then False else (if 0 ≤ (σ.1 168 a1.toNatClampNeg) then WP E d mMo_auction 39 [.ref 166, .int a1, .int a2, .int a3, u4, u5, u6, u7] [] σ Q else WP E d mMo_auction 33 [.ref 166, .int a1, .int a2, .int a3, u4, u5, u6, u7] [] σ Q)) := (w_aload_n dMo_auction_24 rfl).trans ((w_getr (r := 168) dMo_auction_25 rz11_17 sh_166 rfl).trans ((w_iload_n dMo_auction_28 rfl).trans ((w_iald dMo_auction_29 sh_168 (by decide)).trans (ite_c (w_ifge (t := 39) dMo_auction_30 (by decide))))))
theorem bMo_auction_33 {E : mEn} {d : Nat} {σ : mSt} {Q : mPost} {a1 : Int32} {a2 : Int32} {a3 : Int32} {u4 : Value} {u5 : Value} {u6 : Value} {u7 : Value} : WP E (d + 1) mMo_auction 33 [.ref 166, .int a1, .int a2, .int a3, u4, u5, u6, u7] [] σ Q = WP E d mMo_refuse 0 [.ref 166, .int (nI 3)] [] σ (fun r σ' => WP E (d + 1) mMo_auction 38 [.ref 166, .int a1, .int a2, .int a3, u4, u5, u6, u7] (r.toList ++ []) σ' Q) := (w_aload_n dMo_auction_33 rfl).trans ((w_iconst (v := (nI 3)) dMo_auction_34 rfl).trans (w_virt (vs := [.int (nI 3)]) (st' := []) (es := [.ref 166, .int (nI 3)]) dMo_auction_35 rz11_329 rfl sh_166 rfl rfl rfl (Nat.le_of_ble_eq_true rfl) (Nat.le_of_ble_eq_true rfl) rfl))
theorem bMo_auction_38 {E : mEn} {d : Nat} {σ : mSt} {Q : mPost} {a1 : Int32} {a2 : Int32} {a3 : Int32} {u4 : Value} {u5 : Value} {u6 : Value} {u7 : Value} {s0 : Int32} : WP E d mMo_auction 38 [.ref 166, .int a1, .int a2, .int a3, u4, u5, u6, u7] [.int s0] σ Q = Q (some (.int s0)) σ := w_iret dMo_auction_38 rfl
theorem bMo_auction_39 {E : mEn} {d : Nat} {σ : mSt} {Q : mPost} {a1 : Int32} {a2 : Int32} {a3 : Int32} {u4 : Value} {u5 : Value} {u6 : Value} {u7 : Value} : WP E d mMo_auction 39 [.ref 166, .int a1, .int a2, .int a3, u4, u5, u6, u7] [] σ Q = (if mOut a1 4 = true then False else (if a2 ≤ (σ.1 168 a1.toNatClampNeg) then WP E d mMo_auction 55 [.ref 166, .int a1, .int a2, .int a3, u4, u5, u6, u7] [] σ Q else WP E d mMo_auction 49 [.ref 166, .int a1, .int a2, .int a3, u4, u5, u6, u7] [] σ Q)) := (w_aload_n dMo_auction_39 rfl).trans ((w_getr (r := 168) dMo_auction_40 rz11_17 sh_166 rfl).trans ((w_iload_n dMo_auction_43 rfl).trans ((w_iald dMo_auction_44 sh_168 (by decide)).trans (ite_c ((w_iload_n dMo_auction_45 rfl).trans (w_icmpge (t := 55) dMo_auction_46 (by decide)))))))
theorem bMo_auction_49 {E : mEn} {d : Nat} {σ : mSt} {Q : mPost} {a1 : Int32} {a2 : Int32} {a3 : Int32} {u4 : Value} {u5 : Value} {u6 : Value} {u7 : Value} : WP E (d + 1) mMo_auction 49 [.ref 166, .int a1, .int a2, .int a3, u4, u5, u6, u7] [] σ Q = WP E d mMo_refuse 0 [.ref 166, .int (nI 4)] [] σ (fun r σ' => WP E (d + 1) mMo_auction 54 [.ref 166, .int a1, .int a2, .int a3, u4, u5, u6, u7] (r.toList ++ []) σ' Q) := (w_aload_n dMo_auction_49 rfl).trans ((w_iconst (v := (nI 4)) dMo_auction_50 rfl).trans (w_virt (vs := [.int (nI 4)]) (st' := []) (es := [.ref 166, .int (nI 4)]) dMo_auction_51 rz11_329 rfl sh_166 rfl rfl rfl (Nat.le_of_ble_eq_true rfl) (Nat.le_of_ble_eq_true rfl) rfl))
theorem bMo_auction_54 {E : mEn} {d : Nat} {σ : mSt} {Q : mPost} {a1 : Int32} {a2 : Int32} {a3 : Int32} {u4 : Value} {u5 : Value} {u6 : Value} {u7 : Value} {s0 : Int32} : WP E d mMo_auction 54 [.ref 166, .int a1, .int a2, .int a3, u4, u5, u6, u7] [.int s0] σ Q = Q (some (.int s0)) σ := w_iret dMo_auction_54 rfl
theorem bMo_auction_55 {E : mEn} {d : Nat} {σ : mSt} {Q : mPost} {a1 : Int32} {a2 : Int32} {a3 : Int32} {u4 : Value} {u5 : Value} {u6 : Value} {u7 : Value} : WP E (d + 1) mMo_auction 55 [.ref 166, .int a1, .int a2, .int a3, u4, u5, u6, u7] [] σ Q = WP E d mMo_isIn 0 [.long (a2.toInt64), uu, .long 1, uu, .long (8), uu] [] σ (fun r σ' => WP E (d + 1) mMo_auction 64 [.ref 166, .int a1, .int a2, .int a3, u4, u5, u6, u7] (r.toList ++ []) σ' Q) := (w_iload_n dMo_auction_55 rfl).trans ((w_i2l dMo_auction_56).trans ((w_lconst (v := 1) dMo_auction_57 rfl).trans ((w_ldc2_w dMo_auction_58 rz11_422).trans (w_stat (vs := [.long (a2.toInt64), .long 1, .long (8)]) (st' := []) (es := [.long (a2.toInt64), uu, .long 1, uu, .long (8), uu]) dMo_auction_61 rz11_109 rfl rfl rfl (Nat.le_of_ble_eq_true rfl) (Nat.le_of_ble_eq_true rfl) rfl))))
theorem bMo_auction_64 {E : mEn} {d : Nat} {σ : mSt} {Q : mPost} {a1 : Int32} {a2 : Int32} {a3 : Int32} {u4 : Value} {u5 : Value} {u6 : Value} {u7 : Value} {s0 : Int32} : WP E d mMo_auction 64 [.ref 166, .int a1, .int a2, .int a3, u4, u5, u6, u7] [.int s0] σ Q = (if s0 = 0 then WP E d mMo_auction 77 [.ref 166, .int a1, .int a2, .int a3, u4, u5, u6, u7] [] σ Q else WP E d mMo_auction 67 [.ref 166, .int a1, .int a2, .int a3, u4, u5, u6, u7] [] σ Q) := w_ifeq (t := 77) dMo_auction_64 (by decide)
theorem bMo_auction_67 {E : mEn} {d : Nat} {σ : mSt} {Q : mPost} {a1 : Int32} {a2 : Int32} {a3 : Int32} {u4 : Value} {u5 : Value} {u6 : Value} {u7 : Value} : WP E (d + 1) mMo_auction 67 [.ref 166, .int a1, .int a2, .int a3, u4, u5, u6, u7] [] σ Q = WP E d mMo_isIn 0 [.long (a3.toInt64), uu, .long 0, uu, .long 1, uu] [] σ (fun r σ' => WP E (d + 1) mMo_auction 74 [.ref 166, .int a1, .int a2, .int a3, u4, u5, u6, u7] (r.toList ++ []) σ' Q) := (w_iload_n dMo_auction_67 rfl).trans ((w_i2l dMo_auction_68).trans ((w_lconst (v := 0) dMo_auction_69 rfl).trans ((w_lconst (v := 1) dMo_auction_70 rfl).trans (w_stat (vs := [.long (a3.toInt64), .long 0, .long 1]) (st' := []) (es := [.long (a3.toInt64), uu, .long 0, uu, .long 1, uu]) dMo_auction_71 rz11_109 rfl rfl rfl (Nat.le_of_ble_eq_true rfl) (Nat.le_of_ble_eq_true rfl) rfl))))
theorem bMo_auction_74 {E : mEn} {d : Nat} {σ : mSt} {Q : mPost} {a1 : Int32} {a2 : Int32} {a3 : Int32} {u4 : Value} {u5 : Value} {u6 : Value} {u7 : Value} {s0 : Int32} : WP E d mMo_auction 74 [.ref 166, .int a1, .int a2, .int a3, u4, u5, u6, u7] [.int s0] σ Q = (if ¬ s0 = 0 then WP E d mMo_auction 83 [.ref 166, .int a1, .int a2, .int a3, u4, u5, u6, u7] [] σ Q else WP E d mMo_auction 77 [.ref 166, .int a1, .int a2, .int a3, u4, u5, u6, u7] [] σ Q) := w_ifne (t := 83) dMo_auction_74 (by decide)
theorem bMo_auction_77 {E : mEn} {d : Nat} {σ : mSt} {Q : mPost} {a1 : Int32} {a2 : Int32} {a3 : Int32} {u4 : Value} {u5 : Value} {u6 : Value} {u7 : Value} : WP E (d + 1) mMo_auction 77 [.ref 166, .int a1, .int a2, .int a3, u4, u5, u6, u7] [] σ Q = WP E d mMo_refuse 0 [.ref 166, .int (nI 5)] [] σ (fun r σ' => WP E (d + 1) mMo_auction 82 [.ref 166, .int a1, .int a2, .int a3, u4, u5, u6, u7] (r.toList ++ []) σ' Q) := (w_aload_n dMo_auction_77 rfl).trans ((w_iconst (v := (nI 5)) dMo_auction_78 rfl).trans (w_virt (vs := [.int (nI 5)]) (st' := []) (es := [.ref 166, .int (nI 5)]) dMo_auction_79 rz11_329 rfl sh_166 rfl rfl rfl (Nat.le_of_ble_eq_true rfl) (Nat.le_of_ble_eq_true rfl) rfl))
theorem bMo_auction_82 {E : mEn} {d : Nat} {σ : mSt} {Q : mPost} {a1 : Int32} {a2 : Int32} {a3 : Int32} {u4 : Value} {u5 : Value} {u6 : Value} {u7 : Value} {s0 : Int32} : WP E d mMo_auction 82 [.ref 166, .int a1, .int a2, .int a3, u4, u5, u6, u7] [.int s0] σ Q = Q (some (.int s0)) σ := w_iret dMo_auction_82 rfl
theorem bMo_auction_83 {E : mEn} {d : Nat} {σ : mSt} {Q : mPost} {a1 : Int32} {a2 : Int32} {a3 : Int32} {u4 : Value} {u5 : Value} {u6 : Value} {u7 : Value} : WP E d mMo_auction 83 [.ref 166, .int a1, .int a2, .int a3, u4, u5, u6, u7] [] σ Q = WP E d mMo_auction 86 [.ref 166, .int a1, .int a2, .int a3, .int 0, u5, u6, u7] [] σ Q := (w_iconst (v := 0) dMo_auction_83 rfl).trans (w_istore (ls' := [.ref 166, .int a1, .int a2, .int a3, .int 0, u5, u6, u7]) dMo_auction_84 (Nat.le_of_ble_eq_true rfl) rfl)
theorem bMo_auction_86 {E : mEn} {d : Nat} {σ : mSt} {Q : mPost} {a1 : Int32} {a2 : Int32} {a3 : Int32} {a4 : Int32} {u5 : Value} {u6 : Value} {u7 : Value} : WP E d mMo_auction 86 [.ref 166, .int a1, .int a2, .int a3, .int a4, u5, u6, u7] [] σ Q = (if a2 ≤ a4 then WP E d mMo_auction 121 [.ref 166, .int a1, .int a2, .int a3, .int a4, u5, u6, u7] [] σ Q else WP E d mMo_auction 92 [.ref 166, .int a1, .int a2, .int a3, .int a4, u5, u6, u7] [] σ Q) := (w_iload dMo_auction_86 rfl).trans ((w_iload_n dMo_auction_88 rfl).trans (w_icmpge (t := 121) dMo_auction_89 (by decide)))
theorem bMo_auction_92 {E : mEn} {d : Nat} {σ : mSt} {Q : mPost} {a1 : Int32} {a2 : Int32} {a3 : Int32} {a4 : Int32} {u5 : Value} {u6 : Value} {u7 : Value} : WP E (d + 1) mMo_auction 92 [.ref 166, .int a1, .int a2, .int a3, .int a4, u5, u6, u7] [] σ Q = WP E d mMo_numberOf 0 [.ref 166, .int a1, .int a4] [] σ (fun r σ' => WP E (d + 1) mMo_auction 99 [.ref 166, .int a1, .int a2, .int a3, .int a4, u5, u6, u7] (r.toList ++ []) σ' Q) := (w_aload_n dMo_auction_92 rfl).trans ((w_iload_n dMo_auction_93 rfl).trans ((w_iload dMo_auction_94 rfl).trans (w_virt (vs := [.int a1, .int a4]) (st' := []) (es := [.ref 166, .int a1, .int a4]) dMo_auction_96 rz11_416 rfl sh_166 rfl rfl rfl (Nat.le_of_ble_eq_true rfl) (Nat.le_of_ble_eq_true rfl) rfl)))
theorem bMo_auction_99 {E : mEn} {d : Nat} {σ : mSt} {Q : mPost} {a1 : Int32} {a2 : Int32} {a3 : Int32} {a4 : Int32} {u5 : Value} {u6 : Value} {u7 : Value} {q0 : Int64} : WP E (d + 1) mMo_auction 99 [.ref 166, .int a1, .int a2, .int a3, .int a4, u5, u6, u7] [.long q0] σ Q = WP E d mMo_isIn 0 [.long q0, uu, .long 0, uu, .long (9999), uu] [] σ (fun r σ' => WP E (d + 1) mMo_auction 106 [.ref 166, .int a1, .int a2, .int a3, .int a4, u5, u6, u7] (r.toList ++ []) σ' Q) := (w_lconst (v := 0) dMo_auction_99 rfl).trans ((w_ldc2_w dMo_auction_100 rz11_426).trans (w_stat (vs := [.long q0, .long 0, .long (9999)]) (st' := []) (es := [.long q0, uu, .long 0, uu, .long (9999), uu]) dMo_auction_103 rz11_109 rfl rfl rfl (Nat.le_of_ble_eq_true rfl) (Nat.le_of_ble_eq_true rfl) rfl))
theorem bMo_auction_106 {E : mEn} {d : Nat} {σ : mSt} {Q : mPost} {a1 : Int32} {a2 : Int32} {a3 : Int32} {a4 : Int32} {u5 : Value} {u6 : Value} {u7 : Value} {s0 : Int32} : WP E d mMo_auction 106 [.ref 166, .int a1, .int a2, .int a3, .int a4, u5, u6, u7] [.int s0] σ Q = (if ¬ s0 = 0 then WP E d mMo_auction 115 [.ref 166, .int a1, .int a2, .int a3, .int a4, u5, u6, u7] [] σ Q else WP E d mMo_auction 109 [.ref 166, .int a1, .int a2, .int a3, .int a4, u5, u6, u7] [] σ Q) := w_ifne (t := 115) dMo_auction_106 (by decide)
theorem bMo_auction_109 {E : mEn} {d : Nat} {σ : mSt} {Q : mPost} {a1 : Int32} {a2 : Int32} {a3 : Int32} {a4 : Int32} {u5 : Value} {u6 : Value} {u7 : Value} : WP E (d + 1) mMo_auction 109 [.ref 166, .int a1, .int a2, .int a3, .int a4, u5, u6, u7] [] σ Q = WP E d mMo_refuse 0 [.ref 166, .int (nI 5)] [] σ (fun r σ' => WP E (d + 1) mMo_auction 114 [.ref 166, .int a1, .int a2, .int a3, .int a4, u5, u6, u7] (r.toList ++ []) σ' Q) := (w_aload_n dMo_auction_109 rfl).trans ((w_iconst (v := (nI 5)) dMo_auction_110 rfl).trans (w_virt (vs := [.int (nI 5)]) (st' := []) (es := [.ref 166, .int (nI 5)]) dMo_auction_111 rz11_329 rfl sh_166 rfl rfl rfl (Nat.le_of_ble_eq_true rfl) (Nat.le_of_ble_eq_true rfl) rfl))
theorem bMo_auction_114 {E : mEn} {d : Nat} {σ : mSt} {Q : mPost} {a1 : Int32} {a2 : Int32} {a3 : Int32} {a4 : Int32} {u5 : Value} {u6 : Value} {u7 : Value} {s0 : Int32} : WP E d mMo_auction 114 [.ref 166, .int a1, .int a2, .int a3, .int a4, u5, u6, u7] [.int s0] σ Q = Q (some (.int s0)) σ := w_iret dMo_auction_114 rfl
theorem bMo_auction_115 {E : mEn} {d : Nat} {σ : mSt} {Q : mPost} {a1 : Int32} {a2 : Int32} {a3 : Int32} {a4 : Int32} {u5 : Value} {u6 : Value} {u7 : Value} : WP E d mMo_auction 115 [.ref 166, .int a1, .int a2, .int a3, .int a4, u5, u6, u7] [] σ Q = WP E d mMo_auction 86 [.ref 166, .int a1, .int a2, .int a3, .int (a4 + 1), u5, u6, u7] [] σ Q := (w_iinc (v := 1) (ls' := [.ref 166, .int a1, .int a2, .int a3, .int (a4 + 1), u5, u6, u7]) dMo_auction_115 rfl rfl rfl).trans (w_goto (t := 86) dMo_auction_118 (by decide))
theorem bMo_auction_121 {E : mEn} {d : Nat} {σ : mSt} {Q : mPost} {a1 : Int32} {a2 : Int32} {a3 : Int32} {a4 : Int32} {u5 : Value} {u6 : Value} {u7 : Value} : WP E d mMo_auction 121 [.ref 166, .int a1, .int a2, .int a3, .int a4, u5, u6, u7] [] σ Q = WP E d mMo_auction 127 [.ref 166, .int a1, .int a2, .int a3, .int 0, .int 1, u6, u7] [] σ Q := (w_iconst (v := 0) dMo_auction_121 rfl).trans ((w_istore (ls' := [.ref 166, .int a1, .int a2, .int a3, .int 0, u5, u6, u7]) dMo_auction_122 (Nat.le_of_ble_eq_true rfl) rfl).trans ((w_iconst (v := 1) dMo_auction_124 rfl).trans (w_istore (ls' := [.ref 166, .int a1, .int a2, .int a3, .int 0, .int 1, u6, u7]) dMo_auction_125 (Nat.le_of_ble_eq_true rfl) rfl)))
theorem bMo_auction_127 {E : mEn} {d : Nat} {σ : mSt} {Q : mPost} {a1 : Int32} {a2 : Int32} {a3 : Int32} {a4 : Int32} {a5 : Int32} {u6 : Value} {u7 : Value} : WP E d mMo_auction 127 [.ref 166, .int a1, .int a2, .int a3, .int a4, .int a5, u6, u7] [] σ Q = (if a2 ≤ a5 then WP E d mMo_auction 161 [.ref 166, .int a1, .int a2, .int a3, .int a4, .int a5, u6, u7] [] σ Q else WP E d mMo_auction 133 [.ref 166, .int a1, .int a2, .int a3, .int a4, .int a5, u6, u7] [] σ Q) := (w_iload dMo_auction_127 rfl).trans ((w_iload_n dMo_auction_129 rfl).trans (w_icmpge (t := 161) dMo_auction_130 (by decide)))
theorem bMo_auction_133 {E : mEn} {d : Nat} {σ : mSt} {Q : mPost} {a1 : Int32} {a2 : Int32} {a3 : Int32} {a4 : Int32} {a5 : Int32} {u6 : Value} {u7 : Value} : WP E (d + 1) mMo_auction 133 [.ref 166, .int a1, .int a2, .int a3, .int a4, .int a5, u6, u7] [] σ Q = WP E d mMo_numberOf 0 [.ref 166, .int a1, .int a5] [] σ (fun r σ' => WP E (d + 1) mMo_auction 140 [.ref 166, .int a1, .int a2, .int a3, .int a4, .int a5, u6, u7] (r.toList ++ []) σ' Q) := (w_aload_n dMo_auction_133 rfl).trans ((w_iload_n dMo_auction_134 rfl).trans ((w_iload dMo_auction_135 rfl).trans (w_virt (vs := [.int a1, .int a5]) (st' := []) (es := [.ref 166, .int a1, .int a5]) dMo_auction_137 rz11_416 rfl sh_166 rfl rfl rfl (Nat.le_of_ble_eq_true rfl) (Nat.le_of_ble_eq_true rfl) rfl)))
theorem bMo_auction_140 {E : mEn} {d : Nat} {σ : mSt} {Q : mPost} {a1 : Int32} {a2 : Int32} {a3 : Int32} {a4 : Int32} {a5 : Int32} {u6 : Value} {u7 : Value} {q0 : Int64} : WP E (d + 1) mMo_auction 140 [.ref 166, .int a1, .int a2, .int a3, .int a4, .int a5, u6, u7] [.long q0] σ Q = WP E d mMo_numberOf 0 [.ref 166, .int a1, .int a4] [] σ (fun r σ' => WP E (d + 1) mMo_auction 147 [.ref 166, .int a1, .int a2, .int a3, .int a4, .int a5, u6, u7] (r.toList ++ [.long q0]) σ' Q) := (w_aload_n dMo_auction_140 rfl).trans ((w_iload_n dMo_auction_141 rfl).trans ((w_iload dMo_auction_142 rfl).trans (w_virt (vs := [.int a1, .int a4]) (st' := [.long q0]) (es := [.ref 166, .int a1, .int a4]) dMo_auction_144 rz11_416 rfl sh_166 rfl rfl rfl (Nat.le_of_ble_eq_true rfl) (Nat.le_of_ble_eq_true rfl) rfl)))
theorem bMo_auction_147 {E : mEn} {d : Nat} {σ : mSt} {Q : mPost} {a1 : Int32} {a2 : Int32} {a3 : Int32} {a4 : Int32} {a5 : Int32} {u6 : Value} {u7 : Value} {q0 : Int64} {q1 : Int64} : WP E d mMo_auction 147 [.ref 166, .int a1, .int a2, .int a3, .int a4, .int a5, u6, u7] [.long q0, .long q1] σ Q = (if (lg_cmp q1 q0) ≤ 0 then WP E d mMo_auction 155 [.ref 166, .int a1, .int a2, .int a3, .int a4, .int a5, u6, u7] [] σ Q else WP E d mMo_auction 151 [.ref 166, .int a1, .int a2, .int a3, .int a4, .int a5, u6, u7] [] σ Q) := (w_lcmp dMo_auction_147).trans (w_ifle (t := 155) dMo_auction_148 (by decide))
theorem bMo_auction_151 {E : mEn} {d : Nat} {σ : mSt} {Q : mPost} {a1 : Int32} {a2 : Int32} {a3 : Int32} {a4 : Int32} {a5 : Int32} {u6 : Value} {u7 : Value} : WP E d mMo_auction 151 [.ref 166, .int a1, .int a2, .int a3, .int a4, .int a5, u6, u7] [] σ Q = WP E d mMo_auction 155 [.ref 166, .int a1, .int a2, .int a3, .int a5, .int a5, u6, u7] [] σ Q := (w_iload dMo_auction_151 rfl).trans (w_istore (ls' := [.ref 166, .int a1, .int a2, .int a3, .int a5, .int a5, u6, u7]) dMo_auction_153 (Nat.le_of_ble_eq_true rfl) rfl)
theorem bMo_auction_155 {E : mEn} {d : Nat} {σ : mSt} {Q : mPost} {a1 : Int32} {a2 : Int32} {a3 : Int32} {a4 : Int32} {a5 : Int32} {u6 : Value} {u7 : Value} : WP E d mMo_auction 155 [.ref 166, .int a1, .int a2, .int a3, .int a4, .int a5, u6, u7] [] σ Q = WP E d mMo_auction 127 [.ref 166, .int a1, .int a2, .int a3, .int a4, .int (a5 + 1), u6, u7] [] σ Q := (w_iinc (v := 1) (ls' := [.ref 166, .int a1, .int a2, .int a3, .int a4, .int (a5 + 1), u6, u7]) dMo_auction_155 rfl rfl rfl).trans (w_goto (t := 127) dMo_auction_158 (by decide))
theorem bMo_auction_161 {E : mEn} {d : Nat} {σ : mSt} {Q : mPost} {a1 : Int32} {a2 : Int32} {a3 : Int32} {a4 : Int32} {a5 : Int32} {u6 : Value} {u7 : Value} : WP E (d + 1) mMo_auction 161 [.ref 166, .int a1, .int a2, .int a3, .int a4, .int a5, u6, u7] [] σ Q = WP E d mMo_numberOf 0 [.ref 166, .int a1, .int a4] [] σ (fun r σ' => WP E (d + 1) mMo_auction 168 [.ref 166, .int a1, .int a2, .int a3, .int a4, .int a5, u6, u7] (r.toList ++ []) σ' Q) := (w_aload_n dMo_auction_161 rfl).trans ((w_iload_n dMo_auction_162 rfl).trans ((w_iload dMo_auction_163 rfl).trans (w_virt (vs := [.int a1, .int a4]) (st' := []) (es := [.ref 166, .int a1, .int a4]) dMo_auction_165 rz11_416 rfl sh_166 rfl rfl rfl (Nat.le_of_ble_eq_true rfl) (Nat.le_of_ble_eq_true rfl) rfl)))
theorem bMo_auction_168 {E : mEn} {d : Nat} {σ : mSt} {Q : mPost} {a1 : Int32} {a2 : Int32} {a3 : Int32} {a4 : Int32} {a5 : Int32} {u6 : Value} {u7 : Value} {q0 : Int64} : WP E d mMo_auction 168 [.ref 166, .int a1, .int a2, .int a3, .int a4, .int a5, u6, u7] [.long q0] σ Q = (if ¬ (lg_cmp q0 0) = 0 then WP E d mMo_auction 180 [.ref 166, .int a1, .int a2, .int a3, .int a4, .int a5, u6, u7] [] σ Q else WP E d mMo_auction 173 [.ref 166, .int a1, .int a2, .int a3, .int a4, .int a5, u6, u7] [] σ Q) := (w_lconst (v := 0) dMo_auction_168 rfl).trans ((w_lcmp dMo_auction_169).trans (w_ifne (t := 180) dMo_auction_170 (by decide)))
theorem bMo_auction_173 {E : mEn} {d : Nat} {σ : mSt} {Q : mPost} {a1 : Int32} {a2 : Int32} {a3 : Int32} {a4 : Int32} {a5 : Int32} {u6 : Value} {u7 : Value} : WP E (d + 1) mMo_auction 173 [.ref 166, .int a1, .int a2, .int a3, .int a4, .int a5, u6, u7] [] σ Q = WP E d mMo_refuse 0 [.ref 166, .int (nI 8)] [] σ (fun r σ' => WP E (d + 1) mMo_auction 179 [.ref 166, .int a1, .int a2, .int a3, .int a4, .int a5, u6, u7] (r.toList ++ []) σ' Q) := (w_aload_n dMo_auction_173 rfl).trans ((w_bipush (v := (nI 8)) dMo_auction_174 rfl).trans (w_virt (vs := [.int (nI 8)]) (st' := []) (es := [.ref 166, .int (nI 8)]) dMo_auction_176 rz11_329 rfl sh_166 rfl rfl rfl (Nat.le_of_ble_eq_true rfl) (Nat.le_of_ble_eq_true rfl) rfl))
theorem bMo_auction_179 {E : mEn} {d : Nat} {σ : mSt} {Q : mPost} {a1 : Int32} {a2 : Int32} {a3 : Int32} {a4 : Int32} {a5 : Int32} {u6 : Value} {u7 : Value} {s0 : Int32} : WP E d mMo_auction 179 [.ref 166, .int a1, .int a2, .int a3, .int a4, .int a5, u6, u7] [.int s0] σ Q = Q (some (.int s0)) σ := w_iret dMo_auction_179 rfl
theorem bMo_auction_180 {E : mEn} {d : Nat} {σ : mSt} {Q : mPost} {a1 : Int32} {a2 : Int32} {a3 : Int32} {a4 : Int32} {a5 : Int32} {u6 : Value} {u7 : Value} : WP E d mMo_auction 180 [.ref 166, .int a1, .int a2, .int a3, .int a4, .int a5, u6, u7] [] σ Q = WP E d mMo_auction 186 [.ref 166, .int a1, .int a2, .int a3, .int a4, .long 0, uu, .int 0] [] σ Q := (w_lconst (v := 0) dMo_auction_180 rfl).trans ((w_lstore (ls' := [.ref 166, .int a1, .int a2, .int a3, .int a4, .long 0, uu, u7]) dMo_auction_181 (Nat.le_of_ble_eq_true rfl) rfl).trans ((w_iconst (v := 0) dMo_auction_183 rfl).trans (w_istore (ls' := [.ref 166, .int a1, .int a2, .int a3, .int a4, .long 0, uu, .int 0]) dMo_auction_184 (Nat.le_of_ble_eq_true rfl) rfl)))
theorem bMo_auction_186 {E : mEn} {d : Nat} {σ : mSt} {Q : mPost} {a1 : Int32} {a2 : Int32} {a3 : Int32} {a4 : Int32} {j5 : Int64} {a7 : Int32} : WP E d mMo_auction 186 [.ref 166, .int a1, .int a2, .int a3, .int a4, .long j5, uu, .int a7] [] σ Q = (if a2 ≤ a7 then WP E d mMo_auction 219 [.ref 166, .int a1, .int a2, .int a3, .int a4, .long j5, uu, .int a7] [] σ Q else WP E d mMo_auction 192 [.ref 166, .int a1, .int a2, .int a3, .int a4, .long j5, uu, .int a7] [] σ Q) := (w_iload dMo_auction_186 rfl).trans ((w_iload_n dMo_auction_188 rfl).trans (w_icmpge (t := 219) dMo_auction_189 (by decide)))
theorem bMo_auction_192 {E : mEn} {d : Nat} {σ : mSt} {Q : mPost} {a1 : Int32} {a2 : Int32} {a3 : Int32} {a4 : Int32} {j5 : Int64} {a7 : Int32} : WP E d mMo_auction 192 [.ref 166, .int a1, .int a2, .int a3, .int a4, .long j5, uu, .int a7] [] σ Q = (if a7 = a4 then WP E d mMo_auction 213 [.ref 166, .int a1, .int a2, .int a3, .int a4, .long j5, uu, .int a7] [] σ Q else WP E d mMo_auction 199 [.ref 166, .int a1, .int a2, .int a3, .int a4, .long j5, uu, .int a7] [] σ Q) := (w_iload dMo_auction_192 rfl).trans ((w_iload dMo_auction_194 rfl).trans (w_icmpeq (t := 213) dMo_auction_196 (by decide)))
theorem bMo_auction_199 {E : mEn} {d : Nat} {σ : mSt} {Q : mPost} {a1 : Int32} {a2 : Int32} {a3 : Int32} {a4 : Int32} {j5 : Int64} {a7 : Int32} : WP E (d + 1) mMo_auction 199 [.ref 166, .int a1, .int a2, .int a3, .int a4, .long j5, uu, .int a7] [] σ Q = WP E d mMo_numberOf 0 [.ref 166, .int a1, .int a7] [] σ (fun r σ' => WP E (d + 1) mMo_auction 208 [.ref 166, .int a1, .int a2, .int a3, .int a4, .long j5, uu, .int a7] (r.toList ++ [.long j5]) σ' Q) := (w_lload dMo_auction_199 rfl).trans ((w_aload_n dMo_auction_201 rfl).trans ((w_iload_n dMo_auction_202 rfl).trans ((w_iload dMo_auction_203 rfl).trans (w_virt (vs := [.int a1, .int a7]) (st' := [.long j5]) (es := [.ref 166, .int a1, .int a7]) dMo_auction_205 rz11_416 rfl sh_166 rfl rfl rfl (Nat.le_of_ble_eq_true rfl) (Nat.le_of_ble_eq_true rfl) rfl))))
theorem bMo_auction_208 {E : mEn} {d : Nat} {σ : mSt} {Q : mPost} {a1 : Int32} {a2 : Int32} {a3 : Int32} {a4 : Int32} {j5 : Int64} {a7 : Int32} {q0 : Int64} {q1 : Int64} : WP E d mMo_auction 208 [.ref 166, .int a1, .int a2, .int a3, .int a4, .long j5, uu, .int a7] [.long q0, .long q1] σ Q = WP E d mMo_auction 213 [.ref 166, .int a1, .int a2, .int a3, .int a4, .long (if q0 < q1 then q1 else q0), uu, .int a7] [] σ Q := (w_maxl dMo_auction_208 rz11_428 (Nat.le_of_ble_eq_true rfl)).trans (w_lstore (ls' := [.ref 166, .int a1, .int a2, .int a3, .int a4, .long (if q0 < q1 then q1 else q0), uu, .int a7]) dMo_auction_211 (Nat.le_of_ble_eq_true rfl) rfl)
theorem bMo_auction_213 {E : mEn} {d : Nat} {σ : mSt} {Q : mPost} {a1 : Int32} {a2 : Int32} {a3 : Int32} {a4 : Int32} {j5 : Int64} {a7 : Int32} : WP E d mMo_auction 213 [.ref 166, .int a1, .int a2, .int a3, .int a4, .long j5, uu, .int a7] [] σ Q = WP E d mMo_auction 186 [.ref 166, .int a1, .int a2, .int a3, .int a4, .long j5, uu, .int (a7 + 1)] [] σ Q := (w_iinc (v := 1) (ls' := [.ref 166, .int a1, .int a2, .int a3, .int a4, .long j5, uu, .int (a7 + 1)]) dMo_auction_213 rfl rfl rfl).trans (w_goto (t := 186) dMo_auction_216 (by decide))
theorem bMo_auction_219 {E : mEn} {d : Nat} {σ : mSt} {Q : mPost} {a1 : Int32} {a2 : Int32} {a3 : Int32} {a4 : Int32} {j5 : Int64} {a7 : Int32} : WP E d mMo_auction 219 [.ref 166, .int a1, .int a2, .int a3, .int a4, .long j5, uu, .int a7] [] σ Q = (if ¬ a3 = 0 then WP E d mMo_auction 228 [.ref 166, .int a1, .int a2, .int a3, .int a4, .long j5, uu, .int a7] [] σ Q else WP E d mMo_auction 223 [.ref 166, .int a1, .int a2, .int a3, .int a4, .long j5, uu, .int a7] [] σ Q) := (w_iload_n dMo_auction_219 rfl).trans (w_ifne (t := 228) dMo_auction_220 (by decide))
theorem bMo_auction_223 {E : mEn} {d : Nat} {σ : mSt} {Q : mPost} {a1 : Int32} {a2 : Int32} {a3 : Int32} {a4 : Int32} {j5 : Int64} {a7 : Int32} : WP E d mMo_auction 223 [.ref 166, .int a1, .int a2, .int a3, .int a4, .long j5, uu, .int a7] [] σ Q = WP E d mMo_auction 231 [.ref 166, .int a1, .int a2, .int a3, .int a4, .long j5, uu, .int a7] [.int a4] σ Q := (w_iload dMo_auction_223 rfl).trans (w_goto (t := 231) dMo_auction_225 (by decide))
theorem bMo_auction_228 {E : mEn} {d : Nat} {σ : mSt} {Q : mPost} {a1 : Int32} {a2 : Int32} {a3 : Int32} {a4 : Int32} {j5 : Int64} {a7 : Int32} : WP E d mMo_auction 228 [.ref 166, .int a1, .int a2, .int a3, .int a4, .long j5, uu, .int a7] [] σ Q = WP E d mMo_auction 231 [.ref 166, .int a1, .int a2, .int a3, .int a4, .long j5, uu, .int a7] [.int (j5.toInt32)] σ Q := (w_lload dMo_auction_228 rfl).trans (w_l2i dMo_auction_230)
theorem bMo_auction_231 {E : mEn} {d : Nat} {σ : mSt} {Q : mPost} {a1 : Int32} {a2 : Int32} {a3 : Int32} {a4 : Int32} {j5 : Int64} {a7 : Int32} {s0 : Int32} : WP E d mMo_auction 231 [.ref 166, .int a1, .int a2, .int a3, .int a4, .long j5, uu, .int a7] [.int s0] σ Q = Q (some (.int s0)) σ := w_iret dMo_auction_231 rfl
theorem dMo_make_0 : decode (mC mMo_make) 0 = .ok (.aload_n 0, 1) := by decide +kernel
theorem dMo_make_1 : decode (mC mMo_make) 1 = .ok (.iconst (0), 1) := by decide +kernel
theorem dMo_make_2 : decode (mC mMo_make) 2 = .ok (.putfield 74, 3) := by decide +kernel
theorem dMo_make_5 : decode (mC mMo_make) 5 = .ok (.aload_n 0, 1) := by decide +kernel
theorem dMo_make_6 : decode (mC mMo_make) 6 = .ok (.iconst (0), 1) := by decide +kernel
theorem dMo_make_7 : decode (mC mMo_make) 7 = .ok (.putfield 77, 3) := by decide +kernel
theorem dMo_make_10 : decode (mC mMo_make) 10 = .ok (.aload_n 0, 1) := by decide +kernel
theorem dMo_make_11 : decode (mC mMo_make) 11 = .ok (.iload_n 2, 1) := by decide +kernel
theorem dMo_make_12 : decode (mC mMo_make) 12 = .ok (.invokevirtual 335, 3) := by decide +kernel
theorem dMo_make_15 : decode (mC mMo_make) 15 = .ok (.ifCond .eq (20), 3) := by decide +kernel
theorem dMo_make_18 : decode (mC mMo_make) 18 = .ok (.aload_n 0, 1) := by decide +kernel
theorem dMo_make_19 : decode (mC mMo_make) 19 = .ok (.iload_n 3, 1) := by decide +kernel
theorem dMo_make_20 : decode (mC mMo_make) 20 = .ok (.invokevirtual 332, 3) := by decide +kernel
theorem dMo_make_23 : decode (mC mMo_make) 23 = .ok (.ifCond .eq (12), 3) := by decide +kernel
theorem dMo_make_26 : decode (mC mMo_make) 26 = .ok (.aload_n 0, 1) := by decide +kernel
theorem dMo_make_27 : decode (mC mMo_make) 27 = .ok (.iload 4, 2) := by decide +kernel
theorem dMo_make_29 : decode (mC mMo_make) 29 = .ok (.invokevirtual 332, 3) := by decide +kernel
theorem dMo_make_32 : decode (mC mMo_make) 32 = .ok (.ifCond .ne (9), 3) := by decide +kernel
theorem dMo_make_35 : decode (mC mMo_make) 35 = .ok (.aload_n 0, 1) := by decide +kernel
theorem dMo_make_36 : decode (mC mMo_make) 36 = .ok (.iconst (2), 1) := by decide +kernel
theorem dMo_make_37 : decode (mC mMo_make) 37 = .ok (.invokevirtual 329, 3) := by decide +kernel
theorem dMo_make_40 : decode (mC mMo_make) 40 = .ok (.ireturn, 1) := by decide +kernel
theorem dMo_make_41 : decode (mC mMo_make) 41 = .ok (.iload_n 1, 1) := by decide +kernel
theorem dMo_make_42 : decode (mC mMo_make) 42 = .ok (.i2l, 1) := by decide +kernel
theorem dMo_make_43 : decode (mC mMo_make) 43 = .ok (.lconst 1, 1) := by decide +kernel
theorem dMo_make_44 : decode (mC mMo_make) 44 = .ok (.ldc2_w 431, 3) := by decide +kernel
theorem dMo_make_47 : decode (mC mMo_make) 47 = .ok (.invokestatic 109, 3) := by decide +kernel
theorem dMo_make_50 : decode (mC mMo_make) 50 = .ok (.ifCond .eq (22), 3) := by decide +kernel
theorem dMo_make_53 : decode (mC mMo_make) 53 = .ok (.iload 5, 2) := by decide +kernel
theorem dMo_make_55 : decode (mC mMo_make) 55 = .ok (.i2l, 1) := by decide +kernel
theorem dMo_make_56 : decode (mC mMo_make) 56 = .ok (.lconst 0, 1) := by decide +kernel
theorem dMo_make_57 : decode (mC mMo_make) 57 = .ok (.ldc2_w 403, 3) := by decide +kernel
theorem dMo_make_60 : decode (mC mMo_make) 60 = .ok (.invokestatic 109, 3) := by decide +kernel
theorem dMo_make_63 : decode (mC mMo_make) 63 = .ok (.ifCond .eq (9), 3) := by decide +kernel
theorem dMo_make_66 : decode (mC mMo_make) 66 = .ok (.iload_n 3, 1) := by decide +kernel
theorem dMo_make_67 : decode (mC mMo_make) 67 = .ok (.iload 4, 2) := by decide +kernel
theorem dMo_make_69 : decode (mC mMo_make) 69 = .ok (.if_icmp .ne (9), 3) := by decide +kernel
theorem dMo_make_72 : decode (mC mMo_make) 72 = .ok (.aload_n 0, 1) := by decide +kernel
theorem dMo_make_73 : decode (mC mMo_make) 73 = .ok (.iconst (5), 1) := by decide +kernel
theorem dMo_make_74 : decode (mC mMo_make) 74 = .ok (.invokevirtual 329, 3) := by decide +kernel
theorem dMo_make_77 : decode (mC mMo_make) 77 = .ok (.ireturn, 1) := by decide +kernel
theorem dMo_make_78 : decode (mC mMo_make) 78 = .ok (.aload_n 0, 1) := by decide +kernel
theorem dMo_make_79 : decode (mC mMo_make) 79 = .ok (.getfield 35, 3) := by decide +kernel
theorem dMo_make_82 : decode (mC mMo_make) 82 = .ok (.iconst (3), 1) := by decide +kernel
theorem dMo_make_83 : decode (mC mMo_make) 83 = .ok (.iaload, 1) := by decide +kernel
theorem dMo_make_84 : decode (mC mMo_make) 84 = .ok (.bipush (40), 2) := by decide +kernel
theorem dMo_make_86 : decode (mC mMo_make) 86 = .ok (.if_icmp .ne (10), 3) := by decide +kernel
theorem dMo_make_89 : decode (mC mMo_make) 89 = .ok (.aload_n 0, 1) := by decide +kernel
theorem dMo_make_90 : decode (mC mMo_make) 90 = .ok (.bipush (7), 2) := by decide +kernel
theorem dMo_make_92 : decode (mC mMo_make) 92 = .ok (.invokevirtual 329, 3) := by decide +kernel
theorem dMo_make_95 : decode (mC mMo_make) 95 = .ok (.ireturn, 1) := by decide +kernel
theorem dMo_make_96 : decode (mC mMo_make) 96 = .ok (.aload_n 0, 1) := by decide +kernel
theorem dMo_make_97 : decode (mC mMo_make) 97 = .ok (.iload_n 2, 1) := by decide +kernel
theorem dMo_make_98 : decode (mC mMo_make) 98 = .ok (.invokevirtual 323, 3) := by decide +kernel
theorem dMo_make_101 : decode (mC mMo_make) 101 = .ok (.ifCond .eq (12), 3) := by decide +kernel
theorem dMo_make_104 : decode (mC mMo_make) 104 = .ok (.aload_n 0, 1) := by decide +kernel
theorem dMo_make_105 : decode (mC mMo_make) 105 = .ok (.bipush (9), 2) := by decide +kernel
theorem dMo_make_107 : decode (mC mMo_make) 107 = .ok (.invokevirtual 329, 3) := by decide +kernel
theorem dMo_make_110 : decode (mC mMo_make) 110 = .ok (.goto (14), 3) := by decide +kernel
theorem dMo_make_113 : decode (mC mMo_make) 113 = .ok (.aload_n 0, 1) := by decide +kernel
theorem dMo_make_114 : decode (mC mMo_make) 114 = .ok (.iload_n 1, 1) := by decide +kernel
theorem dMo_make_115 : decode (mC mMo_make) 115 = .ok (.iload_n 2, 1) := by decide +kernel
theorem dMo_make_116 : decode (mC mMo_make) 116 = .ok (.iload_n 3, 1) := by decide +kernel
theorem dMo_make_117 : decode (mC mMo_make) 117 = .ok (.iload 4, 2) := by decide +kernel
theorem dMo_make_119 : decode (mC mMo_make) 119 = .ok (.iload 5, 2) := by decide +kernel
theorem dMo_make_121 : decode (mC mMo_make) 121 = .ok (.invokevirtual 433, 3) := by decide +kernel
theorem dMo_make_124 : decode (mC mMo_make) 124 = .ok (.ireturn, 1) := by decide +kernel
theorem bMo_make_0 {E : mEn} {d : Nat} {σ : mSt} {Q : mPost} {a1 : Int32} {a2 : Int32} {a3 : Int32} {a4 : Int32} {a5 : Int32} : WP E (d + 1) mMo_make 0 [.ref 166, .int a1, .int a2, .int a3, .int a4, .int a5] [] σ Q = WP E d mMo_isLoafAt 0 [.ref 166, .int a2] [] (sI (sI σ 166 1 0) 166 0 0) (fun r σ' => WP E (d + 1) mMo_make 15 [.ref 166, .int a1, .int a2, .int a3, .int a4, .int a5] (r.toList ++ []) σ' Q) := (w_aload_n dMo_make_0 rfl).trans ((w_iconst (v := 0) dMo_make_1 rfl).trans ((w_puti dMo_make_2 rz11_74 sh_166 rfl rfl rfl).trans ((w_aload_n dMo_make_5 rfl).trans ((w_iconst (v := 0) dMo_make_6 rfl).trans ((w_puti dMo_make_7 rz11_77 sh_166 rfl rfl rfl).trans ((w_aload_n dMo_make_10 rfl).trans ((w_iload_n dMo_make_11 rfl).trans (w_virt (vs := [.int a2]) (st' := []) (es := [.ref 166, .int a2]) dMo_make_12 rz11_335 rfl sh_166 rfl rfl rfl (Nat.le_of_ble_eq_true rfl) (Nat.le_of_ble_eq_true rfl) rfl))))))))
theorem bMo_make_15 {E : mEn} {d : Nat} {σ : mSt} {Q : mPost} {a1 : Int32} {a2 : Int32} {a3 : Int32} {a4 : Int32} {a5 : Int32} {s0 : Int32} : WP E d mMo_make 15 [.ref 166, .int a1, .int a2, .int a3, .int a4, .int a5] [.int s0] σ Q = (if s0 = 0 then WP E d mMo_make 35 [.ref 166, .int a1, .int a2, .int a3, .int a4, .int a5] [] σ Q else WP E d mMo_make 18 [.ref 166, .int a1, .int a2, .int a3, .int a4, .int a5] [] σ Q) := w_ifeq (t := 35) dMo_make_15 (by decide)
theorem bMo_make_18 {E : mEn} {d : Nat} {σ : mSt} {Q : mPost} {a1 : Int32} {a2 : Int32} {a3 : Int32} {a4 : Int32} {a5 : Int32} : WP E (d + 1) mMo_make 18 [.ref 166, .int a1, .int a2, .int a3, .int a4, .int a5] [] σ Q = WP E d mMo_isPersonAt 0 [.ref 166, .int a3] [] σ (fun r σ' => WP E (d + 1) mMo_make 23 [.ref 166, .int a1, .int a2, .int a3, .int a4, .int a5] (r.toList ++ []) σ' Q) := (w_aload_n dMo_make_18 rfl).trans ((w_iload_n dMo_make_19 rfl).trans (w_virt (vs := [.int a3]) (st' := []) (es := [.ref 166, .int a3]) dMo_make_20 rz11_332 rfl sh_166 rfl rfl rfl (Nat.le_of_ble_eq_true rfl) (Nat.le_of_ble_eq_true rfl) rfl))
theorem bMo_make_23 {E : mEn} {d : Nat} {σ : mSt} {Q : mPost} {a1 : Int32} {a2 : Int32} {a3 : Int32} {a4 : Int32} {a5 : Int32} {s0 : Int32} : WP E d mMo_make 23 [.ref 166, .int a1, .int a2, .int a3, .int a4, .int a5] [.int s0] σ Q = (if s0 = 0 then WP E d mMo_make 35 [.ref 166, .int a1, .int a2, .int a3, .int a4, .int a5] [] σ Q else WP E d mMo_make 26 [.ref 166, .int a1, .int a2, .int a3, .int a4, .int a5] [] σ Q) := w_ifeq (t := 35) dMo_make_23 (by decide)
theorem bMo_make_26 {E : mEn} {d : Nat} {σ : mSt} {Q : mPost} {a1 : Int32} {a2 : Int32} {a3 : Int32} {a4 : Int32} {a5 : Int32} : WP E (d + 1) mMo_make 26 [.ref 166, .int a1, .int a2, .int a3, .int a4, .int a5] [] σ Q = WP E d mMo_isPersonAt 0 [.ref 166, .int a4] [] σ (fun r σ' => WP E (d + 1) mMo_make 32 [.ref 166, .int a1, .int a2, .int a3, .int a4, .int a5] (r.toList ++ []) σ' Q) := (w_aload_n dMo_make_26 rfl).trans ((w_iload dMo_make_27 rfl).trans (w_virt (vs := [.int a4]) (st' := []) (es := [.ref 166, .int a4]) dMo_make_29 rz11_332 rfl sh_166 rfl rfl rfl (Nat.le_of_ble_eq_true rfl) (Nat.le_of_ble_eq_true rfl) rfl))
theorem bMo_make_32 {E : mEn} {d : Nat} {σ : mSt} {Q : mPost} {a1 : Int32} {a2 : Int32} {a3 : Int32} {a4 : Int32} {a5 : Int32} {s0 : Int32} : WP E d mMo_make 32 [.ref 166, .int a1, .int a2, .int a3, .int a4, .int a5] [.int s0] σ Q = (if ¬ s0 = 0 then WP E d mMo_make 41 [.ref 166, .int a1, .int a2, .int a3, .int a4, .int a5] [] σ Q else WP E d mMo_make 35 [.ref 166, .int a1, .int a2, .int a3, .int a4, .int a5] [] σ Q) := w_ifne (t := 41) dMo_make_32 (by decide)
theorem bMo_make_35 {E : mEn} {d : Nat} {σ : mSt} {Q : mPost} {a1 : Int32} {a2 : Int32} {a3 : Int32} {a4 : Int32} {a5 : Int32} : WP E (d + 1) mMo_make 35 [.ref 166, .int a1, .int a2, .int a3, .int a4, .int a5] [] σ Q = WP E d mMo_refuse 0 [.ref 166, .int (nI 2)] [] σ (fun r σ' => WP E (d + 1) mMo_make 40 [.ref 166, .int a1, .int a2, .int a3, .int a4, .int a5] (r.toList ++ []) σ' Q) := (w_aload_n dMo_make_35 rfl).trans ((w_iconst (v := (nI 2)) dMo_make_36 rfl).trans (w_virt (vs := [.int (nI 2)]) (st' := []) (es := [.ref 166, .int (nI 2)]) dMo_make_37 rz11_329 rfl sh_166 rfl rfl rfl (Nat.le_of_ble_eq_true rfl) (Nat.le_of_ble_eq_true rfl) rfl))
theorem bMo_make_40 {E : mEn} {d : Nat} {σ : mSt} {Q : mPost} {a1 : Int32} {a2 : Int32} {a3 : Int32} {a4 : Int32} {a5 : Int32} {s0 : Int32} : WP E d mMo_make 40 [.ref 166, .int a1, .int a2, .int a3, .int a4, .int a5] [.int s0] σ Q = Q (some (.int s0)) σ := w_iret dMo_make_40 rfl
theorem bMo_make_41 {E : mEn} {d : Nat} {σ : mSt} {Q : mPost} {a1 : Int32} {a2 : Int32} {a3 : Int32} {a4 : Int32} {a5 : Int32} : WP E (d + 1) mMo_make 41 [.ref 166, .int a1, .int a2, .int a3, .int a4, .int a5] [] σ Q = WP E d mMo_isIn 0 [.long (a1.toInt64), uu, .long 1, uu, .long (99), uu] [] σ (fun r σ' => WP E (d + 1) mMo_make 50 [.ref 166, .int a1, .int a2, .int a3, .int a4, .int a5] (r.toList ++ []) σ' Q) := (w_iload_n dMo_make_41 rfl).trans ((w_i2l dMo_make_42).trans ((w_lconst (v := 1) dMo_make_43 rfl).trans ((w_ldc2_w dMo_make_44 rz11_431).trans (w_stat (vs := [.long (a1.toInt64), .long 1, .long (99)]) (st' := []) (es := [.long (a1.toInt64), uu, .long 1, uu, .long (99), uu]) dMo_make_47 rz11_109 rfl rfl rfl (Nat.le_of_ble_eq_true rfl) (Nat.le_of_ble_eq_true rfl) rfl))))
theorem bMo_make_50 {E : mEn} {d : Nat} {σ : mSt} {Q : mPost} {a1 : Int32} {a2 : Int32} {a3 : Int32} {a4 : Int32} {a5 : Int32} {s0 : Int32} : WP E d mMo_make 50 [.ref 166, .int a1, .int a2, .int a3, .int a4, .int a5] [.int s0] σ Q = (if s0 = 0 then WP E d mMo_make 72 [.ref 166, .int a1, .int a2, .int a3, .int a4, .int a5] [] σ Q else WP E d mMo_make 53 [.ref 166, .int a1, .int a2, .int a3, .int a4, .int a5] [] σ Q) := w_ifeq (t := 72) dMo_make_50 (by decide)
theorem bMo_make_53 {E : mEn} {d : Nat} {σ : mSt} {Q : mPost} {a1 : Int32} {a2 : Int32} {a3 : Int32} {a4 : Int32} {a5 : Int32} : WP E (d + 1) mMo_make 53 [.ref 166, .int a1, .int a2, .int a3, .int a4, .int a5] [] σ Q = WP E d mMo_isIn 0 [.long (a5.toInt64), uu, .long 0, uu, .long (999), uu] [] σ (fun r σ' => WP E (d + 1) mMo_make 63 [.ref 166, .int a1, .int a2, .int a3, .int a4, .int a5] (r.toList ++ []) σ' Q) := (w_iload dMo_make_53 rfl).trans ((w_i2l dMo_make_55).trans ((w_lconst (v := 0) dMo_make_56 rfl).trans ((w_ldc2_w dMo_make_57 rz11_403).trans (w_stat (vs := [.long (a5.toInt64), .long 0, .long (999)]) (st' := []) (es := [.long (a5.toInt64), uu, .long 0, uu, .long (999), uu]) dMo_make_60 rz11_109 rfl rfl rfl (Nat.le_of_ble_eq_true rfl) (Nat.le_of_ble_eq_true rfl) rfl))))
theorem bMo_make_63 {E : mEn} {d : Nat} {σ : mSt} {Q : mPost} {a1 : Int32} {a2 : Int32} {a3 : Int32} {a4 : Int32} {a5 : Int32} {s0 : Int32} : WP E d mMo_make 63 [.ref 166, .int a1, .int a2, .int a3, .int a4, .int a5] [.int s0] σ Q = (if s0 = 0 then WP E d mMo_make 72 [.ref 166, .int a1, .int a2, .int a3, .int a4, .int a5] [] σ Q else WP E d mMo_make 66 [.ref 166, .int a1, .int a2, .int a3, .int a4, .int a5] [] σ Q) := w_ifeq (t := 72) dMo_make_63 (by decide)
theorem bMo_make_66 {E : mEn} {d : Nat} {σ : mSt} {Q : mPost} {a1 : Int32} {a2 : Int32} {a3 : Int32} {a4 : Int32} {a5 : Int32} : WP E d mMo_make 66 [.ref 166, .int a1, .int a2, .int a3, .int a4, .int a5] [] σ Q = (if ¬ a3 = a4 then WP E d mMo_make 78 [.ref 166, .int a1, .int a2, .int a3, .int a4, .int a5] [] σ Q else WP E d mMo_make 72 [.ref 166, .int a1, .int a2, .int a3, .int a4, .int a5] [] σ Q) := (w_iload_n dMo_make_66 rfl).trans ((w_iload dMo_make_67 rfl).trans (w_icmpne (t := 78) dMo_make_69 (by decide)))
theorem bMo_make_72 {E : mEn} {d : Nat} {σ : mSt} {Q : mPost} {a1 : Int32} {a2 : Int32} {a3 : Int32} {a4 : Int32} {a5 : Int32} : WP E (d + 1) mMo_make 72 [.ref 166, .int a1, .int a2, .int a3, .int a4, .int a5] [] σ Q = WP E d mMo_refuse 0 [.ref 166, .int (nI 5)] [] σ (fun r σ' => WP E (d + 1) mMo_make 77 [.ref 166, .int a1, .int a2, .int a3, .int a4, .int a5] (r.toList ++ []) σ' Q) := (w_aload_n dMo_make_72 rfl).trans ((w_iconst (v := (nI 5)) dMo_make_73 rfl).trans (w_virt (vs := [.int (nI 5)]) (st' := []) (es := [.ref 166, .int (nI 5)]) dMo_make_74 rz11_329 rfl sh_166 rfl rfl rfl (Nat.le_of_ble_eq_true rfl) (Nat.le_of_ble_eq_true rfl) rfl))
theorem bMo_make_77 {E : mEn} {d : Nat} {σ : mSt} {Q : mPost} {a1 : Int32} {a2 : Int32} {a3 : Int32} {a4 : Int32} {a5 : Int32} {s0 : Int32} : WP E d mMo_make 77 [.ref 166, .int a1, .int a2, .int a3, .int a4, .int a5] [.int s0] σ Q = Q (some (.int s0)) σ := w_iret dMo_make_77 rfl
theorem bMo_make_78 {E : mEn} {d : Nat} {σ : mSt} {Q : mPost} {a1 : Int32} {a2 : Int32} {a3 : Int32} {a4 : Int32} {a5 : Int32} : WP E d mMo_make 78 [.ref 166, .int a1, .int a2, .int a3, .int a4, .int a5] [] σ Q = (if mOut (nI 3) 3000 = true then False else (if ¬ (σ.1 171 3) = (nI 40) then WP E d mMo_make 96 [.ref 166, .int a1, .int a2, .int a3, .int a4, .int a5] [] σ Q else WP E d mMo_make 89 [.ref 166, .int a1, .int a2, .int a3, .int a4, .int a5] [] σ Q)) := (w_aload_n dMo_make_78 rfl).trans ((w_getr (r := 171) dMo_make_79 rz11_35 sh_166 rfl).trans ((w_iconst (v := (nI 3)) dMo_make_82 rfl).trans ((w_iald dMo_make_83 sh_171 (by decide)).trans (ite_c ((w_bipush (v := (nI 40)) dMo_make_84 rfl).trans (w_icmpne (t := 96) dMo_make_86 (by decide)))))))
theorem bMo_make_89 {E : mEn} {d : Nat} {σ : mSt} {Q : mPost} {a1 : Int32} {a2 : Int32} {a3 : Int32} {a4 : Int32} {a5 : Int32} : WP E (d + 1) mMo_make 89 [.ref 166, .int a1, .int a2, .int a3, .int a4, .int a5] [] σ Q = WP E d mMo_refuse 0 [.ref 166, .int (nI 7)] [] σ (fun r σ' => WP E (d + 1) mMo_make 95 [.ref 166, .int a1, .int a2, .int a3, .int a4, .int a5] (r.toList ++ []) σ' Q) := (w_aload_n dMo_make_89 rfl).trans ((w_bipush (v := (nI 7)) dMo_make_90 rfl).trans (w_virt (vs := [.int (nI 7)]) (st' := []) (es := [.ref 166, .int (nI 7)]) dMo_make_92 rz11_329 rfl sh_166 rfl rfl rfl (Nat.le_of_ble_eq_true rfl) (Nat.le_of_ble_eq_true rfl) rfl))
theorem bMo_make_95 {E : mEn} {d : Nat} {σ : mSt} {Q : mPost} {a1 : Int32} {a2 : Int32} {a3 : Int32} {a4 : Int32} {a5 : Int32} {s0 : Int32} : WP E d mMo_make 95 [.ref 166, .int a1, .int a2, .int a3, .int a4, .int a5] [.int s0] σ Q = Q (some (.int s0)) σ := w_iret dMo_make_95 rfl
theorem bMo_make_96 {E : mEn} {d : Nat} {σ : mSt} {Q : mPost} {a1 : Int32} {a2 : Int32} {a3 : Int32} {a4 : Int32} {a5 : Int32} : WP E (d + 1) mMo_make 96 [.ref 166, .int a1, .int a2, .int a3, .int a4, .int a5] [] σ Q = WP E d mMo_isBaked 0 [.ref 166, .int a2] [] σ (fun r σ' => WP E (d + 1) mMo_make 101 [.ref 166, .int a1, .int a2, .int a3, .int a4, .int a5] (r.toList ++ []) σ' Q) := (w_aload_n dMo_make_96 rfl).trans ((w_iload_n dMo_make_97 rfl).trans (w_virt (vs := [.int a2]) (st' := []) (es := [.ref 166, .int a2]) dMo_make_98 rz11_323 rfl sh_166 rfl rfl rfl (Nat.le_of_ble_eq_true rfl) (Nat.le_of_ble_eq_true rfl) rfl))
theorem bMo_make_101 {E : mEn} {d : Nat} {σ : mSt} {Q : mPost} {a1 : Int32} {a2 : Int32} {a3 : Int32} {a4 : Int32} {a5 : Int32} {s0 : Int32} : WP E d mMo_make 101 [.ref 166, .int a1, .int a2, .int a3, .int a4, .int a5] [.int s0] σ Q = (if s0 = 0 then WP E d mMo_make 113 [.ref 166, .int a1, .int a2, .int a3, .int a4, .int a5] [] σ Q else WP E d mMo_make 104 [.ref 166, .int a1, .int a2, .int a3, .int a4, .int a5] [] σ Q) := w_ifeq (t := 113) dMo_make_101 (by decide)
theorem bMo_make_104 {E : mEn} {d : Nat} {σ : mSt} {Q : mPost} {a1 : Int32} {a2 : Int32} {a3 : Int32} {a4 : Int32} {a5 : Int32} : WP E (d + 1) mMo_make 104 [.ref 166, .int a1, .int a2, .int a3, .int a4, .int a5] [] σ Q = WP E d mMo_refuse 0 [.ref 166, .int (nI 9)] [] σ (fun r σ' => WP E (d + 1) mMo_make 110 [.ref 166, .int a1, .int a2, .int a3, .int a4, .int a5] (r.toList ++ []) σ' Q) := (w_aload_n dMo_make_104 rfl).trans ((w_bipush (v := (nI 9)) dMo_make_105 rfl).trans (w_virt (vs := [.int (nI 9)]) (st' := []) (es := [.ref 166, .int (nI 9)]) dMo_make_107 rz11_329 rfl sh_166 rfl rfl rfl (Nat.le_of_ble_eq_true rfl) (Nat.le_of_ble_eq_true rfl) rfl))
theorem bMo_make_110 {E : mEn} {d : Nat} {σ : mSt} {Q : mPost} {a1 : Int32} {a2 : Int32} {a3 : Int32} {a4 : Int32} {a5 : Int32} {s0 : Int32} : WP E d mMo_make 110 [.ref 166, .int a1, .int a2, .int a3, .int a4, .int a5] [.int s0] σ Q = WP E d mMo_make 124 [.ref 166, .int a1, .int a2, .int a3, .int a4, .int a5] [.int s0] σ Q := w_goto (t := 124) dMo_make_110 (by decide)
theorem bMo_make_113 {E : mEn} {d : Nat} {σ : mSt} {Q : mPost} {a1 : Int32} {a2 : Int32} {a3 : Int32} {a4 : Int32} {a5 : Int32} : WP E (d + 1) mMo_make 113 [.ref 166, .int a1, .int a2, .int a3, .int a4, .int a5] [] σ Q = WP E d mMo_makes 0 [.ref 166, .int a1, .int a2, .int a3, .int a4, .int a5, uu] [] σ (fun r σ' => WP E (d + 1) mMo_make 124 [.ref 166, .int a1, .int a2, .int a3, .int a4, .int a5] (r.toList ++ []) σ' Q) := (w_aload_n dMo_make_113 rfl).trans ((w_iload_n dMo_make_114 rfl).trans ((w_iload_n dMo_make_115 rfl).trans ((w_iload_n dMo_make_116 rfl).trans ((w_iload dMo_make_117 rfl).trans ((w_iload dMo_make_119 rfl).trans (w_virt (vs := [.int a1, .int a2, .int a3, .int a4, .int a5]) (st' := []) (es := [.ref 166, .int a1, .int a2, .int a3, .int a4, .int a5, uu]) dMo_make_121 rz11_433 rfl sh_166 rfl rfl rfl (Nat.le_of_ble_eq_true rfl) (Nat.le_of_ble_eq_true rfl) rfl))))))
theorem bMo_make_124 {E : mEn} {d : Nat} {σ : mSt} {Q : mPost} {a1 : Int32} {a2 : Int32} {a3 : Int32} {a4 : Int32} {a5 : Int32} {s0 : Int32} : WP E d mMo_make 124 [.ref 166, .int a1, .int a2, .int a3, .int a4, .int a5] [.int s0] σ Q = Q (some (.int s0)) σ := w_iret dMo_make_124 rfl
theorem dMo_makes_0 : decode (mC mMo_makes) 0 = .ok (.aload_n 0, 1) := by decide +kernel
theorem dMo_makes_1 : decode (mC mMo_makes) 1 = .ok (.getfield 35, 3) := by decide +kernel
theorem dMo_makes_4 : decode (mC mMo_makes) 4 = .ok (.iconst (3), 1) := by decide +kernel
theorem dMo_makes_5 : decode (mC mMo_makes) 5 = .ok (.iaload, 1) := by decide +kernel
theorem dMo_makes_6 : decode (mC mMo_makes) 6 = .ok (.istore 6, 2) := by decide +kernel
theorem dMo_makes_8 : decode (mC mMo_makes) 8 = .ok (.aload_n 0, 1) := by decide +kernel
theorem dMo_makes_9 : decode (mC mMo_makes) 9 = .ok (.getfield 35, 3) := by decide +kernel
theorem dMo_makes_12 : decode (mC mMo_makes) 12 = .ok (.iload 6, 2) := by decide +kernel
theorem dMo_makes_14 : decode (mC mMo_makes) 14 = .ok (.invokestatic 317, 3) := by decide +kernel
theorem dMo_makes_17 : decode (mC mMo_makes) 17 = .ok (.iload_n 1, 1) := by decide +kernel
theorem dMo_makes_18 : decode (mC mMo_makes) 18 = .ok (.iastore, 1) := by decide +kernel
theorem dMo_makes_19 : decode (mC mMo_makes) 19 = .ok (.aload_n 0, 1) := by decide +kernel
theorem dMo_makes_20 : decode (mC mMo_makes) 20 = .ok (.getfield 35, 3) := by decide +kernel
theorem dMo_makes_23 : decode (mC mMo_makes) 23 = .ok (.iload 6, 2) := by decide +kernel
theorem dMo_makes_25 : decode (mC mMo_makes) 25 = .ok (.invokestatic 317, 3) := by decide +kernel
theorem dMo_makes_28 : decode (mC mMo_makes) 28 = .ok (.iconst (1), 1) := by decide +kernel
theorem dMo_makes_29 : decode (mC mMo_makes) 29 = .ok (.iadd, 1) := by decide +kernel
theorem dMo_makes_30 : decode (mC mMo_makes) 30 = .ok (.iload_n 2, 1) := by decide +kernel
theorem dMo_makes_31 : decode (mC mMo_makes) 31 = .ok (.iastore, 1) := by decide +kernel
theorem dMo_makes_32 : decode (mC mMo_makes) 32 = .ok (.aload_n 0, 1) := by decide +kernel
theorem dMo_makes_33 : decode (mC mMo_makes) 33 = .ok (.getfield 35, 3) := by decide +kernel
theorem dMo_makes_36 : decode (mC mMo_makes) 36 = .ok (.iload 6, 2) := by decide +kernel
theorem dMo_makes_38 : decode (mC mMo_makes) 38 = .ok (.invokestatic 317, 3) := by decide +kernel
theorem dMo_makes_41 : decode (mC mMo_makes) 41 = .ok (.iconst (2), 1) := by decide +kernel
theorem dMo_makes_42 : decode (mC mMo_makes) 42 = .ok (.iadd, 1) := by decide +kernel
theorem dMo_makes_43 : decode (mC mMo_makes) 43 = .ok (.iload_n 3, 1) := by decide +kernel
theorem dMo_makes_44 : decode (mC mMo_makes) 44 = .ok (.iastore, 1) := by decide +kernel
theorem dMo_makes_45 : decode (mC mMo_makes) 45 = .ok (.aload_n 0, 1) := by decide +kernel
theorem dMo_makes_46 : decode (mC mMo_makes) 46 = .ok (.getfield 35, 3) := by decide +kernel
theorem dMo_makes_49 : decode (mC mMo_makes) 49 = .ok (.iload 6, 2) := by decide +kernel
theorem dMo_makes_51 : decode (mC mMo_makes) 51 = .ok (.invokestatic 317, 3) := by decide +kernel
theorem dMo_makes_54 : decode (mC mMo_makes) 54 = .ok (.iconst (3), 1) := by decide +kernel
theorem dMo_makes_55 : decode (mC mMo_makes) 55 = .ok (.iadd, 1) := by decide +kernel
theorem dMo_makes_56 : decode (mC mMo_makes) 56 = .ok (.iload 4, 2) := by decide +kernel
theorem dMo_makes_58 : decode (mC mMo_makes) 58 = .ok (.iastore, 1) := by decide +kernel
theorem dMo_makes_59 : decode (mC mMo_makes) 59 = .ok (.aload_n 0, 1) := by decide +kernel
theorem dMo_makes_60 : decode (mC mMo_makes) 60 = .ok (.getfield 35, 3) := by decide +kernel
theorem dMo_makes_63 : decode (mC mMo_makes) 63 = .ok (.iload 6, 2) := by decide +kernel
theorem dMo_makes_65 : decode (mC mMo_makes) 65 = .ok (.invokestatic 317, 3) := by decide +kernel
theorem dMo_makes_68 : decode (mC mMo_makes) 68 = .ok (.iconst (4), 1) := by decide +kernel
theorem dMo_makes_69 : decode (mC mMo_makes) 69 = .ok (.iadd, 1) := by decide +kernel
theorem dMo_makes_70 : decode (mC mMo_makes) 70 = .ok (.iload 5, 2) := by decide +kernel
theorem dMo_makes_72 : decode (mC mMo_makes) 72 = .ok (.iastore, 1) := by decide +kernel
theorem dMo_makes_73 : decode (mC mMo_makes) 73 = .ok (.aload_n 0, 1) := by decide +kernel
theorem dMo_makes_74 : decode (mC mMo_makes) 74 = .ok (.getfield 35, 3) := by decide +kernel
theorem dMo_makes_77 : decode (mC mMo_makes) 77 = .ok (.iload 6, 2) := by decide +kernel
theorem dMo_makes_79 : decode (mC mMo_makes) 79 = .ok (.invokestatic 317, 3) := by decide +kernel
theorem dMo_makes_82 : decode (mC mMo_makes) 82 = .ok (.iconst (5), 1) := by decide +kernel
theorem dMo_makes_83 : decode (mC mMo_makes) 83 = .ok (.iadd, 1) := by decide +kernel
theorem dMo_makes_84 : decode (mC mMo_makes) 84 = .ok (.iconst (0), 1) := by decide +kernel
theorem dMo_makes_85 : decode (mC mMo_makes) 85 = .ok (.iastore, 1) := by decide +kernel
theorem dMo_makes_86 : decode (mC mMo_makes) 86 = .ok (.aload_n 0, 1) := by decide +kernel
theorem dMo_makes_87 : decode (mC mMo_makes) 87 = .ok (.getfield 35, 3) := by decide +kernel
theorem dMo_makes_90 : decode (mC mMo_makes) 90 = .ok (.iconst (3), 1) := by decide +kernel
theorem dMo_makes_91 : decode (mC mMo_makes) 91 = .ok (.dup2, 1) := by decide +kernel
theorem dMo_makes_92 : decode (mC mMo_makes) 92 = .ok (.iaload, 1) := by decide +kernel
theorem dMo_makes_93 : decode (mC mMo_makes) 93 = .ok (.iconst (1), 1) := by decide +kernel
theorem dMo_makes_94 : decode (mC mMo_makes) 94 = .ok (.iadd, 1) := by decide +kernel
theorem dMo_makes_95 : decode (mC mMo_makes) 95 = .ok (.iastore, 1) := by decide +kernel
theorem dMo_makes_96 : decode (mC mMo_makes) 96 = .ok (.aload_n 0, 1) := by decide +kernel
theorem dMo_makes_97 : decode (mC mMo_makes) 97 = .ok (.getfield 35, 3) := by decide +kernel
theorem dMo_makes_100 : decode (mC mMo_makes) 100 = .ok (.bipush (6), 2) := by decide +kernel
theorem dMo_makes_102 : decode (mC mMo_makes) 102 = .ok (.iload 4, 2) := by decide +kernel
theorem dMo_makes_104 : decode (mC mMo_makes) 104 = .ok (.iadd, 1) := by decide +kernel
theorem dMo_makes_105 : decode (mC mMo_makes) 105 = .ok (.dup2, 1) := by decide +kernel
theorem dMo_makes_106 : decode (mC mMo_makes) 106 = .ok (.iaload, 1) := by decide +kernel
theorem dMo_makes_107 : decode (mC mMo_makes) 107 = .ok (.iload 5, 2) := by decide +kernel
theorem dMo_makes_109 : decode (mC mMo_makes) 109 = .ok (.isub, 1) := by decide +kernel
theorem dMo_makes_110 : decode (mC mMo_makes) 110 = .ok (.iastore, 1) := by decide +kernel
theorem dMo_makes_111 : decode (mC mMo_makes) 111 = .ok (.aload_n 0, 1) := by decide +kernel
theorem dMo_makes_112 : decode (mC mMo_makes) 112 = .ok (.getfield 35, 3) := by decide +kernel
theorem dMo_makes_115 : decode (mC mMo_makes) 115 = .ok (.bipush (6), 2) := by decide +kernel
theorem dMo_makes_117 : decode (mC mMo_makes) 117 = .ok (.iload_n 3, 1) := by decide +kernel
theorem dMo_makes_118 : decode (mC mMo_makes) 118 = .ok (.iadd, 1) := by decide +kernel
theorem dMo_makes_119 : decode (mC mMo_makes) 119 = .ok (.dup2, 1) := by decide +kernel
theorem dMo_makes_120 : decode (mC mMo_makes) 120 = .ok (.iaload, 1) := by decide +kernel
theorem dMo_makes_121 : decode (mC mMo_makes) 121 = .ok (.iload 5, 2) := by decide +kernel
theorem dMo_makes_123 : decode (mC mMo_makes) 123 = .ok (.iadd, 1) := by decide +kernel
theorem dMo_makes_124 : decode (mC mMo_makes) 124 = .ok (.iastore, 1) := by decide +kernel
theorem dMo_makes_125 : decode (mC mMo_makes) 125 = .ok (.iload 6, 2) := by decide +kernel
theorem dMo_makes_127 : decode (mC mMo_makes) 127 = .ok (.ireturn, 1) := by decide +kernel
theorem bMo_makes_0 {E : mEn} {d : Nat} {σ : mSt} {Q : mPost} {a1 : Int32} {a2 : Int32} {a3 : Int32} {a4 : Int32} {a5 : Int32} {u6 : Value} : WP E (d + 1) mMo_makes 0 [.ref 166, .int a1, .int a2, .int a3, .int a4, .int a5, u6] [] σ Q = (if mOut (nI 3) 3000 = true then False else WP E d mMo_part 0 [.int (σ.1 171 3)] [] σ (fun r σ' => WP E (d + 1) mMo_makes 17 [.ref 166, .int a1, .int a2, .int a3, .int a4, .int a5, .int (σ.1 171 3)] (r.toList ++ [.ref 171]) σ' Q)) := (w_aload_n dMo_makes_0 rfl).trans ((w_getr (r := 171) dMo_makes_1 rz11_35 sh_166 rfl).trans ((w_iconst (v := (nI 3)) dMo_makes_4 rfl).trans ((w_iald dMo_makes_5 sh_171 (by decide)).trans (ite_c ((w_istore (ls' := [.ref 166, .int a1, .int a2, .int a3, .int a4, .int a5, .int (σ.1 171 3)]) dMo_makes_6 (Nat.le_of_ble_eq_true rfl) rfl).trans ((w_aload_n dMo_makes_8 rfl).trans ((w_getr (r := 171) dMo_makes_9 rz11_35 sh_166 rfl).trans ((w_iload dMo_makes_12 rfl).trans (w_stat (vs := [.int (σ.1 171 3)]) (st' := [.ref 171]) (es := [.int (σ.1 171 3)]) dMo_makes_14 rz11_317 rfl rfl rfl (Nat.le_of_ble_eq_true rfl) (Nat.le_of_ble_eq_true rfl) rfl)))))))))
theorem bMo_makes_17 {E : mEn} {d : Nat} {σ : mSt} {Q : mPost} {a1 : Int32} {a2 : Int32} {a3 : Int32} {a4 : Int32} {a5 : Int32} {a6 : Int32} {s0 : Int32} : WP E (d + 1) mMo_makes 17 [.ref 166, .int a1, .int a2, .int a3, .int a4, .int a5, .int a6] [.int s0, .ref 171] σ Q = (if mOut s0 3000 = true then False else WP E d mMo_part 0 [.int a6] [] (sI σ 171 s0.toNatClampNeg a1) (fun r σ' => WP E (d + 1) mMo_makes 28 [.ref 166, .int a1, .int a2, .int a3, .int a4, .int a5, .int a6] (r.toList ++ [.ref 171]) σ' Q)) := (w_iload_n dMo_makes_17 rfl).trans ((w_iast dMo_makes_18 sh_171).trans (ite_c ((w_aload_n dMo_makes_19 rfl).trans ((w_getr (r := 171) dMo_makes_20 rz11_35 sh_166 rfl).trans ((w_iload dMo_makes_23 rfl).trans (w_stat (vs := [.int a6]) (st' := [.ref 171]) (es := [.int a6]) dMo_makes_25 rz11_317 rfl rfl rfl (Nat.le_of_ble_eq_true rfl) (Nat.le_of_ble_eq_true rfl) rfl))))))
theorem bMo_makes_28 {E : mEn} {d : Nat} {σ : mSt} {Q : mPost} {a1 : Int32} {a2 : Int32} {a3 : Int32} {a4 : Int32} {a5 : Int32} {a6 : Int32} {s0 : Int32} : WP E (d + 1) mMo_makes 28 [.ref 166, .int a1, .int a2, .int a3, .int a4, .int a5, .int a6] [.int s0, .ref 171] σ Q = (if mOut (s0 + 1) 3000 = true then False else WP E d mMo_part 0 [.int a6] [] (sI σ 171 (s0 + 1).toNatClampNeg a2) (fun r σ' => WP E (d + 1) mMo_makes 41 [.ref 166, .int a1, .int a2, .int a3, .int a4, .int a5, .int a6] (r.toList ++ [.ref 171]) σ' Q)) := (w_iconst (v := 1) dMo_makes_28 rfl).trans ((w_iadd dMo_makes_29).trans ((w_iload_n dMo_makes_30 rfl).trans ((w_iast dMo_makes_31 sh_171).trans (ite_c ((w_aload_n dMo_makes_32 rfl).trans ((w_getr (r := 171) dMo_makes_33 rz11_35 sh_166 rfl).trans ((w_iload dMo_makes_36 rfl).trans (w_stat (vs := [.int a6]) (st' := [.ref 171]) (es := [.int a6]) dMo_makes_38 rz11_317 rfl rfl rfl (Nat.le_of_ble_eq_true rfl) (Nat.le_of_ble_eq_true rfl) rfl))))))))
theorem bMo_makes_41 {E : mEn} {d : Nat} {σ : mSt} {Q : mPost} {a1 : Int32} {a2 : Int32} {a3 : Int32} {a4 : Int32} {a5 : Int32} {a6 : Int32} {s0 : Int32} : WP E (d + 1) mMo_makes 41 [.ref 166, .int a1, .int a2, .int a3, .int a4, .int a5, .int a6] [.int s0, .ref 171] σ Q = (if mOut (s0 + (nI 2)) 3000 = true then False else WP E d mMo_part 0 [.int a6] [] (sI σ 171 (s0 + (nI 2)).toNatClampNeg a3) (fun r σ' => WP E (d + 1) mMo_makes 54 [.ref 166, .int a1, .int a2, .int a3, .int a4, .int a5, .int a6] (r.toList ++ [.ref 171]) σ' Q)) := (w_iconst (v := (nI 2)) dMo_makes_41 rfl).trans ((w_iadd dMo_makes_42).trans ((w_iload_n dMo_makes_43 rfl).trans ((w_iast dMo_makes_44 sh_171).trans (ite_c ((w_aload_n dMo_makes_45 rfl).trans ((w_getr (r := 171) dMo_makes_46 rz11_35 sh_166 rfl).trans ((w_iload dMo_makes_49 rfl).trans (w_stat (vs := [.int a6]) (st' := [.ref 171]) (es := [.int a6]) dMo_makes_51 rz11_317 rfl rfl rfl (Nat.le_of_ble_eq_true rfl) (Nat.le_of_ble_eq_true rfl) rfl))))))))
theorem bMo_makes_54 {E : mEn} {d : Nat} {σ : mSt} {Q : mPost} {a1 : Int32} {a2 : Int32} {a3 : Int32} {a4 : Int32} {a5 : Int32} {a6 : Int32} {s0 : Int32} : WP E (d + 1) mMo_makes 54 [.ref 166, .int a1, .int a2, .int a3, .int a4, .int a5, .int a6] [.int s0, .ref 171] σ Q = (if mOut (s0 + (nI 3)) 3000 = true then False else WP E d mMo_part 0 [.int a6] [] (sI σ 171 (s0 + (nI 3)).toNatClampNeg a4) (fun r σ' => WP E (d + 1) mMo_makes 68 [.ref 166, .int a1, .int a2, .int a3, .int a4, .int a5, .int a6] (r.toList ++ [.ref 171]) σ' Q)) := (w_iconst (v := (nI 3)) dMo_makes_54 rfl).trans ((w_iadd dMo_makes_55).trans ((w_iload dMo_makes_56 rfl).trans ((w_iast dMo_makes_58 sh_171).trans (ite_c ((w_aload_n dMo_makes_59 rfl).trans ((w_getr (r := 171) dMo_makes_60 rz11_35 sh_166 rfl).trans ((w_iload dMo_makes_63 rfl).trans (w_stat (vs := [.int a6]) (st' := [.ref 171]) (es := [.int a6]) dMo_makes_65 rz11_317 rfl rfl rfl (Nat.le_of_ble_eq_true rfl) (Nat.le_of_ble_eq_true rfl) rfl))))))))
theorem bMo_makes_68 {E : mEn} {d : Nat} {σ : mSt} {Q : mPost} {a1 : Int32} {a2 : Int32} {a3 : Int32} {a4 : Int32} {a5 : Int32} {a6 : Int32} {s0 : Int32} : WP E (d + 1) mMo_makes 68 [.ref 166, .int a1, .int a2, .int a3, .int a4, .int a5, .int a6] [.int s0, .ref 171] σ Q = (if mOut (s0 + (nI 4)) 3000 = true then False else WP E d mMo_part 0 [.int a6] [] (sI σ 171 (s0 + (nI 4)).toNatClampNeg a5) (fun r σ' => WP E (d + 1) mMo_makes 82 [.ref 166, .int a1, .int a2, .int a3, .int a4, .int a5, .int a6] (r.toList ++ [.ref 171]) σ' Q)) := (w_iconst (v := (nI 4)) dMo_makes_68 rfl).trans ((w_iadd dMo_makes_69).trans ((w_iload dMo_makes_70 rfl).trans ((w_iast dMo_makes_72 sh_171).trans (ite_c ((w_aload_n dMo_makes_73 rfl).trans ((w_getr (r := 171) dMo_makes_74 rz11_35 sh_166 rfl).trans ((w_iload dMo_makes_77 rfl).trans (w_stat (vs := [.int a6]) (st' := [.ref 171]) (es := [.int a6]) dMo_makes_79 rz11_317 rfl rfl rfl (Nat.le_of_ble_eq_true rfl) (Nat.le_of_ble_eq_true rfl) rfl))))))))
theorem bMo_makes_82 {E : mEn} {d : Nat} {σ : mSt} {Q : mPost} {a1 : Int32} {a2 : Int32} {a3 : Int32} {a4 : Int32} {a5 : Int32} {a6 : Int32} {s0 : Int32} : WP E d mMo_makes 82 [.ref 166, .int a1, .int a2, .int a3, .int a4, .int a5, .int a6] [.int s0, .ref 171] σ Q = (if mOut (s0 + (nI 5)) 3000 = true then False else (if mOut (nI 3) 3000 = true then False else (if mOut (nI 3) 3000 = true then False else (if mOut ((nI 6) + a4) 3000 = true then False else (if mOut ((nI 6) + a4) 3000 = true then False else WP E d mMo_makes 111 [.ref 166, .int a1, .int a2, .int a3, .int a4, .int a5, .int a6] [] (sI (sI (sI σ 171 (s0 + (nI 5)).toNatClampNeg 0) 171 3 (((sI σ 171 (s0 + (nI 5)).toNatClampNeg 0).1 171 3) + 1)) 171 ((nI 6) + a4).toNatClampNeg (((sI (sI σ 171 (s0 + (nI 5)).toNatClampNeg 0) 171 3 (((sI σ 171 (s0 + (nI 5)).toNatClampNeg 0).1 171 3) + 1)).1 171 ((nI 6) + a4).toNatClampNeg) - a5)) Q))))) := (w_iconst (v := (nI 5)) dMo_makes_82 rfl).trans ((w_iadd dMo_makes_83).trans ((w_iconst (v := 0) dMo_makes_84 rfl).trans ((w_iast dMo_makes_85 sh_171).trans (ite_c ((w_aload_n dMo_makes_86 rfl).trans ((w_getr (r := 171) dMo_makes_87 rz11_35 sh_166 rfl).trans ((w_iconst (v := (nI 3)) dMo_makes_90 rfl).trans ((w_dup2 dMo_makes_91 rfl rfl).trans ((w_iald dMo_makes_92 sh_171 (by decide)).trans (ite_c ((w_iconst (v := 1) dMo_makes_93 rfl).trans ((w_iadd dMo_makes_94).trans ((w_iast dMo_makes_95 sh_171).trans (ite_c ((w_aload_n dMo_makes_96 rfl).trans ((w_getr (r := 171) dMo_makes_97 rz11_35 sh_166 rfl).trans ((w_bipush (v := (nI 6)) dMo_makes_100 rfl).trans ((w_iload dMo_makes_102 rfl).trans ((w_iadd dMo_makes_104).trans ((w_dup2 dMo_makes_105 rfl rfl).trans ((w_iald dMo_makes_106 sh_171 (by decide)).trans (ite_c ((w_iload dMo_makes_107 rfl).trans ((w_isub dMo_makes_109).trans ((w_iast dMo_makes_110 sh_171).trans (ite_c (rfl)))))))))))))))))))))))))))
theorem bMo_makes_111 {E : mEn} {d : Nat} {σ : mSt} {Q : mPost} {a1 : Int32} {a2 : Int32} {a3 : Int32} {a4 : Int32} {a5 : Int32} {a6 : Int32} : WP E d mMo_makes 111 [.ref 166, .int a1, .int a2, .int a3, .int a4, .int a5, .int a6] [] σ Q = (if mOut ((nI 6) + a3) 3000 = true then False else (if mOut ((nI 6) + a3) 3000 = true then False else Q (some (.int a6)) (sI σ 171 ((nI 6) + a3).toNatClampNeg ((σ.1 171 ((nI 6) + a3).toNatClampNeg) + a5)))) := (w_aload_n dMo_makes_111 rfl).trans ((w_getr (r := 171) dMo_makes_112 rz11_35 sh_166 rfl).trans ((w_bipush (v := (nI 6)) dMo_makes_115 rfl).trans ((w_iload_n dMo_makes_117 rfl).trans ((w_iadd dMo_makes_118).trans ((w_dup2 dMo_makes_119 rfl rfl).trans ((w_iald dMo_makes_120 sh_171 (by decide)).trans (ite_c ((w_iload dMo_makes_121 rfl).trans ((w_iadd dMo_makes_123).trans ((w_iast dMo_makes_124 sh_171).trans (ite_c ((w_iload dMo_makes_125 rfl).trans (w_iret dMo_makes_127 rfl)))))))))))))
theorem dMo_letGo_0 : decode (mC mMo_letGo) 0 = .ok (.aload_n 0, 1) := by decide +kernel
theorem dMo_letGo_1 : decode (mC mMo_letGo) 1 = .ok (.iconst (0), 1) := by decide +kernel
theorem dMo_letGo_2 : decode (mC mMo_letGo) 2 = .ok (.putfield 74, 3) := by decide +kernel
theorem dMo_letGo_5 : decode (mC mMo_letGo) 5 = .ok (.aload_n 0, 1) := by decide +kernel
theorem dMo_letGo_6 : decode (mC mMo_letGo) 6 = .ok (.iconst (0), 1) := by decide +kernel
theorem dMo_letGo_7 : decode (mC mMo_letGo) 7 = .ok (.putfield 77, 3) := by decide +kernel
theorem dMo_letGo_10 : decode (mC mMo_letGo) 10 = .ok (.aload_n 0, 1) := by decide +kernel
theorem dMo_letGo_11 : decode (mC mMo_letGo) 11 = .ok (.iload_n 1, 1) := by decide +kernel
theorem dMo_letGo_12 : decode (mC mMo_letGo) 12 = .ok (.invokevirtual 341, 3) := by decide +kernel
theorem dMo_letGo_15 : decode (mC mMo_letGo) 15 = .ok (.ifCond .ne (9), 3) := by decide +kernel
theorem dMo_letGo_18 : decode (mC mMo_letGo) 18 = .ok (.aload_n 0, 1) := by decide +kernel
theorem dMo_letGo_19 : decode (mC mMo_letGo) 19 = .ok (.iconst (2), 1) := by decide +kernel
theorem dMo_letGo_20 : decode (mC mMo_letGo) 20 = .ok (.invokevirtual 89, 3) := by decide +kernel
theorem dMo_letGo_23 : decode (mC mMo_letGo) 23 = .ok (.ireturn, 1) := by decide +kernel
theorem dMo_letGo_24 : decode (mC mMo_letGo) 24 = .ok (.aload_n 0, 1) := by decide +kernel
theorem dMo_letGo_25 : decode (mC mMo_letGo) 25 = .ok (.iload_n 1, 1) := by decide +kernel
theorem dMo_letGo_26 : decode (mC mMo_letGo) 26 = .ok (.invokevirtual 437, 3) := by decide +kernel
theorem dMo_letGo_29 : decode (mC mMo_letGo) 29 = .ok (.ifCond .ne (12), 3) := by decide +kernel
theorem dMo_letGo_32 : decode (mC mMo_letGo) 32 = .ok (.aload_n 0, 1) := by decide +kernel
theorem dMo_letGo_33 : decode (mC mMo_letGo) 33 = .ok (.bipush (9), 2) := by decide +kernel
theorem dMo_letGo_35 : decode (mC mMo_letGo) 35 = .ok (.invokevirtual 89, 3) := by decide +kernel
theorem dMo_letGo_38 : decode (mC mMo_letGo) 38 = .ok (.ifCond .eq (7), 3) := by decide +kernel
theorem dMo_letGo_41 : decode (mC mMo_letGo) 41 = .ok (.iconst (1), 1) := by decide +kernel
theorem dMo_letGo_42 : decode (mC mMo_letGo) 42 = .ok (.goto (4), 3) := by decide +kernel
theorem dMo_letGo_45 : decode (mC mMo_letGo) 45 = .ok (.iconst (0), 1) := by decide +kernel
theorem dMo_letGo_46 : decode (mC mMo_letGo) 46 = .ok (.ireturn, 1) := by decide +kernel
theorem bMo_letGo_0 {E : mEn} {d : Nat} {σ : mSt} {Q : mPost} {a1 : Int32} : WP E (d + 1) mMo_letGo 0 [.ref 166, .int a1] [] σ Q = WP E d mMo_isPromiseAt 0 [.ref 166, .int a1] [] (sI (sI σ 166 1 0) 166 0 0) (fun r σ' => WP E (d + 1) mMo_letGo 15 [.ref 166, .int a1] (r.toList ++ []) σ' Q) := (w_aload_n dMo_letGo_0 rfl).trans ((w_iconst (v := 0) dMo_letGo_1 rfl).trans ((w_puti dMo_letGo_2 rz11_74 sh_166 rfl rfl rfl).trans ((w_aload_n dMo_letGo_5 rfl).trans ((w_iconst (v := 0) dMo_letGo_6 rfl).trans ((w_puti dMo_letGo_7 rz11_77 sh_166 rfl rfl rfl).trans ((w_aload_n dMo_letGo_10 rfl).trans ((w_iload_n dMo_letGo_11 rfl).trans (w_virt (vs := [.int a1]) (st' := []) (es := [.ref 166, .int a1]) dMo_letGo_12 rz11_341 rfl sh_166 rfl rfl rfl (Nat.le_of_ble_eq_true rfl) (Nat.le_of_ble_eq_true rfl) rfl))))))))
theorem bMo_letGo_15 {E : mEn} {d : Nat} {σ : mSt} {Q : mPost} {a1 : Int32} {s0 : Int32} : WP E d mMo_letGo 15 [.ref 166, .int a1] [.int s0] σ Q = (if ¬ s0 = 0 then WP E d mMo_letGo 24 [.ref 166, .int a1] [] σ Q else WP E d mMo_letGo 18 [.ref 166, .int a1] [] σ Q) := w_ifne (t := 24) dMo_letGo_15 (by decide)
theorem bMo_letGo_18 {E : mEn} {d : Nat} {σ : mSt} {Q : mPost} {a1 : Int32} : WP E (d + 1) mMo_letGo 18 [.ref 166, .int a1] [] σ Q = WP E d mMo_no 0 [.ref 166, .int (nI 2)] [] σ (fun r σ' => WP E (d + 1) mMo_letGo 23 [.ref 166, .int a1] (r.toList ++ []) σ' Q) := (w_aload_n dMo_letGo_18 rfl).trans ((w_iconst (v := (nI 2)) dMo_letGo_19 rfl).trans (w_virt (vs := [.int (nI 2)]) (st' := []) (es := [.ref 166, .int (nI 2)]) dMo_letGo_20 rz11_89 rfl sh_166 rfl rfl rfl (Nat.le_of_ble_eq_true rfl) (Nat.le_of_ble_eq_true rfl) rfl))
theorem bMo_letGo_23 {E : mEn} {d : Nat} {σ : mSt} {Q : mPost} {a1 : Int32} {s0 : Int32} (hz0 : s0 = 0 ∨ s0 = 1) : WP E d mMo_letGo 23 [.ref 166, .int a1] [.int s0] σ Q = Q (some (.int s0)) σ := w_zret dMo_letGo_23 rfl hz0
theorem bMo_letGo_24 {E : mEn} {d : Nat} {σ : mSt} {Q : mPost} {a1 : Int32} : WP E (d + 1) mMo_letGo 24 [.ref 166, .int a1] [] σ Q = WP E d mMo_breaks 0 [.ref 166, .int a1] [] σ (fun r σ' => WP E (d + 1) mMo_letGo 29 [.ref 166, .int a1] (r.toList ++ []) σ' Q) := (w_aload_n dMo_letGo_24 rfl).trans ((w_iload_n dMo_letGo_25 rfl).trans (w_virt (vs := [.int a1]) (st' := []) (es := [.ref 166, .int a1]) dMo_letGo_26 rz11_437 rfl sh_166 rfl rfl rfl (Nat.le_of_ble_eq_true rfl) (Nat.le_of_ble_eq_true rfl) rfl))
theorem bMo_letGo_29 {E : mEn} {d : Nat} {σ : mSt} {Q : mPost} {a1 : Int32} {s0 : Int32} : WP E d mMo_letGo 29 [.ref 166, .int a1] [.int s0] σ Q = (if ¬ s0 = 0 then WP E d mMo_letGo 41 [.ref 166, .int a1] [] σ Q else WP E d mMo_letGo 32 [.ref 166, .int a1] [] σ Q) := w_ifne (t := 41) dMo_letGo_29 (by decide)
theorem bMo_letGo_32 {E : mEn} {d : Nat} {σ : mSt} {Q : mPost} {a1 : Int32} : WP E (d + 1) mMo_letGo 32 [.ref 166, .int a1] [] σ Q = WP E d mMo_no 0 [.ref 166, .int (nI 9)] [] σ (fun r σ' => WP E (d + 1) mMo_letGo 38 [.ref 166, .int a1] (r.toList ++ []) σ' Q) := (w_aload_n dMo_letGo_32 rfl).trans ((w_bipush (v := (nI 9)) dMo_letGo_33 rfl).trans (w_virt (vs := [.int (nI 9)]) (st' := []) (es := [.ref 166, .int (nI 9)]) dMo_letGo_35 rz11_89 rfl sh_166 rfl rfl rfl (Nat.le_of_ble_eq_true rfl) (Nat.le_of_ble_eq_true rfl) rfl))
theorem bMo_letGo_38 {E : mEn} {d : Nat} {σ : mSt} {Q : mPost} {a1 : Int32} {s0 : Int32} : WP E d mMo_letGo 38 [.ref 166, .int a1] [.int s0] σ Q = (if s0 = 0 then WP E d mMo_letGo 45 [.ref 166, .int a1] [] σ Q else WP E d mMo_letGo 41 [.ref 166, .int a1] [] σ Q) := w_ifeq (t := 45) dMo_letGo_38 (by decide)
theorem bMo_letGo_41 {E : mEn} {d : Nat} {σ : mSt} {Q : mPost} {a1 : Int32} : WP E d mMo_letGo 41 [.ref 166, .int a1] [] σ Q = WP E d mMo_letGo 46 [.ref 166, .int a1] [.int 1] σ Q := (w_iconst (v := 1) dMo_letGo_41 rfl).trans (w_goto (t := 46) dMo_letGo_42 (by decide))
theorem bMo_letGo_45 {E : mEn} {d : Nat} {σ : mSt} {Q : mPost} {a1 : Int32} : WP E d mMo_letGo 45 [.ref 166, .int a1] [] σ Q = WP E d mMo_letGo 46 [.ref 166, .int a1] [.int 0] σ Q := w_iconst (v := 0) dMo_letGo_45 rfl
theorem bMo_letGo_46 {E : mEn} {d : Nat} {σ : mSt} {Q : mPost} {a1 : Int32} {s0 : Int32} (hz0 : s0 = 0 ∨ s0 = 1) : WP E d mMo_letGo 46 [.ref 166, .int a1] [.int s0] σ Q = Q (some (.int s0)) σ := w_zret dMo_letGo_46 rfl hz0
theorem dMo_breaks_0 : decode (mC mMo_breaks) 0 = .ok (.aload_n 0, 1) := by decide +kernel
theorem dMo_breaks_1 : decode (mC mMo_breaks) 1 = .ok (.iload_n 1, 1) := by decide +kernel
theorem dMo_breaks_2 : decode (mC mMo_breaks) 2 = .ok (.invokevirtual 341, 3) := by decide +kernel
theorem dMo_breaks_5 : decode (mC mMo_breaks) 5 = .ok (.ifCond .eq (29), 3) := by decide +kernel
theorem dMo_breaks_8 : decode (mC mMo_breaks) 8 = .ok (.aload_n 0, 1) := by decide +kernel
theorem dMo_breaks_9 : decode (mC mMo_breaks) 9 = .ok (.iload_n 1, 1) := by decide +kernel
theorem dMo_breaks_10 : decode (mC mMo_breaks) 10 = .ok (.invokevirtual 320, 3) := by decide +kernel
theorem dMo_breaks_13 : decode (mC mMo_breaks) 13 = .ok (.ifCond .eq (21), 3) := by decide +kernel
theorem dMo_breaks_16 : decode (mC mMo_breaks) 16 = .ok (.aload_n 0, 1) := by decide +kernel
theorem dMo_breaks_17 : decode (mC mMo_breaks) 17 = .ok (.aload_n 0, 1) := by decide +kernel
theorem dMo_breaks_18 : decode (mC mMo_breaks) 18 = .ok (.getfield 35, 3) := by decide +kernel
theorem dMo_breaks_21 : decode (mC mMo_breaks) 21 = .ok (.iload_n 1, 1) := by decide +kernel
theorem dMo_breaks_22 : decode (mC mMo_breaks) 22 = .ok (.invokestatic 317, 3) := by decide +kernel
theorem dMo_breaks_25 : decode (mC mMo_breaks) 25 = .ok (.iconst (1), 1) := by decide +kernel
theorem dMo_breaks_26 : decode (mC mMo_breaks) 26 = .ok (.iadd, 1) := by decide +kernel
theorem dMo_breaks_27 : decode (mC mMo_breaks) 27 = .ok (.iaload, 1) := by decide +kernel
theorem dMo_breaks_28 : decode (mC mMo_breaks) 28 = .ok (.invokevirtual 323, 3) := by decide +kernel
theorem dMo_breaks_31 : decode (mC mMo_breaks) 31 = .ok (.ifCond .eq (5), 3) := by decide +kernel
theorem dMo_breaks_34 : decode (mC mMo_breaks) 34 = .ok (.iconst (0), 1) := by decide +kernel
theorem dMo_breaks_35 : decode (mC mMo_breaks) 35 = .ok (.ireturn, 1) := by decide +kernel
theorem dMo_breaks_36 : decode (mC mMo_breaks) 36 = .ok (.aload_n 0, 1) := by decide +kernel
theorem dMo_breaks_37 : decode (mC mMo_breaks) 37 = .ok (.getfield 35, 3) := by decide +kernel
theorem dMo_breaks_40 : decode (mC mMo_breaks) 40 = .ok (.iload_n 1, 1) := by decide +kernel
theorem dMo_breaks_41 : decode (mC mMo_breaks) 41 = .ok (.invokestatic 317, 3) := by decide +kernel
theorem dMo_breaks_44 : decode (mC mMo_breaks) 44 = .ok (.iconst (5), 1) := by decide +kernel
theorem dMo_breaks_45 : decode (mC mMo_breaks) 45 = .ok (.iadd, 1) := by decide +kernel
theorem dMo_breaks_46 : decode (mC mMo_breaks) 46 = .ok (.iconst (1), 1) := by decide +kernel
theorem dMo_breaks_47 : decode (mC mMo_breaks) 47 = .ok (.iastore, 1) := by decide +kernel
theorem dMo_breaks_48 : decode (mC mMo_breaks) 48 = .ok (.aload_n 0, 1) := by decide +kernel
theorem dMo_breaks_49 : decode (mC mMo_breaks) 49 = .ok (.getfield 35, 3) := by decide +kernel
theorem dMo_breaks_52 : decode (mC mMo_breaks) 52 = .ok (.bipush (6), 2) := by decide +kernel
theorem dMo_breaks_54 : decode (mC mMo_breaks) 54 = .ok (.aload_n 0, 1) := by decide +kernel
theorem dMo_breaks_55 : decode (mC mMo_breaks) 55 = .ok (.getfield 35, 3) := by decide +kernel
theorem dMo_breaks_58 : decode (mC mMo_breaks) 58 = .ok (.iload_n 1, 1) := by decide +kernel
theorem dMo_breaks_59 : decode (mC mMo_breaks) 59 = .ok (.invokestatic 317, 3) := by decide +kernel
theorem dMo_breaks_62 : decode (mC mMo_breaks) 62 = .ok (.iconst (3), 1) := by decide +kernel
theorem dMo_breaks_63 : decode (mC mMo_breaks) 63 = .ok (.iadd, 1) := by decide +kernel
theorem dMo_breaks_64 : decode (mC mMo_breaks) 64 = .ok (.iaload, 1) := by decide +kernel
theorem dMo_breaks_65 : decode (mC mMo_breaks) 65 = .ok (.iadd, 1) := by decide +kernel
theorem dMo_breaks_66 : decode (mC mMo_breaks) 66 = .ok (.dup2, 1) := by decide +kernel
theorem dMo_breaks_67 : decode (mC mMo_breaks) 67 = .ok (.iaload, 1) := by decide +kernel
theorem dMo_breaks_68 : decode (mC mMo_breaks) 68 = .ok (.aload_n 0, 1) := by decide +kernel
theorem dMo_breaks_69 : decode (mC mMo_breaks) 69 = .ok (.getfield 35, 3) := by decide +kernel
theorem dMo_breaks_72 : decode (mC mMo_breaks) 72 = .ok (.iload_n 1, 1) := by decide +kernel
theorem dMo_breaks_73 : decode (mC mMo_breaks) 73 = .ok (.invokestatic 317, 3) := by decide +kernel
theorem dMo_breaks_76 : decode (mC mMo_breaks) 76 = .ok (.iconst (4), 1) := by decide +kernel
theorem dMo_breaks_77 : decode (mC mMo_breaks) 77 = .ok (.iadd, 1) := by decide +kernel
theorem dMo_breaks_78 : decode (mC mMo_breaks) 78 = .ok (.iaload, 1) := by decide +kernel
theorem dMo_breaks_79 : decode (mC mMo_breaks) 79 = .ok (.iadd, 1) := by decide +kernel
theorem dMo_breaks_80 : decode (mC mMo_breaks) 80 = .ok (.iastore, 1) := by decide +kernel
theorem dMo_breaks_81 : decode (mC mMo_breaks) 81 = .ok (.aload_n 0, 1) := by decide +kernel
theorem dMo_breaks_82 : decode (mC mMo_breaks) 82 = .ok (.getfield 35, 3) := by decide +kernel
theorem dMo_breaks_85 : decode (mC mMo_breaks) 85 = .ok (.bipush (6), 2) := by decide +kernel
theorem dMo_breaks_87 : decode (mC mMo_breaks) 87 = .ok (.aload_n 0, 1) := by decide +kernel
theorem dMo_breaks_88 : decode (mC mMo_breaks) 88 = .ok (.getfield 35, 3) := by decide +kernel
theorem dMo_breaks_91 : decode (mC mMo_breaks) 91 = .ok (.iload_n 1, 1) := by decide +kernel
theorem dMo_breaks_92 : decode (mC mMo_breaks) 92 = .ok (.invokestatic 317, 3) := by decide +kernel
theorem dMo_breaks_95 : decode (mC mMo_breaks) 95 = .ok (.iconst (2), 1) := by decide +kernel
theorem dMo_breaks_96 : decode (mC mMo_breaks) 96 = .ok (.iadd, 1) := by decide +kernel
theorem dMo_breaks_97 : decode (mC mMo_breaks) 97 = .ok (.iaload, 1) := by decide +kernel
theorem dMo_breaks_98 : decode (mC mMo_breaks) 98 = .ok (.iadd, 1) := by decide +kernel
theorem dMo_breaks_99 : decode (mC mMo_breaks) 99 = .ok (.dup2, 1) := by decide +kernel
theorem dMo_breaks_100 : decode (mC mMo_breaks) 100 = .ok (.iaload, 1) := by decide +kernel
theorem dMo_breaks_101 : decode (mC mMo_breaks) 101 = .ok (.aload_n 0, 1) := by decide +kernel
theorem dMo_breaks_102 : decode (mC mMo_breaks) 102 = .ok (.getfield 35, 3) := by decide +kernel
theorem dMo_breaks_105 : decode (mC mMo_breaks) 105 = .ok (.iload_n 1, 1) := by decide +kernel
theorem dMo_breaks_106 : decode (mC mMo_breaks) 106 = .ok (.invokestatic 317, 3) := by decide +kernel
theorem dMo_breaks_109 : decode (mC mMo_breaks) 109 = .ok (.iconst (4), 1) := by decide +kernel
theorem dMo_breaks_110 : decode (mC mMo_breaks) 110 = .ok (.iadd, 1) := by decide +kernel
theorem dMo_breaks_111 : decode (mC mMo_breaks) 111 = .ok (.iaload, 1) := by decide +kernel
theorem dMo_breaks_112 : decode (mC mMo_breaks) 112 = .ok (.isub, 1) := by decide +kernel
theorem dMo_breaks_113 : decode (mC mMo_breaks) 113 = .ok (.iastore, 1) := by decide +kernel
theorem dMo_breaks_114 : decode (mC mMo_breaks) 114 = .ok (.iconst (1), 1) := by decide +kernel
theorem dMo_breaks_115 : decode (mC mMo_breaks) 115 = .ok (.ireturn, 1) := by decide +kernel
theorem bMo_breaks_0 {E : mEn} {d : Nat} {σ : mSt} {Q : mPost} {a1 : Int32} : WP E (d + 1) mMo_breaks 0 [.ref 166, .int a1] [] σ Q = WP E d mMo_isPromiseAt 0 [.ref 166, .int a1] [] σ (fun r σ' => WP E (d + 1) mMo_breaks 5 [.ref 166, .int a1] (r.toList ++ []) σ' Q) := (w_aload_n dMo_breaks_0 rfl).trans ((w_iload_n dMo_breaks_1 rfl).trans (w_virt (vs := [.int a1]) (st' := []) (es := [.ref 166, .int a1]) dMo_breaks_2 rz11_341 rfl sh_166 rfl rfl rfl (Nat.le_of_ble_eq_true rfl) (Nat.le_of_ble_eq_true rfl) rfl))
theorem bMo_breaks_5 {E : mEn} {d : Nat} {σ : mSt} {Q : mPost} {a1 : Int32} {s0 : Int32} : WP E d mMo_breaks 5 [.ref 166, .int a1] [.int s0] σ Q = (if s0 = 0 then WP E d mMo_breaks 34 [.ref 166, .int a1] [] σ Q else WP E d mMo_breaks 8 [.ref 166, .int a1] [] σ Q) := w_ifeq (t := 34) dMo_breaks_5 (by decide)
theorem bMo_breaks_8 {E : mEn} {d : Nat} {σ : mSt} {Q : mPost} {a1 : Int32} : WP E (d + 1) mMo_breaks 8 [.ref 166, .int a1] [] σ Q = WP E d mMo_isMade 0 [.ref 166, .int a1] [] σ (fun r σ' => WP E (d + 1) mMo_breaks 13 [.ref 166, .int a1] (r.toList ++ []) σ' Q) := (w_aload_n dMo_breaks_8 rfl).trans ((w_iload_n dMo_breaks_9 rfl).trans (w_virt (vs := [.int a1]) (st' := []) (es := [.ref 166, .int a1]) dMo_breaks_10 rz11_320 rfl sh_166 rfl rfl rfl (Nat.le_of_ble_eq_true rfl) (Nat.le_of_ble_eq_true rfl) rfl))
theorem bMo_breaks_13 {E : mEn} {d : Nat} {σ : mSt} {Q : mPost} {a1 : Int32} {s0 : Int32} : WP E d mMo_breaks 13 [.ref 166, .int a1] [.int s0] σ Q = (if s0 = 0 then WP E d mMo_breaks 34 [.ref 166, .int a1] [] σ Q else WP E d mMo_breaks 16 [.ref 166, .int a1] [] σ Q) := w_ifeq (t := 34) dMo_breaks_13 (by decide)
theorem bMo_breaks_16 {E : mEn} {d : Nat} {σ : mSt} {Q : mPost} {a1 : Int32} : WP E (d + 1) mMo_breaks 16 [.ref 166, .int a1] [] σ Q = WP E d mMo_part 0 [.int a1] [] σ (fun r σ' => WP E (d + 1) mMo_breaks 25 [.ref 166, .int a1] (r.toList ++ [.ref 171, .ref 166]) σ' Q) := (w_aload_n dMo_breaks_16 rfl).trans ((w_aload_n dMo_breaks_17 rfl).trans ((w_getr (r := 171) dMo_breaks_18 rz11_35 sh_166 rfl).trans ((w_iload_n dMo_breaks_21 rfl).trans (w_stat (vs := [.int a1]) (st' := [.ref 171, .ref 166]) (es := [.int a1]) dMo_breaks_22 rz11_317 rfl rfl rfl (Nat.le_of_ble_eq_true rfl) (Nat.le_of_ble_eq_true rfl) rfl))))
theorem bMo_breaks_25 {E : mEn} {d : Nat} {σ : mSt} {Q : mPost} {a1 : Int32} {s0 : Int32} : WP E (d + 1) mMo_breaks 25 [.ref 166, .int a1] [.int s0, .ref 171, .ref 166] σ Q = (if mOut (s0 + 1) 3000 = true then False else WP E d mMo_isBaked 0 [.ref 166, .int (σ.1 171 (s0 + 1).toNatClampNeg)] [] σ (fun r σ' => WP E (d + 1) mMo_breaks 31 [.ref 166, .int a1] (r.toList ++ []) σ' Q)) := (w_iconst (v := 1) dMo_breaks_25 rfl).trans ((w_iadd dMo_breaks_26).trans ((w_iald dMo_breaks_27 sh_171 (by decide)).trans (ite_c (w_virt (vs := [.int (σ.1 171 (s0 + 1).toNatClampNeg)]) (st' := []) (es := [.ref 166, .int (σ.1 171 (s0 + 1).toNatClampNeg)]) dMo_breaks_28 rz11_323 rfl sh_166 rfl rfl rfl (Nat.le_of_ble_eq_true rfl) (Nat.le_of_ble_eq_true rfl) rfl))))
theorem bMo_breaks_31 {E : mEn} {d : Nat} {σ : mSt} {Q : mPost} {a1 : Int32} {s0 : Int32} : WP E d mMo_breaks 31 [.ref 166, .int a1] [.int s0] σ Q = (if s0 = 0 then WP E d mMo_breaks 36 [.ref 166, .int a1] [] σ Q else WP E d mMo_breaks 34 [.ref 166, .int a1] [] σ Q) := w_ifeq (t := 36) dMo_breaks_31 (by decide)
theorem bMo_breaks_34 {E : mEn} {d : Nat} {σ : mSt} {Q : mPost} {a1 : Int32} : WP E d mMo_breaks 34 [.ref 166, .int a1] [] σ Q = Q (some (.int 0)) σ := (w_iconst (v := 0) dMo_breaks_34 rfl).trans (w_zret dMo_breaks_35 rfl (Or.inl rfl))
theorem bMo_breaks_36 {E : mEn} {d : Nat} {σ : mSt} {Q : mPost} {a1 : Int32} : WP E (d + 1) mMo_breaks 36 [.ref 166, .int a1] [] σ Q = WP E d mMo_part 0 [.int a1] [] σ (fun r σ' => WP E (d + 1) mMo_breaks 44 [.ref 166, .int a1] (r.toList ++ [.ref 171]) σ' Q) := (w_aload_n dMo_breaks_36 rfl).trans ((w_getr (r := 171) dMo_breaks_37 rz11_35 sh_166 rfl).trans ((w_iload_n dMo_breaks_40 rfl).trans (w_stat (vs := [.int a1]) (st' := [.ref 171]) (es := [.int a1]) dMo_breaks_41 rz11_317 rfl rfl rfl (Nat.le_of_ble_eq_true rfl) (Nat.le_of_ble_eq_true rfl) rfl)))
theorem bMo_breaks_44 {E : mEn} {d : Nat} {σ : mSt} {Q : mPost} {a1 : Int32} {s0 : Int32} : WP E (d + 1) mMo_breaks 44 [.ref 166, .int a1] [.int s0, .ref 171] σ Q = (if mOut (s0 + (nI 5)) 3000 = true then False else WP E d mMo_part 0 [.int a1] [] (sI σ 171 (s0 + (nI 5)).toNatClampNeg 1) (fun r σ' => WP E (d + 1) mMo_breaks 62 [.ref 166, .int a1] (r.toList ++ [.ref 171, .int (nI 6), .ref 171]) σ' Q)) := (w_iconst (v := (nI 5)) dMo_breaks_44 rfl).trans ((w_iadd dMo_breaks_45).trans ((w_iconst (v := 1) dMo_breaks_46 rfl).trans ((w_iast dMo_breaks_47 sh_171).trans (ite_c ((w_aload_n dMo_breaks_48 rfl).trans ((w_getr (r := 171) dMo_breaks_49 rz11_35 sh_166 rfl).trans ((w_bipush (v := (nI 6)) dMo_breaks_52 rfl).trans ((w_aload_n dMo_breaks_54 rfl).trans ((w_getr (r := 171) dMo_breaks_55 rz11_35 sh_166 rfl).trans ((w_iload_n dMo_breaks_58 rfl).trans (w_stat (vs := [.int a1]) (st' := [.ref 171, .int (nI 6), .ref 171]) (es := [.int a1]) dMo_breaks_59 rz11_317 rfl rfl rfl (Nat.le_of_ble_eq_true rfl) (Nat.le_of_ble_eq_true rfl) rfl)))))))))))
theorem bMo_breaks_62 {E : mEn} {d : Nat} {σ : mSt} {Q : mPost} {a1 : Int32} {s0 : Int32} {s2 : Int32} : WP E (d + 1) mMo_breaks 62 [.ref 166, .int a1] [.int s0, .ref 171, .int s2, .ref 171] σ Q = (if mOut (s0 + (nI 3)) 3000 = true then False else (if mOut (s2 + (σ.1 171 (s0 + (nI 3)).toNatClampNeg)) 3000 = true then False else WP E d mMo_part 0 [.int a1] [] σ (fun r σ' => WP E (d + 1) mMo_breaks 76 [.ref 166, .int a1] (r.toList ++ [.ref 171, .int (σ.1 171 (s2 + (σ.1 171 (s0 + (nI 3)).toNatClampNeg)).toNatClampNeg), .int (s2 + (σ.1 171 (s0 + (nI 3)).toNatClampNeg)), .ref 171]) σ' Q))) := (w_iconst (v := (nI 3)) dMo_breaks_62 rfl).trans ((w_iadd dMo_breaks_63).trans ((w_iald dMo_breaks_64 sh_171 (by decide)).trans (ite_c ((w_iadd dMo_breaks_65).trans ((w_dup2 dMo_breaks_66 rfl rfl).trans ((w_iald dMo_breaks_67 sh_171 (by decide)).trans (ite_c ((w_aload_n dMo_breaks_68 rfl).trans ((w_getr (r := 171) dMo_breaks_69 rz11_35 sh_166 rfl).trans ((w_iload_n dMo_breaks_72 rfl).trans (w_stat (vs := [.int a1]) (st' := [.ref 171, .int (σ.1 171 (s2 + (σ.1 171 (s0 + (nI 3)).toNatClampNeg)).toNatClampNeg), .int (s2 + (σ.1 171 (s0 + (nI 3)).toNatClampNeg)), .ref 171]) (es := [.int a1]) dMo_breaks_73 rz11_317 rfl rfl rfl (Nat.le_of_ble_eq_true rfl) (Nat.le_of_ble_eq_true rfl) rfl)))))))))))
theorem bMo_breaks_76 {E : mEn} {d : Nat} {σ : mSt} {Q : mPost} {a1 : Int32} {s0 : Int32} {s2 : Int32} {s3 : Int32} : WP E (d + 1) mMo_breaks 76 [.ref 166, .int a1] [.int s0, .ref 171, .int s2, .int s3, .ref 171] σ Q = (if mOut (s0 + (nI 4)) 3000 = true then False else (if mOut s3 3000 = true then False else WP E d mMo_part 0 [.int a1] [] (sI σ 171 s3.toNatClampNeg (s2 + (σ.1 171 (s0 + (nI 4)).toNatClampNeg))) (fun r σ' => WP E (d + 1) mMo_breaks 95 [.ref 166, .int a1] (r.toList ++ [.ref 171, .int (nI 6), .ref 171]) σ' Q))) := (w_iconst (v := (nI 4)) dMo_breaks_76 rfl).trans ((w_iadd dMo_breaks_77).trans ((w_iald dMo_breaks_78 sh_171 (by decide)).trans (ite_c ((w_iadd dMo_breaks_79).trans ((w_iast dMo_breaks_80 sh_171).trans (ite_c ((w_aload_n dMo_breaks_81 rfl).trans ((w_getr (r := 171) dMo_breaks_82 rz11_35 sh_166 rfl).trans ((w_bipush (v := (nI 6)) dMo_breaks_85 rfl).trans ((w_aload_n dMo_breaks_87 rfl).trans ((w_getr (r := 171) dMo_breaks_88 rz11_35 sh_166 rfl).trans ((w_iload_n dMo_breaks_91 rfl).trans (w_stat (vs := [.int a1]) (st' := [.ref 171, .int (nI 6), .ref 171]) (es := [.int a1]) dMo_breaks_92 rz11_317 rfl rfl rfl (Nat.le_of_ble_eq_true rfl) (Nat.le_of_ble_eq_true rfl) rfl)))))))))))))
theorem bMo_breaks_95 {E : mEn} {d : Nat} {σ : mSt} {Q : mPost} {a1 : Int32} {s0 : Int32} {s2 : Int32} : WP E (d + 1) mMo_breaks 95 [.ref 166, .int a1] [.int s0, .ref 171, .int s2, .ref 171] σ Q = (if mOut (s0 + (nI 2)) 3000 = true then False else (if mOut (s2 + (σ.1 171 (s0 + (nI 2)).toNatClampNeg)) 3000 = true then False else WP E d mMo_part 0 [.int a1] [] σ (fun r σ' => WP E (d + 1) mMo_breaks 109 [.ref 166, .int a1] (r.toList ++ [.ref 171, .int (σ.1 171 (s2 + (σ.1 171 (s0 + (nI 2)).toNatClampNeg)).toNatClampNeg), .int (s2 + (σ.1 171 (s0 + (nI 2)).toNatClampNeg)), .ref 171]) σ' Q))) := (w_iconst (v := (nI 2)) dMo_breaks_95 rfl).trans ((w_iadd dMo_breaks_96).trans ((w_iald dMo_breaks_97 sh_171 (by decide)).trans (ite_c ((w_iadd dMo_breaks_98).trans ((w_dup2 dMo_breaks_99 rfl rfl).trans ((w_iald dMo_breaks_100 sh_171 (by decide)).trans (ite_c ((w_aload_n dMo_breaks_101 rfl).trans ((w_getr (r := 171) dMo_breaks_102 rz11_35 sh_166 rfl).trans ((w_iload_n dMo_breaks_105 rfl).trans (w_stat (vs := [.int a1]) (st' := [.ref 171, .int (σ.1 171 (s2 + (σ.1 171 (s0 + (nI 2)).toNatClampNeg)).toNatClampNeg), .int (s2 + (σ.1 171 (s0 + (nI 2)).toNatClampNeg)), .ref 171]) (es := [.int a1]) dMo_breaks_106 rz11_317 rfl rfl rfl (Nat.le_of_ble_eq_true rfl) (Nat.le_of_ble_eq_true rfl) rfl)))))))))))
theorem bMo_breaks_109 {E : mEn} {d : Nat} {σ : mSt} {Q : mPost} {a1 : Int32} {s0 : Int32} {s2 : Int32} {s3 : Int32} : WP E d mMo_breaks 109 [.ref 166, .int a1] [.int s0, .ref 171, .int s2, .int s3, .ref 171] σ Q = (if mOut (s0 + (nI 4)) 3000 = true then False else (if mOut s3 3000 = true then False else Q (some (.int 1)) (sI σ 171 s3.toNatClampNeg (s2 - (σ.1 171 (s0 + (nI 4)).toNatClampNeg))))) := (w_iconst (v := (nI 4)) dMo_breaks_109 rfl).trans ((w_iadd dMo_breaks_110).trans ((w_iald dMo_breaks_111 sh_171 (by decide)).trans (ite_c ((w_isub dMo_breaks_112).trans ((w_iast dMo_breaks_113 sh_171).trans (ite_c ((w_iconst (v := 1) dMo_breaks_114 rfl).trans (w_zret dMo_breaks_115 rfl (Or.inr rfl)))))))))
theorem dMo_bake_0 : decode (mC mMo_bake) 0 = .ok (.aload_n 0, 1) := by decide +kernel
theorem dMo_bake_1 : decode (mC mMo_bake) 1 = .ok (.iconst (0), 1) := by decide +kernel
theorem dMo_bake_2 : decode (mC mMo_bake) 2 = .ok (.putfield 74, 3) := by decide +kernel
theorem dMo_bake_5 : decode (mC mMo_bake) 5 = .ok (.aload_n 0, 1) := by decide +kernel
theorem dMo_bake_6 : decode (mC mMo_bake) 6 = .ok (.iconst (0), 1) := by decide +kernel
theorem dMo_bake_7 : decode (mC mMo_bake) 7 = .ok (.putfield 77, 3) := by decide +kernel
theorem dMo_bake_10 : decode (mC mMo_bake) 10 = .ok (.aload_n 0, 1) := by decide +kernel
theorem dMo_bake_11 : decode (mC mMo_bake) 11 = .ok (.iload_n 1, 1) := by decide +kernel
theorem dMo_bake_12 : decode (mC mMo_bake) 12 = .ok (.invokevirtual 335, 3) := by decide +kernel
theorem dMo_bake_15 : decode (mC mMo_bake) 15 = .ok (.ifCond .ne (9), 3) := by decide +kernel
theorem dMo_bake_18 : decode (mC mMo_bake) 18 = .ok (.aload_n 0, 1) := by decide +kernel
theorem dMo_bake_19 : decode (mC mMo_bake) 19 = .ok (.iconst (2), 1) := by decide +kernel
theorem dMo_bake_20 : decode (mC mMo_bake) 20 = .ok (.invokevirtual 329, 3) := by decide +kernel
theorem dMo_bake_23 : decode (mC mMo_bake) 23 = .ok (.ireturn, 1) := by decide +kernel
theorem dMo_bake_24 : decode (mC mMo_bake) 24 = .ok (.aload_n 0, 1) := by decide +kernel
theorem dMo_bake_25 : decode (mC mMo_bake) 25 = .ok (.iload_n 1, 1) := by decide +kernel
theorem dMo_bake_26 : decode (mC mMo_bake) 26 = .ok (.invokevirtual 443, 3) := by decide +kernel
theorem dMo_bake_29 : decode (mC mMo_bake) 29 = .ok (.istore_n 2, 1) := by decide +kernel
theorem dMo_bake_30 : decode (mC mMo_bake) 30 = .ok (.iload_n 2, 1) := by decide +kernel
theorem dMo_bake_31 : decode (mC mMo_bake) 31 = .ok (.ifCond .ge (12), 3) := by decide +kernel
theorem dMo_bake_34 : decode (mC mMo_bake) 34 = .ok (.aload_n 0, 1) := by decide +kernel
theorem dMo_bake_35 : decode (mC mMo_bake) 35 = .ok (.bipush (9), 2) := by decide +kernel
theorem dMo_bake_37 : decode (mC mMo_bake) 37 = .ok (.invokevirtual 329, 3) := by decide +kernel
theorem dMo_bake_40 : decode (mC mMo_bake) 40 = .ok (.goto (4), 3) := by decide +kernel
theorem dMo_bake_43 : decode (mC mMo_bake) 43 = .ok (.iload_n 2, 1) := by decide +kernel
theorem dMo_bake_44 : decode (mC mMo_bake) 44 = .ok (.ireturn, 1) := by decide +kernel
theorem bMo_bake_0 {E : mEn} {d : Nat} {σ : mSt} {Q : mPost} {a1 : Int32} {u2 : Value} : WP E (d + 1) mMo_bake 0 [.ref 166, .int a1, u2] [] σ Q = WP E d mMo_isLoafAt 0 [.ref 166, .int a1] [] (sI (sI σ 166 1 0) 166 0 0) (fun r σ' => WP E (d + 1) mMo_bake 15 [.ref 166, .int a1, u2] (r.toList ++ []) σ' Q) := (w_aload_n dMo_bake_0 rfl).trans ((w_iconst (v := 0) dMo_bake_1 rfl).trans ((w_puti dMo_bake_2 rz11_74 sh_166 rfl rfl rfl).trans ((w_aload_n dMo_bake_5 rfl).trans ((w_iconst (v := 0) dMo_bake_6 rfl).trans ((w_puti dMo_bake_7 rz11_77 sh_166 rfl rfl rfl).trans ((w_aload_n dMo_bake_10 rfl).trans ((w_iload_n dMo_bake_11 rfl).trans (w_virt (vs := [.int a1]) (st' := []) (es := [.ref 166, .int a1]) dMo_bake_12 rz11_335 rfl sh_166 rfl rfl rfl (Nat.le_of_ble_eq_true rfl) (Nat.le_of_ble_eq_true rfl) rfl))))))))
theorem bMo_bake_15 {E : mEn} {d : Nat} {σ : mSt} {Q : mPost} {a1 : Int32} {u2 : Value} {s0 : Int32} : WP E d mMo_bake 15 [.ref 166, .int a1, u2] [.int s0] σ Q = (if ¬ s0 = 0 then WP E d mMo_bake 24 [.ref 166, .int a1, u2] [] σ Q else WP E d mMo_bake 18 [.ref 166, .int a1, u2] [] σ Q) := w_ifne (t := 24) dMo_bake_15 (by decide)
theorem bMo_bake_18 {E : mEn} {d : Nat} {σ : mSt} {Q : mPost} {a1 : Int32} {u2 : Value} : WP E (d + 1) mMo_bake 18 [.ref 166, .int a1, u2] [] σ Q = WP E d mMo_refuse 0 [.ref 166, .int (nI 2)] [] σ (fun r σ' => WP E (d + 1) mMo_bake 23 [.ref 166, .int a1, u2] (r.toList ++ []) σ' Q) := (w_aload_n dMo_bake_18 rfl).trans ((w_iconst (v := (nI 2)) dMo_bake_19 rfl).trans (w_virt (vs := [.int (nI 2)]) (st' := []) (es := [.ref 166, .int (nI 2)]) dMo_bake_20 rz11_329 rfl sh_166 rfl rfl rfl (Nat.le_of_ble_eq_true rfl) (Nat.le_of_ble_eq_true rfl) rfl))
theorem bMo_bake_23 {E : mEn} {d : Nat} {σ : mSt} {Q : mPost} {a1 : Int32} {u2 : Value} {s0 : Int32} : WP E d mMo_bake 23 [.ref 166, .int a1, u2] [.int s0] σ Q = Q (some (.int s0)) σ := w_iret dMo_bake_23 rfl
theorem bMo_bake_24 {E : mEn} {d : Nat} {σ : mSt} {Q : mPost} {a1 : Int32} {u2 : Value} : WP E (d + 1) mMo_bake 24 [.ref 166, .int a1, u2] [] σ Q = WP E d mMo_bakes 0 [.ref 166, .int a1, uu, uu, uu] [] σ (fun r σ' => WP E (d + 1) mMo_bake 29 [.ref 166, .int a1, u2] (r.toList ++ []) σ' Q) := (w_aload_n dMo_bake_24 rfl).trans ((w_iload_n dMo_bake_25 rfl).trans (w_virt (vs := [.int a1]) (st' := []) (es := [.ref 166, .int a1, uu, uu, uu]) dMo_bake_26 rz11_443 rfl sh_166 rfl rfl rfl (Nat.le_of_ble_eq_true rfl) (Nat.le_of_ble_eq_true rfl) rfl))
theorem bMo_bake_29 {E : mEn} {d : Nat} {σ : mSt} {Q : mPost} {a1 : Int32} {u2 : Value} {s0 : Int32} : WP E d mMo_bake 29 [.ref 166, .int a1, u2] [.int s0] σ Q = (if 0 ≤ s0 then WP E d mMo_bake 43 [.ref 166, .int a1, .int s0] [] σ Q else WP E d mMo_bake 34 [.ref 166, .int a1, .int s0] [] σ Q) := (w_istore_n (ls' := [.ref 166, .int a1, .int s0]) dMo_bake_29 (Nat.le_of_ble_eq_true rfl) rfl).trans ((w_iload_n dMo_bake_30 rfl).trans (w_ifge (t := 43) dMo_bake_31 (by decide)))
theorem bMo_bake_34 {E : mEn} {d : Nat} {σ : mSt} {Q : mPost} {a1 : Int32} {a2 : Int32} : WP E (d + 1) mMo_bake 34 [.ref 166, .int a1, .int a2] [] σ Q = WP E d mMo_refuse 0 [.ref 166, .int (nI 9)] [] σ (fun r σ' => WP E (d + 1) mMo_bake 40 [.ref 166, .int a1, .int a2] (r.toList ++ []) σ' Q) := (w_aload_n dMo_bake_34 rfl).trans ((w_bipush (v := (nI 9)) dMo_bake_35 rfl).trans (w_virt (vs := [.int (nI 9)]) (st' := []) (es := [.ref 166, .int (nI 9)]) dMo_bake_37 rz11_329 rfl sh_166 rfl rfl rfl (Nat.le_of_ble_eq_true rfl) (Nat.le_of_ble_eq_true rfl) rfl))
theorem bMo_bake_40 {E : mEn} {d : Nat} {σ : mSt} {Q : mPost} {a1 : Int32} {a2 : Int32} {s0 : Int32} : WP E d mMo_bake 40 [.ref 166, .int a1, .int a2] [.int s0] σ Q = WP E d mMo_bake 44 [.ref 166, .int a1, .int a2] [.int s0] σ Q := w_goto (t := 44) dMo_bake_40 (by decide)
theorem bMo_bake_43 {E : mEn} {d : Nat} {σ : mSt} {Q : mPost} {a1 : Int32} {a2 : Int32} : WP E d mMo_bake 43 [.ref 166, .int a1, .int a2] [] σ Q = WP E d mMo_bake 44 [.ref 166, .int a1, .int a2] [.int a2] σ Q := w_iload_n dMo_bake_43 rfl
theorem bMo_bake_44 {E : mEn} {d : Nat} {σ : mSt} {Q : mPost} {a1 : Int32} {a2 : Int32} {s0 : Int32} : WP E d mMo_bake 44 [.ref 166, .int a1, .int a2] [.int s0] σ Q = Q (some (.int s0)) σ := w_iret dMo_bake_44 rfl
theorem dMo_bakes_0 : decode (mC mMo_bakes) 0 = .ok (.aload_n 0, 1) := by decide +kernel
theorem dMo_bakes_1 : decode (mC mMo_bakes) 1 = .ok (.iload_n 1, 1) := by decide +kernel
theorem dMo_bakes_2 : decode (mC mMo_bakes) 2 = .ok (.invokevirtual 405, 3) := by decide +kernel
theorem dMo_bakes_5 : decode (mC mMo_bakes) 5 = .ok (.ifCond .eq (21), 3) := by decide +kernel
theorem dMo_bakes_8 : decode (mC mMo_bakes) 8 = .ok (.aload_n 0, 1) := by decide +kernel
theorem dMo_bakes_9 : decode (mC mMo_bakes) 9 = .ok (.getfield 35, 3) := by decide +kernel
theorem dMo_bakes_12 : decode (mC mMo_bakes) 12 = .ok (.bipush (50), 2) := by decide +kernel
theorem dMo_bakes_14 : decode (mC mMo_bakes) 14 = .ok (.iload_n 1, 1) := by decide +kernel
theorem dMo_bakes_15 : decode (mC mMo_bakes) 15 = .ok (.iadd, 1) := by decide +kernel
theorem dMo_bakes_16 : decode (mC mMo_bakes) 16 = .ok (.iaload, 1) := by decide +kernel
theorem dMo_bakes_17 : decode (mC mMo_bakes) 17 = .ok (.aload_n 0, 1) := by decide +kernel
theorem dMo_bakes_18 : decode (mC mMo_bakes) 18 = .ok (.getfield 35, 3) := by decide +kernel
theorem dMo_bakes_21 : decode (mC mMo_bakes) 21 = .ok (.iconst (4), 1) := by decide +kernel
theorem dMo_bakes_22 : decode (mC mMo_bakes) 22 = .ok (.iaload, 1) := by decide +kernel
theorem dMo_bakes_23 : decode (mC mMo_bakes) 23 = .ok (.if_icmp .eq (5), 3) := by decide +kernel
theorem dMo_bakes_26 : decode (mC mMo_bakes) 26 = .ok (.iconst (-1), 1) := by decide +kernel
theorem dMo_bakes_27 : decode (mC mMo_bakes) 27 = .ok (.ireturn, 1) := by decide +kernel
theorem dMo_bakes_28 : decode (mC mMo_bakes) 28 = .ok (.aload_n 0, 1) := by decide +kernel
theorem dMo_bakes_29 : decode (mC mMo_bakes) 29 = .ok (.iload_n 1, 1) := by decide +kernel
theorem dMo_bakes_30 : decode (mC mMo_bakes) 30 = .ok (.invokevirtual 440, 3) := by decide +kernel
theorem dMo_bakes_33 : decode (mC mMo_bakes) 33 = .ok (.istore_n 2, 1) := by decide +kernel
theorem dMo_bakes_34 : decode (mC mMo_bakes) 34 = .ok (.aload_n 0, 1) := by decide +kernel
theorem dMo_bakes_35 : decode (mC mMo_bakes) 35 = .ok (.iload_n 1, 1) := by decide +kernel
theorem dMo_bakes_36 : decode (mC mMo_bakes) 36 = .ok (.iload_n 2, 1) := by decide +kernel
theorem dMo_bakes_37 : decode (mC mMo_bakes) 37 = .ok (.invokevirtual 378, 3) := by decide +kernel
theorem dMo_bakes_40 : decode (mC mMo_bakes) 40 = .ok (.istore_n 3, 1) := by decide +kernel
theorem dMo_bakes_41 : decode (mC mMo_bakes) 41 = .ok (.iconst (0), 1) := by decide +kernel
theorem dMo_bakes_42 : decode (mC mMo_bakes) 42 = .ok (.istore 4, 2) := by decide +kernel
theorem dMo_bakes_44 : decode (mC mMo_bakes) 44 = .ok (.iload 4, 2) := by decide +kernel
theorem dMo_bakes_46 : decode (mC mMo_bakes) 46 = .ok (.aload_n 0, 1) := by decide +kernel
theorem dMo_bakes_47 : decode (mC mMo_bakes) 47 = .ok (.getfield 35, 3) := by decide +kernel
theorem dMo_bakes_50 : decode (mC mMo_bakes) 50 = .ok (.iconst (0), 1) := by decide +kernel
theorem dMo_bakes_51 : decode (mC mMo_bakes) 51 = .ok (.iaload, 1) := by decide +kernel
theorem dMo_bakes_52 : decode (mC mMo_bakes) 52 = .ok (.if_icmp .ge (49), 3) := by decide +kernel
theorem dMo_bakes_55 : decode (mC mMo_bakes) 55 = .ok (.aload_n 0, 1) := by decide +kernel
theorem dMo_bakes_56 : decode (mC mMo_bakes) 56 = .ok (.getfield 35, 3) := by decide +kernel
theorem dMo_bakes_59 : decode (mC mMo_bakes) 59 = .ok (.bipush (14), 2) := by decide +kernel
theorem dMo_bakes_61 : decode (mC mMo_bakes) 61 = .ok (.iload 4, 2) := by decide +kernel
theorem dMo_bakes_63 : decode (mC mMo_bakes) 63 = .ok (.iadd, 1) := by decide +kernel
theorem dMo_bakes_64 : decode (mC mMo_bakes) 64 = .ok (.dup2, 1) := by decide +kernel
theorem dMo_bakes_65 : decode (mC mMo_bakes) 65 = .ok (.iaload, 1) := by decide +kernel
theorem dMo_bakes_66 : decode (mC mMo_bakes) 66 = .ok (.aload_n 0, 1) := by decide +kernel
theorem dMo_bakes_67 : decode (mC mMo_bakes) 67 = .ok (.getfield 50, 3) := by decide +kernel
theorem dMo_bakes_70 : decode (mC mMo_bakes) 70 = .ok (.iload 4, 2) := by decide +kernel
theorem dMo_bakes_72 : decode (mC mMo_bakes) 72 = .ok (.iaload, 1) := by decide +kernel
theorem dMo_bakes_73 : decode (mC mMo_bakes) 73 = .ok (.iadd, 1) := by decide +kernel
theorem dMo_bakes_74 : decode (mC mMo_bakes) 74 = .ok (.iastore, 1) := by decide +kernel
theorem dMo_bakes_75 : decode (mC mMo_bakes) 75 = .ok (.aload_n 0, 1) := by decide +kernel
theorem dMo_bakes_76 : decode (mC mMo_bakes) 76 = .ok (.getfield 35, 3) := by decide +kernel
theorem dMo_bakes_79 : decode (mC mMo_bakes) 79 = .ok (.bipush (22), 2) := by decide +kernel
theorem dMo_bakes_81 : decode (mC mMo_bakes) 81 = .ok (.iload 4, 2) := by decide +kernel
theorem dMo_bakes_83 : decode (mC mMo_bakes) 83 = .ok (.iadd, 1) := by decide +kernel
theorem dMo_bakes_84 : decode (mC mMo_bakes) 84 = .ok (.dup2, 1) := by decide +kernel
theorem dMo_bakes_85 : decode (mC mMo_bakes) 85 = .ok (.iaload, 1) := by decide +kernel
theorem dMo_bakes_86 : decode (mC mMo_bakes) 86 = .ok (.aload_n 0, 1) := by decide +kernel
theorem dMo_bakes_87 : decode (mC mMo_bakes) 87 = .ok (.iload 4, 2) := by decide +kernel
theorem dMo_bakes_89 : decode (mC mMo_bakes) 89 = .ok (.iload_n 1, 1) := by decide +kernel
theorem dMo_bakes_90 : decode (mC mMo_bakes) 90 = .ok (.invokevirtual 381, 3) := by decide +kernel
theorem dMo_bakes_93 : decode (mC mMo_bakes) 93 = .ok (.iadd, 1) := by decide +kernel
theorem dMo_bakes_94 : decode (mC mMo_bakes) 94 = .ok (.iastore, 1) := by decide +kernel
theorem dMo_bakes_95 : decode (mC mMo_bakes) 95 = .ok (.iinc 4 (1), 3) := by decide +kernel
theorem dMo_bakes_98 : decode (mC mMo_bakes) 98 = .ok (.goto (-54), 3) := by decide +kernel
theorem dMo_bakes_101 : decode (mC mMo_bakes) 101 = .ok (.aload_n 0, 1) := by decide +kernel
theorem dMo_bakes_102 : decode (mC mMo_bakes) 102 = .ok (.getfield 35, 3) := by decide +kernel
theorem dMo_bakes_105 : decode (mC mMo_bakes) 105 = .ok (.bipush (22), 2) := by decide +kernel
theorem dMo_bakes_107 : decode (mC mMo_bakes) 107 = .ok (.aload_n 0, 1) := by decide +kernel
theorem dMo_bakes_108 : decode (mC mMo_bakes) 108 = .ok (.getfield 35, 3) := by decide +kernel
theorem dMo_bakes_111 : decode (mC mMo_bakes) 111 = .ok (.bipush (34), 2) := by decide +kernel
theorem dMo_bakes_113 : decode (mC mMo_bakes) 113 = .ok (.iload_n 1, 1) := by decide +kernel
theorem dMo_bakes_114 : decode (mC mMo_bakes) 114 = .ok (.iadd, 1) := by decide +kernel
theorem dMo_bakes_115 : decode (mC mMo_bakes) 115 = .ok (.iaload, 1) := by decide +kernel
theorem dMo_bakes_116 : decode (mC mMo_bakes) 116 = .ok (.iadd, 1) := by decide +kernel
theorem dMo_bakes_117 : decode (mC mMo_bakes) 117 = .ok (.dup2, 1) := by decide +kernel
theorem dMo_bakes_118 : decode (mC mMo_bakes) 118 = .ok (.iaload, 1) := by decide +kernel
theorem dMo_bakes_119 : decode (mC mMo_bakes) 119 = .ok (.iload_n 3, 1) := by decide +kernel
theorem dMo_bakes_120 : decode (mC mMo_bakes) 120 = .ok (.iadd, 1) := by decide +kernel
theorem dMo_bakes_121 : decode (mC mMo_bakes) 121 = .ok (.iastore, 1) := by decide +kernel
theorem dMo_bakes_122 : decode (mC mMo_bakes) 122 = .ok (.aload_n 0, 1) := by decide +kernel
theorem dMo_bakes_123 : decode (mC mMo_bakes) 123 = .ok (.getfield 35, 3) := by decide +kernel
theorem dMo_bakes_126 : decode (mC mMo_bakes) 126 = .ok (.bipush (74), 2) := by decide +kernel
theorem dMo_bakes_128 : decode (mC mMo_bakes) 128 = .ok (.iload_n 1, 1) := by decide +kernel
theorem dMo_bakes_129 : decode (mC mMo_bakes) 129 = .ok (.iadd, 1) := by decide +kernel
theorem dMo_bakes_130 : decode (mC mMo_bakes) 130 = .ok (.aload_n 0, 1) := by decide +kernel
theorem dMo_bakes_131 : decode (mC mMo_bakes) 131 = .ok (.iload_n 1, 1) := by decide +kernel
theorem dMo_bakes_132 : decode (mC mMo_bakes) 132 = .ok (.iload_n 2, 1) := by decide +kernel
theorem dMo_bakes_133 : decode (mC mMo_bakes) 133 = .ok (.invokevirtual 363, 3) := by decide +kernel
theorem dMo_bakes_136 : decode (mC mMo_bakes) 136 = .ok (.iastore, 1) := by decide +kernel
theorem dMo_bakes_137 : decode (mC mMo_bakes) 137 = .ok (.aload_n 0, 1) := by decide +kernel
theorem dMo_bakes_138 : decode (mC mMo_bakes) 138 = .ok (.getfield 35, 3) := by decide +kernel
theorem dMo_bakes_141 : decode (mC mMo_bakes) 141 = .ok (.bipush (74), 2) := by decide +kernel
theorem dMo_bakes_143 : decode (mC mMo_bakes) 143 = .ok (.iload_n 1, 1) := by decide +kernel
theorem dMo_bakes_144 : decode (mC mMo_bakes) 144 = .ok (.iadd, 1) := by decide +kernel
theorem dMo_bakes_145 : decode (mC mMo_bakes) 145 = .ok (.iaload, 1) := by decide +kernel
theorem dMo_bakes_146 : decode (mC mMo_bakes) 146 = .ok (.ireturn, 1) := by decide +kernel
theorem bMo_bakes_0 {E : mEn} {d : Nat} {σ : mSt} {Q : mPost} {a1 : Int32} {u2 : Value} {u3 : Value} {u4 : Value} : WP E (d + 1) mMo_bakes 0 [.ref 166, .int a1, u2, u3, u4] [] σ Q = WP E d mMo_isOpen 0 [.ref 166, .int a1] [] σ (fun r σ' => WP E (d + 1) mMo_bakes 5 [.ref 166, .int a1, u2, u3, u4] (r.toList ++ []) σ' Q) := (w_aload_n dMo_bakes_0 rfl).trans ((w_iload_n dMo_bakes_1 rfl).trans (w_virt (vs := [.int a1]) (st' := []) (es := [.ref 166, .int a1]) dMo_bakes_2 rz11_405 rfl sh_166 rfl rfl rfl (Nat.le_of_ble_eq_true rfl) (Nat.le_of_ble_eq_true rfl) rfl))
theorem bMo_bakes_5 {E : mEn} {d : Nat} {σ : mSt} {Q : mPost} {a1 : Int32} {u2 : Value} {u3 : Value} {u4 : Value} {s0 : Int32} : WP E d mMo_bakes 5 [.ref 166, .int a1, u2, u3, u4] [.int s0] σ Q = (if s0 = 0 then WP E d mMo_bakes 26 [.ref 166, .int a1, u2, u3, u4] [] σ Q else WP E d mMo_bakes 8 [.ref 166, .int a1, u2, u3, u4] [] σ Q) := w_ifeq (t := 26) dMo_bakes_5 (by decide)
theorem bMo_bakes_8 {E : mEn} {d : Nat} {σ : mSt} {Q : mPost} {a1 : Int32} {u2 : Value} {u3 : Value} {u4 : Value} : WP E d mMo_bakes 8 [.ref 166, .int a1, u2, u3, u4] [] σ Q = (if mOut ((nI 50) + a1) 3000 = true then False else (if mOut (nI 4) 3000 = true then False else (if (σ.1 171 ((nI 50) + a1).toNatClampNeg) = (σ.1 171 4) then WP E d mMo_bakes 28 [.ref 166, .int a1, u2, u3, u4] [] σ Q else WP E d mMo_bakes 26 [.ref 166, .int a1, u2, u3, u4] [] σ Q))) := (w_aload_n dMo_bakes_8 rfl).trans ((w_getr (r := 171) dMo_bakes_9 rz11_35 sh_166 rfl).trans ((w_bipush (v := (nI 50)) dMo_bakes_12 rfl).trans ((w_iload_n dMo_bakes_14 rfl).trans ((w_iadd dMo_bakes_15).trans ((w_iald dMo_bakes_16 sh_171 (by decide)).trans (ite_c ((w_aload_n dMo_bakes_17 rfl).trans ((w_getr (r := 171) dMo_bakes_18 rz11_35 sh_166 rfl).trans ((w_iconst (v := (nI 4)) dMo_bakes_21 rfl).trans ((w_iald dMo_bakes_22 sh_171 (by decide)).trans (ite_c (w_icmpeq (t := 28) dMo_bakes_23 (by decide)))))))))))))
theorem bMo_bakes_26 {E : mEn} {d : Nat} {σ : mSt} {Q : mPost} {a1 : Int32} {u2 : Value} {u3 : Value} {u4 : Value} : WP E d mMo_bakes 26 [.ref 166, .int a1, u2, u3, u4] [] σ Q = Q (some (.int (-1))) σ := (w_iconst (v := (-1)) dMo_bakes_26 rfl).trans (w_iret dMo_bakes_27 rfl)
theorem bMo_bakes_28 {E : mEn} {d : Nat} {σ : mSt} {Q : mPost} {a1 : Int32} {u2 : Value} {u3 : Value} {u4 : Value} : WP E (d + 1) mMo_bakes 28 [.ref 166, .int a1, u2, u3, u4] [] σ Q = WP E d mMo_isWetOven 0 [.ref 166, .int a1] [] σ (fun r σ' => WP E (d + 1) mMo_bakes 33 [.ref 166, .int a1, u2, u3, u4] (r.toList ++ []) σ' Q) := (w_aload_n dMo_bakes_28 rfl).trans ((w_iload_n dMo_bakes_29 rfl).trans (w_virt (vs := [.int a1]) (st' := []) (es := [.ref 166, .int a1]) dMo_bakes_30 rz11_440 rfl sh_166 rfl rfl rfl (Nat.le_of_ble_eq_true rfl) (Nat.le_of_ble_eq_true rfl) rfl))
theorem bMo_bakes_33 {E : mEn} {d : Nat} {σ : mSt} {Q : mPost} {a1 : Int32} {u2 : Value} {u3 : Value} {u4 : Value} {s0 : Int32} : WP E (d + 1) mMo_bakes 33 [.ref 166, .int a1, u2, u3, u4] [.int s0] σ Q = WP E d mMo_unmet 0 [.ref 166, .int a1, .int s0, uu, uu] [] σ (fun r σ' => WP E (d + 1) mMo_bakes 40 [.ref 166, .int a1, .int s0, u3, u4] (r.toList ++ []) σ' Q) := (w_istore_n (ls' := [.ref 166, .int a1, .int s0, u3, u4]) dMo_bakes_33 (Nat.le_of_ble_eq_true rfl) rfl).trans ((w_aload_n dMo_bakes_34 rfl).trans ((w_iload_n dMo_bakes_35 rfl).trans ((w_iload_n dMo_bakes_36 rfl).trans (w_virt (vs := [.int a1, .int s0]) (st' := []) (es := [.ref 166, .int a1, .int s0, uu, uu]) dMo_bakes_37 rz11_378 rfl sh_166 rfl rfl rfl (Nat.le_of_ble_eq_true rfl) (Nat.le_of_ble_eq_true rfl) rfl))))
theorem bMo_bakes_40 {E : mEn} {d : Nat} {σ : mSt} {Q : mPost} {a1 : Int32} {a2 : Int32} {u3 : Value} {u4 : Value} {s0 : Int32} : WP E d mMo_bakes 40 [.ref 166, .int a1, .int a2, u3, u4] [.int s0] σ Q = WP E d mMo_bakes 44 [.ref 166, .int a1, .int a2, .int s0, .int 0] [] σ Q := (w_istore_n (ls' := [.ref 166, .int a1, .int a2, .int s0, u4]) dMo_bakes_40 (Nat.le_of_ble_eq_true rfl) rfl).trans ((w_iconst (v := 0) dMo_bakes_41 rfl).trans (w_istore (ls' := [.ref 166, .int a1, .int a2, .int s0, .int 0]) dMo_bakes_42 (Nat.le_of_ble_eq_true rfl) rfl))
theorem bMo_bakes_44 {E : mEn} {d : Nat} {σ : mSt} {Q : mPost} {a1 : Int32} {a2 : Int32} {a3 : Int32} {a4 : Int32} : WP E d mMo_bakes 44 [.ref 166, .int a1, .int a2, .int a3, .int a4] [] σ Q = (if mOut 0 3000 = true then False else (if (σ.1 171 0) ≤ a4 then WP E d mMo_bakes 101 [.ref 166, .int a1, .int a2, .int a3, .int a4] [] σ Q else WP E d mMo_bakes 55 [.ref 166, .int a1, .int a2, .int a3, .int a4] [] σ Q)) := (w_iload dMo_bakes_44 rfl).trans ((w_aload_n dMo_bakes_46 rfl).trans ((w_getr (r := 171) dMo_bakes_47 rz11_35 sh_166 rfl).trans ((w_iconst (v := 0) dMo_bakes_50 rfl).trans ((w_iald dMo_bakes_51 sh_171 (by decide)).trans (ite_c (w_icmpge (t := 101) dMo_bakes_52 (by decide)))))))
theorem bMo_bakes_55 {E : mEn} {d : Nat} {σ : mSt} {Q : mPost} {a1 : Int32} {a2 : Int32} {a3 : Int32} {a4 : Int32} : WP E (d + 1) mMo_bakes 55 [.ref 166, .int a1, .int a2, .int a3, .int a4] [] σ Q = (if mOut ((nI 14) + a4) 3000 = true then False else (if mOut a4 8 = true then False else (if mOut ((nI 14) + a4) 3000 = true then False else (if mOut ((nI 22) + a4) 3000 = true then False else WP E d mMo_owesOf 0 [.ref 166, .int a4, .int a1] [] (sI σ 171 ((nI 14) + a4).toNatClampNeg ((σ.1 171 ((nI 14) + a4).toNatClampNeg) + (σ.1 176 a4.toNatClampNeg))) (fun r σ' => WP E (d + 1) mMo_bakes 93 [.ref 166, .int a1, .int a2, .int a3, .int a4] (r.toList ++ [.int ((sI σ 171 ((nI 14) + a4).toNatClampNeg ((σ.1 171 ((nI 14) + a4).toNatClampNeg) + (σ.1 176 a4.toNatClampNeg))).1 171 ((nI 22) + a4).toNatClampNeg), .int ((nI 22) + a4), .ref 171]) σ' Q))))) := (w_aload_n dMo_bakes_55 rfl).trans ((w_getr (r := 171) dMo_bakes_56 rz11_35 sh_166 rfl).trans ((w_bipush (v := (nI 14)) dMo_bakes_59 rfl).trans ((w_iload dMo_bakes_61 rfl).trans ((w_iadd dMo_bakes_63).trans ((w_dup2 dMo_bakes_64 rfl rfl).trans ((w_iald dMo_bakes_65 sh_171 (by decide)).trans (ite_c ((w_aload_n dMo_bakes_66 rfl).trans ((w_getr (r := 176) dMo_bakes_67 rz11_50 sh_166 rfl).trans ((w_iload dMo_bakes_70 rfl).trans ((w_iald dMo_bakes_72 sh_176 (by decide)).trans (ite_c ((w_iadd dMo_bakes_73).trans ((w_iast dMo_bakes_74 sh_171).trans (ite_c ((w_aload_n dMo_bakes_75 rfl).trans ((w_getr (r := 171) dMo_bakes_76 rz11_35 sh_166 rfl).trans ((w_bipush (v := (nI 22)) dMo_bakes_79 rfl).trans ((w_iload dMo_bakes_81 rfl).trans ((w_iadd dMo_bakes_83).trans ((w_dup2 dMo_bakes_84 rfl rfl).trans ((w_iald dMo_bakes_85 sh_171 (by decide)).trans (ite_c ((w_aload_n dMo_bakes_86 rfl).trans ((w_iload dMo_bakes_87 rfl).trans ((w_iload_n dMo_bakes_89 rfl).trans (w_virt (vs := [.int a4, .int a1]) (st' := [.int ((sI σ 171 ((nI 14) + a4).toNatClampNeg ((σ.1 171 ((nI 14) + a4).toNatClampNeg) + (σ.1 176 a4.toNatClampNeg))).1 171 ((nI 22) + a4).toNatClampNeg), .int ((nI 22) + a4), .ref 171]) (es := [.ref 166, .int a4, .int a1]) dMo_bakes_90 rz11_381 rfl sh_166 rfl rfl rfl (Nat.le_of_ble_eq_true rfl) (Nat.le_of_ble_eq_true rfl) rfl)))))))))))))))))))))))))))
theorem bMo_bakes_93 {E : mEn} {d : Nat} {σ : mSt} {Q : mPost} {a1 : Int32} {a2 : Int32} {a3 : Int32} {a4 : Int32} {s0 : Int32} {s1 : Int32} {s2 : Int32} : WP E d mMo_bakes 93 [.ref 166, .int a1, .int a2, .int a3, .int a4] [.int s0, .int s1, .int s2, .ref 171] σ Q = (if mOut s2 3000 = true then False else WP E d mMo_bakes 44 [.ref 166, .int a1, .int a2, .int a3, .int (a4 + 1)] [] (sI σ 171 s2.toNatClampNeg (s1 + s0)) Q) := (w_iadd dMo_bakes_93).trans ((w_iast dMo_bakes_94 sh_171).trans (ite_c ((w_iinc (v := 1) (ls' := [.ref 166, .int a1, .int a2, .int a3, .int (a4 + 1)]) dMo_bakes_95 rfl rfl rfl).trans (w_goto (t := 44) dMo_bakes_98 (by decide)))))
theorem bMo_bakes_101 {E : mEn} {d : Nat} {σ : mSt} {Q : mPost} {a1 : Int32} {a2 : Int32} {a3 : Int32} {a4 : Int32} : WP E d mMo_bakes 101 [.ref 166, .int a1, .int a2, .int a3, .int a4] [] σ Q = (if mOut ((nI 34) + a1) 3000 = true then False else (if mOut ((nI 22) + (σ.1 171 ((nI 34) + a1).toNatClampNeg)) 3000 = true then False else (if mOut ((nI 22) + (σ.1 171 ((nI 34) + a1).toNatClampNeg)) 3000 = true then False else WP E d mMo_bakes 122 [.ref 166, .int a1, .int a2, .int a3, .int a4] [] (sI σ 171 ((nI 22) + (σ.1 171 ((nI 34) + a1).toNatClampNeg)).toNatClampNeg ((σ.1 171 ((nI 22) + (σ.1 171 ((nI 34) + a1).toNatClampNeg)).toNatClampNeg) + a3)) Q))) := (w_aload_n dMo_bakes_101 rfl).trans ((w_getr (r := 171) dMo_bakes_102 rz11_35 sh_166 rfl).trans ((w_bipush (v := (nI 22)) dMo_bakes_105 rfl).trans ((w_aload_n dMo_bakes_107 rfl).trans ((w_getr (r := 171) dMo_bakes_108 rz11_35 sh_166 rfl).trans ((w_bipush (v := (nI 34)) dMo_bakes_111 rfl).trans ((w_iload_n dMo_bakes_113 rfl).trans ((w_iadd dMo_bakes_114).trans ((w_iald dMo_bakes_115 sh_171 (by decide)).trans (ite_c ((w_iadd dMo_bakes_116).trans ((w_dup2 dMo_bakes_117 rfl rfl).trans ((w_iald dMo_bakes_118 sh_171 (by decide)).trans (ite_c ((w_iload_n dMo_bakes_119 rfl).trans ((w_iadd dMo_bakes_120).trans ((w_iast dMo_bakes_121 sh_171).trans (ite_c (rfl))))))))))))))))))
theorem bMo_bakes_122 {E : mEn} {d : Nat} {σ : mSt} {Q : mPost} {a1 : Int32} {a2 : Int32} {a3 : Int32} {a4 : Int32} : WP E (d + 1) mMo_bakes 122 [.ref 166, .int a1, .int a2, .int a3, .int a4] [] σ Q = WP E d mMo_comes 0 [.ref 166, .int a1, .int a2] [] σ (fun r σ' => WP E (d + 1) mMo_bakes 136 [.ref 166, .int a1, .int a2, .int a3, .int a4] (r.toList ++ [.int ((nI 74) + a1), .ref 171]) σ' Q) := (w_aload_n dMo_bakes_122 rfl).trans ((w_getr (r := 171) dMo_bakes_123 rz11_35 sh_166 rfl).trans ((w_bipush (v := (nI 74)) dMo_bakes_126 rfl).trans ((w_iload_n dMo_bakes_128 rfl).trans ((w_iadd dMo_bakes_129).trans ((w_aload_n dMo_bakes_130 rfl).trans ((w_iload_n dMo_bakes_131 rfl).trans ((w_iload_n dMo_bakes_132 rfl).trans (w_virt (vs := [.int a1, .int a2]) (st' := [.int ((nI 74) + a1), .ref 171]) (es := [.ref 166, .int a1, .int a2]) dMo_bakes_133 rz11_363 rfl sh_166 rfl rfl rfl (Nat.le_of_ble_eq_true rfl) (Nat.le_of_ble_eq_true rfl) rfl))))))))
theorem bMo_bakes_136 {E : mEn} {d : Nat} {σ : mSt} {Q : mPost} {a1 : Int32} {a2 : Int32} {a3 : Int32} {a4 : Int32} {s0 : Int32} {s1 : Int32} : WP E d mMo_bakes 136 [.ref 166, .int a1, .int a2, .int a3, .int a4] [.int s0, .int s1, .ref 171] σ Q = (if mOut s1 3000 = true then False else (if mOut ((nI 74) + a1) 3000 = true then False else Q (some (.int ((sI σ 171 s1.toNatClampNeg s0).1 171 ((nI 74) + a1).toNatClampNeg))) (sI σ 171 s1.toNatClampNeg s0))) := (w_iast dMo_bakes_136 sh_171).trans (ite_c ((w_aload_n dMo_bakes_137 rfl).trans ((w_getr (r := 171) dMo_bakes_138 rz11_35 sh_166 rfl).trans ((w_bipush (v := (nI 74)) dMo_bakes_141 rfl).trans ((w_iload_n dMo_bakes_143 rfl).trans ((w_iadd dMo_bakes_144).trans ((w_iald dMo_bakes_145 sh_171 (by decide)).trans (ite_c (w_iret dMo_bakes_146 rfl)))))))))
theorem dMo_isWetOven_0 : decode (mC mMo_isWetOven) 0 = .ok (.aload_n 0, 1) := by decide +kernel
theorem dMo_isWetOven_1 : decode (mC mMo_isWetOven) 1 = .ok (.getfield 35, 3) := by decide +kernel
theorem dMo_isWetOven_4 : decode (mC mMo_isWetOven) 4 = .ok (.iconst (5), 1) := by decide +kernel
theorem dMo_isWetOven_5 : decode (mC mMo_isWetOven) 5 = .ok (.iaload, 1) := by decide +kernel
theorem dMo_isWetOven_6 : decode (mC mMo_isWetOven) 6 = .ok (.aload_n 0, 1) := by decide +kernel
theorem dMo_isWetOven_7 : decode (mC mMo_isWetOven) 7 = .ok (.getfield 35, 3) := by decide +kernel
theorem dMo_isWetOven_10 : decode (mC mMo_isWetOven) 10 = .ok (.bipush (42), 2) := by decide +kernel
theorem dMo_isWetOven_12 : decode (mC mMo_isWetOven) 12 = .ok (.iload_n 1, 1) := by decide +kernel
theorem dMo_isWetOven_13 : decode (mC mMo_isWetOven) 13 = .ok (.iadd, 1) := by decide +kernel
theorem dMo_isWetOven_14 : decode (mC mMo_isWetOven) 14 = .ok (.iaload, 1) := by decide +kernel
theorem dMo_isWetOven_15 : decode (mC mMo_isWetOven) 15 = .ok (.invokestatic 393, 3) := by decide +kernel
theorem dMo_isWetOven_18 : decode (mC mMo_isWetOven) 18 = .ok (.ireturn, 1) := by decide +kernel
theorem bMo_isWetOven_0 {E : mEn} {d : Nat} {σ : mSt} {Q : mPost} {a1 : Int32} : WP E (d + 1) mMo_isWetOven 0 [.ref 166, .int a1] [] σ Q = (if mOut (nI 5) 3000 = true then False else (if mOut ((nI 42) + a1) 3000 = true then False else WP E d mMo_has 0 [.int (σ.1 171 5), .int (σ.1 171 ((nI 42) + a1).toNatClampNeg)] [] σ (fun r σ' => WP E (d + 1) mMo_isWetOven 18 [.ref 166, .int a1] (r.toList ++ []) σ' Q))) := (w_aload_n dMo_isWetOven_0 rfl).trans ((w_getr (r := 171) dMo_isWetOven_1 rz11_35 sh_166 rfl).trans ((w_iconst (v := (nI 5)) dMo_isWetOven_4 rfl).trans ((w_iald dMo_isWetOven_5 sh_171 (by decide)).trans (ite_c ((w_aload_n dMo_isWetOven_6 rfl).trans ((w_getr (r := 171) dMo_isWetOven_7 rz11_35 sh_166 rfl).trans ((w_bipush (v := (nI 42)) dMo_isWetOven_10 rfl).trans ((w_iload_n dMo_isWetOven_12 rfl).trans ((w_iadd dMo_isWetOven_13).trans ((w_iald dMo_isWetOven_14 sh_171 (by decide)).trans (ite_c (w_stat (vs := [.int (σ.1 171 5), .int (σ.1 171 ((nI 42) + a1).toNatClampNeg)]) (st' := []) (es := [.int (σ.1 171 5), .int (σ.1 171 ((nI 42) + a1).toNatClampNeg)]) dMo_isWetOven_15 rz11_393 rfl rfl rfl (Nat.le_of_ble_eq_true rfl) (Nat.le_of_ble_eq_true rfl) rfl))))))))))))
theorem bMo_isWetOven_18 {E : mEn} {d : Nat} {σ : mSt} {Q : mPost} {a1 : Int32} {s0 : Int32} (hz0 : s0 = 0 ∨ s0 = 1) : WP E d mMo_isWetOven 18 [.ref 166, .int a1] [.int s0] σ Q = Q (some (.int s0)) σ := w_zret dMo_isWetOven_18 rfl hz0
theorem dMo_pass_0 : decode (mC mMo_pass) 0 = .ok (.aload_n 0, 1) := by decide +kernel
theorem dMo_pass_1 : decode (mC mMo_pass) 1 = .ok (.iconst (0), 1) := by decide +kernel
theorem dMo_pass_2 : decode (mC mMo_pass) 2 = .ok (.putfield 74, 3) := by decide +kernel
theorem dMo_pass_5 : decode (mC mMo_pass) 5 = .ok (.aload_n 0, 1) := by decide +kernel
theorem dMo_pass_6 : decode (mC mMo_pass) 6 = .ok (.iconst (0), 1) := by decide +kernel
theorem dMo_pass_7 : decode (mC mMo_pass) 7 = .ok (.putfield 77, 3) := by decide +kernel
theorem dMo_pass_10 : decode (mC mMo_pass) 10 = .ok (.iload_n 1, 1) := by decide +kernel
theorem dMo_pass_11 : decode (mC mMo_pass) 11 = .ok (.i2l, 1) := by decide +kernel
theorem dMo_pass_12 : decode (mC mMo_pass) 12 = .ok (.lconst 1, 1) := by decide +kernel
theorem dMo_pass_13 : decode (mC mMo_pass) 13 = .ok (.ldc2_w 446, 3) := by decide +kernel
theorem dMo_pass_16 : decode (mC mMo_pass) 16 = .ok (.invokestatic 109, 3) := by decide +kernel
theorem dMo_pass_19 : decode (mC mMo_pass) 19 = .ok (.ifCond .ne (9), 3) := by decide +kernel
theorem dMo_pass_22 : decode (mC mMo_pass) 22 = .ok (.aload_n 0, 1) := by decide +kernel
theorem dMo_pass_23 : decode (mC mMo_pass) 23 = .ok (.iconst (5), 1) := by decide +kernel
theorem dMo_pass_24 : decode (mC mMo_pass) 24 = .ok (.invokevirtual 329, 3) := by decide +kernel
theorem dMo_pass_27 : decode (mC mMo_pass) 27 = .ok (.ireturn, 1) := by decide +kernel
theorem dMo_pass_28 : decode (mC mMo_pass) 28 = .ok (.aload_n 0, 1) := by decide +kernel
theorem dMo_pass_29 : decode (mC mMo_pass) 29 = .ok (.getfield 35, 3) := by decide +kernel
theorem dMo_pass_32 : decode (mC mMo_pass) 32 = .ok (.iconst (4), 1) := by decide +kernel
theorem dMo_pass_33 : decode (mC mMo_pass) 33 = .ok (.iaload, 1) := by decide +kernel
theorem dMo_pass_34 : decode (mC mMo_pass) 34 = .ok (.iload_n 1, 1) := by decide +kernel
theorem dMo_pass_35 : decode (mC mMo_pass) 35 = .ok (.iadd, 1) := by decide +kernel
theorem dMo_pass_36 : decode (mC mMo_pass) 36 = .ok (.bipush (99), 2) := by decide +kernel
theorem dMo_pass_38 : decode (mC mMo_pass) 38 = .ok (.if_icmp .le (10), 3) := by decide +kernel
theorem dMo_pass_41 : decode (mC mMo_pass) 41 = .ok (.aload_n 0, 1) := by decide +kernel
theorem dMo_pass_42 : decode (mC mMo_pass) 42 = .ok (.bipush (7), 2) := by decide +kernel
theorem dMo_pass_44 : decode (mC mMo_pass) 44 = .ok (.invokevirtual 329, 3) := by decide +kernel
theorem dMo_pass_47 : decode (mC mMo_pass) 47 = .ok (.ireturn, 1) := by decide +kernel
theorem dMo_pass_48 : decode (mC mMo_pass) 48 = .ok (.aload_n 0, 1) := by decide +kernel
theorem dMo_pass_49 : decode (mC mMo_pass) 49 = .ok (.getfield 35, 3) := by decide +kernel
theorem dMo_pass_52 : decode (mC mMo_pass) 52 = .ok (.iconst (4), 1) := by decide +kernel
theorem dMo_pass_53 : decode (mC mMo_pass) 53 = .ok (.dup2, 1) := by decide +kernel
theorem dMo_pass_54 : decode (mC mMo_pass) 54 = .ok (.iaload, 1) := by decide +kernel
theorem dMo_pass_55 : decode (mC mMo_pass) 55 = .ok (.iload_n 1, 1) := by decide +kernel
theorem dMo_pass_56 : decode (mC mMo_pass) 56 = .ok (.iadd, 1) := by decide +kernel
theorem dMo_pass_57 : decode (mC mMo_pass) 57 = .ok (.iastore, 1) := by decide +kernel
theorem dMo_pass_58 : decode (mC mMo_pass) 58 = .ok (.aload_n 0, 1) := by decide +kernel
theorem dMo_pass_59 : decode (mC mMo_pass) 59 = .ok (.getfield 35, 3) := by decide +kernel
theorem dMo_pass_62 : decode (mC mMo_pass) 62 = .ok (.iconst (5), 1) := by decide +kernel
theorem dMo_pass_63 : decode (mC mMo_pass) 63 = .ok (.iconst (0), 1) := by decide +kernel
theorem dMo_pass_64 : decode (mC mMo_pass) 64 = .ok (.iastore, 1) := by decide +kernel
theorem dMo_pass_65 : decode (mC mMo_pass) 65 = .ok (.aload_n 0, 1) := by decide +kernel
theorem dMo_pass_66 : decode (mC mMo_pass) 66 = .ok (.getfield 35, 3) := by decide +kernel
theorem dMo_pass_69 : decode (mC mMo_pass) 69 = .ok (.iconst (4), 1) := by decide +kernel
theorem dMo_pass_70 : decode (mC mMo_pass) 70 = .ok (.iaload, 1) := by decide +kernel
theorem dMo_pass_71 : decode (mC mMo_pass) 71 = .ok (.ireturn, 1) := by decide +kernel
theorem bMo_pass_0 {E : mEn} {d : Nat} {σ : mSt} {Q : mPost} {a1 : Int32} : WP E (d + 1) mMo_pass 0 [.ref 166, .int a1] [] σ Q = WP E d mMo_isIn 0 [.long (a1.toInt64), uu, .long 1, uu, .long (9), uu] [] (sI (sI σ 166 1 0) 166 0 0) (fun r σ' => WP E (d + 1) mMo_pass 19 [.ref 166, .int a1] (r.toList ++ []) σ' Q) := (w_aload_n dMo_pass_0 rfl).trans ((w_iconst (v := 0) dMo_pass_1 rfl).trans ((w_puti dMo_pass_2 rz11_74 sh_166 rfl rfl rfl).trans ((w_aload_n dMo_pass_5 rfl).trans ((w_iconst (v := 0) dMo_pass_6 rfl).trans ((w_puti dMo_pass_7 rz11_77 sh_166 rfl rfl rfl).trans ((w_iload_n dMo_pass_10 rfl).trans ((w_i2l dMo_pass_11).trans ((w_lconst (v := 1) dMo_pass_12 rfl).trans ((w_ldc2_w dMo_pass_13 rz11_446).trans (w_stat (vs := [.long (a1.toInt64), .long 1, .long (9)]) (st' := []) (es := [.long (a1.toInt64), uu, .long 1, uu, .long (9), uu]) dMo_pass_16 rz11_109 rfl rfl rfl (Nat.le_of_ble_eq_true rfl) (Nat.le_of_ble_eq_true rfl) rfl))))))))))
theorem bMo_pass_19 {E : mEn} {d : Nat} {σ : mSt} {Q : mPost} {a1 : Int32} {s0 : Int32} : WP E d mMo_pass 19 [.ref 166, .int a1] [.int s0] σ Q = (if ¬ s0 = 0 then WP E d mMo_pass 28 [.ref 166, .int a1] [] σ Q else WP E d mMo_pass 22 [.ref 166, .int a1] [] σ Q) := w_ifne (t := 28) dMo_pass_19 (by decide)
theorem bMo_pass_22 {E : mEn} {d : Nat} {σ : mSt} {Q : mPost} {a1 : Int32} : WP E (d + 1) mMo_pass 22 [.ref 166, .int a1] [] σ Q = WP E d mMo_refuse 0 [.ref 166, .int (nI 5)] [] σ (fun r σ' => WP E (d + 1) mMo_pass 27 [.ref 166, .int a1] (r.toList ++ []) σ' Q) := (w_aload_n dMo_pass_22 rfl).trans ((w_iconst (v := (nI 5)) dMo_pass_23 rfl).trans (w_virt (vs := [.int (nI 5)]) (st' := []) (es := [.ref 166, .int (nI 5)]) dMo_pass_24 rz11_329 rfl sh_166 rfl rfl rfl (Nat.le_of_ble_eq_true rfl) (Nat.le_of_ble_eq_true rfl) rfl))
theorem bMo_pass_27 {E : mEn} {d : Nat} {σ : mSt} {Q : mPost} {a1 : Int32} {s0 : Int32} : WP E d mMo_pass 27 [.ref 166, .int a1] [.int s0] σ Q = Q (some (.int s0)) σ := w_iret dMo_pass_27 rfl
theorem bMo_pass_28 {E : mEn} {d : Nat} {σ : mSt} {Q : mPost} {a1 : Int32} : WP E d mMo_pass 28 [.ref 166, .int a1] [] σ Q = (if mOut (nI 4) 3000 = true then False else (if ((σ.1 171 4) + a1) ≤ (nI 99) then WP E d mMo_pass 48 [.ref 166, .int a1] [] σ Q else WP E d mMo_pass 41 [.ref 166, .int a1] [] σ Q)) := (w_aload_n dMo_pass_28 rfl).trans ((w_getr (r := 171) dMo_pass_29 rz11_35 sh_166 rfl).trans ((w_iconst (v := (nI 4)) dMo_pass_32 rfl).trans ((w_iald dMo_pass_33 sh_171 (by decide)).trans (ite_c ((w_iload_n dMo_pass_34 rfl).trans ((w_iadd dMo_pass_35).trans ((w_bipush (v := (nI 99)) dMo_pass_36 rfl).trans (w_icmple (t := 48) dMo_pass_38 (by decide)))))))))
theorem bMo_pass_41 {E : mEn} {d : Nat} {σ : mSt} {Q : mPost} {a1 : Int32} : WP E (d + 1) mMo_pass 41 [.ref 166, .int a1] [] σ Q = WP E d mMo_refuse 0 [.ref 166, .int (nI 7)] [] σ (fun r σ' => WP E (d + 1) mMo_pass 47 [.ref 166, .int a1] (r.toList ++ []) σ' Q) := (w_aload_n dMo_pass_41 rfl).trans ((w_bipush (v := (nI 7)) dMo_pass_42 rfl).trans (w_virt (vs := [.int (nI 7)]) (st' := []) (es := [.ref 166, .int (nI 7)]) dMo_pass_44 rz11_329 rfl sh_166 rfl rfl rfl (Nat.le_of_ble_eq_true rfl) (Nat.le_of_ble_eq_true rfl) rfl))
theorem bMo_pass_47 {E : mEn} {d : Nat} {σ : mSt} {Q : mPost} {a1 : Int32} {s0 : Int32} : WP E d mMo_pass 47 [.ref 166, .int a1] [.int s0] σ Q = Q (some (.int s0)) σ := w_iret dMo_pass_47 rfl
theorem bMo_pass_48 {E : mEn} {d : Nat} {σ : mSt} {Q : mPost} {a1 : Int32} : WP E d mMo_pass 48 [.ref 166, .int a1] [] σ Q = (if mOut (nI 4) 3000 = true then False else (if mOut (nI 4) 3000 = true then False else (if mOut (nI 5) 3000 = true then False else (if mOut (nI 4) 3000 = true then False else Q (some (.int ((sI (sI σ 171 4 ((σ.1 171 4) + a1)) 171 5 0).1 171 4))) (sI (sI σ 171 4 ((σ.1 171 4) + a1)) 171 5 0))))) := (w_aload_n dMo_pass_48 rfl).trans ((w_getr (r := 171) dMo_pass_49 rz11_35 sh_166 rfl).trans ((w_iconst (v := (nI 4)) dMo_pass_52 rfl).trans ((w_dup2 dMo_pass_53 rfl rfl).trans ((w_iald dMo_pass_54 sh_171 (by decide)).trans (ite_c ((w_iload_n dMo_pass_55 rfl).trans ((w_iadd dMo_pass_56).trans ((w_iast dMo_pass_57 sh_171).trans (ite_c ((w_aload_n dMo_pass_58 rfl).trans ((w_getr (r := 171) dMo_pass_59 rz11_35 sh_166 rfl).trans ((w_iconst (v := (nI 5)) dMo_pass_62 rfl).trans ((w_iconst (v := 0) dMo_pass_63 rfl).trans ((w_iast dMo_pass_64 sh_171).trans (ite_c ((w_aload_n dMo_pass_65 rfl).trans ((w_getr (r := 171) dMo_pass_66 rz11_35 sh_166 rfl).trans ((w_iconst (v := (nI 4)) dMo_pass_69 rfl).trans ((w_iald dMo_pass_70 sh_171 (by decide)).trans (ite_c (w_iret dMo_pass_71 rfl)))))))))))))))))))))
theorem dMo_eat_0 : decode (mC mMo_eat) 0 = .ok (.aload_n 0, 1) := by decide +kernel
theorem dMo_eat_1 : decode (mC mMo_eat) 1 = .ok (.iconst (0), 1) := by decide +kernel
theorem dMo_eat_2 : decode (mC mMo_eat) 2 = .ok (.putfield 74, 3) := by decide +kernel
theorem dMo_eat_5 : decode (mC mMo_eat) 5 = .ok (.aload_n 0, 1) := by decide +kernel
theorem dMo_eat_6 : decode (mC mMo_eat) 6 = .ok (.iconst (0), 1) := by decide +kernel
theorem dMo_eat_7 : decode (mC mMo_eat) 7 = .ok (.putfield 77, 3) := by decide +kernel
theorem dMo_eat_10 : decode (mC mMo_eat) 10 = .ok (.aload_n 0, 1) := by decide +kernel
theorem dMo_eat_11 : decode (mC mMo_eat) 11 = .ok (.iload_n 1, 1) := by decide +kernel
theorem dMo_eat_12 : decode (mC mMo_eat) 12 = .ok (.invokevirtual 332, 3) := by decide +kernel
theorem dMo_eat_15 : decode (mC mMo_eat) 15 = .ok (.ifCond .ne (9), 3) := by decide +kernel
theorem dMo_eat_18 : decode (mC mMo_eat) 18 = .ok (.aload_n 0, 1) := by decide +kernel
theorem dMo_eat_19 : decode (mC mMo_eat) 19 = .ok (.iconst (2), 1) := by decide +kernel
theorem dMo_eat_20 : decode (mC mMo_eat) 20 = .ok (.invokevirtual 329, 3) := by decide +kernel
theorem dMo_eat_23 : decode (mC mMo_eat) 23 = .ok (.ireturn, 1) := by decide +kernel
theorem dMo_eat_24 : decode (mC mMo_eat) 24 = .ok (.iload_n 2, 1) := by decide +kernel
theorem dMo_eat_25 : decode (mC mMo_eat) 25 = .ok (.i2l, 1) := by decide +kernel
theorem dMo_eat_26 : decode (mC mMo_eat) 26 = .ok (.lconst 1, 1) := by decide +kernel
theorem dMo_eat_27 : decode (mC mMo_eat) 27 = .ok (.ldc2_w 431, 3) := by decide +kernel
theorem dMo_eat_30 : decode (mC mMo_eat) 30 = .ok (.invokestatic 109, 3) := by decide +kernel
theorem dMo_eat_33 : decode (mC mMo_eat) 33 = .ok (.ifCond .eq (12), 3) := by decide +kernel
theorem dMo_eat_36 : decode (mC mMo_eat) 36 = .ok (.aload_n 0, 1) := by decide +kernel
theorem dMo_eat_37 : decode (mC mMo_eat) 37 = .ok (.iload_n 1, 1) := by decide +kernel
theorem dMo_eat_38 : decode (mC mMo_eat) 38 = .ok (.iload_n 2, 1) := by decide +kernel
theorem dMo_eat_39 : decode (mC mMo_eat) 39 = .ok (.invokevirtual 448, 3) := by decide +kernel
theorem dMo_eat_42 : decode (mC mMo_eat) 42 = .ok (.goto (8), 3) := by decide +kernel
theorem dMo_eat_45 : decode (mC mMo_eat) 45 = .ok (.aload_n 0, 1) := by decide +kernel
theorem dMo_eat_46 : decode (mC mMo_eat) 46 = .ok (.iconst (5), 1) := by decide +kernel
theorem dMo_eat_47 : decode (mC mMo_eat) 47 = .ok (.invokevirtual 329, 3) := by decide +kernel
theorem dMo_eat_50 : decode (mC mMo_eat) 50 = .ok (.ireturn, 1) := by decide +kernel
theorem bMo_eat_0 {E : mEn} {d : Nat} {σ : mSt} {Q : mPost} {a1 : Int32} {a2 : Int32} : WP E (d + 1) mMo_eat 0 [.ref 166, .int a1, .int a2] [] σ Q = WP E d mMo_isPersonAt 0 [.ref 166, .int a1] [] (sI (sI σ 166 1 0) 166 0 0) (fun r σ' => WP E (d + 1) mMo_eat 15 [.ref 166, .int a1, .int a2] (r.toList ++ []) σ' Q) := (w_aload_n dMo_eat_0 rfl).trans ((w_iconst (v := 0) dMo_eat_1 rfl).trans ((w_puti dMo_eat_2 rz11_74 sh_166 rfl rfl rfl).trans ((w_aload_n dMo_eat_5 rfl).trans ((w_iconst (v := 0) dMo_eat_6 rfl).trans ((w_puti dMo_eat_7 rz11_77 sh_166 rfl rfl rfl).trans ((w_aload_n dMo_eat_10 rfl).trans ((w_iload_n dMo_eat_11 rfl).trans (w_virt (vs := [.int a1]) (st' := []) (es := [.ref 166, .int a1]) dMo_eat_12 rz11_332 rfl sh_166 rfl rfl rfl (Nat.le_of_ble_eq_true rfl) (Nat.le_of_ble_eq_true rfl) rfl))))))))
theorem bMo_eat_15 {E : mEn} {d : Nat} {σ : mSt} {Q : mPost} {a1 : Int32} {a2 : Int32} {s0 : Int32} : WP E d mMo_eat 15 [.ref 166, .int a1, .int a2] [.int s0] σ Q = (if ¬ s0 = 0 then WP E d mMo_eat 24 [.ref 166, .int a1, .int a2] [] σ Q else WP E d mMo_eat 18 [.ref 166, .int a1, .int a2] [] σ Q) := w_ifne (t := 24) dMo_eat_15 (by decide)
theorem bMo_eat_18 {E : mEn} {d : Nat} {σ : mSt} {Q : mPost} {a1 : Int32} {a2 : Int32} : WP E (d + 1) mMo_eat 18 [.ref 166, .int a1, .int a2] [] σ Q = WP E d mMo_refuse 0 [.ref 166, .int (nI 2)] [] σ (fun r σ' => WP E (d + 1) mMo_eat 23 [.ref 166, .int a1, .int a2] (r.toList ++ []) σ' Q) := (w_aload_n dMo_eat_18 rfl).trans ((w_iconst (v := (nI 2)) dMo_eat_19 rfl).trans (w_virt (vs := [.int (nI 2)]) (st' := []) (es := [.ref 166, .int (nI 2)]) dMo_eat_20 rz11_329 rfl sh_166 rfl rfl rfl (Nat.le_of_ble_eq_true rfl) (Nat.le_of_ble_eq_true rfl) rfl))
theorem bMo_eat_23 {E : mEn} {d : Nat} {σ : mSt} {Q : mPost} {a1 : Int32} {a2 : Int32} {s0 : Int32} : WP E d mMo_eat 23 [.ref 166, .int a1, .int a2] [.int s0] σ Q = Q (some (.int s0)) σ := w_iret dMo_eat_23 rfl
theorem bMo_eat_24 {E : mEn} {d : Nat} {σ : mSt} {Q : mPost} {a1 : Int32} {a2 : Int32} : WP E (d + 1) mMo_eat 24 [.ref 166, .int a1, .int a2] [] σ Q = WP E d mMo_isIn 0 [.long (a2.toInt64), uu, .long 1, uu, .long (99), uu] [] σ (fun r σ' => WP E (d + 1) mMo_eat 33 [.ref 166, .int a1, .int a2] (r.toList ++ []) σ' Q) := (w_iload_n dMo_eat_24 rfl).trans ((w_i2l dMo_eat_25).trans ((w_lconst (v := 1) dMo_eat_26 rfl).trans ((w_ldc2_w dMo_eat_27 rz11_431).trans (w_stat (vs := [.long (a2.toInt64), .long 1, .long (99)]) (st' := []) (es := [.long (a2.toInt64), uu, .long 1, uu, .long (99), uu]) dMo_eat_30 rz11_109 rfl rfl rfl (Nat.le_of_ble_eq_true rfl) (Nat.le_of_ble_eq_true rfl) rfl))))
theorem bMo_eat_33 {E : mEn} {d : Nat} {σ : mSt} {Q : mPost} {a1 : Int32} {a2 : Int32} {s0 : Int32} : WP E d mMo_eat 33 [.ref 166, .int a1, .int a2] [.int s0] σ Q = (if s0 = 0 then WP E d mMo_eat 45 [.ref 166, .int a1, .int a2] [] σ Q else WP E d mMo_eat 36 [.ref 166, .int a1, .int a2] [] σ Q) := w_ifeq (t := 45) dMo_eat_33 (by decide)
theorem bMo_eat_36 {E : mEn} {d : Nat} {σ : mSt} {Q : mPost} {a1 : Int32} {a2 : Int32} : WP E (d + 1) mMo_eat 36 [.ref 166, .int a1, .int a2] [] σ Q = WP E d mMo_eats 0 [.ref 166, .int a1, .int a2, uu] [] σ (fun r σ' => WP E (d + 1) mMo_eat 42 [.ref 166, .int a1, .int a2] (r.toList ++ []) σ' Q) := (w_aload_n dMo_eat_36 rfl).trans ((w_iload_n dMo_eat_37 rfl).trans ((w_iload_n dMo_eat_38 rfl).trans (w_virt (vs := [.int a1, .int a2]) (st' := []) (es := [.ref 166, .int a1, .int a2, uu]) dMo_eat_39 rz11_448 rfl sh_166 rfl rfl rfl (Nat.le_of_ble_eq_true rfl) (Nat.le_of_ble_eq_true rfl) rfl)))
theorem bMo_eat_42 {E : mEn} {d : Nat} {σ : mSt} {Q : mPost} {a1 : Int32} {a2 : Int32} {s0 : Int32} : WP E d mMo_eat 42 [.ref 166, .int a1, .int a2] [.int s0] σ Q = WP E d mMo_eat 50 [.ref 166, .int a1, .int a2] [.int s0] σ Q := w_goto (t := 50) dMo_eat_42 (by decide)
theorem bMo_eat_45 {E : mEn} {d : Nat} {σ : mSt} {Q : mPost} {a1 : Int32} {a2 : Int32} : WP E (d + 1) mMo_eat 45 [.ref 166, .int a1, .int a2] [] σ Q = WP E d mMo_refuse 0 [.ref 166, .int (nI 5)] [] σ (fun r σ' => WP E (d + 1) mMo_eat 50 [.ref 166, .int a1, .int a2] (r.toList ++ []) σ' Q) := (w_aload_n dMo_eat_45 rfl).trans ((w_iconst (v := (nI 5)) dMo_eat_46 rfl).trans (w_virt (vs := [.int (nI 5)]) (st' := []) (es := [.ref 166, .int (nI 5)]) dMo_eat_47 rz11_329 rfl sh_166 rfl rfl rfl (Nat.le_of_ble_eq_true rfl) (Nat.le_of_ble_eq_true rfl) rfl))
theorem bMo_eat_50 {E : mEn} {d : Nat} {σ : mSt} {Q : mPost} {a1 : Int32} {a2 : Int32} {s0 : Int32} : WP E d mMo_eat 50 [.ref 166, .int a1, .int a2] [.int s0] σ Q = Q (some (.int s0)) σ := w_iret dMo_eat_50 rfl
theorem dMo_eats_0 : decode (mC mMo_eats) 0 = .ok (.iload_n 2, 1) := by decide +kernel
theorem dMo_eats_1 : decode (mC mMo_eats) 1 = .ok (.aload_n 0, 1) := by decide +kernel
theorem dMo_eats_2 : decode (mC mMo_eats) 2 = .ok (.getfield 35, 3) := by decide +kernel
theorem dMo_eats_5 : decode (mC mMo_eats) 5 = .ok (.bipush (14), 2) := by decide +kernel
theorem dMo_eats_7 : decode (mC mMo_eats) 7 = .ok (.iload_n 1, 1) := by decide +kernel
theorem dMo_eats_8 : decode (mC mMo_eats) 8 = .ok (.iadd, 1) := by decide +kernel
theorem dMo_eats_9 : decode (mC mMo_eats) 9 = .ok (.iaload, 1) := by decide +kernel
theorem dMo_eats_10 : decode (mC mMo_eats) 10 = .ok (.invokestatic 367, 3) := by decide +kernel
theorem dMo_eats_13 : decode (mC mMo_eats) 13 = .ok (.istore_n 3, 1) := by decide +kernel
theorem dMo_eats_14 : decode (mC mMo_eats) 14 = .ok (.aload_n 0, 1) := by decide +kernel
theorem dMo_eats_15 : decode (mC mMo_eats) 15 = .ok (.getfield 35, 3) := by decide +kernel
theorem dMo_eats_18 : decode (mC mMo_eats) 18 = .ok (.bipush (14), 2) := by decide +kernel
theorem dMo_eats_20 : decode (mC mMo_eats) 20 = .ok (.iload_n 1, 1) := by decide +kernel
theorem dMo_eats_21 : decode (mC mMo_eats) 21 = .ok (.iadd, 1) := by decide +kernel
theorem dMo_eats_22 : decode (mC mMo_eats) 22 = .ok (.dup2, 1) := by decide +kernel
theorem dMo_eats_23 : decode (mC mMo_eats) 23 = .ok (.iaload, 1) := by decide +kernel
theorem dMo_eats_24 : decode (mC mMo_eats) 24 = .ok (.iload_n 3, 1) := by decide +kernel
theorem dMo_eats_25 : decode (mC mMo_eats) 25 = .ok (.isub, 1) := by decide +kernel
theorem dMo_eats_26 : decode (mC mMo_eats) 26 = .ok (.iastore, 1) := by decide +kernel
theorem dMo_eats_27 : decode (mC mMo_eats) 27 = .ok (.iload_n 3, 1) := by decide +kernel
theorem dMo_eats_28 : decode (mC mMo_eats) 28 = .ok (.ireturn, 1) := by decide +kernel
theorem bMo_eats_0 {E : mEn} {d : Nat} {σ : mSt} {Q : mPost} {a1 : Int32} {a2 : Int32} {u3 : Value} : WP E d mMo_eats 0 [.ref 166, .int a1, .int a2, u3] [] σ Q = (if mOut ((nI 14) + a1) 3000 = true then False else (if mOut ((nI 14) + a1) 3000 = true then False else (if mOut ((nI 14) + a1) 3000 = true then False else WP E d mMo_eats 27 [.ref 166, .int a1, .int a2, .int (if (σ.1 171 ((nI 14) + a1).toNatClampNeg) < a2 then (σ.1 171 ((nI 14) + a1).toNatClampNeg) else a2)] [] (sI σ 171 ((nI 14) + a1).toNatClampNeg ((σ.1 171 ((nI 14) + a1).toNatClampNeg) - (if (σ.1 171 ((nI 14) + a1).toNatClampNeg) < a2 then (σ.1 171 ((nI 14) + a1).toNatClampNeg) else a2))) Q))) := (w_iload_n dMo_eats_0 rfl).trans ((w_aload_n dMo_eats_1 rfl).trans ((w_getr (r := 171) dMo_eats_2 rz11_35 sh_166 rfl).trans ((w_bipush (v := (nI 14)) dMo_eats_5 rfl).trans ((w_iload_n dMo_eats_7 rfl).trans ((w_iadd dMo_eats_8).trans ((w_iald dMo_eats_9 sh_171 (by decide)).trans (ite_c ((w_min dMo_eats_10 rz11_367 (Nat.le_of_ble_eq_true rfl)).trans ((w_istore_n (ls' := [.ref 166, .int a1, .int a2, .int (if (σ.1 171 ((nI 14) + a1).toNatClampNeg) < a2 then (σ.1 171 ((nI 14) + a1).toNatClampNeg) else a2)]) dMo_eats_13 (Nat.le_of_ble_eq_true rfl) rfl).trans ((w_aload_n dMo_eats_14 rfl).trans ((w_getr (r := 171) dMo_eats_15 rz11_35 sh_166 rfl).trans ((w_bipush (v := (nI 14)) dMo_eats_18 rfl).trans ((w_iload_n dMo_eats_20 rfl).trans ((w_iadd dMo_eats_21).trans ((w_dup2 dMo_eats_22 rfl rfl).trans ((w_iald dMo_eats_23 sh_171 (by decide)).trans (ite_c ((w_iload_n dMo_eats_24 rfl).trans ((w_isub dMo_eats_25).trans ((w_iast dMo_eats_26 sh_171).trans (ite_c (rfl))))))))))))))))))))))
theorem bMo_eats_27 {E : mEn} {d : Nat} {σ : mSt} {Q : mPost} {a1 : Int32} {a2 : Int32} {a3 : Int32} : WP E d mMo_eats 27 [.ref 166, .int a1, .int a2, .int a3] [] σ Q = Q (some (.int a3)) σ := (w_iload_n dMo_eats_27 rfl).trans (w_iret dMo_eats_28 rfl)
theorem dMo_pay_0 : decode (mC mMo_pay) 0 = .ok (.aload_n 0, 1) := by decide +kernel
theorem dMo_pay_1 : decode (mC mMo_pay) 1 = .ok (.iconst (0), 1) := by decide +kernel
theorem dMo_pay_2 : decode (mC mMo_pay) 2 = .ok (.putfield 74, 3) := by decide +kernel
theorem dMo_pay_5 : decode (mC mMo_pay) 5 = .ok (.aload_n 0, 1) := by decide +kernel
theorem dMo_pay_6 : decode (mC mMo_pay) 6 = .ok (.iconst (0), 1) := by decide +kernel
theorem dMo_pay_7 : decode (mC mMo_pay) 7 = .ok (.putfield 77, 3) := by decide +kernel
theorem dMo_pay_10 : decode (mC mMo_pay) 10 = .ok (.aload_n 0, 1) := by decide +kernel
theorem dMo_pay_11 : decode (mC mMo_pay) 11 = .ok (.iload_n 1, 1) := by decide +kernel
theorem dMo_pay_12 : decode (mC mMo_pay) 12 = .ok (.invokevirtual 332, 3) := by decide +kernel
theorem dMo_pay_15 : decode (mC mMo_pay) 15 = .ok (.ifCond .eq (11), 3) := by decide +kernel
theorem dMo_pay_18 : decode (mC mMo_pay) 18 = .ok (.aload_n 0, 1) := by decide +kernel
theorem dMo_pay_19 : decode (mC mMo_pay) 19 = .ok (.iload_n 2, 1) := by decide +kernel
theorem dMo_pay_20 : decode (mC mMo_pay) 20 = .ok (.invokevirtual 332, 3) := by decide +kernel
theorem dMo_pay_23 : decode (mC mMo_pay) 23 = .ok (.ifCond .ne (9), 3) := by decide +kernel
theorem dMo_pay_26 : decode (mC mMo_pay) 26 = .ok (.aload_n 0, 1) := by decide +kernel
theorem dMo_pay_27 : decode (mC mMo_pay) 27 = .ok (.iconst (2), 1) := by decide +kernel
theorem dMo_pay_28 : decode (mC mMo_pay) 28 = .ok (.invokevirtual 89, 3) := by decide +kernel
theorem dMo_pay_31 : decode (mC mMo_pay) 31 = .ok (.ireturn, 1) := by decide +kernel
theorem dMo_pay_32 : decode (mC mMo_pay) 32 = .ok (.iload_n 1, 1) := by decide +kernel
theorem dMo_pay_33 : decode (mC mMo_pay) 33 = .ok (.iload_n 2, 1) := by decide +kernel
theorem dMo_pay_34 : decode (mC mMo_pay) 34 = .ok (.if_icmp .eq (15), 3) := by decide +kernel
theorem dMo_pay_37 : decode (mC mMo_pay) 37 = .ok (.iload_n 3, 1) := by decide +kernel
theorem dMo_pay_38 : decode (mC mMo_pay) 38 = .ok (.i2l, 1) := by decide +kernel
theorem dMo_pay_39 : decode (mC mMo_pay) 39 = .ok (.lconst 1, 1) := by decide +kernel
theorem dMo_pay_40 : decode (mC mMo_pay) 40 = .ok (.ldc2_w 403, 3) := by decide +kernel
theorem dMo_pay_43 : decode (mC mMo_pay) 43 = .ok (.invokestatic 109, 3) := by decide +kernel
theorem dMo_pay_46 : decode (mC mMo_pay) 46 = .ok (.ifCond .ne (9), 3) := by decide +kernel
theorem dMo_pay_49 : decode (mC mMo_pay) 49 = .ok (.aload_n 0, 1) := by decide +kernel
theorem dMo_pay_50 : decode (mC mMo_pay) 50 = .ok (.iconst (5), 1) := by decide +kernel
theorem dMo_pay_51 : decode (mC mMo_pay) 51 = .ok (.invokevirtual 89, 3) := by decide +kernel
theorem dMo_pay_54 : decode (mC mMo_pay) 54 = .ok (.ireturn, 1) := by decide +kernel
theorem dMo_pay_55 : decode (mC mMo_pay) 55 = .ok (.aload_n 0, 1) := by decide +kernel
theorem dMo_pay_56 : decode (mC mMo_pay) 56 = .ok (.iload_n 1, 1) := by decide +kernel
theorem dMo_pay_57 : decode (mC mMo_pay) 57 = .ok (.iload_n 2, 1) := by decide +kernel
theorem dMo_pay_58 : decode (mC mMo_pay) 58 = .ok (.iload_n 3, 1) := by decide +kernel
theorem dMo_pay_59 : decode (mC mMo_pay) 59 = .ok (.invokevirtual 451, 3) := by decide +kernel
theorem dMo_pay_62 : decode (mC mMo_pay) 62 = .ok (.ifCond .ne (12), 3) := by decide +kernel
theorem dMo_pay_65 : decode (mC mMo_pay) 65 = .ok (.aload_n 0, 1) := by decide +kernel
theorem dMo_pay_66 : decode (mC mMo_pay) 66 = .ok (.bipush (9), 2) := by decide +kernel
theorem dMo_pay_68 : decode (mC mMo_pay) 68 = .ok (.invokevirtual 89, 3) := by decide +kernel
theorem dMo_pay_71 : decode (mC mMo_pay) 71 = .ok (.ifCond .eq (7), 3) := by decide +kernel
theorem dMo_pay_74 : decode (mC mMo_pay) 74 = .ok (.iconst (1), 1) := by decide +kernel
theorem dMo_pay_75 : decode (mC mMo_pay) 75 = .ok (.goto (4), 3) := by decide +kernel
theorem dMo_pay_78 : decode (mC mMo_pay) 78 = .ok (.iconst (0), 1) := by decide +kernel
theorem dMo_pay_79 : decode (mC mMo_pay) 79 = .ok (.ireturn, 1) := by decide +kernel
theorem bMo_pay_0 {E : mEn} {d : Nat} {σ : mSt} {Q : mPost} {a1 : Int32} {a2 : Int32} {a3 : Int32} : WP E (d + 1) mMo_pay 0 [.ref 166, .int a1, .int a2, .int a3] [] σ Q = WP E d mMo_isPersonAt 0 [.ref 166, .int a1] [] (sI (sI σ 166 1 0) 166 0 0) (fun r σ' => WP E (d + 1) mMo_pay 15 [.ref 166, .int a1, .int a2, .int a3] (r.toList ++ []) σ' Q) := (w_aload_n dMo_pay_0 rfl).trans ((w_iconst (v := 0) dMo_pay_1 rfl).trans ((w_puti dMo_pay_2 rz11_74 sh_166 rfl rfl rfl).trans ((w_aload_n dMo_pay_5 rfl).trans ((w_iconst (v := 0) dMo_pay_6 rfl).trans ((w_puti dMo_pay_7 rz11_77 sh_166 rfl rfl rfl).trans ((w_aload_n dMo_pay_10 rfl).trans ((w_iload_n dMo_pay_11 rfl).trans (w_virt (vs := [.int a1]) (st' := []) (es := [.ref 166, .int a1]) dMo_pay_12 rz11_332 rfl sh_166 rfl rfl rfl (Nat.le_of_ble_eq_true rfl) (Nat.le_of_ble_eq_true rfl) rfl))))))))
theorem bMo_pay_15 {E : mEn} {d : Nat} {σ : mSt} {Q : mPost} {a1 : Int32} {a2 : Int32} {a3 : Int32} {s0 : Int32} : WP E d mMo_pay 15 [.ref 166, .int a1, .int a2, .int a3] [.int s0] σ Q = (if s0 = 0 then WP E d mMo_pay 26 [.ref 166, .int a1, .int a2, .int a3] [] σ Q else WP E d mMo_pay 18 [.ref 166, .int a1, .int a2, .int a3] [] σ Q) := w_ifeq (t := 26) dMo_pay_15 (by decide)
theorem bMo_pay_18 {E : mEn} {d : Nat} {σ : mSt} {Q : mPost} {a1 : Int32} {a2 : Int32} {a3 : Int32} : WP E (d + 1) mMo_pay 18 [.ref 166, .int a1, .int a2, .int a3] [] σ Q = WP E d mMo_isPersonAt 0 [.ref 166, .int a2] [] σ (fun r σ' => WP E (d + 1) mMo_pay 23 [.ref 166, .int a1, .int a2, .int a3] (r.toList ++ []) σ' Q) := (w_aload_n dMo_pay_18 rfl).trans ((w_iload_n dMo_pay_19 rfl).trans (w_virt (vs := [.int a2]) (st' := []) (es := [.ref 166, .int a2]) dMo_pay_20 rz11_332 rfl sh_166 rfl rfl rfl (Nat.le_of_ble_eq_true rfl) (Nat.le_of_ble_eq_true rfl) rfl))
theorem bMo_pay_23 {E : mEn} {d : Nat} {σ : mSt} {Q : mPost} {a1 : Int32} {a2 : Int32} {a3 : Int32} {s0 : Int32} : WP E d mMo_pay 23 [.ref 166, .int a1, .int a2, .int a3] [.int s0] σ Q = (if ¬ s0 = 0 then WP E d mMo_pay 32 [.ref 166, .int a1, .int a2, .int a3] [] σ Q else WP E d mMo_pay 26 [.ref 166, .int a1, .int a2, .int a3] [] σ Q) := w_ifne (t := 32) dMo_pay_23 (by decide)
theorem bMo_pay_26 {E : mEn} {d : Nat} {σ : mSt} {Q : mPost} {a1 : Int32} {a2 : Int32} {a3 : Int32} : WP E (d + 1) mMo_pay 26 [.ref 166, .int a1, .int a2, .int a3] [] σ Q = WP E d mMo_no 0 [.ref 166, .int (nI 2)] [] σ (fun r σ' => WP E (d + 1) mMo_pay 31 [.ref 166, .int a1, .int a2, .int a3] (r.toList ++ []) σ' Q) := (w_aload_n dMo_pay_26 rfl).trans ((w_iconst (v := (nI 2)) dMo_pay_27 rfl).trans (w_virt (vs := [.int (nI 2)]) (st' := []) (es := [.ref 166, .int (nI 2)]) dMo_pay_28 rz11_89 rfl sh_166 rfl rfl rfl (Nat.le_of_ble_eq_true rfl) (Nat.le_of_ble_eq_true rfl) rfl))
theorem bMo_pay_31 {E : mEn} {d : Nat} {σ : mSt} {Q : mPost} {a1 : Int32} {a2 : Int32} {a3 : Int32} {s0 : Int32} (hz0 : s0 = 0 ∨ s0 = 1) : WP E d mMo_pay 31 [.ref 166, .int a1, .int a2, .int a3] [.int s0] σ Q = Q (some (.int s0)) σ := w_zret dMo_pay_31 rfl hz0
theorem bMo_pay_32 {E : mEn} {d : Nat} {σ : mSt} {Q : mPost} {a1 : Int32} {a2 : Int32} {a3 : Int32} : WP E d mMo_pay 32 [.ref 166, .int a1, .int a2, .int a3] [] σ Q = (if a1 = a2 then WP E d mMo_pay 49 [.ref 166, .int a1, .int a2, .int a3] [] σ Q else WP E d mMo_pay 37 [.ref 166, .int a1, .int a2, .int a3] [] σ Q) := (w_iload_n dMo_pay_32 rfl).trans ((w_iload_n dMo_pay_33 rfl).trans (w_icmpeq (t := 49) dMo_pay_34 (by decide)))
theorem bMo_pay_37 {E : mEn} {d : Nat} {σ : mSt} {Q : mPost} {a1 : Int32} {a2 : Int32} {a3 : Int32} : WP E (d + 1) mMo_pay 37 [.ref 166, .int a1, .int a2, .int a3] [] σ Q = WP E d mMo_isIn 0 [.long (a3.toInt64), uu, .long 1, uu, .long (999), uu] [] σ (fun r σ' => WP E (d + 1) mMo_pay 46 [.ref 166, .int a1, .int a2, .int a3] (r.toList ++ []) σ' Q) := (w_iload_n dMo_pay_37 rfl).trans ((w_i2l dMo_pay_38).trans ((w_lconst (v := 1) dMo_pay_39 rfl).trans ((w_ldc2_w dMo_pay_40 rz11_403).trans (w_stat (vs := [.long (a3.toInt64), .long 1, .long (999)]) (st' := []) (es := [.long (a3.toInt64), uu, .long 1, uu, .long (999), uu]) dMo_pay_43 rz11_109 rfl rfl rfl (Nat.le_of_ble_eq_true rfl) (Nat.le_of_ble_eq_true rfl) rfl))))
theorem bMo_pay_46 {E : mEn} {d : Nat} {σ : mSt} {Q : mPost} {a1 : Int32} {a2 : Int32} {a3 : Int32} {s0 : Int32} : WP E d mMo_pay 46 [.ref 166, .int a1, .int a2, .int a3] [.int s0] σ Q = (if ¬ s0 = 0 then WP E d mMo_pay 55 [.ref 166, .int a1, .int a2, .int a3] [] σ Q else WP E d mMo_pay 49 [.ref 166, .int a1, .int a2, .int a3] [] σ Q) := w_ifne (t := 55) dMo_pay_46 (by decide)
theorem bMo_pay_49 {E : mEn} {d : Nat} {σ : mSt} {Q : mPost} {a1 : Int32} {a2 : Int32} {a3 : Int32} : WP E (d + 1) mMo_pay 49 [.ref 166, .int a1, .int a2, .int a3] [] σ Q = WP E d mMo_no 0 [.ref 166, .int (nI 5)] [] σ (fun r σ' => WP E (d + 1) mMo_pay 54 [.ref 166, .int a1, .int a2, .int a3] (r.toList ++ []) σ' Q) := (w_aload_n dMo_pay_49 rfl).trans ((w_iconst (v := (nI 5)) dMo_pay_50 rfl).trans (w_virt (vs := [.int (nI 5)]) (st' := []) (es := [.ref 166, .int (nI 5)]) dMo_pay_51 rz11_89 rfl sh_166 rfl rfl rfl (Nat.le_of_ble_eq_true rfl) (Nat.le_of_ble_eq_true rfl) rfl))
theorem bMo_pay_54 {E : mEn} {d : Nat} {σ : mSt} {Q : mPost} {a1 : Int32} {a2 : Int32} {a3 : Int32} {s0 : Int32} (hz0 : s0 = 0 ∨ s0 = 1) : WP E d mMo_pay 54 [.ref 166, .int a1, .int a2, .int a3] [.int s0] σ Q = Q (some (.int s0)) σ := w_zret dMo_pay_54 rfl hz0
theorem bMo_pay_55 {E : mEn} {d : Nat} {σ : mSt} {Q : mPost} {a1 : Int32} {a2 : Int32} {a3 : Int32} : WP E (d + 1) mMo_pay 55 [.ref 166, .int a1, .int a2, .int a3] [] σ Q = WP E d mMo_pays 0 [.ref 166, .int a1, .int a2, .int a3] [] σ (fun r σ' => WP E (d + 1) mMo_pay 62 [.ref 166, .int a1, .int a2, .int a3] (r.toList ++ []) σ' Q) := (w_aload_n dMo_pay_55 rfl).trans ((w_iload_n dMo_pay_56 rfl).trans ((w_iload_n dMo_pay_57 rfl).trans ((w_iload_n dMo_pay_58 rfl).trans (w_virt (vs := [.int a1, .int a2, .int a3]) (st' := []) (es := [.ref 166, .int a1, .int a2, .int a3]) dMo_pay_59 rz11_451 rfl sh_166 rfl rfl rfl (Nat.le_of_ble_eq_true rfl) (Nat.le_of_ble_eq_true rfl) rfl))))
theorem bMo_pay_62 {E : mEn} {d : Nat} {σ : mSt} {Q : mPost} {a1 : Int32} {a2 : Int32} {a3 : Int32} {s0 : Int32} : WP E d mMo_pay 62 [.ref 166, .int a1, .int a2, .int a3] [.int s0] σ Q = (if ¬ s0 = 0 then WP E d mMo_pay 74 [.ref 166, .int a1, .int a2, .int a3] [] σ Q else WP E d mMo_pay 65 [.ref 166, .int a1, .int a2, .int a3] [] σ Q) := w_ifne (t := 74) dMo_pay_62 (by decide)
theorem bMo_pay_65 {E : mEn} {d : Nat} {σ : mSt} {Q : mPost} {a1 : Int32} {a2 : Int32} {a3 : Int32} : WP E (d + 1) mMo_pay 65 [.ref 166, .int a1, .int a2, .int a3] [] σ Q = WP E d mMo_no 0 [.ref 166, .int (nI 9)] [] σ (fun r σ' => WP E (d + 1) mMo_pay 71 [.ref 166, .int a1, .int a2, .int a3] (r.toList ++ []) σ' Q) := (w_aload_n dMo_pay_65 rfl).trans ((w_bipush (v := (nI 9)) dMo_pay_66 rfl).trans (w_virt (vs := [.int (nI 9)]) (st' := []) (es := [.ref 166, .int (nI 9)]) dMo_pay_68 rz11_89 rfl sh_166 rfl rfl rfl (Nat.le_of_ble_eq_true rfl) (Nat.le_of_ble_eq_true rfl) rfl))
theorem bMo_pay_71 {E : mEn} {d : Nat} {σ : mSt} {Q : mPost} {a1 : Int32} {a2 : Int32} {a3 : Int32} {s0 : Int32} : WP E d mMo_pay 71 [.ref 166, .int a1, .int a2, .int a3] [.int s0] σ Q = (if s0 = 0 then WP E d mMo_pay 78 [.ref 166, .int a1, .int a2, .int a3] [] σ Q else WP E d mMo_pay 74 [.ref 166, .int a1, .int a2, .int a3] [] σ Q) := w_ifeq (t := 78) dMo_pay_71 (by decide)
theorem bMo_pay_74 {E : mEn} {d : Nat} {σ : mSt} {Q : mPost} {a1 : Int32} {a2 : Int32} {a3 : Int32} : WP E d mMo_pay 74 [.ref 166, .int a1, .int a2, .int a3] [] σ Q = WP E d mMo_pay 79 [.ref 166, .int a1, .int a2, .int a3] [.int 1] σ Q := (w_iconst (v := 1) dMo_pay_74 rfl).trans (w_goto (t := 79) dMo_pay_75 (by decide))
theorem bMo_pay_78 {E : mEn} {d : Nat} {σ : mSt} {Q : mPost} {a1 : Int32} {a2 : Int32} {a3 : Int32} : WP E d mMo_pay 78 [.ref 166, .int a1, .int a2, .int a3] [] σ Q = WP E d mMo_pay 79 [.ref 166, .int a1, .int a2, .int a3] [.int 0] σ Q := w_iconst (v := 0) dMo_pay_78 rfl
theorem bMo_pay_79 {E : mEn} {d : Nat} {σ : mSt} {Q : mPost} {a1 : Int32} {a2 : Int32} {a3 : Int32} {s0 : Int32} (hz0 : s0 = 0 ∨ s0 = 1) : WP E d mMo_pay 79 [.ref 166, .int a1, .int a2, .int a3] [.int s0] σ Q = Q (some (.int s0)) σ := w_zret dMo_pay_79 rfl hz0
theorem dMo_pays_0 : decode (mC mMo_pays) 0 = .ok (.iload_n 1, 1) := by decide +kernel
theorem dMo_pays_1 : decode (mC mMo_pays) 1 = .ok (.iload_n 2, 1) := by decide +kernel
theorem dMo_pays_2 : decode (mC mMo_pays) 2 = .ok (.if_icmp .eq (16), 3) := by decide +kernel
theorem dMo_pays_5 : decode (mC mMo_pays) 5 = .ok (.aload_n 0, 1) := by decide +kernel
theorem dMo_pays_6 : decode (mC mMo_pays) 6 = .ok (.getfield 35, 3) := by decide +kernel
theorem dMo_pays_9 : decode (mC mMo_pays) 9 = .ok (.bipush (6), 2) := by decide +kernel
theorem dMo_pays_11 : decode (mC mMo_pays) 11 = .ok (.iload_n 1, 1) := by decide +kernel
theorem dMo_pays_12 : decode (mC mMo_pays) 12 = .ok (.iadd, 1) := by decide +kernel
theorem dMo_pays_13 : decode (mC mMo_pays) 13 = .ok (.iaload, 1) := by decide +kernel
theorem dMo_pays_14 : decode (mC mMo_pays) 14 = .ok (.iload_n 3, 1) := by decide +kernel
theorem dMo_pays_15 : decode (mC mMo_pays) 15 = .ok (.if_icmp .ge (5), 3) := by decide +kernel
theorem dMo_pays_18 : decode (mC mMo_pays) 18 = .ok (.iconst (0), 1) := by decide +kernel
theorem dMo_pays_19 : decode (mC mMo_pays) 19 = .ok (.ireturn, 1) := by decide +kernel
theorem dMo_pays_20 : decode (mC mMo_pays) 20 = .ok (.aload_n 0, 1) := by decide +kernel
theorem dMo_pays_21 : decode (mC mMo_pays) 21 = .ok (.getfield 35, 3) := by decide +kernel
theorem dMo_pays_24 : decode (mC mMo_pays) 24 = .ok (.bipush (6), 2) := by decide +kernel
theorem dMo_pays_26 : decode (mC mMo_pays) 26 = .ok (.iload_n 1, 1) := by decide +kernel
theorem dMo_pays_27 : decode (mC mMo_pays) 27 = .ok (.iadd, 1) := by decide +kernel
theorem dMo_pays_28 : decode (mC mMo_pays) 28 = .ok (.dup2, 1) := by decide +kernel
theorem dMo_pays_29 : decode (mC mMo_pays) 29 = .ok (.iaload, 1) := by decide +kernel
theorem dMo_pays_30 : decode (mC mMo_pays) 30 = .ok (.iload_n 3, 1) := by decide +kernel
theorem dMo_pays_31 : decode (mC mMo_pays) 31 = .ok (.isub, 1) := by decide +kernel
theorem dMo_pays_32 : decode (mC mMo_pays) 32 = .ok (.iastore, 1) := by decide +kernel
theorem dMo_pays_33 : decode (mC mMo_pays) 33 = .ok (.aload_n 0, 1) := by decide +kernel
theorem dMo_pays_34 : decode (mC mMo_pays) 34 = .ok (.getfield 35, 3) := by decide +kernel
theorem dMo_pays_37 : decode (mC mMo_pays) 37 = .ok (.bipush (6), 2) := by decide +kernel
theorem dMo_pays_39 : decode (mC mMo_pays) 39 = .ok (.iload_n 2, 1) := by decide +kernel
theorem dMo_pays_40 : decode (mC mMo_pays) 40 = .ok (.iadd, 1) := by decide +kernel
theorem dMo_pays_41 : decode (mC mMo_pays) 41 = .ok (.dup2, 1) := by decide +kernel
theorem dMo_pays_42 : decode (mC mMo_pays) 42 = .ok (.iaload, 1) := by decide +kernel
theorem dMo_pays_43 : decode (mC mMo_pays) 43 = .ok (.iload_n 3, 1) := by decide +kernel
theorem dMo_pays_44 : decode (mC mMo_pays) 44 = .ok (.iadd, 1) := by decide +kernel
theorem dMo_pays_45 : decode (mC mMo_pays) 45 = .ok (.iastore, 1) := by decide +kernel
theorem dMo_pays_46 : decode (mC mMo_pays) 46 = .ok (.iconst (1), 1) := by decide +kernel
theorem dMo_pays_47 : decode (mC mMo_pays) 47 = .ok (.ireturn, 1) := by decide +kernel
theorem bMo_pays_0 {E : mEn} {d : Nat} {σ : mSt} {Q : mPost} {a1 : Int32} {a2 : Int32} {a3 : Int32} : WP E d mMo_pays 0 [.ref 166, .int a1, .int a2, .int a3] [] σ Q = (if a1 = a2 then WP E d mMo_pays 18 [.ref 166, .int a1, .int a2, .int a3] [] σ Q else WP E d mMo_pays 5 [.ref 166, .int a1, .int a2, .int a3] [] σ Q) := (w_iload_n dMo_pays_0 rfl).trans ((w_iload_n dMo_pays_1 rfl).trans (w_icmpeq (t := 18) dMo_pays_2 (by decide)))
theorem bMo_pays_5 {E : mEn} {d : Nat} {σ : mSt} {Q : mPost} {a1 : Int32} {a2 : Int32} {a3 : Int32} : WP E d mMo_pays 5 [.ref 166, .int a1, .int a2, .int a3] [] σ Q = (if mOut ((nI 6) + a1) 3000 = true then False else (if a3 ≤ (σ.1 171 ((nI 6) + a1).toNatClampNeg) then WP E d mMo_pays 20 [.ref 166, .int a1, .int a2, .int a3] [] σ Q else WP E d mMo_pays 18 [.ref 166, .int a1, .int a2, .int a3] [] σ Q)) := (w_aload_n dMo_pays_5 rfl).trans ((w_getr (r := 171) dMo_pays_6 rz11_35 sh_166 rfl).trans ((w_bipush (v := (nI 6)) dMo_pays_9 rfl).trans ((w_iload_n dMo_pays_11 rfl).trans ((w_iadd dMo_pays_12).trans ((w_iald dMo_pays_13 sh_171 (by decide)).trans (ite_c ((w_iload_n dMo_pays_14 rfl).trans (w_icmpge (t := 20) dMo_pays_15 (by decide)))))))))
theorem bMo_pays_18 {E : mEn} {d : Nat} {σ : mSt} {Q : mPost} {a1 : Int32} {a2 : Int32} {a3 : Int32} : WP E d mMo_pays 18 [.ref 166, .int a1, .int a2, .int a3] [] σ Q = Q (some (.int 0)) σ := (w_iconst (v := 0) dMo_pays_18 rfl).trans (w_zret dMo_pays_19 rfl (Or.inl rfl))
theorem bMo_pays_20 {E : mEn} {d : Nat} {σ : mSt} {Q : mPost} {a1 : Int32} {a2 : Int32} {a3 : Int32} : WP E d mMo_pays 20 [.ref 166, .int a1, .int a2, .int a3] [] σ Q = (if mOut ((nI 6) + a1) 3000 = true then False else (if mOut ((nI 6) + a1) 3000 = true then False else (if mOut ((nI 6) + a2) 3000 = true then False else (if mOut ((nI 6) + a2) 3000 = true then False else WP E d mMo_pays 46 [.ref 166, .int a1, .int a2, .int a3] [] (sI (sI σ 171 ((nI 6) + a1).toNatClampNeg ((σ.1 171 ((nI 6) + a1).toNatClampNeg) - a3)) 171 ((nI 6) + a2).toNatClampNeg (((sI σ 171 ((nI 6) + a1).toNatClampNeg ((σ.1 171 ((nI 6) + a1).toNatClampNeg) - a3)).1 171 ((nI 6) + a2).toNatClampNeg) + a3)) Q)))) := (w_aload_n dMo_pays_20 rfl).trans ((w_getr (r := 171) dMo_pays_21 rz11_35 sh_166 rfl).trans ((w_bipush (v := (nI 6)) dMo_pays_24 rfl).trans ((w_iload_n dMo_pays_26 rfl).trans ((w_iadd dMo_pays_27).trans ((w_dup2 dMo_pays_28 rfl rfl).trans ((w_iald dMo_pays_29 sh_171 (by decide)).trans (ite_c ((w_iload_n dMo_pays_30 rfl).trans ((w_isub dMo_pays_31).trans ((w_iast dMo_pays_32 sh_171).trans (ite_c ((w_aload_n dMo_pays_33 rfl).trans ((w_getr (r := 171) dMo_pays_34 rz11_35 sh_166 rfl).trans ((w_bipush (v := (nI 6)) dMo_pays_37 rfl).trans ((w_iload_n dMo_pays_39 rfl).trans ((w_iadd dMo_pays_40).trans ((w_dup2 dMo_pays_41 rfl rfl).trans ((w_iald dMo_pays_42 sh_171 (by decide)).trans (ite_c ((w_iload_n dMo_pays_43 rfl).trans ((w_iadd dMo_pays_44).trans ((w_iast dMo_pays_45 sh_171).trans (ite_c (rfl))))))))))))))))))))))))
theorem bMo_pays_46 {E : mEn} {d : Nat} {σ : mSt} {Q : mPost} {a1 : Int32} {a2 : Int32} {a3 : Int32} : WP E d mMo_pays 46 [.ref 166, .int a1, .int a2, .int a3] [] σ Q = Q (some (.int 1)) σ := (w_iconst (v := 1) dMo_pays_46 rfl).trans (w_zret dMo_pays_47 rfl (Or.inr rfl))
theorem dMo_live_0 : decode (mC mMo_live) 0 = .ok (.aload_n 0, 1) := by decide +kernel
theorem dMo_live_1 : decode (mC mMo_live) 1 = .ok (.iconst (0), 1) := by decide +kernel
theorem dMo_live_2 : decode (mC mMo_live) 2 = .ok (.putfield 74, 3) := by decide +kernel
theorem dMo_live_5 : decode (mC mMo_live) 5 = .ok (.aload_n 0, 1) := by decide +kernel
theorem dMo_live_6 : decode (mC mMo_live) 6 = .ok (.iconst (0), 1) := by decide +kernel
theorem dMo_live_7 : decode (mC mMo_live) 7 = .ok (.putfield 77, 3) := by decide +kernel
theorem dMo_live_10 : decode (mC mMo_live) 10 = .ok (.iload_n 1, 1) := by decide +kernel
theorem dMo_live_11 : decode (mC mMo_live) 11 = .ok (.i2l, 1) := by decide +kernel
theorem dMo_live_12 : decode (mC mMo_live) 12 = .ok (.lconst 0, 1) := by decide +kernel
theorem dMo_live_13 : decode (mC mMo_live) 13 = .ok (.ldc2_w 426, 3) := by decide +kernel
theorem dMo_live_16 : decode (mC mMo_live) 16 = .ok (.invokestatic 109, 3) := by decide +kernel
theorem dMo_live_19 : decode (mC mMo_live) 19 = .ok (.ifCond .ne (9), 3) := by decide +kernel
theorem dMo_live_22 : decode (mC mMo_live) 22 = .ok (.aload_n 0, 1) := by decide +kernel
theorem dMo_live_23 : decode (mC mMo_live) 23 = .ok (.iconst (5), 1) := by decide +kernel
theorem dMo_live_24 : decode (mC mMo_live) 24 = .ok (.invokevirtual 329, 3) := by decide +kernel
theorem dMo_live_27 : decode (mC mMo_live) 27 = .ok (.ireturn, 1) := by decide +kernel
theorem dMo_live_28 : decode (mC mMo_live) 28 = .ok (.aload_n 0, 1) := by decide +kernel
theorem dMo_live_29 : decode (mC mMo_live) 29 = .ok (.getfield 35, 3) := by decide +kernel
theorem dMo_live_32 : decode (mC mMo_live) 32 = .ok (.sipush (322), 3) := by decide +kernel
theorem dMo_live_35 : decode (mC mMo_live) 35 = .ok (.iaload, 1) := by decide +kernel
theorem dMo_live_36 : decode (mC mMo_live) 36 = .ok (.ifCond .ne (10), 3) := by decide +kernel
theorem dMo_live_39 : decode (mC mMo_live) 39 = .ok (.aload_n 0, 1) := by decide +kernel
theorem dMo_live_40 : decode (mC mMo_live) 40 = .ok (.bipush (8), 2) := by decide +kernel
theorem dMo_live_42 : decode (mC mMo_live) 42 = .ok (.invokevirtual 329, 3) := by decide +kernel
theorem dMo_live_45 : decode (mC mMo_live) 45 = .ok (.ireturn, 1) := by decide +kernel
theorem dMo_live_46 : decode (mC mMo_live) 46 = .ok (.aload_n 0, 1) := by decide +kernel
theorem dMo_live_47 : decode (mC mMo_live) 47 = .ok (.iload_n 1, 1) := by decide +kernel
theorem dMo_live_48 : decode (mC mMo_live) 48 = .ok (.invokevirtual 498, 3) := by decide +kernel
theorem dMo_live_51 : decode (mC mMo_live) 51 = .ok (.aload_n 0, 1) := by decide +kernel
theorem dMo_live_52 : decode (mC mMo_live) 52 = .ok (.getfield 71, 3) := by decide +kernel
theorem dMo_live_55 : decode (mC mMo_live) 55 = .ok (.iconst (0), 1) := by decide +kernel
theorem dMo_live_56 : decode (mC mMo_live) 56 = .ok (.aload_n 0, 1) := by decide +kernel
theorem dMo_live_57 : decode (mC mMo_live) 57 = .ok (.getfield 483, 3) := by decide +kernel
theorem dMo_live_60 : decode (mC mMo_live) 60 = .ok (.iastore, 1) := by decide +kernel
theorem dMo_live_61 : decode (mC mMo_live) 61 = .ok (.aload_n 0, 1) := by decide +kernel
theorem dMo_live_62 : decode (mC mMo_live) 62 = .ok (.getfield 71, 3) := by decide +kernel
theorem dMo_live_65 : decode (mC mMo_live) 65 = .ok (.iconst (1), 1) := by decide +kernel
theorem dMo_live_66 : decode (mC mMo_live) 66 = .ok (.aload_n 0, 1) := by decide +kernel
theorem dMo_live_67 : decode (mC mMo_live) 67 = .ok (.getfield 461, 3) := by decide +kernel
theorem dMo_live_70 : decode (mC mMo_live) 70 = .ok (.iastore, 1) := by decide +kernel
theorem dMo_live_71 : decode (mC mMo_live) 71 = .ok (.aload_n 0, 1) := by decide +kernel
theorem dMo_live_72 : decode (mC mMo_live) 72 = .ok (.getfield 71, 3) := by decide +kernel
theorem dMo_live_75 : decode (mC mMo_live) 75 = .ok (.iconst (2), 1) := by decide +kernel
theorem dMo_live_76 : decode (mC mMo_live) 76 = .ok (.aload_n 0, 1) := by decide +kernel
theorem dMo_live_77 : decode (mC mMo_live) 77 = .ok (.getfield 470, 3) := by decide +kernel
theorem dMo_live_80 : decode (mC mMo_live) 80 = .ok (.iastore, 1) := by decide +kernel
theorem dMo_live_81 : decode (mC mMo_live) 81 = .ok (.aload_n 0, 1) := by decide +kernel
theorem dMo_live_82 : decode (mC mMo_live) 82 = .ok (.getfield 71, 3) := by decide +kernel
theorem dMo_live_85 : decode (mC mMo_live) 85 = .ok (.iconst (3), 1) := by decide +kernel
theorem dMo_live_86 : decode (mC mMo_live) 86 = .ok (.aload_n 0, 1) := by decide +kernel
theorem dMo_live_87 : decode (mC mMo_live) 87 = .ok (.getfield 464, 3) := by decide +kernel
theorem dMo_live_90 : decode (mC mMo_live) 90 = .ok (.iastore, 1) := by decide +kernel
theorem dMo_live_91 : decode (mC mMo_live) 91 = .ok (.aload_n 0, 1) := by decide +kernel
theorem dMo_live_92 : decode (mC mMo_live) 92 = .ok (.getfield 71, 3) := by decide +kernel
theorem dMo_live_95 : decode (mC mMo_live) 95 = .ok (.iconst (4), 1) := by decide +kernel
theorem dMo_live_96 : decode (mC mMo_live) 96 = .ok (.aload_n 0, 1) := by decide +kernel
theorem dMo_live_97 : decode (mC mMo_live) 97 = .ok (.getfield 480, 3) := by decide +kernel
theorem dMo_live_100 : decode (mC mMo_live) 100 = .ok (.iastore, 1) := by decide +kernel
theorem dMo_live_101 : decode (mC mMo_live) 101 = .ok (.aload_n 0, 1) := by decide +kernel
theorem dMo_live_102 : decode (mC mMo_live) 102 = .ok (.iconst (1), 1) := by decide +kernel
theorem dMo_live_103 : decode (mC mMo_live) 103 = .ok (.putfield 501, 3) := by decide +kernel
theorem dMo_live_106 : decode (mC mMo_live) 106 = .ok (.aload_n 0, 1) := by decide +kernel
theorem dMo_live_107 : decode (mC mMo_live) 107 = .ok (.getfield 473, 3) := by decide +kernel
theorem dMo_live_110 : decode (mC mMo_live) 110 = .ok (.ireturn, 1) := by decide +kernel
theorem bMo_live_0 {E : mEn} {d : Nat} {σ : mSt} {Q : mPost} {a1 : Int32} : WP E (d + 1) mMo_live 0 [.ref 166, .int a1] [] σ Q = WP E d mMo_isIn 0 [.long (a1.toInt64), uu, .long 0, uu, .long (9999), uu] [] (sI (sI σ 166 1 0) 166 0 0) (fun r σ' => WP E (d + 1) mMo_live 19 [.ref 166, .int a1] (r.toList ++ []) σ' Q) := (w_aload_n dMo_live_0 rfl).trans ((w_iconst (v := 0) dMo_live_1 rfl).trans ((w_puti dMo_live_2 rz11_74 sh_166 rfl rfl rfl).trans ((w_aload_n dMo_live_5 rfl).trans ((w_iconst (v := 0) dMo_live_6 rfl).trans ((w_puti dMo_live_7 rz11_77 sh_166 rfl rfl rfl).trans ((w_iload_n dMo_live_10 rfl).trans ((w_i2l dMo_live_11).trans ((w_lconst (v := 0) dMo_live_12 rfl).trans ((w_ldc2_w dMo_live_13 rz11_426).trans (w_stat (vs := [.long (a1.toInt64), .long 0, .long (9999)]) (st' := []) (es := [.long (a1.toInt64), uu, .long 0, uu, .long (9999), uu]) dMo_live_16 rz11_109 rfl rfl rfl (Nat.le_of_ble_eq_true rfl) (Nat.le_of_ble_eq_true rfl) rfl))))))))))
theorem bMo_live_19 {E : mEn} {d : Nat} {σ : mSt} {Q : mPost} {a1 : Int32} {s0 : Int32} : WP E d mMo_live 19 [.ref 166, .int a1] [.int s0] σ Q = (if ¬ s0 = 0 then WP E d mMo_live 28 [.ref 166, .int a1] [] σ Q else WP E d mMo_live 22 [.ref 166, .int a1] [] σ Q) := w_ifne (t := 28) dMo_live_19 (by decide)
theorem bMo_live_22 {E : mEn} {d : Nat} {σ : mSt} {Q : mPost} {a1 : Int32} : WP E (d + 1) mMo_live 22 [.ref 166, .int a1] [] σ Q = WP E d mMo_refuse 0 [.ref 166, .int (nI 5)] [] σ (fun r σ' => WP E (d + 1) mMo_live 27 [.ref 166, .int a1] (r.toList ++ []) σ' Q) := (w_aload_n dMo_live_22 rfl).trans ((w_iconst (v := (nI 5)) dMo_live_23 rfl).trans (w_virt (vs := [.int (nI 5)]) (st' := []) (es := [.ref 166, .int (nI 5)]) dMo_live_24 rz11_329 rfl sh_166 rfl rfl rfl (Nat.le_of_ble_eq_true rfl) (Nat.le_of_ble_eq_true rfl) rfl))
theorem bMo_live_27 {E : mEn} {d : Nat} {σ : mSt} {Q : mPost} {a1 : Int32} {s0 : Int32} : WP E d mMo_live 27 [.ref 166, .int a1] [.int s0] σ Q = Q (some (.int s0)) σ := w_iret dMo_live_27 rfl
theorem bMo_live_28 {E : mEn} {d : Nat} {σ : mSt} {Q : mPost} {a1 : Int32} : WP E d mMo_live 28 [.ref 166, .int a1] [] σ Q = (if mOut (nI 322) 3000 = true then False else (if ¬ (σ.1 171 322) = 0 then WP E d mMo_live 46 [.ref 166, .int a1] [] σ Q else WP E d mMo_live 39 [.ref 166, .int a1] [] σ Q)) := (w_aload_n dMo_live_28 rfl).trans ((w_getr (r := 171) dMo_live_29 rz11_35 sh_166 rfl).trans ((w_sipush (v := (nI 322)) dMo_live_32 rfl).trans ((w_iald dMo_live_35 sh_171 (by decide)).trans (ite_c (w_ifne (t := 46) dMo_live_36 (by decide))))))
theorem bMo_live_39 {E : mEn} {d : Nat} {σ : mSt} {Q : mPost} {a1 : Int32} : WP E (d + 1) mMo_live 39 [.ref 166, .int a1] [] σ Q = WP E d mMo_refuse 0 [.ref 166, .int (nI 8)] [] σ (fun r σ' => WP E (d + 1) mMo_live 45 [.ref 166, .int a1] (r.toList ++ []) σ' Q) := (w_aload_n dMo_live_39 rfl).trans ((w_bipush (v := (nI 8)) dMo_live_40 rfl).trans (w_virt (vs := [.int (nI 8)]) (st' := []) (es := [.ref 166, .int (nI 8)]) dMo_live_42 rz11_329 rfl sh_166 rfl rfl rfl (Nat.le_of_ble_eq_true rfl) (Nat.le_of_ble_eq_true rfl) rfl))
theorem bMo_live_45 {E : mEn} {d : Nat} {σ : mSt} {Q : mPost} {a1 : Int32} {s0 : Int32} : WP E d mMo_live 45 [.ref 166, .int a1] [.int s0] σ Q = Q (some (.int s0)) σ := w_iret dMo_live_45 rfl
theorem bMo_live_46 {E : mEn} {d : Nat} {σ : mSt} {Q : mPost} {a1 : Int32} : WP E (d + 1) mMo_live 46 [.ref 166, .int a1] [] σ Q = WP E d mMo_lives 0 [.ref 166, .int a1] [] σ (fun r σ' => WP E (d + 1) mMo_live 51 [.ref 166, .int a1] (r.toList ++ []) σ' Q) := (w_aload_n dMo_live_46 rfl).trans ((w_iload_n dMo_live_47 rfl).trans (w_virt (vs := [.int a1]) (st' := []) (es := [.ref 166, .int a1]) dMo_live_48 rz11_498 rfl sh_166 rfl rfl rfl (Nat.le_of_ble_eq_true rfl) (Nat.le_of_ble_eq_true rfl) rfl))
theorem bMo_live_51 {E : mEn} {d : Nat} {σ : mSt} {Q : mPost} {a1 : Int32} : WP E d mMo_live 51 [.ref 166, .int a1] [] σ Q = (if mOut 0 5 = true then False else (if mOut 1 5 = true then False else (if mOut (nI 2) 5 = true then False else WP E d mMo_live 81 [.ref 166, .int a1] [] (sI (sI (sI σ 183 0 (σ.1 166 41)) 183 1 ((sI σ 183 0 (σ.1 166 41)).1 166 42)) 183 2 ((sI (sI σ 183 0 (σ.1 166 41)) 183 1 ((sI σ 183 0 (σ.1 166 41)).1 166 42)).1 166 43)) Q))) := (w_aload_n dMo_live_51 rfl).trans ((w_getr (r := 183) dMo_live_52 rz11_71 sh_166 rfl).trans ((w_iconst (v := 0) dMo_live_55 rfl).trans ((w_aload_n dMo_live_56 rfl).trans ((w_geti dMo_live_57 rz11_483 sh_166 rfl).trans ((w_iast dMo_live_60 sh_183).trans (ite_c ((w_aload_n dMo_live_61 rfl).trans ((w_getr (r := 183) dMo_live_62 rz11_71 sh_166 rfl).trans ((w_iconst (v := 1) dMo_live_65 rfl).trans ((w_aload_n dMo_live_66 rfl).trans ((w_geti dMo_live_67 rz11_461 sh_166 rfl).trans ((w_iast dMo_live_70 sh_183).trans (ite_c ((w_aload_n dMo_live_71 rfl).trans ((w_getr (r := 183) dMo_live_72 rz11_71 sh_166 rfl).trans ((w_iconst (v := (nI 2)) dMo_live_75 rfl).trans ((w_aload_n dMo_live_76 rfl).trans ((w_geti dMo_live_77 rz11_470 sh_166 rfl).trans ((w_iast dMo_live_80 sh_183).trans (ite_c (rfl)))))))))))))))))))))
theorem bMo_live_81 {E : mEn} {d : Nat} {σ : mSt} {Q : mPost} {a1 : Int32} : WP E d mMo_live 81 [.ref 166, .int a1] [] σ Q = (if mOut (nI 3) 5 = true then False else (if mOut (nI 4) 5 = true then False else Q (some (.int ((sI (sI (sI σ 183 3 (σ.1 166 44)) 183 4 ((sI σ 183 3 (σ.1 166 44)).1 166 45)) 166 37 1).1 166 40))) (sI (sI (sI σ 183 3 (σ.1 166 44)) 183 4 ((sI σ 183 3 (σ.1 166 44)).1 166 45)) 166 37 1))) := (w_aload_n dMo_live_81 rfl).trans ((w_getr (r := 183) dMo_live_82 rz11_71 sh_166 rfl).trans ((w_iconst (v := (nI 3)) dMo_live_85 rfl).trans ((w_aload_n dMo_live_86 rfl).trans ((w_geti dMo_live_87 rz11_464 sh_166 rfl).trans ((w_iast dMo_live_90 sh_183).trans (ite_c ((w_aload_n dMo_live_91 rfl).trans ((w_getr (r := 183) dMo_live_92 rz11_71 sh_166 rfl).trans ((w_iconst (v := (nI 4)) dMo_live_95 rfl).trans ((w_aload_n dMo_live_96 rfl).trans ((w_geti dMo_live_97 rz11_480 sh_166 rfl).trans ((w_iast dMo_live_100 sh_183).trans (ite_c ((w_aload_n dMo_live_101 rfl).trans ((w_iconst (v := 1) dMo_live_102 rfl).trans ((w_putz dMo_live_103 rz11_501 sh_166 rfl rfl rfl (Or.inr rfl)).trans ((w_aload_n dMo_live_106 rfl).trans ((w_geti dMo_live_107 rz11_473 sh_166 rfl).trans (w_iret dMo_live_110 rfl)))))))))))))))))))
theorem dMo_lives_0 : decode (mC mMo_lives) 0 = .ok (.aload_n 0, 1) := by decide +kernel
theorem dMo_lives_1 : decode (mC mMo_lives) 1 = .ok (.iload_n 1, 1) := by decide +kernel
theorem dMo_lives_2 : decode (mC mMo_lives) 2 = .ok (.putfield 454, 3) := by decide +kernel
theorem dMo_lives_5 : decode (mC mMo_lives) 5 = .ok (.aload_n 0, 1) := by decide +kernel
theorem dMo_lives_6 : decode (mC mMo_lives) 6 = .ok (.iconst (0), 1) := by decide +kernel
theorem dMo_lives_7 : decode (mC mMo_lives) 7 = .ok (.putfield 473, 3) := by decide +kernel
theorem dMo_lives_10 : decode (mC mMo_lives) 10 = .ok (.aload_n 0, 1) := by decide +kernel
theorem dMo_lives_11 : decode (mC mMo_lives) 11 = .ok (.iconst (0), 1) := by decide +kernel
theorem dMo_lives_12 : decode (mC mMo_lives) 12 = .ok (.putfield 483, 3) := by decide +kernel
theorem dMo_lives_15 : decode (mC mMo_lives) 15 = .ok (.aload_n 0, 1) := by decide +kernel
theorem dMo_lives_16 : decode (mC mMo_lives) 16 = .ok (.iconst (0), 1) := by decide +kernel
theorem dMo_lives_17 : decode (mC mMo_lives) 17 = .ok (.putfield 461, 3) := by decide +kernel
theorem dMo_lives_20 : decode (mC mMo_lives) 20 = .ok (.aload_n 0, 1) := by decide +kernel
theorem dMo_lives_21 : decode (mC mMo_lives) 21 = .ok (.iconst (0), 1) := by decide +kernel
theorem dMo_lives_22 : decode (mC mMo_lives) 22 = .ok (.putfield 470, 3) := by decide +kernel
theorem dMo_lives_25 : decode (mC mMo_lives) 25 = .ok (.aload_n 0, 1) := by decide +kernel
theorem dMo_lives_26 : decode (mC mMo_lives) 26 = .ok (.iconst (0), 1) := by decide +kernel
theorem dMo_lives_27 : decode (mC mMo_lives) 27 = .ok (.putfield 464, 3) := by decide +kernel
theorem dMo_lives_30 : decode (mC mMo_lives) 30 = .ok (.aload_n 0, 1) := by decide +kernel
theorem dMo_lives_31 : decode (mC mMo_lives) 31 = .ok (.iconst (0), 1) := by decide +kernel
theorem dMo_lives_32 : decode (mC mMo_lives) 32 = .ok (.putfield 480, 3) := by decide +kernel
theorem dMo_lives_35 : decode (mC mMo_lives) 35 = .ok (.aload_n 0, 1) := by decide +kernel
theorem dMo_lives_36 : decode (mC mMo_lives) 36 = .ok (.iconst (0), 1) := by decide +kernel
theorem dMo_lives_37 : decode (mC mMo_lives) 37 = .ok (.putfield 476, 3) := by decide +kernel
theorem dMo_lives_40 : decode (mC mMo_lives) 40 = .ok (.aload_n 0, 1) := by decide +kernel
theorem dMo_lives_41 : decode (mC mMo_lives) 41 = .ok (.iconst (0), 1) := by decide +kernel
theorem dMo_lives_42 : decode (mC mMo_lives) 42 = .ok (.aload_n 0, 1) := by decide +kernel
theorem dMo_lives_43 : decode (mC mMo_lives) 43 = .ok (.getfield 35, 3) := by decide +kernel
theorem dMo_lives_46 : decode (mC mMo_lives) 46 = .ok (.sipush (323), 3) := by decide +kernel
theorem dMo_lives_49 : decode (mC mMo_lives) 49 = .ok (.iaload, 1) := by decide +kernel
theorem dMo_lives_50 : decode (mC mMo_lives) 50 = .ok (.invokevirtual 492, 3) := by decide +kernel
theorem dMo_lives_53 : decode (mC mMo_lives) 53 = .ok (.return_, 1) := by decide +kernel
theorem bMo_lives_0 {E : mEn} {d : Nat} {σ : mSt} {Q : mPost} {a1 : Int32} : WP E (d + 1) mMo_lives 0 [.ref 166, .int a1] [] σ Q = (if mOut (nI 323) 3000 = true then False else WP E d mMo_doAll 0 [.ref 166, .int 0, .int ((sI (sI (sI (sI (sI (sI (sI (sI σ 166 39 a1) 166 40 0) 166 41 0) 166 42 0) 166 43 0) 166 44 0) 166 45 0) 166 38 0).1 171 323), uu] [] (sI (sI (sI (sI (sI (sI (sI (sI σ 166 39 a1) 166 40 0) 166 41 0) 166 42 0) 166 43 0) 166 44 0) 166 45 0) 166 38 0) (fun r σ' => WP E (d + 1) mMo_lives 53 [.ref 166, .int a1] (r.toList ++ []) σ' Q)) := (w_aload_n dMo_lives_0 rfl).trans ((w_iload_n dMo_lives_1 rfl).trans ((w_puti dMo_lives_2 rz11_454 sh_166 rfl rfl rfl).trans ((w_aload_n dMo_lives_5 rfl).trans ((w_iconst (v := 0) dMo_lives_6 rfl).trans ((w_puti dMo_lives_7 rz11_473 sh_166 rfl rfl rfl).trans ((w_aload_n dMo_lives_10 rfl).trans ((w_iconst (v := 0) dMo_lives_11 rfl).trans ((w_puti dMo_lives_12 rz11_483 sh_166 rfl rfl rfl).trans ((w_aload_n dMo_lives_15 rfl).trans ((w_iconst (v := 0) dMo_lives_16 rfl).trans ((w_puti dMo_lives_17 rz11_461 sh_166 rfl rfl rfl).trans ((w_aload_n dMo_lives_20 rfl).trans ((w_iconst (v := 0) dMo_lives_21 rfl).trans ((w_puti dMo_lives_22 rz11_470 sh_166 rfl rfl rfl).trans ((w_aload_n dMo_lives_25 rfl).trans ((w_iconst (v := 0) dMo_lives_26 rfl).trans ((w_puti dMo_lives_27 rz11_464 sh_166 rfl rfl rfl).trans ((w_aload_n dMo_lives_30 rfl).trans ((w_iconst (v := 0) dMo_lives_31 rfl).trans ((w_puti dMo_lives_32 rz11_480 sh_166 rfl rfl rfl).trans ((w_aload_n dMo_lives_35 rfl).trans ((w_iconst (v := 0) dMo_lives_36 rfl).trans ((w_putz dMo_lives_37 rz11_476 sh_166 rfl rfl rfl (Or.inl rfl)).trans ((w_aload_n dMo_lives_40 rfl).trans ((w_iconst (v := 0) dMo_lives_41 rfl).trans ((w_aload_n dMo_lives_42 rfl).trans ((w_getr (r := 171) dMo_lives_43 rz11_35 sh_166 rfl).trans ((w_sipush (v := (nI 323)) dMo_lives_46 rfl).trans ((w_iald dMo_lives_49 sh_171 (by decide)).trans (ite_c (w_virt (vs := [.int 0, .int ((sI (sI (sI (sI (sI (sI (sI (sI σ 166 39 a1) 166 40 0) 166 41 0) 166 42 0) 166 43 0) 166 44 0) 166 45 0) 166 38 0).1 171 323)]) (st' := []) (es := [.ref 166, .int 0, .int ((sI (sI (sI (sI (sI (sI (sI (sI σ 166 39 a1) 166 40 0) 166 41 0) 166 42 0) 166 43 0) 166 44 0) 166 45 0) 166 38 0).1 171 323), uu]) dMo_lives_50 rz11_492 rfl sh_166 rfl rfl rfl (Nat.le_of_ble_eq_true rfl) (Nat.le_of_ble_eq_true rfl) rfl)))))))))))))))))))))))))))))))
theorem bMo_lives_53 {E : mEn} {d : Nat} {σ : mSt} {Q : mPost} {a1 : Int32} : WP E d mMo_lives 53 [.ref 166, .int a1] [] σ Q = Q none σ := w_vret dMo_lives_53 rfl
theorem dMo_doAll_0 : decode (mC mMo_doAll) 0 = .ok (.iload_n 1, 1) := by decide +kernel
theorem dMo_doAll_1 : decode (mC mMo_doAll) 1 = .ok (.istore_n 3, 1) := by decide +kernel
theorem dMo_doAll_2 : decode (mC mMo_doAll) 2 = .ok (.iload_n 3, 1) := by decide +kernel
theorem dMo_doAll_3 : decode (mC mMo_doAll) 3 = .ok (.iload_n 2, 1) := by decide +kernel
theorem dMo_doAll_4 : decode (mC mMo_doAll) 4 = .ok (.if_icmp .ge (35), 3) := by decide +kernel
theorem dMo_doAll_7 : decode (mC mMo_doAll) 7 = .ok (.aload_n 0, 1) := by decide +kernel
theorem dMo_doAll_8 : decode (mC mMo_doAll) 8 = .ok (.getfield 476, 3) := by decide +kernel
theorem dMo_doAll_11 : decode (mC mMo_doAll) 11 = .ok (.ifCond .ne (28), 3) := by decide +kernel
theorem dMo_doAll_14 : decode (mC mMo_doAll) 14 = .ok (.aload_n 0, 1) := by decide +kernel
theorem dMo_doAll_15 : decode (mC mMo_doAll) 15 = .ok (.iload_n 3, 1) := by decide +kernel
theorem dMo_doAll_16 : decode (mC mMo_doAll) 16 = .ok (.invokevirtual 495, 3) := by decide +kernel
theorem dMo_doAll_19 : decode (mC mMo_doAll) 19 = .ok (.aload_n 0, 1) := by decide +kernel
theorem dMo_doAll_20 : decode (mC mMo_doAll) 20 = .ok (.getfield 35, 3) := by decide +kernel
theorem dMo_doAll_23 : decode (mC mMo_doAll) 23 = .ok (.sipush (324), 3) := by decide +kernel
theorem dMo_doAll_26 : decode (mC mMo_doAll) 26 = .ok (.bipush (9), 2) := by decide +kernel
theorem dMo_doAll_28 : decode (mC mMo_doAll) 28 = .ok (.iload_n 3, 1) := by decide +kernel
theorem dMo_doAll_29 : decode (mC mMo_doAll) 29 = .ok (.imul, 1) := by decide +kernel
theorem dMo_doAll_30 : decode (mC mMo_doAll) 30 = .ok (.iadd, 1) := by decide +kernel
theorem dMo_doAll_31 : decode (mC mMo_doAll) 31 = .ok (.bipush (8), 2) := by decide +kernel
theorem dMo_doAll_33 : decode (mC mMo_doAll) 33 = .ok (.iadd, 1) := by decide +kernel
theorem dMo_doAll_34 : decode (mC mMo_doAll) 34 = .ok (.iaload, 1) := by decide +kernel
theorem dMo_doAll_35 : decode (mC mMo_doAll) 35 = .ok (.istore_n 3, 1) := by decide +kernel
theorem dMo_doAll_36 : decode (mC mMo_doAll) 36 = .ok (.goto (-34), 3) := by decide +kernel
theorem dMo_doAll_39 : decode (mC mMo_doAll) 39 = .ok (.return_, 1) := by decide +kernel
theorem bMo_doAll_0 {E : mEn} {d : Nat} {σ : mSt} {Q : mPost} {a1 : Int32} {a2 : Int32} {u3 : Value} : WP E d mMo_doAll 0 [.ref 166, .int a1, .int a2, u3] [] σ Q = WP E d mMo_doAll 2 [.ref 166, .int a1, .int a2, .int a1] [] σ Q := (w_iload_n dMo_doAll_0 rfl).trans (w_istore_n (ls' := [.ref 166, .int a1, .int a2, .int a1]) dMo_doAll_1 (Nat.le_of_ble_eq_true rfl) rfl)
theorem bMo_doAll_2 {E : mEn} {d : Nat} {σ : mSt} {Q : mPost} {a1 : Int32} {a2 : Int32} {a3 : Int32} : WP E d mMo_doAll 2 [.ref 166, .int a1, .int a2, .int a3] [] σ Q = (if a2 ≤ a3 then WP E d mMo_doAll 39 [.ref 166, .int a1, .int a2, .int a3] [] σ Q else WP E d mMo_doAll 7 [.ref 166, .int a1, .int a2, .int a3] [] σ Q) := (w_iload_n dMo_doAll_2 rfl).trans ((w_iload_n dMo_doAll_3 rfl).trans (w_icmpge (t := 39) dMo_doAll_4 (by decide)))
theorem bMo_doAll_7 {E : mEn} {d : Nat} {σ : mSt} {Q : mPost} {a1 : Int32} {a2 : Int32} {a3 : Int32} : WP E d mMo_doAll 7 [.ref 166, .int a1, .int a2, .int a3] [] σ Q = (if ¬ (σ.1 166 38) = 0 then WP E d mMo_doAll 39 [.ref 166, .int a1, .int a2, .int a3] [] σ Q else WP E d mMo_doAll 14 [.ref 166, .int a1, .int a2, .int a3] [] σ Q) := (w_aload_n dMo_doAll_7 rfl).trans ((w_geti dMo_doAll_8 rz11_476 sh_166 rfl).trans (w_ifne (t := 39) dMo_doAll_11 (by decide)))
theorem bMo_doAll_14 {E : mEn} {d : Nat} {σ : mSt} {Q : mPost} {a1 : Int32} {a2 : Int32} {a3 : Int32} : WP E (d + 1) mMo_doAll 14 [.ref 166, .int a1, .int a2, .int a3] [] σ Q = WP E d mMo_doOne 0 [.ref 166, .int a3, uu, uu, uu] [] σ (fun r σ' => WP E (d + 1) mMo_doAll 19 [.ref 166, .int a1, .int a2, .int a3] (r.toList ++ []) σ' Q) := (w_aload_n dMo_doAll_14 rfl).trans ((w_iload_n dMo_doAll_15 rfl).trans (w_virt (vs := [.int a3]) (st' := []) (es := [.ref 166, .int a3, uu, uu, uu]) dMo_doAll_16 rz11_495 rfl sh_166 rfl rfl rfl (Nat.le_of_ble_eq_true rfl) (Nat.le_of_ble_eq_true rfl) rfl))
theorem bMo_doAll_19 {E : mEn} {d : Nat} {σ : mSt} {Q : mPost} {a1 : Int32} {a2 : Int32} {a3 : Int32} : WP E d mMo_doAll 19 [.ref 166, .int a1, .int a2, .int a3] [] σ Q = (if mOut (((nI 324) + ((nI 9) * a3)) + (nI 8)) 3000 = true then False else WP E d mMo_doAll 2 [.ref 166, .int a1, .int a2, .int (σ.1 171 (((nI 324) + ((nI 9) * a3)) + (nI 8)).toNatClampNeg)] [] σ Q) := (w_aload_n dMo_doAll_19 rfl).trans ((w_getr (r := 171) dMo_doAll_20 rz11_35 sh_166 rfl).trans ((w_sipush (v := (nI 324)) dMo_doAll_23 rfl).trans ((w_bipush (v := (nI 9)) dMo_doAll_26 rfl).trans ((w_iload_n dMo_doAll_28 rfl).trans ((w_imul dMo_doAll_29).trans ((w_iadd dMo_doAll_30).trans ((w_bipush (v := (nI 8)) dMo_doAll_31 rfl).trans ((w_iadd dMo_doAll_33).trans ((w_iald dMo_doAll_34 sh_171 (by decide)).trans (ite_c ((w_istore_n (ls' := [.ref 166, .int a1, .int a2, .int (σ.1 171 (((nI 324) + ((nI 9) * a3)) + (nI 8)).toNatClampNeg)]) dMo_doAll_35 (Nat.le_of_ble_eq_true rfl) rfl).trans (w_goto (t := 2) dMo_doAll_36 (by decide)))))))))))))
theorem bMo_doAll_39 {E : mEn} {d : Nat} {σ : mSt} {Q : mPost} {a1 : Int32} {a2 : Int32} {a3 : Int32} : WP E d mMo_doAll 39 [.ref 166, .int a1, .int a2, .int a3] [] σ Q = Q none σ := w_vret dMo_doAll_39 rfl
theorem dMo_doOne_0 : decode (mC mMo_doOne) 0 = .ok (.aload_n 0, 1) := by decide +kernel
theorem dMo_doOne_1 : decode (mC mMo_doOne) 1 = .ok (.getfield 473, 3) := by decide +kernel
theorem dMo_doOne_4 : decode (mC mMo_doOne) 4 = .ok (.sipush (300), 3) := by decide +kernel
theorem dMo_doOne_7 : decode (mC mMo_doOne) 7 = .ok (.if_icmp .ne (14), 3) := by decide +kernel
theorem dMo_doOne_10 : decode (mC mMo_doOne) 10 = .ok (.aload_n 0, 1) := by decide +kernel
theorem dMo_doOne_11 : decode (mC mMo_doOne) 11 = .ok (.iconst (1), 1) := by decide +kernel
theorem dMo_doOne_12 : decode (mC mMo_doOne) 12 = .ok (.putfield 476, 3) := by decide +kernel
theorem dMo_doOne_15 : decode (mC mMo_doOne) 15 = .ok (.aload_n 0, 1) := by decide +kernel
theorem dMo_doOne_16 : decode (mC mMo_doOne) 16 = .ok (.iconst (1), 1) := by decide +kernel
theorem dMo_doOne_17 : decode (mC mMo_doOne) 17 = .ok (.putfield 480, 3) := by decide +kernel
theorem dMo_doOne_20 : decode (mC mMo_doOne) 20 = .ok (.return_, 1) := by decide +kernel
theorem dMo_doOne_21 : decode (mC mMo_doOne) 21 = .ok (.aload_n 0, 1) := by decide +kernel
theorem dMo_doOne_22 : decode (mC mMo_doOne) 22 = .ok (.dup, 1) := by decide +kernel
theorem dMo_doOne_23 : decode (mC mMo_doOne) 23 = .ok (.getfield 473, 3) := by decide +kernel
theorem dMo_doOne_26 : decode (mC mMo_doOne) 26 = .ok (.iconst (1), 1) := by decide +kernel
theorem dMo_doOne_27 : decode (mC mMo_doOne) 27 = .ok (.iadd, 1) := by decide +kernel
theorem dMo_doOne_28 : decode (mC mMo_doOne) 28 = .ok (.putfield 473, 3) := by decide +kernel
theorem dMo_doOne_31 : decode (mC mMo_doOne) 31 = .ok (.sipush (324), 3) := by decide +kernel
theorem dMo_doOne_34 : decode (mC mMo_doOne) 34 = .ok (.bipush (9), 2) := by decide +kernel
theorem dMo_doOne_36 : decode (mC mMo_doOne) 36 = .ok (.iload_n 1, 1) := by decide +kernel
theorem dMo_doOne_37 : decode (mC mMo_doOne) 37 = .ok (.imul, 1) := by decide +kernel
theorem dMo_doOne_38 : decode (mC mMo_doOne) 38 = .ok (.iadd, 1) := by decide +kernel
theorem dMo_doOne_39 : decode (mC mMo_doOne) 39 = .ok (.istore_n 2, 1) := by decide +kernel
theorem dMo_doOne_40 : decode (mC mMo_doOne) 40 = .ok (.aload_n 0, 1) := by decide +kernel
theorem dMo_doOne_41 : decode (mC mMo_doOne) 41 = .ok (.getfield 35, 3) := by decide +kernel
theorem dMo_doOne_44 : decode (mC mMo_doOne) 44 = .ok (.iload_n 2, 1) := by decide +kernel
theorem dMo_doOne_45 : decode (mC mMo_doOne) 45 = .ok (.iaload, 1) := by decide +kernel
theorem dMo_doOne_46 : decode (mC mMo_doOne) 46 = .ok (.istore_n 3, 1) := by decide +kernel
theorem dMo_doOne_47 : decode (mC mMo_doOne) 47 = .ok (.iload_n 3, 1) := by decide +kernel
theorem dMo_doOne_48 : decode (mC mMo_doOne) 48 = .ok (.bipush (6), 2) := by decide +kernel
theorem dMo_doOne_50 : decode (mC mMo_doOne) 50 = .ok (.if_icmp .ge (28), 3) := by decide +kernel
theorem dMo_doOne_53 : decode (mC mMo_doOne) 53 = .ok (.aload_n 0, 1) := by decide +kernel
theorem dMo_doOne_54 : decode (mC mMo_doOne) 54 = .ok (.dup, 1) := by decide +kernel
theorem dMo_doOne_55 : decode (mC mMo_doOne) 55 = .ok (.getfield 483, 3) := by decide +kernel
theorem dMo_doOne_58 : decode (mC mMo_doOne) 58 = .ok (.aload_n 0, 1) := by decide +kernel
theorem dMo_doOne_59 : decode (mC mMo_doOne) 59 = .ok (.iload_n 2, 1) := by decide +kernel
theorem dMo_doOne_60 : decode (mC mMo_doOne) 60 = .ok (.invokevirtual 486, 3) := by decide +kernel
theorem dMo_doOne_63 : decode (mC mMo_doOne) 63 = .ok (.ifCond .eq (7), 3) := by decide +kernel
theorem dMo_doOne_66 : decode (mC mMo_doOne) 66 = .ok (.iconst (0), 1) := by decide +kernel
theorem dMo_doOne_67 : decode (mC mMo_doOne) 67 = .ok (.goto (4), 3) := by decide +kernel
theorem dMo_doOne_70 : decode (mC mMo_doOne) 70 = .ok (.iconst (1), 1) := by decide +kernel
theorem dMo_doOne_71 : decode (mC mMo_doOne) 71 = .ok (.iadd, 1) := by decide +kernel
theorem dMo_doOne_72 : decode (mC mMo_doOne) 72 = .ok (.putfield 483, 3) := by decide +kernel
theorem dMo_doOne_75 : decode (mC mMo_doOne) 75 = .ok (.goto (101), 3) := by decide +kernel
theorem dMo_doOne_78 : decode (mC mMo_doOne) 78 = .ok (.iload_n 3, 1) := by decide +kernel
theorem dMo_doOne_79 : decode (mC mMo_doOne) 79 = .ok (.bipush (6), 2) := by decide +kernel
theorem dMo_doOne_81 : decode (mC mMo_doOne) 81 = .ok (.if_icmp .ne (30), 3) := by decide +kernel
theorem dMo_doOne_84 : decode (mC mMo_doOne) 84 = .ok (.aload_n 0, 1) := by decide +kernel
theorem dMo_doOne_85 : decode (mC mMo_doOne) 85 = .ok (.iload_n 2, 1) := by decide +kernel
theorem dMo_doOne_86 : decode (mC mMo_doOne) 86 = .ok (.invokevirtual 489, 3) := by decide +kernel
theorem dMo_doOne_89 : decode (mC mMo_doOne) 89 = .ok (.ifCond .eq (22), 3) := by decide +kernel
theorem dMo_doOne_92 : decode (mC mMo_doOne) 92 = .ok (.aload_n 0, 1) := by decide +kernel
theorem dMo_doOne_93 : decode (mC mMo_doOne) 93 = .ok (.iload_n 1, 1) := by decide +kernel
theorem dMo_doOne_94 : decode (mC mMo_doOne) 94 = .ok (.iconst (1), 1) := by decide +kernel
theorem dMo_doOne_95 : decode (mC mMo_doOne) 95 = .ok (.iadd, 1) := by decide +kernel
theorem dMo_doOne_96 : decode (mC mMo_doOne) 96 = .ok (.aload_n 0, 1) := by decide +kernel
theorem dMo_doOne_97 : decode (mC mMo_doOne) 97 = .ok (.getfield 35, 3) := by decide +kernel
theorem dMo_doOne_100 : decode (mC mMo_doOne) 100 = .ok (.iload_n 2, 1) := by decide +kernel
theorem dMo_doOne_101 : decode (mC mMo_doOne) 101 = .ok (.bipush (8), 2) := by decide +kernel
theorem dMo_doOne_103 : decode (mC mMo_doOne) 103 = .ok (.iadd, 1) := by decide +kernel
theorem dMo_doOne_104 : decode (mC mMo_doOne) 104 = .ok (.iaload, 1) := by decide +kernel
theorem dMo_doOne_105 : decode (mC mMo_doOne) 105 = .ok (.invokevirtual 492, 3) := by decide +kernel
theorem dMo_doOne_108 : decode (mC mMo_doOne) 108 = .ok (.goto (68), 3) := by decide +kernel
theorem dMo_doOne_111 : decode (mC mMo_doOne) 111 = .ok (.iload_n 3, 1) := by decide +kernel
theorem dMo_doOne_112 : decode (mC mMo_doOne) 112 = .ok (.bipush (7), 2) := by decide +kernel
theorem dMo_doOne_114 : decode (mC mMo_doOne) 114 = .ok (.if_icmp .ne (51), 3) := by decide +kernel
theorem dMo_doOne_117 : decode (mC mMo_doOne) 117 = .ok (.iconst (0), 1) := by decide +kernel
theorem dMo_doOne_118 : decode (mC mMo_doOne) 118 = .ok (.istore 4, 2) := by decide +kernel
theorem dMo_doOne_120 : decode (mC mMo_doOne) 120 = .ok (.iload 4, 2) := by decide +kernel
theorem dMo_doOne_122 : decode (mC mMo_doOne) 122 = .ok (.aload_n 0, 1) := by decide +kernel
theorem dMo_doOne_123 : decode (mC mMo_doOne) 123 = .ok (.getfield 35, 3) := by decide +kernel
theorem dMo_doOne_126 : decode (mC mMo_doOne) 126 = .ok (.iload_n 2, 1) := by decide +kernel
theorem dMo_doOne_127 : decode (mC mMo_doOne) 127 = .ok (.iconst (1), 1) := by decide +kernel
theorem dMo_doOne_128 : decode (mC mMo_doOne) 128 = .ok (.iadd, 1) := by decide +kernel
theorem dMo_doOne_129 : decode (mC mMo_doOne) 129 = .ok (.iaload, 1) := by decide +kernel
theorem dMo_doOne_130 : decode (mC mMo_doOne) 130 = .ok (.if_icmp .ge (32), 3) := by decide +kernel
theorem dMo_doOne_133 : decode (mC mMo_doOne) 133 = .ok (.aload_n 0, 1) := by decide +kernel
theorem dMo_doOne_134 : decode (mC mMo_doOne) 134 = .ok (.getfield 476, 3) := by decide +kernel
theorem dMo_doOne_137 : decode (mC mMo_doOne) 137 = .ok (.ifCond .ne (25), 3) := by decide +kernel
theorem dMo_doOne_140 : decode (mC mMo_doOne) 140 = .ok (.aload_n 0, 1) := by decide +kernel
theorem dMo_doOne_141 : decode (mC mMo_doOne) 141 = .ok (.iload_n 1, 1) := by decide +kernel
theorem dMo_doOne_142 : decode (mC mMo_doOne) 142 = .ok (.iconst (1), 1) := by decide +kernel
theorem dMo_doOne_143 : decode (mC mMo_doOne) 143 = .ok (.iadd, 1) := by decide +kernel
theorem dMo_doOne_144 : decode (mC mMo_doOne) 144 = .ok (.aload_n 0, 1) := by decide +kernel
theorem dMo_doOne_145 : decode (mC mMo_doOne) 145 = .ok (.getfield 35, 3) := by decide +kernel
theorem dMo_doOne_148 : decode (mC mMo_doOne) 148 = .ok (.iload_n 2, 1) := by decide +kernel
theorem dMo_doOne_149 : decode (mC mMo_doOne) 149 = .ok (.bipush (8), 2) := by decide +kernel
theorem dMo_doOne_151 : decode (mC mMo_doOne) 151 = .ok (.iadd, 1) := by decide +kernel
theorem dMo_doOne_152 : decode (mC mMo_doOne) 152 = .ok (.iaload, 1) := by decide +kernel
theorem dMo_doOne_153 : decode (mC mMo_doOne) 153 = .ok (.invokevirtual 492, 3) := by decide +kernel
theorem dMo_doOne_156 : decode (mC mMo_doOne) 156 = .ok (.iinc 4 (1), 3) := by decide +kernel
theorem dMo_doOne_159 : decode (mC mMo_doOne) 159 = .ok (.goto (-39), 3) := by decide +kernel
theorem dMo_doOne_162 : decode (mC mMo_doOne) 162 = .ok (.goto (14), 3) := by decide +kernel
theorem dMo_doOne_165 : decode (mC mMo_doOne) 165 = .ok (.iload_n 3, 1) := by decide +kernel
theorem dMo_doOne_166 : decode (mC mMo_doOne) 166 = .ok (.bipush (7), 2) := by decide +kernel
theorem dMo_doOne_168 : decode (mC mMo_doOne) 168 = .ok (.if_icmp .le (8), 3) := by decide +kernel
theorem dMo_doOne_171 : decode (mC mMo_doOne) 171 = .ok (.aload_n 0, 1) := by decide +kernel
theorem dMo_doOne_172 : decode (mC mMo_doOne) 172 = .ok (.iconst (1), 1) := by decide +kernel
theorem dMo_doOne_173 : decode (mC mMo_doOne) 173 = .ok (.putfield 476, 3) := by decide +kernel
theorem dMo_doOne_176 : decode (mC mMo_doOne) 176 = .ok (.return_, 1) := by decide +kernel
theorem bMo_doOne_0 {E : mEn} {d : Nat} {σ : mSt} {Q : mPost} {a1 : Int32} {u2 : Value} {u3 : Value} {u4 : Value} : WP E d mMo_doOne 0 [.ref 166, .int a1, u2, u3, u4] [] σ Q = (if ¬ (σ.1 166 40) = (nI 300) then WP E d mMo_doOne 21 [.ref 166, .int a1, u2, u3, u4] [] σ Q else WP E d mMo_doOne 10 [.ref 166, .int a1, u2, u3, u4] [] σ Q) := (w_aload_n dMo_doOne_0 rfl).trans ((w_geti dMo_doOne_1 rz11_473 sh_166 rfl).trans ((w_sipush (v := (nI 300)) dMo_doOne_4 rfl).trans (w_icmpne (t := 21) dMo_doOne_7 (by decide))))
theorem bMo_doOne_10 {E : mEn} {d : Nat} {σ : mSt} {Q : mPost} {a1 : Int32} {u2 : Value} {u3 : Value} {u4 : Value} : WP E d mMo_doOne 10 [.ref 166, .int a1, u2, u3, u4] [] σ Q = Q none (sI (sI σ 166 38 1) 166 45 1) := (w_aload_n dMo_doOne_10 rfl).trans ((w_iconst (v := 1) dMo_doOne_11 rfl).trans ((w_putz dMo_doOne_12 rz11_476 sh_166 rfl rfl rfl (Or.inr rfl)).trans ((w_aload_n dMo_doOne_15 rfl).trans ((w_iconst (v := 1) dMo_doOne_16 rfl).trans ((w_puti dMo_doOne_17 rz11_480 sh_166 rfl rfl rfl).trans (w_vret dMo_doOne_20 rfl))))))
theorem bMo_doOne_21 {E : mEn} {d : Nat} {σ : mSt} {Q : mPost} {a1 : Int32} {u2 : Value} {u3 : Value} {u4 : Value} : WP E d mMo_doOne 21 [.ref 166, .int a1, u2, u3, u4] [] σ Q = (if mOut ((nI 324) + ((nI 9) * a1)) 3000 = true then False else (if (nI 6) ≤ ((sI σ 166 40 ((σ.1 166 40) + 1)).1 171 ((nI 324) + ((nI 9) * a1)).toNatClampNeg) then WP E d mMo_doOne 78 [.ref 166, .int a1, .int ((nI 324) + ((nI 9) * a1)), .int ((sI σ 166 40 ((σ.1 166 40) + 1)).1 171 ((nI 324) + ((nI 9) * a1)).toNatClampNeg), u4] [] (sI σ 166 40 ((σ.1 166 40) + 1)) Q else WP E d mMo_doOne 53 [.ref 166, .int a1, .int ((nI 324) + ((nI 9) * a1)), .int ((sI σ 166 40 ((σ.1 166 40) + 1)).1 171 ((nI 324) + ((nI 9) * a1)).toNatClampNeg), u4] [] (sI σ 166 40 ((σ.1 166 40) + 1)) Q)) := (w_aload_n dMo_doOne_21 rfl).trans ((w_dup dMo_doOne_22 rfl).trans ((w_geti dMo_doOne_23 rz11_473 sh_166 rfl).trans ((w_iconst (v := 1) dMo_doOne_26 rfl).trans ((w_iadd dMo_doOne_27).trans ((w_puti dMo_doOne_28 rz11_473 sh_166 rfl rfl rfl).trans ((w_sipush (v := (nI 324)) dMo_doOne_31 rfl).trans ((w_bipush (v := (nI 9)) dMo_doOne_34 rfl).trans ((w_iload_n dMo_doOne_36 rfl).trans ((w_imul dMo_doOne_37).trans ((w_iadd dMo_doOne_38).trans ((w_istore_n (ls' := [.ref 166, .int a1, .int ((nI 324) + ((nI 9) * a1)), u3, u4]) dMo_doOne_39 (Nat.le_of_ble_eq_true rfl) rfl).trans ((w_aload_n dMo_doOne_40 rfl).trans ((w_getr (r := 171) dMo_doOne_41 rz11_35 sh_166 rfl).trans ((w_iload_n dMo_doOne_44 rfl).trans ((w_iald dMo_doOne_45 sh_171 (by decide)).trans (ite_c ((w_istore_n (ls' := [.ref 166, .int a1, .int ((nI 324) + ((nI 9) * a1)), .int ((sI σ 166 40 ((σ.1 166 40) + 1)).1 171 ((nI 324) + ((nI 9) * a1)).toNatClampNeg), u4]) dMo_doOne_46 (Nat.le_of_ble_eq_true rfl) rfl).trans ((w_iload_n dMo_doOne_47 rfl).trans ((w_bipush (v := (nI 6)) dMo_doOne_48 rfl).trans (w_icmpge (t := 78) dMo_doOne_50 (by decide)))))))))))))))))))))
theorem bMo_doOne_53 {E : mEn} {d : Nat} {σ : mSt} {Q : mPost} {a1 : Int32} {a2 : Int32} {a3 : Int32} {u4 : Value} : WP E (d + 1) mMo_doOne 53 [.ref 166, .int a1, .int a2, .int a3, u4] [] σ Q = WP E d mMo_does 0 [.ref 166, .int a2, uu, uu] [] σ (fun r σ' => WP E (d + 1) mMo_doOne 63 [.ref 166, .int a1, .int a2, .int a3, u4] (r.toList ++ [.int (σ.1 166 41), .ref 166]) σ' Q) := (w_aload_n dMo_doOne_53 rfl).trans ((w_dup dMo_doOne_54 rfl).trans ((w_geti dMo_doOne_55 rz11_483 sh_166 rfl).trans ((w_aload_n dMo_doOne_58 rfl).trans ((w_iload_n dMo_doOne_59 rfl).trans (w_virt (vs := [.int a2]) (st' := [.int (σ.1 166 41), .ref 166]) (es := [.ref 166, .int a2, uu, uu]) dMo_doOne_60 rz11_486 rfl sh_166 rfl rfl rfl (Nat.le_of_ble_eq_true rfl) (Nat.le_of_ble_eq_true rfl) rfl)))))
theorem bMo_doOne_63 {E : mEn} {d : Nat} {σ : mSt} {Q : mPost} {a1 : Int32} {a2 : Int32} {a3 : Int32} {u4 : Value} {s0 : Int32} {s1 : Int32} : WP E d mMo_doOne 63 [.ref 166, .int a1, .int a2, .int a3, u4] [.int s0, .int s1, .ref 166] σ Q = (if s0 = 0 then WP E d mMo_doOne 70 [.ref 166, .int a1, .int a2, .int a3, u4] [.int s1, .ref 166] σ Q else WP E d mMo_doOne 66 [.ref 166, .int a1, .int a2, .int a3, u4] [.int s1, .ref 166] σ Q) := w_ifeq (t := 70) dMo_doOne_63 (by decide)
theorem bMo_doOne_66 {E : mEn} {d : Nat} {σ : mSt} {Q : mPost} {a1 : Int32} {a2 : Int32} {a3 : Int32} {u4 : Value} {s0 : Int32} : WP E d mMo_doOne 66 [.ref 166, .int a1, .int a2, .int a3, u4] [.int s0, .ref 166] σ Q = WP E d mMo_doOne 71 [.ref 166, .int a1, .int a2, .int a3, u4] [.int 0, .int s0, .ref 166] σ Q := (w_iconst (v := 0) dMo_doOne_66 rfl).trans (w_goto (t := 71) dMo_doOne_67 (by decide))
theorem bMo_doOne_70 {E : mEn} {d : Nat} {σ : mSt} {Q : mPost} {a1 : Int32} {a2 : Int32} {a3 : Int32} {u4 : Value} {s0 : Int32} : WP E d mMo_doOne 70 [.ref 166, .int a1, .int a2, .int a3, u4] [.int s0, .ref 166] σ Q = WP E d mMo_doOne 71 [.ref 166, .int a1, .int a2, .int a3, u4] [.int 1, .int s0, .ref 166] σ Q := w_iconst (v := 1) dMo_doOne_70 rfl
theorem bMo_doOne_71 {E : mEn} {d : Nat} {σ : mSt} {Q : mPost} {a1 : Int32} {a2 : Int32} {a3 : Int32} {u4 : Value} {s0 : Int32} {s1 : Int32} : WP E d mMo_doOne 71 [.ref 166, .int a1, .int a2, .int a3, u4] [.int s0, .int s1, .ref 166] σ Q = WP E d mMo_doOne 176 [.ref 166, .int a1, .int a2, .int a3, u4] [] (sI σ 166 41 (s1 + s0)) Q := (w_iadd dMo_doOne_71).trans ((w_puti dMo_doOne_72 rz11_483 sh_166 rfl rfl rfl).trans (w_goto (t := 176) dMo_doOne_75 (by decide)))
theorem bMo_doOne_78 {E : mEn} {d : Nat} {σ : mSt} {Q : mPost} {a1 : Int32} {a2 : Int32} {a3 : Int32} {u4 : Value} : WP E d mMo_doOne 78 [.ref 166, .int a1, .int a2, .int a3, u4] [] σ Q = (if ¬ a3 = (nI 6) then WP E d mMo_doOne 111 [.ref 166, .int a1, .int a2, .int a3, u4] [] σ Q else WP E d mMo_doOne 84 [.ref 166, .int a1, .int a2, .int a3, u4] [] σ Q) := (w_iload_n dMo_doOne_78 rfl).trans ((w_bipush (v := (nI 6)) dMo_doOne_79 rfl).trans (w_icmpne (t := 111) dMo_doOne_81 (by decide)))
theorem bMo_doOne_84 {E : mEn} {d : Nat} {σ : mSt} {Q : mPost} {a1 : Int32} {a2 : Int32} {a3 : Int32} {u4 : Value} : WP E (d + 1) mMo_doOne 84 [.ref 166, .int a1, .int a2, .int a3, u4] [] σ Q = WP E d mMo_isSo 0 [.ref 166, .int a2, uu, uu] [] σ (fun r σ' => WP E (d + 1) mMo_doOne 89 [.ref 166, .int a1, .int a2, .int a3, u4] (r.toList ++ []) σ' Q) := (w_aload_n dMo_doOne_84 rfl).trans ((w_iload_n dMo_doOne_85 rfl).trans (w_virt (vs := [.int a2]) (st' := []) (es := [.ref 166, .int a2, uu, uu]) dMo_doOne_86 rz11_489 rfl sh_166 rfl rfl rfl (Nat.le_of_ble_eq_true rfl) (Nat.le_of_ble_eq_true rfl) rfl))
theorem bMo_doOne_89 {E : mEn} {d : Nat} {σ : mSt} {Q : mPost} {a1 : Int32} {a2 : Int32} {a3 : Int32} {u4 : Value} {s0 : Int32} : WP E d mMo_doOne 89 [.ref 166, .int a1, .int a2, .int a3, u4] [.int s0] σ Q = (if s0 = 0 then WP E d mMo_doOne 111 [.ref 166, .int a1, .int a2, .int a3, u4] [] σ Q else WP E d mMo_doOne 92 [.ref 166, .int a1, .int a2, .int a3, u4] [] σ Q) := w_ifeq (t := 111) dMo_doOne_89 (by decide)
theorem bMo_doOne_92 {E : mEn} {d : Nat} {σ : mSt} {Q : mPost} {a1 : Int32} {a2 : Int32} {a3 : Int32} {u4 : Value} : WP E (d + 1) mMo_doOne 92 [.ref 166, .int a1, .int a2, .int a3, u4] [] σ Q = (if mOut (a2 + (nI 8)) 3000 = true then False else WP E d mMo_doAll 0 [.ref 166, .int (a1 + 1), .int (σ.1 171 (a2 + (nI 8)).toNatClampNeg), uu] [] σ (fun r σ' => WP E (d + 1) mMo_doOne 108 [.ref 166, .int a1, .int a2, .int a3, u4] (r.toList ++ []) σ' Q)) := (w_aload_n dMo_doOne_92 rfl).trans ((w_iload_n dMo_doOne_93 rfl).trans ((w_iconst (v := 1) dMo_doOne_94 rfl).trans ((w_iadd dMo_doOne_95).trans ((w_aload_n dMo_doOne_96 rfl).trans ((w_getr (r := 171) dMo_doOne_97 rz11_35 sh_166 rfl).trans ((w_iload_n dMo_doOne_100 rfl).trans ((w_bipush (v := (nI 8)) dMo_doOne_101 rfl).trans ((w_iadd dMo_doOne_103).trans ((w_iald dMo_doOne_104 sh_171 (by decide)).trans (ite_c (w_virt (vs := [.int (a1 + 1), .int (σ.1 171 (a2 + (nI 8)).toNatClampNeg)]) (st' := []) (es := [.ref 166, .int (a1 + 1), .int (σ.1 171 (a2 + (nI 8)).toNatClampNeg), uu]) dMo_doOne_105 rz11_492 rfl sh_166 rfl rfl rfl (Nat.le_of_ble_eq_true rfl) (Nat.le_of_ble_eq_true rfl) rfl)))))))))))
theorem bMo_doOne_108 {E : mEn} {d : Nat} {σ : mSt} {Q : mPost} {a1 : Int32} {a2 : Int32} {a3 : Int32} {u4 : Value} : WP E d mMo_doOne 108 [.ref 166, .int a1, .int a2, .int a3, u4] [] σ Q = WP E d mMo_doOne 176 [.ref 166, .int a1, .int a2, .int a3, u4] [] σ Q := w_goto (t := 176) dMo_doOne_108 (by decide)
theorem bMo_doOne_111 {E : mEn} {d : Nat} {σ : mSt} {Q : mPost} {a1 : Int32} {a2 : Int32} {a3 : Int32} {u4 : Value} : WP E d mMo_doOne 111 [.ref 166, .int a1, .int a2, .int a3, u4] [] σ Q = (if ¬ a3 = (nI 7) then WP E d mMo_doOne 165 [.ref 166, .int a1, .int a2, .int a3, u4] [] σ Q else WP E d mMo_doOne 117 [.ref 166, .int a1, .int a2, .int a3, u4] [] σ Q) := (w_iload_n dMo_doOne_111 rfl).trans ((w_bipush (v := (nI 7)) dMo_doOne_112 rfl).trans (w_icmpne (t := 165) dMo_doOne_114 (by decide)))
theorem bMo_doOne_117 {E : mEn} {d : Nat} {σ : mSt} {Q : mPost} {a1 : Int32} {a2 : Int32} {a3 : Int32} {u4 : Value} : WP E d mMo_doOne 117 [.ref 166, .int a1, .int a2, .int a3, u4] [] σ Q = WP E d mMo_doOne 120 [.ref 166, .int a1, .int a2, .int a3, .int 0] [] σ Q := (w_iconst (v := 0) dMo_doOne_117 rfl).trans (w_istore (ls' := [.ref 166, .int a1, .int a2, .int a3, .int 0]) dMo_doOne_118 (Nat.le_of_ble_eq_true rfl) rfl)
theorem bMo_doOne_120 {E : mEn} {d : Nat} {σ : mSt} {Q : mPost} {a1 : Int32} {a2 : Int32} {a3 : Int32} {a4 : Int32} : WP E d mMo_doOne 120 [.ref 166, .int a1, .int a2, .int a3, .int a4] [] σ Q = (if mOut (a2 + 1) 3000 = true then False else (if (σ.1 171 (a2 + 1).toNatClampNeg) ≤ a4 then WP E d mMo_doOne 162 [.ref 166, .int a1, .int a2, .int a3, .int a4] [] σ Q else WP E d mMo_doOne 133 [.ref 166, .int a1, .int a2, .int a3, .int a4] [] σ Q)) := (w_iload dMo_doOne_120 rfl).trans ((w_aload_n dMo_doOne_122 rfl).trans ((w_getr (r := 171) dMo_doOne_123 rz11_35 sh_166 rfl).trans ((w_iload_n dMo_doOne_126 rfl).trans ((w_iconst (v := 1) dMo_doOne_127 rfl).trans ((w_iadd dMo_doOne_128).trans ((w_iald dMo_doOne_129 sh_171 (by decide)).trans (ite_c (w_icmpge (t := 162) dMo_doOne_130 (by decide)))))))))
theorem bMo_doOne_133 {E : mEn} {d : Nat} {σ : mSt} {Q : mPost} {a1 : Int32} {a2 : Int32} {a3 : Int32} {a4 : Int32} : WP E d mMo_doOne 133 [.ref 166, .int a1, .int a2, .int a3, .int a4] [] σ Q = (if ¬ (σ.1 166 38) = 0 then WP E d mMo_doOne 162 [.ref 166, .int a1, .int a2, .int a3, .int a4] [] σ Q else WP E d mMo_doOne 140 [.ref 166, .int a1, .int a2, .int a3, .int a4] [] σ Q) := (w_aload_n dMo_doOne_133 rfl).trans ((w_geti dMo_doOne_134 rz11_476 sh_166 rfl).trans (w_ifne (t := 162) dMo_doOne_137 (by decide)))
theorem bMo_doOne_140 {E : mEn} {d : Nat} {σ : mSt} {Q : mPost} {a1 : Int32} {a2 : Int32} {a3 : Int32} {a4 : Int32} : WP E (d + 1) mMo_doOne 140 [.ref 166, .int a1, .int a2, .int a3, .int a4] [] σ Q = (if mOut (a2 + (nI 8)) 3000 = true then False else WP E d mMo_doAll 0 [.ref 166, .int (a1 + 1), .int (σ.1 171 (a2 + (nI 8)).toNatClampNeg), uu] [] σ (fun r σ' => WP E (d + 1) mMo_doOne 156 [.ref 166, .int a1, .int a2, .int a3, .int a4] (r.toList ++ []) σ' Q)) := (w_aload_n dMo_doOne_140 rfl).trans ((w_iload_n dMo_doOne_141 rfl).trans ((w_iconst (v := 1) dMo_doOne_142 rfl).trans ((w_iadd dMo_doOne_143).trans ((w_aload_n dMo_doOne_144 rfl).trans ((w_getr (r := 171) dMo_doOne_145 rz11_35 sh_166 rfl).trans ((w_iload_n dMo_doOne_148 rfl).trans ((w_bipush (v := (nI 8)) dMo_doOne_149 rfl).trans ((w_iadd dMo_doOne_151).trans ((w_iald dMo_doOne_152 sh_171 (by decide)).trans (ite_c (w_virt (vs := [.int (a1 + 1), .int (σ.1 171 (a2 + (nI 8)).toNatClampNeg)]) (st' := []) (es := [.ref 166, .int (a1 + 1), .int (σ.1 171 (a2 + (nI 8)).toNatClampNeg), uu]) dMo_doOne_153 rz11_492 rfl sh_166 rfl rfl rfl (Nat.le_of_ble_eq_true rfl) (Nat.le_of_ble_eq_true rfl) rfl)))))))))))
theorem bMo_doOne_156 {E : mEn} {d : Nat} {σ : mSt} {Q : mPost} {a1 : Int32} {a2 : Int32} {a3 : Int32} {a4 : Int32} : WP E d mMo_doOne 156 [.ref 166, .int a1, .int a2, .int a3, .int a4] [] σ Q = WP E d mMo_doOne 120 [.ref 166, .int a1, .int a2, .int a3, .int (a4 + 1)] [] σ Q := (w_iinc (v := 1) (ls' := [.ref 166, .int a1, .int a2, .int a3, .int (a4 + 1)]) dMo_doOne_156 rfl rfl rfl).trans (w_goto (t := 120) dMo_doOne_159 (by decide))
theorem bMo_doOne_162 {E : mEn} {d : Nat} {σ : mSt} {Q : mPost} {a1 : Int32} {a2 : Int32} {a3 : Int32} {a4 : Int32} : WP E d mMo_doOne 162 [.ref 166, .int a1, .int a2, .int a3, .int a4] [] σ Q = WP E d mMo_doOne 176 [.ref 166, .int a1, .int a2, .int a3, .int a4] [] σ Q := w_goto (t := 176) dMo_doOne_162 (by decide)
theorem bMo_doOne_165 {E : mEn} {d : Nat} {σ : mSt} {Q : mPost} {a1 : Int32} {a2 : Int32} {a3 : Int32} {u4 : Value} : WP E d mMo_doOne 165 [.ref 166, .int a1, .int a2, .int a3, u4] [] σ Q = (if a3 ≤ (nI 7) then WP E d mMo_doOne 176 [.ref 166, .int a1, .int a2, .int a3, u4] [] σ Q else WP E d mMo_doOne 171 [.ref 166, .int a1, .int a2, .int a3, u4] [] σ Q) := (w_iload_n dMo_doOne_165 rfl).trans ((w_bipush (v := (nI 7)) dMo_doOne_166 rfl).trans (w_icmple (t := 176) dMo_doOne_168 (by decide)))
theorem bMo_doOne_171 {E : mEn} {d : Nat} {σ : mSt} {Q : mPost} {a1 : Int32} {a2 : Int32} {a3 : Int32} {u4 : Value} : WP E d mMo_doOne 171 [.ref 166, .int a1, .int a2, .int a3, u4] [] σ Q = WP E d mMo_doOne 176 [.ref 166, .int a1, .int a2, .int a3, u4] [] (sI σ 166 38 1) Q := (w_aload_n dMo_doOne_171 rfl).trans ((w_iconst (v := 1) dMo_doOne_172 rfl).trans (w_putz dMo_doOne_173 rz11_476 sh_166 rfl rfl rfl (Or.inr rfl)))
theorem bMo_doOne_176 {E : mEn} {d : Nat} {σ : mSt} {Q : mPost} {a1 : Int32} {a2 : Int32} {a3 : Int32} {u4 : Value} : WP E d mMo_doOne 176 [.ref 166, .int a1, .int a2, .int a3, u4] [] σ Q = Q none σ := w_vret dMo_doOne_176 rfl
