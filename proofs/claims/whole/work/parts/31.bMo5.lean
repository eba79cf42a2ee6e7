theorem dMo_does_0 : decode (mC mMo_does) 0 = .ok (.aload_n 0, 1) := by decide +kernel
theorem dMo_does_1 : decode (mC mMo_does) 1 = .ok (.getfield 35, 3) := by decide +kernel
theorem dMo_does_4 : decode (mC mMo_does) 4 = .ok (.iload_n 1, 1) := by decide +kernel
theorem dMo_does_5 : decode (mC mMo_does) 5 = .ok (.iaload, 1) := by decide +kernel
theorem dMo_does_6 : decode (mC mMo_does) 6 = .ok (.istore_n 2, 1) := by decide +kernel
theorem dMo_does_7 : decode (mC mMo_does) 7 = .ok (.iload_n 2, 1) := by decide +kernel
theorem dMo_does_8 : decode (mC mMo_does) 8 = .ok (.ifCond .ne (78), 3) := by decide +kernel
theorem dMo_does_11 : decode (mC mMo_does) 11 = .ok (.aload_n 0, 1) := by decide +kernel
theorem dMo_does_12 : decode (mC mMo_does) 12 = .ok (.getfield 35, 3) := by decide +kernel
theorem dMo_does_15 : decode (mC mMo_does) 15 = .ok (.iconst (3), 1) := by decide +kernel
theorem dMo_does_16 : decode (mC mMo_does) 16 = .ok (.iaload, 1) := by decide +kernel
theorem dMo_does_17 : decode (mC mMo_does) 17 = .ok (.bipush (40), 2) := by decide +kernel
theorem dMo_does_19 : decode (mC mMo_does) 19 = .ok (.if_icmp .eq (18), 3) := by decide +kernel
theorem dMo_does_22 : decode (mC mMo_does) 22 = .ok (.aload_n 0, 1) := by decide +kernel
theorem dMo_does_23 : decode (mC mMo_does) 23 = .ok (.aload_n 0, 1) := by decide +kernel
theorem dMo_does_24 : decode (mC mMo_does) 24 = .ok (.getfield 35, 3) := by decide +kernel
theorem dMo_does_27 : decode (mC mMo_does) 27 = .ok (.iload_n 1, 1) := by decide +kernel
theorem dMo_does_28 : decode (mC mMo_does) 28 = .ok (.iconst (2), 1) := by decide +kernel
theorem dMo_does_29 : decode (mC mMo_does) 29 = .ok (.iadd, 1) := by decide +kernel
theorem dMo_does_30 : decode (mC mMo_does) 30 = .ok (.iaload, 1) := by decide +kernel
theorem dMo_does_31 : decode (mC mMo_does) 31 = .ok (.invokevirtual 323, 3) := by decide +kernel
theorem dMo_does_34 : decode (mC mMo_does) 34 = .ok (.ifCond .eq (5), 3) := by decide +kernel
theorem dMo_does_37 : decode (mC mMo_does) 37 = .ok (.iconst (0), 1) := by decide +kernel
theorem dMo_does_38 : decode (mC mMo_does) 38 = .ok (.ireturn, 1) := by decide +kernel
theorem dMo_does_39 : decode (mC mMo_does) 39 = .ok (.aload_n 0, 1) := by decide +kernel
theorem dMo_does_40 : decode (mC mMo_does) 40 = .ok (.aload_n 0, 1) := by decide +kernel
theorem dMo_does_41 : decode (mC mMo_does) 41 = .ok (.getfield 35, 3) := by decide +kernel
theorem dMo_does_44 : decode (mC mMo_does) 44 = .ok (.iload_n 1, 1) := by decide +kernel
theorem dMo_does_45 : decode (mC mMo_does) 45 = .ok (.iconst (1), 1) := by decide +kernel
theorem dMo_does_46 : decode (mC mMo_does) 46 = .ok (.iadd, 1) := by decide +kernel
theorem dMo_does_47 : decode (mC mMo_does) 47 = .ok (.iaload, 1) := by decide +kernel
theorem dMo_does_48 : decode (mC mMo_does) 48 = .ok (.aload_n 0, 1) := by decide +kernel
theorem dMo_does_49 : decode (mC mMo_does) 49 = .ok (.getfield 35, 3) := by decide +kernel
theorem dMo_does_52 : decode (mC mMo_does) 52 = .ok (.iload_n 1, 1) := by decide +kernel
theorem dMo_does_53 : decode (mC mMo_does) 53 = .ok (.iconst (2), 1) := by decide +kernel
theorem dMo_does_54 : decode (mC mMo_does) 54 = .ok (.iadd, 1) := by decide +kernel
theorem dMo_does_55 : decode (mC mMo_does) 55 = .ok (.iaload, 1) := by decide +kernel
theorem dMo_does_56 : decode (mC mMo_does) 56 = .ok (.aload_n 0, 1) := by decide +kernel
theorem dMo_does_57 : decode (mC mMo_does) 57 = .ok (.getfield 35, 3) := by decide +kernel
theorem dMo_does_60 : decode (mC mMo_does) 60 = .ok (.iload_n 1, 1) := by decide +kernel
theorem dMo_does_61 : decode (mC mMo_does) 61 = .ok (.iconst (3), 1) := by decide +kernel
theorem dMo_does_62 : decode (mC mMo_does) 62 = .ok (.iadd, 1) := by decide +kernel
theorem dMo_does_63 : decode (mC mMo_does) 63 = .ok (.iaload, 1) := by decide +kernel
theorem dMo_does_64 : decode (mC mMo_does) 64 = .ok (.aload_n 0, 1) := by decide +kernel
theorem dMo_does_65 : decode (mC mMo_does) 65 = .ok (.getfield 35, 3) := by decide +kernel
theorem dMo_does_68 : decode (mC mMo_does) 68 = .ok (.iload_n 1, 1) := by decide +kernel
theorem dMo_does_69 : decode (mC mMo_does) 69 = .ok (.iconst (4), 1) := by decide +kernel
theorem dMo_does_70 : decode (mC mMo_does) 70 = .ok (.iadd, 1) := by decide +kernel
theorem dMo_does_71 : decode (mC mMo_does) 71 = .ok (.iaload, 1) := by decide +kernel
theorem dMo_does_72 : decode (mC mMo_does) 72 = .ok (.aload_n 0, 1) := by decide +kernel
theorem dMo_does_73 : decode (mC mMo_does) 73 = .ok (.getfield 35, 3) := by decide +kernel
theorem dMo_does_76 : decode (mC mMo_does) 76 = .ok (.iload_n 1, 1) := by decide +kernel
theorem dMo_does_77 : decode (mC mMo_does) 77 = .ok (.iconst (5), 1) := by decide +kernel
theorem dMo_does_78 : decode (mC mMo_does) 78 = .ok (.iadd, 1) := by decide +kernel
theorem dMo_does_79 : decode (mC mMo_does) 79 = .ok (.iaload, 1) := by decide +kernel
theorem dMo_does_80 : decode (mC mMo_does) 80 = .ok (.invokevirtual 433, 3) := by decide +kernel
theorem dMo_does_83 : decode (mC mMo_does) 83 = .ok (.pop, 1) := by decide +kernel
theorem dMo_does_84 : decode (mC mMo_does) 84 = .ok (.iconst (1), 1) := by decide +kernel
theorem dMo_does_85 : decode (mC mMo_does) 85 = .ok (.ireturn, 1) := by decide +kernel
theorem dMo_does_86 : decode (mC mMo_does) 86 = .ok (.iload_n 2, 1) := by decide +kernel
theorem dMo_does_87 : decode (mC mMo_does) 87 = .ok (.iconst (1), 1) := by decide +kernel
theorem dMo_does_88 : decode (mC mMo_does) 88 = .ok (.if_icmp .ne (16), 3) := by decide +kernel
theorem dMo_does_91 : decode (mC mMo_does) 91 = .ok (.aload_n 0, 1) := by decide +kernel
theorem dMo_does_92 : decode (mC mMo_does) 92 = .ok (.aload_n 0, 1) := by decide +kernel
theorem dMo_does_93 : decode (mC mMo_does) 93 = .ok (.getfield 35, 3) := by decide +kernel
theorem dMo_does_96 : decode (mC mMo_does) 96 = .ok (.iload_n 1, 1) := by decide +kernel
theorem dMo_does_97 : decode (mC mMo_does) 97 = .ok (.iconst (1), 1) := by decide +kernel
theorem dMo_does_98 : decode (mC mMo_does) 98 = .ok (.iadd, 1) := by decide +kernel
theorem dMo_does_99 : decode (mC mMo_does) 99 = .ok (.iaload, 1) := by decide +kernel
theorem dMo_does_100 : decode (mC mMo_does) 100 = .ok (.invokevirtual 437, 3) := by decide +kernel
theorem dMo_does_103 : decode (mC mMo_does) 103 = .ok (.ireturn, 1) := by decide +kernel
theorem dMo_does_104 : decode (mC mMo_does) 104 = .ok (.iload_n 2, 1) := by decide +kernel
theorem dMo_does_105 : decode (mC mMo_does) 105 = .ok (.iconst (2), 1) := by decide +kernel
theorem dMo_does_106 : decode (mC mMo_does) 106 = .ok (.if_icmp .ne (63), 3) := by decide +kernel
theorem dMo_does_109 : decode (mC mMo_does) 109 = .ok (.aload_n 0, 1) := by decide +kernel
theorem dMo_does_110 : decode (mC mMo_does) 110 = .ok (.aload_n 0, 1) := by decide +kernel
theorem dMo_does_111 : decode (mC mMo_does) 111 = .ok (.getfield 35, 3) := by decide +kernel
theorem dMo_does_114 : decode (mC mMo_does) 114 = .ok (.iload_n 1, 1) := by decide +kernel
theorem dMo_does_115 : decode (mC mMo_does) 115 = .ok (.iconst (1), 1) := by decide +kernel
theorem dMo_does_116 : decode (mC mMo_does) 116 = .ok (.iadd, 1) := by decide +kernel
theorem dMo_does_117 : decode (mC mMo_does) 117 = .ok (.iaload, 1) := by decide +kernel
theorem dMo_does_118 : decode (mC mMo_does) 118 = .ok (.invokevirtual 443, 3) := by decide +kernel
theorem dMo_does_121 : decode (mC mMo_does) 121 = .ok (.istore_n 3, 1) := by decide +kernel
theorem dMo_does_122 : decode (mC mMo_does) 122 = .ok (.iload_n 3, 1) := by decide +kernel
theorem dMo_does_123 : decode (mC mMo_does) 123 = .ok (.ifCond .ge (5), 3) := by decide +kernel
theorem dMo_does_126 : decode (mC mMo_does) 126 = .ok (.iconst (0), 1) := by decide +kernel
theorem dMo_does_127 : decode (mC mMo_does) 127 = .ok (.ireturn, 1) := by decide +kernel
theorem dMo_does_128 : decode (mC mMo_does) 128 = .ok (.aload_n 0, 1) := by decide +kernel
theorem dMo_does_129 : decode (mC mMo_does) 129 = .ok (.dup, 1) := by decide +kernel
theorem dMo_does_130 : decode (mC mMo_does) 130 = .ok (.getfield 461, 3) := by decide +kernel
theorem dMo_does_133 : decode (mC mMo_does) 133 = .ok (.iload_n 3, 1) := by decide +kernel
theorem dMo_does_134 : decode (mC mMo_does) 134 = .ok (.iadd, 1) := by decide +kernel
theorem dMo_does_135 : decode (mC mMo_does) 135 = .ok (.putfield 461, 3) := by decide +kernel
theorem dMo_does_138 : decode (mC mMo_does) 138 = .ok (.aload_n 0, 1) := by decide +kernel
theorem dMo_does_139 : decode (mC mMo_does) 139 = .ok (.dup, 1) := by decide +kernel
theorem dMo_does_140 : decode (mC mMo_does) 140 = .ok (.getfield 464, 3) := by decide +kernel
theorem dMo_does_143 : decode (mC mMo_does) 143 = .ok (.aload_n 0, 1) := by decide +kernel
theorem dMo_does_144 : decode (mC mMo_does) 144 = .ok (.aload_n 0, 1) := by decide +kernel
theorem dMo_does_145 : decode (mC mMo_does) 145 = .ok (.getfield 35, 3) := by decide +kernel
theorem dMo_does_148 : decode (mC mMo_does) 148 = .ok (.iload_n 1, 1) := by decide +kernel
theorem dMo_does_149 : decode (mC mMo_does) 149 = .ok (.iconst (1), 1) := by decide +kernel
theorem dMo_does_150 : decode (mC mMo_does) 150 = .ok (.iadd, 1) := by decide +kernel
theorem dMo_does_151 : decode (mC mMo_does) 151 = .ok (.iaload, 1) := by decide +kernel
theorem dMo_does_152 : decode (mC mMo_does) 152 = .ok (.invokevirtual 440, 3) := by decide +kernel
theorem dMo_does_155 : decode (mC mMo_does) 155 = .ok (.ifCond .eq (7), 3) := by decide +kernel
theorem dMo_does_158 : decode (mC mMo_does) 158 = .ok (.iconst (1), 1) := by decide +kernel
theorem dMo_does_159 : decode (mC mMo_does) 159 = .ok (.goto (4), 3) := by decide +kernel
theorem dMo_does_162 : decode (mC mMo_does) 162 = .ok (.iconst (0), 1) := by decide +kernel
theorem dMo_does_163 : decode (mC mMo_does) 163 = .ok (.iadd, 1) := by decide +kernel
theorem dMo_does_164 : decode (mC mMo_does) 164 = .ok (.putfield 464, 3) := by decide +kernel
theorem dMo_does_167 : decode (mC mMo_does) 167 = .ok (.iconst (1), 1) := by decide +kernel
theorem dMo_does_168 : decode (mC mMo_does) 168 = .ok (.ireturn, 1) := by decide +kernel
theorem dMo_does_169 : decode (mC mMo_does) 169 = .ok (.iload_n 2, 1) := by decide +kernel
theorem dMo_does_170 : decode (mC mMo_does) 170 = .ok (.iconst (3), 1) := by decide +kernel
theorem dMo_does_171 : decode (mC mMo_does) 171 = .ok (.if_icmp .ne (16), 3) := by decide +kernel
theorem dMo_does_174 : decode (mC mMo_does) 174 = .ok (.aload_n 0, 1) := by decide +kernel
theorem dMo_does_175 : decode (mC mMo_does) 175 = .ok (.aload_n 0, 1) := by decide +kernel
theorem dMo_does_176 : decode (mC mMo_does) 176 = .ok (.getfield 35, 3) := by decide +kernel
theorem dMo_does_179 : decode (mC mMo_does) 179 = .ok (.iload_n 1, 1) := by decide +kernel
theorem dMo_does_180 : decode (mC mMo_does) 180 = .ok (.iconst (1), 1) := by decide +kernel
theorem dMo_does_181 : decode (mC mMo_does) 181 = .ok (.iadd, 1) := by decide +kernel
theorem dMo_does_182 : decode (mC mMo_does) 182 = .ok (.iaload, 1) := by decide +kernel
theorem dMo_does_183 : decode (mC mMo_does) 183 = .ok (.invokevirtual 467, 3) := by decide +kernel
theorem dMo_does_186 : decode (mC mMo_does) 186 = .ok (.ireturn, 1) := by decide +kernel
theorem dMo_does_187 : decode (mC mMo_does) 187 = .ok (.iload_n 2, 1) := by decide +kernel
theorem dMo_does_188 : decode (mC mMo_does) 188 = .ok (.iconst (5), 1) := by decide +kernel
theorem dMo_does_189 : decode (mC mMo_does) 189 = .ok (.if_icmp .ne (32), 3) := by decide +kernel
theorem dMo_does_192 : decode (mC mMo_does) 192 = .ok (.aload_n 0, 1) := by decide +kernel
theorem dMo_does_193 : decode (mC mMo_does) 193 = .ok (.aload_n 0, 1) := by decide +kernel
theorem dMo_does_194 : decode (mC mMo_does) 194 = .ok (.getfield 35, 3) := by decide +kernel
theorem dMo_does_197 : decode (mC mMo_does) 197 = .ok (.iload_n 1, 1) := by decide +kernel
theorem dMo_does_198 : decode (mC mMo_does) 198 = .ok (.iconst (1), 1) := by decide +kernel
theorem dMo_does_199 : decode (mC mMo_does) 199 = .ok (.iadd, 1) := by decide +kernel
theorem dMo_does_200 : decode (mC mMo_does) 200 = .ok (.iaload, 1) := by decide +kernel
theorem dMo_does_201 : decode (mC mMo_does) 201 = .ok (.aload_n 0, 1) := by decide +kernel
theorem dMo_does_202 : decode (mC mMo_does) 202 = .ok (.getfield 35, 3) := by decide +kernel
theorem dMo_does_205 : decode (mC mMo_does) 205 = .ok (.iload_n 1, 1) := by decide +kernel
theorem dMo_does_206 : decode (mC mMo_does) 206 = .ok (.iconst (2), 1) := by decide +kernel
theorem dMo_does_207 : decode (mC mMo_does) 207 = .ok (.iadd, 1) := by decide +kernel
theorem dMo_does_208 : decode (mC mMo_does) 208 = .ok (.iaload, 1) := by decide +kernel
theorem dMo_does_209 : decode (mC mMo_does) 209 = .ok (.aload_n 0, 1) := by decide +kernel
theorem dMo_does_210 : decode (mC mMo_does) 210 = .ok (.getfield 35, 3) := by decide +kernel
theorem dMo_does_213 : decode (mC mMo_does) 213 = .ok (.iload_n 1, 1) := by decide +kernel
theorem dMo_does_214 : decode (mC mMo_does) 214 = .ok (.iconst (3), 1) := by decide +kernel
theorem dMo_does_215 : decode (mC mMo_does) 215 = .ok (.iadd, 1) := by decide +kernel
theorem dMo_does_216 : decode (mC mMo_does) 216 = .ok (.iaload, 1) := by decide +kernel
theorem dMo_does_217 : decode (mC mMo_does) 217 = .ok (.invokevirtual 451, 3) := by decide +kernel
theorem dMo_does_220 : decode (mC mMo_does) 220 = .ok (.ireturn, 1) := by decide +kernel
theorem dMo_does_221 : decode (mC mMo_does) 221 = .ok (.aload_n 0, 1) := by decide +kernel
theorem dMo_does_222 : decode (mC mMo_does) 222 = .ok (.aload_n 0, 1) := by decide +kernel
theorem dMo_does_223 : decode (mC mMo_does) 223 = .ok (.getfield 35, 3) := by decide +kernel
theorem dMo_does_226 : decode (mC mMo_does) 226 = .ok (.iload_n 1, 1) := by decide +kernel
theorem dMo_does_227 : decode (mC mMo_does) 227 = .ok (.iconst (1), 1) := by decide +kernel
theorem dMo_does_228 : decode (mC mMo_does) 228 = .ok (.iadd, 1) := by decide +kernel
theorem dMo_does_229 : decode (mC mMo_does) 229 = .ok (.iaload, 1) := by decide +kernel
theorem dMo_does_230 : decode (mC mMo_does) 230 = .ok (.aload_n 0, 1) := by decide +kernel
theorem dMo_does_231 : decode (mC mMo_does) 231 = .ok (.getfield 35, 3) := by decide +kernel
theorem dMo_does_234 : decode (mC mMo_does) 234 = .ok (.iload_n 1, 1) := by decide +kernel
theorem dMo_does_235 : decode (mC mMo_does) 235 = .ok (.iconst (2), 1) := by decide +kernel
theorem dMo_does_236 : decode (mC mMo_does) 236 = .ok (.iadd, 1) := by decide +kernel
theorem dMo_does_237 : decode (mC mMo_does) 237 = .ok (.iaload, 1) := by decide +kernel
theorem dMo_does_238 : decode (mC mMo_does) 238 = .ok (.invokevirtual 448, 3) := by decide +kernel
theorem dMo_does_241 : decode (mC mMo_does) 241 = .ok (.istore_n 3, 1) := by decide +kernel
theorem dMo_does_242 : decode (mC mMo_does) 242 = .ok (.aload_n 0, 1) := by decide +kernel
theorem dMo_does_243 : decode (mC mMo_does) 243 = .ok (.dup, 1) := by decide +kernel
theorem dMo_does_244 : decode (mC mMo_does) 244 = .ok (.getfield 470, 3) := by decide +kernel
theorem dMo_does_247 : decode (mC mMo_does) 247 = .ok (.iload_n 3, 1) := by decide +kernel
theorem dMo_does_248 : decode (mC mMo_does) 248 = .ok (.iadd, 1) := by decide +kernel
theorem dMo_does_249 : decode (mC mMo_does) 249 = .ok (.putfield 470, 3) := by decide +kernel
theorem dMo_does_252 : decode (mC mMo_does) 252 = .ok (.iload_n 3, 1) := by decide +kernel
theorem dMo_does_253 : decode (mC mMo_does) 253 = .ok (.ifCond .le (7), 3) := by decide +kernel
theorem dMo_does_256 : decode (mC mMo_does) 256 = .ok (.iconst (1), 1) := by decide +kernel
theorem dMo_does_257 : decode (mC mMo_does) 257 = .ok (.goto (4), 3) := by decide +kernel
theorem dMo_does_260 : decode (mC mMo_does) 260 = .ok (.iconst (0), 1) := by decide +kernel
theorem dMo_does_261 : decode (mC mMo_does) 261 = .ok (.ireturn, 1) := by decide +kernel
theorem bMo_does_0 {E : mEn} {d : Nat} {σ : mSt} {Q : mPost} {a1 : Int32} {u2 : Value} {u3 : Value} : WP E d mMo_does 0 [.ref 166, .int a1, u2, u3] [] σ Q = (if mOut a1 3000 = true then False else (if ¬ (σ.1 171 a1.toNatClampNeg) = 0 then WP E d mMo_does 86 [.ref 166, .int a1, .int (σ.1 171 a1.toNatClampNeg), u3] [] σ Q else WP E d mMo_does 11 [.ref 166, .int a1, .int (σ.1 171 a1.toNatClampNeg), u3] [] σ Q)) := (w_aload_n dMo_does_0 rfl).trans ((w_getr (r := 171) dMo_does_1 rz11_35 sh_166 rfl).trans ((w_iload_n dMo_does_4 rfl).trans ((w_iald dMo_does_5 sh_171 (by decide)).trans (ite_c ((w_istore_n (ls' := [.ref 166, .int a1, .int (σ.1 171 a1.toNatClampNeg), u3]) dMo_does_6 (Nat.le_of_ble_eq_true rfl) rfl).trans ((w_iload_n dMo_does_7 rfl).trans (w_ifne (t := 86) dMo_does_8 (by decide))))))))
theorem bMo_does_11 {E : mEn} {d : Nat} {σ : mSt} {Q : mPost} {a1 : Int32} {a2 : Int32} {u3 : Value} : WP E d mMo_does 11 [.ref 166, .int a1, .int a2, u3] [] σ Q = (if mOut (nI 3) 3000 = true then False else (if (σ.1 171 3) = (nI 40) then WP E d mMo_does 37 [.ref 166, .int a1, .int a2, u3] [] σ Q else WP E d mMo_does 22 [.ref 166, .int a1, .int a2, u3] [] σ Q)) := (w_aload_n dMo_does_11 rfl).trans ((w_getr (r := 171) dMo_does_12 rz11_35 sh_166 rfl).trans ((w_iconst (v := (nI 3)) dMo_does_15 rfl).trans ((w_iald dMo_does_16 sh_171 (by decide)).trans (ite_c ((w_bipush (v := (nI 40)) dMo_does_17 rfl).trans (w_icmpeq (t := 37) dMo_does_19 (by decide)))))))
theorem bMo_does_22 {E : mEn} {d : Nat} {σ : mSt} {Q : mPost} {a1 : Int32} {a2 : Int32} {u3 : Value} : WP E (d + 1) mMo_does 22 [.ref 166, .int a1, .int a2, u3] [] σ Q = (if mOut (a1 + (nI 2)) 3000 = true then False else WP E d mMo_isBaked 0 [.ref 166, .int (σ.1 171 (a1 + (nI 2)).toNatClampNeg)] [] σ (fun r σ' => WP E (d + 1) mMo_does 34 [.ref 166, .int a1, .int a2, u3] (r.toList ++ []) σ' Q)) := (w_aload_n dMo_does_22 rfl).trans ((w_aload_n dMo_does_23 rfl).trans ((w_getr (r := 171) dMo_does_24 rz11_35 sh_166 rfl).trans ((w_iload_n dMo_does_27 rfl).trans ((w_iconst (v := (nI 2)) dMo_does_28 rfl).trans ((w_iadd dMo_does_29).trans ((w_iald dMo_does_30 sh_171 (by decide)).trans (ite_c (w_virt (vs := [.int (σ.1 171 (a1 + (nI 2)).toNatClampNeg)]) (st' := []) (es := [.ref 166, .int (σ.1 171 (a1 + (nI 2)).toNatClampNeg)]) dMo_does_31 rz11_323 rfl sh_166 rfl rfl rfl (Nat.le_of_ble_eq_true rfl) (Nat.le_of_ble_eq_true rfl) rfl))))))))
theorem bMo_does_34 {E : mEn} {d : Nat} {σ : mSt} {Q : mPost} {a1 : Int32} {a2 : Int32} {u3 : Value} {s0 : Int32} : WP E d mMo_does 34 [.ref 166, .int a1, .int a2, u3] [.int s0] σ Q = (if s0 = 0 then WP E d mMo_does 39 [.ref 166, .int a1, .int a2, u3] [] σ Q else WP E d mMo_does 37 [.ref 166, .int a1, .int a2, u3] [] σ Q) := w_ifeq (t := 39) dMo_does_34 (by decide)
theorem bMo_does_37 {E : mEn} {d : Nat} {σ : mSt} {Q : mPost} {a1 : Int32} {a2 : Int32} {u3 : Value} : WP E d mMo_does 37 [.ref 166, .int a1, .int a2, u3] [] σ Q = Q (some (.int 0)) σ := (w_iconst (v := 0) dMo_does_37 rfl).trans (w_zret dMo_does_38 rfl (Or.inl rfl))
theorem bMo_does_39 {E : mEn} {d : Nat} {σ : mSt} {Q : mPost} {a1 : Int32} {a2 : Int32} {u3 : Value} : WP E (d + 1) mMo_does 39 [.ref 166, .int a1, .int a2, u3] [] σ Q = (if mOut (a1 + 1) 3000 = true then False else (if mOut (a1 + (nI 2)) 3000 = true then False else (if mOut (a1 + (nI 3)) 3000 = true then False else (if mOut (a1 + (nI 4)) 3000 = true then False else (if mOut (a1 + (nI 5)) 3000 = true then False else WP E d mMo_makes 0 [.ref 166, .int (σ.1 171 (a1 + 1).toNatClampNeg), .int (σ.1 171 (a1 + (nI 2)).toNatClampNeg), .int (σ.1 171 (a1 + (nI 3)).toNatClampNeg), .int (σ.1 171 (a1 + (nI 4)).toNatClampNeg), .int (σ.1 171 (a1 + (nI 5)).toNatClampNeg), uu] [] σ (fun r σ' => WP E (d + 1) mMo_does 83 [.ref 166, .int a1, .int a2, u3] (r.toList ++ []) σ' Q)))))) := (w_aload_n dMo_does_39 rfl).trans ((w_aload_n dMo_does_40 rfl).trans ((w_getr (r := 171) dMo_does_41 rz11_35 sh_166 rfl).trans ((w_iload_n dMo_does_44 rfl).trans ((w_iconst (v := 1) dMo_does_45 rfl).trans ((w_iadd dMo_does_46).trans ((w_iald dMo_does_47 sh_171 (by decide)).trans (ite_c ((w_aload_n dMo_does_48 rfl).trans ((w_getr (r := 171) dMo_does_49 rz11_35 sh_166 rfl).trans ((w_iload_n dMo_does_52 rfl).trans ((w_iconst (v := (nI 2)) dMo_does_53 rfl).trans ((w_iadd dMo_does_54).trans ((w_iald dMo_does_55 sh_171 (by decide)).trans (ite_c ((w_aload_n dMo_does_56 rfl).trans ((w_getr (r := 171) dMo_does_57 rz11_35 sh_166 rfl).trans ((w_iload_n dMo_does_60 rfl).trans ((w_iconst (v := (nI 3)) dMo_does_61 rfl).trans ((w_iadd dMo_does_62).trans ((w_iald dMo_does_63 sh_171 (by decide)).trans (ite_c ((w_aload_n dMo_does_64 rfl).trans ((w_getr (r := 171) dMo_does_65 rz11_35 sh_166 rfl).trans ((w_iload_n dMo_does_68 rfl).trans ((w_iconst (v := (nI 4)) dMo_does_69 rfl).trans ((w_iadd dMo_does_70).trans ((w_iald dMo_does_71 sh_171 (by decide)).trans (ite_c ((w_aload_n dMo_does_72 rfl).trans ((w_getr (r := 171) dMo_does_73 rz11_35 sh_166 rfl).trans ((w_iload_n dMo_does_76 rfl).trans ((w_iconst (v := (nI 5)) dMo_does_77 rfl).trans ((w_iadd dMo_does_78).trans ((w_iald dMo_does_79 sh_171 (by decide)).trans (ite_c (w_virt (vs := [.int (σ.1 171 (a1 + 1).toNatClampNeg), .int (σ.1 171 (a1 + (nI 2)).toNatClampNeg), .int (σ.1 171 (a1 + (nI 3)).toNatClampNeg), .int (σ.1 171 (a1 + (nI 4)).toNatClampNeg), .int (σ.1 171 (a1 + (nI 5)).toNatClampNeg)]) (st' := []) (es := [.ref 166, .int (σ.1 171 (a1 + 1).toNatClampNeg), .int (σ.1 171 (a1 + (nI 2)).toNatClampNeg), .int (σ.1 171 (a1 + (nI 3)).toNatClampNeg), .int (σ.1 171 (a1 + (nI 4)).toNatClampNeg), .int (σ.1 171 (a1 + (nI 5)).toNatClampNeg), uu]) dMo_does_80 rz11_433 rfl sh_166 rfl rfl rfl (Nat.le_of_ble_eq_true rfl) (Nat.le_of_ble_eq_true rfl) rfl))))))))))))))))))))))))))))))))))))
theorem bMo_does_83 {E : mEn} {d : Nat} {σ : mSt} {Q : mPost} {a1 : Int32} {a2 : Int32} {u3 : Value} {s0 : Int32} : WP E d mMo_does 83 [.ref 166, .int a1, .int a2, u3] [.int s0] σ Q = Q (some (.int 1)) σ := (w_pop dMo_does_83 rfl).trans ((w_iconst (v := 1) dMo_does_84 rfl).trans (w_zret dMo_does_85 rfl (Or.inr rfl)))
theorem bMo_does_86 {E : mEn} {d : Nat} {σ : mSt} {Q : mPost} {a1 : Int32} {a2 : Int32} {u3 : Value} : WP E d mMo_does 86 [.ref 166, .int a1, .int a2, u3] [] σ Q = (if ¬ a2 = 1 then WP E d mMo_does 104 [.ref 166, .int a1, .int a2, u3] [] σ Q else WP E d mMo_does 91 [.ref 166, .int a1, .int a2, u3] [] σ Q) := (w_iload_n dMo_does_86 rfl).trans ((w_iconst (v := 1) dMo_does_87 rfl).trans (w_icmpne (t := 104) dMo_does_88 (by decide)))
theorem bMo_does_91 {E : mEn} {d : Nat} {σ : mSt} {Q : mPost} {a1 : Int32} {a2 : Int32} {u3 : Value} : WP E (d + 1) mMo_does 91 [.ref 166, .int a1, .int a2, u3] [] σ Q = (if mOut (a1 + 1) 3000 = true then False else WP E d mMo_breaks 0 [.ref 166, .int (σ.1 171 (a1 + 1).toNatClampNeg)] [] σ (fun r σ' => WP E (d + 1) mMo_does 103 [.ref 166, .int a1, .int a2, u3] (r.toList ++ []) σ' Q)) := (w_aload_n dMo_does_91 rfl).trans ((w_aload_n dMo_does_92 rfl).trans ((w_getr (r := 171) dMo_does_93 rz11_35 sh_166 rfl).trans ((w_iload_n dMo_does_96 rfl).trans ((w_iconst (v := 1) dMo_does_97 rfl).trans ((w_iadd dMo_does_98).trans ((w_iald dMo_does_99 sh_171 (by decide)).trans (ite_c (w_virt (vs := [.int (σ.1 171 (a1 + 1).toNatClampNeg)]) (st' := []) (es := [.ref 166, .int (σ.1 171 (a1 + 1).toNatClampNeg)]) dMo_does_100 rz11_437 rfl sh_166 rfl rfl rfl (Nat.le_of_ble_eq_true rfl) (Nat.le_of_ble_eq_true rfl) rfl))))))))
theorem bMo_does_103 {E : mEn} {d : Nat} {σ : mSt} {Q : mPost} {a1 : Int32} {a2 : Int32} {u3 : Value} {s0 : Int32} (hz0 : s0 = 0 ∨ s0 = 1) : WP E d mMo_does 103 [.ref 166, .int a1, .int a2, u3] [.int s0] σ Q = Q (some (.int s0)) σ := w_zret dMo_does_103 rfl hz0
theorem bMo_does_104 {E : mEn} {d : Nat} {σ : mSt} {Q : mPost} {a1 : Int32} {a2 : Int32} {u3 : Value} : WP E d mMo_does 104 [.ref 166, .int a1, .int a2, u3] [] σ Q = (if ¬ a2 = (nI 2) then WP E d mMo_does 169 [.ref 166, .int a1, .int a2, u3] [] σ Q else WP E d mMo_does 109 [.ref 166, .int a1, .int a2, u3] [] σ Q) := (w_iload_n dMo_does_104 rfl).trans ((w_iconst (v := (nI 2)) dMo_does_105 rfl).trans (w_icmpne (t := 169) dMo_does_106 (by decide)))
theorem bMo_does_109 {E : mEn} {d : Nat} {σ : mSt} {Q : mPost} {a1 : Int32} {a2 : Int32} {u3 : Value} : WP E (d + 1) mMo_does 109 [.ref 166, .int a1, .int a2, u3] [] σ Q = (if mOut (a1 + 1) 3000 = true then False else WP E d mMo_bakes 0 [.ref 166, .int (σ.1 171 (a1 + 1).toNatClampNeg), uu, uu, uu] [] σ (fun r σ' => WP E (d + 1) mMo_does 121 [.ref 166, .int a1, .int a2, u3] (r.toList ++ []) σ' Q)) := (w_aload_n dMo_does_109 rfl).trans ((w_aload_n dMo_does_110 rfl).trans ((w_getr (r := 171) dMo_does_111 rz11_35 sh_166 rfl).trans ((w_iload_n dMo_does_114 rfl).trans ((w_iconst (v := 1) dMo_does_115 rfl).trans ((w_iadd dMo_does_116).trans ((w_iald dMo_does_117 sh_171 (by decide)).trans (ite_c (w_virt (vs := [.int (σ.1 171 (a1 + 1).toNatClampNeg)]) (st' := []) (es := [.ref 166, .int (σ.1 171 (a1 + 1).toNatClampNeg), uu, uu, uu]) dMo_does_118 rz11_443 rfl sh_166 rfl rfl rfl (Nat.le_of_ble_eq_true rfl) (Nat.le_of_ble_eq_true rfl) rfl))))))))
theorem bMo_does_121 {E : mEn} {d : Nat} {σ : mSt} {Q : mPost} {a1 : Int32} {a2 : Int32} {u3 : Value} {s0 : Int32} : WP E d mMo_does 121 [.ref 166, .int a1, .int a2, u3] [.int s0] σ Q = (if 0 ≤ s0 then WP E d mMo_does 128 [.ref 166, .int a1, .int a2, .int s0] [] σ Q else WP E d mMo_does 126 [.ref 166, .int a1, .int a2, .int s0] [] σ Q) := (w_istore_n (ls' := [.ref 166, .int a1, .int a2, .int s0]) dMo_does_121 (Nat.le_of_ble_eq_true rfl) rfl).trans ((w_iload_n dMo_does_122 rfl).trans (w_ifge (t := 128) dMo_does_123 (by decide)))
theorem bMo_does_126 {E : mEn} {d : Nat} {σ : mSt} {Q : mPost} {a1 : Int32} {a2 : Int32} {a3 : Int32} : WP E d mMo_does 126 [.ref 166, .int a1, .int a2, .int a3] [] σ Q = Q (some (.int 0)) σ := (w_iconst (v := 0) dMo_does_126 rfl).trans (w_zret dMo_does_127 rfl (Or.inl rfl))
theorem bMo_does_128 {E : mEn} {d : Nat} {σ : mSt} {Q : mPost} {a1 : Int32} {a2 : Int32} {a3 : Int32} : WP E (d + 1) mMo_does 128 [.ref 166, .int a1, .int a2, .int a3] [] σ Q = (if mOut (a1 + 1) 3000 = true then False else WP E d mMo_isWetOven 0 [.ref 166, .int ((sI σ 166 42 ((σ.1 166 42) + a3)).1 171 (a1 + 1).toNatClampNeg)] [] (sI σ 166 42 ((σ.1 166 42) + a3)) (fun r σ' => WP E (d + 1) mMo_does 155 [.ref 166, .int a1, .int a2, .int a3] (r.toList ++ [.int ((sI σ 166 42 ((σ.1 166 42) + a3)).1 166 44), .ref 166]) σ' Q)) := (w_aload_n dMo_does_128 rfl).trans ((w_dup dMo_does_129 rfl).trans ((w_geti dMo_does_130 rz11_461 sh_166 rfl).trans ((w_iload_n dMo_does_133 rfl).trans ((w_iadd dMo_does_134).trans ((w_puti dMo_does_135 rz11_461 sh_166 rfl rfl rfl).trans ((w_aload_n dMo_does_138 rfl).trans ((w_dup dMo_does_139 rfl).trans ((w_geti dMo_does_140 rz11_464 sh_166 rfl).trans ((w_aload_n dMo_does_143 rfl).trans ((w_aload_n dMo_does_144 rfl).trans ((w_getr (r := 171) dMo_does_145 rz11_35 sh_166 rfl).trans ((w_iload_n dMo_does_148 rfl).trans ((w_iconst (v := 1) dMo_does_149 rfl).trans ((w_iadd dMo_does_150).trans ((w_iald dMo_does_151 sh_171 (by decide)).trans (ite_c (w_virt (vs := [.int ((sI σ 166 42 ((σ.1 166 42) + a3)).1 171 (a1 + 1).toNatClampNeg)]) (st' := [.int ((sI σ 166 42 ((σ.1 166 42) + a3)).1 166 44), .ref 166]) (es := [.ref 166, .int ((sI σ 166 42 ((σ.1 166 42) + a3)).1 171 (a1 + 1).toNatClampNeg)]) dMo_does_152 rz11_440 rfl sh_166 rfl rfl rfl (Nat.le_of_ble_eq_true rfl) (Nat.le_of_ble_eq_true rfl) rfl)))))))))))))))))
theorem bMo_does_155 {E : mEn} {d : Nat} {σ : mSt} {Q : mPost} {a1 : Int32} {a2 : Int32} {a3 : Int32} {s0 : Int32} {s1 : Int32} : WP E d mMo_does 155 [.ref 166, .int a1, .int a2, .int a3] [.int s0, .int s1, .ref 166] σ Q = (if s0 = 0 then WP E d mMo_does 162 [.ref 166, .int a1, .int a2, .int a3] [.int s1, .ref 166] σ Q else WP E d mMo_does 158 [.ref 166, .int a1, .int a2, .int a3] [.int s1, .ref 166] σ Q) := w_ifeq (t := 162) dMo_does_155 (by decide)
theorem bMo_does_158 {E : mEn} {d : Nat} {σ : mSt} {Q : mPost} {a1 : Int32} {a2 : Int32} {a3 : Int32} {s0 : Int32} : WP E d mMo_does 158 [.ref 166, .int a1, .int a2, .int a3] [.int s0, .ref 166] σ Q = WP E d mMo_does 163 [.ref 166, .int a1, .int a2, .int a3] [.int 1, .int s0, .ref 166] σ Q := (w_iconst (v := 1) dMo_does_158 rfl).trans (w_goto (t := 163) dMo_does_159 (by decide))
theorem bMo_does_162 {E : mEn} {d : Nat} {σ : mSt} {Q : mPost} {a1 : Int32} {a2 : Int32} {a3 : Int32} {s0 : Int32} : WP E d mMo_does 162 [.ref 166, .int a1, .int a2, .int a3] [.int s0, .ref 166] σ Q = WP E d mMo_does 163 [.ref 166, .int a1, .int a2, .int a3] [.int 0, .int s0, .ref 166] σ Q := w_iconst (v := 0) dMo_does_162 rfl
theorem bMo_does_163 {E : mEn} {d : Nat} {σ : mSt} {Q : mPost} {a1 : Int32} {a2 : Int32} {a3 : Int32} {s0 : Int32} {s1 : Int32} : WP E d mMo_does 163 [.ref 166, .int a1, .int a2, .int a3] [.int s0, .int s1, .ref 166] σ Q = Q (some (.int 1)) (sI σ 166 44 (s1 + s0)) := (w_iadd dMo_does_163).trans ((w_puti dMo_does_164 rz11_464 sh_166 rfl rfl rfl).trans ((w_iconst (v := 1) dMo_does_167 rfl).trans (w_zret dMo_does_168 rfl (Or.inr rfl))))
theorem bMo_does_169 {E : mEn} {d : Nat} {σ : mSt} {Q : mPost} {a1 : Int32} {a2 : Int32} {u3 : Value} : WP E d mMo_does 169 [.ref 166, .int a1, .int a2, u3] [] σ Q = (if ¬ a2 = (nI 3) then WP E d mMo_does 187 [.ref 166, .int a1, .int a2, u3] [] σ Q else WP E d mMo_does 174 [.ref 166, .int a1, .int a2, u3] [] σ Q) := (w_iload_n dMo_does_169 rfl).trans ((w_iconst (v := (nI 3)) dMo_does_170 rfl).trans (w_icmpne (t := 187) dMo_does_171 (by decide)))
theorem bMo_does_174 {E : mEn} {d : Nat} {σ : mSt} {Q : mPost} {a1 : Int32} {a2 : Int32} {u3 : Value} : WP E (d + 1) mMo_does 174 [.ref 166, .int a1, .int a2, u3] [] σ Q = (if mOut (a1 + 1) 3000 = true then False else WP E d mMo_waits 0 [.ref 166, .int (σ.1 171 (a1 + 1).toNatClampNeg), uu, uu] [] σ (fun r σ' => WP E (d + 1) mMo_does 186 [.ref 166, .int a1, .int a2, u3] (r.toList ++ []) σ' Q)) := (w_aload_n dMo_does_174 rfl).trans ((w_aload_n dMo_does_175 rfl).trans ((w_getr (r := 171) dMo_does_176 rz11_35 sh_166 rfl).trans ((w_iload_n dMo_does_179 rfl).trans ((w_iconst (v := 1) dMo_does_180 rfl).trans ((w_iadd dMo_does_181).trans ((w_iald dMo_does_182 sh_171 (by decide)).trans (ite_c (w_virt (vs := [.int (σ.1 171 (a1 + 1).toNatClampNeg)]) (st' := []) (es := [.ref 166, .int (σ.1 171 (a1 + 1).toNatClampNeg), uu, uu]) dMo_does_183 rz11_467 rfl sh_166 rfl rfl rfl (Nat.le_of_ble_eq_true rfl) (Nat.le_of_ble_eq_true rfl) rfl))))))))
theorem bMo_does_186 {E : mEn} {d : Nat} {σ : mSt} {Q : mPost} {a1 : Int32} {a2 : Int32} {u3 : Value} {s0 : Int32} (hz0 : s0 = 0 ∨ s0 = 1) : WP E d mMo_does 186 [.ref 166, .int a1, .int a2, u3] [.int s0] σ Q = Q (some (.int s0)) σ := w_zret dMo_does_186 rfl hz0
theorem bMo_does_187 {E : mEn} {d : Nat} {σ : mSt} {Q : mPost} {a1 : Int32} {a2 : Int32} {u3 : Value} : WP E d mMo_does 187 [.ref 166, .int a1, .int a2, u3] [] σ Q = (if ¬ a2 = (nI 5) then WP E d mMo_does 221 [.ref 166, .int a1, .int a2, u3] [] σ Q else WP E d mMo_does 192 [.ref 166, .int a1, .int a2, u3] [] σ Q) := (w_iload_n dMo_does_187 rfl).trans ((w_iconst (v := (nI 5)) dMo_does_188 rfl).trans (w_icmpne (t := 221) dMo_does_189 (by decide)))
theorem bMo_does_192 {E : mEn} {d : Nat} {σ : mSt} {Q : mPost} {a1 : Int32} {a2 : Int32} {u3 : Value} : WP E (d + 1) mMo_does 192 [.ref 166, .int a1, .int a2, u3] [] σ Q = (if mOut (a1 + 1) 3000 = true then False else (if mOut (a1 + (nI 2)) 3000 = true then False else (if mOut (a1 + (nI 3)) 3000 = true then False else WP E d mMo_pays 0 [.ref 166, .int (σ.1 171 (a1 + 1).toNatClampNeg), .int (σ.1 171 (a1 + (nI 2)).toNatClampNeg), .int (σ.1 171 (a1 + (nI 3)).toNatClampNeg)] [] σ (fun r σ' => WP E (d + 1) mMo_does 220 [.ref 166, .int a1, .int a2, u3] (r.toList ++ []) σ' Q)))) := (w_aload_n dMo_does_192 rfl).trans ((w_aload_n dMo_does_193 rfl).trans ((w_getr (r := 171) dMo_does_194 rz11_35 sh_166 rfl).trans ((w_iload_n dMo_does_197 rfl).trans ((w_iconst (v := 1) dMo_does_198 rfl).trans ((w_iadd dMo_does_199).trans ((w_iald dMo_does_200 sh_171 (by decide)).trans (ite_c ((w_aload_n dMo_does_201 rfl).trans ((w_getr (r := 171) dMo_does_202 rz11_35 sh_166 rfl).trans ((w_iload_n dMo_does_205 rfl).trans ((w_iconst (v := (nI 2)) dMo_does_206 rfl).trans ((w_iadd dMo_does_207).trans ((w_iald dMo_does_208 sh_171 (by decide)).trans (ite_c ((w_aload_n dMo_does_209 rfl).trans ((w_getr (r := 171) dMo_does_210 rz11_35 sh_166 rfl).trans ((w_iload_n dMo_does_213 rfl).trans ((w_iconst (v := (nI 3)) dMo_does_214 rfl).trans ((w_iadd dMo_does_215).trans ((w_iald dMo_does_216 sh_171 (by decide)).trans (ite_c (w_virt (vs := [.int (σ.1 171 (a1 + 1).toNatClampNeg), .int (σ.1 171 (a1 + (nI 2)).toNatClampNeg), .int (σ.1 171 (a1 + (nI 3)).toNatClampNeg)]) (st' := []) (es := [.ref 166, .int (σ.1 171 (a1 + 1).toNatClampNeg), .int (σ.1 171 (a1 + (nI 2)).toNatClampNeg), .int (σ.1 171 (a1 + (nI 3)).toNatClampNeg)]) dMo_does_217 rz11_451 rfl sh_166 rfl rfl rfl (Nat.le_of_ble_eq_true rfl) (Nat.le_of_ble_eq_true rfl) rfl))))))))))))))))))))))
theorem bMo_does_220 {E : mEn} {d : Nat} {σ : mSt} {Q : mPost} {a1 : Int32} {a2 : Int32} {u3 : Value} {s0 : Int32} (hz0 : s0 = 0 ∨ s0 = 1) : WP E d mMo_does 220 [.ref 166, .int a1, .int a2, u3] [.int s0] σ Q = Q (some (.int s0)) σ := w_zret dMo_does_220 rfl hz0
theorem bMo_does_221 {E : mEn} {d : Nat} {σ : mSt} {Q : mPost} {a1 : Int32} {a2 : Int32} {u3 : Value} : WP E (d + 1) mMo_does 221 [.ref 166, .int a1, .int a2, u3] [] σ Q = (if mOut (a1 + 1) 3000 = true then False else (if mOut (a1 + (nI 2)) 3000 = true then False else WP E d mMo_eats 0 [.ref 166, .int (σ.1 171 (a1 + 1).toNatClampNeg), .int (σ.1 171 (a1 + (nI 2)).toNatClampNeg), uu] [] σ (fun r σ' => WP E (d + 1) mMo_does 241 [.ref 166, .int a1, .int a2, u3] (r.toList ++ []) σ' Q))) := (w_aload_n dMo_does_221 rfl).trans ((w_aload_n dMo_does_222 rfl).trans ((w_getr (r := 171) dMo_does_223 rz11_35 sh_166 rfl).trans ((w_iload_n dMo_does_226 rfl).trans ((w_iconst (v := 1) dMo_does_227 rfl).trans ((w_iadd dMo_does_228).trans ((w_iald dMo_does_229 sh_171 (by decide)).trans (ite_c ((w_aload_n dMo_does_230 rfl).trans ((w_getr (r := 171) dMo_does_231 rz11_35 sh_166 rfl).trans ((w_iload_n dMo_does_234 rfl).trans ((w_iconst (v := (nI 2)) dMo_does_235 rfl).trans ((w_iadd dMo_does_236).trans ((w_iald dMo_does_237 sh_171 (by decide)).trans (ite_c (w_virt (vs := [.int (σ.1 171 (a1 + 1).toNatClampNeg), .int (σ.1 171 (a1 + (nI 2)).toNatClampNeg)]) (st' := []) (es := [.ref 166, .int (σ.1 171 (a1 + 1).toNatClampNeg), .int (σ.1 171 (a1 + (nI 2)).toNatClampNeg), uu]) dMo_does_238 rz11_448 rfl sh_166 rfl rfl rfl (Nat.le_of_ble_eq_true rfl) (Nat.le_of_ble_eq_true rfl) rfl)))))))))))))))
theorem bMo_does_241 {E : mEn} {d : Nat} {σ : mSt} {Q : mPost} {a1 : Int32} {a2 : Int32} {u3 : Value} {s0 : Int32} : WP E d mMo_does 241 [.ref 166, .int a1, .int a2, u3] [.int s0] σ Q = (if s0 ≤ 0 then WP E d mMo_does 260 [.ref 166, .int a1, .int a2, .int s0] [] (sI σ 166 43 ((σ.1 166 43) + s0)) Q else WP E d mMo_does 256 [.ref 166, .int a1, .int a2, .int s0] [] (sI σ 166 43 ((σ.1 166 43) + s0)) Q) := (w_istore_n (ls' := [.ref 166, .int a1, .int a2, .int s0]) dMo_does_241 (Nat.le_of_ble_eq_true rfl) rfl).trans ((w_aload_n dMo_does_242 rfl).trans ((w_dup dMo_does_243 rfl).trans ((w_geti dMo_does_244 rz11_470 sh_166 rfl).trans ((w_iload_n dMo_does_247 rfl).trans ((w_iadd dMo_does_248).trans ((w_puti dMo_does_249 rz11_470 sh_166 rfl rfl rfl).trans ((w_iload_n dMo_does_252 rfl).trans (w_ifle (t := 260) dMo_does_253 (by decide)))))))))
theorem bMo_does_256 {E : mEn} {d : Nat} {σ : mSt} {Q : mPost} {a1 : Int32} {a2 : Int32} {a3 : Int32} : WP E d mMo_does 256 [.ref 166, .int a1, .int a2, .int a3] [] σ Q = WP E d mMo_does 261 [.ref 166, .int a1, .int a2, .int a3] [.int 1] σ Q := (w_iconst (v := 1) dMo_does_256 rfl).trans (w_goto (t := 261) dMo_does_257 (by decide))
theorem bMo_does_260 {E : mEn} {d : Nat} {σ : mSt} {Q : mPost} {a1 : Int32} {a2 : Int32} {a3 : Int32} : WP E d mMo_does 260 [.ref 166, .int a1, .int a2, .int a3] [] σ Q = WP E d mMo_does 261 [.ref 166, .int a1, .int a2, .int a3] [.int 0] σ Q := w_iconst (v := 0) dMo_does_260 rfl
theorem bMo_does_261 {E : mEn} {d : Nat} {σ : mSt} {Q : mPost} {a1 : Int32} {a2 : Int32} {a3 : Int32} {s0 : Int32} (hz0 : s0 = 0 ∨ s0 = 1) : WP E d mMo_does 261 [.ref 166, .int a1, .int a2, .int a3] [.int s0] σ Q = Q (some (.int s0)) σ := w_zret dMo_does_261 rfl hz0
theorem dMo_waits_0 : decode (mC mMo_waits) 0 = .ok (.aload_n 0, 1) := by decide +kernel
theorem dMo_waits_1 : decode (mC mMo_waits) 1 = .ok (.getfield 35, 3) := by decide +kernel
theorem dMo_waits_4 : decode (mC mMo_waits) 4 = .ok (.iconst (4), 1) := by decide +kernel
theorem dMo_waits_5 : decode (mC mMo_waits) 5 = .ok (.iaload, 1) := by decide +kernel
theorem dMo_waits_6 : decode (mC mMo_waits) 6 = .ok (.istore_n 2, 1) := by decide +kernel
theorem dMo_waits_7 : decode (mC mMo_waits) 7 = .ok (.aload_n 0, 1) := by decide +kernel
theorem dMo_waits_8 : decode (mC mMo_waits) 8 = .ok (.getfield 35, 3) := by decide +kernel
theorem dMo_waits_11 : decode (mC mMo_waits) 11 = .ok (.iconst (4), 1) := by decide +kernel
theorem dMo_waits_12 : decode (mC mMo_waits) 12 = .ok (.iaload, 1) := by decide +kernel
theorem dMo_waits_13 : decode (mC mMo_waits) 13 = .ok (.bipush (99), 2) := by decide +kernel
theorem dMo_waits_15 : decode (mC mMo_waits) 15 = .ok (.if_icmp .ge (85), 3) := by decide +kernel
theorem dMo_waits_18 : decode (mC mMo_waits) 18 = .ok (.aload_n 0, 1) := by decide +kernel
theorem dMo_waits_19 : decode (mC mMo_waits) 19 = .ok (.getfield 35, 3) := by decide +kernel
theorem dMo_waits_22 : decode (mC mMo_waits) 22 = .ok (.iconst (4), 1) := by decide +kernel
theorem dMo_waits_23 : decode (mC mMo_waits) 23 = .ok (.iaload, 1) := by decide +kernel
theorem dMo_waits_24 : decode (mC mMo_waits) 24 = .ok (.iload_n 2, 1) := by decide +kernel
theorem dMo_waits_25 : decode (mC mMo_waits) 25 = .ok (.iload_n 1, 1) := by decide +kernel
theorem dMo_waits_26 : decode (mC mMo_waits) 26 = .ok (.iadd, 1) := by decide +kernel
theorem dMo_waits_27 : decode (mC mMo_waits) 27 = .ok (.if_icmp .ge (73), 3) := by decide +kernel
theorem dMo_waits_30 : decode (mC mMo_waits) 30 = .ok (.aload_n 0, 1) := by decide +kernel
theorem dMo_waits_31 : decode (mC mMo_waits) 31 = .ok (.getfield 35, 3) := by decide +kernel
theorem dMo_waits_34 : decode (mC mMo_waits) 34 = .ok (.iconst (4), 1) := by decide +kernel
theorem dMo_waits_35 : decode (mC mMo_waits) 35 = .ok (.dup2, 1) := by decide +kernel
theorem dMo_waits_36 : decode (mC mMo_waits) 36 = .ok (.iaload, 1) := by decide +kernel
theorem dMo_waits_37 : decode (mC mMo_waits) 37 = .ok (.iconst (1), 1) := by decide +kernel
theorem dMo_waits_38 : decode (mC mMo_waits) 38 = .ok (.iadd, 1) := by decide +kernel
theorem dMo_waits_39 : decode (mC mMo_waits) 39 = .ok (.iastore, 1) := by decide +kernel
theorem dMo_waits_40 : decode (mC mMo_waits) 40 = .ok (.aload_n 0, 1) := by decide +kernel
theorem dMo_waits_41 : decode (mC mMo_waits) 41 = .ok (.getfield 35, 3) := by decide +kernel
theorem dMo_waits_44 : decode (mC mMo_waits) 44 = .ok (.iconst (5), 1) := by decide +kernel
theorem dMo_waits_45 : decode (mC mMo_waits) 45 = .ok (.iconst (0), 1) := by decide +kernel
theorem dMo_waits_46 : decode (mC mMo_waits) 46 = .ok (.iastore, 1) := by decide +kernel
theorem dMo_waits_47 : decode (mC mMo_waits) 47 = .ok (.iconst (0), 1) := by decide +kernel
theorem dMo_waits_48 : decode (mC mMo_waits) 48 = .ok (.istore_n 3, 1) := by decide +kernel
theorem dMo_waits_49 : decode (mC mMo_waits) 49 = .ok (.iload_n 3, 1) := by decide +kernel
theorem dMo_waits_50 : decode (mC mMo_waits) 50 = .ok (.aload_n 0, 1) := by decide +kernel
theorem dMo_waits_51 : decode (mC mMo_waits) 51 = .ok (.getfield 35, 3) := by decide +kernel
theorem dMo_waits_54 : decode (mC mMo_waits) 54 = .ok (.iconst (1), 1) := by decide +kernel
theorem dMo_waits_55 : decode (mC mMo_waits) 55 = .ok (.iaload, 1) := by decide +kernel
theorem dMo_waits_56 : decode (mC mMo_waits) 56 = .ok (.if_icmp .ge (41), 3) := by decide +kernel
theorem dMo_waits_59 : decode (mC mMo_waits) 59 = .ok (.aload_n 0, 1) := by decide +kernel
theorem dMo_waits_60 : decode (mC mMo_waits) 60 = .ok (.getfield 35, 3) := by decide +kernel
theorem dMo_waits_63 : decode (mC mMo_waits) 63 = .ok (.iconst (5), 1) := by decide +kernel
theorem dMo_waits_64 : decode (mC mMo_waits) 64 = .ok (.dup2, 1) := by decide +kernel
theorem dMo_waits_65 : decode (mC mMo_waits) 65 = .ok (.iaload, 1) := by decide +kernel
theorem dMo_waits_66 : decode (mC mMo_waits) 66 = .ok (.aload_n 0, 1) := by decide +kernel
theorem dMo_waits_67 : decode (mC mMo_waits) 67 = .ok (.invokevirtual 458, 3) := by decide +kernel
theorem dMo_waits_70 : decode (mC mMo_waits) 70 = .ok (.aload_n 0, 1) := by decide +kernel
theorem dMo_waits_71 : decode (mC mMo_waits) 71 = .ok (.getfield 35, 3) := by decide +kernel
theorem dMo_waits_74 : decode (mC mMo_waits) 74 = .ok (.bipush (30), 2) := by decide +kernel
theorem dMo_waits_76 : decode (mC mMo_waits) 76 = .ok (.iload_n 3, 1) := by decide +kernel
theorem dMo_waits_77 : decode (mC mMo_waits) 77 = .ok (.iadd, 1) := by decide +kernel
theorem dMo_waits_78 : decode (mC mMo_waits) 78 = .ok (.iaload, 1) := by decide +kernel
theorem dMo_waits_79 : decode (mC mMo_waits) 79 = .ok (.if_icmp .ge (9), 3) := by decide +kernel
theorem dMo_waits_82 : decode (mC mMo_waits) 82 = .ok (.iconst (1), 1) := by decide +kernel
theorem dMo_waits_83 : decode (mC mMo_waits) 83 = .ok (.iload_n 3, 1) := by decide +kernel
theorem dMo_waits_84 : decode (mC mMo_waits) 84 = .ok (.ishl, 1) := by decide +kernel
theorem dMo_waits_85 : decode (mC mMo_waits) 85 = .ok (.goto (4), 3) := by decide +kernel
theorem dMo_waits_88 : decode (mC mMo_waits) 88 = .ok (.iconst (0), 1) := by decide +kernel
theorem dMo_waits_89 : decode (mC mMo_waits) 89 = .ok (.ior, 1) := by decide +kernel
theorem dMo_waits_90 : decode (mC mMo_waits) 90 = .ok (.iastore, 1) := by decide +kernel
theorem dMo_waits_91 : decode (mC mMo_waits) 91 = .ok (.iinc 3 (1), 3) := by decide +kernel
theorem dMo_waits_94 : decode (mC mMo_waits) 94 = .ok (.goto (-45), 3) := by decide +kernel
theorem dMo_waits_97 : decode (mC mMo_waits) 97 = .ok (.goto (-90), 3) := by decide +kernel
theorem dMo_waits_100 : decode (mC mMo_waits) 100 = .ok (.aload_n 0, 1) := by decide +kernel
theorem dMo_waits_101 : decode (mC mMo_waits) 101 = .ok (.getfield 35, 3) := by decide +kernel
theorem dMo_waits_104 : decode (mC mMo_waits) 104 = .ok (.iconst (4), 1) := by decide +kernel
theorem dMo_waits_105 : decode (mC mMo_waits) 105 = .ok (.iaload, 1) := by decide +kernel
theorem dMo_waits_106 : decode (mC mMo_waits) 106 = .ok (.iload_n 2, 1) := by decide +kernel
theorem dMo_waits_107 : decode (mC mMo_waits) 107 = .ok (.if_icmp .le (7), 3) := by decide +kernel
theorem dMo_waits_110 : decode (mC mMo_waits) 110 = .ok (.iconst (1), 1) := by decide +kernel
theorem dMo_waits_111 : decode (mC mMo_waits) 111 = .ok (.goto (4), 3) := by decide +kernel
theorem dMo_waits_114 : decode (mC mMo_waits) 114 = .ok (.iconst (0), 1) := by decide +kernel
theorem dMo_waits_115 : decode (mC mMo_waits) 115 = .ok (.ireturn, 1) := by decide +kernel
theorem bMo_waits_0 {E : mEn} {d : Nat} {σ : mSt} {Q : mPost} {a1 : Int32} {u2 : Value} {u3 : Value} : WP E d mMo_waits 0 [.ref 166, .int a1, u2, u3] [] σ Q = (if mOut (nI 4) 3000 = true then False else WP E d mMo_waits 7 [.ref 166, .int a1, .int (σ.1 171 4), u3] [] σ Q) := (w_aload_n dMo_waits_0 rfl).trans ((w_getr (r := 171) dMo_waits_1 rz11_35 sh_166 rfl).trans ((w_iconst (v := (nI 4)) dMo_waits_4 rfl).trans ((w_iald dMo_waits_5 sh_171 (by decide)).trans (ite_c (w_istore_n (ls' := [.ref 166, .int a1, .int (σ.1 171 4), u3]) dMo_waits_6 (Nat.le_of_ble_eq_true rfl) rfl)))))
theorem bMo_waits_7 {E : mEn} {d : Nat} {σ : mSt} {Q : mPost} {a1 : Int32} {a2 : Int32} {u3 : Value} : WP E d mMo_waits 7 [.ref 166, .int a1, .int a2, u3] [] σ Q = (if mOut (nI 4) 3000 = true then False else (if (nI 99) ≤ (σ.1 171 4) then WP E d mMo_waits 100 [.ref 166, .int a1, .int a2, u3] [] σ Q else WP E d mMo_waits 18 [.ref 166, .int a1, .int a2, u3] [] σ Q)) := (w_aload_n dMo_waits_7 rfl).trans ((w_getr (r := 171) dMo_waits_8 rz11_35 sh_166 rfl).trans ((w_iconst (v := (nI 4)) dMo_waits_11 rfl).trans ((w_iald dMo_waits_12 sh_171 (by decide)).trans (ite_c ((w_bipush (v := (nI 99)) dMo_waits_13 rfl).trans (w_icmpge (t := 100) dMo_waits_15 (by decide)))))))
theorem bMo_waits_18 {E : mEn} {d : Nat} {σ : mSt} {Q : mPost} {a1 : Int32} {a2 : Int32} {u3 : Value} : WP E d mMo_waits 18 [.ref 166, .int a1, .int a2, u3] [] σ Q = (if mOut (nI 4) 3000 = true then False else (if (a2 + a1) ≤ (σ.1 171 4) then WP E d mMo_waits 100 [.ref 166, .int a1, .int a2, u3] [] σ Q else WP E d mMo_waits 30 [.ref 166, .int a1, .int a2, u3] [] σ Q)) := (w_aload_n dMo_waits_18 rfl).trans ((w_getr (r := 171) dMo_waits_19 rz11_35 sh_166 rfl).trans ((w_iconst (v := (nI 4)) dMo_waits_22 rfl).trans ((w_iald dMo_waits_23 sh_171 (by decide)).trans (ite_c ((w_iload_n dMo_waits_24 rfl).trans ((w_iload_n dMo_waits_25 rfl).trans ((w_iadd dMo_waits_26).trans (w_icmpge (t := 100) dMo_waits_27 (by decide)))))))))
theorem bMo_waits_30 {E : mEn} {d : Nat} {σ : mSt} {Q : mPost} {a1 : Int32} {a2 : Int32} {u3 : Value} : WP E d mMo_waits 30 [.ref 166, .int a1, .int a2, u3] [] σ Q = (if mOut (nI 4) 3000 = true then False else (if mOut (nI 4) 3000 = true then False else (if mOut (nI 5) 3000 = true then False else WP E d mMo_waits 49 [.ref 166, .int a1, .int a2, .int 0] [] (sI (sI σ 171 4 ((σ.1 171 4) + 1)) 171 5 0) Q))) := (w_aload_n dMo_waits_30 rfl).trans ((w_getr (r := 171) dMo_waits_31 rz11_35 sh_166 rfl).trans ((w_iconst (v := (nI 4)) dMo_waits_34 rfl).trans ((w_dup2 dMo_waits_35 rfl rfl).trans ((w_iald dMo_waits_36 sh_171 (by decide)).trans (ite_c ((w_iconst (v := 1) dMo_waits_37 rfl).trans ((w_iadd dMo_waits_38).trans ((w_iast dMo_waits_39 sh_171).trans (ite_c ((w_aload_n dMo_waits_40 rfl).trans ((w_getr (r := 171) dMo_waits_41 rz11_35 sh_166 rfl).trans ((w_iconst (v := (nI 5)) dMo_waits_44 rfl).trans ((w_iconst (v := 0) dMo_waits_45 rfl).trans ((w_iast dMo_waits_46 sh_171).trans (ite_c ((w_iconst (v := 0) dMo_waits_47 rfl).trans (w_istore_n (ls' := [.ref 166, .int a1, .int a2, .int 0]) dMo_waits_48 (Nat.le_of_ble_eq_true rfl) rfl)))))))))))))))))
theorem bMo_waits_49 {E : mEn} {d : Nat} {σ : mSt} {Q : mPost} {a1 : Int32} {a2 : Int32} {a3 : Int32} : WP E d mMo_waits 49 [.ref 166, .int a1, .int a2, .int a3] [] σ Q = (if mOut 1 3000 = true then False else (if (σ.1 171 1) ≤ a3 then WP E d mMo_waits 97 [.ref 166, .int a1, .int a2, .int a3] [] σ Q else WP E d mMo_waits 59 [.ref 166, .int a1, .int a2, .int a3] [] σ Q)) := (w_iload_n dMo_waits_49 rfl).trans ((w_aload_n dMo_waits_50 rfl).trans ((w_getr (r := 171) dMo_waits_51 rz11_35 sh_166 rfl).trans ((w_iconst (v := 1) dMo_waits_54 rfl).trans ((w_iald dMo_waits_55 sh_171 (by decide)).trans (ite_c (w_icmpge (t := 97) dMo_waits_56 (by decide)))))))
theorem bMo_waits_59 {E : mEn} {d : Nat} {σ : mSt} {Q : mPost} {a1 : Int32} {a2 : Int32} {a3 : Int32} : WP E (d + 1) mMo_waits 59 [.ref 166, .int a1, .int a2, .int a3] [] σ Q = (if mOut (nI 5) 3000 = true then False else WP E d mMo_draw 0 [.ref 166] [] σ (fun r σ' => WP E (d + 1) mMo_waits 70 [.ref 166, .int a1, .int a2, .int a3] (r.toList ++ [.int (σ.1 171 5), .int (nI 5), .ref 171]) σ' Q)) := (w_aload_n dMo_waits_59 rfl).trans ((w_getr (r := 171) dMo_waits_60 rz11_35 sh_166 rfl).trans ((w_iconst (v := (nI 5)) dMo_waits_63 rfl).trans ((w_dup2 dMo_waits_64 rfl rfl).trans ((w_iald dMo_waits_65 sh_171 (by decide)).trans (ite_c ((w_aload_n dMo_waits_66 rfl).trans (w_virt (vs := []) (st' := [.int (σ.1 171 5), .int (nI 5), .ref 171]) (es := [.ref 166]) dMo_waits_67 rz11_458 rfl sh_166 rfl rfl rfl (Nat.le_of_ble_eq_true rfl) (Nat.le_of_ble_eq_true rfl) rfl)))))))
theorem bMo_waits_70 {E : mEn} {d : Nat} {σ : mSt} {Q : mPost} {a1 : Int32} {a2 : Int32} {a3 : Int32} {s0 : Int32} {s1 : Int32} {s2 : Int32} : WP E d mMo_waits 70 [.ref 166, .int a1, .int a2, .int a3] [.int s0, .int s1, .int s2, .ref 171] σ Q = (if mOut ((nI 30) + a3) 3000 = true then False else (if (σ.1 171 ((nI 30) + a3).toNatClampNeg) ≤ s0 then WP E d mMo_waits 88 [.ref 166, .int a1, .int a2, .int a3] [.int s1, .int s2, .ref 171] σ Q else WP E d mMo_waits 82 [.ref 166, .int a1, .int a2, .int a3] [.int s1, .int s2, .ref 171] σ Q)) := (w_aload_n dMo_waits_70 rfl).trans ((w_getr (r := 171) dMo_waits_71 rz11_35 sh_166 rfl).trans ((w_bipush (v := (nI 30)) dMo_waits_74 rfl).trans ((w_iload_n dMo_waits_76 rfl).trans ((w_iadd dMo_waits_77).trans ((w_iald dMo_waits_78 sh_171 (by decide)).trans (ite_c (w_icmpge (t := 88) dMo_waits_79 (by decide))))))))
theorem bMo_waits_82 {E : mEn} {d : Nat} {σ : mSt} {Q : mPost} {a1 : Int32} {a2 : Int32} {a3 : Int32} {s0 : Int32} {s1 : Int32} : WP E d mMo_waits 82 [.ref 166, .int a1, .int a2, .int a3] [.int s0, .int s1, .ref 171] σ Q = WP E d mMo_waits 89 [.ref 166, .int a1, .int a2, .int a3] [.int (1 <<< (a3 &&& 31)), .int s0, .int s1, .ref 171] σ Q := (w_iconst (v := 1) dMo_waits_82 rfl).trans ((w_iload_n dMo_waits_83 rfl).trans ((w_ishl dMo_waits_84).trans (w_goto (t := 89) dMo_waits_85 (by decide))))
theorem bMo_waits_88 {E : mEn} {d : Nat} {σ : mSt} {Q : mPost} {a1 : Int32} {a2 : Int32} {a3 : Int32} {s0 : Int32} {s1 : Int32} : WP E d mMo_waits 88 [.ref 166, .int a1, .int a2, .int a3] [.int s0, .int s1, .ref 171] σ Q = WP E d mMo_waits 89 [.ref 166, .int a1, .int a2, .int a3] [.int 0, .int s0, .int s1, .ref 171] σ Q := w_iconst (v := 0) dMo_waits_88 rfl
theorem bMo_waits_89 {E : mEn} {d : Nat} {σ : mSt} {Q : mPost} {a1 : Int32} {a2 : Int32} {a3 : Int32} {s0 : Int32} {s1 : Int32} {s2 : Int32} : WP E d mMo_waits 89 [.ref 166, .int a1, .int a2, .int a3] [.int s0, .int s1, .int s2, .ref 171] σ Q = (if mOut s2 3000 = true then False else WP E d mMo_waits 49 [.ref 166, .int a1, .int a2, .int (a3 + 1)] [] (sI σ 171 s2.toNatClampNeg (s1 ||| s0)) Q) := (w_ior dMo_waits_89).trans ((w_iast dMo_waits_90 sh_171).trans (ite_c ((w_iinc (v := 1) (ls' := [.ref 166, .int a1, .int a2, .int (a3 + 1)]) dMo_waits_91 rfl rfl rfl).trans (w_goto (t := 49) dMo_waits_94 (by decide)))))
theorem bMo_waits_97 {E : mEn} {d : Nat} {σ : mSt} {Q : mPost} {a1 : Int32} {a2 : Int32} {a3 : Int32} : WP E d mMo_waits 97 [.ref 166, .int a1, .int a2, .int a3] [] σ Q = WP E d mMo_waits 7 [.ref 166, .int a1, .int a2, .int a3] [] σ Q := w_goto (t := 7) dMo_waits_97 (by decide)
theorem bMo_waits_100 {E : mEn} {d : Nat} {σ : mSt} {Q : mPost} {a1 : Int32} {a2 : Int32} {u3 : Value} : WP E d mMo_waits 100 [.ref 166, .int a1, .int a2, u3] [] σ Q = (if mOut (nI 4) 3000 = true then False else (if (σ.1 171 4) ≤ a2 then WP E d mMo_waits 114 [.ref 166, .int a1, .int a2, u3] [] σ Q else WP E d mMo_waits 110 [.ref 166, .int a1, .int a2, u3] [] σ Q)) := (w_aload_n dMo_waits_100 rfl).trans ((w_getr (r := 171) dMo_waits_101 rz11_35 sh_166 rfl).trans ((w_iconst (v := (nI 4)) dMo_waits_104 rfl).trans ((w_iald dMo_waits_105 sh_171 (by decide)).trans (ite_c ((w_iload_n dMo_waits_106 rfl).trans (w_icmple (t := 114) dMo_waits_107 (by decide)))))))
theorem bMo_waits_110 {E : mEn} {d : Nat} {σ : mSt} {Q : mPost} {a1 : Int32} {a2 : Int32} {u3 : Value} : WP E d mMo_waits 110 [.ref 166, .int a1, .int a2, u3] [] σ Q = WP E d mMo_waits 115 [.ref 166, .int a1, .int a2, u3] [.int 1] σ Q := (w_iconst (v := 1) dMo_waits_110 rfl).trans (w_goto (t := 115) dMo_waits_111 (by decide))
theorem bMo_waits_114 {E : mEn} {d : Nat} {σ : mSt} {Q : mPost} {a1 : Int32} {a2 : Int32} {u3 : Value} : WP E d mMo_waits 114 [.ref 166, .int a1, .int a2, u3] [] σ Q = WP E d mMo_waits 115 [.ref 166, .int a1, .int a2, u3] [.int 0] σ Q := w_iconst (v := 0) dMo_waits_114 rfl
theorem bMo_waits_115 {E : mEn} {d : Nat} {σ : mSt} {Q : mPost} {a1 : Int32} {a2 : Int32} {u3 : Value} {s0 : Int32} (hz0 : s0 = 0 ∨ s0 = 1) : WP E d mMo_waits 115 [.ref 166, .int a1, .int a2, u3] [.int s0] σ Q = Q (some (.int s0)) σ := w_zret dMo_waits_115 rfl hz0
theorem dMo_draw_0 : decode (mC mMo_draw) 0 = .ok (.aload_n 0, 1) := by decide +kernel
theorem dMo_draw_1 : decode (mC mMo_draw) 1 = .ok (.aload_n 0, 1) := by decide +kernel
theorem dMo_draw_2 : decode (mC mMo_draw) 2 = .ok (.getfield 454, 3) := by decide +kernel
theorem dMo_draw_5 : decode (mC mMo_draw) 5 = .ok (.sipush (2803), 3) := by decide +kernel
theorem dMo_draw_8 : decode (mC mMo_draw) 8 = .ok (.imul, 1) := by decide +kernel
theorem dMo_draw_9 : decode (mC mMo_draw) 9 = .ok (.sipush (10607), 3) := by decide +kernel
theorem dMo_draw_12 : decode (mC mMo_draw) 12 = .ok (.iadd, 1) := by decide +kernel
theorem dMo_draw_13 : decode (mC mMo_draw) 13 = .ok (.ldc_w 457, 3) := by decide +kernel
theorem dMo_draw_16 : decode (mC mMo_draw) 16 = .ok (.irem, 1) := by decide +kernel
theorem dMo_draw_17 : decode (mC mMo_draw) 17 = .ok (.putfield 454, 3) := by decide +kernel
theorem dMo_draw_20 : decode (mC mMo_draw) 20 = .ok (.aload_n 0, 1) := by decide +kernel
theorem dMo_draw_21 : decode (mC mMo_draw) 21 = .ok (.getfield 454, 3) := by decide +kernel
theorem dMo_draw_24 : decode (mC mMo_draw) 24 = .ok (.bipush (8), 2) := by decide +kernel
theorem dMo_draw_26 : decode (mC mMo_draw) 26 = .ok (.idiv, 1) := by decide +kernel
theorem dMo_draw_27 : decode (mC mMo_draw) 27 = .ok (.bipush (16), 2) := by decide +kernel
theorem dMo_draw_29 : decode (mC mMo_draw) 29 = .ok (.irem, 1) := by decide +kernel
theorem dMo_draw_30 : decode (mC mMo_draw) 30 = .ok (.ireturn, 1) := by decide +kernel
theorem bMo_draw_0 {E : mEn} {d : Nat} {σ : mSt} {Q : mPost} : WP E d mMo_draw 0 [.ref 166] [] σ Q = (if (65536) = 0 then False else Q (some (.int ((((sI σ 166 39 ((((σ.1 166 39) * (nI 2803)) + (nI 10607)) - (((σ.1 166 39) * (nI 2803)) + (nI 10607)) / (65536) * (65536))).1 166 39) / (nI 8)) - (((sI σ 166 39 ((((σ.1 166 39) * (nI 2803)) + (nI 10607)) - (((σ.1 166 39) * (nI 2803)) + (nI 10607)) / (65536) * (65536))).1 166 39) / (nI 8)) / (nI 16) * (nI 16)))) (sI σ 166 39 ((((σ.1 166 39) * (nI 2803)) + (nI 10607)) - (((σ.1 166 39) * (nI 2803)) + (nI 10607)) / (65536) * (65536)))) := (w_aload_n dMo_draw_0 rfl).trans ((w_aload_n dMo_draw_1 rfl).trans ((w_geti dMo_draw_2 rz11_454 sh_166 rfl).trans ((w_sipush (v := (nI 2803)) dMo_draw_5 rfl).trans ((w_imul dMo_draw_8).trans ((w_sipush (v := (nI 10607)) dMo_draw_9 rfl).trans ((w_iadd dMo_draw_12).trans ((w_ldc_w dMo_draw_13 rz11_457).trans ((w_irem' dMo_draw_16).trans (ite_c ((w_puti dMo_draw_17 rz11_454 sh_166 rfl rfl rfl).trans ((w_aload_n dMo_draw_20 rfl).trans ((w_geti dMo_draw_21 rz11_454 sh_166 rfl).trans ((w_bipush (v := (nI 8)) dMo_draw_24 rfl).trans ((w_idiv dMo_draw_26 (by decide)).trans ((w_bipush (v := (nI 16)) dMo_draw_27 rfl).trans ((w_irem dMo_draw_29 (by decide)).trans (w_iret dMo_draw_30 rfl)))))))))))))))))
theorem dMo_isSo_0 : decode (mC mMo_isSo) 0 = .ok (.aload_n 0, 1) := by decide +kernel
theorem dMo_isSo_1 : decode (mC mMo_isSo) 1 = .ok (.getfield 35, 3) := by decide +kernel
theorem dMo_isSo_4 : decode (mC mMo_isSo) 4 = .ok (.iload_n 1, 1) := by decide +kernel
theorem dMo_isSo_5 : decode (mC mMo_isSo) 5 = .ok (.bipush (6), 2) := by decide +kernel
theorem dMo_isSo_7 : decode (mC mMo_isSo) 7 = .ok (.iadd, 1) := by decide +kernel
theorem dMo_isSo_8 : decode (mC mMo_isSo) 8 = .ok (.iaload, 1) := by decide +kernel
theorem dMo_isSo_9 : decode (mC mMo_isSo) 9 = .ok (.istore_n 2, 1) := by decide +kernel
theorem dMo_isSo_10 : decode (mC mMo_isSo) 10 = .ok (.iload_n 2, 1) := by decide +kernel
theorem dMo_isSo_11 : decode (mC mMo_isSo) 11 = .ok (.iconst (2), 1) := by decide +kernel
theorem dMo_isSo_12 : decode (mC mMo_isSo) 12 = .ok (.if_icmp .ne (16), 3) := by decide +kernel
theorem dMo_isSo_15 : decode (mC mMo_isSo) 15 = .ok (.aload_n 0, 1) := by decide +kernel
theorem dMo_isSo_16 : decode (mC mMo_isSo) 16 = .ok (.aload_n 0, 1) := by decide +kernel
theorem dMo_isSo_17 : decode (mC mMo_isSo) 17 = .ok (.getfield 35, 3) := by decide +kernel
theorem dMo_isSo_20 : decode (mC mMo_isSo) 20 = .ok (.iload_n 1, 1) := by decide +kernel
theorem dMo_isSo_21 : decode (mC mMo_isSo) 21 = .ok (.iconst (1), 1) := by decide +kernel
theorem dMo_isSo_22 : decode (mC mMo_isSo) 22 = .ok (.iadd, 1) := by decide +kernel
theorem dMo_isSo_23 : decode (mC mMo_isSo) 23 = .ok (.iaload, 1) := by decide +kernel
theorem dMo_isSo_24 : decode (mC mMo_isSo) 24 = .ok (.invokevirtual 323, 3) := by decide +kernel
theorem dMo_isSo_27 : decode (mC mMo_isSo) 27 = .ok (.ireturn, 1) := by decide +kernel
theorem dMo_isSo_28 : decode (mC mMo_isSo) 28 = .ok (.iload_n 2, 1) := by decide +kernel
theorem dMo_isSo_29 : decode (mC mMo_isSo) 29 = .ok (.iconst (3), 1) := by decide +kernel
theorem dMo_isSo_30 : decode (mC mMo_isSo) 30 = .ok (.if_icmp .ne (21), 3) := by decide +kernel
theorem dMo_isSo_33 : decode (mC mMo_isSo) 33 = .ok (.aload_n 0, 1) := by decide +kernel
theorem dMo_isSo_34 : decode (mC mMo_isSo) 34 = .ok (.getfield 35, 3) := by decide +kernel
theorem dMo_isSo_37 : decode (mC mMo_isSo) 37 = .ok (.iconst (5), 1) := by decide +kernel
theorem dMo_isSo_38 : decode (mC mMo_isSo) 38 = .ok (.iaload, 1) := by decide +kernel
theorem dMo_isSo_39 : decode (mC mMo_isSo) 39 = .ok (.aload_n 0, 1) := by decide +kernel
theorem dMo_isSo_40 : decode (mC mMo_isSo) 40 = .ok (.getfield 35, 3) := by decide +kernel
theorem dMo_isSo_43 : decode (mC mMo_isSo) 43 = .ok (.iload_n 1, 1) := by decide +kernel
theorem dMo_isSo_44 : decode (mC mMo_isSo) 44 = .ok (.iconst (1), 1) := by decide +kernel
theorem dMo_isSo_45 : decode (mC mMo_isSo) 45 = .ok (.iadd, 1) := by decide +kernel
theorem dMo_isSo_46 : decode (mC mMo_isSo) 46 = .ok (.iaload, 1) := by decide +kernel
theorem dMo_isSo_47 : decode (mC mMo_isSo) 47 = .ok (.invokestatic 393, 3) := by decide +kernel
theorem dMo_isSo_50 : decode (mC mMo_isSo) 50 = .ok (.ireturn, 1) := by decide +kernel
theorem dMo_isSo_51 : decode (mC mMo_isSo) 51 = .ok (.iload_n 2, 1) := by decide +kernel
theorem dMo_isSo_52 : decode (mC mMo_isSo) 52 = .ok (.ifCond .ne (12), 3) := by decide +kernel
theorem dMo_isSo_55 : decode (mC mMo_isSo) 55 = .ok (.aload_n 0, 1) := by decide +kernel
theorem dMo_isSo_56 : decode (mC mMo_isSo) 56 = .ok (.getfield 35, 3) := by decide +kernel
theorem dMo_isSo_59 : decode (mC mMo_isSo) 59 = .ok (.iconst (4), 1) := by decide +kernel
theorem dMo_isSo_60 : decode (mC mMo_isSo) 60 = .ok (.iaload, 1) := by decide +kernel
theorem dMo_isSo_61 : decode (mC mMo_isSo) 61 = .ok (.goto (19), 3) := by decide +kernel
theorem dMo_isSo_64 : decode (mC mMo_isSo) 64 = .ok (.aload_n 0, 1) := by decide +kernel
theorem dMo_isSo_65 : decode (mC mMo_isSo) 65 = .ok (.getfield 35, 3) := by decide +kernel
theorem dMo_isSo_68 : decode (mC mMo_isSo) 68 = .ok (.bipush (14), 2) := by decide +kernel
theorem dMo_isSo_70 : decode (mC mMo_isSo) 70 = .ok (.aload_n 0, 1) := by decide +kernel
theorem dMo_isSo_71 : decode (mC mMo_isSo) 71 = .ok (.getfield 35, 3) := by decide +kernel
theorem dMo_isSo_74 : decode (mC mMo_isSo) 74 = .ok (.iload_n 1, 1) := by decide +kernel
theorem dMo_isSo_75 : decode (mC mMo_isSo) 75 = .ok (.iconst (1), 1) := by decide +kernel
theorem dMo_isSo_76 : decode (mC mMo_isSo) 76 = .ok (.iadd, 1) := by decide +kernel
theorem dMo_isSo_77 : decode (mC mMo_isSo) 77 = .ok (.iaload, 1) := by decide +kernel
theorem dMo_isSo_78 : decode (mC mMo_isSo) 78 = .ok (.iadd, 1) := by decide +kernel
theorem dMo_isSo_79 : decode (mC mMo_isSo) 79 = .ok (.iaload, 1) := by decide +kernel
theorem dMo_isSo_80 : decode (mC mMo_isSo) 80 = .ok (.istore_n 3, 1) := by decide +kernel
theorem dMo_isSo_81 : decode (mC mMo_isSo) 81 = .ok (.aload_n 0, 1) := by decide +kernel
theorem dMo_isSo_82 : decode (mC mMo_isSo) 82 = .ok (.getfield 35, 3) := by decide +kernel
theorem dMo_isSo_85 : decode (mC mMo_isSo) 85 = .ok (.iload_n 1, 1) := by decide +kernel
theorem dMo_isSo_86 : decode (mC mMo_isSo) 86 = .ok (.bipush (7), 2) := by decide +kernel
theorem dMo_isSo_88 : decode (mC mMo_isSo) 88 = .ok (.iadd, 1) := by decide +kernel
theorem dMo_isSo_89 : decode (mC mMo_isSo) 89 = .ok (.iaload, 1) := by decide +kernel
theorem dMo_isSo_90 : decode (mC mMo_isSo) 90 = .ok (.bipush (60), 2) := by decide +kernel
theorem dMo_isSo_92 : decode (mC mMo_isSo) 92 = .ok (.if_icmp .ne (23), 3) := by decide +kernel
theorem dMo_isSo_95 : decode (mC mMo_isSo) 95 = .ok (.iload_n 3, 1) := by decide +kernel
theorem dMo_isSo_96 : decode (mC mMo_isSo) 96 = .ok (.aload_n 0, 1) := by decide +kernel
theorem dMo_isSo_97 : decode (mC mMo_isSo) 97 = .ok (.getfield 35, 3) := by decide +kernel
theorem dMo_isSo_100 : decode (mC mMo_isSo) 100 = .ok (.iload_n 1, 1) := by decide +kernel
theorem dMo_isSo_101 : decode (mC mMo_isSo) 101 = .ok (.iconst (2), 1) := by decide +kernel
theorem dMo_isSo_102 : decode (mC mMo_isSo) 102 = .ok (.iadd, 1) := by decide +kernel
theorem dMo_isSo_103 : decode (mC mMo_isSo) 103 = .ok (.iaload, 1) := by decide +kernel
theorem dMo_isSo_104 : decode (mC mMo_isSo) 104 = .ok (.if_icmp .ge (7), 3) := by decide +kernel
theorem dMo_isSo_107 : decode (mC mMo_isSo) 107 = .ok (.iconst (1), 1) := by decide +kernel
theorem dMo_isSo_108 : decode (mC mMo_isSo) 108 = .ok (.goto (58), 3) := by decide +kernel
theorem dMo_isSo_111 : decode (mC mMo_isSo) 111 = .ok (.iconst (0), 1) := by decide +kernel
theorem dMo_isSo_112 : decode (mC mMo_isSo) 112 = .ok (.goto (54), 3) := by decide +kernel
theorem dMo_isSo_115 : decode (mC mMo_isSo) 115 = .ok (.aload_n 0, 1) := by decide +kernel
theorem dMo_isSo_116 : decode (mC mMo_isSo) 116 = .ok (.getfield 35, 3) := by decide +kernel
theorem dMo_isSo_119 : decode (mC mMo_isSo) 119 = .ok (.iload_n 1, 1) := by decide +kernel
theorem dMo_isSo_120 : decode (mC mMo_isSo) 120 = .ok (.bipush (7), 2) := by decide +kernel
theorem dMo_isSo_122 : decode (mC mMo_isSo) 122 = .ok (.iadd, 1) := by decide +kernel
theorem dMo_isSo_123 : decode (mC mMo_isSo) 123 = .ok (.iaload, 1) := by decide +kernel
theorem dMo_isSo_124 : decode (mC mMo_isSo) 124 = .ok (.bipush (62), 2) := by decide +kernel
theorem dMo_isSo_126 : decode (mC mMo_isSo) 126 = .ok (.if_icmp .ne (23), 3) := by decide +kernel
theorem dMo_isSo_129 : decode (mC mMo_isSo) 129 = .ok (.iload_n 3, 1) := by decide +kernel
theorem dMo_isSo_130 : decode (mC mMo_isSo) 130 = .ok (.aload_n 0, 1) := by decide +kernel
theorem dMo_isSo_131 : decode (mC mMo_isSo) 131 = .ok (.getfield 35, 3) := by decide +kernel
theorem dMo_isSo_134 : decode (mC mMo_isSo) 134 = .ok (.iload_n 1, 1) := by decide +kernel
theorem dMo_isSo_135 : decode (mC mMo_isSo) 135 = .ok (.iconst (2), 1) := by decide +kernel
theorem dMo_isSo_136 : decode (mC mMo_isSo) 136 = .ok (.iadd, 1) := by decide +kernel
theorem dMo_isSo_137 : decode (mC mMo_isSo) 137 = .ok (.iaload, 1) := by decide +kernel
theorem dMo_isSo_138 : decode (mC mMo_isSo) 138 = .ok (.if_icmp .le (7), 3) := by decide +kernel
theorem dMo_isSo_141 : decode (mC mMo_isSo) 141 = .ok (.iconst (1), 1) := by decide +kernel
theorem dMo_isSo_142 : decode (mC mMo_isSo) 142 = .ok (.goto (24), 3) := by decide +kernel
theorem dMo_isSo_145 : decode (mC mMo_isSo) 145 = .ok (.iconst (0), 1) := by decide +kernel
theorem dMo_isSo_146 : decode (mC mMo_isSo) 146 = .ok (.goto (20), 3) := by decide +kernel
theorem dMo_isSo_149 : decode (mC mMo_isSo) 149 = .ok (.iload_n 3, 1) := by decide +kernel
theorem dMo_isSo_150 : decode (mC mMo_isSo) 150 = .ok (.aload_n 0, 1) := by decide +kernel
theorem dMo_isSo_151 : decode (mC mMo_isSo) 151 = .ok (.getfield 35, 3) := by decide +kernel
theorem dMo_isSo_154 : decode (mC mMo_isSo) 154 = .ok (.iload_n 1, 1) := by decide +kernel
theorem dMo_isSo_155 : decode (mC mMo_isSo) 155 = .ok (.iconst (2), 1) := by decide +kernel
theorem dMo_isSo_156 : decode (mC mMo_isSo) 156 = .ok (.iadd, 1) := by decide +kernel
theorem dMo_isSo_157 : decode (mC mMo_isSo) 157 = .ok (.iaload, 1) := by decide +kernel
theorem dMo_isSo_158 : decode (mC mMo_isSo) 158 = .ok (.if_icmp .ne (7), 3) := by decide +kernel
theorem dMo_isSo_161 : decode (mC mMo_isSo) 161 = .ok (.iconst (1), 1) := by decide +kernel
theorem dMo_isSo_162 : decode (mC mMo_isSo) 162 = .ok (.goto (4), 3) := by decide +kernel
theorem dMo_isSo_165 : decode (mC mMo_isSo) 165 = .ok (.iconst (0), 1) := by decide +kernel
theorem dMo_isSo_166 : decode (mC mMo_isSo) 166 = .ok (.ireturn, 1) := by decide +kernel
theorem bMo_isSo_0 {E : mEn} {d : Nat} {σ : mSt} {Q : mPost} {a1 : Int32} {u2 : Value} {u3 : Value} : WP E d mMo_isSo 0 [.ref 166, .int a1, u2, u3] [] σ Q = (if mOut (a1 + (nI 6)) 3000 = true then False else (if ¬ (σ.1 171 (a1 + (nI 6)).toNatClampNeg) = (nI 2) then WP E d mMo_isSo 28 [.ref 166, .int a1, .int (σ.1 171 (a1 + (nI 6)).toNatClampNeg), u3] [] σ Q else WP E d mMo_isSo 15 [.ref 166, .int a1, .int (σ.1 171 (a1 + (nI 6)).toNatClampNeg), u3] [] σ Q)) := (w_aload_n dMo_isSo_0 rfl).trans ((w_getr (r := 171) dMo_isSo_1 rz11_35 sh_166 rfl).trans ((w_iload_n dMo_isSo_4 rfl).trans ((w_bipush (v := (nI 6)) dMo_isSo_5 rfl).trans ((w_iadd dMo_isSo_7).trans ((w_iald dMo_isSo_8 sh_171 (by decide)).trans (ite_c ((w_istore_n (ls' := [.ref 166, .int a1, .int (σ.1 171 (a1 + (nI 6)).toNatClampNeg), u3]) dMo_isSo_9 (Nat.le_of_ble_eq_true rfl) rfl).trans ((w_iload_n dMo_isSo_10 rfl).trans ((w_iconst (v := (nI 2)) dMo_isSo_11 rfl).trans (w_icmpne (t := 28) dMo_isSo_12 (by decide)))))))))))
theorem bMo_isSo_15 {E : mEn} {d : Nat} {σ : mSt} {Q : mPost} {a1 : Int32} {a2 : Int32} {u3 : Value} : WP E (d + 1) mMo_isSo 15 [.ref 166, .int a1, .int a2, u3] [] σ Q = (if mOut (a1 + 1) 3000 = true then False else WP E d mMo_isBaked 0 [.ref 166, .int (σ.1 171 (a1 + 1).toNatClampNeg)] [] σ (fun r σ' => WP E (d + 1) mMo_isSo 27 [.ref 166, .int a1, .int a2, u3] (r.toList ++ []) σ' Q)) := (w_aload_n dMo_isSo_15 rfl).trans ((w_aload_n dMo_isSo_16 rfl).trans ((w_getr (r := 171) dMo_isSo_17 rz11_35 sh_166 rfl).trans ((w_iload_n dMo_isSo_20 rfl).trans ((w_iconst (v := 1) dMo_isSo_21 rfl).trans ((w_iadd dMo_isSo_22).trans ((w_iald dMo_isSo_23 sh_171 (by decide)).trans (ite_c (w_virt (vs := [.int (σ.1 171 (a1 + 1).toNatClampNeg)]) (st' := []) (es := [.ref 166, .int (σ.1 171 (a1 + 1).toNatClampNeg)]) dMo_isSo_24 rz11_323 rfl sh_166 rfl rfl rfl (Nat.le_of_ble_eq_true rfl) (Nat.le_of_ble_eq_true rfl) rfl))))))))
theorem bMo_isSo_27 {E : mEn} {d : Nat} {σ : mSt} {Q : mPost} {a1 : Int32} {a2 : Int32} {u3 : Value} {s0 : Int32} (hz0 : s0 = 0 ∨ s0 = 1) : WP E d mMo_isSo 27 [.ref 166, .int a1, .int a2, u3] [.int s0] σ Q = Q (some (.int s0)) σ := w_zret dMo_isSo_27 rfl hz0
theorem bMo_isSo_28 {E : mEn} {d : Nat} {σ : mSt} {Q : mPost} {a1 : Int32} {a2 : Int32} {u3 : Value} : WP E d mMo_isSo 28 [.ref 166, .int a1, .int a2, u3] [] σ Q = (if ¬ a2 = (nI 3) then WP E d mMo_isSo 51 [.ref 166, .int a1, .int a2, u3] [] σ Q else WP E d mMo_isSo 33 [.ref 166, .int a1, .int a2, u3] [] σ Q) := (w_iload_n dMo_isSo_28 rfl).trans ((w_iconst (v := (nI 3)) dMo_isSo_29 rfl).trans (w_icmpne (t := 51) dMo_isSo_30 (by decide)))
theorem bMo_isSo_33 {E : mEn} {d : Nat} {σ : mSt} {Q : mPost} {a1 : Int32} {a2 : Int32} {u3 : Value} : WP E (d + 1) mMo_isSo 33 [.ref 166, .int a1, .int a2, u3] [] σ Q = (if mOut (nI 5) 3000 = true then False else (if mOut (a1 + 1) 3000 = true then False else WP E d mMo_has 0 [.int (σ.1 171 5), .int (σ.1 171 (a1 + 1).toNatClampNeg)] [] σ (fun r σ' => WP E (d + 1) mMo_isSo 50 [.ref 166, .int a1, .int a2, u3] (r.toList ++ []) σ' Q))) := (w_aload_n dMo_isSo_33 rfl).trans ((w_getr (r := 171) dMo_isSo_34 rz11_35 sh_166 rfl).trans ((w_iconst (v := (nI 5)) dMo_isSo_37 rfl).trans ((w_iald dMo_isSo_38 sh_171 (by decide)).trans (ite_c ((w_aload_n dMo_isSo_39 rfl).trans ((w_getr (r := 171) dMo_isSo_40 rz11_35 sh_166 rfl).trans ((w_iload_n dMo_isSo_43 rfl).trans ((w_iconst (v := 1) dMo_isSo_44 rfl).trans ((w_iadd dMo_isSo_45).trans ((w_iald dMo_isSo_46 sh_171 (by decide)).trans (ite_c (w_stat (vs := [.int (σ.1 171 5), .int (σ.1 171 (a1 + 1).toNatClampNeg)]) (st' := []) (es := [.int (σ.1 171 5), .int (σ.1 171 (a1 + 1).toNatClampNeg)]) dMo_isSo_47 rz11_393 rfl rfl rfl (Nat.le_of_ble_eq_true rfl) (Nat.le_of_ble_eq_true rfl) rfl))))))))))))
theorem bMo_isSo_50 {E : mEn} {d : Nat} {σ : mSt} {Q : mPost} {a1 : Int32} {a2 : Int32} {u3 : Value} {s0 : Int32} (hz0 : s0 = 0 ∨ s0 = 1) : WP E d mMo_isSo 50 [.ref 166, .int a1, .int a2, u3] [.int s0] σ Q = Q (some (.int s0)) σ := w_zret dMo_isSo_50 rfl hz0
theorem bMo_isSo_51 {E : mEn} {d : Nat} {σ : mSt} {Q : mPost} {a1 : Int32} {a2 : Int32} {u3 : Value} : WP E d mMo_isSo 51 [.ref 166, .int a1, .int a2, u3] [] σ Q = (if ¬ a2 = 0 then WP E d mMo_isSo 64 [.ref 166, .int a1, .int a2, u3] [] σ Q else WP E d mMo_isSo 55 [.ref 166, .int a1, .int a2, u3] [] σ Q) := (w_iload_n dMo_isSo_51 rfl).trans (w_ifne (t := 64) dMo_isSo_52 (by decide))
theorem bMo_isSo_55 {E : mEn} {d : Nat} {σ : mSt} {Q : mPost} {a1 : Int32} {a2 : Int32} {u3 : Value} : WP E d mMo_isSo 55 [.ref 166, .int a1, .int a2, u3] [] σ Q = (if mOut (nI 4) 3000 = true then False else WP E d mMo_isSo 80 [.ref 166, .int a1, .int a2, u3] [.int (σ.1 171 4)] σ Q) := (w_aload_n dMo_isSo_55 rfl).trans ((w_getr (r := 171) dMo_isSo_56 rz11_35 sh_166 rfl).trans ((w_iconst (v := (nI 4)) dMo_isSo_59 rfl).trans ((w_iald dMo_isSo_60 sh_171 (by decide)).trans (ite_c (w_goto (t := 80) dMo_isSo_61 (by decide))))))
theorem bMo_isSo_64 {E : mEn} {d : Nat} {σ : mSt} {Q : mPost} {a1 : Int32} {a2 : Int32} {u3 : Value} : WP E d mMo_isSo 64 [.ref 166, .int a1, .int a2, u3] [] σ Q = (if mOut (a1 + 1) 3000 = true then False else (if mOut ((nI 14) + (σ.1 171 (a1 + 1).toNatClampNeg)) 3000 = true then False else WP E d mMo_isSo 80 [.ref 166, .int a1, .int a2, u3] [.int (σ.1 171 ((nI 14) + (σ.1 171 (a1 + 1).toNatClampNeg)).toNatClampNeg)] σ Q)) := (w_aload_n dMo_isSo_64 rfl).trans ((w_getr (r := 171) dMo_isSo_65 rz11_35 sh_166 rfl).trans ((w_bipush (v := (nI 14)) dMo_isSo_68 rfl).trans ((w_aload_n dMo_isSo_70 rfl).trans ((w_getr (r := 171) dMo_isSo_71 rz11_35 sh_166 rfl).trans ((w_iload_n dMo_isSo_74 rfl).trans ((w_iconst (v := 1) dMo_isSo_75 rfl).trans ((w_iadd dMo_isSo_76).trans ((w_iald dMo_isSo_77 sh_171 (by decide)).trans (ite_c ((w_iadd dMo_isSo_78).trans ((w_iald dMo_isSo_79 sh_171 (by decide)).trans (ite_c (rfl)))))))))))))
theorem bMo_isSo_80 {E : mEn} {d : Nat} {σ : mSt} {Q : mPost} {a1 : Int32} {a2 : Int32} {u3 : Value} {s0 : Int32} : WP E d mMo_isSo 80 [.ref 166, .int a1, .int a2, u3] [.int s0] σ Q = (if mOut (a1 + (nI 7)) 3000 = true then False else (if ¬ (σ.1 171 (a1 + (nI 7)).toNatClampNeg) = (nI 60) then WP E d mMo_isSo 115 [.ref 166, .int a1, .int a2, .int s0] [] σ Q else WP E d mMo_isSo 95 [.ref 166, .int a1, .int a2, .int s0] [] σ Q)) := (w_istore_n (ls' := [.ref 166, .int a1, .int a2, .int s0]) dMo_isSo_80 (Nat.le_of_ble_eq_true rfl) rfl).trans ((w_aload_n dMo_isSo_81 rfl).trans ((w_getr (r := 171) dMo_isSo_82 rz11_35 sh_166 rfl).trans ((w_iload_n dMo_isSo_85 rfl).trans ((w_bipush (v := (nI 7)) dMo_isSo_86 rfl).trans ((w_iadd dMo_isSo_88).trans ((w_iald dMo_isSo_89 sh_171 (by decide)).trans (ite_c ((w_bipush (v := (nI 60)) dMo_isSo_90 rfl).trans (w_icmpne (t := 115) dMo_isSo_92 (by decide))))))))))
theorem bMo_isSo_95 {E : mEn} {d : Nat} {σ : mSt} {Q : mPost} {a1 : Int32} {a2 : Int32} {a3 : Int32} : WP E d mMo_isSo 95 [.ref 166, .int a1, .int a2, .int a3] [] σ Q = (if mOut (a1 + (nI 2)) 3000 = true then False else (if (σ.1 171 (a1 + (nI 2)).toNatClampNeg) ≤ a3 then WP E d mMo_isSo 111 [.ref 166, .int a1, .int a2, .int a3] [] σ Q else WP E d mMo_isSo 107 [.ref 166, .int a1, .int a2, .int a3] [] σ Q)) := (w_iload_n dMo_isSo_95 rfl).trans ((w_aload_n dMo_isSo_96 rfl).trans ((w_getr (r := 171) dMo_isSo_97 rz11_35 sh_166 rfl).trans ((w_iload_n dMo_isSo_100 rfl).trans ((w_iconst (v := (nI 2)) dMo_isSo_101 rfl).trans ((w_iadd dMo_isSo_102).trans ((w_iald dMo_isSo_103 sh_171 (by decide)).trans (ite_c (w_icmpge (t := 111) dMo_isSo_104 (by decide)))))))))
theorem bMo_isSo_107 {E : mEn} {d : Nat} {σ : mSt} {Q : mPost} {a1 : Int32} {a2 : Int32} {a3 : Int32} : WP E d mMo_isSo 107 [.ref 166, .int a1, .int a2, .int a3] [] σ Q = WP E d mMo_isSo 166 [.ref 166, .int a1, .int a2, .int a3] [.int 1] σ Q := (w_iconst (v := 1) dMo_isSo_107 rfl).trans (w_goto (t := 166) dMo_isSo_108 (by decide))
theorem bMo_isSo_111 {E : mEn} {d : Nat} {σ : mSt} {Q : mPost} {a1 : Int32} {a2 : Int32} {a3 : Int32} : WP E d mMo_isSo 111 [.ref 166, .int a1, .int a2, .int a3] [] σ Q = WP E d mMo_isSo 166 [.ref 166, .int a1, .int a2, .int a3] [.int 0] σ Q := (w_iconst (v := 0) dMo_isSo_111 rfl).trans (w_goto (t := 166) dMo_isSo_112 (by decide))
theorem bMo_isSo_115 {E : mEn} {d : Nat} {σ : mSt} {Q : mPost} {a1 : Int32} {a2 : Int32} {a3 : Int32} : WP E d mMo_isSo 115 [.ref 166, .int a1, .int a2, .int a3] [] σ Q = (if mOut (a1 + (nI 7)) 3000 = true then False else (if ¬ (σ.1 171 (a1 + (nI 7)).toNatClampNeg) = (nI 62) then WP E d mMo_isSo 149 [.ref 166, .int a1, .int a2, .int a3] [] σ Q else WP E d mMo_isSo 129 [.ref 166, .int a1, .int a2, .int a3] [] σ Q)) := (w_aload_n dMo_isSo_115 rfl).trans ((w_getr (r := 171) dMo_isSo_116 rz11_35 sh_166 rfl).trans ((w_iload_n dMo_isSo_119 rfl).trans ((w_bipush (v := (nI 7)) dMo_isSo_120 rfl).trans ((w_iadd dMo_isSo_122).trans ((w_iald dMo_isSo_123 sh_171 (by decide)).trans (ite_c ((w_bipush (v := (nI 62)) dMo_isSo_124 rfl).trans (w_icmpne (t := 149) dMo_isSo_126 (by decide)))))))))
theorem bMo_isSo_129 {E : mEn} {d : Nat} {σ : mSt} {Q : mPost} {a1 : Int32} {a2 : Int32} {a3 : Int32} : WP E d mMo_isSo 129 [.ref 166, .int a1, .int a2, .int a3] [] σ Q = (if mOut (a1 + (nI 2)) 3000 = true then False else (if a3 ≤ (σ.1 171 (a1 + (nI 2)).toNatClampNeg) then WP E d mMo_isSo 145 [.ref 166, .int a1, .int a2, .int a3] [] σ Q else WP E d mMo_isSo 141 [.ref 166, .int a1, .int a2, .int a3] [] σ Q)) := (w_iload_n dMo_isSo_129 rfl).trans ((w_aload_n dMo_isSo_130 rfl).trans ((w_getr (r := 171) dMo_isSo_131 rz11_35 sh_166 rfl).trans ((w_iload_n dMo_isSo_134 rfl).trans ((w_iconst (v := (nI 2)) dMo_isSo_135 rfl).trans ((w_iadd dMo_isSo_136).trans ((w_iald dMo_isSo_137 sh_171 (by decide)).trans (ite_c (w_icmple (t := 145) dMo_isSo_138 (by decide)))))))))
theorem bMo_isSo_141 {E : mEn} {d : Nat} {σ : mSt} {Q : mPost} {a1 : Int32} {a2 : Int32} {a3 : Int32} : WP E d mMo_isSo 141 [.ref 166, .int a1, .int a2, .int a3] [] σ Q = WP E d mMo_isSo 166 [.ref 166, .int a1, .int a2, .int a3] [.int 1] σ Q := (w_iconst (v := 1) dMo_isSo_141 rfl).trans (w_goto (t := 166) dMo_isSo_142 (by decide))
theorem bMo_isSo_145 {E : mEn} {d : Nat} {σ : mSt} {Q : mPost} {a1 : Int32} {a2 : Int32} {a3 : Int32} : WP E d mMo_isSo 145 [.ref 166, .int a1, .int a2, .int a3] [] σ Q = WP E d mMo_isSo 166 [.ref 166, .int a1, .int a2, .int a3] [.int 0] σ Q := (w_iconst (v := 0) dMo_isSo_145 rfl).trans (w_goto (t := 166) dMo_isSo_146 (by decide))
theorem bMo_isSo_149 {E : mEn} {d : Nat} {σ : mSt} {Q : mPost} {a1 : Int32} {a2 : Int32} {a3 : Int32} : WP E d mMo_isSo 149 [.ref 166, .int a1, .int a2, .int a3] [] σ Q = (if mOut (a1 + (nI 2)) 3000 = true then False else (if ¬ a3 = (σ.1 171 (a1 + (nI 2)).toNatClampNeg) then WP E d mMo_isSo 165 [.ref 166, .int a1, .int a2, .int a3] [] σ Q else WP E d mMo_isSo 161 [.ref 166, .int a1, .int a2, .int a3] [] σ Q)) := (w_iload_n dMo_isSo_149 rfl).trans ((w_aload_n dMo_isSo_150 rfl).trans ((w_getr (r := 171) dMo_isSo_151 rz11_35 sh_166 rfl).trans ((w_iload_n dMo_isSo_154 rfl).trans ((w_iconst (v := (nI 2)) dMo_isSo_155 rfl).trans ((w_iadd dMo_isSo_156).trans ((w_iald dMo_isSo_157 sh_171 (by decide)).trans (ite_c (w_icmpne (t := 165) dMo_isSo_158 (by decide)))))))))
theorem bMo_isSo_161 {E : mEn} {d : Nat} {σ : mSt} {Q : mPost} {a1 : Int32} {a2 : Int32} {a3 : Int32} : WP E d mMo_isSo 161 [.ref 166, .int a1, .int a2, .int a3] [] σ Q = WP E d mMo_isSo 166 [.ref 166, .int a1, .int a2, .int a3] [.int 1] σ Q := (w_iconst (v := 1) dMo_isSo_161 rfl).trans (w_goto (t := 166) dMo_isSo_162 (by decide))
theorem bMo_isSo_165 {E : mEn} {d : Nat} {σ : mSt} {Q : mPost} {a1 : Int32} {a2 : Int32} {a3 : Int32} : WP E d mMo_isSo 165 [.ref 166, .int a1, .int a2, .int a3] [] σ Q = WP E d mMo_isSo 166 [.ref 166, .int a1, .int a2, .int a3] [.int 0] σ Q := w_iconst (v := 0) dMo_isSo_165 rfl
theorem bMo_isSo_166 {E : mEn} {d : Nat} {σ : mSt} {Q : mPost} {a1 : Int32} {a2 : Int32} {a3 : Int32} {s0 : Int32} (hz0 : s0 = 0 ∨ s0 = 1) : WP E d mMo_isSo 166 [.ref 166, .int a1, .int a2, .int a3] [.int s0] σ Q = Q (some (.int s0)) σ := w_zret dMo_isSo_166 rfl hz0
theorem dMo_lived_0 : decode (mC mMo_lived) 0 = .ok (.aload_n 0, 1) := by decide +kernel
theorem dMo_lived_1 : decode (mC mMo_lived) 1 = .ok (.iconst (0), 1) := by decide +kernel
theorem dMo_lived_2 : decode (mC mMo_lived) 2 = .ok (.putfield 74, 3) := by decide +kernel
theorem dMo_lived_5 : decode (mC mMo_lived) 5 = .ok (.aload_n 0, 1) := by decide +kernel
theorem dMo_lived_6 : decode (mC mMo_lived) 6 = .ok (.iconst (0), 1) := by decide +kernel
theorem dMo_lived_7 : decode (mC mMo_lived) 7 = .ok (.putfield 77, 3) := by decide +kernel
theorem dMo_lived_10 : decode (mC mMo_lived) 10 = .ok (.iload_n 1, 1) := by decide +kernel
theorem dMo_lived_11 : decode (mC mMo_lived) 11 = .ok (.i2l, 1) := by decide +kernel
theorem dMo_lived_12 : decode (mC mMo_lived) 12 = .ok (.lconst 0, 1) := by decide +kernel
theorem dMo_lived_13 : decode (mC mMo_lived) 13 = .ok (.ldc2_w 504, 3) := by decide +kernel
theorem dMo_lived_16 : decode (mC mMo_lived) 16 = .ok (.invokestatic 109, 3) := by decide +kernel
theorem dMo_lived_19 : decode (mC mMo_lived) 19 = .ok (.ifCond .ne (9), 3) := by decide +kernel
theorem dMo_lived_22 : decode (mC mMo_lived) 22 = .ok (.aload_n 0, 1) := by decide +kernel
theorem dMo_lived_23 : decode (mC mMo_lived) 23 = .ok (.iconst (5), 1) := by decide +kernel
theorem dMo_lived_24 : decode (mC mMo_lived) 24 = .ok (.invokevirtual 329, 3) := by decide +kernel
theorem dMo_lived_27 : decode (mC mMo_lived) 27 = .ok (.ireturn, 1) := by decide +kernel
theorem dMo_lived_28 : decode (mC mMo_lived) 28 = .ok (.aload_n 0, 1) := by decide +kernel
theorem dMo_lived_29 : decode (mC mMo_lived) 29 = .ok (.getfield 501, 3) := by decide +kernel
theorem dMo_lived_32 : decode (mC mMo_lived) 32 = .ok (.ifCond .eq (12), 3) := by decide +kernel
theorem dMo_lived_35 : decode (mC mMo_lived) 35 = .ok (.aload_n 0, 1) := by decide +kernel
theorem dMo_lived_36 : decode (mC mMo_lived) 36 = .ok (.getfield 71, 3) := by decide +kernel
theorem dMo_lived_39 : decode (mC mMo_lived) 39 = .ok (.iload_n 1, 1) := by decide +kernel
theorem dMo_lived_40 : decode (mC mMo_lived) 40 = .ok (.iaload, 1) := by decide +kernel
theorem dMo_lived_41 : decode (mC mMo_lived) 41 = .ok (.goto (9), 3) := by decide +kernel
theorem dMo_lived_44 : decode (mC mMo_lived) 44 = .ok (.aload_n 0, 1) := by decide +kernel
theorem dMo_lived_45 : decode (mC mMo_lived) 45 = .ok (.bipush (8), 2) := by decide +kernel
theorem dMo_lived_47 : decode (mC mMo_lived) 47 = .ok (.invokevirtual 329, 3) := by decide +kernel
theorem dMo_lived_50 : decode (mC mMo_lived) 50 = .ok (.ireturn, 1) := by decide +kernel
theorem bMo_lived_0 {E : mEn} {d : Nat} {σ : mSt} {Q : mPost} {a1 : Int32} : WP E (d + 1) mMo_lived 0 [.ref 166, .int a1] [] σ Q = WP E d mMo_isIn 0 [.long (a1.toInt64), uu, .long 0, uu, .long (4), uu] [] (sI (sI σ 166 1 0) 166 0 0) (fun r σ' => WP E (d + 1) mMo_lived 19 [.ref 166, .int a1] (r.toList ++ []) σ' Q) := (w_aload_n dMo_lived_0 rfl).trans ((w_iconst (v := 0) dMo_lived_1 rfl).trans ((w_puti dMo_lived_2 rz11_74 sh_166 rfl rfl rfl).trans ((w_aload_n dMo_lived_5 rfl).trans ((w_iconst (v := 0) dMo_lived_6 rfl).trans ((w_puti dMo_lived_7 rz11_77 sh_166 rfl rfl rfl).trans ((w_iload_n dMo_lived_10 rfl).trans ((w_i2l dMo_lived_11).trans ((w_lconst (v := 0) dMo_lived_12 rfl).trans ((w_ldc2_w dMo_lived_13 rz11_504).trans (w_stat (vs := [.long (a1.toInt64), .long 0, .long (4)]) (st' := []) (es := [.long (a1.toInt64), uu, .long 0, uu, .long (4), uu]) dMo_lived_16 rz11_109 rfl rfl rfl (Nat.le_of_ble_eq_true rfl) (Nat.le_of_ble_eq_true rfl) rfl))))))))))
theorem bMo_lived_19 {E : mEn} {d : Nat} {σ : mSt} {Q : mPost} {a1 : Int32} {s0 : Int32} : WP E d mMo_lived 19 [.ref 166, .int a1] [.int s0] σ Q = (if ¬ s0 = 0 then WP E d mMo_lived 28 [.ref 166, .int a1] [] σ Q else WP E d mMo_lived 22 [.ref 166, .int a1] [] σ Q) := w_ifne (t := 28) dMo_lived_19 (by decide)
theorem bMo_lived_22 {E : mEn} {d : Nat} {σ : mSt} {Q : mPost} {a1 : Int32} : WP E (d + 1) mMo_lived 22 [.ref 166, .int a1] [] σ Q = WP E d mMo_refuse 0 [.ref 166, .int (nI 5)] [] σ (fun r σ' => WP E (d + 1) mMo_lived 27 [.ref 166, .int a1] (r.toList ++ []) σ' Q) := (w_aload_n dMo_lived_22 rfl).trans ((w_iconst (v := (nI 5)) dMo_lived_23 rfl).trans (w_virt (vs := [.int (nI 5)]) (st' := []) (es := [.ref 166, .int (nI 5)]) dMo_lived_24 rz11_329 rfl sh_166 rfl rfl rfl (Nat.le_of_ble_eq_true rfl) (Nat.le_of_ble_eq_true rfl) rfl))
theorem bMo_lived_27 {E : mEn} {d : Nat} {σ : mSt} {Q : mPost} {a1 : Int32} {s0 : Int32} : WP E d mMo_lived 27 [.ref 166, .int a1] [.int s0] σ Q = Q (some (.int s0)) σ := w_iret dMo_lived_27 rfl
theorem bMo_lived_28 {E : mEn} {d : Nat} {σ : mSt} {Q : mPost} {a1 : Int32} : WP E d mMo_lived 28 [.ref 166, .int a1] [] σ Q = (if (σ.1 166 37) = 0 then WP E d mMo_lived 44 [.ref 166, .int a1] [] σ Q else WP E d mMo_lived 35 [.ref 166, .int a1] [] σ Q) := (w_aload_n dMo_lived_28 rfl).trans ((w_geti dMo_lived_29 rz11_501 sh_166 rfl).trans (w_ifeq (t := 44) dMo_lived_32 (by decide)))
theorem bMo_lived_35 {E : mEn} {d : Nat} {σ : mSt} {Q : mPost} {a1 : Int32} : WP E d mMo_lived 35 [.ref 166, .int a1] [] σ Q = (if mOut a1 5 = true then False else WP E d mMo_lived 50 [.ref 166, .int a1] [.int (σ.1 183 a1.toNatClampNeg)] σ Q) := (w_aload_n dMo_lived_35 rfl).trans ((w_getr (r := 183) dMo_lived_36 rz11_71 sh_166 rfl).trans ((w_iload_n dMo_lived_39 rfl).trans ((w_iald dMo_lived_40 sh_183 (by decide)).trans (ite_c (w_goto (t := 50) dMo_lived_41 (by decide))))))
theorem bMo_lived_44 {E : mEn} {d : Nat} {σ : mSt} {Q : mPost} {a1 : Int32} : WP E (d + 1) mMo_lived 44 [.ref 166, .int a1] [] σ Q = WP E d mMo_refuse 0 [.ref 166, .int (nI 8)] [] σ (fun r σ' => WP E (d + 1) mMo_lived 50 [.ref 166, .int a1] (r.toList ++ []) σ' Q) := (w_aload_n dMo_lived_44 rfl).trans ((w_bipush (v := (nI 8)) dMo_lived_45 rfl).trans (w_virt (vs := [.int (nI 8)]) (st' := []) (es := [.ref 166, .int (nI 8)]) dMo_lived_47 rz11_329 rfl sh_166 rfl rfl rfl (Nat.le_of_ble_eq_true rfl) (Nat.le_of_ble_eq_true rfl) rfl))
theorem bMo_lived_50 {E : mEn} {d : Nat} {σ : mSt} {Q : mPost} {a1 : Int32} {s0 : Int32} : WP E d mMo_lived 50 [.ref 166, .int a1] [.int s0] σ Q = Q (some (.int s0)) σ := w_iret dMo_lived_50 rfl
theorem dMo_odds_0 : decode (mC mMo_odds) 0 = .ok (.aload_n 0, 1) := by decide +kernel
theorem dMo_odds_1 : decode (mC mMo_odds) 1 = .ok (.iconst (0), 1) := by decide +kernel
theorem dMo_odds_2 : decode (mC mMo_odds) 2 = .ok (.putfield 74, 3) := by decide +kernel
theorem dMo_odds_5 : decode (mC mMo_odds) 5 = .ok (.aload_n 0, 1) := by decide +kernel
theorem dMo_odds_6 : decode (mC mMo_odds) 6 = .ok (.iconst (0), 1) := by decide +kernel
theorem dMo_odds_7 : decode (mC mMo_odds) 7 = .ok (.putfield 77, 3) := by decide +kernel
theorem dMo_odds_10 : decode (mC mMo_odds) 10 = .ok (.aload_n 0, 1) := by decide +kernel
theorem dMo_odds_11 : decode (mC mMo_odds) 11 = .ok (.iload_n 1, 1) := by decide +kernel
theorem dMo_odds_12 : decode (mC mMo_odds) 12 = .ok (.invokevirtual 332, 3) := by decide +kernel
theorem dMo_odds_15 : decode (mC mMo_odds) 15 = .ok (.ifCond .ne (9), 3) := by decide +kernel
theorem dMo_odds_18 : decode (mC mMo_odds) 18 = .ok (.aload_n 0, 1) := by decide +kernel
theorem dMo_odds_19 : decode (mC mMo_odds) 19 = .ok (.iconst (2), 1) := by decide +kernel
theorem dMo_odds_20 : decode (mC mMo_odds) 20 = .ok (.invokevirtual 89, 3) := by decide +kernel
theorem dMo_odds_23 : decode (mC mMo_odds) 23 = .ok (.ireturn, 1) := by decide +kernel
theorem dMo_odds_24 : decode (mC mMo_odds) 24 = .ok (.iload_n 2, 1) := by decide +kernel
theorem dMo_odds_25 : decode (mC mMo_odds) 25 = .ok (.i2l, 1) := by decide +kernel
theorem dMo_odds_26 : decode (mC mMo_odds) 26 = .ok (.lconst 1, 1) := by decide +kernel
theorem dMo_odds_27 : decode (mC mMo_odds) 27 = .ok (.ldc2_w 403, 3) := by decide +kernel
theorem dMo_odds_30 : decode (mC mMo_odds) 30 = .ok (.invokestatic 109, 3) := by decide +kernel
theorem dMo_odds_33 : decode (mC mMo_odds) 33 = .ok (.ifCond .eq (32), 3) := by decide +kernel
theorem dMo_odds_36 : decode (mC mMo_odds) 36 = .ok (.iload 4, 2) := by decide +kernel
theorem dMo_odds_38 : decode (mC mMo_odds) 38 = .ok (.i2l, 1) := by decide +kernel
theorem dMo_odds_39 : decode (mC mMo_odds) 39 = .ok (.lconst 1, 1) := by decide +kernel
theorem dMo_odds_40 : decode (mC mMo_odds) 40 = .ok (.ldc2_w 506, 3) := by decide +kernel
theorem dMo_odds_43 : decode (mC mMo_odds) 43 = .ok (.invokestatic 109, 3) := by decide +kernel
theorem dMo_odds_46 : decode (mC mMo_odds) 46 = .ok (.ifCond .eq (19), 3) := by decide +kernel
theorem dMo_odds_49 : decode (mC mMo_odds) 49 = .ok (.iload_n 3, 1) := by decide +kernel
theorem dMo_odds_50 : decode (mC mMo_odds) 50 = .ok (.i2l, 1) := by decide +kernel
theorem dMo_odds_51 : decode (mC mMo_odds) 51 = .ok (.lconst 0, 1) := by decide +kernel
theorem dMo_odds_52 : decode (mC mMo_odds) 52 = .ok (.sipush (10000), 3) := by decide +kernel
theorem dMo_odds_55 : decode (mC mMo_odds) 55 = .ok (.iload 4, 2) := by decide +kernel
theorem dMo_odds_57 : decode (mC mMo_odds) 57 = .ok (.isub, 1) := by decide +kernel
theorem dMo_odds_58 : decode (mC mMo_odds) 58 = .ok (.i2l, 1) := by decide +kernel
theorem dMo_odds_59 : decode (mC mMo_odds) 59 = .ok (.invokestatic 109, 3) := by decide +kernel
theorem dMo_odds_62 : decode (mC mMo_odds) 62 = .ok (.ifCond .ne (9), 3) := by decide +kernel
theorem dMo_odds_65 : decode (mC mMo_odds) 65 = .ok (.aload_n 0, 1) := by decide +kernel
theorem dMo_odds_66 : decode (mC mMo_odds) 66 = .ok (.iconst (5), 1) := by decide +kernel
theorem dMo_odds_67 : decode (mC mMo_odds) 67 = .ok (.invokevirtual 89, 3) := by decide +kernel
theorem dMo_odds_70 : decode (mC mMo_odds) 70 = .ok (.ireturn, 1) := by decide +kernel
theorem dMo_odds_71 : decode (mC mMo_odds) 71 = .ok (.aload_n 0, 1) := by decide +kernel
theorem dMo_odds_72 : decode (mC mMo_odds) 72 = .ok (.getfield 35, 3) := by decide +kernel
theorem dMo_odds_75 : decode (mC mMo_odds) 75 = .ok (.sipush (322), 3) := by decide +kernel
theorem dMo_odds_78 : decode (mC mMo_odds) 78 = .ok (.iaload, 1) := by decide +kernel
theorem dMo_odds_79 : decode (mC mMo_odds) 79 = .ok (.ifCond .ne (10), 3) := by decide +kernel
theorem dMo_odds_82 : decode (mC mMo_odds) 82 = .ok (.aload_n 0, 1) := by decide +kernel
theorem dMo_odds_83 : decode (mC mMo_odds) 83 = .ok (.bipush (8), 2) := by decide +kernel
theorem dMo_odds_85 : decode (mC mMo_odds) 85 = .ok (.invokevirtual 89, 3) := by decide +kernel
theorem dMo_odds_88 : decode (mC mMo_odds) 88 = .ok (.ireturn, 1) := by decide +kernel
theorem dMo_odds_89 : decode (mC mMo_odds) 89 = .ok (.iconst (0), 1) := by decide +kernel
theorem dMo_odds_90 : decode (mC mMo_odds) 90 = .ok (.istore 5, 2) := by decide +kernel
theorem dMo_odds_92 : decode (mC mMo_odds) 92 = .ok (.iload 5, 2) := by decide +kernel
theorem dMo_odds_94 : decode (mC mMo_odds) 94 = .ok (.sipush (322), 3) := by decide +kernel
theorem dMo_odds_97 : decode (mC mMo_odds) 97 = .ok (.if_icmp .ge (23), 3) := by decide +kernel
theorem dMo_odds_100 : decode (mC mMo_odds) 100 = .ok (.aload_n 0, 1) := by decide +kernel
theorem dMo_odds_101 : decode (mC mMo_odds) 101 = .ok (.getfield 38, 3) := by decide +kernel
theorem dMo_odds_104 : decode (mC mMo_odds) 104 = .ok (.iload 5, 2) := by decide +kernel
theorem dMo_odds_106 : decode (mC mMo_odds) 106 = .ok (.aload_n 0, 1) := by decide +kernel
theorem dMo_odds_107 : decode (mC mMo_odds) 107 = .ok (.getfield 35, 3) := by decide +kernel
theorem dMo_odds_110 : decode (mC mMo_odds) 110 = .ok (.iload 5, 2) := by decide +kernel
theorem dMo_odds_112 : decode (mC mMo_odds) 112 = .ok (.iaload, 1) := by decide +kernel
theorem dMo_odds_113 : decode (mC mMo_odds) 113 = .ok (.iastore, 1) := by decide +kernel
theorem dMo_odds_114 : decode (mC mMo_odds) 114 = .ok (.iinc 5 (1), 3) := by decide +kernel
theorem dMo_odds_117 : decode (mC mMo_odds) 117 = .ok (.goto (-25), 3) := by decide +kernel
theorem dMo_odds_120 : decode (mC mMo_odds) 120 = .ok (.iconst (0), 1) := by decide +kernel
theorem dMo_odds_121 : decode (mC mMo_odds) 121 = .ok (.istore 5, 2) := by decide +kernel
theorem dMo_odds_123 : decode (mC mMo_odds) 123 = .ok (.iconst (0), 1) := by decide +kernel
theorem dMo_odds_124 : decode (mC mMo_odds) 124 = .ok (.istore 6, 2) := by decide +kernel
theorem dMo_odds_126 : decode (mC mMo_odds) 126 = .ok (.iload 6, 2) := by decide +kernel
theorem dMo_odds_128 : decode (mC mMo_odds) 128 = .ok (.iload 4, 2) := by decide +kernel
theorem dMo_odds_130 : decode (mC mMo_odds) 130 = .ok (.if_icmp .ge (71), 3) := by decide +kernel
theorem dMo_odds_133 : decode (mC mMo_odds) 133 = .ok (.aload_n 0, 1) := by decide +kernel
theorem dMo_odds_134 : decode (mC mMo_odds) 134 = .ok (.iload_n 3, 1) := by decide +kernel
theorem dMo_odds_135 : decode (mC mMo_odds) 135 = .ok (.iload 6, 2) := by decide +kernel
theorem dMo_odds_137 : decode (mC mMo_odds) 137 = .ok (.iadd, 1) := by decide +kernel
theorem dMo_odds_138 : decode (mC mMo_odds) 138 = .ok (.invokevirtual 498, 3) := by decide +kernel
theorem dMo_odds_141 : decode (mC mMo_odds) 141 = .ok (.iload 5, 2) := by decide +kernel
theorem dMo_odds_143 : decode (mC mMo_odds) 143 = .ok (.aload_n 0, 1) := by decide +kernel
theorem dMo_odds_144 : decode (mC mMo_odds) 144 = .ok (.getfield 35, 3) := by decide +kernel
theorem dMo_odds_147 : decode (mC mMo_odds) 147 = .ok (.bipush (14), 2) := by decide +kernel
theorem dMo_odds_149 : decode (mC mMo_odds) 149 = .ok (.iload_n 1, 1) := by decide +kernel
theorem dMo_odds_150 : decode (mC mMo_odds) 150 = .ok (.iadd, 1) := by decide +kernel
theorem dMo_odds_151 : decode (mC mMo_odds) 151 = .ok (.iaload, 1) := by decide +kernel
theorem dMo_odds_152 : decode (mC mMo_odds) 152 = .ok (.iload_n 2, 1) := by decide +kernel
theorem dMo_odds_153 : decode (mC mMo_odds) 153 = .ok (.if_icmp .lt (7), 3) := by decide +kernel
theorem dMo_odds_156 : decode (mC mMo_odds) 156 = .ok (.iconst (1), 1) := by decide +kernel
theorem dMo_odds_157 : decode (mC mMo_odds) 157 = .ok (.goto (4), 3) := by decide +kernel
theorem dMo_odds_160 : decode (mC mMo_odds) 160 = .ok (.iconst (0), 1) := by decide +kernel
theorem dMo_odds_161 : decode (mC mMo_odds) 161 = .ok (.iadd, 1) := by decide +kernel
theorem dMo_odds_162 : decode (mC mMo_odds) 162 = .ok (.istore 5, 2) := by decide +kernel
theorem dMo_odds_164 : decode (mC mMo_odds) 164 = .ok (.iconst (0), 1) := by decide +kernel
theorem dMo_odds_165 : decode (mC mMo_odds) 165 = .ok (.istore 7, 2) := by decide +kernel
theorem dMo_odds_167 : decode (mC mMo_odds) 167 = .ok (.iload 7, 2) := by decide +kernel
theorem dMo_odds_169 : decode (mC mMo_odds) 169 = .ok (.sipush (322), 3) := by decide +kernel
theorem dMo_odds_172 : decode (mC mMo_odds) 172 = .ok (.if_icmp .ge (23), 3) := by decide +kernel
theorem dMo_odds_175 : decode (mC mMo_odds) 175 = .ok (.aload_n 0, 1) := by decide +kernel
theorem dMo_odds_176 : decode (mC mMo_odds) 176 = .ok (.getfield 35, 3) := by decide +kernel
theorem dMo_odds_179 : decode (mC mMo_odds) 179 = .ok (.iload 7, 2) := by decide +kernel
theorem dMo_odds_181 : decode (mC mMo_odds) 181 = .ok (.aload_n 0, 1) := by decide +kernel
theorem dMo_odds_182 : decode (mC mMo_odds) 182 = .ok (.getfield 38, 3) := by decide +kernel
theorem dMo_odds_185 : decode (mC mMo_odds) 185 = .ok (.iload 7, 2) := by decide +kernel
theorem dMo_odds_187 : decode (mC mMo_odds) 187 = .ok (.iaload, 1) := by decide +kernel
theorem dMo_odds_188 : decode (mC mMo_odds) 188 = .ok (.iastore, 1) := by decide +kernel
theorem dMo_odds_189 : decode (mC mMo_odds) 189 = .ok (.iinc 7 (1), 3) := by decide +kernel
theorem dMo_odds_192 : decode (mC mMo_odds) 192 = .ok (.goto (-25), 3) := by decide +kernel
theorem dMo_odds_195 : decode (mC mMo_odds) 195 = .ok (.iinc 6 (1), 3) := by decide +kernel
theorem dMo_odds_198 : decode (mC mMo_odds) 198 = .ok (.goto (-72), 3) := by decide +kernel
theorem dMo_odds_201 : decode (mC mMo_odds) 201 = .ok (.aload_n 0, 1) := by decide +kernel
theorem dMo_odds_202 : decode (mC mMo_odds) 202 = .ok (.iload 5, 2) := by decide +kernel
theorem dMo_odds_204 : decode (mC mMo_odds) 204 = .ok (.i2l, 1) := by decide +kernel
theorem dMo_odds_205 : decode (mC mMo_odds) 205 = .ok (.iload 4, 2) := by decide +kernel
theorem dMo_odds_207 : decode (mC mMo_odds) 207 = .ok (.i2l, 1) := by decide +kernel
theorem dMo_odds_208 : decode (mC mMo_odds) 208 = .ok (.invokevirtual 386, 3) := by decide +kernel
theorem dMo_odds_211 : decode (mC mMo_odds) 211 = .ok (.ireturn, 1) := by decide +kernel
theorem bMo_odds_0 {E : mEn} {d : Nat} {σ : mSt} {Q : mPost} {a1 : Int32} {a2 : Int32} {a3 : Int32} {a4 : Int32} {u5 : Value} {u6 : Value} {u7 : Value} : WP E (d + 1) mMo_odds 0 [.ref 166, .int a1, .int a2, .int a3, .int a4, u5, u6, u7] [] σ Q = WP E d mMo_isPersonAt 0 [.ref 166, .int a1] [] (sI (sI σ 166 1 0) 166 0 0) (fun r σ' => WP E (d + 1) mMo_odds 15 [.ref 166, .int a1, .int a2, .int a3, .int a4, u5, u6, u7] (r.toList ++ []) σ' Q) := (w_aload_n dMo_odds_0 rfl).trans ((w_iconst (v := 0) dMo_odds_1 rfl).trans ((w_puti dMo_odds_2 rz11_74 sh_166 rfl rfl rfl).trans ((w_aload_n dMo_odds_5 rfl).trans ((w_iconst (v := 0) dMo_odds_6 rfl).trans ((w_puti dMo_odds_7 rz11_77 sh_166 rfl rfl rfl).trans ((w_aload_n dMo_odds_10 rfl).trans ((w_iload_n dMo_odds_11 rfl).trans (w_virt (vs := [.int a1]) (st' := []) (es := [.ref 166, .int a1]) dMo_odds_12 rz11_332 rfl sh_166 rfl rfl rfl (Nat.le_of_ble_eq_true rfl) (Nat.le_of_ble_eq_true rfl) rfl))))))))
theorem bMo_odds_15 {E : mEn} {d : Nat} {σ : mSt} {Q : mPost} {a1 : Int32} {a2 : Int32} {a3 : Int32} {a4 : Int32} {u5 : Value} {u6 : Value} {u7 : Value} {s0 : Int32} : WP E d mMo_odds 15 [.ref 166, .int a1, .int a2, .int a3, .int a4, u5, u6, u7] [.int s0] σ Q = (if ¬ s0 = 0 then WP E d mMo_odds 24 [.ref 166, .int a1, .int a2, .int a3, .int a4, u5, u6, u7] [] σ Q else WP E d mMo_odds 18 [.ref 166, .int a1, .int a2, .int a3, .int a4, u5, u6, u7] [] σ Q) := w_ifne (t := 24) dMo_odds_15 (by decide)
theorem bMo_odds_18 {E : mEn} {d : Nat} {σ : mSt} {Q : mPost} {a1 : Int32} {a2 : Int32} {a3 : Int32} {a4 : Int32} {u5 : Value} {u6 : Value} {u7 : Value} : WP E (d + 1) mMo_odds 18 [.ref 166, .int a1, .int a2, .int a3, .int a4, u5, u6, u7] [] σ Q = WP E d mMo_no 0 [.ref 166, .int (nI 2)] [] σ (fun r σ' => WP E (d + 1) mMo_odds 23 [.ref 166, .int a1, .int a2, .int a3, .int a4, u5, u6, u7] (r.toList ++ []) σ' Q) := (w_aload_n dMo_odds_18 rfl).trans ((w_iconst (v := (nI 2)) dMo_odds_19 rfl).trans (w_virt (vs := [.int (nI 2)]) (st' := []) (es := [.ref 166, .int (nI 2)]) dMo_odds_20 rz11_89 rfl sh_166 rfl rfl rfl (Nat.le_of_ble_eq_true rfl) (Nat.le_of_ble_eq_true rfl) rfl))
theorem bMo_odds_23 {E : mEn} {d : Nat} {σ : mSt} {Q : mPost} {a1 : Int32} {a2 : Int32} {a3 : Int32} {a4 : Int32} {u5 : Value} {u6 : Value} {u7 : Value} {s0 : Int32} (hz0 : s0 = 0 ∨ s0 = 1) : WP E d mMo_odds 23 [.ref 166, .int a1, .int a2, .int a3, .int a4, u5, u6, u7] [.int s0] σ Q = Q (some (.int s0)) σ := w_zret dMo_odds_23 rfl hz0
theorem bMo_odds_24 {E : mEn} {d : Nat} {σ : mSt} {Q : mPost} {a1 : Int32} {a2 : Int32} {a3 : Int32} {a4 : Int32} {u5 : Value} {u6 : Value} {u7 : Value} : WP E (d + 1) mMo_odds 24 [.ref 166, .int a1, .int a2, .int a3, .int a4, u5, u6, u7] [] σ Q = WP E d mMo_isIn 0 [.long (a2.toInt64), uu, .long 1, uu, .long (999), uu] [] σ (fun r σ' => WP E (d + 1) mMo_odds 33 [.ref 166, .int a1, .int a2, .int a3, .int a4, u5, u6, u7] (r.toList ++ []) σ' Q) := (w_iload_n dMo_odds_24 rfl).trans ((w_i2l dMo_odds_25).trans ((w_lconst (v := 1) dMo_odds_26 rfl).trans ((w_ldc2_w dMo_odds_27 rz11_403).trans (w_stat (vs := [.long (a2.toInt64), .long 1, .long (999)]) (st' := []) (es := [.long (a2.toInt64), uu, .long 1, uu, .long (999), uu]) dMo_odds_30 rz11_109 rfl rfl rfl (Nat.le_of_ble_eq_true rfl) (Nat.le_of_ble_eq_true rfl) rfl))))
theorem bMo_odds_33 {E : mEn} {d : Nat} {σ : mSt} {Q : mPost} {a1 : Int32} {a2 : Int32} {a3 : Int32} {a4 : Int32} {u5 : Value} {u6 : Value} {u7 : Value} {s0 : Int32} : WP E d mMo_odds 33 [.ref 166, .int a1, .int a2, .int a3, .int a4, u5, u6, u7] [.int s0] σ Q = (if s0 = 0 then WP E d mMo_odds 65 [.ref 166, .int a1, .int a2, .int a3, .int a4, u5, u6, u7] [] σ Q else WP E d mMo_odds 36 [.ref 166, .int a1, .int a2, .int a3, .int a4, u5, u6, u7] [] σ Q) := w_ifeq (t := 65) dMo_odds_33 (by decide)
theorem bMo_odds_36 {E : mEn} {d : Nat} {σ : mSt} {Q : mPost} {a1 : Int32} {a2 : Int32} {a3 : Int32} {a4 : Int32} {u5 : Value} {u6 : Value} {u7 : Value} : WP E (d + 1) mMo_odds 36 [.ref 166, .int a1, .int a2, .int a3, .int a4, u5, u6, u7] [] σ Q = WP E d mMo_isIn 0 [.long (a4.toInt64), uu, .long 1, uu, .long (20), uu] [] σ (fun r σ' => WP E (d + 1) mMo_odds 46 [.ref 166, .int a1, .int a2, .int a3, .int a4, u5, u6, u7] (r.toList ++ []) σ' Q) := (w_iload dMo_odds_36 rfl).trans ((w_i2l dMo_odds_38).trans ((w_lconst (v := 1) dMo_odds_39 rfl).trans ((w_ldc2_w dMo_odds_40 rz11_506).trans (w_stat (vs := [.long (a4.toInt64), .long 1, .long (20)]) (st' := []) (es := [.long (a4.toInt64), uu, .long 1, uu, .long (20), uu]) dMo_odds_43 rz11_109 rfl rfl rfl (Nat.le_of_ble_eq_true rfl) (Nat.le_of_ble_eq_true rfl) rfl))))
theorem bMo_odds_46 {E : mEn} {d : Nat} {σ : mSt} {Q : mPost} {a1 : Int32} {a2 : Int32} {a3 : Int32} {a4 : Int32} {u5 : Value} {u6 : Value} {u7 : Value} {s0 : Int32} : WP E d mMo_odds 46 [.ref 166, .int a1, .int a2, .int a3, .int a4, u5, u6, u7] [.int s0] σ Q = (if s0 = 0 then WP E d mMo_odds 65 [.ref 166, .int a1, .int a2, .int a3, .int a4, u5, u6, u7] [] σ Q else WP E d mMo_odds 49 [.ref 166, .int a1, .int a2, .int a3, .int a4, u5, u6, u7] [] σ Q) := w_ifeq (t := 65) dMo_odds_46 (by decide)
theorem bMo_odds_49 {E : mEn} {d : Nat} {σ : mSt} {Q : mPost} {a1 : Int32} {a2 : Int32} {a3 : Int32} {a4 : Int32} {u5 : Value} {u6 : Value} {u7 : Value} : WP E (d + 1) mMo_odds 49 [.ref 166, .int a1, .int a2, .int a3, .int a4, u5, u6, u7] [] σ Q = WP E d mMo_isIn 0 [.long (a3.toInt64), uu, .long 0, uu, .long (((nI 10000) - a4).toInt64), uu] [] σ (fun r σ' => WP E (d + 1) mMo_odds 62 [.ref 166, .int a1, .int a2, .int a3, .int a4, u5, u6, u7] (r.toList ++ []) σ' Q) := (w_iload_n dMo_odds_49 rfl).trans ((w_i2l dMo_odds_50).trans ((w_lconst (v := 0) dMo_odds_51 rfl).trans ((w_sipush (v := (nI 10000)) dMo_odds_52 rfl).trans ((w_iload dMo_odds_55 rfl).trans ((w_isub dMo_odds_57).trans ((w_i2l dMo_odds_58).trans (w_stat (vs := [.long (a3.toInt64), .long 0, .long (((nI 10000) - a4).toInt64)]) (st' := []) (es := [.long (a3.toInt64), uu, .long 0, uu, .long (((nI 10000) - a4).toInt64), uu]) dMo_odds_59 rz11_109 rfl rfl rfl (Nat.le_of_ble_eq_true rfl) (Nat.le_of_ble_eq_true rfl) rfl)))))))
theorem bMo_odds_62 {E : mEn} {d : Nat} {σ : mSt} {Q : mPost} {a1 : Int32} {a2 : Int32} {a3 : Int32} {a4 : Int32} {u5 : Value} {u6 : Value} {u7 : Value} {s0 : Int32} : WP E d mMo_odds 62 [.ref 166, .int a1, .int a2, .int a3, .int a4, u5, u6, u7] [.int s0] σ Q = (if ¬ s0 = 0 then WP E d mMo_odds 71 [.ref 166, .int a1, .int a2, .int a3, .int a4, u5, u6, u7] [] σ Q else WP E d mMo_odds 65 [.ref 166, .int a1, .int a2, .int a3, .int a4, u5, u6, u7] [] σ Q) := w_ifne (t := 71) dMo_odds_62 (by decide)
theorem bMo_odds_65 {E : mEn} {d : Nat} {σ : mSt} {Q : mPost} {a1 : Int32} {a2 : Int32} {a3 : Int32} {a4 : Int32} {u5 : Value} {u6 : Value} {u7 : Value} : WP E (d + 1) mMo_odds 65 [.ref 166, .int a1, .int a2, .int a3, .int a4, u5, u6, u7] [] σ Q = WP E d mMo_no 0 [.ref 166, .int (nI 5)] [] σ (fun r σ' => WP E (d + 1) mMo_odds 70 [.ref 166, .int a1, .int a2, .int a3, .int a4, u5, u6, u7] (r.toList ++ []) σ' Q) := (w_aload_n dMo_odds_65 rfl).trans ((w_iconst (v := (nI 5)) dMo_odds_66 rfl).trans (w_virt (vs := [.int (nI 5)]) (st' := []) (es := [.ref 166, .int (nI 5)]) dMo_odds_67 rz11_89 rfl sh_166 rfl rfl rfl (Nat.le_of_ble_eq_true rfl) (Nat.le_of_ble_eq_true rfl) rfl))
theorem bMo_odds_70 {E : mEn} {d : Nat} {σ : mSt} {Q : mPost} {a1 : Int32} {a2 : Int32} {a3 : Int32} {a4 : Int32} {u5 : Value} {u6 : Value} {u7 : Value} {s0 : Int32} (hz0 : s0 = 0 ∨ s0 = 1) : WP E d mMo_odds 70 [.ref 166, .int a1, .int a2, .int a3, .int a4, u5, u6, u7] [.int s0] σ Q = Q (some (.int s0)) σ := w_zret dMo_odds_70 rfl hz0
theorem bMo_odds_71 {E : mEn} {d : Nat} {σ : mSt} {Q : mPost} {a1 : Int32} {a2 : Int32} {a3 : Int32} {a4 : Int32} {u5 : Value} {u6 : Value} {u7 : Value} : WP E d mMo_odds 71 [.ref 166, .int a1, .int a2, .int a3, .int a4, u5, u6, u7] [] σ Q = (if mOut (nI 322) 3000 = true then False else (if ¬ (σ.1 171 322) = 0 then WP E d mMo_odds 89 [.ref 166, .int a1, .int a2, .int a3, .int a4, u5, u6, u7] [] σ Q else WP E d mMo_odds 82 [.ref 166, .int a1, .int a2, .int a3, .int a4, u5, u6, u7] [] σ Q)) := (w_aload_n dMo_odds_71 rfl).trans ((w_getr (r := 171) dMo_odds_72 rz11_35 sh_166 rfl).trans ((w_sipush (v := (nI 322)) dMo_odds_75 rfl).trans ((w_iald dMo_odds_78 sh_171 (by decide)).trans (ite_c (w_ifne (t := 89) dMo_odds_79 (by decide))))))
theorem bMo_odds_82 {E : mEn} {d : Nat} {σ : mSt} {Q : mPost} {a1 : Int32} {a2 : Int32} {a3 : Int32} {a4 : Int32} {u5 : Value} {u6 : Value} {u7 : Value} : WP E (d + 1) mMo_odds 82 [.ref 166, .int a1, .int a2, .int a3, .int a4, u5, u6, u7] [] σ Q = WP E d mMo_no 0 [.ref 166, .int (nI 8)] [] σ (fun r σ' => WP E (d + 1) mMo_odds 88 [.ref 166, .int a1, .int a2, .int a3, .int a4, u5, u6, u7] (r.toList ++ []) σ' Q) := (w_aload_n dMo_odds_82 rfl).trans ((w_bipush (v := (nI 8)) dMo_odds_83 rfl).trans (w_virt (vs := [.int (nI 8)]) (st' := []) (es := [.ref 166, .int (nI 8)]) dMo_odds_85 rz11_89 rfl sh_166 rfl rfl rfl (Nat.le_of_ble_eq_true rfl) (Nat.le_of_ble_eq_true rfl) rfl))
theorem bMo_odds_88 {E : mEn} {d : Nat} {σ : mSt} {Q : mPost} {a1 : Int32} {a2 : Int32} {a3 : Int32} {a4 : Int32} {u5 : Value} {u6 : Value} {u7 : Value} {s0 : Int32} (hz0 : s0 = 0 ∨ s0 = 1) : WP E d mMo_odds 88 [.ref 166, .int a1, .int a2, .int a3, .int a4, u5, u6, u7] [.int s0] σ Q = Q (some (.int s0)) σ := w_zret dMo_odds_88 rfl hz0
theorem bMo_odds_89 {E : mEn} {d : Nat} {σ : mSt} {Q : mPost} {a1 : Int32} {a2 : Int32} {a3 : Int32} {a4 : Int32} {u5 : Value} {u6 : Value} {u7 : Value} : WP E d mMo_odds 89 [.ref 166, .int a1, .int a2, .int a3, .int a4, u5, u6, u7] [] σ Q = WP E d mMo_odds 92 [.ref 166, .int a1, .int a2, .int a3, .int a4, .int 0, u6, u7] [] σ Q := (w_iconst (v := 0) dMo_odds_89 rfl).trans (w_istore (ls' := [.ref 166, .int a1, .int a2, .int a3, .int a4, .int 0, u6, u7]) dMo_odds_90 (Nat.le_of_ble_eq_true rfl) rfl)
theorem bMo_odds_92 {E : mEn} {d : Nat} {σ : mSt} {Q : mPost} {a1 : Int32} {a2 : Int32} {a3 : Int32} {a4 : Int32} {a5 : Int32} {u6 : Value} {u7 : Value} : WP E d mMo_odds 92 [.ref 166, .int a1, .int a2, .int a3, .int a4, .int a5, u6, u7] [] σ Q = (if (nI 322) ≤ a5 then WP E d mMo_odds 120 [.ref 166, .int a1, .int a2, .int a3, .int a4, .int a5, u6, u7] [] σ Q else WP E d mMo_odds 100 [.ref 166, .int a1, .int a2, .int a3, .int a4, .int a5, u6, u7] [] σ Q) := (w_iload dMo_odds_92 rfl).trans ((w_sipush (v := (nI 322)) dMo_odds_94 rfl).trans (w_icmpge (t := 120) dMo_odds_97 (by decide)))
theorem bMo_odds_100 {E : mEn} {d : Nat} {σ : mSt} {Q : mPost} {a1 : Int32} {a2 : Int32} {a3 : Int32} {a4 : Int32} {a5 : Int32} {u6 : Value} {u7 : Value} : WP E d mMo_odds 100 [.ref 166, .int a1, .int a2, .int a3, .int a4, .int a5, u6, u7] [] σ Q = (if mOut a5 3000 = true then False else (if mOut a5 322 = true then False else WP E d mMo_odds 92 [.ref 166, .int a1, .int a2, .int a3, .int a4, .int (a5 + 1), u6, u7] [] (sI σ 172 a5.toNatClampNeg (σ.1 171 a5.toNatClampNeg)) Q)) := (w_aload_n dMo_odds_100 rfl).trans ((w_getr (r := 172) dMo_odds_101 rz11_38 sh_166 rfl).trans ((w_iload dMo_odds_104 rfl).trans ((w_aload_n dMo_odds_106 rfl).trans ((w_getr (r := 171) dMo_odds_107 rz11_35 sh_166 rfl).trans ((w_iload dMo_odds_110 rfl).trans ((w_iald dMo_odds_112 sh_171 (by decide)).trans (ite_c ((w_iast dMo_odds_113 sh_172).trans (ite_c ((w_iinc (v := 1) (ls' := [.ref 166, .int a1, .int a2, .int a3, .int a4, .int (a5 + 1), u6, u7]) dMo_odds_114 rfl rfl rfl).trans (w_goto (t := 92) dMo_odds_117 (by decide))))))))))))
theorem bMo_odds_120 {E : mEn} {d : Nat} {σ : mSt} {Q : mPost} {a1 : Int32} {a2 : Int32} {a3 : Int32} {a4 : Int32} {a5 : Int32} {u6 : Value} {u7 : Value} : WP E d mMo_odds 120 [.ref 166, .int a1, .int a2, .int a3, .int a4, .int a5, u6, u7] [] σ Q = WP E d mMo_odds 126 [.ref 166, .int a1, .int a2, .int a3, .int a4, .int 0, .int 0, u7] [] σ Q := (w_iconst (v := 0) dMo_odds_120 rfl).trans ((w_istore (ls' := [.ref 166, .int a1, .int a2, .int a3, .int a4, .int 0, u6, u7]) dMo_odds_121 (Nat.le_of_ble_eq_true rfl) rfl).trans ((w_iconst (v := 0) dMo_odds_123 rfl).trans (w_istore (ls' := [.ref 166, .int a1, .int a2, .int a3, .int a4, .int 0, .int 0, u7]) dMo_odds_124 (Nat.le_of_ble_eq_true rfl) rfl)))
theorem bMo_odds_126 {E : mEn} {d : Nat} {σ : mSt} {Q : mPost} {a1 : Int32} {a2 : Int32} {a3 : Int32} {a4 : Int32} {a5 : Int32} {a6 : Int32} {u7 : Value} : WP E d mMo_odds 126 [.ref 166, .int a1, .int a2, .int a3, .int a4, .int a5, .int a6, u7] [] σ Q = (if a4 ≤ a6 then WP E d mMo_odds 201 [.ref 166, .int a1, .int a2, .int a3, .int a4, .int a5, .int a6, u7] [] σ Q else WP E d mMo_odds 133 [.ref 166, .int a1, .int a2, .int a3, .int a4, .int a5, .int a6, u7] [] σ Q) := (w_iload dMo_odds_126 rfl).trans ((w_iload dMo_odds_128 rfl).trans (w_icmpge (t := 201) dMo_odds_130 (by decide)))
theorem bMo_odds_133 {E : mEn} {d : Nat} {σ : mSt} {Q : mPost} {a1 : Int32} {a2 : Int32} {a3 : Int32} {a4 : Int32} {a5 : Int32} {a6 : Int32} {u7 : Value} : WP E (d + 1) mMo_odds 133 [.ref 166, .int a1, .int a2, .int a3, .int a4, .int a5, .int a6, u7] [] σ Q = WP E d mMo_lives 0 [.ref 166, .int (a3 + a6)] [] σ (fun r σ' => WP E (d + 1) mMo_odds 141 [.ref 166, .int a1, .int a2, .int a3, .int a4, .int a5, .int a6, u7] (r.toList ++ []) σ' Q) := (w_aload_n dMo_odds_133 rfl).trans ((w_iload_n dMo_odds_134 rfl).trans ((w_iload dMo_odds_135 rfl).trans ((w_iadd dMo_odds_137).trans (w_virt (vs := [.int (a3 + a6)]) (st' := []) (es := [.ref 166, .int (a3 + a6)]) dMo_odds_138 rz11_498 rfl sh_166 rfl rfl rfl (Nat.le_of_ble_eq_true rfl) (Nat.le_of_ble_eq_true rfl) rfl))))
theorem bMo_odds_141 {E : mEn} {d : Nat} {σ : mSt} {Q : mPost} {a1 : Int32} {a2 : Int32} {a3 : Int32} {a4 : Int32} {a5 : Int32} {a6 : Int32} {u7 : Value} : WP E d mMo_odds 141 [.ref 166, .int a1, .int a2, .int a3, .int a4, .int a5, .int a6, u7] [] σ Q = (if mOut ((nI 14) + a1) 3000 = true then False else (if (σ.1 171 ((nI 14) + a1).toNatClampNeg) < a2 then WP E d mMo_odds 160 [.ref 166, .int a1, .int a2, .int a3, .int a4, .int a5, .int a6, u7] [.int a5] σ Q else WP E d mMo_odds 156 [.ref 166, .int a1, .int a2, .int a3, .int a4, .int a5, .int a6, u7] [.int a5] σ Q)) := (w_iload dMo_odds_141 rfl).trans ((w_aload_n dMo_odds_143 rfl).trans ((w_getr (r := 171) dMo_odds_144 rz11_35 sh_166 rfl).trans ((w_bipush (v := (nI 14)) dMo_odds_147 rfl).trans ((w_iload_n dMo_odds_149 rfl).trans ((w_iadd dMo_odds_150).trans ((w_iald dMo_odds_151 sh_171 (by decide)).trans (ite_c ((w_iload_n dMo_odds_152 rfl).trans (w_icmplt (t := 160) dMo_odds_153 (by decide))))))))))
theorem bMo_odds_156 {E : mEn} {d : Nat} {σ : mSt} {Q : mPost} {a1 : Int32} {a2 : Int32} {a3 : Int32} {a4 : Int32} {a5 : Int32} {a6 : Int32} {u7 : Value} {s0 : Int32} : WP E d mMo_odds 156 [.ref 166, .int a1, .int a2, .int a3, .int a4, .int a5, .int a6, u7] [.int s0] σ Q = WP E d mMo_odds 161 [.ref 166, .int a1, .int a2, .int a3, .int a4, .int a5, .int a6, u7] [.int 1, .int s0] σ Q := (w_iconst (v := 1) dMo_odds_156 rfl).trans (w_goto (t := 161) dMo_odds_157 (by decide))
theorem bMo_odds_160 {E : mEn} {d : Nat} {σ : mSt} {Q : mPost} {a1 : Int32} {a2 : Int32} {a3 : Int32} {a4 : Int32} {a5 : Int32} {a6 : Int32} {u7 : Value} {s0 : Int32} : WP E d mMo_odds 160 [.ref 166, .int a1, .int a2, .int a3, .int a4, .int a5, .int a6, u7] [.int s0] σ Q = WP E d mMo_odds 161 [.ref 166, .int a1, .int a2, .int a3, .int a4, .int a5, .int a6, u7] [.int 0, .int s0] σ Q := w_iconst (v := 0) dMo_odds_160 rfl
theorem bMo_odds_161 {E : mEn} {d : Nat} {σ : mSt} {Q : mPost} {a1 : Int32} {a2 : Int32} {a3 : Int32} {a4 : Int32} {a5 : Int32} {a6 : Int32} {u7 : Value} {s0 : Int32} {s1 : Int32} : WP E d mMo_odds 161 [.ref 166, .int a1, .int a2, .int a3, .int a4, .int a5, .int a6, u7] [.int s0, .int s1] σ Q = WP E d mMo_odds 167 [.ref 166, .int a1, .int a2, .int a3, .int a4, .int (s1 + s0), .int a6, .int 0] [] σ Q := (w_iadd dMo_odds_161).trans ((w_istore (ls' := [.ref 166, .int a1, .int a2, .int a3, .int a4, .int (s1 + s0), .int a6, u7]) dMo_odds_162 (Nat.le_of_ble_eq_true rfl) rfl).trans ((w_iconst (v := 0) dMo_odds_164 rfl).trans (w_istore (ls' := [.ref 166, .int a1, .int a2, .int a3, .int a4, .int (s1 + s0), .int a6, .int 0]) dMo_odds_165 (Nat.le_of_ble_eq_true rfl) rfl)))
theorem bMo_odds_167 {E : mEn} {d : Nat} {σ : mSt} {Q : mPost} {a1 : Int32} {a2 : Int32} {a3 : Int32} {a4 : Int32} {a5 : Int32} {a6 : Int32} {a7 : Int32} : WP E d mMo_odds 167 [.ref 166, .int a1, .int a2, .int a3, .int a4, .int a5, .int a6, .int a7] [] σ Q = (if (nI 322) ≤ a7 then WP E d mMo_odds 195 [.ref 166, .int a1, .int a2, .int a3, .int a4, .int a5, .int a6, .int a7] [] σ Q else WP E d mMo_odds 175 [.ref 166, .int a1, .int a2, .int a3, .int a4, .int a5, .int a6, .int a7] [] σ Q) := (w_iload dMo_odds_167 rfl).trans ((w_sipush (v := (nI 322)) dMo_odds_169 rfl).trans (w_icmpge (t := 195) dMo_odds_172 (by decide)))
theorem bMo_odds_175 {E : mEn} {d : Nat} {σ : mSt} {Q : mPost} {a1 : Int32} {a2 : Int32} {a3 : Int32} {a4 : Int32} {a5 : Int32} {a6 : Int32} {a7 : Int32} : WP E d mMo_odds 175 [.ref 166, .int a1, .int a2, .int a3, .int a4, .int a5, .int a6, .int a7] [] σ Q = (if mOut a7 322 = true then False else (if mOut a7 3000 = true then False else WP E d mMo_odds 167 [.ref 166, .int a1, .int a2, .int a3, .int a4, .int a5, .int a6, .int (a7 + 1)] [] (sI σ 171 a7.toNatClampNeg (σ.1 172 a7.toNatClampNeg)) Q)) := (w_aload_n dMo_odds_175 rfl).trans ((w_getr (r := 171) dMo_odds_176 rz11_35 sh_166 rfl).trans ((w_iload dMo_odds_179 rfl).trans ((w_aload_n dMo_odds_181 rfl).trans ((w_getr (r := 172) dMo_odds_182 rz11_38 sh_166 rfl).trans ((w_iload dMo_odds_185 rfl).trans ((w_iald dMo_odds_187 sh_172 (by decide)).trans (ite_c ((w_iast dMo_odds_188 sh_171).trans (ite_c ((w_iinc (v := 1) (ls' := [.ref 166, .int a1, .int a2, .int a3, .int a4, .int a5, .int a6, .int (a7 + 1)]) dMo_odds_189 rfl rfl rfl).trans (w_goto (t := 167) dMo_odds_192 (by decide))))))))))))
theorem bMo_odds_195 {E : mEn} {d : Nat} {σ : mSt} {Q : mPost} {a1 : Int32} {a2 : Int32} {a3 : Int32} {a4 : Int32} {a5 : Int32} {a6 : Int32} {a7 : Int32} : WP E d mMo_odds 195 [.ref 166, .int a1, .int a2, .int a3, .int a4, .int a5, .int a6, .int a7] [] σ Q = WP E d mMo_odds 126 [.ref 166, .int a1, .int a2, .int a3, .int a4, .int a5, .int (a6 + 1), .int a7] [] σ Q := (w_iinc (v := 1) (ls' := [.ref 166, .int a1, .int a2, .int a3, .int a4, .int a5, .int (a6 + 1), .int a7]) dMo_odds_195 rfl rfl rfl).trans (w_goto (t := 126) dMo_odds_198 (by decide))
theorem bMo_odds_201 {E : mEn} {d : Nat} {σ : mSt} {Q : mPost} {a1 : Int32} {a2 : Int32} {a3 : Int32} {a4 : Int32} {a5 : Int32} {a6 : Int32} {u7 : Value} : WP E (d + 1) mMo_odds 201 [.ref 166, .int a1, .int a2, .int a3, .int a4, .int a5, .int a6, u7] [] σ Q = WP E d mMo_fraction 0 [.ref 166, .long (a5.toInt64), uu, .long (a4.toInt64), uu, uu, uu, uu, uu, uu, uu] [] σ (fun r σ' => WP E (d + 1) mMo_odds 211 [.ref 166, .int a1, .int a2, .int a3, .int a4, .int a5, .int a6, u7] (r.toList ++ []) σ' Q) := (w_aload_n dMo_odds_201 rfl).trans ((w_iload dMo_odds_202 rfl).trans ((w_i2l dMo_odds_204).trans ((w_iload dMo_odds_205 rfl).trans ((w_i2l dMo_odds_207).trans (w_virt (vs := [.long (a5.toInt64), .long (a4.toInt64)]) (st' := []) (es := [.ref 166, .long (a5.toInt64), uu, .long (a4.toInt64), uu, uu, uu, uu, uu, uu, uu]) dMo_odds_208 rz11_386 rfl sh_166 rfl rfl rfl (Nat.le_of_ble_eq_true rfl) (Nat.le_of_ble_eq_true rfl) rfl)))))
theorem bMo_odds_211 {E : mEn} {d : Nat} {σ : mSt} {Q : mPost} {a1 : Int32} {a2 : Int32} {a3 : Int32} {a4 : Int32} {a5 : Int32} {a6 : Int32} {u7 : Value} {s0 : Int32} (hz0 : s0 = 0 ∨ s0 = 1) : WP E d mMo_odds 211 [.ref 166, .int a1, .int a2, .int a3, .int a4, .int a5, .int a6, u7] [.int s0] σ Q = Q (some (.int s0)) σ := w_zret dMo_odds_211 rfl hz0
theorem dMo_mark_0 : decode (mC mMo_mark) 0 = .ok (.aload_n 0, 1) := by decide +kernel
theorem dMo_mark_1 : decode (mC mMo_mark) 1 = .ok (.iconst (0), 1) := by decide +kernel
theorem dMo_mark_2 : decode (mC mMo_mark) 2 = .ok (.putfield 74, 3) := by decide +kernel
theorem dMo_mark_5 : decode (mC mMo_mark) 5 = .ok (.aload_n 0, 1) := by decide +kernel
theorem dMo_mark_6 : decode (mC mMo_mark) 6 = .ok (.iconst (0), 1) := by decide +kernel
theorem dMo_mark_7 : decode (mC mMo_mark) 7 = .ok (.putfield 77, 3) := by decide +kernel
theorem dMo_mark_10 : decode (mC mMo_mark) 10 = .ok (.aload_n 0, 1) := by decide +kernel
theorem dMo_mark_11 : decode (mC mMo_mark) 11 = .ok (.getfield 508, 3) := by decide +kernel
theorem dMo_mark_14 : decode (mC mMo_mark) 14 = .ok (.iconst (3), 1) := by decide +kernel
theorem dMo_mark_15 : decode (mC mMo_mark) 15 = .ok (.if_icmp .ne (10), 3) := by decide +kernel
theorem dMo_mark_18 : decode (mC mMo_mark) 18 = .ok (.aload_n 0, 1) := by decide +kernel
theorem dMo_mark_19 : decode (mC mMo_mark) 19 = .ok (.bipush (7), 2) := by decide +kernel
theorem dMo_mark_21 : decode (mC mMo_mark) 21 = .ok (.invokevirtual 329, 3) := by decide +kernel
theorem dMo_mark_24 : decode (mC mMo_mark) 24 = .ok (.ireturn, 1) := by decide +kernel
theorem dMo_mark_25 : decode (mC mMo_mark) 25 = .ok (.aload_n 0, 1) := by decide +kernel
theorem dMo_mark_26 : decode (mC mMo_mark) 26 = .ok (.dup, 1) := by decide +kernel
theorem dMo_mark_27 : decode (mC mMo_mark) 27 = .ok (.getfield 508, 3) := by decide +kernel
theorem dMo_mark_30 : decode (mC mMo_mark) 30 = .ok (.iconst (1), 1) := by decide +kernel
theorem dMo_mark_31 : decode (mC mMo_mark) 31 = .ok (.iadd, 1) := by decide +kernel
theorem dMo_mark_32 : decode (mC mMo_mark) 32 = .ok (.putfield 508, 3) := by decide +kernel
theorem dMo_mark_35 : decode (mC mMo_mark) 35 = .ok (.aload_n 0, 1) := by decide +kernel
theorem dMo_mark_36 : decode (mC mMo_mark) 36 = .ok (.iconst (0), 1) := by decide +kernel
theorem dMo_mark_37 : decode (mC mMo_mark) 37 = .ok (.aload_n 0, 1) := by decide +kernel
theorem dMo_mark_38 : decode (mC mMo_mark) 38 = .ok (.getfield 508, 3) := by decide +kernel
theorem dMo_mark_41 : decode (mC mMo_mark) 41 = .ok (.invokevirtual 302, 3) := by decide +kernel
theorem dMo_mark_44 : decode (mC mMo_mark) 44 = .ok (.aload_n 0, 1) := by decide +kernel
theorem dMo_mark_45 : decode (mC mMo_mark) 45 = .ok (.getfield 508, 3) := by decide +kernel
theorem dMo_mark_48 : decode (mC mMo_mark) 48 = .ok (.ireturn, 1) := by decide +kernel
theorem bMo_mark_0 {E : mEn} {d : Nat} {σ : mSt} {Q : mPost} : WP E d mMo_mark 0 [.ref 166] [] σ Q = (if ¬ ((sI (sI σ 166 1 0) 166 0 0).1 166 23) = (nI 3) then WP E d mMo_mark 25 [.ref 166] [] (sI (sI σ 166 1 0) 166 0 0) Q else WP E d mMo_mark 18 [.ref 166] [] (sI (sI σ 166 1 0) 166 0 0) Q) := (w_aload_n dMo_mark_0 rfl).trans ((w_iconst (v := 0) dMo_mark_1 rfl).trans ((w_puti dMo_mark_2 rz11_74 sh_166 rfl rfl rfl).trans ((w_aload_n dMo_mark_5 rfl).trans ((w_iconst (v := 0) dMo_mark_6 rfl).trans ((w_puti dMo_mark_7 rz11_77 sh_166 rfl rfl rfl).trans ((w_aload_n dMo_mark_10 rfl).trans ((w_geti dMo_mark_11 rz11_508 sh_166 rfl).trans ((w_iconst (v := (nI 3)) dMo_mark_14 rfl).trans (w_icmpne (t := 25) dMo_mark_15 (by decide))))))))))
theorem bMo_mark_18 {E : mEn} {d : Nat} {σ : mSt} {Q : mPost} : WP E (d + 1) mMo_mark 18 [.ref 166] [] σ Q = WP E d mMo_refuse 0 [.ref 166, .int (nI 7)] [] σ (fun r σ' => WP E (d + 1) mMo_mark 24 [.ref 166] (r.toList ++ []) σ' Q) := (w_aload_n dMo_mark_18 rfl).trans ((w_bipush (v := (nI 7)) dMo_mark_19 rfl).trans (w_virt (vs := [.int (nI 7)]) (st' := []) (es := [.ref 166, .int (nI 7)]) dMo_mark_21 rz11_329 rfl sh_166 rfl rfl rfl (Nat.le_of_ble_eq_true rfl) (Nat.le_of_ble_eq_true rfl) rfl))
theorem bMo_mark_24 {E : mEn} {d : Nat} {σ : mSt} {Q : mPost} {s0 : Int32} : WP E d mMo_mark 24 [.ref 166] [.int s0] σ Q = Q (some (.int s0)) σ := w_iret dMo_mark_24 rfl
theorem bMo_mark_25 {E : mEn} {d : Nat} {σ : mSt} {Q : mPost} : WP E (d + 1) mMo_mark 25 [.ref 166] [] σ Q = WP E d mMo_copy 0 [.ref 166, .int 0, .int ((sI σ 166 23 ((σ.1 166 23) + 1)).1 166 23), uu] [] (sI σ 166 23 ((σ.1 166 23) + 1)) (fun r σ' => WP E (d + 1) mMo_mark 44 [.ref 166] (r.toList ++ []) σ' Q) := (w_aload_n dMo_mark_25 rfl).trans ((w_dup dMo_mark_26 rfl).trans ((w_geti dMo_mark_27 rz11_508 sh_166 rfl).trans ((w_iconst (v := 1) dMo_mark_30 rfl).trans ((w_iadd dMo_mark_31).trans ((w_puti dMo_mark_32 rz11_508 sh_166 rfl rfl rfl).trans ((w_aload_n dMo_mark_35 rfl).trans ((w_iconst (v := 0) dMo_mark_36 rfl).trans ((w_aload_n dMo_mark_37 rfl).trans ((w_geti dMo_mark_38 rz11_508 sh_166 rfl).trans (w_virt (vs := [.int 0, .int ((sI σ 166 23 ((σ.1 166 23) + 1)).1 166 23)]) (st' := []) (es := [.ref 166, .int 0, .int ((sI σ 166 23 ((σ.1 166 23) + 1)).1 166 23), uu]) dMo_mark_41 rz11_302 rfl sh_166 rfl rfl rfl (Nat.le_of_ble_eq_true rfl) (Nat.le_of_ble_eq_true rfl) rfl))))))))))
theorem bMo_mark_44 {E : mEn} {d : Nat} {σ : mSt} {Q : mPost} : WP E d mMo_mark 44 [.ref 166] [] σ Q = Q (some (.int (σ.1 166 23))) σ := (w_aload_n dMo_mark_44 rfl).trans ((w_geti dMo_mark_45 rz11_508 sh_166 rfl).trans (w_iret dMo_mark_48 rfl))
theorem dMo_back_0 : decode (mC mMo_back) 0 = .ok (.aload_n 0, 1) := by decide +kernel
theorem dMo_back_1 : decode (mC mMo_back) 1 = .ok (.iconst (0), 1) := by decide +kernel
theorem dMo_back_2 : decode (mC mMo_back) 2 = .ok (.putfield 74, 3) := by decide +kernel
theorem dMo_back_5 : decode (mC mMo_back) 5 = .ok (.aload_n 0, 1) := by decide +kernel
theorem dMo_back_6 : decode (mC mMo_back) 6 = .ok (.iconst (0), 1) := by decide +kernel
theorem dMo_back_7 : decode (mC mMo_back) 7 = .ok (.putfield 77, 3) := by decide +kernel
theorem dMo_back_10 : decode (mC mMo_back) 10 = .ok (.aload_n 0, 1) := by decide +kernel
theorem dMo_back_11 : decode (mC mMo_back) 11 = .ok (.getfield 508, 3) := by decide +kernel
theorem dMo_back_14 : decode (mC mMo_back) 14 = .ok (.ifCond .ne (10), 3) := by decide +kernel
theorem dMo_back_17 : decode (mC mMo_back) 17 = .ok (.aload_n 0, 1) := by decide +kernel
theorem dMo_back_18 : decode (mC mMo_back) 18 = .ok (.bipush (8), 2) := by decide +kernel
theorem dMo_back_20 : decode (mC mMo_back) 20 = .ok (.invokevirtual 329, 3) := by decide +kernel
theorem dMo_back_23 : decode (mC mMo_back) 23 = .ok (.ireturn, 1) := by decide +kernel
theorem dMo_back_24 : decode (mC mMo_back) 24 = .ok (.aload_n 0, 1) := by decide +kernel
theorem dMo_back_25 : decode (mC mMo_back) 25 = .ok (.aload_n 0, 1) := by decide +kernel
theorem dMo_back_26 : decode (mC mMo_back) 26 = .ok (.getfield 508, 3) := by decide +kernel
theorem dMo_back_29 : decode (mC mMo_back) 29 = .ok (.iconst (0), 1) := by decide +kernel
theorem dMo_back_30 : decode (mC mMo_back) 30 = .ok (.invokevirtual 302, 3) := by decide +kernel
theorem dMo_back_33 : decode (mC mMo_back) 33 = .ok (.aload_n 0, 1) := by decide +kernel
theorem dMo_back_34 : decode (mC mMo_back) 34 = .ok (.dup, 1) := by decide +kernel
theorem dMo_back_35 : decode (mC mMo_back) 35 = .ok (.getfield 508, 3) := by decide +kernel
theorem dMo_back_38 : decode (mC mMo_back) 38 = .ok (.iconst (1), 1) := by decide +kernel
theorem dMo_back_39 : decode (mC mMo_back) 39 = .ok (.isub, 1) := by decide +kernel
theorem dMo_back_40 : decode (mC mMo_back) 40 = .ok (.putfield 508, 3) := by decide +kernel
theorem dMo_back_43 : decode (mC mMo_back) 43 = .ok (.aload_n 0, 1) := by decide +kernel
theorem dMo_back_44 : decode (mC mMo_back) 44 = .ok (.getfield 508, 3) := by decide +kernel
theorem dMo_back_47 : decode (mC mMo_back) 47 = .ok (.ireturn, 1) := by decide +kernel
theorem bMo_back_0 {E : mEn} {d : Nat} {σ : mSt} {Q : mPost} : WP E d mMo_back 0 [.ref 166] [] σ Q = (if ¬ ((sI (sI σ 166 1 0) 166 0 0).1 166 23) = 0 then WP E d mMo_back 24 [.ref 166] [] (sI (sI σ 166 1 0) 166 0 0) Q else WP E d mMo_back 17 [.ref 166] [] (sI (sI σ 166 1 0) 166 0 0) Q) := (w_aload_n dMo_back_0 rfl).trans ((w_iconst (v := 0) dMo_back_1 rfl).trans ((w_puti dMo_back_2 rz11_74 sh_166 rfl rfl rfl).trans ((w_aload_n dMo_back_5 rfl).trans ((w_iconst (v := 0) dMo_back_6 rfl).trans ((w_puti dMo_back_7 rz11_77 sh_166 rfl rfl rfl).trans ((w_aload_n dMo_back_10 rfl).trans ((w_geti dMo_back_11 rz11_508 sh_166 rfl).trans (w_ifne (t := 24) dMo_back_14 (by decide)))))))))
theorem bMo_back_17 {E : mEn} {d : Nat} {σ : mSt} {Q : mPost} : WP E (d + 1) mMo_back 17 [.ref 166] [] σ Q = WP E d mMo_refuse 0 [.ref 166, .int (nI 8)] [] σ (fun r σ' => WP E (d + 1) mMo_back 23 [.ref 166] (r.toList ++ []) σ' Q) := (w_aload_n dMo_back_17 rfl).trans ((w_bipush (v := (nI 8)) dMo_back_18 rfl).trans (w_virt (vs := [.int (nI 8)]) (st' := []) (es := [.ref 166, .int (nI 8)]) dMo_back_20 rz11_329 rfl sh_166 rfl rfl rfl (Nat.le_of_ble_eq_true rfl) (Nat.le_of_ble_eq_true rfl) rfl))
theorem bMo_back_23 {E : mEn} {d : Nat} {σ : mSt} {Q : mPost} {s0 : Int32} : WP E d mMo_back 23 [.ref 166] [.int s0] σ Q = Q (some (.int s0)) σ := w_iret dMo_back_23 rfl
theorem bMo_back_24 {E : mEn} {d : Nat} {σ : mSt} {Q : mPost} : WP E (d + 1) mMo_back 24 [.ref 166] [] σ Q = WP E d mMo_copy 0 [.ref 166, .int (σ.1 166 23), .int 0, uu] [] σ (fun r σ' => WP E (d + 1) mMo_back 33 [.ref 166] (r.toList ++ []) σ' Q) := (w_aload_n dMo_back_24 rfl).trans ((w_aload_n dMo_back_25 rfl).trans ((w_geti dMo_back_26 rz11_508 sh_166 rfl).trans ((w_iconst (v := 0) dMo_back_29 rfl).trans (w_virt (vs := [.int (σ.1 166 23), .int 0]) (st' := []) (es := [.ref 166, .int (σ.1 166 23), .int 0, uu]) dMo_back_30 rz11_302 rfl sh_166 rfl rfl rfl (Nat.le_of_ble_eq_true rfl) (Nat.le_of_ble_eq_true rfl) rfl))))
theorem bMo_back_33 {E : mEn} {d : Nat} {σ : mSt} {Q : mPost} : WP E d mMo_back 33 [.ref 166] [] σ Q = Q (some (.int ((sI σ 166 23 ((σ.1 166 23) - 1)).1 166 23))) (sI σ 166 23 ((σ.1 166 23) - 1)) := (w_aload_n dMo_back_33 rfl).trans ((w_dup dMo_back_34 rfl).trans ((w_geti dMo_back_35 rz11_508 sh_166 rfl).trans ((w_iconst (v := 1) dMo_back_38 rfl).trans ((w_isub dMo_back_39).trans ((w_puti dMo_back_40 rz11_508 sh_166 rfl rfl rfl).trans ((w_aload_n dMo_back_43 rfl).trans ((w_geti dMo_back_44 rz11_508 sh_166 rfl).trans (w_iret dMo_back_47 rfl))))))))
