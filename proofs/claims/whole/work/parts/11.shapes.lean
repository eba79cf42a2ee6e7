theorem sh_0 : mS0[0]? = some (5, 10, [3, 7, 12, 37, 62, 63, 70, 75, 84, 0, 0, 1, 1, 0, 0, 0]) := rfl
theorem sh_1 : mS0[1]? = some (5, 9, [4, 5, 6]) := rfl
theorem sh_2 : mS0[2]? = some (3, 240, []) := rfl
theorem sh_3 : mS0[3]? = some (0, 4, []) := rfl
theorem sh_4 : mS0[4]? = some (0, 4, []) := rfl
theorem sh_5 : mS0[5]? = some (5, 6, [8, 11]) := rfl
theorem sh_6 : mS0[6]? = some (5, 7, [9, 10, 0, 0, 0, 0, 0, 0, 1, 0, 0]) := rfl
theorem sh_7 : mS0[7]? = some (1, 900, []) := rfl
theorem sh_8 : mS0[8]? = some (3, 28, []) := rfl
theorem sh_9 : mS0[9]? = some (0, 5, []) := rfl
theorem sh_10 : mS0[10]? = some (5, 8, [13, 15, 24, 27, 28, 29, 30, 31, 32, 33, 34, 35, 36, 0, 0, 0, 0, 0, 0]) := rfl
theorem sh_11 : mS0[11]? = some (5, 2, [14]) := rfl
theorem sh_12 : mS0[12]? = some (3, 20, []) := rfl
theorem sh_13 : mS0[13]? = some (5, 4, [16, 17, 18, 19, 20, 21, 22, 23, 0]) := rfl
theorem sh_14 : mS0[14]? = some (0, 40, []) := rfl
theorem sh_15 : mS0[15]? = some (0, 40, []) := rfl
theorem sh_16 : mS0[16]? = some (0, 40, []) := rfl
theorem sh_17 : mS0[17]? = some (0, 40, []) := rfl
theorem sh_18 : mS0[18]? = some (0, 40, []) := rfl
theorem sh_19 : mS0[19]? = some (2, 40, []) := rfl
theorem sh_20 : mS0[20]? = some (0, 40, []) := rfl
theorem sh_21 : mS0[21]? = some (0, 8, []) := rfl
theorem sh_22 : mS0[22]? = some (5, 0, [25, 26, 0, 0, 0, 0]) := rfl
theorem sh_23 : mS0[23]? = some (0, 420, []) := rfl
theorem sh_24 : mS0[24]? = some (0, 3, []) := rfl
theorem sh_25 : mS0[25]? = some (0, 8, []) := rfl
theorem sh_26 : mS0[26]? = some (0, 8, []) := rfl
theorem sh_27 : mS0[27]? = some (0, 8, []) := rfl
theorem sh_28 : mS0[28]? = some (0, 4, []) := rfl
theorem sh_29 : mS0[29]? = some (0, 8, []) := rfl
theorem sh_30 : mS0[30]? = some (0, 8, []) := rfl
theorem sh_31 : mS0[31]? = some (0, 8, []) := rfl
theorem sh_32 : mS0[32]? = some (0, 8, []) := rfl
theorem sh_33 : mS0[33]? = some (0, 8, []) := rfl
theorem sh_34 : mS0[34]? = some (0, 8, []) := rfl
theorem sh_35 : mS0[35]? = some (5, 8, [38, 40, 49, 52, 53, 54, 55, 56, 57, 58, 59, 60, 61, 0, 0, 0, 0, 0, 0]) := rfl
theorem sh_36 : mS0[36]? = some (5, 2, [39]) := rfl
theorem sh_37 : mS0[37]? = some (3, 20, []) := rfl
theorem sh_38 : mS0[38]? = some (5, 4, [41, 42, 43, 44, 45, 46, 47, 48, 0]) := rfl
theorem sh_39 : mS0[39]? = some (0, 40, []) := rfl
theorem sh_40 : mS0[40]? = some (0, 40, []) := rfl
theorem sh_41 : mS0[41]? = some (0, 40, []) := rfl
theorem sh_42 : mS0[42]? = some (0, 40, []) := rfl
theorem sh_43 : mS0[43]? = some (0, 40, []) := rfl
theorem sh_44 : mS0[44]? = some (2, 40, []) := rfl
theorem sh_45 : mS0[45]? = some (0, 40, []) := rfl
theorem sh_46 : mS0[46]? = some (0, 8, []) := rfl
theorem sh_47 : mS0[47]? = some (5, 0, [50, 51, 0, 0, 0, 0]) := rfl
theorem sh_48 : mS0[48]? = some (0, 420, []) := rfl
theorem sh_49 : mS0[49]? = some (0, 3, []) := rfl
theorem sh_50 : mS0[50]? = some (0, 8, []) := rfl
theorem sh_51 : mS0[51]? = some (0, 8, []) := rfl
theorem sh_52 : mS0[52]? = some (0, 8, []) := rfl
theorem sh_53 : mS0[53]? = some (0, 4, []) := rfl
theorem sh_54 : mS0[54]? = some (0, 8, []) := rfl
theorem sh_55 : mS0[55]? = some (0, 8, []) := rfl
theorem sh_56 : mS0[56]? = some (0, 8, []) := rfl
theorem sh_57 : mS0[57]? = some (0, 8, []) := rfl
theorem sh_58 : mS0[58]? = some (0, 8, []) := rfl
theorem sh_59 : mS0[59]? = some (0, 8, []) := rfl
theorem sh_60 : mS0[60]? = some (4, 3, [91, 116, 141]) := rfl
theorem sh_61 : mS0[61]? = some (5, 5, [64, 65, 66, 67, 68, 69, 0]) := rfl
theorem sh_62 : mS0[62]? = some (0, 8, []) := rfl
theorem sh_63 : mS0[63]? = some (0, 8, []) := rfl
theorem sh_64 : mS0[64]? = some (0, 8, []) := rfl
theorem sh_65 : mS0[65]? = some (0, 8, []) := rfl
theorem sh_66 : mS0[66]? = some (0, 8, []) := rfl
theorem sh_67 : mS0[67]? = some (0, 8, []) := rfl
theorem sh_68 : mS0[68]? = some (5, 3, [71, 72, 73, 74, 0]) := rfl
theorem sh_69 : mS0[69]? = some (0, 256, []) := rfl
theorem sh_70 : mS0[70]? = some (0, 256, []) := rfl
theorem sh_71 : mS0[71]? = some (0, 64, []) := rfl
theorem sh_72 : mS0[72]? = some (0, 8, []) := rfl
theorem sh_73 : mS0[73]? = some (5, 1, [76, 83, 0, 0, 0, 0, 0, 0, 0]) := rfl
theorem sh_74 : mS0[74]? = some (5, 5, [77, 78, 79, 80, 81, 82, 0]) := rfl
theorem sh_75 : mS0[75]? = some (0, 8, []) := rfl
theorem sh_76 : mS0[76]? = some (0, 8, []) := rfl
theorem sh_77 : mS0[77]? = some (0, 8, []) := rfl
theorem sh_78 : mS0[78]? = some (0, 8, []) := rfl
theorem sh_79 : mS0[79]? = some (0, 8, []) := rfl
theorem sh_80 : mS0[80]? = some (0, 8, []) := rfl
theorem sh_81 : mS0[81]? = some (0, 60, []) := rfl
theorem sh_82 : mS0[82]? = some (5, 1, [85, 92, 0, 0, 0, 0, 0, 0, 0]) := rfl
theorem sh_83 : mS0[83]? = some (5, 5, [86, 87, 88, 89, 90, 91, 0]) := rfl
theorem sh_84 : mS0[84]? = some (0, 8, []) := rfl
theorem sh_85 : mS0[85]? = some (0, 8, []) := rfl
theorem sh_86 : mS0[86]? = some (0, 8, []) := rfl
theorem sh_87 : mS0[87]? = some (0, 8, []) := rfl
theorem sh_88 : mS0[88]? = some (0, 8, []) := rfl
theorem sh_89 : mS0[89]? = some (0, 8, []) := rfl
theorem sh_90 : mS0[90]? = some (0, 60, []) := rfl
theorem sh_91 : mS0[91]? = some (5, 8, [94, 96, 105, 108, 109, 110, 111, 112, 113, 114, 115, 116, 117, 0, 0, 0, 0, 0, 0]) := rfl
theorem sh_92 : mS0[92]? = some (5, 2, [95]) := rfl
theorem sh_93 : mS0[93]? = some (3, 20, []) := rfl
theorem sh_94 : mS0[94]? = some (5, 4, [97, 98, 99, 100, 101, 102, 103, 104, 0]) := rfl
theorem sh_95 : mS0[95]? = some (0, 40, []) := rfl
theorem sh_96 : mS0[96]? = some (0, 40, []) := rfl
theorem sh_97 : mS0[97]? = some (0, 40, []) := rfl
theorem sh_98 : mS0[98]? = some (0, 40, []) := rfl
theorem sh_99 : mS0[99]? = some (0, 40, []) := rfl
theorem sh_100 : mS0[100]? = some (2, 40, []) := rfl
theorem sh_101 : mS0[101]? = some (0, 40, []) := rfl
theorem sh_102 : mS0[102]? = some (0, 8, []) := rfl
theorem sh_103 : mS0[103]? = some (5, 0, [106, 107, 0, 0, 0, 0]) := rfl
theorem sh_104 : mS0[104]? = some (0, 420, []) := rfl
theorem sh_105 : mS0[105]? = some (0, 3, []) := rfl
theorem sh_106 : mS0[106]? = some (0, 8, []) := rfl
theorem sh_107 : mS0[107]? = some (0, 8, []) := rfl
theorem sh_108 : mS0[108]? = some (0, 8, []) := rfl
theorem sh_109 : mS0[109]? = some (0, 4, []) := rfl
theorem sh_110 : mS0[110]? = some (0, 8, []) := rfl
theorem sh_111 : mS0[111]? = some (0, 8, []) := rfl
theorem sh_112 : mS0[112]? = some (0, 8, []) := rfl
theorem sh_113 : mS0[113]? = some (0, 8, []) := rfl
theorem sh_114 : mS0[114]? = some (0, 8, []) := rfl
theorem sh_115 : mS0[115]? = some (0, 8, []) := rfl
theorem sh_116 : mS0[116]? = some (5, 8, [119, 121, 130, 133, 134, 135, 136, 137, 138, 139, 140, 141, 142, 0, 0, 0, 0, 0, 0]) := rfl
theorem sh_117 : mS0[117]? = some (5, 2, [120]) := rfl
theorem sh_118 : mS0[118]? = some (3, 20, []) := rfl
theorem sh_119 : mS0[119]? = some (5, 4, [122, 123, 124, 125, 126, 127, 128, 129, 0]) := rfl
theorem sh_120 : mS0[120]? = some (0, 40, []) := rfl
theorem sh_121 : mS0[121]? = some (0, 40, []) := rfl
theorem sh_122 : mS0[122]? = some (0, 40, []) := rfl
theorem sh_123 : mS0[123]? = some (0, 40, []) := rfl
theorem sh_124 : mS0[124]? = some (0, 40, []) := rfl
theorem sh_125 : mS0[125]? = some (2, 40, []) := rfl
theorem sh_126 : mS0[126]? = some (0, 40, []) := rfl
theorem sh_127 : mS0[127]? = some (0, 8, []) := rfl
theorem sh_128 : mS0[128]? = some (5, 0, [131, 132, 0, 0, 0, 0]) := rfl
theorem sh_129 : mS0[129]? = some (0, 420, []) := rfl
theorem sh_130 : mS0[130]? = some (0, 3, []) := rfl
theorem sh_131 : mS0[131]? = some (0, 8, []) := rfl
theorem sh_132 : mS0[132]? = some (0, 8, []) := rfl
theorem sh_133 : mS0[133]? = some (0, 8, []) := rfl
theorem sh_134 : mS0[134]? = some (0, 4, []) := rfl
theorem sh_135 : mS0[135]? = some (0, 8, []) := rfl
theorem sh_136 : mS0[136]? = some (0, 8, []) := rfl
theorem sh_137 : mS0[137]? = some (0, 8, []) := rfl
theorem sh_138 : mS0[138]? = some (0, 8, []) := rfl
theorem sh_139 : mS0[139]? = some (0, 8, []) := rfl
theorem sh_140 : mS0[140]? = some (0, 8, []) := rfl
theorem sh_141 : mS0[141]? = some (5, 8, [144, 146, 155, 158, 159, 160, 161, 162, 163, 164, 165, 166, 167, 0, 0, 0, 0, 0, 0]) := rfl
theorem sh_142 : mS0[142]? = some (5, 2, [145]) := rfl
theorem sh_143 : mS0[143]? = some (3, 20, []) := rfl
theorem sh_144 : mS0[144]? = some (5, 4, [147, 148, 149, 150, 151, 152, 153, 154, 0]) := rfl
theorem sh_145 : mS0[145]? = some (0, 40, []) := rfl
theorem sh_146 : mS0[146]? = some (0, 40, []) := rfl
theorem sh_147 : mS0[147]? = some (0, 40, []) := rfl
theorem sh_148 : mS0[148]? = some (0, 40, []) := rfl
theorem sh_149 : mS0[149]? = some (0, 40, []) := rfl
theorem sh_150 : mS0[150]? = some (2, 40, []) := rfl
theorem sh_151 : mS0[151]? = some (0, 40, []) := rfl
theorem sh_152 : mS0[152]? = some (0, 8, []) := rfl
theorem sh_153 : mS0[153]? = some (5, 0, [156, 157, 0, 0, 0, 0]) := rfl
theorem sh_154 : mS0[154]? = some (0, 420, []) := rfl
theorem sh_155 : mS0[155]? = some (0, 3, []) := rfl
theorem sh_156 : mS0[156]? = some (0, 8, []) := rfl
theorem sh_157 : mS0[157]? = some (0, 8, []) := rfl
theorem sh_158 : mS0[158]? = some (0, 8, []) := rfl
theorem sh_159 : mS0[159]? = some (0, 4, []) := rfl
theorem sh_160 : mS0[160]? = some (0, 8, []) := rfl
theorem sh_161 : mS0[161]? = some (0, 8, []) := rfl
theorem sh_162 : mS0[162]? = some (0, 8, []) := rfl
theorem sh_163 : mS0[163]? = some (0, 8, []) := rfl
theorem sh_164 : mS0[164]? = some (0, 8, []) := rfl
theorem sh_165 : mS0[165]? = some (0, 8, []) := rfl
theorem sh_166 : mS0[166]? = some (5, 11, [0, 0, 1, 1, 169, 170, 171, 172, 0, 0, 0, 0, 0, 0, 0, 0, 0, 0, 0, 1, 173, 174, 175, 0, 0, 176, 177, 178, 0, 179, 180, 181, 182, 0, 183, 184, 185, 0, 0, 0, 0, 0, 0, 0, 0, 0]) := rfl
theorem sh_167 : mS0[167]? = some (0, 4, []) := rfl
theorem sh_168 : mS0[168]? = some (0, 4, []) := rfl
theorem sh_169 : mS0[169]? = some (3, 240, []) := rfl
theorem sh_170 : mS0[170]? = some (1, 900, []) := rfl
theorem sh_171 : mS0[171]? = some (0, 3000, []) := rfl
theorem sh_172 : mS0[172]? = some (0, 322, []) := rfl
theorem sh_173 : mS0[173]? = some (3, 100, []) := rfl
theorem sh_174 : mS0[174]? = some (0, 40, []) := rfl
theorem sh_175 : mS0[175]? = some (0, 8, []) := rfl
theorem sh_176 : mS0[176]? = some (0, 8, []) := rfl
theorem sh_177 : mS0[177]? = some (0, 256, []) := rfl
theorem sh_178 : mS0[178]? = some (0, 256, []) := rfl
theorem sh_179 : mS0[179]? = some (0, 8, []) := rfl
theorem sh_180 : mS0[180]? = some (0, 8, []) := rfl
theorem sh_181 : mS0[181]? = some (0, 42, []) := rfl
theorem sh_182 : mS0[182]? = some (0, 42, []) := rfl
theorem sh_183 : mS0[183]? = some (0, 5, []) := rfl
theorem rz0_11 : mRz 0 11 = some (.inl (0, 0)) := rfl
theorem rz0_15 : mRz 0 15 = some (.inl (0, 1)) := rfl
theorem rz0_18 : mRz 0 18 = some (.inl (0, 2)) := rfl
theorem rz0_22 : mRz 0 22 = some (.inl (0, 3)) := rfl
theorem rz0_25 : mRz 0 25 = some (.inl (0, 4)) := rfl
theorem rz0_28 : mRz 0 28 = some (.inl (0, 5)) := rfl
theorem rz0_32 : mRz 0 32 = some (.inr (.inr (.inr (.inr 0)))) := rfl
theorem rz0_40 : mRz 0 40 = some (.inr (.inl (false, mDa_add, 2))) := rfl
theorem rz1_12 : mRz 1 12 = some (.inl (1, 0)) := rfl
theorem rz1_20 : mRz 1 20 = some (.inl (1, 1)) := rfl
theorem rz1_24 : mRz 1 24 = some (.inl (1, 2)) := rfl
theorem rz1_28 : mRz 1 28 = some (.inl (1, 3)) := rfl
theorem rz1_31 : mRz 1 31 = some (.inl (1, 4)) := rfl
theorem rz1_34 : mRz 1 34 = some (.inl (1, 5)) := rfl
theorem rz1_37 : mRz 1 37 = some (.inl (1, 6)) := rfl
theorem rz1_40 : mRz 1 40 = some (.inl (1, 7)) := rfl
theorem rz1_43 : mRz 1 43 = some (.inl (1, 8)) := rfl
theorem rz1_47 : mRz 1 47 = some (.inr (.inr (.inl (1000000)))) := rfl
theorem rz1_48 : mRz 1 48 = some (.inl (8, 2)) := rfl
theorem rz1_54 : mRz 1 54 = some (.inl (0, 3)) := rfl
theorem rz1_57 : mRz 1 57 = some (.inr (.inl (false, mLi_goOn, 2))) := rfl
theorem rz1_61 : mRz 1 61 = some (.inr (.inl (false, mDa_cell, 2))) := rfl
theorem rz1_67 : mRz 1 67 = some (.inr (.inl (false, mLi_behindEnd, 2))) := rfl
theorem rz1_71 : mRz 1 71 = some (.inr (.inl (true, mLi_isTrue, 2))) := rfl
theorem rz1_75 : mRz 1 75 = some (.inr (.inl (false, mLi_isDone, 3))) := rfl
theorem rz1_79 : mRz 1 79 = some (.inl (8, 16)) := rfl
theorem rz1_82 : mRz 1 82 = some (.inr (.inl (true, mLi_compares, 3))) := rfl
theorem rz1_86 : mRz 1 86 = some (.inr (.inl (false, mTw_hasPerson, 1))) := rfl
theorem rz1_90 : mRz 1 90 = some (.inl (8, 4)) := rfl
theorem rz1_93 : mRz 1 93 = some (.inr (.inl (false, mTw_isBaked, 1))) := rfl
theorem rz1_96 : mRz 1 96 = some (.inr (.inl (false, mTw_isWet, 1))) := rfl
theorem rz1_99 : mRz 1 99 = some (.inr (.inl (false, mTw_handOn, 5))) := rfl
theorem rz1_103 : mRz 1 103 = some (.inr (.inl (false, mTw_release, 1))) := rfl
theorem rz1_106 : mRz 1 106 = some (.inr (.inl (false, mLi_hasBaked, 2))) := rfl
theorem rz1_109 : mRz 1 109 = some (.inr (.inl (false, mLi_hasWaited, 2))) := rfl
theorem rz1_112 : mRz 1 112 = some (.inr (.inl (false, mTw_feast, 2))) := rfl
theorem rz1_115 : mRz 1 115 = some (.inr (.inl (false, mTw_handMoney, 3))) := rfl
theorem rz1_118 : mRz 1 118 = some (.inr (.inl (false, mTw_canBake, 1))) := rfl
theorem rz1_121 : mRz 1 121 = some (.inr (.inl (false, mTw_rainsOn, 1))) := rfl
theorem rz1_124 : mRz 1 124 = some (.inr (.inl (false, mSh_settle, 3))) := rfl
theorem rz1_128 : mRz 1 128 = some (.inr (.inl (false, mTw_bringOut, 2))) := rfl
theorem rz1_132 : mRz 1 132 = some (.inl (8, 18)) := rfl
theorem rz1_135 : mRz 1 135 = some (.inl (8, 14)) := rfl
theorem rz1_138 : mRz 1 138 = some (.inr (.inl (false, mLi_nextDraw, 0))) := rfl
theorem rz1_142 : mRz 1 142 = some (.inl (8, 6)) := rfl
theorem rz1_145 : mRz 1 145 = some (.inr (.inr (.inl (65536)))) := rfl
theorem rz2_9 : mRz 2 9 = some (.inl (2, 0)) := rfl
theorem rz2_15 : mRz 2 15 = some (.inr (.inl (true, mAr_filll, 2))) := rfl
theorem rz2_21 : mRz 2 21 = some (.inr (.inr (.inr (.inr 0)))) := rfl
theorem rz2_27 : mRz 2 27 = some (.inr (.inr (.inr (.inr 1)))) := rfl
theorem rz3_11 : mRz 3 11 = some (.inl (3, 0)) := rfl
theorem rz3_15 : mRz 3 15 = some (.inl (3, 1)) := rfl
theorem rz3_18 : mRz 3 18 = some (.inl (3, 2)) := rfl
theorem rz3_21 : mRz 3 21 = some (.inl (3, 3)) := rfl
theorem rz3_24 : mRz 3 24 = some (.inl (8, 13)) := rfl
theorem rz3_30 : mRz 3 30 = some (.inl (8, 1)) := rfl
theorem rz3_34 : mRz 3 34 = some (.inr (.inl (false, mPr_surplus, 1))) := rfl
theorem rz3_40 : mRz 3 40 = some (.inr (.inr (.inr (.inr 2)))) := rfl
theorem rz3_46 : mRz 3 46 = some (.inr (.inl (false, mNe_measure, 1))) := rfl
theorem rz3_50 : mRz 3 50 = some (.inl (4, 8)) := rfl
theorem rz3_53 : mRz 3 53 = some (.inr (.inl (false, mPr_stands, 1))) := rfl
theorem rz3_57 : mRz 3 57 = some (.inl (4, 3)) := rfl
theorem rz3_60 : mRz 3 60 = some (.inl (4, 2)) := rfl
theorem rz3_63 : mRz 3 63 = some (.inr (.inl (false, mNe_way, 2))) := rfl
theorem rz3_66 : mRz 3 66 = some (.inr (.inl (false, mNe_nextOnWay, 4))) := rfl
theorem rz3_70 : mRz 3 70 = some (.inl (3, 4)) := rfl
theorem rz3_73 : mRz 3 73 = some (.inr (.inl (true, mAr_fill, 2))) := rfl
theorem rz4_9 : mRz 4 9 = some (.inl (4, 0)) := rfl
theorem rz4_15 : mRz 4 15 = some (.inl (4, 1)) := rfl
theorem rz4_18 : mRz 4 18 = some (.inl (4, 2)) := rfl
theorem rz4_21 : mRz 4 21 = some (.inl (4, 3)) := rfl
theorem rz4_24 : mRz 4 24 = some (.inl (4, 4)) := rfl
theorem rz4_27 : mRz 4 27 = some (.inl (4, 5)) := rfl
theorem rz4_31 : mRz 4 31 = some (.inl (4, 6)) := rfl
theorem rz4_34 : mRz 4 34 = some (.inl (4, 7)) := rfl
theorem rz4_37 : mRz 4 37 = some (.inl (4, 8)) := rfl
theorem rz4_41 : mRz 4 41 = some (.inr (.inr (.inr (.inr 0)))) := rfl
theorem rz4_47 : mRz 4 47 = some (.inr (.inl (false, mPr_has, 1))) := rfl
theorem rz4_51 : mRz 4 51 = some (.inr (.inl (true, mAr_fill, 2))) := rfl
theorem rz4_57 : mRz 4 57 = some (.inr (.inr (.inr (.inr 2)))) := rfl
theorem rz4_63 : mRz 4 63 = some (.inr (.inl (false, mPr_stands, 1))) := rfl
theorem rz5_9 : mRz 5 9 = some (.inl (5, 0)) := rfl
theorem rz5_15 : mRz 5 15 = some (.inl (5, 1)) := rfl
theorem rz5_18 : mRz 5 18 = some (.inl (5, 2)) := rfl
theorem rz5_21 : mRz 5 21 = some (.inl (5, 3)) := rfl
theorem rz5_24 : mRz 5 24 = some (.inl (5, 4)) := rfl
theorem rz5_27 : mRz 5 27 = some (.inl (5, 5)) := rfl
theorem rz5_30 : mRz 5 30 = some (.inr (.inl (true, mAr_fill, 2))) := rfl
theorem rz5_36 : mRz 5 36 = some (.inl (5, 6)) := rfl
theorem rz5_40 : mRz 5 40 = some (.inr (.inl (false, mTw_hasLoaf, 1))) := rfl
theorem rz5_46 : mRz 5 46 = some (.inl (8, 7)) := rfl
theorem rz5_49 : mRz 5 49 = some (.inl (8, 10)) := rfl
theorem rz5_52 : mRz 5 52 = some (.inl (8, 1)) := rfl
theorem rz5_56 : mRz 5 56 = some (.inl (4, 8)) := rfl
theorem rz5_61 : mRz 5 61 = some (.inl (4, 5)) := rfl
theorem rz5_65 : mRz 5 65 = some (.inl (4, 1)) := rfl
theorem rz5_68 : mRz 5 68 = some (.inl (4, 2)) := rfl
theorem rz5_71 : mRz 5 71 = some (.inl (4, 0)) := rfl
theorem rz5_72 : mRz 5 72 = some (.inl (4, 3)) := rfl
theorem rz5_75 : mRz 5 75 = some (.inr (.inr (.inr (.inr 3)))) := rfl
theorem rz5_81 : mRz 5 81 = some (.inr (.inl (false, mSh_lineUp, 0))) := rfl
theorem rz5_84 : mRz 5 84 = some (.inr (.inl (false, mSh_weigh, 2))) := rfl
theorem rz5_88 : mRz 5 88 = some (.inr (.inl (false, mTw_comesOf, 2))) := rfl
theorem rz5_92 : mRz 5 92 = some (.inr (.inl (false, mSh_deal, 1))) := rfl
theorem rz5_96 : mRz 5 96 = some (.inr (.inl (false, mTw_bakerOf, 1))) := rfl
theorem rz5_100 : mRz 5 100 = some (.inr (.inr (.inr (.inr 2)))) := rfl
theorem rz5_103 : mRz 5 103 = some (.inr (.inl (false, mTw_hasPerson, 1))) := rfl
theorem rz5_106 : mRz 5 106 = some (.inl (8, 15)) := rfl
theorem rz5_109 : mRz 5 109 = some (.inr (.inl (false, mTw_isPaper, 1))) := rfl
theorem rz5_112 : mRz 5 112 = some (.inr (.inl (false, mTw_isBaked, 1))) := rfl
theorem rz5_115 : mRz 5 115 = some (.inr (.inl (false, mSh_gathered, 1))) := rfl
theorem rz5_118 : mRz 5 118 = some (.inr (.inl (false, mTw_flourOf, 1))) := rfl
theorem rz6_12 : mRz 6 12 = some (.inl (6, 0)) := rfl
theorem rz6_20 : mRz 6 20 = some (.inl (6, 1)) := rfl
theorem rz6_24 : mRz 6 24 = some (.inr (.inl (false, mTw_clear, 0))) := rfl
theorem rz6_29 : mRz 6 29 = some (.inr (.inl (false, mTo_open, 1))) := rfl
theorem rz6_33 : mRz 6 33 = some (.inr (.inl (false, mTo_goesOn, 0))) := rfl
theorem rz6_37 : mRz 6 37 = some (.inr (.inl (false, mTo_wordHere, 0))) := rfl
theorem rz6_41 : mRz 6 41 = some (.inr (.inl (false, mTe_readPerson, 1))) := rfl
theorem rz6_45 : mRz 6 45 = some (.inr (.inl (false, mTe_readOven, 1))) := rfl
theorem rz6_48 : mRz 6 48 = some (.inr (.inl (false, mTe_readLoaf, 1))) := rfl
theorem rz6_51 : mRz 6 51 = some (.inr (.inl (false, mTe_readTownPromise, 1))) := rfl
theorem rz6_54 : mRz 6 54 = some (.inr (.inl (false, mTo_misplaced, 0))) := rfl
theorem rz6_57 : mRz 6 57 = some (.inl (7, 9)) := rfl
theorem rz6_61 : mRz 6 61 = some (.inr (.inl (false, mTo_blame, 1))) := rfl
theorem rz6_64 : mRz 6 64 = some (.inr (.inl (false, mTo_takeWord, 1))) := rfl
theorem rz6_67 : mRz 6 67 = some (.inr (.inl (false, mTo_takeSign, 1))) := rfl
theorem rz6_70 : mRz 6 70 = some (.inl (8, 13)) := rfl
theorem rz6_73 : mRz 6 73 = some (.inr (.inl (false, mTe_beginPart, 2))) := rfl
theorem rz6_77 : mRz 6 77 = some (.inl (8, 0)) := rfl
theorem rz6_81 : mRz 6 81 = some (.inr (.inl (false, mTo_takeNewName, 1))) := rfl
theorem rz6_85 : mRz 6 85 = some (.inr (.inl (false, mTo_skips, 1))) := rfl
theorem rz6_89 : mRz 6 89 = some (.inr (.inl (false, mTo_takeNumber, 2))) := rfl
theorem rz6_93 : mRz 6 93 = some (.inr (.inl (false, mTe_endsPart, 0))) := rfl
theorem rz6_96 : mRz 6 96 = some (.inr (.inl (false, mTw_addPerson, 2))) := rfl
theorem rz6_100 : mRz 6 100 = some (.inl (8, 14)) := rfl
theorem rz6_103 : mRz 6 103 = some (.inr (.inl (false, mTw_addOven, 2))) := rfl
theorem rz6_106 : mRz 6 106 = some (.inl (8, 15)) := rfl
theorem rz6_111 : mRz 6 111 = some (.inr (.inl (false, mTo_takeName, 3))) := rfl
theorem rz6_115 : mRz 6 115 = some (.inr (.inl (false, mTw_addLoaf, 6))) := rfl
theorem rz6_119 : mRz 6 119 = some (.inl (8, 1)) := rfl
theorem rz6_123 : mRz 6 123 = some (.inl (4, 8)) := rfl
theorem rz6_128 : mRz 6 128 = some (.inr (.inl (false, mTe_readPromise, 1))) := rfl
theorem rz6_132 : mRz 6 132 = some (.inr (.inl (false, mTw_handOn, 5))) := rfl
theorem rz6_136 : mRz 6 136 = some (.inr (.inl (false, mDa_clear, 0))) := rfl
theorem rz6_137 : mRz 6 137 = some (.inr (.inl (true, mAr_fill, 2))) := rfl
theorem rz6_143 : mRz 6 143 = some (.inr (.inl (false, mTe_readEnd, 1))) := rfl
theorem rz6_147 : mRz 6 147 = some (.inr (.inl (false, mTe_mayStepHere, 2))) := rfl
theorem rz6_151 : mRz 6 151 = some (.inr (.inl (false, mTe_readStep, 2))) := rfl
theorem rz6_155 : mRz 6 155 = some (.inr (.inl (false, mTe_addStep, 2))) := rfl
theorem rz6_159 : mRz 6 159 = some (.inl (0, 2)) := rfl
theorem rz6_162 : mRz 6 162 = some (.inl (0, 5)) := rfl
theorem rz6_166 : mRz 6 166 = some (.inr (.inl (false, mDa_close, 1))) := rfl
theorem rz6_170 : mRz 6 170 = some (.inr (.inl (true, mTe_isStep, 1))) := rfl
theorem rz6_173 : mRz 6 173 = some (.inl (0, 4)) := rfl
theorem rz6_176 : mRz 6 176 = some (.inr (.inl (true, mTe_begins, 1))) := rfl
theorem rz6_179 : mRz 6 179 = some (.inr (.inl (false, mDa_add, 2))) := rfl
theorem rz6_183 : mRz 6 183 = some (.inr (.inl (false, mDa_begin, 0))) := rfl
theorem rz6_186 : mRz 6 186 = some (.inr (.inl (false, mTe_readTest, 1))) := rfl
theorem rz6_189 : mRz 6 189 = some (.inr (.inl (false, mTo_takeCompares, 0))) := rfl
theorem rz7_9 : mRz 7 9 = some (.inl (7, 0)) := rfl
theorem rz7_15 : mRz 7 15 = some (.inl (7, 1)) := rfl
theorem rz7_31 : mRz 7 31 = some (.inr (.inr (.inr (.inl (32))))) := rfl
theorem rz7_33 : mRz 7 33 = some (.inl (7, 2)) := rfl
theorem rz7_37 : mRz 7 37 = some (.inr (.inl (false, mTo_hasRoomFor, 1))) := rfl
theorem rz7_41 : mRz 7 41 = some (.inr (.inr (.inr (.inr 3)))) := rfl
theorem rz7_47 : mRz 7 47 = some (.inr (.inr (.inr (.inr 2)))) := rfl
theorem rz7_50 : mRz 7 50 = some (.inl (7, 3)) := rfl
theorem rz7_52 : mRz 7 52 = some (.inl (7, 6)) := rfl
theorem rz7_55 : mRz 7 55 = some (.inl (7, 9)) := rfl
theorem rz7_58 : mRz 7 58 = some (.inl (7, 10)) := rfl
theorem rz7_61 : mRz 7 61 = some (.inr (.inl (false, mTo_advance, 0))) := rfl
theorem rz7_64 : mRz 7 64 = some (.inl (7, 5)) := rfl
theorem rz7_67 : mRz 7 67 = some (.inl (7, 8)) := rfl
theorem rz7_71 : mRz 7 71 = some (.inl (7, 4)) := rfl
theorem rz7_74 : mRz 7 74 = some (.inr (.inl (false, mTo_cutWord, 0))) := rfl
theorem rz7_77 : mRz 7 77 = some (.inr (.inl (false, mTo_cutNumber, 0))) := rfl
theorem rz7_80 : mRz 7 80 = some (.inl (7, 7)) := rfl
theorem rz7_83 : mRz 7 83 = some (.inr (.inl (false, mTo_blame, 1))) := rfl
theorem rz7_87 : mRz 7 87 = some (.inr (.inl (false, mTo_isWord, 1))) := rfl
theorem rz7_90 : mRz 7 90 = some (.inr (.inl (false, mTo_misplaced, 0))) := rfl
theorem rz7_93 : mRz 7 93 = some (.inr (.inl (false, mTo_wordHere, 0))) := rfl
theorem rz7_96 : mRz 7 96 = some (.inr (.inl (false, mTo_seesName, 0))) := rfl
theorem rz7_100 : mRz 7 100 = some (.inr (.inl (false, mNa_isTaken, 1))) := rfl
theorem rz7_106 : mRz 7 106 = some (.inr (.inl (false, mNa_numberOf, 2))) := rfl
theorem rz8_12 : mRz 8 12 = some (.inl (8, 0)) := rfl
theorem rz8_21 : mRz 8 21 = some (.inl (8, 1)) := rfl
theorem rz8_28 : mRz 8 28 = some (.inl (8, 2)) := rfl
theorem rz8_32 : mRz 8 32 = some (.inl (8, 3)) := rfl
theorem rz8_36 : mRz 8 36 = some (.inl (8, 4)) := rfl
theorem rz8_39 : mRz 8 39 = some (.inl (8, 5)) := rfl
theorem rz8_42 : mRz 8 42 = some (.inl (8, 6)) := rfl
theorem rz8_45 : mRz 8 45 = some (.inl (8, 7)) := rfl
theorem rz8_48 : mRz 8 48 = some (.inl (8, 8)) := rfl
theorem rz8_51 : mRz 8 51 = some (.inl (8, 9)) := rfl
theorem rz8_54 : mRz 8 54 = some (.inl (8, 10)) := rfl
theorem rz8_57 : mRz 8 57 = some (.inl (8, 11)) := rfl
theorem rz8_60 : mRz 8 60 = some (.inl (8, 12)) := rfl
theorem rz8_63 : mRz 8 63 = some (.inr (.inl (false, mNa_clear, 0))) := rfl
theorem rz8_66 : mRz 8 66 = some (.inl (4, 8)) := rfl
theorem rz8_70 : mRz 8 70 = some (.inr (.inl (false, mDa_clear, 0))) := rfl
theorem rz8_71 : mRz 8 71 = some (.inl (8, 13)) := rfl
theorem rz8_74 : mRz 8 74 = some (.inl (8, 14)) := rfl
theorem rz8_77 : mRz 8 77 = some (.inl (8, 15)) := rfl
theorem rz8_80 : mRz 8 80 = some (.inl (8, 16)) := rfl
theorem rz8_83 : mRz 8 83 = some (.inl (8, 17)) := rfl
theorem rz8_86 : mRz 8 86 = some (.inl (8, 18)) := rfl
theorem rz8_89 : mRz 8 89 = some (.inr (.inl (false, mNa_copyOf, 1))) := rfl
theorem rz8_93 : mRz 8 93 = some (.inr (.inl (false, mPr_copyOf, 1))) := rfl
theorem rz8_96 : mRz 8 96 = some (.inr (.inl (false, mDa_copyOf, 1))) := rfl
theorem rz8_99 : mRz 8 99 = some (.inr (.inr (.inr (.inr 0)))) := rfl
theorem rz8_105 : mRz 8 105 = some (.inr (.inl (false, mNa_give, 3))) := rfl
theorem rz8_109 : mRz 8 109 = some (.inr (.inl (false, mTw_hasPerson, 1))) := rfl
theorem rz8_113 : mRz 8 113 = some (.inr (.inl (false, mTw_hasLoaf, 1))) := rfl
theorem rz8_116 : mRz 8 116 = some (.inr (.inl (false, mPr_hasRoom, 0))) := rfl
theorem rz8_120 : mRz 8 120 = some (.inl (4, 0)) := rfl
theorem rz8_121 : mRz 8 121 = some (.inl (4, 1)) := rfl
theorem rz8_124 : mRz 8 124 = some (.inl (4, 2)) := rfl
theorem rz8_127 : mRz 8 127 = some (.inl (4, 3)) := rfl
theorem rz8_130 : mRz 8 130 = some (.inl (4, 4)) := rfl
theorem rz8_133 : mRz 8 133 = some (.inl (4, 5)) := rfl
theorem rz8_137 : mRz 8 137 = some (.inr (.inl (false, mPr_stands, 1))) := rfl
theorem rz8_140 : mRz 8 140 = some (.inr (.inl (false, mTw_isBaked, 1))) := rfl
theorem rz8_143 : mRz 8 143 = some (.inr (.inl (false, mTw_isPaper, 1))) := rfl
theorem rz8_146 : mRz 8 146 = some (.inr (.inl (false, mTw_isWet, 1))) := rfl
theorem rz8_149 : mRz 8 149 = some (.inl (5, 3)) := rfl
theorem rz8_154 : mRz 8 154 = some (.inl (5, 4)) := rfl
theorem rz8_157 : mRz 8 157 = some (.inr (.inl (false, mTw_rainsOn, 1))) := rfl
theorem rz8_160 : mRz 8 160 = some (.inr (.inl (false, mTw_comesOf, 2))) := rfl
theorem rz8_164 : mRz 8 164 = some (.inr (.inr (.inr (.inr 3)))) := rfl
theorem rz9_11 : mRz 9 11 = some (.inl (9, 0)) := rfl
theorem rz9_15 : mRz 9 15 = some (.inl (9, 1)) := rfl
theorem rz9_19 : mRz 9 19 = some (.inl (9, 2)) := rfl
theorem rz9_22 : mRz 9 22 = some (.inr (.inl (true, mAr_fill, 2))) := rfl
theorem rz9_28 : mRz 9 28 = some (.inr (.inl (false, mTr_exists, 1))) := rfl
theorem rz9_32 : mRz 9 32 = some (.inr (.inl (false, mTr_isMissing, 1))) := rfl
theorem rz9_35 : mRz 9 35 = some (.inr (.inl (false, mTr_lengthOf, 1))) := rfl
theorem rz9_39 : mRz 9 39 = some (.inr (.inl (false, mTr_hasRow, 3))) := rfl
theorem rz9_43 : mRz 9 43 = some (.inr (.inl (true, mTr_cutTo, 2))) := rfl
theorem rz9_47 : mRz 9 47 = some (.inr (.inr (.inr (.inr 0)))) := rfl
theorem rz9_53 : mRz 9 53 = some (.inr (.inl (false, mTr_at, 2))) := rfl
theorem rz10_10 : mRz 10 10 = some (.inl (10, 0)) := rfl
theorem rz10_19 : mRz 10 19 = some (.inl (10, 1)) := rfl
theorem rz10_26 : mRz 10 26 = some (.inl (10, 2)) := rfl
theorem rz10_30 : mRz 10 30 = some (.inl (10, 3)) := rfl
theorem rz10_33 : mRz 10 33 = some (.inl (10, 4)) := rfl
theorem rz10_40 : mRz 10 40 = some (.inl (10, 5)) := rfl
theorem rz10_47 : mRz 10 47 = some (.inl (10, 6)) := rfl
theorem rz10_54 : mRz 10 54 = some (.inl (10, 7)) := rfl
theorem rz10_58 : mRz 10 58 = some (.inl (10, 8)) := rfl
theorem rz10_61 : mRz 10 61 = some (.inl (10, 12)) := rfl
theorem rz10_65 : mRz 10 65 = some (.inl (10, 13)) := rfl
theorem rz10_69 : mRz 10 69 = some (.inl (10, 14)) := rfl
theorem rz10_72 : mRz 10 72 = some (.inl (10, 10)) := rfl
theorem rz10_75 : mRz 10 75 = some (.inl (10, 11)) := rfl
theorem rz10_78 : mRz 10 78 = some (.inr (.inl (false, mTr_exists, 1))) := rfl
theorem rz10_82 : mRz 10 82 = some (.inr (.inl (false, mTr_isSort, 1))) := rfl
theorem rz10_85 : mRz 10 85 = some (.inr (.inl (false, mPb_deny, 1))) := rfl
theorem rz10_88 : mRz 10 88 = some (.inr (.inl (false, mTr_lay, 3))) := rfl
theorem rz10_92 : mRz 10 92 = some (.inr (.inl (false, mPb_grant, 0))) := rfl
theorem rz10_96 : mRz 10 96 = some (.inr (.inl (false, mTr_whyNot, 2))) := rfl
theorem rz10_100 : mRz 10 100 = some (.inr (.inl (false, mTr_put, 3))) := rfl
theorem rz10_104 : mRz 10 104 = some (.inr (.inl (false, mPb_refuse, 1))) := rfl
theorem rz10_108 : mRz 10 108 = some (.inr (.inl (false, mTr_at, 2))) := rfl
theorem rz10_112 : mRz 10 112 = some (.inr (.inl (false, mTr_isMissing, 1))) := rfl
theorem rz10_115 : mRz 10 115 = some (.inr (.inl (false, mTr_alike, 2))) := rfl
theorem rz10_119 : mRz 10 119 = some (.inr (.inl (false, mTr_hasRow, 3))) := rfl
theorem rz10_123 : mRz 10 123 = some (.inr (.inl (false, mTr_move, 5))) := rfl
theorem rz10_127 : mRz 10 127 = some (.inl (6, 0)) := rfl
theorem rz10_131 : mRz 10 131 = some (.inr (.inl (false, mTo_hasRoomFor, 1))) := rfl
theorem rz10_136 : mRz 10 136 = some (.inr (.inl (false, mTo_append, 1))) := rfl
theorem rz10_140 : mRz 10 140 = some (.inl (7, 2)) := rfl
theorem rz10_143 : mRz 10 143 = some (.inr (.inl (false, mTe_readTown, 2))) := rfl
theorem rz10_147 : mRz 10 147 = some (.inr (.inl (false, mPb_keepFault, 0))) := rfl
theorem rz10_150 : mRz 10 150 = some (.inr (.inl (true, mPb_carry, 2))) := rfl
theorem rz10_154 : mRz 10 154 = some (.inl (8, 15)) := rfl
theorem rz10_157 : mRz 10 157 = some (.inr (.inl (false, mPb_answer, 1))) := rfl
theorem rz10_160 : mRz 10 160 = some (.inl (8, 0)) := rfl
theorem rz10_164 : mRz 10 164 = some (.inl (8, 2)) := rfl
theorem rz10_168 : mRz 10 168 = some (.inr (.inl (false, mTe_readDays, 3))) := rfl
theorem rz10_172 : mRz 10 172 = some (.inr (.inl (false, mDa_copyOf, 1))) := rfl
theorem rz10_178 : mRz 10 178 = some (.inl (0, 4)) := rfl
theorem rz10_181 : mRz 10 181 = some (.inl (8, 13)) := rfl
theorem rz10_184 : mRz 10 184 = some (.inl (8, 14)) := rfl
theorem rz10_187 : mRz 10 187 = some (.inl (8, 1)) := rfl
theorem rz10_191 : mRz 10 191 = some (.inl (4, 8)) := rfl
theorem rz10_196 : mRz 10 196 = some (.inl (8, 16)) := rfl
theorem rz10_199 : mRz 10 199 = some (.inl (8, 17)) := rfl
theorem rz10_202 : mRz 10 202 = some (.inl (8, 18)) := rfl
theorem rz10_205 : mRz 10 205 = some (.inr (.inl (false, mTw_hasPerson, 1))) := rfl
theorem rz10_208 : mRz 10 208 = some (.inl (8, 3)) := rfl
theorem rz10_212 : mRz 10 212 = some (.inl (8, 4)) := rfl
theorem rz10_215 : mRz 10 215 = some (.inl (8, 5)) := rfl
theorem rz10_218 : mRz 10 218 = some (.inr (.inl (false, mTw_hasLoaf, 1))) := rfl
theorem rz10_221 : mRz 10 221 = some (.inl (8, 7)) := rfl
theorem rz10_224 : mRz 10 224 = some (.inr (.inl (false, mTw_isPaper, 1))) := rfl
theorem rz10_227 : mRz 10 227 = some (.inl (8, 8)) := rfl
theorem rz10_230 : mRz 10 230 = some (.inl (8, 9)) := rfl
theorem rz10_233 : mRz 10 233 = some (.inl (8, 10)) := rfl
theorem rz10_236 : mRz 10 236 = some (.inl (8, 11)) := rfl
theorem rz10_239 : mRz 10 239 = some (.inr (.inl (false, mTw_isBaked, 1))) := rfl
theorem rz10_242 : mRz 10 242 = some (.inl (8, 12)) := rfl
theorem rz10_245 : mRz 10 245 = some (.inr (.inl (false, mPr_has, 1))) := rfl
theorem rz10_248 : mRz 10 248 = some (.inl (4, 0)) := rfl
theorem rz10_249 : mRz 10 249 = some (.inl (4, 1)) := rfl
theorem rz10_252 : mRz 10 252 = some (.inl (4, 2)) := rfl
theorem rz10_255 : mRz 10 255 = some (.inl (4, 3)) := rfl
theorem rz10_258 : mRz 10 258 = some (.inl (4, 4)) := rfl
theorem rz10_261 : mRz 10 261 = some (.inl (4, 5)) := rfl
theorem rz10_265 : mRz 10 265 = some (.inr (.inl (false, mSh_weigh, 2))) := rfl
theorem rz10_269 : mRz 10 269 = some (.inl (5, 0)) := rfl
theorem rz10_272 : mRz 10 272 = some (.inr (.inl (false, mPr_deepest, 2))) := rfl
theorem rz10_275 : mRz 10 275 = some (.inl (5, 1)) := rfl
theorem rz10_278 : mRz 10 278 = some (.inl (5, 6)) := rfl
theorem rz10_281 : mRz 10 281 = some (.inl (5, 2)) := rfl
theorem rz10_284 : mRz 10 284 = some (.inr (.inl (false, mTw_comesOf, 2))) := rfl
theorem rz10_288 : mRz 10 288 = some (.inr (.inl (false, mSh_deal, 1))) := rfl
theorem rz10_291 : mRz 10 291 = some (.inr (.inl (false, mSh_ownerOf, 1))) := rfl
theorem rz10_294 : mRz 10 294 = some (.inr (.inl (false, mTw_bakerOf, 1))) := rfl
theorem rz10_297 : mRz 10 297 = some (.inl (4, 6)) := rfl
theorem rz10_300 : mRz 10 300 = some (.inr (.inl (false, mPr_handed, 2))) := rfl
theorem rz10_303 : mRz 10 303 = some (.inr (.inl (false, mPb_wouldGet, 3))) := rfl
theorem rz10_307 : mRz 10 307 = some (.inr (.inl (false, mSh_settle, 3))) := rfl
theorem rz10_311 : mRz 10 311 = some (.inl (5, 4)) := rfl
theorem rz10_314 : mRz 10 314 = some (.inr (.inl (false, mTw_rainOn, 1))) := rfl
theorem rz10_317 : mRz 10 317 = some (.inr (.inr (.inr (.inl (16))))) := rfl
theorem rz10_319 : mRz 10 319 = some (.inr (.inl (false, mPb_tell, 2))) := rfl
theorem rz10_323 : mRz 10 323 = some (.inr (.inl (false, mPr_surplus, 1))) := rfl
theorem rz10_326 : mRz 10 326 = some (.inr (.inl (false, mNe_fewestHandOvers, 1))) := rfl
theorem rz10_330 : mRz 10 330 = some (.inr (.inl (false, mNe_findRing, 1))) := rfl
theorem rz10_334 : mRz 10 334 = some (.inl (3, 4)) := rfl
theorem rz10_337 : mRz 10 337 = some (.inl (3, 3)) := rfl
theorem rz10_340 : mRz 10 340 = some (.inr (.inl (false, mSh_gather, 2))) := rfl
theorem rz10_343 : mRz 10 343 = some (.inr (.inl (false, mSh_cheapestSet, 2))) := rfl
theorem rz10_347 : mRz 10 347 = some (.inr (.inl (false, mTw_flourOf, 1))) := rfl
theorem rz10_350 : mRz 10 350 = some (.inr (.inl (false, mSh_othersHold, 1))) := rfl
theorem rz10_353 : mRz 10 353 = some (.inr (.inl (false, mTr_lengthOf, 1))) := rfl
theorem rz10_356 : mRz 10 356 = some (.inr (.inr (.inr (.inl (999))))) := rfl
theorem rz10_358 : mRz 10 358 = some (.inr (.inl (false, mTr_allWithin, 3))) := rfl
theorem rz10_362 : mRz 10 362 = some (.inr (.inl (false, mPb_firstBrokenDay, 3))) := rfl
theorem rz10_366 : mRz 10 366 = some (.inr (.inl (true, mPb_cuttingTurn, 4))) := rfl
theorem rz10_370 : mRz 10 370 = some (.inr (.inr (.inr (.inl (9999))))) := rfl
theorem rz10_372 : mRz 10 372 = some (.inr (.inl (false, mTr_placeOfMost, 3))) := rfl
theorem rz10_375 : mRz 10 375 = some (.inr (.inl (false, mPr_hasRoom, 0))) := rfl
theorem rz10_378 : mRz 10 378 = some (.inr (.inl (false, mTw_handOn, 5))) := rfl
theorem rz10_382 : mRz 10 382 = some (.inr (.inl (false, mTw_release, 1))) := rfl
theorem rz10_385 : mRz 10 385 = some (.inr (.inl (false, mTw_canBake, 1))) := rfl
theorem rz10_388 : mRz 10 388 = some (.inr (.inl (false, mTw_rainsOn, 1))) := rfl
theorem rz10_391 : mRz 10 391 = some (.inr (.inl (false, mTw_bringOut, 2))) := rfl
theorem rz10_395 : mRz 10 395 = some (.inr (.inl (false, mTw_feast, 2))) := rfl
theorem rz10_398 : mRz 10 398 = some (.inr (.inl (false, mTw_handMoney, 3))) := rfl
theorem rz10_401 : mRz 10 401 = some (.inl (0, 5)) := rfl
theorem rz10_405 : mRz 10 405 = some (.inr (.inl (false, mLi_run, 2))) := rfl
theorem rz10_408 : mRz 10 408 = some (.inl (10, 15)) := rfl
theorem rz10_411 : mRz 10 411 = some (.inl (1, 3)) := rfl
theorem rz10_412 : mRz 10 412 = some (.inl (1, 4)) := rfl
theorem rz10_415 : mRz 10 415 = some (.inl (1, 5)) := rfl
theorem rz10_418 : mRz 10 418 = some (.inl (1, 6)) := rfl
theorem rz10_421 : mRz 10 421 = some (.inl (1, 7)) := rfl
theorem rz10_424 : mRz 10 424 = some (.inl (1, 8)) := rfl
theorem rz10_427 : mRz 10 427 = some (.inl (10, 9)) := rfl
theorem rz10_430 : mRz 10 430 = some (.inl (7, 9)) := rfl
theorem rz10_433 : mRz 10 433 = some (.inl (7, 10)) := rfl
theorem rz10_436 : mRz 10 436 = some (.inl (5, 3)) := rfl
theorem rz10_439 : mRz 10 439 = some (.inl (5, 5)) := rfl
theorem rz10_442 : mRz 10 442 = some (.inr (.inr (.inr (.inr 3)))) := rfl
theorem rz10_447 : mRz 10 447 = some (.inr (.inl (false, mTw_copyOf, 1))) := rfl
theorem rz11_7 : mRz 11 7 = some (.inl (11, 3)) := rfl
theorem rz11_13 : mRz 11 13 = some (.inl (11, 4)) := rfl
theorem rz11_17 : mRz 11 17 = some (.inl (11, 5)) := rfl
theorem rz11_20 : mRz 11 20 = some (.inl (11, 6)) := rfl
theorem rz11_24 : mRz 11 24 = some (.inl (11, 7)) := rfl
theorem rz11_28 : mRz 11 28 = some (.inl (11, 10)) := rfl
theorem rz11_32 : mRz 11 32 = some (.inl (11, 11)) := rfl
theorem rz11_35 : mRz 11 35 = some (.inl (11, 20)) := rfl
theorem rz11_38 : mRz 11 38 = some (.inl (11, 21)) := rfl
theorem rz11_41 : mRz 11 41 = some (.inl (11, 22)) := rfl
theorem rz11_44 : mRz 11 44 = some (.inl (11, 25)) := rfl
theorem rz11_47 : mRz 11 47 = some (.inl (11, 26)) := rfl
theorem rz11_50 : mRz 11 50 = some (.inl (11, 27)) := rfl
theorem rz11_53 : mRz 11 53 = some (.inl (11, 29)) := rfl
theorem rz11_56 : mRz 11 56 = some (.inl (11, 30)) := rfl
theorem rz11_59 : mRz 11 59 = some (.inl (11, 31)) := rfl
theorem rz11_62 : mRz 11 62 = some (.inl (11, 32)) := rfl
theorem rz11_65 : mRz 11 65 = some (.inl (11, 34)) := rfl
theorem rz11_68 : mRz 11 68 = some (.inl (11, 35)) := rfl
theorem rz11_71 : mRz 11 71 = some (.inl (11, 36)) := rfl
theorem rz11_74 : mRz 11 74 = some (.inl (11, 1)) := rfl
theorem rz11_77 : mRz 11 77 = some (.inl (11, 0)) := rfl
theorem rz11_80 : mRz 11 80 = some (.inl (11, 2)) := rfl
theorem rz11_83 : mRz 11 83 = some (.inr (.inr (.inr (.inr 5)))) := rfl
theorem rz11_89 : mRz 11 89 = some (.inr (.inl (false, mMo_no, 1))) := rfl
theorem rz11_93 : mRz 11 93 = some (.inr (.inl (false, mMo_trayed, 1))) := rfl
theorem rz11_97 : mRz 11 97 = some (.inr (.inl (false, mMo_placed, 2))) := rfl
theorem rz11_101 : mRz 11 101 = some (.inr (.inl (true, mMo_cut, 2))) := rfl
theorem rz11_105 : mRz 11 105 = some (.inr (.inr (.inr (.inl (-1))))) := rfl
theorem rz11_107 : mRz 11 107 = some (.inr (.inr (.inr (.inl (3))))) := rfl
theorem rz11_109 : mRz 11 109 = some (.inr (.inl (true, mMo_isIn, 3))) := rfl
theorem rz11_113 : mRz 11 113 = some (.inl (11, 9)) := rfl
theorem rz11_116 : mRz 11 116 = some (.inl (11, 16)) := rfl
theorem rz11_119 : mRz 11 119 = some (.inl (11, 15)) := rfl
theorem rz11_122 : mRz 11 122 = some (.inr (.inl (false, mMo_look2, 1))) := rfl
theorem rz11_125 : mRz 11 125 = some (.inl (11, 14)) := rfl
theorem rz11_128 : mRz 11 128 = some (.inr (.inl (true, mMo_isLetter, 1))) := rfl
theorem rz11_131 : mRz 11 131 = some (.inl (11, 19)) := rfl
theorem rz11_134 : mRz 11 134 = some (.inr (.inr (.inr (.inl (32))))) := rfl
theorem rz11_136 : mRz 11 136 = some (.inr (.inr (.inr (.inl (96))))) := rfl
theorem rz11_138 : mRz 11 138 = some (.inl (11, 18)) := rfl
theorem rz11_141 : mRz 11 141 = some (.inr (.inl (true, mMo_isDigit, 1))) := rfl
theorem rz11_144 : mRz 11 144 = some (.inl (11, 17)) := rfl
theorem rz11_147 : mRz 11 147 = some (.inr (.inl (false, mMo_isSignByte, 1))) := rfl
theorem rz11_150 : mRz 11 150 = some (.inr (.inl (true, mMo_spelled, 6))) := rfl
theorem rz11_154 : mRz 11 154 = some (.inr (.inl (false, mMo_isWord, 1))) := rfl
theorem rz11_158 : mRz 11 158 = some (.inr (.inr (.inr (.inl (5))))) := rfl
theorem rz11_160 : mRz 11 160 = some (.inr (.inl (false, mMo_isPromise, 0))) := rfl
theorem rz11_164 : mRz 11 164 = some (.inr (.inl (false, mMo_isPerson, 0))) := rfl
theorem rz11_167 : mRz 11 167 = some (.inr (.inl (false, mMo_isPurse, 0))) := rfl
theorem rz11_170 : mRz 11 170 = some (.inr (.inl (false, mMo_isOven, 0))) := rfl
theorem rz11_173 : mRz 11 173 = some (.inr (.inl (false, mMo_isRain, 0))) := rfl
theorem rz11_176 : mRz 11 176 = some (.inr (.inl (false, mMo_isLoaf, 0))) := rfl
theorem rz11_179 : mRz 11 179 = some (.inr (.inl (false, mMo_isBy, 0))) := rfl
theorem rz11_182 : mRz 11 182 = some (.inr (.inl (false, mMo_isInWord, 0))) := rfl
theorem rz11_185 : mRz 11 185 = some (.inr (.inl (false, mMo_isOn, 0))) := rfl
theorem rz11_188 : mRz 11 188 = some (.inr (.inl (false, mMo_isSlices, 0))) := rfl
theorem rz11_191 : mRz 11 191 = some (.inr (.inl (false, mMo_isFlour, 0))) := rfl
theorem rz11_194 : mRz 11 194 = some (.inr (.inl (false, mMo_isOf, 0))) := rfl
theorem rz11_197 : mRz 11 197 = some (.inr (.inl (false, mMo_isFrom, 0))) := rfl
theorem rz11_200 : mRz 11 200 = some (.inr (.inl (false, mMo_isTo, 0))) := rfl
theorem rz11_203 : mRz 11 203 = some (.inr (.inl (false, mMo_isFor, 0))) := rfl
theorem rz11_206 : mRz 11 206 = some (.inr (.inl (false, mMo_stepWord, 0))) := rfl
theorem rz11_210 : mRz 11 210 = some (.inr (.inl (false, mMo_testWord, 0))) := rfl
theorem rz11_213 : mRz 11 213 = some (.inr (.inl (false, mMo_isEnd, 0))) := rfl
theorem rz11_216 : mRz 11 216 = some (.inr (.inl (false, mMo_isKept, 0))) := rfl
theorem rz11_219 : mRz 11 219 = some (.inl (11, 12)) := rfl
theorem rz11_222 : mRz 11 222 = some (.inl (11, 13)) := rfl
theorem rz11_225 : mRz 11 225 = some (.inr (.inl (false, mMo_fail, 2))) := rfl
theorem rz11_229 : mRz 11 229 = some (.inr (.inl (false, mMo_next, 0))) := rfl
theorem rz11_232 : mRz 11 232 = some (.inr (.inl (false, mMo_wrong, 0))) := rfl
theorem rz11_235 : mRz 11 235 = some (.inl (11, 8)) := rfl
theorem rz11_238 : mRz 11 238 = some (.inr (.inl (false, mMo_lay, 1))) := rfl
theorem rz11_242 : mRz 11 242 = some (.inr (.inl (false, mMo_named, 3))) := rfl
theorem rz11_246 : mRz 11 246 = some (.inr (.inl (false, mMo_isName, 0))) := rfl
theorem rz11_249 : mRz 11 249 = some (.inr (.inl (false, mMo_personNamed, 1))) := rfl
theorem rz11_252 : mRz 11 252 = some (.inr (.inl (false, mMo_ovenNamed, 1))) := rfl
theorem rz11_255 : mRz 11 255 = some (.inr (.inl (false, mMo_loafNamed, 1))) := rfl
theorem rz11_258 : mRz 11 258 = some (.inr (.inr (.inr (.inr 2)))) := rfl
theorem rz11_261 : mRz 11 261 = some (.inr (.inl (false, mMo_told, 2))) := rfl
theorem rz11_264 : mRz 11 264 = some (.inr (.inl (false, mMo_must, 1))) := rfl
theorem rz11_268 : mRz 11 268 = some (.inr (.inl (false, mMo_readNew, 1))) := rfl
theorem rz11_271 : mRz 11 271 = some (.inr (.inl (false, mMo_count, 2))) := rfl
theorem rz11_274 : mRz 11 274 = some (.inr (.inl (false, mMo_readTold, 2))) := rfl
theorem rz11_277 : mRz 11 277 = some (.inr (.inl (false, mMo_readPart, 2))) := rfl
theorem rz11_280 : mRz 11 280 = some (.inr (.inl (false, mMo_opens, 2))) := rfl
theorem rz11_284 : mRz 11 284 = some (.inr (.inl (false, mMo_readPerson, 0))) := rfl
theorem rz11_287 : mRz 11 287 = some (.inr (.inl (false, mMo_readOven, 0))) := rfl
theorem rz11_290 : mRz 11 290 = some (.inr (.inl (false, mMo_readLoaf, 0))) := rfl
theorem rz11_293 : mRz 11 293 = some (.inr (.inl (false, mMo_readPromise, 0))) := rfl
theorem rz11_296 : mRz 11 296 = some (.inr (.inl (false, mMo_isSign, 1))) := rfl
theorem rz11_299 : mRz 11 299 = some (.inr (.inl (false, mMo_isWell, 0))) := rfl
theorem rz11_302 : mRz 11 302 = some (.inr (.inl (false, mMo_copy, 2))) := rfl
theorem rz11_305 : mRz 11 305 = some (.inr (.inl (false, mMo_readTest, 1))) := rfl
theorem rz11_308 : mRz 11 308 = some (.inl (11, 24)) := rfl
theorem rz11_311 : mRz 11 311 = some (.inr (.inl (false, mMo_readRest, 1))) := rfl
theorem rz11_314 : mRz 11 314 = some (.inr (.inl (false, mMo_readStep, 1))) := rfl
theorem rz11_317 : mRz 11 317 = some (.inr (.inl (true, mMo_part, 1))) := rfl
theorem rz11_320 : mRz 11 320 = some (.inr (.inl (false, mMo_isMade, 1))) := rfl
theorem rz11_323 : mRz 11 323 = some (.inr (.inl (false, mMo_isBaked, 1))) := rfl
theorem rz11_326 : mRz 11 326 = some (.inr (.inl (false, mMo_bakedSet, 0))) := rfl
theorem rz11_329 : mRz 11 329 = some (.inr (.inl (false, mMo_refuse, 1))) := rfl
theorem rz11_332 : mRz 11 332 = some (.inr (.inl (false, mMo_isPersonAt, 1))) := rfl
theorem rz11_335 : mRz 11 335 = some (.inr (.inl (false, mMo_isLoafAt, 1))) := rfl
theorem rz11_338 : mRz 11 338 = some (.inr (.inl (false, mMo_isPaper, 1))) := rfl
theorem rz11_341 : mRz 11 341 = some (.inr (.inl (false, mMo_isPromiseAt, 1))) := rfl
theorem rz11_344 : mRz 11 344 = some (.inr (.inl (false, mMo_isOfLoaf, 2))) := rfl
theorem rz11_347 : mRz 11 347 = some (.inr (.inl (false, mMo_holdsOf, 2))) := rfl
theorem rz11_350 : mRz 11 350 = some (.inr (.inl (false, mMo_deepens, 0))) := rfl
theorem rz11_353 : mRz 11 353 = some (.inr (.inr (.inl (1000000)))) := rfl
theorem rz11_354 : mRz 11 354 = some (.inr (.inl (false, mMo_turnOf, 2))) := rfl
theorem rz11_357 : mRz 11 357 = some (.inl (11, 28)) := rfl
theorem rz11_360 : mRz 11 360 = some (.inr (.inl (false, mMo_lines, 1))) := rfl
theorem rz11_363 : mRz 11 363 = some (.inr (.inl (false, mMo_comes, 2))) := rfl
theorem rz11_367 : mRz 11 367 = some (.inr (.inr (.inr (.inr 3)))) := rfl
theorem rz11_370 : mRz 11 370 = some (.inr (.inl (false, mMo_deals, 2))) := rfl
theorem rz11_374 : mRz 11 374 = some (.inr (.inl (false, mMo_getsOf, 3))) := rfl
theorem rz11_378 : mRz 11 378 = some (.inr (.inl (false, mMo_unmet, 2))) := rfl
theorem rz11_381 : mRz 11 381 = some (.inr (.inl (false, mMo_owesOf, 2))) := rfl
theorem rz11_384 : mRz 11 384 = some (.inr (.inr (.inr (.inl (16))))) := rfl
theorem rz11_386 : mRz 11 386 = some (.inr (.inl (false, mMo_fraction, 2))) := rfl
theorem rz11_390 : mRz 11 390 = some (.inr (.inl (false, mMo_netOf, 1))) := rfl
theorem rz11_393 : mRz 11 393 = some (.inr (.inl (true, mMo_has, 2))) := rfl
theorem rz11_396 : mRz 11 396 = some (.inr (.inl (false, mMo_goesRound, 3))) := rfl
theorem rz11_400 : mRz 11 400 = some (.inl (11, 33)) := rfl
theorem rz11_403 : mRz 11 403 = some (.inr (.inr (.inr (.inl (999))))) := rfl
theorem rz11_405 : mRz 11 405 = some (.inr (.inl (false, mMo_isOpen, 1))) := rfl
theorem rz11_408 : mRz 11 408 = some (.inr (.inl (false, mMo_isHeld, 1))) := rfl
theorem rz11_411 : mRz 11 411 = some (.inr (.inl (false, mMo_isTray, 1))) := rfl
theorem rz11_414 : mRz 11 414 = some (.inr (.inr (.inr (.inl (60))))) := rfl
theorem rz11_416 : mRz 11 416 = some (.inr (.inl (false, mMo_numberOf, 2))) := rfl
theorem rz11_420 : mRz 11 420 = some (.inr (.inr (.inr (.inl (2))))) := rfl
theorem rz11_422 : mRz 11 422 = some (.inr (.inr (.inr (.inl (8))))) := rfl
theorem rz11_424 : mRz 11 424 = some (.inr (.inr (.inr (.inl (40))))) := rfl
theorem rz11_426 : mRz 11 426 = some (.inr (.inr (.inr (.inl (9999))))) := rfl
theorem rz11_428 : mRz 11 428 = some (.inr (.inr (.inr (.inr 4)))) := rfl
theorem rz11_431 : mRz 11 431 = some (.inr (.inr (.inr (.inl (99))))) := rfl
theorem rz11_433 : mRz 11 433 = some (.inr (.inl (false, mMo_makes, 5))) := rfl
theorem rz11_437 : mRz 11 437 = some (.inr (.inl (false, mMo_breaks, 1))) := rfl
theorem rz11_440 : mRz 11 440 = some (.inr (.inl (false, mMo_isWetOven, 1))) := rfl
theorem rz11_443 : mRz 11 443 = some (.inr (.inl (false, mMo_bakes, 1))) := rfl
theorem rz11_446 : mRz 11 446 = some (.inr (.inr (.inr (.inl (9))))) := rfl
theorem rz11_448 : mRz 11 448 = some (.inr (.inl (false, mMo_eats, 2))) := rfl
theorem rz11_451 : mRz 11 451 = some (.inr (.inl (false, mMo_pays, 3))) := rfl
theorem rz11_454 : mRz 11 454 = some (.inl (11, 39)) := rfl
theorem rz11_457 : mRz 11 457 = some (.inr (.inr (.inl (65536)))) := rfl
theorem rz11_458 : mRz 11 458 = some (.inr (.inl (false, mMo_draw, 0))) := rfl
theorem rz11_461 : mRz 11 461 = some (.inl (11, 42)) := rfl
theorem rz11_464 : mRz 11 464 = some (.inl (11, 44)) := rfl
theorem rz11_467 : mRz 11 467 = some (.inr (.inl (false, mMo_waits, 1))) := rfl
theorem rz11_470 : mRz 11 470 = some (.inl (11, 43)) := rfl
theorem rz11_473 : mRz 11 473 = some (.inl (11, 40)) := rfl
theorem rz11_476 : mRz 11 476 = some (.inl (11, 38)) := rfl
theorem rz11_480 : mRz 11 480 = some (.inl (11, 45)) := rfl
theorem rz11_483 : mRz 11 483 = some (.inl (11, 41)) := rfl
theorem rz11_486 : mRz 11 486 = some (.inr (.inl (false, mMo_does, 1))) := rfl
theorem rz11_489 : mRz 11 489 = some (.inr (.inl (false, mMo_isSo, 1))) := rfl
theorem rz11_492 : mRz 11 492 = some (.inr (.inl (false, mMo_doAll, 2))) := rfl
theorem rz11_495 : mRz 11 495 = some (.inr (.inl (false, mMo_doOne, 1))) := rfl
theorem rz11_498 : mRz 11 498 = some (.inr (.inl (false, mMo_lives, 1))) := rfl
theorem rz11_501 : mRz 11 501 = some (.inl (11, 37)) := rfl
theorem rz11_504 : mRz 11 504 = some (.inr (.inr (.inr (.inl (4))))) := rfl
theorem rz11_506 : mRz 11 506 = some (.inr (.inr (.inr (.inl (20))))) := rfl
theorem rz11_508 : mRz 11 508 = some (.inl (11, 23)) := rfl
theorem rz12_13 : mRz 12 13 = some (.inr (.inl (false, mPb_status, 0))) := rfl
theorem rz12_17 : mRz 12 17 = some (.inr (.inl (false, mMo_status, 0))) := rfl
theorem rz12_18 : mRz 12 18 = some (.inr (.inl (false, mPb_top, 0))) := rfl
theorem rz12_22 : mRz 12 22 = some (.inr (.inl (false, mMo_top, 0))) := rfl
theorem rz12_23 : mRz 12 23 = some (.inr (.inl (false, mPb_bottom, 0))) := rfl
theorem rz12_26 : mRz 12 26 = some (.inr (.inl (false, mMo_bottom, 0))) := rfl
theorem rz12_27 : mRz 12 27 = some (.inr (.inl (false, mPb_tray, 3))) := rfl
theorem rz12_31 : mRz 12 31 = some (.inr (.inl (false, mMo_tray, 3))) := rfl
theorem rz12_32 : mRz 12 32 = some (.inr (.inr (.inr (.inl (4294967295))))) := rfl
theorem rz12_34 : mRz 12 34 = some (.inr (.inl (false, mPb_write, 3))) := rfl
theorem rz12_38 : mRz 12 38 = some (.inr (.inl (false, mMo_write, 3))) := rfl
theorem rz12_39 : mRz 12 39 = some (.inr (.inl (false, mPb_read, 2))) := rfl
theorem rz12_43 : mRz 12 43 = some (.inr (.inl (false, mMo_read, 2))) := rfl
theorem rz12_44 : mRz 12 44 = some (.inr (.inl (false, mPb_pour, 5))) := rfl
theorem rz12_48 : mRz 12 48 = some (.inr (.inl (false, mMo_pour, 5))) := rfl
theorem rz12_49 : mRz 12 49 = some (.inr (.inl (false, mPb_feed, 5))) := rfl
theorem rz12_53 : mRz 12 53 = some (.inr (.inl (false, mMo_feed, 5))) := rfl
theorem rz12_54 : mRz 12 54 = some (.inr (.inl (false, mPb_town, 1))) := rfl
theorem rz12_58 : mRz 12 58 = some (.inr (.inl (false, mMo_town, 1))) := rfl
theorem rz12_59 : mRz 12 59 = some (.inr (.inl (false, mPb_days, 1))) := rfl
theorem rz12_62 : mRz 12 62 = some (.inr (.inl (false, mMo_days, 1))) := rfl
theorem rz12_63 : mRz 12 63 = some (.inr (.inl (false, mPb_fault, 1))) := rfl
theorem rz12_66 : mRz 12 66 = some (.inr (.inl (false, mMo_fault, 1))) := rfl
theorem rz12_67 : mRz 12 67 = some (.inr (.inl (false, mPb_many, 1))) := rfl
theorem rz12_70 : mRz 12 70 = some (.inr (.inl (false, mMo_many, 1))) := rfl
theorem rz12_71 : mRz 12 71 = some (.inr (.inl (false, mPb_person, 2))) := rfl
theorem rz12_75 : mRz 12 75 = some (.inr (.inl (false, mMo_person, 2))) := rfl
theorem rz12_76 : mRz 12 76 = some (.inr (.inl (false, mPb_loaf, 2))) := rfl
theorem rz12_79 : mRz 12 79 = some (.inr (.inl (false, mMo_loaf, 2))) := rfl
theorem rz12_80 : mRz 12 80 = some (.inr (.inl (false, mPb_promise, 2))) := rfl
theorem rz12_83 : mRz 12 83 = some (.inr (.inl (false, mMo_promise, 2))) := rfl
theorem rz12_84 : mRz 12 84 = some (.inr (.inl (false, mPb_holds, 2))) := rfl
theorem rz12_87 : mRz 12 87 = some (.inr (.inl (false, mMo_holds, 2))) := rfl
theorem rz12_88 : mRz 12 88 = some (.inr (.inl (false, mPb_deep, 1))) := rfl
theorem rz12_91 : mRz 12 91 = some (.inr (.inl (false, mMo_deep, 1))) := rfl
theorem rz12_92 : mRz 12 92 = some (.inr (.inl (false, mPb_first, 3))) := rfl
theorem rz12_96 : mRz 12 96 = some (.inr (.inl (false, mMo_first, 3))) := rfl
theorem rz12_97 : mRz 12 97 = some (.inr (.inl (false, mPb_line, 2))) := rfl
theorem rz12_100 : mRz 12 100 = some (.inr (.inl (false, mMo_line, 2))) := rfl
theorem rz12_101 : mRz 12 101 = some (.inr (.inl (false, mPb_whose, 3))) := rfl
theorem rz12_105 : mRz 12 105 = some (.inr (.inl (false, mMo_whose, 3))) := rfl
theorem rz12_106 : mRz 12 106 = some (.inr (.inl (false, mPb_depth, 1))) := rfl
theorem rz12_109 : mRz 12 109 = some (.inr (.inl (false, mMo_depth, 1))) := rfl
theorem rz12_110 : mRz 12 110 = some (.inr (.inl (false, mPb_between, 2))) := rfl
theorem rz12_113 : mRz 12 113 = some (.inr (.inl (false, mMo_between, 2))) := rfl
theorem rz12_114 : mRz 12 114 = some (.inr (.inl (false, mPb_gets, 3))) := rfl
theorem rz12_117 : mRz 12 117 = some (.inr (.inl (false, mMo_gets, 3))) := rfl
theorem rz12_118 : mRz 12 118 = some (.inr (.inl (false, mPb_shame, 2))) := rfl
theorem rz12_122 : mRz 12 122 = some (.inr (.inl (false, mMo_shame, 2))) := rfl
theorem rz12_123 : mRz 12 123 = some (.inr (.inl (false, mPb_mean, 3))) := rfl
theorem rz12_126 : mRz 12 126 = some (.inr (.inl (false, mMo_mean, 3))) := rfl
theorem rz12_127 : mRz 12 127 = some (.inr (.inl (false, mPb_net, 1))) := rfl
theorem rz12_130 : mRz 12 130 = some (.inr (.inl (false, mMo_net, 1))) := rfl
theorem rz12_131 : mRz 12 131 = some (.inr (.inl (false, mPb_handOvers, 0))) := rfl
theorem rz12_134 : mRz 12 134 = some (.inr (.inl (false, mMo_handOvers, 0))) := rfl
theorem rz12_135 : mRz 12 135 = some (.inr (.inl (false, mPb_ring, 0))) := rfl
theorem rz12_138 : mRz 12 138 = some (.inr (.inl (false, mMo_ring, 0))) := rfl
theorem rz12_139 : mRz 12 139 = some (.inr (.inl (false, mPb_ringAt, 1))) := rfl
theorem rz12_142 : mRz 12 142 = some (.inr (.inl (false, mMo_ringAt, 1))) := rfl
theorem rz12_143 : mRz 12 143 = some (.inr (.inl (false, mPb_owing, 1))) := rfl
theorem rz12_146 : mRz 12 146 = some (.inr (.inl (false, mMo_owing, 1))) := rfl
theorem rz12_147 : mRz 12 147 = some (.inr (.inl (false, mPb_saved, 3))) := rfl
theorem rz12_150 : mRz 12 150 = some (.inr (.inl (false, mMo_saved, 3))) := rfl
theorem rz12_151 : mRz 12 151 = some (.inr (.inl (false, mPb_faces, 0))) := rfl
theorem rz12_154 : mRz 12 154 = some (.inr (.inl (false, mMo_faces, 0))) := rfl
theorem rz12_155 : mRz 12 155 = some (.inr (.inl (false, mPb_keeps, 3))) := rfl
theorem rz12_158 : mRz 12 158 = some (.inr (.inl (false, mMo_keeps, 3))) := rfl
theorem rz12_159 : mRz 12 159 = some (.inr (.inl (false, mPb_burst, 0))) := rfl
theorem rz12_162 : mRz 12 162 = some (.inr (.inl (false, mMo_burst, 0))) := rfl
theorem rz12_163 : mRz 12 163 = some (.inr (.inl (false, mPb_cuts, 5))) := rfl
theorem rz12_166 : mRz 12 166 = some (.inr (.inl (false, mMo_cuts, 5))) := rfl
theorem rz12_167 : mRz 12 167 = some (.inr (.inl (false, mPb_auction, 3))) := rfl
theorem rz12_170 : mRz 12 170 = some (.inr (.inl (false, mMo_auction, 3))) := rfl
theorem rz12_171 : mRz 12 171 = some (.inr (.inl (false, mPb_make, 5))) := rfl
theorem rz12_174 : mRz 12 174 = some (.inr (.inl (false, mMo_make, 5))) := rfl
theorem rz12_175 : mRz 12 175 = some (.inr (.inl (false, mPb_letGo, 1))) := rfl
theorem rz12_179 : mRz 12 179 = some (.inr (.inl (false, mMo_letGo, 1))) := rfl
theorem rz12_180 : mRz 12 180 = some (.inr (.inl (false, mPb_bake, 1))) := rfl
theorem rz12_183 : mRz 12 183 = some (.inr (.inl (false, mMo_bake, 1))) := rfl
theorem rz12_184 : mRz 12 184 = some (.inr (.inl (false, mPb_pass, 1))) := rfl
theorem rz12_187 : mRz 12 187 = some (.inr (.inl (false, mMo_pass, 1))) := rfl
theorem rz12_188 : mRz 12 188 = some (.inr (.inl (false, mPb_eat, 2))) := rfl
theorem rz12_191 : mRz 12 191 = some (.inr (.inl (false, mMo_eat, 2))) := rfl
theorem rz12_192 : mRz 12 192 = some (.inr (.inl (false, mPb_pay, 3))) := rfl
theorem rz12_195 : mRz 12 195 = some (.inr (.inl (false, mMo_pay, 3))) := rfl
theorem rz12_196 : mRz 12 196 = some (.inr (.inl (false, mPb_live, 1))) := rfl
theorem rz12_199 : mRz 12 199 = some (.inr (.inl (false, mMo_live, 1))) := rfl
theorem rz12_200 : mRz 12 200 = some (.inr (.inl (false, mPb_lived, 1))) := rfl
theorem rz12_203 : mRz 12 203 = some (.inr (.inl (false, mMo_lived, 1))) := rfl
theorem rz12_204 : mRz 12 204 = some (.inr (.inl (false, mPb_odds, 4))) := rfl
theorem rz12_208 : mRz 12 208 = some (.inr (.inl (false, mMo_odds, 4))) := rfl
theorem rz12_209 : mRz 12 209 = some (.inr (.inl (false, mPb_mark, 0))) := rfl
theorem rz12_212 : mRz 12 212 = some (.inr (.inl (false, mMo_mark, 0))) := rfl
theorem rz12_213 : mRz 12 213 = some (.inr (.inl (false, mPb_back, 0))) := rfl
theorem rz12_216 : mRz 12 216 = some (.inr (.inl (false, mMo_back, 0))) := rfl
def isT (t : Nat) : Prop := t = 10 ∨ t = 35 ∨ t = 91 ∨ t = 116 ∨ t = 141
def isH (h : Nat) : Prop := h = 61 ∨ h = 74 ∨ h = 83
def isV (v : Nat) : Prop := v = 73 ∨ v = 82
theorem shT_0 {t : Nat} (hb : isT t) : mS0[t]? = some (5, 8, [t + 3, t + 5, t + 14, t + 17, t + 18, t + 19, t + 20, t + 21, t + 22, t + 23, t + 24, t + 25, t + 26, 0, 0, 0, 0, 0, 0]) := by
  rcases hb with rfl | rfl | rfl | rfl | rfl <;> rfl
theorem shT_1 {t : Nat} (hb : isT t) : mS0[t + 1]? = some (5, 2, [t + 4]) := by
  rcases hb with rfl | rfl | rfl | rfl | rfl <;> rfl
theorem shT_2 {t : Nat} (hb : isT t) : mS0[t + 2]? = some (3, 20, []) := by
  rcases hb with rfl | rfl | rfl | rfl | rfl <;> rfl
theorem shT_3 {t : Nat} (hb : isT t) : mS0[t + 3]? = some (5, 4, [t + 6, t + 7, t + 8, t + 9, t + 10, t + 11, t + 12, t + 13, 0]) := by
  rcases hb with rfl | rfl | rfl | rfl | rfl <;> rfl
theorem shT_4 {t : Nat} (hb : isT t) : mS0[t + 4]? = some (0, 40, []) := by
  rcases hb with rfl | rfl | rfl | rfl | rfl <;> rfl
theorem shT_5 {t : Nat} (hb : isT t) : mS0[t + 5]? = some (0, 40, []) := by
  rcases hb with rfl | rfl | rfl | rfl | rfl <;> rfl
theorem shT_6 {t : Nat} (hb : isT t) : mS0[t + 6]? = some (0, 40, []) := by
  rcases hb with rfl | rfl | rfl | rfl | rfl <;> rfl
theorem shT_7 {t : Nat} (hb : isT t) : mS0[t + 7]? = some (0, 40, []) := by
  rcases hb with rfl | rfl | rfl | rfl | rfl <;> rfl
theorem shT_8 {t : Nat} (hb : isT t) : mS0[t + 8]? = some (0, 40, []) := by
  rcases hb with rfl | rfl | rfl | rfl | rfl <;> rfl
theorem shT_9 {t : Nat} (hb : isT t) : mS0[t + 9]? = some (2, 40, []) := by
  rcases hb with rfl | rfl | rfl | rfl | rfl <;> rfl
theorem shT_10 {t : Nat} (hb : isT t) : mS0[t + 10]? = some (0, 40, []) := by
  rcases hb with rfl | rfl | rfl | rfl | rfl <;> rfl
theorem shT_11 {t : Nat} (hb : isT t) : mS0[t + 11]? = some (0, 8, []) := by
  rcases hb with rfl | rfl | rfl | rfl | rfl <;> rfl
theorem shT_12 {t : Nat} (hb : isT t) : mS0[t + 12]? = some (5, 0, [t + 15, t + 16, 0, 0, 0, 0]) := by
  rcases hb with rfl | rfl | rfl | rfl | rfl <;> rfl
theorem shT_13 {t : Nat} (hb : isT t) : mS0[t + 13]? = some (0, 420, []) := by
  rcases hb with rfl | rfl | rfl | rfl | rfl <;> rfl
theorem shT_14 {t : Nat} (hb : isT t) : mS0[t + 14]? = some (0, 3, []) := by
  rcases hb with rfl | rfl | rfl | rfl | rfl <;> rfl
theorem shT_15 {t : Nat} (hb : isT t) : mS0[t + 15]? = some (0, 8, []) := by
  rcases hb with rfl | rfl | rfl | rfl | rfl <;> rfl
theorem shT_16 {t : Nat} (hb : isT t) : mS0[t + 16]? = some (0, 8, []) := by
  rcases hb with rfl | rfl | rfl | rfl | rfl <;> rfl
theorem shT_17 {t : Nat} (hb : isT t) : mS0[t + 17]? = some (0, 8, []) := by
  rcases hb with rfl | rfl | rfl | rfl | rfl <;> rfl
theorem shT_18 {t : Nat} (hb : isT t) : mS0[t + 18]? = some (0, 4, []) := by
  rcases hb with rfl | rfl | rfl | rfl | rfl <;> rfl
theorem shT_19 {t : Nat} (hb : isT t) : mS0[t + 19]? = some (0, 8, []) := by
  rcases hb with rfl | rfl | rfl | rfl | rfl <;> rfl
theorem shT_20 {t : Nat} (hb : isT t) : mS0[t + 20]? = some (0, 8, []) := by
  rcases hb with rfl | rfl | rfl | rfl | rfl <;> rfl
theorem shT_21 {t : Nat} (hb : isT t) : mS0[t + 21]? = some (0, 8, []) := by
  rcases hb with rfl | rfl | rfl | rfl | rfl <;> rfl
theorem shT_22 {t : Nat} (hb : isT t) : mS0[t + 22]? = some (0, 8, []) := by
  rcases hb with rfl | rfl | rfl | rfl | rfl <;> rfl
theorem shT_23 {t : Nat} (hb : isT t) : mS0[t + 23]? = some (0, 8, []) := by
  rcases hb with rfl | rfl | rfl | rfl | rfl <;> rfl
theorem shT_24 {t : Nat} (hb : isT t) : mS0[t + 24]? = some (0, 8, []) := by
  rcases hb with rfl | rfl | rfl | rfl | rfl <;> rfl
theorem shH_0 {h : Nat} (hb : isH h) : mS0[h]? = some (5, 5, [h + 3, h + 4, h + 5, h + 6, h + 7, h + 8, 0]) := by
  rcases hb with rfl | rfl | rfl <;> rfl
theorem shH_1 {h : Nat} (hb : isH h) : mS0[h + 1]? = some (0, 8, []) := by
  rcases hb with rfl | rfl | rfl <;> rfl
theorem shH_2 {h : Nat} (hb : isH h) : mS0[h + 2]? = some (0, 8, []) := by
  rcases hb with rfl | rfl | rfl <;> rfl
theorem shH_3 {h : Nat} (hb : isH h) : mS0[h + 3]? = some (0, 8, []) := by
  rcases hb with rfl | rfl | rfl <;> rfl
theorem shH_4 {h : Nat} (hb : isH h) : mS0[h + 4]? = some (0, 8, []) := by
  rcases hb with rfl | rfl | rfl <;> rfl
theorem shH_5 {h : Nat} (hb : isH h) : mS0[h + 5]? = some (0, 8, []) := by
  rcases hb with rfl | rfl | rfl <;> rfl
theorem shH_6 {h : Nat} (hb : isH h) : mS0[h + 6]? = some (0, 8, []) := by
  rcases hb with rfl | rfl | rfl <;> rfl
theorem shV_0 {v : Nat} (hb : isV v) : mS0[v]? = some (5, 1, [v + 3, v + 10, 0, 0, 0, 0, 0, 0, 0]) := by
  rcases hb with rfl | rfl <;> rfl
theorem shV_1 {v : Nat} (hb : isV v) : mS0[v + 1]? = some (5, 5, [v + 4, v + 5, v + 6, v + 7, v + 8, v + 9, 0]) := by
  rcases hb with rfl | rfl <;> rfl
theorem shV_2 {v : Nat} (hb : isV v) : mS0[v + 2]? = some (0, 8, []) := by
  rcases hb with rfl | rfl <;> rfl
theorem shV_3 {v : Nat} (hb : isV v) : mS0[v + 3]? = some (0, 8, []) := by
  rcases hb with rfl | rfl <;> rfl
theorem shV_4 {v : Nat} (hb : isV v) : mS0[v + 4]? = some (0, 8, []) := by
  rcases hb with rfl | rfl <;> rfl
theorem shV_5 {v : Nat} (hb : isV v) : mS0[v + 5]? = some (0, 8, []) := by
  rcases hb with rfl | rfl <;> rfl
theorem shV_6 {v : Nat} (hb : isV v) : mS0[v + 6]? = some (0, 8, []) := by
  rcases hb with rfl | rfl <;> rfl
theorem shV_7 {v : Nat} (hb : isV v) : mS0[v + 7]? = some (0, 8, []) := by
  rcases hb with rfl | rfl <;> rfl
theorem shV_8 {v : Nat} (hb : isV v) : mS0[v + 8]? = some (0, 60, []) := by
  rcases hb with rfl | rfl <;> rfl
theorem ltT {t k : Nat} (hb : isT t) (hk : k < 25) : t + k < 1000 := by
  rcases hb with rfl | rfl | rfl | rfl | rfl <;> omega
theorem ltT0 {t : Nat} (hb : isT t) : t < 1000 := by
  rcases hb with rfl | rfl | rfl | rfl | rfl <;> omega
theorem ltH {h k : Nat} (hb : isH h) (hk : k < 7) : h + k < 1000 := by
  rcases hb with rfl | rfl | rfl <;> omega
theorem ltH0 {h : Nat} (hb : isH h) : h < 1000 := by
  rcases hb with rfl | rfl | rfl <;> omega
theorem ltV {v k : Nat} (hb : isV v) (hk : k < 9) : v + k < 1000 := by
  rcases hb with rfl | rfl <;> omega
theorem ltV0 {v : Nat} (hb : isV v) : v < 1000 := by
  rcases hb with rfl | rfl <;> omega
theorem isV_H {v : Nat} (h : isV v) : isH (v + 1) := by
  rcases h with rfl | rfl <;> simp [isH]
theorem aLen_of {E : mEn} {a t n : Nat} {fl : List Nat} (h : mS0[a]? = some (t, n, fl)) (ha : a < 1000) (ht : t < 5) : aLen E a = some n := by
  unfold aLen
  rw [if_neg (by omega), if_neg (by omega), h]
  simp [ht]
theorem aLen_0 {E : mEn} : aLen E 1000 = some E.1 := rfl
theorem ite_c {q : Prop} [Decidable q] {a b : Prop} (h : a = b) : (if q then False else a) = (if q then False else b) := by rw [h]
theorem sw_lt {x : Int32} {lo hi : Nat} (hh : hi < 2 ^ 31) (hne : ∀ k : Nat, lo ≤ k → k ≤ hi → x ≠ nI k) : x.toInt < (lo : Int) ∨ (hi : Int) < x.toInt := by
  by_cases h0 : x.toInt < (lo : Int)
  · exact Or.inl h0
  · right
    have hx : ¬ x < 0 := fun q => h0 (by have q2 : x.toInt < 0 := by simpa [Int32.lt_iff_toInt_lt] using q
                                         omega)
    obtain ⟨j, hj, rfl⟩ := nI_of hx
    rw [nI_toInt hj] at h0 ⊢
    have : ¬ j ≤ hi := fun q => hne j (by omega) q rfl
    omega
theorem sw_cs (x : Int32) (lo hi : Nat) : (∃ k : Nat, lo ≤ k ∧ k ≤ hi ∧ x = nI k) ∨ ∀ k : Nat, lo ≤ k → k ≤ hi → x ≠ nI k := by
  by_cases h : ∃ k : Nat, lo ≤ k ∧ k ≤ hi ∧ x = nI k
  · exact Or.inl h
  · exact Or.inr (fun k hl hk e => h ⟨k, hl, hk, e⟩)
section SW
variable {E : mEn} {d : Nat} {M : mM} {Q : mPost} {i : Nat} {ls st : List Value} {σ : mSt}
theorem w_swK {d0 : Int} {lo hi : Nat} {offs : Array Int} {len t : Nat} (k : Nat) {off : Int} (hd : decode (mC M) i = .ok (.tableswitch d0 (lo : Int) (hi : Int) offs, len)) (hl : lo ≤ k) (hk : k ≤ hi) (hh : k < 2 ^ 31) (ho : offs[k - lo]? = some off) (h : (i : Int) + off = (t : Int)) : WP E d M i ls (.int (nI k) :: st) σ Q = WP E d M t ls st σ Q := w_nx hd (by
  simp only [stpI, doSw, nI_toInt hh]
  rw [if_neg (by omega), show ((k : Int) - (lo : Int)).toNat = k - lo by omega, ho]
  dsimp only
  rw [jp_eq h]
  rfl)
theorem w_swD {d0 : Int} {lo hi : Nat} {offs : Array Int} {len t : Nat} {x : Int32} (hd : decode (mC M) i = .ok (.tableswitch d0 (lo : Int) (hi : Int) offs, len)) (hh : hi < 2 ^ 31) (hne : ∀ k : Nat, lo ≤ k → k ≤ hi → x ≠ nI k) (h : (i : Int) + d0 = (t : Int)) : WP E d M i ls (.int x :: st) σ Q = WP E d M t ls st σ Q := w_nx hd (by
  simp only [stpI, doSw]
  rw [if_pos (sw_lt hh hne), jp_eq h]
  rfl)
theorem w_lk {d0 : Int} {ps : Array (Int × Int)} {len t : Nat} {off : Int} {x : Int32} (hd : decode (mC M) i = .ok (.lookupswitch d0 ps, len)) (hp : (ps.toList.zip (ps.toList.drop 1)).all (fun (a, next) => a.1 < next.1) = true) (ho : Op.lookupswitch.offset ps.toList d0 x.toInt = off) (h : (i : Int) + off = (t : Int)) : WP E d M i ls (.int x :: st) σ Q = WP E d M t ls st σ Q := w_nx hd (by
  simp only [stpI, doLk]
  rw [if_pos hp, ho, jp_eq h]
  rfl)
end SW
def cpOk (sp dp n : Int32) (na nb : Nat) : Bool := !decide (sp < 0) && !decide (dp < 0) && !decide (n < 0) && decide (sp.toNatClampNeg + n.toNatClampNeg ≤ na) && decide (dp.toNatClampNeg + n.toNatClampNeg ≤ nb)
section CP
variable {E : mEn} {d : Nat} {M : mM} {Q : mPost} {i : Nat} {ls st : List Value} {σ : mSt} {idx a b na nb : Nat} {sp dp n : Int32} {fa fb : List Nat}
theorem cpOk_of (h : cpOk sp dp n na nb = true) : ¬ sp < 0 ∧ ¬ dp < 0 ∧ ¬ n < 0 ∧ sp.toNatClampNeg + n.toNatClampNeg ≤ na ∧ dp.toNatClampNeg + n.toNatClampNeg ≤ nb := by
  simpa [cpOk, and_assoc] using h
theorem w_cpi (hd : decode (mC M) i = .ok (.invokestatic idx, 3)) (hz : mRz (mK M) idx = some (.inr (.inr (.inr (.inr 0))))) (ha : mS0[a]? = some (0, na, fa)) (hb : mS0[b]? = some (0, nb, fb)) (h : cpOk sp dp n na nb = true) (hc : cats st ≤ 8) : WP E d M i ls (.int n :: .int dp :: .ref b :: .int sp :: .ref a :: st) σ Q = WP E d M (i + 3) ls st (cpI σ a b sp.toNatClampNeg dp.toNatClampNeg n.toNatClampNeg) Q := by
  obtain ⟨h1, h2, h3, h4, h5⟩ := cpOk_of h
  refine w_nx hd ?_
  simp only [stpI, doStat, if_true, hz, doCopy, h1, h2, h3, ha, hb, h4, h5, false_or, Nat.not_lt.mpr hc, if_false, and_self]
  rfl
theorem w_cpz (hd : decode (mC M) i = .ok (.invokestatic idx, 3)) (hz : mRz (mK M) idx = some (.inr (.inr (.inr (.inr 0))))) (ha : mS0[a]? = some (2, na, fa)) (hb : mS0[b]? = some (2, nb, fb)) (h : cpOk sp dp n na nb = true) (hf : ∀ j, j < n.toNatClampNeg → fits .boolean (.int (σ.1 a (sp.toNatClampNeg + j))) = true) (hc : cats st ≤ 8) : WP E d M i ls (.int n :: .int dp :: .ref b :: .int sp :: .ref a :: st) σ Q = WP E d M (i + 3) ls st (cpI σ a b sp.toNatClampNeg dp.toNatClampNeg n.toNatClampNeg) Q := by
  obtain ⟨h1, h2, h3, h4, h5⟩ := cpOk_of h
  refine w_nx hd ?_
  have h6 : (List.range n.toNatClampNeg).all (fun j => fits .boolean (.int (σ.1 a (sp.toNatClampNeg + j)))) = true := List.all_eq_true.mpr (fun j hj => hf j (List.mem_range.mp hj))
  simp only [stpI, doStat, if_true, hz, doCopy, h1, h2, h3, ha, hb, h4, h5, false_or, Nat.not_lt.mpr hc, if_false, and_self, show ¬ ((2 : Nat) = 0) by decide, h6]
  rfl
theorem w_cpl (hd : decode (mC M) i = .ok (.invokestatic idx, 3)) (hz : mRz (mK M) idx = some (.inr (.inr (.inr (.inr 0))))) (ha : mS0[a]? = some (3, na, fa)) (hb : mS0[b]? = some (3, nb, fb)) (h : cpOk sp dp n na nb = true) (hc : cats st ≤ 8) : WP E d M i ls (.int n :: .int dp :: .ref b :: .int sp :: .ref a :: st) σ Q = WP E d M (i + 3) ls st (cpL σ a b sp.toNatClampNeg dp.toNatClampNeg n.toNatClampNeg) Q := by
  obtain ⟨h1, h2, h3, h4, h5⟩ := cpOk_of h
  refine w_nx hd ?_
  simp only [stpI, doStat, if_true, hz, doCopy, h1, h2, h3, ha, hb, h4, h5, false_or, Nat.not_lt.mpr hc, if_false, and_self, show ¬ ((3 : Nat) = 0) by decide, show ¬ ((3 : Nat) = 2) by decide]
  rfl
end CP

