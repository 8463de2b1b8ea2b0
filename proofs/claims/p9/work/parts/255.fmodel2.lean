/-! the reference: a minute, as functions -/
theorem dX9_choice_0 : decode cX9_choice 0 = .ok (.aload_n 0, 1) := of_0 ok_aload_n_0 (by decide +kernel)
theorem dX9_choice_1 : decode cX9_choice 1 = .ok (.getfield 97, 3) := of_u2 ok_getfield 0 97 (by decide +kernel)
theorem dX9_choice_4 : decode cX9_choice 4 = .ok (.iload_n 1, 1) := of_0 ok_iload_n_1 (by decide +kernel)
theorem dX9_choice_5 : decode cX9_choice 5 = .ok (.iaload, 1) := of_0 ok_iaload (by decide +kernel)
theorem dX9_choice_6 : decode cX9_choice 6 = .ok (.iconst (-1), 1) := of_0 ok_iconst_m1 (by decide +kernel)
theorem dX9_choice_7 : decode cX9_choice 7 = .ok (.if_icmp .eq 10, 3) := of_s2 ok_if_icmp_eq 0 10 (by decide +kernel)
theorem dX9_choice_10 : decode cX9_choice 10 = .ok (.aload_n 0, 1) := of_0 ok_aload_n_0 (by decide +kernel)
theorem dX9_choice_11 : decode cX9_choice 11 = .ok (.getfield 97, 3) := of_u2 ok_getfield 0 97 (by decide +kernel)
theorem dX9_choice_14 : decode cX9_choice 14 = .ok (.iload_n 1, 1) := of_0 ok_iload_n_1 (by decide +kernel)
theorem dX9_choice_15 : decode cX9_choice 15 = .ok (.iaload, 1) := of_0 ok_iaload (by decide +kernel)
theorem dX9_choice_16 : decode cX9_choice 16 = .ok (.ireturn, 1) := of_0 ok_ireturn (by decide +kernel)
theorem dX9_choice_17 : decode cX9_choice 17 = .ok (.aload_n 0, 1) := of_0 ok_aload_n_0 (by decide +kernel)
theorem dX9_choice_18 : decode cX9_choice 18 = .ok (.getfield 9, 3) := of_u2 ok_getfield 0 9 (by decide +kernel)
theorem dX9_choice_21 : decode cX9_choice 21 = .ok (.bipush 7, 2) := of_s1 ok_bipush 7 (by decide +kernel)
theorem dX9_choice_23 : decode cX9_choice 23 = .ok (.iaload, 1) := of_0 ok_iaload (by decide +kernel)
theorem dX9_choice_24 : decode cX9_choice 24 = .ok (.iconst (-1), 1) := of_0 ok_iconst_m1 (by decide +kernel)
theorem dX9_choice_25 : decode cX9_choice 25 = .ok (.if_icmp .ne 10, 3) := of_s2 ok_if_icmp_ne 0 10 (by decide +kernel)
theorem dX9_choice_28 : decode cX9_choice 28 = .ok (.aload_n 0, 1) := of_0 ok_aload_n_0 (by decide +kernel)
theorem dX9_choice_29 : decode cX9_choice 29 = .ok (.getfield 16, 3) := of_u2 ok_getfield 0 16 (by decide +kernel)
theorem dX9_choice_32 : decode cX9_choice 32 = .ok (.iload_n 1, 1) := of_0 ok_iload_n_1 (by decide +kernel)
theorem dX9_choice_33 : decode cX9_choice 33 = .ok (.iaload, 1) := of_0 ok_iaload (by decide +kernel)
theorem dX9_choice_34 : decode cX9_choice 34 = .ok (.ireturn, 1) := of_0 ok_ireturn (by decide +kernel)
theorem dX9_choice_35 : decode cX9_choice 35 = .ok (.aload_n 0, 1) := of_0 ok_aload_n_0 (by decide +kernel)
theorem dX9_choice_36 : decode cX9_choice 36 = .ok (.aload_n 0, 1) := of_0 ok_aload_n_0 (by decide +kernel)
theorem dX9_choice_37 : decode cX9_choice 37 = .ok (.iconst 1, 1) := of_0 ok_iconst_1 (by decide +kernel)
theorem dX9_choice_38 : decode cX9_choice 38 = .ok (.invokevirtual 341, 3) := of_u2 ok_invokevirtual 1 85 (by decide +kernel)
theorem dX9_choice_41 : decode cX9_choice 41 = .ok (.aload_n 0, 1) := of_0 ok_aload_n_0 (by decide +kernel)
theorem dX9_choice_42 : decode cX9_choice 42 = .ok (.getfield 19, 3) := of_u2 ok_getfield 0 19 (by decide +kernel)
theorem dX9_choice_45 : decode cX9_choice 45 = .ok (.aload_n 0, 1) := of_0 ok_aload_n_0 (by decide +kernel)
theorem dX9_choice_46 : decode cX9_choice 46 = .ok (.getfield 28, 3) := of_u2 ok_getfield 0 28 (by decide +kernel)
theorem dX9_choice_49 : decode cX9_choice 49 = .ok (.iload_n 1, 1) := of_0 ok_iload_n_1 (by decide +kernel)
theorem dX9_choice_50 : decode cX9_choice 50 = .ok (.iaload, 1) := of_0 ok_iaload (by decide +kernel)
theorem dX9_choice_51 : decode cX9_choice 51 = .ok (.iaload, 1) := of_0 ok_iaload (by decide +kernel)
theorem dX9_choice_52 : decode cX9_choice 52 = .ok (.invokevirtual 335, 3) := of_u2 ok_invokevirtual 1 79 (by decide +kernel)
theorem dX9_choice_55 : decode cX9_choice 55 = .ok (.iconst 1, 1) := of_0 ok_iconst_1 (by decide +kernel)
theorem dX9_choice_56 : decode cX9_choice 56 = .ok (.iload_n 1, 1) := of_0 ok_iload_n_1 (by decide +kernel)
theorem dX9_choice_57 : decode cX9_choice 57 = .ok (.ishl, 1) := of_0 ok_ishl (by decide +kernel)
theorem dX9_choice_58 : decode cX9_choice 58 = .ok (.iconst (-1), 1) := of_0 ok_iconst_m1 (by decide +kernel)
theorem dX9_choice_59 : decode cX9_choice 59 = .ok (.ixor, 1) := of_0 ok_ixor (by decide +kernel)
theorem dX9_choice_60 : decode cX9_choice 60 = .ok (.iand, 1) := of_0 ok_iand (by decide +kernel)
theorem dX9_choice_61 : decode cX9_choice 61 = .ok (.istore_n 2, 1) := of_0 ok_istore_n_2 (by decide +kernel)
theorem dX9_choice_62 : decode cX9_choice 62 = .ok (.aload_n 0, 1) := of_0 ok_aload_n_0 (by decide +kernel)
theorem dX9_choice_63 : decode cX9_choice 63 = .ok (.getfield 90, 3) := of_u2 ok_getfield 0 90 (by decide +kernel)
theorem dX9_choice_66 : decode cX9_choice 66 = .ok (.iconst 0, 1) := of_0 ok_iconst_0 (by decide +kernel)
theorem dX9_choice_67 : decode cX9_choice 67 = .ok (.iload_n 1, 1) := of_0 ok_iload_n_1 (by decide +kernel)
theorem dX9_choice_68 : decode cX9_choice 68 = .ok (.i2l, 1) := of_0 ok_i2l (by decide +kernel)
theorem dX9_choice_69 : decode cX9_choice 69 = .ok (.lastore, 1) := of_0 ok_lastore (by decide +kernel)
theorem dX9_choice_70 : decode cX9_choice 70 = .ok (.aload_n 0, 1) := of_0 ok_aload_n_0 (by decide +kernel)
theorem dX9_choice_71 : decode cX9_choice 71 = .ok (.getfield 90, 3) := of_u2 ok_getfield 0 90 (by decide +kernel)
theorem dX9_choice_74 : decode cX9_choice 74 = .ok (.iconst 1, 1) := of_0 ok_iconst_1 (by decide +kernel)
theorem dX9_choice_75 : decode cX9_choice 75 = .ok (.aload_n 0, 1) := of_0 ok_aload_n_0 (by decide +kernel)
theorem dX9_choice_76 : decode cX9_choice 76 = .ok (.getfield 28, 3) := of_u2 ok_getfield 0 28 (by decide +kernel)
theorem dX9_choice_79 : decode cX9_choice 79 = .ok (.iload_n 1, 1) := of_0 ok_iload_n_1 (by decide +kernel)
theorem dX9_choice_80 : decode cX9_choice 80 = .ok (.iaload, 1) := of_0 ok_iaload (by decide +kernel)
theorem dX9_choice_81 : decode cX9_choice 81 = .ok (.i2l, 1) := of_0 ok_i2l (by decide +kernel)
theorem dX9_choice_82 : decode cX9_choice 82 = .ok (.lastore, 1) := of_0 ok_lastore (by decide +kernel)
theorem dX9_choice_83 : decode cX9_choice 83 = .ok (.aload_n 0, 1) := of_0 ok_aload_n_0 (by decide +kernel)
theorem dX9_choice_84 : decode cX9_choice 84 = .ok (.getfield 90, 3) := of_u2 ok_getfield 0 90 (by decide +kernel)
theorem dX9_choice_87 : decode cX9_choice 87 = .ok (.iconst 2, 1) := of_0 ok_iconst_2 (by decide +kernel)
theorem dX9_choice_88 : decode cX9_choice 88 = .ok (.aload_n 0, 1) := of_0 ok_aload_n_0 (by decide +kernel)
theorem dX9_choice_89 : decode cX9_choice 89 = .ok (.getfield 22, 3) := of_u2 ok_getfield 0 22 (by decide +kernel)
theorem dX9_choice_92 : decode cX9_choice 92 = .ok (.iload_n 1, 1) := of_0 ok_iload_n_1 (by decide +kernel)
theorem dX9_choice_93 : decode cX9_choice 93 = .ok (.iaload, 1) := of_0 ok_iaload (by decide +kernel)
theorem dX9_choice_94 : decode cX9_choice 94 = .ok (.i2l, 1) := of_0 ok_i2l (by decide +kernel)
theorem dX9_choice_95 : decode cX9_choice 95 = .ok (.lastore, 1) := of_0 ok_lastore (by decide +kernel)
theorem dX9_choice_96 : decode cX9_choice 96 = .ok (.aload_n 0, 1) := of_0 ok_aload_n_0 (by decide +kernel)
theorem dX9_choice_97 : decode cX9_choice 97 = .ok (.getfield 90, 3) := of_u2 ok_getfield 0 90 (by decide +kernel)
theorem dX9_choice_100 : decode cX9_choice 100 = .ok (.iconst 3, 1) := of_0 ok_iconst_3 (by decide +kernel)
theorem dX9_choice_101 : decode cX9_choice 101 = .ok (.aload_n 0, 1) := of_0 ok_aload_n_0 (by decide +kernel)
theorem dX9_choice_102 : decode cX9_choice 102 = .ok (.getfield 25, 3) := of_u2 ok_getfield 0 25 (by decide +kernel)
theorem dX9_choice_105 : decode cX9_choice 105 = .ok (.aload_n 0, 1) := of_0 ok_aload_n_0 (by decide +kernel)
theorem dX9_choice_106 : decode cX9_choice 106 = .ok (.getfield 28, 3) := of_u2 ok_getfield 0 28 (by decide +kernel)
theorem dX9_choice_109 : decode cX9_choice 109 = .ok (.iload_n 1, 1) := of_0 ok_iload_n_1 (by decide +kernel)
theorem dX9_choice_110 : decode cX9_choice 110 = .ok (.iaload, 1) := of_0 ok_iaload (by decide +kernel)
theorem dX9_choice_111 : decode cX9_choice 111 = .ok (.iaload, 1) := of_0 ok_iaload (by decide +kernel)
theorem dX9_choice_112 : decode cX9_choice 112 = .ok (.i2l, 1) := of_0 ok_i2l (by decide +kernel)
theorem dX9_choice_113 : decode cX9_choice 113 = .ok (.lastore, 1) := of_0 ok_lastore (by decide +kernel)
theorem dX9_choice_114 : decode cX9_choice 114 = .ok (.aload_n 0, 1) := of_0 ok_aload_n_0 (by decide +kernel)
theorem dX9_choice_115 : decode cX9_choice 115 = .ok (.getfield 90, 3) := of_u2 ok_getfield 0 90 (by decide +kernel)
theorem dX9_choice_118 : decode cX9_choice 118 = .ok (.iconst 4, 1) := of_0 ok_iconst_4 (by decide +kernel)
theorem dX9_choice_119 : decode cX9_choice 119 = .ok (.aload_n 0, 1) := of_0 ok_aload_n_0 (by decide +kernel)
theorem dX9_choice_120 : decode cX9_choice 120 = .ok (.getfield 13, 3) := of_u2 ok_getfield 0 13 (by decide +kernel)
theorem dX9_choice_123 : decode cX9_choice 123 = .ok (.aload_n 0, 1) := of_0 ok_aload_n_0 (by decide +kernel)
theorem dX9_choice_124 : decode cX9_choice 124 = .ok (.getfield 19, 3) := of_u2 ok_getfield 0 19 (by decide +kernel)
theorem dX9_choice_127 : decode cX9_choice 127 = .ok (.aload_n 0, 1) := of_0 ok_aload_n_0 (by decide +kernel)
theorem dX9_choice_128 : decode cX9_choice 128 = .ok (.getfield 28, 3) := of_u2 ok_getfield 0 28 (by decide +kernel)
theorem dX9_choice_131 : decode cX9_choice 131 = .ok (.iload_n 1, 1) := of_0 ok_iload_n_1 (by decide +kernel)
theorem dX9_choice_132 : decode cX9_choice 132 = .ok (.iaload, 1) := of_0 ok_iaload (by decide +kernel)
theorem dX9_choice_133 : decode cX9_choice 133 = .ok (.iaload, 1) := of_0 ok_iaload (by decide +kernel)
theorem dX9_choice_134 : decode cX9_choice 134 = .ok (.iaload, 1) := of_0 ok_iaload (by decide +kernel)
theorem dX9_choice_135 : decode cX9_choice 135 = .ok (.i2l, 1) := of_0 ok_i2l (by decide +kernel)
theorem dX9_choice_136 : decode cX9_choice 136 = .ok (.lastore, 1) := of_0 ok_lastore (by decide +kernel)
theorem dX9_choice_137 : decode cX9_choice 137 = .ok (.aload_n 0, 1) := of_0 ok_aload_n_0 (by decide +kernel)
theorem dX9_choice_138 : decode cX9_choice 138 = .ok (.getfield 90, 3) := of_u2 ok_getfield 0 90 (by decide +kernel)
theorem dX9_choice_141 : decode cX9_choice 141 = .ok (.iconst 5, 1) := of_0 ok_iconst_5 (by decide +kernel)
theorem dX9_choice_142 : decode cX9_choice 142 = .ok (.aload_n 0, 1) := of_0 ok_aload_n_0 (by decide +kernel)
theorem dX9_choice_143 : decode cX9_choice 143 = .ok (.getfield 16, 3) := of_u2 ok_getfield 0 16 (by decide +kernel)
theorem dX9_choice_146 : decode cX9_choice 146 = .ok (.iload_n 1, 1) := of_0 ok_iload_n_1 (by decide +kernel)
theorem dX9_choice_147 : decode cX9_choice 147 = .ok (.iaload, 1) := of_0 ok_iaload (by decide +kernel)
theorem dX9_choice_148 : decode cX9_choice 148 = .ok (.i2l, 1) := of_0 ok_i2l (by decide +kernel)
theorem dX9_choice_149 : decode cX9_choice 149 = .ok (.lastore, 1) := of_0 ok_lastore (by decide +kernel)
theorem dX9_choice_150 : decode cX9_choice 150 = .ok (.aload_n 0, 1) := of_0 ok_aload_n_0 (by decide +kernel)
theorem dX9_choice_151 : decode cX9_choice 151 = .ok (.getfield 90, 3) := of_u2 ok_getfield 0 90 (by decide +kernel)
theorem dX9_choice_154 : decode cX9_choice 154 = .ok (.bipush 6, 2) := of_s1 ok_bipush 6 (by decide +kernel)
theorem dX9_choice_156 : decode cX9_choice 156 = .ok (.aload_n 0, 1) := of_0 ok_aload_n_0 (by decide +kernel)
theorem dX9_choice_157 : decode cX9_choice 157 = .ok (.iload_n 1, 1) := of_0 ok_iload_n_1 (by decide +kernel)
theorem dX9_choice_158 : decode cX9_choice 158 = .ok (.invokevirtual 359, 3) := of_u2 ok_invokevirtual 1 103 (by decide +kernel)
theorem dX9_choice_161 : decode cX9_choice 161 = .ok (.i2l, 1) := of_0 ok_i2l (by decide +kernel)
theorem dX9_choice_162 : decode cX9_choice 162 = .ok (.lastore, 1) := of_0 ok_lastore (by decide +kernel)
theorem dX9_choice_163 : decode cX9_choice 163 = .ok (.aload_n 0, 1) := of_0 ok_aload_n_0 (by decide +kernel)
theorem dX9_choice_164 : decode cX9_choice 164 = .ok (.getfield 90, 3) := of_u2 ok_getfield 0 90 (by decide +kernel)
theorem dX9_choice_167 : decode cX9_choice 167 = .ok (.bipush 7, 2) := of_s1 ok_bipush 7 (by decide +kernel)
theorem dX9_choice_169 : decode cX9_choice 169 = .ok (.iload_n 2, 1) := of_0 ok_iload_n_2 (by decide +kernel)
theorem dX9_choice_170 : decode cX9_choice 170 = .ok (.invokestatic 370, 3) := of_u2 ok_invokestatic 1 114 (by decide +kernel)
theorem dX9_choice_173 : decode cX9_choice 173 = .ok (.i2l, 1) := of_0 ok_i2l (by decide +kernel)
theorem dX9_choice_174 : decode cX9_choice 174 = .ok (.lastore, 1) := of_0 ok_lastore (by decide +kernel)
theorem dX9_choice_175 : decode cX9_choice 175 = .ok (.aload_n 0, 1) := of_0 ok_aload_n_0 (by decide +kernel)
theorem dX9_choice_176 : decode cX9_choice 176 = .ok (.getfield 90, 3) := of_u2 ok_getfield 0 90 (by decide +kernel)
theorem dX9_choice_179 : decode cX9_choice 179 = .ok (.bipush 8, 2) := of_s1 ok_bipush 8 (by decide +kernel)
theorem dX9_choice_181 : decode cX9_choice 181 = .ok (.aload_n 0, 1) := of_0 ok_aload_n_0 (by decide +kernel)
theorem dX9_choice_182 : decode cX9_choice 182 = .ok (.iload_n 2, 1) := of_0 ok_iload_n_2 (by decide +kernel)
theorem dX9_choice_183 : decode cX9_choice 183 = .ok (.invokevirtual 338, 3) := of_u2 ok_invokevirtual 1 82 (by decide +kernel)
theorem dX9_choice_186 : decode cX9_choice 186 = .ok (.i2l, 1) := of_0 ok_i2l (by decide +kernel)
theorem dX9_choice_187 : decode cX9_choice 187 = .ok (.lastore, 1) := of_0 ok_lastore (by decide +kernel)
theorem dX9_choice_188 : decode cX9_choice 188 = .ok (.aload_n 0, 1) := of_0 ok_aload_n_0 (by decide +kernel)
theorem dX9_choice_189 : decode cX9_choice 189 = .ok (.getfield 90, 3) := of_u2 ok_getfield 0 90 (by decide +kernel)
theorem dX9_choice_192 : decode cX9_choice 192 = .ok (.bipush 9, 2) := of_s1 ok_bipush 9 (by decide +kernel)
theorem dX9_choice_194 : decode cX9_choice 194 = .ok (.aload_n 0, 1) := of_0 ok_aload_n_0 (by decide +kernel)
theorem dX9_choice_195 : decode cX9_choice 195 = .ok (.iconst 2, 1) := of_0 ok_iconst_2 (by decide +kernel)
theorem dX9_choice_196 : decode cX9_choice 196 = .ok (.invokevirtual 341, 3) := of_u2 ok_invokevirtual 1 85 (by decide +kernel)
theorem dX9_choice_199 : decode cX9_choice 199 = .ok (.invokestatic 370, 3) := of_u2 ok_invokestatic 1 114 (by decide +kernel)
theorem dX9_choice_202 : decode cX9_choice 202 = .ok (.i2l, 1) := of_0 ok_i2l (by decide +kernel)
theorem dX9_choice_203 : decode cX9_choice 203 = .ok (.lastore, 1) := of_0 ok_lastore (by decide +kernel)
theorem dX9_choice_204 : decode cX9_choice 204 = .ok (.aload_n 0, 1) := of_0 ok_aload_n_0 (by decide +kernel)
theorem dX9_choice_205 : decode cX9_choice 205 = .ok (.getfield 90, 3) := of_u2 ok_getfield 0 90 (by decide +kernel)
theorem dX9_choice_208 : decode cX9_choice 208 = .ok (.bipush 10, 2) := of_s1 ok_bipush 10 (by decide +kernel)
theorem dX9_choice_210 : decode cX9_choice 210 = .ok (.aload_n 0, 1) := of_0 ok_aload_n_0 (by decide +kernel)
theorem dX9_choice_211 : decode cX9_choice 211 = .ok (.getfield 9, 3) := of_u2 ok_getfield 0 9 (by decide +kernel)
theorem dX9_choice_214 : decode cX9_choice 214 = .ok (.iconst 4, 1) := of_0 ok_iconst_4 (by decide +kernel)
theorem dX9_choice_215 : decode cX9_choice 215 = .ok (.iaload, 1) := of_0 ok_iaload (by decide +kernel)
theorem dX9_choice_216 : decode cX9_choice 216 = .ok (.i2l, 1) := of_0 ok_i2l (by decide +kernel)
theorem dX9_choice_217 : decode cX9_choice 217 = .ok (.lastore, 1) := of_0 ok_lastore (by decide +kernel)
theorem dX9_choice_218 : decode cX9_choice 218 = .ok (.aload_n 0, 1) := of_0 ok_aload_n_0 (by decide +kernel)
theorem dX9_choice_219 : decode cX9_choice 219 = .ok (.invokevirtual 373, 3) := of_u2 ok_invokevirtual 1 117 (by decide +kernel)
theorem dX9_choice_222 : decode cX9_choice 222 = .ok (.lconst 0, 1) := of_0 ok_lconst_0 (by decide +kernel)
theorem dX9_choice_223 : decode cX9_choice 223 = .ok (.lcmp, 1) := of_0 ok_lcmp (by decide +kernel)
theorem dX9_choice_224 : decode cX9_choice 224 = .ok (.ifCond .le 7, 3) := of_s2 ok_ifCond_le 0 7 (by decide +kernel)
theorem dX9_choice_227 : decode cX9_choice 227 = .ok (.iconst 1, 1) := of_0 ok_iconst_1 (by decide +kernel)
theorem dX9_choice_228 : decode cX9_choice 228 = .ok (.goto 4, 3) := of_s2 ok_goto 0 4 (by decide +kernel)
theorem dX9_choice_231 : decode cX9_choice 231 = .ok (.iconst 0, 1) := of_0 ok_iconst_0 (by decide +kernel)
theorem dX9_choice_232 : decode cX9_choice 232 = .ok (.ireturn, 1) := of_0 ok_ireturn (by decide +kernel)
theorem dX9_goFor_0 : decode cX9_goFor 0 = .ok (.iconst 0, 1) := of_0 ok_iconst_0 (by decide +kernel)
theorem dX9_goFor_1 : decode cX9_goFor 1 = .ok (.istore_n 2, 1) := of_0 ok_istore_n_2 (by decide +kernel)
theorem dX9_goFor_2 : decode cX9_goFor 2 = .ok (.iload_n 2, 1) := of_0 ok_iload_n_2 (by decide +kernel)
theorem dX9_goFor_3 : decode cX9_goFor 3 = .ok (.iload_n 1, 1) := of_0 ok_iload_n_1 (by decide +kernel)
theorem dX9_goFor_4 : decode cX9_goFor 4 = .ok (.if_icmp .ge 14, 3) := of_s2 ok_if_icmp_ge 0 14 (by decide +kernel)
theorem dX9_goFor_7 : decode cX9_goFor 7 = .ok (.aload_n 0, 1) := of_0 ok_aload_n_0 (by decide +kernel)
theorem dX9_goFor_8 : decode cX9_goFor 8 = .ok (.invokevirtual 383, 3) := of_u2 ok_invokevirtual 1 127 (by decide +kernel)
theorem dX9_goFor_11 : decode cX9_goFor 11 = .ok (.pop, 1) := of_0 ok_pop (by decide +kernel)
theorem dX9_goFor_12 : decode cX9_goFor 12 = .ok (.iinc 2 1, 3) := of_ii ok_iinc 1 (by decide +kernel)
theorem dX9_goFor_15 : decode cX9_goFor 15 = .ok (.goto (-13), 3) := of_s2 ok_goto 255 243 (by decide +kernel)
theorem dX9_goFor_18 : decode cX9_goFor 18 = .ok (.return_, 1) := of_0 ok_return_ (by decide +kernel)
theorem dX9_goes_0 : decode cX9_goes 0 = .ok (.iconst 0, 1) := of_0 ok_iconst_0 (by decide +kernel)
theorem dX9_goes_1 : decode cX9_goes 1 = .ok (.istore_n 1, 1) := of_0 ok_istore_n_1 (by decide +kernel)
theorem dX9_goes_2 : decode cX9_goes 2 = .ok (.iload_n 1, 1) := of_0 ok_iload_n_1 (by decide +kernel)
theorem dX9_goes_3 : decode cX9_goes 3 = .ok (.aload_n 0, 1) := of_0 ok_aload_n_0 (by decide +kernel)
theorem dX9_goes_4 : decode cX9_goes 4 = .ok (.getfield 9, 3) := of_u2 ok_getfield 0 9 (by decide +kernel)
theorem dX9_goes_7 : decode cX9_goes 7 = .ok (.iconst 3, 1) := of_0 ok_iconst_3 (by decide +kernel)
theorem dX9_goes_8 : decode cX9_goes 8 = .ok (.iaload, 1) := of_0 ok_iaload (by decide +kernel)
theorem dX9_goes_9 : decode cX9_goes 9 = .ok (.if_icmp .ge 34, 3) := of_s2 ok_if_icmp_ge 0 34 (by decide +kernel)
theorem dX9_goes_12 : decode cX9_goes 12 = .ok (.aload_n 0, 1) := of_0 ok_aload_n_0 (by decide +kernel)
theorem dX9_goes_13 : decode cX9_goes 13 = .ok (.getfield 16, 3) := of_u2 ok_getfield 0 16 (by decide +kernel)
theorem dX9_goes_16 : decode cX9_goes 16 = .ok (.iload_n 1, 1) := of_0 ok_iload_n_1 (by decide +kernel)
theorem dX9_goes_17 : decode cX9_goes 17 = .ok (.aload_n 0, 1) := of_0 ok_aload_n_0 (by decide +kernel)
theorem dX9_goes_18 : decode cX9_goes 18 = .ok (.getfield 16, 3) := of_u2 ok_getfield 0 16 (by decide +kernel)
theorem dX9_goes_21 : decode cX9_goes 21 = .ok (.iload_n 1, 1) := of_0 ok_iload_n_1 (by decide +kernel)
theorem dX9_goes_22 : decode cX9_goes 22 = .ok (.iaload, 1) := of_0 ok_iaload (by decide +kernel)
theorem dX9_goes_23 : decode cX9_goes 23 = .ok (.iconst 2, 1) := of_0 ok_iconst_2 (by decide +kernel)
theorem dX9_goes_24 : decode cX9_goes 24 = .ok (.if_icmp .ne 7, 3) := of_s2 ok_if_icmp_ne 0 7 (by decide +kernel)
theorem dX9_goes_27 : decode cX9_goes 27 = .ok (.iconst 2, 1) := of_0 ok_iconst_2 (by decide +kernel)
theorem dX9_goes_28 : decode cX9_goes 28 = .ok (.goto 8, 3) := of_s2 ok_goto 0 8 (by decide +kernel)
theorem dX9_goes_31 : decode cX9_goes 31 = .ok (.aload_n 0, 1) := of_0 ok_aload_n_0 (by decide +kernel)
theorem dX9_goes_32 : decode cX9_goes 32 = .ok (.iload_n 1, 1) := of_0 ok_iload_n_1 (by decide +kernel)
theorem dX9_goes_33 : decode cX9_goes 33 = .ok (.invokevirtual 377, 3) := of_u2 ok_invokevirtual 1 121 (by decide +kernel)
theorem dX9_goes_36 : decode cX9_goes 36 = .ok (.iastore, 1) := of_0 ok_iastore (by decide +kernel)
theorem dX9_goes_37 : decode cX9_goes 37 = .ok (.iinc 1 1, 3) := of_ii ok_iinc 1 (by decide +kernel)
theorem dX9_goes_40 : decode cX9_goes 40 = .ok (.goto (-38), 3) := of_s2 ok_goto 255 218 (by decide +kernel)
theorem dX9_goes_43 : decode cX9_goes 43 = .ok (.aload_n 0, 1) := of_0 ok_aload_n_0 (by decide +kernel)
theorem dX9_goes_44 : decode cX9_goes 44 = .ok (.getfield 9, 3) := of_u2 ok_getfield 0 9 (by decide +kernel)
theorem dX9_goes_47 : decode cX9_goes 47 = .ok (.iconst 4, 1) := of_0 ok_iconst_4 (by decide +kernel)
theorem dX9_goes_48 : decode cX9_goes 48 = .ok (.dup2, 1) := of_0 ok_dup2 (by decide +kernel)
theorem dX9_goes_49 : decode cX9_goes 49 = .ok (.iaload, 1) := of_0 ok_iaload (by decide +kernel)
theorem dX9_goes_50 : decode cX9_goes 50 = .ok (.iconst 1, 1) := of_0 ok_iconst_1 (by decide +kernel)
theorem dX9_goes_51 : decode cX9_goes 51 = .ok (.iadd, 1) := of_0 ok_iadd (by decide +kernel)
theorem dX9_goes_52 : decode cX9_goes 52 = .ok (.iastore, 1) := of_0 ok_iastore (by decide +kernel)
theorem dX9_goes_53 : decode cX9_goes 53 = .ok (.aload_n 0, 1) := of_0 ok_aload_n_0 (by decide +kernel)
theorem dX9_goes_54 : decode cX9_goes 54 = .ok (.invokevirtual 380, 3) := of_u2 ok_invokevirtual 1 124 (by decide +kernel)
theorem dX9_goes_57 : decode cX9_goes 57 = .ok (.ireturn, 1) := of_0 ok_ireturn (by decide +kernel)
set_option maxRecDepth 20000 in
theorem bq_wsX9_choice : subq wsX9_choice [wsX9_choice_r1, wsX9_choice_r2, wsX9_choice_r3] := ⟨(fun _ h => (List.mem_cons_of_mem _ (List.mem_append_left _ (List.mem_append_left _ h)))), (fun _ h => (List.mem_cons_of_mem _ (List.mem_append_left _ (List.mem_append_right _ (List.mem_append_left _ h))))), (fun _ h => (List.mem_cons_of_mem _ (List.mem_append_left _ (List.mem_append_right _ (List.mem_append_right _ h))))), trivial⟩
set_option maxRecDepth 20000 in
theorem ggX9_choice_X9_bits : GoodIn wsX9_choice wsX9_bits := (goodIn_cons (good_rb bq_wsX9_choice ([(1, 11)] : List (Nat × Nat)) rfl (by decide +kernel)) (good_rb bq_wsX9_choice ([] : List (Nat × Nat)) rfl (by decide +kernel)))
set_option maxRecDepth 20000 in
theorem gX9_choice_X9_bits : GoodIn wsX9_choice (va_wsS RX9 370 yX9_bits wsX9_bits) := goodIn_app (good_rp ([34, 35, 13] : List Nat) rfl (by decide +kernel)) ggX9_choice_X9_bits
set_option maxRecDepth 20000 in
theorem ggX9_choice_X9_givesNow : GoodIn wsX9_choice wsX9_givesNow := (goodIn_cons (good_rb bq_wsX9_choice ([(1, 0)] : List (Nat × Nat)) rfl (by decide +kernel)) (goodIn_app (goodIn_app (good_rb bq_wsX9_choice ([(0, 9), (0, 10), (0, 11), (0, 12), (0, 13), (0, 1), (0, 2), (1, 1), (1, 2), (1, 3), (1, 4), (0, 3), (0, 4), (0, 8), (0, 6), (0, 18), (0, 19), (0, 20), (0, 14), (0, 15), (0, 16), (0, 17), (1, 5), (1, 6)] : List (Nat × Nat)) rfl (by decide +kernel)) (good_rb bq_wsX9_choice ([(1, 7), (1, 8)] : List (Nat × Nat)) rfl (by decide +kernel))) (goodIn_sb (fun _ h => (List.mem_cons_of_mem _ (List.mem_append_right _ h))) (by decide +kernel))))
set_option maxRecDepth 20000 in
theorem gX9_choice_X9_givesNow : GoodIn wsX9_choice (wsV RX9 359 RX9 yX9_givesNow wsX9_givesNow) := goodIn_app (good_rp ([22, 23, 24, 13] : List Nat) rfl (by decide +kernel)) ggX9_choice_X9_givesNow
set_option maxRecDepth 20000 in
theorem ggX9_choice_X9_onStrand : GoodIn wsX9_choice wsX9_onStrand := (goodIn_cons (good_rb bq_wsX9_choice ([(0, 17)] : List (Nat × Nat)) rfl (by decide +kernel)) (goodIn_app (good_rb bq_wsX9_choice ([(0, 1), (0, 3), (0, 4), (0, 18), (0, 19), (0, 12), (0, 20)] : List (Nat × Nat)) rfl (by decide +kernel)) (goodIn_sb (fun _ h => (List.mem_cons_of_mem _ (List.mem_append_right _ h))) (by decide +kernel))))
set_option maxRecDepth 20000 in
theorem gX9_choice_X9_onStrand : GoodIn wsX9_choice (wsV RX9 335 RX9 yX9_onStrand wsX9_onStrand) := goodIn_app (good_rp ([15, 16, 17, 13] : List Nat) rfl (by decide +kernel)) ggX9_choice_X9_onStrand
set_option maxRecDepth 20000 in
theorem ggX9_choice_X9_those : GoodIn wsX9_choice wsX9_those := (goodIn_cons (good_rb bq_wsX9_choice ([(0, 13)] : List (Nat × Nat)) rfl (by decide +kernel)) (goodIn_app (good_rb bq_wsX9_choice ([(0, 1), (0, 2)] : List (Nat × Nat)) rfl (by decide +kernel)) (goodIn_sb (fun _ h => (List.mem_cons_of_mem _ (List.mem_append_right _ h))) (by decide +kernel))))
set_option maxRecDepth 20000 in
theorem gX9_choice_X9_those : GoodIn wsX9_choice (wsV RX9 341 RX9 yX9_those wsX9_those) := goodIn_app (good_rp ([10, 11, 12, 13] : List Nat) rfl (by decide +kernel)) ggX9_choice_X9_those
set_option maxRecDepth 20000 in
theorem ggX9_choice_X9_wanted : GoodIn wsX9_choice wsX9_wanted := (goodIn_cons (good_rb bq_wsX9_choice ([(1, 15)] : List (Nat × Nat)) rfl (by decide +kernel)) (goodIn_app (good_rb bq_wsX9_choice ([(0, 1), (1, 16), (1, 17), (1, 18), (1, 19), (1, 20), (1, 21), (1, 22), (0, 12), (1, 23), (2, 0), (2, 1), (2, 2), (0, 5), (2, 3), (2, 4), (2, 5), (2, 6), (2, 7), (2, 8)] : List (Nat × Nat)) rfl (by decide +kernel)) (goodIn_sb (fun _ h => (List.mem_cons_of_mem _ (List.mem_append_right _ h))) (by decide +kernel))))
set_option maxRecDepth 20000 in
theorem gX9_choice_X9_wanted : GoodIn wsX9_choice (wsV RX9 373 RX9 yX9_wanted wsX9_wanted) := goodIn_app (good_rp ([37, 38, 39, 13] : List Nat) rfl (by decide +kernel)) ggX9_choice_X9_wanted
set_option maxRecDepth 20000 in
theorem ggX9_choice_X9_weightOf : GoodIn wsX9_choice wsX9_weightOf := (goodIn_cons (good_rb bq_wsX9_choice ([(1, 8)] : List (Nat × Nat)) rfl (by decide +kernel)) (goodIn_app (good_rb bq_wsX9_choice ([(0, 1), (0, 6), (0, 18), (0, 19), (0, 12), (0, 20)] : List (Nat × Nat)) rfl (by decide +kernel)) (goodIn_sb (fun _ h => (List.mem_cons_of_mem _ (List.mem_append_right _ h))) (by decide +kernel))))
set_option maxRecDepth 20000 in
theorem gX9_choice_X9_weightOf : GoodIn wsX9_choice (wsV RX9 338 RX9 yX9_weightOf wsX9_weightOf) := goodIn_app (good_rp ([30, 31, 32, 13] : List Nat) rfl (by decide +kernel)) ggX9_choice_X9_weightOf
set_option maxRecDepth 20000 in
theorem bq_wsX9_goFor : subq wsX9_goFor [wsX9_goFor_r1, wsX9_goFor_r2, wsX9_goFor_r3, wsX9_goFor_r4] := ⟨(fun _ h => (List.mem_cons_of_mem _ (List.mem_append_left _ (List.mem_append_left _ h)))), (fun _ h => (List.mem_cons_of_mem _ (List.mem_append_left _ (List.mem_append_right _ (List.mem_append_left _ h))))), (fun _ h => (List.mem_cons_of_mem _ (List.mem_append_left _ (List.mem_append_right _ (List.mem_append_right _ (List.mem_append_left _ h)))))), (fun _ h => (List.mem_cons_of_mem _ (List.mem_append_left _ (List.mem_append_right _ (List.mem_append_right _ (List.mem_append_right _ h)))))), trivial⟩
set_option maxRecDepth 20000 in
theorem ggX9_goFor_X9_goes : GoodIn wsX9_goFor wsX9_goes := (goodIn_cons (good_rb bq_wsX9_goFor ([(0, 4)] : List (Nat × Nat)) rfl (by decide +kernel)) (goodIn_app (goodIn_app (good_rb bq_wsX9_goFor ([(0, 5), (0, 6), (0, 7), (0, 8), (0, 9), (0, 3), (0, 10), (0, 11), (0, 12), (0, 13), (0, 14), (0, 15), (0, 16), (0, 17), (0, 18), (0, 19), (0, 20), (0, 21), (0, 22), (0, 23), (1, 0), (1, 1), (1, 2), (1, 3)] : List (Nat × Nat)) rfl (by decide +kernel)) (goodIn_app (good_rb bq_wsX9_goFor ([(1, 4), (1, 5), (1, 6), (1, 7), (1, 8), (1, 9), (1, 10), (1, 11), (1, 12), (1, 13), (1, 14), (1, 15), (1, 16), (1, 17), (1, 18), (1, 19), (1, 20), (1, 21), (1, 22), (1, 23), (2, 0), (2, 1), (2, 2), (2, 3)] : List (Nat × Nat)) rfl (by decide +kernel)) (good_rb bq_wsX9_goFor ([(2, 4), (2, 5), (2, 6), (2, 7), (2, 8), (2, 9), (2, 10), (2, 11), (2, 12), (2, 13), (2, 14), (2, 15), (2, 16), (2, 17), (2, 18), (2, 19), (2, 20), (2, 21), (2, 22), (2, 23), (3, 0)] : List (Nat × Nat)) rfl (by decide +kernel)))) (goodIn_sb (fun _ h => (List.mem_cons_of_mem _ (List.mem_append_right _ h))) (by decide +kernel))))
set_option maxRecDepth 20000 in
theorem gX9_goFor_X9_goes : GoodIn wsX9_goFor (wsV RX9 383 RX9 yX9_goes wsX9_goes) := goodIn_app (good_rp ([1, 2, 3, 4] : List Nat) rfl (by decide +kernel)) ggX9_goFor_X9_goes
set_option maxRecDepth 20000 in
theorem bq_wsX9_goes : subq wsX9_goes [wsX9_goes_r1, wsX9_goes_r2, wsX9_goes_r3] := ⟨(fun _ h => (List.mem_cons_of_mem _ (List.mem_append_left _ (List.mem_append_left _ h)))), (fun _ h => (List.mem_cons_of_mem _ (List.mem_append_left _ (List.mem_append_right _ (List.mem_append_left _ h))))), (fun _ h => (List.mem_cons_of_mem _ (List.mem_append_left _ (List.mem_append_right _ (List.mem_append_right _ h))))), trivial⟩
set_option maxRecDepth 20000 in
theorem ggX9_goes_X9_choice : GoodIn wsX9_goes wsX9_choice := (goodIn_cons (good_rb bq_wsX9_goes ([(0, 6)] : List (Nat × Nat)) rfl (by decide +kernel)) (goodIn_app (goodIn_app (good_rb bq_wsX9_goes ([(0, 7), (0, 0), (0, 1), (0, 8), (0, 9), (0, 10), (0, 11), (0, 12), (0, 13), (0, 14), (0, 15), (0, 16), (0, 5), (0, 17), (0, 18), (0, 19), (0, 20), (0, 21), (0, 22), (0, 23), (1, 0), (1, 1), (1, 2), (1, 3)] : List (Nat × Nat)) rfl (by decide +kernel)) (goodIn_app (good_rb bq_wsX9_goes ([(1, 4), (1, 5), (1, 6), (1, 7), (1, 8), (1, 9), (1, 10), (1, 11), (1, 12), (1, 13), (1, 14), (1, 15), (1, 16), (1, 17), (1, 18), (1, 19), (1, 20), (1, 21), (1, 22), (1, 23), (2, 0), (2, 1), (2, 2), (2, 3)] : List (Nat × Nat)) rfl (by decide +kernel)) (good_rb bq_wsX9_goes ([(2, 4), (2, 5), (2, 6), (2, 7), (2, 8), (2, 9), (2, 10), (2, 11), (2, 12)] : List (Nat × Nat)) rfl (by decide +kernel)))) (goodIn_sb (fun _ h => (List.mem_cons_of_mem _ (List.mem_append_right _ h))) (by decide +kernel))))
set_option maxRecDepth 20000 in
theorem gX9_goes_X9_choice : GoodIn wsX9_goes (wsV RX9 377 RX9 yX9_choice wsX9_choice) := goodIn_app (good_rp ([3, 4, 5, 6] : List Nat) rfl (by decide +kernel)) ggX9_goes_X9_choice
set_option maxRecDepth 20000 in
theorem ggX9_goes_X9_settles : GoodIn wsX9_goes wsX9_settles := (goodIn_cons (good_rb bq_wsX9_goes ([(2, 16)] : List (Nat × Nat)) rfl (by decide +kernel)) (goodIn_app (goodIn_app (good_rb bq_wsX9_goes ([(0, 0), (0, 1), (0, 14), (0, 15), (0, 16), (0, 5), (0, 17), (2, 17), (2, 18), (2, 19), (2, 20), (0, 12), (0, 9), (0, 22), (0, 23), (1, 0), (1, 5), (1, 6), (1, 7), (1, 8), (0, 8), (0, 13), (0, 11), (0, 18)] : List (Nat × Nat)) rfl (by decide +kernel)) (good_rb bq_wsX9_goes ([(0, 19), (0, 20), (0, 21), (1, 9), (1, 10), (1, 11), (1, 12)] : List (Nat × Nat)) rfl (by decide +kernel))) (goodIn_sb (fun _ h => (List.mem_cons_of_mem _ (List.mem_append_right _ h))) (by decide +kernel))))
set_option maxRecDepth 20000 in
theorem gX9_goes_X9_settles : GoodIn wsX9_goes (wsV RX9 380 RX9 yX9_settles wsX9_settles) := goodIn_app (good_rp ([62, 63, 64, 6] : List Nat) rfl (by decide +kernel)) ggX9_goes_X9_settles
noncomputable def b_X9_choice_232 (F : Nat)    (y0 : Int32) (mo : OB) : Option (Int32 × OB) :=
  some (y0, mo)
noncomputable def b_X9_choice_218 (F : Nat)    (mo : OB) : Option (Int32 × OB) :=
  Option.bind (f_X9_wanted F mo) (fun q1 => (if (lg_cmp q1.1 0) ≤ 0 then (b_X9_choice_232 F 0 q1.2) else (b_X9_choice_232 F 1 q1.2)))
noncomputable def b_X9_choice_204 (F : Nat)    (mo : OB) : Option (Int32 × OB) :=
  b_X9_choice_218 F (mo.1, mo.2.1, (uF mo.2.2 36 (vp_updL (mo.2.2 36) (Int32.toNatClampNeg 10) (Int32.toInt64 ((mo.2.1 1) (Int32.toNatClampNeg 4))))))
noncomputable def b_X9_choice_188 (F : Nat)    (mo : OB) : Option (Int32 × OB) :=
  Option.bind (f_X9_those F 2 mo) (fun q3 => (Option.bind (f_X9_bits F q3) (fun q4 => (b_X9_choice_204 F (mo.1, mo.2.1, (uF mo.2.2 36 (vp_updL (mo.2.2 36) (Int32.toNatClampNeg 9) (Int32.toInt64 q4))))))))
noncomputable def b_X9_choice_175 (F : Nat)    (v2 : Int32) (mo : OB) : Option (Int32 × OB) :=
  Option.bind (f_X9_weightOf F v2 mo) (fun q5 => (b_X9_choice_188 F (mo.1, mo.2.1, (uF mo.2.2 36 (vp_updL (mo.2.2 36) (Int32.toNatClampNeg 8) (Int32.toInt64 q5))))))
noncomputable def b_X9_choice_163 (F : Nat)    (v2 : Int32) (mo : OB) : Option (Int32 × OB) :=
  Option.bind (f_X9_bits F v2) (fun q6 => (b_X9_choice_175 F v2 (mo.1, mo.2.1, (uF mo.2.2 36 (vp_updL (mo.2.2 36) (Int32.toNatClampNeg 7) (Int32.toInt64 q6))))))
noncomputable def b_X9_choice_150 (F : Nat)    (v1 : Int32) (v2 : Int32) (mo : OB) : Option (Int32 × OB) :=
  Option.bind (f_X9_givesNow F v1 mo) (fun q7 => (b_X9_choice_163 F v2 (mo.1, mo.2.1, (uF mo.2.2 36 (vp_updL (mo.2.2 36) (Int32.toNatClampNeg 6) (Int32.toInt64 q7))))))
noncomputable def b_X9_choice_137 (F : Nat)    (v1 : Int32) (v2 : Int32) (mo : OB) : Option (Int32 × OB) :=
  if ib v1 8 then (b_X9_choice_150 F v1 v2 (mo.1, mo.2.1, (uF mo.2.2 36 (vp_updL (mo.2.2 36) (Int32.toNatClampNeg 5) (Int32.toInt64 ((mo.2.1 3) (Int32.toNatClampNeg v1))))))) else none
noncomputable def b_X9_choice_114 (F : Nat)    (v1 : Int32) (v2 : Int32) (mo : OB) : Option (Int32 × OB) :=
  if ib v1 8 then (if ib ((mo.2.1 7) (Int32.toNatClampNeg v1)) 8 then (if ib ((mo.2.1 4) (Int32.toNatClampNeg ((mo.2.1 7) (Int32.toNatClampNeg v1)))) 4 then (b_X9_choice_137 F v1 v2 (mo.1, mo.2.1, (uF mo.2.2 36 (vp_updL (mo.2.2 36) (Int32.toNatClampNeg 4) (Int32.toInt64 ((mo.2.1 2) (Int32.toNatClampNeg ((mo.2.1 4) (Int32.toNatClampNeg ((mo.2.1 7) (Int32.toNatClampNeg v1))))))))))) else none) else none) else none
noncomputable def b_X9_choice_96 (F : Nat)    (v1 : Int32) (v2 : Int32) (mo : OB) : Option (Int32 × OB) :=
  if ib v1 8 then (if ib ((mo.2.1 7) (Int32.toNatClampNeg v1)) 8 then (b_X9_choice_114 F v1 v2 (mo.1, mo.2.1, (uF mo.2.2 36 (vp_updL (mo.2.2 36) (Int32.toNatClampNeg 3) (Int32.toInt64 ((mo.2.1 6) (Int32.toNatClampNeg ((mo.2.1 7) (Int32.toNatClampNeg v1))))))))) else none) else none
noncomputable def b_X9_choice_83 (F : Nat)    (v1 : Int32) (v2 : Int32) (mo : OB) : Option (Int32 × OB) :=
  if ib v1 8 then (b_X9_choice_96 F v1 v2 (mo.1, mo.2.1, (uF mo.2.2 36 (vp_updL (mo.2.2 36) (Int32.toNatClampNeg 2) (Int32.toInt64 ((mo.2.1 5) (Int32.toNatClampNeg v1))))))) else none
noncomputable def b_X9_choice_70 (F : Nat)    (v1 : Int32) (v2 : Int32) (mo : OB) : Option (Int32 × OB) :=
  if ib v1 8 then (b_X9_choice_83 F v1 v2 (mo.1, mo.2.1, (uF mo.2.2 36 (vp_updL (mo.2.2 36) (Int32.toNatClampNeg 1) (Int32.toInt64 ((mo.2.1 7) (Int32.toNatClampNeg v1))))))) else none
noncomputable def f_X9_choice (F : Nat)  (x1 : Int32) (mo : OB) : Option (Int32 × OB) :=
  if ib x1 8 then (if ((mo.2.1 38) (Int32.toNatClampNeg x1)) = (-1) then (if ((mo.2.1 1) (Int32.toNatClampNeg 7)) = (-1) then (some (((mo.2.1 3) (Int32.toNatClampNeg x1)), mo)) else (Option.bind (f_X9_those F 1 mo) (fun q19 => (if ib ((mo.2.1 7) (Int32.toNatClampNeg x1)) 8 then (Option.bind (f_X9_onStrand F q19 ((mo.2.1 4) (Int32.toNatClampNeg ((mo.2.1 7) (Int32.toNatClampNeg x1)))) mo) (fun q21 => (b_X9_choice_70 F x1 (q21 &&& ((1 <<< (x1 &&& 31)) ^^^ (-1))) (mo.1, mo.2.1, (uF mo.2.2 36 (vp_updL (mo.2.2 36) (Int32.toNatClampNeg 0) (Int32.toInt64 x1))))))) else none)))) else (some (((mo.2.1 38) (Int32.toNatClampNeg x1)), mo))) else none
set_option maxHeartbeats 4000000 in
set_option maxRecDepth 100000 in
theorem c_X9_choice (l : Launch) (D : va_G) (k : Nat → ClassId) (sz : Nat)  (va : Nat → Nat) (F : Nat)  (x1 : Int32) (mo : OB)  {res : Int32 × OB} (h : f_X9_choice F x1 mo = some res) : CtI l yX9_choice wsX9_choice (rmK 5 0 0) [.ref (va 0), .int x1] D k sz (moW k va mo) (fun r (_ : Unit) => r = res.1) (fun _ : Unit => moW k va res.2) 0 0 := by
  refine CtI.mk (cc := cX9_choice) (maxL := 3) (ret := (some .int)) (by decide) rfl (Nat.le_of_ble_eq_true rfl) ?_
  intro p e s m below meth c A ls E hP hD hS hl
  obtain ⟨hx, hb, hr, hml, hown, hts, hlocks, hin, hG, hA⟩ := E
  have hown : s.vm.findClass RX9 = some m.cls := hown
  have in9 : ∀ w ∈ u_ws RX9 TX9 53, w ∈ wsX9_choice := fun _ h => List.mem_cons_of_mem _ (List.mem_append_right _ h)
  have hl : lv_has ls 3 [(0, .ref (va 0)), (1, .int x1)] := hl
  have B232 : ∀ (y0 : Int32) (mo : OB) (H : Heap) (locs : List Loc) (ls : Array Slot), b_X9_choice_232 F y0 mo = some res → va_P D vwCl (moW k va mo) H → va_D A (moW k va mo) → va_S A s.heap H locs → lv_has ls 3 [] → W p l e (rmK 5 0 0) s m (List.toArray [.ref (va 0), .int x1]) below meth c H locs 0 0 (MQ below (va_Qi (fun r (_ : Unit) => r = res.1) (hcB D (fun _ : Unit => moW k va res.2) A) A) (List.toArray [.ref (va 0), .int x1]) s 0 0 A) (F0 m 232 ls [.int y0]) := by
    intro y0 mo H locs ls h hP hD hS hl
    exact fw_endI (rv := fun b : Int32 × OB => b.1) (wp := fun b : Int32 × OB => moW k va b.2) hx hb hr hlocks h rfl hP hD hS dX9_choice_232
  have B218 : ∀ (mo : OB) (H : Heap) (locs : List Loc) (ls : Array Slot), b_X9_choice_218 F mo = some res → va_P D vwCl (moW k va mo) H → va_D A (moW k va mo) → va_S A s.heap H locs → lv_has ls 3 [(0, .ref (va 0))] → W p l e (rmK 5 0 0) s m (List.toArray [.ref (va 0), .int x1]) below meth c H locs 0 0 (MQ below (va_Qi (fun r (_ : Unit) => r = res.1) (hcB D (fun _ : Unit => moW k va res.2) A) A) (List.toArray [.ref (va 0), .int x1]) s 0 0 A) (F0 m 218 ls []) := by
    intro mo H locs ls h hP hD hS hl
    refine lv_aload_n hx hb dX9_choice_218 rfl (lv_at hl 0 rfl) ?_
    refine fw_Vl (As := []) (rest := []) (n := 0) (wr := []) (rv := fun b : Int64 × OB => b.1) (wp := fun b : Int64 × OB => moW k va b.2) h hx hb hml hown hts hG hA hP hD hS hl.1 (List.range (moW k va mo).length) [] (fun q hq9 => c_X9_wanted l D k _  va F  mo  hq9) (ci := 7) (q0 := 0) rfl rfl gX9_choice_X9_wanted rfl ⟨rfl, rfl, Nat.le_of_ble_eq_true rfl, Nat.le_of_ble_eq_true rfl⟩ (by decide +kernel) (al_C _) rfl (al_n _) ⟨rfl, rfl, Nat.le_of_ble_eq_true rfl, Nat.le_of_ble_eq_true rfl, Nat.le_of_ble_eq_true rfl⟩ dX9_choice_219 (fun q1 H locs h hP hD hS => ?_)
    obtain ⟨hP, hD⟩ := cv (w' := moW k va q1.2) hP hD rfl
    refine hc_isL (z := q1.1) rfl ?_
    refine lv_lconst (v := 0) hx hb dX9_choice_222 (by decide) ?_
    refine W.lcmp hx hb dX9_choice_223 ?_
    refine lv_if_le (tgt := 231) hx hb dX9_choice_224 (by decide) (fun c2 => ?_) (fun c2 => ?_)
    · have h := fw_t c2 h
      refine lv_iconst (v := 0) hx hb dX9_choice_231 (by decide) ?_
      exact B232 _ _ _ _ _ h hP hD hS (lv_sub hl [] rfl)
    · have h := fw_f c2 h
      refine lv_iconst (v := 1) hx hb dX9_choice_227 (by decide) ?_
      refine lv_goto (tgt := 232) hx hb dX9_choice_228 (by decide) ?_
      exact B232 _ _ _ _ _ h hP hD hS (lv_sub hl [] rfl)
  have B204 : ∀ (mo : OB) (H : Heap) (locs : List Loc) (ls : Array Slot), b_X9_choice_204 F mo = some res → va_P D vwCl (moW k va mo) H → va_D A (moW k va mo) → va_S A s.heap H locs → lv_has ls 3 [(0, .ref (va 0))] → W p l e (rmK 5 0 0) s m (List.toArray [.ref (va 0), .int x1]) below meth c H locs 0 0 (MQ below (va_Qi (fun r (_ : Unit) => r = res.1) (hcB D (fun _ : Unit => moW k va res.2) A) A) (List.toArray [.ref (va 0), .int x1]) s 0 0 A) (F0 m 204 ls []) := by
    intro mo H locs ls h hP hD hS hl
    refine lv_aload_n hx hb dX9_choice_204 rfl (lv_at hl 0 rfl) ?_
    refine va_get (D := D) (ci := 7) (v := .ref (va 26)) (C := RX9) (T := TX9) (N := 53) hx hb hts in9 hown hG.1 hP 0 rfl rfl 36 (by decide) (hts (.fieldLink RX9 90 "ChairCaneModel" "asked" "[J") (mem_b bq_wsX9_choice 0 5 rfl)) (fun _ h9 => h9) rfl dX9_choice_205 ?_
    refine lv_bipush (v := 10) hx hb dX9_choice_208 (by decide) ?_
    refine lv_aload_n hx hb dX9_choice_210 rfl (lv_at hl 0 rfl) ?_
    refine va_get (D := D) (ci := 7) (v := .ref (va 1)) (C := RX9) (T := TX9) (N := 53) hx hb hts in9 hown hG.1 hP 0 rfl rfl 1 (by decide) (hts (.fieldLink RX9 9 "ChairCaneModel" "scalar" "[I") (mem_b bq_wsX9_choice 0 1 rfl)) (fun _ h9 => h9) rfl dX9_choice_211 ?_
    refine lv_iconst (v := 4) hx hb dX9_choice_214 (by decide) ?_
    refine va_iald hx hb hG.1 hP 1 0 rfl rfl (by unfold vp_in; decide) dX9_choice_215 ?_
    refine lv_i2l hx hb dX9_choice_216 rfl ?_
    refine va_last hx hb hG.1 hP hD hS 26 3 rfl rfl (by unfold vp_in; decide) dX9_choice_217 (fun H locs hP hD hS => ?_)
    exact B218 _ _ _ _ h hP hD hS hl
  have B188 : ∀ (mo : OB) (H : Heap) (locs : List Loc) (ls : Array Slot), b_X9_choice_188 F mo = some res → va_P D vwCl (moW k va mo) H → va_D A (moW k va mo) → va_S A s.heap H locs → lv_has ls 3 [(0, .ref (va 0))] → W p l e (rmK 5 0 0) s m (List.toArray [.ref (va 0), .int x1]) below meth c H locs 0 0 (MQ below (va_Qi (fun r (_ : Unit) => r = res.1) (hcB D (fun _ : Unit => moW k va res.2) A) A) (List.toArray [.ref (va 0), .int x1]) s 0 0 A) (F0 m 188 ls []) := by
    intro mo H locs ls h hP hD hS hl
    refine lv_aload_n hx hb dX9_choice_188 rfl (lv_at hl 0 rfl) ?_
    refine va_get (D := D) (ci := 7) (v := .ref (va 26)) (C := RX9) (T := TX9) (N := 53) hx hb hts in9 hown hG.1 hP 0 rfl rfl 36 (by decide) (hts (.fieldLink RX9 90 "ChairCaneModel" "asked" "[J") (mem_b bq_wsX9_choice 0 5 rfl)) (fun _ h9 => h9) rfl dX9_choice_189 ?_
    refine lv_bipush (v := 9) hx hb dX9_choice_192 (by decide) ?_
    refine lv_aload_n hx hb dX9_choice_194 rfl (lv_at hl 0 rfl) ?_
    refine lv_iconst (v := 2) hx hb dX9_choice_195 (by decide) ?_
    refine fw_Vi (As := [.int 2]) (rest := [.int 9, .ref (va 26)]) (n := 1) (wr := []) (rv := fun b : Int32 => b) (wp := fun b : Int32 => moW k va mo) h hx hb hml hown hts hG hA hP hD hS hl.1 (List.range (moW k va mo).length) [] (fun q hq9 => c_X9_those l D k _  va F 2 mo  hq9) (ci := 7) (q0 := 0) rfl rfl gX9_choice_X9_those rfl ⟨rfl, rfl, Nat.le_of_ble_eq_true rfl, Nat.le_of_ble_eq_true rfl⟩ (by decide +kernel) (al_C _) rfl (al_n _) ⟨rfl, rfl, Nat.le_of_ble_eq_true rfl, Nat.le_of_ble_eq_true rfl, Nat.le_of_ble_eq_true rfl⟩ dX9_choice_196 (fun q3 H locs h hP hD hS => ?_)
    obtain ⟨hP, hD⟩ := cv (w' := moW k va mo) hP hD rfl
    refine hc_is (z := q3) rfl ?_
    refine fw_Si (As := [.int q3]) (rest := [.int 9, .ref (va 26)]) (n := 1) (wr := moW k va mo) (rv := fun b : Int32 => b) (wp := fun b : Int32 => []) h hx hb hml hown hts hG hA hP hD hS hl.1 [] (List.range (moW k va mo).length) (fun q hq9 => c_X9_bits l D k _   F q3   hq9) gX9_choice_X9_bits rfl ⟨rfl, rfl, Nat.le_of_ble_eq_true rfl, Nat.le_of_ble_eq_true rfl⟩ (by decide +kernel) rfl (al_C _) (al_m _) ⟨rfl, rfl, Nat.le_of_ble_eq_true rfl, Nat.le_of_ble_eq_true rfl, Nat.le_of_ble_eq_true rfl⟩ dX9_choice_199 (fun q4 H locs h hP hD hS => ?_)
    obtain ⟨hP, hD⟩ := cv (w' := (moW k va mo) ++ []) hP hD rfl
    rw [List.append_nil] at hP hD
    refine hc_is (z := q4) rfl ?_
    refine lv_i2l hx hb dX9_choice_202 rfl ?_
    refine va_last hx hb hG.1 hP hD hS 26 3 rfl rfl (by unfold vp_in; decide) dX9_choice_203 (fun H locs hP hD hS => ?_)
    exact B204 _ _ _ _ h hP hD hS hl
  have B175 : ∀ (v2 : Int32) (mo : OB) (H : Heap) (locs : List Loc) (ls : Array Slot), b_X9_choice_175 F v2 mo = some res → va_P D vwCl (moW k va mo) H → va_D A (moW k va mo) → va_S A s.heap H locs → lv_has ls 3 [(0, .ref (va 0)), (2, .int v2)] → W p l e (rmK 5 0 0) s m (List.toArray [.ref (va 0), .int x1]) below meth c H locs 0 0 (MQ below (va_Qi (fun r (_ : Unit) => r = res.1) (hcB D (fun _ : Unit => moW k va res.2) A) A) (List.toArray [.ref (va 0), .int x1]) s 0 0 A) (F0 m 175 ls []) := by
    intro v2 mo H locs ls h hP hD hS hl
    refine lv_aload_n hx hb dX9_choice_175 rfl (lv_at hl 0 rfl) ?_
    refine va_get (D := D) (ci := 7) (v := .ref (va 26)) (C := RX9) (T := TX9) (N := 53) hx hb hts in9 hown hG.1 hP 0 rfl rfl 36 (by decide) (hts (.fieldLink RX9 90 "ChairCaneModel" "asked" "[J") (mem_b bq_wsX9_choice 0 5 rfl)) (fun _ h9 => h9) rfl dX9_choice_176 ?_
    refine lv_bipush (v := 8) hx hb dX9_choice_179 (by decide) ?_
    refine lv_aload_n hx hb dX9_choice_181 rfl (lv_at hl 0 rfl) ?_
    refine lv_iload_n hx hb dX9_choice_182 rfl (lv_at hl 1 rfl) ?_
    refine fw_Vi (As := [.int v2]) (rest := [.int 8, .ref (va 26)]) (n := 1) (wr := []) (rv := fun b : Int32 => b) (wp := fun b : Int32 => moW k va mo) h hx hb hml hown hts hG hA hP hD hS hl.1 (List.range (moW k va mo).length) [] (fun q hq9 => c_X9_weightOf l D k _  va F v2 mo  hq9) (ci := 7) (q0 := 0) rfl rfl gX9_choice_X9_weightOf rfl ⟨rfl, rfl, Nat.le_of_ble_eq_true rfl, Nat.le_of_ble_eq_true rfl⟩ (by decide +kernel) (al_C _) rfl (al_n _) ⟨rfl, rfl, Nat.le_of_ble_eq_true rfl, Nat.le_of_ble_eq_true rfl, Nat.le_of_ble_eq_true rfl⟩ dX9_choice_183 (fun q5 H locs h hP hD hS => ?_)
    obtain ⟨hP, hD⟩ := cv (w' := moW k va mo) hP hD rfl
    refine hc_is (z := q5) rfl ?_
    refine lv_i2l hx hb dX9_choice_186 rfl ?_
    refine va_last hx hb hG.1 hP hD hS 26 3 rfl rfl (by unfold vp_in; decide) dX9_choice_187 (fun H locs hP hD hS => ?_)
    exact B188 _ _ _ _ h hP hD hS (lv_sub hl [0] rfl)
  have B163 : ∀ (v2 : Int32) (mo : OB) (H : Heap) (locs : List Loc) (ls : Array Slot), b_X9_choice_163 F v2 mo = some res → va_P D vwCl (moW k va mo) H → va_D A (moW k va mo) → va_S A s.heap H locs → lv_has ls 3 [(0, .ref (va 0)), (2, .int v2)] → W p l e (rmK 5 0 0) s m (List.toArray [.ref (va 0), .int x1]) below meth c H locs 0 0 (MQ below (va_Qi (fun r (_ : Unit) => r = res.1) (hcB D (fun _ : Unit => moW k va res.2) A) A) (List.toArray [.ref (va 0), .int x1]) s 0 0 A) (F0 m 163 ls []) := by
    intro v2 mo H locs ls h hP hD hS hl
    refine lv_aload_n hx hb dX9_choice_163 rfl (lv_at hl 0 rfl) ?_
    refine va_get (D := D) (ci := 7) (v := .ref (va 26)) (C := RX9) (T := TX9) (N := 53) hx hb hts in9 hown hG.1 hP 0 rfl rfl 36 (by decide) (hts (.fieldLink RX9 90 "ChairCaneModel" "asked" "[J") (mem_b bq_wsX9_choice 0 5 rfl)) (fun _ h9 => h9) rfl dX9_choice_164 ?_
    refine lv_bipush (v := 7) hx hb dX9_choice_167 (by decide) ?_
    refine lv_iload_n hx hb dX9_choice_169 rfl (lv_at hl 1 rfl) ?_
    refine fw_Si (As := [.int v2]) (rest := [.int 7, .ref (va 26)]) (n := 1) (wr := moW k va mo) (rv := fun b : Int32 => b) (wp := fun b : Int32 => []) h hx hb hml hown hts hG hA hP hD hS hl.1 [] (List.range (moW k va mo).length) (fun q hq9 => c_X9_bits l D k _   F v2   hq9) gX9_choice_X9_bits rfl ⟨rfl, rfl, Nat.le_of_ble_eq_true rfl, Nat.le_of_ble_eq_true rfl⟩ (by decide +kernel) rfl (al_C _) (al_m _) ⟨rfl, rfl, Nat.le_of_ble_eq_true rfl, Nat.le_of_ble_eq_true rfl, Nat.le_of_ble_eq_true rfl⟩ dX9_choice_170 (fun q6 H locs h hP hD hS => ?_)
    obtain ⟨hP, hD⟩ := cv (w' := (moW k va mo) ++ []) hP hD rfl
    rw [List.append_nil] at hP hD
    refine hc_is (z := q6) rfl ?_
    refine lv_i2l hx hb dX9_choice_173 rfl ?_
    refine va_last hx hb hG.1 hP hD hS 26 3 rfl rfl (by unfold vp_in; decide) dX9_choice_174 (fun H locs hP hD hS => ?_)
    exact B175 _ _ _ _ _ h hP hD hS hl
  have B150 : ∀ (v1 : Int32) (v2 : Int32) (mo : OB) (H : Heap) (locs : List Loc) (ls : Array Slot), b_X9_choice_150 F v1 v2 mo = some res → va_P D vwCl (moW k va mo) H → va_D A (moW k va mo) → va_S A s.heap H locs → lv_has ls 3 [(0, .ref (va 0)), (1, .int v1), (2, .int v2)] → W p l e (rmK 5 0 0) s m (List.toArray [.ref (va 0), .int x1]) below meth c H locs 0 0 (MQ below (va_Qi (fun r (_ : Unit) => r = res.1) (hcB D (fun _ : Unit => moW k va res.2) A) A) (List.toArray [.ref (va 0), .int x1]) s 0 0 A) (F0 m 150 ls []) := by
    intro v1 v2 mo H locs ls h hP hD hS hl
    refine lv_aload_n hx hb dX9_choice_150 rfl (lv_at hl 0 rfl) ?_
    refine va_get (D := D) (ci := 7) (v := .ref (va 26)) (C := RX9) (T := TX9) (N := 53) hx hb hts in9 hown hG.1 hP 0 rfl rfl 36 (by decide) (hts (.fieldLink RX9 90 "ChairCaneModel" "asked" "[J") (mem_b bq_wsX9_choice 0 5 rfl)) (fun _ h9 => h9) rfl dX9_choice_151 ?_
    refine lv_bipush (v := 6) hx hb dX9_choice_154 (by decide) ?_
    refine lv_aload_n hx hb dX9_choice_156 rfl (lv_at hl 0 rfl) ?_
    refine lv_iload_n hx hb dX9_choice_157 rfl (lv_at hl 1 rfl) ?_
    refine fw_Vi (As := [.int v1]) (rest := [.int 6, .ref (va 26)]) (n := 1) (wr := []) (rv := fun b : Int32 => b) (wp := fun b : Int32 => moW k va mo) h hx hb hml hown hts hG hA hP hD hS hl.1 (List.range (moW k va mo).length) [] (fun q hq9 => c_X9_givesNow l D k _  va F v1 mo  hq9) (ci := 7) (q0 := 0) rfl rfl gX9_choice_X9_givesNow rfl ⟨rfl, rfl, Nat.le_of_ble_eq_true rfl, Nat.le_of_ble_eq_true rfl⟩ (by decide +kernel) (al_C _) rfl (al_n _) ⟨rfl, rfl, Nat.le_of_ble_eq_true rfl, Nat.le_of_ble_eq_true rfl, Nat.le_of_ble_eq_true rfl⟩ dX9_choice_158 (fun q7 H locs h hP hD hS => ?_)
    obtain ⟨hP, hD⟩ := cv (w' := moW k va mo) hP hD rfl
    refine hc_is (z := q7) rfl ?_
    refine lv_i2l hx hb dX9_choice_161 rfl ?_
    refine va_last hx hb hG.1 hP hD hS 26 3 rfl rfl (by unfold vp_in; decide) dX9_choice_162 (fun H locs hP hD hS => ?_)
    exact B163 _ _ _ _ _ h hP hD hS (lv_sub hl [0, 2] rfl)
  have B137 : ∀ (v1 : Int32) (v2 : Int32) (mo : OB) (H : Heap) (locs : List Loc) (ls : Array Slot), b_X9_choice_137 F v1 v2 mo = some res → va_P D vwCl (moW k va mo) H → va_D A (moW k va mo) → va_S A s.heap H locs → lv_has ls 3 [(0, .ref (va 0)), (1, .int v1), (2, .int v2)] → W p l e (rmK 5 0 0) s m (List.toArray [.ref (va 0), .int x1]) below meth c H locs 0 0 (MQ below (va_Qi (fun r (_ : Unit) => r = res.1) (hcB D (fun _ : Unit => moW k va res.2) A) A) (List.toArray [.ref (va 0), .int x1]) s 0 0 A) (F0 m 137 ls []) := by
    intro v1 v2 mo H locs ls h hP hD hS hl
    refine lv_aload_n hx hb dX9_choice_137 rfl (lv_at hl 0 rfl) ?_
    refine va_get (D := D) (ci := 7) (v := .ref (va 26)) (C := RX9) (T := TX9) (N := 53) hx hb hts in9 hown hG.1 hP 0 rfl rfl 36 (by decide) (hts (.fieldLink RX9 90 "ChairCaneModel" "asked" "[J") (mem_b bq_wsX9_choice 0 5 rfl)) (fun _ h9 => h9) rfl dX9_choice_138 ?_
    refine lv_iconst (v := 5) hx hb dX9_choice_141 (by decide) ?_
    refine lv_aload_n hx hb dX9_choice_142 rfl (lv_at hl 0 rfl) ?_
    refine va_get (D := D) (ci := 7) (v := .ref (va 3)) (C := RX9) (T := TX9) (N := 53) hx hb hts in9 hown hG.1 hP 0 rfl rfl 3 (by decide) (hts (.fieldLink RX9 16 "ChairCaneModel" "is" "[I") (mem_b bq_wsX9_choice 0 2 rfl)) (fun _ h9 => h9) rfl dX9_choice_143 ?_
    refine lv_iload_n hx hb dX9_choice_146 rfl (lv_at hl 1 rfl) ?_
    obtain ⟨g8, h⟩ := fw_g h
    refine va_iald hx hb hG.1 hP 3 0 rfl rfl (ib_vp g8) dX9_choice_147 ?_
    refine lv_i2l hx hb dX9_choice_148 rfl ?_
    refine va_last hx hb hG.1 hP hD hS 26 3 rfl rfl (by unfold vp_in; decide) dX9_choice_149 (fun H locs hP hD hS => ?_)
    exact B150 _ _ _ _ _ _ h hP hD hS hl
  have B114 : ∀ (v1 : Int32) (v2 : Int32) (mo : OB) (H : Heap) (locs : List Loc) (ls : Array Slot), b_X9_choice_114 F v1 v2 mo = some res → va_P D vwCl (moW k va mo) H → va_D A (moW k va mo) → va_S A s.heap H locs → lv_has ls 3 [(0, .ref (va 0)), (1, .int v1), (2, .int v2)] → W p l e (rmK 5 0 0) s m (List.toArray [.ref (va 0), .int x1]) below meth c H locs 0 0 (MQ below (va_Qi (fun r (_ : Unit) => r = res.1) (hcB D (fun _ : Unit => moW k va res.2) A) A) (List.toArray [.ref (va 0), .int x1]) s 0 0 A) (F0 m 114 ls []) := by
    intro v1 v2 mo H locs ls h hP hD hS hl
    refine lv_aload_n hx hb dX9_choice_114 rfl (lv_at hl 0 rfl) ?_
    refine va_get (D := D) (ci := 7) (v := .ref (va 26)) (C := RX9) (T := TX9) (N := 53) hx hb hts in9 hown hG.1 hP 0 rfl rfl 36 (by decide) (hts (.fieldLink RX9 90 "ChairCaneModel" "asked" "[J") (mem_b bq_wsX9_choice 0 5 rfl)) (fun _ h9 => h9) rfl dX9_choice_115 ?_
    refine lv_iconst (v := 4) hx hb dX9_choice_118 (by decide) ?_
    refine lv_aload_n hx hb dX9_choice_119 rfl (lv_at hl 0 rfl) ?_
    refine va_get (D := D) (ci := 7) (v := .ref (va 2)) (C := RX9) (T := TX9) (N := 53) hx hb hts in9 hown hG.1 hP 0 rfl rfl 2 (by decide) (hts (.fieldLink RX9 13 "ChairCaneModel" "cane" "[I") (mem_b bq_wsX9_choice 0 8 rfl)) (fun _ h9 => h9) rfl dX9_choice_120 ?_
    refine lv_aload_n hx hb dX9_choice_123 rfl (lv_at hl 0 rfl) ?_
    refine va_get (D := D) (ci := 7) (v := .ref (va 4)) (C := RX9) (T := TX9) (N := 53) hx hb hts in9 hown hG.1 hP 0 rfl rfl 4 (by decide) (hts (.fieldLink RX9 19 "ChairCaneModel" "strandOf" "[I") (mem_b bq_wsX9_choice 0 3 rfl)) (fun _ h9 => h9) rfl dX9_choice_124 ?_
    refine lv_aload_n hx hb dX9_choice_127 rfl (lv_at hl 0 rfl) ?_
    refine va_get (D := D) (ci := 7) (v := .ref (va 7)) (C := RX9) (T := TX9) (N := 53) hx hb hts in9 hown hG.1 hP 0 rfl rfl 7 (by decide) (hts (.fieldLink RX9 28 "ChairCaneModel" "chairOf" "[I") (mem_b bq_wsX9_choice 0 4 rfl)) (fun _ h9 => h9) rfl dX9_choice_128 ?_
    refine lv_iload_n hx hb dX9_choice_131 rfl (lv_at hl 1 rfl) ?_
    obtain ⟨g9, h⟩ := fw_g h
    refine va_iald hx hb hG.1 hP 7 0 rfl rfl (ib_vp g9) dX9_choice_132 ?_
    obtain ⟨g10, h⟩ := fw_g h
    refine va_iald hx hb hG.1 hP 4 0 rfl rfl (ib_vp g10) dX9_choice_133 ?_
    obtain ⟨g11, h⟩ := fw_g h
    refine va_iald hx hb hG.1 hP 2 0 rfl rfl (ib_vp g11) dX9_choice_134 ?_
    refine lv_i2l hx hb dX9_choice_135 rfl ?_
    refine va_last hx hb hG.1 hP hD hS 26 3 rfl rfl (by unfold vp_in; decide) dX9_choice_136 (fun H locs hP hD hS => ?_)
    exact B137 _ _ _ _ _ _ h hP hD hS hl
  have B96 : ∀ (v1 : Int32) (v2 : Int32) (mo : OB) (H : Heap) (locs : List Loc) (ls : Array Slot), b_X9_choice_96 F v1 v2 mo = some res → va_P D vwCl (moW k va mo) H → va_D A (moW k va mo) → va_S A s.heap H locs → lv_has ls 3 [(0, .ref (va 0)), (1, .int v1), (2, .int v2)] → W p l e (rmK 5 0 0) s m (List.toArray [.ref (va 0), .int x1]) below meth c H locs 0 0 (MQ below (va_Qi (fun r (_ : Unit) => r = res.1) (hcB D (fun _ : Unit => moW k va res.2) A) A) (List.toArray [.ref (va 0), .int x1]) s 0 0 A) (F0 m 96 ls []) := by
    intro v1 v2 mo H locs ls h hP hD hS hl
    refine lv_aload_n hx hb dX9_choice_96 rfl (lv_at hl 0 rfl) ?_
    refine va_get (D := D) (ci := 7) (v := .ref (va 26)) (C := RX9) (T := TX9) (N := 53) hx hb hts in9 hown hG.1 hP 0 rfl rfl 36 (by decide) (hts (.fieldLink RX9 90 "ChairCaneModel" "asked" "[J") (mem_b bq_wsX9_choice 0 5 rfl)) (fun _ h9 => h9) rfl dX9_choice_97 ?_
    refine lv_iconst (v := 3) hx hb dX9_choice_100 (by decide) ?_
    refine lv_aload_n hx hb dX9_choice_101 rfl (lv_at hl 0 rfl) ?_
    refine va_get (D := D) (ci := 7) (v := .ref (va 6)) (C := RX9) (T := TX9) (N := 53) hx hb hts in9 hown hG.1 hP 0 rfl rfl 6 (by decide) (hts (.fieldLink RX9 25 "ChairCaneModel" "height" "[I") (mem_b bq_wsX9_choice 0 7 rfl)) (fun _ h9 => h9) rfl dX9_choice_102 ?_
    refine lv_aload_n hx hb dX9_choice_105 rfl (lv_at hl 0 rfl) ?_
    refine va_get (D := D) (ci := 7) (v := .ref (va 7)) (C := RX9) (T := TX9) (N := 53) hx hb hts in9 hown hG.1 hP 0 rfl rfl 7 (by decide) (hts (.fieldLink RX9 28 "ChairCaneModel" "chairOf" "[I") (mem_b bq_wsX9_choice 0 4 rfl)) (fun _ h9 => h9) rfl dX9_choice_106 ?_
    refine lv_iload_n hx hb dX9_choice_109 rfl (lv_at hl 1 rfl) ?_
    obtain ⟨g12, h⟩ := fw_g h
    refine va_iald hx hb hG.1 hP 7 0 rfl rfl (ib_vp g12) dX9_choice_110 ?_
    obtain ⟨g13, h⟩ := fw_g h
    refine va_iald hx hb hG.1 hP 6 0 rfl rfl (ib_vp g13) dX9_choice_111 ?_
    refine lv_i2l hx hb dX9_choice_112 rfl ?_
    refine va_last hx hb hG.1 hP hD hS 26 3 rfl rfl (by unfold vp_in; decide) dX9_choice_113 (fun H locs hP hD hS => ?_)
    exact B114 _ _ _ _ _ _ h hP hD hS hl
  have B83 : ∀ (v1 : Int32) (v2 : Int32) (mo : OB) (H : Heap) (locs : List Loc) (ls : Array Slot), b_X9_choice_83 F v1 v2 mo = some res → va_P D vwCl (moW k va mo) H → va_D A (moW k va mo) → va_S A s.heap H locs → lv_has ls 3 [(0, .ref (va 0)), (1, .int v1), (2, .int v2)] → W p l e (rmK 5 0 0) s m (List.toArray [.ref (va 0), .int x1]) below meth c H locs 0 0 (MQ below (va_Qi (fun r (_ : Unit) => r = res.1) (hcB D (fun _ : Unit => moW k va res.2) A) A) (List.toArray [.ref (va 0), .int x1]) s 0 0 A) (F0 m 83 ls []) := by
    intro v1 v2 mo H locs ls h hP hD hS hl
    refine lv_aload_n hx hb dX9_choice_83 rfl (lv_at hl 0 rfl) ?_
    refine va_get (D := D) (ci := 7) (v := .ref (va 26)) (C := RX9) (T := TX9) (N := 53) hx hb hts in9 hown hG.1 hP 0 rfl rfl 36 (by decide) (hts (.fieldLink RX9 90 "ChairCaneModel" "asked" "[J") (mem_b bq_wsX9_choice 0 5 rfl)) (fun _ h9 => h9) rfl dX9_choice_84 ?_
    refine lv_iconst (v := 2) hx hb dX9_choice_87 (by decide) ?_
    refine lv_aload_n hx hb dX9_choice_88 rfl (lv_at hl 0 rfl) ?_
    refine va_get (D := D) (ci := 7) (v := .ref (va 5)) (C := RX9) (T := TX9) (N := 53) hx hb hts in9 hown hG.1 hP 0 rfl rfl 5 (by decide) (hts (.fieldLink RX9 22 "ChairCaneModel" "weight" "[I") (mem_b bq_wsX9_choice 0 6 rfl)) (fun _ h9 => h9) rfl dX9_choice_89 ?_
    refine lv_iload_n hx hb dX9_choice_92 rfl (lv_at hl 1 rfl) ?_
    obtain ⟨g14, h⟩ := fw_g h
    refine va_iald hx hb hG.1 hP 5 0 rfl rfl (ib_vp g14) dX9_choice_93 ?_
    refine lv_i2l hx hb dX9_choice_94 rfl ?_
    refine va_last hx hb hG.1 hP hD hS 26 3 rfl rfl (by unfold vp_in; decide) dX9_choice_95 (fun H locs hP hD hS => ?_)
    exact B96 _ _ _ _ _ _ h hP hD hS hl
  have B70 : ∀ (v1 : Int32) (v2 : Int32) (mo : OB) (H : Heap) (locs : List Loc) (ls : Array Slot), b_X9_choice_70 F v1 v2 mo = some res → va_P D vwCl (moW k va mo) H → va_D A (moW k va mo) → va_S A s.heap H locs → lv_has ls 3 [(0, .ref (va 0)), (1, .int v1), (2, .int v2)] → W p l e (rmK 5 0 0) s m (List.toArray [.ref (va 0), .int x1]) below meth c H locs 0 0 (MQ below (va_Qi (fun r (_ : Unit) => r = res.1) (hcB D (fun _ : Unit => moW k va res.2) A) A) (List.toArray [.ref (va 0), .int x1]) s 0 0 A) (F0 m 70 ls []) := by
    intro v1 v2 mo H locs ls h hP hD hS hl
    refine lv_aload_n hx hb dX9_choice_70 rfl (lv_at hl 0 rfl) ?_
    refine va_get (D := D) (ci := 7) (v := .ref (va 26)) (C := RX9) (T := TX9) (N := 53) hx hb hts in9 hown hG.1 hP 0 rfl rfl 36 (by decide) (hts (.fieldLink RX9 90 "ChairCaneModel" "asked" "[J") (mem_b bq_wsX9_choice 0 5 rfl)) (fun _ h9 => h9) rfl dX9_choice_71 ?_
    refine lv_iconst (v := 1) hx hb dX9_choice_74 (by decide) ?_
    refine lv_aload_n hx hb dX9_choice_75 rfl (lv_at hl 0 rfl) ?_
    refine va_get (D := D) (ci := 7) (v := .ref (va 7)) (C := RX9) (T := TX9) (N := 53) hx hb hts in9 hown hG.1 hP 0 rfl rfl 7 (by decide) (hts (.fieldLink RX9 28 "ChairCaneModel" "chairOf" "[I") (mem_b bq_wsX9_choice 0 4 rfl)) (fun _ h9 => h9) rfl dX9_choice_76 ?_
    refine lv_iload_n hx hb dX9_choice_79 rfl (lv_at hl 1 rfl) ?_
    obtain ⟨g15, h⟩ := fw_g h
    refine va_iald hx hb hG.1 hP 7 0 rfl rfl (ib_vp g15) dX9_choice_80 ?_
    refine lv_i2l hx hb dX9_choice_81 rfl ?_
    refine va_last hx hb hG.1 hP hD hS 26 3 rfl rfl (by unfold vp_in; decide) dX9_choice_82 (fun H locs hP hD hS => ?_)
    exact B83 _ _ _ _ _ _ h hP hD hS hl
  refine lv_aload_n hx hb dX9_choice_0 rfl (lv_at hl 0 rfl) ?_
  refine va_get (D := D) (ci := 7) (v := .ref (va 28)) (C := RX9) (T := TX9) (N := 53) hx hb hts in9 hown hG.1 hP 0 rfl rfl 38 (by decide) (hts (.fieldLink RX9 97 "ChairCaneModel" "must" "[I") (mem_b bq_wsX9_choice 0 0 rfl)) (fun _ h9 => h9) rfl dX9_choice_1 ?_
  refine lv_iload_n hx hb dX9_choice_4 rfl (lv_at hl 1 rfl) ?_
  obtain ⟨g16, h⟩ := fw_g h
  refine va_iald hx hb hG.1 hP 28 0 rfl rfl (ib_vp g16) dX9_choice_5 ?_
  refine lv_iconst (v := (-1)) hx hb dX9_choice_6 (by decide) ?_
  refine lv_icmp_eq (tgt := 17) hx hb dX9_choice_7 (by decide) (fun c17 => ?_) (fun c17 => ?_)
  · have h := fw_t c17 h
    refine lv_aload_n hx hb dX9_choice_17 rfl (lv_at hl 0 rfl) ?_
    refine va_get (D := D) (ci := 7) (v := .ref (va 1)) (C := RX9) (T := TX9) (N := 53) hx hb hts in9 hown hG.1 hP 0 rfl rfl 1 (by decide) (hts (.fieldLink RX9 9 "ChairCaneModel" "scalar" "[I") (mem_b bq_wsX9_choice 0 1 rfl)) (fun _ h9 => h9) rfl dX9_choice_18 ?_
    refine lv_bipush (v := 7) hx hb dX9_choice_21 (by decide) ?_
    refine va_iald hx hb hG.1 hP 1 0 rfl rfl (by unfold vp_in; decide) dX9_choice_23 ?_
    refine lv_iconst (v := (-1)) hx hb dX9_choice_24 (by decide) ?_
    refine lv_icmp_ne (tgt := 35) hx hb dX9_choice_25 (by decide) (fun c18 => ?_) (fun c18 => ?_)
    · have h := fw_f c18 h
      refine lv_aload_n hx hb dX9_choice_35 rfl (lv_at hl 0 rfl) ?_
      refine lv_aload_n hx hb dX9_choice_36 rfl (lv_at hl 0 rfl) ?_
      refine lv_iconst (v := 1) hx hb dX9_choice_37 (by decide) ?_
      refine fw_Vi (As := [.int 1]) (rest := [.ref (va 0)]) (n := 1) (wr := []) (rv := fun b : Int32 => b) (wp := fun b : Int32 => moW k va mo) h hx hb hml hown hts hG hA hP hD hS hl.1 (List.range (moW k va mo).length) [] (fun q hq9 => c_X9_those l D k _  va F 1 mo  hq9) (ci := 7) (q0 := 0) rfl rfl gX9_choice_X9_those rfl ⟨rfl, rfl, Nat.le_of_ble_eq_true rfl, Nat.le_of_ble_eq_true rfl⟩ (by decide +kernel) (al_C _) rfl (al_n _) ⟨rfl, rfl, Nat.le_of_ble_eq_true rfl, Nat.le_of_ble_eq_true rfl, Nat.le_of_ble_eq_true rfl⟩ dX9_choice_38 (fun q19 H locs h hP hD hS => ?_)
      obtain ⟨hP, hD⟩ := cv (w' := moW k va mo) hP hD rfl
      refine hc_is (z := q19) rfl ?_
      refine lv_aload_n hx hb dX9_choice_41 rfl (lv_at hl 0 rfl) ?_
      refine va_get (D := D) (ci := 7) (v := .ref (va 4)) (C := RX9) (T := TX9) (N := 53) hx hb hts in9 hown hG.1 hP 0 rfl rfl 4 (by decide) (hts (.fieldLink RX9 19 "ChairCaneModel" "strandOf" "[I") (mem_b bq_wsX9_choice 0 3 rfl)) (fun _ h9 => h9) rfl dX9_choice_42 ?_
      refine lv_aload_n hx hb dX9_choice_45 rfl (lv_at hl 0 rfl) ?_
      refine va_get (D := D) (ci := 7) (v := .ref (va 7)) (C := RX9) (T := TX9) (N := 53) hx hb hts in9 hown hG.1 hP 0 rfl rfl 7 (by decide) (hts (.fieldLink RX9 28 "ChairCaneModel" "chairOf" "[I") (mem_b bq_wsX9_choice 0 4 rfl)) (fun _ h9 => h9) rfl dX9_choice_46 ?_
      refine lv_iload_n hx hb dX9_choice_49 rfl (lv_at hl 1 rfl) ?_
      refine va_iald hx hb hG.1 hP 7 0 rfl rfl (ib_vp g16) dX9_choice_50 ?_
      obtain ⟨g20, h⟩ := fw_g h
      refine va_iald hx hb hG.1 hP 4 0 rfl rfl (ib_vp g20) dX9_choice_51 ?_
      refine fw_Vi (As := [.int q19, .int ((mo.2.1 4) (Int32.toNatClampNeg ((mo.2.1 7) (Int32.toNatClampNeg x1))))]) (rest := []) (n := 2) (wr := []) (rv := fun b : Int32 => b) (wp := fun b : Int32 => moW k va mo) h hx hb hml hown hts hG hA hP hD hS hl.1 (List.range (moW k va mo).length) [] (fun q hq9 => c_X9_onStrand l D k _  va F q19 ((mo.2.1 4) (Int32.toNatClampNeg ((mo.2.1 7) (Int32.toNatClampNeg x1)))) mo  hq9) (ci := 7) (q0 := 0) rfl rfl gX9_choice_X9_onStrand rfl ⟨rfl, rfl, Nat.le_of_ble_eq_true rfl, Nat.le_of_ble_eq_true rfl⟩ (by decide +kernel) (al_C _) rfl (al_n _) ⟨rfl, rfl, Nat.le_of_ble_eq_true rfl, Nat.le_of_ble_eq_true rfl, Nat.le_of_ble_eq_true rfl⟩ dX9_choice_52 (fun q21 H locs h hP hD hS => ?_)
      obtain ⟨hP, hD⟩ := cv (w' := moW k va mo) hP hD rfl
      refine hc_is (z := q21) rfl ?_
      refine lv_iconst (v := 1) hx hb dX9_choice_55 (by decide) ?_
      refine lv_iload_n hx hb dX9_choice_56 rfl (lv_at hl 1 rfl) ?_
      refine lv_ishl hx hb dX9_choice_57 ?_
      refine lv_iconst (v := (-1)) hx hb dX9_choice_58 (by decide) ?_
      refine lv_ixor hx hb dX9_choice_59 ?_
      refine lv_iand hx hb dX9_choice_60 ?_
      refine lv_istore_n (lv' := [(2, .int (q21 &&& ((1 <<< (x1 &&& 31)) ^^^ (-1)))), (0, .ref (va 0)), (1, .int x1)]) hx hb dX9_choice_61 rfl hl (by decide) rfl (fun ls hl => ?_)
      refine lv_aload_n hx hb dX9_choice_62 rfl (lv_at hl 1 rfl) ?_
      refine va_get (D := D) (ci := 7) (v := .ref (va 26)) (C := RX9) (T := TX9) (N := 53) hx hb hts in9 hown hG.1 hP 0 rfl rfl 36 (by decide) (hts (.fieldLink RX9 90 "ChairCaneModel" "asked" "[J") (mem_b bq_wsX9_choice 0 5 rfl)) (fun _ h9 => h9) rfl dX9_choice_63 ?_
      refine lv_iconst (v := 0) hx hb dX9_choice_66 (by decide) ?_
      refine lv_iload_n hx hb dX9_choice_67 rfl (lv_at hl 2 rfl) ?_
      refine lv_i2l hx hb dX9_choice_68 rfl ?_
      refine va_last hx hb hG.1 hP hD hS 26 3 rfl rfl (by unfold vp_in; decide) dX9_choice_69 (fun H locs hP hD hS => ?_)
      exact B70 _ _ _ _ _ _ h hP hD hS (lv_sub hl [1, 2, 0] rfl)
    · have h := fw_t c18 h
      refine lv_aload_n hx hb dX9_choice_28 rfl (lv_at hl 0 rfl) ?_
      refine va_get (D := D) (ci := 7) (v := .ref (va 3)) (C := RX9) (T := TX9) (N := 53) hx hb hts in9 hown hG.1 hP 0 rfl rfl 3 (by decide) (hts (.fieldLink RX9 16 "ChairCaneModel" "is" "[I") (mem_b bq_wsX9_choice 0 2 rfl)) (fun _ h9 => h9) rfl dX9_choice_29 ?_
      refine lv_iload_n hx hb dX9_choice_32 rfl (lv_at hl 1 rfl) ?_
      refine va_iald hx hb hG.1 hP 3 0 rfl rfl (ib_vp g16) dX9_choice_33 ?_
      exact fw_endI (rv := fun b : Int32 × OB => b.1) (wp := fun b : Int32 × OB => moW k va b.2) hx hb hr hlocks h rfl hP hD hS dX9_choice_34
  · have h := fw_f c17 h
    refine lv_aload_n hx hb dX9_choice_10 rfl (lv_at hl 0 rfl) ?_
    refine va_get (D := D) (ci := 7) (v := .ref (va 28)) (C := RX9) (T := TX9) (N := 53) hx hb hts in9 hown hG.1 hP 0 rfl rfl 38 (by decide) (hts (.fieldLink RX9 97 "ChairCaneModel" "must" "[I") (mem_b bq_wsX9_choice 0 0 rfl)) (fun _ h9 => h9) rfl dX9_choice_11 ?_
    refine lv_iload_n hx hb dX9_choice_14 rfl (lv_at hl 1 rfl) ?_
    refine va_iald hx hb hG.1 hP 28 0 rfl rfl (ib_vp g16) dX9_choice_15 ?_
    exact fw_endI (rv := fun b : Int32 × OB => b.1) (wp := fun b : Int32 × OB => moW k va b.2) hx hb hr hlocks h rfl hP hD hS dX9_choice_16
noncomputable def b_X9_goes_36 (F : Nat)   (k2 : (Int32 × OB) → Option (Int32 × OB)) (v1 : Int32) (y0 : Int32) (y1 : Int32) (mo : OB) : Option (Int32 × OB) :=
  if ib y1 8 then (k2 ((v1 + 1), (mo.1, (uF mo.2.1 3 (upd (mo.2.1 3) (Int32.toNatClampNeg y1) y0)), mo.2.2))) else none
noncomputable def b_X9_goes_2 (F : Nat)    (k2 : (Int32 × OB) → Option (Int32 × OB)) (a2 : (Int32 × OB)) : Option (Int32 × OB) :=
  if ((a2.2.2.1 1) (Int32.toNatClampNeg 3)) ≤ a2.1 then (Option.bind (f_X9_settles F (a2.2.1, (uF a2.2.2.1 1 (upd (a2.2.2.1 1) (Int32.toNatClampNeg 4) (((a2.2.2.1 1) (Int32.toNatClampNeg 4)) + 1))), a2.2.2.2)) (fun q3 => (some (q3.1, q3.2)))) else (if ib a2.1 8 then (if ((a2.2.2.1 3) (Int32.toNatClampNeg a2.1)) = 2 then (b_X9_goes_36 F k2 a2.1 2 a2.1 a2.2) else (Option.bind (f_X9_choice F a2.1 a2.2) (fun q6 => (b_X9_goes_36 F k2 a2.1 q6.1 a2.1 q6.2)))) else none)
noncomputable def f_X9_goes (F : Nat)   (mo : OB) : Option (Int32 × OB) :=
  lp (b_X9_goes_2 F) F (0, mo)
set_option maxHeartbeats 4000000 in
set_option maxRecDepth 100000 in
theorem c_X9_goes (l : Launch) (D : va_G) (k : Nat → ClassId) (sz : Nat)  (va : Nat → Nat) (F : Nat)   (mo : OB)  {res : Int32 × OB} (h : f_X9_goes F mo = some res) : CtI l yX9_goes wsX9_goes (rmK 6 0 0) [.ref (va 0)] D k sz (moW k va mo) (fun r (_ : Unit) => r = res.1) (fun _ : Unit => moW k va res.2) 0 0 := by
  refine CtI.mk (cc := cX9_goes) (maxL := 2) (ret := (some .int)) (by decide) rfl (Nat.le_of_ble_eq_true rfl) ?_
  intro p e s m below meth c A ls E hP hD hS hl
  obtain ⟨hx, hb, hr, hml, hown, hts, hlocks, hin, hG, hA⟩ := E
  have hown : s.vm.findClass RX9 = some m.cls := hown
  have in9 : ∀ w ∈ u_ws RX9 TX9 53, w ∈ wsX9_goes := fun _ h => List.mem_cons_of_mem _ (List.mem_append_right _ h)
  have hl : lv_has ls 2 [(0, .ref (va 0))] := hl
  have B2 : ∀ a2 : (Int32 × OB), lp (b_X9_goes_2 F) F a2 = some res → ∀ (H : Heap) (locs : List Loc) (ls : Array Slot), va_P D vwCl (moW k va a2.2) H → va_D A (moW k va a2.2) → va_S A s.heap H locs → lv_has ls 2 [(0, .ref (va 0)), (1, .int a2.1)] → W p l e (rmK 6 0 0) s m (List.toArray [.ref (va 0)]) below meth c H locs 0 0 (MQ below (va_Qi (fun r (_ : Unit) => r = res.1) (hcB D (fun _ : Unit => moW k va res.2) A) A) (List.toArray [.ref (va 0)]) s 0 0 A) (F0 m 2 ls []) := by
    refine lp_W ?_ F
    intro k2 hk2 a2 h H locs ls hP hD hS hl
    have hc2 : ∀ (v1 : Int32) (mo : OB), k2 (v1, mo) = some res → ∀ (H : Heap) (locs : List Loc) (ls : Array Slot), va_P D vwCl (moW k va mo) H → va_D A (moW k va mo) → va_S A s.heap H locs → lv_has ls 2 [(0, .ref (va 0)), (1, .int v1)] → W p l e (rmK 6 0 0) s m (List.toArray [.ref (va 0)]) below meth c H locs 0 0 (MQ below (va_Qi (fun r (_ : Unit) => r = res.1) (hcB D (fun _ : Unit => moW k va res.2) A) A) (List.toArray [.ref (va 0)]) s 0 0 A) (F0 m 2 ls []) := fun v1 mo => hk2 (v1, mo)
    have B36 : ∀ (v1 : Int32) (y0 : Int32) (y1 : Int32) (mo : OB) (H : Heap) (locs : List Loc) (ls : Array Slot), b_X9_goes_36 F k2 v1 y0 y1 mo = some res → va_P D vwCl (moW k va mo) H → va_D A (moW k va mo) → va_S A s.heap H locs → lv_has ls 2 [(0, .ref (va 0)), (1, .int v1)] → W p l e (rmK 6 0 0) s m (List.toArray [.ref (va 0)]) below meth c H locs 0 0 (MQ below (va_Qi (fun r (_ : Unit) => r = res.1) (hcB D (fun _ : Unit => moW k va res.2) A) A) (List.toArray [.ref (va 0)]) s 0 0 A) (F0 m 36 ls [.int y0, .int y1, .ref (va 3)]) := by
      intro v1 y0 y1 mo H locs ls h hP hD hS hl
      obtain ⟨g1, h⟩ := fw_g h
      refine va_iast hx hb hG.1 hP hD hS 3 0 rfl rfl (ib_vp g1) dX9_goes_36 (fun H locs hP hD hS => ?_)
      refine lv_iinc (v := (v1 + 1)) (lv' := [(1, .int (v1 + 1)), (0, .ref (va 0))]) hx hb dX9_goes_37 hl (k := 1) rfl rfl (by decide) rfl (fun ls hl => ?_)
      refine lv_goto (tgt := 2) hx hb dX9_goes_40 (by decide) ?_
      exact hc2 _ _ h _ _ _ hP hD hS (lv_sub hl [1, 0] rfl)
    refine lv_iload_n hx hb dX9_goes_2 rfl (lv_at hl 1 rfl) ?_
    refine lv_aload_n hx hb dX9_goes_3 rfl (lv_at hl 0 rfl) ?_
    refine va_get (D := D) (ci := 7) (v := .ref (va 1)) (C := RX9) (T := TX9) (N := 53) hx hb hts in9 hown hG.1 hP 0 rfl rfl 1 (by decide) (hts (.fieldLink RX9 9 "ChairCaneModel" "scalar" "[I") (mem_b bq_wsX9_goes 0 0 rfl)) (fun _ h9 => h9) rfl dX9_goes_4 ?_
    refine lv_iconst (v := 3) hx hb dX9_goes_7 (by decide) ?_
    refine va_iald hx hb hG.1 hP 1 0 rfl rfl (by unfold vp_in; decide) dX9_goes_8 ?_
    refine lv_icmp_ge (tgt := 43) hx hb dX9_goes_9 (by decide) (fun c2 => ?_) (fun c2 => ?_)
    · have h := fw_t c2 h
      refine lv_aload_n hx hb dX9_goes_43 rfl (lv_at hl 0 rfl) ?_
      refine va_get (D := D) (ci := 7) (v := .ref (va 1)) (C := RX9) (T := TX9) (N := 53) hx hb hts in9 hown hG.1 hP 0 rfl rfl 1 (by decide) (hts (.fieldLink RX9 9 "ChairCaneModel" "scalar" "[I") (mem_b bq_wsX9_goes 0 0 rfl)) (fun _ h9 => h9) rfl dX9_goes_44 ?_
      refine lv_iconst (v := 4) hx hb dX9_goes_47 (by decide) ?_
      refine lv_dup2_11 hx hb dX9_goes_48 rfl rfl ?_
      refine va_iald hx hb hG.1 hP 1 0 rfl rfl (by unfold vp_in; decide) dX9_goes_49 ?_
      refine lv_iconst (v := 1) hx hb dX9_goes_50 (by decide) ?_
      refine lv_iadd hx hb dX9_goes_51 ?_
      refine va_iast hx hb hG.1 hP hD hS 1 0 rfl rfl (by unfold vp_in; decide) dX9_goes_52 (fun H locs hP hD hS => ?_)
      refine lv_aload_n hx hb dX9_goes_53 rfl (lv_at hl 0 rfl) ?_
      obtain ⟨hP, hD⟩ := cv (w' := moW k va (a2.2.1, (uF a2.2.2.1 1 (upd (a2.2.2.1 1) (Int32.toNatClampNeg 4) (((a2.2.2.1 1) (Int32.toNatClampNeg 4)) + 1))), a2.2.2.2)) hP hD rfl
      refine fw_Vi (As := []) (rest := []) (n := 0) (wr := []) (rv := fun b : Int32 × OB => b.1) (wp := fun b : Int32 × OB => moW k va b.2) h hx hb hml hown hts hG hA hP hD hS hl.1 (List.range (moW k va (a2.2.1, (uF a2.2.2.1 1 (upd (a2.2.2.1 1) (Int32.toNatClampNeg 4) (((a2.2.2.1 1) (Int32.toNatClampNeg 4)) + 1))), a2.2.2.2)).length) [] (fun q hq9 => c_X9_settles l D k _  va F  (a2.2.1, (uF a2.2.2.1 1 (upd (a2.2.2.1 1) (Int32.toNatClampNeg 4) (((a2.2.2.1 1) (Int32.toNatClampNeg 4)) + 1))), a2.2.2.2)  hq9) (ci := 7) (q0 := 0) rfl rfl gX9_goes_X9_settles rfl ⟨rfl, rfl, Nat.le_of_ble_eq_true rfl, Nat.le_of_ble_eq_true rfl⟩ (by decide +kernel) (al_C _) rfl (al_n _) ⟨rfl, rfl, Nat.le_of_ble_eq_true rfl, Nat.le_of_ble_eq_true rfl, Nat.le_of_ble_eq_true rfl⟩ dX9_goes_54 (fun q3 H locs h hP hD hS => ?_)
      obtain ⟨hP, hD⟩ := cv (w' := moW k va q3.2) hP hD rfl
      refine hc_is (z := q3.1) rfl ?_
      exact fw_endI (rv := fun b : Int32 × OB => b.1) (wp := fun b : Int32 × OB => moW k va b.2) hx hb hr hlocks h rfl hP hD hS dX9_goes_57
    · have h := fw_f c2 h
      refine lv_aload_n hx hb dX9_goes_12 rfl (lv_at hl 0 rfl) ?_
      refine va_get (D := D) (ci := 7) (v := .ref (va 3)) (C := RX9) (T := TX9) (N := 53) hx hb hts in9 hown hG.1 hP 0 rfl rfl 3 (by decide) (hts (.fieldLink RX9 16 "ChairCaneModel" "is" "[I") (mem_b bq_wsX9_goes 0 1 rfl)) (fun _ h9 => h9) rfl dX9_goes_13 ?_
      refine lv_iload_n hx hb dX9_goes_16 rfl (lv_at hl 1 rfl) ?_
      refine lv_aload_n hx hb dX9_goes_17 rfl (lv_at hl 0 rfl) ?_
      refine va_get (D := D) (ci := 7) (v := .ref (va 3)) (C := RX9) (T := TX9) (N := 53) hx hb hts in9 hown hG.1 hP 0 rfl rfl 3 (by decide) (hts (.fieldLink RX9 16 "ChairCaneModel" "is" "[I") (mem_b bq_wsX9_goes 0 1 rfl)) (fun _ h9 => h9) rfl dX9_goes_18 ?_
      refine lv_iload_n hx hb dX9_goes_21 rfl (lv_at hl 1 rfl) ?_
      obtain ⟨g4, h⟩ := fw_g h
      refine va_iald hx hb hG.1 hP 3 0 rfl rfl (ib_vp g4) dX9_goes_22 ?_
      refine lv_iconst (v := 2) hx hb dX9_goes_23 (by decide) ?_
      refine lv_icmp_ne (tgt := 31) hx hb dX9_goes_24 (by decide) (fun c5 => ?_) (fun c5 => ?_)
      · have h := fw_f c5 h
        refine lv_aload_n hx hb dX9_goes_31 rfl (lv_at hl 0 rfl) ?_
        refine lv_iload_n hx hb dX9_goes_32 rfl (lv_at hl 1 rfl) ?_
        refine fw_Vi (As := [.int a2.1]) (rest := [.int a2.1, .ref (va 3)]) (n := 1) (wr := []) (rv := fun b : Int32 × OB => b.1) (wp := fun b : Int32 × OB => moW k va b.2) h hx hb hml hown hts hG hA hP hD hS hl.1 (List.range (moW k va a2.2).length) [] (fun q hq9 => c_X9_choice l D k _  va F a2.1 a2.2  hq9) (ci := 7) (q0 := 0) rfl rfl gX9_goes_X9_choice rfl ⟨rfl, rfl, Nat.le_of_ble_eq_true rfl, Nat.le_of_ble_eq_true rfl⟩ (by decide +kernel) (al_C _) rfl (al_n _) ⟨rfl, rfl, Nat.le_of_ble_eq_true rfl, Nat.le_of_ble_eq_true rfl, Nat.le_of_ble_eq_true rfl⟩ dX9_goes_33 (fun q6 H locs h hP hD hS => ?_)
        obtain ⟨hP, hD⟩ := cv (w' := moW k va q6.2) hP hD rfl
        refine hc_is (z := q6.1) rfl ?_
        exact B36 _ _ _ _ _ _ _ h hP hD hS hl
      · have h := fw_t c5 h
        refine lv_iconst (v := 2) hx hb dX9_goes_27 (by decide) ?_
        refine lv_goto (tgt := 36) hx hb dX9_goes_28 (by decide) ?_
        exact B36 _ _ _ _ _ _ _ h hP hD hS hl
  have C2 : ∀ (v1 : Int32) (mo : OB), lp (b_X9_goes_2 F) F (v1, mo) = some res → ∀ (H : Heap) (locs : List Loc) (ls : Array Slot), va_P D vwCl (moW k va mo) H → va_D A (moW k va mo) → va_S A s.heap H locs → lv_has ls 2 [(0, .ref (va 0)), (1, .int v1)] → W p l e (rmK 6 0 0) s m (List.toArray [.ref (va 0)]) below meth c H locs 0 0 (MQ below (va_Qi (fun r (_ : Unit) => r = res.1) (hcB D (fun _ : Unit => moW k va res.2) A) A) (List.toArray [.ref (va 0)]) s 0 0 A) (F0 m 2 ls []) := fun v1 mo => B2 (v1, mo)
  refine lv_iconst (v := 0) hx hb dX9_goes_0 (by decide) ?_
  refine lv_istore_n (lv' := [(1, .int 0), (0, .ref (va 0))]) hx hb dX9_goes_1 rfl hl (by decide) rfl (fun ls hl => ?_)
  exact C2 _ _ h _ _ _ hP hD hS (lv_sub hl [1, 0] rfl)
noncomputable def b_X9_goFor_2 (F : Nat)    (k2 : (Int32 × Int32 × OB) → Option (OB)) (a2 : (Int32 × Int32 × OB)) : Option (OB) :=
  if a2.1 ≤ a2.2.1 then (some a2.2.2) else (Option.bind (f_X9_goes F a2.2.2) (fun q2 => (k2 (a2.1, (a2.2.1 + 1), q2.2))))
noncomputable def f_X9_goFor (F : Nat)  (x1 : Int32) (mo : OB) : Option (OB) :=
  lp (b_X9_goFor_2 F) F (x1, 0, mo)
set_option maxHeartbeats 4000000 in
set_option maxRecDepth 100000 in
theorem c_X9_goFor (l : Launch) (D : va_G) (k : Nat → ClassId) (sz : Nat)  (va : Nat → Nat) (F : Nat)  (x1 : Int32) (mo : OB)  {res : OB} (h : f_X9_goFor F x1 mo = some res) : CtV l yX9_goFor wsX9_goFor (rmK 7 0 0) [.ref (va 0), .int x1] D k sz (moW k va mo) (fun (_ : Unit) => True) (fun _ : Unit => moW k va res) 0 0 := by
  refine CtV.mk (cc := cX9_goFor) (maxL := 3) (ret := none) (by decide) rfl (Nat.le_of_ble_eq_true rfl) ?_
  intro p e s m below meth c A ls E hP hD hS hl
  obtain ⟨hx, hb, hr, hml, hown, hts, hlocks, hin, hG, hA⟩ := E
  have hown : s.vm.findClass RX9 = some m.cls := hown
  have in9 : ∀ w ∈ u_ws RX9 TX9 53, w ∈ wsX9_goFor := fun _ h => List.mem_cons_of_mem _ (List.mem_append_right _ h)
  have hl : lv_has ls 3 [(0, .ref (va 0)), (1, .int x1)] := hl
  have B2 : ∀ a2 : (Int32 × Int32 × OB), lp (b_X9_goFor_2 F) F a2 = some res → ∀ (H : Heap) (locs : List Loc) (ls : Array Slot), va_P D vwCl (moW k va a2.2.2) H → va_D A (moW k va a2.2.2) → va_S A s.heap H locs → lv_has ls 3 [(0, .ref (va 0)), (1, .int a2.1), (2, .int a2.2.1)] → W p l e (rmK 7 0 0) s m (List.toArray [.ref (va 0), .int x1]) below meth c H locs 0 0 (MQ below (va_Qv (fun (_ : Unit) => True) (hcB D (fun _ : Unit => moW k va res) A) A) (List.toArray [.ref (va 0), .int x1]) s 0 0 A) (F0 m 2 ls []) := by
    refine lp_W ?_ F
    intro k2 hk2 a2 h H locs ls hP hD hS hl
    have hc2 : ∀ (v1 : Int32) (v2 : Int32) (mo : OB), k2 (v1, v2, mo) = some res → ∀ (H : Heap) (locs : List Loc) (ls : Array Slot), va_P D vwCl (moW k va mo) H → va_D A (moW k va mo) → va_S A s.heap H locs → lv_has ls 3 [(0, .ref (va 0)), (1, .int v1), (2, .int v2)] → W p l e (rmK 7 0 0) s m (List.toArray [.ref (va 0), .int x1]) below meth c H locs 0 0 (MQ below (va_Qv (fun (_ : Unit) => True) (hcB D (fun _ : Unit => moW k va res) A) A) (List.toArray [.ref (va 0), .int x1]) s 0 0 A) (F0 m 2 ls []) := fun v1 v2 mo => hk2 (v1, v2, mo)
    refine lv_iload_n hx hb dX9_goFor_2 rfl (lv_at hl 2 rfl) ?_
    refine lv_iload_n hx hb dX9_goFor_3 rfl (lv_at hl 1 rfl) ?_
    refine lv_icmp_ge (tgt := 18) hx hb dX9_goFor_4 (by decide) (fun c1 => ?_) (fun c1 => ?_)
    · have h := fw_t c1 h
      exact fw_endV (wp := fun b : OB => moW k va b) hx hb hr hlocks h hP hD hS dX9_goFor_18
    · have h := fw_f c1 h
      refine lv_aload_n hx hb dX9_goFor_7 rfl (lv_at hl 0 rfl) ?_
      refine fw_Vi (As := []) (rest := []) (n := 0) (wr := []) (rv := fun b : Int32 × OB => b.1) (wp := fun b : Int32 × OB => moW k va b.2) h hx hb hml hown hts hG hA hP hD hS hl.1 (List.range (moW k va a2.2.2).length) [] (fun q hq9 => c_X9_goes l D k _  va F  a2.2.2  hq9) (ci := 7) (q0 := 0) rfl rfl gX9_goFor_X9_goes rfl ⟨rfl, rfl, Nat.le_of_ble_eq_true rfl, Nat.le_of_ble_eq_true rfl⟩ (by decide +kernel) (al_C _) rfl (al_n _) ⟨rfl, rfl, Nat.le_of_ble_eq_true rfl, Nat.le_of_ble_eq_true rfl, Nat.le_of_ble_eq_true rfl⟩ dX9_goFor_8 (fun q2 H locs h hP hD hS => ?_)
      obtain ⟨hP, hD⟩ := cv (w' := moW k va q2.2) hP hD rfl
      refine hc_is (z := q2.1) rfl ?_
      refine lv_pop hx hb dX9_goFor_11 rfl ?_
      refine lv_iinc (v := (a2.2.1 + 1)) (lv' := [(2, .int (a2.2.1 + 1)), (0, .ref (va 0)), (1, .int a2.1)]) hx hb dX9_goFor_12 hl (k := 2) rfl rfl (by decide) rfl (fun ls hl => ?_)
      refine lv_goto (tgt := 2) hx hb dX9_goFor_15 (by decide) ?_
      exact hc2 _ _ _ h _ _ _ hP hD hS (lv_sub hl [1, 2, 0] rfl)
  have C2 : ∀ (v1 : Int32) (v2 : Int32) (mo : OB), lp (b_X9_goFor_2 F) F (v1, v2, mo) = some res → ∀ (H : Heap) (locs : List Loc) (ls : Array Slot), va_P D vwCl (moW k va mo) H → va_D A (moW k va mo) → va_S A s.heap H locs → lv_has ls 3 [(0, .ref (va 0)), (1, .int v1), (2, .int v2)] → W p l e (rmK 7 0 0) s m (List.toArray [.ref (va 0), .int x1]) below meth c H locs 0 0 (MQ below (va_Qv (fun (_ : Unit) => True) (hcB D (fun _ : Unit => moW k va res) A) A) (List.toArray [.ref (va 0), .int x1]) s 0 0 A) (F0 m 2 ls []) := fun v1 v2 mo => B2 (v1, v2, mo)
  refine lv_iconst (v := 0) hx hb dX9_goFor_0 (by decide) ?_
  refine lv_istore_n (lv' := [(2, .int 0), (0, .ref (va 0)), (1, .int x1)]) hx hb dX9_goFor_1 rfl hl (by decide) rfl (fun ls hl => ?_)
  exact C2 _ _ _ h _ _ _ hP hD hS (lv_sub hl [1, 2, 0] rfl)
