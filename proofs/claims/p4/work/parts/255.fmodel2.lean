/-! the reference: a minute, as functions -/
theorem dX9_choice_0 : decode cX9_choice 0 = .ok (.aload_n 0, 1) := by decide +kernel
theorem dX9_choice_1 : decode cX9_choice 1 = .ok (.getfield 97, 3) := by decide +kernel
theorem dX9_choice_4 : decode cX9_choice 4 = .ok (.iload_n 1, 1) := by decide +kernel
theorem dX9_choice_5 : decode cX9_choice 5 = .ok (.iaload, 1) := by decide +kernel
theorem dX9_choice_6 : decode cX9_choice 6 = .ok (.iconst (-1), 1) := by decide +kernel
theorem dX9_choice_7 : decode cX9_choice 7 = .ok (.if_icmp .eq 10, 3) := by decide +kernel
theorem dX9_choice_10 : decode cX9_choice 10 = .ok (.aload_n 0, 1) := by decide +kernel
theorem dX9_choice_11 : decode cX9_choice 11 = .ok (.getfield 97, 3) := by decide +kernel
theorem dX9_choice_14 : decode cX9_choice 14 = .ok (.iload_n 1, 1) := by decide +kernel
theorem dX9_choice_15 : decode cX9_choice 15 = .ok (.iaload, 1) := by decide +kernel
theorem dX9_choice_16 : decode cX9_choice 16 = .ok (.ireturn, 1) := by decide +kernel
theorem dX9_choice_17 : decode cX9_choice 17 = .ok (.aload_n 0, 1) := by decide +kernel
theorem dX9_choice_18 : decode cX9_choice 18 = .ok (.getfield 9, 3) := by decide +kernel
theorem dX9_choice_21 : decode cX9_choice 21 = .ok (.bipush 7, 2) := by decide +kernel
theorem dX9_choice_23 : decode cX9_choice 23 = .ok (.iaload, 1) := by decide +kernel
theorem dX9_choice_24 : decode cX9_choice 24 = .ok (.iconst (-1), 1) := by decide +kernel
theorem dX9_choice_25 : decode cX9_choice 25 = .ok (.if_icmp .ne 10, 3) := by decide +kernel
theorem dX9_choice_28 : decode cX9_choice 28 = .ok (.aload_n 0, 1) := by decide +kernel
theorem dX9_choice_29 : decode cX9_choice 29 = .ok (.getfield 16, 3) := by decide +kernel
theorem dX9_choice_32 : decode cX9_choice 32 = .ok (.iload_n 1, 1) := by decide +kernel
theorem dX9_choice_33 : decode cX9_choice 33 = .ok (.iaload, 1) := by decide +kernel
theorem dX9_choice_34 : decode cX9_choice 34 = .ok (.ireturn, 1) := by decide +kernel
theorem dX9_choice_35 : decode cX9_choice 35 = .ok (.aload_n 0, 1) := by decide +kernel
theorem dX9_choice_36 : decode cX9_choice 36 = .ok (.aload_n 0, 1) := by decide +kernel
theorem dX9_choice_37 : decode cX9_choice 37 = .ok (.iconst 1, 1) := by decide +kernel
theorem dX9_choice_38 : decode cX9_choice 38 = .ok (.invokevirtual 341, 3) := by decide +kernel
theorem dX9_choice_41 : decode cX9_choice 41 = .ok (.aload_n 0, 1) := by decide +kernel
theorem dX9_choice_42 : decode cX9_choice 42 = .ok (.getfield 19, 3) := by decide +kernel
theorem dX9_choice_45 : decode cX9_choice 45 = .ok (.aload_n 0, 1) := by decide +kernel
theorem dX9_choice_46 : decode cX9_choice 46 = .ok (.getfield 28, 3) := by decide +kernel
theorem dX9_choice_49 : decode cX9_choice 49 = .ok (.iload_n 1, 1) := by decide +kernel
theorem dX9_choice_50 : decode cX9_choice 50 = .ok (.iaload, 1) := by decide +kernel
theorem dX9_choice_51 : decode cX9_choice 51 = .ok (.iaload, 1) := by decide +kernel
theorem dX9_choice_52 : decode cX9_choice 52 = .ok (.invokevirtual 335, 3) := by decide +kernel
theorem dX9_choice_55 : decode cX9_choice 55 = .ok (.iconst 1, 1) := by decide +kernel
theorem dX9_choice_56 : decode cX9_choice 56 = .ok (.iload_n 1, 1) := by decide +kernel
theorem dX9_choice_57 : decode cX9_choice 57 = .ok (.ishl, 1) := by decide +kernel
theorem dX9_choice_58 : decode cX9_choice 58 = .ok (.iconst (-1), 1) := by decide +kernel
theorem dX9_choice_59 : decode cX9_choice 59 = .ok (.ixor, 1) := by decide +kernel
theorem dX9_choice_60 : decode cX9_choice 60 = .ok (.iand, 1) := by decide +kernel
theorem dX9_choice_61 : decode cX9_choice 61 = .ok (.istore_n 2, 1) := by decide +kernel
theorem dX9_choice_62 : decode cX9_choice 62 = .ok (.aload_n 0, 1) := by decide +kernel
theorem dX9_choice_63 : decode cX9_choice 63 = .ok (.getfield 90, 3) := by decide +kernel
theorem dX9_choice_66 : decode cX9_choice 66 = .ok (.iconst 0, 1) := by decide +kernel
theorem dX9_choice_67 : decode cX9_choice 67 = .ok (.iload_n 1, 1) := by decide +kernel
theorem dX9_choice_68 : decode cX9_choice 68 = .ok (.i2l, 1) := by decide +kernel
theorem dX9_choice_69 : decode cX9_choice 69 = .ok (.lastore, 1) := by decide +kernel
theorem dX9_choice_70 : decode cX9_choice 70 = .ok (.aload_n 0, 1) := by decide +kernel
theorem dX9_choice_71 : decode cX9_choice 71 = .ok (.getfield 90, 3) := by decide +kernel
theorem dX9_choice_74 : decode cX9_choice 74 = .ok (.iconst 1, 1) := by decide +kernel
theorem dX9_choice_75 : decode cX9_choice 75 = .ok (.aload_n 0, 1) := by decide +kernel
theorem dX9_choice_76 : decode cX9_choice 76 = .ok (.getfield 28, 3) := by decide +kernel
theorem dX9_choice_79 : decode cX9_choice 79 = .ok (.iload_n 1, 1) := by decide +kernel
theorem dX9_choice_80 : decode cX9_choice 80 = .ok (.iaload, 1) := by decide +kernel
theorem dX9_choice_81 : decode cX9_choice 81 = .ok (.i2l, 1) := by decide +kernel
theorem dX9_choice_82 : decode cX9_choice 82 = .ok (.lastore, 1) := by decide +kernel
theorem dX9_choice_83 : decode cX9_choice 83 = .ok (.aload_n 0, 1) := by decide +kernel
theorem dX9_choice_84 : decode cX9_choice 84 = .ok (.getfield 90, 3) := by decide +kernel
theorem dX9_choice_87 : decode cX9_choice 87 = .ok (.iconst 2, 1) := by decide +kernel
theorem dX9_choice_88 : decode cX9_choice 88 = .ok (.aload_n 0, 1) := by decide +kernel
theorem dX9_choice_89 : decode cX9_choice 89 = .ok (.getfield 22, 3) := by decide +kernel
theorem dX9_choice_92 : decode cX9_choice 92 = .ok (.iload_n 1, 1) := by decide +kernel
theorem dX9_choice_93 : decode cX9_choice 93 = .ok (.iaload, 1) := by decide +kernel
theorem dX9_choice_94 : decode cX9_choice 94 = .ok (.i2l, 1) := by decide +kernel
theorem dX9_choice_95 : decode cX9_choice 95 = .ok (.lastore, 1) := by decide +kernel
theorem dX9_choice_96 : decode cX9_choice 96 = .ok (.aload_n 0, 1) := by decide +kernel
theorem dX9_choice_97 : decode cX9_choice 97 = .ok (.getfield 90, 3) := by decide +kernel
theorem dX9_choice_100 : decode cX9_choice 100 = .ok (.iconst 3, 1) := by decide +kernel
theorem dX9_choice_101 : decode cX9_choice 101 = .ok (.aload_n 0, 1) := by decide +kernel
theorem dX9_choice_102 : decode cX9_choice 102 = .ok (.getfield 25, 3) := by decide +kernel
theorem dX9_choice_105 : decode cX9_choice 105 = .ok (.aload_n 0, 1) := by decide +kernel
theorem dX9_choice_106 : decode cX9_choice 106 = .ok (.getfield 28, 3) := by decide +kernel
theorem dX9_choice_109 : decode cX9_choice 109 = .ok (.iload_n 1, 1) := by decide +kernel
theorem dX9_choice_110 : decode cX9_choice 110 = .ok (.iaload, 1) := by decide +kernel
theorem dX9_choice_111 : decode cX9_choice 111 = .ok (.iaload, 1) := by decide +kernel
theorem dX9_choice_112 : decode cX9_choice 112 = .ok (.i2l, 1) := by decide +kernel
theorem dX9_choice_113 : decode cX9_choice 113 = .ok (.lastore, 1) := by decide +kernel
theorem dX9_choice_114 : decode cX9_choice 114 = .ok (.aload_n 0, 1) := by decide +kernel
theorem dX9_choice_115 : decode cX9_choice 115 = .ok (.getfield 90, 3) := by decide +kernel
theorem dX9_choice_118 : decode cX9_choice 118 = .ok (.iconst 4, 1) := by decide +kernel
theorem dX9_choice_119 : decode cX9_choice 119 = .ok (.aload_n 0, 1) := by decide +kernel
theorem dX9_choice_120 : decode cX9_choice 120 = .ok (.getfield 13, 3) := by decide +kernel
theorem dX9_choice_123 : decode cX9_choice 123 = .ok (.aload_n 0, 1) := by decide +kernel
theorem dX9_choice_124 : decode cX9_choice 124 = .ok (.getfield 19, 3) := by decide +kernel
theorem dX9_choice_127 : decode cX9_choice 127 = .ok (.aload_n 0, 1) := by decide +kernel
theorem dX9_choice_128 : decode cX9_choice 128 = .ok (.getfield 28, 3) := by decide +kernel
theorem dX9_choice_131 : decode cX9_choice 131 = .ok (.iload_n 1, 1) := by decide +kernel
theorem dX9_choice_132 : decode cX9_choice 132 = .ok (.iaload, 1) := by decide +kernel
theorem dX9_choice_133 : decode cX9_choice 133 = .ok (.iaload, 1) := by decide +kernel
theorem dX9_choice_134 : decode cX9_choice 134 = .ok (.iaload, 1) := by decide +kernel
theorem dX9_choice_135 : decode cX9_choice 135 = .ok (.i2l, 1) := by decide +kernel
theorem dX9_choice_136 : decode cX9_choice 136 = .ok (.lastore, 1) := by decide +kernel
theorem dX9_choice_137 : decode cX9_choice 137 = .ok (.aload_n 0, 1) := by decide +kernel
theorem dX9_choice_138 : decode cX9_choice 138 = .ok (.getfield 90, 3) := by decide +kernel
theorem dX9_choice_141 : decode cX9_choice 141 = .ok (.iconst 5, 1) := by decide +kernel
theorem dX9_choice_142 : decode cX9_choice 142 = .ok (.aload_n 0, 1) := by decide +kernel
theorem dX9_choice_143 : decode cX9_choice 143 = .ok (.getfield 16, 3) := by decide +kernel
theorem dX9_choice_146 : decode cX9_choice 146 = .ok (.iload_n 1, 1) := by decide +kernel
theorem dX9_choice_147 : decode cX9_choice 147 = .ok (.iaload, 1) := by decide +kernel
theorem dX9_choice_148 : decode cX9_choice 148 = .ok (.i2l, 1) := by decide +kernel
theorem dX9_choice_149 : decode cX9_choice 149 = .ok (.lastore, 1) := by decide +kernel
theorem dX9_choice_150 : decode cX9_choice 150 = .ok (.aload_n 0, 1) := by decide +kernel
theorem dX9_choice_151 : decode cX9_choice 151 = .ok (.getfield 90, 3) := by decide +kernel
theorem dX9_choice_154 : decode cX9_choice 154 = .ok (.bipush 6, 2) := by decide +kernel
theorem dX9_choice_156 : decode cX9_choice 156 = .ok (.aload_n 0, 1) := by decide +kernel
theorem dX9_choice_157 : decode cX9_choice 157 = .ok (.iload_n 1, 1) := by decide +kernel
theorem dX9_choice_158 : decode cX9_choice 158 = .ok (.invokevirtual 359, 3) := by decide +kernel
theorem dX9_choice_161 : decode cX9_choice 161 = .ok (.i2l, 1) := by decide +kernel
theorem dX9_choice_162 : decode cX9_choice 162 = .ok (.lastore, 1) := by decide +kernel
theorem dX9_choice_163 : decode cX9_choice 163 = .ok (.aload_n 0, 1) := by decide +kernel
theorem dX9_choice_164 : decode cX9_choice 164 = .ok (.getfield 90, 3) := by decide +kernel
theorem dX9_choice_167 : decode cX9_choice 167 = .ok (.bipush 7, 2) := by decide +kernel
theorem dX9_choice_169 : decode cX9_choice 169 = .ok (.iload_n 2, 1) := by decide +kernel
theorem dX9_choice_170 : decode cX9_choice 170 = .ok (.invokestatic 370, 3) := by decide +kernel
theorem dX9_choice_173 : decode cX9_choice 173 = .ok (.i2l, 1) := by decide +kernel
theorem dX9_choice_174 : decode cX9_choice 174 = .ok (.lastore, 1) := by decide +kernel
theorem dX9_choice_175 : decode cX9_choice 175 = .ok (.aload_n 0, 1) := by decide +kernel
theorem dX9_choice_176 : decode cX9_choice 176 = .ok (.getfield 90, 3) := by decide +kernel
theorem dX9_choice_179 : decode cX9_choice 179 = .ok (.bipush 8, 2) := by decide +kernel
theorem dX9_choice_181 : decode cX9_choice 181 = .ok (.aload_n 0, 1) := by decide +kernel
theorem dX9_choice_182 : decode cX9_choice 182 = .ok (.iload_n 2, 1) := by decide +kernel
theorem dX9_choice_183 : decode cX9_choice 183 = .ok (.invokevirtual 338, 3) := by decide +kernel
theorem dX9_choice_186 : decode cX9_choice 186 = .ok (.i2l, 1) := by decide +kernel
theorem dX9_choice_187 : decode cX9_choice 187 = .ok (.lastore, 1) := by decide +kernel
theorem dX9_choice_188 : decode cX9_choice 188 = .ok (.aload_n 0, 1) := by decide +kernel
theorem dX9_choice_189 : decode cX9_choice 189 = .ok (.getfield 90, 3) := by decide +kernel
theorem dX9_choice_192 : decode cX9_choice 192 = .ok (.bipush 9, 2) := by decide +kernel
theorem dX9_choice_194 : decode cX9_choice 194 = .ok (.aload_n 0, 1) := by decide +kernel
theorem dX9_choice_195 : decode cX9_choice 195 = .ok (.iconst 2, 1) := by decide +kernel
theorem dX9_choice_196 : decode cX9_choice 196 = .ok (.invokevirtual 341, 3) := by decide +kernel
theorem dX9_choice_199 : decode cX9_choice 199 = .ok (.invokestatic 370, 3) := by decide +kernel
theorem dX9_choice_202 : decode cX9_choice 202 = .ok (.i2l, 1) := by decide +kernel
theorem dX9_choice_203 : decode cX9_choice 203 = .ok (.lastore, 1) := by decide +kernel
theorem dX9_choice_204 : decode cX9_choice 204 = .ok (.aload_n 0, 1) := by decide +kernel
theorem dX9_choice_205 : decode cX9_choice 205 = .ok (.getfield 90, 3) := by decide +kernel
theorem dX9_choice_208 : decode cX9_choice 208 = .ok (.bipush 10, 2) := by decide +kernel
theorem dX9_choice_210 : decode cX9_choice 210 = .ok (.aload_n 0, 1) := by decide +kernel
theorem dX9_choice_211 : decode cX9_choice 211 = .ok (.getfield 9, 3) := by decide +kernel
theorem dX9_choice_214 : decode cX9_choice 214 = .ok (.iconst 4, 1) := by decide +kernel
theorem dX9_choice_215 : decode cX9_choice 215 = .ok (.iaload, 1) := by decide +kernel
theorem dX9_choice_216 : decode cX9_choice 216 = .ok (.i2l, 1) := by decide +kernel
theorem dX9_choice_217 : decode cX9_choice 217 = .ok (.lastore, 1) := by decide +kernel
theorem dX9_choice_218 : decode cX9_choice 218 = .ok (.aload_n 0, 1) := by decide +kernel
theorem dX9_choice_219 : decode cX9_choice 219 = .ok (.invokevirtual 373, 3) := by decide +kernel
theorem dX9_choice_222 : decode cX9_choice 222 = .ok (.lconst 0, 1) := by decide +kernel
theorem dX9_choice_223 : decode cX9_choice 223 = .ok (.lcmp, 1) := by decide +kernel
theorem dX9_choice_224 : decode cX9_choice 224 = .ok (.ifCond .le 7, 3) := by decide +kernel
theorem dX9_choice_227 : decode cX9_choice 227 = .ok (.iconst 1, 1) := by decide +kernel
theorem dX9_choice_228 : decode cX9_choice 228 = .ok (.goto 4, 3) := by decide +kernel
theorem dX9_choice_231 : decode cX9_choice 231 = .ok (.iconst 0, 1) := by decide +kernel
theorem dX9_choice_232 : decode cX9_choice 232 = .ok (.ireturn, 1) := by decide +kernel
theorem dX9_goFor_0 : decode cX9_goFor 0 = .ok (.iconst 0, 1) := by decide +kernel
theorem dX9_goFor_1 : decode cX9_goFor 1 = .ok (.istore_n 2, 1) := by decide +kernel
theorem dX9_goFor_2 : decode cX9_goFor 2 = .ok (.iload_n 2, 1) := by decide +kernel
theorem dX9_goFor_3 : decode cX9_goFor 3 = .ok (.iload_n 1, 1) := by decide +kernel
theorem dX9_goFor_4 : decode cX9_goFor 4 = .ok (.if_icmp .ge 14, 3) := by decide +kernel
theorem dX9_goFor_7 : decode cX9_goFor 7 = .ok (.aload_n 0, 1) := by decide +kernel
theorem dX9_goFor_8 : decode cX9_goFor 8 = .ok (.invokevirtual 383, 3) := by decide +kernel
theorem dX9_goFor_11 : decode cX9_goFor 11 = .ok (.pop, 1) := by decide +kernel
theorem dX9_goFor_12 : decode cX9_goFor 12 = .ok (.iinc 2 1, 3) := by decide +kernel
theorem dX9_goFor_15 : decode cX9_goFor 15 = .ok (.goto (-13), 3) := by decide +kernel
theorem dX9_goFor_18 : decode cX9_goFor 18 = .ok (.return_, 1) := by decide +kernel
theorem dX9_goes_0 : decode cX9_goes 0 = .ok (.iconst 0, 1) := by decide +kernel
theorem dX9_goes_1 : decode cX9_goes 1 = .ok (.istore_n 1, 1) := by decide +kernel
theorem dX9_goes_2 : decode cX9_goes 2 = .ok (.iload_n 1, 1) := by decide +kernel
theorem dX9_goes_3 : decode cX9_goes 3 = .ok (.aload_n 0, 1) := by decide +kernel
theorem dX9_goes_4 : decode cX9_goes 4 = .ok (.getfield 9, 3) := by decide +kernel
theorem dX9_goes_7 : decode cX9_goes 7 = .ok (.iconst 3, 1) := by decide +kernel
theorem dX9_goes_8 : decode cX9_goes 8 = .ok (.iaload, 1) := by decide +kernel
theorem dX9_goes_9 : decode cX9_goes 9 = .ok (.if_icmp .ge 34, 3) := by decide +kernel
theorem dX9_goes_12 : decode cX9_goes 12 = .ok (.aload_n 0, 1) := by decide +kernel
theorem dX9_goes_13 : decode cX9_goes 13 = .ok (.getfield 16, 3) := by decide +kernel
theorem dX9_goes_16 : decode cX9_goes 16 = .ok (.iload_n 1, 1) := by decide +kernel
theorem dX9_goes_17 : decode cX9_goes 17 = .ok (.aload_n 0, 1) := by decide +kernel
theorem dX9_goes_18 : decode cX9_goes 18 = .ok (.getfield 16, 3) := by decide +kernel
theorem dX9_goes_21 : decode cX9_goes 21 = .ok (.iload_n 1, 1) := by decide +kernel
theorem dX9_goes_22 : decode cX9_goes 22 = .ok (.iaload, 1) := by decide +kernel
theorem dX9_goes_23 : decode cX9_goes 23 = .ok (.iconst 2, 1) := by decide +kernel
theorem dX9_goes_24 : decode cX9_goes 24 = .ok (.if_icmp .ne 7, 3) := by decide +kernel
theorem dX9_goes_27 : decode cX9_goes 27 = .ok (.iconst 2, 1) := by decide +kernel
theorem dX9_goes_28 : decode cX9_goes 28 = .ok (.goto 8, 3) := by decide +kernel
theorem dX9_goes_31 : decode cX9_goes 31 = .ok (.aload_n 0, 1) := by decide +kernel
theorem dX9_goes_32 : decode cX9_goes 32 = .ok (.iload_n 1, 1) := by decide +kernel
theorem dX9_goes_33 : decode cX9_goes 33 = .ok (.invokevirtual 377, 3) := by decide +kernel
theorem dX9_goes_36 : decode cX9_goes 36 = .ok (.iastore, 1) := by decide +kernel
theorem dX9_goes_37 : decode cX9_goes 37 = .ok (.iinc 1 1, 3) := by decide +kernel
theorem dX9_goes_40 : decode cX9_goes 40 = .ok (.goto (-38), 3) := by decide +kernel
theorem dX9_goes_43 : decode cX9_goes 43 = .ok (.aload_n 0, 1) := by decide +kernel
theorem dX9_goes_44 : decode cX9_goes 44 = .ok (.getfield 9, 3) := by decide +kernel
theorem dX9_goes_47 : decode cX9_goes 47 = .ok (.iconst 4, 1) := by decide +kernel
theorem dX9_goes_48 : decode cX9_goes 48 = .ok (.dup2, 1) := by decide +kernel
theorem dX9_goes_49 : decode cX9_goes 49 = .ok (.iaload, 1) := by decide +kernel
theorem dX9_goes_50 : decode cX9_goes 50 = .ok (.iconst 1, 1) := by decide +kernel
theorem dX9_goes_51 : decode cX9_goes 51 = .ok (.iadd, 1) := by decide +kernel
theorem dX9_goes_52 : decode cX9_goes 52 = .ok (.iastore, 1) := by decide +kernel
theorem dX9_goes_53 : decode cX9_goes 53 = .ok (.aload_n 0, 1) := by decide +kernel
theorem dX9_goes_54 : decode cX9_goes 54 = .ok (.invokevirtual 380, 3) := by decide +kernel
theorem dX9_goes_57 : decode cX9_goes 57 = .ok (.ireturn, 1) := by decide +kernel
set_option maxRecDepth 20000 in
theorem ggX9_choice_X9_bits : GoodIn wsX9_choice wsX9_bits := goodIn_r _ [36] (by decide +kernel) (by decide +kernel)
set_option maxRecDepth 20000 in
theorem gX9_choice_X9_bits : GoodIn wsX9_choice (va_wsS RX9 370 yX9_bits wsX9_bits) := goodIn_app (goodIn_of _ (by decide +kernel)) ggX9_choice_X9_bits
set_option maxRecDepth 20000 in
theorem ggX9_choice_X9_givesNow : GoodIn wsX9_choice wsX9_givesNow := goodIn_r _ [25, 10, 11, 12, 13, 14, 2, 3, 26, 27, 28, 29, 4, 5, 9, 7, 19, 20, 21, 15, 16, 17, 18, 30, 31, 32, 33, 58, 59, 60, 61, 62, 63, 64, 65, 66, 67, 68, 69, 70, 71, 72, 73, 74, 75, 76, 77, 78, 79, 80, 81, 82, 83, 84, 85, 86, 87, 88, 89, 90, 91, 92, 93, 94, 95, 96, 97, 98, 99, 100, 101, 102, 103, 104, 105, 106, 107, 108, 109, 110] (by decide +kernel) (by decide +kernel)
set_option maxRecDepth 20000 in
theorem gX9_choice_X9_givesNow : GoodIn wsX9_choice (wsV RX9 359 RX9 yX9_givesNow wsX9_givesNow) := goodIn_app (goodIn_of _ (by decide +kernel)) ggX9_choice_X9_givesNow
set_option maxRecDepth 20000 in
theorem ggX9_choice_X9_onStrand : GoodIn wsX9_choice wsX9_onStrand := goodIn_r _ [18, 2, 4, 5, 19, 20, 13, 21, 58, 59, 60, 61, 62, 63, 64, 65, 66, 67, 68, 69, 70, 71, 72, 73, 74, 75, 76, 77, 78, 79, 80, 81, 82, 83, 84, 85, 86, 87, 88, 89, 90, 91, 92, 93, 94, 95, 96, 97, 98, 99, 100, 101, 102, 103, 104, 105, 106, 107, 108, 109, 110] (by decide +kernel) (by decide +kernel)
set_option maxRecDepth 20000 in
theorem gX9_choice_X9_onStrand : GoodIn wsX9_choice (wsV RX9 335 RX9 yX9_onStrand wsX9_onStrand) := goodIn_app (goodIn_of _ (by decide +kernel)) ggX9_choice_X9_onStrand
set_option maxRecDepth 20000 in
theorem ggX9_choice_X9_those : GoodIn wsX9_choice wsX9_those := goodIn_r _ [14, 2, 3, 58, 59, 60, 61, 62, 63, 64, 65, 66, 67, 68, 69, 70, 71, 72, 73, 74, 75, 76, 77, 78, 79, 80, 81, 82, 83, 84, 85, 86, 87, 88, 89, 90, 91, 92, 93, 94, 95, 96, 97, 98, 99, 100, 101, 102, 103, 104, 105, 106, 107, 108, 109, 110] (by decide +kernel) (by decide +kernel)
set_option maxRecDepth 20000 in
theorem gX9_choice_X9_those : GoodIn wsX9_choice (wsV RX9 341 RX9 yX9_those wsX9_those) := goodIn_app (goodIn_of _ (by decide +kernel)) ggX9_choice_X9_those
set_option maxRecDepth 20000 in
theorem ggX9_choice_X9_wanted : GoodIn wsX9_choice wsX9_wanted := goodIn_r _ [40, 2, 41, 42, 43, 44, 45, 46, 47, 13, 48, 49, 50, 51, 6, 52, 53, 54, 55, 56, 57, 58, 59, 60, 61, 62, 63, 64, 65, 66, 67, 68, 69, 70, 71, 72, 73, 74, 75, 76, 77, 78, 79, 80, 81, 82, 83, 84, 85, 86, 87, 88, 89, 90, 91, 92, 93, 94, 95, 96, 97, 98, 99, 100, 101, 102, 103, 104, 105, 106, 107, 108, 109, 110] (by decide +kernel) (by decide +kernel)
set_option maxRecDepth 20000 in
theorem gX9_choice_X9_wanted : GoodIn wsX9_choice (wsV RX9 373 RX9 yX9_wanted wsX9_wanted) := goodIn_app (goodIn_of _ (by decide +kernel)) ggX9_choice_X9_wanted
set_option maxRecDepth 20000 in
theorem ggX9_choice_X9_weightOf : GoodIn wsX9_choice wsX9_weightOf := goodIn_r _ [33, 2, 7, 19, 20, 13, 21, 58, 59, 60, 61, 62, 63, 64, 65, 66, 67, 68, 69, 70, 71, 72, 73, 74, 75, 76, 77, 78, 79, 80, 81, 82, 83, 84, 85, 86, 87, 88, 89, 90, 91, 92, 93, 94, 95, 96, 97, 98, 99, 100, 101, 102, 103, 104, 105, 106, 107, 108, 109, 110] (by decide +kernel) (by decide +kernel)
set_option maxRecDepth 20000 in
theorem gX9_choice_X9_weightOf : GoodIn wsX9_choice (wsV RX9 338 RX9 yX9_weightOf wsX9_weightOf) := goodIn_app (goodIn_of _ (by decide +kernel)) ggX9_choice_X9_weightOf
set_option maxRecDepth 20000 in
theorem ggX9_goFor_X9_goes : GoodIn wsX9_goFor wsX9_goes := goodIn_r _ [5, 6, 7, 8, 9, 10, 4, 11, 12, 13, 14, 15, 16, 17, 18, 19, 20, 21, 22, 23, 24, 25, 26, 27, 28, 29, 30, 31, 32, 33, 34, 35, 36, 37, 38, 39, 40, 41, 42, 43, 44, 45, 46, 47, 48, 49, 50, 51, 52, 53, 54, 55, 56, 57, 58, 59, 60, 61, 62, 63, 64, 65, 66, 67, 68, 69, 70, 71, 72, 73, 74, 75, 76, 77, 78, 79, 80, 81, 82, 83, 84, 85, 86, 87, 88, 89, 90, 91, 92, 93, 94, 95, 96, 97, 98, 99, 100, 101, 102, 103, 104, 105, 106, 107, 108, 109, 110, 111, 112, 113, 114, 115, 116, 117, 118, 119, 120, 121, 122, 123, 124, 125, 126] (by decide +kernel) (by decide +kernel)
set_option maxRecDepth 20000 in
theorem gX9_goFor_X9_goes : GoodIn wsX9_goFor (wsV RX9 383 RX9 yX9_goes wsX9_goes) := goodIn_app (goodIn_of _ (by decide +kernel)) ggX9_goFor_X9_goes
set_option maxRecDepth 20000 in
theorem ggX9_goes_X9_choice : GoodIn wsX9_goes wsX9_choice := goodIn_r _ [7, 8, 1, 2, 9, 10, 11, 12, 13, 14, 15, 16, 17, 6, 18, 19, 20, 21, 22, 23, 24, 25, 26, 27, 28, 29, 30, 31, 32, 33, 34, 35, 36, 37, 38, 39, 40, 41, 42, 43, 44, 45, 46, 47, 48, 49, 50, 51, 52, 53, 54, 55, 56, 57, 58, 59, 60, 61, 70, 71, 72, 73, 74, 75, 76, 77, 78, 79, 80, 81, 82, 83, 84, 85, 86, 87, 88, 89, 90, 91, 92, 93, 94, 95, 96, 97, 98, 99, 100, 101, 102, 103, 104, 105, 106, 107, 108, 109, 110, 111, 112, 113, 114, 115, 116, 117, 118, 119, 120, 121, 122] (by decide +kernel) (by decide +kernel)
set_option maxRecDepth 20000 in
theorem gX9_goes_X9_choice : GoodIn wsX9_goes (wsV RX9 377 RX9 yX9_choice wsX9_choice) := goodIn_app (goodIn_of _ (by decide +kernel)) ggX9_goes_X9_choice
set_option maxRecDepth 20000 in
theorem ggX9_goes_X9_settles : GoodIn wsX9_goes wsX9_settles := goodIn_r _ [65, 1, 2, 15, 16, 17, 6, 18, 66, 67, 68, 69, 13, 10, 23, 24, 25, 30, 31, 32, 33, 9, 14, 12, 19, 20, 21, 22, 34, 35, 36, 37, 70, 71, 72, 73, 74, 75, 76, 77, 78, 79, 80, 81, 82, 83, 84, 85, 86, 87, 88, 89, 90, 91, 92, 93, 94, 95, 96, 97, 98, 99, 100, 101, 102, 103, 104, 105, 106, 107, 108, 109, 110, 111, 112, 113, 114, 115, 116, 117, 118, 119, 120, 121, 122] (by decide +kernel) (by decide +kernel)
set_option maxRecDepth 20000 in
theorem gX9_goes_X9_settles : GoodIn wsX9_goes (wsV RX9 380 RX9 yX9_settles wsX9_settles) := goodIn_app (goodIn_of _ (by decide +kernel)) ggX9_goes_X9_settles
