/-! the reference reads, as functions -/
theorem dX9_amount_0 : decode cX9_amount 0 = .ok (.aload_n 0, 1) := of_0 ok_aload_n_0 (by decide +kernel)
theorem dX9_amount_1 : decode cX9_amount 1 = .ok (.invokevirtual 184, 3) := of_u2 ok_invokevirtual 0 184 (by decide +kernel)
theorem dX9_amount_4 : decode cX9_amount 4 = .ok (.aload_n 0, 1) := of_0 ok_aload_n_0 (by decide +kernel)
theorem dX9_amount_5 : decode cX9_amount 5 = .ok (.getfield 164, 3) := of_u2 ok_getfield 0 164 (by decide +kernel)
theorem dX9_amount_8 : decode cX9_amount 8 = .ok (.istore_n 3, 1) := of_0 ok_istore_n_3 (by decide +kernel)
theorem dX9_amount_9 : decode cX9_amount 9 = .ok (.aload_n 0, 1) := of_0 ok_aload_n_0 (by decide +kernel)
theorem dX9_amount_10 : decode cX9_amount 10 = .ok (.getfield 161, 3) := of_u2 ok_getfield 0 161 (by decide +kernel)
theorem dX9_amount_13 : decode cX9_amount 13 = .ok (.ifCond .ne 12, 3) := of_s2 ok_ifCond_ne 0 12 (by decide +kernel)
theorem dX9_amount_16 : decode cX9_amount 16 = .ok (.aload_n 0, 1) := of_0 ok_aload_n_0 (by decide +kernel)
theorem dX9_amount_17 : decode cX9_amount 17 = .ok (.ldc 208, 2) := of_u1 ok_ldc (by decide +kernel)
theorem dX9_amount_19 : decode cX9_amount 19 = .ok (.invokevirtual 209, 3) := of_u2 ok_invokevirtual 0 209 (by decide +kernel)
theorem dX9_amount_22 : decode cX9_amount 22 = .ok (.goto 4, 3) := of_s2 ok_goto 0 4 (by decide +kernel)
theorem dX9_amount_25 : decode cX9_amount 25 = .ok (.iconst 0, 1) := of_0 ok_iconst_0 (by decide +kernel)
theorem dX9_amount_26 : decode cX9_amount 26 = .ok (.istore 4, 2) := of_u1 ok_istore (by decide +kernel)
theorem dX9_amount_28 : decode cX9_amount 28 = .ok (.aload_n 0, 1) := of_0 ok_aload_n_0 (by decide +kernel)
theorem dX9_amount_29 : decode cX9_amount 29 = .ok (.getfield 161, 3) := of_u2 ok_getfield 0 161 (by decide +kernel)
theorem dX9_amount_32 : decode cX9_amount 32 = .ok (.ifCond .ne 22, 3) := of_s2 ok_ifCond_ne 0 22 (by decide +kernel)
theorem dX9_amount_35 : decode cX9_amount 35 = .ok (.iload 4, 2) := of_u1 ok_iload (by decide +kernel)
theorem dX9_amount_37 : decode cX9_amount 37 = .ok (.i2l, 1) := of_0 ok_i2l (by decide +kernel)
theorem dX9_amount_38 : decode cX9_amount 38 = .ok (.iload_n 1, 1) := of_0 ok_iload_n_1 (by decide +kernel)
theorem dX9_amount_39 : decode cX9_amount 39 = .ok (.i2l, 1) := of_0 ok_i2l (by decide +kernel)
theorem dX9_amount_40 : decode cX9_amount 40 = .ok (.iload_n 2, 1) := of_0 ok_iload_n_2 (by decide +kernel)
theorem dX9_amount_41 : decode cX9_amount 41 = .ok (.i2l, 1) := of_0 ok_i2l (by decide +kernel)
theorem dX9_amount_42 : decode cX9_amount 42 = .ok (.invokestatic 131, 3) := of_u2 ok_invokestatic 0 131 (by decide +kernel)
theorem dX9_amount_45 : decode cX9_amount 45 = .ok (.ifCond .ne 9, 3) := of_s2 ok_ifCond_ne 0 9 (by decide +kernel)
theorem dX9_amount_48 : decode cX9_amount 48 = .ok (.aload_n 0, 1) := of_0 ok_aload_n_0 (by decide +kernel)
theorem dX9_amount_49 : decode cX9_amount 49 = .ok (.iconst 1, 1) := of_0 ok_iconst_1 (by decide +kernel)
theorem dX9_amount_50 : decode cX9_amount 50 = .ok (.iload_n 3, 1) := of_0 ok_iload_n_3 (by decide +kernel)
theorem dX9_amount_51 : decode cX9_amount 51 = .ok (.invokevirtual 200, 3) := of_u2 ok_invokevirtual 0 200 (by decide +kernel)
theorem dX9_amount_54 : decode cX9_amount 54 = .ok (.iload 4, 2) := of_u1 ok_iload (by decide +kernel)
theorem dX9_amount_56 : decode cX9_amount 56 = .ok (.ireturn, 1) := of_0 ok_ireturn (by decide +kernel)
theorem dX9_answers_0 : decode cX9_answers 0 = .ok (.aload_n 0, 1) := of_0 ok_aload_n_0 (by decide +kernel)
theorem dX9_answers_1 : decode cX9_answers 1 = .ok (.invokevirtual 238, 3) := of_u2 ok_invokevirtual 0 238 (by decide +kernel)
theorem dX9_answers_4 : decode cX9_answers 4 = .ok (.iload_n 1, 1) := of_0 ok_iload_n_1 (by decide +kernel)
theorem dX9_answers_5 : decode cX9_answers 5 = .ok (.if_icmp .ne 49, 3) := of_s2 ok_if_icmp_ne 0 49 (by decide +kernel)
theorem dX9_answers_8 : decode cX9_answers 8 = .ok (.aload_n 0, 1) := of_0 ok_aload_n_0 (by decide +kernel)
theorem dX9_answers_9 : decode cX9_answers 9 = .ok (.getfield 161, 3) := of_u2 ok_getfield 0 161 (by decide +kernel)
theorem dX9_answers_12 : decode cX9_answers 12 = .ok (.ifCond .ne 42, 3) := of_s2 ok_ifCond_ne 0 42 (by decide +kernel)
theorem dX9_answers_15 : decode cX9_answers 15 = .ok (.aload_n 0, 1) := of_0 ok_aload_n_0 (by decide +kernel)
theorem dX9_answers_16 : decode cX9_answers 16 = .ok (.iload_n 1, 1) := of_0 ok_iload_n_1 (by decide +kernel)
theorem dX9_answers_17 : decode cX9_answers 17 = .ok (.iconst 0, 1) := of_0 ok_iconst_0 (by decide +kernel)
theorem dX9_answers_18 : decode cX9_answers 18 = .ok (.invokevirtual 216, 3) := of_u2 ok_invokevirtual 0 216 (by decide +kernel)
theorem dX9_answers_21 : decode cX9_answers 21 = .ok (.aload_n 0, 1) := of_0 ok_aload_n_0 (by decide +kernel)
theorem dX9_answers_22 : decode cX9_answers 22 = .ok (.dup, 1) := of_0 ok_dup (by decide +kernel)
theorem dX9_answers_23 : decode cX9_answers 23 = .ok (.getfield 232, 3) := of_u2 ok_getfield 0 232 (by decide +kernel)
theorem dX9_answers_26 : decode cX9_answers 26 = .ok (.iconst 1, 1) := of_0 ok_iconst_1 (by decide +kernel)
theorem dX9_answers_27 : decode cX9_answers 27 = .ok (.isub, 1) := of_0 ok_isub (by decide +kernel)
theorem dX9_answers_28 : decode cX9_answers 28 = .ok (.putfield 232, 3) := of_u2 ok_putfield 0 232 (by decide +kernel)
theorem dX9_answers_31 : decode cX9_answers 31 = .ok (.aload_n 0, 1) := of_0 ok_aload_n_0 (by decide +kernel)
theorem dX9_answers_32 : decode cX9_answers 32 = .ok (.dup, 1) := of_0 ok_dup (by decide +kernel)
theorem dX9_answers_33 : decode cX9_answers 33 = .ok (.getfield 235, 3) := of_u2 ok_getfield 0 235 (by decide +kernel)
theorem dX9_answers_36 : decode cX9_answers 36 = .ok (.iload_n 1, 1) := of_0 ok_iload_n_1 (by decide +kernel)
theorem dX9_answers_37 : decode cX9_answers 37 = .ok (.bipush 9, 2) := of_s1 ok_bipush 9 (by decide +kernel)
theorem dX9_answers_39 : decode cX9_answers 39 = .ok (.if_icmp .ne 7, 3) := of_s2 ok_if_icmp_ne 0 7 (by decide +kernel)
theorem dX9_answers_42 : decode cX9_answers 42 = .ok (.iconst 1, 1) := of_0 ok_iconst_1 (by decide +kernel)
theorem dX9_answers_43 : decode cX9_answers 43 = .ok (.goto 4, 3) := of_s2 ok_goto 0 4 (by decide +kernel)
theorem dX9_answers_46 : decode cX9_answers 46 = .ok (.iconst 0, 1) := of_0 ok_iconst_0 (by decide +kernel)
theorem dX9_answers_47 : decode cX9_answers 47 = .ok (.isub, 1) := of_0 ok_isub (by decide +kernel)
theorem dX9_answers_48 : decode cX9_answers 48 = .ok (.putfield 235, 3) := of_u2 ok_putfield 0 235 (by decide +kernel)
theorem dX9_answers_51 : decode cX9_answers 51 = .ok (.goto (-51), 3) := of_s2 ok_goto 255 205 (by decide +kernel)
theorem dX9_answers_54 : decode cX9_answers 54 = .ok (.return_, 1) := of_0 ok_return_ (by decide +kernel)
theorem dX9_bits_0 : decode cX9_bits 0 = .ok (.iconst 0, 1) := of_0 ok_iconst_0 (by decide +kernel)
theorem dX9_bits_1 : decode cX9_bits 1 = .ok (.istore_n 1, 1) := of_0 ok_istore_n_1 (by decide +kernel)
theorem dX9_bits_2 : decode cX9_bits 2 = .ok (.iconst 0, 1) := of_0 ok_iconst_0 (by decide +kernel)
theorem dX9_bits_3 : decode cX9_bits 3 = .ok (.istore_n 2, 1) := of_0 ok_istore_n_2 (by decide +kernel)
theorem dX9_bits_4 : decode cX9_bits 4 = .ok (.iload_n 2, 1) := of_0 ok_iload_n_2 (by decide +kernel)
theorem dX9_bits_5 : decode cX9_bits 5 = .ok (.bipush 16, 2) := of_s1 ok_bipush 16 (by decide +kernel)
theorem dX9_bits_7 : decode cX9_bits 7 = .ok (.if_icmp .ge 17, 3) := of_s2 ok_if_icmp_ge 0 17 (by decide +kernel)
theorem dX9_bits_10 : decode cX9_bits 10 = .ok (.iload_n 1, 1) := of_0 ok_iload_n_1 (by decide +kernel)
theorem dX9_bits_11 : decode cX9_bits 11 = .ok (.iload_n 0, 1) := of_0 ok_iload_n_0 (by decide +kernel)
theorem dX9_bits_12 : decode cX9_bits 12 = .ok (.iload_n 2, 1) := of_0 ok_iload_n_2 (by decide +kernel)
theorem dX9_bits_13 : decode cX9_bits 13 = .ok (.ishr, 1) := of_0 ok_ishr (by decide +kernel)
theorem dX9_bits_14 : decode cX9_bits 14 = .ok (.iconst 1, 1) := of_0 ok_iconst_1 (by decide +kernel)
theorem dX9_bits_15 : decode cX9_bits 15 = .ok (.iand, 1) := of_0 ok_iand (by decide +kernel)
theorem dX9_bits_16 : decode cX9_bits 16 = .ok (.iadd, 1) := of_0 ok_iadd (by decide +kernel)
theorem dX9_bits_17 : decode cX9_bits 17 = .ok (.istore_n 1, 1) := of_0 ok_istore_n_1 (by decide +kernel)
theorem dX9_bits_18 : decode cX9_bits 18 = .ok (.iinc 2 1, 3) := of_ii ok_iinc 1 (by decide +kernel)
theorem dX9_bits_21 : decode cX9_bits 21 = .ok (.goto (-17), 3) := of_s2 ok_goto 255 239 (by decide +kernel)
theorem dX9_bits_24 : decode cX9_bits 24 = .ok (.iload_n 1, 1) := of_0 ok_iload_n_1 (by decide +kernel)
theorem dX9_bits_25 : decode cX9_bits 25 = .ok (.ireturn, 1) := of_0 ok_ireturn (by decide +kernel)
theorem dX9_blanks_0 : decode cX9_blanks 0 = .ok (.aload_n 0, 1) := of_0 ok_aload_n_0 (by decide +kernel)
theorem dX9_blanks_1 : decode cX9_blanks 1 = .ok (.invokevirtual 167, 3) := of_u2 ok_invokevirtual 0 167 (by decide +kernel)
theorem dX9_blanks_4 : decode cX9_blanks 4 = .ok (.bipush 32, 2) := of_s1 ok_bipush 32 (by decide +kernel)
theorem dX9_blanks_6 : decode cX9_blanks 6 = .ok (.if_icmp .ne 16, 3) := of_s2 ok_if_icmp_ne 0 16 (by decide +kernel)
theorem dX9_blanks_9 : decode cX9_blanks 9 = .ok (.aload_n 0, 1) := of_0 ok_aload_n_0 (by decide +kernel)
theorem dX9_blanks_10 : decode cX9_blanks 10 = .ok (.dup, 1) := of_0 ok_dup (by decide +kernel)
theorem dX9_blanks_11 : decode cX9_blanks 11 = .ok (.getfield 164, 3) := of_u2 ok_getfield 0 164 (by decide +kernel)
theorem dX9_blanks_14 : decode cX9_blanks 14 = .ok (.iconst 1, 1) := of_0 ok_iconst_1 (by decide +kernel)
theorem dX9_blanks_15 : decode cX9_blanks 15 = .ok (.iadd, 1) := of_0 ok_iadd (by decide +kernel)
theorem dX9_blanks_16 : decode cX9_blanks 16 = .ok (.putfield 164, 3) := of_u2 ok_putfield 0 164 (by decide +kernel)
theorem dX9_blanks_19 : decode cX9_blanks 19 = .ok (.goto (-19), 3) := of_s2 ok_goto 255 237 (by decide +kernel)
theorem dX9_blanks_22 : decode cX9_blanks 22 = .ok (.return_, 1) := of_0 ok_return_ (by decide +kernel)
theorem dX9_both_0 : decode cX9_both 0 = .ok (.iload_n 0, 1) := of_0 ok_iload_n_0 (by decide +kernel)
theorem dX9_both_1 : decode cX9_both 1 = .ok (.tableswitch 190 2 15 #[71, 75, 111, 126, 141, 156, 171, 190, 186, 190, 190, 79, 83, 97], 71) := by decide +kernel
theorem dX9_both_72 : decode cX9_both 72 = .ok (.lload_n 1, 1) := of_0 ok_lload_n_1 (by decide +kernel)
theorem dX9_both_73 : decode cX9_both 73 = .ok (.lload_n 3, 1) := of_0 ok_lload_n_3 (by decide +kernel)
theorem dX9_both_74 : decode cX9_both 74 = .ok (.ladd, 1) := of_0 ok_ladd (by decide +kernel)
theorem dX9_both_75 : decode cX9_both 75 = .ok (.lreturn, 1) := of_0 ok_lreturn (by decide +kernel)
theorem dX9_both_76 : decode cX9_both 76 = .ok (.lload_n 1, 1) := of_0 ok_lload_n_1 (by decide +kernel)
theorem dX9_both_77 : decode cX9_both 77 = .ok (.lload_n 3, 1) := of_0 ok_lload_n_3 (by decide +kernel)
theorem dX9_both_78 : decode cX9_both 78 = .ok (.lsub, 1) := of_0 ok_lsub (by decide +kernel)
theorem dX9_both_79 : decode cX9_both 79 = .ok (.lreturn, 1) := of_0 ok_lreturn (by decide +kernel)
theorem dX9_both_80 : decode cX9_both 80 = .ok (.lload_n 1, 1) := of_0 ok_lload_n_1 (by decide +kernel)
theorem dX9_both_81 : decode cX9_both 81 = .ok (.lload_n 3, 1) := of_0 ok_lload_n_3 (by decide +kernel)
theorem dX9_both_82 : decode cX9_both 82 = .ok (.lmul, 1) := of_0 ok_lmul (by decide +kernel)
theorem dX9_both_83 : decode cX9_both 83 = .ok (.lreturn, 1) := of_0 ok_lreturn (by decide +kernel)
theorem dX9_both_84 : decode cX9_both 84 = .ok (.lload_n 3, 1) := of_0 ok_lload_n_3 (by decide +kernel)
theorem dX9_both_85 : decode cX9_both 85 = .ok (.lconst 0, 1) := of_0 ok_lconst_0 (by decide +kernel)
theorem dX9_both_86 : decode cX9_both 86 = .ok (.lcmp, 1) := of_0 ok_lcmp (by decide +kernel)
theorem dX9_both_87 : decode cX9_both 87 = .ok (.ifCond .ne 7, 3) := of_s2 ok_ifCond_ne 0 7 (by decide +kernel)
theorem dX9_both_90 : decode cX9_both 90 = .ok (.lconst 0, 1) := of_0 ok_lconst_0 (by decide +kernel)
theorem dX9_both_91 : decode cX9_both 91 = .ok (.goto 6, 3) := of_s2 ok_goto 0 6 (by decide +kernel)
theorem dX9_both_94 : decode cX9_both 94 = .ok (.lload_n 1, 1) := of_0 ok_lload_n_1 (by decide +kernel)
theorem dX9_both_95 : decode cX9_both 95 = .ok (.lload_n 3, 1) := of_0 ok_lload_n_3 (by decide +kernel)
theorem dX9_both_96 : decode cX9_both 96 = .ok (.ldiv, 1) := of_0 ok_ldiv (by decide +kernel)
theorem dX9_both_97 : decode cX9_both 97 = .ok (.lreturn, 1) := of_0 ok_lreturn (by decide +kernel)
theorem dX9_both_98 : decode cX9_both 98 = .ok (.lload_n 3, 1) := of_0 ok_lload_n_3 (by decide +kernel)
theorem dX9_both_99 : decode cX9_both 99 = .ok (.lconst 0, 1) := of_0 ok_lconst_0 (by decide +kernel)
theorem dX9_both_100 : decode cX9_both 100 = .ok (.lcmp, 1) := of_0 ok_lcmp (by decide +kernel)
theorem dX9_both_101 : decode cX9_both 101 = .ok (.ifCond .ne 7, 3) := of_s2 ok_ifCond_ne 0 7 (by decide +kernel)
theorem dX9_both_104 : decode cX9_both 104 = .ok (.lconst 0, 1) := of_0 ok_lconst_0 (by decide +kernel)
theorem dX9_both_105 : decode cX9_both 105 = .ok (.goto 6, 3) := of_s2 ok_goto 0 6 (by decide +kernel)
theorem dX9_both_108 : decode cX9_both 108 = .ok (.lload_n 1, 1) := of_0 ok_lload_n_1 (by decide +kernel)
theorem dX9_both_109 : decode cX9_both 109 = .ok (.lload_n 3, 1) := of_0 ok_lload_n_3 (by decide +kernel)
theorem dX9_both_110 : decode cX9_both 110 = .ok (.lrem, 1) := of_0 ok_lrem (by decide +kernel)
theorem dX9_both_111 : decode cX9_both 111 = .ok (.lreturn, 1) := of_0 ok_lreturn (by decide +kernel)
theorem dX9_both_112 : decode cX9_both 112 = .ok (.lload_n 1, 1) := of_0 ok_lload_n_1 (by decide +kernel)
theorem dX9_both_113 : decode cX9_both 113 = .ok (.lload_n 3, 1) := of_0 ok_lload_n_3 (by decide +kernel)
theorem dX9_both_114 : decode cX9_both 114 = .ok (.lcmp, 1) := of_0 ok_lcmp (by decide +kernel)
theorem dX9_both_115 : decode cX9_both 115 = .ok (.ifCond .ge 7, 3) := of_s2 ok_ifCond_ge 0 7 (by decide +kernel)
theorem dX9_both_118 : decode cX9_both 118 = .ok (.iconst 1, 1) := of_0 ok_iconst_1 (by decide +kernel)
theorem dX9_both_119 : decode cX9_both 119 = .ok (.goto 4, 3) := of_s2 ok_goto 0 4 (by decide +kernel)
theorem dX9_both_122 : decode cX9_both 122 = .ok (.iconst 0, 1) := of_0 ok_iconst_0 (by decide +kernel)
theorem dX9_both_123 : decode cX9_both 123 = .ok (.invokestatic 324, 3) := of_u2 ok_invokestatic 1 68 (by decide +kernel)
theorem dX9_both_126 : decode cX9_both 126 = .ok (.lreturn, 1) := of_0 ok_lreturn (by decide +kernel)
theorem dX9_both_127 : decode cX9_both 127 = .ok (.lload_n 1, 1) := of_0 ok_lload_n_1 (by decide +kernel)
theorem dX9_both_128 : decode cX9_both 128 = .ok (.lload_n 3, 1) := of_0 ok_lload_n_3 (by decide +kernel)
theorem dX9_both_129 : decode cX9_both 129 = .ok (.lcmp, 1) := of_0 ok_lcmp (by decide +kernel)
theorem dX9_both_130 : decode cX9_both 130 = .ok (.ifCond .gt 7, 3) := of_s2 ok_ifCond_gt 0 7 (by decide +kernel)
theorem dX9_both_133 : decode cX9_both 133 = .ok (.iconst 1, 1) := of_0 ok_iconst_1 (by decide +kernel)
theorem dX9_both_134 : decode cX9_both 134 = .ok (.goto 4, 3) := of_s2 ok_goto 0 4 (by decide +kernel)
theorem dX9_both_137 : decode cX9_both 137 = .ok (.iconst 0, 1) := of_0 ok_iconst_0 (by decide +kernel)
theorem dX9_both_138 : decode cX9_both 138 = .ok (.invokestatic 324, 3) := of_u2 ok_invokestatic 1 68 (by decide +kernel)
theorem dX9_both_141 : decode cX9_both 141 = .ok (.lreturn, 1) := of_0 ok_lreturn (by decide +kernel)
theorem dX9_both_142 : decode cX9_both 142 = .ok (.lload_n 1, 1) := of_0 ok_lload_n_1 (by decide +kernel)
theorem dX9_both_143 : decode cX9_both 143 = .ok (.lload_n 3, 1) := of_0 ok_lload_n_3 (by decide +kernel)
theorem dX9_both_144 : decode cX9_both 144 = .ok (.lcmp, 1) := of_0 ok_lcmp (by decide +kernel)
theorem dX9_both_145 : decode cX9_both 145 = .ok (.ifCond .ne 7, 3) := of_s2 ok_ifCond_ne 0 7 (by decide +kernel)
theorem dX9_both_148 : decode cX9_both 148 = .ok (.iconst 1, 1) := of_0 ok_iconst_1 (by decide +kernel)
theorem dX9_both_149 : decode cX9_both 149 = .ok (.goto 4, 3) := of_s2 ok_goto 0 4 (by decide +kernel)
theorem dX9_both_152 : decode cX9_both 152 = .ok (.iconst 0, 1) := of_0 ok_iconst_0 (by decide +kernel)
theorem dX9_both_153 : decode cX9_both 153 = .ok (.invokestatic 324, 3) := of_u2 ok_invokestatic 1 68 (by decide +kernel)
theorem dX9_both_156 : decode cX9_both 156 = .ok (.lreturn, 1) := of_0 ok_lreturn (by decide +kernel)
theorem dX9_both_157 : decode cX9_both 157 = .ok (.lload_n 1, 1) := of_0 ok_lload_n_1 (by decide +kernel)
theorem dX9_both_158 : decode cX9_both 158 = .ok (.lload_n 3, 1) := of_0 ok_lload_n_3 (by decide +kernel)
theorem dX9_both_159 : decode cX9_both 159 = .ok (.lcmp, 1) := of_0 ok_lcmp (by decide +kernel)
theorem dX9_both_160 : decode cX9_both 160 = .ok (.ifCond .lt 7, 3) := of_s2 ok_ifCond_lt 0 7 (by decide +kernel)
theorem dX9_both_163 : decode cX9_both 163 = .ok (.iconst 1, 1) := of_0 ok_iconst_1 (by decide +kernel)
theorem dX9_both_164 : decode cX9_both 164 = .ok (.goto 4, 3) := of_s2 ok_goto 0 4 (by decide +kernel)
theorem dX9_both_167 : decode cX9_both 167 = .ok (.iconst 0, 1) := of_0 ok_iconst_0 (by decide +kernel)
theorem dX9_both_168 : decode cX9_both 168 = .ok (.invokestatic 324, 3) := of_u2 ok_invokestatic 1 68 (by decide +kernel)
theorem dX9_both_171 : decode cX9_both 171 = .ok (.lreturn, 1) := of_0 ok_lreturn (by decide +kernel)
theorem dX9_both_172 : decode cX9_both 172 = .ok (.lload_n 1, 1) := of_0 ok_lload_n_1 (by decide +kernel)
theorem dX9_both_173 : decode cX9_both 173 = .ok (.lload_n 3, 1) := of_0 ok_lload_n_3 (by decide +kernel)
theorem dX9_both_174 : decode cX9_both 174 = .ok (.lcmp, 1) := of_0 ok_lcmp (by decide +kernel)
theorem dX9_both_175 : decode cX9_both 175 = .ok (.ifCond .le 7, 3) := of_s2 ok_ifCond_le 0 7 (by decide +kernel)
theorem dX9_both_178 : decode cX9_both 178 = .ok (.iconst 1, 1) := of_0 ok_iconst_1 (by decide +kernel)
theorem dX9_both_179 : decode cX9_both 179 = .ok (.goto 4, 3) := of_s2 ok_goto 0 4 (by decide +kernel)
theorem dX9_both_182 : decode cX9_both 182 = .ok (.iconst 0, 1) := of_0 ok_iconst_0 (by decide +kernel)
theorem dX9_both_183 : decode cX9_both 183 = .ok (.invokestatic 324, 3) := of_u2 ok_invokestatic 1 68 (by decide +kernel)
theorem dX9_both_186 : decode cX9_both 186 = .ok (.lreturn, 1) := of_0 ok_lreturn (by decide +kernel)
theorem dX9_both_187 : decode cX9_both 187 = .ok (.lload_n 1, 1) := of_0 ok_lload_n_1 (by decide +kernel)
theorem dX9_both_188 : decode cX9_both 188 = .ok (.lload_n 3, 1) := of_0 ok_lload_n_3 (by decide +kernel)
theorem dX9_both_189 : decode cX9_both 189 = .ok (.land, 1) := of_0 ok_land (by decide +kernel)
theorem dX9_both_190 : decode cX9_both 190 = .ok (.lreturn, 1) := of_0 ok_lreturn (by decide +kernel)
theorem dX9_both_191 : decode cX9_both 191 = .ok (.lload_n 1, 1) := of_0 ok_lload_n_1 (by decide +kernel)
theorem dX9_both_192 : decode cX9_both 192 = .ok (.lload_n 3, 1) := of_0 ok_lload_n_3 (by decide +kernel)
theorem dX9_both_193 : decode cX9_both 193 = .ok (.lor, 1) := of_0 ok_lor (by decide +kernel)
theorem dX9_both_194 : decode cX9_both 194 = .ok (.lreturn, 1) := of_0 ok_lreturn (by decide +kernel)
theorem dX9_compared_0 : decode cX9_compared 0 = .ok (.aload_n 0, 1) := of_0 ok_aload_n_0 (by decide +kernel)
theorem dX9_compared_1 : decode cX9_compared 1 = .ok (.invokevirtual 229, 3) := of_u2 ok_invokevirtual 0 229 (by decide +kernel)
theorem dX9_compared_4 : decode cX9_compared 4 = .ok (.aload_n 0, 1) := of_0 ok_aload_n_0 (by decide +kernel)
theorem dX9_compared_5 : decode cX9_compared 5 = .ok (.invokevirtual 167, 3) := of_u2 ok_invokevirtual 0 167 (by decide +kernel)
theorem dX9_compared_8 : decode cX9_compared 8 = .ok (.istore_n 1, 1) := of_0 ok_istore_n_1 (by decide +kernel)
theorem dX9_compared_9 : decode cX9_compared 9 = .ok (.iload_n 1, 1) := of_0 ok_iload_n_1 (by decide +kernel)
theorem dX9_compared_10 : decode cX9_compared 10 = .ok (.bipush 60, 2) := of_s1 ok_bipush 60 (by decide +kernel)
theorem dX9_compared_12 : decode cX9_compared 12 = .ok (.if_icmp .eq 25, 3) := of_s2 ok_if_icmp_eq 0 25 (by decide +kernel)
theorem dX9_compared_15 : decode cX9_compared 15 = .ok (.iload_n 1, 1) := of_0 ok_iload_n_1 (by decide +kernel)
theorem dX9_compared_16 : decode cX9_compared 16 = .ok (.bipush 61, 2) := of_s1 ok_bipush 61 (by decide +kernel)
theorem dX9_compared_18 : decode cX9_compared 18 = .ok (.if_icmp .eq 19, 3) := of_s2 ok_if_icmp_eq 0 19 (by decide +kernel)
theorem dX9_compared_21 : decode cX9_compared 21 = .ok (.iload_n 1, 1) := of_0 ok_iload_n_1 (by decide +kernel)
theorem dX9_compared_22 : decode cX9_compared 22 = .ok (.bipush 62, 2) := of_s1 ok_bipush 62 (by decide +kernel)
theorem dX9_compared_24 : decode cX9_compared 24 = .ok (.if_icmp .eq 13, 3) := of_s2 ok_if_icmp_eq 0 13 (by decide +kernel)
theorem dX9_compared_27 : decode cX9_compared 27 = .ok (.aload_n 0, 1) := of_0 ok_aload_n_0 (by decide +kernel)
theorem dX9_compared_28 : decode cX9_compared 28 = .ok (.iconst 0, 1) := of_0 ok_iconst_0 (by decide +kernel)
theorem dX9_compared_29 : decode cX9_compared 29 = .ok (.aload_n 0, 1) := of_0 ok_aload_n_0 (by decide +kernel)
theorem dX9_compared_30 : decode cX9_compared 30 = .ok (.getfield 164, 3) := of_u2 ok_getfield 0 164 (by decide +kernel)
theorem dX9_compared_33 : decode cX9_compared 33 = .ok (.invokevirtual 200, 3) := of_u2 ok_invokevirtual 0 200 (by decide +kernel)
theorem dX9_compared_36 : decode cX9_compared 36 = .ok (.return_, 1) := of_0 ok_return_ (by decide +kernel)
theorem dX9_compared_37 : decode cX9_compared 37 = .ok (.aload_n 0, 1) := of_0 ok_aload_n_0 (by decide +kernel)
theorem dX9_compared_38 : decode cX9_compared 38 = .ok (.aload_n 0, 1) := of_0 ok_aload_n_0 (by decide +kernel)
theorem dX9_compared_39 : decode cX9_compared 39 = .ok (.getfield 164, 3) := of_u2 ok_getfield 0 164 (by decide +kernel)
theorem dX9_compared_42 : decode cX9_compared 42 = .ok (.invokevirtual 213, 3) := of_u2 ok_invokevirtual 0 213 (by decide +kernel)
theorem dX9_compared_45 : decode cX9_compared 45 = .ok (.aload_n 0, 1) := of_0 ok_aload_n_0 (by decide +kernel)
theorem dX9_compared_46 : decode cX9_compared 46 = .ok (.dup, 1) := of_0 ok_dup (by decide +kernel)
theorem dX9_compared_47 : decode cX9_compared 47 = .ok (.getfield 164, 3) := of_u2 ok_getfield 0 164 (by decide +kernel)
theorem dX9_compared_50 : decode cX9_compared 50 = .ok (.iconst 1, 1) := of_0 ok_iconst_1 (by decide +kernel)
theorem dX9_compared_51 : decode cX9_compared 51 = .ok (.iadd, 1) := of_0 ok_iadd (by decide +kernel)
theorem dX9_compared_52 : decode cX9_compared 52 = .ok (.putfield 164, 3) := of_u2 ok_putfield 0 164 (by decide +kernel)
theorem dX9_compared_55 : decode cX9_compared 55 = .ok (.iload_n 1, 1) := of_0 ok_iload_n_1 (by decide +kernel)
theorem dX9_compared_56 : decode cX9_compared 56 = .ok (.bipush 61, 2) := of_s1 ok_bipush 61 (by decide +kernel)
theorem dX9_compared_58 : decode cX9_compared 58 = .ok (.if_icmp .eq 16, 3) := of_s2 ok_if_icmp_eq 0 16 (by decide +kernel)
theorem dX9_compared_61 : decode cX9_compared 61 = .ok (.aload_n 0, 1) := of_0 ok_aload_n_0 (by decide +kernel)
theorem dX9_compared_62 : decode cX9_compared 62 = .ok (.invokevirtual 167, 3) := of_u2 ok_invokevirtual 0 167 (by decide +kernel)
theorem dX9_compared_65 : decode cX9_compared 65 = .ok (.bipush 61, 2) := of_s1 ok_bipush 61 (by decide +kernel)
theorem dX9_compared_67 : decode cX9_compared 67 = .ok (.if_icmp .ne 7, 3) := of_s2 ok_if_icmp_ne 0 7 (by decide +kernel)
theorem dX9_compared_70 : decode cX9_compared 70 = .ok (.iconst 1, 1) := of_0 ok_iconst_1 (by decide +kernel)
theorem dX9_compared_71 : decode cX9_compared 71 = .ok (.goto 4, 3) := of_s2 ok_goto 0 4 (by decide +kernel)
theorem dX9_compared_74 : decode cX9_compared 74 = .ok (.iconst 0, 1) := of_0 ok_iconst_0 (by decide +kernel)
theorem dX9_compared_75 : decode cX9_compared 75 = .ok (.istore_n 2, 1) := of_0 ok_istore_n_2 (by decide +kernel)
theorem dX9_compared_76 : decode cX9_compared 76 = .ok (.aload_n 0, 1) := of_0 ok_aload_n_0 (by decide +kernel)
theorem dX9_compared_77 : decode cX9_compared 77 = .ok (.dup, 1) := of_0 ok_dup (by decide +kernel)
theorem dX9_compared_78 : decode cX9_compared 78 = .ok (.getfield 164, 3) := of_u2 ok_getfield 0 164 (by decide +kernel)
theorem dX9_compared_81 : decode cX9_compared 81 = .ok (.iload_n 2, 1) := of_0 ok_iload_n_2 (by decide +kernel)
theorem dX9_compared_82 : decode cX9_compared 82 = .ok (.ifCond .eq 7, 3) := of_s2 ok_ifCond_eq 0 7 (by decide +kernel)
theorem dX9_compared_85 : decode cX9_compared 85 = .ok (.iconst 1, 1) := of_0 ok_iconst_1 (by decide +kernel)
theorem dX9_compared_86 : decode cX9_compared 86 = .ok (.goto 4, 3) := of_s2 ok_goto 0 4 (by decide +kernel)
theorem dX9_compared_89 : decode cX9_compared 89 = .ok (.iconst 0, 1) := of_0 ok_iconst_0 (by decide +kernel)
theorem dX9_compared_90 : decode cX9_compared 90 = .ok (.iadd, 1) := of_0 ok_iadd (by decide +kernel)
theorem dX9_compared_91 : decode cX9_compared 91 = .ok (.putfield 164, 3) := of_u2 ok_putfield 0 164 (by decide +kernel)
theorem dX9_compared_94 : decode cX9_compared 94 = .ok (.aload_n 0, 1) := of_0 ok_aload_n_0 (by decide +kernel)
theorem dX9_compared_95 : decode cX9_compared 95 = .ok (.invokevirtual 229, 3) := of_u2 ok_invokevirtual 0 229 (by decide +kernel)
theorem dX9_compared_98 : decode cX9_compared 98 = .ok (.aload_n 0, 1) := of_0 ok_aload_n_0 (by decide +kernel)
theorem dX9_compared_99 : decode cX9_compared 99 = .ok (.iload_n 1, 1) := of_0 ok_iload_n_1 (by decide +kernel)
theorem dX9_compared_100 : decode cX9_compared 100 = .ok (.bipush 61, 2) := of_s1 ok_bipush 61 (by decide +kernel)
theorem dX9_compared_102 : decode cX9_compared 102 = .ok (.if_icmp .ne 8, 3) := of_s2 ok_if_icmp_ne 0 8 (by decide +kernel)
theorem dX9_compared_105 : decode cX9_compared 105 = .ok (.bipush 6, 2) := of_s1 ok_bipush 6 (by decide +kernel)
theorem dX9_compared_107 : decode cX9_compared 107 = .ok (.goto 32, 3) := of_s2 ok_goto 0 32 (by decide +kernel)
theorem dX9_compared_110 : decode cX9_compared 110 = .ok (.iload_n 1, 1) := of_0 ok_iload_n_1 (by decide +kernel)
theorem dX9_compared_111 : decode cX9_compared 111 = .ok (.bipush 60, 2) := of_s1 ok_bipush 60 (by decide +kernel)
theorem dX9_compared_113 : decode cX9_compared 113 = .ok (.if_icmp .ne 15, 3) := of_s2 ok_if_icmp_ne 0 15 (by decide +kernel)
theorem dX9_compared_116 : decode cX9_compared 116 = .ok (.iload_n 2, 1) := of_0 ok_iload_n_2 (by decide +kernel)
theorem dX9_compared_117 : decode cX9_compared 117 = .ok (.ifCond .eq 7, 3) := of_s2 ok_ifCond_eq 0 7 (by decide +kernel)
theorem dX9_compared_120 : decode cX9_compared 120 = .ok (.iconst 5, 1) := of_0 ok_iconst_5 (by decide +kernel)
theorem dX9_compared_121 : decode cX9_compared 121 = .ok (.goto 18, 3) := of_s2 ok_goto 0 18 (by decide +kernel)
theorem dX9_compared_124 : decode cX9_compared 124 = .ok (.iconst 4, 1) := of_0 ok_iconst_4 (by decide +kernel)
theorem dX9_compared_125 : decode cX9_compared 125 = .ok (.goto 14, 3) := of_s2 ok_goto 0 14 (by decide +kernel)
theorem dX9_compared_128 : decode cX9_compared 128 = .ok (.iload_n 2, 1) := of_0 ok_iload_n_2 (by decide +kernel)
theorem dX9_compared_129 : decode cX9_compared 129 = .ok (.ifCond .eq 8, 3) := of_s2 ok_ifCond_eq 0 8 (by decide +kernel)
theorem dX9_compared_132 : decode cX9_compared 132 = .ok (.bipush 7, 2) := of_s1 ok_bipush 7 (by decide +kernel)
theorem dX9_compared_134 : decode cX9_compared 134 = .ok (.goto 5, 3) := of_s2 ok_goto 0 5 (by decide +kernel)
theorem dX9_compared_137 : decode cX9_compared 137 = .ok (.bipush 8, 2) := of_s1 ok_bipush 8 (by decide +kernel)
theorem dX9_compared_139 : decode cX9_compared 139 = .ok (.iconst 0, 1) := of_0 ok_iconst_0 (by decide +kernel)
theorem dX9_compared_140 : decode cX9_compared 140 = .ok (.invokevirtual 216, 3) := of_u2 ok_invokevirtual 0 216 (by decide +kernel)
theorem dX9_compared_143 : decode cX9_compared 143 = .ok (.return_, 1) := of_0 ok_return_ (by decide +kernel)
theorem dX9_digits_0 : decode cX9_digits 0 = .ok (.aload_n 0, 1) := of_0 ok_aload_n_0 (by decide +kernel)
theorem dX9_digits_1 : decode cX9_digits 1 = .ok (.invokevirtual 204, 3) := of_u2 ok_invokevirtual 0 204 (by decide +kernel)
theorem dX9_digits_4 : decode cX9_digits 4 = .ok (.ifCond .ne 14, 3) := of_s2 ok_ifCond_ne 0 14 (by decide +kernel)
theorem dX9_digits_7 : decode cX9_digits 7 = .ok (.aload_n 0, 1) := of_0 ok_aload_n_0 (by decide +kernel)
theorem dX9_digits_8 : decode cX9_digits 8 = .ok (.iconst 0, 1) := of_0 ok_iconst_0 (by decide +kernel)
theorem dX9_digits_9 : decode cX9_digits 9 = .ok (.aload_n 0, 1) := of_0 ok_aload_n_0 (by decide +kernel)
theorem dX9_digits_10 : decode cX9_digits 10 = .ok (.getfield 164, 3) := of_u2 ok_getfield 0 164 (by decide +kernel)
theorem dX9_digits_13 : decode cX9_digits 13 = .ok (.invokevirtual 200, 3) := of_u2 ok_invokevirtual 0 200 (by decide +kernel)
theorem dX9_digits_16 : decode cX9_digits 16 = .ok (.iconst 0, 1) := of_0 ok_iconst_0 (by decide +kernel)
theorem dX9_digits_17 : decode cX9_digits 17 = .ok (.ireturn, 1) := of_0 ok_ireturn (by decide +kernel)
theorem dX9_digits_18 : decode cX9_digits 18 = .ok (.aload_n 0, 1) := of_0 ok_aload_n_0 (by decide +kernel)
theorem dX9_digits_19 : decode cX9_digits 19 = .ok (.getfield 164, 3) := of_u2 ok_getfield 0 164 (by decide +kernel)
theorem dX9_digits_22 : decode cX9_digits 22 = .ok (.istore_n 2, 1) := of_0 ok_istore_n_2 (by decide +kernel)
theorem dX9_digits_23 : decode cX9_digits 23 = .ok (.iconst 0, 1) := of_0 ok_iconst_0 (by decide +kernel)
theorem dX9_digits_24 : decode cX9_digits 24 = .ok (.istore_n 3, 1) := of_0 ok_istore_n_3 (by decide +kernel)
theorem dX9_digits_25 : decode cX9_digits 25 = .ok (.aload_n 0, 1) := of_0 ok_aload_n_0 (by decide +kernel)
theorem dX9_digits_26 : decode cX9_digits 26 = .ok (.invokevirtual 204, 3) := of_u2 ok_invokevirtual 0 204 (by decide +kernel)
theorem dX9_digits_29 : decode cX9_digits 29 = .ok (.ifCond .eq 43, 3) := of_s2 ok_ifCond_eq 0 43 (by decide +kernel)
theorem dX9_digits_32 : decode cX9_digits 32 = .ok (.aload_n 0, 1) := of_0 ok_aload_n_0 (by decide +kernel)
theorem dX9_digits_33 : decode cX9_digits 33 = .ok (.getfield 164, 3) := of_u2 ok_getfield 0 164 (by decide +kernel)
theorem dX9_digits_36 : decode cX9_digits 36 = .ok (.iload_n 2, 1) := of_0 ok_iload_n_2 (by decide +kernel)
theorem dX9_digits_37 : decode cX9_digits 37 = .ok (.isub, 1) := of_0 ok_isub (by decide +kernel)
theorem dX9_digits_38 : decode cX9_digits 38 = .ok (.iconst 5, 1) := of_0 ok_iconst_5 (by decide +kernel)
theorem dX9_digits_39 : decode cX9_digits 39 = .ok (.if_icmp .ge 18, 3) := of_s2 ok_if_icmp_ge 0 18 (by decide +kernel)
theorem dX9_digits_42 : decode cX9_digits 42 = .ok (.bipush 10, 2) := of_s1 ok_bipush 10 (by decide +kernel)
theorem dX9_digits_44 : decode cX9_digits 44 = .ok (.iload_n 3, 1) := of_0 ok_iload_n_3 (by decide +kernel)
theorem dX9_digits_45 : decode cX9_digits 45 = .ok (.imul, 1) := of_0 ok_imul (by decide +kernel)
theorem dX9_digits_46 : decode cX9_digits 46 = .ok (.aload_n 0, 1) := of_0 ok_aload_n_0 (by decide +kernel)
theorem dX9_digits_47 : decode cX9_digits 47 = .ok (.invokevirtual 167, 3) := of_u2 ok_invokevirtual 0 167 (by decide +kernel)
theorem dX9_digits_50 : decode cX9_digits 50 = .ok (.iadd, 1) := of_0 ok_iadd (by decide +kernel)
theorem dX9_digits_51 : decode cX9_digits 51 = .ok (.bipush 48, 2) := of_s1 ok_bipush 48 (by decide +kernel)
theorem dX9_digits_53 : decode cX9_digits 53 = .ok (.isub, 1) := of_0 ok_isub (by decide +kernel)
theorem dX9_digits_54 : decode cX9_digits 54 = .ok (.goto 4, 3) := of_s2 ok_goto 0 4 (by decide +kernel)
theorem dX9_digits_57 : decode cX9_digits 57 = .ok (.iload_n 3, 1) := of_0 ok_iload_n_3 (by decide +kernel)
theorem dX9_digits_58 : decode cX9_digits 58 = .ok (.istore_n 3, 1) := of_0 ok_istore_n_3 (by decide +kernel)
theorem dX9_digits_59 : decode cX9_digits 59 = .ok (.aload_n 0, 1) := of_0 ok_aload_n_0 (by decide +kernel)
theorem dX9_digits_60 : decode cX9_digits 60 = .ok (.dup, 1) := of_0 ok_dup (by decide +kernel)
theorem dX9_digits_61 : decode cX9_digits 61 = .ok (.getfield 164, 3) := of_u2 ok_getfield 0 164 (by decide +kernel)
theorem dX9_digits_64 : decode cX9_digits 64 = .ok (.iconst 1, 1) := of_0 ok_iconst_1 (by decide +kernel)
theorem dX9_digits_65 : decode cX9_digits 65 = .ok (.iadd, 1) := of_0 ok_iadd (by decide +kernel)
theorem dX9_digits_66 : decode cX9_digits 66 = .ok (.putfield 164, 3) := of_u2 ok_putfield 0 164 (by decide +kernel)
theorem dX9_digits_69 : decode cX9_digits 69 = .ok (.goto (-44), 3) := of_s2 ok_goto 255 212 (by decide +kernel)
theorem dX9_digits_72 : decode cX9_digits 72 = .ok (.aload_n 0, 1) := of_0 ok_aload_n_0 (by decide +kernel)
theorem dX9_digits_73 : decode cX9_digits 73 = .ok (.getfield 164, 3) := of_u2 ok_getfield 0 164 (by decide +kernel)
theorem dX9_digits_76 : decode cX9_digits 76 = .ok (.iload_n 2, 1) := of_0 ok_iload_n_2 (by decide +kernel)
theorem dX9_digits_77 : decode cX9_digits 77 = .ok (.isub, 1) := of_0 ok_isub (by decide +kernel)
theorem dX9_digits_78 : decode cX9_digits 78 = .ok (.iconst 5, 1) := of_0 ok_iconst_5 (by decide +kernel)
theorem dX9_digits_79 : decode cX9_digits 79 = .ok (.if_icmp .gt 8, 3) := of_s2 ok_if_icmp_gt 0 8 (by decide +kernel)
theorem dX9_digits_82 : decode cX9_digits 82 = .ok (.iload_n 3, 1) := of_0 ok_iload_n_3 (by decide +kernel)
theorem dX9_digits_83 : decode cX9_digits 83 = .ok (.iload_n 1, 1) := of_0 ok_iload_n_1 (by decide +kernel)
theorem dX9_digits_84 : decode cX9_digits 84 = .ok (.if_icmp .le 9, 3) := of_s2 ok_if_icmp_le 0 9 (by decide +kernel)
theorem dX9_digits_87 : decode cX9_digits 87 = .ok (.aload_n 0, 1) := of_0 ok_aload_n_0 (by decide +kernel)
theorem dX9_digits_88 : decode cX9_digits 88 = .ok (.iconst 1, 1) := of_0 ok_iconst_1 (by decide +kernel)
theorem dX9_digits_89 : decode cX9_digits 89 = .ok (.iload_n 2, 1) := of_0 ok_iload_n_2 (by decide +kernel)
theorem dX9_digits_90 : decode cX9_digits 90 = .ok (.invokevirtual 200, 3) := of_u2 ok_invokevirtual 0 200 (by decide +kernel)
theorem dX9_digits_93 : decode cX9_digits 93 = .ok (.iload_n 3, 1) := of_0 ok_iload_n_3 (by decide +kernel)
theorem dX9_digits_94 : decode cX9_digits 94 = .ok (.ireturn, 1) := of_0 ok_ireturn (by decide +kernel)
theorem dX9_end_0 : decode cX9_end 0 = .ok (.iload_n 1, 1) := of_0 ok_iload_n_1 (by decide +kernel)
theorem dX9_end_1 : decode cX9_end 1 = .ok (.ifCond .lt 11, 3) := of_s2 ok_ifCond_lt 0 11 (by decide +kernel)
theorem dX9_end_4 : decode cX9_end 4 = .ok (.iload_n 1, 1) := of_0 ok_iload_n_1 (by decide +kernel)
theorem dX9_end_5 : decode cX9_end 5 = .ok (.aload_n 0, 1) := of_0 ok_aload_n_0 (by decide +kernel)
theorem dX9_end_6 : decode cX9_end 6 = .ok (.getfield 135, 3) := of_u2 ok_getfield 0 135 (by decide +kernel)
theorem dX9_end_9 : decode cX9_end 9 = .ok (.if_icmp .le 5, 3) := of_s2 ok_if_icmp_le 0 5 (by decide +kernel)
theorem dX9_end_12 : decode cX9_end 12 = .ok (.iconst (-1), 1) := of_0 ok_iconst_m1 (by decide +kernel)
theorem dX9_end_13 : decode cX9_end 13 = .ok (.ireturn, 1) := of_0 ok_ireturn (by decide +kernel)
theorem dX9_end_14 : decode cX9_end 14 = .ok (.aload_n 0, 1) := of_0 ok_aload_n_0 (by decide +kernel)
theorem dX9_end_15 : decode cX9_end 15 = .ok (.iload_n 1, 1) := of_0 ok_iload_n_1 (by decide +kernel)
theorem dX9_end_16 : decode cX9_end 16 = .ok (.putfield 135, 3) := of_u2 ok_putfield 0 135 (by decide +kernel)
theorem dX9_end_19 : decode cX9_end 19 = .ok (.iload_n 1, 1) := of_0 ok_iload_n_1 (by decide +kernel)
theorem dX9_end_20 : decode cX9_end 20 = .ok (.ireturn, 1) := of_0 ok_ireturn (by decide +kernel)
theorem dX9_entry_0 : decode cX9_entry 0 = .ok (.aload_n 0, 1) := of_0 ok_aload_n_0 (by decide +kernel)
theorem dX9_entry_1 : decode cX9_entry 1 = .ok (.getfield 161, 3) := of_u2 ok_getfield 0 161 (by decide +kernel)
theorem dX9_entry_4 : decode cX9_entry 4 = .ok (.ifCond .ne 51, 3) := of_s2 ok_ifCond_ne 0 51 (by decide +kernel)
theorem dX9_entry_7 : decode cX9_entry 7 = .ok (.aload_n 0, 1) := of_0 ok_aload_n_0 (by decide +kernel)
theorem dX9_entry_8 : decode cX9_entry 8 = .ok (.getfield 69, 3) := of_u2 ok_getfield 0 69 (by decide +kernel)
theorem dX9_entry_11 : decode cX9_entry 11 = .ok (.sipush 300, 3) := of_s2 ok_sipush 1 44 (by decide +kernel)
theorem dX9_entry_14 : decode cX9_entry 14 = .ok (.aload_n 0, 1) := of_0 ok_aload_n_0 (by decide +kernel)
theorem dX9_entry_15 : decode cX9_entry 15 = .ok (.getfield 191, 3) := of_u2 ok_getfield 0 191 (by decide +kernel)
theorem dX9_entry_18 : decode cX9_entry 18 = .ok (.imul, 1) := of_0 ok_imul (by decide +kernel)
theorem dX9_entry_19 : decode cX9_entry 19 = .ok (.aload_n 0, 1) := of_0 ok_aload_n_0 (by decide +kernel)
theorem dX9_entry_20 : decode cX9_entry 20 = .ok (.getfield 194, 3) := of_u2 ok_getfield 0 194 (by decide +kernel)
theorem dX9_entry_23 : decode cX9_entry 23 = .ok (.iadd, 1) := of_0 ok_iadd (by decide +kernel)
theorem dX9_entry_24 : decode cX9_entry 24 = .ok (.iload_n 1, 1) := of_0 ok_iload_n_1 (by decide +kernel)
theorem dX9_entry_25 : decode cX9_entry 25 = .ok (.iastore, 1) := of_0 ok_iastore (by decide +kernel)
theorem dX9_entry_26 : decode cX9_entry 26 = .ok (.aload_n 0, 1) := of_0 ok_aload_n_0 (by decide +kernel)
theorem dX9_entry_27 : decode cX9_entry 27 = .ok (.getfield 72, 3) := of_u2 ok_getfield 0 72 (by decide +kernel)
theorem dX9_entry_30 : decode cX9_entry 30 = .ok (.sipush 300, 3) := of_s2 ok_sipush 1 44 (by decide +kernel)
theorem dX9_entry_33 : decode cX9_entry 33 = .ok (.aload_n 0, 1) := of_0 ok_aload_n_0 (by decide +kernel)
theorem dX9_entry_34 : decode cX9_entry 34 = .ok (.getfield 191, 3) := of_u2 ok_getfield 0 191 (by decide +kernel)
theorem dX9_entry_37 : decode cX9_entry 37 = .ok (.imul, 1) := of_0 ok_imul (by decide +kernel)
theorem dX9_entry_38 : decode cX9_entry 38 = .ok (.aload_n 0, 1) := of_0 ok_aload_n_0 (by decide +kernel)
theorem dX9_entry_39 : decode cX9_entry 39 = .ok (.getfield 194, 3) := of_u2 ok_getfield 0 194 (by decide +kernel)
theorem dX9_entry_42 : decode cX9_entry 42 = .ok (.iadd, 1) := of_0 ok_iadd (by decide +kernel)
theorem dX9_entry_43 : decode cX9_entry 43 = .ok (.iload_n 2, 1) := of_0 ok_iload_n_2 (by decide +kernel)
theorem dX9_entry_44 : decode cX9_entry 44 = .ok (.iastore, 1) := of_0 ok_iastore (by decide +kernel)
theorem dX9_entry_45 : decode cX9_entry 45 = .ok (.aload_n 0, 1) := of_0 ok_aload_n_0 (by decide +kernel)
theorem dX9_entry_46 : decode cX9_entry 46 = .ok (.dup, 1) := of_0 ok_dup (by decide +kernel)
theorem dX9_entry_47 : decode cX9_entry 47 = .ok (.getfield 194, 3) := of_u2 ok_getfield 0 194 (by decide +kernel)
theorem dX9_entry_50 : decode cX9_entry 50 = .ok (.iconst 1, 1) := of_0 ok_iconst_1 (by decide +kernel)
theorem dX9_entry_51 : decode cX9_entry 51 = .ok (.iadd, 1) := of_0 ok_iadd (by decide +kernel)
theorem dX9_entry_52 : decode cX9_entry 52 = .ok (.putfield 194, 3) := of_u2 ok_putfield 0 194 (by decide +kernel)
theorem dX9_entry_55 : decode cX9_entry 55 = .ok (.return_, 1) := of_0 ok_return_ (by decide +kernel)
theorem dX9_fact_0 : decode cX9_fact 0 = .ok (.aload_n 0, 1) := of_0 ok_aload_n_0 (by decide +kernel)
theorem dX9_fact_1 : decode cX9_fact 1 = .ok (.invokevirtual 184, 3) := of_u2 ok_invokevirtual 0 184 (by decide +kernel)
theorem dX9_fact_4 : decode cX9_fact 4 = .ok (.aload_n 0, 1) := of_0 ok_aload_n_0 (by decide +kernel)
theorem dX9_fact_5 : decode cX9_fact 5 = .ok (.ldc 241, 2) := of_u1 ok_ldc (by decide +kernel)
theorem dX9_fact_7 : decode cX9_fact 7 = .ok (.invokevirtual 187, 3) := of_u2 ok_invokevirtual 0 187 (by decide +kernel)
theorem dX9_fact_10 : decode cX9_fact 10 = .ok (.ifCond .eq 21, 3) := of_s2 ok_ifCond_eq 0 21 (by decide +kernel)
theorem dX9_fact_13 : decode cX9_fact 13 = .ok (.aload_n 0, 1) := of_0 ok_aload_n_0 (by decide +kernel)
theorem dX9_fact_14 : decode cX9_fact 14 = .ok (.bipush 9, 2) := of_s1 ok_bipush 9 (by decide +kernel)
theorem dX9_fact_16 : decode cX9_fact 16 = .ok (.invokevirtual 243, 3) := of_u2 ok_invokevirtual 0 243 (by decide +kernel)
theorem dX9_fact_19 : decode cX9_fact 19 = .ok (.aload_n 0, 1) := of_0 ok_aload_n_0 (by decide +kernel)
theorem dX9_fact_20 : decode cX9_fact 20 = .ok (.dup, 1) := of_0 ok_dup (by decide +kernel)
theorem dX9_fact_21 : decode cX9_fact 21 = .ok (.getfield 164, 3) := of_u2 ok_getfield 0 164 (by decide +kernel)
theorem dX9_fact_24 : decode cX9_fact 24 = .ok (.iconst 3, 1) := of_0 ok_iconst_3 (by decide +kernel)
theorem dX9_fact_25 : decode cX9_fact 25 = .ok (.iadd, 1) := of_0 ok_iadd (by decide +kernel)
theorem dX9_fact_26 : decode cX9_fact 26 = .ok (.putfield 164, 3) := of_u2 ok_putfield 0 164 (by decide +kernel)
theorem dX9_fact_29 : decode cX9_fact 29 = .ok (.iconst 0, 1) := of_0 ok_iconst_0 (by decide +kernel)
theorem dX9_fact_30 : decode cX9_fact 30 = .ok (.ireturn, 1) := of_0 ok_ireturn (by decide +kernel)
theorem dX9_fact_31 : decode cX9_fact 31 = .ok (.aload_n 0, 1) := of_0 ok_aload_n_0 (by decide +kernel)
theorem dX9_fact_32 : decode cX9_fact 32 = .ok (.invokevirtual 167, 3) := of_u2 ok_invokevirtual 0 167 (by decide +kernel)
theorem dX9_fact_35 : decode cX9_fact 35 = .ok (.bipush 91, 2) := of_s1 ok_bipush 91 (by decide +kernel)
theorem dX9_fact_37 : decode cX9_fact 37 = .ok (.if_icmp .ne 21, 3) := of_s2 ok_if_icmp_ne 0 21 (by decide +kernel)
theorem dX9_fact_40 : decode cX9_fact 40 = .ok (.aload_n 0, 1) := of_0 ok_aload_n_0 (by decide +kernel)
theorem dX9_fact_41 : decode cX9_fact 41 = .ok (.bipush 12, 2) := of_s1 ok_bipush 12 (by decide +kernel)
theorem dX9_fact_43 : decode cX9_fact 43 = .ok (.invokevirtual 243, 3) := of_u2 ok_invokevirtual 0 243 (by decide +kernel)
theorem dX9_fact_46 : decode cX9_fact 46 = .ok (.aload_n 0, 1) := of_0 ok_aload_n_0 (by decide +kernel)
theorem dX9_fact_47 : decode cX9_fact 47 = .ok (.dup, 1) := of_0 ok_dup (by decide +kernel)
theorem dX9_fact_48 : decode cX9_fact 48 = .ok (.getfield 164, 3) := of_u2 ok_getfield 0 164 (by decide +kernel)
theorem dX9_fact_51 : decode cX9_fact 51 = .ok (.iconst 1, 1) := of_0 ok_iconst_1 (by decide +kernel)
theorem dX9_fact_52 : decode cX9_fact 52 = .ok (.iadd, 1) := of_0 ok_iadd (by decide +kernel)
theorem dX9_fact_53 : decode cX9_fact 53 = .ok (.putfield 164, 3) := of_u2 ok_putfield 0 164 (by decide +kernel)
theorem dX9_fact_56 : decode cX9_fact 56 = .ok (.iconst 0, 1) := of_0 ok_iconst_0 (by decide +kernel)
theorem dX9_fact_57 : decode cX9_fact 57 = .ok (.ireturn, 1) := of_0 ok_ireturn (by decide +kernel)
theorem dX9_fact_58 : decode cX9_fact 58 = .ok (.aload_n 0, 1) := of_0 ok_aload_n_0 (by decide +kernel)
theorem dX9_fact_59 : decode cX9_fact 59 = .ok (.invokevirtual 246, 3) := of_u2 ok_invokevirtual 0 246 (by decide +kernel)
theorem dX9_fact_62 : decode cX9_fact 62 = .ok (.iconst 1, 1) := of_0 ok_iconst_1 (by decide +kernel)
theorem dX9_fact_63 : decode cX9_fact 63 = .ok (.ireturn, 1) := of_0 ok_ireturn (by decide +kernel)
theorem dX9_fails_0 : decode cX9_fails 0 = .ok (.aload_n 0, 1) := of_0 ok_aload_n_0 (by decide +kernel)
theorem dX9_fails_1 : decode cX9_fails 1 = .ok (.aload_n 0, 1) := of_0 ok_aload_n_0 (by decide +kernel)
theorem dX9_fails_2 : decode cX9_fails 2 = .ok (.getfield 161, 3) := of_u2 ok_getfield 0 161 (by decide +kernel)
theorem dX9_fails_5 : decode cX9_fails 5 = .ok (.ifCond .ne 14, 3) := of_s2 ok_ifCond_ne 0 14 (by decide +kernel)
theorem dX9_fails_8 : decode cX9_fails 8 = .ok (.iconst 1, 1) := of_0 ok_iconst_1 (by decide +kernel)
theorem dX9_fails_9 : decode cX9_fails 9 = .ok (.bipush 8, 2) := of_s1 ok_bipush 8 (by decide +kernel)
theorem dX9_fails_11 : decode cX9_fails 11 = .ok (.iload_n 2, 1) := of_0 ok_iload_n_2 (by decide +kernel)
theorem dX9_fails_12 : decode cX9_fails 12 = .ok (.imul, 1) := of_0 ok_imul (by decide +kernel)
theorem dX9_fails_13 : decode cX9_fails 13 = .ok (.iadd, 1) := of_0 ok_iadd (by decide +kernel)
theorem dX9_fails_14 : decode cX9_fails 14 = .ok (.iload_n 1, 1) := of_0 ok_iload_n_1 (by decide +kernel)
theorem dX9_fails_15 : decode cX9_fails 15 = .ok (.iadd, 1) := of_0 ok_iadd (by decide +kernel)
theorem dX9_fails_16 : decode cX9_fails 16 = .ok (.goto 7, 3) := of_s2 ok_goto 0 7 (by decide +kernel)
theorem dX9_fails_19 : decode cX9_fails 19 = .ok (.aload_n 0, 1) := of_0 ok_aload_n_0 (by decide +kernel)
theorem dX9_fails_20 : decode cX9_fails 20 = .ok (.getfield 161, 3) := of_u2 ok_getfield 0 161 (by decide +kernel)
theorem dX9_fails_23 : decode cX9_fails 23 = .ok (.putfield 161, 3) := of_u2 ok_putfield 0 161 (by decide +kernel)
theorem dX9_fails_26 : decode cX9_fails 26 = .ok (.return_, 1) := of_0 ok_return_ (by decide +kernel)
theorem dX9_feed_0 : decode cX9_feed 0 = .ok (.aload_n 0, 1) := of_0 ok_aload_n_0 (by decide +kernel)
theorem dX9_feed_1 : decode cX9_feed 1 = .ok (.getfield 135, 3) := of_u2 ok_getfield 0 135 (by decide +kernel)
theorem dX9_feed_4 : decode cX9_feed 4 = .ok (.bipush 20, 2) := of_s1 ok_bipush 20 (by decide +kernel)
theorem dX9_feed_6 : decode cX9_feed 6 = .ok (.iadd, 1) := of_0 ok_iadd (by decide +kernel)
theorem dX9_feed_7 : decode cX9_feed 7 = .ok (.sipush 400, 3) := of_s2 ok_sipush 1 144 (by decide +kernel)
theorem dX9_feed_10 : decode cX9_feed 10 = .ok (.if_icmp .le 5, 3) := of_s2 ok_if_icmp_le 0 5 (by decide +kernel)
theorem dX9_feed_13 : decode cX9_feed 13 = .ok (.iconst (-1), 1) := of_0 ok_iconst_m1 (by decide +kernel)
theorem dX9_feed_14 : decode cX9_feed 14 = .ok (.ireturn, 1) := of_0 ok_ireturn (by decide +kernel)
theorem dX9_feed_15 : decode cX9_feed 15 = .ok (.aload_n 0, 1) := of_0 ok_aload_n_0 (by decide +kernel)
theorem dX9_feed_16 : decode cX9_feed 16 = .ok (.iload_n 1, 1) := of_0 ok_iload_n_1 (by decide +kernel)
theorem dX9_feed_17 : decode cX9_feed 17 = .ok (.invokevirtual 138, 3) := of_u2 ok_invokevirtual 0 138 (by decide +kernel)
theorem dX9_feed_20 : decode cX9_feed 20 = .ok (.aload_n 0, 1) := of_0 ok_aload_n_0 (by decide +kernel)
theorem dX9_feed_21 : decode cX9_feed 21 = .ok (.iload_n 2, 1) := of_0 ok_iload_n_2 (by decide +kernel)
theorem dX9_feed_22 : decode cX9_feed 22 = .ok (.invokevirtual 138, 3) := of_u2 ok_invokevirtual 0 138 (by decide +kernel)
theorem dX9_feed_25 : decode cX9_feed 25 = .ok (.aload_n 0, 1) := of_0 ok_aload_n_0 (by decide +kernel)
theorem dX9_feed_26 : decode cX9_feed 26 = .ok (.iload_n 3, 1) := of_0 ok_iload_n_3 (by decide +kernel)
theorem dX9_feed_27 : decode cX9_feed 27 = .ok (.invokevirtual 138, 3) := of_u2 ok_invokevirtual 0 138 (by decide +kernel)
theorem dX9_feed_30 : decode cX9_feed 30 = .ok (.aload_n 0, 1) := of_0 ok_aload_n_0 (by decide +kernel)
theorem dX9_feed_31 : decode cX9_feed 31 = .ok (.iload 4, 2) := of_u1 ok_iload (by decide +kernel)
theorem dX9_feed_33 : decode cX9_feed 33 = .ok (.invokevirtual 138, 3) := of_u2 ok_invokevirtual 0 138 (by decide +kernel)
theorem dX9_feed_36 : decode cX9_feed 36 = .ok (.aload_n 0, 1) := of_0 ok_aload_n_0 (by decide +kernel)
theorem dX9_feed_37 : decode cX9_feed 37 = .ok (.iload 5, 2) := of_u1 ok_iload (by decide +kernel)
theorem dX9_feed_39 : decode cX9_feed 39 = .ok (.invokevirtual 138, 3) := of_u2 ok_invokevirtual 0 138 (by decide +kernel)
theorem dX9_feed_42 : decode cX9_feed 42 = .ok (.aload_n 0, 1) := of_0 ok_aload_n_0 (by decide +kernel)
theorem dX9_feed_43 : decode cX9_feed 43 = .ok (.getfield 135, 3) := of_u2 ok_getfield 0 135 (by decide +kernel)
theorem dX9_feed_46 : decode cX9_feed 46 = .ok (.ireturn, 1) := of_0 ok_ireturn (by decide +kernel)
theorem dX9_hallClause_0 : decode cX9_hallClause 0 = .ok (.aload_n 0, 1) := of_0 ok_aload_n_0 (by decide +kernel)
theorem dX9_hallClause_1 : decode cX9_hallClause 1 = .ok (.invokevirtual 184, 3) := of_u2 ok_invokevirtual 0 184 (by decide +kernel)
theorem dX9_hallClause_4 : decode cX9_hallClause 4 = .ok (.aload_n 0, 1) := of_0 ok_aload_n_0 (by decide +kernel)
theorem dX9_hallClause_5 : decode cX9_hallClause 5 = .ok (.getfield 164, 3) := of_u2 ok_getfield 0 164 (by decide +kernel)
theorem dX9_hallClause_8 : decode cX9_hallClause 8 = .ok (.istore_n 2, 1) := of_0 ok_istore_n_2 (by decide +kernel)
theorem dX9_hallClause_9 : decode cX9_hallClause 9 = .ok (.iconst 0, 1) := of_0 ok_iconst_0 (by decide +kernel)
theorem dX9_hallClause_10 : decode cX9_hallClause 10 = .ok (.istore_n 3, 1) := of_0 ok_istore_n_3 (by decide +kernel)
theorem dX9_hallClause_11 : decode cX9_hallClause 11 = .ok (.iload_n 3, 1) := of_0 ok_iload_n_3 (by decide +kernel)
theorem dX9_hallClause_12 : decode cX9_hallClause 12 = .ok (.iconst 4, 1) := of_0 ok_iconst_4 (by decide +kernel)
theorem dX9_hallClause_13 : decode cX9_hallClause 13 = .ok (.if_icmp .ge 20, 3) := of_s2 ok_if_icmp_ge 0 20 (by decide +kernel)
theorem dX9_hallClause_16 : decode cX9_hallClause 16 = .ok (.aload_n 0, 1) := of_0 ok_aload_n_0 (by decide +kernel)
theorem dX9_hallClause_17 : decode cX9_hallClause 17 = .ok (.iload_n 3, 1) := of_0 ok_iload_n_3 (by decide +kernel)
theorem dX9_hallClause_18 : decode cX9_hallClause 18 = .ok (.invokestatic 270, 3) := of_u2 ok_invokestatic 1 14 (by decide +kernel)
theorem dX9_hallClause_21 : decode cX9_hallClause 21 = .ok (.invokevirtual 187, 3) := of_u2 ok_invokevirtual 0 187 (by decide +kernel)
theorem dX9_hallClause_24 : decode cX9_hallClause 24 = .ok (.ifCond .ne 9, 3) := of_s2 ok_ifCond_ne 0 9 (by decide +kernel)
theorem dX9_hallClause_27 : decode cX9_hallClause 27 = .ok (.iinc 3 1, 3) := of_ii ok_iinc 1 (by decide +kernel)
theorem dX9_hallClause_30 : decode cX9_hallClause 30 = .ok (.goto (-19), 3) := of_s2 ok_goto 255 237 (by decide +kernel)
theorem dX9_hallClause_33 : decode cX9_hallClause 33 = .ok (.iload_n 3, 1) := of_0 ok_iload_n_3 (by decide +kernel)
theorem dX9_hallClause_34 : decode cX9_hallClause 34 = .ok (.iconst 4, 1) := of_0 ok_iconst_4 (by decide +kernel)
theorem dX9_hallClause_35 : decode cX9_hallClause 35 = .ok (.if_icmp .ne 10, 3) := of_s2 ok_if_icmp_ne 0 10 (by decide +kernel)
theorem dX9_hallClause_38 : decode cX9_hallClause 38 = .ok (.aload_n 0, 1) := of_0 ok_aload_n_0 (by decide +kernel)
theorem dX9_hallClause_39 : decode cX9_hallClause 39 = .ok (.iconst 0, 1) := of_0 ok_iconst_0 (by decide +kernel)
theorem dX9_hallClause_40 : decode cX9_hallClause 40 = .ok (.iload_n 2, 1) := of_0 ok_iload_n_2 (by decide +kernel)
theorem dX9_hallClause_41 : decode cX9_hallClause 41 = .ok (.invokevirtual 200, 3) := of_u2 ok_invokevirtual 0 200 (by decide +kernel)
theorem dX9_hallClause_44 : decode cX9_hallClause 44 = .ok (.return_, 1) := of_0 ok_return_ (by decide +kernel)
theorem dX9_hallClause_45 : decode cX9_hallClause 45 = .ok (.aload_n 0, 1) := of_0 ok_aload_n_0 (by decide +kernel)
theorem dX9_hallClause_46 : decode cX9_hallClause 46 = .ok (.iload_n 3, 1) := of_0 ok_iload_n_3 (by decide +kernel)
theorem dX9_hallClause_47 : decode cX9_hallClause 47 = .ok (.iload_n 1, 1) := of_0 ok_iload_n_1 (by decide +kernel)
theorem dX9_hallClause_48 : decode cX9_hallClause 48 = .ok (.invokevirtual 273, 3) := of_u2 ok_invokevirtual 1 17 (by decide +kernel)
theorem dX9_hallClause_51 : decode cX9_hallClause 51 = .ok (.ifCond .eq 10, 3) := of_s2 ok_ifCond_eq 0 10 (by decide +kernel)
theorem dX9_hallClause_54 : decode cX9_hallClause 54 = .ok (.aload_n 0, 1) := of_0 ok_aload_n_0 (by decide +kernel)
theorem dX9_hallClause_55 : decode cX9_hallClause 55 = .ok (.iconst 4, 1) := of_0 ok_iconst_4 (by decide +kernel)
theorem dX9_hallClause_56 : decode cX9_hallClause 56 = .ok (.iload_n 2, 1) := of_0 ok_iload_n_2 (by decide +kernel)
theorem dX9_hallClause_57 : decode cX9_hallClause 57 = .ok (.invokevirtual 200, 3) := of_u2 ok_invokevirtual 0 200 (by decide +kernel)
theorem dX9_hallClause_60 : decode cX9_hallClause 60 = .ok (.return_, 1) := of_0 ok_return_ (by decide +kernel)
theorem dX9_hallClause_61 : decode cX9_hallClause 61 = .ok (.aload_n 0, 1) := of_0 ok_aload_n_0 (by decide +kernel)
theorem dX9_hallClause_62 : decode cX9_hallClause 62 = .ok (.dup, 1) := of_0 ok_dup (by decide +kernel)
theorem dX9_hallClause_63 : decode cX9_hallClause 63 = .ok (.getfield 164, 3) := of_u2 ok_getfield 0 164 (by decide +kernel)
theorem dX9_hallClause_66 : decode cX9_hallClause 66 = .ok (.iload_n 3, 1) := of_0 ok_iload_n_3 (by decide +kernel)
theorem dX9_hallClause_67 : decode cX9_hallClause 67 = .ok (.invokestatic 270, 3) := of_u2 ok_invokestatic 1 14 (by decide +kernel)
theorem dX9_hallClause_70 : decode cX9_hallClause 70 = .ok (.invokevirtual 175, 3) := of_u2 ok_invokevirtual 0 175 (by decide +kernel)
theorem dX9_hallClause_73 : decode cX9_hallClause 73 = .ok (.iadd, 1) := of_0 ok_iadd (by decide +kernel)
theorem dX9_hallClause_74 : decode cX9_hallClause 74 = .ok (.putfield 164, 3) := of_u2 ok_putfield 0 164 (by decide +kernel)
theorem dX9_hallClause_77 : decode cX9_hallClause 77 = .ok (.aload_n 0, 1) := of_0 ok_aload_n_0 (by decide +kernel)
theorem dX9_hallClause_78 : decode cX9_hallClause 78 = .ok (.iload_n 3, 1) := of_0 ok_iload_n_3 (by decide +kernel)
theorem dX9_hallClause_79 : decode cX9_hallClause 79 = .ok (.invokevirtual 277, 3) := of_u2 ok_invokevirtual 1 21 (by decide +kernel)
theorem dX9_hallClause_82 : decode cX9_hallClause 82 = .ok (.return_, 1) := of_0 ok_return_ (by decide +kernel)
theorem dX9_hallPart_0 : decode cX9_hallPart 0 = .ok (.iload_n 1, 1) := of_0 ok_iload_n_1 (by decide +kernel)
theorem dX9_hallPart_1 : decode cX9_hallPart 1 = .ok (.tableswitch 120 0 2 #[27, 37, 68], 27) := by decide +kernel
theorem dX9_hallPart_28 : decode cX9_hallPart 28 = .ok (.aload_n 0, 1) := of_0 ok_aload_n_0 (by decide +kernel)
theorem dX9_hallPart_29 : decode cX9_hallPart 29 = .ok (.getfield 43, 3) := of_u2 ok_getfield 0 43 (by decide +kernel)
theorem dX9_hallPart_32 : decode cX9_hallPart 32 = .ok (.iconst 0, 1) := of_0 ok_iconst_0 (by decide +kernel)
theorem dX9_hallPart_33 : decode cX9_hallPart 33 = .ok (.iconst 1, 1) := of_0 ok_iconst_1 (by decide +kernel)
theorem dX9_hallPart_34 : decode cX9_hallPart 34 = .ok (.iastore, 1) := of_0 ok_iastore (by decide +kernel)
theorem dX9_hallPart_35 : decode cX9_hallPart 35 = .ok (.goto 90, 3) := of_s2 ok_goto 0 90 (by decide +kernel)
theorem dX9_hallPart_38 : decode cX9_hallPart 38 = .ok (.aload_n 0, 1) := of_0 ok_aload_n_0 (by decide +kernel)
theorem dX9_hallPart_39 : decode cX9_hallPart 39 = .ok (.getfield 46, 3) := of_u2 ok_getfield 0 46 (by decide +kernel)
theorem dX9_hallPart_42 : decode cX9_hallPart 42 = .ok (.aload_n 0, 1) := of_0 ok_aload_n_0 (by decide +kernel)
theorem dX9_hallPart_43 : decode cX9_hallPart 43 = .ok (.getfield 43, 3) := of_u2 ok_getfield 0 43 (by decide +kernel)
theorem dX9_hallPart_46 : decode cX9_hallPart 46 = .ok (.iconst 1, 1) := of_0 ok_iconst_1 (by decide +kernel)
theorem dX9_hallPart_47 : decode cX9_hallPart 47 = .ok (.iaload, 1) := of_0 ok_iaload (by decide +kernel)
theorem dX9_hallPart_48 : decode cX9_hallPart 48 = .ok (.aload_n 0, 1) := of_0 ok_aload_n_0 (by decide +kernel)
theorem dX9_hallPart_49 : decode cX9_hallPart 49 = .ok (.iconst 0, 1) := of_0 ok_iconst_0 (by decide +kernel)
theorem dX9_hallPart_50 : decode cX9_hallPart 50 = .ok (.bipush 99, 2) := of_s1 ok_bipush 99 (by decide +kernel)
theorem dX9_hallPart_52 : decode cX9_hallPart 52 = .ok (.invokevirtual 263, 3) := of_u2 ok_invokevirtual 1 7 (by decide +kernel)
theorem dX9_hallPart_55 : decode cX9_hallPart 55 = .ok (.iastore, 1) := of_0 ok_iastore (by decide +kernel)
theorem dX9_hallPart_56 : decode cX9_hallPart 56 = .ok (.aload_n 0, 1) := of_0 ok_aload_n_0 (by decide +kernel)
theorem dX9_hallPart_57 : decode cX9_hallPart 57 = .ok (.getfield 43, 3) := of_u2 ok_getfield 0 43 (by decide +kernel)
theorem dX9_hallPart_60 : decode cX9_hallPart 60 = .ok (.iconst 1, 1) := of_0 ok_iconst_1 (by decide +kernel)
theorem dX9_hallPart_61 : decode cX9_hallPart 61 = .ok (.dup2, 1) := of_0 ok_dup2 (by decide +kernel)
theorem dX9_hallPart_62 : decode cX9_hallPart 62 = .ok (.iaload, 1) := of_0 ok_iaload (by decide +kernel)
theorem dX9_hallPart_63 : decode cX9_hallPart 63 = .ok (.iconst 1, 1) := of_0 ok_iconst_1 (by decide +kernel)
theorem dX9_hallPart_64 : decode cX9_hallPart 64 = .ok (.iadd, 1) := of_0 ok_iadd (by decide +kernel)
theorem dX9_hallPart_65 : decode cX9_hallPart 65 = .ok (.iastore, 1) := of_0 ok_iastore (by decide +kernel)
theorem dX9_hallPart_66 : decode cX9_hallPart 66 = .ok (.goto 59, 3) := of_s2 ok_goto 0 59 (by decide +kernel)
theorem dX9_hallPart_69 : decode cX9_hallPart 69 = .ok (.aload_n 0, 1) := of_0 ok_aload_n_0 (by decide +kernel)
theorem dX9_hallPart_70 : decode cX9_hallPart 70 = .ok (.getfield 43, 3) := of_u2 ok_getfield 0 43 (by decide +kernel)
theorem dX9_hallPart_73 : decode cX9_hallPart 73 = .ok (.iconst 2, 1) := of_0 ok_iconst_2 (by decide +kernel)
theorem dX9_hallPart_74 : decode cX9_hallPart 74 = .ok (.iaload, 1) := of_0 ok_iaload (by decide +kernel)
theorem dX9_hallPart_75 : decode cX9_hallPart 75 = .ok (.istore_n 2, 1) := of_0 ok_istore_n_2 (by decide +kernel)
theorem dX9_hallPart_76 : decode cX9_hallPart 76 = .ok (.aload_n 0, 1) := of_0 ok_aload_n_0 (by decide +kernel)
theorem dX9_hallPart_77 : decode cX9_hallPart 77 = .ok (.getfield 49, 3) := of_u2 ok_getfield 0 49 (by decide +kernel)
theorem dX9_hallPart_80 : decode cX9_hallPart 80 = .ok (.iload_n 2, 1) := of_0 ok_iload_n_2 (by decide +kernel)
theorem dX9_hallPart_81 : decode cX9_hallPart 81 = .ok (.aload_n 0, 1) := of_0 ok_aload_n_0 (by decide +kernel)
theorem dX9_hallPart_82 : decode cX9_hallPart 82 = .ok (.iconst 1, 1) := of_0 ok_iconst_1 (by decide +kernel)
theorem dX9_hallPart_83 : decode cX9_hallPart 83 = .ok (.bipush 60, 2) := of_s1 ok_bipush 60 (by decide +kernel)
theorem dX9_hallPart_85 : decode cX9_hallPart 85 = .ok (.invokevirtual 263, 3) := of_u2 ok_invokevirtual 1 7 (by decide +kernel)
theorem dX9_hallPart_88 : decode cX9_hallPart 88 = .ok (.iastore, 1) := of_0 ok_iastore (by decide +kernel)
theorem dX9_hallPart_89 : decode cX9_hallPart 89 = .ok (.aload_n 0, 1) := of_0 ok_aload_n_0 (by decide +kernel)
theorem dX9_hallPart_90 : decode cX9_hallPart 90 = .ok (.getfield 52, 3) := of_u2 ok_getfield 0 52 (by decide +kernel)
theorem dX9_hallPart_93 : decode cX9_hallPart 93 = .ok (.iload_n 2, 1) := of_0 ok_iload_n_2 (by decide +kernel)
theorem dX9_hallPart_94 : decode cX9_hallPart 94 = .ok (.aload_n 0, 1) := of_0 ok_aload_n_0 (by decide +kernel)
theorem dX9_hallPart_95 : decode cX9_hallPart 95 = .ok (.iconst 0, 1) := of_0 ok_iconst_0 (by decide +kernel)
theorem dX9_hallPart_96 : decode cX9_hallPart 96 = .ok (.aload_n 0, 1) := of_0 ok_aload_n_0 (by decide +kernel)
theorem dX9_hallPart_97 : decode cX9_hallPart 97 = .ok (.getfield 43, 3) := of_u2 ok_getfield 0 43 (by decide +kernel)
theorem dX9_hallPart_100 : decode cX9_hallPart 100 = .ok (.iconst 1, 1) := of_0 ok_iconst_1 (by decide +kernel)
theorem dX9_hallPart_101 : decode cX9_hallPart 101 = .ok (.iaload, 1) := of_0 ok_iaload (by decide +kernel)
theorem dX9_hallPart_102 : decode cX9_hallPart 102 = .ok (.iconst 1, 1) := of_0 ok_iconst_1 (by decide +kernel)
theorem dX9_hallPart_103 : decode cX9_hallPart 103 = .ok (.isub, 1) := of_0 ok_isub (by decide +kernel)
theorem dX9_hallPart_104 : decode cX9_hallPart 104 = .ok (.invokevirtual 263, 3) := of_u2 ok_invokevirtual 1 7 (by decide +kernel)
theorem dX9_hallPart_107 : decode cX9_hallPart 107 = .ok (.iastore, 1) := of_0 ok_iastore (by decide +kernel)
theorem dX9_hallPart_108 : decode cX9_hallPart 108 = .ok (.aload_n 0, 1) := of_0 ok_aload_n_0 (by decide +kernel)
theorem dX9_hallPart_109 : decode cX9_hallPart 109 = .ok (.getfield 43, 3) := of_u2 ok_getfield 0 43 (by decide +kernel)
theorem dX9_hallPart_112 : decode cX9_hallPart 112 = .ok (.iconst 2, 1) := of_0 ok_iconst_2 (by decide +kernel)
theorem dX9_hallPart_113 : decode cX9_hallPart 113 = .ok (.dup2, 1) := of_0 ok_dup2 (by decide +kernel)
theorem dX9_hallPart_114 : decode cX9_hallPart 114 = .ok (.iaload, 1) := of_0 ok_iaload (by decide +kernel)
theorem dX9_hallPart_115 : decode cX9_hallPart 115 = .ok (.iconst 1, 1) := of_0 ok_iconst_1 (by decide +kernel)
theorem dX9_hallPart_116 : decode cX9_hallPart 116 = .ok (.iadd, 1) := of_0 ok_iadd (by decide +kernel)
theorem dX9_hallPart_117 : decode cX9_hallPart 117 = .ok (.iastore, 1) := of_0 ok_iastore (by decide +kernel)
theorem dX9_hallPart_118 : decode cX9_hallPart 118 = .ok (.goto 7, 3) := of_s2 ok_goto 0 7 (by decide +kernel)
theorem dX9_hallPart_121 : decode cX9_hallPart 121 = .ok (.aload_n 0, 1) := of_0 ok_aload_n_0 (by decide +kernel)
theorem dX9_hallPart_122 : decode cX9_hallPart 122 = .ok (.invokevirtual 267, 3) := of_u2 ok_invokevirtual 1 11 (by decide +kernel)
theorem dX9_hallPart_125 : decode cX9_hallPart 125 = .ok (.return_, 1) := of_0 ok_return_ (by decide +kernel)
theorem dX9_has_0 : decode cX9_has 0 = .ok (.iload_n 0, 1) := of_0 ok_iload_n_0 (by decide +kernel)
theorem dX9_has_1 : decode cX9_has 1 = .ok (.iload_n 1, 1) := of_0 ok_iload_n_1 (by decide +kernel)
theorem dX9_has_2 : decode cX9_has 2 = .ok (.ishr, 1) := of_0 ok_ishr (by decide +kernel)
theorem dX9_has_3 : decode cX9_has 3 = .ok (.iconst 1, 1) := of_0 ok_iconst_1 (by decide +kernel)
theorem dX9_has_4 : decode cX9_has 4 = .ok (.iand, 1) := of_0 ok_iand (by decide +kernel)
theorem dX9_has_5 : decode cX9_has 5 = .ok (.iconst 1, 1) := of_0 ok_iconst_1 (by decide +kernel)
theorem dX9_has_6 : decode cX9_has 6 = .ok (.if_icmp .ne 7, 3) := of_s2 ok_if_icmp_ne 0 7 (by decide +kernel)
theorem dX9_has_9 : decode cX9_has 9 = .ok (.iconst 1, 1) := of_0 ok_iconst_1 (by decide +kernel)
theorem dX9_has_10 : decode cX9_has 10 = .ok (.goto 4, 3) := of_s2 ok_goto 0 4 (by decide +kernel)
theorem dX9_has_13 : decode cX9_has 13 = .ok (.iconst 0, 1) := of_0 ok_iconst_0 (by decide +kernel)
theorem dX9_has_14 : decode cX9_has 14 = .ok (.ireturn, 1) := of_0 ok_ireturn (by decide +kernel)
theorem dX9_in_0 : decode cX9_in 0 = .ok (.lload_n 0, 1) := of_0 ok_lload_n_0 (by decide +kernel)
theorem dX9_in_1 : decode cX9_in 1 = .ok (.lload_n 2, 1) := of_0 ok_lload_n_2 (by decide +kernel)
theorem dX9_in_2 : decode cX9_in 2 = .ok (.lcmp, 1) := of_0 ok_lcmp (by decide +kernel)
theorem dX9_in_3 : decode cX9_in 3 = .ok (.ifCond .lt 14, 3) := of_s2 ok_ifCond_lt 0 14 (by decide +kernel)
theorem dX9_in_6 : decode cX9_in 6 = .ok (.lload_n 0, 1) := of_0 ok_lload_n_0 (by decide +kernel)
theorem dX9_in_7 : decode cX9_in 7 = .ok (.lload 4, 2) := of_u1 ok_lload (by decide +kernel)
theorem dX9_in_9 : decode cX9_in 9 = .ok (.lcmp, 1) := of_0 ok_lcmp (by decide +kernel)
theorem dX9_in_10 : decode cX9_in 10 = .ok (.ifCond .gt 7, 3) := of_s2 ok_ifCond_gt 0 7 (by decide +kernel)
theorem dX9_in_13 : decode cX9_in 13 = .ok (.iconst 1, 1) := of_0 ok_iconst_1 (by decide +kernel)
theorem dX9_in_14 : decode cX9_in 14 = .ok (.goto 4, 3) := of_s2 ok_goto 0 4 (by decide +kernel)
theorem dX9_in_17 : decode cX9_in 17 = .ok (.iconst 0, 1) := of_0 ok_iconst_0 (by decide +kernel)
theorem dX9_in_18 : decode cX9_in 18 = .ok (.ireturn, 1) := of_0 ok_ireturn (by decide +kernel)
theorem dX9_isChair_0 : decode cX9_isChair 0 = .ok (.iload_n 1, 1) := of_0 ok_iload_n_1 (by decide +kernel)
theorem dX9_isChair_1 : decode cX9_isChair 1 = .ok (.i2l, 1) := of_0 ok_i2l (by decide +kernel)
theorem dX9_isChair_2 : decode cX9_isChair 2 = .ok (.lconst 0, 1) := of_0 ok_lconst_0 (by decide +kernel)
theorem dX9_isChair_3 : decode cX9_isChair 3 = .ok (.aload_n 0, 1) := of_0 ok_aload_n_0 (by decide +kernel)
theorem dX9_isChair_4 : decode cX9_isChair 4 = .ok (.getfield 9, 3) := of_u2 ok_getfield 0 9 (by decide +kernel)
theorem dX9_isChair_7 : decode cX9_isChair 7 = .ok (.iconst 2, 1) := of_0 ok_iconst_2 (by decide +kernel)
theorem dX9_isChair_8 : decode cX9_isChair 8 = .ok (.iaload, 1) := of_0 ok_iaload (by decide +kernel)
theorem dX9_isChair_9 : decode cX9_isChair 9 = .ok (.iconst 1, 1) := of_0 ok_iconst_1 (by decide +kernel)
theorem dX9_isChair_10 : decode cX9_isChair 10 = .ok (.isub, 1) := of_0 ok_isub (by decide +kernel)
theorem dX9_isChair_11 : decode cX9_isChair 11 = .ok (.i2l, 1) := of_0 ok_i2l (by decide +kernel)
theorem dX9_isChair_12 : decode cX9_isChair 12 = .ok (.invokestatic 131, 3) := of_u2 ok_invokestatic 0 131 (by decide +kernel)
theorem dX9_isChair_15 : decode cX9_isChair 15 = .ok (.ireturn, 1) := of_0 ok_ireturn (by decide +kernel)
theorem dX9_isCounted_0 : decode cX9_isCounted 0 = .ok (.aload_n 0, 1) := of_0 ok_aload_n_0 (by decide +kernel)
theorem dX9_isCounted_1 : decode cX9_isCounted 1 = .ok (.getfield 197, 3) := of_u2 ok_getfield 0 197 (by decide +kernel)
theorem dX9_isCounted_4 : decode cX9_isCounted 4 = .ok (.bipush 60, 2) := of_s1 ok_bipush 60 (by decide +kernel)
theorem dX9_isCounted_6 : decode cX9_isCounted 6 = .ok (.if_icmp .ne 9, 3) := of_s2 ok_if_icmp_ne 0 9 (by decide +kernel)
theorem dX9_isCounted_9 : decode cX9_isCounted 9 = .ok (.aload_n 0, 1) := of_0 ok_aload_n_0 (by decide +kernel)
theorem dX9_isCounted_10 : decode cX9_isCounted 10 = .ok (.iconst 3, 1) := of_0 ok_iconst_3 (by decide +kernel)
theorem dX9_isCounted_11 : decode cX9_isCounted 11 = .ok (.iload_n 1, 1) := of_0 ok_iload_n_1 (by decide +kernel)
theorem dX9_isCounted_12 : decode cX9_isCounted 12 = .ok (.invokevirtual 200, 3) := of_u2 ok_invokevirtual 0 200 (by decide +kernel)
theorem dX9_isCounted_15 : decode cX9_isCounted 15 = .ok (.aload_n 0, 1) := of_0 ok_aload_n_0 (by decide +kernel)
theorem dX9_isCounted_16 : decode cX9_isCounted 16 = .ok (.dup, 1) := of_0 ok_dup (by decide +kernel)
theorem dX9_isCounted_17 : decode cX9_isCounted 17 = .ok (.getfield 197, 3) := of_u2 ok_getfield 0 197 (by decide +kernel)
theorem dX9_isCounted_20 : decode cX9_isCounted 20 = .ok (.iconst 1, 1) := of_0 ok_iconst_1 (by decide +kernel)
theorem dX9_isCounted_21 : decode cX9_isCounted 21 = .ok (.iadd, 1) := of_0 ok_iadd (by decide +kernel)
theorem dX9_isCounted_22 : decode cX9_isCounted 22 = .ok (.putfield 197, 3) := of_u2 ok_putfield 0 197 (by decide +kernel)
theorem dX9_isCounted_25 : decode cX9_isCounted 25 = .ok (.return_, 1) := of_0 ok_return_ (by decide +kernel)
theorem dX9_isDigit_0 : decode cX9_isDigit 0 = .ok (.aload_n 0, 1) := of_0 ok_aload_n_0 (by decide +kernel)
theorem dX9_isDigit_1 : decode cX9_isDigit 1 = .ok (.invokevirtual 167, 3) := of_u2 ok_invokevirtual 0 167 (by decide +kernel)
theorem dX9_isDigit_4 : decode cX9_isDigit 4 = .ok (.i2l, 1) := of_0 ok_i2l (by decide +kernel)
theorem dX9_isDigit_5 : decode cX9_isDigit 5 = .ok (.ldc2_w 171, 3) := of_u2 ok_ldc2_w 0 171 (by decide +kernel)
theorem dX9_isDigit_8 : decode cX9_isDigit 8 = .ok (.ldc2_w 173, 3) := of_u2 ok_ldc2_w 0 173 (by decide +kernel)
theorem dX9_isDigit_11 : decode cX9_isDigit 11 = .ok (.invokestatic 131, 3) := of_u2 ok_invokestatic 0 131 (by decide +kernel)
theorem dX9_isDigit_14 : decode cX9_isDigit 14 = .ok (.ireturn, 1) := of_0 ok_ireturn (by decide +kernel)
theorem dX9_isFull_0 : decode cX9_isFull 0 = .ok (.iload_n 2, 1) := of_0 ok_iload_n_2 (by decide +kernel)
theorem dX9_isFull_1 : decode cX9_isFull 1 = .ok (.bipush 40, 2) := of_s1 ok_bipush 40 (by decide +kernel)
theorem dX9_isFull_3 : decode cX9_isFull 3 = .ok (.if_icmp .eq 24, 3) := of_s2 ok_if_icmp_eq 0 24 (by decide +kernel)
theorem dX9_isFull_6 : decode cX9_isFull 6 = .ok (.iload_n 1, 1) := of_0 ok_iload_n_1 (by decide +kernel)
theorem dX9_isFull_7 : decode cX9_isFull 7 = .ok (.ifCond .ne 7, 3) := of_s2 ok_ifCond_ne 0 7 (by decide +kernel)
theorem dX9_isFull_10 : decode cX9_isFull 10 = .ok (.iconst 1, 1) := of_0 ok_iconst_1 (by decide +kernel)
theorem dX9_isFull_11 : decode cX9_isFull 11 = .ok (.goto 4, 3) := of_s2 ok_goto 0 4 (by decide +kernel)
theorem dX9_isFull_14 : decode cX9_isFull 14 = .ok (.iconst 0, 1) := of_0 ok_iconst_0 (by decide +kernel)
theorem dX9_isFull_15 : decode cX9_isFull 15 = .ok (.iload_n 2, 1) := of_0 ok_iload_n_2 (by decide +kernel)
theorem dX9_isFull_16 : decode cX9_isFull 16 = .ok (.ifCond .ne 7, 3) := of_s2 ok_ifCond_ne 0 7 (by decide +kernel)
theorem dX9_isFull_19 : decode cX9_isFull 19 = .ok (.iconst 1, 1) := of_0 ok_iconst_1 (by decide +kernel)
theorem dX9_isFull_20 : decode cX9_isFull 20 = .ok (.goto 4, 3) := of_s2 ok_goto 0 4 (by decide +kernel)
theorem dX9_isFull_23 : decode cX9_isFull 23 = .ok (.iconst 0, 1) := of_0 ok_iconst_0 (by decide +kernel)
theorem dX9_isFull_24 : decode cX9_isFull 24 = .ok (.if_icmp .eq 5, 3) := of_s2 ok_if_icmp_eq 0 5 (by decide +kernel)
theorem dX9_isFull_27 : decode cX9_isFull 27 = .ok (.iconst 1, 1) := of_0 ok_iconst_1 (by decide +kernel)
theorem dX9_isFull_28 : decode cX9_isFull 28 = .ok (.ireturn, 1) := of_0 ok_ireturn (by decide +kernel)
theorem dX9_isFull_29 : decode cX9_isFull 29 = .ok (.iload_n 1, 1) := of_0 ok_iload_n_1 (by decide +kernel)
theorem dX9_isFull_30 : decode cX9_isFull 30 = .ok (.iconst 1, 1) := of_0 ok_iconst_1 (by decide +kernel)
theorem dX9_isFull_31 : decode cX9_isFull 31 = .ok (.if_icmp .ne 13, 3) := of_s2 ok_if_icmp_ne 0 13 (by decide +kernel)
theorem dX9_isFull_34 : decode cX9_isFull 34 = .ok (.aload_n 0, 1) := of_0 ok_aload_n_0 (by decide +kernel)
theorem dX9_isFull_35 : decode cX9_isFull 35 = .ok (.getfield 43, 3) := of_u2 ok_getfield 0 43 (by decide +kernel)
theorem dX9_isFull_38 : decode cX9_isFull 38 = .ok (.iconst 1, 1) := of_0 ok_iconst_1 (by decide +kernel)
theorem dX9_isFull_39 : decode cX9_isFull 39 = .ok (.iaload, 1) := of_0 ok_iaload (by decide +kernel)
theorem dX9_isFull_40 : decode cX9_isFull 40 = .ok (.iconst 4, 1) := of_0 ok_iconst_4 (by decide +kernel)
theorem dX9_isFull_41 : decode cX9_isFull 41 = .ok (.if_icmp .eq 19, 3) := of_s2 ok_if_icmp_eq 0 19 (by decide +kernel)
theorem dX9_isFull_44 : decode cX9_isFull 44 = .ok (.iload_n 1, 1) := of_0 ok_iload_n_1 (by decide +kernel)
theorem dX9_isFull_45 : decode cX9_isFull 45 = .ok (.iconst 2, 1) := of_0 ok_iconst_2 (by decide +kernel)
theorem dX9_isFull_46 : decode cX9_isFull 46 = .ok (.if_icmp .ne 18, 3) := of_s2 ok_if_icmp_ne 0 18 (by decide +kernel)
theorem dX9_isFull_49 : decode cX9_isFull 49 = .ok (.aload_n 0, 1) := of_0 ok_aload_n_0 (by decide +kernel)
theorem dX9_isFull_50 : decode cX9_isFull 50 = .ok (.getfield 43, 3) := of_u2 ok_getfield 0 43 (by decide +kernel)
theorem dX9_isFull_53 : decode cX9_isFull 53 = .ok (.iconst 2, 1) := of_0 ok_iconst_2 (by decide +kernel)
theorem dX9_isFull_54 : decode cX9_isFull 54 = .ok (.iaload, 1) := of_0 ok_iaload (by decide +kernel)
theorem dX9_isFull_55 : decode cX9_isFull 55 = .ok (.bipush 8, 2) := of_s1 ok_bipush 8 (by decide +kernel)
theorem dX9_isFull_57 : decode cX9_isFull 57 = .ok (.if_icmp .ne 7, 3) := of_s2 ok_if_icmp_ne 0 7 (by decide +kernel)
theorem dX9_isFull_60 : decode cX9_isFull 60 = .ok (.iconst 1, 1) := of_0 ok_iconst_1 (by decide +kernel)
theorem dX9_isFull_61 : decode cX9_isFull 61 = .ok (.goto 4, 3) := of_s2 ok_goto 0 4 (by decide +kernel)
theorem dX9_isFull_64 : decode cX9_isFull 64 = .ok (.iconst 0, 1) := of_0 ok_iconst_0 (by decide +kernel)
theorem dX9_isFull_65 : decode cX9_isFull 65 = .ok (.ireturn, 1) := of_0 ok_ireturn (by decide +kernel)
theorem dX9_isHall_0 : decode cX9_isHall 0 = .ok (.aload_n 0, 1) := of_0 ok_aload_n_0 (by decide +kernel)
theorem dX9_isHall_1 : decode cX9_isHall 1 = .ok (.getfield 9, 3) := of_u2 ok_getfield 0 9 (by decide +kernel)
theorem dX9_isHall_4 : decode cX9_isHall 4 = .ok (.iconst 0, 1) := of_0 ok_iconst_0 (by decide +kernel)
theorem dX9_isHall_5 : decode cX9_isHall 5 = .ok (.iaload, 1) := of_0 ok_iaload (by decide +kernel)
theorem dX9_isHall_6 : decode cX9_isHall 6 = .ok (.iconst 1, 1) := of_0 ok_iconst_1 (by decide +kernel)
theorem dX9_isHall_7 : decode cX9_isHall 7 = .ok (.if_icmp .ne 7, 3) := of_s2 ok_if_icmp_ne 0 7 (by decide +kernel)
theorem dX9_isHall_10 : decode cX9_isHall 10 = .ok (.iconst 1, 1) := of_0 ok_iconst_1 (by decide +kernel)
theorem dX9_isHall_11 : decode cX9_isHall 11 = .ok (.goto 4, 3) := of_s2 ok_goto 0 4 (by decide +kernel)
theorem dX9_isHall_14 : decode cX9_isHall 14 = .ok (.iconst 0, 1) := of_0 ok_iconst_0 (by decide +kernel)
theorem dX9_isHall_15 : decode cX9_isHall 15 = .ok (.ireturn, 1) := of_0 ok_ireturn (by decide +kernel)
theorem dX9_isSitter_0 : decode cX9_isSitter 0 = .ok (.iload_n 1, 1) := of_0 ok_iload_n_1 (by decide +kernel)
theorem dX9_isSitter_1 : decode cX9_isSitter 1 = .ok (.i2l, 1) := of_0 ok_i2l (by decide +kernel)
theorem dX9_isSitter_2 : decode cX9_isSitter 2 = .ok (.lconst 0, 1) := of_0 ok_lconst_0 (by decide +kernel)
theorem dX9_isSitter_3 : decode cX9_isSitter 3 = .ok (.aload_n 0, 1) := of_0 ok_aload_n_0 (by decide +kernel)
theorem dX9_isSitter_4 : decode cX9_isSitter 4 = .ok (.getfield 9, 3) := of_u2 ok_getfield 0 9 (by decide +kernel)
theorem dX9_isSitter_7 : decode cX9_isSitter 7 = .ok (.iconst 3, 1) := of_0 ok_iconst_3 (by decide +kernel)
theorem dX9_isSitter_8 : decode cX9_isSitter 8 = .ok (.iaload, 1) := of_0 ok_iaload (by decide +kernel)
theorem dX9_isSitter_9 : decode cX9_isSitter 9 = .ok (.iconst 1, 1) := of_0 ok_iconst_1 (by decide +kernel)
theorem dX9_isSitter_10 : decode cX9_isSitter 10 = .ok (.isub, 1) := of_0 ok_isub (by decide +kernel)
theorem dX9_isSitter_11 : decode cX9_isSitter 11 = .ok (.i2l, 1) := of_0 ok_i2l (by decide +kernel)
theorem dX9_isSitter_12 : decode cX9_isSitter 12 = .ok (.invokestatic 131, 3) := of_u2 ok_invokestatic 0 131 (by decide +kernel)
theorem dX9_isSitter_15 : decode cX9_isSitter 15 = .ok (.ireturn, 1) := of_0 ok_ireturn (by decide +kernel)
theorem dX9_isStrand_0 : decode cX9_isStrand 0 = .ok (.iload_n 1, 1) := of_0 ok_iload_n_1 (by decide +kernel)
theorem dX9_isStrand_1 : decode cX9_isStrand 1 = .ok (.i2l, 1) := of_0 ok_i2l (by decide +kernel)
theorem dX9_isStrand_2 : decode cX9_isStrand 2 = .ok (.lconst 0, 1) := of_0 ok_lconst_0 (by decide +kernel)
theorem dX9_isStrand_3 : decode cX9_isStrand 3 = .ok (.aload_n 0, 1) := of_0 ok_aload_n_0 (by decide +kernel)
theorem dX9_isStrand_4 : decode cX9_isStrand 4 = .ok (.getfield 9, 3) := of_u2 ok_getfield 0 9 (by decide +kernel)
theorem dX9_isStrand_7 : decode cX9_isStrand 7 = .ok (.iconst 1, 1) := of_0 ok_iconst_1 (by decide +kernel)
theorem dX9_isStrand_8 : decode cX9_isStrand 8 = .ok (.iaload, 1) := of_0 ok_iaload (by decide +kernel)
theorem dX9_isStrand_9 : decode cX9_isStrand 9 = .ok (.iconst 1, 1) := of_0 ok_iconst_1 (by decide +kernel)
theorem dX9_isStrand_10 : decode cX9_isStrand 10 = .ok (.isub, 1) := of_0 ok_isub (by decide +kernel)
theorem dX9_isStrand_11 : decode cX9_isStrand 11 = .ok (.i2l, 1) := of_0 ok_i2l (by decide +kernel)
theorem dX9_isStrand_12 : decode cX9_isStrand 12 = .ok (.invokestatic 131, 3) := of_u2 ok_invokestatic 0 131 (by decide +kernel)
theorem dX9_isStrand_15 : decode cX9_isStrand 15 = .ok (.ireturn, 1) := of_0 ok_ireturn (by decide +kernel)
theorem dX9_opens_0 : decode cX9_opens 0 = .ok (.iload_n 1, 1) := of_0 ok_iload_n_1 (by decide +kernel)
theorem dX9_opens_1 : decode cX9_opens 1 = .ok (.bipush 9, 2) := of_s1 ok_bipush 9 (by decide +kernel)
theorem dX9_opens_3 : decode cX9_opens 3 = .ok (.if_icmp .eq 9, 3) := of_s2 ok_if_icmp_eq 0 9 (by decide +kernel)
theorem dX9_opens_6 : decode cX9_opens 6 = .ok (.iload_n 1, 1) := of_0 ok_iload_n_1 (by decide +kernel)
theorem dX9_opens_7 : decode cX9_opens 7 = .ok (.bipush 12, 2) := of_s1 ok_bipush 12 (by decide +kernel)
theorem dX9_opens_9 : decode cX9_opens 9 = .ok (.if_icmp .ne 31, 3) := of_s2 ok_if_icmp_ne 0 31 (by decide +kernel)
theorem dX9_opens_12 : decode cX9_opens 12 = .ok (.aload_n 0, 1) := of_0 ok_aload_n_0 (by decide +kernel)
theorem dX9_opens_13 : decode cX9_opens 13 = .ok (.getfield 235, 3) := of_u2 ok_getfield 0 235 (by decide +kernel)
theorem dX9_opens_16 : decode cX9_opens 16 = .ok (.bipush 10, 2) := of_s1 ok_bipush 10 (by decide +kernel)
theorem dX9_opens_18 : decode cX9_opens 18 = .ok (.if_icmp .ne 12, 3) := of_s2 ok_if_icmp_ne 0 12 (by decide +kernel)
theorem dX9_opens_21 : decode cX9_opens 21 = .ok (.aload_n 0, 1) := of_0 ok_aload_n_0 (by decide +kernel)
theorem dX9_opens_22 : decode cX9_opens 22 = .ok (.iconst 2, 1) := of_0 ok_iconst_2 (by decide +kernel)
theorem dX9_opens_23 : decode cX9_opens 23 = .ok (.aload_n 0, 1) := of_0 ok_aload_n_0 (by decide +kernel)
theorem dX9_opens_24 : decode cX9_opens 24 = .ok (.getfield 164, 3) := of_u2 ok_getfield 0 164 (by decide +kernel)
theorem dX9_opens_27 : decode cX9_opens 27 = .ok (.invokevirtual 200, 3) := of_u2 ok_invokevirtual 0 200 (by decide +kernel)
theorem dX9_opens_30 : decode cX9_opens 30 = .ok (.aload_n 0, 1) := of_0 ok_aload_n_0 (by decide +kernel)
theorem dX9_opens_31 : decode cX9_opens 31 = .ok (.dup, 1) := of_0 ok_dup (by decide +kernel)
theorem dX9_opens_32 : decode cX9_opens 32 = .ok (.getfield 235, 3) := of_u2 ok_getfield 0 235 (by decide +kernel)
theorem dX9_opens_35 : decode cX9_opens 35 = .ok (.iconst 1, 1) := of_0 ok_iconst_1 (by decide +kernel)
theorem dX9_opens_36 : decode cX9_opens 36 = .ok (.iadd, 1) := of_0 ok_iadd (by decide +kernel)
theorem dX9_opens_37 : decode cX9_opens 37 = .ok (.putfield 235, 3) := of_u2 ok_putfield 0 235 (by decide +kernel)
theorem dX9_opens_40 : decode cX9_opens 40 = .ok (.aload_n 0, 1) := of_0 ok_aload_n_0 (by decide +kernel)
theorem dX9_opens_41 : decode cX9_opens 41 = .ok (.getfield 87, 3) := of_u2 ok_getfield 0 87 (by decide +kernel)
theorem dX9_opens_44 : decode cX9_opens 44 = .ok (.aload_n 0, 1) := of_0 ok_aload_n_0 (by decide +kernel)
theorem dX9_opens_45 : decode cX9_opens 45 = .ok (.getfield 232, 3) := of_u2 ok_getfield 0 232 (by decide +kernel)
theorem dX9_opens_48 : decode cX9_opens 48 = .ok (.iload_n 1, 1) := of_0 ok_iload_n_1 (by decide +kernel)
theorem dX9_opens_49 : decode cX9_opens 49 = .ok (.iastore, 1) := of_0 ok_iastore (by decide +kernel)
theorem dX9_opens_50 : decode cX9_opens 50 = .ok (.aload_n 0, 1) := of_0 ok_aload_n_0 (by decide +kernel)
theorem dX9_opens_51 : decode cX9_opens 51 = .ok (.dup, 1) := of_0 ok_dup (by decide +kernel)
theorem dX9_opens_52 : decode cX9_opens 52 = .ok (.getfield 232, 3) := of_u2 ok_getfield 0 232 (by decide +kernel)
theorem dX9_opens_55 : decode cX9_opens 55 = .ok (.iconst 1, 1) := of_0 ok_iconst_1 (by decide +kernel)
theorem dX9_opens_56 : decode cX9_opens 56 = .ok (.iadd, 1) := of_0 ok_iadd (by decide +kernel)
theorem dX9_opens_57 : decode cX9_opens 57 = .ok (.putfield 232, 3) := of_u2 ok_putfield 0 232 (by decide +kernel)
theorem dX9_opens_60 : decode cX9_opens 60 = .ok (.return_, 1) := of_0 ok_return_ (by decide +kernel)
theorem dX9_put_0 : decode cX9_put 0 = .ok (.bipush 24, 2) := of_s1 ok_bipush 24 (by decide +kernel)
theorem dX9_put_2 : decode cX9_put 2 = .ok (.istore_n 2, 1) := of_0 ok_istore_n_2 (by decide +kernel)
theorem dX9_put_3 : decode cX9_put 3 = .ok (.iload_n 2, 1) := of_0 ok_iload_n_2 (by decide +kernel)
theorem dX9_put_4 : decode cX9_put 4 = .ok (.ifCond .lt 32, 3) := of_s2 ok_ifCond_lt 0 32 (by decide +kernel)
theorem dX9_put_7 : decode cX9_put 7 = .ok (.aload_n 0, 1) := of_0 ok_aload_n_0 (by decide +kernel)
theorem dX9_put_8 : decode cX9_put 8 = .ok (.getfield 65, 3) := of_u2 ok_getfield 0 65 (by decide +kernel)
theorem dX9_put_11 : decode cX9_put 11 = .ok (.aload_n 0, 1) := of_0 ok_aload_n_0 (by decide +kernel)
theorem dX9_put_12 : decode cX9_put 12 = .ok (.getfield 135, 3) := of_u2 ok_getfield 0 135 (by decide +kernel)
theorem dX9_put_15 : decode cX9_put 15 = .ok (.iload_n 1, 1) := of_0 ok_iload_n_1 (by decide +kernel)
theorem dX9_put_16 : decode cX9_put 16 = .ok (.iload_n 2, 1) := of_0 ok_iload_n_2 (by decide +kernel)
theorem dX9_put_17 : decode cX9_put 17 = .ok (.ishr, 1) := of_0 ok_ishr (by decide +kernel)
theorem dX9_put_18 : decode cX9_put 18 = .ok (.i2b, 1) := of_0 ok_i2b (by decide +kernel)
theorem dX9_put_19 : decode cX9_put 19 = .ok (.bastore, 1) := of_0 ok_bastore (by decide +kernel)
theorem dX9_put_20 : decode cX9_put 20 = .ok (.aload_n 0, 1) := of_0 ok_aload_n_0 (by decide +kernel)
theorem dX9_put_21 : decode cX9_put 21 = .ok (.dup, 1) := of_0 ok_dup (by decide +kernel)
theorem dX9_put_22 : decode cX9_put 22 = .ok (.getfield 135, 3) := of_u2 ok_getfield 0 135 (by decide +kernel)
theorem dX9_put_25 : decode cX9_put 25 = .ok (.iconst 1, 1) := of_0 ok_iconst_1 (by decide +kernel)
theorem dX9_put_26 : decode cX9_put 26 = .ok (.iadd, 1) := of_0 ok_iadd (by decide +kernel)
theorem dX9_put_27 : decode cX9_put 27 = .ok (.putfield 135, 3) := of_u2 ok_putfield 0 135 (by decide +kernel)
theorem dX9_put_30 : decode cX9_put 30 = .ok (.iinc 2 (-8), 3) := of_ii ok_iinc 248 (by decide +kernel)
theorem dX9_put_33 : decode cX9_put 33 = .ok (.goto (-30), 3) := of_s2 ok_goto 255 226 (by decide +kernel)
theorem dX9_put_36 : decode cX9_put 36 = .ok (.return_, 1) := of_0 ok_return_ (by decide +kernel)
theorem dX9_sign_0 : decode cX9_sign 0 = .ok (.aload_n 0, 1) := of_0 ok_aload_n_0 (by decide +kernel)
theorem dX9_sign_1 : decode cX9_sign 1 = .ok (.getfield 164, 3) := of_u2 ok_getfield 0 164 (by decide +kernel)
theorem dX9_sign_4 : decode cX9_sign 4 = .ok (.aload_n 0, 1) := of_0 ok_aload_n_0 (by decide +kernel)
theorem dX9_sign_5 : decode cX9_sign 5 = .ok (.getfield 135, 3) := of_u2 ok_getfield 0 135 (by decide +kernel)
theorem dX9_sign_8 : decode cX9_sign 8 = .ok (.if_icmp .ge 19, 3) := of_s2 ok_if_icmp_ge 0 19 (by decide +kernel)
theorem dX9_sign_11 : decode cX9_sign 11 = .ok (.aload_n 0, 1) := of_0 ok_aload_n_0 (by decide +kernel)
theorem dX9_sign_12 : decode cX9_sign 12 = .ok (.getfield 65, 3) := of_u2 ok_getfield 0 65 (by decide +kernel)
theorem dX9_sign_15 : decode cX9_sign 15 = .ok (.aload_n 0, 1) := of_0 ok_aload_n_0 (by decide +kernel)
theorem dX9_sign_16 : decode cX9_sign 16 = .ok (.getfield 164, 3) := of_u2 ok_getfield 0 164 (by decide +kernel)
theorem dX9_sign_19 : decode cX9_sign 19 = .ok (.baload, 1) := of_0 ok_baload (by decide +kernel)
theorem dX9_sign_20 : decode cX9_sign 20 = .ok (.sipush 255, 3) := of_s2 ok_sipush 0 255 (by decide +kernel)
theorem dX9_sign_23 : decode cX9_sign 23 = .ok (.iand, 1) := of_0 ok_iand (by decide +kernel)
theorem dX9_sign_24 : decode cX9_sign 24 = .ok (.goto 4, 3) := of_s2 ok_goto 0 4 (by decide +kernel)
theorem dX9_sign_27 : decode cX9_sign 27 = .ok (.iconst (-1), 1) := of_0 ok_iconst_m1 (by decide +kernel)
theorem dX9_sign_28 : decode cX9_sign 28 = .ok (.ireturn, 1) := of_0 ok_ireturn (by decide +kernel)
theorem dX9_sitterPart_0 : decode cX9_sitterPart 0 = .ok (.aload_n 0, 1) := of_0 ok_aload_n_0 (by decide +kernel)
theorem dX9_sitterPart_1 : decode cX9_sitterPart 1 = .ok (.invokevirtual 184, 3) := of_u2 ok_invokevirtual 0 184 (by decide +kernel)
theorem dX9_sitterPart_4 : decode cX9_sitterPart 4 = .ok (.aload_n 0, 1) := of_0 ok_aload_n_0 (by decide +kernel)
theorem dX9_sitterPart_5 : decode cX9_sitterPart 5 = .ok (.getfield 164, 3) := of_u2 ok_getfield 0 164 (by decide +kernel)
theorem dX9_sitterPart_8 : decode cX9_sitterPart 8 = .ok (.istore_n 1, 1) := of_0 ok_istore_n_1 (by decide +kernel)
theorem dX9_sitterPart_9 : decode cX9_sitterPart 9 = .ok (.aload_n 0, 1) := of_0 ok_aload_n_0 (by decide +kernel)
theorem dX9_sitterPart_10 : decode cX9_sitterPart 10 = .ok (.iconst 0, 1) := of_0 ok_iconst_0 (by decide +kernel)
theorem dX9_sitterPart_11 : decode cX9_sitterPart 11 = .ok (.aload_n 0, 1) := of_0 ok_aload_n_0 (by decide +kernel)
theorem dX9_sitterPart_12 : decode cX9_sitterPart 12 = .ok (.getfield 43, 3) := of_u2 ok_getfield 0 43 (by decide +kernel)
theorem dX9_sitterPart_15 : decode cX9_sitterPart 15 = .ok (.iconst 2, 1) := of_0 ok_iconst_2 (by decide +kernel)
theorem dX9_sitterPart_16 : decode cX9_sitterPart 16 = .ok (.iaload, 1) := of_0 ok_iaload (by decide +kernel)
theorem dX9_sitterPart_17 : decode cX9_sitterPart 17 = .ok (.iconst 1, 1) := of_0 ok_iconst_1 (by decide +kernel)
theorem dX9_sitterPart_18 : decode cX9_sitterPart 18 = .ok (.isub, 1) := of_0 ok_isub (by decide +kernel)
theorem dX9_sitterPart_19 : decode cX9_sitterPart 19 = .ok (.invokevirtual 263, 3) := of_u2 ok_invokevirtual 1 7 (by decide +kernel)
theorem dX9_sitterPart_22 : decode cX9_sitterPart 22 = .ok (.istore_n 2, 1) := of_0 ok_istore_n_2 (by decide +kernel)
theorem dX9_sitterPart_23 : decode cX9_sitterPart 23 = .ok (.aload_n 0, 1) := of_0 ok_aload_n_0 (by decide +kernel)
theorem dX9_sitterPart_24 : decode cX9_sitterPart 24 = .ok (.getfield 43, 3) := of_u2 ok_getfield 0 43 (by decide +kernel)
theorem dX9_sitterPart_27 : decode cX9_sitterPart 27 = .ok (.iconst 3, 1) := of_0 ok_iconst_3 (by decide +kernel)
theorem dX9_sitterPart_28 : decode cX9_sitterPart 28 = .ok (.iaload, 1) := of_0 ok_iaload (by decide +kernel)
theorem dX9_sitterPart_29 : decode cX9_sitterPart 29 = .ok (.istore_n 3, 1) := of_0 ok_istore_n_3 (by decide +kernel)
theorem dX9_sitterPart_30 : decode cX9_sitterPart 30 = .ok (.iconst 0, 1) := of_0 ok_iconst_0 (by decide +kernel)
theorem dX9_sitterPart_31 : decode cX9_sitterPart 31 = .ok (.istore 4, 2) := of_u1 ok_istore (by decide +kernel)
theorem dX9_sitterPart_33 : decode cX9_sitterPart 33 = .ok (.iload 4, 2) := of_u1 ok_iload (by decide +kernel)
theorem dX9_sitterPart_35 : decode cX9_sitterPart 35 = .ok (.iload_n 3, 1) := of_0 ok_iload_n_3 (by decide +kernel)
theorem dX9_sitterPart_36 : decode cX9_sitterPart 36 = .ok (.if_icmp .ge 33, 3) := of_s2 ok_if_icmp_ge 0 33 (by decide +kernel)
theorem dX9_sitterPart_39 : decode cX9_sitterPart 39 = .ok (.aload_n 0, 1) := of_0 ok_aload_n_0 (by decide +kernel)
theorem dX9_sitterPart_40 : decode cX9_sitterPart 40 = .ok (.getfield 161, 3) := of_u2 ok_getfield 0 161 (by decide +kernel)
theorem dX9_sitterPart_43 : decode cX9_sitterPart 43 = .ok (.ifCond .ne 20, 3) := of_s2 ok_ifCond_ne 0 20 (by decide +kernel)
theorem dX9_sitterPart_46 : decode cX9_sitterPart 46 = .ok (.aload_n 0, 1) := of_0 ok_aload_n_0 (by decide +kernel)
theorem dX9_sitterPart_47 : decode cX9_sitterPart 47 = .ok (.getfield 55, 3) := of_u2 ok_getfield 0 55 (by decide +kernel)
theorem dX9_sitterPart_50 : decode cX9_sitterPart 50 = .ok (.iload 4, 2) := of_u1 ok_iload (by decide +kernel)
theorem dX9_sitterPart_52 : decode cX9_sitterPart 52 = .ok (.iaload, 1) := of_0 ok_iaload (by decide +kernel)
theorem dX9_sitterPart_53 : decode cX9_sitterPart 53 = .ok (.iload_n 2, 1) := of_0 ok_iload_n_2 (by decide +kernel)
theorem dX9_sitterPart_54 : decode cX9_sitterPart 54 = .ok (.if_icmp .ne 9, 3) := of_s2 ok_if_icmp_ne 0 9 (by decide +kernel)
theorem dX9_sitterPart_57 : decode cX9_sitterPart 57 = .ok (.aload_n 0, 1) := of_0 ok_aload_n_0 (by decide +kernel)
theorem dX9_sitterPart_58 : decode cX9_sitterPart 58 = .ok (.iconst 1, 1) := of_0 ok_iconst_1 (by decide +kernel)
theorem dX9_sitterPart_59 : decode cX9_sitterPart 59 = .ok (.iload_n 1, 1) := of_0 ok_iload_n_1 (by decide +kernel)
theorem dX9_sitterPart_60 : decode cX9_sitterPart 60 = .ok (.invokevirtual 200, 3) := of_u2 ok_invokevirtual 0 200 (by decide +kernel)
theorem dX9_sitterPart_63 : decode cX9_sitterPart 63 = .ok (.iinc 4 1, 3) := of_ii ok_iinc 1 (by decide +kernel)
theorem dX9_sitterPart_66 : decode cX9_sitterPart 66 = .ok (.goto (-33), 3) := of_s2 ok_goto 255 223 (by decide +kernel)
theorem dX9_sitterPart_69 : decode cX9_sitterPart 69 = .ok (.aload_n 0, 1) := of_0 ok_aload_n_0 (by decide +kernel)
theorem dX9_sitterPart_70 : decode cX9_sitterPart 70 = .ok (.iconst 1, 1) := of_0 ok_iconst_1 (by decide +kernel)
theorem dX9_sitterPart_71 : decode cX9_sitterPart 71 = .ok (.bipush 20, 2) := of_s1 ok_bipush 20 (by decide +kernel)
theorem dX9_sitterPart_73 : decode cX9_sitterPart 73 = .ok (.invokevirtual 263, 3) := of_u2 ok_invokevirtual 1 7 (by decide +kernel)
theorem dX9_sitterPart_76 : decode cX9_sitterPart 76 = .ok (.istore 4, 2) := of_u1 ok_istore (by decide +kernel)
theorem dX9_sitterPart_78 : decode cX9_sitterPart 78 = .ok (.aload_n 0, 1) := of_0 ok_aload_n_0 (by decide +kernel)
theorem dX9_sitterPart_79 : decode cX9_sitterPart 79 = .ok (.getfield 161, 3) := of_u2 ok_getfield 0 161 (by decide +kernel)
theorem dX9_sitterPart_82 : decode cX9_sitterPart 82 = .ok (.ifCond .ne 28, 3) := of_s2 ok_ifCond_ne 0 28 (by decide +kernel)
theorem dX9_sitterPart_85 : decode cX9_sitterPart 85 = .ok (.aload_n 0, 1) := of_0 ok_aload_n_0 (by decide +kernel)
theorem dX9_sitterPart_86 : decode cX9_sitterPart 86 = .ok (.getfield 55, 3) := of_u2 ok_getfield 0 55 (by decide +kernel)
theorem dX9_sitterPart_89 : decode cX9_sitterPart 89 = .ok (.iload_n 3, 1) := of_0 ok_iload_n_3 (by decide +kernel)
theorem dX9_sitterPart_90 : decode cX9_sitterPart 90 = .ok (.iload_n 2, 1) := of_0 ok_iload_n_2 (by decide +kernel)
theorem dX9_sitterPart_91 : decode cX9_sitterPart 91 = .ok (.iastore, 1) := of_0 ok_iastore (by decide +kernel)
theorem dX9_sitterPart_92 : decode cX9_sitterPart 92 = .ok (.aload_n 0, 1) := of_0 ok_aload_n_0 (by decide +kernel)
theorem dX9_sitterPart_93 : decode cX9_sitterPart 93 = .ok (.getfield 58, 3) := of_u2 ok_getfield 0 58 (by decide +kernel)
theorem dX9_sitterPart_96 : decode cX9_sitterPart 96 = .ok (.iload_n 3, 1) := of_0 ok_iload_n_3 (by decide +kernel)
theorem dX9_sitterPart_97 : decode cX9_sitterPart 97 = .ok (.iload 4, 2) := of_u1 ok_iload (by decide +kernel)
theorem dX9_sitterPart_99 : decode cX9_sitterPart 99 = .ok (.iastore, 1) := of_0 ok_iastore (by decide +kernel)
theorem dX9_sitterPart_100 : decode cX9_sitterPart 100 = .ok (.aload_n 0, 1) := of_0 ok_aload_n_0 (by decide +kernel)
theorem dX9_sitterPart_101 : decode cX9_sitterPart 101 = .ok (.getfield 43, 3) := of_u2 ok_getfield 0 43 (by decide +kernel)
theorem dX9_sitterPart_104 : decode cX9_sitterPart 104 = .ok (.iconst 3, 1) := of_0 ok_iconst_3 (by decide +kernel)
theorem dX9_sitterPart_105 : decode cX9_sitterPart 105 = .ok (.dup2, 1) := of_0 ok_dup2 (by decide +kernel)
theorem dX9_sitterPart_106 : decode cX9_sitterPart 106 = .ok (.iaload, 1) := of_0 ok_iaload (by decide +kernel)
theorem dX9_sitterPart_107 : decode cX9_sitterPart 107 = .ok (.iconst 1, 1) := of_0 ok_iconst_1 (by decide +kernel)
theorem dX9_sitterPart_108 : decode cX9_sitterPart 108 = .ok (.iadd, 1) := of_0 ok_iadd (by decide +kernel)
theorem dX9_sitterPart_109 : decode cX9_sitterPart 109 = .ok (.iastore, 1) := of_0 ok_iastore (by decide +kernel)
theorem dX9_sitterPart_110 : decode cX9_sitterPart 110 = .ok (.return_, 1) := of_0 ok_return_ (by decide +kernel)
theorem dX9_stood_0 : decode cX9_stood 0 = .ok (.aload_n 0, 1) := of_0 ok_aload_n_0 (by decide +kernel)
theorem dX9_stood_1 : decode cX9_stood 1 = .ok (.getfield 164, 3) := of_u2 ok_getfield 0 164 (by decide +kernel)
theorem dX9_stood_4 : decode cX9_stood 4 = .ok (.istore_n 2, 1) := of_0 ok_istore_n_2 (by decide +kernel)
theorem dX9_stood_5 : decode cX9_stood 5 = .ok (.iload_n 2, 1) := of_0 ok_iload_n_2 (by decide +kernel)
theorem dX9_stood_6 : decode cX9_stood 6 = .ok (.aload_n 0, 1) := of_0 ok_aload_n_0 (by decide +kernel)
theorem dX9_stood_7 : decode cX9_stood 7 = .ok (.getfield 135, 3) := of_u2 ok_getfield 0 135 (by decide +kernel)
theorem dX9_stood_10 : decode cX9_stood 10 = .ok (.if_icmp .ge 31, 3) := of_s2 ok_if_icmp_ge 0 31 (by decide +kernel)
theorem dX9_stood_13 : decode cX9_stood 13 = .ok (.aload_n 0, 1) := of_0 ok_aload_n_0 (by decide +kernel)
theorem dX9_stood_14 : decode cX9_stood 14 = .ok (.getfield 65, 3) := of_u2 ok_getfield 0 65 (by decide +kernel)
theorem dX9_stood_17 : decode cX9_stood 17 = .ok (.iload_n 2, 1) := of_0 ok_iload_n_2 (by decide +kernel)
theorem dX9_stood_18 : decode cX9_stood 18 = .ok (.baload, 1) := of_0 ok_baload (by decide +kernel)
theorem dX9_stood_19 : decode cX9_stood 19 = .ok (.bipush 97, 2) := of_s1 ok_bipush 97 (by decide +kernel)
theorem dX9_stood_21 : decode cX9_stood 21 = .ok (.if_icmp .lt 20, 3) := of_s2 ok_if_icmp_lt 0 20 (by decide +kernel)
theorem dX9_stood_24 : decode cX9_stood 24 = .ok (.aload_n 0, 1) := of_0 ok_aload_n_0 (by decide +kernel)
theorem dX9_stood_25 : decode cX9_stood 25 = .ok (.getfield 65, 3) := of_u2 ok_getfield 0 65 (by decide +kernel)
theorem dX9_stood_28 : decode cX9_stood 28 = .ok (.iload_n 2, 1) := of_0 ok_iload_n_2 (by decide +kernel)
theorem dX9_stood_29 : decode cX9_stood 29 = .ok (.baload, 1) := of_0 ok_baload (by decide +kernel)
theorem dX9_stood_30 : decode cX9_stood 30 = .ok (.bipush 122, 2) := of_s1 ok_bipush 122 (by decide +kernel)
theorem dX9_stood_32 : decode cX9_stood 32 = .ok (.if_icmp .gt 9, 3) := of_s2 ok_if_icmp_gt 0 9 (by decide +kernel)
theorem dX9_stood_35 : decode cX9_stood 35 = .ok (.iinc 2 1, 3) := of_ii ok_iinc 1 (by decide +kernel)
theorem dX9_stood_38 : decode cX9_stood 38 = .ok (.goto (-33), 3) := of_s2 ok_goto 255 223 (by decide +kernel)
theorem dX9_stood_41 : decode cX9_stood 41 = .ok (.iload_n 2, 1) := of_0 ok_iload_n_2 (by decide +kernel)
theorem dX9_stood_42 : decode cX9_stood 42 = .ok (.aload_n 0, 1) := of_0 ok_aload_n_0 (by decide +kernel)
theorem dX9_stood_43 : decode cX9_stood 43 = .ok (.getfield 164, 3) := of_u2 ok_getfield 0 164 (by decide +kernel)
theorem dX9_stood_46 : decode cX9_stood 46 = .ok (.isub, 1) := of_0 ok_isub (by decide +kernel)
theorem dX9_stood_47 : decode cX9_stood 47 = .ok (.aload_n 1, 1) := of_0 ok_aload_n_1 (by decide +kernel)
theorem dX9_stood_48 : decode cX9_stood 48 = .ok (.invokevirtual 175, 3) := of_u2 ok_invokevirtual 0 175 (by decide +kernel)
theorem dX9_stood_51 : decode cX9_stood 51 = .ok (.if_icmp .ne 7, 3) := of_s2 ok_if_icmp_ne 0 7 (by decide +kernel)
theorem dX9_stood_54 : decode cX9_stood 54 = .ok (.iconst 1, 1) := of_0 ok_iconst_1 (by decide +kernel)
theorem dX9_stood_55 : decode cX9_stood 55 = .ok (.goto 4, 3) := of_s2 ok_goto 0 4 (by decide +kernel)
theorem dX9_stood_58 : decode cX9_stood 58 = .ok (.iconst 0, 1) := of_0 ok_iconst_0 (by decide +kernel)
theorem dX9_stood_59 : decode cX9_stood 59 = .ok (.istore_n 3, 1) := of_0 ok_istore_n_3 (by decide +kernel)
theorem dX9_stood_60 : decode cX9_stood 60 = .ok (.iconst 0, 1) := of_0 ok_iconst_0 (by decide +kernel)
theorem dX9_stood_61 : decode cX9_stood 61 = .ok (.istore 4, 2) := of_u1 ok_istore (by decide +kernel)
theorem dX9_stood_63 : decode cX9_stood 63 = .ok (.iload 4, 2) := of_u1 ok_iload (by decide +kernel)
theorem dX9_stood_65 : decode cX9_stood 65 = .ok (.aload_n 1, 1) := of_0 ok_aload_n_1 (by decide +kernel)
theorem dX9_stood_66 : decode cX9_stood 66 = .ok (.invokevirtual 175, 3) := of_u2 ok_invokevirtual 0 175 (by decide +kernel)
theorem dX9_stood_69 : decode cX9_stood 69 = .ok (.if_icmp .ge 40, 3) := of_s2 ok_if_icmp_ge 0 40 (by decide +kernel)
theorem dX9_stood_72 : decode cX9_stood 72 = .ok (.iload_n 3, 1) := of_0 ok_iload_n_3 (by decide +kernel)
theorem dX9_stood_73 : decode cX9_stood 73 = .ok (.ifCond .eq 36, 3) := of_s2 ok_ifCond_eq 0 36 (by decide +kernel)
theorem dX9_stood_76 : decode cX9_stood 76 = .ok (.aload_n 0, 1) := of_0 ok_aload_n_0 (by decide +kernel)
theorem dX9_stood_77 : decode cX9_stood 77 = .ok (.getfield 65, 3) := of_u2 ok_getfield 0 65 (by decide +kernel)
theorem dX9_stood_80 : decode cX9_stood 80 = .ok (.aload_n 0, 1) := of_0 ok_aload_n_0 (by decide +kernel)
theorem dX9_stood_81 : decode cX9_stood 81 = .ok (.getfield 164, 3) := of_u2 ok_getfield 0 164 (by decide +kernel)
theorem dX9_stood_84 : decode cX9_stood 84 = .ok (.iload 4, 2) := of_u1 ok_iload (by decide +kernel)
theorem dX9_stood_86 : decode cX9_stood 86 = .ok (.iadd, 1) := of_0 ok_iadd (by decide +kernel)
theorem dX9_stood_87 : decode cX9_stood 87 = .ok (.baload, 1) := of_0 ok_baload (by decide +kernel)
theorem dX9_stood_88 : decode cX9_stood 88 = .ok (.aload_n 1, 1) := of_0 ok_aload_n_1 (by decide +kernel)
theorem dX9_stood_89 : decode cX9_stood 89 = .ok (.iload 4, 2) := of_u1 ok_iload (by decide +kernel)
theorem dX9_stood_91 : decode cX9_stood 91 = .ok (.invokevirtual 180, 3) := of_u2 ok_invokevirtual 0 180 (by decide +kernel)
theorem dX9_stood_94 : decode cX9_stood 94 = .ok (.if_icmp .ne 7, 3) := of_s2 ok_if_icmp_ne 0 7 (by decide +kernel)
theorem dX9_stood_97 : decode cX9_stood 97 = .ok (.iconst 1, 1) := of_0 ok_iconst_1 (by decide +kernel)
theorem dX9_stood_98 : decode cX9_stood 98 = .ok (.goto 4, 3) := of_s2 ok_goto 0 4 (by decide +kernel)
theorem dX9_stood_101 : decode cX9_stood 101 = .ok (.iconst 0, 1) := of_0 ok_iconst_0 (by decide +kernel)
theorem dX9_stood_102 : decode cX9_stood 102 = .ok (.istore_n 3, 1) := of_0 ok_istore_n_3 (by decide +kernel)
theorem dX9_stood_103 : decode cX9_stood 103 = .ok (.iinc 4 1, 3) := of_ii ok_iinc 1 (by decide +kernel)
theorem dX9_stood_106 : decode cX9_stood 106 = .ok (.goto (-43), 3) := of_s2 ok_goto 255 213 (by decide +kernel)
theorem dX9_stood_109 : decode cX9_stood 109 = .ok (.iload_n 3, 1) := of_0 ok_iload_n_3 (by decide +kernel)
theorem dX9_stood_110 : decode cX9_stood 110 = .ok (.ireturn, 1) := of_0 ok_ireturn (by decide +kernel)
theorem dX9_sum_0 : decode cX9_sum 0 = .ok (.aload_n 0, 1) := of_0 ok_aload_n_0 (by decide +kernel)
theorem dX9_sum_1 : decode cX9_sum 1 = .ok (.invokevirtual 226, 3) := of_u2 ok_invokevirtual 0 226 (by decide +kernel)
theorem dX9_sum_4 : decode cX9_sum 4 = .ok (.aload_n 0, 1) := of_0 ok_aload_n_0 (by decide +kernel)
theorem dX9_sum_5 : decode cX9_sum 5 = .ok (.getfield 161, 3) := of_u2 ok_getfield 0 161 (by decide +kernel)
theorem dX9_sum_8 : decode cX9_sum 8 = .ok (.ifCond .ne 59, 3) := of_s2 ok_ifCond_ne 0 59 (by decide +kernel)
theorem dX9_sum_11 : decode cX9_sum 11 = .ok (.aload_n 0, 1) := of_0 ok_aload_n_0 (by decide +kernel)
theorem dX9_sum_12 : decode cX9_sum 12 = .ok (.invokevirtual 167, 3) := of_u2 ok_invokevirtual 0 167 (by decide +kernel)
theorem dX9_sum_15 : decode cX9_sum 15 = .ok (.bipush 43, 2) := of_s1 ok_bipush 43 (by decide +kernel)
theorem dX9_sum_17 : decode cX9_sum 17 = .ok (.if_icmp .eq 12, 3) := of_s2 ok_if_icmp_eq 0 12 (by decide +kernel)
theorem dX9_sum_20 : decode cX9_sum 20 = .ok (.aload_n 0, 1) := of_0 ok_aload_n_0 (by decide +kernel)
theorem dX9_sum_21 : decode cX9_sum 21 = .ok (.invokevirtual 167, 3) := of_u2 ok_invokevirtual 0 167 (by decide +kernel)
theorem dX9_sum_24 : decode cX9_sum 24 = .ok (.bipush 45, 2) := of_s1 ok_bipush 45 (by decide +kernel)
theorem dX9_sum_26 : decode cX9_sum 26 = .ok (.if_icmp .ne 41, 3) := of_s2 ok_if_icmp_ne 0 41 (by decide +kernel)
theorem dX9_sum_29 : decode cX9_sum 29 = .ok (.aload_n 0, 1) := of_0 ok_aload_n_0 (by decide +kernel)
theorem dX9_sum_30 : decode cX9_sum 30 = .ok (.invokevirtual 167, 3) := of_u2 ok_invokevirtual 0 167 (by decide +kernel)
theorem dX9_sum_33 : decode cX9_sum 33 = .ok (.bipush 43, 2) := of_s1 ok_bipush 43 (by decide +kernel)
theorem dX9_sum_35 : decode cX9_sum 35 = .ok (.if_icmp .ne 7, 3) := of_s2 ok_if_icmp_ne 0 7 (by decide +kernel)
theorem dX9_sum_38 : decode cX9_sum 38 = .ok (.iconst 2, 1) := of_0 ok_iconst_2 (by decide +kernel)
theorem dX9_sum_39 : decode cX9_sum 39 = .ok (.goto 4, 3) := of_s2 ok_goto 0 4 (by decide +kernel)
theorem dX9_sum_42 : decode cX9_sum 42 = .ok (.iconst 3, 1) := of_0 ok_iconst_3 (by decide +kernel)
theorem dX9_sum_43 : decode cX9_sum 43 = .ok (.istore_n 1, 1) := of_0 ok_istore_n_1 (by decide +kernel)
theorem dX9_sum_44 : decode cX9_sum 44 = .ok (.aload_n 0, 1) := of_0 ok_aload_n_0 (by decide +kernel)
theorem dX9_sum_45 : decode cX9_sum 45 = .ok (.dup, 1) := of_0 ok_dup (by decide +kernel)
theorem dX9_sum_46 : decode cX9_sum 46 = .ok (.getfield 164, 3) := of_u2 ok_getfield 0 164 (by decide +kernel)
theorem dX9_sum_49 : decode cX9_sum 49 = .ok (.iconst 1, 1) := of_0 ok_iconst_1 (by decide +kernel)
theorem dX9_sum_50 : decode cX9_sum 50 = .ok (.iadd, 1) := of_0 ok_iadd (by decide +kernel)
theorem dX9_sum_51 : decode cX9_sum 51 = .ok (.putfield 164, 3) := of_u2 ok_putfield 0 164 (by decide +kernel)
theorem dX9_sum_54 : decode cX9_sum 54 = .ok (.aload_n 0, 1) := of_0 ok_aload_n_0 (by decide +kernel)
theorem dX9_sum_55 : decode cX9_sum 55 = .ok (.invokevirtual 226, 3) := of_u2 ok_invokevirtual 0 226 (by decide +kernel)
theorem dX9_sum_58 : decode cX9_sum 58 = .ok (.aload_n 0, 1) := of_0 ok_aload_n_0 (by decide +kernel)
theorem dX9_sum_59 : decode cX9_sum 59 = .ok (.iload_n 1, 1) := of_0 ok_iload_n_1 (by decide +kernel)
theorem dX9_sum_60 : decode cX9_sum 60 = .ok (.iconst 0, 1) := of_0 ok_iconst_0 (by decide +kernel)
theorem dX9_sum_61 : decode cX9_sum 61 = .ok (.invokevirtual 216, 3) := of_u2 ok_invokevirtual 0 216 (by decide +kernel)
theorem dX9_sum_64 : decode cX9_sum 64 = .ok (.goto (-60), 3) := of_s2 ok_goto 255 196 (by decide +kernel)
theorem dX9_sum_67 : decode cX9_sum 67 = .ok (.return_, 1) := of_0 ok_return_ (by decide +kernel)
theorem dX9_takes_0 : decode cX9_takes 0 = .ok (.aload_n 0, 1) := of_0 ok_aload_n_0 (by decide +kernel)
theorem dX9_takes_1 : decode cX9_takes 1 = .ok (.invokevirtual 184, 3) := of_u2 ok_invokevirtual 0 184 (by decide +kernel)
theorem dX9_takes_4 : decode cX9_takes 4 = .ok (.aload_n 0, 1) := of_0 ok_aload_n_0 (by decide +kernel)
theorem dX9_takes_5 : decode cX9_takes 5 = .ok (.aload_n 1, 1) := of_0 ok_aload_n_1 (by decide +kernel)
theorem dX9_takes_6 : decode cX9_takes 6 = .ok (.invokevirtual 187, 3) := of_u2 ok_invokevirtual 0 187 (by decide +kernel)
theorem dX9_takes_9 : decode cX9_takes 9 = .ok (.istore_n 2, 1) := of_0 ok_istore_n_2 (by decide +kernel)
theorem dX9_takes_10 : decode cX9_takes 10 = .ok (.aload_n 0, 1) := of_0 ok_aload_n_0 (by decide +kernel)
theorem dX9_takes_11 : decode cX9_takes 11 = .ok (.dup, 1) := of_0 ok_dup (by decide +kernel)
theorem dX9_takes_12 : decode cX9_takes 12 = .ok (.getfield 164, 3) := of_u2 ok_getfield 0 164 (by decide +kernel)
theorem dX9_takes_15 : decode cX9_takes 15 = .ok (.iload_n 2, 1) := of_0 ok_iload_n_2 (by decide +kernel)
theorem dX9_takes_16 : decode cX9_takes 16 = .ok (.ifCond .eq 10, 3) := of_s2 ok_ifCond_eq 0 10 (by decide +kernel)
theorem dX9_takes_19 : decode cX9_takes 19 = .ok (.aload_n 1, 1) := of_0 ok_aload_n_1 (by decide +kernel)
theorem dX9_takes_20 : decode cX9_takes 20 = .ok (.invokevirtual 175, 3) := of_u2 ok_invokevirtual 0 175 (by decide +kernel)
theorem dX9_takes_23 : decode cX9_takes 23 = .ok (.goto 4, 3) := of_s2 ok_goto 0 4 (by decide +kernel)
theorem dX9_takes_26 : decode cX9_takes 26 = .ok (.iconst 0, 1) := of_0 ok_iconst_0 (by decide +kernel)
theorem dX9_takes_27 : decode cX9_takes 27 = .ok (.iadd, 1) := of_0 ok_iadd (by decide +kernel)
theorem dX9_takes_28 : decode cX9_takes 28 = .ok (.putfield 164, 3) := of_u2 ok_putfield 0 164 (by decide +kernel)
theorem dX9_takes_31 : decode cX9_takes 31 = .ok (.iload_n 2, 1) := of_0 ok_iload_n_2 (by decide +kernel)
theorem dX9_takes_32 : decode cX9_takes 32 = .ok (.ireturn, 1) := of_0 ok_ireturn (by decide +kernel)
theorem dX9_term_0 : decode cX9_term 0 = .ok (.aload_n 0, 1) := of_0 ok_aload_n_0 (by decide +kernel)
theorem dX9_term_1 : decode cX9_term 1 = .ok (.invokevirtual 223, 3) := of_u2 ok_invokevirtual 0 223 (by decide +kernel)
theorem dX9_term_4 : decode cX9_term 4 = .ok (.aload_n 0, 1) := of_0 ok_aload_n_0 (by decide +kernel)
theorem dX9_term_5 : decode cX9_term 5 = .ok (.invokevirtual 184, 3) := of_u2 ok_invokevirtual 0 184 (by decide +kernel)
theorem dX9_term_8 : decode cX9_term 8 = .ok (.aload_n 0, 1) := of_0 ok_aload_n_0 (by decide +kernel)
theorem dX9_term_9 : decode cX9_term 9 = .ok (.getfield 161, 3) := of_u2 ok_getfield 0 161 (by decide +kernel)
theorem dX9_term_12 : decode cX9_term 12 = .ok (.ifCond .ne 88, 3) := of_s2 ok_ifCond_ne 0 88 (by decide +kernel)
theorem dX9_term_15 : decode cX9_term 15 = .ok (.aload_n 0, 1) := of_0 ok_aload_n_0 (by decide +kernel)
theorem dX9_term_16 : decode cX9_term 16 = .ok (.invokevirtual 167, 3) := of_u2 ok_invokevirtual 0 167 (by decide +kernel)
theorem dX9_term_19 : decode cX9_term 19 = .ok (.bipush 42, 2) := of_s1 ok_bipush 42 (by decide +kernel)
theorem dX9_term_21 : decode cX9_term 21 = .ok (.if_icmp .eq 21, 3) := of_s2 ok_if_icmp_eq 0 21 (by decide +kernel)
theorem dX9_term_24 : decode cX9_term 24 = .ok (.aload_n 0, 1) := of_0 ok_aload_n_0 (by decide +kernel)
theorem dX9_term_25 : decode cX9_term 25 = .ok (.invokevirtual 167, 3) := of_u2 ok_invokevirtual 0 167 (by decide +kernel)
theorem dX9_term_28 : decode cX9_term 28 = .ok (.bipush 47, 2) := of_s1 ok_bipush 47 (by decide +kernel)
theorem dX9_term_30 : decode cX9_term 30 = .ok (.if_icmp .eq 12, 3) := of_s2 ok_if_icmp_eq 0 12 (by decide +kernel)
theorem dX9_term_33 : decode cX9_term 33 = .ok (.aload_n 0, 1) := of_0 ok_aload_n_0 (by decide +kernel)
theorem dX9_term_34 : decode cX9_term 34 = .ok (.invokevirtual 167, 3) := of_u2 ok_invokevirtual 0 167 (by decide +kernel)
theorem dX9_term_37 : decode cX9_term 37 = .ok (.bipush 37, 2) := of_s1 ok_bipush 37 (by decide +kernel)
theorem dX9_term_39 : decode cX9_term 39 = .ok (.if_icmp .ne 61, 3) := of_s2 ok_if_icmp_ne 0 61 (by decide +kernel)
theorem dX9_term_42 : decode cX9_term 42 = .ok (.aload_n 0, 1) := of_0 ok_aload_n_0 (by decide +kernel)
theorem dX9_term_43 : decode cX9_term 43 = .ok (.invokevirtual 167, 3) := of_u2 ok_invokevirtual 0 167 (by decide +kernel)
theorem dX9_term_46 : decode cX9_term 46 = .ok (.bipush 42, 2) := of_s1 ok_bipush 42 (by decide +kernel)
theorem dX9_term_48 : decode cX9_term 48 = .ok (.if_icmp .ne 8, 3) := of_s2 ok_if_icmp_ne 0 8 (by decide +kernel)
theorem dX9_term_51 : decode cX9_term 51 = .ok (.bipush 13, 2) := of_s1 ok_bipush 13 (by decide +kernel)
theorem dX9_term_53 : decode cX9_term 53 = .ok (.goto 19, 3) := of_s2 ok_goto 0 19 (by decide +kernel)
theorem dX9_term_56 : decode cX9_term 56 = .ok (.aload_n 0, 1) := of_0 ok_aload_n_0 (by decide +kernel)
theorem dX9_term_57 : decode cX9_term 57 = .ok (.invokevirtual 167, 3) := of_u2 ok_invokevirtual 0 167 (by decide +kernel)
theorem dX9_term_60 : decode cX9_term 60 = .ok (.bipush 47, 2) := of_s1 ok_bipush 47 (by decide +kernel)
theorem dX9_term_62 : decode cX9_term 62 = .ok (.if_icmp .ne 8, 3) := of_s2 ok_if_icmp_ne 0 8 (by decide +kernel)
theorem dX9_term_65 : decode cX9_term 65 = .ok (.bipush 14, 2) := of_s1 ok_bipush 14 (by decide +kernel)
theorem dX9_term_67 : decode cX9_term 67 = .ok (.goto 5, 3) := of_s2 ok_goto 0 5 (by decide +kernel)
theorem dX9_term_70 : decode cX9_term 70 = .ok (.bipush 15, 2) := of_s1 ok_bipush 15 (by decide +kernel)
theorem dX9_term_72 : decode cX9_term 72 = .ok (.istore_n 1, 1) := of_0 ok_istore_n_1 (by decide +kernel)
theorem dX9_term_73 : decode cX9_term 73 = .ok (.aload_n 0, 1) := of_0 ok_aload_n_0 (by decide +kernel)
theorem dX9_term_74 : decode cX9_term 74 = .ok (.dup, 1) := of_0 ok_dup (by decide +kernel)
theorem dX9_term_75 : decode cX9_term 75 = .ok (.getfield 164, 3) := of_u2 ok_getfield 0 164 (by decide +kernel)
theorem dX9_term_78 : decode cX9_term 78 = .ok (.iconst 1, 1) := of_0 ok_iconst_1 (by decide +kernel)
theorem dX9_term_79 : decode cX9_term 79 = .ok (.iadd, 1) := of_0 ok_iadd (by decide +kernel)
theorem dX9_term_80 : decode cX9_term 80 = .ok (.putfield 164, 3) := of_u2 ok_putfield 0 164 (by decide +kernel)
theorem dX9_term_83 : decode cX9_term 83 = .ok (.aload_n 0, 1) := of_0 ok_aload_n_0 (by decide +kernel)
theorem dX9_term_84 : decode cX9_term 84 = .ok (.invokevirtual 223, 3) := of_u2 ok_invokevirtual 0 223 (by decide +kernel)
theorem dX9_term_87 : decode cX9_term 87 = .ok (.aload_n 0, 1) := of_0 ok_aload_n_0 (by decide +kernel)
theorem dX9_term_88 : decode cX9_term 88 = .ok (.iload_n 1, 1) := of_0 ok_iload_n_1 (by decide +kernel)
theorem dX9_term_89 : decode cX9_term 89 = .ok (.iconst 0, 1) := of_0 ok_iconst_0 (by decide +kernel)
theorem dX9_term_90 : decode cX9_term 90 = .ok (.invokevirtual 216, 3) := of_u2 ok_invokevirtual 0 216 (by decide +kernel)
theorem dX9_term_93 : decode cX9_term 93 = .ok (.aload_n 0, 1) := of_0 ok_aload_n_0 (by decide +kernel)
theorem dX9_term_94 : decode cX9_term 94 = .ok (.invokevirtual 184, 3) := of_u2 ok_invokevirtual 0 184 (by decide +kernel)
theorem dX9_term_97 : decode cX9_term 97 = .ok (.goto (-89), 3) := of_s2 ok_goto 255 167 (by decide +kernel)
theorem dX9_term_100 : decode cX9_term 100 = .ok (.return_, 1) := of_0 ok_return_ (by decide +kernel)
theorem dX9_test_0 : decode cX9_test 0 = .ok (.aload_n 0, 1) := of_0 ok_aload_n_0 (by decide +kernel)
theorem dX9_test_1 : decode cX9_test 1 = .ok (.iconst 0, 1) := of_0 ok_iconst_0 (by decide +kernel)
theorem dX9_test_2 : decode cX9_test 2 = .ok (.putfield 232, 3) := of_u2 ok_putfield 0 232 (by decide +kernel)
theorem dX9_test_5 : decode cX9_test 5 = .ok (.iconst 1, 1) := of_0 ok_iconst_1 (by decide +kernel)
theorem dX9_test_6 : decode cX9_test 6 = .ok (.istore_n 1, 1) := of_0 ok_istore_n_1 (by decide +kernel)
theorem dX9_test_7 : decode cX9_test 7 = .ok (.iconst 1, 1) := of_0 ok_iconst_1 (by decide +kernel)
theorem dX9_test_8 : decode cX9_test 8 = .ok (.istore_n 2, 1) := of_0 ok_istore_n_2 (by decide +kernel)
theorem dX9_test_9 : decode cX9_test 9 = .ok (.iload_n 2, 1) := of_0 ok_iload_n_2 (by decide +kernel)
theorem dX9_test_10 : decode cX9_test 10 = .ok (.ifCond .eq 191, 3) := of_s2 ok_ifCond_eq 0 191 (by decide +kernel)
theorem dX9_test_13 : decode cX9_test 13 = .ok (.aload_n 0, 1) := of_0 ok_aload_n_0 (by decide +kernel)
theorem dX9_test_14 : decode cX9_test 14 = .ok (.getfield 161, 3) := of_u2 ok_getfield 0 161 (by decide +kernel)
theorem dX9_test_17 : decode cX9_test 17 = .ok (.ifCond .ne 184, 3) := of_s2 ok_ifCond_ne 0 184 (by decide +kernel)
theorem dX9_test_20 : decode cX9_test 20 = .ok (.iload_n 1, 1) := of_0 ok_iload_n_1 (by decide +kernel)
theorem dX9_test_21 : decode cX9_test 21 = .ok (.ifCond .eq 19, 3) := of_s2 ok_ifCond_eq 0 19 (by decide +kernel)
theorem dX9_test_24 : decode cX9_test 24 = .ok (.aload_n 0, 1) := of_0 ok_aload_n_0 (by decide +kernel)
theorem dX9_test_25 : decode cX9_test 25 = .ok (.invokevirtual 249, 3) := of_u2 ok_invokevirtual 0 249 (by decide +kernel)
theorem dX9_test_28 : decode cX9_test 28 = .ok (.ifCond .ne 7, 3) := of_s2 ok_ifCond_ne 0 7 (by decide +kernel)
theorem dX9_test_31 : decode cX9_test 31 = .ok (.iconst 1, 1) := of_0 ok_iconst_1 (by decide +kernel)
theorem dX9_test_32 : decode cX9_test 32 = .ok (.goto 4, 3) := of_s2 ok_goto 0 4 (by decide +kernel)
theorem dX9_test_35 : decode cX9_test 35 = .ok (.iconst 0, 1) := of_0 ok_iconst_0 (by decide +kernel)
theorem dX9_test_36 : decode cX9_test 36 = .ok (.istore_n 1, 1) := of_0 ok_istore_n_1 (by decide +kernel)
theorem dX9_test_37 : decode cX9_test 37 = .ok (.goto (-28), 3) := of_s2 ok_goto 255 228 (by decide +kernel)
theorem dX9_test_40 : decode cX9_test 40 = .ok (.aload_n 0, 1) := of_0 ok_aload_n_0 (by decide +kernel)
theorem dX9_test_41 : decode cX9_test 41 = .ok (.bipush 9, 2) := of_s1 ok_bipush 9 (by decide +kernel)
theorem dX9_test_43 : decode cX9_test 43 = .ok (.invokevirtual 252, 3) := of_u2 ok_invokevirtual 0 252 (by decide +kernel)
theorem dX9_test_46 : decode cX9_test 46 = .ok (.aload_n 0, 1) := of_0 ok_aload_n_0 (by decide +kernel)
theorem dX9_test_47 : decode cX9_test 47 = .ok (.invokevirtual 184, 3) := of_u2 ok_invokevirtual 0 184 (by decide +kernel)
theorem dX9_test_50 : decode cX9_test 50 = .ok (.aload_n 0, 1) := of_0 ok_aload_n_0 (by decide +kernel)
theorem dX9_test_51 : decode cX9_test 51 = .ok (.ldc 255, 2) := of_u1 ok_ldc (by decide +kernel)
theorem dX9_test_53 : decode cX9_test 53 = .ok (.invokevirtual 187, 3) := of_u2 ok_invokevirtual 0 187 (by decide +kernel)
theorem dX9_test_56 : decode cX9_test 56 = .ok (.istore_n 3, 1) := of_0 ok_istore_n_3 (by decide +kernel)
theorem dX9_test_57 : decode cX9_test 57 = .ok (.aload_n 0, 1) := of_0 ok_aload_n_0 (by decide +kernel)
theorem dX9_test_58 : decode cX9_test 58 = .ok (.ldc_w 257, 3) := of_u2 ok_ldc_w 1 1 (by decide +kernel)
theorem dX9_test_61 : decode cX9_test 61 = .ok (.invokevirtual 187, 3) := of_u2 ok_invokevirtual 0 187 (by decide +kernel)
theorem dX9_test_64 : decode cX9_test 64 = .ok (.istore 4, 2) := of_u1 ok_istore (by decide +kernel)
theorem dX9_test_66 : decode cX9_test 66 = .ok (.aload_n 0, 1) := of_0 ok_aload_n_0 (by decide +kernel)
theorem dX9_test_67 : decode cX9_test 67 = .ok (.bipush 10, 2) := of_s1 ok_bipush 10 (by decide +kernel)
theorem dX9_test_69 : decode cX9_test 69 = .ok (.invokevirtual 252, 3) := of_u2 ok_invokevirtual 0 252 (by decide +kernel)
theorem dX9_test_72 : decode cX9_test 72 = .ok (.iload_n 3, 1) := of_0 ok_iload_n_3 (by decide +kernel)
theorem dX9_test_73 : decode cX9_test 73 = .ok (.ifCond .ne 8, 3) := of_s2 ok_ifCond_ne 0 8 (by decide +kernel)
theorem dX9_test_76 : decode cX9_test 76 = .ok (.iload 4, 2) := of_u1 ok_iload (by decide +kernel)
theorem dX9_test_78 : decode cX9_test 78 = .ok (.ifCond .eq 52, 3) := of_s2 ok_ifCond_eq 0 52 (by decide +kernel)
theorem dX9_test_81 : decode cX9_test 81 = .ok (.iload 4, 2) := of_u1 ok_iload (by decide +kernel)
theorem dX9_test_83 : decode cX9_test 83 = .ok (.ifCond .eq 9, 3) := of_s2 ok_ifCond_eq 0 9 (by decide +kernel)
theorem dX9_test_86 : decode cX9_test 86 = .ok (.aload_n 0, 1) := of_0 ok_aload_n_0 (by decide +kernel)
theorem dX9_test_87 : decode cX9_test 87 = .ok (.bipush 11, 2) := of_s1 ok_bipush 11 (by decide +kernel)
theorem dX9_test_89 : decode cX9_test 89 = .ok (.invokevirtual 252, 3) := of_u2 ok_invokevirtual 0 252 (by decide +kernel)
theorem dX9_test_92 : decode cX9_test 92 = .ok (.aload_n 0, 1) := of_0 ok_aload_n_0 (by decide +kernel)
theorem dX9_test_93 : decode cX9_test 93 = .ok (.iload_n 3, 1) := of_0 ok_iload_n_3 (by decide +kernel)
theorem dX9_test_94 : decode cX9_test 94 = .ok (.ifCond .eq 8, 3) := of_s2 ok_ifCond_eq 0 8 (by decide +kernel)
theorem dX9_test_97 : decode cX9_test 97 = .ok (.bipush 10, 2) := of_s1 ok_bipush 10 (by decide +kernel)
theorem dX9_test_99 : decode cX9_test 99 = .ok (.goto 5, 3) := of_s2 ok_goto 0 5 (by decide +kernel)
theorem dX9_test_102 : decode cX9_test 102 = .ok (.bipush 11, 2) := of_s1 ok_bipush 11 (by decide +kernel)
theorem dX9_test_104 : decode cX9_test 104 = .ok (.invokevirtual 243, 3) := of_u2 ok_invokevirtual 0 243 (by decide +kernel)
theorem dX9_test_107 : decode cX9_test 107 = .ok (.aload_n 0, 1) := of_0 ok_aload_n_0 (by decide +kernel)
theorem dX9_test_108 : decode cX9_test 108 = .ok (.dup, 1) := of_0 ok_dup (by decide +kernel)
theorem dX9_test_109 : decode cX9_test 109 = .ok (.getfield 164, 3) := of_u2 ok_getfield 0 164 (by decide +kernel)
theorem dX9_test_112 : decode cX9_test 112 = .ok (.iload_n 3, 1) := of_0 ok_iload_n_3 (by decide +kernel)
theorem dX9_test_113 : decode cX9_test 113 = .ok (.ifCond .eq 7, 3) := of_s2 ok_ifCond_eq 0 7 (by decide +kernel)
theorem dX9_test_116 : decode cX9_test 116 = .ok (.iconst 3, 1) := of_0 ok_iconst_3 (by decide +kernel)
theorem dX9_test_117 : decode cX9_test 117 = .ok (.goto 4, 3) := of_s2 ok_goto 0 4 (by decide +kernel)
theorem dX9_test_120 : decode cX9_test 120 = .ok (.iconst 2, 1) := of_0 ok_iconst_2 (by decide +kernel)
theorem dX9_test_121 : decode cX9_test 121 = .ok (.iadd, 1) := of_0 ok_iadd (by decide +kernel)
theorem dX9_test_122 : decode cX9_test 122 = .ok (.putfield 164, 3) := of_u2 ok_putfield 0 164 (by decide +kernel)
theorem dX9_test_125 : decode cX9_test 125 = .ok (.iconst 1, 1) := of_0 ok_iconst_1 (by decide +kernel)
theorem dX9_test_126 : decode cX9_test 126 = .ok (.istore_n 1, 1) := of_0 ok_istore_n_1 (by decide +kernel)
theorem dX9_test_127 : decode cX9_test 127 = .ok (.goto 71, 3) := of_s2 ok_goto 0 71 (by decide +kernel)
theorem dX9_test_130 : decode cX9_test 130 = .ok (.aload_n 0, 1) := of_0 ok_aload_n_0 (by decide +kernel)
theorem dX9_test_131 : decode cX9_test 131 = .ok (.bipush 11, 2) := of_s1 ok_bipush 11 (by decide +kernel)
theorem dX9_test_133 : decode cX9_test 133 = .ok (.invokevirtual 252, 3) := of_u2 ok_invokevirtual 0 252 (by decide +kernel)
theorem dX9_test_136 : decode cX9_test 136 = .ok (.aload_n 0, 1) := of_0 ok_aload_n_0 (by decide +kernel)
theorem dX9_test_137 : decode cX9_test 137 = .ok (.invokevirtual 238, 3) := of_u2 ok_invokevirtual 0 238 (by decide +kernel)
theorem dX9_test_140 : decode cX9_test 140 = .ok (.bipush 12, 2) := of_s1 ok_bipush 12 (by decide +kernel)
theorem dX9_test_142 : decode cX9_test 142 = .ok (.if_icmp .ne 54, 3) := of_s2 ok_if_icmp_ne 0 54 (by decide +kernel)
theorem dX9_test_145 : decode cX9_test 145 = .ok (.aload_n 0, 1) := of_0 ok_aload_n_0 (by decide +kernel)
theorem dX9_test_146 : decode cX9_test 146 = .ok (.invokevirtual 167, 3) := of_u2 ok_invokevirtual 0 167 (by decide +kernel)
theorem dX9_test_149 : decode cX9_test 149 = .ok (.bipush 93, 2) := of_s1 ok_bipush 93 (by decide +kernel)
theorem dX9_test_151 : decode cX9_test 151 = .ok (.if_icmp .eq 12, 3) := of_s2 ok_if_icmp_eq 0 12 (by decide +kernel)
theorem dX9_test_154 : decode cX9_test 154 = .ok (.aload_n 0, 1) := of_0 ok_aload_n_0 (by decide +kernel)
theorem dX9_test_155 : decode cX9_test 155 = .ok (.iconst 0, 1) := of_0 ok_iconst_0 (by decide +kernel)
theorem dX9_test_156 : decode cX9_test 156 = .ok (.aload_n 0, 1) := of_0 ok_aload_n_0 (by decide +kernel)
theorem dX9_test_157 : decode cX9_test 157 = .ok (.getfield 164, 3) := of_u2 ok_getfield 0 164 (by decide +kernel)
theorem dX9_test_160 : decode cX9_test 160 = .ok (.invokevirtual 200, 3) := of_u2 ok_invokevirtual 0 200 (by decide +kernel)
theorem dX9_test_163 : decode cX9_test 163 = .ok (.aload_n 0, 1) := of_0 ok_aload_n_0 (by decide +kernel)
theorem dX9_test_164 : decode cX9_test 164 = .ok (.dup, 1) := of_0 ok_dup (by decide +kernel)
theorem dX9_test_165 : decode cX9_test 165 = .ok (.getfield 164, 3) := of_u2 ok_getfield 0 164 (by decide +kernel)
theorem dX9_test_168 : decode cX9_test 168 = .ok (.iconst 1, 1) := of_0 ok_iconst_1 (by decide +kernel)
theorem dX9_test_169 : decode cX9_test 169 = .ok (.iadd, 1) := of_0 ok_iadd (by decide +kernel)
theorem dX9_test_170 : decode cX9_test 170 = .ok (.putfield 164, 3) := of_u2 ok_putfield 0 164 (by decide +kernel)
theorem dX9_test_173 : decode cX9_test 173 = .ok (.aload_n 0, 1) := of_0 ok_aload_n_0 (by decide +kernel)
theorem dX9_test_174 : decode cX9_test 174 = .ok (.dup, 1) := of_0 ok_dup (by decide +kernel)
theorem dX9_test_175 : decode cX9_test 175 = .ok (.getfield 232, 3) := of_u2 ok_getfield 0 232 (by decide +kernel)
theorem dX9_test_178 : decode cX9_test 178 = .ok (.iconst 1, 1) := of_0 ok_iconst_1 (by decide +kernel)
theorem dX9_test_179 : decode cX9_test 179 = .ok (.isub, 1) := of_0 ok_isub (by decide +kernel)
theorem dX9_test_180 : decode cX9_test 180 = .ok (.putfield 232, 3) := of_u2 ok_putfield 0 232 (by decide +kernel)
theorem dX9_test_183 : decode cX9_test 183 = .ok (.aload_n 0, 1) := of_0 ok_aload_n_0 (by decide +kernel)
theorem dX9_test_184 : decode cX9_test 184 = .ok (.dup, 1) := of_0 ok_dup (by decide +kernel)
theorem dX9_test_185 : decode cX9_test 185 = .ok (.getfield 235, 3) := of_u2 ok_getfield 0 235 (by decide +kernel)
theorem dX9_test_188 : decode cX9_test 188 = .ok (.iconst 1, 1) := of_0 ok_iconst_1 (by decide +kernel)
theorem dX9_test_189 : decode cX9_test 189 = .ok (.isub, 1) := of_0 ok_isub (by decide +kernel)
theorem dX9_test_190 : decode cX9_test 190 = .ok (.putfield 235, 3) := of_u2 ok_putfield 0 235 (by decide +kernel)
theorem dX9_test_193 : decode cX9_test 193 = .ok (.goto 5, 3) := of_s2 ok_goto 0 5 (by decide +kernel)
theorem dX9_test_196 : decode cX9_test 196 = .ok (.iconst 0, 1) := of_0 ok_iconst_0 (by decide +kernel)
theorem dX9_test_197 : decode cX9_test 197 = .ok (.istore_n 2, 1) := of_0 ok_istore_n_2 (by decide +kernel)
theorem dX9_test_198 : decode cX9_test 198 = .ok (.goto (-189), 3) := of_s2 ok_goto 255 67 (by decide +kernel)
theorem dX9_test_201 : decode cX9_test 201 = .ok (.return_, 1) := of_0 ok_return_ (by decide +kernel)
theorem dX9_top_0 : decode cX9_top 0 = .ok (.aload_n 0, 1) := of_0 ok_aload_n_0 (by decide +kernel)
theorem dX9_top_1 : decode cX9_top 1 = .ok (.getfield 232, 3) := of_u2 ok_getfield 0 232 (by decide +kernel)
theorem dX9_top_4 : decode cX9_top 4 = .ok (.ifCond .ne 7, 3) := of_s2 ok_ifCond_ne 0 7 (by decide +kernel)
theorem dX9_top_7 : decode cX9_top 7 = .ok (.iconst (-1), 1) := of_0 ok_iconst_m1 (by decide +kernel)
theorem dX9_top_8 : decode cX9_top 8 = .ok (.goto 14, 3) := of_s2 ok_goto 0 14 (by decide +kernel)
theorem dX9_top_11 : decode cX9_top 11 = .ok (.aload_n 0, 1) := of_0 ok_aload_n_0 (by decide +kernel)
theorem dX9_top_12 : decode cX9_top 12 = .ok (.getfield 87, 3) := of_u2 ok_getfield 0 87 (by decide +kernel)
theorem dX9_top_15 : decode cX9_top 15 = .ok (.aload_n 0, 1) := of_0 ok_aload_n_0 (by decide +kernel)
theorem dX9_top_16 : decode cX9_top 16 = .ok (.getfield 232, 3) := of_u2 ok_getfield 0 232 (by decide +kernel)
theorem dX9_top_19 : decode cX9_top 19 = .ok (.iconst 1, 1) := of_0 ok_iconst_1 (by decide +kernel)
theorem dX9_top_20 : decode cX9_top 20 = .ok (.isub, 1) := of_0 ok_isub (by decide +kernel)
theorem dX9_top_21 : decode cX9_top 21 = .ok (.iaload, 1) := of_0 ok_iaload (by decide +kernel)
theorem dX9_top_22 : decode cX9_top 22 = .ok (.ireturn, 1) := of_0 ok_ireturn (by decide +kernel)
theorem dX9_truth_0 : decode cX9_truth 0 = .ok (.iload_n 0, 1) := of_0 ok_iload_n_0 (by decide +kernel)
theorem dX9_truth_1 : decode cX9_truth 1 = .ok (.ifCond .eq 7, 3) := of_s2 ok_ifCond_eq 0 7 (by decide +kernel)
theorem dX9_truth_4 : decode cX9_truth 4 = .ok (.lconst 1, 1) := of_0 ok_lconst_1 (by decide +kernel)
theorem dX9_truth_5 : decode cX9_truth 5 = .ok (.goto 4, 3) := of_s2 ok_goto 0 4 (by decide +kernel)
theorem dX9_truth_8 : decode cX9_truth 8 = .ok (.lconst 0, 1) := of_0 ok_lconst_0 (by decide +kernel)
theorem dX9_truth_9 : decode cX9_truth 9 = .ok (.lreturn, 1) := of_0 ok_lreturn (by decide +kernel)
theorem dX9_value_0 : decode cX9_value 0 = .ok (.aload_n 0, 1) := of_0 ok_aload_n_0 (by decide +kernel)
theorem dX9_value_1 : decode cX9_value 1 = .ok (.invokevirtual 184, 3) := of_u2 ok_invokevirtual 0 184 (by decide +kernel)
theorem dX9_value_4 : decode cX9_value 4 = .ok (.aload_n 0, 1) := of_0 ok_aload_n_0 (by decide +kernel)
theorem dX9_value_5 : decode cX9_value 5 = .ok (.getfield 164, 3) := of_u2 ok_getfield 0 164 (by decide +kernel)
theorem dX9_value_8 : decode cX9_value 8 = .ok (.istore_n 1, 1) := of_0 ok_istore_n_1 (by decide +kernel)
theorem dX9_value_9 : decode cX9_value 9 = .ok (.aload_n 0, 1) := of_0 ok_aload_n_0 (by decide +kernel)
theorem dX9_value_10 : decode cX9_value 10 = .ok (.invokevirtual 204, 3) := of_u2 ok_invokevirtual 0 204 (by decide +kernel)
theorem dX9_value_13 : decode cX9_value 13 = .ok (.ifCond .eq 22, 3) := of_s2 ok_ifCond_eq 0 22 (by decide +kernel)
theorem dX9_value_16 : decode cX9_value 16 = .ok (.aload_n 0, 1) := of_0 ok_aload_n_0 (by decide +kernel)
theorem dX9_value_17 : decode cX9_value 17 = .ok (.ldc 208, 2) := of_u1 ok_ldc (by decide +kernel)
theorem dX9_value_19 : decode cX9_value 19 = .ok (.invokevirtual 209, 3) := of_u2 ok_invokevirtual 0 209 (by decide +kernel)
theorem dX9_value_22 : decode cX9_value 22 = .ok (.istore_n 2, 1) := of_0 ok_istore_n_2 (by decide +kernel)
theorem dX9_value_23 : decode cX9_value 23 = .ok (.aload_n 0, 1) := of_0 ok_aload_n_0 (by decide +kernel)
theorem dX9_value_24 : decode cX9_value 24 = .ok (.iload_n 1, 1) := of_0 ok_iload_n_1 (by decide +kernel)
theorem dX9_value_25 : decode cX9_value 25 = .ok (.invokevirtual 213, 3) := of_u2 ok_invokevirtual 0 213 (by decide +kernel)
theorem dX9_value_28 : decode cX9_value 28 = .ok (.aload_n 0, 1) := of_0 ok_aload_n_0 (by decide +kernel)
theorem dX9_value_29 : decode cX9_value 29 = .ok (.iconst 0, 1) := of_0 ok_iconst_0 (by decide +kernel)
theorem dX9_value_30 : decode cX9_value 30 = .ok (.iload_n 2, 1) := of_0 ok_iload_n_2 (by decide +kernel)
theorem dX9_value_31 : decode cX9_value 31 = .ok (.invokevirtual 216, 3) := of_u2 ok_invokevirtual 0 216 (by decide +kernel)
theorem dX9_value_34 : decode cX9_value 34 = .ok (.return_, 1) := of_0 ok_return_ (by decide +kernel)
theorem dX9_value_35 : decode cX9_value 35 = .ok (.iconst 0, 1) := of_0 ok_iconst_0 (by decide +kernel)
theorem dX9_value_36 : decode cX9_value 36 = .ok (.istore_n 2, 1) := of_0 ok_istore_n_2 (by decide +kernel)
theorem dX9_value_37 : decode cX9_value 37 = .ok (.iload_n 2, 1) := of_0 ok_iload_n_2 (by decide +kernel)
theorem dX9_value_38 : decode cX9_value 38 = .ok (.aload_n 0, 1) := of_0 ok_aload_n_0 (by decide +kernel)
theorem dX9_value_39 : decode cX9_value 39 = .ok (.getfield 61, 3) := of_u2 ok_getfield 0 61 (by decide +kernel)
theorem dX9_value_42 : decode cX9_value 42 = .ok (.if_icmp .ge 20, 3) := of_s2 ok_if_icmp_ge 0 20 (by decide +kernel)
theorem dX9_value_45 : decode cX9_value 45 = .ok (.aload_n 0, 1) := of_0 ok_aload_n_0 (by decide +kernel)
theorem dX9_value_46 : decode cX9_value 46 = .ok (.iload_n 2, 1) := of_0 ok_iload_n_2 (by decide +kernel)
theorem dX9_value_47 : decode cX9_value 47 = .ok (.invokestatic 219, 3) := of_u2 ok_invokestatic 0 219 (by decide +kernel)
theorem dX9_value_50 : decode cX9_value 50 = .ok (.invokevirtual 187, 3) := of_u2 ok_invokevirtual 0 187 (by decide +kernel)
theorem dX9_value_53 : decode cX9_value 53 = .ok (.ifCond .ne 9, 3) := of_s2 ok_ifCond_ne 0 9 (by decide +kernel)
theorem dX9_value_56 : decode cX9_value 56 = .ok (.iinc 2 1, 3) := of_ii ok_iinc 1 (by decide +kernel)
theorem dX9_value_59 : decode cX9_value 59 = .ok (.goto (-22), 3) := of_s2 ok_goto 255 234 (by decide +kernel)
theorem dX9_value_62 : decode cX9_value 62 = .ok (.iload_n 2, 1) := of_0 ok_iload_n_2 (by decide +kernel)
theorem dX9_value_63 : decode cX9_value 63 = .ok (.aload_n 0, 1) := of_0 ok_aload_n_0 (by decide +kernel)
theorem dX9_value_64 : decode cX9_value 64 = .ok (.getfield 61, 3) := of_u2 ok_getfield 0 61 (by decide +kernel)
theorem dX9_value_67 : decode cX9_value 67 = .ok (.if_icmp .ne 10, 3) := of_s2 ok_if_icmp_ne 0 10 (by decide +kernel)
theorem dX9_value_70 : decode cX9_value 70 = .ok (.aload_n 0, 1) := of_0 ok_aload_n_0 (by decide +kernel)
theorem dX9_value_71 : decode cX9_value 71 = .ok (.iconst 0, 1) := of_0 ok_iconst_0 (by decide +kernel)
theorem dX9_value_72 : decode cX9_value 72 = .ok (.iload_n 1, 1) := of_0 ok_iload_n_1 (by decide +kernel)
theorem dX9_value_73 : decode cX9_value 73 = .ok (.invokevirtual 200, 3) := of_u2 ok_invokevirtual 0 200 (by decide +kernel)
theorem dX9_value_76 : decode cX9_value 76 = .ok (.return_, 1) := of_0 ok_return_ (by decide +kernel)
theorem dX9_value_77 : decode cX9_value 77 = .ok (.aload_n 0, 1) := of_0 ok_aload_n_0 (by decide +kernel)
theorem dX9_value_78 : decode cX9_value 78 = .ok (.iload_n 1, 1) := of_0 ok_iload_n_1 (by decide +kernel)
theorem dX9_value_79 : decode cX9_value 79 = .ok (.invokevirtual 213, 3) := of_u2 ok_invokevirtual 0 213 (by decide +kernel)
theorem dX9_value_82 : decode cX9_value 82 = .ok (.aload_n 0, 1) := of_0 ok_aload_n_0 (by decide +kernel)
theorem dX9_value_83 : decode cX9_value 83 = .ok (.dup, 1) := of_0 ok_dup (by decide +kernel)
theorem dX9_value_84 : decode cX9_value 84 = .ok (.getfield 164, 3) := of_u2 ok_getfield 0 164 (by decide +kernel)
theorem dX9_value_87 : decode cX9_value 87 = .ok (.iload_n 2, 1) := of_0 ok_iload_n_2 (by decide +kernel)
theorem dX9_value_88 : decode cX9_value 88 = .ok (.invokestatic 219, 3) := of_u2 ok_invokestatic 0 219 (by decide +kernel)
theorem dX9_value_91 : decode cX9_value 91 = .ok (.invokevirtual 175, 3) := of_u2 ok_invokevirtual 0 175 (by decide +kernel)
theorem dX9_value_94 : decode cX9_value 94 = .ok (.iadd, 1) := of_0 ok_iadd (by decide +kernel)
theorem dX9_value_95 : decode cX9_value 95 = .ok (.putfield 164, 3) := of_u2 ok_putfield 0 164 (by decide +kernel)
theorem dX9_value_98 : decode cX9_value 98 = .ok (.aload_n 0, 1) := of_0 ok_aload_n_0 (by decide +kernel)
theorem dX9_value_99 : decode cX9_value 99 = .ok (.iconst 1, 1) := of_0 ok_iconst_1 (by decide +kernel)
theorem dX9_value_100 : decode cX9_value 100 = .ok (.iload_n 2, 1) := of_0 ok_iload_n_2 (by decide +kernel)
theorem dX9_value_101 : decode cX9_value 101 = .ok (.invokevirtual 216, 3) := of_u2 ok_invokevirtual 0 216 (by decide +kernel)
theorem dX9_value_104 : decode cX9_value 104 = .ok (.return_, 1) := of_0 ok_return_ (by decide +kernel)
set_option maxRecDepth 20000 in
theorem bq_wsX9_amount : subq wsX9_amount [wsX9_amount_r1, wsX9_amount_r2] := ⟨(fun _ h => (List.mem_cons_of_mem _ (List.mem_append_left _ (List.mem_append_left _ h)))), (fun _ h => (List.mem_cons_of_mem _ (List.mem_append_left _ (List.mem_append_right _ h)))), trivial⟩
set_option maxRecDepth 20000 in
theorem ggX9_amount_X9_blanks : GoodIn wsX9_amount wsX9_blanks := (goodIn_cons (good_rb bq_wsX9_amount ([(0, 7)] : List (Nat × Nat)) rfl (by decide +kernel)) (goodIn_app (good_rb bq_wsX9_amount ([(0, 0), (0, 8), (0, 9), (0, 10), (0, 6), (0, 11), (0, 12), (0, 13)] : List (Nat × Nat)) rfl (by decide +kernel)) (goodIn_sb (fun _ h => (List.mem_cons_of_mem _ (List.mem_append_right _ h))) (by decide +kernel))))
set_option maxRecDepth 20000 in
theorem gX9_amount_X9_blanks : GoodIn wsX9_amount (wsV RX9 184 RX9 yX9_blanks wsX9_blanks) := goodIn_app (good_rp ([4, 5, 6, 7] : List Nat) rfl (by decide +kernel)) ggX9_amount_X9_blanks
set_option maxRecDepth 20000 in
theorem ggX9_amount_X9_digits : GoodIn wsX9_amount wsX9_digits := (goodIn_cons (good_rb bq_wsX9_amount ([(0, 17)] : List (Nat × Nat)) rfl (by decide +kernel)) (goodIn_app (good_rb bq_wsX9_amount ([(0, 0), (0, 18), (0, 19), (0, 20), (0, 6), (0, 21), (0, 22), (0, 23), (0, 8), (0, 9), (0, 10), (0, 11), (0, 12), (0, 13), (1, 0), (1, 1), (1, 2), (1, 3), (1, 4), (1, 5), (1, 6), (0, 1)] : List (Nat × Nat)) rfl (by decide +kernel)) (goodIn_sb (fun _ h => (List.mem_cons_of_mem _ (List.mem_append_right _ h))) (by decide +kernel))))
set_option maxRecDepth 20000 in
theorem gX9_amount_X9_digits : GoodIn wsX9_amount (wsV RX9 209 RX9 yX9_digits wsX9_digits) := goodIn_app (good_rp ([15, 16, 17, 7] : List Nat) rfl (by decide +kernel)) ggX9_amount_X9_digits
set_option maxRecDepth 20000 in
theorem ggX9_amount_X9_fails : GoodIn wsX9_amount wsX9_fails := (goodIn_cons (good_rb bq_wsX9_amount ([(1, 6)] : List (Nat × Nat)) rfl (by decide +kernel)) (goodIn_app (good_rb bq_wsX9_amount ([(0, 1)] : List (Nat × Nat)) rfl (by decide +kernel)) (goodIn_sb (fun _ h => (List.mem_cons_of_mem _ (List.mem_append_right _ h))) (by decide +kernel))))
set_option maxRecDepth 20000 in
theorem gX9_amount_X9_fails : GoodIn wsX9_amount (wsV RX9 200 RX9 yX9_fails wsX9_fails) := goodIn_app (good_rp ([28, 29, 30, 7] : List Nat) rfl (by decide +kernel)) ggX9_amount_X9_fails
set_option maxRecDepth 20000 in
theorem ggX9_amount_X9_in : GoodIn wsX9_amount wsX9_in := (goodIn_cons (good_rb bq_wsX9_amount ([(1, 2)] : List (Nat × Nat)) rfl (by decide +kernel)) (good_rb bq_wsX9_amount ([] : List (Nat × Nat)) rfl (by decide +kernel)))
set_option maxRecDepth 20000 in
theorem gX9_amount_X9_in : GoodIn wsX9_amount (va_wsS RX9 131 yX9_in wsX9_in) := goodIn_app (good_rp ([25, 26, 7] : List Nat) rfl (by decide +kernel)) ggX9_amount_X9_in
set_option maxRecDepth 20000 in
theorem bq_wsX9_answers : subq wsX9_answers [[.fieldLink RX9 161 "ChairCaneModel" "fault" "I", .fieldLink RX9 232 "ChairCaneModel" "opened" "I", .fieldLink RX9 235 "ChairCaneModel" "deep" "I", .methodLink RX9 238 yX9_top, .instanceMethod yX9_top, .selects RX9 yX9_top yX9_top, .initialized RX9, .code yX9_top cX9_top 1 (some .int), .fieldLink RX9 87 "ChairCaneModel" "open" "[I", .methodLink RX9 216 yX9_entry, .instanceMethod yX9_entry, .selects RX9 yX9_entry yX9_entry, .code yX9_entry cX9_entry 3 none, .fieldLink RX9 69 "ChairCaneModel" "sort" "[I", .fieldLink RX9 191 "ChairCaneModel" "slot" "I", .fieldLink RX9 194 "ChairCaneModel" "entries" "I", .fieldLink RX9 72 "ChairCaneModel" "number" "[I"]] := ⟨(fun _ h => (List.mem_cons_of_mem _ (List.mem_append_left _ h))), trivial⟩
set_option maxRecDepth 20000 in
theorem ggX9_answers_X9_entry : GoodIn wsX9_answers wsX9_entry := (goodIn_cons (good_rb bq_wsX9_answers ([(0, 12)] : List (Nat × Nat)) rfl (by decide +kernel)) (goodIn_app (good_rb bq_wsX9_answers ([(0, 0), (0, 13), (0, 14), (0, 15), (0, 16)] : List (Nat × Nat)) rfl (by decide +kernel)) (goodIn_sb (fun _ h => (List.mem_cons_of_mem _ (List.mem_append_right _ h))) (by decide +kernel))))
set_option maxRecDepth 20000 in
theorem gX9_answers_X9_entry : GoodIn wsX9_answers (wsV RX9 216 RX9 yX9_entry wsX9_entry) := goodIn_app (good_rp ([10, 11, 12, 7] : List Nat) rfl (by decide +kernel)) ggX9_answers_X9_entry
set_option maxRecDepth 20000 in
theorem ggX9_answers_X9_top : GoodIn wsX9_answers wsX9_top := (goodIn_cons (good_rb bq_wsX9_answers ([(0, 7)] : List (Nat × Nat)) rfl (by decide +kernel)) (goodIn_app (good_rb bq_wsX9_answers ([(0, 1), (0, 8)] : List (Nat × Nat)) rfl (by decide +kernel)) (goodIn_sb (fun _ h => (List.mem_cons_of_mem _ (List.mem_append_right _ h))) (by decide +kernel))))
set_option maxRecDepth 20000 in
theorem gX9_answers_X9_top : GoodIn wsX9_answers (wsV RX9 238 RX9 yX9_top wsX9_top) := goodIn_app (good_rp ([4, 5, 6, 7] : List Nat) rfl (by decide +kernel)) ggX9_answers_X9_top
set_option maxRecDepth 20000 in
theorem bq_wsX9_blanks : subq wsX9_blanks [[.fieldLink RX9 164 "ChairCaneModel" "p" "I", .methodLink RX9 167 yX9_sign, .instanceMethod yX9_sign, .selects RX9 yX9_sign yX9_sign, .initialized RX9, .code yX9_sign cX9_sign 1 (some .int), .fieldLink RX9 135 "ChairCaneModel" "taped" "I", .fieldLink RX9 65 "ChairCaneModel" "tape" "[B"]] := ⟨(fun _ h => (List.mem_cons_of_mem _ (List.mem_append_left _ h))), trivial⟩
set_option maxRecDepth 20000 in
theorem ggX9_blanks_X9_sign : GoodIn wsX9_blanks wsX9_sign := (goodIn_cons (good_rb bq_wsX9_blanks ([(0, 5)] : List (Nat × Nat)) rfl (by decide +kernel)) (goodIn_app (good_rb bq_wsX9_blanks ([(0, 0), (0, 6), (0, 7)] : List (Nat × Nat)) rfl (by decide +kernel)) (goodIn_sb (fun _ h => (List.mem_cons_of_mem _ (List.mem_append_right _ h))) (by decide +kernel))))
set_option maxRecDepth 20000 in
theorem gX9_blanks_X9_sign : GoodIn wsX9_blanks (wsV RX9 167 RX9 yX9_sign wsX9_sign) := goodIn_app (good_rp ([2, 3, 4, 5] : List Nat) rfl (by decide +kernel)) ggX9_blanks_X9_sign
set_option maxRecDepth 20000 in
theorem bq_wsX9_both : subq wsX9_both [[.methodLink RX9 324 yX9_truth, .static yX9_truth, .initialized RX9, .code yX9_truth cX9_truth 1 (some .long)]] := ⟨(fun _ h => (List.mem_cons_of_mem _ h)), trivial⟩
set_option maxRecDepth 20000 in
theorem ggX9_both_X9_truth : GoodIn wsX9_both wsX9_truth := (goodIn_cons (good_rb bq_wsX9_both ([(0, 3)] : List (Nat × Nat)) rfl (by decide +kernel)) (good_rb bq_wsX9_both ([] : List (Nat × Nat)) rfl (by decide +kernel)))
set_option maxRecDepth 20000 in
theorem gX9_both_X9_truth : GoodIn wsX9_both (va_wsS RX9 324 yX9_truth wsX9_truth) := goodIn_app (good_rp ([1, 2, 3] : List Nat) rfl (by decide +kernel)) ggX9_both_X9_truth
set_option maxRecDepth 20000 in
theorem bq_wsX9_compared : subq wsX9_compared [wsX9_compared_r1, wsX9_compared_r2, wsX9_compared_r3, wsX9_compared_r4, wsX9_compared_r5] := ⟨(fun _ h => (List.mem_cons_of_mem _ (List.mem_append_left _ (List.mem_append_left _ h)))), (fun _ h => (List.mem_cons_of_mem _ (List.mem_append_left _ (List.mem_append_right _ (List.mem_append_left _ h))))), (fun _ h => (List.mem_cons_of_mem _ (List.mem_append_left _ (List.mem_append_right _ (List.mem_append_right _ (List.mem_append_left _ h)))))), (fun _ h => (List.mem_cons_of_mem _ (List.mem_append_left _ (List.mem_append_right _ (List.mem_append_right _ (List.mem_append_right _ (List.mem_append_left _ h))))))), (fun _ h => (List.mem_cons_of_mem _ (List.mem_append_left _ (List.mem_append_right _ (List.mem_append_right _ (List.mem_append_right _ (List.mem_append_right _ h))))))), trivial⟩
set_option maxRecDepth 20000 in
theorem ggX9_compared_X9_entry : GoodIn wsX9_compared wsX9_entry := (goodIn_cons (good_rb bq_wsX9_compared ([(2, 4)] : List (Nat × Nat)) rfl (by decide +kernel)) (goodIn_app (good_rb bq_wsX9_compared ([(0, 6), (2, 5), (2, 6), (2, 7), (2, 8)] : List (Nat × Nat)) rfl (by decide +kernel)) (goodIn_sb (fun _ h => (List.mem_cons_of_mem _ (List.mem_append_right _ h))) (by decide +kernel))))
set_option maxRecDepth 20000 in
theorem gX9_compared_X9_entry : GoodIn wsX9_compared (wsV RX9 216 RX9 yX9_entry wsX9_entry) := goodIn_app (good_rp ([50, 51, 52, 5] : List Nat) rfl (by decide +kernel)) ggX9_compared_X9_entry
set_option maxRecDepth 20000 in
theorem ggX9_compared_X9_fails : GoodIn wsX9_compared wsX9_fails := (goodIn_cons (good_rb bq_wsX9_compared ([(1, 19)] : List (Nat × Nat)) rfl (by decide +kernel)) (goodIn_app (good_rb bq_wsX9_compared ([(0, 6)] : List (Nat × Nat)) rfl (by decide +kernel)) (goodIn_sb (fun _ h => (List.mem_cons_of_mem _ (List.mem_append_right _ h))) (by decide +kernel))))
set_option maxRecDepth 20000 in
theorem gX9_compared_X9_fails : GoodIn wsX9_compared (wsV RX9 200 RX9 yX9_fails wsX9_fails) := goodIn_app (good_rp ([41, 42, 43, 5] : List Nat) rfl (by decide +kernel)) ggX9_compared_X9_fails
set_option maxRecDepth 20000 in
theorem ggX9_compared_X9_isCounted : GoodIn wsX9_compared wsX9_isCounted := (goodIn_cons (good_rb bq_wsX9_compared ([(1, 23)] : List (Nat × Nat)) rfl (by decide +kernel)) (goodIn_app (good_rb bq_wsX9_compared ([(2, 0), (1, 16), (1, 17), (1, 18), (0, 4), (1, 19), (0, 6)] : List (Nat × Nat)) rfl (by decide +kernel)) (goodIn_sb (fun _ h => (List.mem_cons_of_mem _ (List.mem_append_right _ h))) (by decide +kernel))))
set_option maxRecDepth 20000 in
theorem gX9_compared_X9_isCounted : GoodIn wsX9_compared (wsV RX9 213 RX9 yX9_isCounted wsX9_isCounted) := goodIn_app (good_rp ([45, 46, 47, 5] : List Nat) rfl (by decide +kernel)) ggX9_compared_X9_isCounted
set_option maxRecDepth 20000 in
theorem ggX9_compared_X9_sign : GoodIn wsX9_compared wsX9_sign := (goodIn_cons (good_rb bq_wsX9_compared ([(1, 0)] : List (Nat × Nat)) rfl (by decide +kernel)) (goodIn_app (good_rb bq_wsX9_compared ([(0, 0), (1, 1), (1, 2)] : List (Nat × Nat)) rfl (by decide +kernel)) (goodIn_sb (fun _ h => (List.mem_cons_of_mem _ (List.mem_append_right _ h))) (by decide +kernel))))
set_option maxRecDepth 20000 in
theorem gX9_compared_X9_sign : GoodIn wsX9_compared (wsV RX9 167 RX9 yX9_sign wsX9_sign) := goodIn_app (good_rp ([22, 23, 24, 5] : List Nat) rfl (by decide +kernel)) ggX9_compared_X9_sign
set_option maxRecDepth 20000 in
theorem ggX9_compared_X9_sum : GoodIn wsX9_compared wsX9_sum := (goodIn_cons (good_rb bq_wsX9_compared ([(0, 5)] : List (Nat × Nat)) rfl (by decide +kernel)) (goodIn_app (goodIn_app (good_rb bq_wsX9_compared ([(0, 6), (0, 0), (0, 7), (0, 8), (0, 9), (0, 4), (0, 10), (0, 11), (0, 12), (0, 13), (0, 14), (0, 15), (0, 16), (0, 17), (0, 18), (0, 19), (0, 20), (0, 21), (0, 22), (0, 23), (1, 0), (1, 1), (1, 2), (1, 3)] : List (Nat × Nat)) rfl (by decide +kernel)) (goodIn_app (good_rb bq_wsX9_compared ([(1, 4), (1, 5), (1, 6), (1, 7), (1, 8), (1, 9), (1, 10), (1, 11), (1, 12), (1, 13), (1, 14), (1, 15), (1, 16), (1, 17), (1, 18), (1, 19), (1, 20), (1, 21), (1, 22), (1, 23), (2, 0), (2, 1), (2, 2), (2, 3)] : List (Nat × Nat)) rfl (by decide +kernel)) (goodIn_app (good_rb bq_wsX9_compared ([(2, 4), (2, 5), (2, 6), (2, 7), (2, 8), (2, 9), (2, 10), (2, 11), (2, 12), (2, 13), (2, 14), (2, 15), (2, 16), (2, 17), (2, 18), (2, 19), (2, 20), (2, 21), (2, 22), (2, 23), (3, 0), (3, 1), (3, 2), (3, 3)] : List (Nat × Nat)) rfl (by decide +kernel)) (goodIn_app (good_rb bq_wsX9_compared ([(3, 4), (3, 5), (3, 6), (3, 7), (3, 8), (3, 9), (3, 10), (3, 11), (3, 12), (3, 13), (3, 14), (3, 15), (3, 16), (3, 17), (3, 18), (3, 19), (3, 20), (3, 21), (3, 22), (3, 23), (4, 0), (4, 1), (4, 2), (4, 3)] : List (Nat × Nat)) rfl (by decide +kernel)) (good_rb bq_wsX9_compared ([(4, 4), (4, 5), (4, 6), (4, 7), (4, 8), (4, 9), (4, 10), (4, 11), (4, 12), (4, 13), (4, 14), (4, 15), (4, 16)] : List (Nat × Nat)) rfl (by decide +kernel)))))) (goodIn_sb (fun _ h => (List.mem_cons_of_mem _ (List.mem_append_right _ h))) (by decide +kernel))))
set_option maxRecDepth 20000 in
theorem gX9_compared_X9_sum : GoodIn wsX9_compared (wsV RX9 229 RX9 yX9_sum wsX9_sum) := goodIn_app (good_rp ([2, 3, 4, 5] : List Nat) rfl (by decide +kernel)) ggX9_compared_X9_sum
set_option maxRecDepth 20000 in
theorem bq_wsX9_digits : subq wsX9_digits [[.fieldLink RX9 164 "ChairCaneModel" "p" "I", .methodLink RX9 204 yX9_isDigit, .instanceMethod yX9_isDigit, .selects RX9 yX9_isDigit yX9_isDigit, .initialized RX9, .code yX9_isDigit cX9_isDigit 1 (some .boolean), .constantLong RX9 171 (48), .constantLong RX9 173 (57), .methodLink RX9 167 yX9_sign, .instanceMethod yX9_sign, .selects RX9 yX9_sign yX9_sign, .code yX9_sign cX9_sign 1 (some .int), .fieldLink RX9 135 "ChairCaneModel" "taped" "I", .fieldLink RX9 65 "ChairCaneModel" "tape" "[B", .methodLink RX9 131 yX9_in, .static yX9_in, .code yX9_in cX9_in 6 (some .boolean), .methodLink RX9 200 yX9_fails, .instanceMethod yX9_fails, .selects RX9 yX9_fails yX9_fails, .code yX9_fails cX9_fails 3 none, .fieldLink RX9 161 "ChairCaneModel" "fault" "I"]] := ⟨(fun _ h => (List.mem_cons_of_mem _ (List.mem_append_left _ h))), trivial⟩
set_option maxRecDepth 20000 in
theorem ggX9_digits_X9_fails : GoodIn wsX9_digits wsX9_fails := (goodIn_cons (good_rb bq_wsX9_digits ([(0, 20)] : List (Nat × Nat)) rfl (by decide +kernel)) (goodIn_app (good_rb bq_wsX9_digits ([(0, 21)] : List (Nat × Nat)) rfl (by decide +kernel)) (goodIn_sb (fun _ h => (List.mem_cons_of_mem _ (List.mem_append_right _ h))) (by decide +kernel))))
set_option maxRecDepth 20000 in
theorem gX9_digits_X9_fails : GoodIn wsX9_digits (wsV RX9 200 RX9 yX9_fails wsX9_fails) := goodIn_app (good_rp ([18, 19, 20, 5] : List Nat) rfl (by decide +kernel)) ggX9_digits_X9_fails
set_option maxRecDepth 20000 in
theorem ggX9_digits_X9_isDigit : GoodIn wsX9_digits wsX9_isDigit := (goodIn_cons (good_rb bq_wsX9_digits ([(0, 5)] : List (Nat × Nat)) rfl (by decide +kernel)) (goodIn_app (good_rb bq_wsX9_digits ([(0, 6), (0, 7), (0, 8), (0, 9), (0, 10), (0, 4), (0, 11), (0, 0), (0, 12), (0, 13), (0, 14), (0, 15), (0, 16)] : List (Nat × Nat)) rfl (by decide +kernel)) (goodIn_sb (fun _ h => (List.mem_cons_of_mem _ (List.mem_append_right _ h))) (by decide +kernel))))
set_option maxRecDepth 20000 in
theorem gX9_digits_X9_isDigit : GoodIn wsX9_digits (wsV RX9 204 RX9 yX9_isDigit wsX9_isDigit) := goodIn_app (good_rp ([2, 3, 4, 5] : List Nat) rfl (by decide +kernel)) ggX9_digits_X9_isDigit
set_option maxRecDepth 20000 in
theorem ggX9_digits_X9_sign : GoodIn wsX9_digits wsX9_sign := (goodIn_cons (good_rb bq_wsX9_digits ([(0, 11)] : List (Nat × Nat)) rfl (by decide +kernel)) (goodIn_app (good_rb bq_wsX9_digits ([(0, 0), (0, 12), (0, 13)] : List (Nat × Nat)) rfl (by decide +kernel)) (goodIn_sb (fun _ h => (List.mem_cons_of_mem _ (List.mem_append_right _ h))) (by decide +kernel))))
set_option maxRecDepth 20000 in
theorem gX9_digits_X9_sign : GoodIn wsX9_digits (wsV RX9 167 RX9 yX9_sign wsX9_sign) := goodIn_app (good_rp ([9, 10, 11, 5] : List Nat) rfl (by decide +kernel)) ggX9_digits_X9_sign
set_option maxRecDepth 20000 in
theorem bq_wsX9_fact : subq wsX9_fact [wsX9_fact_r1, wsX9_fact_r2, wsX9_fact_r3, wsX9_fact_r4, wsX9_fact_r5, wsX9_fact_r6] := ⟨(fun _ h => (List.mem_cons_of_mem _ (List.mem_append_left _ (List.mem_append_left _ h)))), (fun _ h => (List.mem_cons_of_mem _ (List.mem_append_left _ (List.mem_append_right _ (List.mem_append_left _ h))))), (fun _ h => (List.mem_cons_of_mem _ (List.mem_append_left _ (List.mem_append_right _ (List.mem_append_right _ (List.mem_append_left _ h)))))), (fun _ h => (List.mem_cons_of_mem _ (List.mem_append_left _ (List.mem_append_right _ (List.mem_append_right _ (List.mem_append_right _ (List.mem_append_left _ h))))))), (fun _ h => (List.mem_cons_of_mem _ (List.mem_append_left _ (List.mem_append_right _ (List.mem_append_right _ (List.mem_append_right _ (List.mem_append_right _ (List.mem_append_left _ h)))))))), (fun _ h => (List.mem_cons_of_mem _ (List.mem_append_left _ (List.mem_append_right _ (List.mem_append_right _ (List.mem_append_right _ (List.mem_append_right _ (List.mem_append_right _ h)))))))), trivial⟩
set_option maxRecDepth 20000 in
theorem ggX9_fact_X9_blanks : GoodIn wsX9_fact wsX9_blanks := (goodIn_cons (good_rb bq_wsX9_fact ([(0, 5)] : List (Nat × Nat)) rfl (by decide +kernel)) (goodIn_app (good_rb bq_wsX9_fact ([(0, 0), (0, 6), (0, 7), (0, 8), (0, 4), (0, 9), (0, 10), (0, 11)] : List (Nat × Nat)) rfl (by decide +kernel)) (goodIn_sb (fun _ h => (List.mem_cons_of_mem _ (List.mem_append_right _ h))) (by decide +kernel))))
set_option maxRecDepth 20000 in
theorem gX9_fact_X9_blanks : GoodIn wsX9_fact (wsV RX9 184 RX9 yX9_blanks wsX9_blanks) := goodIn_app (good_rp ([2, 3, 4, 5] : List Nat) rfl (by decide +kernel)) ggX9_fact_X9_blanks
set_option maxRecDepth 20000 in
theorem ggX9_fact_X9_compared : GoodIn wsX9_fact wsX9_compared := (goodIn_cons (good_rb bq_wsX9_fact ([(3, 8)] : List (Nat × Nat)) rfl (by decide +kernel)) (goodIn_app (goodIn_app (good_rb bq_wsX9_fact ([(0, 0), (3, 9), (3, 10), (3, 11), (0, 4), (3, 12), (3, 4), (3, 13), (3, 14), (3, 15), (3, 16), (3, 17), (3, 18), (3, 19), (3, 20), (3, 21), (3, 22), (0, 1), (0, 2), (0, 3), (0, 5), (0, 6), (0, 7), (0, 8)] : List (Nat × Nat)) rfl (by decide +kernel)) (goodIn_app (good_rb bq_wsX9_fact ([(0, 9), (0, 10), (0, 11), (3, 23), (4, 0), (4, 1), (4, 2), (4, 3), (4, 4), (4, 5), (4, 6), (4, 7), (4, 8), (4, 9), (4, 10), (4, 11), (3, 0), (3, 1), (3, 2), (3, 3), (4, 12), (4, 13), (4, 14), (4, 15)] : List (Nat × Nat)) rfl (by decide +kernel)) (goodIn_app (good_rb bq_wsX9_fact ([(4, 16), (4, 17), (4, 18), (4, 19), (4, 20), (4, 21), (4, 22), (4, 23), (5, 0), (5, 1), (5, 2), (5, 3), (0, 12), (0, 13), (0, 14), (0, 15), (0, 16), (0, 17), (0, 18), (0, 19), (0, 20), (0, 21), (0, 22), (0, 23)] : List (Nat × Nat)) rfl (by decide +kernel)) (goodIn_app (good_rb bq_wsX9_fact ([(1, 0), (1, 1), (1, 2), (1, 3), (1, 4), (1, 5), (1, 6), (1, 7), (1, 8), (1, 9), (1, 10), (1, 11), (1, 12), (1, 13), (1, 14), (1, 15), (1, 16), (1, 17), (1, 18), (1, 19), (1, 20), (1, 21), (1, 22), (1, 23)] : List (Nat × Nat)) rfl (by decide +kernel)) (good_rb bq_wsX9_fact ([(2, 0), (2, 1), (2, 2), (2, 3), (2, 4), (2, 5), (2, 6), (2, 7), (2, 8), (2, 9), (2, 10), (2, 11), (2, 12), (2, 13), (2, 14), (2, 15), (2, 16)] : List (Nat × Nat)) rfl (by decide +kernel)))))) (goodIn_sb (fun _ h => (List.mem_cons_of_mem _ (List.mem_append_right _ h))) (by decide +kernel))))
set_option maxRecDepth 20000 in
theorem gX9_fact_X9_compared : GoodIn wsX9_fact (wsV RX9 246 RX9 yX9_compared wsX9_compared) := goodIn_app (good_rp ([78, 79, 80, 5] : List Nat) rfl (by decide +kernel)) ggX9_fact_X9_compared
set_option maxRecDepth 20000 in
theorem ggX9_fact_X9_opens : GoodIn wsX9_fact wsX9_opens := (goodIn_cons (good_rb bq_wsX9_fact ([(2, 20)] : List (Nat × Nat)) rfl (by decide +kernel)) (goodIn_app (good_rb bq_wsX9_fact ([(2, 21), (0, 0), (2, 22), (2, 23), (3, 0), (3, 1), (3, 2), (0, 4), (3, 3), (3, 4)] : List (Nat × Nat)) rfl (by decide +kernel)) (goodIn_sb (fun _ h => (List.mem_cons_of_mem _ (List.mem_append_right _ h))) (by decide +kernel))))
set_option maxRecDepth 20000 in
theorem gX9_fact_X9_opens : GoodIn wsX9_fact (wsV RX9 243 RX9 yX9_opens wsX9_opens) := goodIn_app (good_rp ([66, 67, 68, 5] : List Nat) rfl (by decide +kernel)) ggX9_fact_X9_opens
set_option maxRecDepth 20000 in
theorem ggX9_fact_X9_sign : GoodIn wsX9_fact wsX9_sign := (goodIn_cons (good_rb bq_wsX9_fact ([(0, 9)] : List (Nat × Nat)) rfl (by decide +kernel)) (goodIn_app (good_rb bq_wsX9_fact ([(0, 0), (0, 10), (0, 11)] : List (Nat × Nat)) rfl (by decide +kernel)) (goodIn_sb (fun _ h => (List.mem_cons_of_mem _ (List.mem_append_right _ h))) (by decide +kernel))))
set_option maxRecDepth 20000 in
theorem gX9_fact_X9_sign : GoodIn wsX9_fact (wsV RX9 167 RX9 yX9_sign wsX9_sign) := goodIn_app (good_rp ([7, 8, 9, 5] : List Nat) rfl (by decide +kernel)) ggX9_fact_X9_sign
set_option maxRecDepth 20000 in
theorem ggX9_fact_X9_stood : GoodIn wsX9_fact wsX9_stood := (goodIn_cons (good_rb bq_wsX9_fact ([(0, 15)] : List (Nat × Nat)) rfl (by decide +kernel)) (goodIn_app (goodIn_app (good_rb bq_wsX9_fact ([(0, 0), (0, 10), (0, 11), (0, 16), (0, 17), (0, 18), (0, 19), (0, 20), (0, 21), (0, 22), (0, 23), (1, 0), (1, 1), (1, 2), (1, 3), (1, 4), (1, 5), (1, 6), (1, 7), (1, 8), (1, 9), (1, 10), (1, 11), (1, 12)] : List (Nat × Nat)) rfl (by decide +kernel)) (goodIn_app (good_rb bq_wsX9_fact ([(1, 13), (1, 14), (1, 15), (1, 16), (1, 17), (1, 18), (1, 19), (1, 20), (1, 21), (1, 22), (1, 23), (2, 0), (2, 1), (2, 2), (2, 3), (2, 4), (2, 5), (2, 6), (2, 7), (2, 8), (2, 9), (2, 10), (2, 11), (2, 12)] : List (Nat × Nat)) rfl (by decide +kernel)) (good_rb bq_wsX9_fact ([(2, 13), (2, 14), (2, 15), (2, 16)] : List (Nat × Nat)) rfl (by decide +kernel)))) (goodIn_sb (fun _ h => (List.mem_cons_of_mem _ (List.mem_append_right _ h))) (by decide +kernel))))
set_option maxRecDepth 20000 in
theorem gX9_fact_X9_stood : GoodIn wsX9_fact (wsV RX9 187 RX9 yX9_stood wsX9_stood) := goodIn_app (good_rp ([13, 14, 15, 5] : List Nat) rfl (by decide +kernel)) ggX9_fact_X9_stood
set_option maxRecDepth 20000 in
theorem bq_wsX9_feed : subq wsX9_feed [[.fieldLink RX9 135 "ChairCaneModel" "taped" "I", .methodLink RX9 138 yX9_put, .instanceMethod yX9_put, .selects RX9 yX9_put yX9_put, .initialized RX9, .code yX9_put cX9_put 3 none, .fieldLink RX9 65 "ChairCaneModel" "tape" "[B"]] := ⟨(fun _ h => (List.mem_cons_of_mem _ (List.mem_append_left _ h))), trivial⟩
set_option maxRecDepth 20000 in
theorem ggX9_feed_X9_put : GoodIn wsX9_feed wsX9_put := (goodIn_cons (good_rb bq_wsX9_feed ([(0, 5)] : List (Nat × Nat)) rfl (by decide +kernel)) (goodIn_app (good_rb bq_wsX9_feed ([(0, 6), (0, 0)] : List (Nat × Nat)) rfl (by decide +kernel)) (goodIn_sb (fun _ h => (List.mem_cons_of_mem _ (List.mem_append_right _ h))) (by decide +kernel))))
set_option maxRecDepth 20000 in
theorem gX9_feed_X9_put : GoodIn wsX9_feed (wsV RX9 138 RX9 yX9_put wsX9_put) := goodIn_app (good_rp ([2, 3, 4, 5] : List Nat) rfl (by decide +kernel)) ggX9_feed_X9_put
set_option maxRecDepth 20000 in
theorem bq_wsX9_hallClause : subq wsX9_hallClause [wsX9_hallClause_r1, wsX9_hallClause_r2, wsX9_hallClause_r3, wsX9_hallClause_r4, wsX9_hallClause_r5] := ⟨(fun _ h => (List.mem_cons_of_mem _ (List.mem_append_left _ (List.mem_append_left _ h)))), (fun _ h => (List.mem_cons_of_mem _ (List.mem_append_left _ (List.mem_append_right _ (List.mem_append_left _ h))))), (fun _ h => (List.mem_cons_of_mem _ (List.mem_append_left _ (List.mem_append_right _ (List.mem_append_right _ (List.mem_append_left _ h)))))), (fun _ h => (List.mem_cons_of_mem _ (List.mem_append_left _ (List.mem_append_right _ (List.mem_append_right _ (List.mem_append_right _ (List.mem_append_left _ h))))))), (fun _ h => (List.mem_cons_of_mem _ (List.mem_append_left _ (List.mem_append_right _ (List.mem_append_right _ (List.mem_append_right _ (List.mem_append_right _ h))))))), trivial⟩
set_option maxRecDepth 20000 in
theorem ggX9_hallClause_J0_length_8abf5 : GoodIn wsX9_hallClause wsJ0_length_8abf5 := (goodIn_cons (good_rb bq_wsX9_hallClause ([(0, 23)] : List (Nat × Nat)) rfl (by decide +kernel)) (good_rb bq_wsX9_hallClause ([(1, 0), (1, 1), (1, 2), (1, 3), (0, 22), (1, 4), (1, 5), (1, 6)] : List (Nat × Nat)) rfl (by decide +kernel)))
set_option maxRecDepth 20000 in
theorem gX9_hallClause_J0_length_8abf5 : GoodIn wsX9_hallClause (wsV RX9 175 RJ0 yJ0_length_8abf5 wsJ0_length_8abf5) := goodIn_app (good_rp ([20, 21, 22, 23] : List Nat) rfl (by decide +kernel)) ggX9_hallClause_J0_length_8abf5
set_option maxRecDepth 20000 in
theorem ggX9_hallClause_X9_blanks : GoodIn wsX9_hallClause wsX9_blanks := (goodIn_cons (good_rb bq_wsX9_hallClause ([(0, 5)] : List (Nat × Nat)) rfl (by decide +kernel)) (goodIn_app (good_rb bq_wsX9_hallClause ([(0, 0), (0, 6), (0, 7), (0, 8), (0, 4), (0, 9), (0, 10), (0, 11)] : List (Nat × Nat)) rfl (by decide +kernel)) (goodIn_sb (fun _ h => (List.mem_cons_of_mem _ (List.mem_append_right _ h))) (by decide +kernel))))
set_option maxRecDepth 20000 in
theorem gX9_hallClause_X9_blanks : GoodIn wsX9_hallClause (wsV RX9 184 RX9 yX9_blanks wsX9_blanks) := goodIn_app (good_rp ([2, 3, 4, 5] : List Nat) rfl (by decide +kernel)) ggX9_hallClause_X9_blanks
set_option maxRecDepth 20000 in
theorem ggX9_hallClause_X9_fails : GoodIn wsX9_hallClause wsX9_fails := (goodIn_cons (good_rb bq_wsX9_hallClause ([(2, 23)] : List (Nat × Nat)) rfl (by decide +kernel)) (goodIn_app (good_rb bq_wsX9_hallClause ([(3, 0)] : List (Nat × Nat)) rfl (by decide +kernel)) (goodIn_sb (fun _ h => (List.mem_cons_of_mem _ (List.mem_append_right _ h))) (by decide +kernel))))
set_option maxRecDepth 20000 in
theorem gX9_hallClause_X9_fails : GoodIn wsX9_hallClause (wsV RX9 200 RX9 yX9_fails wsX9_fails) := goodIn_app (good_rp ([69, 70, 71, 5] : List Nat) rfl (by decide +kernel)) ggX9_hallClause_X9_fails
set_option maxRecDepth 20000 in
theorem ggX9_hallClause_X9_hallPart : GoodIn wsX9_hallClause wsX9_hallPart := (goodIn_cons (good_rb bq_wsX9_hallClause ([(3, 9)] : List (Nat × Nat)) rfl (by decide +kernel)) (goodIn_app (goodIn_app (good_rb bq_wsX9_hallClause ([(3, 5), (3, 10), (3, 11), (3, 12), (3, 13), (3, 14), (3, 15), (0, 4), (3, 16), (0, 0), (3, 0), (3, 17), (0, 1), (0, 2), (0, 3), (0, 5), (0, 6), (0, 7), (0, 8), (0, 9), (0, 10), (0, 11), (3, 18), (3, 19)] : List (Nat × Nat)) rfl (by decide +kernel)) (good_rb bq_wsX9_hallClause ([(3, 20), (3, 21), (3, 22), (3, 23), (4, 0), (4, 1), (4, 2), (4, 3), (4, 4), (4, 5), (4, 6), (2, 20), (2, 21), (2, 22), (2, 23), (4, 7), (4, 8), (4, 9), (4, 10), (4, 11), (4, 12)] : List (Nat × Nat)) rfl (by decide +kernel))) (goodIn_sb (fun _ h => (List.mem_cons_of_mem _ (List.mem_append_right _ h))) (by decide +kernel))))
set_option maxRecDepth 20000 in
theorem gX9_hallClause_X9_hallPart : GoodIn wsX9_hallClause (wsV RX9 277 RX9 yX9_hallPart wsX9_hallPart) := goodIn_app (good_rp ([79, 80, 81, 5] : List Nat) rfl (by decide +kernel)) ggX9_hallClause_X9_hallPart
set_option maxRecDepth 20000 in
theorem ggX9_hallClause_X9_hallWord : GoodIn wsX9_hallClause wsX9_hallWord := (goodIn_cons (good_rb bq_wsX9_hallClause ([(0, 14)] : List (Nat × Nat)) rfl (by decide +kernel)) (good_rb bq_wsX9_hallClause ([] : List (Nat × Nat)) rfl (by decide +kernel)))
set_option maxRecDepth 20000 in
theorem gX9_hallClause_X9_hallWord : GoodIn wsX9_hallClause (va_wsS RX9 270 yX9_hallWord wsX9_hallWord) := goodIn_app (good_rp ([13, 14, 5] : List Nat) rfl (by decide +kernel)) ggX9_hallClause_X9_hallWord
set_option maxRecDepth 20000 in
theorem ggX9_hallClause_X9_isFull : GoodIn wsX9_hallClause wsX9_isFull := (goodIn_cons (good_rb bq_wsX9_hallClause ([(3, 4)] : List (Nat × Nat)) rfl (by decide +kernel)) (goodIn_app (good_rb bq_wsX9_hallClause ([(3, 5)] : List (Nat × Nat)) rfl (by decide +kernel)) (goodIn_sb (fun _ h => (List.mem_cons_of_mem _ (List.mem_append_right _ h))) (by decide +kernel))))
set_option maxRecDepth 20000 in
theorem gX9_hallClause_X9_isFull : GoodIn wsX9_hallClause (wsV RX9 273 RX9 yX9_isFull wsX9_isFull) := goodIn_app (good_rp ([74, 75, 76, 5] : List Nat) rfl (by decide +kernel)) ggX9_hallClause_X9_isFull
set_option maxRecDepth 20000 in
theorem ggX9_hallClause_X9_stood : GoodIn wsX9_hallClause wsX9_stood := (goodIn_cons (good_rb bq_wsX9_hallClause ([(0, 18)] : List (Nat × Nat)) rfl (by decide +kernel)) (goodIn_app (goodIn_app (good_rb bq_wsX9_hallClause ([(0, 0), (0, 10), (0, 11), (0, 19), (0, 20), (0, 21), (0, 22), (0, 23), (1, 0), (1, 1), (1, 2), (1, 3), (1, 4), (1, 5), (1, 6), (1, 7), (1, 8), (1, 9), (1, 10), (1, 11), (1, 12), (1, 13), (1, 14), (1, 15)] : List (Nat × Nat)) rfl (by decide +kernel)) (goodIn_app (good_rb bq_wsX9_hallClause ([(1, 16), (1, 17), (1, 18), (1, 19), (1, 20), (1, 21), (1, 22), (1, 23), (2, 0), (2, 1), (2, 2), (2, 3), (2, 4), (2, 5), (2, 6), (2, 7), (2, 8), (2, 9), (2, 10), (2, 11), (2, 12), (2, 13), (2, 14), (2, 15)] : List (Nat × Nat)) rfl (by decide +kernel)) (good_rb bq_wsX9_hallClause ([(2, 16), (2, 17), (2, 18), (2, 19)] : List (Nat × Nat)) rfl (by decide +kernel)))) (goodIn_sb (fun _ h => (List.mem_cons_of_mem _ (List.mem_append_right _ h))) (by decide +kernel))))
set_option maxRecDepth 20000 in
theorem gX9_hallClause_X9_stood : GoodIn wsX9_hallClause (wsV RX9 187 RX9 yX9_stood wsX9_stood) := goodIn_app (good_rp ([16, 17, 18, 5] : List Nat) rfl (by decide +kernel)) ggX9_hallClause_X9_stood
set_option maxRecDepth 20000 in
theorem bq_wsX9_hallPart : subq wsX9_hallPart [wsX9_hallPart_r1, wsX9_hallPart_r2] := ⟨(fun _ h => (List.mem_cons_of_mem _ (List.mem_append_left _ (List.mem_append_left _ h)))), (fun _ h => (List.mem_cons_of_mem _ (List.mem_append_left _ (List.mem_append_right _ h)))), trivial⟩
set_option maxRecDepth 20000 in
theorem ggX9_hallPart_X9_amount : GoodIn wsX9_hallPart wsX9_amount := (goodIn_cons (good_rb bq_wsX9_hallPart ([(0, 8)] : List (Nat × Nat)) rfl (by decide +kernel)) (goodIn_app (goodIn_app (good_rb bq_wsX9_hallPart ([(0, 9), (0, 10), (0, 11), (0, 12), (0, 13), (0, 14), (0, 7), (0, 15), (0, 16), (0, 17), (0, 18), (0, 19), (0, 20), (0, 21), (0, 22), (0, 23), (1, 0), (1, 1), (1, 2), (1, 3), (1, 4), (1, 5), (1, 6), (1, 7)] : List (Nat × Nat)) rfl (by decide +kernel)) (good_rb bq_wsX9_hallPart ([(1, 8), (1, 9), (1, 10), (1, 11), (1, 12), (1, 13), (1, 14)] : List (Nat × Nat)) rfl (by decide +kernel))) (goodIn_sb (fun _ h => (List.mem_cons_of_mem _ (List.mem_append_right _ h))) (by decide +kernel))))
set_option maxRecDepth 20000 in
theorem gX9_hallPart_X9_amount : GoodIn wsX9_hallPart (wsV RX9 263 RX9 yX9_amount wsX9_amount) := goodIn_app (good_rp ([5, 6, 7, 8] : List Nat) rfl (by decide +kernel)) ggX9_hallPart_X9_amount
set_option maxRecDepth 20000 in
theorem ggX9_hallPart_X9_sitterPart : GoodIn wsX9_hallPart wsX9_sitterPart := (goodIn_cons (good_rb bq_wsX9_hallPart ([(1, 18)] : List (Nat × Nat)) rfl (by decide +kernel)) (goodIn_app (goodIn_app (good_rb bq_wsX9_hallPart ([(0, 9), (0, 0), (0, 10), (1, 19), (1, 20), (0, 12), (0, 13), (0, 14), (0, 7), (0, 15), (0, 16), (0, 17), (0, 18), (0, 19), (0, 20), (0, 21), (0, 4), (0, 5), (0, 6), (0, 8), (0, 11), (0, 22), (0, 23), (1, 0)] : List (Nat × Nat)) rfl (by decide +kernel)) (good_rb bq_wsX9_hallPart ([(1, 1), (1, 2), (1, 3), (1, 4), (1, 5), (1, 6), (1, 7), (1, 8), (1, 9), (1, 10), (1, 11), (1, 12), (1, 13), (1, 14)] : List (Nat × Nat)) rfl (by decide +kernel))) (goodIn_sb (fun _ h => (List.mem_cons_of_mem _ (List.mem_append_right _ h))) (by decide +kernel))))
set_option maxRecDepth 20000 in
theorem gX9_hallPart_X9_sitterPart : GoodIn wsX9_hallPart (wsV RX9 267 RX9 yX9_sitterPart wsX9_sitterPart) := goodIn_app (good_rp ([40, 41, 42, 8] : List Nat) rfl (by decide +kernel)) ggX9_hallPart_X9_sitterPart
set_option maxRecDepth 20000 in
theorem bq_wsX9_isChair : subq wsX9_isChair [[.fieldLink RX9 9 "ChairCaneModel" "scalar" "[I", .methodLink RX9 131 yX9_in, .static yX9_in, .initialized RX9, .code yX9_in cX9_in 6 (some .boolean)]] := ⟨(fun _ h => (List.mem_cons_of_mem _ (List.mem_append_left _ h))), trivial⟩
set_option maxRecDepth 20000 in
theorem ggX9_isChair_X9_in : GoodIn wsX9_isChair wsX9_in := (goodIn_cons (good_rb bq_wsX9_isChair ([(0, 4)] : List (Nat × Nat)) rfl (by decide +kernel)) (good_rb bq_wsX9_isChair ([] : List (Nat × Nat)) rfl (by decide +kernel)))
set_option maxRecDepth 20000 in
theorem gX9_isChair_X9_in : GoodIn wsX9_isChair (va_wsS RX9 131 yX9_in wsX9_in) := goodIn_app (good_rp ([2, 3, 4] : List Nat) rfl (by decide +kernel)) ggX9_isChair_X9_in
set_option maxRecDepth 20000 in
theorem bq_wsX9_isCounted : subq wsX9_isCounted [[.fieldLink RX9 197 "ChairCaneModel" "counted" "I", .methodLink RX9 200 yX9_fails, .instanceMethod yX9_fails, .selects RX9 yX9_fails yX9_fails, .initialized RX9, .code yX9_fails cX9_fails 3 none, .fieldLink RX9 161 "ChairCaneModel" "fault" "I"]] := ⟨(fun _ h => (List.mem_cons_of_mem _ (List.mem_append_left _ h))), trivial⟩
set_option maxRecDepth 20000 in
theorem ggX9_isCounted_X9_fails : GoodIn wsX9_isCounted wsX9_fails := (goodIn_cons (good_rb bq_wsX9_isCounted ([(0, 5)] : List (Nat × Nat)) rfl (by decide +kernel)) (goodIn_app (good_rb bq_wsX9_isCounted ([(0, 6)] : List (Nat × Nat)) rfl (by decide +kernel)) (goodIn_sb (fun _ h => (List.mem_cons_of_mem _ (List.mem_append_right _ h))) (by decide +kernel))))
set_option maxRecDepth 20000 in
theorem gX9_isCounted_X9_fails : GoodIn wsX9_isCounted (wsV RX9 200 RX9 yX9_fails wsX9_fails) := goodIn_app (good_rp ([2, 3, 4, 5] : List Nat) rfl (by decide +kernel)) ggX9_isCounted_X9_fails
set_option maxRecDepth 20000 in
theorem bq_wsX9_isDigit : subq wsX9_isDigit [[.constantLong RX9 171 (48), .constantLong RX9 173 (57), .methodLink RX9 167 yX9_sign, .instanceMethod yX9_sign, .selects RX9 yX9_sign yX9_sign, .initialized RX9, .code yX9_sign cX9_sign 1 (some .int), .fieldLink RX9 164 "ChairCaneModel" "p" "I", .fieldLink RX9 135 "ChairCaneModel" "taped" "I", .fieldLink RX9 65 "ChairCaneModel" "tape" "[B", .methodLink RX9 131 yX9_in, .static yX9_in, .code yX9_in cX9_in 6 (some .boolean)]] := ⟨(fun _ h => (List.mem_cons_of_mem _ (List.mem_append_left _ h))), trivial⟩
set_option maxRecDepth 20000 in
theorem ggX9_isDigit_X9_in : GoodIn wsX9_isDigit wsX9_in := (goodIn_cons (good_rb bq_wsX9_isDigit ([(0, 12)] : List (Nat × Nat)) rfl (by decide +kernel)) (good_rb bq_wsX9_isDigit ([] : List (Nat × Nat)) rfl (by decide +kernel)))
set_option maxRecDepth 20000 in
theorem gX9_isDigit_X9_in : GoodIn wsX9_isDigit (va_wsS RX9 131 yX9_in wsX9_in) := goodIn_app (good_rp ([11, 12, 6] : List Nat) rfl (by decide +kernel)) ggX9_isDigit_X9_in
set_option maxRecDepth 20000 in
theorem ggX9_isDigit_X9_sign : GoodIn wsX9_isDigit wsX9_sign := (goodIn_cons (good_rb bq_wsX9_isDigit ([(0, 6)] : List (Nat × Nat)) rfl (by decide +kernel)) (goodIn_app (good_rb bq_wsX9_isDigit ([(0, 7), (0, 8), (0, 9)] : List (Nat × Nat)) rfl (by decide +kernel)) (goodIn_sb (fun _ h => (List.mem_cons_of_mem _ (List.mem_append_right _ h))) (by decide +kernel))))
set_option maxRecDepth 20000 in
theorem gX9_isDigit_X9_sign : GoodIn wsX9_isDigit (wsV RX9 167 RX9 yX9_sign wsX9_sign) := goodIn_app (good_rp ([3, 4, 5, 6] : List Nat) rfl (by decide +kernel)) ggX9_isDigit_X9_sign
set_option maxRecDepth 20000 in
theorem bq_wsX9_isSitter : subq wsX9_isSitter [[.fieldLink RX9 9 "ChairCaneModel" "scalar" "[I", .methodLink RX9 131 yX9_in, .static yX9_in, .initialized RX9, .code yX9_in cX9_in 6 (some .boolean)]] := ⟨(fun _ h => (List.mem_cons_of_mem _ (List.mem_append_left _ h))), trivial⟩
set_option maxRecDepth 20000 in
theorem ggX9_isSitter_X9_in : GoodIn wsX9_isSitter wsX9_in := (goodIn_cons (good_rb bq_wsX9_isSitter ([(0, 4)] : List (Nat × Nat)) rfl (by decide +kernel)) (good_rb bq_wsX9_isSitter ([] : List (Nat × Nat)) rfl (by decide +kernel)))
set_option maxRecDepth 20000 in
theorem gX9_isSitter_X9_in : GoodIn wsX9_isSitter (va_wsS RX9 131 yX9_in wsX9_in) := goodIn_app (good_rp ([2, 3, 4] : List Nat) rfl (by decide +kernel)) ggX9_isSitter_X9_in
set_option maxRecDepth 20000 in
theorem bq_wsX9_isStrand : subq wsX9_isStrand [[.fieldLink RX9 9 "ChairCaneModel" "scalar" "[I", .methodLink RX9 131 yX9_in, .static yX9_in, .initialized RX9, .code yX9_in cX9_in 6 (some .boolean)]] := ⟨(fun _ h => (List.mem_cons_of_mem _ (List.mem_append_left _ h))), trivial⟩
set_option maxRecDepth 20000 in
theorem ggX9_isStrand_X9_in : GoodIn wsX9_isStrand wsX9_in := (goodIn_cons (good_rb bq_wsX9_isStrand ([(0, 4)] : List (Nat × Nat)) rfl (by decide +kernel)) (good_rb bq_wsX9_isStrand ([] : List (Nat × Nat)) rfl (by decide +kernel)))
set_option maxRecDepth 20000 in
theorem gX9_isStrand_X9_in : GoodIn wsX9_isStrand (va_wsS RX9 131 yX9_in wsX9_in) := goodIn_app (good_rp ([2, 3, 4] : List Nat) rfl (by decide +kernel)) ggX9_isStrand_X9_in
set_option maxRecDepth 20000 in
theorem bq_wsX9_opens : subq wsX9_opens [[.fieldLink RX9 235 "ChairCaneModel" "deep" "I", .fieldLink RX9 164 "ChairCaneModel" "p" "I", .fieldLink RX9 87 "ChairCaneModel" "open" "[I", .fieldLink RX9 232 "ChairCaneModel" "opened" "I", .methodLink RX9 200 yX9_fails, .instanceMethod yX9_fails, .selects RX9 yX9_fails yX9_fails, .initialized RX9, .code yX9_fails cX9_fails 3 none, .fieldLink RX9 161 "ChairCaneModel" "fault" "I"]] := ⟨(fun _ h => (List.mem_cons_of_mem _ (List.mem_append_left _ h))), trivial⟩
set_option maxRecDepth 20000 in
theorem ggX9_opens_X9_fails : GoodIn wsX9_opens wsX9_fails := (goodIn_cons (good_rb bq_wsX9_opens ([(0, 8)] : List (Nat × Nat)) rfl (by decide +kernel)) (goodIn_app (good_rb bq_wsX9_opens ([(0, 9)] : List (Nat × Nat)) rfl (by decide +kernel)) (goodIn_sb (fun _ h => (List.mem_cons_of_mem _ (List.mem_append_right _ h))) (by decide +kernel))))
set_option maxRecDepth 20000 in
theorem gX9_opens_X9_fails : GoodIn wsX9_opens (wsV RX9 200 RX9 yX9_fails wsX9_fails) := goodIn_app (good_rp ([5, 6, 7, 8] : List Nat) rfl (by decide +kernel)) ggX9_opens_X9_fails
set_option maxRecDepth 20000 in
theorem bq_wsX9_sitterPart : subq wsX9_sitterPart [wsX9_sitterPart_r1, wsX9_sitterPart_r2] := ⟨(fun _ h => (List.mem_cons_of_mem _ (List.mem_append_left _ (List.mem_append_left _ h)))), (fun _ h => (List.mem_cons_of_mem _ (List.mem_append_left _ (List.mem_append_right _ h)))), trivial⟩
set_option maxRecDepth 20000 in
theorem ggX9_sitterPart_X9_amount : GoodIn wsX9_sitterPart wsX9_amount := (goodIn_cons (good_rb bq_wsX9_sitterPart ([(0, 19)] : List (Nat × Nat)) rfl (by decide +kernel)) (goodIn_app (goodIn_app (good_rb bq_wsX9_sitterPart ([(0, 0), (0, 2), (0, 20), (0, 5), (0, 6), (0, 7), (0, 8), (0, 9), (0, 10), (0, 11), (0, 12), (0, 13), (0, 14), (0, 15), (0, 21), (0, 22), (0, 23), (1, 0), (1, 1), (1, 2), (1, 3), (1, 4), (1, 5), (1, 6)] : List (Nat × Nat)) rfl (by decide +kernel)) (good_rb bq_wsX9_sitterPart ([(1, 7), (1, 8), (1, 9), (1, 10), (1, 11), (1, 12), (1, 13)] : List (Nat × Nat)) rfl (by decide +kernel))) (goodIn_sb (fun _ h => (List.mem_cons_of_mem _ (List.mem_append_right _ h))) (by decide +kernel))))
set_option maxRecDepth 20000 in
theorem gX9_sitterPart_X9_amount : GoodIn wsX9_sitterPart (wsV RX9 263 RX9 yX9_amount wsX9_amount) := goodIn_app (good_rp ([17, 18, 19, 9] : List Nat) rfl (by decide +kernel)) ggX9_sitterPart_X9_amount
set_option maxRecDepth 20000 in
theorem ggX9_sitterPart_X9_blanks : GoodIn wsX9_sitterPart wsX9_blanks := (goodIn_cons (good_rb bq_wsX9_sitterPart ([(0, 9)] : List (Nat × Nat)) rfl (by decide +kernel)) (goodIn_app (good_rb bq_wsX9_sitterPart ([(0, 0), (0, 10), (0, 11), (0, 12), (0, 8), (0, 13), (0, 14), (0, 15)] : List (Nat × Nat)) rfl (by decide +kernel)) (goodIn_sb (fun _ h => (List.mem_cons_of_mem _ (List.mem_append_right _ h))) (by decide +kernel))))
set_option maxRecDepth 20000 in
theorem gX9_sitterPart_X9_blanks : GoodIn wsX9_sitterPart (wsV RX9 184 RX9 yX9_blanks wsX9_blanks) := goodIn_app (good_rp ([6, 7, 8, 9] : List Nat) rfl (by decide +kernel)) ggX9_sitterPart_X9_blanks
set_option maxRecDepth 20000 in
theorem ggX9_sitterPart_X9_fails : GoodIn wsX9_sitterPart wsX9_fails := (goodIn_cons (good_rb bq_wsX9_sitterPart ([(1, 13)] : List (Nat × Nat)) rfl (by decide +kernel)) (goodIn_app (good_rb bq_wsX9_sitterPart ([(0, 2)] : List (Nat × Nat)) rfl (by decide +kernel)) (goodIn_sb (fun _ h => (List.mem_cons_of_mem _ (List.mem_append_right _ h))) (by decide +kernel))))
set_option maxRecDepth 20000 in
theorem gX9_sitterPart_X9_fails : GoodIn wsX9_sitterPart (wsV RX9 200 RX9 yX9_fails wsX9_fails) := goodIn_app (good_rp ([35, 36, 37, 9] : List Nat) rfl (by decide +kernel)) ggX9_sitterPart_X9_fails
set_option maxRecDepth 20000 in
theorem bq_wsX9_stood : subq wsX9_stood [wsX9_stood_r1, wsX9_stood_r2, wsX9_stood_r3] := ⟨(fun _ h => (List.mem_cons_of_mem _ (List.mem_append_left _ (List.mem_append_left _ h)))), (fun _ h => (List.mem_cons_of_mem _ (List.mem_append_left _ (List.mem_append_right _ (List.mem_append_left _ h))))), (fun _ h => (List.mem_cons_of_mem _ (List.mem_append_left _ (List.mem_append_right _ (List.mem_append_right _ h))))), trivial⟩
set_option maxRecDepth 20000 in
theorem ggX9_stood_J0_charAt_5068e : GoodIn wsX9_stood wsJ0_charAt_5068e := (goodIn_cons (good_rb bq_wsX9_stood ([(0, 18)] : List (Nat × Nat)) rfl (by decide +kernel)) (goodIn_app (good_rb bq_wsX9_stood ([(0, 8), (0, 19), (0, 20), (0, 21), (0, 6), (0, 22), (0, 13), (0, 14), (0, 23), (1, 0), (1, 1), (1, 2), (1, 3), (1, 4), (1, 5), (1, 6), (1, 7), (1, 8), (1, 9), (1, 10), (1, 11), (1, 12), (1, 13), (1, 14)] : List (Nat × Nat)) rfl (by decide +kernel)) (good_rb bq_wsX9_stood ([(1, 15), (1, 16), (1, 17), (1, 18), (1, 19), (1, 20), (1, 21), (1, 22), (1, 23), (2, 0), (2, 1), (2, 2), (2, 3)] : List (Nat × Nat)) rfl (by decide +kernel))))
set_option maxRecDepth 20000 in
theorem gX9_stood_J0_charAt_5068e : GoodIn wsX9_stood (wsV RX9 180 RJ0 yJ0_charAt_5068e wsJ0_charAt_5068e) := goodIn_app (good_rp ([16, 17, 18, 7] : List Nat) rfl (by decide +kernel)) ggX9_stood_J0_charAt_5068e
set_option maxRecDepth 20000 in
theorem ggX9_stood_J0_length_8abf5 : GoodIn wsX9_stood wsJ0_length_8abf5 := (goodIn_cons (good_rb bq_wsX9_stood ([(0, 7)] : List (Nat × Nat)) rfl (by decide +kernel)) (good_rb bq_wsX9_stood ([(0, 8), (0, 9), (0, 10), (0, 11), (0, 6), (0, 12), (0, 13), (0, 14)] : List (Nat × Nat)) rfl (by decide +kernel)))
set_option maxRecDepth 20000 in
theorem gX9_stood_J0_length_8abf5 : GoodIn wsX9_stood (wsV RX9 175 RJ0 yJ0_length_8abf5 wsJ0_length_8abf5) := goodIn_app (good_rp ([4, 5, 6, 7] : List Nat) rfl (by decide +kernel)) ggX9_stood_J0_length_8abf5
set_option maxRecDepth 20000 in
theorem bq_wsX9_sum : subq wsX9_sum [wsX9_sum_r1, wsX9_sum_r2, wsX9_sum_r3, wsX9_sum_r4, wsX9_sum_r5] := ⟨(fun _ h => (List.mem_cons_of_mem _ (List.mem_append_left _ (List.mem_append_left _ h)))), (fun _ h => (List.mem_cons_of_mem _ (List.mem_append_left _ (List.mem_append_right _ (List.mem_append_left _ h))))), (fun _ h => (List.mem_cons_of_mem _ (List.mem_append_left _ (List.mem_append_right _ (List.mem_append_right _ (List.mem_append_left _ h)))))), (fun _ h => (List.mem_cons_of_mem _ (List.mem_append_left _ (List.mem_append_right _ (List.mem_append_right _ (List.mem_append_right _ (List.mem_append_left _ h))))))), (fun _ h => (List.mem_cons_of_mem _ (List.mem_append_left _ (List.mem_append_right _ (List.mem_append_right _ (List.mem_append_right _ (List.mem_append_right _ h))))))), trivial⟩
set_option maxRecDepth 20000 in
theorem ggX9_sum_X9_entry : GoodIn wsX9_sum wsX9_entry := (goodIn_cons (good_rb bq_wsX9_sum ([(2, 0)] : List (Nat × Nat)) rfl (by decide +kernel)) (goodIn_app (good_rb bq_wsX9_sum ([(0, 0), (2, 1), (2, 2), (2, 3), (2, 4)] : List (Nat × Nat)) rfl (by decide +kernel)) (goodIn_sb (fun _ h => (List.mem_cons_of_mem _ (List.mem_append_right _ h))) (by decide +kernel))))
set_option maxRecDepth 20000 in
theorem gX9_sum_X9_entry : GoodIn wsX9_sum (wsV RX9 216 RX9 yX9_entry wsX9_entry) := goodIn_app (good_rp ([46, 47, 48, 6] : List Nat) rfl (by decide +kernel)) ggX9_sum_X9_entry
set_option maxRecDepth 20000 in
theorem ggX9_sum_X9_sign : GoodIn wsX9_sum wsX9_sign := (goodIn_cons (good_rb bq_wsX9_sum ([(0, 20)] : List (Nat × Nat)) rfl (by decide +kernel)) (goodIn_app (good_rb bq_wsX9_sum ([(0, 1), (0, 21), (0, 22)] : List (Nat × Nat)) rfl (by decide +kernel)) (goodIn_sb (fun _ h => (List.mem_cons_of_mem _ (List.mem_append_right _ h))) (by decide +kernel))))
set_option maxRecDepth 20000 in
theorem gX9_sum_X9_sign : GoodIn wsX9_sum (wsV RX9 167 RX9 yX9_sign wsX9_sign) := goodIn_app (good_rp ([18, 19, 20, 6] : List Nat) rfl (by decide +kernel)) ggX9_sum_X9_sign
set_option maxRecDepth 20000 in
theorem ggX9_sum_X9_term : GoodIn wsX9_sum wsX9_term := (goodIn_cons (good_rb bq_wsX9_sum ([(0, 6)] : List (Nat × Nat)) rfl (by decide +kernel)) (goodIn_app (goodIn_app (good_rb bq_wsX9_sum ([(0, 0), (0, 1), (0, 7), (0, 8), (0, 9), (0, 5), (0, 10), (0, 11), (0, 12), (0, 13), (0, 14), (0, 15), (0, 16), (0, 17), (0, 18), (0, 19), (0, 20), (0, 21), (0, 22), (0, 23), (1, 0), (1, 1), (1, 2), (1, 3)] : List (Nat × Nat)) rfl (by decide +kernel)) (goodIn_app (good_rb bq_wsX9_sum ([(1, 4), (1, 5), (1, 6), (1, 7), (1, 8), (1, 9), (1, 10), (1, 11), (1, 12), (1, 13), (1, 14), (1, 15), (1, 16), (1, 17), (1, 18), (1, 19), (1, 20), (1, 21), (1, 22), (1, 23), (2, 0), (2, 1), (2, 2), (2, 3)] : List (Nat × Nat)) rfl (by decide +kernel)) (goodIn_app (good_rb bq_wsX9_sum ([(2, 4), (2, 5), (2, 6), (2, 7), (2, 8), (2, 9), (2, 10), (2, 11), (2, 12), (2, 13), (2, 14), (2, 15), (2, 16), (2, 17), (2, 18), (2, 19), (2, 20), (2, 21), (2, 22), (2, 23), (3, 0), (3, 1), (3, 2), (3, 3)] : List (Nat × Nat)) rfl (by decide +kernel)) (goodIn_app (good_rb bq_wsX9_sum ([(3, 4), (3, 5), (3, 6), (3, 7), (3, 8), (3, 9), (3, 10), (3, 11), (3, 12), (3, 13), (3, 14), (3, 15), (3, 16), (3, 17), (3, 18), (3, 19), (3, 20), (3, 21), (3, 22), (3, 23), (4, 0), (4, 1), (4, 2), (4, 3)] : List (Nat × Nat)) rfl (by decide +kernel)) (good_rb bq_wsX9_sum ([(4, 4), (4, 5), (4, 6), (4, 7), (4, 8), (4, 9), (4, 10), (4, 11), (4, 12)] : List (Nat × Nat)) rfl (by decide +kernel)))))) (goodIn_sb (fun _ h => (List.mem_cons_of_mem _ (List.mem_append_right _ h))) (by decide +kernel))))
set_option maxRecDepth 20000 in
theorem gX9_sum_X9_term : GoodIn wsX9_sum (wsV RX9 226 RX9 yX9_term wsX9_term) := goodIn_app (good_rp ([3, 4, 5, 6] : List Nat) rfl (by decide +kernel)) ggX9_sum_X9_term
set_option maxRecDepth 20000 in
theorem bq_wsX9_takes : subq wsX9_takes [wsX9_takes_r1, wsX9_takes_r2, wsX9_takes_r3] := ⟨(fun _ h => (List.mem_cons_of_mem _ (List.mem_append_left _ (List.mem_append_left _ h)))), (fun _ h => (List.mem_cons_of_mem _ (List.mem_append_left _ (List.mem_append_right _ (List.mem_append_left _ h))))), (fun _ h => (List.mem_cons_of_mem _ (List.mem_append_left _ (List.mem_append_right _ (List.mem_append_right _ h))))), trivial⟩
set_option maxRecDepth 20000 in
theorem ggX9_takes_J0_length_8abf5 : GoodIn wsX9_takes wsJ0_length_8abf5 := (goodIn_cons (good_rb bq_wsX9_takes ([(0, 20)] : List (Nat × Nat)) rfl (by decide +kernel)) (good_rb bq_wsX9_takes ([(0, 21), (0, 22), (0, 23), (1, 0), (0, 19), (1, 1), (1, 2), (1, 3)] : List (Nat × Nat)) rfl (by decide +kernel)))
set_option maxRecDepth 20000 in
theorem gX9_takes_J0_length_8abf5 : GoodIn wsX9_takes (wsV RX9 175 RJ0 yJ0_length_8abf5 wsJ0_length_8abf5) := goodIn_app (good_rp ([17, 18, 19, 20] : List Nat) rfl (by decide +kernel)) ggX9_takes_J0_length_8abf5
set_option maxRecDepth 20000 in
theorem ggX9_takes_X9_blanks : GoodIn wsX9_takes wsX9_blanks := (goodIn_cons (good_rb bq_wsX9_takes ([(0, 5)] : List (Nat × Nat)) rfl (by decide +kernel)) (goodIn_app (good_rb bq_wsX9_takes ([(0, 0), (0, 6), (0, 7), (0, 8), (0, 4), (0, 9), (0, 10), (0, 11)] : List (Nat × Nat)) rfl (by decide +kernel)) (goodIn_sb (fun _ h => (List.mem_cons_of_mem _ (List.mem_append_right _ h))) (by decide +kernel))))
set_option maxRecDepth 20000 in
theorem gX9_takes_X9_blanks : GoodIn wsX9_takes (wsV RX9 184 RX9 yX9_blanks wsX9_blanks) := goodIn_app (good_rp ([2, 3, 4, 5] : List Nat) rfl (by decide +kernel)) ggX9_takes_X9_blanks
set_option maxRecDepth 20000 in
theorem ggX9_takes_X9_stood : GoodIn wsX9_takes wsX9_stood := (goodIn_cons (good_rb bq_wsX9_takes ([(0, 15)] : List (Nat × Nat)) rfl (by decide +kernel)) (goodIn_app (goodIn_app (good_rb bq_wsX9_takes ([(0, 0), (0, 10), (0, 11), (0, 16), (0, 17), (0, 18), (0, 19), (0, 20), (0, 21), (0, 22), (0, 23), (1, 0), (1, 1), (1, 2), (1, 3), (1, 4), (1, 5), (1, 6), (1, 7), (1, 8), (1, 9), (1, 10), (1, 11), (1, 12)] : List (Nat × Nat)) rfl (by decide +kernel)) (goodIn_app (good_rb bq_wsX9_takes ([(1, 13), (1, 14), (1, 15), (1, 16), (1, 17), (1, 18), (1, 19), (1, 20), (1, 21), (1, 22), (1, 23), (2, 0), (2, 1), (2, 2), (2, 3), (2, 4), (2, 5), (2, 6), (2, 7), (2, 8), (2, 9), (2, 10), (2, 11), (2, 12)] : List (Nat × Nat)) rfl (by decide +kernel)) (good_rb bq_wsX9_takes ([(2, 13), (2, 14), (2, 15), (2, 16)] : List (Nat × Nat)) rfl (by decide +kernel)))) (goodIn_sb (fun _ h => (List.mem_cons_of_mem _ (List.mem_append_right _ h))) (by decide +kernel))))
set_option maxRecDepth 20000 in
theorem gX9_takes_X9_stood : GoodIn wsX9_takes (wsV RX9 187 RX9 yX9_stood wsX9_stood) := goodIn_app (good_rp ([13, 14, 15, 5] : List Nat) rfl (by decide +kernel)) ggX9_takes_X9_stood
set_option maxRecDepth 20000 in
theorem bq_wsX9_term : subq wsX9_term [wsX9_term_r1, wsX9_term_r2, wsX9_term_r3, wsX9_term_r4, wsX9_term_r5] := ⟨(fun _ h => (List.mem_cons_of_mem _ (List.mem_append_left _ (List.mem_append_left _ h)))), (fun _ h => (List.mem_cons_of_mem _ (List.mem_append_left _ (List.mem_append_right _ (List.mem_append_left _ h))))), (fun _ h => (List.mem_cons_of_mem _ (List.mem_append_left _ (List.mem_append_right _ (List.mem_append_right _ (List.mem_append_left _ h)))))), (fun _ h => (List.mem_cons_of_mem _ (List.mem_append_left _ (List.mem_append_right _ (List.mem_append_right _ (List.mem_append_right _ (List.mem_append_left _ h))))))), (fun _ h => (List.mem_cons_of_mem _ (List.mem_append_left _ (List.mem_append_right _ (List.mem_append_right _ (List.mem_append_right _ (List.mem_append_right _ h))))))), trivial⟩
set_option maxRecDepth 20000 in
theorem ggX9_term_X9_blanks : GoodIn wsX9_term wsX9_blanks := (goodIn_cons (good_rb bq_wsX9_term ([(0, 12)] : List (Nat × Nat)) rfl (by decide +kernel)) (goodIn_app (good_rb bq_wsX9_term ([(0, 1), (0, 13), (0, 14), (0, 15), (0, 5), (0, 16), (0, 17), (0, 18)] : List (Nat × Nat)) rfl (by decide +kernel)) (goodIn_sb (fun _ h => (List.mem_cons_of_mem _ (List.mem_append_right _ h))) (by decide +kernel))))
set_option maxRecDepth 20000 in
theorem gX9_term_X9_blanks : GoodIn wsX9_term (wsV RX9 184 RX9 yX9_blanks wsX9_blanks) := goodIn_app (good_rp ([10, 11, 12, 6] : List Nat) rfl (by decide +kernel)) ggX9_term_X9_blanks
set_option maxRecDepth 20000 in
theorem ggX9_term_X9_entry : GoodIn wsX9_term wsX9_entry := (goodIn_cons (good_rb bq_wsX9_term ([(1, 20)] : List (Nat × Nat)) rfl (by decide +kernel)) (goodIn_app (good_rb bq_wsX9_term ([(0, 0), (1, 21), (1, 22), (1, 23), (2, 0)] : List (Nat × Nat)) rfl (by decide +kernel)) (goodIn_sb (fun _ h => (List.mem_cons_of_mem _ (List.mem_append_right _ h))) (by decide +kernel))))
set_option maxRecDepth 20000 in
theorem gX9_term_X9_entry : GoodIn wsX9_term (wsV RX9 216 RX9 yX9_entry wsX9_entry) := goodIn_app (good_rp ([42, 43, 44, 6] : List Nat) rfl (by decide +kernel)) ggX9_term_X9_entry
set_option maxRecDepth 20000 in
theorem ggX9_term_X9_sign : GoodIn wsX9_term wsX9_sign := (goodIn_cons (good_rb bq_wsX9_term ([(0, 16)] : List (Nat × Nat)) rfl (by decide +kernel)) (goodIn_app (good_rb bq_wsX9_term ([(0, 1), (0, 17), (0, 18)] : List (Nat × Nat)) rfl (by decide +kernel)) (goodIn_sb (fun _ h => (List.mem_cons_of_mem _ (List.mem_append_right _ h))) (by decide +kernel))))
set_option maxRecDepth 20000 in
theorem gX9_term_X9_sign : GoodIn wsX9_term (wsV RX9 167 RX9 yX9_sign wsX9_sign) := goodIn_app (good_rp ([14, 15, 16, 6] : List Nat) rfl (by decide +kernel)) ggX9_term_X9_sign
set_option maxRecDepth 20000 in
theorem ggX9_term_X9_value : GoodIn wsX9_term wsX9_value := (goodIn_cons (good_rb bq_wsX9_term ([(0, 6)] : List (Nat × Nat)) rfl (by decide +kernel)) (goodIn_app (goodIn_app (good_rb bq_wsX9_term ([(0, 1), (0, 7), (0, 8), (0, 9), (0, 10), (0, 11), (0, 5), (0, 12), (0, 13), (0, 14), (0, 15), (0, 16), (0, 17), (0, 18), (0, 19), (0, 20), (0, 21), (0, 22), (0, 23), (1, 0), (1, 1), (1, 2), (1, 3), (1, 4)] : List (Nat × Nat)) rfl (by decide +kernel)) (goodIn_app (good_rb bq_wsX9_term ([(1, 5), (1, 6), (1, 7), (1, 8), (1, 9), (1, 10), (1, 11), (0, 0), (1, 12), (1, 13), (1, 14), (1, 15), (1, 16), (1, 17), (1, 18), (1, 19), (1, 20), (1, 21), (1, 22), (1, 23), (2, 0), (2, 1), (2, 2), (2, 3)] : List (Nat × Nat)) rfl (by decide +kernel)) (goodIn_app (good_rb bq_wsX9_term ([(2, 4), (2, 5), (2, 6), (2, 7), (2, 8), (2, 9), (2, 10), (2, 11), (2, 12), (2, 13), (2, 14), (2, 15), (2, 16), (2, 17), (2, 18), (2, 19), (2, 20), (2, 21), (2, 22), (2, 23), (3, 0), (3, 1), (3, 2), (3, 3)] : List (Nat × Nat)) rfl (by decide +kernel)) (goodIn_app (good_rb bq_wsX9_term ([(3, 4), (3, 5), (3, 6), (3, 7), (3, 8), (3, 9), (3, 10), (3, 11), (3, 12), (3, 13), (3, 14), (3, 15), (3, 16), (3, 17), (3, 18), (3, 19), (3, 20), (3, 21), (3, 22), (3, 23), (4, 0), (4, 1), (4, 2), (4, 3)] : List (Nat × Nat)) rfl (by decide +kernel)) (good_rb bq_wsX9_term ([(4, 4), (4, 5), (4, 6), (4, 7), (4, 8)] : List (Nat × Nat)) rfl (by decide +kernel)))))) (goodIn_sb (fun _ h => (List.mem_cons_of_mem _ (List.mem_append_right _ h))) (by decide +kernel))))
set_option maxRecDepth 20000 in
theorem gX9_term_X9_value : GoodIn wsX9_term (wsV RX9 223 RX9 yX9_value wsX9_value) := goodIn_app (good_rp ([3, 4, 5, 6] : List Nat) rfl (by decide +kernel)) ggX9_term_X9_value
set_option maxRecDepth 20000 in
theorem bq_wsX9_test : subq wsX9_test [wsX9_test_r1, wsX9_test_r2, wsX9_test_r3, wsX9_test_r4, wsX9_test_r5, wsX9_test_r6] := ⟨(fun _ h => (List.mem_cons_of_mem _ (List.mem_append_left _ (List.mem_append_left _ h)))), (fun _ h => (List.mem_cons_of_mem _ (List.mem_append_left _ (List.mem_append_right _ (List.mem_append_left _ h))))), (fun _ h => (List.mem_cons_of_mem _ (List.mem_append_left _ (List.mem_append_right _ (List.mem_append_right _ (List.mem_append_left _ h)))))), (fun _ h => (List.mem_cons_of_mem _ (List.mem_append_left _ (List.mem_append_right _ (List.mem_append_right _ (List.mem_append_right _ (List.mem_append_left _ h))))))), (fun _ h => (List.mem_cons_of_mem _ (List.mem_append_left _ (List.mem_append_right _ (List.mem_append_right _ (List.mem_append_right _ (List.mem_append_right _ (List.mem_append_left _ h)))))))), (fun _ h => (List.mem_cons_of_mem _ (List.mem_append_left _ (List.mem_append_right _ (List.mem_append_right _ (List.mem_append_right _ (List.mem_append_right _ (List.mem_append_right _ h)))))))), trivial⟩
set_option maxRecDepth 20000 in
theorem ggX9_test_X9_answers : GoodIn wsX9_test wsX9_answers := (goodIn_cons (good_rb bq_wsX9_test ([(5, 11)] : List (Nat × Nat)) rfl (by decide +kernel)) (goodIn_app (good_rb bq_wsX9_test ([(0, 1), (0, 0), (0, 3), (5, 12), (5, 13), (5, 14), (0, 7), (5, 15), (3, 4), (4, 21), (4, 22), (4, 23), (5, 0), (5, 1), (5, 2), (5, 3), (5, 4)] : List (Nat × Nat)) rfl (by decide +kernel)) (goodIn_sb (fun _ h => (List.mem_cons_of_mem _ (List.mem_append_right _ h))) (by decide +kernel))))
set_option maxRecDepth 20000 in
theorem gX9_test_X9_answers : GoodIn wsX9_test (wsV RX9 252 RX9 yX9_answers wsX9_answers) := goodIn_app (good_rp ([129, 130, 131, 8] : List Nat) rfl (by decide +kernel)) ggX9_test_X9_answers
set_option maxRecDepth 20000 in
theorem ggX9_test_X9_blanks : GoodIn wsX9_test wsX9_blanks := (goodIn_cons (good_rb bq_wsX9_test ([(0, 12)] : List (Nat × Nat)) rfl (by decide +kernel)) (goodIn_app (good_rb bq_wsX9_test ([(0, 2), (0, 13), (0, 14), (0, 15), (0, 7), (0, 16), (0, 17), (0, 18)] : List (Nat × Nat)) rfl (by decide +kernel)) (goodIn_sb (fun _ h => (List.mem_cons_of_mem _ (List.mem_append_right _ h))) (by decide +kernel))))
set_option maxRecDepth 20000 in
theorem gX9_test_X9_blanks : GoodIn wsX9_test (wsV RX9 184 RX9 yX9_blanks wsX9_blanks) := goodIn_app (good_rp ([10, 11, 12, 8] : List Nat) rfl (by decide +kernel)) ggX9_test_X9_blanks
set_option maxRecDepth 20000 in
theorem ggX9_test_X9_fact : GoodIn wsX9_test wsX9_fact := (goodIn_cons (good_rb bq_wsX9_test ([(0, 8)] : List (Nat × Nat)) rfl (by decide +kernel)) (goodIn_app (goodIn_app (good_rb bq_wsX9_test ([(0, 2), (0, 9), (0, 10), (0, 11), (0, 7), (0, 12), (0, 13), (0, 14), (0, 15), (0, 16), (0, 17), (0, 18), (0, 19), (0, 20), (0, 21), (0, 22), (0, 23), (1, 0), (1, 1), (1, 2), (1, 3), (1, 4), (1, 5), (1, 6)] : List (Nat × Nat)) rfl (by decide +kernel)) (goodIn_app (good_rb bq_wsX9_test ([(1, 7), (1, 8), (1, 9), (1, 10), (1, 11), (1, 12), (1, 13), (1, 14), (1, 15), (1, 16), (1, 17), (1, 18), (1, 19), (1, 20), (1, 21), (1, 22), (1, 23), (2, 0), (2, 1), (2, 2), (2, 3), (2, 4), (2, 5), (2, 6)] : List (Nat × Nat)) rfl (by decide +kernel)) (goodIn_app (good_rb bq_wsX9_test ([(2, 7), (2, 8), (2, 9), (2, 10), (2, 11), (2, 12), (2, 13), (2, 14), (2, 15), (2, 16), (2, 17), (2, 18), (2, 19), (2, 20), (2, 21), (2, 22), (2, 23), (3, 0), (3, 1), (3, 2), (3, 3), (0, 3), (3, 4), (0, 0)] : List (Nat × Nat)) rfl (by decide +kernel)) (goodIn_app (good_rb bq_wsX9_test ([(3, 5), (3, 6), (3, 7), (3, 8), (0, 1), (3, 9), (3, 10), (3, 11), (3, 12), (3, 13), (3, 14), (3, 15), (3, 16), (3, 17), (3, 18), (3, 19), (3, 20), (3, 21), (3, 22), (3, 23), (4, 0), (4, 1), (4, 2), (4, 3)] : List (Nat × Nat)) rfl (by decide +kernel)) (goodIn_app (good_rb bq_wsX9_test ([(4, 4), (4, 5), (4, 6), (4, 7), (4, 8), (4, 9), (4, 10), (4, 11), (4, 12), (4, 13), (4, 14), (4, 15), (4, 16), (4, 17), (4, 18), (4, 19), (4, 20), (4, 21), (4, 22), (4, 23), (5, 0), (5, 1), (5, 2), (5, 3)] : List (Nat × Nat)) rfl (by decide +kernel)) (good_rb bq_wsX9_test ([(5, 4), (5, 5), (5, 6), (5, 7)] : List (Nat × Nat)) rfl (by decide +kernel))))))) (goodIn_sb (fun _ h => (List.mem_cons_of_mem _ (List.mem_append_right _ h))) (by decide +kernel))))
set_option maxRecDepth 20000 in
theorem gX9_test_X9_fact : GoodIn wsX9_test (wsV RX9 249 RX9 yX9_fact wsX9_fact) := goodIn_app (good_rp ([5, 6, 7, 8] : List Nat) rfl (by decide +kernel)) ggX9_test_X9_fact
set_option maxRecDepth 20000 in
theorem ggX9_test_X9_fails : GoodIn wsX9_test wsX9_fails := (goodIn_cons (good_rb bq_wsX9_test ([(3, 8)] : List (Nat × Nat)) rfl (by decide +kernel)) (goodIn_app (good_rb bq_wsX9_test ([(0, 1)] : List (Nat × Nat)) rfl (by decide +kernel)) (goodIn_sb (fun _ h => (List.mem_cons_of_mem _ (List.mem_append_right _ h))) (by decide +kernel))))
set_option maxRecDepth 20000 in
theorem gX9_test_X9_fails : GoodIn wsX9_test (wsV RX9 200 RX9 yX9_fails wsX9_fails) := goodIn_app (good_rp ([78, 79, 80, 8] : List Nat) rfl (by decide +kernel)) ggX9_test_X9_fails
set_option maxRecDepth 20000 in
theorem ggX9_test_X9_opens : GoodIn wsX9_test wsX9_opens := (goodIn_cons (good_rb bq_wsX9_test ([(3, 3)] : List (Nat × Nat)) rfl (by decide +kernel)) (goodIn_app (good_rb bq_wsX9_test ([(0, 3), (0, 2), (3, 4), (0, 0), (3, 5), (3, 6), (3, 7), (0, 7), (3, 8), (0, 1)] : List (Nat × Nat)) rfl (by decide +kernel)) (goodIn_sb (fun _ h => (List.mem_cons_of_mem _ (List.mem_append_right _ h))) (by decide +kernel))))
set_option maxRecDepth 20000 in
theorem gX9_test_X9_opens : GoodIn wsX9_test (wsV RX9 243 RX9 yX9_opens wsX9_opens) := goodIn_app (good_rp ([73, 74, 75, 8] : List Nat) rfl (by decide +kernel)) ggX9_test_X9_opens
set_option maxRecDepth 20000 in
theorem ggX9_test_X9_sign : GoodIn wsX9_test wsX9_sign := (goodIn_cons (good_rb bq_wsX9_test ([(0, 16)] : List (Nat × Nat)) rfl (by decide +kernel)) (goodIn_app (good_rb bq_wsX9_test ([(0, 2), (0, 17), (0, 18)] : List (Nat × Nat)) rfl (by decide +kernel)) (goodIn_sb (fun _ h => (List.mem_cons_of_mem _ (List.mem_append_right _ h))) (by decide +kernel))))
set_option maxRecDepth 20000 in
theorem gX9_test_X9_sign : GoodIn wsX9_test (wsV RX9 167 RX9 yX9_sign wsX9_sign) := goodIn_app (good_rp ([14, 15, 16, 8] : List Nat) rfl (by decide +kernel)) ggX9_test_X9_sign
set_option maxRecDepth 20000 in
theorem ggX9_test_X9_stood : GoodIn wsX9_test wsX9_stood := (goodIn_cons (good_rb bq_wsX9_test ([(0, 22)] : List (Nat × Nat)) rfl (by decide +kernel)) (goodIn_app (goodIn_app (good_rb bq_wsX9_test ([(0, 2), (0, 17), (0, 18), (0, 23), (1, 0), (1, 1), (1, 2), (1, 3), (1, 4), (1, 5), (1, 6), (1, 7), (1, 8), (1, 9), (1, 10), (1, 11), (1, 12), (1, 13), (1, 14), (1, 15), (1, 16), (1, 17), (1, 18), (1, 19)] : List (Nat × Nat)) rfl (by decide +kernel)) (goodIn_app (good_rb bq_wsX9_test ([(1, 20), (1, 21), (1, 22), (1, 23), (2, 0), (2, 1), (2, 2), (2, 3), (2, 4), (2, 5), (2, 6), (2, 7), (2, 8), (2, 9), (2, 10), (2, 11), (2, 12), (2, 13), (2, 14), (2, 15), (2, 16), (2, 17), (2, 18), (2, 19)] : List (Nat × Nat)) rfl (by decide +kernel)) (good_rb bq_wsX9_test ([(2, 20), (2, 21), (2, 22), (2, 23)] : List (Nat × Nat)) rfl (by decide +kernel)))) (goodIn_sb (fun _ h => (List.mem_cons_of_mem _ (List.mem_append_right _ h))) (by decide +kernel))))
set_option maxRecDepth 20000 in
theorem gX9_test_X9_stood : GoodIn wsX9_test (wsV RX9 187 RX9 yX9_stood wsX9_stood) := goodIn_app (good_rp ([20, 21, 22, 8] : List Nat) rfl (by decide +kernel)) ggX9_test_X9_stood
set_option maxRecDepth 20000 in
theorem ggX9_test_X9_top : GoodIn wsX9_test wsX9_top := (goodIn_cons (good_rb bq_wsX9_test ([(5, 15)] : List (Nat × Nat)) rfl (by decide +kernel)) (goodIn_app (good_rb bq_wsX9_test ([(0, 0), (3, 4)] : List (Nat × Nat)) rfl (by decide +kernel)) (goodIn_sb (fun _ h => (List.mem_cons_of_mem _ (List.mem_append_right _ h))) (by decide +kernel))))
set_option maxRecDepth 20000 in
theorem gX9_test_X9_top : GoodIn wsX9_test (wsV RX9 238 RX9 yX9_top wsX9_top) := goodIn_app (good_rp ([133, 134, 135, 8] : List Nat) rfl (by decide +kernel)) ggX9_test_X9_top
set_option maxRecDepth 20000 in
theorem bq_wsX9_value : subq wsX9_value [wsX9_value_r1, wsX9_value_r2, wsX9_value_r3, wsX9_value_r4, wsX9_value_r5] := ⟨(fun _ h => (List.mem_cons_of_mem _ (List.mem_append_left _ (List.mem_append_left _ h)))), (fun _ h => (List.mem_cons_of_mem _ (List.mem_append_left _ (List.mem_append_right _ (List.mem_append_left _ h))))), (fun _ h => (List.mem_cons_of_mem _ (List.mem_append_left _ (List.mem_append_right _ (List.mem_append_right _ (List.mem_append_left _ h)))))), (fun _ h => (List.mem_cons_of_mem _ (List.mem_append_left _ (List.mem_append_right _ (List.mem_append_right _ (List.mem_append_right _ (List.mem_append_left _ h))))))), (fun _ h => (List.mem_cons_of_mem _ (List.mem_append_left _ (List.mem_append_right _ (List.mem_append_right _ (List.mem_append_right _ (List.mem_append_right _ h))))))), trivial⟩
set_option maxRecDepth 20000 in
theorem ggX9_value_J0_length_8abf5 : GoodIn wsX9_value wsJ0_length_8abf5 := (goodIn_cons (good_rb bq_wsX9_value ([(2, 8)] : List (Nat × Nat)) rfl (by decide +kernel)) (good_rb bq_wsX9_value ([(2, 9), (2, 10), (2, 11), (2, 12), (2, 7), (2, 13), (2, 14), (2, 15)] : List (Nat × Nat)) rfl (by decide +kernel)))
set_option maxRecDepth 20000 in
theorem gX9_value_J0_length_8abf5 : GoodIn wsX9_value (wsV RX9 175 RJ0 yJ0_length_8abf5 wsJ0_length_8abf5) := goodIn_app (good_rp ([53, 54, 55, 56] : List Nat) rfl (by decide +kernel)) ggX9_value_J0_length_8abf5
set_option maxRecDepth 20000 in
theorem ggX9_value_X9_blanks : GoodIn wsX9_value wsX9_blanks := (goodIn_cons (good_rb bq_wsX9_value ([(0, 7)] : List (Nat × Nat)) rfl (by decide +kernel)) (goodIn_app (good_rb bq_wsX9_value ([(0, 0), (0, 8), (0, 9), (0, 10), (0, 6), (0, 11), (0, 12), (0, 13)] : List (Nat × Nat)) rfl (by decide +kernel)) (goodIn_sb (fun _ h => (List.mem_cons_of_mem _ (List.mem_append_right _ h))) (by decide +kernel))))
set_option maxRecDepth 20000 in
theorem gX9_value_X9_blanks : GoodIn wsX9_value (wsV RX9 184 RX9 yX9_blanks wsX9_blanks) := goodIn_app (good_rp ([4, 5, 6, 7] : List Nat) rfl (by decide +kernel)) ggX9_value_X9_blanks
set_option maxRecDepth 20000 in
theorem ggX9_value_X9_digits : GoodIn wsX9_value wsX9_digits := (goodIn_cons (good_rb bq_wsX9_value ([(1, 2)] : List (Nat × Nat)) rfl (by decide +kernel)) (goodIn_app (good_rb bq_wsX9_value ([(0, 0), (0, 14), (0, 15), (0, 16), (0, 6), (0, 17), (0, 18), (0, 19), (0, 8), (0, 9), (0, 10), (0, 11), (0, 12), (0, 13), (0, 20), (0, 21), (0, 22), (1, 3), (1, 4), (1, 5), (1, 6), (1, 7)] : List (Nat × Nat)) rfl (by decide +kernel)) (goodIn_sb (fun _ h => (List.mem_cons_of_mem _ (List.mem_append_right _ h))) (by decide +kernel))))
set_option maxRecDepth 20000 in
theorem gX9_value_X9_digits : GoodIn wsX9_value (wsV RX9 209 RX9 yX9_digits wsX9_digits) := goodIn_app (good_rp ([24, 25, 26, 7] : List Nat) rfl (by decide +kernel)) ggX9_value_X9_digits
set_option maxRecDepth 20000 in
theorem ggX9_value_X9_entry : GoodIn wsX9_value wsX9_entry := (goodIn_cons (good_rb bq_wsX9_value ([(1, 16)] : List (Nat × Nat)) rfl (by decide +kernel)) (goodIn_app (good_rb bq_wsX9_value ([(1, 7), (1, 17), (1, 18), (1, 19), (1, 20)] : List (Nat × Nat)) rfl (by decide +kernel)) (goodIn_sb (fun _ h => (List.mem_cons_of_mem _ (List.mem_append_right _ h))) (by decide +kernel))))
set_option maxRecDepth 20000 in
theorem gX9_value_X9_entry : GoodIn wsX9_value (wsV RX9 216 RX9 yX9_entry wsX9_entry) := goodIn_app (good_rp ([38, 39, 40, 7] : List Nat) rfl (by decide +kernel)) ggX9_value_X9_entry
set_option maxRecDepth 20000 in
theorem ggX9_value_X9_fails : GoodIn wsX9_value wsX9_fails := (goodIn_cons (good_rb bq_wsX9_value ([(1, 6)] : List (Nat × Nat)) rfl (by decide +kernel)) (goodIn_app (good_rb bq_wsX9_value ([(1, 7)] : List (Nat × Nat)) rfl (by decide +kernel)) (goodIn_sb (fun _ h => (List.mem_cons_of_mem _ (List.mem_append_right _ h))) (by decide +kernel))))
set_option maxRecDepth 20000 in
theorem gX9_value_X9_fails : GoodIn wsX9_value (wsV RX9 200 RX9 yX9_fails wsX9_fails) := goodIn_app (good_rp ([28, 29, 30, 7] : List Nat) rfl (by decide +kernel)) ggX9_value_X9_fails
set_option maxRecDepth 20000 in
theorem ggX9_value_X9_isCounted : GoodIn wsX9_value wsX9_isCounted := (goodIn_cons (good_rb bq_wsX9_value ([(1, 11)] : List (Nat × Nat)) rfl (by decide +kernel)) (goodIn_app (good_rb bq_wsX9_value ([(1, 12), (1, 3), (1, 4), (1, 5), (0, 6), (1, 6), (1, 7)] : List (Nat × Nat)) rfl (by decide +kernel)) (goodIn_sb (fun _ h => (List.mem_cons_of_mem _ (List.mem_append_right _ h))) (by decide +kernel))))
set_option maxRecDepth 20000 in
theorem gX9_value_X9_isCounted : GoodIn wsX9_value (wsV RX9 213 RX9 yX9_isCounted wsX9_isCounted) := goodIn_app (good_rp ([33, 34, 35, 7] : List Nat) rfl (by decide +kernel)) ggX9_value_X9_isCounted
set_option maxRecDepth 20000 in
theorem ggX9_value_X9_isDigit : GoodIn wsX9_value wsX9_isDigit := (goodIn_cons (good_rb bq_wsX9_value ([(0, 17)] : List (Nat × Nat)) rfl (by decide +kernel)) (goodIn_app (good_rb bq_wsX9_value ([(0, 18), (0, 19), (0, 8), (0, 9), (0, 10), (0, 6), (0, 11), (0, 0), (0, 12), (0, 13), (0, 20), (0, 21), (0, 22)] : List (Nat × Nat)) rfl (by decide +kernel)) (goodIn_sb (fun _ h => (List.mem_cons_of_mem _ (List.mem_append_right _ h))) (by decide +kernel))))
set_option maxRecDepth 20000 in
theorem gX9_value_X9_isDigit : GoodIn wsX9_value (wsV RX9 204 RX9 yX9_isDigit wsX9_isDigit) := goodIn_app (good_rp ([15, 16, 17, 7] : List Nat) rfl (by decide +kernel)) ggX9_value_X9_isDigit
set_option maxRecDepth 20000 in
theorem ggX9_value_X9_stood : GoodIn wsX9_value wsX9_stood := (goodIn_cons (good_rb bq_wsX9_value ([(2, 3)] : List (Nat × Nat)) rfl (by decide +kernel)) (goodIn_app (goodIn_app (good_rb bq_wsX9_value ([(0, 0), (0, 12), (0, 13), (2, 4), (2, 5), (2, 6), (2, 7), (2, 8), (2, 9), (2, 10), (2, 11), (2, 12), (2, 13), (2, 14), (2, 15), (2, 16), (2, 17), (2, 18), (2, 19), (2, 20), (2, 21), (2, 22), (2, 23), (3, 0)] : List (Nat × Nat)) rfl (by decide +kernel)) (goodIn_app (good_rb bq_wsX9_value ([(3, 1), (3, 2), (3, 3), (3, 4), (3, 5), (3, 6), (3, 7), (3, 8), (3, 9), (3, 10), (3, 11), (3, 12), (3, 13), (3, 14), (3, 15), (3, 16), (3, 17), (3, 18), (3, 19), (3, 20), (3, 21), (3, 22), (3, 23), (4, 0)] : List (Nat × Nat)) rfl (by decide +kernel)) (good_rb bq_wsX9_value ([(4, 1), (4, 2), (4, 3), (4, 4)] : List (Nat × Nat)) rfl (by decide +kernel)))) (goodIn_sb (fun _ h => (List.mem_cons_of_mem _ (List.mem_append_right _ h))) (by decide +kernel))))
set_option maxRecDepth 20000 in
theorem gX9_value_X9_stood : GoodIn wsX9_value (wsV RX9 187 RX9 yX9_stood wsX9_stood) := goodIn_app (good_rp ([49, 50, 51, 7] : List Nat) rfl (by decide +kernel)) ggX9_value_X9_stood
set_option maxRecDepth 20000 in
theorem ggX9_value_X9_wordOf : GoodIn wsX9_value wsX9_wordOf := (goodIn_cons (good_rb bq_wsX9_value ([(1, 23)] : List (Nat × Nat)) rfl (by decide +kernel)) (good_rb bq_wsX9_value ([] : List (Nat × Nat)) rfl (by decide +kernel)))
set_option maxRecDepth 20000 in
theorem gX9_value_X9_wordOf : GoodIn wsX9_value (va_wsS RX9 219 yX9_wordOf wsX9_wordOf) := goodIn_app (good_rp ([46, 47, 7] : List Nat) rfl (by decide +kernel)) ggX9_value_X9_wordOf
noncomputable def b_X9_in_18 (F : Nat)    (y0 : Int32) : Option (Int32) :=
  if bo y0 then (some y0) else none
noncomputable def b_X9_in_17 (F : Nat)     : Option (Int32) :=
  b_X9_in_18 F 0
noncomputable def f_X9_in (F : Nat)  (x0 : Int64) (x2 : Int64) (x4 : Int64)  : Option (Int32) :=
  if (lg_cmp x0 x2) < 0 then (b_X9_in_17 F ) else (if 0 < (lg_cmp x0 x4) then (b_X9_in_17 F ) else (b_X9_in_18 F 1))
set_option maxHeartbeats 4000000 in
set_option maxRecDepth 100000 in
theorem c_X9_in (l : Launch) (D : va_G) (k : Nat → ClassId) (sz : Nat)   (F : Nat)  (x0 : Int64) (x2 : Int64) (x4 : Int64)   {res : Int32} (h : f_X9_in F x0 x2 x4 = some res) : CtI l yX9_in wsX9_in (rmK 1 0 0) [.long x0, .long x2, .long x4] D k sz ([]) (fun r (_ : Unit) => r = res) (fun _ : Unit => []) 0 0 := by
  refine CtI.mk (cc := cX9_in) (maxL := 6) (ret := (some .boolean)) (by decide) rfl (Nat.le_of_ble_eq_true rfl) ?_
  intro p e s m below meth c A ls E hP hD hS hl
  obtain ⟨hx, hb, hr, hml, hown, hts, hlocks, hin, hG, hA⟩ := E
  have hown : s.vm.findClass RX9 = some m.cls := hown
  have hl : lv_has ls 6 [(0, .long x0), (2, .long x2), (4, .long x4)] := hl
  have B18 : ∀ (y0 : Int32) (H : Heap) (locs : List Loc) (ls : Array Slot), b_X9_in_18 F y0 = some res → va_P D vwCl ([]) H → va_D A ([]) → va_S A s.heap H locs → lv_has ls 6 [] → W p l e (rmK 1 0 0) s m (List.toArray [.long x0, .long x2, .long x4]) below meth c H locs 0 0 (MQ below (va_Qi (fun r (_ : Unit) => r = res) (hcB D (fun _ : Unit => []) A) A) (List.toArray [.long x0, .long x2, .long x4]) s 0 0 A) (F0 m 18 ls [.int y0]) := by
    intro y0 H locs ls h hP hD hS hl
    obtain ⟨g1, h⟩ := fw_g h
    exact fw_endZ (rv := fun b : Int32 => b) (wp := fun b : Int32 => []) hx hb hr hlocks h (bo_z g1) rfl hP hD hS dX9_in_18
  have B17 : ∀ (H : Heap) (locs : List Loc) (ls : Array Slot), b_X9_in_17 F  = some res → va_P D vwCl ([]) H → va_D A ([]) → va_S A s.heap H locs → lv_has ls 6 [] → W p l e (rmK 1 0 0) s m (List.toArray [.long x0, .long x2, .long x4]) below meth c H locs 0 0 (MQ below (va_Qi (fun r (_ : Unit) => r = res) (hcB D (fun _ : Unit => []) A) A) (List.toArray [.long x0, .long x2, .long x4]) s 0 0 A) (F0 m 17 ls []) := by
    intro  H locs ls h hP hD hS hl
    refine lv_iconst (v := 0) hx hb dX9_in_17 (by decide) ?_
    exact B18 _ _ _ _ h hP hD hS hl
  refine lv_lload_n hx hb dX9_in_0 rfl (lv_at hl 0 rfl) ?_
  refine lv_lload_n hx hb dX9_in_1 rfl (lv_at hl 1 rfl) ?_
  refine W.lcmp hx hb dX9_in_2 ?_
  refine lv_if_lt (tgt := 17) hx hb dX9_in_3 (by decide) (fun c2 => ?_) (fun c2 => ?_)
  · have h := fw_t c2 h
    exact B17 _ _ _ h hP hD hS (lv_sub hl [] rfl)
  · have h := fw_f c2 h
    refine lv_lload_n hx hb dX9_in_6 rfl (lv_at hl 0 rfl) ?_
    refine lv_lload hx hb dX9_in_7 (lv_at hl 2 rfl) ?_
    refine W.lcmp hx hb dX9_in_9 ?_
    refine lv_if_gt (tgt := 17) hx hb dX9_in_10 (by decide) (fun c3 => ?_) (fun c3 => ?_)
    · have h := fw_t c3 h
      exact B17 _ _ _ h hP hD hS (lv_sub hl [] rfl)
    · have h := fw_f c3 h
      refine lv_iconst (v := 1) hx hb dX9_in_13 (by decide) ?_
      refine lv_goto (tgt := 18) hx hb dX9_in_14 (by decide) ?_
      exact B18 _ _ _ _ h hP hD hS (lv_sub hl [] rfl)
noncomputable def b_X9_bits_4 (F : Nat)    (k4 : (Int32 × Int32 × Int32) → Option (Int32)) (a4 : (Int32 × Int32 × Int32)) : Option (Int32) :=
  if 16 ≤ a4.2.2 then (some a4.2.1) else (k4 (a4.1, (a4.2.1 + ((a4.1 >>> (a4.2.2 &&& 31)) &&& 1)), (a4.2.2 + 1)))
noncomputable def f_X9_bits (F : Nat)  (x0 : Int32)  : Option (Int32) :=
  lp (b_X9_bits_4 F) F (x0, 0, 0)
set_option maxHeartbeats 4000000 in
set_option maxRecDepth 100000 in
theorem c_X9_bits (l : Launch) (D : va_G) (k : Nat → ClassId) (sz : Nat)   (F : Nat)  (x0 : Int32)   {res : Int32} (h : f_X9_bits F x0 = some res) : CtI l yX9_bits wsX9_bits (rmK 1 0 0) [.int x0] D k sz ([]) (fun r (_ : Unit) => r = res) (fun _ : Unit => []) 0 0 := by
  refine CtI.mk (cc := cX9_bits) (maxL := 3) (ret := (some .int)) (by decide) rfl (Nat.le_of_ble_eq_true rfl) ?_
  intro p e s m below meth c A ls E hP hD hS hl
  obtain ⟨hx, hb, hr, hml, hown, hts, hlocks, hin, hG, hA⟩ := E
  have hown : s.vm.findClass RX9 = some m.cls := hown
  have hl : lv_has ls 3 [(0, .int x0)] := hl
  have B4 : ∀ a4 : (Int32 × Int32 × Int32), lp (b_X9_bits_4 F) F a4 = some res → ∀ (H : Heap) (locs : List Loc) (ls : Array Slot), va_P D vwCl ([]) H → va_D A ([]) → va_S A s.heap H locs → lv_has ls 3 [(0, .int a4.1), (1, .int a4.2.1), (2, .int a4.2.2)] → W p l e (rmK 1 0 0) s m (List.toArray [.int x0]) below meth c H locs 0 0 (MQ below (va_Qi (fun r (_ : Unit) => r = res) (hcB D (fun _ : Unit => []) A) A) (List.toArray [.int x0]) s 0 0 A) (F0 m 4 ls []) := by
    refine lp_W ?_ F
    intro k4 hk4 a4 h H locs ls hP hD hS hl
    have hc4 : ∀ (v0 : Int32) (v1 : Int32) (v2 : Int32), k4 (v0, v1, v2) = some res → ∀ (H : Heap) (locs : List Loc) (ls : Array Slot), va_P D vwCl ([]) H → va_D A ([]) → va_S A s.heap H locs → lv_has ls 3 [(0, .int v0), (1, .int v1), (2, .int v2)] → W p l e (rmK 1 0 0) s m (List.toArray [.int x0]) below meth c H locs 0 0 (MQ below (va_Qi (fun r (_ : Unit) => r = res) (hcB D (fun _ : Unit => []) A) A) (List.toArray [.int x0]) s 0 0 A) (F0 m 4 ls []) := fun v0 v1 v2 => hk4 (v0, v1, v2)
    refine lv_iload_n hx hb dX9_bits_4 rfl (lv_at hl 2 rfl) ?_
    refine lv_bipush (v := 16) hx hb dX9_bits_5 (by decide) ?_
    refine lv_icmp_ge (tgt := 24) hx hb dX9_bits_7 (by decide) (fun c1 => ?_) (fun c1 => ?_)
    · have h := fw_t c1 h
      refine lv_iload_n hx hb dX9_bits_24 rfl (lv_at hl 1 rfl) ?_
      exact fw_endI (rv := fun b : Int32 => b) (wp := fun b : Int32 => []) hx hb hr hlocks h rfl hP hD hS dX9_bits_25
    · have h := fw_f c1 h
      refine lv_iload_n hx hb dX9_bits_10 rfl (lv_at hl 1 rfl) ?_
      refine lv_iload_n hx hb dX9_bits_11 rfl (lv_at hl 0 rfl) ?_
      refine lv_iload_n hx hb dX9_bits_12 rfl (lv_at hl 2 rfl) ?_
      refine lv_ishr hx hb dX9_bits_13 ?_
      refine lv_iconst (v := 1) hx hb dX9_bits_14 (by decide) ?_
      refine lv_iand hx hb dX9_bits_15 ?_
      refine lv_iadd hx hb dX9_bits_16 ?_
      refine lv_istore_n (lv' := [(1, .int (a4.2.1 + ((a4.1 >>> (a4.2.2 &&& 31)) &&& 1))), (0, .int a4.1), (2, .int a4.2.2)]) hx hb dX9_bits_17 rfl hl (by decide) rfl (fun ls hl => ?_)
      refine lv_iinc (v := (a4.2.2 + 1)) (lv' := [(2, .int (a4.2.2 + 1)), (1, .int (a4.2.1 + ((a4.1 >>> (a4.2.2 &&& 31)) &&& 1))), (0, .int a4.1)]) hx hb dX9_bits_18 hl (k := 2) rfl rfl (by decide) rfl (fun ls hl => ?_)
      refine lv_goto (tgt := 4) hx hb dX9_bits_21 (by decide) ?_
      exact hc4 _ _ _ h _ _ _ hP hD hS (lv_sub hl [2, 1, 0] rfl)
  have C4 : ∀ (v0 : Int32) (v1 : Int32) (v2 : Int32), lp (b_X9_bits_4 F) F (v0, v1, v2) = some res → ∀ (H : Heap) (locs : List Loc) (ls : Array Slot), va_P D vwCl ([]) H → va_D A ([]) → va_S A s.heap H locs → lv_has ls 3 [(0, .int v0), (1, .int v1), (2, .int v2)] → W p l e (rmK 1 0 0) s m (List.toArray [.int x0]) below meth c H locs 0 0 (MQ below (va_Qi (fun r (_ : Unit) => r = res) (hcB D (fun _ : Unit => []) A) A) (List.toArray [.int x0]) s 0 0 A) (F0 m 4 ls []) := fun v0 v1 v2 => B4 (v0, v1, v2)
  refine lv_iconst (v := 0) hx hb dX9_bits_0 (by decide) ?_
  refine lv_istore_n (lv' := [(1, .int 0), (0, .int x0)]) hx hb dX9_bits_1 rfl hl (by decide) rfl (fun ls hl => ?_)
  refine lv_iconst (v := 0) hx hb dX9_bits_2 (by decide) ?_
  refine lv_istore_n (lv' := [(2, .int 0), (1, .int 0), (0, .int x0)]) hx hb dX9_bits_3 rfl hl (by decide) rfl (fun ls hl => ?_)
  exact C4 _ _ _ h _ _ _ hP hD hS (lv_sub hl [2, 1, 0] rfl)
noncomputable def b_X9_has_14 (F : Nat)    (y0 : Int32) : Option (Int32) :=
  if bo y0 then (some y0) else none
noncomputable def f_X9_has (F : Nat)  (x0 : Int32) (x1 : Int32)  : Option (Int32) :=
  if ((x0 >>> (x1 &&& 31)) &&& 1) = 1 then (b_X9_has_14 F 1) else (b_X9_has_14 F 0)
set_option maxHeartbeats 4000000 in
set_option maxRecDepth 100000 in
theorem c_X9_has (l : Launch) (D : va_G) (k : Nat → ClassId) (sz : Nat)   (F : Nat)  (x0 : Int32) (x1 : Int32)   {res : Int32} (h : f_X9_has F x0 x1 = some res) : CtI l yX9_has wsX9_has (rmK 1 0 0) [.int x0, .int x1] D k sz ([]) (fun r (_ : Unit) => r = res) (fun _ : Unit => []) 0 0 := by
  refine CtI.mk (cc := cX9_has) (maxL := 2) (ret := (some .boolean)) (by decide) rfl (Nat.le_of_ble_eq_true rfl) ?_
  intro p e s m below meth c A ls E hP hD hS hl
  obtain ⟨hx, hb, hr, hml, hown, hts, hlocks, hin, hG, hA⟩ := E
  have hown : s.vm.findClass RX9 = some m.cls := hown
  have hl : lv_has ls 2 [(0, .int x0), (1, .int x1)] := hl
  have B14 : ∀ (y0 : Int32) (H : Heap) (locs : List Loc) (ls : Array Slot), b_X9_has_14 F y0 = some res → va_P D vwCl ([]) H → va_D A ([]) → va_S A s.heap H locs → lv_has ls 2 [] → W p l e (rmK 1 0 0) s m (List.toArray [.int x0, .int x1]) below meth c H locs 0 0 (MQ below (va_Qi (fun r (_ : Unit) => r = res) (hcB D (fun _ : Unit => []) A) A) (List.toArray [.int x0, .int x1]) s 0 0 A) (F0 m 14 ls [.int y0]) := by
    intro y0 H locs ls h hP hD hS hl
    obtain ⟨g1, h⟩ := fw_g h
    exact fw_endZ (rv := fun b : Int32 => b) (wp := fun b : Int32 => []) hx hb hr hlocks h (bo_z g1) rfl hP hD hS dX9_has_14
  refine lv_iload_n hx hb dX9_has_0 rfl (lv_at hl 0 rfl) ?_
  refine lv_iload_n hx hb dX9_has_1 rfl (lv_at hl 1 rfl) ?_
  refine lv_ishr hx hb dX9_has_2 ?_
  refine lv_iconst (v := 1) hx hb dX9_has_3 (by decide) ?_
  refine lv_iand hx hb dX9_has_4 ?_
  refine lv_iconst (v := 1) hx hb dX9_has_5 (by decide) ?_
  refine lv_icmp_ne (tgt := 13) hx hb dX9_has_6 (by decide) (fun c2 => ?_) (fun c2 => ?_)
  · have h := fw_f c2 h
    refine lv_iconst (v := 0) hx hb dX9_has_13 (by decide) ?_
    exact B14 _ _ _ _ h hP hD hS (lv_sub hl [] rfl)
  · have h := fw_t c2 h
    refine lv_iconst (v := 1) hx hb dX9_has_9 (by decide) ?_
    refine lv_goto (tgt := 14) hx hb dX9_has_10 (by decide) ?_
    exact B14 _ _ _ _ h hP hD hS (lv_sub hl [] rfl)
noncomputable def b_X9_truth_9 (F : Nat)    (y0 : Int64) : Option (Int64) :=
  some y0
noncomputable def f_X9_truth (F : Nat)  (x0 : Int32)  : Option (Int64) :=
  if x0 = 0 then (b_X9_truth_9 F 0) else (b_X9_truth_9 F 1)
set_option maxHeartbeats 4000000 in
set_option maxRecDepth 100000 in
theorem c_X9_truth (l : Launch) (D : va_G) (k : Nat → ClassId) (sz : Nat)   (F : Nat)  (x0 : Int32)   {res : Int64} (h : f_X9_truth F x0 = some res) : CtL l yX9_truth wsX9_truth (rmK 1 0 0) [.int x0] D k sz ([]) (fun r (_ : Unit) => r = res) (fun _ : Unit => []) 0 0 := by
  refine CtL.mk (cc := cX9_truth) (maxL := 1) (ret := (some .long)) (by decide) rfl (Nat.le_of_ble_eq_true rfl) ?_
  intro p e s m below meth c A ls E hP hD hS hl
  obtain ⟨hx, hb, hr, hml, hown, hts, hlocks, hin, hG, hA⟩ := E
  have hown : s.vm.findClass RX9 = some m.cls := hown
  have hl : lv_has ls 1 [(0, .int x0)] := hl
  have B9 : ∀ (y0 : Int64) (H : Heap) (locs : List Loc) (ls : Array Slot), b_X9_truth_9 F y0 = some res → va_P D vwCl ([]) H → va_D A ([]) → va_S A s.heap H locs → lv_has ls 1 [] → W p l e (rmK 1 0 0) s m (List.toArray [.int x0]) below meth c H locs 0 0 (MQ below (va_Ql (fun r (_ : Unit) => r = res) (hcB D (fun _ : Unit => []) A) A) (List.toArray [.int x0]) s 0 0 A) (F0 m 9 ls [.long y0]) := by
    intro y0 H locs ls h hP hD hS hl
    exact fw_endL (rv := fun b : Int64 => b) (wp := fun b : Int64 => []) hx hb hr hlocks h rfl hP hD hS dX9_truth_9
  refine lv_iload_n hx hb dX9_truth_0 rfl (lv_at hl 0 rfl) ?_
  refine lv_if_eq (tgt := 8) hx hb dX9_truth_1 (by decide) (fun c1 => ?_) (fun c1 => ?_)
  · have h := fw_t c1 h
    refine lv_lconst (v := 0) hx hb dX9_truth_8 (by decide) ?_
    exact B9 _ _ _ _ h hP hD hS (lv_sub hl [] rfl)
  · have h := fw_f c1 h
    refine lv_lconst (v := 1) hx hb dX9_truth_4 (by decide) ?_
    refine lv_goto (tgt := 9) hx hb dX9_truth_5 (by decide) ?_
    exact B9 _ _ _ _ h hP hD hS (lv_sub hl [] rfl)
noncomputable def b_X9_both_97 (F : Nat)    (y0 : Int64) : Option (Int64) :=
  some y0
noncomputable def b_X9_both_111 (F : Nat)    (y0 : Int64) : Option (Int64) :=
  some y0
noncomputable def b_X9_both_123 (F : Nat)    (y0 : Int32) : Option (Int64) :=
  Option.bind (f_X9_truth F y0) (fun q1 => (some q1))
noncomputable def b_X9_both_138 (F : Nat)    (y0 : Int32) : Option (Int64) :=
  Option.bind (f_X9_truth F y0) (fun q2 => (some q2))
noncomputable def b_X9_both_153 (F : Nat)    (y0 : Int32) : Option (Int64) :=
  Option.bind (f_X9_truth F y0) (fun q3 => (some q3))
noncomputable def b_X9_both_168 (F : Nat)    (y0 : Int32) : Option (Int64) :=
  Option.bind (f_X9_truth F y0) (fun q4 => (some q4))
noncomputable def b_X9_both_183 (F : Nat)    (y0 : Int32) : Option (Int64) :=
  Option.bind (f_X9_truth F y0) (fun q5 => (some q5))
noncomputable def f_X9_both (F : Nat)  (x0 : Int32) (x1 : Int64) (x3 : Int64)  : Option (Int64) :=
  if x0 = 2 then (some (x1 + x3)) else if x0 = 3 then (some (x1 - x3)) else if x0 = 4 then (if 0 ≤ (lg_cmp x1 x3) then (b_X9_both_123 F 0) else (b_X9_both_123 F 1)) else if x0 = 5 then (if 0 < (lg_cmp x1 x3) then (b_X9_both_138 F 0) else (b_X9_both_138 F 1)) else if x0 = 6 then (if (lg_cmp x1 x3) = 0 then (b_X9_both_153 F 1) else (b_X9_both_153 F 0)) else if x0 = 7 then (if (lg_cmp x1 x3) < 0 then (b_X9_both_168 F 0) else (b_X9_both_168 F 1)) else if x0 = 8 then (if (lg_cmp x1 x3) ≤ 0 then (b_X9_both_183 F 0) else (b_X9_both_183 F 1)) else if x0 = 9 then (some (x1 ||| x3)) else if x0 = 10 then (some (x1 &&& x3)) else if x0 = 11 then (some (x1 ||| x3)) else if x0 = 12 then (some (x1 ||| x3)) else if x0 = 13 then (some (x1 * x3)) else if x0 = 14 then (if (lg_cmp x3 0) = 0 then (b_X9_both_97 F 0) else (if ¬ x3 = 0 then (b_X9_both_97 F (x1 / x3)) else none)) else if x0 = 15 then (if (lg_cmp x3 0) = 0 then (b_X9_both_111 F 0) else (if ¬ x3 = 0 then (b_X9_both_111 F (x1 - x1 / x3 * x3)) else none)) else (some (x1 ||| x3))
set_option maxHeartbeats 4000000 in
set_option maxRecDepth 100000 in
theorem c_X9_both (l : Launch) (D : va_G) (k : Nat → ClassId) (sz : Nat)   (F : Nat)  (x0 : Int32) (x1 : Int64) (x3 : Int64)   {res : Int64} (h : f_X9_both F x0 x1 x3 = some res) : CtL l yX9_both wsX9_both (rmK 2 0 0) [.int x0, .long x1, .long x3] D k sz ([]) (fun r (_ : Unit) => r = res) (fun _ : Unit => []) 0 0 := by
  refine CtL.mk (cc := cX9_both) (maxL := 5) (ret := (some .long)) (by decide) rfl (Nat.le_of_ble_eq_true rfl) ?_
  intro p e s m below meth c A ls E hP hD hS hl
  obtain ⟨hx, hb, hr, hml, hown, hts, hlocks, hin, hG, hA⟩ := E
  have hown : s.vm.findClass RX9 = some m.cls := hown
  have hl : lv_has ls 5 [(0, .int x0), (1, .long x1), (3, .long x3)] := hl
  have B97 : ∀ (y0 : Int64) (H : Heap) (locs : List Loc) (ls : Array Slot), b_X9_both_97 F y0 = some res → va_P D vwCl ([]) H → va_D A ([]) → va_S A s.heap H locs → lv_has ls 5 [] → W p l e (rmK 2 0 0) s m (List.toArray [.int x0, .long x1, .long x3]) below meth c H locs 0 0 (MQ below (va_Ql (fun r (_ : Unit) => r = res) (hcB D (fun _ : Unit => []) A) A) (List.toArray [.int x0, .long x1, .long x3]) s 0 0 A) (F0 m 97 ls [.long y0]) := by
    intro y0 H locs ls h hP hD hS hl
    exact fw_endL (rv := fun b : Int64 => b) (wp := fun b : Int64 => []) hx hb hr hlocks h rfl hP hD hS dX9_both_97
  have B111 : ∀ (y0 : Int64) (H : Heap) (locs : List Loc) (ls : Array Slot), b_X9_both_111 F y0 = some res → va_P D vwCl ([]) H → va_D A ([]) → va_S A s.heap H locs → lv_has ls 5 [] → W p l e (rmK 2 0 0) s m (List.toArray [.int x0, .long x1, .long x3]) below meth c H locs 0 0 (MQ below (va_Ql (fun r (_ : Unit) => r = res) (hcB D (fun _ : Unit => []) A) A) (List.toArray [.int x0, .long x1, .long x3]) s 0 0 A) (F0 m 111 ls [.long y0]) := by
    intro y0 H locs ls h hP hD hS hl
    exact fw_endL (rv := fun b : Int64 => b) (wp := fun b : Int64 => []) hx hb hr hlocks h rfl hP hD hS dX9_both_111
  have B123 : ∀ (y0 : Int32) (H : Heap) (locs : List Loc) (ls : Array Slot), b_X9_both_123 F y0 = some res → va_P D vwCl ([]) H → va_D A ([]) → va_S A s.heap H locs → lv_has ls 5 [] → W p l e (rmK 2 0 0) s m (List.toArray [.int x0, .long x1, .long x3]) below meth c H locs 0 0 (MQ below (va_Ql (fun r (_ : Unit) => r = res) (hcB D (fun _ : Unit => []) A) A) (List.toArray [.int x0, .long x1, .long x3]) s 0 0 A) (F0 m 123 ls [.int y0]) := by
    intro y0 H locs ls h hP hD hS hl
    refine fw_Sl (As := [.int y0]) (rest := []) (n := 1) (wr := []) (rv := fun b : Int64 => b) (wp := fun b : Int64 => []) h hx hb hml hown hts hG hA hP hD hS hl.1 (List.range ([]).length) [] (fun q hq9 => c_X9_truth l D k _   F y0   hq9) gX9_both_X9_truth rfl ⟨rfl, rfl, Nat.le_of_ble_eq_true rfl, Nat.le_of_ble_eq_true rfl⟩ (by decide +kernel) (al_C _) rfl (al_n _) ⟨rfl, rfl, Nat.le_of_ble_eq_true rfl, Nat.le_of_ble_eq_true rfl, Nat.le_of_ble_eq_true rfl⟩ dX9_both_123 (fun q1 H locs h hP hD hS => ?_)
    obtain ⟨hP, hD⟩ := cv (w' := []) hP hD rfl
    refine hc_isL (z := q1) rfl ?_
    exact fw_endL (rv := fun b : Int64 => b) (wp := fun b : Int64 => []) hx hb hr hlocks h rfl hP hD hS dX9_both_126
  have B138 : ∀ (y0 : Int32) (H : Heap) (locs : List Loc) (ls : Array Slot), b_X9_both_138 F y0 = some res → va_P D vwCl ([]) H → va_D A ([]) → va_S A s.heap H locs → lv_has ls 5 [] → W p l e (rmK 2 0 0) s m (List.toArray [.int x0, .long x1, .long x3]) below meth c H locs 0 0 (MQ below (va_Ql (fun r (_ : Unit) => r = res) (hcB D (fun _ : Unit => []) A) A) (List.toArray [.int x0, .long x1, .long x3]) s 0 0 A) (F0 m 138 ls [.int y0]) := by
    intro y0 H locs ls h hP hD hS hl
    refine fw_Sl (As := [.int y0]) (rest := []) (n := 1) (wr := []) (rv := fun b : Int64 => b) (wp := fun b : Int64 => []) h hx hb hml hown hts hG hA hP hD hS hl.1 (List.range ([]).length) [] (fun q hq9 => c_X9_truth l D k _   F y0   hq9) gX9_both_X9_truth rfl ⟨rfl, rfl, Nat.le_of_ble_eq_true rfl, Nat.le_of_ble_eq_true rfl⟩ (by decide +kernel) (al_C _) rfl (al_n _) ⟨rfl, rfl, Nat.le_of_ble_eq_true rfl, Nat.le_of_ble_eq_true rfl, Nat.le_of_ble_eq_true rfl⟩ dX9_both_138 (fun q2 H locs h hP hD hS => ?_)
    obtain ⟨hP, hD⟩ := cv (w' := []) hP hD rfl
    refine hc_isL (z := q2) rfl ?_
    exact fw_endL (rv := fun b : Int64 => b) (wp := fun b : Int64 => []) hx hb hr hlocks h rfl hP hD hS dX9_both_141
  have B153 : ∀ (y0 : Int32) (H : Heap) (locs : List Loc) (ls : Array Slot), b_X9_both_153 F y0 = some res → va_P D vwCl ([]) H → va_D A ([]) → va_S A s.heap H locs → lv_has ls 5 [] → W p l e (rmK 2 0 0) s m (List.toArray [.int x0, .long x1, .long x3]) below meth c H locs 0 0 (MQ below (va_Ql (fun r (_ : Unit) => r = res) (hcB D (fun _ : Unit => []) A) A) (List.toArray [.int x0, .long x1, .long x3]) s 0 0 A) (F0 m 153 ls [.int y0]) := by
    intro y0 H locs ls h hP hD hS hl
    refine fw_Sl (As := [.int y0]) (rest := []) (n := 1) (wr := []) (rv := fun b : Int64 => b) (wp := fun b : Int64 => []) h hx hb hml hown hts hG hA hP hD hS hl.1 (List.range ([]).length) [] (fun q hq9 => c_X9_truth l D k _   F y0   hq9) gX9_both_X9_truth rfl ⟨rfl, rfl, Nat.le_of_ble_eq_true rfl, Nat.le_of_ble_eq_true rfl⟩ (by decide +kernel) (al_C _) rfl (al_n _) ⟨rfl, rfl, Nat.le_of_ble_eq_true rfl, Nat.le_of_ble_eq_true rfl, Nat.le_of_ble_eq_true rfl⟩ dX9_both_153 (fun q3 H locs h hP hD hS => ?_)
    obtain ⟨hP, hD⟩ := cv (w' := []) hP hD rfl
    refine hc_isL (z := q3) rfl ?_
    exact fw_endL (rv := fun b : Int64 => b) (wp := fun b : Int64 => []) hx hb hr hlocks h rfl hP hD hS dX9_both_156
  have B168 : ∀ (y0 : Int32) (H : Heap) (locs : List Loc) (ls : Array Slot), b_X9_both_168 F y0 = some res → va_P D vwCl ([]) H → va_D A ([]) → va_S A s.heap H locs → lv_has ls 5 [] → W p l e (rmK 2 0 0) s m (List.toArray [.int x0, .long x1, .long x3]) below meth c H locs 0 0 (MQ below (va_Ql (fun r (_ : Unit) => r = res) (hcB D (fun _ : Unit => []) A) A) (List.toArray [.int x0, .long x1, .long x3]) s 0 0 A) (F0 m 168 ls [.int y0]) := by
    intro y0 H locs ls h hP hD hS hl
    refine fw_Sl (As := [.int y0]) (rest := []) (n := 1) (wr := []) (rv := fun b : Int64 => b) (wp := fun b : Int64 => []) h hx hb hml hown hts hG hA hP hD hS hl.1 (List.range ([]).length) [] (fun q hq9 => c_X9_truth l D k _   F y0   hq9) gX9_both_X9_truth rfl ⟨rfl, rfl, Nat.le_of_ble_eq_true rfl, Nat.le_of_ble_eq_true rfl⟩ (by decide +kernel) (al_C _) rfl (al_n _) ⟨rfl, rfl, Nat.le_of_ble_eq_true rfl, Nat.le_of_ble_eq_true rfl, Nat.le_of_ble_eq_true rfl⟩ dX9_both_168 (fun q4 H locs h hP hD hS => ?_)
    obtain ⟨hP, hD⟩ := cv (w' := []) hP hD rfl
    refine hc_isL (z := q4) rfl ?_
    exact fw_endL (rv := fun b : Int64 => b) (wp := fun b : Int64 => []) hx hb hr hlocks h rfl hP hD hS dX9_both_171
  have B183 : ∀ (y0 : Int32) (H : Heap) (locs : List Loc) (ls : Array Slot), b_X9_both_183 F y0 = some res → va_P D vwCl ([]) H → va_D A ([]) → va_S A s.heap H locs → lv_has ls 5 [] → W p l e (rmK 2 0 0) s m (List.toArray [.int x0, .long x1, .long x3]) below meth c H locs 0 0 (MQ below (va_Ql (fun r (_ : Unit) => r = res) (hcB D (fun _ : Unit => []) A) A) (List.toArray [.int x0, .long x1, .long x3]) s 0 0 A) (F0 m 183 ls [.int y0]) := by
    intro y0 H locs ls h hP hD hS hl
    refine fw_Sl (As := [.int y0]) (rest := []) (n := 1) (wr := []) (rv := fun b : Int64 => b) (wp := fun b : Int64 => []) h hx hb hml hown hts hG hA hP hD hS hl.1 (List.range ([]).length) [] (fun q hq9 => c_X9_truth l D k _   F y0   hq9) gX9_both_X9_truth rfl ⟨rfl, rfl, Nat.le_of_ble_eq_true rfl, Nat.le_of_ble_eq_true rfl⟩ (by decide +kernel) (al_C _) rfl (al_n _) ⟨rfl, rfl, Nat.le_of_ble_eq_true rfl, Nat.le_of_ble_eq_true rfl, Nat.le_of_ble_eq_true rfl⟩ dX9_both_183 (fun q5 H locs h hP hD hS => ?_)
    obtain ⟨hP, hD⟩ := cv (w' := []) hP hD rfl
    refine hc_isL (z := q5) rfl ?_
    exact fw_endL (rv := fun b : Int64 => b) (wp := fun b : Int64 => []) hx hb hr hlocks h rfl hP hD hS dX9_both_186
  refine lv_iload_n hx hb dX9_both_0 rfl (lv_at hl 0 rfl) ?_
  by_cases c6 : x0 = 2
  · have h := fw_t c6 h
    refine lv_tableIn (off := 71) (tgt := 72) hx hb dX9_both_1 (by rw [c6]; decide) (by rw [c6]; decide) (by rw [c6]; rfl) (by decide) ?_
    refine lv_lload_n hx hb dX9_both_72 rfl (lv_at hl 1 rfl) ?_
    refine lv_lload_n hx hb dX9_both_73 rfl (lv_at hl 2 rfl) ?_
    refine lv_ladd hx hb dX9_both_74 ?_
    exact fw_endL (rv := fun b : Int64 => b) (wp := fun b : Int64 => []) hx hb hr hlocks h rfl hP hD hS dX9_both_75
  have h := fw_f c6 h
  by_cases c7 : x0 = 3
  · have h := fw_t c7 h
    refine lv_tableIn (off := 75) (tgt := 76) hx hb dX9_both_1 (by rw [c7]; decide) (by rw [c7]; decide) (by rw [c7]; rfl) (by decide) ?_
    refine lv_lload_n hx hb dX9_both_76 rfl (lv_at hl 1 rfl) ?_
    refine lv_lload_n hx hb dX9_both_77 rfl (lv_at hl 2 rfl) ?_
    refine lv_lsub hx hb dX9_both_78 ?_
    exact fw_endL (rv := fun b : Int64 => b) (wp := fun b : Int64 => []) hx hb hr hlocks h rfl hP hD hS dX9_both_79
  have h := fw_f c7 h
  by_cases c8 : x0 = 4
  · have h := fw_t c8 h
    refine lv_tableIn (off := 111) (tgt := 112) hx hb dX9_both_1 (by rw [c8]; decide) (by rw [c8]; decide) (by rw [c8]; rfl) (by decide) ?_
    refine lv_lload_n hx hb dX9_both_112 rfl (lv_at hl 1 rfl) ?_
    refine lv_lload_n hx hb dX9_both_113 rfl (lv_at hl 2 rfl) ?_
    refine W.lcmp hx hb dX9_both_114 ?_
    refine lv_if_ge (tgt := 122) hx hb dX9_both_115 (by decide) (fun c9 => ?_) (fun c9 => ?_)
    · have h := fw_t c9 h
      refine lv_iconst (v := 0) hx hb dX9_both_122 (by decide) ?_
      exact B123 _ _ _ _ h hP hD hS (lv_sub hl [] rfl)
    · have h := fw_f c9 h
      refine lv_iconst (v := 1) hx hb dX9_both_118 (by decide) ?_
      refine lv_goto (tgt := 123) hx hb dX9_both_119 (by decide) ?_
      exact B123 _ _ _ _ h hP hD hS (lv_sub hl [] rfl)
  have h := fw_f c8 h
  by_cases c10 : x0 = 5
  · have h := fw_t c10 h
    refine lv_tableIn (off := 126) (tgt := 127) hx hb dX9_both_1 (by rw [c10]; decide) (by rw [c10]; decide) (by rw [c10]; rfl) (by decide) ?_
    refine lv_lload_n hx hb dX9_both_127 rfl (lv_at hl 1 rfl) ?_
    refine lv_lload_n hx hb dX9_both_128 rfl (lv_at hl 2 rfl) ?_
    refine W.lcmp hx hb dX9_both_129 ?_
    refine lv_if_gt (tgt := 137) hx hb dX9_both_130 (by decide) (fun c11 => ?_) (fun c11 => ?_)
    · have h := fw_t c11 h
      refine lv_iconst (v := 0) hx hb dX9_both_137 (by decide) ?_
      exact B138 _ _ _ _ h hP hD hS (lv_sub hl [] rfl)
    · have h := fw_f c11 h
      refine lv_iconst (v := 1) hx hb dX9_both_133 (by decide) ?_
      refine lv_goto (tgt := 138) hx hb dX9_both_134 (by decide) ?_
      exact B138 _ _ _ _ h hP hD hS (lv_sub hl [] rfl)
  have h := fw_f c10 h
  by_cases c12 : x0 = 6
  · have h := fw_t c12 h
    refine lv_tableIn (off := 141) (tgt := 142) hx hb dX9_both_1 (by rw [c12]; decide) (by rw [c12]; decide) (by rw [c12]; rfl) (by decide) ?_
    refine lv_lload_n hx hb dX9_both_142 rfl (lv_at hl 1 rfl) ?_
    refine lv_lload_n hx hb dX9_both_143 rfl (lv_at hl 2 rfl) ?_
    refine W.lcmp hx hb dX9_both_144 ?_
    refine lv_if_ne (tgt := 152) hx hb dX9_both_145 (by decide) (fun c13 => ?_) (fun c13 => ?_)
    · have h := fw_f c13 h
      refine lv_iconst (v := 0) hx hb dX9_both_152 (by decide) ?_
      exact B153 _ _ _ _ h hP hD hS (lv_sub hl [] rfl)
    · have h := fw_t c13 h
      refine lv_iconst (v := 1) hx hb dX9_both_148 (by decide) ?_
      refine lv_goto (tgt := 153) hx hb dX9_both_149 (by decide) ?_
      exact B153 _ _ _ _ h hP hD hS (lv_sub hl [] rfl)
  have h := fw_f c12 h
  by_cases c14 : x0 = 7
  · have h := fw_t c14 h
    refine lv_tableIn (off := 156) (tgt := 157) hx hb dX9_both_1 (by rw [c14]; decide) (by rw [c14]; decide) (by rw [c14]; rfl) (by decide) ?_
    refine lv_lload_n hx hb dX9_both_157 rfl (lv_at hl 1 rfl) ?_
    refine lv_lload_n hx hb dX9_both_158 rfl (lv_at hl 2 rfl) ?_
    refine W.lcmp hx hb dX9_both_159 ?_
    refine lv_if_lt (tgt := 167) hx hb dX9_both_160 (by decide) (fun c15 => ?_) (fun c15 => ?_)
    · have h := fw_t c15 h
      refine lv_iconst (v := 0) hx hb dX9_both_167 (by decide) ?_
      exact B168 _ _ _ _ h hP hD hS (lv_sub hl [] rfl)
    · have h := fw_f c15 h
      refine lv_iconst (v := 1) hx hb dX9_both_163 (by decide) ?_
      refine lv_goto (tgt := 168) hx hb dX9_both_164 (by decide) ?_
      exact B168 _ _ _ _ h hP hD hS (lv_sub hl [] rfl)
  have h := fw_f c14 h
  by_cases c16 : x0 = 8
  · have h := fw_t c16 h
    refine lv_tableIn (off := 171) (tgt := 172) hx hb dX9_both_1 (by rw [c16]; decide) (by rw [c16]; decide) (by rw [c16]; rfl) (by decide) ?_
    refine lv_lload_n hx hb dX9_both_172 rfl (lv_at hl 1 rfl) ?_
    refine lv_lload_n hx hb dX9_both_173 rfl (lv_at hl 2 rfl) ?_
    refine W.lcmp hx hb dX9_both_174 ?_
    refine lv_if_le (tgt := 182) hx hb dX9_both_175 (by decide) (fun c17 => ?_) (fun c17 => ?_)
    · have h := fw_t c17 h
      refine lv_iconst (v := 0) hx hb dX9_both_182 (by decide) ?_
      exact B183 _ _ _ _ h hP hD hS (lv_sub hl [] rfl)
    · have h := fw_f c17 h
      refine lv_iconst (v := 1) hx hb dX9_both_178 (by decide) ?_
      refine lv_goto (tgt := 183) hx hb dX9_both_179 (by decide) ?_
      exact B183 _ _ _ _ h hP hD hS (lv_sub hl [] rfl)
  have h := fw_f c16 h
  by_cases c18 : x0 = 9
  · have h := fw_t c18 h
    refine lv_tableIn (off := 190) (tgt := 191) hx hb dX9_both_1 (by rw [c18]; decide) (by rw [c18]; decide) (by rw [c18]; rfl) (by decide) ?_
    refine lv_lload_n hx hb dX9_both_191 rfl (lv_at hl 1 rfl) ?_
    refine lv_lload_n hx hb dX9_both_192 rfl (lv_at hl 2 rfl) ?_
    refine lv_lor hx hb dX9_both_193 ?_
    exact fw_endL (rv := fun b : Int64 => b) (wp := fun b : Int64 => []) hx hb hr hlocks h rfl hP hD hS dX9_both_194
  have h := fw_f c18 h
  by_cases c19 : x0 = 10
  · have h := fw_t c19 h
    refine lv_tableIn (off := 186) (tgt := 187) hx hb dX9_both_1 (by rw [c19]; decide) (by rw [c19]; decide) (by rw [c19]; rfl) (by decide) ?_
    refine lv_lload_n hx hb dX9_both_187 rfl (lv_at hl 1 rfl) ?_
    refine lv_lload_n hx hb dX9_both_188 rfl (lv_at hl 2 rfl) ?_
    refine lv_land hx hb dX9_both_189 ?_
    exact fw_endL (rv := fun b : Int64 => b) (wp := fun b : Int64 => []) hx hb hr hlocks h rfl hP hD hS dX9_both_190
  have h := fw_f c19 h
  by_cases c20 : x0 = 11
  · have h := fw_t c20 h
    refine lv_tableIn (off := 190) (tgt := 191) hx hb dX9_both_1 (by rw [c20]; decide) (by rw [c20]; decide) (by rw [c20]; rfl) (by decide) ?_
    refine lv_lload_n hx hb dX9_both_191 rfl (lv_at hl 1 rfl) ?_
    refine lv_lload_n hx hb dX9_both_192 rfl (lv_at hl 2 rfl) ?_
    refine lv_lor hx hb dX9_both_193 ?_
    exact fw_endL (rv := fun b : Int64 => b) (wp := fun b : Int64 => []) hx hb hr hlocks h rfl hP hD hS dX9_both_194
  have h := fw_f c20 h
  by_cases c21 : x0 = 12
  · have h := fw_t c21 h
    refine lv_tableIn (off := 190) (tgt := 191) hx hb dX9_both_1 (by rw [c21]; decide) (by rw [c21]; decide) (by rw [c21]; rfl) (by decide) ?_
    refine lv_lload_n hx hb dX9_both_191 rfl (lv_at hl 1 rfl) ?_
    refine lv_lload_n hx hb dX9_both_192 rfl (lv_at hl 2 rfl) ?_
    refine lv_lor hx hb dX9_both_193 ?_
    exact fw_endL (rv := fun b : Int64 => b) (wp := fun b : Int64 => []) hx hb hr hlocks h rfl hP hD hS dX9_both_194
  have h := fw_f c21 h
  by_cases c22 : x0 = 13
  · have h := fw_t c22 h
    refine lv_tableIn (off := 79) (tgt := 80) hx hb dX9_both_1 (by rw [c22]; decide) (by rw [c22]; decide) (by rw [c22]; rfl) (by decide) ?_
    refine lv_lload_n hx hb dX9_both_80 rfl (lv_at hl 1 rfl) ?_
    refine lv_lload_n hx hb dX9_both_81 rfl (lv_at hl 2 rfl) ?_
    refine lv_lmul hx hb dX9_both_82 ?_
    exact fw_endL (rv := fun b : Int64 => b) (wp := fun b : Int64 => []) hx hb hr hlocks h rfl hP hD hS dX9_both_83
  have h := fw_f c22 h
  by_cases c23 : x0 = 14
  · have h := fw_t c23 h
    refine lv_tableIn (off := 83) (tgt := 84) hx hb dX9_both_1 (by rw [c23]; decide) (by rw [c23]; decide) (by rw [c23]; rfl) (by decide) ?_
    refine lv_lload_n hx hb dX9_both_84 rfl (lv_at hl 2 rfl) ?_
    refine lv_lconst (v := 0) hx hb dX9_both_85 (by decide) ?_
    refine W.lcmp hx hb dX9_both_86 ?_
    refine lv_if_ne (tgt := 94) hx hb dX9_both_87 (by decide) (fun c24 => ?_) (fun c24 => ?_)
    · have h := fw_f c24 h
      refine lv_lload_n hx hb dX9_both_94 rfl (lv_at hl 1 rfl) ?_
      refine lv_lload_n hx hb dX9_both_95 rfl (lv_at hl 2 rfl) ?_
      obtain ⟨g25, h⟩ := fw_g h
      refine lv_ldiv hx hb dX9_both_96 g25 ?_
      exact B97 _ _ _ _ h hP hD hS (lv_sub hl [] rfl)
    · have h := fw_t c24 h
      refine lv_lconst (v := 0) hx hb dX9_both_90 (by decide) ?_
      refine lv_goto (tgt := 97) hx hb dX9_both_91 (by decide) ?_
      exact B97 _ _ _ _ h hP hD hS (lv_sub hl [] rfl)
  have h := fw_f c23 h
  by_cases c26 : x0 = 15
  · have h := fw_t c26 h
    refine lv_tableIn (off := 97) (tgt := 98) hx hb dX9_both_1 (by rw [c26]; decide) (by rw [c26]; decide) (by rw [c26]; rfl) (by decide) ?_
    refine lv_lload_n hx hb dX9_both_98 rfl (lv_at hl 2 rfl) ?_
    refine lv_lconst (v := 0) hx hb dX9_both_99 (by decide) ?_
    refine W.lcmp hx hb dX9_both_100 ?_
    refine lv_if_ne (tgt := 108) hx hb dX9_both_101 (by decide) (fun c27 => ?_) (fun c27 => ?_)
    · have h := fw_f c27 h
      refine lv_lload_n hx hb dX9_both_108 rfl (lv_at hl 1 rfl) ?_
      refine lv_lload_n hx hb dX9_both_109 rfl (lv_at hl 2 rfl) ?_
      obtain ⟨g28, h⟩ := fw_g h
      refine lv_lrem hx hb dX9_both_110 g28 ?_
      exact B111 _ _ _ _ h hP hD hS (lv_sub hl [] rfl)
    · have h := fw_t c27 h
      refine lv_lconst (v := 0) hx hb dX9_both_104 (by decide) ?_
      refine lv_goto (tgt := 111) hx hb dX9_both_105 (by decide) ?_
      exact B111 _ _ _ _ h hP hD hS (lv_sub hl [] rfl)
  have h := fw_f c26 h
  simp only [sp_eq, show (2 : Int32).toInt = 2 from by decide, show (3 : Int32).toInt = 3 from by decide, show (4 : Int32).toInt = 4 from by decide, show (5 : Int32).toInt = 5 from by decide, show (6 : Int32).toInt = 6 from by decide, show (7 : Int32).toInt = 7 from by decide, show (8 : Int32).toInt = 8 from by decide, show (9 : Int32).toInt = 9 from by decide, show (10 : Int32).toInt = 10 from by decide, show (11 : Int32).toInt = 11 from by decide, show (12 : Int32).toInt = 12 from by decide, show (13 : Int32).toInt = 13 from by decide, show (14 : Int32).toInt = 14 from by decide, show (15 : Int32).toInt = 15 from by decide] at c6 c7 c8 c10 c12 c14 c16 c18 c19 c20 c21 c22 c23 c26
  refine lv_tableOut (tgt := 191) hx hb dX9_both_1 (by omega) (by decide) ?_
  refine lv_lload_n hx hb dX9_both_191 rfl (lv_at hl 1 rfl) ?_
  refine lv_lload_n hx hb dX9_both_192 rfl (lv_at hl 2 rfl) ?_
  refine lv_lor hx hb dX9_both_193 ?_
  exact fw_endL (rv := fun b : Int64 => b) (wp := fun b : Int64 => []) hx hb hr hlocks h rfl hP hD hS dX9_both_194
noncomputable def b_X9_isHall_15 (F : Nat)  (mo : OB)  (y0 : Int32) : Option (Int32) :=
  if bo y0 then (some y0) else none
noncomputable def f_X9_isHall (F : Nat)   (mo : OB) : Option (Int32) :=
  if ((mo.2.1 1) (Int32.toNatClampNeg 0)) = 1 then (b_X9_isHall_15 F mo 1) else (b_X9_isHall_15 F mo 0)
set_option maxRecDepth 20000 in
theorem bq_wsX9_isHall : subq wsX9_isHall [[.fieldLink RX9 9 "ChairCaneModel" "scalar" "[I"]] := ⟨(fun _ h => (List.mem_cons_of_mem _ (List.mem_append_left _ h))), trivial⟩
set_option maxHeartbeats 4000000 in
set_option maxRecDepth 100000 in
theorem c_X9_isHall (l : Launch) (D : va_G) (k : Nat → ClassId) (sz : Nat)  (va : Nat → Nat) (F : Nat)   (mo : OB)  {res : Int32} (h : f_X9_isHall F mo = some res) : CtI l yX9_isHall wsX9_isHall (rmK 1 0 0) [.ref (va 0)] D k sz (moW k va mo) (fun r (_ : Unit) => r = res) (fun _ : Unit => moW k va mo) 0 0 := by
  refine CtI.mk (cc := cX9_isHall) (maxL := 1) (ret := (some .boolean)) (by decide) rfl (Nat.le_of_ble_eq_true rfl) ?_
  intro p e s m below meth c A ls E hP hD hS hl
  obtain ⟨hx, hb, hr, hml, hown, hts, hlocks, hin, hG, hA⟩ := E
  have hown : s.vm.findClass RX9 = some m.cls := hown
  have in9 : ∀ w ∈ u_ws RX9 TX9 53, w ∈ wsX9_isHall := fun _ h => List.mem_cons_of_mem _ (List.mem_append_right _ h)
  have hl : lv_has ls 1 [(0, .ref (va 0))] := hl
  have B15 : ∀ (y0 : Int32) (H : Heap) (locs : List Loc) (ls : Array Slot), b_X9_isHall_15 F mo y0 = some res → va_P D vwCl (moW k va mo) H → va_D A (moW k va mo) → va_S A s.heap H locs → lv_has ls 1 [] → W p l e (rmK 1 0 0) s m (List.toArray [.ref (va 0)]) below meth c H locs 0 0 (MQ below (va_Qi (fun r (_ : Unit) => r = res) (hcB D (fun _ : Unit => moW k va mo) A) A) (List.toArray [.ref (va 0)]) s 0 0 A) (F0 m 15 ls [.int y0]) := by
    intro y0 H locs ls h hP hD hS hl
    obtain ⟨g1, h⟩ := fw_g h
    exact fw_endZ (rv := fun b : Int32 => b) (wp := fun b : Int32 => moW k va mo) hx hb hr hlocks h (bo_z g1) rfl hP hD hS dX9_isHall_15
  refine lv_aload_n hx hb dX9_isHall_0 rfl (lv_at hl 0 rfl) ?_
  refine va_get (D := D) (ci := 7) (v := .ref (va 1)) (C := RX9) (T := TX9) (N := 53) hx hb hts in9 hown hG.1 hP 0 rfl rfl 1 (by decide) (hts (.fieldLink RX9 9 "ChairCaneModel" "scalar" "[I") (mem_b bq_wsX9_isHall 0 0 rfl)) (fun _ h9 => h9) rfl dX9_isHall_1 ?_
  refine lv_iconst (v := 0) hx hb dX9_isHall_4 (by decide) ?_
  refine va_iald hx hb hG.1 hP 1 0 rfl rfl (by unfold vp_in; decide) dX9_isHall_5 ?_
  refine lv_iconst (v := 1) hx hb dX9_isHall_6 (by decide) ?_
  refine lv_icmp_ne (tgt := 14) hx hb dX9_isHall_7 (by decide) (fun c2 => ?_) (fun c2 => ?_)
  · have h := fw_f c2 h
    refine lv_iconst (v := 0) hx hb dX9_isHall_14 (by decide) ?_
    exact B15 _ _ _ _ h hP hD hS (lv_sub hl [] rfl)
  · have h := fw_t c2 h
    refine lv_iconst (v := 1) hx hb dX9_isHall_10 (by decide) ?_
    refine lv_goto (tgt := 15) hx hb dX9_isHall_11 (by decide) ?_
    exact B15 _ _ _ _ h hP hD hS (lv_sub hl [] rfl)
noncomputable def f_X9_isStrand (F : Nat)  (x1 : Int32) (mo : OB) : Option (Int32) :=
  Option.bind (f_X9_in F (Int32.toInt64 x1) 0 (Int32.toInt64 (((mo.2.1 1) (Int32.toNatClampNeg 1)) - 1))) (fun q1 => (if bo q1 then (some q1) else none))
set_option maxHeartbeats 4000000 in
set_option maxRecDepth 100000 in
theorem c_X9_isStrand (l : Launch) (D : va_G) (k : Nat → ClassId) (sz : Nat)  (va : Nat → Nat) (F : Nat)  (x1 : Int32) (mo : OB)  {res : Int32} (h : f_X9_isStrand F x1 mo = some res) : CtI l yX9_isStrand wsX9_isStrand (rmK 2 0 0) [.ref (va 0), .int x1] D k sz (moW k va mo) (fun r (_ : Unit) => r = res) (fun _ : Unit => moW k va mo) 0 0 := by
  refine CtI.mk (cc := cX9_isStrand) (maxL := 2) (ret := (some .boolean)) (by decide) rfl (Nat.le_of_ble_eq_true rfl) ?_
  intro p e s m below meth c A ls E hP hD hS hl
  obtain ⟨hx, hb, hr, hml, hown, hts, hlocks, hin, hG, hA⟩ := E
  have hown : s.vm.findClass RX9 = some m.cls := hown
  have in9 : ∀ w ∈ u_ws RX9 TX9 53, w ∈ wsX9_isStrand := fun _ h => List.mem_cons_of_mem _ (List.mem_append_right _ h)
  have hl : lv_has ls 2 [(0, .ref (va 0)), (1, .int x1)] := hl
  refine lv_iload_n hx hb dX9_isStrand_0 rfl (lv_at hl 1 rfl) ?_
  refine lv_i2l hx hb dX9_isStrand_1 rfl ?_
  refine lv_lconst (v := 0) hx hb dX9_isStrand_2 (by decide) ?_
  refine lv_aload_n hx hb dX9_isStrand_3 rfl (lv_at hl 0 rfl) ?_
  refine va_get (D := D) (ci := 7) (v := .ref (va 1)) (C := RX9) (T := TX9) (N := 53) hx hb hts in9 hown hG.1 hP 0 rfl rfl 1 (by decide) (hts (.fieldLink RX9 9 "ChairCaneModel" "scalar" "[I") (mem_b bq_wsX9_isStrand 0 0 rfl)) (fun _ h9 => h9) rfl dX9_isStrand_4 ?_
  refine lv_iconst (v := 1) hx hb dX9_isStrand_7 (by decide) ?_
  refine va_iald hx hb hG.1 hP 1 0 rfl rfl (by unfold vp_in; decide) dX9_isStrand_8 ?_
  refine lv_iconst (v := 1) hx hb dX9_isStrand_9 (by decide) ?_
  refine lv_isub hx hb dX9_isStrand_10 ?_
  refine lv_i2l hx hb dX9_isStrand_11 rfl ?_
  refine fw_Si (As := [.long (Int32.toInt64 x1), .long 0, .long (Int32.toInt64 (((mo.2.1 1) (Int32.toNatClampNeg 1)) - 1))]) (rest := []) (n := 3) (wr := moW k va mo) (rv := fun b : Int32 => b) (wp := fun b : Int32 => []) h hx hb hml hown hts hG hA hP hD hS hl.1 [] (List.range (moW k va mo).length) (fun q hq9 => c_X9_in l D k _   F (Int32.toInt64 x1) 0 (Int32.toInt64 (((mo.2.1 1) (Int32.toNatClampNeg 1)) - 1))   hq9) gX9_isStrand_X9_in rfl ⟨rfl, rfl, Nat.le_of_ble_eq_true rfl, Nat.le_of_ble_eq_true rfl⟩ (by decide +kernel) rfl (al_C _) (al_m _) ⟨rfl, rfl, Nat.le_of_ble_eq_true rfl, Nat.le_of_ble_eq_true rfl, Nat.le_of_ble_eq_true rfl⟩ dX9_isStrand_12 (fun q1 H locs h hP hD hS => ?_)
  obtain ⟨hP, hD⟩ := cv (w' := (moW k va mo) ++ []) hP hD rfl
  rw [List.append_nil] at hP hD
  refine hc_is (z := q1) rfl ?_
  obtain ⟨g2, h⟩ := fw_g h
  exact fw_endZ (rv := fun b : Int32 => b) (wp := fun b : Int32 => moW k va mo) hx hb hr hlocks h (bo_z g2) rfl hP hD hS dX9_isStrand_15
noncomputable def f_X9_isChair (F : Nat)  (x1 : Int32) (mo : OB) : Option (Int32) :=
  Option.bind (f_X9_in F (Int32.toInt64 x1) 0 (Int32.toInt64 (((mo.2.1 1) (Int32.toNatClampNeg 2)) - 1))) (fun q1 => (if bo q1 then (some q1) else none))
set_option maxHeartbeats 4000000 in
set_option maxRecDepth 100000 in
theorem c_X9_isChair (l : Launch) (D : va_G) (k : Nat → ClassId) (sz : Nat)  (va : Nat → Nat) (F : Nat)  (x1 : Int32) (mo : OB)  {res : Int32} (h : f_X9_isChair F x1 mo = some res) : CtI l yX9_isChair wsX9_isChair (rmK 2 0 0) [.ref (va 0), .int x1] D k sz (moW k va mo) (fun r (_ : Unit) => r = res) (fun _ : Unit => moW k va mo) 0 0 := by
  refine CtI.mk (cc := cX9_isChair) (maxL := 2) (ret := (some .boolean)) (by decide) rfl (Nat.le_of_ble_eq_true rfl) ?_
  intro p e s m below meth c A ls E hP hD hS hl
  obtain ⟨hx, hb, hr, hml, hown, hts, hlocks, hin, hG, hA⟩ := E
  have hown : s.vm.findClass RX9 = some m.cls := hown
  have in9 : ∀ w ∈ u_ws RX9 TX9 53, w ∈ wsX9_isChair := fun _ h => List.mem_cons_of_mem _ (List.mem_append_right _ h)
  have hl : lv_has ls 2 [(0, .ref (va 0)), (1, .int x1)] := hl
  refine lv_iload_n hx hb dX9_isChair_0 rfl (lv_at hl 1 rfl) ?_
  refine lv_i2l hx hb dX9_isChair_1 rfl ?_
  refine lv_lconst (v := 0) hx hb dX9_isChair_2 (by decide) ?_
  refine lv_aload_n hx hb dX9_isChair_3 rfl (lv_at hl 0 rfl) ?_
  refine va_get (D := D) (ci := 7) (v := .ref (va 1)) (C := RX9) (T := TX9) (N := 53) hx hb hts in9 hown hG.1 hP 0 rfl rfl 1 (by decide) (hts (.fieldLink RX9 9 "ChairCaneModel" "scalar" "[I") (mem_b bq_wsX9_isChair 0 0 rfl)) (fun _ h9 => h9) rfl dX9_isChair_4 ?_
  refine lv_iconst (v := 2) hx hb dX9_isChair_7 (by decide) ?_
  refine va_iald hx hb hG.1 hP 1 0 rfl rfl (by unfold vp_in; decide) dX9_isChair_8 ?_
  refine lv_iconst (v := 1) hx hb dX9_isChair_9 (by decide) ?_
  refine lv_isub hx hb dX9_isChair_10 ?_
  refine lv_i2l hx hb dX9_isChair_11 rfl ?_
  refine fw_Si (As := [.long (Int32.toInt64 x1), .long 0, .long (Int32.toInt64 (((mo.2.1 1) (Int32.toNatClampNeg 2)) - 1))]) (rest := []) (n := 3) (wr := moW k va mo) (rv := fun b : Int32 => b) (wp := fun b : Int32 => []) h hx hb hml hown hts hG hA hP hD hS hl.1 [] (List.range (moW k va mo).length) (fun q hq9 => c_X9_in l D k _   F (Int32.toInt64 x1) 0 (Int32.toInt64 (((mo.2.1 1) (Int32.toNatClampNeg 2)) - 1))   hq9) gX9_isChair_X9_in rfl ⟨rfl, rfl, Nat.le_of_ble_eq_true rfl, Nat.le_of_ble_eq_true rfl⟩ (by decide +kernel) rfl (al_C _) (al_m _) ⟨rfl, rfl, Nat.le_of_ble_eq_true rfl, Nat.le_of_ble_eq_true rfl, Nat.le_of_ble_eq_true rfl⟩ dX9_isChair_12 (fun q1 H locs h hP hD hS => ?_)
  obtain ⟨hP, hD⟩ := cv (w' := (moW k va mo) ++ []) hP hD rfl
  rw [List.append_nil] at hP hD
  refine hc_is (z := q1) rfl ?_
  obtain ⟨g2, h⟩ := fw_g h
  exact fw_endZ (rv := fun b : Int32 => b) (wp := fun b : Int32 => moW k va mo) hx hb hr hlocks h (bo_z g2) rfl hP hD hS dX9_isChair_15
noncomputable def f_X9_isSitter (F : Nat)  (x1 : Int32) (mo : OB) : Option (Int32) :=
  Option.bind (f_X9_in F (Int32.toInt64 x1) 0 (Int32.toInt64 (((mo.2.1 1) (Int32.toNatClampNeg 3)) - 1))) (fun q1 => (if bo q1 then (some q1) else none))
set_option maxHeartbeats 4000000 in
set_option maxRecDepth 100000 in
theorem c_X9_isSitter (l : Launch) (D : va_G) (k : Nat → ClassId) (sz : Nat)  (va : Nat → Nat) (F : Nat)  (x1 : Int32) (mo : OB)  {res : Int32} (h : f_X9_isSitter F x1 mo = some res) : CtI l yX9_isSitter wsX9_isSitter (rmK 2 0 0) [.ref (va 0), .int x1] D k sz (moW k va mo) (fun r (_ : Unit) => r = res) (fun _ : Unit => moW k va mo) 0 0 := by
  refine CtI.mk (cc := cX9_isSitter) (maxL := 2) (ret := (some .boolean)) (by decide) rfl (Nat.le_of_ble_eq_true rfl) ?_
  intro p e s m below meth c A ls E hP hD hS hl
  obtain ⟨hx, hb, hr, hml, hown, hts, hlocks, hin, hG, hA⟩ := E
  have hown : s.vm.findClass RX9 = some m.cls := hown
  have in9 : ∀ w ∈ u_ws RX9 TX9 53, w ∈ wsX9_isSitter := fun _ h => List.mem_cons_of_mem _ (List.mem_append_right _ h)
  have hl : lv_has ls 2 [(0, .ref (va 0)), (1, .int x1)] := hl
  refine lv_iload_n hx hb dX9_isSitter_0 rfl (lv_at hl 1 rfl) ?_
  refine lv_i2l hx hb dX9_isSitter_1 rfl ?_
  refine lv_lconst (v := 0) hx hb dX9_isSitter_2 (by decide) ?_
  refine lv_aload_n hx hb dX9_isSitter_3 rfl (lv_at hl 0 rfl) ?_
  refine va_get (D := D) (ci := 7) (v := .ref (va 1)) (C := RX9) (T := TX9) (N := 53) hx hb hts in9 hown hG.1 hP 0 rfl rfl 1 (by decide) (hts (.fieldLink RX9 9 "ChairCaneModel" "scalar" "[I") (mem_b bq_wsX9_isSitter 0 0 rfl)) (fun _ h9 => h9) rfl dX9_isSitter_4 ?_
  refine lv_iconst (v := 3) hx hb dX9_isSitter_7 (by decide) ?_
  refine va_iald hx hb hG.1 hP 1 0 rfl rfl (by unfold vp_in; decide) dX9_isSitter_8 ?_
  refine lv_iconst (v := 1) hx hb dX9_isSitter_9 (by decide) ?_
  refine lv_isub hx hb dX9_isSitter_10 ?_
  refine lv_i2l hx hb dX9_isSitter_11 rfl ?_
  refine fw_Si (As := [.long (Int32.toInt64 x1), .long 0, .long (Int32.toInt64 (((mo.2.1 1) (Int32.toNatClampNeg 3)) - 1))]) (rest := []) (n := 3) (wr := moW k va mo) (rv := fun b : Int32 => b) (wp := fun b : Int32 => []) h hx hb hml hown hts hG hA hP hD hS hl.1 [] (List.range (moW k va mo).length) (fun q hq9 => c_X9_in l D k _   F (Int32.toInt64 x1) 0 (Int32.toInt64 (((mo.2.1 1) (Int32.toNatClampNeg 3)) - 1))   hq9) gX9_isSitter_X9_in rfl ⟨rfl, rfl, Nat.le_of_ble_eq_true rfl, Nat.le_of_ble_eq_true rfl⟩ (by decide +kernel) rfl (al_C _) (al_m _) ⟨rfl, rfl, Nat.le_of_ble_eq_true rfl, Nat.le_of_ble_eq_true rfl, Nat.le_of_ble_eq_true rfl⟩ dX9_isSitter_12 (fun q1 H locs h hP hD hS => ?_)
  obtain ⟨hP, hD⟩ := cv (w' := (moW k va mo) ++ []) hP hD rfl
  rw [List.append_nil] at hP hD
  refine hc_is (z := q1) rfl ?_
  obtain ⟨g2, h⟩ := fw_g h
  exact fw_endZ (rv := fun b : Int32 => b) (wp := fun b : Int32 => moW k va mo) hx hb hr hlocks h (bo_z g2) rfl hP hD hS dX9_isSitter_15
noncomputable def b_X9_put_3 (F : Nat)    (k3 : (Int32 × Int32 × OB) → Option (OB)) (a3 : (Int32 × Int32 × OB)) : Option (OB) :=
  if a3.2.1 < 0 then (some a3.2.2) else (if ib (a3.2.2.1 18) 400 then (k3 (a3.1, (a3.2.1 + (-8)), ((uF a3.2.2.1 18 ((a3.2.2.1 18) + 1)), (uF a3.2.2.2.1 28 (upd (a3.2.2.2.1 28) (Int32.toNatClampNeg (a3.2.2.1 18)) (vp_nar .byte (Int8.toInt32 (Int32.toInt8 (a3.1 >>> (a3.2.1 &&& 31))))))), a3.2.2.2.2))) else none)
noncomputable def f_X9_put (F : Nat)  (x1 : Int32) (mo : OB) : Option (OB) :=
  lp (b_X9_put_3 F) F (x1, 24, mo)
set_option maxRecDepth 20000 in
theorem bq_wsX9_put : subq wsX9_put [[.fieldLink RX9 65 "ChairCaneModel" "tape" "[B", .fieldLink RX9 135 "ChairCaneModel" "taped" "I"]] := ⟨(fun _ h => (List.mem_cons_of_mem _ (List.mem_append_left _ h))), trivial⟩
set_option maxHeartbeats 4000000 in
set_option maxRecDepth 100000 in
theorem c_X9_put (l : Launch) (D : va_G) (k : Nat → ClassId) (sz : Nat)  (va : Nat → Nat) (F : Nat)  (x1 : Int32) (mo : OB)  {res : OB} (h : f_X9_put F x1 mo = some res) : CtV l yX9_put wsX9_put (rmK 1 0 0) [.ref (va 0), .int x1] D k sz (moW k va mo) (fun (_ : Unit) => True) (fun _ : Unit => moW k va res) 0 0 := by
  refine CtV.mk (cc := cX9_put) (maxL := 3) (ret := none) (by decide) rfl (Nat.le_of_ble_eq_true rfl) ?_
  intro p e s m below meth c A ls E hP hD hS hl
  obtain ⟨hx, hb, hr, hml, hown, hts, hlocks, hin, hG, hA⟩ := E
  have hown : s.vm.findClass RX9 = some m.cls := hown
  have in9 : ∀ w ∈ u_ws RX9 TX9 53, w ∈ wsX9_put := fun _ h => List.mem_cons_of_mem _ (List.mem_append_right _ h)
  have hl : lv_has ls 3 [(0, .ref (va 0)), (1, .int x1)] := hl
  have B3 : ∀ a3 : (Int32 × Int32 × OB), lp (b_X9_put_3 F) F a3 = some res → ∀ (H : Heap) (locs : List Loc) (ls : Array Slot), va_P D vwCl (moW k va a3.2.2) H → va_D A (moW k va a3.2.2) → va_S A s.heap H locs → lv_has ls 3 [(0, .ref (va 0)), (1, .int a3.1), (2, .int a3.2.1)] → W p l e (rmK 1 0 0) s m (List.toArray [.ref (va 0), .int x1]) below meth c H locs 0 0 (MQ below (va_Qv (fun (_ : Unit) => True) (hcB D (fun _ : Unit => moW k va res) A) A) (List.toArray [.ref (va 0), .int x1]) s 0 0 A) (F0 m 3 ls []) := by
    refine lp_W ?_ F
    intro k3 hk3 a3 h H locs ls hP hD hS hl
    have hc3 : ∀ (v1 : Int32) (v2 : Int32) (mo : OB), k3 (v1, v2, mo) = some res → ∀ (H : Heap) (locs : List Loc) (ls : Array Slot), va_P D vwCl (moW k va mo) H → va_D A (moW k va mo) → va_S A s.heap H locs → lv_has ls 3 [(0, .ref (va 0)), (1, .int v1), (2, .int v2)] → W p l e (rmK 1 0 0) s m (List.toArray [.ref (va 0), .int x1]) below meth c H locs 0 0 (MQ below (va_Qv (fun (_ : Unit) => True) (hcB D (fun _ : Unit => moW k va res) A) A) (List.toArray [.ref (va 0), .int x1]) s 0 0 A) (F0 m 3 ls []) := fun v1 v2 mo => hk3 (v1, v2, mo)
    refine lv_iload_n hx hb dX9_put_3 rfl (lv_at hl 2 rfl) ?_
    refine lv_if_lt (tgt := 36) hx hb dX9_put_4 (by decide) (fun c1 => ?_) (fun c1 => ?_)
    · have h := fw_t c1 h
      exact fw_endV (wp := fun b : OB => moW k va b) hx hb hr hlocks h hP hD hS dX9_put_36
    · have h := fw_f c1 h
      refine lv_aload_n hx hb dX9_put_7 rfl (lv_at hl 0 rfl) ?_
      refine va_get (D := D) (ci := 7) (v := .ref (va 18)) (C := RX9) (T := TX9) (N := 53) hx hb hts in9 hown hG.1 hP 0 rfl rfl 28 (by decide) (hts (.fieldLink RX9 65 "ChairCaneModel" "tape" "[B") (mem_b bq_wsX9_put 0 0 rfl)) (fun _ h9 => h9) rfl dX9_put_8 ?_
      refine lv_aload_n hx hb dX9_put_11 rfl (lv_at hl 0 rfl) ?_
      refine va_get (D := D) (ci := 7) (v := .int (a3.2.2.1 18)) (C := RX9) (T := TX9) (N := 53) hx hb hts in9 hown hG.1 hP 0 rfl rfl 18 (by decide) (hts (.fieldLink RX9 135 "ChairCaneModel" "taped" "I") (mem_b bq_wsX9_put 0 1 rfl)) (fun _ h9 => h9) rfl dX9_put_12 ?_
      refine lv_iload_n hx hb dX9_put_15 rfl (lv_at hl 1 rfl) ?_
      refine lv_iload_n hx hb dX9_put_16 rfl (lv_at hl 2 rfl) ?_
      refine lv_ishr hx hb dX9_put_17 ?_
      refine lv_i2b hx hb dX9_put_18 rfl ?_
      obtain ⟨g2, h⟩ := fw_g h
      refine va_bast hx hb hG.1 hP hD hS 18 1 rfl rfl (ib_vp g2) dX9_put_19 (fun H locs hP hD hS => ?_)
      refine lv_aload_n hx hb dX9_put_20 rfl (lv_at hl 0 rfl) ?_
      refine lv_dup hx hb dX9_put_21 rfl ?_
      refine va_get (D := D) (ci := 7) (v := .int (a3.2.2.1 18)) (C := RX9) (T := TX9) (N := 53) hx hb hts in9 hown hG.1 hP 0 rfl rfl 18 (by decide) (hts (.fieldLink RX9 135 "ChairCaneModel" "taped" "I") (mem_b bq_wsX9_put 0 1 rfl)) (fun _ h9 => h9) rfl dX9_put_22 ?_
      refine lv_iconst (v := 1) hx hb dX9_put_25 (by decide) ?_
      refine lv_iadd hx hb dX9_put_26 ?_
      refine va_put (D := D) (ci := 7) (v := .int ((a3.2.2.1 18) + 1)) (C := RX9) (T := TX9) (N := 53) hx hb hts in9 tyX9 tyX9_ok nmX9 hown hG.1 hP hD hS 0 rfl rfl 18 (by decide) (hts (.fieldLink RX9 135 "ChairCaneModel" "taped" "I") (mem_b bq_wsX9_put 0 1 rfl)) (fun _ h9 => h9) rfl (tyX9_ok 18 (by decide)) rfl rfl (Nat.le_of_ble_eq_true rfl) dX9_put_27 (fun H locs hP hD hS => ?_)
      refine lv_iinc (v := (a3.2.1 + (-8))) (lv' := [(2, .int (a3.2.1 + (-8))), (0, .ref (va 0)), (1, .int a3.1)]) hx hb dX9_put_30 hl (k := 2) rfl rfl (by decide) rfl (fun ls hl => ?_)
      refine lv_goto (tgt := 3) hx hb dX9_put_33 (by decide) ?_
      exact hc3 _ _ _ h _ _ _ hP hD hS (lv_sub hl [1, 2, 0] rfl)
  have C3 : ∀ (v1 : Int32) (v2 : Int32) (mo : OB), lp (b_X9_put_3 F) F (v1, v2, mo) = some res → ∀ (H : Heap) (locs : List Loc) (ls : Array Slot), va_P D vwCl (moW k va mo) H → va_D A (moW k va mo) → va_S A s.heap H locs → lv_has ls 3 [(0, .ref (va 0)), (1, .int v1), (2, .int v2)] → W p l e (rmK 1 0 0) s m (List.toArray [.ref (va 0), .int x1]) below meth c H locs 0 0 (MQ below (va_Qv (fun (_ : Unit) => True) (hcB D (fun _ : Unit => moW k va res) A) A) (List.toArray [.ref (va 0), .int x1]) s 0 0 A) (F0 m 3 ls []) := fun v1 v2 mo => B3 (v1, v2, mo)
  refine lv_bipush (v := 24) hx hb dX9_put_0 (by decide) ?_
  refine lv_istore_n (lv' := [(2, .int 24), (0, .ref (va 0)), (1, .int x1)]) hx hb dX9_put_2 rfl hl (by decide) rfl (fun ls hl => ?_)
  exact C3 _ _ _ h _ _ _ hP hD hS (lv_sub hl [1, 2, 0] rfl)
noncomputable def f_X9_feed (F : Nat)  (x1 : Int32) (x2 : Int32) (x3 : Int32) (x4 : Int32) (x5 : Int32) (mo : OB) : Option (Int32 × OB) :=
  if ((mo.1 18) + 20) ≤ 400 then (Option.bind (f_X9_put F x1 mo) (fun q2 => (Option.bind (f_X9_put F x2 q2) (fun q3 => (Option.bind (f_X9_put F x3 q3) (fun q4 => (Option.bind (f_X9_put F x4 q4) (fun q5 => (Option.bind (f_X9_put F x5 q5) (fun q6 => (some ((q6.1 18), q6)))))))))))) else (some ((-1), mo))
set_option maxHeartbeats 4000000 in
set_option maxRecDepth 100000 in
theorem c_X9_feed (l : Launch) (D : va_G) (k : Nat → ClassId) (sz : Nat)  (va : Nat → Nat) (F : Nat)  (x1 : Int32) (x2 : Int32) (x3 : Int32) (x4 : Int32) (x5 : Int32) (mo : OB)  {res : Int32 × OB} (h : f_X9_feed F x1 x2 x3 x4 x5 mo = some res) : CtI l yX9_feed wsX9_feed (rmK 2 0 0) [.ref (va 0), .int x1, .int x2, .int x3, .int x4, .int x5] D k sz (moW k va mo) (fun r (_ : Unit) => r = res.1) (fun _ : Unit => moW k va res.2) 0 0 := by
  refine CtI.mk (cc := cX9_feed) (maxL := 6) (ret := (some .int)) (by decide) rfl (Nat.le_of_ble_eq_true rfl) ?_
  intro p e s m below meth c A ls E hP hD hS hl
  obtain ⟨hx, hb, hr, hml, hown, hts, hlocks, hin, hG, hA⟩ := E
  have hown : s.vm.findClass RX9 = some m.cls := hown
  have in9 : ∀ w ∈ u_ws RX9 TX9 53, w ∈ wsX9_feed := fun _ h => List.mem_cons_of_mem _ (List.mem_append_right _ h)
  have hl : lv_has ls 6 [(0, .ref (va 0)), (1, .int x1), (2, .int x2), (3, .int x3), (4, .int x4), (5, .int x5)] := hl
  refine lv_aload_n hx hb dX9_feed_0 rfl (lv_at hl 0 rfl) ?_
  refine va_get (D := D) (ci := 7) (v := .int (mo.1 18)) (C := RX9) (T := TX9) (N := 53) hx hb hts in9 hown hG.1 hP 0 rfl rfl 18 (by decide) (hts (.fieldLink RX9 135 "ChairCaneModel" "taped" "I") (mem_b bq_wsX9_feed 0 0 rfl)) (fun _ h9 => h9) rfl dX9_feed_1 ?_
  refine lv_bipush (v := 20) hx hb dX9_feed_4 (by decide) ?_
  refine lv_iadd hx hb dX9_feed_6 ?_
  refine lv_sipush (v := 400) hx hb dX9_feed_7 (by decide) ?_
  refine lv_icmp_le (tgt := 15) hx hb dX9_feed_10 (by decide) (fun c1 => ?_) (fun c1 => ?_)
  · have h := fw_t c1 h
    refine lv_aload_n hx hb dX9_feed_15 rfl (lv_at hl 0 rfl) ?_
    refine lv_iload_n hx hb dX9_feed_16 rfl (lv_at hl 1 rfl) ?_
    refine fw_Vv (As := [.int x1]) (rest := []) (n := 1) (wr := []) (wp := fun b : OB => moW k va b) h hx hb hml hown hts hG hA hP hD hS hl.1 (List.range (moW k va mo).length) [] (fun q hq9 => c_X9_put l D k _  va F x1 mo  hq9) (ci := 7) (q0 := 0) rfl rfl gX9_feed_X9_put rfl ⟨rfl, rfl, Nat.le_of_ble_eq_true rfl, Nat.le_of_ble_eq_true rfl⟩ (by decide +kernel) (al_C _) rfl (al_n _) ⟨rfl, rfl, Nat.le_of_ble_eq_true rfl, Nat.le_of_ble_eq_true rfl, Nat.le_of_ble_eq_true rfl⟩ dX9_feed_17 (fun q2 H locs h hP hD hS => ?_)
    obtain ⟨hP, hD⟩ := cv (w' := moW k va q2) hP hD rfl
    refine lv_aload_n hx hb dX9_feed_20 rfl (lv_at hl 0 rfl) ?_
    refine lv_iload_n hx hb dX9_feed_21 rfl (lv_at hl 2 rfl) ?_
    refine fw_Vv (As := [.int x2]) (rest := []) (n := 1) (wr := []) (wp := fun b : OB => moW k va b) h hx hb hml hown hts hG hA hP hD hS hl.1 (List.range (moW k va q2).length) [] (fun q hq9 => c_X9_put l D k _  va F x2 q2  hq9) (ci := 7) (q0 := 0) rfl rfl gX9_feed_X9_put rfl ⟨rfl, rfl, Nat.le_of_ble_eq_true rfl, Nat.le_of_ble_eq_true rfl⟩ (by decide +kernel) (al_C _) rfl (al_n _) ⟨rfl, rfl, Nat.le_of_ble_eq_true rfl, Nat.le_of_ble_eq_true rfl, Nat.le_of_ble_eq_true rfl⟩ dX9_feed_22 (fun q3 H locs h hP hD hS => ?_)
    obtain ⟨hP, hD⟩ := cv (w' := moW k va q3) hP hD rfl
    refine lv_aload_n hx hb dX9_feed_25 rfl (lv_at hl 0 rfl) ?_
    refine lv_iload_n hx hb dX9_feed_26 rfl (lv_at hl 3 rfl) ?_
    refine fw_Vv (As := [.int x3]) (rest := []) (n := 1) (wr := []) (wp := fun b : OB => moW k va b) h hx hb hml hown hts hG hA hP hD hS hl.1 (List.range (moW k va q3).length) [] (fun q hq9 => c_X9_put l D k _  va F x3 q3  hq9) (ci := 7) (q0 := 0) rfl rfl gX9_feed_X9_put rfl ⟨rfl, rfl, Nat.le_of_ble_eq_true rfl, Nat.le_of_ble_eq_true rfl⟩ (by decide +kernel) (al_C _) rfl (al_n _) ⟨rfl, rfl, Nat.le_of_ble_eq_true rfl, Nat.le_of_ble_eq_true rfl, Nat.le_of_ble_eq_true rfl⟩ dX9_feed_27 (fun q4 H locs h hP hD hS => ?_)
    obtain ⟨hP, hD⟩ := cv (w' := moW k va q4) hP hD rfl
    refine lv_aload_n hx hb dX9_feed_30 rfl (lv_at hl 0 rfl) ?_
    refine lv_iload hx hb dX9_feed_31 (lv_at hl 4 rfl) ?_
    refine fw_Vv (As := [.int x4]) (rest := []) (n := 1) (wr := []) (wp := fun b : OB => moW k va b) h hx hb hml hown hts hG hA hP hD hS hl.1 (List.range (moW k va q4).length) [] (fun q hq9 => c_X9_put l D k _  va F x4 q4  hq9) (ci := 7) (q0 := 0) rfl rfl gX9_feed_X9_put rfl ⟨rfl, rfl, Nat.le_of_ble_eq_true rfl, Nat.le_of_ble_eq_true rfl⟩ (by decide +kernel) (al_C _) rfl (al_n _) ⟨rfl, rfl, Nat.le_of_ble_eq_true rfl, Nat.le_of_ble_eq_true rfl, Nat.le_of_ble_eq_true rfl⟩ dX9_feed_33 (fun q5 H locs h hP hD hS => ?_)
    obtain ⟨hP, hD⟩ := cv (w' := moW k va q5) hP hD rfl
    refine lv_aload_n hx hb dX9_feed_36 rfl (lv_at hl 0 rfl) ?_
    refine lv_iload hx hb dX9_feed_37 (lv_at hl 5 rfl) ?_
    refine fw_Vv (As := [.int x5]) (rest := []) (n := 1) (wr := []) (wp := fun b : OB => moW k va b) h hx hb hml hown hts hG hA hP hD hS hl.1 (List.range (moW k va q5).length) [] (fun q hq9 => c_X9_put l D k _  va F x5 q5  hq9) (ci := 7) (q0 := 0) rfl rfl gX9_feed_X9_put rfl ⟨rfl, rfl, Nat.le_of_ble_eq_true rfl, Nat.le_of_ble_eq_true rfl⟩ (by decide +kernel) (al_C _) rfl (al_n _) ⟨rfl, rfl, Nat.le_of_ble_eq_true rfl, Nat.le_of_ble_eq_true rfl, Nat.le_of_ble_eq_true rfl⟩ dX9_feed_39 (fun q6 H locs h hP hD hS => ?_)
    obtain ⟨hP, hD⟩ := cv (w' := moW k va q6) hP hD rfl
    refine lv_aload_n hx hb dX9_feed_42 rfl (lv_at hl 0 rfl) ?_
    refine va_get (D := D) (ci := 7) (v := .int (q6.1 18)) (C := RX9) (T := TX9) (N := 53) hx hb hts in9 hown hG.1 hP 0 rfl rfl 18 (by decide) (hts (.fieldLink RX9 135 "ChairCaneModel" "taped" "I") (mem_b bq_wsX9_feed 0 0 rfl)) (fun _ h9 => h9) rfl dX9_feed_43 ?_
    exact fw_endI (rv := fun b : Int32 × OB => b.1) (wp := fun b : Int32 × OB => moW k va b.2) hx hb hr hlocks h rfl hP hD hS dX9_feed_46
  · have h := fw_f c1 h
    refine lv_iconst (v := (-1)) hx hb dX9_feed_13 (by decide) ?_
    exact fw_endI (rv := fun b : Int32 × OB => b.1) (wp := fun b : Int32 × OB => moW k va b.2) hx hb hr hlocks h rfl hP hD hS dX9_feed_14
noncomputable def b_X9_end_12 (F : Nat)    (mo : OB) : Option (Int32 × OB) :=
  some ((-1), mo)
noncomputable def f_X9_end (F : Nat)  (x1 : Int32) (mo : OB) : Option (Int32 × OB) :=
  if x1 < 0 then (b_X9_end_12 F mo) else (if x1 ≤ (mo.1 18) then (some (x1, ((uF mo.1 18 x1), mo.2.1, mo.2.2))) else (b_X9_end_12 F mo))
set_option maxRecDepth 20000 in
theorem bq_wsX9_end : subq wsX9_end [[.fieldLink RX9 135 "ChairCaneModel" "taped" "I"]] := ⟨(fun _ h => (List.mem_cons_of_mem _ (List.mem_append_left _ h))), trivial⟩
set_option maxHeartbeats 4000000 in
set_option maxRecDepth 100000 in
theorem c_X9_end (l : Launch) (D : va_G) (k : Nat → ClassId) (sz : Nat)  (va : Nat → Nat) (F : Nat)  (x1 : Int32) (mo : OB)  {res : Int32 × OB} (h : f_X9_end F x1 mo = some res) : CtI l yX9_end wsX9_end (rmK 1 0 0) [.ref (va 0), .int x1] D k sz (moW k va mo) (fun r (_ : Unit) => r = res.1) (fun _ : Unit => moW k va res.2) 0 0 := by
  refine CtI.mk (cc := cX9_end) (maxL := 2) (ret := (some .int)) (by decide) rfl (Nat.le_of_ble_eq_true rfl) ?_
  intro p e s m below meth c A ls E hP hD hS hl
  obtain ⟨hx, hb, hr, hml, hown, hts, hlocks, hin, hG, hA⟩ := E
  have hown : s.vm.findClass RX9 = some m.cls := hown
  have in9 : ∀ w ∈ u_ws RX9 TX9 53, w ∈ wsX9_end := fun _ h => List.mem_cons_of_mem _ (List.mem_append_right _ h)
  have hl : lv_has ls 2 [(0, .ref (va 0)), (1, .int x1)] := hl
  have B12 : ∀ (mo : OB) (H : Heap) (locs : List Loc) (ls : Array Slot), b_X9_end_12 F mo = some res → va_P D vwCl (moW k va mo) H → va_D A (moW k va mo) → va_S A s.heap H locs → lv_has ls 2 [] → W p l e (rmK 1 0 0) s m (List.toArray [.ref (va 0), .int x1]) below meth c H locs 0 0 (MQ below (va_Qi (fun r (_ : Unit) => r = res.1) (hcB D (fun _ : Unit => moW k va res.2) A) A) (List.toArray [.ref (va 0), .int x1]) s 0 0 A) (F0 m 12 ls []) := by
    intro mo H locs ls h hP hD hS hl
    refine lv_iconst (v := (-1)) hx hb dX9_end_12 (by decide) ?_
    exact fw_endI (rv := fun b : Int32 × OB => b.1) (wp := fun b : Int32 × OB => moW k va b.2) hx hb hr hlocks h rfl hP hD hS dX9_end_13
  refine lv_iload_n hx hb dX9_end_0 rfl (lv_at hl 1 rfl) ?_
  refine lv_if_lt (tgt := 12) hx hb dX9_end_1 (by decide) (fun c1 => ?_) (fun c1 => ?_)
  · have h := fw_t c1 h
    exact B12 _ _ _ _ h hP hD hS (lv_sub hl [] rfl)
  · have h := fw_f c1 h
    refine lv_iload_n hx hb dX9_end_4 rfl (lv_at hl 1 rfl) ?_
    refine lv_aload_n hx hb dX9_end_5 rfl (lv_at hl 0 rfl) ?_
    refine va_get (D := D) (ci := 7) (v := .int (mo.1 18)) (C := RX9) (T := TX9) (N := 53) hx hb hts in9 hown hG.1 hP 0 rfl rfl 18 (by decide) (hts (.fieldLink RX9 135 "ChairCaneModel" "taped" "I") (mem_b bq_wsX9_end 0 0 rfl)) (fun _ h9 => h9) rfl dX9_end_6 ?_
    refine lv_icmp_le (tgt := 14) hx hb dX9_end_9 (by decide) (fun c2 => ?_) (fun c2 => ?_)
    · have h := fw_t c2 h
      refine lv_aload_n hx hb dX9_end_14 rfl (lv_at hl 0 rfl) ?_
      refine lv_iload_n hx hb dX9_end_15 rfl (lv_at hl 1 rfl) ?_
      refine va_put (D := D) (ci := 7) (v := .int x1) (C := RX9) (T := TX9) (N := 53) hx hb hts in9 tyX9 tyX9_ok nmX9 hown hG.1 hP hD hS 0 rfl rfl 18 (by decide) (hts (.fieldLink RX9 135 "ChairCaneModel" "taped" "I") (mem_b bq_wsX9_end 0 0 rfl)) (fun _ h9 => h9) rfl (tyX9_ok 18 (by decide)) rfl rfl (Nat.le_of_ble_eq_true rfl) dX9_end_16 (fun H locs hP hD hS => ?_)
      refine lv_iload_n hx hb dX9_end_19 rfl (lv_at hl 1 rfl) ?_
      exact fw_endI (rv := fun b : Int32 × OB => b.1) (wp := fun b : Int32 × OB => moW k va b.2) hx hb hr hlocks h rfl hP hD hS dX9_end_20
    · have h := fw_f c2 h
      exact B12 _ _ _ _ h hP hD hS (lv_sub hl [] rfl)
noncomputable def b_X9_fails_23 (F : Nat)    (y0 : Int32) (mo : OB) : Option (OB) :=
  some ((uF mo.1 20 y0), mo.2.1, mo.2.2)
noncomputable def f_X9_fails (F : Nat)  (x1 : Int32) (x2 : Int32) (mo : OB) : Option (OB) :=
  if (mo.1 20) = 0 then (b_X9_fails_23 F ((1 + (8 * x2)) + x1) mo) else (b_X9_fails_23 F (mo.1 20) mo)
set_option maxRecDepth 20000 in
theorem bq_wsX9_fails : subq wsX9_fails [[.fieldLink RX9 161 "ChairCaneModel" "fault" "I"]] := ⟨(fun _ h => (List.mem_cons_of_mem _ (List.mem_append_left _ h))), trivial⟩
set_option maxHeartbeats 4000000 in
set_option maxRecDepth 100000 in
theorem c_X9_fails (l : Launch) (D : va_G) (k : Nat → ClassId) (sz : Nat)  (va : Nat → Nat) (F : Nat)  (x1 : Int32) (x2 : Int32) (mo : OB)  {res : OB} (h : f_X9_fails F x1 x2 mo = some res) : CtV l yX9_fails wsX9_fails (rmK 1 0 0) [.ref (va 0), .int x1, .int x2] D k sz (moW k va mo) (fun (_ : Unit) => True) (fun _ : Unit => moW k va res) 0 0 := by
  refine CtV.mk (cc := cX9_fails) (maxL := 3) (ret := none) (by decide) rfl (Nat.le_of_ble_eq_true rfl) ?_
  intro p e s m below meth c A ls E hP hD hS hl
  obtain ⟨hx, hb, hr, hml, hown, hts, hlocks, hin, hG, hA⟩ := E
  have hown : s.vm.findClass RX9 = some m.cls := hown
  have in9 : ∀ w ∈ u_ws RX9 TX9 53, w ∈ wsX9_fails := fun _ h => List.mem_cons_of_mem _ (List.mem_append_right _ h)
  have hl : lv_has ls 3 [(0, .ref (va 0)), (1, .int x1), (2, .int x2)] := hl
  have B23 : ∀ (y0 : Int32) (mo : OB) (H : Heap) (locs : List Loc) (ls : Array Slot), b_X9_fails_23 F y0 mo = some res → va_P D vwCl (moW k va mo) H → va_D A (moW k va mo) → va_S A s.heap H locs → lv_has ls 3 [] → W p l e (rmK 1 0 0) s m (List.toArray [.ref (va 0), .int x1, .int x2]) below meth c H locs 0 0 (MQ below (va_Qv (fun (_ : Unit) => True) (hcB D (fun _ : Unit => moW k va res) A) A) (List.toArray [.ref (va 0), .int x1, .int x2]) s 0 0 A) (F0 m 23 ls [.int y0, .ref (va 0)]) := by
    intro y0 mo H locs ls h hP hD hS hl
    refine va_put (D := D) (ci := 7) (v := .int y0) (C := RX9) (T := TX9) (N := 53) hx hb hts in9 tyX9 tyX9_ok nmX9 hown hG.1 hP hD hS 0 rfl rfl 20 (by decide) (hts (.fieldLink RX9 161 "ChairCaneModel" "fault" "I") (mem_b bq_wsX9_fails 0 0 rfl)) (fun _ h9 => h9) rfl (tyX9_ok 20 (by decide)) rfl rfl (Nat.le_of_ble_eq_true rfl) dX9_fails_23 (fun H locs hP hD hS => ?_)
    exact fw_endV (wp := fun b : OB => moW k va b) hx hb hr hlocks h hP hD hS dX9_fails_26
  refine lv_aload_n hx hb dX9_fails_0 rfl (lv_at hl 0 rfl) ?_
  refine lv_aload_n hx hb dX9_fails_1 rfl (lv_at hl 0 rfl) ?_
  refine va_get (D := D) (ci := 7) (v := .int (mo.1 20)) (C := RX9) (T := TX9) (N := 53) hx hb hts in9 hown hG.1 hP 0 rfl rfl 20 (by decide) (hts (.fieldLink RX9 161 "ChairCaneModel" "fault" "I") (mem_b bq_wsX9_fails 0 0 rfl)) (fun _ h9 => h9) rfl dX9_fails_2 ?_
  refine lv_if_ne (tgt := 19) hx hb dX9_fails_5 (by decide) (fun c1 => ?_) (fun c1 => ?_)
  · have h := fw_f c1 h
    refine lv_aload_n hx hb dX9_fails_19 rfl (lv_at hl 0 rfl) ?_
    refine va_get (D := D) (ci := 7) (v := .int (mo.1 20)) (C := RX9) (T := TX9) (N := 53) hx hb hts in9 hown hG.1 hP 0 rfl rfl 20 (by decide) (hts (.fieldLink RX9 161 "ChairCaneModel" "fault" "I") (mem_b bq_wsX9_fails 0 0 rfl)) (fun _ h9 => h9) rfl dX9_fails_20 ?_
    exact B23 _ _ _ _ _ h hP hD hS (lv_sub hl [] rfl)
  · have h := fw_t c1 h
    refine lv_iconst (v := 1) hx hb dX9_fails_8 (by decide) ?_
    refine lv_bipush (v := 8) hx hb dX9_fails_9 (by decide) ?_
    refine lv_iload_n hx hb dX9_fails_11 rfl (lv_at hl 2 rfl) ?_
    refine lv_imul hx hb dX9_fails_12 ?_
    refine lv_iadd hx hb dX9_fails_13 ?_
    refine lv_iload_n hx hb dX9_fails_14 rfl (lv_at hl 1 rfl) ?_
    refine lv_iadd hx hb dX9_fails_15 ?_
    refine lv_goto (tgt := 23) hx hb dX9_fails_16 (by decide) ?_
    exact B23 _ _ _ _ _ h hP hD hS (lv_sub hl [] rfl)
noncomputable def b_X9_sign_28 (F : Nat)  (mo : OB)  (y0 : Int32) : Option (Int32) :=
  some y0
noncomputable def f_X9_sign (F : Nat)   (mo : OB) : Option (Int32) :=
  if (mo.1 18) ≤ (mo.1 19) then (b_X9_sign_28 F mo (-1)) else (if ib (mo.1 19) 400 then (b_X9_sign_28 F mo (((mo.2.1 28) (Int32.toNatClampNeg (mo.1 19))) &&& 255)) else none)
set_option maxRecDepth 20000 in
theorem bq_wsX9_sign : subq wsX9_sign [[.fieldLink RX9 164 "ChairCaneModel" "p" "I", .fieldLink RX9 135 "ChairCaneModel" "taped" "I", .fieldLink RX9 65 "ChairCaneModel" "tape" "[B"]] := ⟨(fun _ h => (List.mem_cons_of_mem _ (List.mem_append_left _ h))), trivial⟩
set_option maxHeartbeats 4000000 in
set_option maxRecDepth 100000 in
theorem c_X9_sign (l : Launch) (D : va_G) (k : Nat → ClassId) (sz : Nat)  (va : Nat → Nat) (F : Nat)   (mo : OB)  {res : Int32} (h : f_X9_sign F mo = some res) : CtI l yX9_sign wsX9_sign (rmK 1 0 0) [.ref (va 0)] D k sz (moW k va mo) (fun r (_ : Unit) => r = res) (fun _ : Unit => moW k va mo) 0 0 := by
  refine CtI.mk (cc := cX9_sign) (maxL := 1) (ret := (some .int)) (by decide) rfl (Nat.le_of_ble_eq_true rfl) ?_
  intro p e s m below meth c A ls E hP hD hS hl
  obtain ⟨hx, hb, hr, hml, hown, hts, hlocks, hin, hG, hA⟩ := E
  have hown : s.vm.findClass RX9 = some m.cls := hown
  have in9 : ∀ w ∈ u_ws RX9 TX9 53, w ∈ wsX9_sign := fun _ h => List.mem_cons_of_mem _ (List.mem_append_right _ h)
  have hl : lv_has ls 1 [(0, .ref (va 0))] := hl
  have B28 : ∀ (y0 : Int32) (H : Heap) (locs : List Loc) (ls : Array Slot), b_X9_sign_28 F mo y0 = some res → va_P D vwCl (moW k va mo) H → va_D A (moW k va mo) → va_S A s.heap H locs → lv_has ls 1 [] → W p l e (rmK 1 0 0) s m (List.toArray [.ref (va 0)]) below meth c H locs 0 0 (MQ below (va_Qi (fun r (_ : Unit) => r = res) (hcB D (fun _ : Unit => moW k va mo) A) A) (List.toArray [.ref (va 0)]) s 0 0 A) (F0 m 28 ls [.int y0]) := by
    intro y0 H locs ls h hP hD hS hl
    exact fw_endI (rv := fun b : Int32 => b) (wp := fun b : Int32 => moW k va mo) hx hb hr hlocks h rfl hP hD hS dX9_sign_28
  refine lv_aload_n hx hb dX9_sign_0 rfl (lv_at hl 0 rfl) ?_
  refine va_get (D := D) (ci := 7) (v := .int (mo.1 19)) (C := RX9) (T := TX9) (N := 53) hx hb hts in9 hown hG.1 hP 0 rfl rfl 19 (by decide) (hts (.fieldLink RX9 164 "ChairCaneModel" "p" "I") (mem_b bq_wsX9_sign 0 0 rfl)) (fun _ h9 => h9) rfl dX9_sign_1 ?_
  refine lv_aload_n hx hb dX9_sign_4 rfl (lv_at hl 0 rfl) ?_
  refine va_get (D := D) (ci := 7) (v := .int (mo.1 18)) (C := RX9) (T := TX9) (N := 53) hx hb hts in9 hown hG.1 hP 0 rfl rfl 18 (by decide) (hts (.fieldLink RX9 135 "ChairCaneModel" "taped" "I") (mem_b bq_wsX9_sign 0 1 rfl)) (fun _ h9 => h9) rfl dX9_sign_5 ?_
  refine lv_icmp_ge (tgt := 27) hx hb dX9_sign_8 (by decide) (fun c1 => ?_) (fun c1 => ?_)
  · have h := fw_t c1 h
    refine lv_iconst (v := (-1)) hx hb dX9_sign_27 (by decide) ?_
    exact B28 _ _ _ _ h hP hD hS (lv_sub hl [] rfl)
  · have h := fw_f c1 h
    refine lv_aload_n hx hb dX9_sign_11 rfl (lv_at hl 0 rfl) ?_
    refine va_get (D := D) (ci := 7) (v := .ref (va 18)) (C := RX9) (T := TX9) (N := 53) hx hb hts in9 hown hG.1 hP 0 rfl rfl 28 (by decide) (hts (.fieldLink RX9 65 "ChairCaneModel" "tape" "[B") (mem_b bq_wsX9_sign 0 2 rfl)) (fun _ h9 => h9) rfl dX9_sign_12 ?_
    refine lv_aload_n hx hb dX9_sign_15 rfl (lv_at hl 0 rfl) ?_
    refine va_get (D := D) (ci := 7) (v := .int (mo.1 19)) (C := RX9) (T := TX9) (N := 53) hx hb hts in9 hown hG.1 hP 0 rfl rfl 19 (by decide) (hts (.fieldLink RX9 164 "ChairCaneModel" "p" "I") (mem_b bq_wsX9_sign 0 0 rfl)) (fun _ h9 => h9) rfl dX9_sign_16 ?_
    obtain ⟨g2, h⟩ := fw_g h
    refine va_bald hx hb hG.1 hP 18 1 rfl rfl (ib_vp g2) dX9_sign_19 ?_
    refine lv_sipush (v := 255) hx hb dX9_sign_20 (by decide) ?_
    refine lv_iand hx hb dX9_sign_23 ?_
    refine lv_goto (tgt := 28) hx hb dX9_sign_24 (by decide) ?_
    exact B28 _ _ _ _ h hP hD hS (lv_sub hl [] rfl)
noncomputable def b_X9_blanks_0 (F : Nat)    (k0 : (OB) → Option (OB)) (a0 : (OB)) : Option (OB) :=
  Option.bind (f_X9_sign F a0) (fun q1 => (if q1 = 32 then (k0 ((uF a0.1 19 ((a0.1 19) + 1)), a0.2.1, a0.2.2)) else (some a0)))
noncomputable def f_X9_blanks (F : Nat)   (mo : OB) : Option (OB) :=
  lp (b_X9_blanks_0 F) F mo
set_option maxHeartbeats 4000000 in
set_option maxRecDepth 100000 in
theorem c_X9_blanks (l : Launch) (D : va_G) (k : Nat → ClassId) (sz : Nat)  (va : Nat → Nat) (F : Nat)   (mo : OB)  {res : OB} (h : f_X9_blanks F mo = some res) : CtV l yX9_blanks wsX9_blanks (rmK 2 0 0) [.ref (va 0)] D k sz (moW k va mo) (fun (_ : Unit) => True) (fun _ : Unit => moW k va res) 0 0 := by
  refine CtV.mk (cc := cX9_blanks) (maxL := 1) (ret := none) (by decide) rfl (Nat.le_of_ble_eq_true rfl) ?_
  intro p e s m below meth c A ls E hP hD hS hl
  obtain ⟨hx, hb, hr, hml, hown, hts, hlocks, hin, hG, hA⟩ := E
  have hown : s.vm.findClass RX9 = some m.cls := hown
  have in9 : ∀ w ∈ u_ws RX9 TX9 53, w ∈ wsX9_blanks := fun _ h => List.mem_cons_of_mem _ (List.mem_append_right _ h)
  have hl : lv_has ls 1 [(0, .ref (va 0))] := hl
  have B0 : ∀ a0 : (OB), lp (b_X9_blanks_0 F) F a0 = some res → ∀ (H : Heap) (locs : List Loc) (ls : Array Slot), va_P D vwCl (moW k va a0) H → va_D A (moW k va a0) → va_S A s.heap H locs → lv_has ls 1 [(0, .ref (va 0))] → W p l e (rmK 2 0 0) s m (List.toArray [.ref (va 0)]) below meth c H locs 0 0 (MQ below (va_Qv (fun (_ : Unit) => True) (hcB D (fun _ : Unit => moW k va res) A) A) (List.toArray [.ref (va 0)]) s 0 0 A) (F0 m 0 ls []) := by
    refine lp_W ?_ F
    intro k0 hk0 a0 h H locs ls hP hD hS hl
    have hc0 : ∀ (mo : OB), k0 (mo) = some res → ∀ (H : Heap) (locs : List Loc) (ls : Array Slot), va_P D vwCl (moW k va mo) H → va_D A (moW k va mo) → va_S A s.heap H locs → lv_has ls 1 [(0, .ref (va 0))] → W p l e (rmK 2 0 0) s m (List.toArray [.ref (va 0)]) below meth c H locs 0 0 (MQ below (va_Qv (fun (_ : Unit) => True) (hcB D (fun _ : Unit => moW k va res) A) A) (List.toArray [.ref (va 0)]) s 0 0 A) (F0 m 0 ls []) := fun mo => hk0 (mo)
    refine lv_aload_n hx hb dX9_blanks_0 rfl (lv_at hl 0 rfl) ?_
    refine fw_Vi (As := []) (rest := []) (n := 0) (wr := []) (rv := fun b : Int32 => b) (wp := fun b : Int32 => moW k va a0) h hx hb hml hown hts hG hA hP hD hS hl.1 (List.range (moW k va a0).length) [] (fun q hq9 => c_X9_sign l D k _  va F  a0  hq9) (ci := 7) (q0 := 0) rfl rfl gX9_blanks_X9_sign rfl ⟨rfl, rfl, Nat.le_of_ble_eq_true rfl, Nat.le_of_ble_eq_true rfl⟩ (by decide +kernel) (al_C _) rfl (al_n _) ⟨rfl, rfl, Nat.le_of_ble_eq_true rfl, Nat.le_of_ble_eq_true rfl, Nat.le_of_ble_eq_true rfl⟩ dX9_blanks_1 (fun q1 H locs h hP hD hS => ?_)
    obtain ⟨hP, hD⟩ := cv (w' := moW k va a0) hP hD rfl
    refine hc_is (z := q1) rfl ?_
    refine lv_bipush (v := 32) hx hb dX9_blanks_4 (by decide) ?_
    refine lv_icmp_ne (tgt := 22) hx hb dX9_blanks_6 (by decide) (fun c2 => ?_) (fun c2 => ?_)
    · have h := fw_f c2 h
      exact fw_endV (wp := fun b : OB => moW k va b) hx hb hr hlocks h hP hD hS dX9_blanks_22
    · have h := fw_t c2 h
      refine lv_aload_n hx hb dX9_blanks_9 rfl (lv_at hl 0 rfl) ?_
      refine lv_dup hx hb dX9_blanks_10 rfl ?_
      refine va_get (D := D) (ci := 7) (v := .int (a0.1 19)) (C := RX9) (T := TX9) (N := 53) hx hb hts in9 hown hG.1 hP 0 rfl rfl 19 (by decide) (hts (.fieldLink RX9 164 "ChairCaneModel" "p" "I") (mem_b bq_wsX9_blanks 0 0 rfl)) (fun _ h9 => h9) rfl dX9_blanks_11 ?_
      refine lv_iconst (v := 1) hx hb dX9_blanks_14 (by decide) ?_
      refine lv_iadd hx hb dX9_blanks_15 ?_
      refine va_put (D := D) (ci := 7) (v := .int ((a0.1 19) + 1)) (C := RX9) (T := TX9) (N := 53) hx hb hts in9 tyX9 tyX9_ok nmX9 hown hG.1 hP hD hS 0 rfl rfl 19 (by decide) (hts (.fieldLink RX9 164 "ChairCaneModel" "p" "I") (mem_b bq_wsX9_blanks 0 0 rfl)) (fun _ h9 => h9) rfl (tyX9_ok 19 (by decide)) rfl rfl (Nat.le_of_ble_eq_true rfl) dX9_blanks_16 (fun H locs hP hD hS => ?_)
      refine lv_goto (tgt := 0) hx hb dX9_blanks_19 (by decide) ?_
      exact hc0 _ h _ _ _ hP hD hS hl
  have C0 : ∀ (mo : OB), lp (b_X9_blanks_0 F) F (mo) = some res → ∀ (H : Heap) (locs : List Loc) (ls : Array Slot), va_P D vwCl (moW k va mo) H → va_D A (moW k va mo) → va_S A s.heap H locs → lv_has ls 1 [(0, .ref (va 0))] → W p l e (rmK 2 0 0) s m (List.toArray [.ref (va 0)]) below meth c H locs 0 0 (MQ below (va_Qv (fun (_ : Unit) => True) (hcB D (fun _ : Unit => moW k va res) A) A) (List.toArray [.ref (va 0)]) s 0 0 A) (F0 m 0 ls []) := fun mo => B0 (mo)
  exact C0 _ h _ _ _ hP hD hS hl
noncomputable def f_X9_isDigit (F : Nat)   (mo : OB) : Option (Int32) :=
  Option.bind (f_X9_sign F mo) (fun q1 => (Option.bind (f_X9_in F (Int32.toInt64 q1) 48 57) (fun q2 => (if bo q2 then (some q2) else none))))
set_option maxHeartbeats 4000000 in
set_option maxRecDepth 100000 in
theorem c_X9_isDigit (l : Launch) (D : va_G) (k : Nat → ClassId) (sz : Nat)  (va : Nat → Nat) (F : Nat)   (mo : OB)  {res : Int32} (h : f_X9_isDigit F mo = some res) : CtI l yX9_isDigit wsX9_isDigit (rmK 2 0 0) [.ref (va 0)] D k sz (moW k va mo) (fun r (_ : Unit) => r = res) (fun _ : Unit => moW k va mo) 0 0 := by
  refine CtI.mk (cc := cX9_isDigit) (maxL := 1) (ret := (some .boolean)) (by decide) rfl (Nat.le_of_ble_eq_true rfl) ?_
  intro p e s m below meth c A ls E hP hD hS hl
  obtain ⟨hx, hb, hr, hml, hown, hts, hlocks, hin, hG, hA⟩ := E
  have hown : s.vm.findClass RX9 = some m.cls := hown
  have in9 : ∀ w ∈ u_ws RX9 TX9 53, w ∈ wsX9_isDigit := fun _ h => List.mem_cons_of_mem _ (List.mem_append_right _ h)
  have hl : lv_has ls 1 [(0, .ref (va 0))] := hl
  refine lv_aload_n hx hb dX9_isDigit_0 rfl (lv_at hl 0 rfl) ?_
  refine fw_Vi (As := []) (rest := []) (n := 0) (wr := []) (rv := fun b : Int32 => b) (wp := fun b : Int32 => moW k va mo) h hx hb hml hown hts hG hA hP hD hS hl.1 (List.range (moW k va mo).length) [] (fun q hq9 => c_X9_sign l D k _  va F  mo  hq9) (ci := 7) (q0 := 0) rfl rfl gX9_isDigit_X9_sign rfl ⟨rfl, rfl, Nat.le_of_ble_eq_true rfl, Nat.le_of_ble_eq_true rfl⟩ (by decide +kernel) (al_C _) rfl (al_n _) ⟨rfl, rfl, Nat.le_of_ble_eq_true rfl, Nat.le_of_ble_eq_true rfl, Nat.le_of_ble_eq_true rfl⟩ dX9_isDigit_1 (fun q1 H locs h hP hD hS => ?_)
  obtain ⟨hP, hD⟩ := cv (w' := moW k va mo) hP hD rfl
  refine hc_is (z := q1) rfl ?_
  refine lv_i2l hx hb dX9_isDigit_4 rfl ?_
  refine lv_ldc2 (v := 48) hx hb hown (hts (.constantLong RX9 171 (48)) (mem_b bq_wsX9_isDigit 0 0 rfl)) dX9_isDigit_5 ?_
  refine lv_ldc2 (v := 57) hx hb hown (hts (.constantLong RX9 173 (57)) (mem_b bq_wsX9_isDigit 0 1 rfl)) dX9_isDigit_8 ?_
  refine fw_Si (As := [.long (Int32.toInt64 q1), .long 48, .long 57]) (rest := []) (n := 3) (wr := moW k va mo) (rv := fun b : Int32 => b) (wp := fun b : Int32 => []) h hx hb hml hown hts hG hA hP hD hS hl.1 [] (List.range (moW k va mo).length) (fun q hq9 => c_X9_in l D k _   F (Int32.toInt64 q1) 48 57   hq9) gX9_isDigit_X9_in rfl ⟨rfl, rfl, Nat.le_of_ble_eq_true rfl, Nat.le_of_ble_eq_true rfl⟩ (by decide +kernel) rfl (al_C _) (al_m _) ⟨rfl, rfl, Nat.le_of_ble_eq_true rfl, Nat.le_of_ble_eq_true rfl, Nat.le_of_ble_eq_true rfl⟩ dX9_isDigit_11 (fun q2 H locs h hP hD hS => ?_)
  obtain ⟨hP, hD⟩ := cv (w' := (moW k va mo) ++ []) hP hD rfl
  rw [List.append_nil] at hP hD
  refine hc_is (z := q2) rfl ?_
  obtain ⟨g3, h⟩ := fw_g h
  exact fw_endZ (rv := fun b : Int32 => b) (wp := fun b : Int32 => moW k va mo) hx hb hr hlocks h (bo_z g3) rfl hP hD hS dX9_isDigit_14
noncomputable def b_X9_stood_109 (F : Nat)  (mo : OB)  (v3 : Int32) : Option (Int32) :=
  if bo v3 then (some v3) else none
noncomputable def b_X9_stood_102 (F : Nat)  (mo : OB) (k63 : (Nat × Int32 × Int32) → Option (Int32)) (v1 : Nat) (v4 : Int32) (y0 : Int32) : Option (Int32) :=
  k63 (v1, y0, (v4 + 1))
noncomputable def b_X9_stood_63 (F : Nat)  (mo : OB)  (k63 : (Nat × Int32 × Int32) → Option (Int32)) (a63 : (Nat × Int32 × Int32)) : Option (Int32) :=
  if a63.1 < 18 then (if (nI (xl a63.1)) ≤ a63.2.2 then (b_X9_stood_109 F mo a63.2.1) else (if a63.2.1 = 0 then (b_X9_stood_109 F mo a63.2.1) else (if ib ((mo.1 19) + a63.2.2) 400 then (if ib a63.2.2 (xl a63.1) then (if ((mo.2.1 28) (Int32.toNatClampNeg ((mo.1 19) + a63.2.2))) = (xc a63.1 (Int32.toNatClampNeg a63.2.2) &&& 255) then (b_X9_stood_102 F mo k63 a63.1 a63.2.2 1) else (b_X9_stood_102 F mo k63 a63.1 a63.2.2 0)) else none) else none))) else none
noncomputable def b_X9_stood_59 (F : Nat)  (mo : OB)  (v1 : Nat) (y0 : Int32) : Option (Int32) :=
  lp (b_X9_stood_63 F mo) F (v1, y0, 0)
noncomputable def b_X9_stood_41 (F : Nat)  (mo : OB)  (v1 : Nat) (v2 : Int32) : Option (Int32) :=
  if v1 < 18 then (if (v2 - (mo.1 19)) = (nI (xl v1)) then (b_X9_stood_59 F mo v1 1) else (b_X9_stood_59 F mo v1 0)) else none
noncomputable def b_X9_stood_5 (F : Nat)  (mo : OB)  (k5 : (Nat × Int32) → Option (Int32)) (a5 : (Nat × Int32)) : Option (Int32) :=
  if (mo.1 18) ≤ a5.2 then (b_X9_stood_41 F mo a5.1 a5.2) else (if ib a5.2 400 then (if ((mo.2.1 28) (Int32.toNatClampNeg a5.2)) < 97 then (b_X9_stood_41 F mo a5.1 a5.2) else (if 122 < ((mo.2.1 28) (Int32.toNatClampNeg a5.2)) then (b_X9_stood_41 F mo a5.1 a5.2) else (k5 (a5.1, (a5.2 + 1))))) else none)
noncomputable def f_X9_stood (F : Nat)  (x1 : Nat) (mo : OB) : Option (Int32) :=
  lp (b_X9_stood_5 F mo) F (x1, (mo.1 19))
set_option maxHeartbeats 4000000 in
set_option maxRecDepth 100000 in
theorem c_X9_stood (l : Launch) (D : va_G) (k : Nat → ClassId) (sz : Nat) (ad tv : Nat → Nat) (va : Nat → Nat) (F : Nat)  (x1 : Nat) (mo : OB)  {res : Int32} (h : f_X9_stood F x1 mo = some res) : CtIE l yX9_stood wsX9_stood (rmK 5 0 0) [.ref (va 0), .ref (ad x1)] D k (EY ad tv) sz (moW k va mo) (fun r (_ : Unit) => r = res) (fun _ : Unit => moW k va mo) 0 0 := by
  refine CtIE.mk (cc := cX9_stood) (maxL := 5) (ret := (some .boolean)) (by decide) rfl (Nat.le_of_ble_eq_true rfl) ?_
  intro p e s m below meth c A ls hE E hP hD hS hl
  obtain ⟨hx, hb, hr, hml, hown, hts, hlocks, hin, hG, hA⟩ := E
  have hown : s.vm.findClass RX9 = some m.cls := hown
  have in9 : ∀ w ∈ u_ws RX9 TX9 53, w ∈ wsX9_stood := fun _ h => List.mem_cons_of_mem _ (List.mem_append_right _ h)
  have hl : lv_has ls 5 [(0, .ref (va 0)), (1, .ref (ad x1))] := hl
  have B109 : ∀ (v3 : Int32) (H : Heap) (locs : List Loc) (ls : Array Slot), b_X9_stood_109 F mo v3 = some res → va_P D vwCl (moW k va mo) H → va_D A (moW k va mo) → va_S A s.heap H locs → lv_has ls 5 [(3, .int v3)] → W p l e (rmK 5 0 0) s m (List.toArray [.ref (va 0), .ref (ad x1)]) below meth c H locs 0 0 (MQ below (va_Qi (fun r (_ : Unit) => r = res) (hcB D (fun _ : Unit => moW k va mo) A) A) (List.toArray [.ref (va 0), .ref (ad x1)]) s 0 0 A) (F0 m 109 ls []) := by
    intro v3 H locs ls h hP hD hS hl
    refine lv_iload_n hx hb dX9_stood_109 rfl (lv_at hl 0 rfl) ?_
    obtain ⟨g1, h⟩ := fw_g h
    exact fw_endZ (rv := fun b : Int32 => b) (wp := fun b : Int32 => moW k va mo) hx hb hr hlocks h (bo_z g1) rfl hP hD hS dX9_stood_110
  have B63 : ∀ a63 : (Nat × Int32 × Int32), lp (b_X9_stood_63 F mo) F a63 = some res → ∀ (H : Heap) (locs : List Loc) (ls : Array Slot), va_P D vwCl (moW k va mo) H → va_D A (moW k va mo) → va_S A s.heap H locs → lv_has ls 5 [(0, .ref (va 0)), (1, .ref (ad a63.1)), (3, .int a63.2.1), (4, .int a63.2.2)] → W p l e (rmK 5 0 0) s m (List.toArray [.ref (va 0), .ref (ad x1)]) below meth c H locs 0 0 (MQ below (va_Qi (fun r (_ : Unit) => r = res) (hcB D (fun _ : Unit => moW k va mo) A) A) (List.toArray [.ref (va 0), .ref (ad x1)]) s 0 0 A) (F0 m 63 ls []) := by
    refine lp_W ?_ F
    intro k63 hk63 a63 h H locs ls hP hD hS hl
    have hc63 : ∀ (v1 : Nat) (v3 : Int32) (v4 : Int32), k63 (v1, v3, v4) = some res → ∀ (H : Heap) (locs : List Loc) (ls : Array Slot), va_P D vwCl (moW k va mo) H → va_D A (moW k va mo) → va_S A s.heap H locs → lv_has ls 5 [(0, .ref (va 0)), (1, .ref (ad v1)), (3, .int v3), (4, .int v4)] → W p l e (rmK 5 0 0) s m (List.toArray [.ref (va 0), .ref (ad x1)]) below meth c H locs 0 0 (MQ below (va_Qi (fun r (_ : Unit) => r = res) (hcB D (fun _ : Unit => moW k va mo) A) A) (List.toArray [.ref (va 0), .ref (ad x1)]) s 0 0 A) (F0 m 63 ls []) := fun v1 v3 v4 => hk63 (v1, v3, v4)
    have B102 : ∀ (v1 : Nat) (v4 : Int32) (y0 : Int32) (H : Heap) (locs : List Loc) (ls : Array Slot), b_X9_stood_102 F mo k63 v1 v4 y0 = some res → va_P D vwCl (moW k va mo) H → va_D A (moW k va mo) → va_S A s.heap H locs → lv_has ls 5 [(0, .ref (va 0)), (1, .ref (ad v1)), (4, .int v4)] → W p l e (rmK 5 0 0) s m (List.toArray [.ref (va 0), .ref (ad x1)]) below meth c H locs 0 0 (MQ below (va_Qi (fun r (_ : Unit) => r = res) (hcB D (fun _ : Unit => moW k va mo) A) A) (List.toArray [.ref (va 0), .ref (ad x1)]) s 0 0 A) (F0 m 102 ls [.int y0]) := by
      intro v1 v4 y0 H locs ls h hP hD hS hl
      refine lv_istore_n (lv' := [(3, .int y0), (0, .ref (va 0)), (1, .ref (ad v1)), (4, .int v4)]) hx hb dX9_stood_102 rfl hl (by decide) rfl (fun ls hl => ?_)
      refine lv_iinc (v := (v4 + 1)) (lv' := [(4, .int (v4 + 1)), (3, .int y0), (0, .ref (va 0)), (1, .ref (ad v1))]) hx hb dX9_stood_103 hl (k := 3) rfl rfl (by decide) rfl (fun ls hl => ?_)
      refine lv_goto (tgt := 63) hx hb dX9_stood_106 (by decide) ?_
      exact hc63 _ _ _ h _ _ _ hP hD hS (lv_sub hl [2, 3, 1, 0] rfl)
    refine lv_iload hx hb dX9_stood_63 (lv_at hl 3 rfl) ?_
    refine lv_aload_n hx hb dX9_stood_65 rfl (lv_at hl 1 rfl) ?_
    obtain ⟨g2, h⟩ := fw_g h
    refine hc_ViE (As := []) (rest := [.int a63.2.2]) (n := 0) (wr := moW k va mo) (ES.ok (ad a63.1) (tv a63.1) (xl a63.1) (xc a63.1)) ⟨hE.1, hE.2.2.1 _ g2, hE.2.1⟩ hx hb hml hown hts hG hA hP hD hS hl.1 [] (List.range (moW k va mo).length) (c_length l D k _ (ad a63.1) (tv a63.1) (xl a63.1) (xc a63.1)) (va_Orecv (hE.2.2.1 _ g2).1 hS) gX9_stood_J0_length_8abf5 rfl ⟨rfl, rfl, Nat.le_of_ble_eq_true rfl, Nat.le_of_ble_eq_true rfl⟩ (by decide +kernel) rfl (al_C _) (al_m _) ⟨rfl, rfl, Nat.le_of_ble_eq_true rfl, Nat.le_of_ble_eq_true rfl, Nat.le_of_ble_eq_true rfl⟩ dX9_stood_66 (fun r u H locs hw hP hD hS => ?_)
    obtain ⟨hP, hD⟩ := cv (w' := (moW k va mo) ++ []) hP hD rfl
    rw [List.append_nil] at hP hD
    obtain rfl : r = nI (xl a63.1) := hw
    refine lv_icmp_ge (tgt := 109) hx hb dX9_stood_69 (by decide) (fun c3 => ?_) (fun c3 => ?_)
    · have h := fw_t c3 h
      exact B109 _ _ _ _ h hP hD hS (lv_sub hl [2] rfl)
    · have h := fw_f c3 h
      refine lv_iload_n hx hb dX9_stood_72 rfl (lv_at hl 2 rfl) ?_
      refine lv_if_eq (tgt := 109) hx hb dX9_stood_73 (by decide) (fun c4 => ?_) (fun c4 => ?_)
      · have h := fw_t c4 h
        exact B109 _ _ _ _ h hP hD hS (lv_sub hl [2] rfl)
      · have h := fw_f c4 h
        refine lv_aload_n hx hb dX9_stood_76 rfl (lv_at hl 0 rfl) ?_
        refine va_get (D := D) (ci := 7) (v := .ref (va 18)) (C := RX9) (T := TX9) (N := 53) hx hb hts in9 hown hG.1 hP 0 rfl rfl 28 (by decide) (hts (.fieldLink RX9 65 "ChairCaneModel" "tape" "[B") (mem_b bq_wsX9_stood 0 2 rfl)) (fun _ h9 => h9) rfl dX9_stood_77 ?_
        refine lv_aload_n hx hb dX9_stood_80 rfl (lv_at hl 0 rfl) ?_
        refine va_get (D := D) (ci := 7) (v := .int (mo.1 19)) (C := RX9) (T := TX9) (N := 53) hx hb hts in9 hown hG.1 hP 0 rfl rfl 19 (by decide) (hts (.fieldLink RX9 164 "ChairCaneModel" "p" "I") (mem_b bq_wsX9_stood 0 0 rfl)) (fun _ h9 => h9) rfl dX9_stood_81 ?_
        refine lv_iload hx hb dX9_stood_84 (lv_at hl 3 rfl) ?_
        refine lv_iadd hx hb dX9_stood_86 ?_
        obtain ⟨g5, h⟩ := fw_g h
        refine va_bald hx hb hG.1 hP 18 1 rfl rfl (ib_vp g5) dX9_stood_87 ?_
        refine lv_aload_n hx hb dX9_stood_88 rfl (lv_at hl 1 rfl) ?_
        refine lv_iload hx hb dX9_stood_89 (lv_at hl 3 rfl) ?_
        obtain ⟨g6, h⟩ := fw_g h
        refine hc_ViE (As := [.int a63.2.2]) (rest := [.int ((mo.2.1 28) (Int32.toNatClampNeg ((mo.1 19) + a63.2.2)))]) (n := 1) (wr := moW k va mo) (ES.ok (ad a63.1) (tv a63.1) (xl a63.1) (xc a63.1)) ⟨hE.1, hE.2.2.1 _ g2, hE.2.1⟩ hx hb hml hown hts hG hA hP hD hS hl.1 [] (List.range (moW k va mo).length) (c_charAt l D k _ (ad a63.1) (tv a63.1) (xl a63.1) (xc a63.1) a63.2.2 (by have := xl_b a63.1; omega) g6.1 g6.2) (va_Orecv (hE.2.2.1 _ g2).1 hS) gX9_stood_J0_charAt_5068e rfl ⟨rfl, rfl, Nat.le_of_ble_eq_true rfl, Nat.le_of_ble_eq_true rfl⟩ (by decide +kernel) rfl (al_C _) (al_m _) ⟨rfl, rfl, Nat.le_of_ble_eq_true rfl, Nat.le_of_ble_eq_true rfl, Nat.le_of_ble_eq_true rfl⟩ dX9_stood_91 (fun r u H locs hw hP hD hS => ?_)
        obtain ⟨hP, hD⟩ := cv (w' := (moW k va mo) ++ []) hP hD rfl
        rw [List.append_nil] at hP hD
        obtain rfl : r = (xc a63.1 (Int32.toNatClampNeg a63.2.2) &&& 255) := hw
        refine lv_icmp_ne (tgt := 101) hx hb dX9_stood_94 (by decide) (fun c7 => ?_) (fun c7 => ?_)
        · have h := fw_f c7 h
          refine lv_iconst (v := 0) hx hb dX9_stood_101 (by decide) ?_
          exact B102 _ _ _ _ _ _ h hP hD hS (lv_sub hl [0, 1, 3] rfl)
        · have h := fw_t c7 h
          refine lv_iconst (v := 1) hx hb dX9_stood_97 (by decide) ?_
          refine lv_goto (tgt := 102) hx hb dX9_stood_98 (by decide) ?_
          exact B102 _ _ _ _ _ _ h hP hD hS (lv_sub hl [0, 1, 3] rfl)
  have C63 : ∀ (v1 : Nat) (v3 : Int32) (v4 : Int32), lp (b_X9_stood_63 F mo) F (v1, v3, v4) = some res → ∀ (H : Heap) (locs : List Loc) (ls : Array Slot), va_P D vwCl (moW k va mo) H → va_D A (moW k va mo) → va_S A s.heap H locs → lv_has ls 5 [(0, .ref (va 0)), (1, .ref (ad v1)), (3, .int v3), (4, .int v4)] → W p l e (rmK 5 0 0) s m (List.toArray [.ref (va 0), .ref (ad x1)]) below meth c H locs 0 0 (MQ below (va_Qi (fun r (_ : Unit) => r = res) (hcB D (fun _ : Unit => moW k va mo) A) A) (List.toArray [.ref (va 0), .ref (ad x1)]) s 0 0 A) (F0 m 63 ls []) := fun v1 v3 v4 => B63 (v1, v3, v4)
  have B59 : ∀ (v1 : Nat) (y0 : Int32) (H : Heap) (locs : List Loc) (ls : Array Slot), b_X9_stood_59 F mo v1 y0 = some res → va_P D vwCl (moW k va mo) H → va_D A (moW k va mo) → va_S A s.heap H locs → lv_has ls 5 [(0, .ref (va 0)), (1, .ref (ad v1))] → W p l e (rmK 5 0 0) s m (List.toArray [.ref (va 0), .ref (ad x1)]) below meth c H locs 0 0 (MQ below (va_Qi (fun r (_ : Unit) => r = res) (hcB D (fun _ : Unit => moW k va mo) A) A) (List.toArray [.ref (va 0), .ref (ad x1)]) s 0 0 A) (F0 m 59 ls [.int y0]) := by
    intro v1 y0 H locs ls h hP hD hS hl
    refine lv_istore_n (lv' := [(3, .int y0), (0, .ref (va 0)), (1, .ref (ad v1))]) hx hb dX9_stood_59 rfl hl (by decide) rfl (fun ls hl => ?_)
    refine lv_iconst (v := 0) hx hb dX9_stood_60 (by decide) ?_
    refine lv_istore (lv' := [(4, .int 0), (3, .int y0), (0, .ref (va 0)), (1, .ref (ad v1))]) hx hb dX9_stood_61 hl (by decide) rfl (fun ls hl => ?_)
    exact C63 _ _ _ h _ _ _ hP hD hS (lv_sub hl [2, 3, 1, 0] rfl)
  have B41 : ∀ (v1 : Nat) (v2 : Int32) (H : Heap) (locs : List Loc) (ls : Array Slot), b_X9_stood_41 F mo v1 v2 = some res → va_P D vwCl (moW k va mo) H → va_D A (moW k va mo) → va_S A s.heap H locs → lv_has ls 5 [(0, .ref (va 0)), (1, .ref (ad v1)), (2, .int v2)] → W p l e (rmK 5 0 0) s m (List.toArray [.ref (va 0), .ref (ad x1)]) below meth c H locs 0 0 (MQ below (va_Qi (fun r (_ : Unit) => r = res) (hcB D (fun _ : Unit => moW k va mo) A) A) (List.toArray [.ref (va 0), .ref (ad x1)]) s 0 0 A) (F0 m 41 ls []) := by
    intro v1 v2 H locs ls h hP hD hS hl
    refine lv_iload_n hx hb dX9_stood_41 rfl (lv_at hl 2 rfl) ?_
    refine lv_aload_n hx hb dX9_stood_42 rfl (lv_at hl 0 rfl) ?_
    refine va_get (D := D) (ci := 7) (v := .int (mo.1 19)) (C := RX9) (T := TX9) (N := 53) hx hb hts in9 hown hG.1 hP 0 rfl rfl 19 (by decide) (hts (.fieldLink RX9 164 "ChairCaneModel" "p" "I") (mem_b bq_wsX9_stood 0 0 rfl)) (fun _ h9 => h9) rfl dX9_stood_43 ?_
    refine lv_isub hx hb dX9_stood_46 ?_
    refine lv_aload_n hx hb dX9_stood_47 rfl (lv_at hl 1 rfl) ?_
    obtain ⟨g8, h⟩ := fw_g h
    refine hc_ViE (As := []) (rest := [.int (v2 - (mo.1 19))]) (n := 0) (wr := moW k va mo) (ES.ok (ad v1) (tv v1) (xl v1) (xc v1)) ⟨hE.1, hE.2.2.1 _ g8, hE.2.1⟩ hx hb hml hown hts hG hA hP hD hS hl.1 [] (List.range (moW k va mo).length) (c_length l D k _ (ad v1) (tv v1) (xl v1) (xc v1)) (va_Orecv (hE.2.2.1 _ g8).1 hS) gX9_stood_J0_length_8abf5 rfl ⟨rfl, rfl, Nat.le_of_ble_eq_true rfl, Nat.le_of_ble_eq_true rfl⟩ (by decide +kernel) rfl (al_C _) (al_m _) ⟨rfl, rfl, Nat.le_of_ble_eq_true rfl, Nat.le_of_ble_eq_true rfl, Nat.le_of_ble_eq_true rfl⟩ dX9_stood_48 (fun r u H locs hw hP hD hS => ?_)
    obtain ⟨hP, hD⟩ := cv (w' := (moW k va mo) ++ []) hP hD rfl
    rw [List.append_nil] at hP hD
    obtain rfl : r = nI (xl v1) := hw
    refine lv_icmp_ne (tgt := 58) hx hb dX9_stood_51 (by decide) (fun c9 => ?_) (fun c9 => ?_)
    · have h := fw_f c9 h
      refine lv_iconst (v := 0) hx hb dX9_stood_58 (by decide) ?_
      exact B59 _ _ _ _ _ h hP hD hS (lv_sub hl [0, 1] rfl)
    · have h := fw_t c9 h
      refine lv_iconst (v := 1) hx hb dX9_stood_54 (by decide) ?_
      refine lv_goto (tgt := 59) hx hb dX9_stood_55 (by decide) ?_
      exact B59 _ _ _ _ _ h hP hD hS (lv_sub hl [0, 1] rfl)
  have B5 : ∀ a5 : (Nat × Int32), lp (b_X9_stood_5 F mo) F a5 = some res → ∀ (H : Heap) (locs : List Loc) (ls : Array Slot), va_P D vwCl (moW k va mo) H → va_D A (moW k va mo) → va_S A s.heap H locs → lv_has ls 5 [(0, .ref (va 0)), (1, .ref (ad a5.1)), (2, .int a5.2)] → W p l e (rmK 5 0 0) s m (List.toArray [.ref (va 0), .ref (ad x1)]) below meth c H locs 0 0 (MQ below (va_Qi (fun r (_ : Unit) => r = res) (hcB D (fun _ : Unit => moW k va mo) A) A) (List.toArray [.ref (va 0), .ref (ad x1)]) s 0 0 A) (F0 m 5 ls []) := by
    refine lp_W ?_ F
    intro k5 hk5 a5 h H locs ls hP hD hS hl
    have hc5 : ∀ (v1 : Nat) (v2 : Int32), k5 (v1, v2) = some res → ∀ (H : Heap) (locs : List Loc) (ls : Array Slot), va_P D vwCl (moW k va mo) H → va_D A (moW k va mo) → va_S A s.heap H locs → lv_has ls 5 [(0, .ref (va 0)), (1, .ref (ad v1)), (2, .int v2)] → W p l e (rmK 5 0 0) s m (List.toArray [.ref (va 0), .ref (ad x1)]) below meth c H locs 0 0 (MQ below (va_Qi (fun r (_ : Unit) => r = res) (hcB D (fun _ : Unit => moW k va mo) A) A) (List.toArray [.ref (va 0), .ref (ad x1)]) s 0 0 A) (F0 m 5 ls []) := fun v1 v2 => hk5 (v1, v2)
    refine lv_iload_n hx hb dX9_stood_5 rfl (lv_at hl 2 rfl) ?_
    refine lv_aload_n hx hb dX9_stood_6 rfl (lv_at hl 0 rfl) ?_
    refine va_get (D := D) (ci := 7) (v := .int (mo.1 18)) (C := RX9) (T := TX9) (N := 53) hx hb hts in9 hown hG.1 hP 0 rfl rfl 18 (by decide) (hts (.fieldLink RX9 135 "ChairCaneModel" "taped" "I") (mem_b bq_wsX9_stood 0 1 rfl)) (fun _ h9 => h9) rfl dX9_stood_7 ?_
    refine lv_icmp_ge (tgt := 41) hx hb dX9_stood_10 (by decide) (fun c10 => ?_) (fun c10 => ?_)
    · have h := fw_t c10 h
      exact B41 _ _ _ _ _ h hP hD hS hl
    · have h := fw_f c10 h
      refine lv_aload_n hx hb dX9_stood_13 rfl (lv_at hl 0 rfl) ?_
      refine va_get (D := D) (ci := 7) (v := .ref (va 18)) (C := RX9) (T := TX9) (N := 53) hx hb hts in9 hown hG.1 hP 0 rfl rfl 28 (by decide) (hts (.fieldLink RX9 65 "ChairCaneModel" "tape" "[B") (mem_b bq_wsX9_stood 0 2 rfl)) (fun _ h9 => h9) rfl dX9_stood_14 ?_
      refine lv_iload_n hx hb dX9_stood_17 rfl (lv_at hl 2 rfl) ?_
      obtain ⟨g11, h⟩ := fw_g h
      refine va_bald hx hb hG.1 hP 18 1 rfl rfl (ib_vp g11) dX9_stood_18 ?_
      refine lv_bipush (v := 97) hx hb dX9_stood_19 (by decide) ?_
      refine lv_icmp_lt (tgt := 41) hx hb dX9_stood_21 (by decide) (fun c12 => ?_) (fun c12 => ?_)
      · have h := fw_t c12 h
        exact B41 _ _ _ _ _ h hP hD hS hl
      · have h := fw_f c12 h
        refine lv_aload_n hx hb dX9_stood_24 rfl (lv_at hl 0 rfl) ?_
        refine va_get (D := D) (ci := 7) (v := .ref (va 18)) (C := RX9) (T := TX9) (N := 53) hx hb hts in9 hown hG.1 hP 0 rfl rfl 28 (by decide) (hts (.fieldLink RX9 65 "ChairCaneModel" "tape" "[B") (mem_b bq_wsX9_stood 0 2 rfl)) (fun _ h9 => h9) rfl dX9_stood_25 ?_
        refine lv_iload_n hx hb dX9_stood_28 rfl (lv_at hl 2 rfl) ?_
        refine va_bald hx hb hG.1 hP 18 1 rfl rfl (ib_vp g11) dX9_stood_29 ?_
        refine lv_bipush (v := 122) hx hb dX9_stood_30 (by decide) ?_
        refine lv_icmp_gt (tgt := 41) hx hb dX9_stood_32 (by decide) (fun c13 => ?_) (fun c13 => ?_)
        · have h := fw_t c13 h
          exact B41 _ _ _ _ _ h hP hD hS hl
        · have h := fw_f c13 h
          refine lv_iinc (v := (a5.2 + 1)) (lv' := [(2, .int (a5.2 + 1)), (0, .ref (va 0)), (1, .ref (ad a5.1))]) hx hb dX9_stood_35 hl (k := 2) rfl rfl (by decide) rfl (fun ls hl => ?_)
          refine lv_goto (tgt := 5) hx hb dX9_stood_38 (by decide) ?_
          exact hc5 _ _ h _ _ _ hP hD hS (lv_sub hl [1, 2, 0] rfl)
  have C5 : ∀ (v1 : Nat) (v2 : Int32), lp (b_X9_stood_5 F mo) F (v1, v2) = some res → ∀ (H : Heap) (locs : List Loc) (ls : Array Slot), va_P D vwCl (moW k va mo) H → va_D A (moW k va mo) → va_S A s.heap H locs → lv_has ls 5 [(0, .ref (va 0)), (1, .ref (ad v1)), (2, .int v2)] → W p l e (rmK 5 0 0) s m (List.toArray [.ref (va 0), .ref (ad x1)]) below meth c H locs 0 0 (MQ below (va_Qi (fun r (_ : Unit) => r = res) (hcB D (fun _ : Unit => moW k va mo) A) A) (List.toArray [.ref (va 0), .ref (ad x1)]) s 0 0 A) (F0 m 5 ls []) := fun v1 v2 => B5 (v1, v2)
  refine lv_aload_n hx hb dX9_stood_0 rfl (lv_at hl 0 rfl) ?_
  refine va_get (D := D) (ci := 7) (v := .int (mo.1 19)) (C := RX9) (T := TX9) (N := 53) hx hb hts in9 hown hG.1 hP 0 rfl rfl 19 (by decide) (hts (.fieldLink RX9 164 "ChairCaneModel" "p" "I") (mem_b bq_wsX9_stood 0 0 rfl)) (fun _ h9 => h9) rfl dX9_stood_1 ?_
  refine lv_istore_n (lv' := [(2, .int (mo.1 19)), (0, .ref (va 0)), (1, .ref (ad x1))]) hx hb dX9_stood_4 rfl hl (by decide) rfl (fun ls hl => ?_)
  exact C5 _ _ h _ _ _ hP hD hS (lv_sub hl [1, 2, 0] rfl)
noncomputable def b_X9_takes_27 (F : Nat)    (v2 : Int32) (y0 : Int32) (y1 : Int32) (mo : OB) : Option (Int32 × OB) :=
  if bo v2 then (some (v2, ((uF mo.1 19 (y1 + y0)), mo.2.1, mo.2.2))) else none
noncomputable def f_X9_takes (F : Nat)  (x1 : Nat) (mo : OB) : Option (Int32 × OB) :=
  Option.bind (f_X9_blanks F mo) (fun q2 => (Option.bind (f_X9_stood F x1 q2) (fun q3 => (if q3 = 0 then (b_X9_takes_27 F q3 0 (q2.1 19) q2) else (if x1 < 18 then (b_X9_takes_27 F q3 (nI (xl x1)) (q2.1 19) q2) else none)))))
set_option maxHeartbeats 4000000 in
set_option maxRecDepth 100000 in
theorem c_X9_takes (l : Launch) (D : va_G) (k : Nat → ClassId) (sz : Nat) (ad tv : Nat → Nat) (va : Nat → Nat) (F : Nat)  (x1 : Nat) (mo : OB)  {res : Int32 × OB} (h : f_X9_takes F x1 mo = some res) : CtIE l yX9_takes wsX9_takes (rmK 6 0 0) [.ref (va 0), .ref (ad x1)] D k (EY ad tv) sz (moW k va mo) (fun r (_ : Unit) => r = res.1) (fun _ : Unit => moW k va res.2) 0 0 := by
  refine CtIE.mk (cc := cX9_takes) (maxL := 3) (ret := (some .boolean)) (by decide) rfl (Nat.le_of_ble_eq_true rfl) ?_
  intro p e s m below meth c A ls hE E hP hD hS hl
  obtain ⟨hx, hb, hr, hml, hown, hts, hlocks, hin, hG, hA⟩ := E
  have hown : s.vm.findClass RX9 = some m.cls := hown
  have in9 : ∀ w ∈ u_ws RX9 TX9 53, w ∈ wsX9_takes := fun _ h => List.mem_cons_of_mem _ (List.mem_append_right _ h)
  have hl : lv_has ls 3 [(0, .ref (va 0)), (1, .ref (ad x1))] := hl
  have B27 : ∀ (v2 : Int32) (y0 : Int32) (y1 : Int32) (mo : OB) (H : Heap) (locs : List Loc) (ls : Array Slot), b_X9_takes_27 F v2 y0 y1 mo = some res → va_P D vwCl (moW k va mo) H → va_D A (moW k va mo) → va_S A s.heap H locs → lv_has ls 3 [(2, .int v2)] → W p l e (rmK 6 0 0) s m (List.toArray [.ref (va 0), .ref (ad x1)]) below meth c H locs 0 0 (MQ below (va_Qi (fun r (_ : Unit) => r = res.1) (hcB D (fun _ : Unit => moW k va res.2) A) A) (List.toArray [.ref (va 0), .ref (ad x1)]) s 0 0 A) (F0 m 27 ls [.int y0, .int y1, .ref (va 0)]) := by
    intro v2 y0 y1 mo H locs ls h hP hD hS hl
    refine lv_iadd hx hb dX9_takes_27 ?_
    refine va_put (D := D) (ci := 7) (v := .int (y1 + y0)) (C := RX9) (T := TX9) (N := 53) hx hb hts in9 tyX9 tyX9_ok nmX9 hown hG.1 hP hD hS 0 rfl rfl 19 (by decide) (hts (.fieldLink RX9 164 "ChairCaneModel" "p" "I") (mem_b bq_wsX9_takes 0 0 rfl)) (fun _ h9 => h9) rfl (tyX9_ok 19 (by decide)) rfl rfl (Nat.le_of_ble_eq_true rfl) dX9_takes_28 (fun H locs hP hD hS => ?_)
    refine lv_iload_n hx hb dX9_takes_31 rfl (lv_at hl 0 rfl) ?_
    obtain ⟨g1, h⟩ := fw_g h
    exact fw_endZ (rv := fun b : Int32 × OB => b.1) (wp := fun b : Int32 × OB => moW k va b.2) hx hb hr hlocks h (bo_z g1) rfl hP hD hS dX9_takes_32
  refine lv_aload_n hx hb dX9_takes_0 rfl (lv_at hl 0 rfl) ?_
  refine fw_Vv (As := []) (rest := []) (n := 0) (wr := []) (wp := fun b : OB => moW k va b) h hx hb hml hown hts hG hA hP hD hS hl.1 (List.range (moW k va mo).length) [] (fun q hq9 => c_X9_blanks l D k _  va F  mo  hq9) (ci := 7) (q0 := 0) rfl rfl gX9_takes_X9_blanks rfl ⟨rfl, rfl, Nat.le_of_ble_eq_true rfl, Nat.le_of_ble_eq_true rfl⟩ (by decide +kernel) (al_C _) rfl (al_n _) ⟨rfl, rfl, Nat.le_of_ble_eq_true rfl, Nat.le_of_ble_eq_true rfl, Nat.le_of_ble_eq_true rfl⟩ dX9_takes_1 (fun q2 H locs h hP hD hS => ?_)
  obtain ⟨hP, hD⟩ := cv (w' := moW k va q2) hP hD rfl
  refine lv_aload_n hx hb dX9_takes_4 rfl (lv_at hl 0 rfl) ?_
  refine lv_aload_n hx hb dX9_takes_5 rfl (lv_at hl 1 rfl) ?_
  refine fw_ViE (As := [.ref (ad x1)]) (rest := []) (n := 1) (wr := []) (rv := fun b : Int32 => b) (wp := fun b : Int32 => moW k va q2) h (EY.ok ad tv) hE hx hb hml hown hts hG hA hP hD hS hl.1 (List.range (moW k va q2).length) [] (fun q hq9 => c_X9_stood l D k _ ad tv va F x1 q2  hq9) (va_recv hG.1 hP (ci := 7) (q0 := 0) rfl rfl) gX9_takes_X9_stood rfl ⟨rfl, rfl, Nat.le_of_ble_eq_true rfl, Nat.le_of_ble_eq_true rfl⟩ (by decide +kernel) (al_C _) rfl (al_n _) ⟨rfl, rfl, Nat.le_of_ble_eq_true rfl, Nat.le_of_ble_eq_true rfl, Nat.le_of_ble_eq_true rfl⟩ dX9_takes_6 (fun q3 H locs h hP hD hS => ?_)
  obtain ⟨hP, hD⟩ := cv (w' := moW k va q2) hP hD rfl
  refine hc_is (z := q3) rfl ?_
  refine lv_istore_n (lv' := [(2, .int q3), (0, .ref (va 0)), (1, .ref (ad x1))]) hx hb dX9_takes_9 rfl hl (by decide) rfl (fun ls hl => ?_)
  refine lv_aload_n hx hb dX9_takes_10 rfl (lv_at hl 1 rfl) ?_
  refine lv_dup hx hb dX9_takes_11 rfl ?_
  refine va_get (D := D) (ci := 7) (v := .int (q2.1 19)) (C := RX9) (T := TX9) (N := 53) hx hb hts in9 hown hG.1 hP 0 rfl rfl 19 (by decide) (hts (.fieldLink RX9 164 "ChairCaneModel" "p" "I") (mem_b bq_wsX9_takes 0 0 rfl)) (fun _ h9 => h9) rfl dX9_takes_12 ?_
  refine lv_iload_n hx hb dX9_takes_15 rfl (lv_at hl 0 rfl) ?_
  refine lv_if_eq (tgt := 26) hx hb dX9_takes_16 (by decide) (fun c4 => ?_) (fun c4 => ?_)
  · have h := fw_t c4 h
    refine lv_iconst (v := 0) hx hb dX9_takes_26 (by decide) ?_
    exact B27 _ _ _ _ _ _ _ h hP hD hS (lv_sub hl [0] rfl)
  · have h := fw_f c4 h
    refine lv_aload_n hx hb dX9_takes_19 rfl (lv_at hl 2 rfl) ?_
    obtain ⟨g5, h⟩ := fw_g h
    refine hc_ViE (As := []) (rest := [.int (q2.1 19), .ref (va 0)]) (n := 0) (wr := moW k va q2) (ES.ok (ad x1) (tv x1) (xl x1) (xc x1)) ⟨hE.1, hE.2.2.1 _ g5, hE.2.1⟩ hx hb hml hown hts hG hA hP hD hS hl.1 [] (List.range (moW k va q2).length) (c_length l D k _ (ad x1) (tv x1) (xl x1) (xc x1)) (va_Orecv (hE.2.2.1 _ g5).1 hS) gX9_takes_J0_length_8abf5 rfl ⟨rfl, rfl, Nat.le_of_ble_eq_true rfl, Nat.le_of_ble_eq_true rfl⟩ (by decide +kernel) rfl (al_C _) (al_m _) ⟨rfl, rfl, Nat.le_of_ble_eq_true rfl, Nat.le_of_ble_eq_true rfl, Nat.le_of_ble_eq_true rfl⟩ dX9_takes_20 (fun r u H locs hw hP hD hS => ?_)
    obtain ⟨hP, hD⟩ := cv (w' := (moW k va q2) ++ []) hP hD rfl
    rw [List.append_nil] at hP hD
    obtain rfl : r = nI (xl x1) := hw
    refine lv_goto (tgt := 27) hx hb dX9_takes_23 (by decide) ?_
    exact B27 _ _ _ _ _ _ _ h hP hD hS (lv_sub hl [0] rfl)
noncomputable def b_X9_entry_55 (F : Nat)    (mo : OB) : Option (OB) :=
  some mo
noncomputable def f_X9_entry (F : Nat)  (x1 : Int32) (x2 : Int32) (mo : OB) : Option (OB) :=
  if (mo.1 20) = 0 then (if ib ((300 * (mo.1 21)) + (mo.1 23)) 1800 then (b_X9_entry_55 F ((uF mo.1 23 ((mo.1 23) + 1)), (uF (uF mo.2.1 29 (upd (mo.2.1 29) (Int32.toNatClampNeg ((300 * (mo.1 21)) + (mo.1 23))) x1)) 30 (upd (mo.2.1 30) (Int32.toNatClampNeg ((300 * (mo.1 21)) + (mo.1 23))) x2)), mo.2.2)) else none) else (b_X9_entry_55 F mo)
set_option maxRecDepth 20000 in
theorem bq_wsX9_entry : subq wsX9_entry [[.fieldLink RX9 161 "ChairCaneModel" "fault" "I", .fieldLink RX9 69 "ChairCaneModel" "sort" "[I", .fieldLink RX9 191 "ChairCaneModel" "slot" "I", .fieldLink RX9 194 "ChairCaneModel" "entries" "I", .fieldLink RX9 72 "ChairCaneModel" "number" "[I"]] := ⟨(fun _ h => (List.mem_cons_of_mem _ (List.mem_append_left _ h))), trivial⟩
set_option maxHeartbeats 4000000 in
set_option maxRecDepth 100000 in
theorem c_X9_entry (l : Launch) (D : va_G) (k : Nat → ClassId) (sz : Nat)  (va : Nat → Nat) (F : Nat)  (x1 : Int32) (x2 : Int32) (mo : OB)  {res : OB} (h : f_X9_entry F x1 x2 mo = some res) : CtV l yX9_entry wsX9_entry (rmK 1 0 0) [.ref (va 0), .int x1, .int x2] D k sz (moW k va mo) (fun (_ : Unit) => True) (fun _ : Unit => moW k va res) 0 0 := by
  refine CtV.mk (cc := cX9_entry) (maxL := 3) (ret := none) (by decide) rfl (Nat.le_of_ble_eq_true rfl) ?_
  intro p e s m below meth c A ls E hP hD hS hl
  obtain ⟨hx, hb, hr, hml, hown, hts, hlocks, hin, hG, hA⟩ := E
  have hown : s.vm.findClass RX9 = some m.cls := hown
  have in9 : ∀ w ∈ u_ws RX9 TX9 53, w ∈ wsX9_entry := fun _ h => List.mem_cons_of_mem _ (List.mem_append_right _ h)
  have hl : lv_has ls 3 [(0, .ref (va 0)), (1, .int x1), (2, .int x2)] := hl
  have B55 : ∀ (mo : OB) (H : Heap) (locs : List Loc) (ls : Array Slot), b_X9_entry_55 F mo = some res → va_P D vwCl (moW k va mo) H → va_D A (moW k va mo) → va_S A s.heap H locs → lv_has ls 3 [] → W p l e (rmK 1 0 0) s m (List.toArray [.ref (va 0), .int x1, .int x2]) below meth c H locs 0 0 (MQ below (va_Qv (fun (_ : Unit) => True) (hcB D (fun _ : Unit => moW k va res) A) A) (List.toArray [.ref (va 0), .int x1, .int x2]) s 0 0 A) (F0 m 55 ls []) := by
    intro mo H locs ls h hP hD hS hl
    exact fw_endV (wp := fun b : OB => moW k va b) hx hb hr hlocks h hP hD hS dX9_entry_55
  refine lv_aload_n hx hb dX9_entry_0 rfl (lv_at hl 0 rfl) ?_
  refine va_get (D := D) (ci := 7) (v := .int (mo.1 20)) (C := RX9) (T := TX9) (N := 53) hx hb hts in9 hown hG.1 hP 0 rfl rfl 20 (by decide) (hts (.fieldLink RX9 161 "ChairCaneModel" "fault" "I") (mem_b bq_wsX9_entry 0 0 rfl)) (fun _ h9 => h9) rfl dX9_entry_1 ?_
  refine lv_if_ne (tgt := 55) hx hb dX9_entry_4 (by decide) (fun c1 => ?_) (fun c1 => ?_)
  · have h := fw_f c1 h
    exact B55 _ _ _ _ h hP hD hS (lv_sub hl [] rfl)
  · have h := fw_t c1 h
    refine lv_aload_n hx hb dX9_entry_7 rfl (lv_at hl 0 rfl) ?_
    refine va_get (D := D) (ci := 7) (v := .ref (va 19)) (C := RX9) (T := TX9) (N := 53) hx hb hts in9 hown hG.1 hP 0 rfl rfl 29 (by decide) (hts (.fieldLink RX9 69 "ChairCaneModel" "sort" "[I") (mem_b bq_wsX9_entry 0 1 rfl)) (fun _ h9 => h9) rfl dX9_entry_8 ?_
    refine lv_sipush (v := 300) hx hb dX9_entry_11 (by decide) ?_
    refine lv_aload_n hx hb dX9_entry_14 rfl (lv_at hl 0 rfl) ?_
    refine va_get (D := D) (ci := 7) (v := .int (mo.1 21)) (C := RX9) (T := TX9) (N := 53) hx hb hts in9 hown hG.1 hP 0 rfl rfl 21 (by decide) (hts (.fieldLink RX9 191 "ChairCaneModel" "slot" "I") (mem_b bq_wsX9_entry 0 2 rfl)) (fun _ h9 => h9) rfl dX9_entry_15 ?_
    refine lv_imul hx hb dX9_entry_18 ?_
    refine lv_aload_n hx hb dX9_entry_19 rfl (lv_at hl 0 rfl) ?_
    refine va_get (D := D) (ci := 7) (v := .int (mo.1 23)) (C := RX9) (T := TX9) (N := 53) hx hb hts in9 hown hG.1 hP 0 rfl rfl 23 (by decide) (hts (.fieldLink RX9 194 "ChairCaneModel" "entries" "I") (mem_b bq_wsX9_entry 0 3 rfl)) (fun _ h9 => h9) rfl dX9_entry_20 ?_
    refine lv_iadd hx hb dX9_entry_23 ?_
    refine lv_iload_n hx hb dX9_entry_24 rfl (lv_at hl 1 rfl) ?_
    obtain ⟨g2, h⟩ := fw_g h
    refine va_iast hx hb hG.1 hP hD hS 19 0 rfl rfl (ib_vp g2) dX9_entry_25 (fun H locs hP hD hS => ?_)
    refine lv_aload_n hx hb dX9_entry_26 rfl (lv_at hl 0 rfl) ?_
    refine va_get (D := D) (ci := 7) (v := .ref (va 20)) (C := RX9) (T := TX9) (N := 53) hx hb hts in9 hown hG.1 hP 0 rfl rfl 30 (by decide) (hts (.fieldLink RX9 72 "ChairCaneModel" "number" "[I") (mem_b bq_wsX9_entry 0 4 rfl)) (fun _ h9 => h9) rfl dX9_entry_27 ?_
    refine lv_sipush (v := 300) hx hb dX9_entry_30 (by decide) ?_
    refine lv_aload_n hx hb dX9_entry_33 rfl (lv_at hl 0 rfl) ?_
    refine va_get (D := D) (ci := 7) (v := .int (mo.1 21)) (C := RX9) (T := TX9) (N := 53) hx hb hts in9 hown hG.1 hP 0 rfl rfl 21 (by decide) (hts (.fieldLink RX9 191 "ChairCaneModel" "slot" "I") (mem_b bq_wsX9_entry 0 2 rfl)) (fun _ h9 => h9) rfl dX9_entry_34 ?_
    refine lv_imul hx hb dX9_entry_37 ?_
    refine lv_aload_n hx hb dX9_entry_38 rfl (lv_at hl 0 rfl) ?_
    refine va_get (D := D) (ci := 7) (v := .int (mo.1 23)) (C := RX9) (T := TX9) (N := 53) hx hb hts in9 hown hG.1 hP 0 rfl rfl 23 (by decide) (hts (.fieldLink RX9 194 "ChairCaneModel" "entries" "I") (mem_b bq_wsX9_entry 0 3 rfl)) (fun _ h9 => h9) rfl dX9_entry_39 ?_
    refine lv_iadd hx hb dX9_entry_42 ?_
    refine lv_iload_n hx hb dX9_entry_43 rfl (lv_at hl 2 rfl) ?_
    refine va_iast hx hb hG.1 hP hD hS 20 0 rfl rfl (ib_vp g2) dX9_entry_44 (fun H locs hP hD hS => ?_)
    refine lv_aload_n hx hb dX9_entry_45 rfl (lv_at hl 0 rfl) ?_
    refine lv_dup hx hb dX9_entry_46 rfl ?_
    refine va_get (D := D) (ci := 7) (v := .int (mo.1 23)) (C := RX9) (T := TX9) (N := 53) hx hb hts in9 hown hG.1 hP 0 rfl rfl 23 (by decide) (hts (.fieldLink RX9 194 "ChairCaneModel" "entries" "I") (mem_b bq_wsX9_entry 0 3 rfl)) (fun _ h9 => h9) rfl dX9_entry_47 ?_
    refine lv_iconst (v := 1) hx hb dX9_entry_50 (by decide) ?_
    refine lv_iadd hx hb dX9_entry_51 ?_
    refine va_put (D := D) (ci := 7) (v := .int ((mo.1 23) + 1)) (C := RX9) (T := TX9) (N := 53) hx hb hts in9 tyX9 tyX9_ok nmX9 hown hG.1 hP hD hS 0 rfl rfl 23 (by decide) (hts (.fieldLink RX9 194 "ChairCaneModel" "entries" "I") (mem_b bq_wsX9_entry 0 3 rfl)) (fun _ h9 => h9) rfl (tyX9_ok 23 (by decide)) rfl rfl (Nat.le_of_ble_eq_true rfl) dX9_entry_52 (fun H locs hP hD hS => ?_)
    exact B55 _ _ _ _ h hP hD hS (lv_sub hl [] rfl)
noncomputable def b_X9_isCounted_15 (F : Nat)    (mo : OB) : Option (OB) :=
  some ((uF mo.1 25 ((mo.1 25) + 1)), mo.2.1, mo.2.2)
noncomputable def f_X9_isCounted (F : Nat)  (x1 : Int32) (mo : OB) : Option (OB) :=
  if (mo.1 25) = 60 then (Option.bind (f_X9_fails F 3 x1 mo) (fun q2 => (b_X9_isCounted_15 F q2))) else (b_X9_isCounted_15 F mo)
set_option maxHeartbeats 4000000 in
set_option maxRecDepth 100000 in
theorem c_X9_isCounted (l : Launch) (D : va_G) (k : Nat → ClassId) (sz : Nat)  (va : Nat → Nat) (F : Nat)  (x1 : Int32) (mo : OB)  {res : OB} (h : f_X9_isCounted F x1 mo = some res) : CtV l yX9_isCounted wsX9_isCounted (rmK 2 0 0) [.ref (va 0), .int x1] D k sz (moW k va mo) (fun (_ : Unit) => True) (fun _ : Unit => moW k va res) 0 0 := by
  refine CtV.mk (cc := cX9_isCounted) (maxL := 2) (ret := none) (by decide) rfl (Nat.le_of_ble_eq_true rfl) ?_
  intro p e s m below meth c A ls E hP hD hS hl
  obtain ⟨hx, hb, hr, hml, hown, hts, hlocks, hin, hG, hA⟩ := E
  have hown : s.vm.findClass RX9 = some m.cls := hown
  have in9 : ∀ w ∈ u_ws RX9 TX9 53, w ∈ wsX9_isCounted := fun _ h => List.mem_cons_of_mem _ (List.mem_append_right _ h)
  have hl : lv_has ls 2 [(0, .ref (va 0)), (1, .int x1)] := hl
  have B15 : ∀ (mo : OB) (H : Heap) (locs : List Loc) (ls : Array Slot), b_X9_isCounted_15 F mo = some res → va_P D vwCl (moW k va mo) H → va_D A (moW k va mo) → va_S A s.heap H locs → lv_has ls 2 [(0, .ref (va 0))] → W p l e (rmK 2 0 0) s m (List.toArray [.ref (va 0), .int x1]) below meth c H locs 0 0 (MQ below (va_Qv (fun (_ : Unit) => True) (hcB D (fun _ : Unit => moW k va res) A) A) (List.toArray [.ref (va 0), .int x1]) s 0 0 A) (F0 m 15 ls []) := by
    intro mo H locs ls h hP hD hS hl
    refine lv_aload_n hx hb dX9_isCounted_15 rfl (lv_at hl 0 rfl) ?_
    refine lv_dup hx hb dX9_isCounted_16 rfl ?_
    refine va_get (D := D) (ci := 7) (v := .int (mo.1 25)) (C := RX9) (T := TX9) (N := 53) hx hb hts in9 hown hG.1 hP 0 rfl rfl 25 (by decide) (hts (.fieldLink RX9 197 "ChairCaneModel" "counted" "I") (mem_b bq_wsX9_isCounted 0 0 rfl)) (fun _ h9 => h9) rfl dX9_isCounted_17 ?_
    refine lv_iconst (v := 1) hx hb dX9_isCounted_20 (by decide) ?_
    refine lv_iadd hx hb dX9_isCounted_21 ?_
    refine va_put (D := D) (ci := 7) (v := .int ((mo.1 25) + 1)) (C := RX9) (T := TX9) (N := 53) hx hb hts in9 tyX9 tyX9_ok nmX9 hown hG.1 hP hD hS 0 rfl rfl 25 (by decide) (hts (.fieldLink RX9 197 "ChairCaneModel" "counted" "I") (mem_b bq_wsX9_isCounted 0 0 rfl)) (fun _ h9 => h9) rfl (tyX9_ok 25 (by decide)) rfl rfl (Nat.le_of_ble_eq_true rfl) dX9_isCounted_22 (fun H locs hP hD hS => ?_)
    exact fw_endV (wp := fun b : OB => moW k va b) hx hb hr hlocks h hP hD hS dX9_isCounted_25
  refine lv_aload_n hx hb dX9_isCounted_0 rfl (lv_at hl 0 rfl) ?_
  refine va_get (D := D) (ci := 7) (v := .int (mo.1 25)) (C := RX9) (T := TX9) (N := 53) hx hb hts in9 hown hG.1 hP 0 rfl rfl 25 (by decide) (hts (.fieldLink RX9 197 "ChairCaneModel" "counted" "I") (mem_b bq_wsX9_isCounted 0 0 rfl)) (fun _ h9 => h9) rfl dX9_isCounted_1 ?_
  refine lv_bipush (v := 60) hx hb dX9_isCounted_4 (by decide) ?_
  refine lv_icmp_ne (tgt := 15) hx hb dX9_isCounted_6 (by decide) (fun c1 => ?_) (fun c1 => ?_)
  · have h := fw_f c1 h
    exact B15 _ _ _ _ h hP hD hS (lv_sub hl [0] rfl)
  · have h := fw_t c1 h
    refine lv_aload_n hx hb dX9_isCounted_9 rfl (lv_at hl 0 rfl) ?_
    refine lv_iconst (v := 3) hx hb dX9_isCounted_10 (by decide) ?_
    refine lv_iload_n hx hb dX9_isCounted_11 rfl (lv_at hl 1 rfl) ?_
    refine fw_Vv (As := [.int 3, .int x1]) (rest := []) (n := 2) (wr := []) (wp := fun b : OB => moW k va b) h hx hb hml hown hts hG hA hP hD hS hl.1 (List.range (moW k va mo).length) [] (fun q hq9 => c_X9_fails l D k _  va F 3 x1 mo  hq9) (ci := 7) (q0 := 0) rfl rfl gX9_isCounted_X9_fails rfl ⟨rfl, rfl, Nat.le_of_ble_eq_true rfl, Nat.le_of_ble_eq_true rfl⟩ (by decide +kernel) (al_C _) rfl (al_n _) ⟨rfl, rfl, Nat.le_of_ble_eq_true rfl, Nat.le_of_ble_eq_true rfl, Nat.le_of_ble_eq_true rfl⟩ dX9_isCounted_12 (fun q2 H locs h hP hD hS => ?_)
    obtain ⟨hP, hD⟩ := cv (w' := moW k va q2) hP hD rfl
    exact B15 _ _ _ _ h hP hD hS (lv_sub hl [0] rfl)
noncomputable def b_X9_digits_93 (F : Nat)    (v3 : Int32) (mo : OB) : Option (Int32 × OB) :=
  some (v3, mo)
noncomputable def b_X9_digits_87 (F : Nat)    (v2 : Int32) (v3 : Int32) (mo : OB) : Option (Int32 × OB) :=
  Option.bind (f_X9_fails F 1 v2 mo) (fun q1 => (b_X9_digits_93 F v3 q1))
noncomputable def b_X9_digits_58 (F : Nat)   (k25 : (Int32 × Int32 × Int32 × OB) → Option (Int32 × OB)) (v1 : Int32) (v2 : Int32) (y0 : Int32) (mo : OB) : Option (Int32 × OB) :=
  k25 (v1, v2, y0, ((uF mo.1 19 ((mo.1 19) + 1)), mo.2.1, mo.2.2))
noncomputable def b_X9_digits_25 (F : Nat)    (k25 : (Int32 × Int32 × Int32 × OB) → Option (Int32 × OB)) (a25 : (Int32 × Int32 × Int32 × OB)) : Option (Int32 × OB) :=
  Option.bind (f_X9_isDigit F a25.2.2.2) (fun q2 => (if q2 = 0 then (if 5 < ((a25.2.2.2.1 19) - a25.2.1) then (b_X9_digits_87 F a25.2.1 a25.2.2.1 a25.2.2.2) else (if a25.2.2.1 ≤ a25.1 then (b_X9_digits_93 F a25.2.2.1 a25.2.2.2) else (b_X9_digits_87 F a25.2.1 a25.2.2.1 a25.2.2.2))) else (if 5 ≤ ((a25.2.2.2.1 19) - a25.2.1) then (b_X9_digits_58 F k25 a25.1 a25.2.1 a25.2.2.1 a25.2.2.2) else (Option.bind (f_X9_sign F a25.2.2.2) (fun q7 => (b_X9_digits_58 F k25 a25.1 a25.2.1 (((10 * a25.2.2.1) + q7) - 48) a25.2.2.2))))))
noncomputable def f_X9_digits (F : Nat)  (x1 : Int32) (mo : OB) : Option (Int32 × OB) :=
  Option.bind (f_X9_isDigit F mo) (fun q8 => (if q8 = 0 then (Option.bind (f_X9_fails F 0 (mo.1 19) mo) (fun q10 => (some (0, q10)))) else (lp (b_X9_digits_25 F) F (x1, (mo.1 19), 0, mo))))
set_option maxHeartbeats 4000000 in
set_option maxRecDepth 100000 in
theorem c_X9_digits (l : Launch) (D : va_G) (k : Nat → ClassId) (sz : Nat)  (va : Nat → Nat) (F : Nat)  (x1 : Int32) (mo : OB)  {res : Int32 × OB} (h : f_X9_digits F x1 mo = some res) : CtI l yX9_digits wsX9_digits (rmK 3 0 0) [.ref (va 0), .int x1] D k sz (moW k va mo) (fun r (_ : Unit) => r = res.1) (fun _ : Unit => moW k va res.2) 0 0 := by
  refine CtI.mk (cc := cX9_digits) (maxL := 4) (ret := (some .int)) (by decide) rfl (Nat.le_of_ble_eq_true rfl) ?_
  intro p e s m below meth c A ls E hP hD hS hl
  obtain ⟨hx, hb, hr, hml, hown, hts, hlocks, hin, hG, hA⟩ := E
  have hown : s.vm.findClass RX9 = some m.cls := hown
  have in9 : ∀ w ∈ u_ws RX9 TX9 53, w ∈ wsX9_digits := fun _ h => List.mem_cons_of_mem _ (List.mem_append_right _ h)
  have hl : lv_has ls 4 [(0, .ref (va 0)), (1, .int x1)] := hl
  have B93 : ∀ (v3 : Int32) (mo : OB) (H : Heap) (locs : List Loc) (ls : Array Slot), b_X9_digits_93 F v3 mo = some res → va_P D vwCl (moW k va mo) H → va_D A (moW k va mo) → va_S A s.heap H locs → lv_has ls 4 [(3, .int v3)] → W p l e (rmK 3 0 0) s m (List.toArray [.ref (va 0), .int x1]) below meth c H locs 0 0 (MQ below (va_Qi (fun r (_ : Unit) => r = res.1) (hcB D (fun _ : Unit => moW k va res.2) A) A) (List.toArray [.ref (va 0), .int x1]) s 0 0 A) (F0 m 93 ls []) := by
    intro v3 mo H locs ls h hP hD hS hl
    refine lv_iload_n hx hb dX9_digits_93 rfl (lv_at hl 0 rfl) ?_
    exact fw_endI (rv := fun b : Int32 × OB => b.1) (wp := fun b : Int32 × OB => moW k va b.2) hx hb hr hlocks h rfl hP hD hS dX9_digits_94
  have B87 : ∀ (v2 : Int32) (v3 : Int32) (mo : OB) (H : Heap) (locs : List Loc) (ls : Array Slot), b_X9_digits_87 F v2 v3 mo = some res → va_P D vwCl (moW k va mo) H → va_D A (moW k va mo) → va_S A s.heap H locs → lv_has ls 4 [(0, .ref (va 0)), (2, .int v2), (3, .int v3)] → W p l e (rmK 3 0 0) s m (List.toArray [.ref (va 0), .int x1]) below meth c H locs 0 0 (MQ below (va_Qi (fun r (_ : Unit) => r = res.1) (hcB D (fun _ : Unit => moW k va res.2) A) A) (List.toArray [.ref (va 0), .int x1]) s 0 0 A) (F0 m 87 ls []) := by
    intro v2 v3 mo H locs ls h hP hD hS hl
    refine lv_aload_n hx hb dX9_digits_87 rfl (lv_at hl 0 rfl) ?_
    refine lv_iconst (v := 1) hx hb dX9_digits_88 (by decide) ?_
    refine lv_iload_n hx hb dX9_digits_89 rfl (lv_at hl 1 rfl) ?_
    refine fw_Vv (As := [.int 1, .int v2]) (rest := []) (n := 2) (wr := []) (wp := fun b : OB => moW k va b) h hx hb hml hown hts hG hA hP hD hS hl.1 (List.range (moW k va mo).length) [] (fun q hq9 => c_X9_fails l D k _  va F 1 v2 mo  hq9) (ci := 7) (q0 := 0) rfl rfl gX9_digits_X9_fails rfl ⟨rfl, rfl, Nat.le_of_ble_eq_true rfl, Nat.le_of_ble_eq_true rfl⟩ (by decide +kernel) (al_C _) rfl (al_n _) ⟨rfl, rfl, Nat.le_of_ble_eq_true rfl, Nat.le_of_ble_eq_true rfl, Nat.le_of_ble_eq_true rfl⟩ dX9_digits_90 (fun q1 H locs h hP hD hS => ?_)
    obtain ⟨hP, hD⟩ := cv (w' := moW k va q1) hP hD rfl
    exact B93 _ _ _ _ _ h hP hD hS (lv_sub hl [2] rfl)
  have B25 : ∀ a25 : (Int32 × Int32 × Int32 × OB), lp (b_X9_digits_25 F) F a25 = some res → ∀ (H : Heap) (locs : List Loc) (ls : Array Slot), va_P D vwCl (moW k va a25.2.2.2) H → va_D A (moW k va a25.2.2.2) → va_S A s.heap H locs → lv_has ls 4 [(0, .ref (va 0)), (1, .int a25.1), (2, .int a25.2.1), (3, .int a25.2.2.1)] → W p l e (rmK 3 0 0) s m (List.toArray [.ref (va 0), .int x1]) below meth c H locs 0 0 (MQ below (va_Qi (fun r (_ : Unit) => r = res.1) (hcB D (fun _ : Unit => moW k va res.2) A) A) (List.toArray [.ref (va 0), .int x1]) s 0 0 A) (F0 m 25 ls []) := by
    refine lp_W ?_ F
    intro k25 hk25 a25 h H locs ls hP hD hS hl
    have hc25 : ∀ (v1 : Int32) (v2 : Int32) (v3 : Int32) (mo : OB), k25 (v1, v2, v3, mo) = some res → ∀ (H : Heap) (locs : List Loc) (ls : Array Slot), va_P D vwCl (moW k va mo) H → va_D A (moW k va mo) → va_S A s.heap H locs → lv_has ls 4 [(0, .ref (va 0)), (1, .int v1), (2, .int v2), (3, .int v3)] → W p l e (rmK 3 0 0) s m (List.toArray [.ref (va 0), .int x1]) below meth c H locs 0 0 (MQ below (va_Qi (fun r (_ : Unit) => r = res.1) (hcB D (fun _ : Unit => moW k va res.2) A) A) (List.toArray [.ref (va 0), .int x1]) s 0 0 A) (F0 m 25 ls []) := fun v1 v2 v3 mo => hk25 (v1, v2, v3, mo)
    have B58 : ∀ (v1 : Int32) (v2 : Int32) (y0 : Int32) (mo : OB) (H : Heap) (locs : List Loc) (ls : Array Slot), b_X9_digits_58 F k25 v1 v2 y0 mo = some res → va_P D vwCl (moW k va mo) H → va_D A (moW k va mo) → va_S A s.heap H locs → lv_has ls 4 [(0, .ref (va 0)), (1, .int v1), (2, .int v2)] → W p l e (rmK 3 0 0) s m (List.toArray [.ref (va 0), .int x1]) below meth c H locs 0 0 (MQ below (va_Qi (fun r (_ : Unit) => r = res.1) (hcB D (fun _ : Unit => moW k va res.2) A) A) (List.toArray [.ref (va 0), .int x1]) s 0 0 A) (F0 m 58 ls [.int y0]) := by
      intro v1 v2 y0 mo H locs ls h hP hD hS hl
      refine lv_istore_n (lv' := [(3, .int y0), (0, .ref (va 0)), (1, .int v1), (2, .int v2)]) hx hb dX9_digits_58 rfl hl (by decide) rfl (fun ls hl => ?_)
      refine lv_aload_n hx hb dX9_digits_59 rfl (lv_at hl 1 rfl) ?_
      refine lv_dup hx hb dX9_digits_60 rfl ?_
      refine va_get (D := D) (ci := 7) (v := .int (mo.1 19)) (C := RX9) (T := TX9) (N := 53) hx hb hts in9 hown hG.1 hP 0 rfl rfl 19 (by decide) (hts (.fieldLink RX9 164 "ChairCaneModel" "p" "I") (mem_b bq_wsX9_digits 0 0 rfl)) (fun _ h9 => h9) rfl dX9_digits_61 ?_
      refine lv_iconst (v := 1) hx hb dX9_digits_64 (by decide) ?_
      refine lv_iadd hx hb dX9_digits_65 ?_
      refine va_put (D := D) (ci := 7) (v := .int ((mo.1 19) + 1)) (C := RX9) (T := TX9) (N := 53) hx hb hts in9 tyX9 tyX9_ok nmX9 hown hG.1 hP hD hS 0 rfl rfl 19 (by decide) (hts (.fieldLink RX9 164 "ChairCaneModel" "p" "I") (mem_b bq_wsX9_digits 0 0 rfl)) (fun _ h9 => h9) rfl (tyX9_ok 19 (by decide)) rfl rfl (Nat.le_of_ble_eq_true rfl) dX9_digits_66 (fun H locs hP hD hS => ?_)
      refine lv_goto (tgt := 25) hx hb dX9_digits_69 (by decide) ?_
      exact hc25 _ _ _ _ h _ _ _ hP hD hS (lv_sub hl [1, 2, 3, 0] rfl)
    refine lv_aload_n hx hb dX9_digits_25 rfl (lv_at hl 0 rfl) ?_
    refine fw_Vi (As := []) (rest := []) (n := 0) (wr := []) (rv := fun b : Int32 => b) (wp := fun b : Int32 => moW k va a25.2.2.2) h hx hb hml hown hts hG hA hP hD hS hl.1 (List.range (moW k va a25.2.2.2).length) [] (fun q hq9 => c_X9_isDigit l D k _  va F  a25.2.2.2  hq9) (ci := 7) (q0 := 0) rfl rfl gX9_digits_X9_isDigit rfl ⟨rfl, rfl, Nat.le_of_ble_eq_true rfl, Nat.le_of_ble_eq_true rfl⟩ (by decide +kernel) (al_C _) rfl (al_n _) ⟨rfl, rfl, Nat.le_of_ble_eq_true rfl, Nat.le_of_ble_eq_true rfl, Nat.le_of_ble_eq_true rfl⟩ dX9_digits_26 (fun q2 H locs h hP hD hS => ?_)
    obtain ⟨hP, hD⟩ := cv (w' := moW k va a25.2.2.2) hP hD rfl
    refine hc_is (z := q2) rfl ?_
    refine lv_if_eq (tgt := 72) hx hb dX9_digits_29 (by decide) (fun c3 => ?_) (fun c3 => ?_)
    · have h := fw_t c3 h
      refine lv_aload_n hx hb dX9_digits_72 rfl (lv_at hl 0 rfl) ?_
      refine va_get (D := D) (ci := 7) (v := .int (a25.2.2.2.1 19)) (C := RX9) (T := TX9) (N := 53) hx hb hts in9 hown hG.1 hP 0 rfl rfl 19 (by decide) (hts (.fieldLink RX9 164 "ChairCaneModel" "p" "I") (mem_b bq_wsX9_digits 0 0 rfl)) (fun _ h9 => h9) rfl dX9_digits_73 ?_
      refine lv_iload_n hx hb dX9_digits_76 rfl (lv_at hl 2 rfl) ?_
      refine lv_isub hx hb dX9_digits_77 ?_
      refine lv_iconst (v := 5) hx hb dX9_digits_78 (by decide) ?_
      refine lv_icmp_gt (tgt := 87) hx hb dX9_digits_79 (by decide) (fun c4 => ?_) (fun c4 => ?_)
      · have h := fw_t c4 h
        exact B87 _ _ _ _ _ _ h hP hD hS (lv_sub hl [0, 2, 3] rfl)
      · have h := fw_f c4 h
        refine lv_iload_n hx hb dX9_digits_82 rfl (lv_at hl 3 rfl) ?_
        refine lv_iload_n hx hb dX9_digits_83 rfl (lv_at hl 1 rfl) ?_
        refine lv_icmp_le (tgt := 93) hx hb dX9_digits_84 (by decide) (fun c5 => ?_) (fun c5 => ?_)
        · have h := fw_t c5 h
          exact B93 _ _ _ _ _ h hP hD hS (lv_sub hl [3] rfl)
        · have h := fw_f c5 h
          exact B87 _ _ _ _ _ _ h hP hD hS (lv_sub hl [0, 2, 3] rfl)
    · have h := fw_f c3 h
      refine lv_aload_n hx hb dX9_digits_32 rfl (lv_at hl 0 rfl) ?_
      refine va_get (D := D) (ci := 7) (v := .int (a25.2.2.2.1 19)) (C := RX9) (T := TX9) (N := 53) hx hb hts in9 hown hG.1 hP 0 rfl rfl 19 (by decide) (hts (.fieldLink RX9 164 "ChairCaneModel" "p" "I") (mem_b bq_wsX9_digits 0 0 rfl)) (fun _ h9 => h9) rfl dX9_digits_33 ?_
      refine lv_iload_n hx hb dX9_digits_36 rfl (lv_at hl 2 rfl) ?_
      refine lv_isub hx hb dX9_digits_37 ?_
      refine lv_iconst (v := 5) hx hb dX9_digits_38 (by decide) ?_
      refine lv_icmp_ge (tgt := 57) hx hb dX9_digits_39 (by decide) (fun c6 => ?_) (fun c6 => ?_)
      · have h := fw_t c6 h
        refine lv_iload_n hx hb dX9_digits_57 rfl (lv_at hl 3 rfl) ?_
        exact B58 _ _ _ _ _ _ _ h hP hD hS (lv_sub hl [0, 1, 2] rfl)
      · have h := fw_f c6 h
        refine lv_bipush (v := 10) hx hb dX9_digits_42 (by decide) ?_
        refine lv_iload_n hx hb dX9_digits_44 rfl (lv_at hl 3 rfl) ?_
        refine lv_imul hx hb dX9_digits_45 ?_
        refine lv_aload_n hx hb dX9_digits_46 rfl (lv_at hl 0 rfl) ?_
        refine fw_Vi (As := []) (rest := [.int (10 * a25.2.2.1)]) (n := 0) (wr := []) (rv := fun b : Int32 => b) (wp := fun b : Int32 => moW k va a25.2.2.2) h hx hb hml hown hts hG hA hP hD hS hl.1 (List.range (moW k va a25.2.2.2).length) [] (fun q hq9 => c_X9_sign l D k _  va F  a25.2.2.2  hq9) (ci := 7) (q0 := 0) rfl rfl gX9_digits_X9_sign rfl ⟨rfl, rfl, Nat.le_of_ble_eq_true rfl, Nat.le_of_ble_eq_true rfl⟩ (by decide +kernel) (al_C _) rfl (al_n _) ⟨rfl, rfl, Nat.le_of_ble_eq_true rfl, Nat.le_of_ble_eq_true rfl, Nat.le_of_ble_eq_true rfl⟩ dX9_digits_47 (fun q7 H locs h hP hD hS => ?_)
        obtain ⟨hP, hD⟩ := cv (w' := moW k va a25.2.2.2) hP hD rfl
        refine hc_is (z := q7) rfl ?_
        refine lv_iadd hx hb dX9_digits_50 ?_
        refine lv_bipush (v := 48) hx hb dX9_digits_51 (by decide) ?_
        refine lv_isub hx hb dX9_digits_53 ?_
        refine lv_goto (tgt := 58) hx hb dX9_digits_54 (by decide) ?_
        exact B58 _ _ _ _ _ _ _ h hP hD hS (lv_sub hl [0, 1, 2] rfl)
  have C25 : ∀ (v1 : Int32) (v2 : Int32) (v3 : Int32) (mo : OB), lp (b_X9_digits_25 F) F (v1, v2, v3, mo) = some res → ∀ (H : Heap) (locs : List Loc) (ls : Array Slot), va_P D vwCl (moW k va mo) H → va_D A (moW k va mo) → va_S A s.heap H locs → lv_has ls 4 [(0, .ref (va 0)), (1, .int v1), (2, .int v2), (3, .int v3)] → W p l e (rmK 3 0 0) s m (List.toArray [.ref (va 0), .int x1]) below meth c H locs 0 0 (MQ below (va_Qi (fun r (_ : Unit) => r = res.1) (hcB D (fun _ : Unit => moW k va res.2) A) A) (List.toArray [.ref (va 0), .int x1]) s 0 0 A) (F0 m 25 ls []) := fun v1 v2 v3 mo => B25 (v1, v2, v3, mo)
  refine lv_aload_n hx hb dX9_digits_0 rfl (lv_at hl 0 rfl) ?_
  refine fw_Vi (As := []) (rest := []) (n := 0) (wr := []) (rv := fun b : Int32 => b) (wp := fun b : Int32 => moW k va mo) h hx hb hml hown hts hG hA hP hD hS hl.1 (List.range (moW k va mo).length) [] (fun q hq9 => c_X9_isDigit l D k _  va F  mo  hq9) (ci := 7) (q0 := 0) rfl rfl gX9_digits_X9_isDigit rfl ⟨rfl, rfl, Nat.le_of_ble_eq_true rfl, Nat.le_of_ble_eq_true rfl⟩ (by decide +kernel) (al_C _) rfl (al_n _) ⟨rfl, rfl, Nat.le_of_ble_eq_true rfl, Nat.le_of_ble_eq_true rfl, Nat.le_of_ble_eq_true rfl⟩ dX9_digits_1 (fun q8 H locs h hP hD hS => ?_)
  obtain ⟨hP, hD⟩ := cv (w' := moW k va mo) hP hD rfl
  refine hc_is (z := q8) rfl ?_
  refine lv_if_ne (tgt := 18) hx hb dX9_digits_4 (by decide) (fun c9 => ?_) (fun c9 => ?_)
  · have h := fw_f c9 h
    refine lv_aload_n hx hb dX9_digits_18 rfl (lv_at hl 0 rfl) ?_
    refine va_get (D := D) (ci := 7) (v := .int (mo.1 19)) (C := RX9) (T := TX9) (N := 53) hx hb hts in9 hown hG.1 hP 0 rfl rfl 19 (by decide) (hts (.fieldLink RX9 164 "ChairCaneModel" "p" "I") (mem_b bq_wsX9_digits 0 0 rfl)) (fun _ h9 => h9) rfl dX9_digits_19 ?_
    refine lv_istore_n (lv' := [(2, .int (mo.1 19)), (0, .ref (va 0)), (1, .int x1)]) hx hb dX9_digits_22 rfl hl (by decide) rfl (fun ls hl => ?_)
    refine lv_iconst (v := 0) hx hb dX9_digits_23 (by decide) ?_
    refine lv_istore_n (lv' := [(3, .int 0), (2, .int (mo.1 19)), (0, .ref (va 0)), (1, .int x1)]) hx hb dX9_digits_24 rfl hl (by decide) rfl (fun ls hl => ?_)
    exact C25 _ _ _ _ h _ _ _ hP hD hS (lv_sub hl [2, 3, 1, 0] rfl)
  · have h := fw_t c9 h
    refine lv_aload_n hx hb dX9_digits_7 rfl (lv_at hl 0 rfl) ?_
    refine lv_iconst (v := 0) hx hb dX9_digits_8 (by decide) ?_
    refine lv_aload_n hx hb dX9_digits_9 rfl (lv_at hl 0 rfl) ?_
    refine va_get (D := D) (ci := 7) (v := .int (mo.1 19)) (C := RX9) (T := TX9) (N := 53) hx hb hts in9 hown hG.1 hP 0 rfl rfl 19 (by decide) (hts (.fieldLink RX9 164 "ChairCaneModel" "p" "I") (mem_b bq_wsX9_digits 0 0 rfl)) (fun _ h9 => h9) rfl dX9_digits_10 ?_
    refine fw_Vv (As := [.int 0, .int (mo.1 19)]) (rest := []) (n := 2) (wr := []) (wp := fun b : OB => moW k va b) h hx hb hml hown hts hG hA hP hD hS hl.1 (List.range (moW k va mo).length) [] (fun q hq9 => c_X9_fails l D k _  va F 0 (mo.1 19) mo  hq9) (ci := 7) (q0 := 0) rfl rfl gX9_digits_X9_fails rfl ⟨rfl, rfl, Nat.le_of_ble_eq_true rfl, Nat.le_of_ble_eq_true rfl⟩ (by decide +kernel) (al_C _) rfl (al_n _) ⟨rfl, rfl, Nat.le_of_ble_eq_true rfl, Nat.le_of_ble_eq_true rfl, Nat.le_of_ble_eq_true rfl⟩ dX9_digits_13 (fun q10 H locs h hP hD hS => ?_)
    obtain ⟨hP, hD⟩ := cv (w' := moW k va q10) hP hD rfl
    refine lv_iconst (v := 0) hx hb dX9_digits_16 (by decide) ?_
    exact fw_endI (rv := fun b : Int32 × OB => b.1) (wp := fun b : Int32 × OB => moW k va b.2) hx hb hr hlocks h rfl hP hD hS dX9_digits_17
noncomputable def b_X9_value_62 (F : Nat)    (v1 : Int32) (v2 : Int32) (mo : OB) : Option (OB) :=
  if v2 = (mo.1 27) then (Option.bind (f_X9_fails F 0 v1 mo) (fun q5 => (some q5))) else (Option.bind (f_X9_isCounted F v1 mo) (fun q2 => (if (wdY v2) < 18 then (Option.bind (f_X9_entry F 1 v2 ((uF q2.1 19 ((q2.1 19) + (nI (xl (wdY v2))))), q2.2.1, q2.2.2)) (fun q4 => (some q4))) else none)))
noncomputable def b_X9_value_37 (F : Nat)    (k37 : (Int32 × Int32 × OB) → Option (OB)) (a37 : (Int32 × Int32 × OB)) : Option (OB) :=
  if (a37.2.2.1 27) ≤ a37.2.1 then (b_X9_value_62 F a37.1 a37.2.1 a37.2.2) else (Option.bind (f_X9_stood F (wdY a37.2.1) a37.2.2) (fun q7 => (if q7 = 0 then (k37 (a37.1, (a37.2.1 + 1), a37.2.2)) else (b_X9_value_62 F a37.1 a37.2.1 a37.2.2))))
noncomputable def f_X9_value (F : Nat)   (mo : OB) : Option (OB) :=
  Option.bind (f_X9_blanks F mo) (fun q9 => (Option.bind (f_X9_isDigit F q9) (fun q10 => (if q10 = 0 then (lp (b_X9_value_37 F) F ((q9.1 19), 0, q9)) else (Option.bind (f_X9_digits F 99999 q9) (fun q12 => (Option.bind (f_X9_isCounted F (q9.1 19) q12.2) (fun q13 => (Option.bind (f_X9_entry F 0 q12.1 q13) (fun q14 => (some q14)))))))))))
set_option maxHeartbeats 4000000 in
set_option maxRecDepth 100000 in
theorem c_X9_value (l : Launch) (D : va_G) (k : Nat → ClassId) (sz : Nat) (ad tv : Nat → Nat) (va : Nat → Nat) (F : Nat)   (mo : OB)  {res : OB} (h : f_X9_value F mo = some res) : CtVE l yX9_value wsX9_value (rmK 6 0 0) [.ref (va 0)] D k (EY ad tv) sz (moW k va mo) (fun (_ : Unit) => True) (fun _ : Unit => moW k va res) 0 0 := by
  refine CtVE.mk (cc := cX9_value) (maxL := 3) (ret := none) (by decide) rfl (Nat.le_of_ble_eq_true rfl) ?_
  intro p e s m below meth c A ls hE E hP hD hS hl
  obtain ⟨hx, hb, hr, hml, hown, hts, hlocks, hin, hG, hA⟩ := E
  have hown : s.vm.findClass RX9 = some m.cls := hown
  have in9 : ∀ w ∈ u_ws RX9 TX9 53, w ∈ wsX9_value := fun _ h => List.mem_cons_of_mem _ (List.mem_append_right _ h)
  have hl : lv_has ls 3 [(0, .ref (va 0))] := hl
  have B62 : ∀ (v1 : Int32) (v2 : Int32) (mo : OB) (H : Heap) (locs : List Loc) (ls : Array Slot), b_X9_value_62 F v1 v2 mo = some res → va_P D vwCl (moW k va mo) H → va_D A (moW k va mo) → va_S A s.heap H locs → lv_has ls 3 [(0, .ref (va 0)), (1, .int v1), (2, .int v2)] → W p l e (rmK 6 0 0) s m (List.toArray [.ref (va 0)]) below meth c H locs 0 0 (MQ below (va_Qv (fun (_ : Unit) => True) (hcB D (fun _ : Unit => moW k va res) A) A) (List.toArray [.ref (va 0)]) s 0 0 A) (F0 m 62 ls []) := by
    intro v1 v2 mo H locs ls h hP hD hS hl
    refine lv_iload_n hx hb dX9_value_62 rfl (lv_at hl 2 rfl) ?_
    refine lv_aload_n hx hb dX9_value_63 rfl (lv_at hl 0 rfl) ?_
    refine va_get (D := D) (ci := 7) (v := .int (mo.1 27)) (C := RX9) (T := TX9) (N := 53) hx hb hts in9 hown hG.1 hP 0 rfl rfl 27 (by decide) (hts (.fieldLink RX9 61 "ChairCaneModel" "words" "I") (mem_b bq_wsX9_value 0 2 rfl)) (fun _ h9 => h9) rfl dX9_value_64 ?_
    refine lv_icmp_ne (tgt := 77) hx hb dX9_value_67 (by decide) (fun c1 => ?_) (fun c1 => ?_)
    · have h := fw_f c1 h
      refine lv_aload_n hx hb dX9_value_77 rfl (lv_at hl 0 rfl) ?_
      refine lv_iload_n hx hb dX9_value_78 rfl (lv_at hl 1 rfl) ?_
      refine fw_Vv (As := [.int v1]) (rest := []) (n := 1) (wr := []) (wp := fun b : OB => moW k va b) h hx hb hml hown hts hG hA hP hD hS hl.1 (List.range (moW k va mo).length) [] (fun q hq9 => c_X9_isCounted l D k _  va F v1 mo  hq9) (ci := 7) (q0 := 0) rfl rfl gX9_value_X9_isCounted rfl ⟨rfl, rfl, Nat.le_of_ble_eq_true rfl, Nat.le_of_ble_eq_true rfl⟩ (by decide +kernel) (al_C _) rfl (al_n _) ⟨rfl, rfl, Nat.le_of_ble_eq_true rfl, Nat.le_of_ble_eq_true rfl, Nat.le_of_ble_eq_true rfl⟩ dX9_value_79 (fun q2 H locs h hP hD hS => ?_)
      obtain ⟨hP, hD⟩ := cv (w' := moW k va q2) hP hD rfl
      refine lv_aload_n hx hb dX9_value_82 rfl (lv_at hl 0 rfl) ?_
      refine lv_dup hx hb dX9_value_83 rfl ?_
      refine va_get (D := D) (ci := 7) (v := .int (q2.1 19)) (C := RX9) (T := TX9) (N := 53) hx hb hts in9 hown hG.1 hP 0 rfl rfl 19 (by decide) (hts (.fieldLink RX9 164 "ChairCaneModel" "p" "I") (mem_b bq_wsX9_value 0 0 rfl)) (fun _ h9 => h9) rfl dX9_value_84 ?_
      refine lv_iload_n hx hb dX9_value_87 rfl (lv_at hl 2 rfl) ?_
      refine hc_SrE (As := [.int v2]) (rest := [.int (q2.1 19), .ref (va 0)]) (n := 1) (wr := moW k va q2) (EY.ok ad tv) hE hx hb hml hown hts hG hA hP hD hS hl.1 (List.range (moW k va q2).length) (c_X9_wordOf l D k _ v2 ad tv) gX9_value_X9_wordOf rfl ⟨rfl, rfl, Nat.le_of_ble_eq_true rfl, Nat.le_of_ble_eq_true rfl⟩ (by decide +kernel) (al_C _) (al_r _) ⟨rfl, rfl, Nat.le_of_ble_eq_true rfl, Nat.le_of_ble_eq_true rfl, Nat.le_of_ble_eq_true rfl⟩ dX9_value_88 (fun H locs hP hD hS => ?_)
      obtain ⟨g3, h⟩ := fw_g h
      refine hc_ViE (As := []) (rest := [.int (q2.1 19), .ref (va 0)]) (n := 0) (wr := moW k va q2) (ES.ok (ad (wdY v2)) (tv (wdY v2)) (xl (wdY v2)) (xc (wdY v2))) ⟨hE.1, hE.2.2.1 _ g3, hE.2.1⟩ hx hb hml hown hts hG hA hP hD hS hl.1 [] (List.range (moW k va q2).length) (c_length l D k _ (ad (wdY v2)) (tv (wdY v2)) (xl (wdY v2)) (xc (wdY v2))) (va_Orecv (hE.2.2.1 _ g3).1 hS) gX9_value_J0_length_8abf5 rfl ⟨rfl, rfl, Nat.le_of_ble_eq_true rfl, Nat.le_of_ble_eq_true rfl⟩ (by decide +kernel) rfl (al_C _) (al_m _) ⟨rfl, rfl, Nat.le_of_ble_eq_true rfl, Nat.le_of_ble_eq_true rfl, Nat.le_of_ble_eq_true rfl⟩ dX9_value_91 (fun r u H locs hw hP hD hS => ?_)
      obtain ⟨hP, hD⟩ := cv (w' := (moW k va q2) ++ []) hP hD rfl
      rw [List.append_nil] at hP hD
      obtain rfl : r = nI (xl (wdY v2)) := hw
      refine lv_iadd hx hb dX9_value_94 ?_
      refine va_put (D := D) (ci := 7) (v := .int ((q2.1 19) + (nI (xl (wdY v2))))) (C := RX9) (T := TX9) (N := 53) hx hb hts in9 tyX9 tyX9_ok nmX9 hown hG.1 hP hD hS 0 rfl rfl 19 (by decide) (hts (.fieldLink RX9 164 "ChairCaneModel" "p" "I") (mem_b bq_wsX9_value 0 0 rfl)) (fun _ h9 => h9) rfl (tyX9_ok 19 (by decide)) rfl rfl (Nat.le_of_ble_eq_true rfl) dX9_value_95 (fun H locs hP hD hS => ?_)
      refine lv_aload_n hx hb dX9_value_98 rfl (lv_at hl 0 rfl) ?_
      refine lv_iconst (v := 1) hx hb dX9_value_99 (by decide) ?_
      refine lv_iload_n hx hb dX9_value_100 rfl (lv_at hl 2 rfl) ?_
      obtain ⟨hP, hD⟩ := cv (w' := moW k va ((uF q2.1 19 ((q2.1 19) + (nI (xl (wdY v2))))), q2.2.1, q2.2.2)) hP hD rfl
      refine fw_Vv (As := [.int 1, .int v2]) (rest := []) (n := 2) (wr := []) (wp := fun b : OB => moW k va b) h hx hb hml hown hts hG hA hP hD hS hl.1 (List.range (moW k va ((uF q2.1 19 ((q2.1 19) + (nI (xl (wdY v2))))), q2.2.1, q2.2.2)).length) [] (fun q hq9 => c_X9_entry l D k _  va F 1 v2 ((uF q2.1 19 ((q2.1 19) + (nI (xl (wdY v2))))), q2.2.1, q2.2.2)  hq9) (ci := 7) (q0 := 0) rfl rfl gX9_value_X9_entry rfl ⟨rfl, rfl, Nat.le_of_ble_eq_true rfl, Nat.le_of_ble_eq_true rfl⟩ (by decide +kernel) (al_C _) rfl (al_n _) ⟨rfl, rfl, Nat.le_of_ble_eq_true rfl, Nat.le_of_ble_eq_true rfl, Nat.le_of_ble_eq_true rfl⟩ dX9_value_101 (fun q4 H locs h hP hD hS => ?_)
      obtain ⟨hP, hD⟩ := cv (w' := moW k va q4) hP hD rfl
      exact fw_endV (wp := fun b : OB => moW k va b) hx hb hr hlocks h hP hD hS dX9_value_104
    · have h := fw_t c1 h
      refine lv_aload_n hx hb dX9_value_70 rfl (lv_at hl 0 rfl) ?_
      refine lv_iconst (v := 0) hx hb dX9_value_71 (by decide) ?_
      refine lv_iload_n hx hb dX9_value_72 rfl (lv_at hl 1 rfl) ?_
      refine fw_Vv (As := [.int 0, .int v1]) (rest := []) (n := 2) (wr := []) (wp := fun b : OB => moW k va b) h hx hb hml hown hts hG hA hP hD hS hl.1 (List.range (moW k va mo).length) [] (fun q hq9 => c_X9_fails l D k _  va F 0 v1 mo  hq9) (ci := 7) (q0 := 0) rfl rfl gX9_value_X9_fails rfl ⟨rfl, rfl, Nat.le_of_ble_eq_true rfl, Nat.le_of_ble_eq_true rfl⟩ (by decide +kernel) (al_C _) rfl (al_n _) ⟨rfl, rfl, Nat.le_of_ble_eq_true rfl, Nat.le_of_ble_eq_true rfl, Nat.le_of_ble_eq_true rfl⟩ dX9_value_73 (fun q5 H locs h hP hD hS => ?_)
      obtain ⟨hP, hD⟩ := cv (w' := moW k va q5) hP hD rfl
      exact fw_endV (wp := fun b : OB => moW k va b) hx hb hr hlocks h hP hD hS dX9_value_76
  have B37 : ∀ a37 : (Int32 × Int32 × OB), lp (b_X9_value_37 F) F a37 = some res → ∀ (H : Heap) (locs : List Loc) (ls : Array Slot), va_P D vwCl (moW k va a37.2.2) H → va_D A (moW k va a37.2.2) → va_S A s.heap H locs → lv_has ls 3 [(0, .ref (va 0)), (1, .int a37.1), (2, .int a37.2.1)] → W p l e (rmK 6 0 0) s m (List.toArray [.ref (va 0)]) below meth c H locs 0 0 (MQ below (va_Qv (fun (_ : Unit) => True) (hcB D (fun _ : Unit => moW k va res) A) A) (List.toArray [.ref (va 0)]) s 0 0 A) (F0 m 37 ls []) := by
    refine lp_W ?_ F
    intro k37 hk37 a37 h H locs ls hP hD hS hl
    have hc37 : ∀ (v1 : Int32) (v2 : Int32) (mo : OB), k37 (v1, v2, mo) = some res → ∀ (H : Heap) (locs : List Loc) (ls : Array Slot), va_P D vwCl (moW k va mo) H → va_D A (moW k va mo) → va_S A s.heap H locs → lv_has ls 3 [(0, .ref (va 0)), (1, .int v1), (2, .int v2)] → W p l e (rmK 6 0 0) s m (List.toArray [.ref (va 0)]) below meth c H locs 0 0 (MQ below (va_Qv (fun (_ : Unit) => True) (hcB D (fun _ : Unit => moW k va res) A) A) (List.toArray [.ref (va 0)]) s 0 0 A) (F0 m 37 ls []) := fun v1 v2 mo => hk37 (v1, v2, mo)
    refine lv_iload_n hx hb dX9_value_37 rfl (lv_at hl 2 rfl) ?_
    refine lv_aload_n hx hb dX9_value_38 rfl (lv_at hl 0 rfl) ?_
    refine va_get (D := D) (ci := 7) (v := .int (a37.2.2.1 27)) (C := RX9) (T := TX9) (N := 53) hx hb hts in9 hown hG.1 hP 0 rfl rfl 27 (by decide) (hts (.fieldLink RX9 61 "ChairCaneModel" "words" "I") (mem_b bq_wsX9_value 0 2 rfl)) (fun _ h9 => h9) rfl dX9_value_39 ?_
    refine lv_icmp_ge (tgt := 62) hx hb dX9_value_42 (by decide) (fun c6 => ?_) (fun c6 => ?_)
    · have h := fw_t c6 h
      exact B62 _ _ _ _ _ _ h hP hD hS hl
    · have h := fw_f c6 h
      refine lv_aload_n hx hb dX9_value_45 rfl (lv_at hl 0 rfl) ?_
      refine lv_iload_n hx hb dX9_value_46 rfl (lv_at hl 2 rfl) ?_
      refine hc_SrE (As := [.int a37.2.1]) (rest := [.ref (va 0)]) (n := 1) (wr := moW k va a37.2.2) (EY.ok ad tv) hE hx hb hml hown hts hG hA hP hD hS hl.1 (List.range (moW k va a37.2.2).length) (c_X9_wordOf l D k _ a37.2.1 ad tv) gX9_value_X9_wordOf rfl ⟨rfl, rfl, Nat.le_of_ble_eq_true rfl, Nat.le_of_ble_eq_true rfl⟩ (by decide +kernel) (al_C _) (al_r _) ⟨rfl, rfl, Nat.le_of_ble_eq_true rfl, Nat.le_of_ble_eq_true rfl, Nat.le_of_ble_eq_true rfl⟩ dX9_value_47 (fun H locs hP hD hS => ?_)
      refine fw_ViE (As := [.ref (ad (wdY a37.2.1))]) (rest := []) (n := 1) (wr := []) (rv := fun b : Int32 => b) (wp := fun b : Int32 => moW k va a37.2.2) h (EY.ok ad tv) hE hx hb hml hown hts hG hA hP hD hS hl.1 (List.range (moW k va a37.2.2).length) [] (fun q hq9 => c_X9_stood l D k _ ad tv va F (wdY a37.2.1) a37.2.2  hq9) (va_recv hG.1 hP (ci := 7) (q0 := 0) rfl rfl) gX9_value_X9_stood rfl ⟨rfl, rfl, Nat.le_of_ble_eq_true rfl, Nat.le_of_ble_eq_true rfl⟩ (by decide +kernel) (al_C _) rfl (al_n _) ⟨rfl, rfl, Nat.le_of_ble_eq_true rfl, Nat.le_of_ble_eq_true rfl, Nat.le_of_ble_eq_true rfl⟩ dX9_value_50 (fun q7 H locs h hP hD hS => ?_)
      obtain ⟨hP, hD⟩ := cv (w' := moW k va a37.2.2) hP hD rfl
      refine hc_is (z := q7) rfl ?_
      refine lv_if_ne (tgt := 62) hx hb dX9_value_53 (by decide) (fun c8 => ?_) (fun c8 => ?_)
      · have h := fw_f c8 h
        exact B62 _ _ _ _ _ _ h hP hD hS hl
      · have h := fw_t c8 h
        refine lv_iinc (v := (a37.2.1 + 1)) (lv' := [(2, .int (a37.2.1 + 1)), (0, .ref (va 0)), (1, .int a37.1)]) hx hb dX9_value_56 hl (k := 2) rfl rfl (by decide) rfl (fun ls hl => ?_)
        refine lv_goto (tgt := 37) hx hb dX9_value_59 (by decide) ?_
        exact hc37 _ _ _ h _ _ _ hP hD hS (lv_sub hl [1, 2, 0] rfl)
  have C37 : ∀ (v1 : Int32) (v2 : Int32) (mo : OB), lp (b_X9_value_37 F) F (v1, v2, mo) = some res → ∀ (H : Heap) (locs : List Loc) (ls : Array Slot), va_P D vwCl (moW k va mo) H → va_D A (moW k va mo) → va_S A s.heap H locs → lv_has ls 3 [(0, .ref (va 0)), (1, .int v1), (2, .int v2)] → W p l e (rmK 6 0 0) s m (List.toArray [.ref (va 0)]) below meth c H locs 0 0 (MQ below (va_Qv (fun (_ : Unit) => True) (hcB D (fun _ : Unit => moW k va res) A) A) (List.toArray [.ref (va 0)]) s 0 0 A) (F0 m 37 ls []) := fun v1 v2 mo => B37 (v1, v2, mo)
  refine lv_aload_n hx hb dX9_value_0 rfl (lv_at hl 0 rfl) ?_
  refine fw_Vv (As := []) (rest := []) (n := 0) (wr := []) (wp := fun b : OB => moW k va b) h hx hb hml hown hts hG hA hP hD hS hl.1 (List.range (moW k va mo).length) [] (fun q hq9 => c_X9_blanks l D k _  va F  mo  hq9) (ci := 7) (q0 := 0) rfl rfl gX9_value_X9_blanks rfl ⟨rfl, rfl, Nat.le_of_ble_eq_true rfl, Nat.le_of_ble_eq_true rfl⟩ (by decide +kernel) (al_C _) rfl (al_n _) ⟨rfl, rfl, Nat.le_of_ble_eq_true rfl, Nat.le_of_ble_eq_true rfl, Nat.le_of_ble_eq_true rfl⟩ dX9_value_1 (fun q9 H locs h hP hD hS => ?_)
  obtain ⟨hP, hD⟩ := cv (w' := moW k va q9) hP hD rfl
  refine lv_aload_n hx hb dX9_value_4 rfl (lv_at hl 0 rfl) ?_
  refine va_get (D := D) (ci := 7) (v := .int (q9.1 19)) (C := RX9) (T := TX9) (N := 53) hx hb hts in9 hown hG.1 hP 0 rfl rfl 19 (by decide) (hts (.fieldLink RX9 164 "ChairCaneModel" "p" "I") (mem_b bq_wsX9_value 0 0 rfl)) (fun _ h9 => h9) rfl dX9_value_5 ?_
  refine lv_istore_n (lv' := [(1, .int (q9.1 19)), (0, .ref (va 0))]) hx hb dX9_value_8 rfl hl (by decide) rfl (fun ls hl => ?_)
  refine lv_aload_n hx hb dX9_value_9 rfl (lv_at hl 1 rfl) ?_
  refine fw_Vi (As := []) (rest := []) (n := 0) (wr := []) (rv := fun b : Int32 => b) (wp := fun b : Int32 => moW k va q9) h hx hb hml hown hts hG hA hP hD hS hl.1 (List.range (moW k va q9).length) [] (fun q hq9 => c_X9_isDigit l D k _  va F  q9  hq9) (ci := 7) (q0 := 0) rfl rfl gX9_value_X9_isDigit rfl ⟨rfl, rfl, Nat.le_of_ble_eq_true rfl, Nat.le_of_ble_eq_true rfl⟩ (by decide +kernel) (al_C _) rfl (al_n _) ⟨rfl, rfl, Nat.le_of_ble_eq_true rfl, Nat.le_of_ble_eq_true rfl, Nat.le_of_ble_eq_true rfl⟩ dX9_value_10 (fun q10 H locs h hP hD hS => ?_)
  obtain ⟨hP, hD⟩ := cv (w' := moW k va q9) hP hD rfl
  refine hc_is (z := q10) rfl ?_
  refine lv_if_eq (tgt := 35) hx hb dX9_value_13 (by decide) (fun c11 => ?_) (fun c11 => ?_)
  · have h := fw_t c11 h
    refine lv_iconst (v := 0) hx hb dX9_value_35 (by decide) ?_
    refine lv_istore_n (lv' := [(2, .int 0), (1, .int (q9.1 19)), (0, .ref (va 0))]) hx hb dX9_value_36 rfl hl (by decide) rfl (fun ls hl => ?_)
    exact C37 _ _ _ h _ _ _ hP hD hS (lv_sub hl [2, 1, 0] rfl)
  · have h := fw_f c11 h
    refine lv_aload_n hx hb dX9_value_16 rfl (lv_at hl 1 rfl) ?_
    refine lv_ldc (v := 99999) hx hb hown (hts (.constant RX9 208 (99999)) (mem_b bq_wsX9_value 0 1 rfl)) dX9_value_17 ?_
    refine fw_Vi (As := [.int 99999]) (rest := []) (n := 1) (wr := []) (rv := fun b : Int32 × OB => b.1) (wp := fun b : Int32 × OB => moW k va b.2) h hx hb hml hown hts hG hA hP hD hS hl.1 (List.range (moW k va q9).length) [] (fun q hq9 => c_X9_digits l D k _  va F 99999 q9  hq9) (ci := 7) (q0 := 0) rfl rfl gX9_value_X9_digits rfl ⟨rfl, rfl, Nat.le_of_ble_eq_true rfl, Nat.le_of_ble_eq_true rfl⟩ (by decide +kernel) (al_C _) rfl (al_n _) ⟨rfl, rfl, Nat.le_of_ble_eq_true rfl, Nat.le_of_ble_eq_true rfl, Nat.le_of_ble_eq_true rfl⟩ dX9_value_19 (fun q12 H locs h hP hD hS => ?_)
    obtain ⟨hP, hD⟩ := cv (w' := moW k va q12.2) hP hD rfl
    refine hc_is (z := q12.1) rfl ?_
    refine lv_istore_n (lv' := [(2, .int q12.1), (1, .int (q9.1 19)), (0, .ref (va 0))]) hx hb dX9_value_22 rfl hl (by decide) rfl (fun ls hl => ?_)
    refine lv_aload_n hx hb dX9_value_23 rfl (lv_at hl 2 rfl) ?_
    refine lv_iload_n hx hb dX9_value_24 rfl (lv_at hl 1 rfl) ?_
    refine fw_Vv (As := [.int (q9.1 19)]) (rest := []) (n := 1) (wr := []) (wp := fun b : OB => moW k va b) h hx hb hml hown hts hG hA hP hD hS hl.1 (List.range (moW k va q12.2).length) [] (fun q hq9 => c_X9_isCounted l D k _  va F (q9.1 19) q12.2  hq9) (ci := 7) (q0 := 0) rfl rfl gX9_value_X9_isCounted rfl ⟨rfl, rfl, Nat.le_of_ble_eq_true rfl, Nat.le_of_ble_eq_true rfl⟩ (by decide +kernel) (al_C _) rfl (al_n _) ⟨rfl, rfl, Nat.le_of_ble_eq_true rfl, Nat.le_of_ble_eq_true rfl, Nat.le_of_ble_eq_true rfl⟩ dX9_value_25 (fun q13 H locs h hP hD hS => ?_)
    obtain ⟨hP, hD⟩ := cv (w' := moW k va q13) hP hD rfl
    refine lv_aload_n hx hb dX9_value_28 rfl (lv_at hl 2 rfl) ?_
    refine lv_iconst (v := 0) hx hb dX9_value_29 (by decide) ?_
    refine lv_iload_n hx hb dX9_value_30 rfl (lv_at hl 0 rfl) ?_
    refine fw_Vv (As := [.int 0, .int q12.1]) (rest := []) (n := 2) (wr := []) (wp := fun b : OB => moW k va b) h hx hb hml hown hts hG hA hP hD hS hl.1 (List.range (moW k va q13).length) [] (fun q hq9 => c_X9_entry l D k _  va F 0 q12.1 q13  hq9) (ci := 7) (q0 := 0) rfl rfl gX9_value_X9_entry rfl ⟨rfl, rfl, Nat.le_of_ble_eq_true rfl, Nat.le_of_ble_eq_true rfl⟩ (by decide +kernel) (al_C _) rfl (al_n _) ⟨rfl, rfl, Nat.le_of_ble_eq_true rfl, Nat.le_of_ble_eq_true rfl, Nat.le_of_ble_eq_true rfl⟩ dX9_value_31 (fun q14 H locs h hP hD hS => ?_)
    obtain ⟨hP, hD⟩ := cv (w' := moW k va q14) hP hD rfl
    exact fw_endV (wp := fun b : OB => moW k va b) hx hb hr hlocks h hP hD hS dX9_value_34
noncomputable def b_X9_term_100 (F : Nat)    (mo : OB) : Option (OB) :=
  some mo
noncomputable def b_X9_term_72 (F : Nat)   (k8 : (OB) → Option (OB)) (y0 : Int32) (mo : OB) : Option (OB) :=
  Option.bind (f_X9_value F ((uF mo.1 19 ((mo.1 19) + 1)), mo.2.1, mo.2.2)) (fun q1 => (Option.bind (f_X9_entry F y0 0 q1) (fun q2 => (Option.bind (f_X9_blanks F q2) (fun q3 => (k8 q3))))))
noncomputable def b_X9_term_42 (F : Nat)   (k8 : (OB) → Option (OB)) (mo : OB) : Option (OB) :=
  Option.bind (f_X9_sign F mo) (fun q4 => (if q4 = 42 then (b_X9_term_72 F k8 13 mo) else (Option.bind (f_X9_sign F mo) (fun q6 => (if q6 = 47 then (b_X9_term_72 F k8 14 mo) else (b_X9_term_72 F k8 15 mo))))))
noncomputable def b_X9_term_8 (F : Nat)    (k8 : (OB) → Option (OB)) (a8 : (OB)) : Option (OB) :=
  if (a8.1 20) = 0 then (Option.bind (f_X9_sign F a8) (fun q9 => (if q9 = 42 then (b_X9_term_42 F k8 a8) else (Option.bind (f_X9_sign F a8) (fun q11 => (if q11 = 47 then (b_X9_term_42 F k8 a8) else (Option.bind (f_X9_sign F a8) (fun q13 => (if q13 = 37 then (b_X9_term_42 F k8 a8) else (b_X9_term_100 F a8)))))))))) else (b_X9_term_100 F a8)
noncomputable def f_X9_term (F : Nat)   (mo : OB) : Option (OB) :=
  Option.bind (f_X9_value F mo) (fun q15 => (Option.bind (f_X9_blanks F q15) (fun q16 => (lp (b_X9_term_8 F) F q16))))
set_option maxHeartbeats 4000000 in
set_option maxRecDepth 100000 in
theorem c_X9_term (l : Launch) (D : va_G) (k : Nat → ClassId) (sz : Nat) (ad tv : Nat → Nat) (va : Nat → Nat) (F : Nat)   (mo : OB)  {res : OB} (h : f_X9_term F mo = some res) : CtVE l yX9_term wsX9_term (rmK 7 0 0) [.ref (va 0)] D k (EY ad tv) sz (moW k va mo) (fun (_ : Unit) => True) (fun _ : Unit => moW k va res) 0 0 := by
  refine CtVE.mk (cc := cX9_term) (maxL := 2) (ret := none) (by decide) rfl (Nat.le_of_ble_eq_true rfl) ?_
  intro p e s m below meth c A ls hE E hP hD hS hl
  obtain ⟨hx, hb, hr, hml, hown, hts, hlocks, hin, hG, hA⟩ := E
  have hown : s.vm.findClass RX9 = some m.cls := hown
  have in9 : ∀ w ∈ u_ws RX9 TX9 53, w ∈ wsX9_term := fun _ h => List.mem_cons_of_mem _ (List.mem_append_right _ h)
  have hl : lv_has ls 2 [(0, .ref (va 0))] := hl
  have B100 : ∀ (mo : OB) (H : Heap) (locs : List Loc) (ls : Array Slot), b_X9_term_100 F mo = some res → va_P D vwCl (moW k va mo) H → va_D A (moW k va mo) → va_S A s.heap H locs → lv_has ls 2 [] → W p l e (rmK 7 0 0) s m (List.toArray [.ref (va 0)]) below meth c H locs 0 0 (MQ below (va_Qv (fun (_ : Unit) => True) (hcB D (fun _ : Unit => moW k va res) A) A) (List.toArray [.ref (va 0)]) s 0 0 A) (F0 m 100 ls []) := by
    intro mo H locs ls h hP hD hS hl
    exact fw_endV (wp := fun b : OB => moW k va b) hx hb hr hlocks h hP hD hS dX9_term_100
  have B8 : ∀ a8 : (OB), lp (b_X9_term_8 F) F a8 = some res → ∀ (H : Heap) (locs : List Loc) (ls : Array Slot), va_P D vwCl (moW k va a8) H → va_D A (moW k va a8) → va_S A s.heap H locs → lv_has ls 2 [(0, .ref (va 0))] → W p l e (rmK 7 0 0) s m (List.toArray [.ref (va 0)]) below meth c H locs 0 0 (MQ below (va_Qv (fun (_ : Unit) => True) (hcB D (fun _ : Unit => moW k va res) A) A) (List.toArray [.ref (va 0)]) s 0 0 A) (F0 m 8 ls []) := by
    refine lp_W ?_ F
    intro k8 hk8 a8 h H locs ls hP hD hS hl
    have hc8 : ∀ (mo : OB), k8 (mo) = some res → ∀ (H : Heap) (locs : List Loc) (ls : Array Slot), va_P D vwCl (moW k va mo) H → va_D A (moW k va mo) → va_S A s.heap H locs → lv_has ls 2 [(0, .ref (va 0))] → W p l e (rmK 7 0 0) s m (List.toArray [.ref (va 0)]) below meth c H locs 0 0 (MQ below (va_Qv (fun (_ : Unit) => True) (hcB D (fun _ : Unit => moW k va res) A) A) (List.toArray [.ref (va 0)]) s 0 0 A) (F0 m 8 ls []) := fun mo => hk8 (mo)
    have B72 : ∀ (y0 : Int32) (mo : OB) (H : Heap) (locs : List Loc) (ls : Array Slot), b_X9_term_72 F k8 y0 mo = some res → va_P D vwCl (moW k va mo) H → va_D A (moW k va mo) → va_S A s.heap H locs → lv_has ls 2 [(0, .ref (va 0))] → W p l e (rmK 7 0 0) s m (List.toArray [.ref (va 0)]) below meth c H locs 0 0 (MQ below (va_Qv (fun (_ : Unit) => True) (hcB D (fun _ : Unit => moW k va res) A) A) (List.toArray [.ref (va 0)]) s 0 0 A) (F0 m 72 ls [.int y0]) := by
      intro y0 mo H locs ls h hP hD hS hl
      refine lv_istore_n (lv' := [(1, .int y0), (0, .ref (va 0))]) hx hb dX9_term_72 rfl hl (by decide) rfl (fun ls hl => ?_)
      refine lv_aload_n hx hb dX9_term_73 rfl (lv_at hl 1 rfl) ?_
      refine lv_dup hx hb dX9_term_74 rfl ?_
      refine va_get (D := D) (ci := 7) (v := .int (mo.1 19)) (C := RX9) (T := TX9) (N := 53) hx hb hts in9 hown hG.1 hP 0 rfl rfl 19 (by decide) (hts (.fieldLink RX9 164 "ChairCaneModel" "p" "I") (mem_b bq_wsX9_term 0 1 rfl)) (fun _ h9 => h9) rfl dX9_term_75 ?_
      refine lv_iconst (v := 1) hx hb dX9_term_78 (by decide) ?_
      refine lv_iadd hx hb dX9_term_79 ?_
      refine va_put (D := D) (ci := 7) (v := .int ((mo.1 19) + 1)) (C := RX9) (T := TX9) (N := 53) hx hb hts in9 tyX9 tyX9_ok nmX9 hown hG.1 hP hD hS 0 rfl rfl 19 (by decide) (hts (.fieldLink RX9 164 "ChairCaneModel" "p" "I") (mem_b bq_wsX9_term 0 1 rfl)) (fun _ h9 => h9) rfl (tyX9_ok 19 (by decide)) rfl rfl (Nat.le_of_ble_eq_true rfl) dX9_term_80 (fun H locs hP hD hS => ?_)
      refine lv_aload_n hx hb dX9_term_83 rfl (lv_at hl 1 rfl) ?_
      obtain ⟨hP, hD⟩ := cv (w' := moW k va ((uF mo.1 19 ((mo.1 19) + 1)), mo.2.1, mo.2.2)) hP hD rfl
      refine fw_VvE (As := []) (rest := []) (n := 0) (wr := []) (wp := fun b : OB => moW k va b) h (EY.ok ad tv) hE hx hb hml hown hts hG hA hP hD hS hl.1 (List.range (moW k va ((uF mo.1 19 ((mo.1 19) + 1)), mo.2.1, mo.2.2)).length) [] (fun q hq9 => c_X9_value l D k _ ad tv va F  ((uF mo.1 19 ((mo.1 19) + 1)), mo.2.1, mo.2.2)  hq9) (va_recv hG.1 hP (ci := 7) (q0 := 0) rfl rfl) gX9_term_X9_value rfl ⟨rfl, rfl, Nat.le_of_ble_eq_true rfl, Nat.le_of_ble_eq_true rfl⟩ (by decide +kernel) (al_C _) rfl (al_n _) ⟨rfl, rfl, Nat.le_of_ble_eq_true rfl, Nat.le_of_ble_eq_true rfl, Nat.le_of_ble_eq_true rfl⟩ dX9_term_84 (fun q1 H locs h hP hD hS => ?_)
      obtain ⟨hP, hD⟩ := cv (w' := moW k va q1) hP hD rfl
      refine lv_aload_n hx hb dX9_term_87 rfl (lv_at hl 1 rfl) ?_
      refine lv_iload_n hx hb dX9_term_88 rfl (lv_at hl 0 rfl) ?_
      refine lv_iconst (v := 0) hx hb dX9_term_89 (by decide) ?_
      refine fw_Vv (As := [.int y0, .int 0]) (rest := []) (n := 2) (wr := []) (wp := fun b : OB => moW k va b) h hx hb hml hown hts hG hA hP hD hS hl.1 (List.range (moW k va q1).length) [] (fun q hq9 => c_X9_entry l D k _  va F y0 0 q1  hq9) (ci := 7) (q0 := 0) rfl rfl gX9_term_X9_entry rfl ⟨rfl, rfl, Nat.le_of_ble_eq_true rfl, Nat.le_of_ble_eq_true rfl⟩ (by decide +kernel) (al_C _) rfl (al_n _) ⟨rfl, rfl, Nat.le_of_ble_eq_true rfl, Nat.le_of_ble_eq_true rfl, Nat.le_of_ble_eq_true rfl⟩ dX9_term_90 (fun q2 H locs h hP hD hS => ?_)
      obtain ⟨hP, hD⟩ := cv (w' := moW k va q2) hP hD rfl
      refine lv_aload_n hx hb dX9_term_93 rfl (lv_at hl 1 rfl) ?_
      refine fw_Vv (As := []) (rest := []) (n := 0) (wr := []) (wp := fun b : OB => moW k va b) h hx hb hml hown hts hG hA hP hD hS hl.1 (List.range (moW k va q2).length) [] (fun q hq9 => c_X9_blanks l D k _  va F  q2  hq9) (ci := 7) (q0 := 0) rfl rfl gX9_term_X9_blanks rfl ⟨rfl, rfl, Nat.le_of_ble_eq_true rfl, Nat.le_of_ble_eq_true rfl⟩ (by decide +kernel) (al_C _) rfl (al_n _) ⟨rfl, rfl, Nat.le_of_ble_eq_true rfl, Nat.le_of_ble_eq_true rfl, Nat.le_of_ble_eq_true rfl⟩ dX9_term_94 (fun q3 H locs h hP hD hS => ?_)
      obtain ⟨hP, hD⟩ := cv (w' := moW k va q3) hP hD rfl
      refine lv_goto (tgt := 8) hx hb dX9_term_97 (by decide) ?_
      exact hc8 _ h _ _ _ hP hD hS (lv_sub hl [1] rfl)
    have B42 : ∀ (mo : OB) (H : Heap) (locs : List Loc) (ls : Array Slot), b_X9_term_42 F k8 mo = some res → va_P D vwCl (moW k va mo) H → va_D A (moW k va mo) → va_S A s.heap H locs → lv_has ls 2 [(0, .ref (va 0))] → W p l e (rmK 7 0 0) s m (List.toArray [.ref (va 0)]) below meth c H locs 0 0 (MQ below (va_Qv (fun (_ : Unit) => True) (hcB D (fun _ : Unit => moW k va res) A) A) (List.toArray [.ref (va 0)]) s 0 0 A) (F0 m 42 ls []) := by
      intro mo H locs ls h hP hD hS hl
      refine lv_aload_n hx hb dX9_term_42 rfl (lv_at hl 0 rfl) ?_
      refine fw_Vi (As := []) (rest := []) (n := 0) (wr := []) (rv := fun b : Int32 => b) (wp := fun b : Int32 => moW k va mo) h hx hb hml hown hts hG hA hP hD hS hl.1 (List.range (moW k va mo).length) [] (fun q hq9 => c_X9_sign l D k _  va F  mo  hq9) (ci := 7) (q0 := 0) rfl rfl gX9_term_X9_sign rfl ⟨rfl, rfl, Nat.le_of_ble_eq_true rfl, Nat.le_of_ble_eq_true rfl⟩ (by decide +kernel) (al_C _) rfl (al_n _) ⟨rfl, rfl, Nat.le_of_ble_eq_true rfl, Nat.le_of_ble_eq_true rfl, Nat.le_of_ble_eq_true rfl⟩ dX9_term_43 (fun q4 H locs h hP hD hS => ?_)
      obtain ⟨hP, hD⟩ := cv (w' := moW k va mo) hP hD rfl
      refine hc_is (z := q4) rfl ?_
      refine lv_bipush (v := 42) hx hb dX9_term_46 (by decide) ?_
      refine lv_icmp_ne (tgt := 56) hx hb dX9_term_48 (by decide) (fun c5 => ?_) (fun c5 => ?_)
      · have h := fw_f c5 h
        refine lv_aload_n hx hb dX9_term_56 rfl (lv_at hl 0 rfl) ?_
        refine fw_Vi (As := []) (rest := []) (n := 0) (wr := []) (rv := fun b : Int32 => b) (wp := fun b : Int32 => moW k va mo) h hx hb hml hown hts hG hA hP hD hS hl.1 (List.range (moW k va mo).length) [] (fun q hq9 => c_X9_sign l D k _  va F  mo  hq9) (ci := 7) (q0 := 0) rfl rfl gX9_term_X9_sign rfl ⟨rfl, rfl, Nat.le_of_ble_eq_true rfl, Nat.le_of_ble_eq_true rfl⟩ (by decide +kernel) (al_C _) rfl (al_n _) ⟨rfl, rfl, Nat.le_of_ble_eq_true rfl, Nat.le_of_ble_eq_true rfl, Nat.le_of_ble_eq_true rfl⟩ dX9_term_57 (fun q6 H locs h hP hD hS => ?_)
        obtain ⟨hP, hD⟩ := cv (w' := moW k va mo) hP hD rfl
        refine hc_is (z := q6) rfl ?_
        refine lv_bipush (v := 47) hx hb dX9_term_60 (by decide) ?_
        refine lv_icmp_ne (tgt := 70) hx hb dX9_term_62 (by decide) (fun c7 => ?_) (fun c7 => ?_)
        · have h := fw_f c7 h
          refine lv_bipush (v := 15) hx hb dX9_term_70 (by decide) ?_
          exact B72 _ _ _ _ _ h hP hD hS hl
        · have h := fw_t c7 h
          refine lv_bipush (v := 14) hx hb dX9_term_65 (by decide) ?_
          refine lv_goto (tgt := 72) hx hb dX9_term_67 (by decide) ?_
          exact B72 _ _ _ _ _ h hP hD hS hl
      · have h := fw_t c5 h
        refine lv_bipush (v := 13) hx hb dX9_term_51 (by decide) ?_
        refine lv_goto (tgt := 72) hx hb dX9_term_53 (by decide) ?_
        exact B72 _ _ _ _ _ h hP hD hS hl
    refine lv_aload_n hx hb dX9_term_8 rfl (lv_at hl 0 rfl) ?_
    refine va_get (D := D) (ci := 7) (v := .int (a8.1 20)) (C := RX9) (T := TX9) (N := 53) hx hb hts in9 hown hG.1 hP 0 rfl rfl 20 (by decide) (hts (.fieldLink RX9 161 "ChairCaneModel" "fault" "I") (mem_b bq_wsX9_term 0 0 rfl)) (fun _ h9 => h9) rfl dX9_term_9 ?_
    refine lv_if_ne (tgt := 100) hx hb dX9_term_12 (by decide) (fun c8 => ?_) (fun c8 => ?_)
    · have h := fw_f c8 h
      exact B100 _ _ _ _ h hP hD hS (lv_sub hl [] rfl)
    · have h := fw_t c8 h
      refine lv_aload_n hx hb dX9_term_15 rfl (lv_at hl 0 rfl) ?_
      refine fw_Vi (As := []) (rest := []) (n := 0) (wr := []) (rv := fun b : Int32 => b) (wp := fun b : Int32 => moW k va a8) h hx hb hml hown hts hG hA hP hD hS hl.1 (List.range (moW k va a8).length) [] (fun q hq9 => c_X9_sign l D k _  va F  a8  hq9) (ci := 7) (q0 := 0) rfl rfl gX9_term_X9_sign rfl ⟨rfl, rfl, Nat.le_of_ble_eq_true rfl, Nat.le_of_ble_eq_true rfl⟩ (by decide +kernel) (al_C _) rfl (al_n _) ⟨rfl, rfl, Nat.le_of_ble_eq_true rfl, Nat.le_of_ble_eq_true rfl, Nat.le_of_ble_eq_true rfl⟩ dX9_term_16 (fun q9 H locs h hP hD hS => ?_)
      obtain ⟨hP, hD⟩ := cv (w' := moW k va a8) hP hD rfl
      refine hc_is (z := q9) rfl ?_
      refine lv_bipush (v := 42) hx hb dX9_term_19 (by decide) ?_
      refine lv_icmp_eq (tgt := 42) hx hb dX9_term_21 (by decide) (fun c10 => ?_) (fun c10 => ?_)
      · have h := fw_t c10 h
        exact B42 _ _ _ _ h hP hD hS hl
      · have h := fw_f c10 h
        refine lv_aload_n hx hb dX9_term_24 rfl (lv_at hl 0 rfl) ?_
        refine fw_Vi (As := []) (rest := []) (n := 0) (wr := []) (rv := fun b : Int32 => b) (wp := fun b : Int32 => moW k va a8) h hx hb hml hown hts hG hA hP hD hS hl.1 (List.range (moW k va a8).length) [] (fun q hq9 => c_X9_sign l D k _  va F  a8  hq9) (ci := 7) (q0 := 0) rfl rfl gX9_term_X9_sign rfl ⟨rfl, rfl, Nat.le_of_ble_eq_true rfl, Nat.le_of_ble_eq_true rfl⟩ (by decide +kernel) (al_C _) rfl (al_n _) ⟨rfl, rfl, Nat.le_of_ble_eq_true rfl, Nat.le_of_ble_eq_true rfl, Nat.le_of_ble_eq_true rfl⟩ dX9_term_25 (fun q11 H locs h hP hD hS => ?_)
        obtain ⟨hP, hD⟩ := cv (w' := moW k va a8) hP hD rfl
        refine hc_is (z := q11) rfl ?_
        refine lv_bipush (v := 47) hx hb dX9_term_28 (by decide) ?_
        refine lv_icmp_eq (tgt := 42) hx hb dX9_term_30 (by decide) (fun c12 => ?_) (fun c12 => ?_)
        · have h := fw_t c12 h
          exact B42 _ _ _ _ h hP hD hS hl
        · have h := fw_f c12 h
          refine lv_aload_n hx hb dX9_term_33 rfl (lv_at hl 0 rfl) ?_
          refine fw_Vi (As := []) (rest := []) (n := 0) (wr := []) (rv := fun b : Int32 => b) (wp := fun b : Int32 => moW k va a8) h hx hb hml hown hts hG hA hP hD hS hl.1 (List.range (moW k va a8).length) [] (fun q hq9 => c_X9_sign l D k _  va F  a8  hq9) (ci := 7) (q0 := 0) rfl rfl gX9_term_X9_sign rfl ⟨rfl, rfl, Nat.le_of_ble_eq_true rfl, Nat.le_of_ble_eq_true rfl⟩ (by decide +kernel) (al_C _) rfl (al_n _) ⟨rfl, rfl, Nat.le_of_ble_eq_true rfl, Nat.le_of_ble_eq_true rfl, Nat.le_of_ble_eq_true rfl⟩ dX9_term_34 (fun q13 H locs h hP hD hS => ?_)
          obtain ⟨hP, hD⟩ := cv (w' := moW k va a8) hP hD rfl
          refine hc_is (z := q13) rfl ?_
          refine lv_bipush (v := 37) hx hb dX9_term_37 (by decide) ?_
          refine lv_icmp_ne (tgt := 100) hx hb dX9_term_39 (by decide) (fun c14 => ?_) (fun c14 => ?_)
          · have h := fw_f c14 h
            exact B100 _ _ _ _ h hP hD hS (lv_sub hl [] rfl)
          · have h := fw_t c14 h
            exact B42 _ _ _ _ h hP hD hS hl
  have C8 : ∀ (mo : OB), lp (b_X9_term_8 F) F (mo) = some res → ∀ (H : Heap) (locs : List Loc) (ls : Array Slot), va_P D vwCl (moW k va mo) H → va_D A (moW k va mo) → va_S A s.heap H locs → lv_has ls 2 [(0, .ref (va 0))] → W p l e (rmK 7 0 0) s m (List.toArray [.ref (va 0)]) below meth c H locs 0 0 (MQ below (va_Qv (fun (_ : Unit) => True) (hcB D (fun _ : Unit => moW k va res) A) A) (List.toArray [.ref (va 0)]) s 0 0 A) (F0 m 8 ls []) := fun mo => B8 (mo)
  refine lv_aload_n hx hb dX9_term_0 rfl (lv_at hl 0 rfl) ?_
  refine fw_VvE (As := []) (rest := []) (n := 0) (wr := []) (wp := fun b : OB => moW k va b) h (EY.ok ad tv) hE hx hb hml hown hts hG hA hP hD hS hl.1 (List.range (moW k va mo).length) [] (fun q hq9 => c_X9_value l D k _ ad tv va F  mo  hq9) (va_recv hG.1 hP (ci := 7) (q0 := 0) rfl rfl) gX9_term_X9_value rfl ⟨rfl, rfl, Nat.le_of_ble_eq_true rfl, Nat.le_of_ble_eq_true rfl⟩ (by decide +kernel) (al_C _) rfl (al_n _) ⟨rfl, rfl, Nat.le_of_ble_eq_true rfl, Nat.le_of_ble_eq_true rfl, Nat.le_of_ble_eq_true rfl⟩ dX9_term_1 (fun q15 H locs h hP hD hS => ?_)
  obtain ⟨hP, hD⟩ := cv (w' := moW k va q15) hP hD rfl
  refine lv_aload_n hx hb dX9_term_4 rfl (lv_at hl 0 rfl) ?_
  refine fw_Vv (As := []) (rest := []) (n := 0) (wr := []) (wp := fun b : OB => moW k va b) h hx hb hml hown hts hG hA hP hD hS hl.1 (List.range (moW k va q15).length) [] (fun q hq9 => c_X9_blanks l D k _  va F  q15  hq9) (ci := 7) (q0 := 0) rfl rfl gX9_term_X9_blanks rfl ⟨rfl, rfl, Nat.le_of_ble_eq_true rfl, Nat.le_of_ble_eq_true rfl⟩ (by decide +kernel) (al_C _) rfl (al_n _) ⟨rfl, rfl, Nat.le_of_ble_eq_true rfl, Nat.le_of_ble_eq_true rfl, Nat.le_of_ble_eq_true rfl⟩ dX9_term_5 (fun q16 H locs h hP hD hS => ?_)
  obtain ⟨hP, hD⟩ := cv (w' := moW k va q16) hP hD rfl
  exact C8 _ h _ _ _ hP hD hS hl
noncomputable def b_X9_sum_67 (F : Nat)    (mo : OB) : Option (OB) :=
  some mo
noncomputable def b_X9_sum_43 (F : Nat)   (k4 : (OB) → Option (OB)) (y0 : Int32) (mo : OB) : Option (OB) :=
  Option.bind (f_X9_term F ((uF mo.1 19 ((mo.1 19) + 1)), mo.2.1, mo.2.2)) (fun q1 => (Option.bind (f_X9_entry F y0 0 q1) (fun q2 => (k4 q2))))
noncomputable def b_X9_sum_29 (F : Nat)   (k4 : (OB) → Option (OB)) (mo : OB) : Option (OB) :=
  Option.bind (f_X9_sign F mo) (fun q3 => (if q3 = 43 then (b_X9_sum_43 F k4 2 mo) else (b_X9_sum_43 F k4 3 mo)))
noncomputable def b_X9_sum_4 (F : Nat)    (k4 : (OB) → Option (OB)) (a4 : (OB)) : Option (OB) :=
  if (a4.1 20) = 0 then (Option.bind (f_X9_sign F a4) (fun q6 => (if q6 = 43 then (b_X9_sum_29 F k4 a4) else (Option.bind (f_X9_sign F a4) (fun q8 => (if q8 = 45 then (b_X9_sum_29 F k4 a4) else (b_X9_sum_67 F a4))))))) else (b_X9_sum_67 F a4)
noncomputable def f_X9_sum (F : Nat)   (mo : OB) : Option (OB) :=
  Option.bind (f_X9_term F mo) (fun q10 => (lp (b_X9_sum_4 F) F q10))
set_option maxHeartbeats 4000000 in
set_option maxRecDepth 100000 in
theorem c_X9_sum (l : Launch) (D : va_G) (k : Nat → ClassId) (sz : Nat) (ad tv : Nat → Nat) (va : Nat → Nat) (F : Nat)   (mo : OB)  {res : OB} (h : f_X9_sum F mo = some res) : CtVE l yX9_sum wsX9_sum (rmK 8 0 0) [.ref (va 0)] D k (EY ad tv) sz (moW k va mo) (fun (_ : Unit) => True) (fun _ : Unit => moW k va res) 0 0 := by
  refine CtVE.mk (cc := cX9_sum) (maxL := 2) (ret := none) (by decide) rfl (Nat.le_of_ble_eq_true rfl) ?_
  intro p e s m below meth c A ls hE E hP hD hS hl
  obtain ⟨hx, hb, hr, hml, hown, hts, hlocks, hin, hG, hA⟩ := E
  have hown : s.vm.findClass RX9 = some m.cls := hown
  have in9 : ∀ w ∈ u_ws RX9 TX9 53, w ∈ wsX9_sum := fun _ h => List.mem_cons_of_mem _ (List.mem_append_right _ h)
  have hl : lv_has ls 2 [(0, .ref (va 0))] := hl
  have B67 : ∀ (mo : OB) (H : Heap) (locs : List Loc) (ls : Array Slot), b_X9_sum_67 F mo = some res → va_P D vwCl (moW k va mo) H → va_D A (moW k va mo) → va_S A s.heap H locs → lv_has ls 2 [] → W p l e (rmK 8 0 0) s m (List.toArray [.ref (va 0)]) below meth c H locs 0 0 (MQ below (va_Qv (fun (_ : Unit) => True) (hcB D (fun _ : Unit => moW k va res) A) A) (List.toArray [.ref (va 0)]) s 0 0 A) (F0 m 67 ls []) := by
    intro mo H locs ls h hP hD hS hl
    exact fw_endV (wp := fun b : OB => moW k va b) hx hb hr hlocks h hP hD hS dX9_sum_67
  have B4 : ∀ a4 : (OB), lp (b_X9_sum_4 F) F a4 = some res → ∀ (H : Heap) (locs : List Loc) (ls : Array Slot), va_P D vwCl (moW k va a4) H → va_D A (moW k va a4) → va_S A s.heap H locs → lv_has ls 2 [(0, .ref (va 0))] → W p l e (rmK 8 0 0) s m (List.toArray [.ref (va 0)]) below meth c H locs 0 0 (MQ below (va_Qv (fun (_ : Unit) => True) (hcB D (fun _ : Unit => moW k va res) A) A) (List.toArray [.ref (va 0)]) s 0 0 A) (F0 m 4 ls []) := by
    refine lp_W ?_ F
    intro k4 hk4 a4 h H locs ls hP hD hS hl
    have hc4 : ∀ (mo : OB), k4 (mo) = some res → ∀ (H : Heap) (locs : List Loc) (ls : Array Slot), va_P D vwCl (moW k va mo) H → va_D A (moW k va mo) → va_S A s.heap H locs → lv_has ls 2 [(0, .ref (va 0))] → W p l e (rmK 8 0 0) s m (List.toArray [.ref (va 0)]) below meth c H locs 0 0 (MQ below (va_Qv (fun (_ : Unit) => True) (hcB D (fun _ : Unit => moW k va res) A) A) (List.toArray [.ref (va 0)]) s 0 0 A) (F0 m 4 ls []) := fun mo => hk4 (mo)
    have B43 : ∀ (y0 : Int32) (mo : OB) (H : Heap) (locs : List Loc) (ls : Array Slot), b_X9_sum_43 F k4 y0 mo = some res → va_P D vwCl (moW k va mo) H → va_D A (moW k va mo) → va_S A s.heap H locs → lv_has ls 2 [(0, .ref (va 0))] → W p l e (rmK 8 0 0) s m (List.toArray [.ref (va 0)]) below meth c H locs 0 0 (MQ below (va_Qv (fun (_ : Unit) => True) (hcB D (fun _ : Unit => moW k va res) A) A) (List.toArray [.ref (va 0)]) s 0 0 A) (F0 m 43 ls [.int y0]) := by
      intro y0 mo H locs ls h hP hD hS hl
      refine lv_istore_n (lv' := [(1, .int y0), (0, .ref (va 0))]) hx hb dX9_sum_43 rfl hl (by decide) rfl (fun ls hl => ?_)
      refine lv_aload_n hx hb dX9_sum_44 rfl (lv_at hl 1 rfl) ?_
      refine lv_dup hx hb dX9_sum_45 rfl ?_
      refine va_get (D := D) (ci := 7) (v := .int (mo.1 19)) (C := RX9) (T := TX9) (N := 53) hx hb hts in9 hown hG.1 hP 0 rfl rfl 19 (by decide) (hts (.fieldLink RX9 164 "ChairCaneModel" "p" "I") (mem_b bq_wsX9_sum 0 1 rfl)) (fun _ h9 => h9) rfl dX9_sum_46 ?_
      refine lv_iconst (v := 1) hx hb dX9_sum_49 (by decide) ?_
      refine lv_iadd hx hb dX9_sum_50 ?_
      refine va_put (D := D) (ci := 7) (v := .int ((mo.1 19) + 1)) (C := RX9) (T := TX9) (N := 53) hx hb hts in9 tyX9 tyX9_ok nmX9 hown hG.1 hP hD hS 0 rfl rfl 19 (by decide) (hts (.fieldLink RX9 164 "ChairCaneModel" "p" "I") (mem_b bq_wsX9_sum 0 1 rfl)) (fun _ h9 => h9) rfl (tyX9_ok 19 (by decide)) rfl rfl (Nat.le_of_ble_eq_true rfl) dX9_sum_51 (fun H locs hP hD hS => ?_)
      refine lv_aload_n hx hb dX9_sum_54 rfl (lv_at hl 1 rfl) ?_
      obtain ⟨hP, hD⟩ := cv (w' := moW k va ((uF mo.1 19 ((mo.1 19) + 1)), mo.2.1, mo.2.2)) hP hD rfl
      refine fw_VvE (As := []) (rest := []) (n := 0) (wr := []) (wp := fun b : OB => moW k va b) h (EY.ok ad tv) hE hx hb hml hown hts hG hA hP hD hS hl.1 (List.range (moW k va ((uF mo.1 19 ((mo.1 19) + 1)), mo.2.1, mo.2.2)).length) [] (fun q hq9 => c_X9_term l D k _ ad tv va F  ((uF mo.1 19 ((mo.1 19) + 1)), mo.2.1, mo.2.2)  hq9) (va_recv hG.1 hP (ci := 7) (q0 := 0) rfl rfl) gX9_sum_X9_term rfl ⟨rfl, rfl, Nat.le_of_ble_eq_true rfl, Nat.le_of_ble_eq_true rfl⟩ (by decide +kernel) (al_C _) rfl (al_n _) ⟨rfl, rfl, Nat.le_of_ble_eq_true rfl, Nat.le_of_ble_eq_true rfl, Nat.le_of_ble_eq_true rfl⟩ dX9_sum_55 (fun q1 H locs h hP hD hS => ?_)
      obtain ⟨hP, hD⟩ := cv (w' := moW k va q1) hP hD rfl
      refine lv_aload_n hx hb dX9_sum_58 rfl (lv_at hl 1 rfl) ?_
      refine lv_iload_n hx hb dX9_sum_59 rfl (lv_at hl 0 rfl) ?_
      refine lv_iconst (v := 0) hx hb dX9_sum_60 (by decide) ?_
      refine fw_Vv (As := [.int y0, .int 0]) (rest := []) (n := 2) (wr := []) (wp := fun b : OB => moW k va b) h hx hb hml hown hts hG hA hP hD hS hl.1 (List.range (moW k va q1).length) [] (fun q hq9 => c_X9_entry l D k _  va F y0 0 q1  hq9) (ci := 7) (q0 := 0) rfl rfl gX9_sum_X9_entry rfl ⟨rfl, rfl, Nat.le_of_ble_eq_true rfl, Nat.le_of_ble_eq_true rfl⟩ (by decide +kernel) (al_C _) rfl (al_n _) ⟨rfl, rfl, Nat.le_of_ble_eq_true rfl, Nat.le_of_ble_eq_true rfl, Nat.le_of_ble_eq_true rfl⟩ dX9_sum_61 (fun q2 H locs h hP hD hS => ?_)
      obtain ⟨hP, hD⟩ := cv (w' := moW k va q2) hP hD rfl
      refine lv_goto (tgt := 4) hx hb dX9_sum_64 (by decide) ?_
      exact hc4 _ h _ _ _ hP hD hS (lv_sub hl [1] rfl)
    have B29 : ∀ (mo : OB) (H : Heap) (locs : List Loc) (ls : Array Slot), b_X9_sum_29 F k4 mo = some res → va_P D vwCl (moW k va mo) H → va_D A (moW k va mo) → va_S A s.heap H locs → lv_has ls 2 [(0, .ref (va 0))] → W p l e (rmK 8 0 0) s m (List.toArray [.ref (va 0)]) below meth c H locs 0 0 (MQ below (va_Qv (fun (_ : Unit) => True) (hcB D (fun _ : Unit => moW k va res) A) A) (List.toArray [.ref (va 0)]) s 0 0 A) (F0 m 29 ls []) := by
      intro mo H locs ls h hP hD hS hl
      refine lv_aload_n hx hb dX9_sum_29 rfl (lv_at hl 0 rfl) ?_
      refine fw_Vi (As := []) (rest := []) (n := 0) (wr := []) (rv := fun b : Int32 => b) (wp := fun b : Int32 => moW k va mo) h hx hb hml hown hts hG hA hP hD hS hl.1 (List.range (moW k va mo).length) [] (fun q hq9 => c_X9_sign l D k _  va F  mo  hq9) (ci := 7) (q0 := 0) rfl rfl gX9_sum_X9_sign rfl ⟨rfl, rfl, Nat.le_of_ble_eq_true rfl, Nat.le_of_ble_eq_true rfl⟩ (by decide +kernel) (al_C _) rfl (al_n _) ⟨rfl, rfl, Nat.le_of_ble_eq_true rfl, Nat.le_of_ble_eq_true rfl, Nat.le_of_ble_eq_true rfl⟩ dX9_sum_30 (fun q3 H locs h hP hD hS => ?_)
      obtain ⟨hP, hD⟩ := cv (w' := moW k va mo) hP hD rfl
      refine hc_is (z := q3) rfl ?_
      refine lv_bipush (v := 43) hx hb dX9_sum_33 (by decide) ?_
      refine lv_icmp_ne (tgt := 42) hx hb dX9_sum_35 (by decide) (fun c4 => ?_) (fun c4 => ?_)
      · have h := fw_f c4 h
        refine lv_iconst (v := 3) hx hb dX9_sum_42 (by decide) ?_
        exact B43 _ _ _ _ _ h hP hD hS hl
      · have h := fw_t c4 h
        refine lv_iconst (v := 2) hx hb dX9_sum_38 (by decide) ?_
        refine lv_goto (tgt := 43) hx hb dX9_sum_39 (by decide) ?_
        exact B43 _ _ _ _ _ h hP hD hS hl
    refine lv_aload_n hx hb dX9_sum_4 rfl (lv_at hl 0 rfl) ?_
    refine va_get (D := D) (ci := 7) (v := .int (a4.1 20)) (C := RX9) (T := TX9) (N := 53) hx hb hts in9 hown hG.1 hP 0 rfl rfl 20 (by decide) (hts (.fieldLink RX9 161 "ChairCaneModel" "fault" "I") (mem_b bq_wsX9_sum 0 0 rfl)) (fun _ h9 => h9) rfl dX9_sum_5 ?_
    refine lv_if_ne (tgt := 67) hx hb dX9_sum_8 (by decide) (fun c5 => ?_) (fun c5 => ?_)
    · have h := fw_f c5 h
      exact B67 _ _ _ _ h hP hD hS (lv_sub hl [] rfl)
    · have h := fw_t c5 h
      refine lv_aload_n hx hb dX9_sum_11 rfl (lv_at hl 0 rfl) ?_
      refine fw_Vi (As := []) (rest := []) (n := 0) (wr := []) (rv := fun b : Int32 => b) (wp := fun b : Int32 => moW k va a4) h hx hb hml hown hts hG hA hP hD hS hl.1 (List.range (moW k va a4).length) [] (fun q hq9 => c_X9_sign l D k _  va F  a4  hq9) (ci := 7) (q0 := 0) rfl rfl gX9_sum_X9_sign rfl ⟨rfl, rfl, Nat.le_of_ble_eq_true rfl, Nat.le_of_ble_eq_true rfl⟩ (by decide +kernel) (al_C _) rfl (al_n _) ⟨rfl, rfl, Nat.le_of_ble_eq_true rfl, Nat.le_of_ble_eq_true rfl, Nat.le_of_ble_eq_true rfl⟩ dX9_sum_12 (fun q6 H locs h hP hD hS => ?_)
      obtain ⟨hP, hD⟩ := cv (w' := moW k va a4) hP hD rfl
      refine hc_is (z := q6) rfl ?_
      refine lv_bipush (v := 43) hx hb dX9_sum_15 (by decide) ?_
      refine lv_icmp_eq (tgt := 29) hx hb dX9_sum_17 (by decide) (fun c7 => ?_) (fun c7 => ?_)
      · have h := fw_t c7 h
        exact B29 _ _ _ _ h hP hD hS hl
      · have h := fw_f c7 h
        refine lv_aload_n hx hb dX9_sum_20 rfl (lv_at hl 0 rfl) ?_
        refine fw_Vi (As := []) (rest := []) (n := 0) (wr := []) (rv := fun b : Int32 => b) (wp := fun b : Int32 => moW k va a4) h hx hb hml hown hts hG hA hP hD hS hl.1 (List.range (moW k va a4).length) [] (fun q hq9 => c_X9_sign l D k _  va F  a4  hq9) (ci := 7) (q0 := 0) rfl rfl gX9_sum_X9_sign rfl ⟨rfl, rfl, Nat.le_of_ble_eq_true rfl, Nat.le_of_ble_eq_true rfl⟩ (by decide +kernel) (al_C _) rfl (al_n _) ⟨rfl, rfl, Nat.le_of_ble_eq_true rfl, Nat.le_of_ble_eq_true rfl, Nat.le_of_ble_eq_true rfl⟩ dX9_sum_21 (fun q8 H locs h hP hD hS => ?_)
        obtain ⟨hP, hD⟩ := cv (w' := moW k va a4) hP hD rfl
        refine hc_is (z := q8) rfl ?_
        refine lv_bipush (v := 45) hx hb dX9_sum_24 (by decide) ?_
        refine lv_icmp_ne (tgt := 67) hx hb dX9_sum_26 (by decide) (fun c9 => ?_) (fun c9 => ?_)
        · have h := fw_f c9 h
          exact B67 _ _ _ _ h hP hD hS (lv_sub hl [] rfl)
        · have h := fw_t c9 h
          exact B29 _ _ _ _ h hP hD hS hl
  have C4 : ∀ (mo : OB), lp (b_X9_sum_4 F) F (mo) = some res → ∀ (H : Heap) (locs : List Loc) (ls : Array Slot), va_P D vwCl (moW k va mo) H → va_D A (moW k va mo) → va_S A s.heap H locs → lv_has ls 2 [(0, .ref (va 0))] → W p l e (rmK 8 0 0) s m (List.toArray [.ref (va 0)]) below meth c H locs 0 0 (MQ below (va_Qv (fun (_ : Unit) => True) (hcB D (fun _ : Unit => moW k va res) A) A) (List.toArray [.ref (va 0)]) s 0 0 A) (F0 m 4 ls []) := fun mo => B4 (mo)
  refine lv_aload_n hx hb dX9_sum_0 rfl (lv_at hl 0 rfl) ?_
  refine fw_VvE (As := []) (rest := []) (n := 0) (wr := []) (wp := fun b : OB => moW k va b) h (EY.ok ad tv) hE hx hb hml hown hts hG hA hP hD hS hl.1 (List.range (moW k va mo).length) [] (fun q hq9 => c_X9_term l D k _ ad tv va F  mo  hq9) (va_recv hG.1 hP (ci := 7) (q0 := 0) rfl rfl) gX9_sum_X9_term rfl ⟨rfl, rfl, Nat.le_of_ble_eq_true rfl, Nat.le_of_ble_eq_true rfl⟩ (by decide +kernel) (al_C _) rfl (al_n _) ⟨rfl, rfl, Nat.le_of_ble_eq_true rfl, Nat.le_of_ble_eq_true rfl, Nat.le_of_ble_eq_true rfl⟩ dX9_sum_1 (fun q10 H locs h hP hD hS => ?_)
  obtain ⟨hP, hD⟩ := cv (w' := moW k va q10) hP hD rfl
  exact C4 _ h _ _ _ hP hD hS hl
noncomputable def b_X9_compared_139 (F : Nat)    (y0 : Int32) (mo : OB) : Option (OB) :=
  Option.bind (f_X9_entry F y0 0 mo) (fun q1 => (some q1))
noncomputable def b_X9_compared_90 (F : Nat)    (v1 : Int32) (v2 : Int32) (y0 : Int32) (y1 : Int32) (mo : OB) : Option (OB) :=
  Option.bind (f_X9_sum F ((uF mo.1 19 (y1 + y0)), mo.2.1, mo.2.2)) (fun q2 => (if v1 = 61 then (b_X9_compared_139 F 6 q2) else (if v1 = 60 then (if v2 = 0 then (b_X9_compared_139 F 4 q2) else (b_X9_compared_139 F 5 q2)) else (if v2 = 0 then (b_X9_compared_139 F 8 q2) else (b_X9_compared_139 F 7 q2)))))
noncomputable def b_X9_compared_75 (F : Nat)    (v1 : Int32) (y0 : Int32) (mo : OB) : Option (OB) :=
  if y0 = 0 then (b_X9_compared_90 F v1 y0 0 (mo.1 19) mo) else (b_X9_compared_90 F v1 y0 1 (mo.1 19) mo)
noncomputable def b_X9_compared_74 (F : Nat)    (v1 : Int32) (mo : OB) : Option (OB) :=
  b_X9_compared_75 F v1 0 mo
noncomputable def b_X9_compared_37 (F : Nat)    (v1 : Int32) (mo : OB) : Option (OB) :=
  Option.bind (f_X9_isCounted F (mo.1 19) mo) (fun q8 => (if v1 = 61 then (b_X9_compared_74 F v1 ((uF q8.1 19 ((q8.1 19) + 1)), q8.2.1, q8.2.2)) else (Option.bind (f_X9_sign F ((uF q8.1 19 ((q8.1 19) + 1)), q8.2.1, q8.2.2)) (fun q10 => (if q10 = 61 then (b_X9_compared_75 F v1 1 ((uF q8.1 19 ((q8.1 19) + 1)), q8.2.1, q8.2.2)) else (b_X9_compared_74 F v1 ((uF q8.1 19 ((q8.1 19) + 1)), q8.2.1, q8.2.2)))))))
noncomputable def f_X9_compared (F : Nat)   (mo : OB) : Option (OB) :=
  Option.bind (f_X9_sum F mo) (fun q12 => (Option.bind (f_X9_sign F q12) (fun q13 => (if q13 = 60 then (b_X9_compared_37 F q13 q12) else (if q13 = 61 then (b_X9_compared_37 F q13 q12) else (if q13 = 62 then (b_X9_compared_37 F q13 q12) else (Option.bind (f_X9_fails F 0 (q12.1 19) q12) (fun q17 => (some q17)))))))))
set_option maxHeartbeats 4000000 in
set_option maxRecDepth 100000 in
theorem c_X9_compared (l : Launch) (D : va_G) (k : Nat → ClassId) (sz : Nat) (ad tv : Nat → Nat) (va : Nat → Nat) (F : Nat)   (mo : OB)  {res : OB} (h : f_X9_compared F mo = some res) : CtVE l yX9_compared wsX9_compared (rmK 9 0 0) [.ref (va 0)] D k (EY ad tv) sz (moW k va mo) (fun (_ : Unit) => True) (fun _ : Unit => moW k va res) 0 0 := by
  refine CtVE.mk (cc := cX9_compared) (maxL := 3) (ret := none) (by decide) rfl (Nat.le_of_ble_eq_true rfl) ?_
  intro p e s m below meth c A ls hE E hP hD hS hl
  obtain ⟨hx, hb, hr, hml, hown, hts, hlocks, hin, hG, hA⟩ := E
  have hown : s.vm.findClass RX9 = some m.cls := hown
  have in9 : ∀ w ∈ u_ws RX9 TX9 53, w ∈ wsX9_compared := fun _ h => List.mem_cons_of_mem _ (List.mem_append_right _ h)
  have hl : lv_has ls 3 [(0, .ref (va 0))] := hl
  have B139 : ∀ (y0 : Int32) (mo : OB) (H : Heap) (locs : List Loc) (ls : Array Slot), b_X9_compared_139 F y0 mo = some res → va_P D vwCl (moW k va mo) H → va_D A (moW k va mo) → va_S A s.heap H locs → lv_has ls 3 [] → W p l e (rmK 9 0 0) s m (List.toArray [.ref (va 0)]) below meth c H locs 0 0 (MQ below (va_Qv (fun (_ : Unit) => True) (hcB D (fun _ : Unit => moW k va res) A) A) (List.toArray [.ref (va 0)]) s 0 0 A) (F0 m 139 ls [.int y0, .ref (va 0)]) := by
    intro y0 mo H locs ls h hP hD hS hl
    refine lv_iconst (v := 0) hx hb dX9_compared_139 (by decide) ?_
    refine fw_Vv (As := [.int y0, .int 0]) (rest := []) (n := 2) (wr := []) (wp := fun b : OB => moW k va b) h hx hb hml hown hts hG hA hP hD hS hl.1 (List.range (moW k va mo).length) [] (fun q hq9 => c_X9_entry l D k _  va F y0 0 mo  hq9) (ci := 7) (q0 := 0) rfl rfl gX9_compared_X9_entry rfl ⟨rfl, rfl, Nat.le_of_ble_eq_true rfl, Nat.le_of_ble_eq_true rfl⟩ (by decide +kernel) (al_C _) rfl (al_n _) ⟨rfl, rfl, Nat.le_of_ble_eq_true rfl, Nat.le_of_ble_eq_true rfl, Nat.le_of_ble_eq_true rfl⟩ dX9_compared_140 (fun q1 H locs h hP hD hS => ?_)
    obtain ⟨hP, hD⟩ := cv (w' := moW k va q1) hP hD rfl
    exact fw_endV (wp := fun b : OB => moW k va b) hx hb hr hlocks h hP hD hS dX9_compared_143
  have B90 : ∀ (v1 : Int32) (v2 : Int32) (y0 : Int32) (y1 : Int32) (mo : OB) (H : Heap) (locs : List Loc) (ls : Array Slot), b_X9_compared_90 F v1 v2 y0 y1 mo = some res → va_P D vwCl (moW k va mo) H → va_D A (moW k va mo) → va_S A s.heap H locs → lv_has ls 3 [(0, .ref (va 0)), (1, .int v1), (2, .int v2)] → W p l e (rmK 9 0 0) s m (List.toArray [.ref (va 0)]) below meth c H locs 0 0 (MQ below (va_Qv (fun (_ : Unit) => True) (hcB D (fun _ : Unit => moW k va res) A) A) (List.toArray [.ref (va 0)]) s 0 0 A) (F0 m 90 ls [.int y0, .int y1, .ref (va 0)]) := by
    intro v1 v2 y0 y1 mo H locs ls h hP hD hS hl
    refine lv_iadd hx hb dX9_compared_90 ?_
    refine va_put (D := D) (ci := 7) (v := .int (y1 + y0)) (C := RX9) (T := TX9) (N := 53) hx hb hts in9 tyX9 tyX9_ok nmX9 hown hG.1 hP hD hS 0 rfl rfl 19 (by decide) (hts (.fieldLink RX9 164 "ChairCaneModel" "p" "I") (mem_b bq_wsX9_compared 0 0 rfl)) (fun _ h9 => h9) rfl (tyX9_ok 19 (by decide)) rfl rfl (Nat.le_of_ble_eq_true rfl) dX9_compared_91 (fun H locs hP hD hS => ?_)
    refine lv_aload_n hx hb dX9_compared_94 rfl (lv_at hl 0 rfl) ?_
    obtain ⟨hP, hD⟩ := cv (w' := moW k va ((uF mo.1 19 (y1 + y0)), mo.2.1, mo.2.2)) hP hD rfl
    refine fw_VvE (As := []) (rest := []) (n := 0) (wr := []) (wp := fun b : OB => moW k va b) h (EY.ok ad tv) hE hx hb hml hown hts hG hA hP hD hS hl.1 (List.range (moW k va ((uF mo.1 19 (y1 + y0)), mo.2.1, mo.2.2)).length) [] (fun q hq9 => c_X9_sum l D k _ ad tv va F  ((uF mo.1 19 (y1 + y0)), mo.2.1, mo.2.2)  hq9) (va_recv hG.1 hP (ci := 7) (q0 := 0) rfl rfl) gX9_compared_X9_sum rfl ⟨rfl, rfl, Nat.le_of_ble_eq_true rfl, Nat.le_of_ble_eq_true rfl⟩ (by decide +kernel) (al_C _) rfl (al_n _) ⟨rfl, rfl, Nat.le_of_ble_eq_true rfl, Nat.le_of_ble_eq_true rfl, Nat.le_of_ble_eq_true rfl⟩ dX9_compared_95 (fun q2 H locs h hP hD hS => ?_)
    obtain ⟨hP, hD⟩ := cv (w' := moW k va q2) hP hD rfl
    refine lv_aload_n hx hb dX9_compared_98 rfl (lv_at hl 0 rfl) ?_
    refine lv_iload_n hx hb dX9_compared_99 rfl (lv_at hl 1 rfl) ?_
    refine lv_bipush (v := 61) hx hb dX9_compared_100 (by decide) ?_
    refine lv_icmp_ne (tgt := 110) hx hb dX9_compared_102 (by decide) (fun c3 => ?_) (fun c3 => ?_)
    · have h := fw_f c3 h
      refine lv_iload_n hx hb dX9_compared_110 rfl (lv_at hl 1 rfl) ?_
      refine lv_bipush (v := 60) hx hb dX9_compared_111 (by decide) ?_
      refine lv_icmp_ne (tgt := 128) hx hb dX9_compared_113 (by decide) (fun c4 => ?_) (fun c4 => ?_)
      · have h := fw_f c4 h
        refine lv_iload_n hx hb dX9_compared_128 rfl (lv_at hl 2 rfl) ?_
        refine lv_if_eq (tgt := 137) hx hb dX9_compared_129 (by decide) (fun c5 => ?_) (fun c5 => ?_)
        · have h := fw_t c5 h
          refine lv_bipush (v := 8) hx hb dX9_compared_137 (by decide) ?_
          exact B139 _ _ _ _ _ h hP hD hS (lv_sub hl [] rfl)
        · have h := fw_f c5 h
          refine lv_bipush (v := 7) hx hb dX9_compared_132 (by decide) ?_
          refine lv_goto (tgt := 139) hx hb dX9_compared_134 (by decide) ?_
          exact B139 _ _ _ _ _ h hP hD hS (lv_sub hl [] rfl)
      · have h := fw_t c4 h
        refine lv_iload_n hx hb dX9_compared_116 rfl (lv_at hl 2 rfl) ?_
        refine lv_if_eq (tgt := 124) hx hb dX9_compared_117 (by decide) (fun c6 => ?_) (fun c6 => ?_)
        · have h := fw_t c6 h
          refine lv_iconst (v := 4) hx hb dX9_compared_124 (by decide) ?_
          refine lv_goto (tgt := 139) hx hb dX9_compared_125 (by decide) ?_
          exact B139 _ _ _ _ _ h hP hD hS (lv_sub hl [] rfl)
        · have h := fw_f c6 h
          refine lv_iconst (v := 5) hx hb dX9_compared_120 (by decide) ?_
          refine lv_goto (tgt := 139) hx hb dX9_compared_121 (by decide) ?_
          exact B139 _ _ _ _ _ h hP hD hS (lv_sub hl [] rfl)
    · have h := fw_t c3 h
      refine lv_bipush (v := 6) hx hb dX9_compared_105 (by decide) ?_
      refine lv_goto (tgt := 139) hx hb dX9_compared_107 (by decide) ?_
      exact B139 _ _ _ _ _ h hP hD hS (lv_sub hl [] rfl)
  have B75 : ∀ (v1 : Int32) (y0 : Int32) (mo : OB) (H : Heap) (locs : List Loc) (ls : Array Slot), b_X9_compared_75 F v1 y0 mo = some res → va_P D vwCl (moW k va mo) H → va_D A (moW k va mo) → va_S A s.heap H locs → lv_has ls 3 [(0, .ref (va 0)), (1, .int v1)] → W p l e (rmK 9 0 0) s m (List.toArray [.ref (va 0)]) below meth c H locs 0 0 (MQ below (va_Qv (fun (_ : Unit) => True) (hcB D (fun _ : Unit => moW k va res) A) A) (List.toArray [.ref (va 0)]) s 0 0 A) (F0 m 75 ls [.int y0]) := by
    intro v1 y0 mo H locs ls h hP hD hS hl
    refine lv_istore_n (lv' := [(2, .int y0), (0, .ref (va 0)), (1, .int v1)]) hx hb dX9_compared_75 rfl hl (by decide) rfl (fun ls hl => ?_)
    refine lv_aload_n hx hb dX9_compared_76 rfl (lv_at hl 1 rfl) ?_
    refine lv_dup hx hb dX9_compared_77 rfl ?_
    refine va_get (D := D) (ci := 7) (v := .int (mo.1 19)) (C := RX9) (T := TX9) (N := 53) hx hb hts in9 hown hG.1 hP 0 rfl rfl 19 (by decide) (hts (.fieldLink RX9 164 "ChairCaneModel" "p" "I") (mem_b bq_wsX9_compared 0 0 rfl)) (fun _ h9 => h9) rfl dX9_compared_78 ?_
    refine lv_iload_n hx hb dX9_compared_81 rfl (lv_at hl 0 rfl) ?_
    refine lv_if_eq (tgt := 89) hx hb dX9_compared_82 (by decide) (fun c7 => ?_) (fun c7 => ?_)
    · have h := fw_t c7 h
      refine lv_iconst (v := 0) hx hb dX9_compared_89 (by decide) ?_
      exact B90 _ _ _ _ _ _ _ _ h hP hD hS (lv_sub hl [1, 2, 0] rfl)
    · have h := fw_f c7 h
      refine lv_iconst (v := 1) hx hb dX9_compared_85 (by decide) ?_
      refine lv_goto (tgt := 90) hx hb dX9_compared_86 (by decide) ?_
      exact B90 _ _ _ _ _ _ _ _ h hP hD hS (lv_sub hl [1, 2, 0] rfl)
  have B74 : ∀ (v1 : Int32) (mo : OB) (H : Heap) (locs : List Loc) (ls : Array Slot), b_X9_compared_74 F v1 mo = some res → va_P D vwCl (moW k va mo) H → va_D A (moW k va mo) → va_S A s.heap H locs → lv_has ls 3 [(0, .ref (va 0)), (1, .int v1)] → W p l e (rmK 9 0 0) s m (List.toArray [.ref (va 0)]) below meth c H locs 0 0 (MQ below (va_Qv (fun (_ : Unit) => True) (hcB D (fun _ : Unit => moW k va res) A) A) (List.toArray [.ref (va 0)]) s 0 0 A) (F0 m 74 ls []) := by
    intro v1 mo H locs ls h hP hD hS hl
    refine lv_iconst (v := 0) hx hb dX9_compared_74 (by decide) ?_
    exact B75 _ _ _ _ _ _ h hP hD hS hl
  have B37 : ∀ (v1 : Int32) (mo : OB) (H : Heap) (locs : List Loc) (ls : Array Slot), b_X9_compared_37 F v1 mo = some res → va_P D vwCl (moW k va mo) H → va_D A (moW k va mo) → va_S A s.heap H locs → lv_has ls 3 [(0, .ref (va 0)), (1, .int v1)] → W p l e (rmK 9 0 0) s m (List.toArray [.ref (va 0)]) below meth c H locs 0 0 (MQ below (va_Qv (fun (_ : Unit) => True) (hcB D (fun _ : Unit => moW k va res) A) A) (List.toArray [.ref (va 0)]) s 0 0 A) (F0 m 37 ls []) := by
    intro v1 mo H locs ls h hP hD hS hl
    refine lv_aload_n hx hb dX9_compared_37 rfl (lv_at hl 0 rfl) ?_
    refine lv_aload_n hx hb dX9_compared_38 rfl (lv_at hl 0 rfl) ?_
    refine va_get (D := D) (ci := 7) (v := .int (mo.1 19)) (C := RX9) (T := TX9) (N := 53) hx hb hts in9 hown hG.1 hP 0 rfl rfl 19 (by decide) (hts (.fieldLink RX9 164 "ChairCaneModel" "p" "I") (mem_b bq_wsX9_compared 0 0 rfl)) (fun _ h9 => h9) rfl dX9_compared_39 ?_
    refine fw_Vv (As := [.int (mo.1 19)]) (rest := []) (n := 1) (wr := []) (wp := fun b : OB => moW k va b) h hx hb hml hown hts hG hA hP hD hS hl.1 (List.range (moW k va mo).length) [] (fun q hq9 => c_X9_isCounted l D k _  va F (mo.1 19) mo  hq9) (ci := 7) (q0 := 0) rfl rfl gX9_compared_X9_isCounted rfl ⟨rfl, rfl, Nat.le_of_ble_eq_true rfl, Nat.le_of_ble_eq_true rfl⟩ (by decide +kernel) (al_C _) rfl (al_n _) ⟨rfl, rfl, Nat.le_of_ble_eq_true rfl, Nat.le_of_ble_eq_true rfl, Nat.le_of_ble_eq_true rfl⟩ dX9_compared_42 (fun q8 H locs h hP hD hS => ?_)
    obtain ⟨hP, hD⟩ := cv (w' := moW k va q8) hP hD rfl
    refine lv_aload_n hx hb dX9_compared_45 rfl (lv_at hl 0 rfl) ?_
    refine lv_dup hx hb dX9_compared_46 rfl ?_
    refine va_get (D := D) (ci := 7) (v := .int (q8.1 19)) (C := RX9) (T := TX9) (N := 53) hx hb hts in9 hown hG.1 hP 0 rfl rfl 19 (by decide) (hts (.fieldLink RX9 164 "ChairCaneModel" "p" "I") (mem_b bq_wsX9_compared 0 0 rfl)) (fun _ h9 => h9) rfl dX9_compared_47 ?_
    refine lv_iconst (v := 1) hx hb dX9_compared_50 (by decide) ?_
    refine lv_iadd hx hb dX9_compared_51 ?_
    refine va_put (D := D) (ci := 7) (v := .int ((q8.1 19) + 1)) (C := RX9) (T := TX9) (N := 53) hx hb hts in9 tyX9 tyX9_ok nmX9 hown hG.1 hP hD hS 0 rfl rfl 19 (by decide) (hts (.fieldLink RX9 164 "ChairCaneModel" "p" "I") (mem_b bq_wsX9_compared 0 0 rfl)) (fun _ h9 => h9) rfl (tyX9_ok 19 (by decide)) rfl rfl (Nat.le_of_ble_eq_true rfl) dX9_compared_52 (fun H locs hP hD hS => ?_)
    refine lv_iload_n hx hb dX9_compared_55 rfl (lv_at hl 1 rfl) ?_
    refine lv_bipush (v := 61) hx hb dX9_compared_56 (by decide) ?_
    refine lv_icmp_eq (tgt := 74) hx hb dX9_compared_58 (by decide) (fun c9 => ?_) (fun c9 => ?_)
    · have h := fw_t c9 h
      exact B74 _ _ _ _ _ h hP hD hS hl
    · have h := fw_f c9 h
      refine lv_aload_n hx hb dX9_compared_61 rfl (lv_at hl 0 rfl) ?_
      obtain ⟨hP, hD⟩ := cv (w' := moW k va ((uF q8.1 19 ((q8.1 19) + 1)), q8.2.1, q8.2.2)) hP hD rfl
      refine fw_Vi (As := []) (rest := []) (n := 0) (wr := []) (rv := fun b : Int32 => b) (wp := fun b : Int32 => moW k va ((uF q8.1 19 ((q8.1 19) + 1)), q8.2.1, q8.2.2)) h hx hb hml hown hts hG hA hP hD hS hl.1 (List.range (moW k va ((uF q8.1 19 ((q8.1 19) + 1)), q8.2.1, q8.2.2)).length) [] (fun q hq9 => c_X9_sign l D k _  va F  ((uF q8.1 19 ((q8.1 19) + 1)), q8.2.1, q8.2.2)  hq9) (ci := 7) (q0 := 0) rfl rfl gX9_compared_X9_sign rfl ⟨rfl, rfl, Nat.le_of_ble_eq_true rfl, Nat.le_of_ble_eq_true rfl⟩ (by decide +kernel) (al_C _) rfl (al_n _) ⟨rfl, rfl, Nat.le_of_ble_eq_true rfl, Nat.le_of_ble_eq_true rfl, Nat.le_of_ble_eq_true rfl⟩ dX9_compared_62 (fun q10 H locs h hP hD hS => ?_)
      obtain ⟨hP, hD⟩ := cv (w' := moW k va ((uF q8.1 19 ((q8.1 19) + 1)), q8.2.1, q8.2.2)) hP hD rfl
      refine hc_is (z := q10) rfl ?_
      refine lv_bipush (v := 61) hx hb dX9_compared_65 (by decide) ?_
      refine lv_icmp_ne (tgt := 74) hx hb dX9_compared_67 (by decide) (fun c11 => ?_) (fun c11 => ?_)
      · have h := fw_f c11 h
        exact B74 _ _ _ _ _ h hP hD hS hl
      · have h := fw_t c11 h
        refine lv_iconst (v := 1) hx hb dX9_compared_70 (by decide) ?_
        refine lv_goto (tgt := 75) hx hb dX9_compared_71 (by decide) ?_
        exact B75 _ _ _ _ _ _ h hP hD hS hl
  refine lv_aload_n hx hb dX9_compared_0 rfl (lv_at hl 0 rfl) ?_
  refine fw_VvE (As := []) (rest := []) (n := 0) (wr := []) (wp := fun b : OB => moW k va b) h (EY.ok ad tv) hE hx hb hml hown hts hG hA hP hD hS hl.1 (List.range (moW k va mo).length) [] (fun q hq9 => c_X9_sum l D k _ ad tv va F  mo  hq9) (va_recv hG.1 hP (ci := 7) (q0 := 0) rfl rfl) gX9_compared_X9_sum rfl ⟨rfl, rfl, Nat.le_of_ble_eq_true rfl, Nat.le_of_ble_eq_true rfl⟩ (by decide +kernel) (al_C _) rfl (al_n _) ⟨rfl, rfl, Nat.le_of_ble_eq_true rfl, Nat.le_of_ble_eq_true rfl, Nat.le_of_ble_eq_true rfl⟩ dX9_compared_1 (fun q12 H locs h hP hD hS => ?_)
  obtain ⟨hP, hD⟩ := cv (w' := moW k va q12) hP hD rfl
  refine lv_aload_n hx hb dX9_compared_4 rfl (lv_at hl 0 rfl) ?_
  refine fw_Vi (As := []) (rest := []) (n := 0) (wr := []) (rv := fun b : Int32 => b) (wp := fun b : Int32 => moW k va q12) h hx hb hml hown hts hG hA hP hD hS hl.1 (List.range (moW k va q12).length) [] (fun q hq9 => c_X9_sign l D k _  va F  q12  hq9) (ci := 7) (q0 := 0) rfl rfl gX9_compared_X9_sign rfl ⟨rfl, rfl, Nat.le_of_ble_eq_true rfl, Nat.le_of_ble_eq_true rfl⟩ (by decide +kernel) (al_C _) rfl (al_n _) ⟨rfl, rfl, Nat.le_of_ble_eq_true rfl, Nat.le_of_ble_eq_true rfl, Nat.le_of_ble_eq_true rfl⟩ dX9_compared_5 (fun q13 H locs h hP hD hS => ?_)
  obtain ⟨hP, hD⟩ := cv (w' := moW k va q12) hP hD rfl
  refine hc_is (z := q13) rfl ?_
  refine lv_istore_n (lv' := [(1, .int q13), (0, .ref (va 0))]) hx hb dX9_compared_8 rfl hl (by decide) rfl (fun ls hl => ?_)
  refine lv_iload_n hx hb dX9_compared_9 rfl (lv_at hl 0 rfl) ?_
  refine lv_bipush (v := 60) hx hb dX9_compared_10 (by decide) ?_
  refine lv_icmp_eq (tgt := 37) hx hb dX9_compared_12 (by decide) (fun c14 => ?_) (fun c14 => ?_)
  · have h := fw_t c14 h
    exact B37 _ _ _ _ _ h hP hD hS (lv_sub hl [1, 0] rfl)
  · have h := fw_f c14 h
    refine lv_iload_n hx hb dX9_compared_15 rfl (lv_at hl 0 rfl) ?_
    refine lv_bipush (v := 61) hx hb dX9_compared_16 (by decide) ?_
    refine lv_icmp_eq (tgt := 37) hx hb dX9_compared_18 (by decide) (fun c15 => ?_) (fun c15 => ?_)
    · have h := fw_t c15 h
      exact B37 _ _ _ _ _ h hP hD hS (lv_sub hl [1, 0] rfl)
    · have h := fw_f c15 h
      refine lv_iload_n hx hb dX9_compared_21 rfl (lv_at hl 0 rfl) ?_
      refine lv_bipush (v := 62) hx hb dX9_compared_22 (by decide) ?_
      refine lv_icmp_eq (tgt := 37) hx hb dX9_compared_24 (by decide) (fun c16 => ?_) (fun c16 => ?_)
      · have h := fw_t c16 h
        exact B37 _ _ _ _ _ h hP hD hS (lv_sub hl [1, 0] rfl)
      · have h := fw_f c16 h
        refine lv_aload_n hx hb dX9_compared_27 rfl (lv_at hl 1 rfl) ?_
        refine lv_iconst (v := 0) hx hb dX9_compared_28 (by decide) ?_
        refine lv_aload_n hx hb dX9_compared_29 rfl (lv_at hl 1 rfl) ?_
        refine va_get (D := D) (ci := 7) (v := .int (q12.1 19)) (C := RX9) (T := TX9) (N := 53) hx hb hts in9 hown hG.1 hP 0 rfl rfl 19 (by decide) (hts (.fieldLink RX9 164 "ChairCaneModel" "p" "I") (mem_b bq_wsX9_compared 0 0 rfl)) (fun _ h9 => h9) rfl dX9_compared_30 ?_
        refine fw_Vv (As := [.int 0, .int (q12.1 19)]) (rest := []) (n := 2) (wr := []) (wp := fun b : OB => moW k va b) h hx hb hml hown hts hG hA hP hD hS hl.1 (List.range (moW k va q12).length) [] (fun q hq9 => c_X9_fails l D k _  va F 0 (q12.1 19) q12  hq9) (ci := 7) (q0 := 0) rfl rfl gX9_compared_X9_fails rfl ⟨rfl, rfl, Nat.le_of_ble_eq_true rfl, Nat.le_of_ble_eq_true rfl⟩ (by decide +kernel) (al_C _) rfl (al_n _) ⟨rfl, rfl, Nat.le_of_ble_eq_true rfl, Nat.le_of_ble_eq_true rfl, Nat.le_of_ble_eq_true rfl⟩ dX9_compared_33 (fun q17 H locs h hP hD hS => ?_)
        obtain ⟨hP, hD⟩ := cv (w' := moW k va q17) hP hD rfl
        exact fw_endV (wp := fun b : OB => moW k va b) hx hb hr hlocks h hP hD hS dX9_compared_36
noncomputable def b_X9_top_22 (F : Nat)  (mo : OB)  (y0 : Int32) : Option (Int32) :=
  some y0
noncomputable def f_X9_top (F : Nat)   (mo : OB) : Option (Int32) :=
  if (mo.1 26) = 0 then (b_X9_top_22 F mo (-1)) else (if ib ((mo.1 26) - 1) 402 then (b_X9_top_22 F mo ((mo.2.1 35) (Int32.toNatClampNeg ((mo.1 26) - 1)))) else none)
set_option maxRecDepth 20000 in
theorem bq_wsX9_top : subq wsX9_top [[.fieldLink RX9 232 "ChairCaneModel" "opened" "I", .fieldLink RX9 87 "ChairCaneModel" "open" "[I"]] := ⟨(fun _ h => (List.mem_cons_of_mem _ (List.mem_append_left _ h))), trivial⟩
set_option maxHeartbeats 4000000 in
set_option maxRecDepth 100000 in
theorem c_X9_top (l : Launch) (D : va_G) (k : Nat → ClassId) (sz : Nat)  (va : Nat → Nat) (F : Nat)   (mo : OB)  {res : Int32} (h : f_X9_top F mo = some res) : CtI l yX9_top wsX9_top (rmK 1 0 0) [.ref (va 0)] D k sz (moW k va mo) (fun r (_ : Unit) => r = res) (fun _ : Unit => moW k va mo) 0 0 := by
  refine CtI.mk (cc := cX9_top) (maxL := 1) (ret := (some .int)) (by decide) rfl (Nat.le_of_ble_eq_true rfl) ?_
  intro p e s m below meth c A ls E hP hD hS hl
  obtain ⟨hx, hb, hr, hml, hown, hts, hlocks, hin, hG, hA⟩ := E
  have hown : s.vm.findClass RX9 = some m.cls := hown
  have in9 : ∀ w ∈ u_ws RX9 TX9 53, w ∈ wsX9_top := fun _ h => List.mem_cons_of_mem _ (List.mem_append_right _ h)
  have hl : lv_has ls 1 [(0, .ref (va 0))] := hl
  have B22 : ∀ (y0 : Int32) (H : Heap) (locs : List Loc) (ls : Array Slot), b_X9_top_22 F mo y0 = some res → va_P D vwCl (moW k va mo) H → va_D A (moW k va mo) → va_S A s.heap H locs → lv_has ls 1 [] → W p l e (rmK 1 0 0) s m (List.toArray [.ref (va 0)]) below meth c H locs 0 0 (MQ below (va_Qi (fun r (_ : Unit) => r = res) (hcB D (fun _ : Unit => moW k va mo) A) A) (List.toArray [.ref (va 0)]) s 0 0 A) (F0 m 22 ls [.int y0]) := by
    intro y0 H locs ls h hP hD hS hl
    exact fw_endI (rv := fun b : Int32 => b) (wp := fun b : Int32 => moW k va mo) hx hb hr hlocks h rfl hP hD hS dX9_top_22
  refine lv_aload_n hx hb dX9_top_0 rfl (lv_at hl 0 rfl) ?_
  refine va_get (D := D) (ci := 7) (v := .int (mo.1 26)) (C := RX9) (T := TX9) (N := 53) hx hb hts in9 hown hG.1 hP 0 rfl rfl 26 (by decide) (hts (.fieldLink RX9 232 "ChairCaneModel" "opened" "I") (mem_b bq_wsX9_top 0 0 rfl)) (fun _ h9 => h9) rfl dX9_top_1 ?_
  refine lv_if_ne (tgt := 11) hx hb dX9_top_4 (by decide) (fun c1 => ?_) (fun c1 => ?_)
  · have h := fw_f c1 h
    refine lv_aload_n hx hb dX9_top_11 rfl (lv_at hl 0 rfl) ?_
    refine va_get (D := D) (ci := 7) (v := .ref (va 25)) (C := RX9) (T := TX9) (N := 53) hx hb hts in9 hown hG.1 hP 0 rfl rfl 35 (by decide) (hts (.fieldLink RX9 87 "ChairCaneModel" "open" "[I") (mem_b bq_wsX9_top 0 1 rfl)) (fun _ h9 => h9) rfl dX9_top_12 ?_
    refine lv_aload_n hx hb dX9_top_15 rfl (lv_at hl 0 rfl) ?_
    refine va_get (D := D) (ci := 7) (v := .int (mo.1 26)) (C := RX9) (T := TX9) (N := 53) hx hb hts in9 hown hG.1 hP 0 rfl rfl 26 (by decide) (hts (.fieldLink RX9 232 "ChairCaneModel" "opened" "I") (mem_b bq_wsX9_top 0 0 rfl)) (fun _ h9 => h9) rfl dX9_top_16 ?_
    refine lv_iconst (v := 1) hx hb dX9_top_19 (by decide) ?_
    refine lv_isub hx hb dX9_top_20 ?_
    obtain ⟨g2, h⟩ := fw_g h
    refine va_iald hx hb hG.1 hP 25 0 rfl rfl (ib_vp g2) dX9_top_21 ?_
    exact B22 _ _ _ _ h hP hD hS (lv_sub hl [] rfl)
  · have h := fw_t c1 h
    refine lv_iconst (v := (-1)) hx hb dX9_top_7 (by decide) ?_
    refine lv_goto (tgt := 22) hx hb dX9_top_8 (by decide) ?_
    exact B22 _ _ _ _ h hP hD hS (lv_sub hl [] rfl)
noncomputable def b_X9_opens_40 (F : Nat)    (v1 : Int32) (mo : OB) : Option (OB) :=
  if ib (mo.1 26) 402 then (some ((uF mo.1 26 ((mo.1 26) + 1)), (uF mo.2.1 35 (upd (mo.2.1 35) (Int32.toNatClampNeg (mo.1 26)) v1)), mo.2.2)) else none
noncomputable def b_X9_opens_30 (F : Nat)    (v1 : Int32) (mo : OB) : Option (OB) :=
  b_X9_opens_40 F v1 ((uF mo.1 24 ((mo.1 24) + 1)), mo.2.1, mo.2.2)
noncomputable def b_X9_opens_12 (F : Nat)    (v1 : Int32) (mo : OB) : Option (OB) :=
  if (mo.1 24) = 10 then (Option.bind (f_X9_fails F 2 (mo.1 19) mo) (fun q3 => (b_X9_opens_30 F v1 q3))) else (b_X9_opens_30 F v1 mo)
noncomputable def f_X9_opens (F : Nat)  (x1 : Int32) (mo : OB) : Option (OB) :=
  if x1 = 9 then (b_X9_opens_12 F x1 mo) else (if x1 = 12 then (b_X9_opens_12 F x1 mo) else (b_X9_opens_40 F x1 mo))
set_option maxHeartbeats 4000000 in
set_option maxRecDepth 100000 in
theorem c_X9_opens (l : Launch) (D : va_G) (k : Nat → ClassId) (sz : Nat)  (va : Nat → Nat) (F : Nat)  (x1 : Int32) (mo : OB)  {res : OB} (h : f_X9_opens F x1 mo = some res) : CtV l yX9_opens wsX9_opens (rmK 2 0 0) [.ref (va 0), .int x1] D k sz (moW k va mo) (fun (_ : Unit) => True) (fun _ : Unit => moW k va res) 0 0 := by
  refine CtV.mk (cc := cX9_opens) (maxL := 2) (ret := none) (by decide) rfl (Nat.le_of_ble_eq_true rfl) ?_
  intro p e s m below meth c A ls E hP hD hS hl
  obtain ⟨hx, hb, hr, hml, hown, hts, hlocks, hin, hG, hA⟩ := E
  have hown : s.vm.findClass RX9 = some m.cls := hown
  have in9 : ∀ w ∈ u_ws RX9 TX9 53, w ∈ wsX9_opens := fun _ h => List.mem_cons_of_mem _ (List.mem_append_right _ h)
  have hl : lv_has ls 2 [(0, .ref (va 0)), (1, .int x1)] := hl
  have B40 : ∀ (v1 : Int32) (mo : OB) (H : Heap) (locs : List Loc) (ls : Array Slot), b_X9_opens_40 F v1 mo = some res → va_P D vwCl (moW k va mo) H → va_D A (moW k va mo) → va_S A s.heap H locs → lv_has ls 2 [(0, .ref (va 0)), (1, .int v1)] → W p l e (rmK 2 0 0) s m (List.toArray [.ref (va 0), .int x1]) below meth c H locs 0 0 (MQ below (va_Qv (fun (_ : Unit) => True) (hcB D (fun _ : Unit => moW k va res) A) A) (List.toArray [.ref (va 0), .int x1]) s 0 0 A) (F0 m 40 ls []) := by
    intro v1 mo H locs ls h hP hD hS hl
    refine lv_aload_n hx hb dX9_opens_40 rfl (lv_at hl 0 rfl) ?_
    refine va_get (D := D) (ci := 7) (v := .ref (va 25)) (C := RX9) (T := TX9) (N := 53) hx hb hts in9 hown hG.1 hP 0 rfl rfl 35 (by decide) (hts (.fieldLink RX9 87 "ChairCaneModel" "open" "[I") (mem_b bq_wsX9_opens 0 2 rfl)) (fun _ h9 => h9) rfl dX9_opens_41 ?_
    refine lv_aload_n hx hb dX9_opens_44 rfl (lv_at hl 0 rfl) ?_
    refine va_get (D := D) (ci := 7) (v := .int (mo.1 26)) (C := RX9) (T := TX9) (N := 53) hx hb hts in9 hown hG.1 hP 0 rfl rfl 26 (by decide) (hts (.fieldLink RX9 232 "ChairCaneModel" "opened" "I") (mem_b bq_wsX9_opens 0 3 rfl)) (fun _ h9 => h9) rfl dX9_opens_45 ?_
    refine lv_iload_n hx hb dX9_opens_48 rfl (lv_at hl 1 rfl) ?_
    obtain ⟨g1, h⟩ := fw_g h
    refine va_iast hx hb hG.1 hP hD hS 25 0 rfl rfl (ib_vp g1) dX9_opens_49 (fun H locs hP hD hS => ?_)
    refine lv_aload_n hx hb dX9_opens_50 rfl (lv_at hl 0 rfl) ?_
    refine lv_dup hx hb dX9_opens_51 rfl ?_
    refine va_get (D := D) (ci := 7) (v := .int (mo.1 26)) (C := RX9) (T := TX9) (N := 53) hx hb hts in9 hown hG.1 hP 0 rfl rfl 26 (by decide) (hts (.fieldLink RX9 232 "ChairCaneModel" "opened" "I") (mem_b bq_wsX9_opens 0 3 rfl)) (fun _ h9 => h9) rfl dX9_opens_52 ?_
    refine lv_iconst (v := 1) hx hb dX9_opens_55 (by decide) ?_
    refine lv_iadd hx hb dX9_opens_56 ?_
    refine va_put (D := D) (ci := 7) (v := .int ((mo.1 26) + 1)) (C := RX9) (T := TX9) (N := 53) hx hb hts in9 tyX9 tyX9_ok nmX9 hown hG.1 hP hD hS 0 rfl rfl 26 (by decide) (hts (.fieldLink RX9 232 "ChairCaneModel" "opened" "I") (mem_b bq_wsX9_opens 0 3 rfl)) (fun _ h9 => h9) rfl (tyX9_ok 26 (by decide)) rfl rfl (Nat.le_of_ble_eq_true rfl) dX9_opens_57 (fun H locs hP hD hS => ?_)
    exact fw_endV (wp := fun b : OB => moW k va b) hx hb hr hlocks h hP hD hS dX9_opens_60
  have B30 : ∀ (v1 : Int32) (mo : OB) (H : Heap) (locs : List Loc) (ls : Array Slot), b_X9_opens_30 F v1 mo = some res → va_P D vwCl (moW k va mo) H → va_D A (moW k va mo) → va_S A s.heap H locs → lv_has ls 2 [(0, .ref (va 0)), (1, .int v1)] → W p l e (rmK 2 0 0) s m (List.toArray [.ref (va 0), .int x1]) below meth c H locs 0 0 (MQ below (va_Qv (fun (_ : Unit) => True) (hcB D (fun _ : Unit => moW k va res) A) A) (List.toArray [.ref (va 0), .int x1]) s 0 0 A) (F0 m 30 ls []) := by
    intro v1 mo H locs ls h hP hD hS hl
    refine lv_aload_n hx hb dX9_opens_30 rfl (lv_at hl 0 rfl) ?_
    refine lv_dup hx hb dX9_opens_31 rfl ?_
    refine va_get (D := D) (ci := 7) (v := .int (mo.1 24)) (C := RX9) (T := TX9) (N := 53) hx hb hts in9 hown hG.1 hP 0 rfl rfl 24 (by decide) (hts (.fieldLink RX9 235 "ChairCaneModel" "deep" "I") (mem_b bq_wsX9_opens 0 0 rfl)) (fun _ h9 => h9) rfl dX9_opens_32 ?_
    refine lv_iconst (v := 1) hx hb dX9_opens_35 (by decide) ?_
    refine lv_iadd hx hb dX9_opens_36 ?_
    refine va_put (D := D) (ci := 7) (v := .int ((mo.1 24) + 1)) (C := RX9) (T := TX9) (N := 53) hx hb hts in9 tyX9 tyX9_ok nmX9 hown hG.1 hP hD hS 0 rfl rfl 24 (by decide) (hts (.fieldLink RX9 235 "ChairCaneModel" "deep" "I") (mem_b bq_wsX9_opens 0 0 rfl)) (fun _ h9 => h9) rfl (tyX9_ok 24 (by decide)) rfl rfl (Nat.le_of_ble_eq_true rfl) dX9_opens_37 (fun H locs hP hD hS => ?_)
    exact B40 _ _ _ _ _ h hP hD hS hl
  have B12 : ∀ (v1 : Int32) (mo : OB) (H : Heap) (locs : List Loc) (ls : Array Slot), b_X9_opens_12 F v1 mo = some res → va_P D vwCl (moW k va mo) H → va_D A (moW k va mo) → va_S A s.heap H locs → lv_has ls 2 [(0, .ref (va 0)), (1, .int v1)] → W p l e (rmK 2 0 0) s m (List.toArray [.ref (va 0), .int x1]) below meth c H locs 0 0 (MQ below (va_Qv (fun (_ : Unit) => True) (hcB D (fun _ : Unit => moW k va res) A) A) (List.toArray [.ref (va 0), .int x1]) s 0 0 A) (F0 m 12 ls []) := by
    intro v1 mo H locs ls h hP hD hS hl
    refine lv_aload_n hx hb dX9_opens_12 rfl (lv_at hl 0 rfl) ?_
    refine va_get (D := D) (ci := 7) (v := .int (mo.1 24)) (C := RX9) (T := TX9) (N := 53) hx hb hts in9 hown hG.1 hP 0 rfl rfl 24 (by decide) (hts (.fieldLink RX9 235 "ChairCaneModel" "deep" "I") (mem_b bq_wsX9_opens 0 0 rfl)) (fun _ h9 => h9) rfl dX9_opens_13 ?_
    refine lv_bipush (v := 10) hx hb dX9_opens_16 (by decide) ?_
    refine lv_icmp_ne (tgt := 30) hx hb dX9_opens_18 (by decide) (fun c2 => ?_) (fun c2 => ?_)
    · have h := fw_f c2 h
      exact B30 _ _ _ _ _ h hP hD hS hl
    · have h := fw_t c2 h
      refine lv_aload_n hx hb dX9_opens_21 rfl (lv_at hl 0 rfl) ?_
      refine lv_iconst (v := 2) hx hb dX9_opens_22 (by decide) ?_
      refine lv_aload_n hx hb dX9_opens_23 rfl (lv_at hl 0 rfl) ?_
      refine va_get (D := D) (ci := 7) (v := .int (mo.1 19)) (C := RX9) (T := TX9) (N := 53) hx hb hts in9 hown hG.1 hP 0 rfl rfl 19 (by decide) (hts (.fieldLink RX9 164 "ChairCaneModel" "p" "I") (mem_b bq_wsX9_opens 0 1 rfl)) (fun _ h9 => h9) rfl dX9_opens_24 ?_
      refine fw_Vv (As := [.int 2, .int (mo.1 19)]) (rest := []) (n := 2) (wr := []) (wp := fun b : OB => moW k va b) h hx hb hml hown hts hG hA hP hD hS hl.1 (List.range (moW k va mo).length) [] (fun q hq9 => c_X9_fails l D k _  va F 2 (mo.1 19) mo  hq9) (ci := 7) (q0 := 0) rfl rfl gX9_opens_X9_fails rfl ⟨rfl, rfl, Nat.le_of_ble_eq_true rfl, Nat.le_of_ble_eq_true rfl⟩ (by decide +kernel) (al_C _) rfl (al_n _) ⟨rfl, rfl, Nat.le_of_ble_eq_true rfl, Nat.le_of_ble_eq_true rfl, Nat.le_of_ble_eq_true rfl⟩ dX9_opens_27 (fun q3 H locs h hP hD hS => ?_)
      obtain ⟨hP, hD⟩ := cv (w' := moW k va q3) hP hD rfl
      exact B30 _ _ _ _ _ h hP hD hS hl
  refine lv_iload_n hx hb dX9_opens_0 rfl (lv_at hl 1 rfl) ?_
  refine lv_bipush (v := 9) hx hb dX9_opens_1 (by decide) ?_
  refine lv_icmp_eq (tgt := 12) hx hb dX9_opens_3 (by decide) (fun c4 => ?_) (fun c4 => ?_)
  · have h := fw_t c4 h
    exact B12 _ _ _ _ _ h hP hD hS hl
  · have h := fw_f c4 h
    refine lv_iload_n hx hb dX9_opens_6 rfl (lv_at hl 1 rfl) ?_
    refine lv_bipush (v := 12) hx hb dX9_opens_7 (by decide) ?_
    refine lv_icmp_ne (tgt := 40) hx hb dX9_opens_9 (by decide) (fun c5 => ?_) (fun c5 => ?_)
    · have h := fw_f c5 h
      exact B40 _ _ _ _ _ h hP hD hS hl
    · have h := fw_t c5 h
      exact B12 _ _ _ _ _ h hP hD hS hl
noncomputable def b_X9_answers_54 (F : Nat)    (mo : OB) : Option (OB) :=
  some mo
noncomputable def b_X9_answers_47 (F : Nat)   (k0 : (Int32 × OB) → Option (OB)) (v1 : Int32) (y0 : Int32) (y1 : Int32) (mo : OB) : Option (OB) :=
  k0 (v1, ((uF mo.1 24 (y1 - y0)), mo.2.1, mo.2.2))
noncomputable def b_X9_answers_0 (F : Nat)    (k0 : (Int32 × OB) → Option (OB)) (a0 : (Int32 × OB)) : Option (OB) :=
  Option.bind (f_X9_top F a0.2) (fun q1 => (if q1 = a0.1 then (if (a0.2.1 20) = 0 then (Option.bind (f_X9_entry F a0.1 0 a0.2) (fun q4 => (if a0.1 = 9 then (b_X9_answers_47 F k0 a0.1 1 (q4.1 24) ((uF q4.1 26 ((q4.1 26) - 1)), q4.2.1, q4.2.2)) else (b_X9_answers_47 F k0 a0.1 0 (q4.1 24) ((uF q4.1 26 ((q4.1 26) - 1)), q4.2.1, q4.2.2))))) else (b_X9_answers_54 F a0.2)) else (b_X9_answers_54 F a0.2)))
noncomputable def f_X9_answers (F : Nat)  (x1 : Int32) (mo : OB) : Option (OB) :=
  lp (b_X9_answers_0 F) F (x1, mo)
set_option maxHeartbeats 4000000 in
set_option maxRecDepth 100000 in
theorem c_X9_answers (l : Launch) (D : va_G) (k : Nat → ClassId) (sz : Nat)  (va : Nat → Nat) (F : Nat)  (x1 : Int32) (mo : OB)  {res : OB} (h : f_X9_answers F x1 mo = some res) : CtV l yX9_answers wsX9_answers (rmK 2 0 0) [.ref (va 0), .int x1] D k sz (moW k va mo) (fun (_ : Unit) => True) (fun _ : Unit => moW k va res) 0 0 := by
  refine CtV.mk (cc := cX9_answers) (maxL := 2) (ret := none) (by decide) rfl (Nat.le_of_ble_eq_true rfl) ?_
  intro p e s m below meth c A ls E hP hD hS hl
  obtain ⟨hx, hb, hr, hml, hown, hts, hlocks, hin, hG, hA⟩ := E
  have hown : s.vm.findClass RX9 = some m.cls := hown
  have in9 : ∀ w ∈ u_ws RX9 TX9 53, w ∈ wsX9_answers := fun _ h => List.mem_cons_of_mem _ (List.mem_append_right _ h)
  have hl : lv_has ls 2 [(0, .ref (va 0)), (1, .int x1)] := hl
  have B54 : ∀ (mo : OB) (H : Heap) (locs : List Loc) (ls : Array Slot), b_X9_answers_54 F mo = some res → va_P D vwCl (moW k va mo) H → va_D A (moW k va mo) → va_S A s.heap H locs → lv_has ls 2 [] → W p l e (rmK 2 0 0) s m (List.toArray [.ref (va 0), .int x1]) below meth c H locs 0 0 (MQ below (va_Qv (fun (_ : Unit) => True) (hcB D (fun _ : Unit => moW k va res) A) A) (List.toArray [.ref (va 0), .int x1]) s 0 0 A) (F0 m 54 ls []) := by
    intro mo H locs ls h hP hD hS hl
    exact fw_endV (wp := fun b : OB => moW k va b) hx hb hr hlocks h hP hD hS dX9_answers_54
  have B0 : ∀ a0 : (Int32 × OB), lp (b_X9_answers_0 F) F a0 = some res → ∀ (H : Heap) (locs : List Loc) (ls : Array Slot), va_P D vwCl (moW k va a0.2) H → va_D A (moW k va a0.2) → va_S A s.heap H locs → lv_has ls 2 [(0, .ref (va 0)), (1, .int a0.1)] → W p l e (rmK 2 0 0) s m (List.toArray [.ref (va 0), .int x1]) below meth c H locs 0 0 (MQ below (va_Qv (fun (_ : Unit) => True) (hcB D (fun _ : Unit => moW k va res) A) A) (List.toArray [.ref (va 0), .int x1]) s 0 0 A) (F0 m 0 ls []) := by
    refine lp_W ?_ F
    intro k0 hk0 a0 h H locs ls hP hD hS hl
    have hc0 : ∀ (v1 : Int32) (mo : OB), k0 (v1, mo) = some res → ∀ (H : Heap) (locs : List Loc) (ls : Array Slot), va_P D vwCl (moW k va mo) H → va_D A (moW k va mo) → va_S A s.heap H locs → lv_has ls 2 [(0, .ref (va 0)), (1, .int v1)] → W p l e (rmK 2 0 0) s m (List.toArray [.ref (va 0), .int x1]) below meth c H locs 0 0 (MQ below (va_Qv (fun (_ : Unit) => True) (hcB D (fun _ : Unit => moW k va res) A) A) (List.toArray [.ref (va 0), .int x1]) s 0 0 A) (F0 m 0 ls []) := fun v1 mo => hk0 (v1, mo)
    have B47 : ∀ (v1 : Int32) (y0 : Int32) (y1 : Int32) (mo : OB) (H : Heap) (locs : List Loc) (ls : Array Slot), b_X9_answers_47 F k0 v1 y0 y1 mo = some res → va_P D vwCl (moW k va mo) H → va_D A (moW k va mo) → va_S A s.heap H locs → lv_has ls 2 [(0, .ref (va 0)), (1, .int v1)] → W p l e (rmK 2 0 0) s m (List.toArray [.ref (va 0), .int x1]) below meth c H locs 0 0 (MQ below (va_Qv (fun (_ : Unit) => True) (hcB D (fun _ : Unit => moW k va res) A) A) (List.toArray [.ref (va 0), .int x1]) s 0 0 A) (F0 m 47 ls [.int y0, .int y1, .ref (va 0)]) := by
      intro v1 y0 y1 mo H locs ls h hP hD hS hl
      refine lv_isub hx hb dX9_answers_47 ?_
      refine va_put (D := D) (ci := 7) (v := .int (y1 - y0)) (C := RX9) (T := TX9) (N := 53) hx hb hts in9 tyX9 tyX9_ok nmX9 hown hG.1 hP hD hS 0 rfl rfl 24 (by decide) (hts (.fieldLink RX9 235 "ChairCaneModel" "deep" "I") (mem_b bq_wsX9_answers 0 2 rfl)) (fun _ h9 => h9) rfl (tyX9_ok 24 (by decide)) rfl rfl (Nat.le_of_ble_eq_true rfl) dX9_answers_48 (fun H locs hP hD hS => ?_)
      refine lv_goto (tgt := 0) hx hb dX9_answers_51 (by decide) ?_
      exact hc0 _ _ h _ _ _ hP hD hS hl
    refine lv_aload_n hx hb dX9_answers_0 rfl (lv_at hl 0 rfl) ?_
    refine fw_Vi (As := []) (rest := []) (n := 0) (wr := []) (rv := fun b : Int32 => b) (wp := fun b : Int32 => moW k va a0.2) h hx hb hml hown hts hG hA hP hD hS hl.1 (List.range (moW k va a0.2).length) [] (fun q hq9 => c_X9_top l D k _  va F  a0.2  hq9) (ci := 7) (q0 := 0) rfl rfl gX9_answers_X9_top rfl ⟨rfl, rfl, Nat.le_of_ble_eq_true rfl, Nat.le_of_ble_eq_true rfl⟩ (by decide +kernel) (al_C _) rfl (al_n _) ⟨rfl, rfl, Nat.le_of_ble_eq_true rfl, Nat.le_of_ble_eq_true rfl, Nat.le_of_ble_eq_true rfl⟩ dX9_answers_1 (fun q1 H locs h hP hD hS => ?_)
    obtain ⟨hP, hD⟩ := cv (w' := moW k va a0.2) hP hD rfl
    refine hc_is (z := q1) rfl ?_
    refine lv_iload_n hx hb dX9_answers_4 rfl (lv_at hl 1 rfl) ?_
    refine lv_icmp_ne (tgt := 54) hx hb dX9_answers_5 (by decide) (fun c2 => ?_) (fun c2 => ?_)
    · have h := fw_f c2 h
      exact B54 _ _ _ _ h hP hD hS (lv_sub hl [] rfl)
    · have h := fw_t c2 h
      refine lv_aload_n hx hb dX9_answers_8 rfl (lv_at hl 0 rfl) ?_
      refine va_get (D := D) (ci := 7) (v := .int (a0.2.1 20)) (C := RX9) (T := TX9) (N := 53) hx hb hts in9 hown hG.1 hP 0 rfl rfl 20 (by decide) (hts (.fieldLink RX9 161 "ChairCaneModel" "fault" "I") (mem_b bq_wsX9_answers 0 0 rfl)) (fun _ h9 => h9) rfl dX9_answers_9 ?_
      refine lv_if_ne (tgt := 54) hx hb dX9_answers_12 (by decide) (fun c3 => ?_) (fun c3 => ?_)
      · have h := fw_f c3 h
        exact B54 _ _ _ _ h hP hD hS (lv_sub hl [] rfl)
      · have h := fw_t c3 h
        refine lv_aload_n hx hb dX9_answers_15 rfl (lv_at hl 0 rfl) ?_
        refine lv_iload_n hx hb dX9_answers_16 rfl (lv_at hl 1 rfl) ?_
        refine lv_iconst (v := 0) hx hb dX9_answers_17 (by decide) ?_
        refine fw_Vv (As := [.int a0.1, .int 0]) (rest := []) (n := 2) (wr := []) (wp := fun b : OB => moW k va b) h hx hb hml hown hts hG hA hP hD hS hl.1 (List.range (moW k va a0.2).length) [] (fun q hq9 => c_X9_entry l D k _  va F a0.1 0 a0.2  hq9) (ci := 7) (q0 := 0) rfl rfl gX9_answers_X9_entry rfl ⟨rfl, rfl, Nat.le_of_ble_eq_true rfl, Nat.le_of_ble_eq_true rfl⟩ (by decide +kernel) (al_C _) rfl (al_n _) ⟨rfl, rfl, Nat.le_of_ble_eq_true rfl, Nat.le_of_ble_eq_true rfl, Nat.le_of_ble_eq_true rfl⟩ dX9_answers_18 (fun q4 H locs h hP hD hS => ?_)
        obtain ⟨hP, hD⟩ := cv (w' := moW k va q4) hP hD rfl
        refine lv_aload_n hx hb dX9_answers_21 rfl (lv_at hl 0 rfl) ?_
        refine lv_dup hx hb dX9_answers_22 rfl ?_
        refine va_get (D := D) (ci := 7) (v := .int (q4.1 26)) (C := RX9) (T := TX9) (N := 53) hx hb hts in9 hown hG.1 hP 0 rfl rfl 26 (by decide) (hts (.fieldLink RX9 232 "ChairCaneModel" "opened" "I") (mem_b bq_wsX9_answers 0 1 rfl)) (fun _ h9 => h9) rfl dX9_answers_23 ?_
        refine lv_iconst (v := 1) hx hb dX9_answers_26 (by decide) ?_
        refine lv_isub hx hb dX9_answers_27 ?_
        refine va_put (D := D) (ci := 7) (v := .int ((q4.1 26) - 1)) (C := RX9) (T := TX9) (N := 53) hx hb hts in9 tyX9 tyX9_ok nmX9 hown hG.1 hP hD hS 0 rfl rfl 26 (by decide) (hts (.fieldLink RX9 232 "ChairCaneModel" "opened" "I") (mem_b bq_wsX9_answers 0 1 rfl)) (fun _ h9 => h9) rfl (tyX9_ok 26 (by decide)) rfl rfl (Nat.le_of_ble_eq_true rfl) dX9_answers_28 (fun H locs hP hD hS => ?_)
        refine lv_aload_n hx hb dX9_answers_31 rfl (lv_at hl 0 rfl) ?_
        refine lv_dup hx hb dX9_answers_32 rfl ?_
        refine va_get (D := D) (ci := 7) (v := .int (q4.1 24)) (C := RX9) (T := TX9) (N := 53) hx hb hts in9 hown hG.1 hP 0 rfl rfl 24 (by decide) (hts (.fieldLink RX9 235 "ChairCaneModel" "deep" "I") (mem_b bq_wsX9_answers 0 2 rfl)) (fun _ h9 => h9) rfl dX9_answers_33 ?_
        refine lv_iload_n hx hb dX9_answers_36 rfl (lv_at hl 1 rfl) ?_
        refine lv_bipush (v := 9) hx hb dX9_answers_37 (by decide) ?_
        refine lv_icmp_ne (tgt := 46) hx hb dX9_answers_39 (by decide) (fun c5 => ?_) (fun c5 => ?_)
        · have h := fw_f c5 h
          refine lv_iconst (v := 0) hx hb dX9_answers_46 (by decide) ?_
          exact B47 _ _ _ _ _ _ _ h hP hD hS hl
        · have h := fw_t c5 h
          refine lv_iconst (v := 1) hx hb dX9_answers_42 (by decide) ?_
          refine lv_goto (tgt := 47) hx hb dX9_answers_43 (by decide) ?_
          exact B47 _ _ _ _ _ _ _ h hP hD hS hl
  have C0 : ∀ (v1 : Int32) (mo : OB), lp (b_X9_answers_0 F) F (v1, mo) = some res → ∀ (H : Heap) (locs : List Loc) (ls : Array Slot), va_P D vwCl (moW k va mo) H → va_D A (moW k va mo) → va_S A s.heap H locs → lv_has ls 2 [(0, .ref (va 0)), (1, .int v1)] → W p l e (rmK 2 0 0) s m (List.toArray [.ref (va 0), .int x1]) below meth c H locs 0 0 (MQ below (va_Qv (fun (_ : Unit) => True) (hcB D (fun _ : Unit => moW k va res) A) A) (List.toArray [.ref (va 0), .int x1]) s 0 0 A) (F0 m 0 ls []) := fun v1 mo => B0 (v1, mo)
  exact C0 _ _ h _ _ _ hP hD hS hl
noncomputable def f_X9_fact (F : Nat)   (mo : OB) : Option (Int32 × OB) :=
  Option.bind (f_X9_blanks F mo) (fun q1 => (Option.bind (f_X9_stood F 17 q1) (fun q2 => (if q2 = 0 then (Option.bind (f_X9_sign F q1) (fun q4 => (if q4 = 91 then (Option.bind (f_X9_opens F 12 q1) (fun q7 => (some (0, ((uF q7.1 19 ((q7.1 19) + 1)), q7.2.1, q7.2.2))))) else (Option.bind (f_X9_compared F q1) (fun q6 => (some (1, q6))))))) else (Option.bind (f_X9_opens F 9 q1) (fun q8 => (some (0, ((uF q8.1 19 ((q8.1 19) + 3)), q8.2.1, q8.2.2)))))))))
set_option maxHeartbeats 4000000 in
set_option maxRecDepth 100000 in
theorem c_X9_fact (l : Launch) (D : va_G) (k : Nat → ClassId) (sz : Nat) (ad tv : Nat → Nat) (va : Nat → Nat) (F : Nat)   (mo : OB)  {res : Int32 × OB} (h : f_X9_fact F mo = some res) : CtIE l yX9_fact wsX9_fact (rmK 10 0 0) [.ref (va 0)] D k (EY ad tv) sz (moW k va mo) (fun r (_ : Unit) => r = res.1) (fun _ : Unit => moW k va res.2) 0 0 := by
  refine CtIE.mk (cc := cX9_fact) (maxL := 1) (ret := (some .boolean)) (by decide) rfl (Nat.le_of_ble_eq_true rfl) ?_
  intro p e s m below meth c A ls hE E hP hD hS hl
  obtain ⟨hx, hb, hr, hml, hown, hts, hlocks, hin, hG, hA⟩ := E
  have hown : s.vm.findClass RX9 = some m.cls := hown
  have in9 : ∀ w ∈ u_ws RX9 TX9 53, w ∈ wsX9_fact := fun _ h => List.mem_cons_of_mem _ (List.mem_append_right _ h)
  have hl : lv_has ls 1 [(0, .ref (va 0))] := hl
  refine lv_aload_n hx hb dX9_fact_0 rfl (lv_at hl 0 rfl) ?_
  refine fw_Vv (As := []) (rest := []) (n := 0) (wr := []) (wp := fun b : OB => moW k va b) h hx hb hml hown hts hG hA hP hD hS hl.1 (List.range (moW k va mo).length) [] (fun q hq9 => c_X9_blanks l D k _  va F  mo  hq9) (ci := 7) (q0 := 0) rfl rfl gX9_fact_X9_blanks rfl ⟨rfl, rfl, Nat.le_of_ble_eq_true rfl, Nat.le_of_ble_eq_true rfl⟩ (by decide +kernel) (al_C _) rfl (al_n _) ⟨rfl, rfl, Nat.le_of_ble_eq_true rfl, Nat.le_of_ble_eq_true rfl, Nat.le_of_ble_eq_true rfl⟩ dX9_fact_1 (fun q1 H locs h hP hD hS => ?_)
  obtain ⟨hP, hD⟩ := cv (w' := moW k va q1) hP hD rfl
  refine lv_aload_n hx hb dX9_fact_4 rfl (lv_at hl 0 rfl) ?_
  refine va_ldcS hx hb hown hE.2.2.2.2.2.2.2.2.2.2.2.2.2.2.2.2.2.2.2.2 dX9_fact_5 ?_
  refine fw_ViE (As := [.ref (ad 17)]) (rest := []) (n := 1) (wr := []) (rv := fun b : Int32 => b) (wp := fun b : Int32 => moW k va q1) h (EY.ok ad tv) hE hx hb hml hown hts hG hA hP hD hS hl.1 (List.range (moW k va q1).length) [] (fun q hq9 => c_X9_stood l D k _ ad tv va F 17 q1  hq9) (va_recv hG.1 hP (ci := 7) (q0 := 0) rfl rfl) gX9_fact_X9_stood rfl ⟨rfl, rfl, Nat.le_of_ble_eq_true rfl, Nat.le_of_ble_eq_true rfl⟩ (by decide +kernel) (al_C _) rfl (al_n _) ⟨rfl, rfl, Nat.le_of_ble_eq_true rfl, Nat.le_of_ble_eq_true rfl, Nat.le_of_ble_eq_true rfl⟩ dX9_fact_7 (fun q2 H locs h hP hD hS => ?_)
  obtain ⟨hP, hD⟩ := cv (w' := moW k va q1) hP hD rfl
  refine hc_is (z := q2) rfl ?_
  refine lv_if_eq (tgt := 31) hx hb dX9_fact_10 (by decide) (fun c3 => ?_) (fun c3 => ?_)
  · have h := fw_t c3 h
    refine lv_aload_n hx hb dX9_fact_31 rfl (lv_at hl 0 rfl) ?_
    refine fw_Vi (As := []) (rest := []) (n := 0) (wr := []) (rv := fun b : Int32 => b) (wp := fun b : Int32 => moW k va q1) h hx hb hml hown hts hG hA hP hD hS hl.1 (List.range (moW k va q1).length) [] (fun q hq9 => c_X9_sign l D k _  va F  q1  hq9) (ci := 7) (q0 := 0) rfl rfl gX9_fact_X9_sign rfl ⟨rfl, rfl, Nat.le_of_ble_eq_true rfl, Nat.le_of_ble_eq_true rfl⟩ (by decide +kernel) (al_C _) rfl (al_n _) ⟨rfl, rfl, Nat.le_of_ble_eq_true rfl, Nat.le_of_ble_eq_true rfl, Nat.le_of_ble_eq_true rfl⟩ dX9_fact_32 (fun q4 H locs h hP hD hS => ?_)
    obtain ⟨hP, hD⟩ := cv (w' := moW k va q1) hP hD rfl
    refine hc_is (z := q4) rfl ?_
    refine lv_bipush (v := 91) hx hb dX9_fact_35 (by decide) ?_
    refine lv_icmp_ne (tgt := 58) hx hb dX9_fact_37 (by decide) (fun c5 => ?_) (fun c5 => ?_)
    · have h := fw_f c5 h
      refine lv_aload_n hx hb dX9_fact_58 rfl (lv_at hl 0 rfl) ?_
      refine fw_VvE (As := []) (rest := []) (n := 0) (wr := []) (wp := fun b : OB => moW k va b) h (EY.ok ad tv) hE hx hb hml hown hts hG hA hP hD hS hl.1 (List.range (moW k va q1).length) [] (fun q hq9 => c_X9_compared l D k _ ad tv va F  q1  hq9) (va_recv hG.1 hP (ci := 7) (q0 := 0) rfl rfl) gX9_fact_X9_compared rfl ⟨rfl, rfl, Nat.le_of_ble_eq_true rfl, Nat.le_of_ble_eq_true rfl⟩ (by decide +kernel) (al_C _) rfl (al_n _) ⟨rfl, rfl, Nat.le_of_ble_eq_true rfl, Nat.le_of_ble_eq_true rfl, Nat.le_of_ble_eq_true rfl⟩ dX9_fact_59 (fun q6 H locs h hP hD hS => ?_)
      obtain ⟨hP, hD⟩ := cv (w' := moW k va q6) hP hD rfl
      refine lv_iconst (v := 1) hx hb dX9_fact_62 (by decide) ?_
      exact fw_endZ (v := 1) (rv := fun b : Int32 × OB => b.1) (wp := fun b : Int32 × OB => moW k va b.2) hx hb hr hlocks h rfl rfl hP hD hS dX9_fact_63
    · have h := fw_t c5 h
      refine lv_aload_n hx hb dX9_fact_40 rfl (lv_at hl 0 rfl) ?_
      refine lv_bipush (v := 12) hx hb dX9_fact_41 (by decide) ?_
      refine fw_Vv (As := [.int 12]) (rest := []) (n := 1) (wr := []) (wp := fun b : OB => moW k va b) h hx hb hml hown hts hG hA hP hD hS hl.1 (List.range (moW k va q1).length) [] (fun q hq9 => c_X9_opens l D k _  va F 12 q1  hq9) (ci := 7) (q0 := 0) rfl rfl gX9_fact_X9_opens rfl ⟨rfl, rfl, Nat.le_of_ble_eq_true rfl, Nat.le_of_ble_eq_true rfl⟩ (by decide +kernel) (al_C _) rfl (al_n _) ⟨rfl, rfl, Nat.le_of_ble_eq_true rfl, Nat.le_of_ble_eq_true rfl, Nat.le_of_ble_eq_true rfl⟩ dX9_fact_43 (fun q7 H locs h hP hD hS => ?_)
      obtain ⟨hP, hD⟩ := cv (w' := moW k va q7) hP hD rfl
      refine lv_aload_n hx hb dX9_fact_46 rfl (lv_at hl 0 rfl) ?_
      refine lv_dup hx hb dX9_fact_47 rfl ?_
      refine va_get (D := D) (ci := 7) (v := .int (q7.1 19)) (C := RX9) (T := TX9) (N := 53) hx hb hts in9 hown hG.1 hP 0 rfl rfl 19 (by decide) (hts (.fieldLink RX9 164 "ChairCaneModel" "p" "I") (mem_b bq_wsX9_fact 0 0 rfl)) (fun _ h9 => h9) rfl dX9_fact_48 ?_
      refine lv_iconst (v := 1) hx hb dX9_fact_51 (by decide) ?_
      refine lv_iadd hx hb dX9_fact_52 ?_
      refine va_put (D := D) (ci := 7) (v := .int ((q7.1 19) + 1)) (C := RX9) (T := TX9) (N := 53) hx hb hts in9 tyX9 tyX9_ok nmX9 hown hG.1 hP hD hS 0 rfl rfl 19 (by decide) (hts (.fieldLink RX9 164 "ChairCaneModel" "p" "I") (mem_b bq_wsX9_fact 0 0 rfl)) (fun _ h9 => h9) rfl (tyX9_ok 19 (by decide)) rfl rfl (Nat.le_of_ble_eq_true rfl) dX9_fact_53 (fun H locs hP hD hS => ?_)
      refine lv_iconst (v := 0) hx hb dX9_fact_56 (by decide) ?_
      exact fw_endZ (v := 0) (rv := fun b : Int32 × OB => b.1) (wp := fun b : Int32 × OB => moW k va b.2) hx hb hr hlocks h rfl rfl hP hD hS dX9_fact_57
  · have h := fw_f c3 h
    refine lv_aload_n hx hb dX9_fact_13 rfl (lv_at hl 0 rfl) ?_
    refine lv_bipush (v := 9) hx hb dX9_fact_14 (by decide) ?_
    refine fw_Vv (As := [.int 9]) (rest := []) (n := 1) (wr := []) (wp := fun b : OB => moW k va b) h hx hb hml hown hts hG hA hP hD hS hl.1 (List.range (moW k va q1).length) [] (fun q hq9 => c_X9_opens l D k _  va F 9 q1  hq9) (ci := 7) (q0 := 0) rfl rfl gX9_fact_X9_opens rfl ⟨rfl, rfl, Nat.le_of_ble_eq_true rfl, Nat.le_of_ble_eq_true rfl⟩ (by decide +kernel) (al_C _) rfl (al_n _) ⟨rfl, rfl, Nat.le_of_ble_eq_true rfl, Nat.le_of_ble_eq_true rfl, Nat.le_of_ble_eq_true rfl⟩ dX9_fact_16 (fun q8 H locs h hP hD hS => ?_)
    obtain ⟨hP, hD⟩ := cv (w' := moW k va q8) hP hD rfl
    refine lv_aload_n hx hb dX9_fact_19 rfl (lv_at hl 0 rfl) ?_
    refine lv_dup hx hb dX9_fact_20 rfl ?_
    refine va_get (D := D) (ci := 7) (v := .int (q8.1 19)) (C := RX9) (T := TX9) (N := 53) hx hb hts in9 hown hG.1 hP 0 rfl rfl 19 (by decide) (hts (.fieldLink RX9 164 "ChairCaneModel" "p" "I") (mem_b bq_wsX9_fact 0 0 rfl)) (fun _ h9 => h9) rfl dX9_fact_21 ?_
    refine lv_iconst (v := 3) hx hb dX9_fact_24 (by decide) ?_
    refine lv_iadd hx hb dX9_fact_25 ?_
    refine va_put (D := D) (ci := 7) (v := .int ((q8.1 19) + 3)) (C := RX9) (T := TX9) (N := 53) hx hb hts in9 tyX9 tyX9_ok nmX9 hown hG.1 hP hD hS 0 rfl rfl 19 (by decide) (hts (.fieldLink RX9 164 "ChairCaneModel" "p" "I") (mem_b bq_wsX9_fact 0 0 rfl)) (fun _ h9 => h9) rfl (tyX9_ok 19 (by decide)) rfl rfl (Nat.le_of_ble_eq_true rfl) dX9_fact_26 (fun H locs hP hD hS => ?_)
    refine lv_iconst (v := 0) hx hb dX9_fact_29 (by decide) ?_
    exact fw_endZ (v := 0) (rv := fun b : Int32 × OB => b.1) (wp := fun b : Int32 × OB => moW k va b.2) hx hb hr hlocks h rfl rfl hP hD hS dX9_fact_30
noncomputable def b_X9_test_201 (F : Nat)    (mo : OB) : Option (OB) :=
  some mo
noncomputable def b_X9_test_36 (F : Nat)   (k9 : (Int32 × Int32 × OB) → Option (OB)) (v2 : Int32) (y0 : Int32) (mo : OB) : Option (OB) :=
  k9 (y0, v2, mo)
noncomputable def b_X9_test_198 (F : Nat)   (k9 : (Int32 × Int32 × OB) → Option (OB)) (v1 : Int32) (v2 : Int32) (mo : OB) : Option (OB) :=
  k9 (v1, v2, mo)
noncomputable def b_X9_test_121 (F : Nat)   (k9 : (Int32 × Int32 × OB) → Option (OB)) (v2 : Int32) (y0 : Int32) (y1 : Int32) (mo : OB) : Option (OB) :=
  b_X9_test_198 F k9 1 v2 ((uF mo.1 19 (y1 + y0)), mo.2.1, mo.2.2)
noncomputable def b_X9_test_104 (F : Nat)   (k9 : (Int32 × Int32 × OB) → Option (OB)) (v2 : Int32) (v3 : Int32) (y0 : Int32) (mo : OB) : Option (OB) :=
  Option.bind (f_X9_opens F y0 mo) (fun q1 => (if v3 = 0 then (b_X9_test_121 F k9 v2 2 (q1.1 19) q1) else (b_X9_test_121 F k9 v2 3 (q1.1 19) q1)))
noncomputable def b_X9_test_92 (F : Nat)   (k9 : (Int32 × Int32 × OB) → Option (OB)) (v2 : Int32) (v3 : Int32) (mo : OB) : Option (OB) :=
  if v3 = 0 then (b_X9_test_104 F k9 v2 v3 11 mo) else (b_X9_test_104 F k9 v2 v3 10 mo)
noncomputable def b_X9_test_81 (F : Nat)   (k9 : (Int32 × Int32 × OB) → Option (OB)) (v2 : Int32) (v3 : Int32) (v4 : Int32) (mo : OB) : Option (OB) :=
  if v4 = 0 then (b_X9_test_92 F k9 v2 v3 mo) else (Option.bind (f_X9_answers F 11 mo) (fun q5 => (b_X9_test_92 F k9 v2 v3 q5)))
noncomputable def b_X9_test_163 (F : Nat)   (k9 : (Int32 × Int32 × OB) → Option (OB)) (v1 : Int32) (v2 : Int32) (mo : OB) : Option (OB) :=
  b_X9_test_198 F k9 v1 v2 ((uF (uF (uF mo.1 19 ((mo.1 19) + 1)) 24 ((mo.1 24) - 1)) 26 ((mo.1 26) - 1)), mo.2.1, mo.2.2)
noncomputable def b_X9_test_9 (F : Nat)    (k9 : (Int32 × Int32 × OB) → Option (OB)) (a9 : (Int32 × Int32 × OB)) : Option (OB) :=
  if a9.2.1 = 0 then (b_X9_test_201 F a9.2.2) else (if (a9.2.2.1 20) = 0 then (if a9.1 = 0 then (Option.bind (f_X9_answers F 9 a9.2.2) (fun q9 => (Option.bind (f_X9_blanks F q9) (fun q10 => (Option.bind (f_X9_stood F 16 q10) (fun q11 => (Option.bind (f_X9_stood F 15 q10) (fun q12 => (Option.bind (f_X9_answers F 10 q10) (fun q13 => (if q11 = 0 then (if q12 = 0 then (Option.bind (f_X9_answers F 11 q13) (fun q16 => (Option.bind (f_X9_top F q16) (fun q17 => (if q17 = 12 then (Option.bind (f_X9_sign F q16) (fun q19 => (if q19 = 93 then (b_X9_test_163 F k9 a9.1 a9.2.1 q16) else (Option.bind (f_X9_fails F 0 (q16.1 19) q16) (fun q21 => (b_X9_test_163 F k9 a9.1 a9.2.1 q21)))))) else (b_X9_test_198 F k9 a9.1 0 q16)))))) else (b_X9_test_81 F k9 a9.2.1 q11 q12 q13)) else (b_X9_test_81 F k9 a9.2.1 q11 q12 q13)))))))))))) else (Option.bind (f_X9_fact F a9.2.2) (fun q22 => (if q22.1 = 0 then (b_X9_test_36 F k9 a9.2.1 1 q22.2) else (b_X9_test_36 F k9 a9.2.1 0 q22.2))))) else (b_X9_test_201 F a9.2.2))
noncomputable def f_X9_test (F : Nat)   (mo : OB) : Option (OB) :=
  lp (b_X9_test_9 F) F (1, 1, ((uF mo.1 26 0), mo.2.1, mo.2.2))
set_option maxHeartbeats 4000000 in
set_option maxRecDepth 100000 in
theorem c_X9_test (l : Launch) (D : va_G) (k : Nat → ClassId) (sz : Nat) (ad tv : Nat → Nat) (va : Nat → Nat) (F : Nat)   (mo : OB)  {res : OB} (h : f_X9_test F mo = some res) : CtVE l yX9_test wsX9_test (rmK 11 0 0) [.ref (va 0)] D k (EY ad tv) sz (moW k va mo) (fun (_ : Unit) => True) (fun _ : Unit => moW k va res) 0 0 := by
  refine CtVE.mk (cc := cX9_test) (maxL := 5) (ret := none) (by decide) rfl (Nat.le_of_ble_eq_true rfl) ?_
  intro p e s m below meth c A ls hE E hP hD hS hl
  obtain ⟨hx, hb, hr, hml, hown, hts, hlocks, hin, hG, hA⟩ := E
  have hown : s.vm.findClass RX9 = some m.cls := hown
  have in9 : ∀ w ∈ u_ws RX9 TX9 53, w ∈ wsX9_test := fun _ h => List.mem_cons_of_mem _ (List.mem_append_right _ h)
  have hl : lv_has ls 5 [(0, .ref (va 0))] := hl
  have B201 : ∀ (mo : OB) (H : Heap) (locs : List Loc) (ls : Array Slot), b_X9_test_201 F mo = some res → va_P D vwCl (moW k va mo) H → va_D A (moW k va mo) → va_S A s.heap H locs → lv_has ls 5 [] → W p l e (rmK 11 0 0) s m (List.toArray [.ref (va 0)]) below meth c H locs 0 0 (MQ below (va_Qv (fun (_ : Unit) => True) (hcB D (fun _ : Unit => moW k va res) A) A) (List.toArray [.ref (va 0)]) s 0 0 A) (F0 m 201 ls []) := by
    intro mo H locs ls h hP hD hS hl
    exact fw_endV (wp := fun b : OB => moW k va b) hx hb hr hlocks h hP hD hS dX9_test_201
  have B9 : ∀ a9 : (Int32 × Int32 × OB), lp (b_X9_test_9 F) F a9 = some res → ∀ (H : Heap) (locs : List Loc) (ls : Array Slot), va_P D vwCl (moW k va a9.2.2) H → va_D A (moW k va a9.2.2) → va_S A s.heap H locs → lv_has ls 5 [(0, .ref (va 0)), (1, .int a9.1), (2, .int a9.2.1)] → W p l e (rmK 11 0 0) s m (List.toArray [.ref (va 0)]) below meth c H locs 0 0 (MQ below (va_Qv (fun (_ : Unit) => True) (hcB D (fun _ : Unit => moW k va res) A) A) (List.toArray [.ref (va 0)]) s 0 0 A) (F0 m 9 ls []) := by
    refine lp_W ?_ F
    intro k9 hk9 a9 h H locs ls hP hD hS hl
    have hc9 : ∀ (v1 : Int32) (v2 : Int32) (mo : OB), k9 (v1, v2, mo) = some res → ∀ (H : Heap) (locs : List Loc) (ls : Array Slot), va_P D vwCl (moW k va mo) H → va_D A (moW k va mo) → va_S A s.heap H locs → lv_has ls 5 [(0, .ref (va 0)), (1, .int v1), (2, .int v2)] → W p l e (rmK 11 0 0) s m (List.toArray [.ref (va 0)]) below meth c H locs 0 0 (MQ below (va_Qv (fun (_ : Unit) => True) (hcB D (fun _ : Unit => moW k va res) A) A) (List.toArray [.ref (va 0)]) s 0 0 A) (F0 m 9 ls []) := fun v1 v2 mo => hk9 (v1, v2, mo)
    have B36 : ∀ (v2 : Int32) (y0 : Int32) (mo : OB) (H : Heap) (locs : List Loc) (ls : Array Slot), b_X9_test_36 F k9 v2 y0 mo = some res → va_P D vwCl (moW k va mo) H → va_D A (moW k va mo) → va_S A s.heap H locs → lv_has ls 5 [(0, .ref (va 0)), (2, .int v2)] → W p l e (rmK 11 0 0) s m (List.toArray [.ref (va 0)]) below meth c H locs 0 0 (MQ below (va_Qv (fun (_ : Unit) => True) (hcB D (fun _ : Unit => moW k va res) A) A) (List.toArray [.ref (va 0)]) s 0 0 A) (F0 m 36 ls [.int y0]) := by
      intro v2 y0 mo H locs ls h hP hD hS hl
      refine lv_istore_n (lv' := [(1, .int y0), (0, .ref (va 0)), (2, .int v2)]) hx hb dX9_test_36 rfl hl (by decide) rfl (fun ls hl => ?_)
      refine lv_goto (tgt := 9) hx hb dX9_test_37 (by decide) ?_
      exact hc9 _ _ _ h _ _ _ hP hD hS (lv_sub hl [1, 0, 2] rfl)
    have B198 : ∀ (v1 : Int32) (v2 : Int32) (mo : OB) (H : Heap) (locs : List Loc) (ls : Array Slot), b_X9_test_198 F k9 v1 v2 mo = some res → va_P D vwCl (moW k va mo) H → va_D A (moW k va mo) → va_S A s.heap H locs → lv_has ls 5 [(0, .ref (va 0)), (1, .int v1), (2, .int v2)] → W p l e (rmK 11 0 0) s m (List.toArray [.ref (va 0)]) below meth c H locs 0 0 (MQ below (va_Qv (fun (_ : Unit) => True) (hcB D (fun _ : Unit => moW k va res) A) A) (List.toArray [.ref (va 0)]) s 0 0 A) (F0 m 198 ls []) := by
      intro v1 v2 mo H locs ls h hP hD hS hl
      refine lv_goto (tgt := 9) hx hb dX9_test_198 (by decide) ?_
      exact hc9 _ _ _ h _ _ _ hP hD hS hl
    have B121 : ∀ (v2 : Int32) (y0 : Int32) (y1 : Int32) (mo : OB) (H : Heap) (locs : List Loc) (ls : Array Slot), b_X9_test_121 F k9 v2 y0 y1 mo = some res → va_P D vwCl (moW k va mo) H → va_D A (moW k va mo) → va_S A s.heap H locs → lv_has ls 5 [(0, .ref (va 0)), (2, .int v2)] → W p l e (rmK 11 0 0) s m (List.toArray [.ref (va 0)]) below meth c H locs 0 0 (MQ below (va_Qv (fun (_ : Unit) => True) (hcB D (fun _ : Unit => moW k va res) A) A) (List.toArray [.ref (va 0)]) s 0 0 A) (F0 m 121 ls [.int y0, .int y1, .ref (va 0)]) := by
      intro v2 y0 y1 mo H locs ls h hP hD hS hl
      refine lv_iadd hx hb dX9_test_121 ?_
      refine va_put (D := D) (ci := 7) (v := .int (y1 + y0)) (C := RX9) (T := TX9) (N := 53) hx hb hts in9 tyX9 tyX9_ok nmX9 hown hG.1 hP hD hS 0 rfl rfl 19 (by decide) (hts (.fieldLink RX9 164 "ChairCaneModel" "p" "I") (mem_b bq_wsX9_test 0 2 rfl)) (fun _ h9 => h9) rfl (tyX9_ok 19 (by decide)) rfl rfl (Nat.le_of_ble_eq_true rfl) dX9_test_122 (fun H locs hP hD hS => ?_)
      refine lv_iconst (v := 1) hx hb dX9_test_125 (by decide) ?_
      refine lv_istore_n (lv' := [(1, .int 1), (0, .ref (va 0)), (2, .int v2)]) hx hb dX9_test_126 rfl hl (by decide) rfl (fun ls hl => ?_)
      refine lv_goto (tgt := 198) hx hb dX9_test_127 (by decide) ?_
      exact B198 _ _ _ _ _ _ h hP hD hS (lv_sub hl [1, 0, 2] rfl)
    have B104 : ∀ (v2 : Int32) (v3 : Int32) (y0 : Int32) (mo : OB) (H : Heap) (locs : List Loc) (ls : Array Slot), b_X9_test_104 F k9 v2 v3 y0 mo = some res → va_P D vwCl (moW k va mo) H → va_D A (moW k va mo) → va_S A s.heap H locs → lv_has ls 5 [(0, .ref (va 0)), (2, .int v2), (3, .int v3)] → W p l e (rmK 11 0 0) s m (List.toArray [.ref (va 0)]) below meth c H locs 0 0 (MQ below (va_Qv (fun (_ : Unit) => True) (hcB D (fun _ : Unit => moW k va res) A) A) (List.toArray [.ref (va 0)]) s 0 0 A) (F0 m 104 ls [.int y0, .ref (va 0)]) := by
      intro v2 v3 y0 mo H locs ls h hP hD hS hl
      refine fw_Vv (As := [.int y0]) (rest := []) (n := 1) (wr := []) (wp := fun b : OB => moW k va b) h hx hb hml hown hts hG hA hP hD hS hl.1 (List.range (moW k va mo).length) [] (fun q hq9 => c_X9_opens l D k _  va F y0 mo  hq9) (ci := 7) (q0 := 0) rfl rfl gX9_test_X9_opens rfl ⟨rfl, rfl, Nat.le_of_ble_eq_true rfl, Nat.le_of_ble_eq_true rfl⟩ (by decide +kernel) (al_C _) rfl (al_n _) ⟨rfl, rfl, Nat.le_of_ble_eq_true rfl, Nat.le_of_ble_eq_true rfl, Nat.le_of_ble_eq_true rfl⟩ dX9_test_104 (fun q1 H locs h hP hD hS => ?_)
      obtain ⟨hP, hD⟩ := cv (w' := moW k va q1) hP hD rfl
      refine lv_aload_n hx hb dX9_test_107 rfl (lv_at hl 0 rfl) ?_
      refine lv_dup hx hb dX9_test_108 rfl ?_
      refine va_get (D := D) (ci := 7) (v := .int (q1.1 19)) (C := RX9) (T := TX9) (N := 53) hx hb hts in9 hown hG.1 hP 0 rfl rfl 19 (by decide) (hts (.fieldLink RX9 164 "ChairCaneModel" "p" "I") (mem_b bq_wsX9_test 0 2 rfl)) (fun _ h9 => h9) rfl dX9_test_109 ?_
      refine lv_iload_n hx hb dX9_test_112 rfl (lv_at hl 2 rfl) ?_
      refine lv_if_eq (tgt := 120) hx hb dX9_test_113 (by decide) (fun c2 => ?_) (fun c2 => ?_)
      · have h := fw_t c2 h
        refine lv_iconst (v := 2) hx hb dX9_test_120 (by decide) ?_
        exact B121 _ _ _ _ _ _ _ h hP hD hS (lv_sub hl [0, 1] rfl)
      · have h := fw_f c2 h
        refine lv_iconst (v := 3) hx hb dX9_test_116 (by decide) ?_
        refine lv_goto (tgt := 121) hx hb dX9_test_117 (by decide) ?_
        exact B121 _ _ _ _ _ _ _ h hP hD hS (lv_sub hl [0, 1] rfl)
    have B92 : ∀ (v2 : Int32) (v3 : Int32) (mo : OB) (H : Heap) (locs : List Loc) (ls : Array Slot), b_X9_test_92 F k9 v2 v3 mo = some res → va_P D vwCl (moW k va mo) H → va_D A (moW k va mo) → va_S A s.heap H locs → lv_has ls 5 [(0, .ref (va 0)), (2, .int v2), (3, .int v3)] → W p l e (rmK 11 0 0) s m (List.toArray [.ref (va 0)]) below meth c H locs 0 0 (MQ below (va_Qv (fun (_ : Unit) => True) (hcB D (fun _ : Unit => moW k va res) A) A) (List.toArray [.ref (va 0)]) s 0 0 A) (F0 m 92 ls []) := by
      intro v2 v3 mo H locs ls h hP hD hS hl
      refine lv_aload_n hx hb dX9_test_92 rfl (lv_at hl 0 rfl) ?_
      refine lv_iload_n hx hb dX9_test_93 rfl (lv_at hl 2 rfl) ?_
      refine lv_if_eq (tgt := 102) hx hb dX9_test_94 (by decide) (fun c3 => ?_) (fun c3 => ?_)
      · have h := fw_t c3 h
        refine lv_bipush (v := 11) hx hb dX9_test_102 (by decide) ?_
        exact B104 _ _ _ _ _ _ _ h hP hD hS hl
      · have h := fw_f c3 h
        refine lv_bipush (v := 10) hx hb dX9_test_97 (by decide) ?_
        refine lv_goto (tgt := 104) hx hb dX9_test_99 (by decide) ?_
        exact B104 _ _ _ _ _ _ _ h hP hD hS hl
    have B81 : ∀ (v2 : Int32) (v3 : Int32) (v4 : Int32) (mo : OB) (H : Heap) (locs : List Loc) (ls : Array Slot), b_X9_test_81 F k9 v2 v3 v4 mo = some res → va_P D vwCl (moW k va mo) H → va_D A (moW k va mo) → va_S A s.heap H locs → lv_has ls 5 [(0, .ref (va 0)), (2, .int v2), (3, .int v3), (4, .int v4)] → W p l e (rmK 11 0 0) s m (List.toArray [.ref (va 0)]) below meth c H locs 0 0 (MQ below (va_Qv (fun (_ : Unit) => True) (hcB D (fun _ : Unit => moW k va res) A) A) (List.toArray [.ref (va 0)]) s 0 0 A) (F0 m 81 ls []) := by
      intro v2 v3 v4 mo H locs ls h hP hD hS hl
      refine lv_iload hx hb dX9_test_81 (lv_at hl 3 rfl) ?_
      refine lv_if_eq (tgt := 92) hx hb dX9_test_83 (by decide) (fun c4 => ?_) (fun c4 => ?_)
      · have h := fw_t c4 h
        exact B92 _ _ _ _ _ _ h hP hD hS (lv_sub hl [0, 1, 2] rfl)
      · have h := fw_f c4 h
        refine lv_aload_n hx hb dX9_test_86 rfl (lv_at hl 0 rfl) ?_
        refine lv_bipush (v := 11) hx hb dX9_test_87 (by decide) ?_
        refine fw_Vv (As := [.int 11]) (rest := []) (n := 1) (wr := []) (wp := fun b : OB => moW k va b) h hx hb hml hown hts hG hA hP hD hS hl.1 (List.range (moW k va mo).length) [] (fun q hq9 => c_X9_answers l D k _  va F 11 mo  hq9) (ci := 7) (q0 := 0) rfl rfl gX9_test_X9_answers rfl ⟨rfl, rfl, Nat.le_of_ble_eq_true rfl, Nat.le_of_ble_eq_true rfl⟩ (by decide +kernel) (al_C _) rfl (al_n _) ⟨rfl, rfl, Nat.le_of_ble_eq_true rfl, Nat.le_of_ble_eq_true rfl, Nat.le_of_ble_eq_true rfl⟩ dX9_test_89 (fun q5 H locs h hP hD hS => ?_)
        obtain ⟨hP, hD⟩ := cv (w' := moW k va q5) hP hD rfl
        exact B92 _ _ _ _ _ _ h hP hD hS (lv_sub hl [0, 1, 2] rfl)
    have B163 : ∀ (v1 : Int32) (v2 : Int32) (mo : OB) (H : Heap) (locs : List Loc) (ls : Array Slot), b_X9_test_163 F k9 v1 v2 mo = some res → va_P D vwCl (moW k va mo) H → va_D A (moW k va mo) → va_S A s.heap H locs → lv_has ls 5 [(0, .ref (va 0)), (1, .int v1), (2, .int v2)] → W p l e (rmK 11 0 0) s m (List.toArray [.ref (va 0)]) below meth c H locs 0 0 (MQ below (va_Qv (fun (_ : Unit) => True) (hcB D (fun _ : Unit => moW k va res) A) A) (List.toArray [.ref (va 0)]) s 0 0 A) (F0 m 163 ls []) := by
      intro v1 v2 mo H locs ls h hP hD hS hl
      refine lv_aload_n hx hb dX9_test_163 rfl (lv_at hl 0 rfl) ?_
      refine lv_dup hx hb dX9_test_164 rfl ?_
      refine va_get (D := D) (ci := 7) (v := .int (mo.1 19)) (C := RX9) (T := TX9) (N := 53) hx hb hts in9 hown hG.1 hP 0 rfl rfl 19 (by decide) (hts (.fieldLink RX9 164 "ChairCaneModel" "p" "I") (mem_b bq_wsX9_test 0 2 rfl)) (fun _ h9 => h9) rfl dX9_test_165 ?_
      refine lv_iconst (v := 1) hx hb dX9_test_168 (by decide) ?_
      refine lv_iadd hx hb dX9_test_169 ?_
      refine va_put (D := D) (ci := 7) (v := .int ((mo.1 19) + 1)) (C := RX9) (T := TX9) (N := 53) hx hb hts in9 tyX9 tyX9_ok nmX9 hown hG.1 hP hD hS 0 rfl rfl 19 (by decide) (hts (.fieldLink RX9 164 "ChairCaneModel" "p" "I") (mem_b bq_wsX9_test 0 2 rfl)) (fun _ h9 => h9) rfl (tyX9_ok 19 (by decide)) rfl rfl (Nat.le_of_ble_eq_true rfl) dX9_test_170 (fun H locs hP hD hS => ?_)
      refine lv_aload_n hx hb dX9_test_173 rfl (lv_at hl 0 rfl) ?_
      refine lv_dup hx hb dX9_test_174 rfl ?_
      refine va_get (D := D) (ci := 7) (v := .int (mo.1 26)) (C := RX9) (T := TX9) (N := 53) hx hb hts in9 hown hG.1 hP 0 rfl rfl 26 (by decide) (hts (.fieldLink RX9 232 "ChairCaneModel" "opened" "I") (mem_b bq_wsX9_test 0 0 rfl)) (fun _ h9 => h9) rfl dX9_test_175 ?_
      refine lv_iconst (v := 1) hx hb dX9_test_178 (by decide) ?_
      refine lv_isub hx hb dX9_test_179 ?_
      refine va_put (D := D) (ci := 7) (v := .int ((mo.1 26) - 1)) (C := RX9) (T := TX9) (N := 53) hx hb hts in9 tyX9 tyX9_ok nmX9 hown hG.1 hP hD hS 0 rfl rfl 26 (by decide) (hts (.fieldLink RX9 232 "ChairCaneModel" "opened" "I") (mem_b bq_wsX9_test 0 0 rfl)) (fun _ h9 => h9) rfl (tyX9_ok 26 (by decide)) rfl rfl (Nat.le_of_ble_eq_true rfl) dX9_test_180 (fun H locs hP hD hS => ?_)
      refine lv_aload_n hx hb dX9_test_183 rfl (lv_at hl 0 rfl) ?_
      refine lv_dup hx hb dX9_test_184 rfl ?_
      refine va_get (D := D) (ci := 7) (v := .int (mo.1 24)) (C := RX9) (T := TX9) (N := 53) hx hb hts in9 hown hG.1 hP 0 rfl rfl 24 (by decide) (hts (.fieldLink RX9 235 "ChairCaneModel" "deep" "I") (mem_b bq_wsX9_test 0 3 rfl)) (fun _ h9 => h9) rfl dX9_test_185 ?_
      refine lv_iconst (v := 1) hx hb dX9_test_188 (by decide) ?_
      refine lv_isub hx hb dX9_test_189 ?_
      refine va_put (D := D) (ci := 7) (v := .int ((mo.1 24) - 1)) (C := RX9) (T := TX9) (N := 53) hx hb hts in9 tyX9 tyX9_ok nmX9 hown hG.1 hP hD hS 0 rfl rfl 24 (by decide) (hts (.fieldLink RX9 235 "ChairCaneModel" "deep" "I") (mem_b bq_wsX9_test 0 3 rfl)) (fun _ h9 => h9) rfl (tyX9_ok 24 (by decide)) rfl rfl (Nat.le_of_ble_eq_true rfl) dX9_test_190 (fun H locs hP hD hS => ?_)
      refine lv_goto (tgt := 198) hx hb dX9_test_193 (by decide) ?_
      exact B198 _ _ _ _ _ _ h hP hD hS hl
    refine lv_iload_n hx hb dX9_test_9 rfl (lv_at hl 2 rfl) ?_
    refine lv_if_eq (tgt := 201) hx hb dX9_test_10 (by decide) (fun c6 => ?_) (fun c6 => ?_)
    · have h := fw_t c6 h
      exact B201 _ _ _ _ h hP hD hS (lv_sub hl [] rfl)
    · have h := fw_f c6 h
      refine lv_aload_n hx hb dX9_test_13 rfl (lv_at hl 0 rfl) ?_
      refine va_get (D := D) (ci := 7) (v := .int (a9.2.2.1 20)) (C := RX9) (T := TX9) (N := 53) hx hb hts in9 hown hG.1 hP 0 rfl rfl 20 (by decide) (hts (.fieldLink RX9 161 "ChairCaneModel" "fault" "I") (mem_b bq_wsX9_test 0 1 rfl)) (fun _ h9 => h9) rfl dX9_test_14 ?_
      refine lv_if_ne (tgt := 201) hx hb dX9_test_17 (by decide) (fun c7 => ?_) (fun c7 => ?_)
      · have h := fw_f c7 h
        exact B201 _ _ _ _ h hP hD hS (lv_sub hl [] rfl)
      · have h := fw_t c7 h
        refine lv_iload_n hx hb dX9_test_20 rfl (lv_at hl 1 rfl) ?_
        refine lv_if_eq (tgt := 40) hx hb dX9_test_21 (by decide) (fun c8 => ?_) (fun c8 => ?_)
        · have h := fw_t c8 h
          refine lv_aload_n hx hb dX9_test_40 rfl (lv_at hl 0 rfl) ?_
          refine lv_bipush (v := 9) hx hb dX9_test_41 (by decide) ?_
          refine fw_Vv (As := [.int 9]) (rest := []) (n := 1) (wr := []) (wp := fun b : OB => moW k va b) h hx hb hml hown hts hG hA hP hD hS hl.1 (List.range (moW k va a9.2.2).length) [] (fun q hq9 => c_X9_answers l D k _  va F 9 a9.2.2  hq9) (ci := 7) (q0 := 0) rfl rfl gX9_test_X9_answers rfl ⟨rfl, rfl, Nat.le_of_ble_eq_true rfl, Nat.le_of_ble_eq_true rfl⟩ (by decide +kernel) (al_C _) rfl (al_n _) ⟨rfl, rfl, Nat.le_of_ble_eq_true rfl, Nat.le_of_ble_eq_true rfl, Nat.le_of_ble_eq_true rfl⟩ dX9_test_43 (fun q9 H locs h hP hD hS => ?_)
          obtain ⟨hP, hD⟩ := cv (w' := moW k va q9) hP hD rfl
          refine lv_aload_n hx hb dX9_test_46 rfl (lv_at hl 0 rfl) ?_
          refine fw_Vv (As := []) (rest := []) (n := 0) (wr := []) (wp := fun b : OB => moW k va b) h hx hb hml hown hts hG hA hP hD hS hl.1 (List.range (moW k va q9).length) [] (fun q hq9 => c_X9_blanks l D k _  va F  q9  hq9) (ci := 7) (q0 := 0) rfl rfl gX9_test_X9_blanks rfl ⟨rfl, rfl, Nat.le_of_ble_eq_true rfl, Nat.le_of_ble_eq_true rfl⟩ (by decide +kernel) (al_C _) rfl (al_n _) ⟨rfl, rfl, Nat.le_of_ble_eq_true rfl, Nat.le_of_ble_eq_true rfl, Nat.le_of_ble_eq_true rfl⟩ dX9_test_47 (fun q10 H locs h hP hD hS => ?_)
          obtain ⟨hP, hD⟩ := cv (w' := moW k va q10) hP hD rfl
          refine lv_aload_n hx hb dX9_test_50 rfl (lv_at hl 0 rfl) ?_
          refine va_ldcS hx hb hown hE.2.2.2.2.2.2.2.2.2.2.2.2.2.2.2.2.2.2.2.1 dX9_test_51 ?_
          refine fw_ViE (As := [.ref (ad 16)]) (rest := []) (n := 1) (wr := []) (rv := fun b : Int32 => b) (wp := fun b : Int32 => moW k va q10) h (EY.ok ad tv) hE hx hb hml hown hts hG hA hP hD hS hl.1 (List.range (moW k va q10).length) [] (fun q hq9 => c_X9_stood l D k _ ad tv va F 16 q10  hq9) (va_recv hG.1 hP (ci := 7) (q0 := 0) rfl rfl) gX9_test_X9_stood rfl ⟨rfl, rfl, Nat.le_of_ble_eq_true rfl, Nat.le_of_ble_eq_true rfl⟩ (by decide +kernel) (al_C _) rfl (al_n _) ⟨rfl, rfl, Nat.le_of_ble_eq_true rfl, Nat.le_of_ble_eq_true rfl, Nat.le_of_ble_eq_true rfl⟩ dX9_test_53 (fun q11 H locs h hP hD hS => ?_)
          obtain ⟨hP, hD⟩ := cv (w' := moW k va q10) hP hD rfl
          refine hc_is (z := q11) rfl ?_
          refine lv_istore_n (lv' := [(3, .int q11), (0, .ref (va 0)), (1, .int a9.1), (2, .int a9.2.1)]) hx hb dX9_test_56 rfl hl (by decide) rfl (fun ls hl => ?_)
          refine lv_aload_n hx hb dX9_test_57 rfl (lv_at hl 1 rfl) ?_
          refine hc_ldcw hx hb hown hE.2.2.2.2.2.2.2.2.2.2.2.2.2.2.2.2.2.2.1 dX9_test_58 ?_
          refine fw_ViE (As := [.ref (ad 15)]) (rest := []) (n := 1) (wr := []) (rv := fun b : Int32 => b) (wp := fun b : Int32 => moW k va q10) h (EY.ok ad tv) hE hx hb hml hown hts hG hA hP hD hS hl.1 (List.range (moW k va q10).length) [] (fun q hq9 => c_X9_stood l D k _ ad tv va F 15 q10  hq9) (va_recv hG.1 hP (ci := 7) (q0 := 0) rfl rfl) gX9_test_X9_stood rfl ⟨rfl, rfl, Nat.le_of_ble_eq_true rfl, Nat.le_of_ble_eq_true rfl⟩ (by decide +kernel) (al_C _) rfl (al_n _) ⟨rfl, rfl, Nat.le_of_ble_eq_true rfl, Nat.le_of_ble_eq_true rfl, Nat.le_of_ble_eq_true rfl⟩ dX9_test_61 (fun q12 H locs h hP hD hS => ?_)
          obtain ⟨hP, hD⟩ := cv (w' := moW k va q10) hP hD rfl
          refine hc_is (z := q12) rfl ?_
          refine lv_istore (lv' := [(4, .int q12), (3, .int q11), (0, .ref (va 0)), (1, .int a9.1), (2, .int a9.2.1)]) hx hb dX9_test_64 hl (by decide) rfl (fun ls hl => ?_)
          refine lv_aload_n hx hb dX9_test_66 rfl (lv_at hl 2 rfl) ?_
          refine lv_bipush (v := 10) hx hb dX9_test_67 (by decide) ?_
          refine fw_Vv (As := [.int 10]) (rest := []) (n := 1) (wr := []) (wp := fun b : OB => moW k va b) h hx hb hml hown hts hG hA hP hD hS hl.1 (List.range (moW k va q10).length) [] (fun q hq9 => c_X9_answers l D k _  va F 10 q10  hq9) (ci := 7) (q0 := 0) rfl rfl gX9_test_X9_answers rfl ⟨rfl, rfl, Nat.le_of_ble_eq_true rfl, Nat.le_of_ble_eq_true rfl⟩ (by decide +kernel) (al_C _) rfl (al_n _) ⟨rfl, rfl, Nat.le_of_ble_eq_true rfl, Nat.le_of_ble_eq_true rfl, Nat.le_of_ble_eq_true rfl⟩ dX9_test_69 (fun q13 H locs h hP hD hS => ?_)
          obtain ⟨hP, hD⟩ := cv (w' := moW k va q13) hP hD rfl
          refine lv_iload_n hx hb dX9_test_72 rfl (lv_at hl 1 rfl) ?_
          refine lv_if_ne (tgt := 81) hx hb dX9_test_73 (by decide) (fun c14 => ?_) (fun c14 => ?_)
          · have h := fw_f c14 h
            exact B81 _ _ _ _ _ _ _ h hP hD hS (lv_sub hl [2, 4, 1, 0] rfl)
          · have h := fw_t c14 h
            refine lv_iload hx hb dX9_test_76 (lv_at hl 0 rfl) ?_
            refine lv_if_eq (tgt := 130) hx hb dX9_test_78 (by decide) (fun c15 => ?_) (fun c15 => ?_)
            · have h := fw_t c15 h
              refine lv_aload_n hx hb dX9_test_130 rfl (lv_at hl 2 rfl) ?_
              refine lv_bipush (v := 11) hx hb dX9_test_131 (by decide) ?_
              refine fw_Vv (As := [.int 11]) (rest := []) (n := 1) (wr := []) (wp := fun b : OB => moW k va b) h hx hb hml hown hts hG hA hP hD hS hl.1 (List.range (moW k va q13).length) [] (fun q hq9 => c_X9_answers l D k _  va F 11 q13  hq9) (ci := 7) (q0 := 0) rfl rfl gX9_test_X9_answers rfl ⟨rfl, rfl, Nat.le_of_ble_eq_true rfl, Nat.le_of_ble_eq_true rfl⟩ (by decide +kernel) (al_C _) rfl (al_n _) ⟨rfl, rfl, Nat.le_of_ble_eq_true rfl, Nat.le_of_ble_eq_true rfl, Nat.le_of_ble_eq_true rfl⟩ dX9_test_133 (fun q16 H locs h hP hD hS => ?_)
              obtain ⟨hP, hD⟩ := cv (w' := moW k va q16) hP hD rfl
              refine lv_aload_n hx hb dX9_test_136 rfl (lv_at hl 2 rfl) ?_
              refine fw_Vi (As := []) (rest := []) (n := 0) (wr := []) (rv := fun b : Int32 => b) (wp := fun b : Int32 => moW k va q16) h hx hb hml hown hts hG hA hP hD hS hl.1 (List.range (moW k va q16).length) [] (fun q hq9 => c_X9_top l D k _  va F  q16  hq9) (ci := 7) (q0 := 0) rfl rfl gX9_test_X9_top rfl ⟨rfl, rfl, Nat.le_of_ble_eq_true rfl, Nat.le_of_ble_eq_true rfl⟩ (by decide +kernel) (al_C _) rfl (al_n _) ⟨rfl, rfl, Nat.le_of_ble_eq_true rfl, Nat.le_of_ble_eq_true rfl, Nat.le_of_ble_eq_true rfl⟩ dX9_test_137 (fun q17 H locs h hP hD hS => ?_)
              obtain ⟨hP, hD⟩ := cv (w' := moW k va q16) hP hD rfl
              refine hc_is (z := q17) rfl ?_
              refine lv_bipush (v := 12) hx hb dX9_test_140 (by decide) ?_
              refine lv_icmp_ne (tgt := 196) hx hb dX9_test_142 (by decide) (fun c18 => ?_) (fun c18 => ?_)
              · have h := fw_f c18 h
                refine lv_iconst (v := 0) hx hb dX9_test_196 (by decide) ?_
                refine lv_istore_n (lv' := [(2, .int 0), (4, .int q12), (3, .int q11), (0, .ref (va 0)), (1, .int a9.1)]) hx hb dX9_test_197 rfl hl (by decide) rfl (fun ls hl => ?_)
                exact B198 _ _ _ _ _ _ h hP hD hS (lv_sub hl [3, 4, 0] rfl)
              · have h := fw_t c18 h
                refine lv_aload_n hx hb dX9_test_145 rfl (lv_at hl 2 rfl) ?_
                refine fw_Vi (As := []) (rest := []) (n := 0) (wr := []) (rv := fun b : Int32 => b) (wp := fun b : Int32 => moW k va q16) h hx hb hml hown hts hG hA hP hD hS hl.1 (List.range (moW k va q16).length) [] (fun q hq9 => c_X9_sign l D k _  va F  q16  hq9) (ci := 7) (q0 := 0) rfl rfl gX9_test_X9_sign rfl ⟨rfl, rfl, Nat.le_of_ble_eq_true rfl, Nat.le_of_ble_eq_true rfl⟩ (by decide +kernel) (al_C _) rfl (al_n _) ⟨rfl, rfl, Nat.le_of_ble_eq_true rfl, Nat.le_of_ble_eq_true rfl, Nat.le_of_ble_eq_true rfl⟩ dX9_test_146 (fun q19 H locs h hP hD hS => ?_)
                obtain ⟨hP, hD⟩ := cv (w' := moW k va q16) hP hD rfl
                refine hc_is (z := q19) rfl ?_
                refine lv_bipush (v := 93) hx hb dX9_test_149 (by decide) ?_
                refine lv_icmp_eq (tgt := 163) hx hb dX9_test_151 (by decide) (fun c20 => ?_) (fun c20 => ?_)
                · have h := fw_t c20 h
                  exact B163 _ _ _ _ _ _ h hP hD hS (lv_sub hl [2, 3, 4] rfl)
                · have h := fw_f c20 h
                  refine lv_aload_n hx hb dX9_test_154 rfl (lv_at hl 2 rfl) ?_
                  refine lv_iconst (v := 0) hx hb dX9_test_155 (by decide) ?_
                  refine lv_aload_n hx hb dX9_test_156 rfl (lv_at hl 2 rfl) ?_
                  refine va_get (D := D) (ci := 7) (v := .int (q16.1 19)) (C := RX9) (T := TX9) (N := 53) hx hb hts in9 hown hG.1 hP 0 rfl rfl 19 (by decide) (hts (.fieldLink RX9 164 "ChairCaneModel" "p" "I") (mem_b bq_wsX9_test 0 2 rfl)) (fun _ h9 => h9) rfl dX9_test_157 ?_
                  refine fw_Vv (As := [.int 0, .int (q16.1 19)]) (rest := []) (n := 2) (wr := []) (wp := fun b : OB => moW k va b) h hx hb hml hown hts hG hA hP hD hS hl.1 (List.range (moW k va q16).length) [] (fun q hq9 => c_X9_fails l D k _  va F 0 (q16.1 19) q16  hq9) (ci := 7) (q0 := 0) rfl rfl gX9_test_X9_fails rfl ⟨rfl, rfl, Nat.le_of_ble_eq_true rfl, Nat.le_of_ble_eq_true rfl⟩ (by decide +kernel) (al_C _) rfl (al_n _) ⟨rfl, rfl, Nat.le_of_ble_eq_true rfl, Nat.le_of_ble_eq_true rfl, Nat.le_of_ble_eq_true rfl⟩ dX9_test_160 (fun q21 H locs h hP hD hS => ?_)
                  obtain ⟨hP, hD⟩ := cv (w' := moW k va q21) hP hD rfl
                  exact B163 _ _ _ _ _ _ h hP hD hS (lv_sub hl [2, 3, 4] rfl)
            · have h := fw_f c15 h
              exact B81 _ _ _ _ _ _ _ h hP hD hS (lv_sub hl [2, 4, 1, 0] rfl)
        · have h := fw_f c8 h
          refine lv_aload_n hx hb dX9_test_24 rfl (lv_at hl 0 rfl) ?_
          refine fw_ViE (As := []) (rest := []) (n := 0) (wr := []) (rv := fun b : Int32 × OB => b.1) (wp := fun b : Int32 × OB => moW k va b.2) h (EY.ok ad tv) hE hx hb hml hown hts hG hA hP hD hS hl.1 (List.range (moW k va a9.2.2).length) [] (fun q hq9 => c_X9_fact l D k _ ad tv va F  a9.2.2  hq9) (va_recv hG.1 hP (ci := 7) (q0 := 0) rfl rfl) gX9_test_X9_fact rfl ⟨rfl, rfl, Nat.le_of_ble_eq_true rfl, Nat.le_of_ble_eq_true rfl⟩ (by decide +kernel) (al_C _) rfl (al_n _) ⟨rfl, rfl, Nat.le_of_ble_eq_true rfl, Nat.le_of_ble_eq_true rfl, Nat.le_of_ble_eq_true rfl⟩ dX9_test_25 (fun q22 H locs h hP hD hS => ?_)
          obtain ⟨hP, hD⟩ := cv (w' := moW k va q22.2) hP hD rfl
          refine hc_is (z := q22.1) rfl ?_
          refine lv_if_ne (tgt := 35) hx hb dX9_test_28 (by decide) (fun c23 => ?_) (fun c23 => ?_)
          · have h := fw_f c23 h
            refine lv_iconst (v := 0) hx hb dX9_test_35 (by decide) ?_
            exact B36 _ _ _ _ _ _ h hP hD hS (lv_sub hl [0, 2] rfl)
          · have h := fw_t c23 h
            refine lv_iconst (v := 1) hx hb dX9_test_31 (by decide) ?_
            refine lv_goto (tgt := 36) hx hb dX9_test_32 (by decide) ?_
            exact B36 _ _ _ _ _ _ h hP hD hS (lv_sub hl [0, 2] rfl)
  have C9 : ∀ (v1 : Int32) (v2 : Int32) (mo : OB), lp (b_X9_test_9 F) F (v1, v2, mo) = some res → ∀ (H : Heap) (locs : List Loc) (ls : Array Slot), va_P D vwCl (moW k va mo) H → va_D A (moW k va mo) → va_S A s.heap H locs → lv_has ls 5 [(0, .ref (va 0)), (1, .int v1), (2, .int v2)] → W p l e (rmK 11 0 0) s m (List.toArray [.ref (va 0)]) below meth c H locs 0 0 (MQ below (va_Qv (fun (_ : Unit) => True) (hcB D (fun _ : Unit => moW k va res) A) A) (List.toArray [.ref (va 0)]) s 0 0 A) (F0 m 9 ls []) := fun v1 v2 mo => B9 (v1, v2, mo)
  refine lv_aload_n hx hb dX9_test_0 rfl (lv_at hl 0 rfl) ?_
  refine lv_iconst (v := 0) hx hb dX9_test_1 (by decide) ?_
  refine va_put (D := D) (ci := 7) (v := .int 0) (C := RX9) (T := TX9) (N := 53) hx hb hts in9 tyX9 tyX9_ok nmX9 hown hG.1 hP hD hS 0 rfl rfl 26 (by decide) (hts (.fieldLink RX9 232 "ChairCaneModel" "opened" "I") (mem_b bq_wsX9_test 0 0 rfl)) (fun _ h9 => h9) rfl (tyX9_ok 26 (by decide)) rfl rfl (Nat.le_of_ble_eq_true rfl) dX9_test_2 (fun H locs hP hD hS => ?_)
  refine lv_iconst (v := 1) hx hb dX9_test_5 (by decide) ?_
  refine lv_istore_n (lv' := [(1, .int 1), (0, .ref (va 0))]) hx hb dX9_test_6 rfl hl (by decide) rfl (fun ls hl => ?_)
  refine lv_iconst (v := 1) hx hb dX9_test_7 (by decide) ?_
  refine lv_istore_n (lv' := [(2, .int 1), (1, .int 1), (0, .ref (va 0))]) hx hb dX9_test_8 rfl hl (by decide) rfl (fun ls hl => ?_)
  exact C9 _ _ _ h _ _ _ hP hD hS (lv_sub hl [2, 1, 0] rfl)
noncomputable def b_X9_amount_54 (F : Nat)    (v4 : Int32) (mo : OB) : Option (Int32 × OB) :=
  some (v4, mo)
noncomputable def b_X9_amount_26 (F : Nat)    (v1 : Int32) (v2 : Int32) (v3 : Int32) (y0 : Int32) (mo : OB) : Option (Int32 × OB) :=
  if (mo.1 20) = 0 then (Option.bind (f_X9_in F (Int32.toInt64 y0) (Int32.toInt64 v1) (Int32.toInt64 v2)) (fun q2 => (if q2 = 0 then (Option.bind (f_X9_fails F 1 v3 mo) (fun q4 => (b_X9_amount_54 F y0 q4))) else (b_X9_amount_54 F y0 mo)))) else (b_X9_amount_54 F y0 mo)
noncomputable def f_X9_amount (F : Nat)  (x1 : Int32) (x2 : Int32) (mo : OB) : Option (Int32 × OB) :=
  Option.bind (f_X9_blanks F mo) (fun q5 => (if (q5.1 20) = 0 then (Option.bind (f_X9_digits F 99999 q5) (fun q7 => (b_X9_amount_26 F x1 x2 (q5.1 19) q7.1 q7.2))) else (b_X9_amount_26 F x1 x2 (q5.1 19) 0 q5)))
set_option maxHeartbeats 4000000 in
set_option maxRecDepth 100000 in
theorem c_X9_amount (l : Launch) (D : va_G) (k : Nat → ClassId) (sz : Nat)  (va : Nat → Nat) (F : Nat)  (x1 : Int32) (x2 : Int32) (mo : OB)  {res : Int32 × OB} (h : f_X9_amount F x1 x2 mo = some res) : CtI l yX9_amount wsX9_amount (rmK 4 0 0) [.ref (va 0), .int x1, .int x2] D k sz (moW k va mo) (fun r (_ : Unit) => r = res.1) (fun _ : Unit => moW k va res.2) 0 0 := by
  refine CtI.mk (cc := cX9_amount) (maxL := 5) (ret := (some .int)) (by decide) rfl (Nat.le_of_ble_eq_true rfl) ?_
  intro p e s m below meth c A ls E hP hD hS hl
  obtain ⟨hx, hb, hr, hml, hown, hts, hlocks, hin, hG, hA⟩ := E
  have hown : s.vm.findClass RX9 = some m.cls := hown
  have in9 : ∀ w ∈ u_ws RX9 TX9 53, w ∈ wsX9_amount := fun _ h => List.mem_cons_of_mem _ (List.mem_append_right _ h)
  have hl : lv_has ls 5 [(0, .ref (va 0)), (1, .int x1), (2, .int x2)] := hl
  have B54 : ∀ (v4 : Int32) (mo : OB) (H : Heap) (locs : List Loc) (ls : Array Slot), b_X9_amount_54 F v4 mo = some res → va_P D vwCl (moW k va mo) H → va_D A (moW k va mo) → va_S A s.heap H locs → lv_has ls 5 [(4, .int v4)] → W p l e (rmK 4 0 0) s m (List.toArray [.ref (va 0), .int x1, .int x2]) below meth c H locs 0 0 (MQ below (va_Qi (fun r (_ : Unit) => r = res.1) (hcB D (fun _ : Unit => moW k va res.2) A) A) (List.toArray [.ref (va 0), .int x1, .int x2]) s 0 0 A) (F0 m 54 ls []) := by
    intro v4 mo H locs ls h hP hD hS hl
    refine lv_iload hx hb dX9_amount_54 (lv_at hl 0 rfl) ?_
    exact fw_endI (rv := fun b : Int32 × OB => b.1) (wp := fun b : Int32 × OB => moW k va b.2) hx hb hr hlocks h rfl hP hD hS dX9_amount_56
  have B26 : ∀ (v1 : Int32) (v2 : Int32) (v3 : Int32) (y0 : Int32) (mo : OB) (H : Heap) (locs : List Loc) (ls : Array Slot), b_X9_amount_26 F v1 v2 v3 y0 mo = some res → va_P D vwCl (moW k va mo) H → va_D A (moW k va mo) → va_S A s.heap H locs → lv_has ls 5 [(0, .ref (va 0)), (1, .int v1), (2, .int v2), (3, .int v3)] → W p l e (rmK 4 0 0) s m (List.toArray [.ref (va 0), .int x1, .int x2]) below meth c H locs 0 0 (MQ below (va_Qi (fun r (_ : Unit) => r = res.1) (hcB D (fun _ : Unit => moW k va res.2) A) A) (List.toArray [.ref (va 0), .int x1, .int x2]) s 0 0 A) (F0 m 26 ls [.int y0]) := by
    intro v1 v2 v3 y0 mo H locs ls h hP hD hS hl
    refine lv_istore (lv' := [(4, .int y0), (0, .ref (va 0)), (1, .int v1), (2, .int v2), (3, .int v3)]) hx hb dX9_amount_26 hl (by decide) rfl (fun ls hl => ?_)
    refine lv_aload_n hx hb dX9_amount_28 rfl (lv_at hl 1 rfl) ?_
    refine va_get (D := D) (ci := 7) (v := .int (mo.1 20)) (C := RX9) (T := TX9) (N := 53) hx hb hts in9 hown hG.1 hP 0 rfl rfl 20 (by decide) (hts (.fieldLink RX9 161 "ChairCaneModel" "fault" "I") (mem_b bq_wsX9_amount 0 1 rfl)) (fun _ h9 => h9) rfl dX9_amount_29 ?_
    refine lv_if_ne (tgt := 54) hx hb dX9_amount_32 (by decide) (fun c1 => ?_) (fun c1 => ?_)
    · have h := fw_f c1 h
      exact B54 _ _ _ _ _ h hP hD hS (lv_sub hl [0] rfl)
    · have h := fw_t c1 h
      refine lv_iload hx hb dX9_amount_35 (lv_at hl 0 rfl) ?_
      refine lv_i2l hx hb dX9_amount_37 rfl ?_
      refine lv_iload_n hx hb dX9_amount_38 rfl (lv_at hl 2 rfl) ?_
      refine lv_i2l hx hb dX9_amount_39 rfl ?_
      refine lv_iload_n hx hb dX9_amount_40 rfl (lv_at hl 3 rfl) ?_
      refine lv_i2l hx hb dX9_amount_41 rfl ?_
      refine fw_Si (As := [.long (Int32.toInt64 y0), .long (Int32.toInt64 v1), .long (Int32.toInt64 v2)]) (rest := []) (n := 3) (wr := moW k va mo) (rv := fun b : Int32 => b) (wp := fun b : Int32 => []) h hx hb hml hown hts hG hA hP hD hS hl.1 [] (List.range (moW k va mo).length) (fun q hq9 => c_X9_in l D k _   F (Int32.toInt64 y0) (Int32.toInt64 v1) (Int32.toInt64 v2)   hq9) gX9_amount_X9_in rfl ⟨rfl, rfl, Nat.le_of_ble_eq_true rfl, Nat.le_of_ble_eq_true rfl⟩ (by decide +kernel) rfl (al_C _) (al_m _) ⟨rfl, rfl, Nat.le_of_ble_eq_true rfl, Nat.le_of_ble_eq_true rfl, Nat.le_of_ble_eq_true rfl⟩ dX9_amount_42 (fun q2 H locs h hP hD hS => ?_)
      obtain ⟨hP, hD⟩ := cv (w' := (moW k va mo) ++ []) hP hD rfl
      rw [List.append_nil] at hP hD
      refine hc_is (z := q2) rfl ?_
      refine lv_if_ne (tgt := 54) hx hb dX9_amount_45 (by decide) (fun c3 => ?_) (fun c3 => ?_)
      · have h := fw_f c3 h
        exact B54 _ _ _ _ _ h hP hD hS (lv_sub hl [0] rfl)
      · have h := fw_t c3 h
        refine lv_aload_n hx hb dX9_amount_48 rfl (lv_at hl 1 rfl) ?_
        refine lv_iconst (v := 1) hx hb dX9_amount_49 (by decide) ?_
        refine lv_iload_n hx hb dX9_amount_50 rfl (lv_at hl 4 rfl) ?_
        refine fw_Vv (As := [.int 1, .int v3]) (rest := []) (n := 2) (wr := []) (wp := fun b : OB => moW k va b) h hx hb hml hown hts hG hA hP hD hS hl.1 (List.range (moW k va mo).length) [] (fun q hq9 => c_X9_fails l D k _  va F 1 v3 mo  hq9) (ci := 7) (q0 := 0) rfl rfl gX9_amount_X9_fails rfl ⟨rfl, rfl, Nat.le_of_ble_eq_true rfl, Nat.le_of_ble_eq_true rfl⟩ (by decide +kernel) (al_C _) rfl (al_n _) ⟨rfl, rfl, Nat.le_of_ble_eq_true rfl, Nat.le_of_ble_eq_true rfl, Nat.le_of_ble_eq_true rfl⟩ dX9_amount_51 (fun q4 H locs h hP hD hS => ?_)
        obtain ⟨hP, hD⟩ := cv (w' := moW k va q4) hP hD rfl
        exact B54 _ _ _ _ _ h hP hD hS (lv_sub hl [0] rfl)
  refine lv_aload_n hx hb dX9_amount_0 rfl (lv_at hl 0 rfl) ?_
  refine fw_Vv (As := []) (rest := []) (n := 0) (wr := []) (wp := fun b : OB => moW k va b) h hx hb hml hown hts hG hA hP hD hS hl.1 (List.range (moW k va mo).length) [] (fun q hq9 => c_X9_blanks l D k _  va F  mo  hq9) (ci := 7) (q0 := 0) rfl rfl gX9_amount_X9_blanks rfl ⟨rfl, rfl, Nat.le_of_ble_eq_true rfl, Nat.le_of_ble_eq_true rfl⟩ (by decide +kernel) (al_C _) rfl (al_n _) ⟨rfl, rfl, Nat.le_of_ble_eq_true rfl, Nat.le_of_ble_eq_true rfl, Nat.le_of_ble_eq_true rfl⟩ dX9_amount_1 (fun q5 H locs h hP hD hS => ?_)
  obtain ⟨hP, hD⟩ := cv (w' := moW k va q5) hP hD rfl
  refine lv_aload_n hx hb dX9_amount_4 rfl (lv_at hl 0 rfl) ?_
  refine va_get (D := D) (ci := 7) (v := .int (q5.1 19)) (C := RX9) (T := TX9) (N := 53) hx hb hts in9 hown hG.1 hP 0 rfl rfl 19 (by decide) (hts (.fieldLink RX9 164 "ChairCaneModel" "p" "I") (mem_b bq_wsX9_amount 0 0 rfl)) (fun _ h9 => h9) rfl dX9_amount_5 ?_
  refine lv_istore_n (lv' := [(3, .int (q5.1 19)), (0, .ref (va 0)), (1, .int x1), (2, .int x2)]) hx hb dX9_amount_8 rfl hl (by decide) rfl (fun ls hl => ?_)
  refine lv_aload_n hx hb dX9_amount_9 rfl (lv_at hl 1 rfl) ?_
  refine va_get (D := D) (ci := 7) (v := .int (q5.1 20)) (C := RX9) (T := TX9) (N := 53) hx hb hts in9 hown hG.1 hP 0 rfl rfl 20 (by decide) (hts (.fieldLink RX9 161 "ChairCaneModel" "fault" "I") (mem_b bq_wsX9_amount 0 1 rfl)) (fun _ h9 => h9) rfl dX9_amount_10 ?_
  refine lv_if_ne (tgt := 25) hx hb dX9_amount_13 (by decide) (fun c6 => ?_) (fun c6 => ?_)
  · have h := fw_f c6 h
    refine lv_iconst (v := 0) hx hb dX9_amount_25 (by decide) ?_
    exact B26 _ _ _ _ _ _ _ _ h hP hD hS (lv_sub hl [1, 2, 3, 0] rfl)
  · have h := fw_t c6 h
    refine lv_aload_n hx hb dX9_amount_16 rfl (lv_at hl 1 rfl) ?_
    refine lv_ldc (v := 99999) hx hb hown (hts (.constant RX9 208 (99999)) (mem_b bq_wsX9_amount 0 2 rfl)) dX9_amount_17 ?_
    refine fw_Vi (As := [.int 99999]) (rest := []) (n := 1) (wr := []) (rv := fun b : Int32 × OB => b.1) (wp := fun b : Int32 × OB => moW k va b.2) h hx hb hml hown hts hG hA hP hD hS hl.1 (List.range (moW k va q5).length) [] (fun q hq9 => c_X9_digits l D k _  va F 99999 q5  hq9) (ci := 7) (q0 := 0) rfl rfl gX9_amount_X9_digits rfl ⟨rfl, rfl, Nat.le_of_ble_eq_true rfl, Nat.le_of_ble_eq_true rfl⟩ (by decide +kernel) (al_C _) rfl (al_n _) ⟨rfl, rfl, Nat.le_of_ble_eq_true rfl, Nat.le_of_ble_eq_true rfl, Nat.le_of_ble_eq_true rfl⟩ dX9_amount_19 (fun q7 H locs h hP hD hS => ?_)
    obtain ⟨hP, hD⟩ := cv (w' := moW k va q7.2) hP hD rfl
    refine hc_is (z := q7.1) rfl ?_
    refine lv_goto (tgt := 26) hx hb dX9_amount_22 (by decide) ?_
    exact B26 _ _ _ _ _ _ _ _ h hP hD hS (lv_sub hl [1, 2, 3, 0] rfl)
noncomputable def b_X9_sitterPart_110 (F : Nat)    (mo : OB) : Option (OB) :=
  some mo
noncomputable def b_X9_sitterPart_63 (F : Nat)   (k33 : (Int32 × Int32 × Int32 × Int32 × OB) → Option (OB)) (v1 : Int32) (v2 : Int32) (v3 : Int32) (v4 : Int32) (mo : OB) : Option (OB) :=
  k33 (v1, v2, v3, (v4 + 1), mo)
noncomputable def b_X9_sitterPart_33 (F : Nat)    (k33 : (Int32 × Int32 × Int32 × Int32 × OB) → Option (OB)) (a33 : (Int32 × Int32 × Int32 × Int32 × OB)) : Option (OB) :=
  if a33.2.2.1 ≤ a33.2.2.2.1 then (Option.bind (f_X9_amount F 1 20 a33.2.2.2.2) (fun q2 => (if (q2.2.1 20) = 0 then (if ib a33.2.2.1 8 then (b_X9_sitterPart_110 F (q2.2.1, (uF (uF (uF q2.2.2.1 12 (upd (q2.2.2.1 12) (Int32.toNatClampNeg 3) (((q2.2.2.1 12) (Int32.toNatClampNeg 3)) + 1))) 16 (upd (q2.2.2.1 16) (Int32.toNatClampNeg a33.2.2.1) a33.2.1)) 17 (upd (q2.2.2.1 17) (Int32.toNatClampNeg a33.2.2.1) q2.1)), q2.2.2.2)) else none) else (b_X9_sitterPart_110 F q2.2)))) else (if (a33.2.2.2.2.1 20) = 0 then (if ib a33.2.2.2.1 8 then (if ((a33.2.2.2.2.2.1 16) (Int32.toNatClampNeg a33.2.2.2.1)) = a33.2.1 then (Option.bind (f_X9_fails F 1 a33.1 a33.2.2.2.2) (fun q8 => (b_X9_sitterPart_63 F k33 a33.1 a33.2.1 a33.2.2.1 a33.2.2.2.1 q8))) else (b_X9_sitterPart_63 F k33 a33.1 a33.2.1 a33.2.2.1 a33.2.2.2.1 a33.2.2.2.2)) else none) else (b_X9_sitterPart_63 F k33 a33.1 a33.2.1 a33.2.2.1 a33.2.2.2.1 a33.2.2.2.2))
noncomputable def f_X9_sitterPart (F : Nat)   (mo : OB) : Option (OB) :=
  Option.bind (f_X9_blanks F mo) (fun q9 => (Option.bind (f_X9_amount F 0 (((q9.2.1 12) (Int32.toNatClampNeg 2)) - 1) q9) (fun q10 => (lp (b_X9_sitterPart_33 F) F ((q9.1 19), q10.1, ((q10.2.2.1 12) (Int32.toNatClampNeg 3)), 0, q10.2)))))
set_option maxHeartbeats 4000000 in
set_option maxRecDepth 100000 in
theorem c_X9_sitterPart (l : Launch) (D : va_G) (k : Nat → ClassId) (sz : Nat)  (va : Nat → Nat) (F : Nat)   (mo : OB)  {res : OB} (h : f_X9_sitterPart F mo = some res) : CtV l yX9_sitterPart wsX9_sitterPart (rmK 5 0 0) [.ref (va 0)] D k sz (moW k va mo) (fun (_ : Unit) => True) (fun _ : Unit => moW k va res) 0 0 := by
  refine CtV.mk (cc := cX9_sitterPart) (maxL := 5) (ret := none) (by decide) rfl (Nat.le_of_ble_eq_true rfl) ?_
  intro p e s m below meth c A ls E hP hD hS hl
  obtain ⟨hx, hb, hr, hml, hown, hts, hlocks, hin, hG, hA⟩ := E
  have hown : s.vm.findClass RX9 = some m.cls := hown
  have in9 : ∀ w ∈ u_ws RX9 TX9 53, w ∈ wsX9_sitterPart := fun _ h => List.mem_cons_of_mem _ (List.mem_append_right _ h)
  have hl : lv_has ls 5 [(0, .ref (va 0))] := hl
  have B110 : ∀ (mo : OB) (H : Heap) (locs : List Loc) (ls : Array Slot), b_X9_sitterPart_110 F mo = some res → va_P D vwCl (moW k va mo) H → va_D A (moW k va mo) → va_S A s.heap H locs → lv_has ls 5 [] → W p l e (rmK 5 0 0) s m (List.toArray [.ref (va 0)]) below meth c H locs 0 0 (MQ below (va_Qv (fun (_ : Unit) => True) (hcB D (fun _ : Unit => moW k va res) A) A) (List.toArray [.ref (va 0)]) s 0 0 A) (F0 m 110 ls []) := by
    intro mo H locs ls h hP hD hS hl
    exact fw_endV (wp := fun b : OB => moW k va b) hx hb hr hlocks h hP hD hS dX9_sitterPart_110
  have B33 : ∀ a33 : (Int32 × Int32 × Int32 × Int32 × OB), lp (b_X9_sitterPart_33 F) F a33 = some res → ∀ (H : Heap) (locs : List Loc) (ls : Array Slot), va_P D vwCl (moW k va a33.2.2.2.2) H → va_D A (moW k va a33.2.2.2.2) → va_S A s.heap H locs → lv_has ls 5 [(0, .ref (va 0)), (1, .int a33.1), (2, .int a33.2.1), (3, .int a33.2.2.1), (4, .int a33.2.2.2.1)] → W p l e (rmK 5 0 0) s m (List.toArray [.ref (va 0)]) below meth c H locs 0 0 (MQ below (va_Qv (fun (_ : Unit) => True) (hcB D (fun _ : Unit => moW k va res) A) A) (List.toArray [.ref (va 0)]) s 0 0 A) (F0 m 33 ls []) := by
    refine lp_W ?_ F
    intro k33 hk33 a33 h H locs ls hP hD hS hl
    have hc33 : ∀ (v1 : Int32) (v2 : Int32) (v3 : Int32) (v4 : Int32) (mo : OB), k33 (v1, v2, v3, v4, mo) = some res → ∀ (H : Heap) (locs : List Loc) (ls : Array Slot), va_P D vwCl (moW k va mo) H → va_D A (moW k va mo) → va_S A s.heap H locs → lv_has ls 5 [(0, .ref (va 0)), (1, .int v1), (2, .int v2), (3, .int v3), (4, .int v4)] → W p l e (rmK 5 0 0) s m (List.toArray [.ref (va 0)]) below meth c H locs 0 0 (MQ below (va_Qv (fun (_ : Unit) => True) (hcB D (fun _ : Unit => moW k va res) A) A) (List.toArray [.ref (va 0)]) s 0 0 A) (F0 m 33 ls []) := fun v1 v2 v3 v4 mo => hk33 (v1, v2, v3, v4, mo)
    have B63 : ∀ (v1 : Int32) (v2 : Int32) (v3 : Int32) (v4 : Int32) (mo : OB) (H : Heap) (locs : List Loc) (ls : Array Slot), b_X9_sitterPart_63 F k33 v1 v2 v3 v4 mo = some res → va_P D vwCl (moW k va mo) H → va_D A (moW k va mo) → va_S A s.heap H locs → lv_has ls 5 [(0, .ref (va 0)), (1, .int v1), (2, .int v2), (3, .int v3), (4, .int v4)] → W p l e (rmK 5 0 0) s m (List.toArray [.ref (va 0)]) below meth c H locs 0 0 (MQ below (va_Qv (fun (_ : Unit) => True) (hcB D (fun _ : Unit => moW k va res) A) A) (List.toArray [.ref (va 0)]) s 0 0 A) (F0 m 63 ls []) := by
      intro v1 v2 v3 v4 mo H locs ls h hP hD hS hl
      refine lv_iinc (v := (v4 + 1)) (lv' := [(4, .int (v4 + 1)), (0, .ref (va 0)), (1, .int v1), (2, .int v2), (3, .int v3)]) hx hb dX9_sitterPart_63 hl (k := 4) rfl rfl (by decide) rfl (fun ls hl => ?_)
      refine lv_goto (tgt := 33) hx hb dX9_sitterPart_66 (by decide) ?_
      exact hc33 _ _ _ _ _ h _ _ _ hP hD hS (lv_sub hl [1, 2, 3, 4, 0] rfl)
    refine lv_iload hx hb dX9_sitterPart_33 (lv_at hl 4 rfl) ?_
    refine lv_iload_n hx hb dX9_sitterPart_35 rfl (lv_at hl 3 rfl) ?_
    refine lv_icmp_ge (tgt := 69) hx hb dX9_sitterPart_36 (by decide) (fun c1 => ?_) (fun c1 => ?_)
    · have h := fw_t c1 h
      refine lv_aload_n hx hb dX9_sitterPart_69 rfl (lv_at hl 0 rfl) ?_
      refine lv_iconst (v := 1) hx hb dX9_sitterPart_70 (by decide) ?_
      refine lv_bipush (v := 20) hx hb dX9_sitterPart_71 (by decide) ?_
      refine fw_Vi (As := [.int 1, .int 20]) (rest := []) (n := 2) (wr := []) (rv := fun b : Int32 × OB => b.1) (wp := fun b : Int32 × OB => moW k va b.2) h hx hb hml hown hts hG hA hP hD hS hl.1 (List.range (moW k va a33.2.2.2.2).length) [] (fun q hq9 => c_X9_amount l D k _  va F 1 20 a33.2.2.2.2  hq9) (ci := 7) (q0 := 0) rfl rfl gX9_sitterPart_X9_amount rfl ⟨rfl, rfl, Nat.le_of_ble_eq_true rfl, Nat.le_of_ble_eq_true rfl⟩ (by decide +kernel) (al_C _) rfl (al_n _) ⟨rfl, rfl, Nat.le_of_ble_eq_true rfl, Nat.le_of_ble_eq_true rfl, Nat.le_of_ble_eq_true rfl⟩ dX9_sitterPart_73 (fun q2 H locs h hP hD hS => ?_)
      obtain ⟨hP, hD⟩ := cv (w' := moW k va q2.2) hP hD rfl
      refine hc_is (z := q2.1) rfl ?_
      refine lv_istore (lv' := [(4, .int q2.1), (0, .ref (va 0)), (1, .int a33.1), (2, .int a33.2.1), (3, .int a33.2.2.1)]) hx hb dX9_sitterPart_76 hl (by decide) rfl (fun ls hl => ?_)
      refine lv_aload_n hx hb dX9_sitterPart_78 rfl (lv_at hl 1 rfl) ?_
      refine va_get (D := D) (ci := 7) (v := .int (q2.2.1 20)) (C := RX9) (T := TX9) (N := 53) hx hb hts in9 hown hG.1 hP 0 rfl rfl 20 (by decide) (hts (.fieldLink RX9 161 "ChairCaneModel" "fault" "I") (mem_b bq_wsX9_sitterPart 0 2 rfl)) (fun _ h9 => h9) rfl dX9_sitterPart_79 ?_
      refine lv_if_ne (tgt := 110) hx hb dX9_sitterPart_82 (by decide) (fun c3 => ?_) (fun c3 => ?_)
      · have h := fw_f c3 h
        exact B110 _ _ _ _ h hP hD hS (lv_sub hl [] rfl)
      · have h := fw_t c3 h
        refine lv_aload_n hx hb dX9_sitterPart_85 rfl (lv_at hl 1 rfl) ?_
        refine va_get (D := D) (ci := 7) (v := .ref (va 16)) (C := RX9) (T := TX9) (N := 53) hx hb hts in9 hown hG.1 hP 0 rfl rfl 16 (by decide) (hts (.fieldLink RX9 55 "ChairCaneModel" "newChair" "[I") (mem_b bq_wsX9_sitterPart 0 3 rfl)) (fun _ h9 => h9) rfl dX9_sitterPart_86 ?_
        refine lv_iload_n hx hb dX9_sitterPart_89 rfl (lv_at hl 4 rfl) ?_
        refine lv_iload_n hx hb dX9_sitterPart_90 rfl (lv_at hl 3 rfl) ?_
        obtain ⟨g4, h⟩ := fw_g h
        refine va_iast hx hb hG.1 hP hD hS 16 0 rfl rfl (ib_vp g4) dX9_sitterPart_91 (fun H locs hP hD hS => ?_)
        refine lv_aload_n hx hb dX9_sitterPart_92 rfl (lv_at hl 1 rfl) ?_
        refine va_get (D := D) (ci := 7) (v := .ref (va 17)) (C := RX9) (T := TX9) (N := 53) hx hb hts in9 hown hG.1 hP 0 rfl rfl 17 (by decide) (hts (.fieldLink RX9 58 "ChairCaneModel" "newWeight" "[I") (mem_b bq_wsX9_sitterPart 0 4 rfl)) (fun _ h9 => h9) rfl dX9_sitterPart_93 ?_
        refine lv_iload_n hx hb dX9_sitterPart_96 rfl (lv_at hl 4 rfl) ?_
        refine lv_iload hx hb dX9_sitterPart_97 (lv_at hl 0 rfl) ?_
        refine va_iast hx hb hG.1 hP hD hS 17 0 rfl rfl (ib_vp g4) dX9_sitterPart_99 (fun H locs hP hD hS => ?_)
        refine lv_aload_n hx hb dX9_sitterPart_100 rfl (lv_at hl 1 rfl) ?_
        refine va_get (D := D) (ci := 7) (v := .ref (va 12)) (C := RX9) (T := TX9) (N := 53) hx hb hts in9 hown hG.1 hP 0 rfl rfl 12 (by decide) (hts (.fieldLink RX9 43 "ChairCaneModel" "newScalar" "[I") (mem_b bq_wsX9_sitterPart 0 1 rfl)) (fun _ h9 => h9) rfl dX9_sitterPart_101 ?_
        refine lv_iconst (v := 3) hx hb dX9_sitterPart_104 (by decide) ?_
        refine lv_dup2_11 hx hb dX9_sitterPart_105 rfl rfl ?_
        refine va_iald hx hb hG.1 hP 12 0 rfl rfl (by unfold vp_in; decide) dX9_sitterPart_106 ?_
        refine lv_iconst (v := 1) hx hb dX9_sitterPart_107 (by decide) ?_
        refine lv_iadd hx hb dX9_sitterPart_108 ?_
        refine va_iast hx hb hG.1 hP hD hS 12 0 rfl rfl (by unfold vp_in; decide) dX9_sitterPart_109 (fun H locs hP hD hS => ?_)
        exact B110 _ _ _ _ h hP hD hS (lv_sub hl [] rfl)
    · have h := fw_f c1 h
      refine lv_aload_n hx hb dX9_sitterPart_39 rfl (lv_at hl 0 rfl) ?_
      refine va_get (D := D) (ci := 7) (v := .int (a33.2.2.2.2.1 20)) (C := RX9) (T := TX9) (N := 53) hx hb hts in9 hown hG.1 hP 0 rfl rfl 20 (by decide) (hts (.fieldLink RX9 161 "ChairCaneModel" "fault" "I") (mem_b bq_wsX9_sitterPart 0 2 rfl)) (fun _ h9 => h9) rfl dX9_sitterPart_40 ?_
      refine lv_if_ne (tgt := 63) hx hb dX9_sitterPart_43 (by decide) (fun c5 => ?_) (fun c5 => ?_)
      · have h := fw_f c5 h
        exact B63 _ _ _ _ _ _ _ _ h hP hD hS hl
      · have h := fw_t c5 h
        refine lv_aload_n hx hb dX9_sitterPart_46 rfl (lv_at hl 0 rfl) ?_
        refine va_get (D := D) (ci := 7) (v := .ref (va 16)) (C := RX9) (T := TX9) (N := 53) hx hb hts in9 hown hG.1 hP 0 rfl rfl 16 (by decide) (hts (.fieldLink RX9 55 "ChairCaneModel" "newChair" "[I") (mem_b bq_wsX9_sitterPart 0 3 rfl)) (fun _ h9 => h9) rfl dX9_sitterPart_47 ?_
        refine lv_iload hx hb dX9_sitterPart_50 (lv_at hl 4 rfl) ?_
        obtain ⟨g6, h⟩ := fw_g h
        refine va_iald hx hb hG.1 hP 16 0 rfl rfl (ib_vp g6) dX9_sitterPart_52 ?_
        refine lv_iload_n hx hb dX9_sitterPart_53 rfl (lv_at hl 2 rfl) ?_
        refine lv_icmp_ne (tgt := 63) hx hb dX9_sitterPart_54 (by decide) (fun c7 => ?_) (fun c7 => ?_)
        · have h := fw_f c7 h
          exact B63 _ _ _ _ _ _ _ _ h hP hD hS hl
        · have h := fw_t c7 h
          refine lv_aload_n hx hb dX9_sitterPart_57 rfl (lv_at hl 0 rfl) ?_
          refine lv_iconst (v := 1) hx hb dX9_sitterPart_58 (by decide) ?_
          refine lv_iload_n hx hb dX9_sitterPart_59 rfl (lv_at hl 1 rfl) ?_
          refine fw_Vv (As := [.int 1, .int a33.1]) (rest := []) (n := 2) (wr := []) (wp := fun b : OB => moW k va b) h hx hb hml hown hts hG hA hP hD hS hl.1 (List.range (moW k va a33.2.2.2.2).length) [] (fun q hq9 => c_X9_fails l D k _  va F 1 a33.1 a33.2.2.2.2  hq9) (ci := 7) (q0 := 0) rfl rfl gX9_sitterPart_X9_fails rfl ⟨rfl, rfl, Nat.le_of_ble_eq_true rfl, Nat.le_of_ble_eq_true rfl⟩ (by decide +kernel) (al_C _) rfl (al_n _) ⟨rfl, rfl, Nat.le_of_ble_eq_true rfl, Nat.le_of_ble_eq_true rfl, Nat.le_of_ble_eq_true rfl⟩ dX9_sitterPart_60 (fun q8 H locs h hP hD hS => ?_)
          obtain ⟨hP, hD⟩ := cv (w' := moW k va q8) hP hD rfl
          exact B63 _ _ _ _ _ _ _ _ h hP hD hS hl
  have C33 : ∀ (v1 : Int32) (v2 : Int32) (v3 : Int32) (v4 : Int32) (mo : OB), lp (b_X9_sitterPart_33 F) F (v1, v2, v3, v4, mo) = some res → ∀ (H : Heap) (locs : List Loc) (ls : Array Slot), va_P D vwCl (moW k va mo) H → va_D A (moW k va mo) → va_S A s.heap H locs → lv_has ls 5 [(0, .ref (va 0)), (1, .int v1), (2, .int v2), (3, .int v3), (4, .int v4)] → W p l e (rmK 5 0 0) s m (List.toArray [.ref (va 0)]) below meth c H locs 0 0 (MQ below (va_Qv (fun (_ : Unit) => True) (hcB D (fun _ : Unit => moW k va res) A) A) (List.toArray [.ref (va 0)]) s 0 0 A) (F0 m 33 ls []) := fun v1 v2 v3 v4 mo => B33 (v1, v2, v3, v4, mo)
  refine lv_aload_n hx hb dX9_sitterPart_0 rfl (lv_at hl 0 rfl) ?_
  refine fw_Vv (As := []) (rest := []) (n := 0) (wr := []) (wp := fun b : OB => moW k va b) h hx hb hml hown hts hG hA hP hD hS hl.1 (List.range (moW k va mo).length) [] (fun q hq9 => c_X9_blanks l D k _  va F  mo  hq9) (ci := 7) (q0 := 0) rfl rfl gX9_sitterPart_X9_blanks rfl ⟨rfl, rfl, Nat.le_of_ble_eq_true rfl, Nat.le_of_ble_eq_true rfl⟩ (by decide +kernel) (al_C _) rfl (al_n _) ⟨rfl, rfl, Nat.le_of_ble_eq_true rfl, Nat.le_of_ble_eq_true rfl, Nat.le_of_ble_eq_true rfl⟩ dX9_sitterPart_1 (fun q9 H locs h hP hD hS => ?_)
  obtain ⟨hP, hD⟩ := cv (w' := moW k va q9) hP hD rfl
  refine lv_aload_n hx hb dX9_sitterPart_4 rfl (lv_at hl 0 rfl) ?_
  refine va_get (D := D) (ci := 7) (v := .int (q9.1 19)) (C := RX9) (T := TX9) (N := 53) hx hb hts in9 hown hG.1 hP 0 rfl rfl 19 (by decide) (hts (.fieldLink RX9 164 "ChairCaneModel" "p" "I") (mem_b bq_wsX9_sitterPart 0 0 rfl)) (fun _ h9 => h9) rfl dX9_sitterPart_5 ?_
  refine lv_istore_n (lv' := [(1, .int (q9.1 19)), (0, .ref (va 0))]) hx hb dX9_sitterPart_8 rfl hl (by decide) rfl (fun ls hl => ?_)
  refine lv_aload_n hx hb dX9_sitterPart_9 rfl (lv_at hl 1 rfl) ?_
  refine lv_iconst (v := 0) hx hb dX9_sitterPart_10 (by decide) ?_
  refine lv_aload_n hx hb dX9_sitterPart_11 rfl (lv_at hl 1 rfl) ?_
  refine va_get (D := D) (ci := 7) (v := .ref (va 12)) (C := RX9) (T := TX9) (N := 53) hx hb hts in9 hown hG.1 hP 0 rfl rfl 12 (by decide) (hts (.fieldLink RX9 43 "ChairCaneModel" "newScalar" "[I") (mem_b bq_wsX9_sitterPart 0 1 rfl)) (fun _ h9 => h9) rfl dX9_sitterPart_12 ?_
  refine lv_iconst (v := 2) hx hb dX9_sitterPart_15 (by decide) ?_
  refine va_iald hx hb hG.1 hP 12 0 rfl rfl (by unfold vp_in; decide) dX9_sitterPart_16 ?_
  refine lv_iconst (v := 1) hx hb dX9_sitterPart_17 (by decide) ?_
  refine lv_isub hx hb dX9_sitterPart_18 ?_
  refine fw_Vi (As := [.int 0, .int (((q9.2.1 12) (Int32.toNatClampNeg 2)) - 1)]) (rest := []) (n := 2) (wr := []) (rv := fun b : Int32 × OB => b.1) (wp := fun b : Int32 × OB => moW k va b.2) h hx hb hml hown hts hG hA hP hD hS hl.1 (List.range (moW k va q9).length) [] (fun q hq9 => c_X9_amount l D k _  va F 0 (((q9.2.1 12) (Int32.toNatClampNeg 2)) - 1) q9  hq9) (ci := 7) (q0 := 0) rfl rfl gX9_sitterPart_X9_amount rfl ⟨rfl, rfl, Nat.le_of_ble_eq_true rfl, Nat.le_of_ble_eq_true rfl⟩ (by decide +kernel) (al_C _) rfl (al_n _) ⟨rfl, rfl, Nat.le_of_ble_eq_true rfl, Nat.le_of_ble_eq_true rfl, Nat.le_of_ble_eq_true rfl⟩ dX9_sitterPart_19 (fun q10 H locs h hP hD hS => ?_)
  obtain ⟨hP, hD⟩ := cv (w' := moW k va q10.2) hP hD rfl
  refine hc_is (z := q10.1) rfl ?_
  refine lv_istore_n (lv' := [(2, .int q10.1), (1, .int (q9.1 19)), (0, .ref (va 0))]) hx hb dX9_sitterPart_22 rfl hl (by decide) rfl (fun ls hl => ?_)
  refine lv_aload_n hx hb dX9_sitterPart_23 rfl (lv_at hl 2 rfl) ?_
  refine va_get (D := D) (ci := 7) (v := .ref (va 12)) (C := RX9) (T := TX9) (N := 53) hx hb hts in9 hown hG.1 hP 0 rfl rfl 12 (by decide) (hts (.fieldLink RX9 43 "ChairCaneModel" "newScalar" "[I") (mem_b bq_wsX9_sitterPart 0 1 rfl)) (fun _ h9 => h9) rfl dX9_sitterPart_24 ?_
  refine lv_iconst (v := 3) hx hb dX9_sitterPart_27 (by decide) ?_
  refine va_iald hx hb hG.1 hP 12 0 rfl rfl (by unfold vp_in; decide) dX9_sitterPart_28 ?_
  refine lv_istore_n (lv' := [(3, .int ((q10.2.2.1 12) (Int32.toNatClampNeg 3))), (2, .int q10.1), (1, .int (q9.1 19)), (0, .ref (va 0))]) hx hb dX9_sitterPart_29 rfl hl (by decide) rfl (fun ls hl => ?_)
  refine lv_iconst (v := 0) hx hb dX9_sitterPart_30 (by decide) ?_
  refine lv_istore (lv' := [(4, .int 0), (3, .int ((q10.2.2.1 12) (Int32.toNatClampNeg 3))), (2, .int q10.1), (1, .int (q9.1 19)), (0, .ref (va 0))]) hx hb dX9_sitterPart_31 hl (by decide) rfl (fun ls hl => ?_)
  exact C33 _ _ _ _ _ h _ _ _ hP hD hS (lv_sub hl [4, 3, 2, 1, 0] rfl)
noncomputable def b_X9_hallPart_125 (F : Nat)    (mo : OB) : Option (OB) :=
  some mo
noncomputable def f_X9_hallPart (F : Nat)  (x1 : Int32) (mo : OB) : Option (OB) :=
  if x1 = 0 then (b_X9_hallPart_125 F (mo.1, (uF mo.2.1 12 (upd (mo.2.1 12) (Int32.toNatClampNeg 0) 1)), mo.2.2)) else if x1 = 1 then (Option.bind (f_X9_amount F 0 99 mo) (fun q3 => (if ib ((mo.2.1 12) (Int32.toNatClampNeg 1)) 4 then (b_X9_hallPart_125 F (q3.2.1, (uF (uF q3.2.2.1 12 (upd (q3.2.2.1 12) (Int32.toNatClampNeg 1) (((q3.2.2.1 12) (Int32.toNatClampNeg 1)) + 1))) 13 (upd (q3.2.2.1 13) (Int32.toNatClampNeg ((mo.2.1 12) (Int32.toNatClampNeg 1))) q3.1)), q3.2.2.2)) else none))) else if x1 = 2 then (Option.bind (f_X9_amount F 1 60 mo) (fun q6 => (if ib ((mo.2.1 12) (Int32.toNatClampNeg 2)) 8 then (Option.bind (f_X9_amount F 0 (((q6.2.2.1 12) (Int32.toNatClampNeg 1)) - 1) (q6.2.1, (uF q6.2.2.1 14 (upd (q6.2.2.1 14) (Int32.toNatClampNeg ((mo.2.1 12) (Int32.toNatClampNeg 2))) q6.1)), q6.2.2.2)) (fun q8 => (b_X9_hallPart_125 F (q8.2.1, (uF (uF q8.2.2.1 12 (upd (q8.2.2.1 12) (Int32.toNatClampNeg 2) (((q8.2.2.1 12) (Int32.toNatClampNeg 2)) + 1))) 15 (upd (q8.2.2.1 15) (Int32.toNatClampNeg ((mo.2.1 12) (Int32.toNatClampNeg 2))) q8.1)), q8.2.2.2)))) else none))) else (Option.bind (f_X9_sitterPart F mo) (fun q9 => (b_X9_hallPart_125 F q9)))
set_option maxHeartbeats 4000000 in
set_option maxRecDepth 100000 in
theorem c_X9_hallPart (l : Launch) (D : va_G) (k : Nat → ClassId) (sz : Nat)  (va : Nat → Nat) (F : Nat)  (x1 : Int32) (mo : OB)  {res : OB} (h : f_X9_hallPart F x1 mo = some res) : CtV l yX9_hallPart wsX9_hallPart (rmK 6 0 0) [.ref (va 0), .int x1] D k sz (moW k va mo) (fun (_ : Unit) => True) (fun _ : Unit => moW k va res) 0 0 := by
  refine CtV.mk (cc := cX9_hallPart) (maxL := 3) (ret := none) (by decide) rfl (Nat.le_of_ble_eq_true rfl) ?_
  intro p e s m below meth c A ls E hP hD hS hl
  obtain ⟨hx, hb, hr, hml, hown, hts, hlocks, hin, hG, hA⟩ := E
  have hown : s.vm.findClass RX9 = some m.cls := hown
  have in9 : ∀ w ∈ u_ws RX9 TX9 53, w ∈ wsX9_hallPart := fun _ h => List.mem_cons_of_mem _ (List.mem_append_right _ h)
  have hl : lv_has ls 3 [(0, .ref (va 0)), (1, .int x1)] := hl
  have B125 : ∀ (mo : OB) (H : Heap) (locs : List Loc) (ls : Array Slot), b_X9_hallPart_125 F mo = some res → va_P D vwCl (moW k va mo) H → va_D A (moW k va mo) → va_S A s.heap H locs → lv_has ls 3 [] → W p l e (rmK 6 0 0) s m (List.toArray [.ref (va 0), .int x1]) below meth c H locs 0 0 (MQ below (va_Qv (fun (_ : Unit) => True) (hcB D (fun _ : Unit => moW k va res) A) A) (List.toArray [.ref (va 0), .int x1]) s 0 0 A) (F0 m 125 ls []) := by
    intro mo H locs ls h hP hD hS hl
    exact fw_endV (wp := fun b : OB => moW k va b) hx hb hr hlocks h hP hD hS dX9_hallPart_125
  refine lv_iload_n hx hb dX9_hallPart_0 rfl (lv_at hl 1 rfl) ?_
  by_cases c1 : x1 = 0
  · have h := fw_t c1 h
    refine lv_tableIn (off := 27) (tgt := 28) hx hb dX9_hallPart_1 (by rw [c1]; decide) (by rw [c1]; decide) (by rw [c1]; rfl) (by decide) ?_
    refine lv_aload_n hx hb dX9_hallPart_28 rfl (lv_at hl 0 rfl) ?_
    refine va_get (D := D) (ci := 7) (v := .ref (va 12)) (C := RX9) (T := TX9) (N := 53) hx hb hts in9 hown hG.1 hP 0 rfl rfl 12 (by decide) (hts (.fieldLink RX9 43 "ChairCaneModel" "newScalar" "[I") (mem_b bq_wsX9_hallPart 0 0 rfl)) (fun _ h9 => h9) rfl dX9_hallPart_29 ?_
    refine lv_iconst (v := 0) hx hb dX9_hallPart_32 (by decide) ?_
    refine lv_iconst (v := 1) hx hb dX9_hallPart_33 (by decide) ?_
    refine va_iast hx hb hG.1 hP hD hS 12 0 rfl rfl (by unfold vp_in; decide) dX9_hallPart_34 (fun H locs hP hD hS => ?_)
    refine lv_goto (tgt := 125) hx hb dX9_hallPart_35 (by decide) ?_
    exact B125 _ _ _ _ h hP hD hS (lv_sub hl [] rfl)
  have h := fw_f c1 h
  by_cases c2 : x1 = 1
  · have h := fw_t c2 h
    refine lv_tableIn (off := 37) (tgt := 38) hx hb dX9_hallPart_1 (by rw [c2]; decide) (by rw [c2]; decide) (by rw [c2]; rfl) (by decide) ?_
    refine lv_aload_n hx hb dX9_hallPart_38 rfl (lv_at hl 0 rfl) ?_
    refine va_get (D := D) (ci := 7) (v := .ref (va 13)) (C := RX9) (T := TX9) (N := 53) hx hb hts in9 hown hG.1 hP 0 rfl rfl 13 (by decide) (hts (.fieldLink RX9 46 "ChairCaneModel" "newCane" "[I") (mem_b bq_wsX9_hallPart 0 1 rfl)) (fun _ h9 => h9) rfl dX9_hallPart_39 ?_
    refine lv_aload_n hx hb dX9_hallPart_42 rfl (lv_at hl 0 rfl) ?_
    refine va_get (D := D) (ci := 7) (v := .ref (va 12)) (C := RX9) (T := TX9) (N := 53) hx hb hts in9 hown hG.1 hP 0 rfl rfl 12 (by decide) (hts (.fieldLink RX9 43 "ChairCaneModel" "newScalar" "[I") (mem_b bq_wsX9_hallPart 0 0 rfl)) (fun _ h9 => h9) rfl dX9_hallPart_43 ?_
    refine lv_iconst (v := 1) hx hb dX9_hallPart_46 (by decide) ?_
    refine va_iald hx hb hG.1 hP 12 0 rfl rfl (by unfold vp_in; decide) dX9_hallPart_47 ?_
    refine lv_aload_n hx hb dX9_hallPart_48 rfl (lv_at hl 0 rfl) ?_
    refine lv_iconst (v := 0) hx hb dX9_hallPart_49 (by decide) ?_
    refine lv_bipush (v := 99) hx hb dX9_hallPart_50 (by decide) ?_
    refine fw_Vi (As := [.int 0, .int 99]) (rest := [.int ((mo.2.1 12) (Int32.toNatClampNeg 1)), .ref (va 13)]) (n := 2) (wr := []) (rv := fun b : Int32 × OB => b.1) (wp := fun b : Int32 × OB => moW k va b.2) h hx hb hml hown hts hG hA hP hD hS hl.1 (List.range (moW k va mo).length) [] (fun q hq9 => c_X9_amount l D k _  va F 0 99 mo  hq9) (ci := 7) (q0 := 0) rfl rfl gX9_hallPart_X9_amount rfl ⟨rfl, rfl, Nat.le_of_ble_eq_true rfl, Nat.le_of_ble_eq_true rfl⟩ (by decide +kernel) (al_C _) rfl (al_n _) ⟨rfl, rfl, Nat.le_of_ble_eq_true rfl, Nat.le_of_ble_eq_true rfl, Nat.le_of_ble_eq_true rfl⟩ dX9_hallPart_52 (fun q3 H locs h hP hD hS => ?_)
    obtain ⟨hP, hD⟩ := cv (w' := moW k va q3.2) hP hD rfl
    refine hc_is (z := q3.1) rfl ?_
    obtain ⟨g4, h⟩ := fw_g h
    refine va_iast hx hb hG.1 hP hD hS 13 0 rfl rfl (ib_vp g4) dX9_hallPart_55 (fun H locs hP hD hS => ?_)
    refine lv_aload_n hx hb dX9_hallPart_56 rfl (lv_at hl 0 rfl) ?_
    refine va_get (D := D) (ci := 7) (v := .ref (va 12)) (C := RX9) (T := TX9) (N := 53) hx hb hts in9 hown hG.1 hP 0 rfl rfl 12 (by decide) (hts (.fieldLink RX9 43 "ChairCaneModel" "newScalar" "[I") (mem_b bq_wsX9_hallPart 0 0 rfl)) (fun _ h9 => h9) rfl dX9_hallPart_57 ?_
    refine lv_iconst (v := 1) hx hb dX9_hallPart_60 (by decide) ?_
    refine lv_dup2_11 hx hb dX9_hallPart_61 rfl rfl ?_
    refine va_iald hx hb hG.1 hP 12 0 rfl rfl (by unfold vp_in; decide) dX9_hallPart_62 ?_
    refine lv_iconst (v := 1) hx hb dX9_hallPart_63 (by decide) ?_
    refine lv_iadd hx hb dX9_hallPart_64 ?_
    refine va_iast hx hb hG.1 hP hD hS 12 0 rfl rfl (by unfold vp_in; decide) dX9_hallPart_65 (fun H locs hP hD hS => ?_)
    refine lv_goto (tgt := 125) hx hb dX9_hallPart_66 (by decide) ?_
    exact B125 _ _ _ _ h hP hD hS (lv_sub hl [] rfl)
  have h := fw_f c2 h
  by_cases c5 : x1 = 2
  · have h := fw_t c5 h
    refine lv_tableIn (off := 68) (tgt := 69) hx hb dX9_hallPart_1 (by rw [c5]; decide) (by rw [c5]; decide) (by rw [c5]; rfl) (by decide) ?_
    refine lv_aload_n hx hb dX9_hallPart_69 rfl (lv_at hl 0 rfl) ?_
    refine va_get (D := D) (ci := 7) (v := .ref (va 12)) (C := RX9) (T := TX9) (N := 53) hx hb hts in9 hown hG.1 hP 0 rfl rfl 12 (by decide) (hts (.fieldLink RX9 43 "ChairCaneModel" "newScalar" "[I") (mem_b bq_wsX9_hallPart 0 0 rfl)) (fun _ h9 => h9) rfl dX9_hallPart_70 ?_
    refine lv_iconst (v := 2) hx hb dX9_hallPart_73 (by decide) ?_
    refine va_iald hx hb hG.1 hP 12 0 rfl rfl (by unfold vp_in; decide) dX9_hallPart_74 ?_
    refine lv_istore_n (lv' := [(2, .int ((mo.2.1 12) (Int32.toNatClampNeg 2))), (0, .ref (va 0)), (1, .int x1)]) hx hb dX9_hallPart_75 rfl hl (by decide) rfl (fun ls hl => ?_)
    refine lv_aload_n hx hb dX9_hallPart_76 rfl (lv_at hl 1 rfl) ?_
    refine va_get (D := D) (ci := 7) (v := .ref (va 14)) (C := RX9) (T := TX9) (N := 53) hx hb hts in9 hown hG.1 hP 0 rfl rfl 14 (by decide) (hts (.fieldLink RX9 49 "ChairCaneModel" "newHeight" "[I") (mem_b bq_wsX9_hallPart 0 2 rfl)) (fun _ h9 => h9) rfl dX9_hallPart_77 ?_
    refine lv_iload_n hx hb dX9_hallPart_80 rfl (lv_at hl 0 rfl) ?_
    refine lv_aload_n hx hb dX9_hallPart_81 rfl (lv_at hl 1 rfl) ?_
    refine lv_iconst (v := 1) hx hb dX9_hallPart_82 (by decide) ?_
    refine lv_bipush (v := 60) hx hb dX9_hallPart_83 (by decide) ?_
    refine fw_Vi (As := [.int 1, .int 60]) (rest := [.int ((mo.2.1 12) (Int32.toNatClampNeg 2)), .ref (va 14)]) (n := 2) (wr := []) (rv := fun b : Int32 × OB => b.1) (wp := fun b : Int32 × OB => moW k va b.2) h hx hb hml hown hts hG hA hP hD hS hl.1 (List.range (moW k va mo).length) [] (fun q hq9 => c_X9_amount l D k _  va F 1 60 mo  hq9) (ci := 7) (q0 := 0) rfl rfl gX9_hallPart_X9_amount rfl ⟨rfl, rfl, Nat.le_of_ble_eq_true rfl, Nat.le_of_ble_eq_true rfl⟩ (by decide +kernel) (al_C _) rfl (al_n _) ⟨rfl, rfl, Nat.le_of_ble_eq_true rfl, Nat.le_of_ble_eq_true rfl, Nat.le_of_ble_eq_true rfl⟩ dX9_hallPart_85 (fun q6 H locs h hP hD hS => ?_)
    obtain ⟨hP, hD⟩ := cv (w' := moW k va q6.2) hP hD rfl
    refine hc_is (z := q6.1) rfl ?_
    obtain ⟨g7, h⟩ := fw_g h
    refine va_iast hx hb hG.1 hP hD hS 14 0 rfl rfl (ib_vp g7) dX9_hallPart_88 (fun H locs hP hD hS => ?_)
    refine lv_aload_n hx hb dX9_hallPart_89 rfl (lv_at hl 1 rfl) ?_
    refine va_get (D := D) (ci := 7) (v := .ref (va 15)) (C := RX9) (T := TX9) (N := 53) hx hb hts in9 hown hG.1 hP 0 rfl rfl 15 (by decide) (hts (.fieldLink RX9 52 "ChairCaneModel" "newStrand" "[I") (mem_b bq_wsX9_hallPart 0 3 rfl)) (fun _ h9 => h9) rfl dX9_hallPart_90 ?_
    refine lv_iload_n hx hb dX9_hallPart_93 rfl (lv_at hl 0 rfl) ?_
    refine lv_aload_n hx hb dX9_hallPart_94 rfl (lv_at hl 1 rfl) ?_
    refine lv_iconst (v := 0) hx hb dX9_hallPart_95 (by decide) ?_
    refine lv_aload_n hx hb dX9_hallPart_96 rfl (lv_at hl 1 rfl) ?_
    refine va_get (D := D) (ci := 7) (v := .ref (va 12)) (C := RX9) (T := TX9) (N := 53) hx hb hts in9 hown hG.1 hP 0 rfl rfl 12 (by decide) (hts (.fieldLink RX9 43 "ChairCaneModel" "newScalar" "[I") (mem_b bq_wsX9_hallPart 0 0 rfl)) (fun _ h9 => h9) rfl dX9_hallPart_97 ?_
    refine lv_iconst (v := 1) hx hb dX9_hallPart_100 (by decide) ?_
    refine va_iald hx hb hG.1 hP 12 0 rfl rfl (by unfold vp_in; decide) dX9_hallPart_101 ?_
    refine lv_iconst (v := 1) hx hb dX9_hallPart_102 (by decide) ?_
    refine lv_isub hx hb dX9_hallPart_103 ?_
    obtain ⟨hP, hD⟩ := cv (w' := moW k va (q6.2.1, (uF q6.2.2.1 14 (upd (q6.2.2.1 14) (Int32.toNatClampNeg ((mo.2.1 12) (Int32.toNatClampNeg 2))) q6.1)), q6.2.2.2)) hP hD rfl
    refine fw_Vi (As := [.int 0, .int (((q6.2.2.1 12) (Int32.toNatClampNeg 1)) - 1)]) (rest := [.int ((mo.2.1 12) (Int32.toNatClampNeg 2)), .ref (va 15)]) (n := 2) (wr := []) (rv := fun b : Int32 × OB => b.1) (wp := fun b : Int32 × OB => moW k va b.2) h hx hb hml hown hts hG hA hP hD hS hl.1 (List.range (moW k va (q6.2.1, (uF q6.2.2.1 14 (upd (q6.2.2.1 14) (Int32.toNatClampNeg ((mo.2.1 12) (Int32.toNatClampNeg 2))) q6.1)), q6.2.2.2)).length) [] (fun q hq9 => c_X9_amount l D k _  va F 0 (((q6.2.2.1 12) (Int32.toNatClampNeg 1)) - 1) (q6.2.1, (uF q6.2.2.1 14 (upd (q6.2.2.1 14) (Int32.toNatClampNeg ((mo.2.1 12) (Int32.toNatClampNeg 2))) q6.1)), q6.2.2.2)  hq9) (ci := 7) (q0 := 0) rfl rfl gX9_hallPart_X9_amount rfl ⟨rfl, rfl, Nat.le_of_ble_eq_true rfl, Nat.le_of_ble_eq_true rfl⟩ (by decide +kernel) (al_C _) rfl (al_n _) ⟨rfl, rfl, Nat.le_of_ble_eq_true rfl, Nat.le_of_ble_eq_true rfl, Nat.le_of_ble_eq_true rfl⟩ dX9_hallPart_104 (fun q8 H locs h hP hD hS => ?_)
    obtain ⟨hP, hD⟩ := cv (w' := moW k va q8.2) hP hD rfl
    refine hc_is (z := q8.1) rfl ?_
    refine va_iast hx hb hG.1 hP hD hS 15 0 rfl rfl (ib_vp g7) dX9_hallPart_107 (fun H locs hP hD hS => ?_)
    refine lv_aload_n hx hb dX9_hallPart_108 rfl (lv_at hl 1 rfl) ?_
    refine va_get (D := D) (ci := 7) (v := .ref (va 12)) (C := RX9) (T := TX9) (N := 53) hx hb hts in9 hown hG.1 hP 0 rfl rfl 12 (by decide) (hts (.fieldLink RX9 43 "ChairCaneModel" "newScalar" "[I") (mem_b bq_wsX9_hallPart 0 0 rfl)) (fun _ h9 => h9) rfl dX9_hallPart_109 ?_
    refine lv_iconst (v := 2) hx hb dX9_hallPart_112 (by decide) ?_
    refine lv_dup2_11 hx hb dX9_hallPart_113 rfl rfl ?_
    refine va_iald hx hb hG.1 hP 12 0 rfl rfl (by unfold vp_in; decide) dX9_hallPart_114 ?_
    refine lv_iconst (v := 1) hx hb dX9_hallPart_115 (by decide) ?_
    refine lv_iadd hx hb dX9_hallPart_116 ?_
    refine va_iast hx hb hG.1 hP hD hS 12 0 rfl rfl (by unfold vp_in; decide) dX9_hallPart_117 (fun H locs hP hD hS => ?_)
    refine lv_goto (tgt := 125) hx hb dX9_hallPart_118 (by decide) ?_
    exact B125 _ _ _ _ h hP hD hS (lv_sub hl [] rfl)
  have h := fw_f c5 h
  simp only [sp_eq, show (0 : Int32).toInt = 0 from by decide, show (1 : Int32).toInt = 1 from by decide, show (2 : Int32).toInt = 2 from by decide] at c1 c2 c5
  refine lv_tableOut (tgt := 121) hx hb dX9_hallPart_1 (by omega) (by decide) ?_
  refine lv_aload_n hx hb dX9_hallPart_121 rfl (lv_at hl 0 rfl) ?_
  refine fw_Vv (As := []) (rest := []) (n := 0) (wr := []) (wp := fun b : OB => moW k va b) h hx hb hml hown hts hG hA hP hD hS hl.1 (List.range (moW k va mo).length) [] (fun q hq9 => c_X9_sitterPart l D k _  va F  mo  hq9) (ci := 7) (q0 := 0) rfl rfl gX9_hallPart_X9_sitterPart rfl ⟨rfl, rfl, Nat.le_of_ble_eq_true rfl, Nat.le_of_ble_eq_true rfl⟩ (by decide +kernel) (al_C _) rfl (al_n _) ⟨rfl, rfl, Nat.le_of_ble_eq_true rfl, Nat.le_of_ble_eq_true rfl, Nat.le_of_ble_eq_true rfl⟩ dX9_hallPart_122 (fun q9 H locs h hP hD hS => ?_)
  obtain ⟨hP, hD⟩ := cv (w' := moW k va q9) hP hD rfl
  exact B125 _ _ _ _ h hP hD hS (lv_sub hl [] rfl)
noncomputable def b_X9_isFull_27 (F : Nat)  (mo : OB)   : Option (Int32) :=
  some 1
noncomputable def b_X9_isFull_65 (F : Nat)  (mo : OB)  (y0 : Int32) : Option (Int32) :=
  if bo y0 then (some y0) else none
noncomputable def b_X9_isFull_60 (F : Nat)  (mo : OB)   : Option (Int32) :=
  b_X9_isFull_65 F mo 1
noncomputable def b_X9_isFull_64 (F : Nat)  (mo : OB)   : Option (Int32) :=
  b_X9_isFull_65 F mo 0
noncomputable def b_X9_isFull_44 (F : Nat)  (mo : OB)  (v1 : Int32) : Option (Int32) :=
  if v1 = 2 then (if ((mo.2.1 12) (Int32.toNatClampNeg 2)) = 8 then (b_X9_isFull_60 F mo ) else (b_X9_isFull_64 F mo )) else (b_X9_isFull_64 F mo )
noncomputable def b_X9_isFull_24 (F : Nat)  (mo : OB)  (v1 : Int32) (y0 : Int32) (y1 : Int32) : Option (Int32) :=
  if y1 = y0 then (if v1 = 1 then (if ((mo.2.1 12) (Int32.toNatClampNeg 1)) = 4 then (b_X9_isFull_60 F mo ) else (b_X9_isFull_44 F mo v1)) else (b_X9_isFull_44 F mo v1)) else (b_X9_isFull_27 F mo )
noncomputable def b_X9_isFull_15 (F : Nat)  (mo : OB)  (v1 : Int32) (v2 : Int32) (y0 : Int32) : Option (Int32) :=
  if v2 = 0 then (b_X9_isFull_24 F mo v1 1 y0) else (b_X9_isFull_24 F mo v1 0 y0)
noncomputable def f_X9_isFull (F : Nat)  (x1 : Int32) (x2 : Int32) (mo : OB) : Option (Int32) :=
  if x2 = 40 then (b_X9_isFull_27 F mo ) else (if x1 = 0 then (b_X9_isFull_15 F mo x1 x2 1) else (b_X9_isFull_15 F mo x1 x2 0))
set_option maxRecDepth 20000 in
theorem bq_wsX9_isFull : subq wsX9_isFull [[.fieldLink RX9 43 "ChairCaneModel" "newScalar" "[I"]] := ⟨(fun _ h => (List.mem_cons_of_mem _ (List.mem_append_left _ h))), trivial⟩
set_option maxHeartbeats 4000000 in
set_option maxRecDepth 100000 in
theorem c_X9_isFull (l : Launch) (D : va_G) (k : Nat → ClassId) (sz : Nat)  (va : Nat → Nat) (F : Nat)  (x1 : Int32) (x2 : Int32) (mo : OB)  {res : Int32} (h : f_X9_isFull F x1 x2 mo = some res) : CtI l yX9_isFull wsX9_isFull (rmK 1 0 0) [.ref (va 0), .int x1, .int x2] D k sz (moW k va mo) (fun r (_ : Unit) => r = res) (fun _ : Unit => moW k va mo) 0 0 := by
  refine CtI.mk (cc := cX9_isFull) (maxL := 3) (ret := (some .boolean)) (by decide) rfl (Nat.le_of_ble_eq_true rfl) ?_
  intro p e s m below meth c A ls E hP hD hS hl
  obtain ⟨hx, hb, hr, hml, hown, hts, hlocks, hin, hG, hA⟩ := E
  have hown : s.vm.findClass RX9 = some m.cls := hown
  have in9 : ∀ w ∈ u_ws RX9 TX9 53, w ∈ wsX9_isFull := fun _ h => List.mem_cons_of_mem _ (List.mem_append_right _ h)
  have hl : lv_has ls 3 [(0, .ref (va 0)), (1, .int x1), (2, .int x2)] := hl
  have B27 : ∀ (H : Heap) (locs : List Loc) (ls : Array Slot), b_X9_isFull_27 F mo  = some res → va_P D vwCl (moW k va mo) H → va_D A (moW k va mo) → va_S A s.heap H locs → lv_has ls 3 [] → W p l e (rmK 1 0 0) s m (List.toArray [.ref (va 0), .int x1, .int x2]) below meth c H locs 0 0 (MQ below (va_Qi (fun r (_ : Unit) => r = res) (hcB D (fun _ : Unit => moW k va mo) A) A) (List.toArray [.ref (va 0), .int x1, .int x2]) s 0 0 A) (F0 m 27 ls []) := by
    intro  H locs ls h hP hD hS hl
    refine lv_iconst (v := 1) hx hb dX9_isFull_27 (by decide) ?_
    exact fw_endZ (v := 1) (rv := fun b : Int32 => b) (wp := fun b : Int32 => moW k va mo) hx hb hr hlocks h rfl rfl hP hD hS dX9_isFull_28
  have B65 : ∀ (y0 : Int32) (H : Heap) (locs : List Loc) (ls : Array Slot), b_X9_isFull_65 F mo y0 = some res → va_P D vwCl (moW k va mo) H → va_D A (moW k va mo) → va_S A s.heap H locs → lv_has ls 3 [] → W p l e (rmK 1 0 0) s m (List.toArray [.ref (va 0), .int x1, .int x2]) below meth c H locs 0 0 (MQ below (va_Qi (fun r (_ : Unit) => r = res) (hcB D (fun _ : Unit => moW k va mo) A) A) (List.toArray [.ref (va 0), .int x1, .int x2]) s 0 0 A) (F0 m 65 ls [.int y0]) := by
    intro y0 H locs ls h hP hD hS hl
    obtain ⟨g1, h⟩ := fw_g h
    exact fw_endZ (rv := fun b : Int32 => b) (wp := fun b : Int32 => moW k va mo) hx hb hr hlocks h (bo_z g1) rfl hP hD hS dX9_isFull_65
  have B60 : ∀ (H : Heap) (locs : List Loc) (ls : Array Slot), b_X9_isFull_60 F mo  = some res → va_P D vwCl (moW k va mo) H → va_D A (moW k va mo) → va_S A s.heap H locs → lv_has ls 3 [] → W p l e (rmK 1 0 0) s m (List.toArray [.ref (va 0), .int x1, .int x2]) below meth c H locs 0 0 (MQ below (va_Qi (fun r (_ : Unit) => r = res) (hcB D (fun _ : Unit => moW k va mo) A) A) (List.toArray [.ref (va 0), .int x1, .int x2]) s 0 0 A) (F0 m 60 ls []) := by
    intro  H locs ls h hP hD hS hl
    refine lv_iconst (v := 1) hx hb dX9_isFull_60 (by decide) ?_
    refine lv_goto (tgt := 65) hx hb dX9_isFull_61 (by decide) ?_
    exact B65 _ _ _ _ h hP hD hS hl
  have B64 : ∀ (H : Heap) (locs : List Loc) (ls : Array Slot), b_X9_isFull_64 F mo  = some res → va_P D vwCl (moW k va mo) H → va_D A (moW k va mo) → va_S A s.heap H locs → lv_has ls 3 [] → W p l e (rmK 1 0 0) s m (List.toArray [.ref (va 0), .int x1, .int x2]) below meth c H locs 0 0 (MQ below (va_Qi (fun r (_ : Unit) => r = res) (hcB D (fun _ : Unit => moW k va mo) A) A) (List.toArray [.ref (va 0), .int x1, .int x2]) s 0 0 A) (F0 m 64 ls []) := by
    intro  H locs ls h hP hD hS hl
    refine lv_iconst (v := 0) hx hb dX9_isFull_64 (by decide) ?_
    exact B65 _ _ _ _ h hP hD hS hl
  have B44 : ∀ (v1 : Int32) (H : Heap) (locs : List Loc) (ls : Array Slot), b_X9_isFull_44 F mo v1 = some res → va_P D vwCl (moW k va mo) H → va_D A (moW k va mo) → va_S A s.heap H locs → lv_has ls 3 [(0, .ref (va 0)), (1, .int v1)] → W p l e (rmK 1 0 0) s m (List.toArray [.ref (va 0), .int x1, .int x2]) below meth c H locs 0 0 (MQ below (va_Qi (fun r (_ : Unit) => r = res) (hcB D (fun _ : Unit => moW k va mo) A) A) (List.toArray [.ref (va 0), .int x1, .int x2]) s 0 0 A) (F0 m 44 ls []) := by
    intro v1 H locs ls h hP hD hS hl
    refine lv_iload_n hx hb dX9_isFull_44 rfl (lv_at hl 1 rfl) ?_
    refine lv_iconst (v := 2) hx hb dX9_isFull_45 (by decide) ?_
    refine lv_icmp_ne (tgt := 64) hx hb dX9_isFull_46 (by decide) (fun c2 => ?_) (fun c2 => ?_)
    · have h := fw_f c2 h
      exact B64 _ _ _ h hP hD hS (lv_sub hl [] rfl)
    · have h := fw_t c2 h
      refine lv_aload_n hx hb dX9_isFull_49 rfl (lv_at hl 0 rfl) ?_
      refine va_get (D := D) (ci := 7) (v := .ref (va 12)) (C := RX9) (T := TX9) (N := 53) hx hb hts in9 hown hG.1 hP 0 rfl rfl 12 (by decide) (hts (.fieldLink RX9 43 "ChairCaneModel" "newScalar" "[I") (mem_b bq_wsX9_isFull 0 0 rfl)) (fun _ h9 => h9) rfl dX9_isFull_50 ?_
      refine lv_iconst (v := 2) hx hb dX9_isFull_53 (by decide) ?_
      refine va_iald hx hb hG.1 hP 12 0 rfl rfl (by unfold vp_in; decide) dX9_isFull_54 ?_
      refine lv_bipush (v := 8) hx hb dX9_isFull_55 (by decide) ?_
      refine lv_icmp_ne (tgt := 64) hx hb dX9_isFull_57 (by decide) (fun c3 => ?_) (fun c3 => ?_)
      · have h := fw_f c3 h
        exact B64 _ _ _ h hP hD hS (lv_sub hl [] rfl)
      · have h := fw_t c3 h
        exact B60 _ _ _ h hP hD hS (lv_sub hl [] rfl)
  have B24 : ∀ (v1 : Int32) (y0 : Int32) (y1 : Int32) (H : Heap) (locs : List Loc) (ls : Array Slot), b_X9_isFull_24 F mo v1 y0 y1 = some res → va_P D vwCl (moW k va mo) H → va_D A (moW k va mo) → va_S A s.heap H locs → lv_has ls 3 [(0, .ref (va 0)), (1, .int v1)] → W p l e (rmK 1 0 0) s m (List.toArray [.ref (va 0), .int x1, .int x2]) below meth c H locs 0 0 (MQ below (va_Qi (fun r (_ : Unit) => r = res) (hcB D (fun _ : Unit => moW k va mo) A) A) (List.toArray [.ref (va 0), .int x1, .int x2]) s 0 0 A) (F0 m 24 ls [.int y0, .int y1]) := by
    intro v1 y0 y1 H locs ls h hP hD hS hl
    refine lv_icmp_eq (tgt := 29) hx hb dX9_isFull_24 (by decide) (fun c4 => ?_) (fun c4 => ?_)
    · have h := fw_t c4 h
      refine lv_iload_n hx hb dX9_isFull_29 rfl (lv_at hl 1 rfl) ?_
      refine lv_iconst (v := 1) hx hb dX9_isFull_30 (by decide) ?_
      refine lv_icmp_ne (tgt := 44) hx hb dX9_isFull_31 (by decide) (fun c5 => ?_) (fun c5 => ?_)
      · have h := fw_f c5 h
        exact B44 _ _ _ _ h hP hD hS hl
      · have h := fw_t c5 h
        refine lv_aload_n hx hb dX9_isFull_34 rfl (lv_at hl 0 rfl) ?_
        refine va_get (D := D) (ci := 7) (v := .ref (va 12)) (C := RX9) (T := TX9) (N := 53) hx hb hts in9 hown hG.1 hP 0 rfl rfl 12 (by decide) (hts (.fieldLink RX9 43 "ChairCaneModel" "newScalar" "[I") (mem_b bq_wsX9_isFull 0 0 rfl)) (fun _ h9 => h9) rfl dX9_isFull_35 ?_
        refine lv_iconst (v := 1) hx hb dX9_isFull_38 (by decide) ?_
        refine va_iald hx hb hG.1 hP 12 0 rfl rfl (by unfold vp_in; decide) dX9_isFull_39 ?_
        refine lv_iconst (v := 4) hx hb dX9_isFull_40 (by decide) ?_
        refine lv_icmp_eq (tgt := 60) hx hb dX9_isFull_41 (by decide) (fun c6 => ?_) (fun c6 => ?_)
        · have h := fw_t c6 h
          exact B60 _ _ _ h hP hD hS (lv_sub hl [] rfl)
        · have h := fw_f c6 h
          exact B44 _ _ _ _ h hP hD hS hl
    · have h := fw_f c4 h
      exact B27 _ _ _ h hP hD hS (lv_sub hl [] rfl)
  have B15 : ∀ (v1 : Int32) (v2 : Int32) (y0 : Int32) (H : Heap) (locs : List Loc) (ls : Array Slot), b_X9_isFull_15 F mo v1 v2 y0 = some res → va_P D vwCl (moW k va mo) H → va_D A (moW k va mo) → va_S A s.heap H locs → lv_has ls 3 [(0, .ref (va 0)), (1, .int v1), (2, .int v2)] → W p l e (rmK 1 0 0) s m (List.toArray [.ref (va 0), .int x1, .int x2]) below meth c H locs 0 0 (MQ below (va_Qi (fun r (_ : Unit) => r = res) (hcB D (fun _ : Unit => moW k va mo) A) A) (List.toArray [.ref (va 0), .int x1, .int x2]) s 0 0 A) (F0 m 15 ls [.int y0]) := by
    intro v1 v2 y0 H locs ls h hP hD hS hl
    refine lv_iload_n hx hb dX9_isFull_15 rfl (lv_at hl 2 rfl) ?_
    refine lv_if_ne (tgt := 23) hx hb dX9_isFull_16 (by decide) (fun c7 => ?_) (fun c7 => ?_)
    · have h := fw_f c7 h
      refine lv_iconst (v := 0) hx hb dX9_isFull_23 (by decide) ?_
      exact B24 _ _ _ _ _ _ h hP hD hS (lv_sub hl [0, 1] rfl)
    · have h := fw_t c7 h
      refine lv_iconst (v := 1) hx hb dX9_isFull_19 (by decide) ?_
      refine lv_goto (tgt := 24) hx hb dX9_isFull_20 (by decide) ?_
      exact B24 _ _ _ _ _ _ h hP hD hS (lv_sub hl [0, 1] rfl)
  refine lv_iload_n hx hb dX9_isFull_0 rfl (lv_at hl 2 rfl) ?_
  refine lv_bipush (v := 40) hx hb dX9_isFull_1 (by decide) ?_
  refine lv_icmp_eq (tgt := 27) hx hb dX9_isFull_3 (by decide) (fun c8 => ?_) (fun c8 => ?_)
  · have h := fw_t c8 h
    exact B27 _ _ _ h hP hD hS (lv_sub hl [] rfl)
  · have h := fw_f c8 h
    refine lv_iload_n hx hb dX9_isFull_6 rfl (lv_at hl 1 rfl) ?_
    refine lv_if_ne (tgt := 14) hx hb dX9_isFull_7 (by decide) (fun c9 => ?_) (fun c9 => ?_)
    · have h := fw_f c9 h
      refine lv_iconst (v := 0) hx hb dX9_isFull_14 (by decide) ?_
      exact B15 _ _ _ _ _ _ h hP hD hS hl
    · have h := fw_t c9 h
      refine lv_iconst (v := 1) hx hb dX9_isFull_10 (by decide) ?_
      refine lv_goto (tgt := 15) hx hb dX9_isFull_11 (by decide) ?_
      exact B15 _ _ _ _ _ _ h hP hD hS hl
noncomputable def b_X9_hallClause_33 (F : Nat)    (v1 : Int32) (v2 : Int32) (v3 : Int32) (mo : OB) : Option (OB) :=
  if v3 = 4 then (Option.bind (f_X9_fails F 0 v2 mo) (fun q7 => (some q7))) else (Option.bind (f_X9_isFull F v3 v1 mo) (fun q2 => (if q2 = 0 then (if (wdH v3) < 18 then (Option.bind (f_X9_hallPart F v3 ((uF mo.1 19 ((mo.1 19) + (nI (xl (wdH v3))))), mo.2.1, mo.2.2)) (fun q5 => (some q5))) else none) else (Option.bind (f_X9_fails F 4 v2 mo) (fun q6 => (some q6))))))
noncomputable def b_X9_hallClause_11 (F : Nat)    (k11 : (Int32 × Int32 × Int32 × OB) → Option (OB)) (a11 : (Int32 × Int32 × Int32 × OB)) : Option (OB) :=
  if 4 ≤ a11.2.2.1 then (b_X9_hallClause_33 F a11.1 a11.2.1 a11.2.2.1 a11.2.2.2) else (Option.bind (f_X9_stood F (wdH a11.2.2.1) a11.2.2.2) (fun q9 => (if q9 = 0 then (k11 (a11.1, a11.2.1, (a11.2.2.1 + 1), a11.2.2.2)) else (b_X9_hallClause_33 F a11.1 a11.2.1 a11.2.2.1 a11.2.2.2))))
noncomputable def f_X9_hallClause (F : Nat)  (x1 : Int32) (mo : OB) : Option (OB) :=
  Option.bind (f_X9_blanks F mo) (fun q11 => (lp (b_X9_hallClause_11 F) F (x1, (q11.1 19), 0, q11)))
set_option maxHeartbeats 4000000 in
set_option maxRecDepth 100000 in
theorem c_X9_hallClause (l : Launch) (D : va_G) (k : Nat → ClassId) (sz : Nat) (ad tv : Nat → Nat) (va : Nat → Nat) (F : Nat)  (x1 : Int32) (mo : OB)  {res : OB} (h : f_X9_hallClause F x1 mo = some res) : CtVE l yX9_hallClause wsX9_hallClause (rmK 7 0 0) [.ref (va 0), .int x1] D k (EY ad tv) sz (moW k va mo) (fun (_ : Unit) => True) (fun _ : Unit => moW k va res) 0 0 := by
  refine CtVE.mk (cc := cX9_hallClause) (maxL := 4) (ret := none) (by decide) rfl (Nat.le_of_ble_eq_true rfl) ?_
  intro p e s m below meth c A ls hE E hP hD hS hl
  obtain ⟨hx, hb, hr, hml, hown, hts, hlocks, hin, hG, hA⟩ := E
  have hown : s.vm.findClass RX9 = some m.cls := hown
  have in9 : ∀ w ∈ u_ws RX9 TX9 53, w ∈ wsX9_hallClause := fun _ h => List.mem_cons_of_mem _ (List.mem_append_right _ h)
  have hl : lv_has ls 4 [(0, .ref (va 0)), (1, .int x1)] := hl
  have B33 : ∀ (v1 : Int32) (v2 : Int32) (v3 : Int32) (mo : OB) (H : Heap) (locs : List Loc) (ls : Array Slot), b_X9_hallClause_33 F v1 v2 v3 mo = some res → va_P D vwCl (moW k va mo) H → va_D A (moW k va mo) → va_S A s.heap H locs → lv_has ls 4 [(0, .ref (va 0)), (1, .int v1), (2, .int v2), (3, .int v3)] → W p l e (rmK 7 0 0) s m (List.toArray [.ref (va 0), .int x1]) below meth c H locs 0 0 (MQ below (va_Qv (fun (_ : Unit) => True) (hcB D (fun _ : Unit => moW k va res) A) A) (List.toArray [.ref (va 0), .int x1]) s 0 0 A) (F0 m 33 ls []) := by
    intro v1 v2 v3 mo H locs ls h hP hD hS hl
    refine lv_iload_n hx hb dX9_hallClause_33 rfl (lv_at hl 3 rfl) ?_
    refine lv_iconst (v := 4) hx hb dX9_hallClause_34 (by decide) ?_
    refine lv_icmp_ne (tgt := 45) hx hb dX9_hallClause_35 (by decide) (fun c1 => ?_) (fun c1 => ?_)
    · have h := fw_f c1 h
      refine lv_aload_n hx hb dX9_hallClause_45 rfl (lv_at hl 0 rfl) ?_
      refine lv_iload_n hx hb dX9_hallClause_46 rfl (lv_at hl 3 rfl) ?_
      refine lv_iload_n hx hb dX9_hallClause_47 rfl (lv_at hl 1 rfl) ?_
      refine fw_Vi (As := [.int v3, .int v1]) (rest := []) (n := 2) (wr := []) (rv := fun b : Int32 => b) (wp := fun b : Int32 => moW k va mo) h hx hb hml hown hts hG hA hP hD hS hl.1 (List.range (moW k va mo).length) [] (fun q hq9 => c_X9_isFull l D k _  va F v3 v1 mo  hq9) (ci := 7) (q0 := 0) rfl rfl gX9_hallClause_X9_isFull rfl ⟨rfl, rfl, Nat.le_of_ble_eq_true rfl, Nat.le_of_ble_eq_true rfl⟩ (by decide +kernel) (al_C _) rfl (al_n _) ⟨rfl, rfl, Nat.le_of_ble_eq_true rfl, Nat.le_of_ble_eq_true rfl, Nat.le_of_ble_eq_true rfl⟩ dX9_hallClause_48 (fun q2 H locs h hP hD hS => ?_)
      obtain ⟨hP, hD⟩ := cv (w' := moW k va mo) hP hD rfl
      refine hc_is (z := q2) rfl ?_
      refine lv_if_eq (tgt := 61) hx hb dX9_hallClause_51 (by decide) (fun c3 => ?_) (fun c3 => ?_)
      · have h := fw_t c3 h
        refine lv_aload_n hx hb dX9_hallClause_61 rfl (lv_at hl 0 rfl) ?_
        refine lv_dup hx hb dX9_hallClause_62 rfl ?_
        refine va_get (D := D) (ci := 7) (v := .int (mo.1 19)) (C := RX9) (T := TX9) (N := 53) hx hb hts in9 hown hG.1 hP 0 rfl rfl 19 (by decide) (hts (.fieldLink RX9 164 "ChairCaneModel" "p" "I") (mem_b bq_wsX9_hallClause 0 0 rfl)) (fun _ h9 => h9) rfl dX9_hallClause_63 ?_
        refine lv_iload_n hx hb dX9_hallClause_66 rfl (lv_at hl 3 rfl) ?_
        refine hc_SrE (As := [.int v3]) (rest := [.int (mo.1 19), .ref (va 0)]) (n := 1) (wr := moW k va mo) (EY.ok ad tv) hE hx hb hml hown hts hG hA hP hD hS hl.1 (List.range (moW k va mo).length) (c_X9_hallWord l D k _ v3 ad tv) gX9_hallClause_X9_hallWord rfl ⟨rfl, rfl, Nat.le_of_ble_eq_true rfl, Nat.le_of_ble_eq_true rfl⟩ (by decide +kernel) (al_C _) (al_r _) ⟨rfl, rfl, Nat.le_of_ble_eq_true rfl, Nat.le_of_ble_eq_true rfl, Nat.le_of_ble_eq_true rfl⟩ dX9_hallClause_67 (fun H locs hP hD hS => ?_)
        obtain ⟨g4, h⟩ := fw_g h
        refine hc_ViE (As := []) (rest := [.int (mo.1 19), .ref (va 0)]) (n := 0) (wr := moW k va mo) (ES.ok (ad (wdH v3)) (tv (wdH v3)) (xl (wdH v3)) (xc (wdH v3))) ⟨hE.1, hE.2.2.1 _ g4, hE.2.1⟩ hx hb hml hown hts hG hA hP hD hS hl.1 [] (List.range (moW k va mo).length) (c_length l D k _ (ad (wdH v3)) (tv (wdH v3)) (xl (wdH v3)) (xc (wdH v3))) (va_Orecv (hE.2.2.1 _ g4).1 hS) gX9_hallClause_J0_length_8abf5 rfl ⟨rfl, rfl, Nat.le_of_ble_eq_true rfl, Nat.le_of_ble_eq_true rfl⟩ (by decide +kernel) rfl (al_C _) (al_m _) ⟨rfl, rfl, Nat.le_of_ble_eq_true rfl, Nat.le_of_ble_eq_true rfl, Nat.le_of_ble_eq_true rfl⟩ dX9_hallClause_70 (fun r u H locs hw hP hD hS => ?_)
        obtain ⟨hP, hD⟩ := cv (w' := (moW k va mo) ++ []) hP hD rfl
        rw [List.append_nil] at hP hD
        obtain rfl : r = nI (xl (wdH v3)) := hw
        refine lv_iadd hx hb dX9_hallClause_73 ?_
        refine va_put (D := D) (ci := 7) (v := .int ((mo.1 19) + (nI (xl (wdH v3))))) (C := RX9) (T := TX9) (N := 53) hx hb hts in9 tyX9 tyX9_ok nmX9 hown hG.1 hP hD hS 0 rfl rfl 19 (by decide) (hts (.fieldLink RX9 164 "ChairCaneModel" "p" "I") (mem_b bq_wsX9_hallClause 0 0 rfl)) (fun _ h9 => h9) rfl (tyX9_ok 19 (by decide)) rfl rfl (Nat.le_of_ble_eq_true rfl) dX9_hallClause_74 (fun H locs hP hD hS => ?_)
        refine lv_aload_n hx hb dX9_hallClause_77 rfl (lv_at hl 0 rfl) ?_
        refine lv_iload_n hx hb dX9_hallClause_78 rfl (lv_at hl 3 rfl) ?_
        obtain ⟨hP, hD⟩ := cv (w' := moW k va ((uF mo.1 19 ((mo.1 19) + (nI (xl (wdH v3))))), mo.2.1, mo.2.2)) hP hD rfl
        refine fw_Vv (As := [.int v3]) (rest := []) (n := 1) (wr := []) (wp := fun b : OB => moW k va b) h hx hb hml hown hts hG hA hP hD hS hl.1 (List.range (moW k va ((uF mo.1 19 ((mo.1 19) + (nI (xl (wdH v3))))), mo.2.1, mo.2.2)).length) [] (fun q hq9 => c_X9_hallPart l D k _  va F v3 ((uF mo.1 19 ((mo.1 19) + (nI (xl (wdH v3))))), mo.2.1, mo.2.2)  hq9) (ci := 7) (q0 := 0) rfl rfl gX9_hallClause_X9_hallPart rfl ⟨rfl, rfl, Nat.le_of_ble_eq_true rfl, Nat.le_of_ble_eq_true rfl⟩ (by decide +kernel) (al_C _) rfl (al_n _) ⟨rfl, rfl, Nat.le_of_ble_eq_true rfl, Nat.le_of_ble_eq_true rfl, Nat.le_of_ble_eq_true rfl⟩ dX9_hallClause_79 (fun q5 H locs h hP hD hS => ?_)
        obtain ⟨hP, hD⟩ := cv (w' := moW k va q5) hP hD rfl
        exact fw_endV (wp := fun b : OB => moW k va b) hx hb hr hlocks h hP hD hS dX9_hallClause_82
      · have h := fw_f c3 h
        refine lv_aload_n hx hb dX9_hallClause_54 rfl (lv_at hl 0 rfl) ?_
        refine lv_iconst (v := 4) hx hb dX9_hallClause_55 (by decide) ?_
        refine lv_iload_n hx hb dX9_hallClause_56 rfl (lv_at hl 2 rfl) ?_
        refine fw_Vv (As := [.int 4, .int v2]) (rest := []) (n := 2) (wr := []) (wp := fun b : OB => moW k va b) h hx hb hml hown hts hG hA hP hD hS hl.1 (List.range (moW k va mo).length) [] (fun q hq9 => c_X9_fails l D k _  va F 4 v2 mo  hq9) (ci := 7) (q0 := 0) rfl rfl gX9_hallClause_X9_fails rfl ⟨rfl, rfl, Nat.le_of_ble_eq_true rfl, Nat.le_of_ble_eq_true rfl⟩ (by decide +kernel) (al_C _) rfl (al_n _) ⟨rfl, rfl, Nat.le_of_ble_eq_true rfl, Nat.le_of_ble_eq_true rfl, Nat.le_of_ble_eq_true rfl⟩ dX9_hallClause_57 (fun q6 H locs h hP hD hS => ?_)
        obtain ⟨hP, hD⟩ := cv (w' := moW k va q6) hP hD rfl
        exact fw_endV (wp := fun b : OB => moW k va b) hx hb hr hlocks h hP hD hS dX9_hallClause_60
    · have h := fw_t c1 h
      refine lv_aload_n hx hb dX9_hallClause_38 rfl (lv_at hl 0 rfl) ?_
      refine lv_iconst (v := 0) hx hb dX9_hallClause_39 (by decide) ?_
      refine lv_iload_n hx hb dX9_hallClause_40 rfl (lv_at hl 2 rfl) ?_
      refine fw_Vv (As := [.int 0, .int v2]) (rest := []) (n := 2) (wr := []) (wp := fun b : OB => moW k va b) h hx hb hml hown hts hG hA hP hD hS hl.1 (List.range (moW k va mo).length) [] (fun q hq9 => c_X9_fails l D k _  va F 0 v2 mo  hq9) (ci := 7) (q0 := 0) rfl rfl gX9_hallClause_X9_fails rfl ⟨rfl, rfl, Nat.le_of_ble_eq_true rfl, Nat.le_of_ble_eq_true rfl⟩ (by decide +kernel) (al_C _) rfl (al_n _) ⟨rfl, rfl, Nat.le_of_ble_eq_true rfl, Nat.le_of_ble_eq_true rfl, Nat.le_of_ble_eq_true rfl⟩ dX9_hallClause_41 (fun q7 H locs h hP hD hS => ?_)
      obtain ⟨hP, hD⟩ := cv (w' := moW k va q7) hP hD rfl
      exact fw_endV (wp := fun b : OB => moW k va b) hx hb hr hlocks h hP hD hS dX9_hallClause_44
  have B11 : ∀ a11 : (Int32 × Int32 × Int32 × OB), lp (b_X9_hallClause_11 F) F a11 = some res → ∀ (H : Heap) (locs : List Loc) (ls : Array Slot), va_P D vwCl (moW k va a11.2.2.2) H → va_D A (moW k va a11.2.2.2) → va_S A s.heap H locs → lv_has ls 4 [(0, .ref (va 0)), (1, .int a11.1), (2, .int a11.2.1), (3, .int a11.2.2.1)] → W p l e (rmK 7 0 0) s m (List.toArray [.ref (va 0), .int x1]) below meth c H locs 0 0 (MQ below (va_Qv (fun (_ : Unit) => True) (hcB D (fun _ : Unit => moW k va res) A) A) (List.toArray [.ref (va 0), .int x1]) s 0 0 A) (F0 m 11 ls []) := by
    refine lp_W ?_ F
    intro k11 hk11 a11 h H locs ls hP hD hS hl
    have hc11 : ∀ (v1 : Int32) (v2 : Int32) (v3 : Int32) (mo : OB), k11 (v1, v2, v3, mo) = some res → ∀ (H : Heap) (locs : List Loc) (ls : Array Slot), va_P D vwCl (moW k va mo) H → va_D A (moW k va mo) → va_S A s.heap H locs → lv_has ls 4 [(0, .ref (va 0)), (1, .int v1), (2, .int v2), (3, .int v3)] → W p l e (rmK 7 0 0) s m (List.toArray [.ref (va 0), .int x1]) below meth c H locs 0 0 (MQ below (va_Qv (fun (_ : Unit) => True) (hcB D (fun _ : Unit => moW k va res) A) A) (List.toArray [.ref (va 0), .int x1]) s 0 0 A) (F0 m 11 ls []) := fun v1 v2 v3 mo => hk11 (v1, v2, v3, mo)
    refine lv_iload_n hx hb dX9_hallClause_11 rfl (lv_at hl 3 rfl) ?_
    refine lv_iconst (v := 4) hx hb dX9_hallClause_12 (by decide) ?_
    refine lv_icmp_ge (tgt := 33) hx hb dX9_hallClause_13 (by decide) (fun c8 => ?_) (fun c8 => ?_)
    · have h := fw_t c8 h
      exact B33 _ _ _ _ _ _ _ h hP hD hS hl
    · have h := fw_f c8 h
      refine lv_aload_n hx hb dX9_hallClause_16 rfl (lv_at hl 0 rfl) ?_
      refine lv_iload_n hx hb dX9_hallClause_17 rfl (lv_at hl 3 rfl) ?_
      refine hc_SrE (As := [.int a11.2.2.1]) (rest := [.ref (va 0)]) (n := 1) (wr := moW k va a11.2.2.2) (EY.ok ad tv) hE hx hb hml hown hts hG hA hP hD hS hl.1 (List.range (moW k va a11.2.2.2).length) (c_X9_hallWord l D k _ a11.2.2.1 ad tv) gX9_hallClause_X9_hallWord rfl ⟨rfl, rfl, Nat.le_of_ble_eq_true rfl, Nat.le_of_ble_eq_true rfl⟩ (by decide +kernel) (al_C _) (al_r _) ⟨rfl, rfl, Nat.le_of_ble_eq_true rfl, Nat.le_of_ble_eq_true rfl, Nat.le_of_ble_eq_true rfl⟩ dX9_hallClause_18 (fun H locs hP hD hS => ?_)
      refine fw_ViE (As := [.ref (ad (wdH a11.2.2.1))]) (rest := []) (n := 1) (wr := []) (rv := fun b : Int32 => b) (wp := fun b : Int32 => moW k va a11.2.2.2) h (EY.ok ad tv) hE hx hb hml hown hts hG hA hP hD hS hl.1 (List.range (moW k va a11.2.2.2).length) [] (fun q hq9 => c_X9_stood l D k _ ad tv va F (wdH a11.2.2.1) a11.2.2.2  hq9) (va_recv hG.1 hP (ci := 7) (q0 := 0) rfl rfl) gX9_hallClause_X9_stood rfl ⟨rfl, rfl, Nat.le_of_ble_eq_true rfl, Nat.le_of_ble_eq_true rfl⟩ (by decide +kernel) (al_C _) rfl (al_n _) ⟨rfl, rfl, Nat.le_of_ble_eq_true rfl, Nat.le_of_ble_eq_true rfl, Nat.le_of_ble_eq_true rfl⟩ dX9_hallClause_21 (fun q9 H locs h hP hD hS => ?_)
      obtain ⟨hP, hD⟩ := cv (w' := moW k va a11.2.2.2) hP hD rfl
      refine hc_is (z := q9) rfl ?_
      refine lv_if_ne (tgt := 33) hx hb dX9_hallClause_24 (by decide) (fun c10 => ?_) (fun c10 => ?_)
      · have h := fw_f c10 h
        exact B33 _ _ _ _ _ _ _ h hP hD hS hl
      · have h := fw_t c10 h
        refine lv_iinc (v := (a11.2.2.1 + 1)) (lv' := [(3, .int (a11.2.2.1 + 1)), (0, .ref (va 0)), (1, .int a11.1), (2, .int a11.2.1)]) hx hb dX9_hallClause_27 hl (k := 3) rfl rfl (by decide) rfl (fun ls hl => ?_)
        refine lv_goto (tgt := 11) hx hb dX9_hallClause_30 (by decide) ?_
        exact hc11 _ _ _ _ h _ _ _ hP hD hS (lv_sub hl [1, 2, 3, 0] rfl)
  have C11 : ∀ (v1 : Int32) (v2 : Int32) (v3 : Int32) (mo : OB), lp (b_X9_hallClause_11 F) F (v1, v2, v3, mo) = some res → ∀ (H : Heap) (locs : List Loc) (ls : Array Slot), va_P D vwCl (moW k va mo) H → va_D A (moW k va mo) → va_S A s.heap H locs → lv_has ls 4 [(0, .ref (va 0)), (1, .int v1), (2, .int v2), (3, .int v3)] → W p l e (rmK 7 0 0) s m (List.toArray [.ref (va 0), .int x1]) below meth c H locs 0 0 (MQ below (va_Qv (fun (_ : Unit) => True) (hcB D (fun _ : Unit => moW k va res) A) A) (List.toArray [.ref (va 0), .int x1]) s 0 0 A) (F0 m 11 ls []) := fun v1 v2 v3 mo => B11 (v1, v2, v3, mo)
  refine lv_aload_n hx hb dX9_hallClause_0 rfl (lv_at hl 0 rfl) ?_
  refine fw_Vv (As := []) (rest := []) (n := 0) (wr := []) (wp := fun b : OB => moW k va b) h hx hb hml hown hts hG hA hP hD hS hl.1 (List.range (moW k va mo).length) [] (fun q hq9 => c_X9_blanks l D k _  va F  mo  hq9) (ci := 7) (q0 := 0) rfl rfl gX9_hallClause_X9_blanks rfl ⟨rfl, rfl, Nat.le_of_ble_eq_true rfl, Nat.le_of_ble_eq_true rfl⟩ (by decide +kernel) (al_C _) rfl (al_n _) ⟨rfl, rfl, Nat.le_of_ble_eq_true rfl, Nat.le_of_ble_eq_true rfl, Nat.le_of_ble_eq_true rfl⟩ dX9_hallClause_1 (fun q11 H locs h hP hD hS => ?_)
  obtain ⟨hP, hD⟩ := cv (w' := moW k va q11) hP hD rfl
  refine lv_aload_n hx hb dX9_hallClause_4 rfl (lv_at hl 0 rfl) ?_
  refine va_get (D := D) (ci := 7) (v := .int (q11.1 19)) (C := RX9) (T := TX9) (N := 53) hx hb hts in9 hown hG.1 hP 0 rfl rfl 19 (by decide) (hts (.fieldLink RX9 164 "ChairCaneModel" "p" "I") (mem_b bq_wsX9_hallClause 0 0 rfl)) (fun _ h9 => h9) rfl dX9_hallClause_5 ?_
  refine lv_istore_n (lv' := [(2, .int (q11.1 19)), (0, .ref (va 0)), (1, .int x1)]) hx hb dX9_hallClause_8 rfl hl (by decide) rfl (fun ls hl => ?_)
  refine lv_iconst (v := 0) hx hb dX9_hallClause_9 (by decide) ?_
  refine lv_istore_n (lv' := [(3, .int 0), (2, .int (q11.1 19)), (0, .ref (va 0)), (1, .int x1)]) hx hb dX9_hallClause_10 rfl hl (by decide) rfl (fun ls hl => ?_)
  exact C11 _ _ _ _ h _ _ _ hP hD hS (lv_sub hl [2, 3, 1, 0] rfl)
