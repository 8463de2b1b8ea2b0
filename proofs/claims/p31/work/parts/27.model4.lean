/-! 27.model4 -/
section
/-! the reference: more questions, as functions -/
theorem dX9_allGive_0 : decode cX9_allGive 0 = .ok (.iconst 0, 1) := of_0 ok_iconst_0 (by decide +kernel)
theorem dX9_allGive_1 : decode cX9_allGive 1 = .ok (.istore_n 1, 1) := of_0 ok_istore_n_1 (by decide +kernel)
theorem dX9_allGive_2 : decode cX9_allGive 2 = .ok (.iconst 0, 1) := of_0 ok_iconst_0 (by decide +kernel)
theorem dX9_allGive_3 : decode cX9_allGive 3 = .ok (.istore_n 2, 1) := of_0 ok_istore_n_2 (by decide +kernel)
theorem dX9_allGive_4 : decode cX9_allGive 4 = .ok (.iload_n 2, 1) := of_0 ok_iload_n_2 (by decide +kernel)
theorem dX9_allGive_5 : decode cX9_allGive 5 = .ok (.aload_n 0, 1) := of_0 ok_aload_n_0 (by decide +kernel)
theorem dX9_allGive_6 : decode cX9_allGive 6 = .ok (.getfield 9, 3) := of_u2 ok_getfield 0 9 (by decide +kernel)
theorem dX9_allGive_9 : decode cX9_allGive 9 = .ok (.iconst 3, 1) := of_0 ok_iconst_3 (by decide +kernel)
theorem dX9_allGive_10 : decode cX9_allGive 10 = .ok (.iaload, 1) := of_0 ok_iaload (by decide +kernel)
theorem dX9_allGive_11 : decode cX9_allGive 11 = .ok (.if_icmp .ge 17, 3) := of_s2 ok_if_icmp_ge 0 17 (by decide +kernel)
theorem dX9_allGive_14 : decode cX9_allGive 14 = .ok (.iload_n 1, 1) := of_0 ok_iload_n_1 (by decide +kernel)
theorem dX9_allGive_15 : decode cX9_allGive 15 = .ok (.aload_n 0, 1) := of_0 ok_aload_n_0 (by decide +kernel)
theorem dX9_allGive_16 : decode cX9_allGive 16 = .ok (.iload_n 2, 1) := of_0 ok_iload_n_2 (by decide +kernel)
theorem dX9_allGive_17 : decode cX9_allGive 17 = .ok (.invokevirtual 359, 3) := of_u2 ok_invokevirtual 1 103 (by decide +kernel)
theorem dX9_allGive_20 : decode cX9_allGive 20 = .ok (.iadd, 1) := of_0 ok_iadd (by decide +kernel)
theorem dX9_allGive_21 : decode cX9_allGive 21 = .ok (.istore_n 1, 1) := of_0 ok_istore_n_1 (by decide +kernel)
theorem dX9_allGive_22 : decode cX9_allGive 22 = .ok (.iinc 2 1, 3) := of_ii ok_iinc 1 (by decide +kernel)
theorem dX9_allGive_25 : decode cX9_allGive 25 = .ok (.goto (-21), 3) := of_s2 ok_goto 255 235 (by decide +kernel)
theorem dX9_allGive_28 : decode cX9_allGive 28 = .ok (.iload_n 1, 1) := of_0 ok_iload_n_1 (by decide +kernel)
theorem dX9_allGive_29 : decode cX9_allGive 29 = .ok (.ireturn, 1) := of_0 ok_ireturn (by decide +kernel)
theorem dX9_back_0 : decode cX9_back 0 = .ok (.iload_n 1, 1) := of_0 ok_iload_n_1 (by decide +kernel)
theorem dX9_back_1 : decode cX9_back 1 = .ok (.i2l, 1) := of_0 ok_i2l (by decide +kernel)
theorem dX9_back_2 : decode cX9_back 2 = .ok (.lconst 0, 1) := of_0 ok_lconst_0 (by decide +kernel)
theorem dX9_back_3 : decode cX9_back 3 = .ok (.ldc2_w 354, 3) := of_u2 ok_ldc2_w 1 98 (by decide +kernel)
theorem dX9_back_6 : decode cX9_back 6 = .ok (.invokestatic 131, 3) := of_u2 ok_invokestatic 0 131 (by decide +kernel)
theorem dX9_back_9 : decode cX9_back 9 = .ok (.ifCond .eq 12, 3) := of_s2 ok_ifCond_eq 0 12 (by decide +kernel)
theorem dX9_back_12 : decode cX9_back 12 = .ok (.aload_n 0, 1) := of_0 ok_aload_n_0 (by decide +kernel)
theorem dX9_back_13 : decode cX9_back 13 = .ok (.getfield 125, 3) := of_u2 ok_getfield 0 125 (by decide +kernel)
theorem dX9_back_16 : decode cX9_back 16 = .ok (.iload_n 1, 1) := of_0 ok_iload_n_1 (by decide +kernel)
theorem dX9_back_17 : decode cX9_back 17 = .ok (.baload, 1) := of_0 ok_baload (by decide +kernel)
theorem dX9_back_18 : decode cX9_back 18 = .ok (.ifCond .ne 5, 3) := of_s2 ok_ifCond_ne 0 5 (by decide +kernel)
theorem dX9_back_21 : decode cX9_back 21 = .ok (.iconst (-1), 1) := of_0 ok_iconst_m1 (by decide +kernel)
theorem dX9_back_22 : decode cX9_back 22 = .ok (.ireturn, 1) := of_0 ok_ireturn (by decide +kernel)
theorem dX9_back_23 : decode cX9_back 23 = .ok (.aload_n 0, 1) := of_0 ok_aload_n_0 (by decide +kernel)
theorem dX9_back_24 : decode cX9_back 24 = .ok (.iload_n 1, 1) := of_0 ok_iload_n_1 (by decide +kernel)
theorem dX9_back_25 : decode cX9_back 25 = .ok (.iconst 1, 1) := of_0 ok_iconst_1 (by decide +kernel)
theorem dX9_back_26 : decode cX9_back 26 = .ok (.invokevirtual 415, 3) := of_u2 ok_invokevirtual 1 159 (by decide +kernel)
theorem dX9_back_29 : decode cX9_back 29 = .ok (.aload_n 0, 1) := of_0 ok_aload_n_0 (by decide +kernel)
theorem dX9_back_30 : decode cX9_back 30 = .ok (.getfield 9, 3) := of_u2 ok_getfield 0 9 (by decide +kernel)
theorem dX9_back_33 : decode cX9_back 33 = .ok (.iconst 4, 1) := of_0 ok_iconst_4 (by decide +kernel)
theorem dX9_back_34 : decode cX9_back 34 = .ok (.iaload, 1) := of_0 ok_iaload (by decide +kernel)
theorem dX9_back_35 : decode cX9_back 35 = .ok (.ireturn, 1) := of_0 ok_ireturn (by decide +kernel)
theorem dX9_couldRule_0 : decode cX9_couldRule 0 = .ok (.aload_n 0, 1) := of_0 ok_aload_n_0 (by decide +kernel)
theorem dX9_couldRule_1 : decode cX9_couldRule 1 = .ok (.getfield 9, 3) := of_u2 ok_getfield 0 9 (by decide +kernel)
theorem dX9_couldRule_4 : decode cX9_couldRule 4 = .ok (.bipush 7, 2) := of_s1 ok_bipush 7 (by decide +kernel)
theorem dX9_couldRule_6 : decode cX9_couldRule 6 = .ok (.iload_n 1, 1) := of_0 ok_iload_n_1 (by decide +kernel)
theorem dX9_couldRule_7 : decode cX9_couldRule 7 = .ok (.iastore, 1) := of_0 ok_iastore (by decide +kernel)
theorem dX9_couldRule_8 : decode cX9_couldRule 8 = .ok (.aload_n 0, 1) := of_0 ok_aload_n_0 (by decide +kernel)
theorem dX9_couldRule_9 : decode cX9_couldRule 9 = .ok (.invokevirtual 296, 3) := of_u2 ok_invokevirtual 1 40 (by decide +kernel)
theorem dX9_couldRule_12 : decode cX9_couldRule 12 = .ok (.aload_n 0, 1) := of_0 ok_aload_n_0 (by decide +kernel)
theorem dX9_couldRule_13 : decode cX9_couldRule 13 = .ok (.invokevirtual 459, 3) := of_u2 ok_invokevirtual 1 203 (by decide +kernel)
theorem dX9_couldRule_16 : decode cX9_couldRule 16 = .ok (.ireturn, 1) := of_0 ok_ireturn (by decide +kernel)
theorem dX9_count_0 : decode cX9_count 0 = .ok (.iload_n 1, 1) := of_0 ok_iload_n_1 (by decide +kernel)
theorem dX9_count_1 : decode cX9_count 1 = .ok (.tableswitch 150 0 12 #[67, 74, 81, 88, 93, 101, 108, 114, 120, 125, 132, 137, 145], 67) := by decide +kernel
theorem dX9_count_68 : decode cX9_count 68 = .ok (.aload_n 0, 1) := of_0 ok_aload_n_0 (by decide +kernel)
theorem dX9_count_69 : decode cX9_count 69 = .ok (.getfield 9, 3) := of_u2 ok_getfield 0 9 (by decide +kernel)
theorem dX9_count_72 : decode cX9_count 72 = .ok (.iconst 1, 1) := of_0 ok_iconst_1 (by decide +kernel)
theorem dX9_count_73 : decode cX9_count 73 = .ok (.iaload, 1) := of_0 ok_iaload (by decide +kernel)
theorem dX9_count_74 : decode cX9_count 74 = .ok (.ireturn, 1) := of_0 ok_ireturn (by decide +kernel)
theorem dX9_count_75 : decode cX9_count 75 = .ok (.aload_n 0, 1) := of_0 ok_aload_n_0 (by decide +kernel)
theorem dX9_count_76 : decode cX9_count 76 = .ok (.getfield 9, 3) := of_u2 ok_getfield 0 9 (by decide +kernel)
theorem dX9_count_79 : decode cX9_count 79 = .ok (.iconst 2, 1) := of_0 ok_iconst_2 (by decide +kernel)
theorem dX9_count_80 : decode cX9_count 80 = .ok (.iaload, 1) := of_0 ok_iaload (by decide +kernel)
theorem dX9_count_81 : decode cX9_count 81 = .ok (.ireturn, 1) := of_0 ok_ireturn (by decide +kernel)
theorem dX9_count_82 : decode cX9_count 82 = .ok (.aload_n 0, 1) := of_0 ok_aload_n_0 (by decide +kernel)
theorem dX9_count_83 : decode cX9_count 83 = .ok (.getfield 9, 3) := of_u2 ok_getfield 0 9 (by decide +kernel)
theorem dX9_count_86 : decode cX9_count 86 = .ok (.iconst 3, 1) := of_0 ok_iconst_3 (by decide +kernel)
theorem dX9_count_87 : decode cX9_count 87 = .ok (.iaload, 1) := of_0 ok_iaload (by decide +kernel)
theorem dX9_count_88 : decode cX9_count 88 = .ok (.ireturn, 1) := of_0 ok_ireturn (by decide +kernel)
theorem dX9_count_89 : decode cX9_count 89 = .ok (.aload_n 0, 1) := of_0 ok_aload_n_0 (by decide +kernel)
theorem dX9_count_90 : decode cX9_count 90 = .ok (.getfield 312, 3) := of_u2 ok_getfield 1 56 (by decide +kernel)
theorem dX9_count_93 : decode cX9_count 93 = .ok (.ireturn, 1) := of_0 ok_ireturn (by decide +kernel)
theorem dX9_count_94 : decode cX9_count 94 = .ok (.aload_n 0, 1) := of_0 ok_aload_n_0 (by decide +kernel)
theorem dX9_count_95 : decode cX9_count 95 = .ok (.getfield 9, 3) := of_u2 ok_getfield 0 9 (by decide +kernel)
theorem dX9_count_98 : decode cX9_count 98 = .ok (.bipush 7, 2) := of_s1 ok_bipush 7 (by decide +kernel)
theorem dX9_count_100 : decode cX9_count 100 = .ok (.iaload, 1) := of_0 ok_iaload (by decide +kernel)
theorem dX9_count_101 : decode cX9_count 101 = .ok (.ireturn, 1) := of_0 ok_ireturn (by decide +kernel)
theorem dX9_count_102 : decode cX9_count 102 = .ok (.aload_n 0, 1) := of_0 ok_aload_n_0 (by decide +kernel)
theorem dX9_count_103 : decode cX9_count 103 = .ok (.getfield 9, 3) := of_u2 ok_getfield 0 9 (by decide +kernel)
theorem dX9_count_106 : decode cX9_count 106 = .ok (.iconst 4, 1) := of_0 ok_iconst_4 (by decide +kernel)
theorem dX9_count_107 : decode cX9_count 107 = .ok (.iaload, 1) := of_0 ok_iaload (by decide +kernel)
theorem dX9_count_108 : decode cX9_count 108 = .ok (.ireturn, 1) := of_0 ok_ireturn (by decide +kernel)
theorem dX9_count_109 : decode cX9_count 109 = .ok (.aload_n 0, 1) := of_0 ok_aload_n_0 (by decide +kernel)
theorem dX9_count_110 : decode cX9_count 110 = .ok (.iconst 1, 1) := of_0 ok_iconst_1 (by decide +kernel)
theorem dX9_count_111 : decode cX9_count 111 = .ok (.invokevirtual 341, 3) := of_u2 ok_invokevirtual 1 85 (by decide +kernel)
theorem dX9_count_114 : decode cX9_count 114 = .ok (.ireturn, 1) := of_0 ok_ireturn (by decide +kernel)
theorem dX9_count_115 : decode cX9_count 115 = .ok (.aload_n 0, 1) := of_0 ok_aload_n_0 (by decide +kernel)
theorem dX9_count_116 : decode cX9_count 116 = .ok (.iconst 2, 1) := of_0 ok_iconst_2 (by decide +kernel)
theorem dX9_count_117 : decode cX9_count 117 = .ok (.invokevirtual 341, 3) := of_u2 ok_invokevirtual 1 85 (by decide +kernel)
theorem dX9_count_120 : decode cX9_count 120 = .ok (.ireturn, 1) := of_0 ok_ireturn (by decide +kernel)
theorem dX9_count_121 : decode cX9_count 121 = .ok (.aload_n 0, 1) := of_0 ok_aload_n_0 (by decide +kernel)
theorem dX9_count_122 : decode cX9_count 122 = .ok (.invokevirtual 454, 3) := of_u2 ok_invokevirtual 1 198 (by decide +kernel)
theorem dX9_count_125 : decode cX9_count 125 = .ok (.ireturn, 1) := of_0 ok_ireturn (by decide +kernel)
theorem dX9_count_126 : decode cX9_count 126 = .ok (.aload_n 0, 1) := of_0 ok_aload_n_0 (by decide +kernel)
theorem dX9_count_127 : decode cX9_count 127 = .ok (.getfield 9, 3) := of_u2 ok_getfield 0 9 (by decide +kernel)
theorem dX9_count_130 : decode cX9_count 130 = .ok (.iconst 5, 1) := of_0 ok_iconst_5 (by decide +kernel)
theorem dX9_count_131 : decode cX9_count 131 = .ok (.iaload, 1) := of_0 ok_iaload (by decide +kernel)
theorem dX9_count_132 : decode cX9_count 132 = .ok (.ireturn, 1) := of_0 ok_ireturn (by decide +kernel)
theorem dX9_count_133 : decode cX9_count 133 = .ok (.aload_n 0, 1) := of_0 ok_aload_n_0 (by decide +kernel)
theorem dX9_count_134 : decode cX9_count 134 = .ok (.getfield 299, 3) := of_u2 ok_getfield 1 43 (by decide +kernel)
theorem dX9_count_137 : decode cX9_count 137 = .ok (.ireturn, 1) := of_0 ok_ireturn (by decide +kernel)
theorem dX9_count_138 : decode cX9_count 138 = .ok (.aload_n 0, 1) := of_0 ok_aload_n_0 (by decide +kernel)
theorem dX9_count_139 : decode cX9_count 139 = .ok (.getfield 9, 3) := of_u2 ok_getfield 0 9 (by decide +kernel)
theorem dX9_count_142 : decode cX9_count 142 = .ok (.bipush 6, 2) := of_s1 ok_bipush 6 (by decide +kernel)
theorem dX9_count_144 : decode cX9_count 144 = .ok (.iaload, 1) := of_0 ok_iaload (by decide +kernel)
theorem dX9_count_145 : decode cX9_count 145 = .ok (.ireturn, 1) := of_0 ok_ireturn (by decide +kernel)
theorem dX9_count_146 : decode cX9_count 146 = .ok (.aload_n 0, 1) := of_0 ok_aload_n_0 (by decide +kernel)
theorem dX9_count_147 : decode cX9_count 147 = .ok (.getfield 135, 3) := of_u2 ok_getfield 0 135 (by decide +kernel)
theorem dX9_count_150 : decode cX9_count 150 = .ok (.ireturn, 1) := of_0 ok_ireturn (by decide +kernel)
theorem dX9_count_151 : decode cX9_count 151 = .ok (.iconst (-1), 1) := of_0 ok_iconst_m1 (by decide +kernel)
theorem dX9_count_152 : decode cX9_count 152 = .ok (.ireturn, 1) := of_0 ok_ireturn (by decide +kernel)
theorem dX9_doNotesFit_0 : decode cX9_doNotesFit 0 = .ok (.aload_n 0, 1) := of_0 ok_aload_n_0 (by decide +kernel)
theorem dX9_doNotesFit_1 : decode cX9_doNotesFit 1 = .ok (.invokevirtual 446, 3) := of_u2 ok_invokevirtual 1 190 (by decide +kernel)
theorem dX9_doNotesFit_4 : decode cX9_doNotesFit 4 = .ok (.aload_n 0, 1) := of_0 ok_aload_n_0 (by decide +kernel)
theorem dX9_doNotesFit_5 : decode cX9_doNotesFit 5 = .ok (.invokevirtual 426, 3) := of_u2 ok_invokevirtual 1 170 (by decide +kernel)
theorem dX9_doNotesFit_8 : decode cX9_doNotesFit 8 = .ok (.iconst 0, 1) := of_0 ok_iconst_0 (by decide +kernel)
theorem dX9_doNotesFit_9 : decode cX9_doNotesFit 9 = .ok (.istore_n 1, 1) := of_0 ok_istore_n_1 (by decide +kernel)
theorem dX9_doNotesFit_10 : decode cX9_doNotesFit 10 = .ok (.iload_n 1, 1) := of_0 ok_iload_n_1 (by decide +kernel)
theorem dX9_doNotesFit_11 : decode cX9_doNotesFit 11 = .ok (.aload_n 0, 1) := of_0 ok_aload_n_0 (by decide +kernel)
theorem dX9_doNotesFit_12 : decode cX9_doNotesFit 12 = .ok (.getfield 9, 3) := of_u2 ok_getfield 0 9 (by decide +kernel)
theorem dX9_doNotesFit_15 : decode cX9_doNotesFit 15 = .ok (.iconst 5, 1) := of_0 ok_iconst_5 (by decide +kernel)
theorem dX9_doNotesFit_16 : decode cX9_doNotesFit 16 = .ok (.iaload, 1) := of_0 ok_iaload (by decide +kernel)
theorem dX9_doNotesFit_17 : decode cX9_doNotesFit 17 = .ok (.if_icmp .ge 41, 3) := of_s2 ok_if_icmp_ge 0 41 (by decide +kernel)
theorem dX9_doNotesFit_20 : decode cX9_doNotesFit 20 = .ok (.aload_n 0, 1) := of_0 ok_aload_n_0 (by decide +kernel)
theorem dX9_doNotesFit_21 : decode cX9_doNotesFit 21 = .ok (.getfield 116, 3) := of_u2 ok_getfield 0 116 (by decide +kernel)
theorem dX9_doNotesFit_24 : decode cX9_doNotesFit 24 = .ok (.bipush 8, 2) := of_s1 ok_bipush 8 (by decide +kernel)
theorem dX9_doNotesFit_26 : decode cX9_doNotesFit 26 = .ok (.aload_n 0, 1) := of_0 ok_aload_n_0 (by decide +kernel)
theorem dX9_doNotesFit_27 : decode cX9_doNotesFit 27 = .ok (.getfield 31, 3) := of_u2 ok_getfield 0 31 (by decide +kernel)
theorem dX9_doNotesFit_30 : decode cX9_doNotesFit 30 = .ok (.iload_n 1, 1) := of_0 ok_iload_n_1 (by decide +kernel)
theorem dX9_doNotesFit_31 : decode cX9_doNotesFit 31 = .ok (.iaload, 1) := of_0 ok_iaload (by decide +kernel)
theorem dX9_doNotesFit_32 : decode cX9_doNotesFit 32 = .ok (.imul, 1) := of_0 ok_imul (by decide +kernel)
theorem dX9_doNotesFit_33 : decode cX9_doNotesFit 33 = .ok (.aload_n 0, 1) := of_0 ok_aload_n_0 (by decide +kernel)
theorem dX9_doNotesFit_34 : decode cX9_doNotesFit 34 = .ok (.getfield 34, 3) := of_u2 ok_getfield 0 34 (by decide +kernel)
theorem dX9_doNotesFit_37 : decode cX9_doNotesFit 37 = .ok (.iload_n 1, 1) := of_0 ok_iload_n_1 (by decide +kernel)
theorem dX9_doNotesFit_38 : decode cX9_doNotesFit 38 = .ok (.iaload, 1) := of_0 ok_iaload (by decide +kernel)
theorem dX9_doNotesFit_39 : decode cX9_doNotesFit 39 = .ok (.iadd, 1) := of_0 ok_iadd (by decide +kernel)
theorem dX9_doNotesFit_40 : decode cX9_doNotesFit 40 = .ok (.iaload, 1) := of_0 ok_iaload (by decide +kernel)
theorem dX9_doNotesFit_41 : decode cX9_doNotesFit 41 = .ok (.aload_n 0, 1) := of_0 ok_aload_n_0 (by decide +kernel)
theorem dX9_doNotesFit_42 : decode cX9_doNotesFit 42 = .ok (.getfield 37, 3) := of_u2 ok_getfield 0 37 (by decide +kernel)
theorem dX9_doNotesFit_45 : decode cX9_doNotesFit 45 = .ok (.iload_n 1, 1) := of_0 ok_iload_n_1 (by decide +kernel)
theorem dX9_doNotesFit_46 : decode cX9_doNotesFit 46 = .ok (.iaload, 1) := of_0 ok_iaload (by decide +kernel)
theorem dX9_doNotesFit_47 : decode cX9_doNotesFit 47 = .ok (.if_icmp .eq 5, 3) := of_s2 ok_if_icmp_eq 0 5 (by decide +kernel)
theorem dX9_doNotesFit_50 : decode cX9_doNotesFit 50 = .ok (.iconst 0, 1) := of_0 ok_iconst_0 (by decide +kernel)
theorem dX9_doNotesFit_51 : decode cX9_doNotesFit 51 = .ok (.ireturn, 1) := of_0 ok_ireturn (by decide +kernel)
theorem dX9_doNotesFit_52 : decode cX9_doNotesFit 52 = .ok (.iinc 1 1, 3) := of_ii ok_iinc 1 (by decide +kernel)
theorem dX9_doNotesFit_55 : decode cX9_doNotesFit 55 = .ok (.goto (-45), 3) := of_s2 ok_goto 255 211 (by decide +kernel)
theorem dX9_doNotesFit_58 : decode cX9_doNotesFit 58 = .ok (.iconst 1, 1) := of_0 ok_iconst_1 (by decide +kernel)
theorem dX9_doNotesFit_59 : decode cX9_doNotesFit 59 = .ok (.ireturn, 1) := of_0 ok_ireturn (by decide +kernel)
theorem dX9_draws_0 : decode cX9_draws 0 = .ok (.aload_n 0, 1) := of_0 ok_aload_n_0 (by decide +kernel)
theorem dX9_draws_1 : decode cX9_draws 1 = .ok (.getfield 9, 3) := of_u2 ok_getfield 0 9 (by decide +kernel)
theorem dX9_draws_4 : decode cX9_draws 4 = .ok (.bipush 6, 2) := of_s1 ok_bipush 6 (by decide +kernel)
theorem dX9_draws_6 : decode cX9_draws 6 = .ok (.aload_n 0, 1) := of_0 ok_aload_n_0 (by decide +kernel)
theorem dX9_draws_7 : decode cX9_draws 7 = .ok (.getfield 9, 3) := of_u2 ok_getfield 0 9 (by decide +kernel)
theorem dX9_draws_10 : decode cX9_draws 10 = .ok (.bipush 6, 2) := of_s1 ok_bipush 6 (by decide +kernel)
theorem dX9_draws_12 : decode cX9_draws 12 = .ok (.iaload, 1) := of_0 ok_iaload (by decide +kernel)
theorem dX9_draws_13 : decode cX9_draws 13 = .ok (.i2l, 1) := of_0 ok_i2l (by decide +kernel)
theorem dX9_draws_14 : decode cX9_draws 14 = .ok (.ldc2_w 468, 3) := of_u2 ok_ldc2_w 1 212 (by decide +kernel)
theorem dX9_draws_17 : decode cX9_draws 17 = .ok (.lmul, 1) := of_0 ok_lmul (by decide +kernel)
theorem dX9_draws_18 : decode cX9_draws 18 = .ok (.ldc2_w 470, 3) := of_u2 ok_ldc2_w 1 214 (by decide +kernel)
theorem dX9_draws_21 : decode cX9_draws 21 = .ok (.ladd, 1) := of_0 ok_ladd (by decide +kernel)
theorem dX9_draws_22 : decode cX9_draws 22 = .ok (.ldc2_w 472, 3) := of_u2 ok_ldc2_w 1 216 (by decide +kernel)
theorem dX9_draws_25 : decode cX9_draws 25 = .ok (.lrem, 1) := of_0 ok_lrem (by decide +kernel)
theorem dX9_draws_26 : decode cX9_draws 26 = .ok (.l2i, 1) := of_0 ok_l2i (by decide +kernel)
theorem dX9_draws_27 : decode cX9_draws 27 = .ok (.iastore, 1) := of_0 ok_iastore (by decide +kernel)
theorem dX9_draws_28 : decode cX9_draws 28 = .ok (.aload_n 0, 1) := of_0 ok_aload_n_0 (by decide +kernel)
theorem dX9_draws_29 : decode cX9_draws 29 = .ok (.getfield 9, 3) := of_u2 ok_getfield 0 9 (by decide +kernel)
theorem dX9_draws_32 : decode cX9_draws 32 = .ok (.bipush 6, 2) := of_s1 ok_bipush 6 (by decide +kernel)
theorem dX9_draws_34 : decode cX9_draws 34 = .ok (.iaload, 1) := of_0 ok_iaload (by decide +kernel)
theorem dX9_draws_35 : decode cX9_draws 35 = .ok (.ldc_w 474, 3) := of_u2 ok_ldc_w 1 218 (by decide +kernel)
theorem dX9_draws_38 : decode cX9_draws 38 = .ok (.idiv, 1) := of_0 ok_idiv (by decide +kernel)
theorem dX9_draws_39 : decode cX9_draws 39 = .ok (.iload_n 1, 1) := of_0 ok_iload_n_1 (by decide +kernel)
theorem dX9_draws_40 : decode cX9_draws 40 = .ok (.irem, 1) := of_0 ok_irem (by decide +kernel)
theorem dX9_draws_41 : decode cX9_draws 41 = .ok (.ireturn, 1) := of_0 ok_ireturn (by decide +kernel)
theorem dX9_earns_0 : decode cX9_earns 0 = .ok (.aload_n 0, 1) := of_0 ok_aload_n_0 (by decide +kernel)
theorem dX9_earns_1 : decode cX9_earns 1 = .ok (.getfield 16, 3) := of_u2 ok_getfield 0 16 (by decide +kernel)
theorem dX9_earns_4 : decode cX9_earns 4 = .ok (.iload_n 1, 1) := of_0 ok_iload_n_1 (by decide +kernel)
theorem dX9_earns_5 : decode cX9_earns 5 = .ok (.iaload, 1) := of_0 ok_iaload (by decide +kernel)
theorem dX9_earns_6 : decode cX9_earns 6 = .ok (.iconst 1, 1) := of_0 ok_iconst_1 (by decide +kernel)
theorem dX9_earns_7 : decode cX9_earns 7 = .ok (.if_icmp .ne 16, 3) := of_s2 ok_if_icmp_ne 0 16 (by decide +kernel)
theorem dX9_earns_10 : decode cX9_earns 10 = .ok (.iconst 1, 1) := of_0 ok_iconst_1 (by decide +kernel)
theorem dX9_earns_11 : decode cX9_earns 11 = .ok (.aload_n 0, 1) := of_0 ok_aload_n_0 (by decide +kernel)
theorem dX9_earns_12 : decode cX9_earns 12 = .ok (.iload_n 1, 1) := of_0 ok_iload_n_1 (by decide +kernel)
theorem dX9_earns_13 : decode cX9_earns 13 = .ok (.invokevirtual 359, 3) := of_u2 ok_invokevirtual 1 103 (by decide +kernel)
theorem dX9_earns_16 : decode cX9_earns 16 = .ok (.bipush 10, 2) := of_s1 ok_bipush 10 (by decide +kernel)
theorem dX9_earns_18 : decode cX9_earns 18 = .ok (.idiv, 1) := of_0 ok_idiv (by decide +kernel)
theorem dX9_earns_19 : decode cX9_earns 19 = .ok (.iadd, 1) := of_0 ok_iadd (by decide +kernel)
theorem dX9_earns_20 : decode cX9_earns 20 = .ok (.goto 4, 3) := of_s2 ok_goto 0 4 (by decide +kernel)
theorem dX9_earns_23 : decode cX9_earns 23 = .ok (.iconst 0, 1) := of_0 ok_iconst_0 (by decide +kernel)
theorem dX9_earns_24 : decode cX9_earns 24 = .ok (.ireturn, 1) := of_0 ok_ireturn (by decide +kernel)
theorem dX9_image_0 : decode cX9_image 0 = .ok (.iload_n 1, 1) := of_0 ok_iload_n_1 (by decide +kernel)
theorem dX9_image_1 : decode cX9_image 1 = .ok (.i2l, 1) := of_0 ok_i2l (by decide +kernel)
theorem dX9_image_2 : decode cX9_image 2 = .ok (.lconst 0, 1) := of_0 ok_lconst_0 (by decide +kernel)
theorem dX9_image_3 : decode cX9_image 3 = .ok (.ldc2_w 354, 3) := of_u2 ok_ldc2_w 1 98 (by decide +kernel)
theorem dX9_image_6 : decode cX9_image 6 = .ok (.invokestatic 131, 3) := of_u2 ok_invokestatic 0 131 (by decide +kernel)
theorem dX9_image_9 : decode cX9_image 9 = .ok (.ifCond .ne 5, 3) := of_s2 ok_ifCond_ne 0 5 (by decide +kernel)
theorem dX9_image_12 : decode cX9_image 12 = .ok (.iconst (-1), 1) := of_0 ok_iconst_m1 (by decide +kernel)
theorem dX9_image_13 : decode cX9_image 13 = .ok (.ireturn, 1) := of_0 ok_ireturn (by decide +kernel)
theorem dX9_image_14 : decode cX9_image 14 = .ok (.aload_n 0, 1) := of_0 ok_aload_n_0 (by decide +kernel)
theorem dX9_image_15 : decode cX9_image 15 = .ok (.getfield 125, 3) := of_u2 ok_getfield 0 125 (by decide +kernel)
theorem dX9_image_18 : decode cX9_image 18 = .ok (.iload_n 1, 1) := of_0 ok_iload_n_1 (by decide +kernel)
theorem dX9_image_19 : decode cX9_image 19 = .ok (.iconst 1, 1) := of_0 ok_iconst_1 (by decide +kernel)
theorem dX9_image_20 : decode cX9_image 20 = .ok (.bastore, 1) := of_0 ok_bastore (by decide +kernel)
theorem dX9_image_21 : decode cX9_image 21 = .ok (.aload_n 0, 1) := of_0 ok_aload_n_0 (by decide +kernel)
theorem dX9_image_22 : decode cX9_image 22 = .ok (.iload_n 1, 1) := of_0 ok_iload_n_1 (by decide +kernel)
theorem dX9_image_23 : decode cX9_image 23 = .ok (.iconst 0, 1) := of_0 ok_iconst_0 (by decide +kernel)
theorem dX9_image_24 : decode cX9_image 24 = .ok (.invokevirtual 415, 3) := of_u2 ok_invokevirtual 1 159 (by decide +kernel)
theorem dX9_image_27 : decode cX9_image 27 = .ok (.aload_n 0, 1) := of_0 ok_aload_n_0 (by decide +kernel)
theorem dX9_image_28 : decode cX9_image 28 = .ok (.getfield 9, 3) := of_u2 ok_getfield 0 9 (by decide +kernel)
theorem dX9_image_31 : decode cX9_image 31 = .ok (.iconst 4, 1) := of_0 ok_iconst_4 (by decide +kernel)
theorem dX9_image_32 : decode cX9_image 32 = .ok (.iaload, 1) := of_0 ok_iaload (by decide +kernel)
theorem dX9_image_33 : decode cX9_image 33 = .ok (.ireturn, 1) := of_0 ok_ireturn (by decide +kernel)
theorem dX9_isAlike_0 : decode cX9_isAlike 0 = .ok (.iconst 0, 1) := of_0 ok_iconst_0 (by decide +kernel)
theorem dX9_isAlike_1 : decode cX9_isAlike 1 = .ok (.istore_n 3, 1) := of_0 ok_istore_n_3 (by decide +kernel)
theorem dX9_isAlike_2 : decode cX9_isAlike 2 = .ok (.iload_n 3, 1) := of_0 ok_iload_n_3 (by decide +kernel)
theorem dX9_isAlike_3 : decode cX9_isAlike 3 = .ok (.aload_n 0, 1) := of_0 ok_aload_n_0 (by decide +kernel)
theorem dX9_isAlike_4 : decode cX9_isAlike 4 = .ok (.getfield 9, 3) := of_u2 ok_getfield 0 9 (by decide +kernel)
theorem dX9_isAlike_7 : decode cX9_isAlike 7 = .ok (.iconst 3, 1) := of_0 ok_iconst_3 (by decide +kernel)
theorem dX9_isAlike_8 : decode cX9_isAlike 8 = .ok (.iaload, 1) := of_0 ok_iaload (by decide +kernel)
theorem dX9_isAlike_9 : decode cX9_isAlike 9 = .ok (.if_icmp .ge 36, 3) := of_s2 ok_if_icmp_ge 0 36 (by decide +kernel)
theorem dX9_isAlike_12 : decode cX9_isAlike 12 = .ok (.aload_n 0, 1) := of_0 ok_aload_n_0 (by decide +kernel)
theorem dX9_isAlike_13 : decode cX9_isAlike 13 = .ok (.getfield 116, 3) := of_u2 ok_getfield 0 116 (by decide +kernel)
theorem dX9_isAlike_16 : decode cX9_isAlike 16 = .ok (.bipush 8, 2) := of_s1 ok_bipush 8 (by decide +kernel)
theorem dX9_isAlike_18 : decode cX9_isAlike 18 = .ok (.iload_n 1, 1) := of_0 ok_iload_n_1 (by decide +kernel)
theorem dX9_isAlike_19 : decode cX9_isAlike 19 = .ok (.imul, 1) := of_0 ok_imul (by decide +kernel)
theorem dX9_isAlike_20 : decode cX9_isAlike 20 = .ok (.iload_n 3, 1) := of_0 ok_iload_n_3 (by decide +kernel)
theorem dX9_isAlike_21 : decode cX9_isAlike 21 = .ok (.iadd, 1) := of_0 ok_iadd (by decide +kernel)
theorem dX9_isAlike_22 : decode cX9_isAlike 22 = .ok (.iaload, 1) := of_0 ok_iaload (by decide +kernel)
theorem dX9_isAlike_23 : decode cX9_isAlike 23 = .ok (.aload_n 0, 1) := of_0 ok_aload_n_0 (by decide +kernel)
theorem dX9_isAlike_24 : decode cX9_isAlike 24 = .ok (.getfield 116, 3) := of_u2 ok_getfield 0 116 (by decide +kernel)
theorem dX9_isAlike_27 : decode cX9_isAlike 27 = .ok (.bipush 8, 2) := of_s1 ok_bipush 8 (by decide +kernel)
theorem dX9_isAlike_29 : decode cX9_isAlike 29 = .ok (.iload_n 2, 1) := of_0 ok_iload_n_2 (by decide +kernel)
theorem dX9_isAlike_30 : decode cX9_isAlike 30 = .ok (.imul, 1) := of_0 ok_imul (by decide +kernel)
theorem dX9_isAlike_31 : decode cX9_isAlike 31 = .ok (.iload_n 3, 1) := of_0 ok_iload_n_3 (by decide +kernel)
theorem dX9_isAlike_32 : decode cX9_isAlike 32 = .ok (.iadd, 1) := of_0 ok_iadd (by decide +kernel)
theorem dX9_isAlike_33 : decode cX9_isAlike 33 = .ok (.iaload, 1) := of_0 ok_iaload (by decide +kernel)
theorem dX9_isAlike_34 : decode cX9_isAlike 34 = .ok (.if_icmp .eq 5, 3) := of_s2 ok_if_icmp_eq 0 5 (by decide +kernel)
theorem dX9_isAlike_37 : decode cX9_isAlike 37 = .ok (.iconst 0, 1) := of_0 ok_iconst_0 (by decide +kernel)
theorem dX9_isAlike_38 : decode cX9_isAlike 38 = .ok (.ireturn, 1) := of_0 ok_ireturn (by decide +kernel)
theorem dX9_isAlike_39 : decode cX9_isAlike 39 = .ok (.iinc 3 1, 3) := of_ii ok_iinc 1 (by decide +kernel)
theorem dX9_isAlike_42 : decode cX9_isAlike 42 = .ok (.goto (-40), 3) := of_s2 ok_goto 255 216 (by decide +kernel)
theorem dX9_isAlike_45 : decode cX9_isAlike 45 = .ok (.iconst 1, 1) := of_0 ok_iconst_1 (by decide +kernel)
theorem dX9_isAlike_46 : decode cX9_isAlike 46 = .ok (.ireturn, 1) := of_0 ok_ireturn (by decide +kernel)
theorem dX9_laysAll_0 : decode cX9_laysAll 0 = .ok (.iconst 0, 1) := of_0 ok_iconst_0 (by decide +kernel)
theorem dX9_laysAll_1 : decode cX9_laysAll 1 = .ok (.istore_n 1, 1) := of_0 ok_istore_n_1 (by decide +kernel)
theorem dX9_laysAll_2 : decode cX9_laysAll 2 = .ok (.iload_n 1, 1) := of_0 ok_iload_n_1 (by decide +kernel)
theorem dX9_laysAll_3 : decode cX9_laysAll 3 = .ok (.bipush 60, 2) := of_s1 ok_bipush 60 (by decide +kernel)
theorem dX9_laysAll_5 : decode cX9_laysAll 5 = .ok (.if_icmp .gt 45, 3) := of_s2 ok_if_icmp_gt 0 45 (by decide +kernel)
theorem dX9_laysAll_8 : decode cX9_laysAll 8 = .ok (.iconst 0, 1) := of_0 ok_iconst_0 (by decide +kernel)
theorem dX9_laysAll_9 : decode cX9_laysAll 9 = .ok (.istore_n 2, 1) := of_0 ok_istore_n_2 (by decide +kernel)
theorem dX9_laysAll_10 : decode cX9_laysAll 10 = .ok (.iload_n 2, 1) := of_0 ok_iload_n_2 (by decide +kernel)
theorem dX9_laysAll_11 : decode cX9_laysAll 11 = .ok (.bipush 8, 2) := of_s1 ok_bipush 8 (by decide +kernel)
theorem dX9_laysAll_13 : decode cX9_laysAll 13 = .ok (.if_icmp .ge 26, 3) := of_s2 ok_if_icmp_ge 0 26 (by decide +kernel)
theorem dX9_laysAll_16 : decode cX9_laysAll 16 = .ok (.aload_n 0, 1) := of_0 ok_aload_n_0 (by decide +kernel)
theorem dX9_laysAll_17 : decode cX9_laysAll 17 = .ok (.getfield 116, 3) := of_u2 ok_getfield 0 116 (by decide +kernel)
theorem dX9_laysAll_20 : decode cX9_laysAll 20 = .ok (.bipush 8, 2) := of_s1 ok_bipush 8 (by decide +kernel)
theorem dX9_laysAll_22 : decode cX9_laysAll 22 = .ok (.iload_n 1, 1) := of_0 ok_iload_n_1 (by decide +kernel)
theorem dX9_laysAll_23 : decode cX9_laysAll 23 = .ok (.imul, 1) := of_0 ok_imul (by decide +kernel)
theorem dX9_laysAll_24 : decode cX9_laysAll 24 = .ok (.iload_n 2, 1) := of_0 ok_iload_n_2 (by decide +kernel)
theorem dX9_laysAll_25 : decode cX9_laysAll 25 = .ok (.iadd, 1) := of_0 ok_iadd (by decide +kernel)
theorem dX9_laysAll_26 : decode cX9_laysAll 26 = .ok (.aload_n 0, 1) := of_0 ok_aload_n_0 (by decide +kernel)
theorem dX9_laysAll_27 : decode cX9_laysAll 27 = .ok (.getfield 16, 3) := of_u2 ok_getfield 0 16 (by decide +kernel)
theorem dX9_laysAll_30 : decode cX9_laysAll 30 = .ok (.iload_n 2, 1) := of_0 ok_iload_n_2 (by decide +kernel)
theorem dX9_laysAll_31 : decode cX9_laysAll 31 = .ok (.iaload, 1) := of_0 ok_iaload (by decide +kernel)
theorem dX9_laysAll_32 : decode cX9_laysAll 32 = .ok (.iastore, 1) := of_0 ok_iastore (by decide +kernel)
theorem dX9_laysAll_33 : decode cX9_laysAll 33 = .ok (.iinc 2 1, 3) := of_ii ok_iinc 1 (by decide +kernel)
theorem dX9_laysAll_36 : decode cX9_laysAll 36 = .ok (.goto (-26), 3) := of_s2 ok_goto 255 230 (by decide +kernel)
theorem dX9_laysAll_39 : decode cX9_laysAll 39 = .ok (.aload_n 0, 1) := of_0 ok_aload_n_0 (by decide +kernel)
theorem dX9_laysAll_40 : decode cX9_laysAll 40 = .ok (.invokevirtual 383, 3) := of_u2 ok_invokevirtual 1 127 (by decide +kernel)
theorem dX9_laysAll_43 : decode cX9_laysAll 43 = .ok (.pop, 1) := of_0 ok_pop (by decide +kernel)
theorem dX9_laysAll_44 : decode cX9_laysAll 44 = .ok (.iinc 1 1, 3) := of_ii ok_iinc 1 (by decide +kernel)
theorem dX9_laysAll_47 : decode cX9_laysAll 47 = .ok (.goto (-45), 3) := of_s2 ok_goto 255 211 (by decide +kernel)
theorem dX9_laysAll_50 : decode cX9_laysAll 50 = .ok (.return_, 1) := of_0 ok_return_ (by decide +kernel)
theorem dX9_laysWays_0 : decode cX9_laysWays 0 = .ok (.aload_n 0, 1) := of_0 ok_aload_n_0 (by decide +kernel)
theorem dX9_laysWays_1 : decode cX9_laysWays 1 = .ok (.invokevirtual 420, 3) := of_u2 ok_invokevirtual 1 164 (by decide +kernel)
theorem dX9_laysWays_4 : decode cX9_laysWays 4 = .ok (.iconst 0, 1) := of_0 ok_iconst_0 (by decide +kernel)
theorem dX9_laysWays_5 : decode cX9_laysWays 5 = .ok (.istore 4, 2) := of_u1 ok_istore (by decide +kernel)
theorem dX9_laysWays_7 : decode cX9_laysWays 7 = .ok (.iload 4, 2) := of_u1 ok_iload (by decide +kernel)
theorem dX9_laysWays_9 : decode cX9_laysWays 9 = .ok (.iconst 4, 1) := of_0 ok_iconst_4 (by decide +kernel)
theorem dX9_laysWays_10 : decode cX9_laysWays 10 = .ok (.if_icmp .ge 151, 3) := of_s2 ok_if_icmp_ge 0 151 (by decide +kernel)
theorem dX9_laysWays_13 : decode cX9_laysWays 13 = .ok (.aload_n 0, 1) := of_0 ok_aload_n_0 (by decide +kernel)
theorem dX9_laysWays_14 : decode cX9_laysWays 14 = .ok (.getfield 97, 3) := of_u2 ok_getfield 0 97 (by decide +kernel)
theorem dX9_laysWays_17 : decode cX9_laysWays 17 = .ok (.iload_n 1, 1) := of_0 ok_iload_n_1 (by decide +kernel)
theorem dX9_laysWays_18 : decode cX9_laysWays 18 = .ok (.iload 4, 2) := of_u1 ok_iload (by decide +kernel)
theorem dX9_laysWays_20 : decode cX9_laysWays 20 = .ok (.iconst 2, 1) := of_0 ok_iconst_2 (by decide +kernel)
theorem dX9_laysWays_21 : decode cX9_laysWays 21 = .ok (.idiv, 1) := of_0 ok_idiv (by decide +kernel)
theorem dX9_laysWays_22 : decode cX9_laysWays 22 = .ok (.iastore, 1) := of_0 ok_iastore (by decide +kernel)
theorem dX9_laysWays_23 : decode cX9_laysWays 23 = .ok (.aload_n 0, 1) := of_0 ok_aload_n_0 (by decide +kernel)
theorem dX9_laysWays_24 : decode cX9_laysWays 24 = .ok (.getfield 97, 3) := of_u2 ok_getfield 0 97 (by decide +kernel)
theorem dX9_laysWays_27 : decode cX9_laysWays 27 = .ok (.iload_n 2, 1) := of_0 ok_iload_n_2 (by decide +kernel)
theorem dX9_laysWays_28 : decode cX9_laysWays 28 = .ok (.iload 4, 2) := of_u1 ok_iload (by decide +kernel)
theorem dX9_laysWays_30 : decode cX9_laysWays 30 = .ok (.iconst 2, 1) := of_0 ok_iconst_2 (by decide +kernel)
theorem dX9_laysWays_31 : decode cX9_laysWays 31 = .ok (.irem, 1) := of_0 ok_irem (by decide +kernel)
theorem dX9_laysWays_32 : decode cX9_laysWays 32 = .ok (.iastore, 1) := of_0 ok_iastore (by decide +kernel)
theorem dX9_laysWays_33 : decode cX9_laysWays 33 = .ok (.aload_n 0, 1) := of_0 ok_aload_n_0 (by decide +kernel)
theorem dX9_laysWays_34 : decode cX9_laysWays 34 = .ok (.getfield 110, 3) := of_u2 ok_getfield 0 110 (by decide +kernel)
theorem dX9_laysWays_37 : decode cX9_laysWays 37 = .ok (.iload 4, 2) := of_u1 ok_iload (by decide +kernel)
theorem dX9_laysWays_39 : decode cX9_laysWays 39 = .ok (.iconst 0, 1) := of_0 ok_iconst_0 (by decide +kernel)
theorem dX9_laysWays_40 : decode cX9_laysWays 40 = .ok (.iastore, 1) := of_0 ok_iastore (by decide +kernel)
theorem dX9_laysWays_41 : decode cX9_laysWays 41 = .ok (.aload_n 0, 1) := of_0 ok_aload_n_0 (by decide +kernel)
theorem dX9_laysWays_42 : decode cX9_laysWays 42 = .ok (.getfield 113, 3) := of_u2 ok_getfield 0 113 (by decide +kernel)
theorem dX9_laysWays_45 : decode cX9_laysWays 45 = .ok (.iload 4, 2) := of_u1 ok_iload (by decide +kernel)
theorem dX9_laysWays_47 : decode cX9_laysWays 47 = .ok (.iconst 0, 1) := of_0 ok_iconst_0 (by decide +kernel)
theorem dX9_laysWays_48 : decode cX9_laysWays 48 = .ok (.iastore, 1) := of_0 ok_iastore (by decide +kernel)
theorem dX9_laysWays_49 : decode cX9_laysWays 49 = .ok (.iconst 0, 1) := of_0 ok_iconst_0 (by decide +kernel)
theorem dX9_laysWays_50 : decode cX9_laysWays 50 = .ok (.istore 5, 2) := of_u1 ok_istore (by decide +kernel)
theorem dX9_laysWays_52 : decode cX9_laysWays 52 = .ok (.iload 5, 2) := of_u1 ok_iload (by decide +kernel)
theorem dX9_laysWays_54 : decode cX9_laysWays 54 = .ok (.iload_n 3, 1) := of_0 ok_iload_n_3 (by decide +kernel)
theorem dX9_laysWays_55 : decode cX9_laysWays 55 = .ok (.if_icmp .ge 44, 3) := of_s2 ok_if_icmp_ge 0 44 (by decide +kernel)
theorem dX9_laysWays_58 : decode cX9_laysWays 58 = .ok (.aload_n 0, 1) := of_0 ok_aload_n_0 (by decide +kernel)
theorem dX9_laysWays_59 : decode cX9_laysWays 59 = .ok (.invokevirtual 383, 3) := of_u2 ok_invokevirtual 1 127 (by decide +kernel)
theorem dX9_laysWays_62 : decode cX9_laysWays 62 = .ok (.pop, 1) := of_0 ok_pop (by decide +kernel)
theorem dX9_laysWays_63 : decode cX9_laysWays 63 = .ok (.aload_n 0, 1) := of_0 ok_aload_n_0 (by decide +kernel)
theorem dX9_laysWays_64 : decode cX9_laysWays 64 = .ok (.getfield 110, 3) := of_u2 ok_getfield 0 110 (by decide +kernel)
theorem dX9_laysWays_67 : decode cX9_laysWays 67 = .ok (.iload 4, 2) := of_u1 ok_iload (by decide +kernel)
theorem dX9_laysWays_69 : decode cX9_laysWays 69 = .ok (.dup2, 1) := of_0 ok_dup2 (by decide +kernel)
theorem dX9_laysWays_70 : decode cX9_laysWays 70 = .ok (.iaload, 1) := of_0 ok_iaload (by decide +kernel)
theorem dX9_laysWays_71 : decode cX9_laysWays 71 = .ok (.aload_n 0, 1) := of_0 ok_aload_n_0 (by decide +kernel)
theorem dX9_laysWays_72 : decode cX9_laysWays 72 = .ok (.iload_n 1, 1) := of_0 ok_iload_n_1 (by decide +kernel)
theorem dX9_laysWays_73 : decode cX9_laysWays 73 = .ok (.invokevirtual 437, 3) := of_u2 ok_invokevirtual 1 181 (by decide +kernel)
theorem dX9_laysWays_76 : decode cX9_laysWays 76 = .ok (.iadd, 1) := of_0 ok_iadd (by decide +kernel)
theorem dX9_laysWays_77 : decode cX9_laysWays 77 = .ok (.iastore, 1) := of_0 ok_iastore (by decide +kernel)
theorem dX9_laysWays_78 : decode cX9_laysWays 78 = .ok (.aload_n 0, 1) := of_0 ok_aload_n_0 (by decide +kernel)
theorem dX9_laysWays_79 : decode cX9_laysWays 79 = .ok (.getfield 113, 3) := of_u2 ok_getfield 0 113 (by decide +kernel)
theorem dX9_laysWays_82 : decode cX9_laysWays 82 = .ok (.iload 4, 2) := of_u1 ok_iload (by decide +kernel)
theorem dX9_laysWays_84 : decode cX9_laysWays 84 = .ok (.dup2, 1) := of_0 ok_dup2 (by decide +kernel)
theorem dX9_laysWays_85 : decode cX9_laysWays 85 = .ok (.iaload, 1) := of_0 ok_iaload (by decide +kernel)
theorem dX9_laysWays_86 : decode cX9_laysWays 86 = .ok (.aload_n 0, 1) := of_0 ok_aload_n_0 (by decide +kernel)
theorem dX9_laysWays_87 : decode cX9_laysWays 87 = .ok (.iload_n 2, 1) := of_0 ok_iload_n_2 (by decide +kernel)
theorem dX9_laysWays_88 : decode cX9_laysWays 88 = .ok (.invokevirtual 437, 3) := of_u2 ok_invokevirtual 1 181 (by decide +kernel)
theorem dX9_laysWays_91 : decode cX9_laysWays 91 = .ok (.iadd, 1) := of_0 ok_iadd (by decide +kernel)
theorem dX9_laysWays_92 : decode cX9_laysWays 92 = .ok (.iastore, 1) := of_0 ok_iastore (by decide +kernel)
theorem dX9_laysWays_93 : decode cX9_laysWays 93 = .ok (.iinc 5 1, 3) := of_ii ok_iinc 1 (by decide +kernel)
theorem dX9_laysWays_96 : decode cX9_laysWays 96 = .ok (.goto (-44), 3) := of_s2 ok_goto 255 212 (by decide +kernel)
theorem dX9_laysWays_99 : decode cX9_laysWays 99 = .ok (.aload_n 0, 1) := of_0 ok_aload_n_0 (by decide +kernel)
theorem dX9_laysWays_100 : decode cX9_laysWays 100 = .ok (.getfield 110, 3) := of_u2 ok_getfield 0 110 (by decide +kernel)
theorem dX9_laysWays_103 : decode cX9_laysWays 103 = .ok (.iload 4, 2) := of_u1 ok_iload (by decide +kernel)
theorem dX9_laysWays_105 : decode cX9_laysWays 105 = .ok (.dup2, 1) := of_0 ok_dup2 (by decide +kernel)
theorem dX9_laysWays_106 : decode cX9_laysWays 106 = .ok (.iaload, 1) := of_0 ok_iaload (by decide +kernel)
theorem dX9_laysWays_107 : decode cX9_laysWays 107 = .ok (.aload_n 0, 1) := of_0 ok_aload_n_0 (by decide +kernel)
theorem dX9_laysWays_108 : decode cX9_laysWays 108 = .ok (.getfield 16, 3) := of_u2 ok_getfield 0 16 (by decide +kernel)
theorem dX9_laysWays_111 : decode cX9_laysWays 111 = .ok (.iload_n 1, 1) := of_0 ok_iload_n_1 (by decide +kernel)
theorem dX9_laysWays_112 : decode cX9_laysWays 112 = .ok (.iaload, 1) := of_0 ok_iaload (by decide +kernel)
theorem dX9_laysWays_113 : decode cX9_laysWays 113 = .ok (.iconst 2, 1) := of_0 ok_iconst_2 (by decide +kernel)
theorem dX9_laysWays_114 : decode cX9_laysWays 114 = .ok (.if_icmp .ne 8, 3) := of_s2 ok_if_icmp_ne 0 8 (by decide +kernel)
theorem dX9_laysWays_117 : decode cX9_laysWays 117 = .ok (.bipush 10, 2) := of_s1 ok_bipush 10 (by decide +kernel)
theorem dX9_laysWays_119 : decode cX9_laysWays 119 = .ok (.goto 4, 3) := of_s2 ok_goto 0 4 (by decide +kernel)
theorem dX9_laysWays_122 : decode cX9_laysWays 122 = .ok (.iconst 0, 1) := of_0 ok_iconst_0 (by decide +kernel)
theorem dX9_laysWays_123 : decode cX9_laysWays 123 = .ok (.isub, 1) := of_0 ok_isub (by decide +kernel)
theorem dX9_laysWays_124 : decode cX9_laysWays 124 = .ok (.iastore, 1) := of_0 ok_iastore (by decide +kernel)
theorem dX9_laysWays_125 : decode cX9_laysWays 125 = .ok (.aload_n 0, 1) := of_0 ok_aload_n_0 (by decide +kernel)
theorem dX9_laysWays_126 : decode cX9_laysWays 126 = .ok (.getfield 113, 3) := of_u2 ok_getfield 0 113 (by decide +kernel)
theorem dX9_laysWays_129 : decode cX9_laysWays 129 = .ok (.iload 4, 2) := of_u1 ok_iload (by decide +kernel)
theorem dX9_laysWays_131 : decode cX9_laysWays 131 = .ok (.dup2, 1) := of_0 ok_dup2 (by decide +kernel)
theorem dX9_laysWays_132 : decode cX9_laysWays 132 = .ok (.iaload, 1) := of_0 ok_iaload (by decide +kernel)
theorem dX9_laysWays_133 : decode cX9_laysWays 133 = .ok (.aload_n 0, 1) := of_0 ok_aload_n_0 (by decide +kernel)
theorem dX9_laysWays_134 : decode cX9_laysWays 134 = .ok (.getfield 16, 3) := of_u2 ok_getfield 0 16 (by decide +kernel)
theorem dX9_laysWays_137 : decode cX9_laysWays 137 = .ok (.iload_n 2, 1) := of_0 ok_iload_n_2 (by decide +kernel)
theorem dX9_laysWays_138 : decode cX9_laysWays 138 = .ok (.iaload, 1) := of_0 ok_iaload (by decide +kernel)
theorem dX9_laysWays_139 : decode cX9_laysWays 139 = .ok (.iconst 2, 1) := of_0 ok_iconst_2 (by decide +kernel)
theorem dX9_laysWays_140 : decode cX9_laysWays 140 = .ok (.if_icmp .ne 8, 3) := of_s2 ok_if_icmp_ne 0 8 (by decide +kernel)
theorem dX9_laysWays_143 : decode cX9_laysWays 143 = .ok (.bipush 10, 2) := of_s1 ok_bipush 10 (by decide +kernel)
theorem dX9_laysWays_145 : decode cX9_laysWays 145 = .ok (.goto 4, 3) := of_s2 ok_goto 0 4 (by decide +kernel)
theorem dX9_laysWays_148 : decode cX9_laysWays 148 = .ok (.iconst 0, 1) := of_0 ok_iconst_0 (by decide +kernel)
theorem dX9_laysWays_149 : decode cX9_laysWays 149 = .ok (.isub, 1) := of_0 ok_isub (by decide +kernel)
theorem dX9_laysWays_150 : decode cX9_laysWays 150 = .ok (.iastore, 1) := of_0 ok_iastore (by decide +kernel)
theorem dX9_laysWays_151 : decode cX9_laysWays 151 = .ok (.aload_n 0, 1) := of_0 ok_aload_n_0 (by decide +kernel)
theorem dX9_laysWays_152 : decode cX9_laysWays 152 = .ok (.invokevirtual 426, 3) := of_u2 ok_invokevirtual 1 170 (by decide +kernel)
theorem dX9_laysWays_155 : decode cX9_laysWays 155 = .ok (.iinc 4 1, 3) := of_ii ok_iinc 1 (by decide +kernel)
theorem dX9_laysWays_158 : decode cX9_laysWays 158 = .ok (.goto (-151), 3) := of_s2 ok_goto 255 105 (by decide +kernel)
theorem dX9_laysWays_161 : decode cX9_laysWays 161 = .ok (.aload_n 0, 1) := of_0 ok_aload_n_0 (by decide +kernel)
theorem dX9_laysWays_162 : decode cX9_laysWays 162 = .ok (.getfield 97, 3) := of_u2 ok_getfield 0 97 (by decide +kernel)
theorem dX9_laysWays_165 : decode cX9_laysWays 165 = .ok (.iload_n 1, 1) := of_0 ok_iload_n_1 (by decide +kernel)
theorem dX9_laysWays_166 : decode cX9_laysWays 166 = .ok (.iconst (-1), 1) := of_0 ok_iconst_m1 (by decide +kernel)
theorem dX9_laysWays_167 : decode cX9_laysWays 167 = .ok (.iastore, 1) := of_0 ok_iastore (by decide +kernel)
theorem dX9_laysWays_168 : decode cX9_laysWays 168 = .ok (.aload_n 0, 1) := of_0 ok_aload_n_0 (by decide +kernel)
theorem dX9_laysWays_169 : decode cX9_laysWays 169 = .ok (.getfield 97, 3) := of_u2 ok_getfield 0 97 (by decide +kernel)
theorem dX9_laysWays_172 : decode cX9_laysWays 172 = .ok (.iload_n 2, 1) := of_0 ok_iload_n_2 (by decide +kernel)
theorem dX9_laysWays_173 : decode cX9_laysWays 173 = .ok (.iconst (-1), 1) := of_0 ok_iconst_m1 (by decide +kernel)
theorem dX9_laysWays_174 : decode cX9_laysWays 174 = .ok (.iastore, 1) := of_0 ok_iastore (by decide +kernel)
theorem dX9_laysWays_175 : decode cX9_laysWays 175 = .ok (.return_, 1) := of_0 ok_return_ (by decide +kernel)
theorem dX9_look_0 : decode cX9_look 0 = .ok (.aload_n 0, 1) := of_0 ok_aload_n_0 (by decide +kernel)
theorem dX9_look_1 : decode cX9_look 1 = .ok (.invokevirtual 404, 3) := of_u2 ok_invokevirtual 1 148 (by decide +kernel)
theorem dX9_look_4 : decode cX9_look 4 = .ok (.ifCond .eq 25, 3) := of_s2 ok_ifCond_eq 0 25 (by decide +kernel)
theorem dX9_look_7 : decode cX9_look 7 = .ok (.iload_n 1, 1) := of_0 ok_iload_n_1 (by decide +kernel)
theorem dX9_look_8 : decode cX9_look 8 = .ok (.i2l, 1) := of_0 ok_i2l (by decide +kernel)
theorem dX9_look_9 : decode cX9_look 9 = .ok (.lconst 0, 1) := of_0 ok_lconst_0 (by decide +kernel)
theorem dX9_look_10 : decode cX9_look 10 = .ok (.ldc2_w 457, 3) := of_u2 ok_ldc2_w 1 201 (by decide +kernel)
theorem dX9_look_13 : decode cX9_look 13 = .ok (.invokestatic 131, 3) := of_u2 ok_invokestatic 0 131 (by decide +kernel)
theorem dX9_look_16 : decode cX9_look 16 = .ok (.ifCond .eq 13, 3) := of_s2 ok_ifCond_eq 0 13 (by decide +kernel)
theorem dX9_look_19 : decode cX9_look 19 = .ok (.iload_n 2, 1) := of_0 ok_iload_n_2 (by decide +kernel)
theorem dX9_look_20 : decode cX9_look 20 = .ok (.i2l, 1) := of_0 ok_i2l (by decide +kernel)
theorem dX9_look_21 : decode cX9_look 21 = .ok (.lconst 0, 1) := of_0 ok_lconst_0 (by decide +kernel)
theorem dX9_look_22 : decode cX9_look 22 = .ok (.lconst 1, 1) := of_0 ok_lconst_1 (by decide +kernel)
theorem dX9_look_23 : decode cX9_look 23 = .ok (.invokestatic 131, 3) := of_u2 ok_invokestatic 0 131 (by decide +kernel)
theorem dX9_look_26 : decode cX9_look 26 = .ok (.ifCond .ne 5, 3) := of_s2 ok_ifCond_ne 0 5 (by decide +kernel)
theorem dX9_look_29 : decode cX9_look 29 = .ok (.iconst (-1), 1) := of_0 ok_iconst_m1 (by decide +kernel)
theorem dX9_look_30 : decode cX9_look 30 = .ok (.ireturn, 1) := of_0 ok_ireturn (by decide +kernel)
theorem dX9_look_31 : decode cX9_look 31 = .ok (.aload_n 0, 1) := of_0 ok_aload_n_0 (by decide +kernel)
theorem dX9_look_32 : decode cX9_look 32 = .ok (.invokevirtual 420, 3) := of_u2 ok_invokevirtual 1 164 (by decide +kernel)
theorem dX9_look_35 : decode cX9_look 35 = .ok (.iconst 0, 1) := of_0 ok_iconst_0 (by decide +kernel)
theorem dX9_look_36 : decode cX9_look 36 = .ok (.istore_n 3, 1) := of_0 ok_istore_n_3 (by decide +kernel)
theorem dX9_look_37 : decode cX9_look 37 = .ok (.iconst (-1), 1) := of_0 ok_iconst_m1 (by decide +kernel)
theorem dX9_look_38 : decode cX9_look 38 = .ok (.istore 4, 2) := of_u1 ok_istore (by decide +kernel)
theorem dX9_look_40 : decode cX9_look 40 = .ok (.iload 4, 2) := of_u1 ok_iload (by decide +kernel)
theorem dX9_look_42 : decode cX9_look 42 = .ok (.aload_n 0, 1) := of_0 ok_aload_n_0 (by decide +kernel)
theorem dX9_look_43 : decode cX9_look 43 = .ok (.getfield 312, 3) := of_u2 ok_getfield 1 56 (by decide +kernel)
theorem dX9_look_46 : decode cX9_look 46 = .ok (.if_icmp .ge 61, 3) := of_s2 ok_if_icmp_ge 0 61 (by decide +kernel)
theorem dX9_look_49 : decode cX9_look 49 = .ok (.aload_n 0, 1) := of_0 ok_aload_n_0 (by decide +kernel)
theorem dX9_look_50 : decode cX9_look 50 = .ok (.iload 4, 2) := of_u1 ok_iload (by decide +kernel)
theorem dX9_look_52 : decode cX9_look 52 = .ok (.invokevirtual 462, 3) := of_u2 ok_invokevirtual 1 206 (by decide +kernel)
theorem dX9_look_55 : decode cX9_look 55 = .ok (.ifCond .eq 46, 3) := of_s2 ok_ifCond_eq 0 46 (by decide +kernel)
theorem dX9_look_58 : decode cX9_look 58 = .ok (.iconst 0, 1) := of_0 ok_iconst_0 (by decide +kernel)
theorem dX9_look_59 : decode cX9_look 59 = .ok (.istore 5, 2) := of_u1 ok_istore (by decide +kernel)
theorem dX9_look_61 : decode cX9_look 61 = .ok (.iload 5, 2) := of_u1 ok_iload (by decide +kernel)
theorem dX9_look_63 : decode cX9_look 63 = .ok (.bipush 8, 2) := of_s1 ok_bipush 8 (by decide +kernel)
theorem dX9_look_65 : decode cX9_look 65 = .ok (.if_icmp .ge 33, 3) := of_s2 ok_if_icmp_ge 0 33 (by decide +kernel)
theorem dX9_look_68 : decode cX9_look 68 = .ok (.aload_n 0, 1) := of_0 ok_aload_n_0 (by decide +kernel)
theorem dX9_look_69 : decode cX9_look 69 = .ok (.getfield 119, 3) := of_u2 ok_getfield 0 119 (by decide +kernel)
theorem dX9_look_72 : decode cX9_look 72 = .ok (.bipush 8, 2) := of_s1 ok_bipush 8 (by decide +kernel)
theorem dX9_look_74 : decode cX9_look 74 = .ok (.iload_n 3, 1) := of_0 ok_iload_n_3 (by decide +kernel)
theorem dX9_look_75 : decode cX9_look 75 = .ok (.imul, 1) := of_0 ok_imul (by decide +kernel)
theorem dX9_look_76 : decode cX9_look 76 = .ok (.iload 5, 2) := of_u1 ok_iload (by decide +kernel)
theorem dX9_look_78 : decode cX9_look 78 = .ok (.iadd, 1) := of_0 ok_iadd (by decide +kernel)
theorem dX9_look_79 : decode cX9_look 79 = .ok (.aload_n 0, 1) := of_0 ok_aload_n_0 (by decide +kernel)
theorem dX9_look_80 : decode cX9_look 80 = .ok (.getfield 116, 3) := of_u2 ok_getfield 0 116 (by decide +kernel)
theorem dX9_look_83 : decode cX9_look 83 = .ok (.bipush 8, 2) := of_s1 ok_bipush 8 (by decide +kernel)
theorem dX9_look_85 : decode cX9_look 85 = .ok (.iload_n 1, 1) := of_0 ok_iload_n_1 (by decide +kernel)
theorem dX9_look_86 : decode cX9_look 86 = .ok (.imul, 1) := of_0 ok_imul (by decide +kernel)
theorem dX9_look_87 : decode cX9_look 87 = .ok (.iload 5, 2) := of_u1 ok_iload (by decide +kernel)
theorem dX9_look_89 : decode cX9_look 89 = .ok (.iadd, 1) := of_0 ok_iadd (by decide +kernel)
theorem dX9_look_90 : decode cX9_look 90 = .ok (.iaload, 1) := of_0 ok_iaload (by decide +kernel)
theorem dX9_look_91 : decode cX9_look 91 = .ok (.iastore, 1) := of_0 ok_iastore (by decide +kernel)
theorem dX9_look_92 : decode cX9_look 92 = .ok (.iinc 5 1, 3) := of_ii ok_iinc 1 (by decide +kernel)
theorem dX9_look_95 : decode cX9_look 95 = .ok (.goto (-34), 3) := of_s2 ok_goto 255 222 (by decide +kernel)
theorem dX9_look_98 : decode cX9_look 98 = .ok (.iinc 3 1, 3) := of_ii ok_iinc 1 (by decide +kernel)
theorem dX9_look_101 : decode cX9_look 101 = .ok (.iinc 4 1, 3) := of_ii ok_iinc 1 (by decide +kernel)
theorem dX9_look_104 : decode cX9_look 104 = .ok (.goto (-64), 3) := of_s2 ok_goto 255 192 (by decide +kernel)
theorem dX9_look_107 : decode cX9_look 107 = .ok (.iload_n 3, 1) := of_0 ok_iload_n_3 (by decide +kernel)
theorem dX9_look_108 : decode cX9_look 108 = .ok (.ifCond .eq 12, 3) := of_s2 ok_ifCond_eq 0 12 (by decide +kernel)
theorem dX9_look_111 : decode cX9_look 111 = .ok (.aload_n 0, 1) := of_0 ok_aload_n_0 (by decide +kernel)
theorem dX9_look_112 : decode cX9_look 112 = .ok (.getfield 9, 3) := of_u2 ok_getfield 0 9 (by decide +kernel)
theorem dX9_look_115 : decode cX9_look 115 = .ok (.iconst 3, 1) := of_0 ok_iconst_3 (by decide +kernel)
theorem dX9_look_116 : decode cX9_look 116 = .ok (.iaload, 1) := of_0 ok_iaload (by decide +kernel)
theorem dX9_look_117 : decode cX9_look 117 = .ok (.ifCond .ne 6, 3) := of_s2 ok_ifCond_ne 0 6 (by decide +kernel)
theorem dX9_look_120 : decode cX9_look 120 = .ok (.bipush (-2), 2) := of_s1 ok_bipush 254 (by decide +kernel)
theorem dX9_look_122 : decode cX9_look 122 = .ok (.ireturn, 1) := of_0 ok_ireturn (by decide +kernel)
theorem dX9_look_123 : decode cX9_look 123 = .ok (.iconst 0, 1) := of_0 ok_iconst_0 (by decide +kernel)
theorem dX9_look_124 : decode cX9_look 124 = .ok (.istore 4, 2) := of_u1 ok_istore (by decide +kernel)
theorem dX9_look_126 : decode cX9_look 126 = .ok (.iconst 1, 1) := of_0 ok_iconst_1 (by decide +kernel)
theorem dX9_look_127 : decode cX9_look 127 = .ok (.istore 5, 2) := of_u1 ok_istore (by decide +kernel)
theorem dX9_look_129 : decode cX9_look 129 = .ok (.iload 5, 2) := of_u1 ok_iload (by decide +kernel)
theorem dX9_look_131 : decode cX9_look 131 = .ok (.aload_n 0, 1) := of_0 ok_aload_n_0 (by decide +kernel)
theorem dX9_look_132 : decode cX9_look 132 = .ok (.getfield 9, 3) := of_u2 ok_getfield 0 9 (by decide +kernel)
theorem dX9_look_135 : decode cX9_look 135 = .ok (.iconst 3, 1) := of_0 ok_iconst_3 (by decide +kernel)
theorem dX9_look_136 : decode cX9_look 136 = .ok (.iaload, 1) := of_0 ok_iaload (by decide +kernel)
theorem dX9_look_137 : decode cX9_look 137 = .ok (.if_icmp .ge 35, 3) := of_s2 ok_if_icmp_ge 0 35 (by decide +kernel)
theorem dX9_look_140 : decode cX9_look 140 = .ok (.aload_n 0, 1) := of_0 ok_aload_n_0 (by decide +kernel)
theorem dX9_look_141 : decode cX9_look 141 = .ok (.iload 5, 2) := of_u1 ok_iload (by decide +kernel)
theorem dX9_look_143 : decode cX9_look 143 = .ok (.iload_n 3, 1) := of_0 ok_iload_n_3 (by decide +kernel)
theorem dX9_look_144 : decode cX9_look 144 = .ok (.invokevirtual 465, 3) := of_u2 ok_invokevirtual 1 209 (by decide +kernel)
theorem dX9_look_147 : decode cX9_look 147 = .ok (.aload_n 0, 1) := of_0 ok_aload_n_0 (by decide +kernel)
theorem dX9_look_148 : decode cX9_look 148 = .ok (.iload 4, 2) := of_u1 ok_iload (by decide +kernel)
theorem dX9_look_150 : decode cX9_look 150 = .ok (.iload_n 3, 1) := of_0 ok_iload_n_3 (by decide +kernel)
theorem dX9_look_151 : decode cX9_look 151 = .ok (.invokevirtual 465, 3) := of_u2 ok_invokevirtual 1 209 (by decide +kernel)
theorem dX9_look_154 : decode cX9_look 154 = .ok (.if_icmp .ge 8, 3) := of_s2 ok_if_icmp_ge 0 8 (by decide +kernel)
theorem dX9_look_157 : decode cX9_look 157 = .ok (.iload 5, 2) := of_u1 ok_iload (by decide +kernel)
theorem dX9_look_159 : decode cX9_look 159 = .ok (.goto 5, 3) := of_s2 ok_goto 0 5 (by decide +kernel)
theorem dX9_look_162 : decode cX9_look 162 = .ok (.iload 4, 2) := of_u1 ok_iload (by decide +kernel)
theorem dX9_look_164 : decode cX9_look 164 = .ok (.istore 4, 2) := of_u1 ok_istore (by decide +kernel)
theorem dX9_look_166 : decode cX9_look 166 = .ok (.iinc 5 1, 3) := of_ii ok_iinc 1 (by decide +kernel)
theorem dX9_look_169 : decode cX9_look 169 = .ok (.goto (-40), 3) := of_s2 ok_goto 255 216 (by decide +kernel)
theorem dX9_look_172 : decode cX9_look 172 = .ok (.iload_n 2, 1) := of_0 ok_iload_n_2 (by decide +kernel)
theorem dX9_look_173 : decode cX9_look 173 = .ok (.ifCond .ne 8, 3) := of_s2 ok_ifCond_ne 0 8 (by decide +kernel)
theorem dX9_look_176 : decode cX9_look 176 = .ok (.iload 4, 2) := of_u1 ok_iload (by decide +kernel)
theorem dX9_look_178 : decode cX9_look 178 = .ok (.goto 10, 3) := of_s2 ok_goto 0 10 (by decide +kernel)
theorem dX9_look_181 : decode cX9_look 181 = .ok (.aload_n 0, 1) := of_0 ok_aload_n_0 (by decide +kernel)
theorem dX9_look_182 : decode cX9_look 182 = .ok (.iload 4, 2) := of_u1 ok_iload (by decide +kernel)
theorem dX9_look_184 : decode cX9_look 184 = .ok (.iload_n 3, 1) := of_0 ok_iload_n_3 (by decide +kernel)
theorem dX9_look_185 : decode cX9_look 185 = .ok (.invokevirtual 465, 3) := of_u2 ok_invokevirtual 1 209 (by decide +kernel)
theorem dX9_look_188 : decode cX9_look 188 = .ok (.ireturn, 1) := of_0 ok_ireturn (by decide +kernel)
theorem dX9_mostAlike_0 : decode cX9_mostAlike 0 = .ok (.iconst 0, 1) := of_0 ok_iconst_0 (by decide +kernel)
theorem dX9_mostAlike_1 : decode cX9_mostAlike 1 = .ok (.istore_n 3, 1) := of_0 ok_istore_n_3 (by decide +kernel)
theorem dX9_mostAlike_2 : decode cX9_mostAlike 2 = .ok (.iconst 0, 1) := of_0 ok_iconst_0 (by decide +kernel)
theorem dX9_mostAlike_3 : decode cX9_mostAlike 3 = .ok (.istore 4, 2) := of_u1 ok_istore (by decide +kernel)
theorem dX9_mostAlike_5 : decode cX9_mostAlike 5 = .ok (.iload 4, 2) := of_u1 ok_iload (by decide +kernel)
theorem dX9_mostAlike_7 : decode cX9_mostAlike 7 = .ok (.iload_n 2, 1) := of_0 ok_iload_n_2 (by decide +kernel)
theorem dX9_mostAlike_8 : decode cX9_mostAlike 8 = .ok (.if_icmp .ge 77, 3) := of_s2 ok_if_icmp_ge 0 77 (by decide +kernel)
theorem dX9_mostAlike_11 : decode cX9_mostAlike 11 = .ok (.iconst 0, 1) := of_0 ok_iconst_0 (by decide +kernel)
theorem dX9_mostAlike_12 : decode cX9_mostAlike 12 = .ok (.istore 5, 2) := of_u1 ok_istore (by decide +kernel)
theorem dX9_mostAlike_14 : decode cX9_mostAlike 14 = .ok (.iconst 0, 1) := of_0 ok_iconst_0 (by decide +kernel)
theorem dX9_mostAlike_15 : decode cX9_mostAlike 15 = .ok (.istore 6, 2) := of_u1 ok_istore (by decide +kernel)
theorem dX9_mostAlike_17 : decode cX9_mostAlike 17 = .ok (.iload 6, 2) := of_u1 ok_iload (by decide +kernel)
theorem dX9_mostAlike_19 : decode cX9_mostAlike 19 = .ok (.iload_n 2, 1) := of_0 ok_iload_n_2 (by decide +kernel)
theorem dX9_mostAlike_20 : decode cX9_mostAlike 20 = .ok (.if_icmp .ge 46, 3) := of_s2 ok_if_icmp_ge 0 46 (by decide +kernel)
theorem dX9_mostAlike_23 : decode cX9_mostAlike 23 = .ok (.iload 5, 2) := of_u1 ok_iload (by decide +kernel)
theorem dX9_mostAlike_25 : decode cX9_mostAlike 25 = .ok (.aload_n 0, 1) := of_0 ok_aload_n_0 (by decide +kernel)
theorem dX9_mostAlike_26 : decode cX9_mostAlike 26 = .ok (.getfield 119, 3) := of_u2 ok_getfield 0 119 (by decide +kernel)
theorem dX9_mostAlike_29 : decode cX9_mostAlike 29 = .ok (.bipush 8, 2) := of_s1 ok_bipush 8 (by decide +kernel)
theorem dX9_mostAlike_31 : decode cX9_mostAlike 31 = .ok (.iload 6, 2) := of_u1 ok_iload (by decide +kernel)
theorem dX9_mostAlike_33 : decode cX9_mostAlike 33 = .ok (.imul, 1) := of_0 ok_imul (by decide +kernel)
theorem dX9_mostAlike_34 : decode cX9_mostAlike 34 = .ok (.iload_n 1, 1) := of_0 ok_iload_n_1 (by decide +kernel)
theorem dX9_mostAlike_35 : decode cX9_mostAlike 35 = .ok (.iadd, 1) := of_0 ok_iadd (by decide +kernel)
theorem dX9_mostAlike_36 : decode cX9_mostAlike 36 = .ok (.iaload, 1) := of_0 ok_iaload (by decide +kernel)
theorem dX9_mostAlike_37 : decode cX9_mostAlike 37 = .ok (.aload_n 0, 1) := of_0 ok_aload_n_0 (by decide +kernel)
theorem dX9_mostAlike_38 : decode cX9_mostAlike 38 = .ok (.getfield 119, 3) := of_u2 ok_getfield 0 119 (by decide +kernel)
theorem dX9_mostAlike_41 : decode cX9_mostAlike 41 = .ok (.bipush 8, 2) := of_s1 ok_bipush 8 (by decide +kernel)
theorem dX9_mostAlike_43 : decode cX9_mostAlike 43 = .ok (.iload 4, 2) := of_u1 ok_iload (by decide +kernel)
theorem dX9_mostAlike_45 : decode cX9_mostAlike 45 = .ok (.imul, 1) := of_0 ok_imul (by decide +kernel)
theorem dX9_mostAlike_46 : decode cX9_mostAlike 46 = .ok (.iload_n 1, 1) := of_0 ok_iload_n_1 (by decide +kernel)
theorem dX9_mostAlike_47 : decode cX9_mostAlike 47 = .ok (.iadd, 1) := of_0 ok_iadd (by decide +kernel)
theorem dX9_mostAlike_48 : decode cX9_mostAlike 48 = .ok (.iaload, 1) := of_0 ok_iaload (by decide +kernel)
theorem dX9_mostAlike_49 : decode cX9_mostAlike 49 = .ok (.if_icmp .ne 7, 3) := of_s2 ok_if_icmp_ne 0 7 (by decide +kernel)
theorem dX9_mostAlike_52 : decode cX9_mostAlike 52 = .ok (.iconst 1, 1) := of_0 ok_iconst_1 (by decide +kernel)
theorem dX9_mostAlike_53 : decode cX9_mostAlike 53 = .ok (.goto 4, 3) := of_s2 ok_goto 0 4 (by decide +kernel)
theorem dX9_mostAlike_56 : decode cX9_mostAlike 56 = .ok (.iconst 0, 1) := of_0 ok_iconst_0 (by decide +kernel)
theorem dX9_mostAlike_57 : decode cX9_mostAlike 57 = .ok (.iadd, 1) := of_0 ok_iadd (by decide +kernel)
theorem dX9_mostAlike_58 : decode cX9_mostAlike 58 = .ok (.istore 5, 2) := of_u1 ok_istore (by decide +kernel)
theorem dX9_mostAlike_60 : decode cX9_mostAlike 60 = .ok (.iinc 6 1, 3) := of_ii ok_iinc 1 (by decide +kernel)
theorem dX9_mostAlike_63 : decode cX9_mostAlike 63 = .ok (.goto (-46), 3) := of_s2 ok_goto 255 210 (by decide +kernel)
theorem dX9_mostAlike_66 : decode cX9_mostAlike 66 = .ok (.iload 5, 2) := of_u1 ok_iload (by decide +kernel)
theorem dX9_mostAlike_68 : decode cX9_mostAlike 68 = .ok (.iload_n 3, 1) := of_0 ok_iload_n_3 (by decide +kernel)
theorem dX9_mostAlike_69 : decode cX9_mostAlike 69 = .ok (.if_icmp .le 8, 3) := of_s2 ok_if_icmp_le 0 8 (by decide +kernel)
theorem dX9_mostAlike_72 : decode cX9_mostAlike 72 = .ok (.iload 5, 2) := of_u1 ok_iload (by decide +kernel)
theorem dX9_mostAlike_74 : decode cX9_mostAlike 74 = .ok (.goto 4, 3) := of_s2 ok_goto 0 4 (by decide +kernel)
theorem dX9_mostAlike_77 : decode cX9_mostAlike 77 = .ok (.iload_n 3, 1) := of_0 ok_iload_n_3 (by decide +kernel)
theorem dX9_mostAlike_78 : decode cX9_mostAlike 78 = .ok (.istore_n 3, 1) := of_0 ok_istore_n_3 (by decide +kernel)
theorem dX9_mostAlike_79 : decode cX9_mostAlike 79 = .ok (.iinc 4 1, 3) := of_ii ok_iinc 1 (by decide +kernel)
theorem dX9_mostAlike_82 : decode cX9_mostAlike 82 = .ok (.goto (-77), 3) := of_s2 ok_goto 255 179 (by decide +kernel)
theorem dX9_mostAlike_85 : decode cX9_mostAlike 85 = .ok (.iload_n 3, 1) := of_0 ok_iload_n_3 (by decide +kernel)
theorem dX9_mostAlike_86 : decode cX9_mostAlike 86 = .ok (.ireturn, 1) := of_0 ok_ireturn (by decide +kernel)
theorem dX9_note_0 : decode cX9_note 0 = .ok (.iload_n 1, 1) := of_0 ok_iload_n_1 (by decide +kernel)
theorem dX9_note_1 : decode cX9_note 1 = .ok (.iconst (-1), 1) := of_0 ok_iconst_m1 (by decide +kernel)
theorem dX9_note_2 : decode cX9_note 2 = .ok (.if_icmp .ne 12, 3) := of_s2 ok_if_icmp_ne 0 12 (by decide +kernel)
theorem dX9_note_5 : decode cX9_note 5 = .ok (.aload_n 0, 1) := of_0 ok_aload_n_0 (by decide +kernel)
theorem dX9_note_6 : decode cX9_note 6 = .ok (.getfield 9, 3) := of_u2 ok_getfield 0 9 (by decide +kernel)
theorem dX9_note_9 : decode cX9_note 9 = .ok (.iconst 5, 1) := of_0 ok_iconst_5 (by decide +kernel)
theorem dX9_note_10 : decode cX9_note 10 = .ok (.iconst 0, 1) := of_0 ok_iconst_0 (by decide +kernel)
theorem dX9_note_11 : decode cX9_note 11 = .ok (.iastore, 1) := of_0 ok_iastore (by decide +kernel)
theorem dX9_note_12 : decode cX9_note 12 = .ok (.iconst 0, 1) := of_0 ok_iconst_0 (by decide +kernel)
theorem dX9_note_13 : decode cX9_note 13 = .ok (.ireturn, 1) := of_0 ok_ireturn (by decide +kernel)
theorem dX9_note_14 : decode cX9_note 14 = .ok (.aload_n 0, 1) := of_0 ok_aload_n_0 (by decide +kernel)
theorem dX9_note_15 : decode cX9_note 15 = .ok (.getfield 9, 3) := of_u2 ok_getfield 0 9 (by decide +kernel)
theorem dX9_note_18 : decode cX9_note 18 = .ok (.iconst 5, 1) := of_0 ok_iconst_5 (by decide +kernel)
theorem dX9_note_19 : decode cX9_note 19 = .ok (.iaload, 1) := of_0 ok_iaload (by decide +kernel)
theorem dX9_note_20 : decode cX9_note 20 = .ok (.istore 4, 2) := of_u1 ok_istore (by decide +kernel)
theorem dX9_note_22 : decode cX9_note 22 = .ok (.iload_n 1, 1) := of_0 ok_iload_n_1 (by decide +kernel)
theorem dX9_note_23 : decode cX9_note 23 = .ok (.i2l, 1) := of_0 ok_i2l (by decide +kernel)
theorem dX9_note_24 : decode cX9_note 24 = .ok (.lconst 0, 1) := of_0 ok_lconst_0 (by decide +kernel)
theorem dX9_note_25 : decode cX9_note 25 = .ok (.ldc2_w 457, 3) := of_u2 ok_ldc2_w 1 201 (by decide +kernel)
theorem dX9_note_28 : decode cX9_note 28 = .ok (.invokestatic 131, 3) := of_u2 ok_invokestatic 0 131 (by decide +kernel)
theorem dX9_note_31 : decode cX9_note 31 = .ok (.ifCond .eq 30, 3) := of_s2 ok_ifCond_eq 0 30 (by decide +kernel)
theorem dX9_note_34 : decode cX9_note 34 = .ok (.aload_n 0, 1) := of_0 ok_aload_n_0 (by decide +kernel)
theorem dX9_note_35 : decode cX9_note 35 = .ok (.iload_n 2, 1) := of_0 ok_iload_n_2 (by decide +kernel)
theorem dX9_note_36 : decode cX9_note 36 = .ok (.invokevirtual 362, 3) := of_u2 ok_invokevirtual 1 106 (by decide +kernel)
theorem dX9_note_39 : decode cX9_note 39 = .ok (.ifCond .eq 22, 3) := of_s2 ok_ifCond_eq 0 22 (by decide +kernel)
theorem dX9_note_42 : decode cX9_note 42 = .ok (.iload_n 3, 1) := of_0 ok_iload_n_3 (by decide +kernel)
theorem dX9_note_43 : decode cX9_note 43 = .ok (.i2l, 1) := of_0 ok_i2l (by decide +kernel)
theorem dX9_note_44 : decode cX9_note 44 = .ok (.lconst 0, 1) := of_0 ok_lconst_0 (by decide +kernel)
theorem dX9_note_45 : decode cX9_note 45 = .ok (.ldc2_w 365, 3) := of_u2 ok_ldc2_w 1 109 (by decide +kernel)
theorem dX9_note_48 : decode cX9_note 48 = .ok (.invokestatic 131, 3) := of_u2 ok_invokestatic 0 131 (by decide +kernel)
theorem dX9_note_51 : decode cX9_note 51 = .ok (.ifCond .eq 10, 3) := of_s2 ok_ifCond_eq 0 10 (by decide +kernel)
theorem dX9_note_54 : decode cX9_note 54 = .ok (.iload 4, 2) := of_u1 ok_iload (by decide +kernel)
theorem dX9_note_56 : decode cX9_note 56 = .ok (.bipush 10, 2) := of_s1 ok_bipush 10 (by decide +kernel)
theorem dX9_note_58 : decode cX9_note 58 = .ok (.if_icmp .ne 6, 3) := of_s2 ok_if_icmp_ne 0 6 (by decide +kernel)
theorem dX9_note_61 : decode cX9_note 61 = .ok (.bipush (-2), 2) := of_s1 ok_bipush 254 (by decide +kernel)
theorem dX9_note_63 : decode cX9_note 63 = .ok (.ireturn, 1) := of_0 ok_ireturn (by decide +kernel)
theorem dX9_note_64 : decode cX9_note 64 = .ok (.aload_n 0, 1) := of_0 ok_aload_n_0 (by decide +kernel)
theorem dX9_note_65 : decode cX9_note 65 = .ok (.getfield 31, 3) := of_u2 ok_getfield 0 31 (by decide +kernel)
theorem dX9_note_68 : decode cX9_note 68 = .ok (.iload 4, 2) := of_u1 ok_iload (by decide +kernel)
theorem dX9_note_70 : decode cX9_note 70 = .ok (.iload_n 1, 1) := of_0 ok_iload_n_1 (by decide +kernel)
theorem dX9_note_71 : decode cX9_note 71 = .ok (.iastore, 1) := of_0 ok_iastore (by decide +kernel)
theorem dX9_note_72 : decode cX9_note 72 = .ok (.aload_n 0, 1) := of_0 ok_aload_n_0 (by decide +kernel)
theorem dX9_note_73 : decode cX9_note 73 = .ok (.getfield 34, 3) := of_u2 ok_getfield 0 34 (by decide +kernel)
theorem dX9_note_76 : decode cX9_note 76 = .ok (.iload 4, 2) := of_u1 ok_iload (by decide +kernel)
theorem dX9_note_78 : decode cX9_note 78 = .ok (.iload_n 2, 1) := of_0 ok_iload_n_2 (by decide +kernel)
theorem dX9_note_79 : decode cX9_note 79 = .ok (.iastore, 1) := of_0 ok_iastore (by decide +kernel)
theorem dX9_note_80 : decode cX9_note 80 = .ok (.aload_n 0, 1) := of_0 ok_aload_n_0 (by decide +kernel)
theorem dX9_note_81 : decode cX9_note 81 = .ok (.getfield 37, 3) := of_u2 ok_getfield 0 37 (by decide +kernel)
theorem dX9_note_84 : decode cX9_note 84 = .ok (.iload 4, 2) := of_u1 ok_iload (by decide +kernel)
theorem dX9_note_86 : decode cX9_note 86 = .ok (.iload_n 3, 1) := of_0 ok_iload_n_3 (by decide +kernel)
theorem dX9_note_87 : decode cX9_note 87 = .ok (.iastore, 1) := of_0 ok_iastore (by decide +kernel)
theorem dX9_note_88 : decode cX9_note 88 = .ok (.aload_n 0, 1) := of_0 ok_aload_n_0 (by decide +kernel)
theorem dX9_note_89 : decode cX9_note 89 = .ok (.getfield 9, 3) := of_u2 ok_getfield 0 9 (by decide +kernel)
theorem dX9_note_92 : decode cX9_note 92 = .ok (.iconst 5, 1) := of_0 ok_iconst_5 (by decide +kernel)
theorem dX9_note_93 : decode cX9_note 93 = .ok (.dup2, 1) := of_0 ok_dup2 (by decide +kernel)
theorem dX9_note_94 : decode cX9_note 94 = .ok (.iaload, 1) := of_0 ok_iaload (by decide +kernel)
theorem dX9_note_95 : decode cX9_note 95 = .ok (.iconst 1, 1) := of_0 ok_iconst_1 (by decide +kernel)
theorem dX9_note_96 : decode cX9_note 96 = .ok (.iadd, 1) := of_0 ok_iadd (by decide +kernel)
theorem dX9_note_97 : decode cX9_note 97 = .ok (.iastore, 1) := of_0 ok_iastore (by decide +kernel)
theorem dX9_note_98 : decode cX9_note 98 = .ok (.iload 4, 2) := of_u1 ok_iload (by decide +kernel)
theorem dX9_note_100 : decode cX9_note 100 = .ok (.iconst 1, 1) := of_0 ok_iconst_1 (by decide +kernel)
theorem dX9_note_101 : decode cX9_note 101 = .ok (.iadd, 1) := of_0 ok_iadd (by decide +kernel)
theorem dX9_note_102 : decode cX9_note 102 = .ok (.ireturn, 1) := of_0 ok_ireturn (by decide +kernel)
theorem dX9_pence_0 : decode cX9_pence 0 = .ok (.aload_n 0, 1) := of_0 ok_aload_n_0 (by decide +kernel)
theorem dX9_pence_1 : decode cX9_pence 1 = .ok (.iload_n 2, 1) := of_0 ok_iload_n_2 (by decide +kernel)
theorem dX9_pence_2 : decode cX9_pence 2 = .ok (.invokevirtual 362, 3) := of_u2 ok_invokevirtual 1 106 (by decide +kernel)
theorem dX9_pence_5 : decode cX9_pence 5 = .ok (.ifCond .eq 15, 3) := of_s2 ok_ifCond_eq 0 15 (by decide +kernel)
theorem dX9_pence_8 : decode cX9_pence 8 = .ok (.iload_n 1, 1) := of_0 ok_iload_n_1 (by decide +kernel)
theorem dX9_pence_9 : decode cX9_pence 9 = .ok (.i2l, 1) := of_0 ok_i2l (by decide +kernel)
theorem dX9_pence_10 : decode cX9_pence 10 = .ok (.lconst 0, 1) := of_0 ok_lconst_0 (by decide +kernel)
theorem dX9_pence_11 : decode cX9_pence 11 = .ok (.ldc2_w 452, 3) := of_u2 ok_ldc2_w 1 196 (by decide +kernel)
theorem dX9_pence_14 : decode cX9_pence 14 = .ok (.invokestatic 131, 3) := of_u2 ok_invokestatic 0 131 (by decide +kernel)
theorem dX9_pence_17 : decode cX9_pence 17 = .ok (.ifCond .ne 5, 3) := of_s2 ok_ifCond_ne 0 5 (by decide +kernel)
theorem dX9_pence_20 : decode cX9_pence 20 = .ok (.iconst (-1), 1) := of_0 ok_iconst_m1 (by decide +kernel)
theorem dX9_pence_21 : decode cX9_pence 21 = .ok (.ireturn, 1) := of_0 ok_ireturn (by decide +kernel)
theorem dX9_pence_22 : decode cX9_pence 22 = .ok (.aload_n 0, 1) := of_0 ok_aload_n_0 (by decide +kernel)
theorem dX9_pence_23 : decode cX9_pence 23 = .ok (.invokevirtual 454, 3) := of_u2 ok_invokevirtual 1 198 (by decide +kernel)
theorem dX9_pence_26 : decode cX9_pence 26 = .ok (.istore_n 3, 1) := of_0 ok_istore_n_3 (by decide +kernel)
theorem dX9_pence_27 : decode cX9_pence 27 = .ok (.iload_n 3, 1) := of_0 ok_iload_n_3 (by decide +kernel)
theorem dX9_pence_28 : decode cX9_pence 28 = .ok (.ifCond .ne 5, 3) := of_s2 ok_ifCond_ne 0 5 (by decide +kernel)
theorem dX9_pence_31 : decode cX9_pence 31 = .ok (.iconst 0, 1) := of_0 ok_iconst_0 (by decide +kernel)
theorem dX9_pence_32 : decode cX9_pence 32 = .ok (.ireturn, 1) := of_0 ok_ireturn (by decide +kernel)
theorem dX9_pence_33 : decode cX9_pence 33 = .ok (.iload_n 1, 1) := of_0 ok_iload_n_1 (by decide +kernel)
theorem dX9_pence_34 : decode cX9_pence 34 = .ok (.istore 4, 2) := of_u1 ok_istore (by decide +kernel)
theorem dX9_pence_36 : decode cX9_pence 36 = .ok (.iconst 0, 1) := of_0 ok_iconst_0 (by decide +kernel)
theorem dX9_pence_37 : decode cX9_pence 37 = .ok (.istore 5, 2) := of_u1 ok_istore (by decide +kernel)
theorem dX9_pence_39 : decode cX9_pence 39 = .ok (.iload_n 1, 1) := of_0 ok_iload_n_1 (by decide +kernel)
theorem dX9_pence_40 : decode cX9_pence 40 = .ok (.aload_n 0, 1) := of_0 ok_aload_n_0 (by decide +kernel)
theorem dX9_pence_41 : decode cX9_pence 41 = .ok (.iload_n 2, 1) := of_0 ok_iload_n_2 (by decide +kernel)
theorem dX9_pence_42 : decode cX9_pence 42 = .ok (.invokevirtual 359, 3) := of_u2 ok_invokevirtual 1 103 (by decide +kernel)
theorem dX9_pence_45 : decode cX9_pence 45 = .ok (.imul, 1) := of_0 ok_imul (by decide +kernel)
theorem dX9_pence_46 : decode cX9_pence 46 = .ok (.istore 6, 2) := of_u1 ok_istore (by decide +kernel)
theorem dX9_pence_48 : decode cX9_pence 48 = .ok (.iconst 0, 1) := of_0 ok_iconst_0 (by decide +kernel)
theorem dX9_pence_49 : decode cX9_pence 49 = .ok (.istore 7, 2) := of_u1 ok_istore (by decide +kernel)
theorem dX9_pence_51 : decode cX9_pence 51 = .ok (.iload 7, 2) := of_u1 ok_iload (by decide +kernel)
theorem dX9_pence_53 : decode cX9_pence 53 = .ok (.aload_n 0, 1) := of_0 ok_aload_n_0 (by decide +kernel)
theorem dX9_pence_54 : decode cX9_pence 54 = .ok (.getfield 9, 3) := of_u2 ok_getfield 0 9 (by decide +kernel)
theorem dX9_pence_57 : decode cX9_pence 57 = .ok (.iconst 3, 1) := of_0 ok_iconst_3 (by decide +kernel)
theorem dX9_pence_58 : decode cX9_pence 58 = .ok (.iaload, 1) := of_0 ok_iaload (by decide +kernel)
theorem dX9_pence_59 : decode cX9_pence 59 = .ok (.if_icmp .ge 65, 3) := of_s2 ok_if_icmp_ge 0 65 (by decide +kernel)
theorem dX9_pence_62 : decode cX9_pence 62 = .ok (.iload_n 1, 1) := of_0 ok_iload_n_1 (by decide +kernel)
theorem dX9_pence_63 : decode cX9_pence 63 = .ok (.aload_n 0, 1) := of_0 ok_aload_n_0 (by decide +kernel)
theorem dX9_pence_64 : decode cX9_pence 64 = .ok (.iload 7, 2) := of_u1 ok_iload (by decide +kernel)
theorem dX9_pence_66 : decode cX9_pence 66 = .ok (.invokevirtual 359, 3) := of_u2 ok_invokevirtual 1 103 (by decide +kernel)
theorem dX9_pence_69 : decode cX9_pence 69 = .ok (.imul, 1) := of_0 ok_imul (by decide +kernel)
theorem dX9_pence_70 : decode cX9_pence 70 = .ok (.istore 8, 2) := of_u1 ok_istore (by decide +kernel)
theorem dX9_pence_72 : decode cX9_pence 72 = .ok (.iload 4, 2) := of_u1 ok_iload (by decide +kernel)
theorem dX9_pence_74 : decode cX9_pence 74 = .ok (.iload 8, 2) := of_u1 ok_iload (by decide +kernel)
theorem dX9_pence_76 : decode cX9_pence 76 = .ok (.iload_n 3, 1) := of_0 ok_iload_n_3 (by decide +kernel)
theorem dX9_pence_77 : decode cX9_pence 77 = .ok (.idiv, 1) := of_0 ok_idiv (by decide +kernel)
theorem dX9_pence_78 : decode cX9_pence 78 = .ok (.isub, 1) := of_0 ok_isub (by decide +kernel)
theorem dX9_pence_79 : decode cX9_pence 79 = .ok (.istore 4, 2) := of_u1 ok_istore (by decide +kernel)
theorem dX9_pence_81 : decode cX9_pence 81 = .ok (.iload 8, 2) := of_u1 ok_iload (by decide +kernel)
theorem dX9_pence_83 : decode cX9_pence 83 = .ok (.iload_n 3, 1) := of_0 ok_iload_n_3 (by decide +kernel)
theorem dX9_pence_84 : decode cX9_pence 84 = .ok (.irem, 1) := of_0 ok_irem (by decide +kernel)
theorem dX9_pence_85 : decode cX9_pence 85 = .ok (.iload 6, 2) := of_u1 ok_iload (by decide +kernel)
theorem dX9_pence_87 : decode cX9_pence 87 = .ok (.iload_n 3, 1) := of_0 ok_iload_n_3 (by decide +kernel)
theorem dX9_pence_88 : decode cX9_pence 88 = .ok (.irem, 1) := of_0 ok_irem (by decide +kernel)
theorem dX9_pence_89 : decode cX9_pence 89 = .ok (.isub, 1) := of_0 ok_isub (by decide +kernel)
theorem dX9_pence_90 : decode cX9_pence 90 = .ok (.istore 9, 2) := of_u1 ok_istore (by decide +kernel)
theorem dX9_pence_92 : decode cX9_pence 92 = .ok (.iload 5, 2) := of_u1 ok_iload (by decide +kernel)
theorem dX9_pence_94 : decode cX9_pence 94 = .ok (.iload 9, 2) := of_u1 ok_iload (by decide +kernel)
theorem dX9_pence_96 : decode cX9_pence 96 = .ok (.ifCond .gt 14, 3) := of_s2 ok_ifCond_gt 0 14 (by decide +kernel)
theorem dX9_pence_99 : decode cX9_pence 99 = .ok (.iload 9, 2) := of_u1 ok_iload (by decide +kernel)
theorem dX9_pence_101 : decode cX9_pence 101 = .ok (.ifCond .ne 13, 3) := of_s2 ok_ifCond_ne 0 13 (by decide +kernel)
theorem dX9_pence_104 : decode cX9_pence 104 = .ok (.iload 7, 2) := of_u1 ok_iload (by decide +kernel)
theorem dX9_pence_106 : decode cX9_pence 106 = .ok (.iload_n 2, 1) := of_0 ok_iload_n_2 (by decide +kernel)
theorem dX9_pence_107 : decode cX9_pence 107 = .ok (.if_icmp .ge 7, 3) := of_s2 ok_if_icmp_ge 0 7 (by decide +kernel)
theorem dX9_pence_110 : decode cX9_pence 110 = .ok (.iconst 1, 1) := of_0 ok_iconst_1 (by decide +kernel)
theorem dX9_pence_111 : decode cX9_pence 111 = .ok (.goto 4, 3) := of_s2 ok_goto 0 4 (by decide +kernel)
theorem dX9_pence_114 : decode cX9_pence 114 = .ok (.iconst 0, 1) := of_0 ok_iconst_0 (by decide +kernel)
theorem dX9_pence_115 : decode cX9_pence 115 = .ok (.iadd, 1) := of_0 ok_iadd (by decide +kernel)
theorem dX9_pence_116 : decode cX9_pence 116 = .ok (.istore 5, 2) := of_u1 ok_istore (by decide +kernel)
theorem dX9_pence_118 : decode cX9_pence 118 = .ok (.iinc 7 1, 3) := of_ii ok_iinc 1 (by decide +kernel)
theorem dX9_pence_121 : decode cX9_pence 121 = .ok (.goto (-70), 3) := of_s2 ok_goto 255 186 (by decide +kernel)
theorem dX9_pence_124 : decode cX9_pence 124 = .ok (.iload 6, 2) := of_u1 ok_iload (by decide +kernel)
theorem dX9_pence_126 : decode cX9_pence 126 = .ok (.iload_n 3, 1) := of_0 ok_iload_n_3 (by decide +kernel)
theorem dX9_pence_127 : decode cX9_pence 127 = .ok (.idiv, 1) := of_0 ok_idiv (by decide +kernel)
theorem dX9_pence_128 : decode cX9_pence 128 = .ok (.iload 5, 2) := of_u1 ok_iload (by decide +kernel)
theorem dX9_pence_130 : decode cX9_pence 130 = .ok (.iload 4, 2) := of_u1 ok_iload (by decide +kernel)
theorem dX9_pence_132 : decode cX9_pence 132 = .ok (.if_icmp .ge 7, 3) := of_s2 ok_if_icmp_ge 0 7 (by decide +kernel)
theorem dX9_pence_135 : decode cX9_pence 135 = .ok (.iconst 1, 1) := of_0 ok_iconst_1 (by decide +kernel)
theorem dX9_pence_136 : decode cX9_pence 136 = .ok (.goto 4, 3) := of_s2 ok_goto 0 4 (by decide +kernel)
theorem dX9_pence_139 : decode cX9_pence 139 = .ok (.iconst 0, 1) := of_0 ok_iconst_0 (by decide +kernel)
theorem dX9_pence_140 : decode cX9_pence 140 = .ok (.iadd, 1) := of_0 ok_iadd (by decide +kernel)
theorem dX9_pence_141 : decode cX9_pence 141 = .ok (.ireturn, 1) := of_0 ok_ireturn (by decide +kernel)
theorem dX9_rests_0 : decode cX9_rests 0 = .ok (.aload_n 0, 1) := of_0 ok_aload_n_0 (by decide +kernel)
theorem dX9_rests_1 : decode cX9_rests 1 = .ok (.iload_n 1, 1) := of_0 ok_iload_n_1 (by decide +kernel)
theorem dX9_rests_2 : decode cX9_rests 2 = .ok (.invokevirtual 362, 3) := of_u2 ok_invokevirtual 1 106 (by decide +kernel)
theorem dX9_rests_5 : decode cX9_rests 5 = .ok (.ifCond .eq 61, 3) := of_s2 ok_ifCond_eq 0 61 (by decide +kernel)
theorem dX9_rests_8 : decode cX9_rests 8 = .ok (.aload_n 0, 1) := of_0 ok_aload_n_0 (by decide +kernel)
theorem dX9_rests_9 : decode cX9_rests 9 = .ok (.iload_n 2, 1) := of_0 ok_iload_n_2 (by decide +kernel)
theorem dX9_rests_10 : decode cX9_rests 10 = .ok (.invokevirtual 362, 3) := of_u2 ok_invokevirtual 1 106 (by decide +kernel)
theorem dX9_rests_13 : decode cX9_rests 13 = .ok (.ifCond .eq 53, 3) := of_s2 ok_ifCond_eq 0 53 (by decide +kernel)
theorem dX9_rests_16 : decode cX9_rests 16 = .ok (.iload_n 1, 1) := of_0 ok_iload_n_1 (by decide +kernel)
theorem dX9_rests_17 : decode cX9_rests 17 = .ok (.iload_n 2, 1) := of_0 ok_iload_n_2 (by decide +kernel)
theorem dX9_rests_18 : decode cX9_rests 18 = .ok (.if_icmp .eq 48, 3) := of_s2 ok_if_icmp_eq 0 48 (by decide +kernel)
theorem dX9_rests_21 : decode cX9_rests 21 = .ok (.aload_n 0, 1) := of_0 ok_aload_n_0 (by decide +kernel)
theorem dX9_rests_22 : decode cX9_rests 22 = .ok (.getfield 16, 3) := of_u2 ok_getfield 0 16 (by decide +kernel)
theorem dX9_rests_25 : decode cX9_rests 25 = .ok (.iload_n 1, 1) := of_0 ok_iload_n_1 (by decide +kernel)
theorem dX9_rests_26 : decode cX9_rests 26 = .ok (.iaload, 1) := of_0 ok_iaload (by decide +kernel)
theorem dX9_rests_27 : decode cX9_rests 27 = .ok (.iconst 2, 1) := of_0 ok_iconst_2 (by decide +kernel)
theorem dX9_rests_28 : decode cX9_rests 28 = .ok (.if_icmp .eq 38, 3) := of_s2 ok_if_icmp_eq 0 38 (by decide +kernel)
theorem dX9_rests_31 : decode cX9_rests 31 = .ok (.aload_n 0, 1) := of_0 ok_aload_n_0 (by decide +kernel)
theorem dX9_rests_32 : decode cX9_rests 32 = .ok (.getfield 16, 3) := of_u2 ok_getfield 0 16 (by decide +kernel)
theorem dX9_rests_35 : decode cX9_rests 35 = .ok (.iload_n 2, 1) := of_0 ok_iload_n_2 (by decide +kernel)
theorem dX9_rests_36 : decode cX9_rests 36 = .ok (.iaload, 1) := of_0 ok_iaload (by decide +kernel)
theorem dX9_rests_37 : decode cX9_rests 37 = .ok (.iconst 2, 1) := of_0 ok_iconst_2 (by decide +kernel)
theorem dX9_rests_38 : decode cX9_rests 38 = .ok (.if_icmp .eq 28, 3) := of_s2 ok_if_icmp_eq 0 28 (by decide +kernel)
theorem dX9_rests_41 : decode cX9_rests 41 = .ok (.iload_n 3, 1) := of_0 ok_iload_n_3 (by decide +kernel)
theorem dX9_rests_42 : decode cX9_rests 42 = .ok (.i2l, 1) := of_0 ok_i2l (by decide +kernel)
theorem dX9_rests_43 : decode cX9_rests 43 = .ok (.lconst 1, 1) := of_0 ok_lconst_1 (by decide +kernel)
theorem dX9_rests_44 : decode cX9_rests 44 = .ok (.ldc2_w 440, 3) := of_u2 ok_ldc2_w 1 184 (by decide +kernel)
theorem dX9_rests_47 : decode cX9_rests 47 = .ok (.invokestatic 131, 3) := of_u2 ok_invokestatic 0 131 (by decide +kernel)
theorem dX9_rests_50 : decode cX9_rests 50 = .ok (.ifCond .eq 16, 3) := of_s2 ok_ifCond_eq 0 16 (by decide +kernel)
theorem dX9_rests_53 : decode cX9_rests 53 = .ok (.iload 4, 2) := of_u1 ok_iload (by decide +kernel)
theorem dX9_rests_55 : decode cX9_rests 55 = .ok (.i2l, 1) := of_0 ok_i2l (by decide +kernel)
theorem dX9_rests_56 : decode cX9_rests 56 = .ok (.lconst 0, 1) := of_0 ok_lconst_0 (by decide +kernel)
theorem dX9_rests_57 : decode cX9_rests 57 = .ok (.ldc2_w 365, 3) := of_u2 ok_ldc2_w 1 109 (by decide +kernel)
theorem dX9_rests_60 : decode cX9_rests 60 = .ok (.invokestatic 131, 3) := of_u2 ok_invokestatic 0 131 (by decide +kernel)
theorem dX9_rests_63 : decode cX9_rests 63 = .ok (.ifCond .ne 5, 3) := of_s2 ok_ifCond_ne 0 5 (by decide +kernel)
theorem dX9_rests_66 : decode cX9_rests 66 = .ok (.iconst (-1), 1) := of_0 ok_iconst_m1 (by decide +kernel)
theorem dX9_rests_67 : decode cX9_rests 67 = .ok (.ireturn, 1) := of_0 ok_ireturn (by decide +kernel)
theorem dX9_rests_68 : decode cX9_rests 68 = .ok (.aload_n 0, 1) := of_0 ok_aload_n_0 (by decide +kernel)
theorem dX9_rests_69 : decode cX9_rests 69 = .ok (.iload_n 1, 1) := of_0 ok_iload_n_1 (by decide +kernel)
theorem dX9_rests_70 : decode cX9_rests 70 = .ok (.iload_n 2, 1) := of_0 ok_iload_n_2 (by decide +kernel)
theorem dX9_rests_71 : decode cX9_rests 71 = .ok (.iload_n 3, 1) := of_0 ok_iload_n_3 (by decide +kernel)
theorem dX9_rests_72 : decode cX9_rests 72 = .ok (.invokevirtual 442, 3) := of_u2 ok_invokevirtual 1 186 (by decide +kernel)
theorem dX9_rests_75 : decode cX9_rests 75 = .ok (.iconst 0, 1) := of_0 ok_iconst_0 (by decide +kernel)
theorem dX9_rests_76 : decode cX9_rests 76 = .ok (.istore 5, 2) := of_u1 ok_istore (by decide +kernel)
theorem dX9_rests_78 : decode cX9_rests 78 = .ok (.iconst (-1), 1) := of_0 ok_iconst_m1 (by decide +kernel)
theorem dX9_rests_79 : decode cX9_rests 79 = .ok (.istore 6, 2) := of_u1 ok_istore (by decide +kernel)
theorem dX9_rests_81 : decode cX9_rests 81 = .ok (.iconst 0, 1) := of_0 ok_iconst_0 (by decide +kernel)
theorem dX9_rests_82 : decode cX9_rests 82 = .ok (.istore 7, 2) := of_u1 ok_istore (by decide +kernel)
theorem dX9_rests_84 : decode cX9_rests 84 = .ok (.iload 7, 2) := of_u1 ok_iload (by decide +kernel)
theorem dX9_rests_86 : decode cX9_rests 86 = .ok (.iconst 4, 1) := of_0 ok_iconst_4 (by decide +kernel)
theorem dX9_rests_87 : decode cX9_rests 87 = .ok (.if_icmp .ge 64, 3) := of_s2 ok_if_icmp_ge 0 64 (by decide +kernel)
theorem dX9_rests_90 : decode cX9_rests 90 = .ok (.aload_n 0, 1) := of_0 ok_aload_n_0 (by decide +kernel)
theorem dX9_rests_91 : decode cX9_rests 91 = .ok (.getfield 110, 3) := of_u2 ok_getfield 0 110 (by decide +kernel)
theorem dX9_rests_94 : decode cX9_rests 94 = .ok (.iload 7, 2) := of_u1 ok_iload (by decide +kernel)
theorem dX9_rests_96 : decode cX9_rests 96 = .ok (.iconst 2, 1) := of_0 ok_iconst_2 (by decide +kernel)
theorem dX9_rests_97 : decode cX9_rests 97 = .ok (.ixor, 1) := of_0 ok_ixor (by decide +kernel)
theorem dX9_rests_98 : decode cX9_rests 98 = .ok (.iaload, 1) := of_0 ok_iaload (by decide +kernel)
theorem dX9_rests_99 : decode cX9_rests 99 = .ok (.aload_n 0, 1) := of_0 ok_aload_n_0 (by decide +kernel)
theorem dX9_rests_100 : decode cX9_rests 100 = .ok (.getfield 110, 3) := of_u2 ok_getfield 0 110 (by decide +kernel)
theorem dX9_rests_103 : decode cX9_rests 103 = .ok (.iload 7, 2) := of_u1 ok_iload (by decide +kernel)
theorem dX9_rests_105 : decode cX9_rests 105 = .ok (.iaload, 1) := of_0 ok_iaload (by decide +kernel)
theorem dX9_rests_106 : decode cX9_rests 106 = .ok (.if_icmp .gt 39, 3) := of_s2 ok_if_icmp_gt 0 39 (by decide +kernel)
theorem dX9_rests_109 : decode cX9_rests 109 = .ok (.aload_n 0, 1) := of_0 ok_aload_n_0 (by decide +kernel)
theorem dX9_rests_110 : decode cX9_rests 110 = .ok (.getfield 113, 3) := of_u2 ok_getfield 0 113 (by decide +kernel)
theorem dX9_rests_113 : decode cX9_rests 113 = .ok (.iload 7, 2) := of_u1 ok_iload (by decide +kernel)
theorem dX9_rests_115 : decode cX9_rests 115 = .ok (.iconst 1, 1) := of_0 ok_iconst_1 (by decide +kernel)
theorem dX9_rests_116 : decode cX9_rests 116 = .ok (.ixor, 1) := of_0 ok_ixor (by decide +kernel)
theorem dX9_rests_117 : decode cX9_rests 117 = .ok (.iaload, 1) := of_0 ok_iaload (by decide +kernel)
theorem dX9_rests_118 : decode cX9_rests 118 = .ok (.aload_n 0, 1) := of_0 ok_aload_n_0 (by decide +kernel)
theorem dX9_rests_119 : decode cX9_rests 119 = .ok (.getfield 113, 3) := of_u2 ok_getfield 0 113 (by decide +kernel)
theorem dX9_rests_122 : decode cX9_rests 122 = .ok (.iload 7, 2) := of_u1 ok_iload (by decide +kernel)
theorem dX9_rests_124 : decode cX9_rests 124 = .ok (.iaload, 1) := of_0 ok_iaload (by decide +kernel)
theorem dX9_rests_125 : decode cX9_rests 125 = .ok (.if_icmp .gt 20, 3) := of_s2 ok_if_icmp_gt 0 20 (by decide +kernel)
theorem dX9_rests_128 : decode cX9_rests 128 = .ok (.iload 5, 2) := of_u1 ok_iload (by decide +kernel)
theorem dX9_rests_130 : decode cX9_rests 130 = .ok (.ifCond .ne 8, 3) := of_s2 ok_ifCond_ne 0 8 (by decide +kernel)
theorem dX9_rests_133 : decode cX9_rests 133 = .ok (.iload 7, 2) := of_u1 ok_iload (by decide +kernel)
theorem dX9_rests_135 : decode cX9_rests 135 = .ok (.goto 5, 3) := of_s2 ok_goto 0 5 (by decide +kernel)
theorem dX9_rests_138 : decode cX9_rests 138 = .ok (.iload 6, 2) := of_u1 ok_iload (by decide +kernel)
theorem dX9_rests_140 : decode cX9_rests 140 = .ok (.istore 6, 2) := of_u1 ok_istore (by decide +kernel)
theorem dX9_rests_142 : decode cX9_rests 142 = .ok (.iinc 5 1, 3) := of_ii ok_iinc 1 (by decide +kernel)
theorem dX9_rests_145 : decode cX9_rests 145 = .ok (.iinc 7 1, 3) := of_ii ok_iinc 1 (by decide +kernel)
theorem dX9_rests_148 : decode cX9_rests 148 = .ok (.goto (-64), 3) := of_s2 ok_goto 255 192 (by decide +kernel)
theorem dX9_rests_151 : decode cX9_rests 151 = .ok (.iload 4, 2) := of_u1 ok_iload (by decide +kernel)
theorem dX9_rests_153 : decode cX9_rests 153 = .ok (.ifCond .ne 6, 3) := of_s2 ok_ifCond_ne 0 6 (by decide +kernel)
theorem dX9_rests_156 : decode cX9_rests 156 = .ok (.iload 5, 2) := of_u1 ok_iload (by decide +kernel)
theorem dX9_rests_158 : decode cX9_rests 158 = .ok (.ireturn, 1) := of_0 ok_ireturn (by decide +kernel)
theorem dX9_rests_159 : decode cX9_rests 159 = .ok (.iload 6, 2) := of_u1 ok_iload (by decide +kernel)
theorem dX9_rests_161 : decode cX9_rests 161 = .ok (.iconst (-1), 1) := of_0 ok_iconst_m1 (by decide +kernel)
theorem dX9_rests_162 : decode cX9_rests 162 = .ok (.if_icmp .ne 8, 3) := of_s2 ok_if_icmp_ne 0 8 (by decide +kernel)
theorem dX9_rests_165 : decode cX9_rests 165 = .ok (.bipush (-2), 2) := of_s1 ok_bipush 254 (by decide +kernel)
theorem dX9_rests_167 : decode cX9_rests 167 = .ok (.goto 20, 3) := of_s2 ok_goto 0 20 (by decide +kernel)
theorem dX9_rests_170 : decode cX9_rests 170 = .ok (.iload 4, 2) := of_u1 ok_iload (by decide +kernel)
theorem dX9_rests_172 : decode cX9_rests 172 = .ok (.iconst 1, 1) := of_0 ok_iconst_1 (by decide +kernel)
theorem dX9_rests_173 : decode cX9_rests 173 = .ok (.if_icmp .ne 10, 3) := of_s2 ok_if_icmp_ne 0 10 (by decide +kernel)
theorem dX9_rests_176 : decode cX9_rests 176 = .ok (.iload 6, 2) := of_u1 ok_iload (by decide +kernel)
theorem dX9_rests_178 : decode cX9_rests 178 = .ok (.iconst 2, 1) := of_0 ok_iconst_2 (by decide +kernel)
theorem dX9_rests_179 : decode cX9_rests 179 = .ok (.idiv, 1) := of_0 ok_idiv (by decide +kernel)
theorem dX9_rests_180 : decode cX9_rests 180 = .ok (.goto 7, 3) := of_s2 ok_goto 0 7 (by decide +kernel)
theorem dX9_rests_183 : decode cX9_rests 183 = .ok (.iload 6, 2) := of_u1 ok_iload (by decide +kernel)
theorem dX9_rests_185 : decode cX9_rests 185 = .ok (.iconst 2, 1) := of_0 ok_iconst_2 (by decide +kernel)
theorem dX9_rests_186 : decode cX9_rests 186 = .ok (.irem, 1) := of_0 ok_irem (by decide +kernel)
theorem dX9_rests_187 : decode cX9_rests 187 = .ok (.ireturn, 1) := of_0 ok_ireturn (by decide +kernel)
theorem dX9_ring_0 : decode cX9_ring 0 = .ok (.aload_n 0, 1) := of_0 ok_aload_n_0 (by decide +kernel)
theorem dX9_ring_1 : decode cX9_ring 1 = .ok (.invokevirtual 404, 3) := of_u2 ok_invokevirtual 1 148 (by decide +kernel)
theorem dX9_ring_4 : decode cX9_ring 4 = .ok (.ifCond .eq 13, 3) := of_s2 ok_ifCond_eq 0 13 (by decide +kernel)
theorem dX9_ring_7 : decode cX9_ring 7 = .ok (.iload_n 1, 1) := of_0 ok_iload_n_1 (by decide +kernel)
theorem dX9_ring_8 : decode cX9_ring 8 = .ok (.i2l, 1) := of_0 ok_i2l (by decide +kernel)
theorem dX9_ring_9 : decode cX9_ring 9 = .ok (.lconst 0, 1) := of_0 ok_lconst_0 (by decide +kernel)
theorem dX9_ring_10 : decode cX9_ring 10 = .ok (.lconst 1, 1) := of_0 ok_lconst_1 (by decide +kernel)
theorem dX9_ring_11 : decode cX9_ring 11 = .ok (.invokestatic 131, 3) := of_u2 ok_invokestatic 0 131 (by decide +kernel)
theorem dX9_ring_14 : decode cX9_ring 14 = .ok (.ifCond .ne 5, 3) := of_s2 ok_ifCond_ne 0 5 (by decide +kernel)
theorem dX9_ring_17 : decode cX9_ring 17 = .ok (.iconst (-1), 1) := of_0 ok_iconst_m1 (by decide +kernel)
theorem dX9_ring_18 : decode cX9_ring 18 = .ok (.ireturn, 1) := of_0 ok_ireturn (by decide +kernel)
theorem dX9_ring_19 : decode cX9_ring 19 = .ok (.aload_n 0, 1) := of_0 ok_aload_n_0 (by decide +kernel)
theorem dX9_ring_20 : decode cX9_ring 20 = .ok (.invokevirtual 420, 3) := of_u2 ok_invokevirtual 1 164 (by decide +kernel)
theorem dX9_ring_23 : decode cX9_ring 23 = .ok (.aload_n 0, 1) := of_0 ok_aload_n_0 (by decide +kernel)
theorem dX9_ring_24 : decode cX9_ring 24 = .ok (.invokevirtual 446, 3) := of_u2 ok_invokevirtual 1 190 (by decide +kernel)
theorem dX9_ring_27 : decode cX9_ring 27 = .ok (.aload_n 0, 1) := of_0 ok_aload_n_0 (by decide +kernel)
theorem dX9_ring_28 : decode cX9_ring 28 = .ok (.invokevirtual 426, 3) := of_u2 ok_invokevirtual 1 170 (by decide +kernel)
theorem dX9_ring_31 : decode cX9_ring 31 = .ok (.iconst 0, 1) := of_0 ok_iconst_0 (by decide +kernel)
theorem dX9_ring_32 : decode cX9_ring 32 = .ok (.istore_n 2, 1) := of_0 ok_istore_n_2 (by decide +kernel)
theorem dX9_ring_33 : decode cX9_ring 33 = .ok (.iload_n 2, 1) := of_0 ok_iload_n_2 (by decide +kernel)
theorem dX9_ring_34 : decode cX9_ring 34 = .ok (.bipush 60, 2) := of_s1 ok_bipush 60 (by decide +kernel)
theorem dX9_ring_36 : decode cX9_ring 36 = .ok (.if_icmp .ge 53, 3) := of_s2 ok_if_icmp_ge 0 53 (by decide +kernel)
theorem dX9_ring_39 : decode cX9_ring 39 = .ok (.iload_n 2, 1) := of_0 ok_iload_n_2 (by decide +kernel)
theorem dX9_ring_40 : decode cX9_ring 40 = .ok (.iconst 1, 1) := of_0 ok_iconst_1 (by decide +kernel)
theorem dX9_ring_41 : decode cX9_ring 41 = .ok (.iadd, 1) := of_0 ok_iadd (by decide +kernel)
theorem dX9_ring_42 : decode cX9_ring 42 = .ok (.istore_n 3, 1) := of_0 ok_istore_n_3 (by decide +kernel)
theorem dX9_ring_43 : decode cX9_ring 43 = .ok (.iload_n 3, 1) := of_0 ok_iload_n_3 (by decide +kernel)
theorem dX9_ring_44 : decode cX9_ring 44 = .ok (.bipush 60, 2) := of_s1 ok_bipush 60 (by decide +kernel)
theorem dX9_ring_46 : decode cX9_ring 46 = .ok (.if_icmp .gt 37, 3) := of_s2 ok_if_icmp_gt 0 37 (by decide +kernel)
theorem dX9_ring_49 : decode cX9_ring 49 = .ok (.aload_n 0, 1) := of_0 ok_aload_n_0 (by decide +kernel)
theorem dX9_ring_50 : decode cX9_ring 50 = .ok (.iload_n 2, 1) := of_0 ok_iload_n_2 (by decide +kernel)
theorem dX9_ring_51 : decode cX9_ring 51 = .ok (.iload_n 3, 1) := of_0 ok_iload_n_3 (by decide +kernel)
theorem dX9_ring_52 : decode cX9_ring 52 = .ok (.invokevirtual 449, 3) := of_u2 ok_invokevirtual 1 193 (by decide +kernel)
theorem dX9_ring_55 : decode cX9_ring 55 = .ok (.ifCond .eq 22, 3) := of_s2 ok_ifCond_eq 0 22 (by decide +kernel)
theorem dX9_ring_58 : decode cX9_ring 58 = .ok (.iload_n 1, 1) := of_0 ok_iload_n_1 (by decide +kernel)
theorem dX9_ring_59 : decode cX9_ring 59 = .ok (.ifCond .ne 14, 3) := of_s2 ok_ifCond_ne 0 14 (by decide +kernel)
theorem dX9_ring_62 : decode cX9_ring 62 = .ok (.aload_n 0, 1) := of_0 ok_aload_n_0 (by decide +kernel)
theorem dX9_ring_63 : decode cX9_ring 63 = .ok (.getfield 9, 3) := of_u2 ok_getfield 0 9 (by decide +kernel)
theorem dX9_ring_66 : decode cX9_ring 66 = .ok (.iconst 4, 1) := of_0 ok_iconst_4 (by decide +kernel)
theorem dX9_ring_67 : decode cX9_ring 67 = .ok (.iaload, 1) := of_0 ok_iaload (by decide +kernel)
theorem dX9_ring_68 : decode cX9_ring 68 = .ok (.iload_n 2, 1) := of_0 ok_iload_n_2 (by decide +kernel)
theorem dX9_ring_69 : decode cX9_ring 69 = .ok (.iadd, 1) := of_0 ok_iadd (by decide +kernel)
theorem dX9_ring_70 : decode cX9_ring 70 = .ok (.goto 6, 3) := of_s2 ok_goto 0 6 (by decide +kernel)
theorem dX9_ring_73 : decode cX9_ring 73 = .ok (.iload_n 3, 1) := of_0 ok_iload_n_3 (by decide +kernel)
theorem dX9_ring_74 : decode cX9_ring 74 = .ok (.iload_n 2, 1) := of_0 ok_iload_n_2 (by decide +kernel)
theorem dX9_ring_75 : decode cX9_ring 75 = .ok (.isub, 1) := of_0 ok_isub (by decide +kernel)
theorem dX9_ring_76 : decode cX9_ring 76 = .ok (.ireturn, 1) := of_0 ok_ireturn (by decide +kernel)
theorem dX9_ring_77 : decode cX9_ring 77 = .ok (.iinc 3 1, 3) := of_ii ok_iinc 1 (by decide +kernel)
theorem dX9_ring_80 : decode cX9_ring 80 = .ok (.goto (-37), 3) := of_s2 ok_goto 255 219 (by decide +kernel)
theorem dX9_ring_83 : decode cX9_ring 83 = .ok (.iinc 2 1, 3) := of_ii ok_iinc 1 (by decide +kernel)
theorem dX9_ring_86 : decode cX9_ring 86 = .ok (.goto (-53), 3) := of_s2 ok_goto 255 203 (by decide +kernel)
theorem dX9_ring_89 : decode cX9_ring 89 = .ok (.bipush (-2), 2) := of_s1 ok_bipush 254 (by decide +kernel)
theorem dX9_ring_91 : decode cX9_ring 91 = .ok (.ireturn, 1) := of_0 ok_ireturn (by decide +kernel)
theorem dX9_ruled_0 : decode cX9_ruled 0 = .ok (.aload_n 0, 1) := of_0 ok_aload_n_0 (by decide +kernel)
theorem dX9_ruled_1 : decode cX9_ruled 1 = .ok (.invokevirtual 404, 3) := of_u2 ok_invokevirtual 1 148 (by decide +kernel)
theorem dX9_ruled_4 : decode cX9_ruled 4 = .ok (.ifCond .eq 13, 3) := of_s2 ok_ifCond_eq 0 13 (by decide +kernel)
theorem dX9_ruled_7 : decode cX9_ruled 7 = .ok (.iload_n 1, 1) := of_0 ok_iload_n_1 (by decide +kernel)
theorem dX9_ruled_8 : decode cX9_ruled 8 = .ok (.i2l, 1) := of_0 ok_i2l (by decide +kernel)
theorem dX9_ruled_9 : decode cX9_ruled 9 = .ok (.lconst 0, 1) := of_0 ok_lconst_0 (by decide +kernel)
theorem dX9_ruled_10 : decode cX9_ruled 10 = .ok (.lconst 1, 1) := of_0 ok_lconst_1 (by decide +kernel)
theorem dX9_ruled_11 : decode cX9_ruled 11 = .ok (.invokestatic 131, 3) := of_u2 ok_invokestatic 0 131 (by decide +kernel)
theorem dX9_ruled_14 : decode cX9_ruled 14 = .ok (.ifCond .ne 6, 3) := of_s2 ok_ifCond_ne 0 6 (by decide +kernel)
theorem dX9_ruled_17 : decode cX9_ruled 17 = .ok (.bipush (-3), 2) := of_s1 ok_bipush 253 (by decide +kernel)
theorem dX9_ruled_19 : decode cX9_ruled 19 = .ok (.ireturn, 1) := of_0 ok_ireturn (by decide +kernel)
theorem dX9_ruled_20 : decode cX9_ruled 20 = .ok (.aload_n 0, 1) := of_0 ok_aload_n_0 (by decide +kernel)
theorem dX9_ruled_21 : decode cX9_ruled 21 = .ok (.invokevirtual 420, 3) := of_u2 ok_invokevirtual 1 164 (by decide +kernel)
theorem dX9_ruled_24 : decode cX9_ruled 24 = .ok (.iconst 0, 1) := of_0 ok_iconst_0 (by decide +kernel)
theorem dX9_ruled_25 : decode cX9_ruled 25 = .ok (.istore_n 2, 1) := of_0 ok_istore_n_2 (by decide +kernel)
theorem dX9_ruled_26 : decode cX9_ruled 26 = .ok (.bipush (-2), 2) := of_s1 ok_bipush 254 (by decide +kernel)
theorem dX9_ruled_28 : decode cX9_ruled 28 = .ok (.istore_n 3, 1) := of_0 ok_istore_n_3 (by decide +kernel)
theorem dX9_ruled_29 : decode cX9_ruled 29 = .ok (.iconst (-1), 1) := of_0 ok_iconst_m1 (by decide +kernel)
theorem dX9_ruled_30 : decode cX9_ruled 30 = .ok (.istore 4, 2) := of_u1 ok_istore (by decide +kernel)
theorem dX9_ruled_32 : decode cX9_ruled 32 = .ok (.iload 4, 2) := of_u1 ok_iload (by decide +kernel)
theorem dX9_ruled_34 : decode cX9_ruled 34 = .ok (.aload_n 0, 1) := of_0 ok_aload_n_0 (by decide +kernel)
theorem dX9_ruled_35 : decode cX9_ruled 35 = .ok (.getfield 312, 3) := of_u2 ok_getfield 1 56 (by decide +kernel)
theorem dX9_ruled_38 : decode cX9_ruled 38 = .ok (.if_icmp .ge 32, 3) := of_s2 ok_if_icmp_ge 0 32 (by decide +kernel)
theorem dX9_ruled_41 : decode cX9_ruled 41 = .ok (.aload_n 0, 1) := of_0 ok_aload_n_0 (by decide +kernel)
theorem dX9_ruled_42 : decode cX9_ruled 42 = .ok (.iload 4, 2) := of_u1 ok_iload (by decide +kernel)
theorem dX9_ruled_44 : decode cX9_ruled 44 = .ok (.invokevirtual 462, 3) := of_u2 ok_invokevirtual 1 206 (by decide +kernel)
theorem dX9_ruled_47 : decode cX9_ruled 47 = .ok (.ifCond .eq 17, 3) := of_s2 ok_ifCond_eq 0 17 (by decide +kernel)
theorem dX9_ruled_50 : decode cX9_ruled 50 = .ok (.iload_n 2, 1) := of_0 ok_iload_n_2 (by decide +kernel)
theorem dX9_ruled_51 : decode cX9_ruled 51 = .ok (.ifCond .ne 8, 3) := of_s2 ok_ifCond_ne 0 8 (by decide +kernel)
theorem dX9_ruled_54 : decode cX9_ruled 54 = .ok (.iload 4, 2) := of_u1 ok_iload (by decide +kernel)
theorem dX9_ruled_56 : decode cX9_ruled 56 = .ok (.goto 4, 3) := of_s2 ok_goto 0 4 (by decide +kernel)
theorem dX9_ruled_59 : decode cX9_ruled 59 = .ok (.iload_n 3, 1) := of_0 ok_iload_n_3 (by decide +kernel)
theorem dX9_ruled_60 : decode cX9_ruled 60 = .ok (.istore_n 3, 1) := of_0 ok_istore_n_3 (by decide +kernel)
theorem dX9_ruled_61 : decode cX9_ruled 61 = .ok (.iinc 2 1, 3) := of_ii ok_iinc 1 (by decide +kernel)
theorem dX9_ruled_64 : decode cX9_ruled 64 = .ok (.iinc 4 1, 3) := of_ii ok_iinc 1 (by decide +kernel)
theorem dX9_ruled_67 : decode cX9_ruled 67 = .ok (.goto (-35), 3) := of_s2 ok_goto 255 221 (by decide +kernel)
theorem dX9_ruled_70 : decode cX9_ruled 70 = .ok (.iload_n 1, 1) := of_0 ok_iload_n_1 (by decide +kernel)
theorem dX9_ruled_71 : decode cX9_ruled 71 = .ok (.ifCond .ne 7, 3) := of_s2 ok_ifCond_ne 0 7 (by decide +kernel)
theorem dX9_ruled_74 : decode cX9_ruled 74 = .ok (.iload_n 2, 1) := of_0 ok_iload_n_2 (by decide +kernel)
theorem dX9_ruled_75 : decode cX9_ruled 75 = .ok (.goto 4, 3) := of_s2 ok_goto 0 4 (by decide +kernel)
theorem dX9_ruled_78 : decode cX9_ruled 78 = .ok (.iload_n 3, 1) := of_0 ok_iload_n_3 (by decide +kernel)
theorem dX9_ruled_79 : decode cX9_ruled 79 = .ok (.ireturn, 1) := of_0 ok_ireturn (by decide +kernel)
theorem dX9_seed_0 : decode cX9_seed 0 = .ok (.iload_n 1, 1) := of_0 ok_iload_n_1 (by decide +kernel)
theorem dX9_seed_1 : decode cX9_seed 1 = .ok (.ifCond .ge 5, 3) := of_s2 ok_ifCond_ge 0 5 (by decide +kernel)
theorem dX9_seed_4 : decode cX9_seed 4 = .ok (.iconst (-1), 1) := of_0 ok_iconst_m1 (by decide +kernel)
theorem dX9_seed_5 : decode cX9_seed 5 = .ok (.ireturn, 1) := of_0 ok_ireturn (by decide +kernel)
theorem dX9_seed_6 : decode cX9_seed 6 = .ok (.aload_n 0, 1) := of_0 ok_aload_n_0 (by decide +kernel)
theorem dX9_seed_7 : decode cX9_seed 7 = .ok (.getfield 9, 3) := of_u2 ok_getfield 0 9 (by decide +kernel)
theorem dX9_seed_10 : decode cX9_seed 10 = .ok (.bipush 6, 2) := of_s1 ok_bipush 6 (by decide +kernel)
theorem dX9_seed_12 : decode cX9_seed 12 = .ok (.iaload, 1) := of_0 ok_iaload (by decide +kernel)
theorem dX9_seed_13 : decode cX9_seed 13 = .ok (.istore_n 2, 1) := of_0 ok_istore_n_2 (by decide +kernel)
theorem dX9_seed_14 : decode cX9_seed 14 = .ok (.aload_n 0, 1) := of_0 ok_aload_n_0 (by decide +kernel)
theorem dX9_seed_15 : decode cX9_seed 15 = .ok (.getfield 9, 3) := of_u2 ok_getfield 0 9 (by decide +kernel)
theorem dX9_seed_18 : decode cX9_seed 18 = .ok (.bipush 6, 2) := of_s1 ok_bipush 6 (by decide +kernel)
theorem dX9_seed_20 : decode cX9_seed 20 = .ok (.iload_n 1, 1) := of_0 ok_iload_n_1 (by decide +kernel)
theorem dX9_seed_21 : decode cX9_seed 21 = .ok (.iastore, 1) := of_0 ok_iastore (by decide +kernel)
theorem dX9_seed_22 : decode cX9_seed 22 = .ok (.iload_n 2, 1) := of_0 ok_iload_n_2 (by decide +kernel)
theorem dX9_seed_23 : decode cX9_seed 23 = .ok (.ireturn, 1) := of_0 ok_ireturn (by decide +kernel)
theorem dX9_strung_0 : decode cX9_strung 0 = .ok (.aload_n 0, 1) := of_0 ok_aload_n_0 (by decide +kernel)
theorem dX9_strung_1 : decode cX9_strung 1 = .ok (.iload_n 1, 1) := of_0 ok_iload_n_1 (by decide +kernel)
theorem dX9_strung_2 : decode cX9_strung 2 = .ok (.invokevirtual 351, 3) := of_u2 ok_invokevirtual 1 95 (by decide +kernel)
theorem dX9_strung_5 : decode cX9_strung 5 = .ok (.ifCond .ne 5, 3) := of_s2 ok_ifCond_ne 0 5 (by decide +kernel)
theorem dX9_strung_8 : decode cX9_strung 8 = .ok (.iconst (-1), 1) := of_0 ok_iconst_m1 (by decide +kernel)
theorem dX9_strung_9 : decode cX9_strung 9 = .ok (.ireturn, 1) := of_0 ok_ireturn (by decide +kernel)
theorem dX9_strung_10 : decode cX9_strung 10 = .ok (.aload_n 0, 1) := of_0 ok_aload_n_0 (by decide +kernel)
theorem dX9_strung_11 : decode cX9_strung 11 = .ok (.invokevirtual 420, 3) := of_u2 ok_invokevirtual 1 164 (by decide +kernel)
theorem dX9_strung_14 : decode cX9_strung 14 = .ok (.iconst 0, 1) := of_0 ok_iconst_0 (by decide +kernel)
theorem dX9_strung_15 : decode cX9_strung 15 = .ok (.istore_n 2, 1) := of_0 ok_istore_n_2 (by decide +kernel)
theorem dX9_strung_16 : decode cX9_strung 16 = .ok (.iconst 0, 1) := of_0 ok_iconst_0 (by decide +kernel)
theorem dX9_strung_17 : decode cX9_strung 17 = .ok (.istore_n 3, 1) := of_0 ok_istore_n_3 (by decide +kernel)
theorem dX9_strung_18 : decode cX9_strung 18 = .ok (.iload_n 3, 1) := of_0 ok_iload_n_3 (by decide +kernel)
theorem dX9_strung_19 : decode cX9_strung 19 = .ok (.aload_n 0, 1) := of_0 ok_aload_n_0 (by decide +kernel)
theorem dX9_strung_20 : decode cX9_strung 20 = .ok (.getfield 9, 3) := of_u2 ok_getfield 0 9 (by decide +kernel)
theorem dX9_strung_23 : decode cX9_strung 23 = .ok (.iconst 1, 1) := of_0 ok_iconst_1 (by decide +kernel)
theorem dX9_strung_24 : decode cX9_strung 24 = .ok (.iaload, 1) := of_0 ok_iaload (by decide +kernel)
theorem dX9_strung_25 : decode cX9_strung 25 = .ok (.if_icmp .ge 37, 3) := of_s2 ok_if_icmp_ge 0 37 (by decide +kernel)
theorem dX9_strung_28 : decode cX9_strung 28 = .ok (.aload_n 0, 1) := of_0 ok_aload_n_0 (by decide +kernel)
theorem dX9_strung_29 : decode cX9_strung 29 = .ok (.invokevirtual 296, 3) := of_u2 ok_invokevirtual 1 40 (by decide +kernel)
theorem dX9_strung_32 : decode cX9_strung 32 = .ok (.aload_n 0, 1) := of_0 ok_aload_n_0 (by decide +kernel)
theorem dX9_strung_33 : decode cX9_strung 33 = .ok (.getfield 19, 3) := of_u2 ok_getfield 0 19 (by decide +kernel)
theorem dX9_strung_36 : decode cX9_strung 36 = .ok (.iload_n 1, 1) := of_0 ok_iload_n_1 (by decide +kernel)
theorem dX9_strung_37 : decode cX9_strung 37 = .ok (.iload_n 3, 1) := of_0 ok_iload_n_3 (by decide +kernel)
theorem dX9_strung_38 : decode cX9_strung 38 = .ok (.iastore, 1) := of_0 ok_iastore (by decide +kernel)
theorem dX9_strung_39 : decode cX9_strung 39 = .ok (.iload_n 2, 1) := of_0 ok_iload_n_2 (by decide +kernel)
theorem dX9_strung_40 : decode cX9_strung 40 = .ok (.aload_n 0, 1) := of_0 ok_aload_n_0 (by decide +kernel)
theorem dX9_strung_41 : decode cX9_strung 41 = .ok (.invokevirtual 459, 3) := of_u2 ok_invokevirtual 1 203 (by decide +kernel)
theorem dX9_strung_44 : decode cX9_strung 44 = .ok (.ifCond .eq 9, 3) := of_s2 ok_ifCond_eq 0 9 (by decide +kernel)
theorem dX9_strung_47 : decode cX9_strung 47 = .ok (.iconst 1, 1) := of_0 ok_iconst_1 (by decide +kernel)
theorem dX9_strung_48 : decode cX9_strung 48 = .ok (.iload_n 3, 1) := of_0 ok_iload_n_3 (by decide +kernel)
theorem dX9_strung_49 : decode cX9_strung 49 = .ok (.ishl, 1) := of_0 ok_ishl (by decide +kernel)
theorem dX9_strung_50 : decode cX9_strung 50 = .ok (.goto 4, 3) := of_s2 ok_goto 0 4 (by decide +kernel)
theorem dX9_strung_53 : decode cX9_strung 53 = .ok (.iconst 0, 1) := of_0 ok_iconst_0 (by decide +kernel)
theorem dX9_strung_54 : decode cX9_strung 54 = .ok (.ior, 1) := of_0 ok_ior (by decide +kernel)
theorem dX9_strung_55 : decode cX9_strung 55 = .ok (.istore_n 2, 1) := of_0 ok_istore_n_2 (by decide +kernel)
theorem dX9_strung_56 : decode cX9_strung 56 = .ok (.iinc 3 1, 3) := of_ii ok_iinc 1 (by decide +kernel)
theorem dX9_strung_59 : decode cX9_strung 59 = .ok (.goto (-41), 3) := of_s2 ok_goto 255 215 (by decide +kernel)
theorem dX9_strung_62 : decode cX9_strung 62 = .ok (.iload_n 2, 1) := of_0 ok_iload_n_2 (by decide +kernel)
theorem dX9_strung_63 : decode cX9_strung 63 = .ok (.ireturn, 1) := of_0 ok_ireturn (by decide +kernel)
theorem dX9_toastOf_0 : decode cX9_toastOf 0 = .ok (.aload_n 0, 1) := of_0 ok_aload_n_0 (by decide +kernel)
theorem dX9_toastOf_1 : decode cX9_toastOf 1 = .ok (.getfield 16, 3) := of_u2 ok_getfield 0 16 (by decide +kernel)
theorem dX9_toastOf_4 : decode cX9_toastOf 4 = .ok (.iload_n 1, 1) := of_0 ok_iload_n_1 (by decide +kernel)
theorem dX9_toastOf_5 : decode cX9_toastOf 5 = .ok (.aload_n 0, 1) := of_0 ok_aload_n_0 (by decide +kernel)
theorem dX9_toastOf_6 : decode cX9_toastOf 6 = .ok (.getfield 16, 3) := of_u2 ok_getfield 0 16 (by decide +kernel)
theorem dX9_toastOf_9 : decode cX9_toastOf 9 = .ok (.iload_n 1, 1) := of_0 ok_iload_n_1 (by decide +kernel)
theorem dX9_toastOf_10 : decode cX9_toastOf 10 = .ok (.iaload, 1) := of_0 ok_iaload (by decide +kernel)
theorem dX9_toastOf_11 : decode cX9_toastOf 11 = .ok (.iconst 2, 1) := of_0 ok_iconst_2 (by decide +kernel)
theorem dX9_toastOf_12 : decode cX9_toastOf 12 = .ok (.if_icmp .ne 7, 3) := of_s2 ok_if_icmp_ne 0 7 (by decide +kernel)
theorem dX9_toastOf_15 : decode cX9_toastOf 15 = .ok (.iconst 2, 1) := of_0 ok_iconst_2 (by decide +kernel)
theorem dX9_toastOf_16 : decode cX9_toastOf 16 = .ok (.goto 11, 3) := of_s2 ok_goto 0 11 (by decide +kernel)
theorem dX9_toastOf_19 : decode cX9_toastOf 19 = .ok (.iconst 1, 1) := of_0 ok_iconst_1 (by decide +kernel)
theorem dX9_toastOf_20 : decode cX9_toastOf 20 = .ok (.aload_n 0, 1) := of_0 ok_aload_n_0 (by decide +kernel)
theorem dX9_toastOf_21 : decode cX9_toastOf 21 = .ok (.getfield 16, 3) := of_u2 ok_getfield 0 16 (by decide +kernel)
theorem dX9_toastOf_24 : decode cX9_toastOf 24 = .ok (.iload_n 1, 1) := of_0 ok_iload_n_1 (by decide +kernel)
theorem dX9_toastOf_25 : decode cX9_toastOf 25 = .ok (.iaload, 1) := of_0 ok_iaload (by decide +kernel)
theorem dX9_toastOf_26 : decode cX9_toastOf 26 = .ok (.isub, 1) := of_0 ok_isub (by decide +kernel)
theorem dX9_toastOf_27 : decode cX9_toastOf 27 = .ok (.iastore, 1) := of_0 ok_iastore (by decide +kernel)
theorem dX9_toastOf_28 : decode cX9_toastOf 28 = .ok (.aload_n 0, 1) := of_0 ok_aload_n_0 (by decide +kernel)
theorem dX9_toastOf_29 : decode cX9_toastOf 29 = .ok (.invokevirtual 380, 3) := of_u2 ok_invokevirtual 1 124 (by decide +kernel)
theorem dX9_toastOf_32 : decode cX9_toastOf 32 = .ok (.pop, 1) := of_0 ok_pop (by decide +kernel)
theorem dX9_toastOf_33 : decode cX9_toastOf 33 = .ok (.return_, 1) := of_0 ok_return_ (by decide +kernel)
theorem dX9_toasts_0 : decode cX9_toasts 0 = .ok (.aload_n 0, 1) := of_0 ok_aload_n_0 (by decide +kernel)
theorem dX9_toasts_1 : decode cX9_toasts 1 = .ok (.invokevirtual 404, 3) := of_u2 ok_invokevirtual 1 148 (by decide +kernel)
theorem dX9_toasts_4 : decode cX9_toasts 4 = .ok (.ifCond .eq 50, 3) := of_s2 ok_ifCond_eq 0 50 (by decide +kernel)
theorem dX9_toasts_7 : decode cX9_toasts 7 = .ok (.iload_n 1, 1) := of_0 ok_iload_n_1 (by decide +kernel)
theorem dX9_toasts_8 : decode cX9_toasts 8 = .ok (.i2l, 1) := of_0 ok_i2l (by decide +kernel)
theorem dX9_toasts_9 : decode cX9_toasts 9 = .ok (.lconst 1, 1) := of_0 ok_lconst_1 (by decide +kernel)
theorem dX9_toasts_10 : decode cX9_toasts 10 = .ok (.ldc2_w 475, 3) := of_u2 ok_ldc2_w 1 219 (by decide +kernel)
theorem dX9_toasts_13 : decode cX9_toasts 13 = .ok (.invokestatic 131, 3) := of_u2 ok_invokestatic 0 131 (by decide +kernel)
theorem dX9_toasts_16 : decode cX9_toasts 16 = .ok (.ifCond .eq 38, 3) := of_s2 ok_ifCond_eq 0 38 (by decide +kernel)
theorem dX9_toasts_19 : decode cX9_toasts 19 = .ok (.iload_n 2, 1) := of_0 ok_iload_n_2 (by decide +kernel)
theorem dX9_toasts_20 : decode cX9_toasts 20 = .ok (.i2l, 1) := of_0 ok_i2l (by decide +kernel)
theorem dX9_toasts_21 : decode cX9_toasts 21 = .ok (.lconst 1, 1) := of_0 ok_lconst_1 (by decide +kernel)
theorem dX9_toasts_22 : decode cX9_toasts 22 = .ok (.ldc2_w 457, 3) := of_u2 ok_ldc2_w 1 201 (by decide +kernel)
theorem dX9_toasts_25 : decode cX9_toasts 25 = .ok (.invokestatic 131, 3) := of_u2 ok_invokestatic 0 131 (by decide +kernel)
theorem dX9_toasts_28 : decode cX9_toasts 28 = .ok (.ifCond .eq 26, 3) := of_s2 ok_ifCond_eq 0 26 (by decide +kernel)
theorem dX9_toasts_31 : decode cX9_toasts 31 = .ok (.iload_n 3, 1) := of_0 ok_iload_n_3 (by decide +kernel)
theorem dX9_toasts_32 : decode cX9_toasts 32 = .ok (.i2l, 1) := of_0 ok_i2l (by decide +kernel)
theorem dX9_toasts_33 : decode cX9_toasts 33 = .ok (.lconst 0, 1) := of_0 ok_lconst_0 (by decide +kernel)
theorem dX9_toasts_34 : decode cX9_toasts 34 = .ok (.ldc2_w 418, 3) := of_u2 ok_ldc2_w 1 162 (by decide +kernel)
theorem dX9_toasts_37 : decode cX9_toasts 37 = .ok (.invokestatic 131, 3) := of_u2 ok_invokestatic 0 131 (by decide +kernel)
theorem dX9_toasts_40 : decode cX9_toasts 40 = .ok (.ifCond .eq 14, 3) := of_s2 ok_ifCond_eq 0 14 (by decide +kernel)
theorem dX9_toasts_43 : decode cX9_toasts 43 = .ok (.iload 4, 2) := of_u1 ok_iload (by decide +kernel)
theorem dX9_toasts_45 : decode cX9_toasts 45 = .ok (.i2l, 1) := of_0 ok_i2l (by decide +kernel)
theorem dX9_toasts_46 : decode cX9_toasts 46 = .ok (.lconst 0, 1) := of_0 ok_lconst_0 (by decide +kernel)
theorem dX9_toasts_47 : decode cX9_toasts 47 = .ok (.lconst 1, 1) := of_0 ok_lconst_1 (by decide +kernel)
theorem dX9_toasts_48 : decode cX9_toasts 48 = .ok (.invokestatic 131, 3) := of_u2 ok_invokestatic 0 131 (by decide +kernel)
theorem dX9_toasts_51 : decode cX9_toasts 51 = .ok (.ifCond .ne 5, 3) := of_s2 ok_ifCond_ne 0 5 (by decide +kernel)
theorem dX9_toasts_54 : decode cX9_toasts 54 = .ok (.iconst (-1), 1) := of_0 ok_iconst_m1 (by decide +kernel)
theorem dX9_toasts_55 : decode cX9_toasts 55 = .ok (.ireturn, 1) := of_0 ok_ireturn (by decide +kernel)
theorem dX9_toasts_56 : decode cX9_toasts 56 = .ok (.aload_n 0, 1) := of_0 ok_aload_n_0 (by decide +kernel)
theorem dX9_toasts_57 : decode cX9_toasts 57 = .ok (.getfield 9, 3) := of_u2 ok_getfield 0 9 (by decide +kernel)
theorem dX9_toasts_60 : decode cX9_toasts 60 = .ok (.bipush 6, 2) := of_s1 ok_bipush 6 (by decide +kernel)
theorem dX9_toasts_62 : decode cX9_toasts 62 = .ok (.iaload, 1) := of_0 ok_iaload (by decide +kernel)
theorem dX9_toasts_63 : decode cX9_toasts 63 = .ok (.istore 5, 2) := of_u1 ok_istore (by decide +kernel)
theorem dX9_toasts_65 : decode cX9_toasts 65 = .ok (.iload 5, 2) := of_u1 ok_iload (by decide +kernel)
theorem dX9_toasts_67 : decode cX9_toasts 67 = .ok (.istore 6, 2) := of_u1 ok_istore (by decide +kernel)
theorem dX9_toasts_69 : decode cX9_toasts 69 = .ok (.iconst 0, 1) := of_0 ok_iconst_0 (by decide +kernel)
theorem dX9_toasts_70 : decode cX9_toasts 70 = .ok (.istore 7, 2) := of_u1 ok_istore (by decide +kernel)
theorem dX9_toasts_72 : decode cX9_toasts 72 = .ok (.aload_n 0, 1) := of_0 ok_aload_n_0 (by decide +kernel)
theorem dX9_toasts_73 : decode cX9_toasts 73 = .ok (.invokevirtual 420, 3) := of_u2 ok_invokevirtual 1 164 (by decide +kernel)
theorem dX9_toasts_76 : decode cX9_toasts 76 = .ok (.iconst 0, 1) := of_0 ok_iconst_0 (by decide +kernel)
theorem dX9_toasts_77 : decode cX9_toasts 77 = .ok (.istore 8, 2) := of_u1 ok_istore (by decide +kernel)
theorem dX9_toasts_79 : decode cX9_toasts 79 = .ok (.iload 8, 2) := of_u1 ok_iload (by decide +kernel)
theorem dX9_toasts_81 : decode cX9_toasts 81 = .ok (.iload_n 1, 1) := of_0 ok_iload_n_1 (by decide +kernel)
theorem dX9_toasts_82 : decode cX9_toasts 82 = .ok (.if_icmp .ge 106, 3) := of_s2 ok_if_icmp_ge 0 106 (by decide +kernel)
theorem dX9_toasts_85 : decode cX9_toasts 85 = .ok (.aload_n 0, 1) := of_0 ok_aload_n_0 (by decide +kernel)
theorem dX9_toasts_86 : decode cX9_toasts 86 = .ok (.getfield 9, 3) := of_u2 ok_getfield 0 9 (by decide +kernel)
theorem dX9_toasts_89 : decode cX9_toasts 89 = .ok (.bipush 6, 2) := of_s1 ok_bipush 6 (by decide +kernel)
theorem dX9_toasts_91 : decode cX9_toasts 91 = .ok (.iload 6, 2) := of_u1 ok_iload (by decide +kernel)
theorem dX9_toasts_93 : decode cX9_toasts 93 = .ok (.iastore, 1) := of_0 ok_iastore (by decide +kernel)
theorem dX9_toasts_94 : decode cX9_toasts 94 = .ok (.iconst 0, 1) := of_0 ok_iconst_0 (by decide +kernel)
theorem dX9_toasts_95 : decode cX9_toasts 95 = .ok (.istore 9, 2) := of_u1 ok_istore (by decide +kernel)
theorem dX9_toasts_97 : decode cX9_toasts 97 = .ok (.iload 9, 2) := of_u1 ok_iload (by decide +kernel)
theorem dX9_toasts_99 : decode cX9_toasts 99 = .ok (.iload_n 2, 1) := of_0 ok_iload_n_2 (by decide +kernel)
theorem dX9_toasts_100 : decode cX9_toasts 100 = .ok (.if_icmp .ge 47, 3) := of_s2 ok_if_icmp_ge 0 47 (by decide +kernel)
theorem dX9_toasts_103 : decode cX9_toasts 103 = .ok (.aload_n 0, 1) := of_0 ok_aload_n_0 (by decide +kernel)
theorem dX9_toasts_104 : decode cX9_toasts 104 = .ok (.bipush 100, 2) := of_s1 ok_bipush 100 (by decide +kernel)
theorem dX9_toasts_106 : decode cX9_toasts 106 = .ok (.invokevirtual 477, 3) := of_u2 ok_invokevirtual 1 221 (by decide +kernel)
theorem dX9_toasts_109 : decode cX9_toasts 109 = .ok (.iload_n 3, 1) := of_0 ok_iload_n_3 (by decide +kernel)
theorem dX9_toasts_110 : decode cX9_toasts 110 = .ok (.if_icmp .ge 26, 3) := of_s2 ok_if_icmp_ge 0 26 (by decide +kernel)
theorem dX9_toasts_113 : decode cX9_toasts 113 = .ok (.aload_n 0, 1) := of_0 ok_aload_n_0 (by decide +kernel)
theorem dX9_toasts_114 : decode cX9_toasts 114 = .ok (.getfield 9, 3) := of_u2 ok_getfield 0 9 (by decide +kernel)
theorem dX9_toasts_117 : decode cX9_toasts 117 = .ok (.iconst 3, 1) := of_0 ok_iconst_3 (by decide +kernel)
theorem dX9_toasts_118 : decode cX9_toasts 118 = .ok (.iaload, 1) := of_0 ok_iaload (by decide +kernel)
theorem dX9_toasts_119 : decode cX9_toasts 119 = .ok (.ifCond .le 17, 3) := of_s2 ok_ifCond_le 0 17 (by decide +kernel)
theorem dX9_toasts_122 : decode cX9_toasts 122 = .ok (.aload_n 0, 1) := of_0 ok_aload_n_0 (by decide +kernel)
theorem dX9_toasts_123 : decode cX9_toasts 123 = .ok (.aload_n 0, 1) := of_0 ok_aload_n_0 (by decide +kernel)
theorem dX9_toasts_124 : decode cX9_toasts 124 = .ok (.aload_n 0, 1) := of_0 ok_aload_n_0 (by decide +kernel)
theorem dX9_toasts_125 : decode cX9_toasts 125 = .ok (.getfield 9, 3) := of_u2 ok_getfield 0 9 (by decide +kernel)
theorem dX9_toasts_128 : decode cX9_toasts 128 = .ok (.iconst 3, 1) := of_0 ok_iconst_3 (by decide +kernel)
theorem dX9_toasts_129 : decode cX9_toasts 129 = .ok (.iaload, 1) := of_0 ok_iaload (by decide +kernel)
theorem dX9_toasts_130 : decode cX9_toasts 130 = .ok (.invokevirtual 477, 3) := of_u2 ok_invokevirtual 1 221 (by decide +kernel)
theorem dX9_toasts_133 : decode cX9_toasts 133 = .ok (.invokevirtual 480, 3) := of_u2 ok_invokevirtual 1 224 (by decide +kernel)
theorem dX9_toasts_136 : decode cX9_toasts 136 = .ok (.aload_n 0, 1) := of_0 ok_aload_n_0 (by decide +kernel)
theorem dX9_toasts_137 : decode cX9_toasts 137 = .ok (.invokevirtual 383, 3) := of_u2 ok_invokevirtual 1 127 (by decide +kernel)
theorem dX9_toasts_140 : decode cX9_toasts 140 = .ok (.pop, 1) := of_0 ok_pop (by decide +kernel)
theorem dX9_toasts_141 : decode cX9_toasts 141 = .ok (.iinc 9 1, 3) := of_ii ok_iinc 1 (by decide +kernel)
theorem dX9_toasts_144 : decode cX9_toasts 144 = .ok (.goto (-47), 3) := of_s2 ok_goto 255 209 (by decide +kernel)
theorem dX9_toasts_147 : decode cX9_toasts 147 = .ok (.iload 7, 2) := of_u1 ok_iload (by decide +kernel)
theorem dX9_toasts_149 : decode cX9_toasts 149 = .ok (.aload_n 0, 1) := of_0 ok_aload_n_0 (by decide +kernel)
theorem dX9_toasts_150 : decode cX9_toasts 150 = .ok (.iload 4, 2) := of_u1 ok_iload (by decide +kernel)
theorem dX9_toasts_152 : decode cX9_toasts 152 = .ok (.ifCond .ne 7, 3) := of_s2 ok_ifCond_ne 0 7 (by decide +kernel)
theorem dX9_toasts_155 : decode cX9_toasts 155 = .ok (.iconst 2, 1) := of_0 ok_iconst_2 (by decide +kernel)
theorem dX9_toasts_156 : decode cX9_toasts 156 = .ok (.goto 4, 3) := of_s2 ok_goto 0 4 (by decide +kernel)
theorem dX9_toasts_159 : decode cX9_toasts 159 = .ok (.iconst 1, 1) := of_0 ok_iconst_1 (by decide +kernel)
theorem dX9_toasts_160 : decode cX9_toasts 160 = .ok (.invokevirtual 341, 3) := of_u2 ok_invokevirtual 1 85 (by decide +kernel)
theorem dX9_toasts_163 : decode cX9_toasts 163 = .ok (.invokestatic 370, 3) := of_u2 ok_invokestatic 1 114 (by decide +kernel)
theorem dX9_toasts_166 : decode cX9_toasts 166 = .ok (.iadd, 1) := of_0 ok_iadd (by decide +kernel)
theorem dX9_toasts_167 : decode cX9_toasts 167 = .ok (.istore 7, 2) := of_u1 ok_istore (by decide +kernel)
theorem dX9_toasts_169 : decode cX9_toasts 169 = .ok (.aload_n 0, 1) := of_0 ok_aload_n_0 (by decide +kernel)
theorem dX9_toasts_170 : decode cX9_toasts 170 = .ok (.getfield 9, 3) := of_u2 ok_getfield 0 9 (by decide +kernel)
theorem dX9_toasts_173 : decode cX9_toasts 173 = .ok (.bipush 6, 2) := of_s1 ok_bipush 6 (by decide +kernel)
theorem dX9_toasts_175 : decode cX9_toasts 175 = .ok (.iaload, 1) := of_0 ok_iaload (by decide +kernel)
theorem dX9_toasts_176 : decode cX9_toasts 176 = .ok (.istore 6, 2) := of_u1 ok_istore (by decide +kernel)
theorem dX9_toasts_178 : decode cX9_toasts 178 = .ok (.aload_n 0, 1) := of_0 ok_aload_n_0 (by decide +kernel)
theorem dX9_toasts_179 : decode cX9_toasts 179 = .ok (.invokevirtual 426, 3) := of_u2 ok_invokevirtual 1 170 (by decide +kernel)
theorem dX9_toasts_182 : decode cX9_toasts 182 = .ok (.iinc 8 1, 3) := of_ii ok_iinc 1 (by decide +kernel)
theorem dX9_toasts_185 : decode cX9_toasts 185 = .ok (.goto (-106), 3) := of_s2 ok_goto 255 150 (by decide +kernel)
theorem dX9_toasts_188 : decode cX9_toasts 188 = .ok (.aload_n 0, 1) := of_0 ok_aload_n_0 (by decide +kernel)
theorem dX9_toasts_189 : decode cX9_toasts 189 = .ok (.getfield 9, 3) := of_u2 ok_getfield 0 9 (by decide +kernel)
theorem dX9_toasts_192 : decode cX9_toasts 192 = .ok (.bipush 6, 2) := of_s1 ok_bipush 6 (by decide +kernel)
theorem dX9_toasts_194 : decode cX9_toasts 194 = .ok (.iload 5, 2) := of_u1 ok_iload (by decide +kernel)
theorem dX9_toasts_196 : decode cX9_toasts 196 = .ok (.iastore, 1) := of_0 ok_iastore (by decide +kernel)
theorem dX9_toasts_197 : decode cX9_toasts 197 = .ok (.iload 7, 2) := of_u1 ok_iload (by decide +kernel)
theorem dX9_toasts_199 : decode cX9_toasts 199 = .ok (.ireturn, 1) := of_0 ok_ireturn (by decide +kernel)
set_option maxRecDepth 20000 in
theorem bq_wsX9_allGive : subq wsX9_allGive [wsX9_allGive_r1, wsX9_allGive_r2] := ⟨(fun _ h => (List.mem_cons_of_mem _ (List.mem_append_left _ (List.mem_append_left _ h)))), (fun _ h => (List.mem_cons_of_mem _ (List.mem_append_left _ (List.mem_append_right _ h)))), trivial⟩
set_option maxRecDepth 20000 in
theorem ggX9_allGive_X9_givesNow : GoodIn wsX9_allGive wsX9_givesNow := (goodIn_cons (good_rb bq_wsX9_allGive ([(0, 5)] : List (Nat × Nat)) rfl (by decide +kernel)) (goodIn_app (goodIn_app (good_rb bq_wsX9_allGive ([(0, 6), (0, 7), (0, 8), (0, 4), (0, 9), (0, 0), (0, 10), (0, 11), (0, 12), (0, 13), (0, 14), (0, 15), (0, 16), (0, 17), (0, 18), (0, 19), (0, 20), (0, 21), (0, 22), (0, 23), (1, 0), (1, 1), (1, 2), (1, 3)] : List (Nat × Nat)) rfl (by decide +kernel)) (good_rb bq_wsX9_allGive ([(1, 4), (1, 5)] : List (Nat × Nat)) rfl (by decide +kernel))) (goodIn_sb (fun _ h => (List.mem_cons_of_mem _ (List.mem_append_right _ h))) (by decide +kernel))))
set_option maxRecDepth 20000 in
theorem gX9_allGive_X9_givesNow : GoodIn wsX9_allGive (wsV RX9 359 RX9 yX9_givesNow wsX9_givesNow) := goodIn_app (good_rp ([2, 3, 4, 5] : List Nat) rfl (by decide +kernel)) ggX9_allGive_X9_givesNow
set_option maxRecDepth 20000 in
theorem bq_wsX9_back : subq wsX9_back [wsX9_back_r1, wsX9_back_r2] := ⟨(fun _ h => (List.mem_cons_of_mem _ (List.mem_append_left _ (List.mem_append_left _ h)))), (fun _ h => (List.mem_cons_of_mem _ (List.mem_append_left _ (List.mem_append_right _ h)))), trivial⟩
set_option maxRecDepth 20000 in
theorem ggX9_back_X9_carriesAll : GoodIn wsX9_back wsX9_carriesAll := (goodIn_cons (good_rb bq_wsX9_back ([(0, 10)] : List (Nat × Nat)) rfl (by decide +kernel)) (goodIn_app (good_rb bq_wsX9_back ([(0, 11), (0, 12), (0, 2), (0, 13), (0, 14), (0, 15), (0, 16), (0, 17), (0, 18), (0, 19), (0, 20), (0, 21), (0, 22), (0, 23), (1, 0), (1, 1), (1, 2), (1, 3), (1, 4), (0, 5), (1, 5), (1, 6)] : List (Nat × Nat)) rfl (by decide +kernel)) (goodIn_sb (fun _ h => (List.mem_cons_of_mem _ (List.mem_append_right _ h))) (by decide +kernel))))
set_option maxRecDepth 20000 in
theorem gX9_back_X9_carriesAll : GoodIn wsX9_back (wsV RX9 415 RX9 yX9_carriesAll wsX9_carriesAll) := goodIn_app (good_rp ([8, 9, 10, 6] : List Nat) rfl (by decide +kernel)) ggX9_back_X9_carriesAll
set_option maxRecDepth 20000 in
theorem ggX9_back_X9_in : GoodIn wsX9_back wsX9_in := (goodIn_cons (good_rb bq_wsX9_back ([(0, 6)] : List (Nat × Nat)) rfl (by decide +kernel)) (good_rb bq_wsX9_back ([] : List (Nat × Nat)) rfl (by decide +kernel)))
set_option maxRecDepth 20000 in
theorem gX9_back_X9_in : GoodIn wsX9_back (va_wsS RX9 131 yX9_in wsX9_in) := goodIn_app (good_rp ([4, 5, 6] : List Nat) rfl (by decide +kernel)) ggX9_back_X9_in
set_option maxRecDepth 20000 in
theorem bq_wsX9_couldRule : subq wsX9_couldRule [wsX9_couldRule_r1, wsX9_couldRule_r2, wsX9_couldRule_r3, wsX9_couldRule_r4, wsX9_couldRule_r5] := ⟨(fun _ h => (List.mem_cons_of_mem _ (List.mem_append_left _ (List.mem_append_left _ h)))), (fun _ h => (List.mem_cons_of_mem _ (List.mem_append_left _ (List.mem_append_right _ (List.mem_append_left _ h))))), (fun _ h => (List.mem_cons_of_mem _ (List.mem_append_left _ (List.mem_append_right _ (List.mem_append_right _ (List.mem_append_left _ h)))))), (fun _ h => (List.mem_cons_of_mem _ (List.mem_append_left _ (List.mem_append_right _ (List.mem_append_right _ (List.mem_append_right _ (List.mem_append_left _ h))))))), (fun _ h => (List.mem_cons_of_mem _ (List.mem_append_left _ (List.mem_append_right _ (List.mem_append_right _ (List.mem_append_right _ (List.mem_append_right _ h))))))), trivial⟩
set_option maxRecDepth 20000 in
theorem ggX9_couldRule_X9_begins : GoodIn wsX9_couldRule wsX9_begins := (goodIn_cons (good_rb bq_wsX9_couldRule ([(0, 5)] : List (Nat × Nat)) rfl (by decide +kernel)) (goodIn_app (good_rb bq_wsX9_couldRule ([(0, 6), (0, 7), (0, 0), (0, 8), (0, 9), (0, 10), (0, 4), (0, 11)] : List (Nat × Nat)) rfl (by decide +kernel)) (goodIn_sb (fun _ h => (List.mem_cons_of_mem _ (List.mem_append_right _ h))) (by decide +kernel))))
set_option maxRecDepth 20000 in
theorem gX9_couldRule_X9_begins : GoodIn wsX9_couldRule (wsV RX9 296 RX9 yX9_begins wsX9_begins) := goodIn_app (good_rp ([2, 3, 4, 5] : List Nat) rfl (by decide +kernel)) ggX9_couldRule_X9_begins
set_option maxRecDepth 20000 in
theorem ggX9_couldRule_X9_doNotesFit : GoodIn wsX9_couldRule wsX9_doNotesFit := (goodIn_cons (good_rb bq_wsX9_couldRule ([(0, 15)] : List (Nat × Nat)) rfl (by decide +kernel)) (goodIn_app (goodIn_app (good_rb bq_wsX9_couldRule ([(0, 0), (0, 16), (0, 17), (0, 18), (0, 19), (0, 20), (0, 21), (0, 22), (0, 4), (0, 23), (0, 8), (1, 0), (1, 1), (1, 2), (1, 3), (1, 4), (1, 5), (1, 6), (1, 7), (1, 8), (1, 9), (1, 10), (1, 11), (1, 12)] : List (Nat × Nat)) rfl (by decide +kernel)) (goodIn_app (good_rb bq_wsX9_couldRule ([(1, 13), (0, 7), (1, 14), (1, 15), (1, 16), (1, 17), (1, 18), (1, 19), (1, 20), (1, 21), (1, 22), (1, 23), (2, 0), (2, 1), (2, 2), (2, 3), (2, 4), (2, 5), (2, 6), (2, 7), (2, 8), (2, 9), (2, 10), (2, 11)] : List (Nat × Nat)) rfl (by decide +kernel)) (goodIn_app (good_rb bq_wsX9_couldRule ([(2, 12), (2, 13), (2, 14), (2, 15), (2, 16), (2, 17), (2, 18), (2, 19), (2, 20), (2, 21), (2, 22), (2, 23), (3, 0), (3, 1), (3, 2), (3, 3), (3, 4), (3, 5), (3, 6), (3, 7), (3, 8), (3, 9), (3, 10), (3, 11)] : List (Nat × Nat)) rfl (by decide +kernel)) (goodIn_app (good_rb bq_wsX9_couldRule ([(3, 12), (3, 13), (3, 14), (3, 15), (3, 16), (3, 17), (3, 18), (3, 19), (3, 20), (3, 21), (3, 22), (3, 23), (4, 0), (4, 1), (4, 2), (4, 3), (4, 4), (4, 5), (4, 6), (4, 7), (4, 8), (0, 6), (4, 9), (4, 10)] : List (Nat × Nat)) rfl (by decide +kernel)) (good_rb bq_wsX9_couldRule ([(4, 11), (4, 12), (4, 13), (4, 14)] : List (Nat × Nat)) rfl (by decide +kernel)))))) (goodIn_sb (fun _ h => (List.mem_cons_of_mem _ (List.mem_append_right _ h))) (by decide +kernel))))
set_option maxRecDepth 20000 in
theorem gX9_couldRule_X9_doNotesFit : GoodIn wsX9_couldRule (wsV RX9 459 RX9 yX9_doNotesFit wsX9_doNotesFit) := goodIn_app (good_rp ([13, 14, 15, 5] : List Nat) rfl (by decide +kernel)) ggX9_couldRule_X9_doNotesFit
set_option maxRecDepth 20000 in
theorem bq_wsX9_count : subq wsX9_count [wsX9_count_r1, wsX9_count_r2] := ⟨(fun _ h => (List.mem_cons_of_mem _ (List.mem_append_left _ (List.mem_append_left _ h)))), (fun _ h => (List.mem_cons_of_mem _ (List.mem_append_left _ (List.mem_append_right _ h)))), trivial⟩
set_option maxRecDepth 20000 in
theorem ggX9_count_X9_allGive : GoodIn wsX9_count wsX9_allGive := (goodIn_cons (good_rb bq_wsX9_count ([(0, 13)] : List (Nat × Nat)) rfl (by decide +kernel)) (goodIn_app (goodIn_app (good_rb bq_wsX9_count ([(0, 0), (0, 14), (0, 15), (0, 16), (0, 7), (0, 17), (0, 4), (0, 5), (0, 6), (0, 8), (0, 9), (0, 18), (0, 19), (0, 20), (0, 21), (0, 22), (0, 23), (1, 0), (1, 1), (1, 2), (1, 3), (1, 4), (1, 5), (1, 6)] : List (Nat × Nat)) rfl (by decide +kernel)) (good_rb bq_wsX9_count ([(1, 7), (1, 8), (1, 9), (1, 10), (1, 11), (1, 12)] : List (Nat × Nat)) rfl (by decide +kernel))) (goodIn_sb (fun _ h => (List.mem_cons_of_mem _ (List.mem_append_right _ h))) (by decide +kernel))))
set_option maxRecDepth 20000 in
theorem gX9_count_X9_allGive : GoodIn wsX9_count (wsV RX9 454 RX9 yX9_allGive wsX9_allGive) := goodIn_app (good_rp ([11, 12, 13, 8] : List Nat) rfl (by decide +kernel)) ggX9_count_X9_allGive
set_option maxRecDepth 20000 in
theorem ggX9_count_X9_those : GoodIn wsX9_count wsX9_those := (goodIn_cons (good_rb bq_wsX9_count ([(0, 8)] : List (Nat × Nat)) rfl (by decide +kernel)) (goodIn_app (good_rb bq_wsX9_count ([(0, 0), (0, 9)] : List (Nat × Nat)) rfl (by decide +kernel)) (goodIn_sb (fun _ h => (List.mem_cons_of_mem _ (List.mem_append_right _ h))) (by decide +kernel))))
set_option maxRecDepth 20000 in
theorem gX9_count_X9_those : GoodIn wsX9_count (wsV RX9 341 RX9 yX9_those wsX9_those) := goodIn_app (good_rp ([5, 6, 7, 8] : List Nat) rfl (by decide +kernel)) ggX9_count_X9_those
set_option maxRecDepth 20000 in
theorem bq_wsX9_doNotesFit : subq wsX9_doNotesFit [wsX9_doNotesFit_r1, wsX9_doNotesFit_r2, wsX9_doNotesFit_r3, wsX9_doNotesFit_r4, wsX9_doNotesFit_r5] := ⟨(fun _ h => (List.mem_cons_of_mem _ (List.mem_append_left _ (List.mem_append_left _ h)))), (fun _ h => (List.mem_cons_of_mem _ (List.mem_append_left _ (List.mem_append_right _ (List.mem_append_left _ h))))), (fun _ h => (List.mem_cons_of_mem _ (List.mem_append_left _ (List.mem_append_right _ (List.mem_append_right _ (List.mem_append_left _ h)))))), (fun _ h => (List.mem_cons_of_mem _ (List.mem_append_left _ (List.mem_append_right _ (List.mem_append_right _ (List.mem_append_right _ (List.mem_append_left _ h))))))), (fun _ h => (List.mem_cons_of_mem _ (List.mem_append_left _ (List.mem_append_right _ (List.mem_append_right _ (List.mem_append_right _ (List.mem_append_right _ h))))))), trivial⟩
set_option maxRecDepth 20000 in
theorem ggX9_doNotesFit_X9_laysAll : GoodIn wsX9_doNotesFit wsX9_laysAll := (goodIn_cons (good_rb bq_wsX9_doNotesFit ([(0, 9)] : List (Nat × Nat)) rfl (by decide +kernel)) (goodIn_app (goodIn_app (good_rb bq_wsX9_doNotesFit ([(0, 1), (0, 10), (0, 11), (0, 12), (0, 13), (0, 8), (0, 14), (0, 0), (0, 15), (0, 16), (0, 17), (0, 18), (0, 19), (0, 20), (0, 21), (0, 22), (0, 23), (1, 0), (1, 1), (1, 2), (1, 3), (1, 4), (1, 5), (1, 6)] : List (Nat × Nat)) rfl (by decide +kernel)) (goodIn_app (good_rb bq_wsX9_doNotesFit ([(1, 7), (1, 8), (1, 9), (1, 10), (1, 11), (1, 12), (1, 13), (1, 14), (1, 15), (1, 16), (1, 17), (1, 18), (1, 19), (1, 20), (1, 21), (1, 22), (1, 23), (2, 0), (2, 1), (2, 2), (2, 3), (2, 4), (2, 5), (2, 6)] : List (Nat × Nat)) rfl (by decide +kernel)) (goodIn_app (good_rb bq_wsX9_doNotesFit ([(2, 7), (2, 8), (2, 9), (2, 10), (2, 11), (2, 12), (2, 13), (2, 14), (2, 15), (2, 16), (2, 17), (2, 18), (2, 19), (2, 20), (2, 21), (2, 22), (2, 23), (3, 0), (3, 1), (3, 2), (3, 3), (3, 4), (3, 5), (3, 6)] : List (Nat × Nat)) rfl (by decide +kernel)) (good_rb bq_wsX9_doNotesFit ([(3, 7), (3, 8)] : List (Nat × Nat)) rfl (by decide +kernel))))) (goodIn_sb (fun _ h => (List.mem_cons_of_mem _ (List.mem_append_right _ h))) (by decide +kernel))))
set_option maxRecDepth 20000 in
theorem gX9_doNotesFit_X9_laysAll : GoodIn wsX9_doNotesFit (wsV RX9 446 RX9 yX9_laysAll wsX9_laysAll) := goodIn_app (good_rp ([6, 7, 8, 9] : List Nat) rfl (by decide +kernel)) ggX9_doNotesFit_X9_laysAll
set_option maxRecDepth 20000 in
theorem ggX9_doNotesFit_X9_laysBack : GoodIn wsX9_doNotesFit wsX9_laysBack := (goodIn_cons (good_rb bq_wsX9_doNotesFit ([(3, 12)] : List (Nat × Nat)) rfl (by decide +kernel)) (goodIn_app (goodIn_app (good_rb bq_wsX9_doNotesFit ([(3, 13), (3, 14), (3, 15), (0, 8), (3, 16), (3, 17), (3, 18), (0, 0), (1, 1), (0, 10), (0, 20), (0, 23), (3, 19), (3, 20), (1, 0), (0, 21), (0, 2), (0, 3), (0, 4), (3, 21), (3, 22), (3, 23), (4, 0), (4, 1)] : List (Nat × Nat)) rfl (by decide +kernel)) (good_rb bq_wsX9_doNotesFit ([(4, 2), (4, 3)] : List (Nat × Nat)) rfl (by decide +kernel))) (goodIn_sb (fun _ h => (List.mem_cons_of_mem _ (List.mem_append_right _ h))) (by decide +kernel))))
set_option maxRecDepth 20000 in
theorem gX9_doNotesFit_X9_laysBack : GoodIn wsX9_doNotesFit (wsV RX9 426 RX9 yX9_laysBack wsX9_laysBack) := goodIn_app (good_rp ([82, 83, 84, 9] : List Nat) rfl (by decide +kernel)) ggX9_doNotesFit_X9_laysBack
set_option maxRecDepth 20000 in
theorem bq_wsX9_earns : subq wsX9_earns [wsX9_earns_r1, wsX9_earns_r2] := ⟨(fun _ h => (List.mem_cons_of_mem _ (List.mem_append_left _ (List.mem_append_left _ h)))), (fun _ h => (List.mem_cons_of_mem _ (List.mem_append_left _ (List.mem_append_right _ h)))), trivial⟩
set_option maxRecDepth 20000 in
theorem ggX9_earns_X9_givesNow : GoodIn wsX9_earns wsX9_givesNow := (goodIn_cons (good_rb bq_wsX9_earns ([(0, 5)] : List (Nat × Nat)) rfl (by decide +kernel)) (goodIn_app (goodIn_app (good_rb bq_wsX9_earns ([(0, 6), (0, 7), (0, 8), (0, 4), (0, 9), (0, 10), (0, 0), (0, 11), (0, 12), (0, 13), (0, 14), (0, 15), (0, 16), (0, 17), (0, 18), (0, 19), (0, 20), (0, 21), (0, 22), (0, 23), (1, 0), (1, 1), (1, 2), (1, 3)] : List (Nat × Nat)) rfl (by decide +kernel)) (good_rb bq_wsX9_earns ([(1, 4), (1, 5)] : List (Nat × Nat)) rfl (by decide +kernel))) (goodIn_sb (fun _ h => (List.mem_cons_of_mem _ (List.mem_append_right _ h))) (by decide +kernel))))
set_option maxRecDepth 20000 in
theorem gX9_earns_X9_givesNow : GoodIn wsX9_earns (wsV RX9 359 RX9 yX9_givesNow wsX9_givesNow) := goodIn_app (good_rp ([2, 3, 4, 5] : List Nat) rfl (by decide +kernel)) ggX9_earns_X9_givesNow
set_option maxRecDepth 20000 in
theorem bq_wsX9_image : subq wsX9_image [wsX9_image_r1, wsX9_image_r2] := ⟨(fun _ h => (List.mem_cons_of_mem _ (List.mem_append_left _ (List.mem_append_left _ h)))), (fun _ h => (List.mem_cons_of_mem _ (List.mem_append_left _ (List.mem_append_right _ h)))), trivial⟩
set_option maxRecDepth 20000 in
theorem ggX9_image_X9_carriesAll : GoodIn wsX9_image wsX9_carriesAll := (goodIn_cons (good_rb bq_wsX9_image ([(0, 10)] : List (Nat × Nat)) rfl (by decide +kernel)) (goodIn_app (good_rb bq_wsX9_image ([(0, 11), (0, 12), (0, 2), (0, 13), (0, 14), (0, 15), (0, 16), (0, 17), (0, 18), (0, 19), (0, 20), (0, 21), (0, 22), (0, 23), (1, 0), (1, 1), (1, 2), (1, 3), (1, 4), (0, 5), (1, 5), (1, 6)] : List (Nat × Nat)) rfl (by decide +kernel)) (goodIn_sb (fun _ h => (List.mem_cons_of_mem _ (List.mem_append_right _ h))) (by decide +kernel))))
set_option maxRecDepth 20000 in
theorem gX9_image_X9_carriesAll : GoodIn wsX9_image (wsV RX9 415 RX9 yX9_carriesAll wsX9_carriesAll) := goodIn_app (good_rp ([8, 9, 10, 6] : List Nat) rfl (by decide +kernel)) ggX9_image_X9_carriesAll
set_option maxRecDepth 20000 in
theorem ggX9_image_X9_in : GoodIn wsX9_image wsX9_in := (goodIn_cons (good_rb bq_wsX9_image ([(0, 6)] : List (Nat × Nat)) rfl (by decide +kernel)) (good_rb bq_wsX9_image ([] : List (Nat × Nat)) rfl (by decide +kernel)))
set_option maxRecDepth 20000 in
theorem gX9_image_X9_in : GoodIn wsX9_image (va_wsS RX9 131 yX9_in wsX9_in) := goodIn_app (good_rp ([4, 5, 6] : List Nat) rfl (by decide +kernel)) ggX9_image_X9_in
set_option maxRecDepth 20000 in
theorem bq_wsX9_laysAll : subq wsX9_laysAll [wsX9_laysAll_r1, wsX9_laysAll_r2, wsX9_laysAll_r3, wsX9_laysAll_r4] := ⟨(fun _ h => (List.mem_cons_of_mem _ (List.mem_append_left _ (List.mem_append_left _ h)))), (fun _ h => (List.mem_cons_of_mem _ (List.mem_append_left _ (List.mem_append_right _ (List.mem_append_left _ h))))), (fun _ h => (List.mem_cons_of_mem _ (List.mem_append_left _ (List.mem_append_right _ (List.mem_append_right _ (List.mem_append_left _ h)))))), (fun _ h => (List.mem_cons_of_mem _ (List.mem_append_left _ (List.mem_append_right _ (List.mem_append_right _ (List.mem_append_right _ h)))))), trivial⟩
set_option maxRecDepth 20000 in
theorem ggX9_laysAll_X9_goes : GoodIn wsX9_laysAll wsX9_goes := (goodIn_cons (good_rb bq_wsX9_laysAll ([(0, 6)] : List (Nat × Nat)) rfl (by decide +kernel)) (goodIn_app (goodIn_app (good_rb bq_wsX9_laysAll ([(0, 7), (0, 1), (0, 8), (0, 9), (0, 10), (0, 5), (0, 11), (0, 12), (0, 13), (0, 14), (0, 15), (0, 16), (0, 17), (0, 18), (0, 19), (0, 20), (0, 21), (0, 22), (0, 23), (1, 0), (1, 1), (1, 2), (1, 3), (1, 4)] : List (Nat × Nat)) rfl (by decide +kernel)) (goodIn_app (good_rb bq_wsX9_laysAll ([(1, 5), (1, 6), (1, 7), (1, 8), (1, 9), (1, 10), (1, 11), (1, 12), (1, 13), (1, 14), (1, 15), (1, 16), (1, 17), (1, 18), (1, 19), (1, 20), (1, 21), (1, 22), (1, 23), (2, 0), (2, 1), (2, 2), (2, 3), (2, 4)] : List (Nat × Nat)) rfl (by decide +kernel)) (good_rb bq_wsX9_laysAll ([(2, 5), (2, 6), (2, 7), (2, 8), (2, 9), (2, 10), (2, 11), (2, 12), (2, 13), (2, 14), (2, 15), (2, 16), (2, 17), (2, 18), (2, 19), (2, 20), (2, 21), (2, 22), (2, 23), (3, 0), (3, 1)] : List (Nat × Nat)) rfl (by decide +kernel)))) (goodIn_sb (fun _ h => (List.mem_cons_of_mem _ (List.mem_append_right _ h))) (by decide +kernel))))
set_option maxRecDepth 20000 in
theorem gX9_laysAll_X9_goes : GoodIn wsX9_laysAll (wsV RX9 383 RX9 yX9_goes wsX9_goes) := goodIn_app (good_rp ([3, 4, 5, 6] : List Nat) rfl (by decide +kernel)) ggX9_laysAll_X9_goes
set_option maxRecDepth 20000 in
theorem bq_wsX9_laysWays : subq wsX9_laysWays [wsX9_laysWays_r1, wsX9_laysWays_r2, wsX9_laysWays_r3, wsX9_laysWays_r4, wsX9_laysWays_r5] := ⟨(fun _ h => (List.mem_cons_of_mem _ (List.mem_append_left _ (List.mem_append_left _ h)))), (fun _ h => (List.mem_cons_of_mem _ (List.mem_append_left _ (List.mem_append_right _ (List.mem_append_left _ h))))), (fun _ h => (List.mem_cons_of_mem _ (List.mem_append_left _ (List.mem_append_right _ (List.mem_append_right _ (List.mem_append_left _ h)))))), (fun _ h => (List.mem_cons_of_mem _ (List.mem_append_left _ (List.mem_append_right _ (List.mem_append_right _ (List.mem_append_right _ (List.mem_append_left _ h))))))), (fun _ h => (List.mem_cons_of_mem _ (List.mem_append_left _ (List.mem_append_right _ (List.mem_append_right _ (List.mem_append_right _ (List.mem_append_right _ h))))))), trivial⟩
set_option maxRecDepth 20000 in
theorem ggX9_laysWays_X9_earns : GoodIn wsX9_laysWays wsX9_earns := (goodIn_cons (good_rb bq_wsX9_laysWays ([(4, 4)] : List (Nat × Nat)) rfl (by decide +kernel)) (goodIn_app (goodIn_app (good_rb bq_wsX9_laysWays ([(0, 3), (2, 5), (2, 6), (2, 7), (0, 7), (2, 8), (1, 18), (1, 19), (1, 20), (1, 21), (0, 15), (2, 9), (2, 10), (2, 11), (2, 12), (0, 17), (0, 22), (0, 16), (0, 18), (2, 2), (2, 3), (2, 4), (1, 22), (1, 23)] : List (Nat × Nat)) rfl (by decide +kernel)) (good_rb bq_wsX9_laysWays ([(2, 0), (2, 1), (2, 13), (2, 14), (2, 15), (2, 16)] : List (Nat × Nat)) rfl (by decide +kernel))) (goodIn_sb (fun _ h => (List.mem_cons_of_mem _ (List.mem_append_right _ h))) (by decide +kernel))))
set_option maxRecDepth 20000 in
theorem gX9_laysWays_X9_earns : GoodIn wsX9_laysWays (wsV RX9 437 RX9 yX9_earns wsX9_earns) := goodIn_app (good_rp ([98, 99, 100, 8] : List Nat) rfl (by decide +kernel)) ggX9_laysWays_X9_earns
set_option maxRecDepth 20000 in
theorem ggX9_laysWays_X9_goes : GoodIn wsX9_laysWays wsX9_goes := (goodIn_cons (good_rb bq_wsX9_laysWays ([(1, 12)] : List (Nat × Nat)) rfl (by decide +kernel)) (goodIn_app (goodIn_app (good_rb bq_wsX9_laysWays ([(0, 15), (0, 3), (1, 13), (1, 14), (1, 15), (0, 7), (1, 16), (0, 0), (0, 17), (0, 22), (1, 17), (0, 18), (0, 21), (0, 16), (1, 18), (1, 19), (1, 20), (1, 21), (1, 22), (1, 23), (2, 0), (2, 1), (2, 2), (2, 3)] : List (Nat × Nat)) rfl (by decide +kernel)) (goodIn_app (good_rb bq_wsX9_laysWays ([(2, 4), (2, 5), (2, 6), (2, 7), (2, 8), (2, 9), (2, 10), (2, 11), (2, 12), (2, 13), (2, 14), (2, 15), (2, 16), (2, 17), (2, 18), (2, 19), (2, 20), (2, 21), (2, 22), (2, 23), (3, 0), (3, 1), (3, 2), (3, 3)] : List (Nat × Nat)) rfl (by decide +kernel)) (good_rb bq_wsX9_laysWays ([(3, 4), (3, 5), (3, 6), (3, 7), (3, 8), (3, 9), (3, 10), (3, 11), (3, 12), (3, 13), (3, 14), (3, 15), (3, 16), (3, 17), (3, 18), (3, 19), (3, 20), (3, 21), (3, 22), (3, 23), (4, 0)] : List (Nat × Nat)) rfl (by decide +kernel)))) (goodIn_sb (fun _ h => (List.mem_cons_of_mem _ (List.mem_append_right _ h))) (by decide +kernel))))
set_option maxRecDepth 20000 in
theorem gX9_laysWays_X9_goes : GoodIn wsX9_laysWays (wsV RX9 383 RX9 yX9_goes wsX9_goes) := goodIn_app (good_rp ([34, 35, 36, 8] : List Nat) rfl (by decide +kernel)) ggX9_laysWays_X9_goes
set_option maxRecDepth 20000 in
theorem ggX9_laysWays_X9_keepsAll : GoodIn wsX9_laysWays wsX9_keepsAll := (goodIn_cons (good_rb bq_wsX9_laysWays ([(0, 8)] : List (Nat × Nat)) rfl (by decide +kernel)) (goodIn_app (goodIn_app (good_rb bq_wsX9_laysWays ([(0, 9), (0, 10), (0, 11), (0, 7), (0, 12), (0, 13), (0, 14), (0, 15), (0, 16), (0, 3), (0, 17), (0, 18), (0, 19), (0, 20), (0, 21), (0, 22), (0, 23), (1, 0), (1, 1), (1, 2), (1, 3), (1, 4), (1, 5), (1, 6)] : List (Nat × Nat)) rfl (by decide +kernel)) (good_rb bq_wsX9_laysWays ([(1, 7), (1, 8)] : List (Nat × Nat)) rfl (by decide +kernel))) (goodIn_sb (fun _ h => (List.mem_cons_of_mem _ (List.mem_append_right _ h))) (by decide +kernel))))
set_option maxRecDepth 20000 in
theorem gX9_laysWays_X9_keepsAll : GoodIn wsX9_laysWays (wsV RX9 420 RX9 yX9_keepsAll wsX9_keepsAll) := goodIn_app (good_rp ([5, 6, 7, 8] : List Nat) rfl (by decide +kernel)) ggX9_laysWays_X9_keepsAll
set_option maxRecDepth 20000 in
theorem ggX9_laysWays_X9_laysBack : GoodIn wsX9_laysWays wsX9_laysBack := (goodIn_cons (good_rb bq_wsX9_laysWays ([(4, 8)] : List (Nat × Nat)) rfl (by decide +kernel)) (goodIn_app (goodIn_app (good_rb bq_wsX9_laysWays ([(0, 9), (0, 10), (0, 11), (0, 7), (0, 12), (0, 13), (0, 14), (0, 15), (0, 16), (0, 3), (0, 17), (0, 18), (0, 19), (0, 20), (0, 21), (0, 22), (0, 23), (1, 0), (1, 1), (1, 2), (1, 3), (1, 4), (1, 5), (1, 6)] : List (Nat × Nat)) rfl (by decide +kernel)) (good_rb bq_wsX9_laysWays ([(1, 7), (1, 8)] : List (Nat × Nat)) rfl (by decide +kernel))) (goodIn_sb (fun _ h => (List.mem_cons_of_mem _ (List.mem_append_right _ h))) (by decide +kernel))))
set_option maxRecDepth 20000 in
theorem gX9_laysWays_X9_laysBack : GoodIn wsX9_laysWays (wsV RX9 426 RX9 yX9_laysBack wsX9_laysBack) := goodIn_app (good_rp ([102, 103, 104, 8] : List Nat) rfl (by decide +kernel)) ggX9_laysWays_X9_laysBack
set_option maxRecDepth 20000 in
theorem bq_wsX9_look : subq wsX9_look [wsX9_look_r1, wsX9_look_r2, wsX9_look_r3, wsX9_look_r4, wsX9_look_r5, wsX9_look_r6] := ⟨(fun _ h => (List.mem_cons_of_mem _ (List.mem_append_left _ (List.mem_append_left _ h)))), (fun _ h => (List.mem_cons_of_mem _ (List.mem_append_left _ (List.mem_append_right _ (List.mem_append_left _ h))))), (fun _ h => (List.mem_cons_of_mem _ (List.mem_append_left _ (List.mem_append_right _ (List.mem_append_right _ (List.mem_append_left _ h)))))), (fun _ h => (List.mem_cons_of_mem _ (List.mem_append_left _ (List.mem_append_right _ (List.mem_append_right _ (List.mem_append_right _ (List.mem_append_left _ h))))))), (fun _ h => (List.mem_cons_of_mem _ (List.mem_append_left _ (List.mem_append_right _ (List.mem_append_right _ (List.mem_append_right _ (List.mem_append_right _ (List.mem_append_left _ h)))))))), (fun _ h => (List.mem_cons_of_mem _ (List.mem_append_left _ (List.mem_append_right _ (List.mem_append_right _ (List.mem_append_right _ (List.mem_append_right _ (List.mem_append_right _ h)))))))), trivial⟩
set_option maxRecDepth 20000 in
theorem ggX9_look_X9_couldRule : GoodIn wsX9_look wsX9_couldRule := (goodIn_cons (good_rb bq_wsX9_look ([(1, 20)] : List (Nat × Nat)) rfl (by decide +kernel)) (goodIn_app (goodIn_app (good_rb bq_wsX9_look ([(0, 4), (1, 21), (1, 22), (1, 23), (0, 8), (2, 0), (1, 10), (0, 23), (1, 0), (2, 1), (2, 2), (2, 3), (2, 4), (2, 5), (2, 6), (2, 7), (0, 3), (1, 7), (1, 8), (1, 9), (2, 8), (2, 9), (2, 10), (2, 11)] : List (Nat × Nat)) rfl (by decide +kernel)) (goodIn_app (good_rb bq_wsX9_look ([(2, 12), (2, 13), (2, 14), (2, 15), (2, 16), (2, 17), (2, 18), (2, 19), (2, 20), (1, 1), (1, 6), (2, 21), (1, 2), (1, 5), (2, 22), (2, 23), (3, 0), (3, 1), (3, 2), (3, 3), (3, 4), (3, 5), (3, 6), (3, 7)] : List (Nat × Nat)) rfl (by decide +kernel)) (goodIn_app (good_rb bq_wsX9_look ([(3, 8), (3, 9), (3, 10), (3, 11), (3, 12), (3, 13), (3, 14), (3, 15), (3, 16), (3, 17), (3, 18), (3, 19), (3, 20), (3, 21), (3, 22), (3, 23), (4, 0), (4, 1), (4, 2), (4, 3), (4, 4), (4, 5), (4, 6), (4, 7)] : List (Nat × Nat)) rfl (by decide +kernel)) (goodIn_app (good_rb bq_wsX9_look ([(4, 8), (4, 9), (4, 10), (4, 11), (4, 12), (4, 13), (4, 14), (4, 15), (4, 16), (4, 17), (4, 18), (4, 19), (4, 20), (4, 21), (4, 22), (4, 23), (5, 0), (5, 1), (5, 2), (5, 3), (5, 4), (5, 5), (5, 6), (5, 7)] : List (Nat × Nat)) rfl (by decide +kernel)) (good_rb bq_wsX9_look ([(5, 8), (0, 17), (0, 18), (0, 19), (0, 20), (0, 21), (0, 22), (1, 3), (1, 4), (1, 11), (1, 12), (1, 13), (1, 14), (1, 15), (1, 16)] : List (Nat × Nat)) rfl (by decide +kernel)))))) (goodIn_sb (fun _ h => (List.mem_cons_of_mem _ (List.mem_append_right _ h))) (by decide +kernel))))
set_option maxRecDepth 20000 in
theorem gX9_look_X9_couldRule : GoodIn wsX9_look (wsV RX9 462 RX9 yX9_couldRule wsX9_couldRule) := goodIn_app (good_rp ([42, 43, 44, 9] : List Nat) rfl (by decide +kernel)) ggX9_look_X9_couldRule
set_option maxRecDepth 20000 in
theorem ggX9_look_X9_in : GoodIn wsX9_look wsX9_in := (goodIn_cons (good_rb bq_wsX9_look ([(0, 12)] : List (Nat × Nat)) rfl (by decide +kernel)) (good_rb bq_wsX9_look ([] : List (Nat × Nat)) rfl (by decide +kernel)))
set_option maxRecDepth 20000 in
theorem gX9_look_X9_in : GoodIn wsX9_look (va_wsS RX9 131 yX9_in wsX9_in) := goodIn_app (good_rp ([11, 12, 9] : List Nat) rfl (by decide +kernel)) ggX9_look_X9_in
set_option maxRecDepth 20000 in
theorem ggX9_look_X9_isHall : GoodIn wsX9_look wsX9_isHall := (goodIn_cons (good_rb bq_wsX9_look ([(0, 9)] : List (Nat × Nat)) rfl (by decide +kernel)) (goodIn_app (good_rb bq_wsX9_look ([(0, 4)] : List (Nat × Nat)) rfl (by decide +kernel)) (goodIn_sb (fun _ h => (List.mem_cons_of_mem _ (List.mem_append_right _ h))) (by decide +kernel))))
set_option maxRecDepth 20000 in
theorem gX9_look_X9_isHall : GoodIn wsX9_look (wsV RX9 404 RX9 yX9_isHall wsX9_isHall) := goodIn_app (good_rp ([6, 7, 8, 9] : List Nat) rfl (by decide +kernel)) ggX9_look_X9_isHall
set_option maxRecDepth 20000 in
theorem ggX9_look_X9_keepsAll : GoodIn wsX9_look wsX9_keepsAll := (goodIn_cons (good_rb bq_wsX9_look ([(0, 16)] : List (Nat × Nat)) rfl (by decide +kernel)) (goodIn_app (goodIn_app (good_rb bq_wsX9_look ([(0, 17), (0, 18), (0, 19), (0, 8), (0, 20), (0, 21), (0, 22), (0, 4), (0, 23), (1, 0), (1, 1), (1, 2), (1, 3), (1, 4), (1, 5), (1, 6), (1, 7), (1, 8), (1, 9), (1, 10), (1, 11), (1, 12), (1, 13), (1, 14)] : List (Nat × Nat)) rfl (by decide +kernel)) (good_rb bq_wsX9_look ([(1, 15), (1, 16)] : List (Nat × Nat)) rfl (by decide +kernel))) (goodIn_sb (fun _ h => (List.mem_cons_of_mem _ (List.mem_append_right _ h))) (by decide +kernel))))
set_option maxRecDepth 20000 in
theorem gX9_look_X9_keepsAll : GoodIn wsX9_look (wsV RX9 420 RX9 yX9_keepsAll wsX9_keepsAll) := goodIn_app (good_rp ([14, 15, 16, 9] : List Nat) rfl (by decide +kernel)) ggX9_look_X9_keepsAll
set_option maxRecDepth 20000 in
theorem ggX9_look_X9_mostAlike : GoodIn wsX9_look wsX9_mostAlike := (goodIn_cons (good_rb bq_wsX9_look ([(5, 12)] : List (Nat × Nat)) rfl (by decide +kernel)) (goodIn_app (good_rb bq_wsX9_look ([(0, 2)] : List (Nat × Nat)) rfl (by decide +kernel)) (goodIn_sb (fun _ h => (List.mem_cons_of_mem _ (List.mem_append_right _ h))) (by decide +kernel))))
set_option maxRecDepth 20000 in
theorem gX9_look_X9_mostAlike : GoodIn wsX9_look (wsV RX9 465 RX9 yX9_mostAlike wsX9_mostAlike) := goodIn_app (good_rp ([130, 131, 132, 9] : List Nat) rfl (by decide +kernel)) ggX9_look_X9_mostAlike
set_option maxRecDepth 20000 in
theorem bq_wsX9_note : subq wsX9_note [[.fieldLink RX9 9 "ChairCaneModel" "scalar" "[I", .constantLong RX9 457 (60), .constantLong RX9 365 (2), .fieldLink RX9 31 "ChairCaneModel" "noteMinute" "[I", .fieldLink RX9 34 "ChairCaneModel" "noteWho" "[I", .fieldLink RX9 37 "ChairCaneModel" "noteIs" "[I", .methodLink RX9 131 yX9_in, .static yX9_in, .initialized RX9, .code yX9_in cX9_in 6 (some .boolean), .methodLink RX9 362 yX9_isSitter, .instanceMethod yX9_isSitter, .selects RX9 yX9_isSitter yX9_isSitter, .code yX9_isSitter cX9_isSitter 2 (some .boolean)]] := ⟨(fun _ h => (List.mem_cons_of_mem _ (List.mem_append_left _ h))), trivial⟩
set_option maxRecDepth 20000 in
theorem ggX9_note_X9_in : GoodIn wsX9_note wsX9_in := (goodIn_cons (good_rb bq_wsX9_note ([(0, 9)] : List (Nat × Nat)) rfl (by decide +kernel)) (good_rb bq_wsX9_note ([] : List (Nat × Nat)) rfl (by decide +kernel)))
set_option maxRecDepth 20000 in
theorem gX9_note_X9_in : GoodIn wsX9_note (va_wsS RX9 131 yX9_in wsX9_in) := goodIn_app (good_rp ([7, 8, 9] : List Nat) rfl (by decide +kernel)) ggX9_note_X9_in
set_option maxRecDepth 20000 in
theorem ggX9_note_X9_isSitter : GoodIn wsX9_note wsX9_isSitter := (goodIn_cons (good_rb bq_wsX9_note ([(0, 13)] : List (Nat × Nat)) rfl (by decide +kernel)) (goodIn_app (good_rb bq_wsX9_note ([(0, 0), (0, 6), (0, 7), (0, 8), (0, 9)] : List (Nat × Nat)) rfl (by decide +kernel)) (goodIn_sb (fun _ h => (List.mem_cons_of_mem _ (List.mem_append_right _ h))) (by decide +kernel))))
set_option maxRecDepth 20000 in
theorem gX9_note_X9_isSitter : GoodIn wsX9_note (wsV RX9 362 RX9 yX9_isSitter wsX9_isSitter) := goodIn_app (good_rp ([11, 12, 13, 9] : List Nat) rfl (by decide +kernel)) ggX9_note_X9_isSitter
set_option maxRecDepth 20000 in
theorem bq_wsX9_pence : subq wsX9_pence [wsX9_pence_r1, wsX9_pence_r2] := ⟨(fun _ h => (List.mem_cons_of_mem _ (List.mem_append_left _ (List.mem_append_left _ h)))), (fun _ h => (List.mem_cons_of_mem _ (List.mem_append_left _ (List.mem_append_right _ h)))), trivial⟩
set_option maxRecDepth 20000 in
theorem ggX9_pence_X9_allGive : GoodIn wsX9_pence wsX9_allGive := (goodIn_cons (good_rb bq_wsX9_pence ([(0, 13)] : List (Nat × Nat)) rfl (by decide +kernel)) (goodIn_app (goodIn_app (good_rb bq_wsX9_pence ([(0, 1), (0, 14), (0, 15), (0, 16), (0, 5), (0, 17), (0, 18), (0, 19), (0, 20), (0, 21), (0, 22), (0, 23), (1, 0), (1, 1), (1, 2), (1, 3), (1, 4), (1, 5), (1, 6), (1, 7), (1, 8), (1, 9), (1, 10), (1, 11)] : List (Nat × Nat)) rfl (by decide +kernel)) (good_rb bq_wsX9_pence ([(1, 12), (1, 13), (1, 14), (1, 15), (1, 16), (1, 17)] : List (Nat × Nat)) rfl (by decide +kernel))) (goodIn_sb (fun _ h => (List.mem_cons_of_mem _ (List.mem_append_right _ h))) (by decide +kernel))))
set_option maxRecDepth 20000 in
theorem gX9_pence_X9_allGive : GoodIn wsX9_pence (wsV RX9 454 RX9 yX9_allGive wsX9_allGive) := goodIn_app (good_rp ([11, 12, 13, 6] : List Nat) rfl (by decide +kernel)) ggX9_pence_X9_allGive
set_option maxRecDepth 20000 in
theorem ggX9_pence_X9_givesNow : GoodIn wsX9_pence wsX9_givesNow := (goodIn_cons (good_rb bq_wsX9_pence ([(0, 17)] : List (Nat × Nat)) rfl (by decide +kernel)) (goodIn_app (goodIn_app (good_rb bq_wsX9_pence ([(0, 18), (0, 19), (0, 20), (0, 5), (0, 21), (0, 1), (0, 22), (0, 23), (1, 0), (1, 1), (1, 2), (1, 3), (1, 4), (1, 5), (1, 6), (1, 7), (1, 8), (1, 9), (1, 10), (1, 11), (1, 12), (1, 13), (1, 14), (1, 15)] : List (Nat × Nat)) rfl (by decide +kernel)) (good_rb bq_wsX9_pence ([(1, 16), (1, 17)] : List (Nat × Nat)) rfl (by decide +kernel))) (goodIn_sb (fun _ h => (List.mem_cons_of_mem _ (List.mem_append_right _ h))) (by decide +kernel))))
set_option maxRecDepth 20000 in
theorem gX9_pence_X9_givesNow : GoodIn wsX9_pence (wsV RX9 359 RX9 yX9_givesNow wsX9_givesNow) := goodIn_app (good_rp ([15, 16, 17, 6] : List Nat) rfl (by decide +kernel)) ggX9_pence_X9_givesNow
set_option maxRecDepth 20000 in
theorem ggX9_pence_X9_in : GoodIn wsX9_pence wsX9_in := (goodIn_cons (good_rb bq_wsX9_pence ([(0, 9)] : List (Nat × Nat)) rfl (by decide +kernel)) (good_rb bq_wsX9_pence ([] : List (Nat × Nat)) rfl (by decide +kernel)))
set_option maxRecDepth 20000 in
theorem gX9_pence_X9_in : GoodIn wsX9_pence (va_wsS RX9 131 yX9_in wsX9_in) := goodIn_app (good_rp ([8, 9, 6] : List Nat) rfl (by decide +kernel)) ggX9_pence_X9_in
set_option maxRecDepth 20000 in
theorem ggX9_pence_X9_isSitter : GoodIn wsX9_pence wsX9_isSitter := (goodIn_cons (good_rb bq_wsX9_pence ([(0, 6)] : List (Nat × Nat)) rfl (by decide +kernel)) (goodIn_app (good_rb bq_wsX9_pence ([(0, 1), (0, 7), (0, 8), (0, 5), (0, 9)] : List (Nat × Nat)) rfl (by decide +kernel)) (goodIn_sb (fun _ h => (List.mem_cons_of_mem _ (List.mem_append_right _ h))) (by decide +kernel))))
set_option maxRecDepth 20000 in
theorem gX9_pence_X9_isSitter : GoodIn wsX9_pence (wsV RX9 362 RX9 yX9_isSitter wsX9_isSitter) := goodIn_app (good_rp ([3, 4, 5, 6] : List Nat) rfl (by decide +kernel)) ggX9_pence_X9_isSitter
set_option maxRecDepth 20000 in
theorem bq_wsX9_rests : subq wsX9_rests [wsX9_rests_r1, wsX9_rests_r2, wsX9_rests_r3, wsX9_rests_r4, wsX9_rests_r5] := ⟨(fun _ h => (List.mem_cons_of_mem _ (List.mem_append_left _ (List.mem_append_left _ h)))), (fun _ h => (List.mem_cons_of_mem _ (List.mem_append_left _ (List.mem_append_right _ (List.mem_append_left _ h))))), (fun _ h => (List.mem_cons_of_mem _ (List.mem_append_left _ (List.mem_append_right _ (List.mem_append_right _ (List.mem_append_left _ h)))))), (fun _ h => (List.mem_cons_of_mem _ (List.mem_append_left _ (List.mem_append_right _ (List.mem_append_right _ (List.mem_append_right _ (List.mem_append_left _ h))))))), (fun _ h => (List.mem_cons_of_mem _ (List.mem_append_left _ (List.mem_append_right _ (List.mem_append_right _ (List.mem_append_right _ (List.mem_append_right _ h))))))), trivial⟩
set_option maxRecDepth 20000 in
theorem ggX9_rests_X9_in : GoodIn wsX9_rests wsX9_in := (goodIn_cons (good_rb bq_wsX9_rests ([(0, 13)] : List (Nat × Nat)) rfl (by decide +kernel)) (good_rb bq_wsX9_rests ([] : List (Nat × Nat)) rfl (by decide +kernel)))
set_option maxRecDepth 20000 in
theorem gX9_rests_X9_in : GoodIn wsX9_rests (va_wsS RX9 131 yX9_in wsX9_in) := goodIn_app (good_rp ([12, 13, 9] : List Nat) rfl (by decide +kernel)) ggX9_rests_X9_in
set_option maxRecDepth 20000 in
theorem ggX9_rests_X9_isSitter : GoodIn wsX9_rests wsX9_isSitter := (goodIn_cons (good_rb bq_wsX9_rests ([(0, 9)] : List (Nat × Nat)) rfl (by decide +kernel)) (goodIn_app (good_rb bq_wsX9_rests ([(0, 10), (0, 11), (0, 12), (0, 8), (0, 13)] : List (Nat × Nat)) rfl (by decide +kernel)) (goodIn_sb (fun _ h => (List.mem_cons_of_mem _ (List.mem_append_right _ h))) (by decide +kernel))))
set_option maxRecDepth 20000 in
theorem gX9_rests_X9_isSitter : GoodIn wsX9_rests (wsV RX9 362 RX9 yX9_isSitter wsX9_isSitter) := goodIn_app (good_rp ([6, 7, 8, 9] : List Nat) rfl (by decide +kernel)) ggX9_rests_X9_isSitter
set_option maxRecDepth 20000 in
theorem ggX9_rests_X9_laysWays : GoodIn wsX9_rests wsX9_laysWays := (goodIn_cons (good_rb bq_wsX9_rests ([(0, 17)] : List (Nat × Nat)) rfl (by decide +kernel)) (goodIn_app (goodIn_app (good_rb bq_wsX9_rests ([(0, 18), (0, 3), (0, 4), (0, 0), (0, 19), (0, 20), (0, 21), (0, 8), (0, 22), (0, 23), (1, 0), (1, 1), (1, 2), (1, 3), (1, 4), (0, 10), (1, 5), (1, 6), (1, 7), (1, 8), (1, 9), (1, 10), (1, 11), (1, 12)] : List (Nat × Nat)) rfl (by decide +kernel)) (goodIn_app (good_rb bq_wsX9_rests ([(1, 13), (1, 14), (1, 15), (1, 16), (1, 17), (1, 18), (1, 19), (1, 20), (1, 21), (1, 22), (1, 23), (2, 0), (2, 1), (2, 2), (2, 3), (2, 4), (2, 5), (2, 6), (2, 7), (2, 8), (2, 9), (2, 10), (2, 11), (2, 12)] : List (Nat × Nat)) rfl (by decide +kernel)) (goodIn_app (good_rb bq_wsX9_rests ([(2, 13), (2, 14), (2, 15), (2, 16), (2, 17), (2, 18), (2, 19), (2, 20), (2, 21), (2, 22), (2, 23), (3, 0), (3, 1), (3, 2), (3, 3), (3, 4), (3, 5), (3, 6), (3, 7), (3, 8), (3, 9), (3, 10), (3, 11), (3, 12)] : List (Nat × Nat)) rfl (by decide +kernel)) (goodIn_app (good_rb bq_wsX9_rests ([(3, 13), (3, 14), (3, 15), (3, 16), (3, 17), (3, 18), (3, 19), (3, 20), (3, 21), (3, 22), (3, 23), (4, 0), (4, 1), (4, 2), (4, 3), (4, 4), (4, 5), (4, 6), (4, 7), (4, 8), (4, 9), (4, 10), (4, 11), (4, 12)] : List (Nat × Nat)) rfl (by decide +kernel)) (good_rb bq_wsX9_rests ([(4, 13), (4, 14), (4, 15), (4, 16), (4, 17), (4, 18), (4, 19), (4, 20), (4, 21)] : List (Nat × Nat)) rfl (by decide +kernel)))))) (goodIn_sb (fun _ h => (List.mem_cons_of_mem _ (List.mem_append_right _ h))) (by decide +kernel))))
set_option maxRecDepth 20000 in
theorem gX9_rests_X9_laysWays : GoodIn wsX9_rests (wsV RX9 442 RX9 yX9_laysWays wsX9_laysWays) := goodIn_app (good_rp ([15, 16, 17, 9] : List Nat) rfl (by decide +kernel)) ggX9_rests_X9_laysWays
set_option maxRecDepth 20000 in
theorem bq_wsX9_ring : subq wsX9_ring [wsX9_ring_r1, wsX9_ring_r2, wsX9_ring_r3, wsX9_ring_r4, wsX9_ring_r5] := ⟨(fun _ h => (List.mem_cons_of_mem _ (List.mem_append_left _ (List.mem_append_left _ h)))), (fun _ h => (List.mem_cons_of_mem _ (List.mem_append_left _ (List.mem_append_right _ (List.mem_append_left _ h))))), (fun _ h => (List.mem_cons_of_mem _ (List.mem_append_left _ (List.mem_append_right _ (List.mem_append_right _ (List.mem_append_left _ h)))))), (fun _ h => (List.mem_cons_of_mem _ (List.mem_append_left _ (List.mem_append_right _ (List.mem_append_right _ (List.mem_append_right _ (List.mem_append_left _ h))))))), (fun _ h => (List.mem_cons_of_mem _ (List.mem_append_left _ (List.mem_append_right _ (List.mem_append_right _ (List.mem_append_right _ (List.mem_append_right _ h))))))), trivial⟩
set_option maxRecDepth 20000 in
theorem ggX9_ring_X9_in : GoodIn wsX9_ring wsX9_in := (goodIn_cons (good_rb bq_wsX9_ring ([(0, 8)] : List (Nat × Nat)) rfl (by decide +kernel)) (good_rb bq_wsX9_ring ([] : List (Nat × Nat)) rfl (by decide +kernel)))
set_option maxRecDepth 20000 in
theorem gX9_ring_X9_in : GoodIn wsX9_ring (va_wsS RX9 131 yX9_in wsX9_in) := goodIn_app (good_rp ([7, 8, 5] : List Nat) rfl (by decide +kernel)) ggX9_ring_X9_in
set_option maxRecDepth 20000 in
theorem ggX9_ring_X9_isAlike : GoodIn wsX9_ring wsX9_isAlike := (goodIn_cons (good_rb bq_wsX9_ring ([(4, 18)] : List (Nat × Nat)) rfl (by decide +kernel)) (goodIn_app (good_rb bq_wsX9_ring ([(0, 0), (1, 17)] : List (Nat × Nat)) rfl (by decide +kernel)) (goodIn_sb (fun _ h => (List.mem_cons_of_mem _ (List.mem_append_right _ h))) (by decide +kernel))))
set_option maxRecDepth 20000 in
theorem gX9_ring_X9_isAlike : GoodIn wsX9_ring (wsV RX9 449 RX9 yX9_isAlike wsX9_isAlike) := goodIn_app (good_rp ([112, 113, 114, 5] : List Nat) rfl (by decide +kernel)) ggX9_ring_X9_isAlike
set_option maxRecDepth 20000 in
theorem ggX9_ring_X9_isHall : GoodIn wsX9_ring wsX9_isHall := (goodIn_cons (good_rb bq_wsX9_ring ([(0, 5)] : List (Nat × Nat)) rfl (by decide +kernel)) (goodIn_app (good_rb bq_wsX9_ring ([(0, 0)] : List (Nat × Nat)) rfl (by decide +kernel)) (goodIn_sb (fun _ h => (List.mem_cons_of_mem _ (List.mem_append_right _ h))) (by decide +kernel))))
set_option maxRecDepth 20000 in
theorem gX9_ring_X9_isHall : GoodIn wsX9_ring (wsV RX9 404 RX9 yX9_isHall wsX9_isHall) := goodIn_app (good_rp ([2, 3, 4, 5] : List Nat) rfl (by decide +kernel)) ggX9_ring_X9_isHall
set_option maxRecDepth 20000 in
theorem ggX9_ring_X9_keepsAll : GoodIn wsX9_ring wsX9_keepsAll := (goodIn_cons (good_rb bq_wsX9_ring ([(0, 12)] : List (Nat × Nat)) rfl (by decide +kernel)) (goodIn_app (goodIn_app (good_rb bq_wsX9_ring ([(0, 13), (0, 14), (0, 15), (0, 4), (0, 16), (0, 17), (0, 18), (0, 0), (0, 19), (0, 20), (0, 21), (0, 22), (0, 23), (1, 0), (1, 1), (1, 2), (1, 3), (1, 4), (1, 5), (1, 6), (1, 7), (1, 8), (1, 9), (1, 10)] : List (Nat × Nat)) rfl (by decide +kernel)) (good_rb bq_wsX9_ring ([(1, 11), (1, 12)] : List (Nat × Nat)) rfl (by decide +kernel))) (goodIn_sb (fun _ h => (List.mem_cons_of_mem _ (List.mem_append_right _ h))) (by decide +kernel))))
set_option maxRecDepth 20000 in
theorem gX9_ring_X9_keepsAll : GoodIn wsX9_ring (wsV RX9 420 RX9 yX9_keepsAll wsX9_keepsAll) := goodIn_app (good_rp ([10, 11, 12, 5] : List Nat) rfl (by decide +kernel)) ggX9_ring_X9_keepsAll
set_option maxRecDepth 20000 in
theorem ggX9_ring_X9_laysAll : GoodIn wsX9_ring wsX9_laysAll := (goodIn_cons (good_rb bq_wsX9_ring ([(1, 16)] : List (Nat × Nat)) rfl (by decide +kernel)) (goodIn_app (goodIn_app (good_rb bq_wsX9_ring ([(1, 17), (0, 20), (1, 18), (1, 19), (1, 20), (0, 4), (1, 21), (0, 0), (1, 22), (1, 23), (2, 0), (2, 1), (2, 2), (0, 21), (1, 2), (2, 3), (0, 22), (1, 1), (0, 19), (2, 4), (2, 5), (2, 6), (2, 7), (2, 8)] : List (Nat × Nat)) rfl (by decide +kernel)) (goodIn_app (good_rb bq_wsX9_ring ([(2, 9), (2, 10), (2, 11), (2, 12), (2, 13), (2, 14), (2, 15), (2, 16), (2, 17), (2, 18), (2, 19), (2, 20), (2, 21), (2, 22), (2, 23), (3, 0), (3, 1), (3, 2), (3, 3), (3, 4), (3, 5), (3, 6), (3, 7), (3, 8)] : List (Nat × Nat)) rfl (by decide +kernel)) (goodIn_app (good_rb bq_wsX9_ring ([(3, 9), (3, 10), (3, 11), (3, 12), (3, 13), (3, 14), (3, 15), (3, 16), (3, 17), (3, 18), (3, 19), (3, 20), (3, 21), (3, 22), (3, 23), (4, 0), (4, 1), (4, 2), (4, 3), (4, 4), (4, 5), (4, 6), (4, 7), (4, 8)] : List (Nat × Nat)) rfl (by decide +kernel)) (good_rb bq_wsX9_ring ([(4, 9), (4, 10)] : List (Nat × Nat)) rfl (by decide +kernel))))) (goodIn_sb (fun _ h => (List.mem_cons_of_mem _ (List.mem_append_right _ h))) (by decide +kernel))))
set_option maxRecDepth 20000 in
theorem gX9_ring_X9_laysAll : GoodIn wsX9_ring (wsV RX9 446 RX9 yX9_laysAll wsX9_laysAll) := goodIn_app (good_rp ([38, 39, 40, 5] : List Nat) rfl (by decide +kernel)) ggX9_ring_X9_laysAll
set_option maxRecDepth 20000 in
theorem ggX9_ring_X9_laysBack : GoodIn wsX9_ring wsX9_laysBack := (goodIn_cons (good_rb bq_wsX9_ring ([(4, 14)] : List (Nat × Nat)) rfl (by decide +kernel)) (goodIn_app (goodIn_app (good_rb bq_wsX9_ring ([(0, 13), (0, 14), (0, 15), (0, 4), (0, 16), (0, 17), (0, 18), (0, 0), (0, 19), (0, 20), (0, 21), (0, 22), (0, 23), (1, 0), (1, 1), (1, 2), (1, 3), (1, 4), (1, 5), (1, 6), (1, 7), (1, 8), (1, 9), (1, 10)] : List (Nat × Nat)) rfl (by decide +kernel)) (good_rb bq_wsX9_ring ([(1, 11), (1, 12)] : List (Nat × Nat)) rfl (by decide +kernel))) (goodIn_sb (fun _ h => (List.mem_cons_of_mem _ (List.mem_append_right _ h))) (by decide +kernel))))
set_option maxRecDepth 20000 in
theorem gX9_ring_X9_laysBack : GoodIn wsX9_ring (wsV RX9 426 RX9 yX9_laysBack wsX9_laysBack) := goodIn_app (good_rp ([108, 109, 110, 5] : List Nat) rfl (by decide +kernel)) ggX9_ring_X9_laysBack
set_option maxRecDepth 20000 in
theorem bq_wsX9_ruled : subq wsX9_ruled [wsX9_ruled_r1, wsX9_ruled_r2, wsX9_ruled_r3, wsX9_ruled_r4, wsX9_ruled_r5, wsX9_ruled_r6] := ⟨(fun _ h => (List.mem_cons_of_mem _ (List.mem_append_left _ (List.mem_append_left _ h)))), (fun _ h => (List.mem_cons_of_mem _ (List.mem_append_left _ (List.mem_append_right _ (List.mem_append_left _ h))))), (fun _ h => (List.mem_cons_of_mem _ (List.mem_append_left _ (List.mem_append_right _ (List.mem_append_right _ (List.mem_append_left _ h)))))), (fun _ h => (List.mem_cons_of_mem _ (List.mem_append_left _ (List.mem_append_right _ (List.mem_append_right _ (List.mem_append_right _ (List.mem_append_left _ h))))))), (fun _ h => (List.mem_cons_of_mem _ (List.mem_append_left _ (List.mem_append_right _ (List.mem_append_right _ (List.mem_append_right _ (List.mem_append_right _ (List.mem_append_left _ h)))))))), (fun _ h => (List.mem_cons_of_mem _ (List.mem_append_left _ (List.mem_append_right _ (List.mem_append_right _ (List.mem_append_right _ (List.mem_append_right _ (List.mem_append_right _ h)))))))), trivial⟩
set_option maxRecDepth 20000 in
theorem ggX9_ruled_X9_couldRule : GoodIn wsX9_ruled wsX9_couldRule := (goodIn_cons (good_rb bq_wsX9_ruled ([(1, 17)] : List (Nat × Nat)) rfl (by decide +kernel)) (goodIn_app (goodIn_app (good_rb bq_wsX9_ruled ([(0, 6), (1, 18), (1, 19), (1, 20), (0, 4), (1, 21), (1, 7), (0, 20), (0, 21), (1, 22), (1, 23), (2, 0), (2, 1), (2, 2), (2, 3), (2, 4), (2, 5), (1, 4), (1, 5), (1, 6), (2, 6), (2, 7), (2, 8), (2, 9)] : List (Nat × Nat)) rfl (by decide +kernel)) (goodIn_app (good_rb bq_wsX9_ruled ([(2, 10), (2, 11), (2, 12), (2, 13), (2, 14), (2, 15), (2, 16), (2, 17), (2, 18), (0, 22), (1, 3), (2, 19), (0, 23), (1, 2), (2, 20), (2, 21), (2, 22), (2, 23), (3, 0), (3, 1), (3, 2), (3, 3), (3, 4), (3, 5)] : List (Nat × Nat)) rfl (by decide +kernel)) (goodIn_app (good_rb bq_wsX9_ruled ([(3, 6), (3, 7), (3, 8), (3, 9), (3, 10), (3, 11), (3, 12), (3, 13), (3, 14), (3, 15), (3, 16), (3, 17), (3, 18), (3, 19), (3, 20), (3, 21), (3, 22), (3, 23), (4, 0), (4, 1), (4, 2), (4, 3), (4, 4), (4, 5)] : List (Nat × Nat)) rfl (by decide +kernel)) (goodIn_app (good_rb bq_wsX9_ruled ([(4, 6), (4, 7), (4, 8), (4, 9), (4, 10), (4, 11), (4, 12), (4, 13), (4, 14), (4, 15), (4, 16), (4, 17), (4, 18), (4, 19), (4, 20), (4, 21), (4, 22), (4, 23), (5, 0), (5, 1), (5, 2), (5, 3), (5, 4), (5, 5)] : List (Nat × Nat)) rfl (by decide +kernel)) (good_rb bq_wsX9_ruled ([(5, 6), (0, 14), (0, 15), (0, 16), (0, 17), (0, 18), (0, 19), (1, 0), (1, 1), (1, 8), (1, 9), (1, 10), (1, 11), (1, 12), (1, 13)] : List (Nat × Nat)) rfl (by decide +kernel)))))) (goodIn_sb (fun _ h => (List.mem_cons_of_mem _ (List.mem_append_right _ h))) (by decide +kernel))))
set_option maxRecDepth 20000 in
theorem gX9_ruled_X9_couldRule : GoodIn wsX9_ruled (wsV RX9 462 RX9 yX9_couldRule wsX9_couldRule) := goodIn_app (good_rp ([39, 40, 41, 5] : List Nat) rfl (by decide +kernel)) ggX9_ruled_X9_couldRule
set_option maxRecDepth 20000 in
theorem ggX9_ruled_X9_in : GoodIn wsX9_ruled wsX9_in := (goodIn_cons (good_rb bq_wsX9_ruled ([(0, 9)] : List (Nat × Nat)) rfl (by decide +kernel)) (good_rb bq_wsX9_ruled ([] : List (Nat × Nat)) rfl (by decide +kernel)))
set_option maxRecDepth 20000 in
theorem gX9_ruled_X9_in : GoodIn wsX9_ruled (va_wsS RX9 131 yX9_in wsX9_in) := goodIn_app (good_rp ([8, 9, 5] : List Nat) rfl (by decide +kernel)) ggX9_ruled_X9_in
set_option maxRecDepth 20000 in
theorem ggX9_ruled_X9_isHall : GoodIn wsX9_ruled wsX9_isHall := (goodIn_cons (good_rb bq_wsX9_ruled ([(0, 5)] : List (Nat × Nat)) rfl (by decide +kernel)) (goodIn_app (good_rb bq_wsX9_ruled ([(0, 6)] : List (Nat × Nat)) rfl (by decide +kernel)) (goodIn_sb (fun _ h => (List.mem_cons_of_mem _ (List.mem_append_right _ h))) (by decide +kernel))))
set_option maxRecDepth 20000 in
theorem gX9_ruled_X9_isHall : GoodIn wsX9_ruled (wsV RX9 404 RX9 yX9_isHall wsX9_isHall) := goodIn_app (good_rp ([2, 3, 4, 5] : List Nat) rfl (by decide +kernel)) ggX9_ruled_X9_isHall
set_option maxRecDepth 20000 in
theorem ggX9_ruled_X9_keepsAll : GoodIn wsX9_ruled wsX9_keepsAll := (goodIn_cons (good_rb bq_wsX9_ruled ([(0, 13)] : List (Nat × Nat)) rfl (by decide +kernel)) (goodIn_app (goodIn_app (good_rb bq_wsX9_ruled ([(0, 14), (0, 15), (0, 16), (0, 4), (0, 17), (0, 18), (0, 19), (0, 6), (0, 20), (0, 21), (0, 22), (0, 23), (1, 0), (1, 1), (1, 2), (1, 3), (1, 4), (1, 5), (1, 6), (1, 7), (1, 8), (1, 9), (1, 10), (1, 11)] : List (Nat × Nat)) rfl (by decide +kernel)) (good_rb bq_wsX9_ruled ([(1, 12), (1, 13)] : List (Nat × Nat)) rfl (by decide +kernel))) (goodIn_sb (fun _ h => (List.mem_cons_of_mem _ (List.mem_append_right _ h))) (by decide +kernel))))
set_option maxRecDepth 20000 in
theorem gX9_ruled_X9_keepsAll : GoodIn wsX9_ruled (wsV RX9 420 RX9 yX9_keepsAll wsX9_keepsAll) := goodIn_app (good_rp ([11, 12, 13, 5] : List Nat) rfl (by decide +kernel)) ggX9_ruled_X9_keepsAll
set_option maxRecDepth 20000 in
theorem bq_wsX9_strung : subq wsX9_strung [wsX9_strung_r1, wsX9_strung_r2, wsX9_strung_r3, wsX9_strung_r4, wsX9_strung_r5, wsX9_strung_r6] := ⟨(fun _ h => (List.mem_cons_of_mem _ (List.mem_append_left _ (List.mem_append_left _ h)))), (fun _ h => (List.mem_cons_of_mem _ (List.mem_append_left _ (List.mem_append_right _ (List.mem_append_left _ h))))), (fun _ h => (List.mem_cons_of_mem _ (List.mem_append_left _ (List.mem_append_right _ (List.mem_append_right _ (List.mem_append_left _ h)))))), (fun _ h => (List.mem_cons_of_mem _ (List.mem_append_left _ (List.mem_append_right _ (List.mem_append_right _ (List.mem_append_right _ (List.mem_append_left _ h))))))), (fun _ h => (List.mem_cons_of_mem _ (List.mem_append_left _ (List.mem_append_right _ (List.mem_append_right _ (List.mem_append_right _ (List.mem_append_right _ (List.mem_append_left _ h)))))))), (fun _ h => (List.mem_cons_of_mem _ (List.mem_append_left _ (List.mem_append_right _ (List.mem_append_right _ (List.mem_append_right _ (List.mem_append_right _ (List.mem_append_right _ h)))))))), trivial⟩
set_option maxRecDepth 20000 in
theorem ggX9_strung_X9_begins : GoodIn wsX9_strung wsX9_begins := (goodIn_cons (good_rb bq_wsX9_strung ([(1, 16)] : List (Nat × Nat)) rfl (by decide +kernel)) (goodIn_app (good_rb bq_wsX9_strung ([(1, 6), (0, 20), (0, 0), (0, 21), (1, 17), (1, 18), (0, 5), (1, 19)] : List (Nat × Nat)) rfl (by decide +kernel)) (goodIn_sb (fun _ h => (List.mem_cons_of_mem _ (List.mem_append_right _ h))) (by decide +kernel))))
set_option maxRecDepth 20000 in
theorem gX9_strung_X9_begins : GoodIn wsX9_strung (wsV RX9 296 RX9 yX9_begins wsX9_begins) := goodIn_app (good_rp ([38, 39, 40, 6] : List Nat) rfl (by decide +kernel)) ggX9_strung_X9_begins
set_option maxRecDepth 20000 in
theorem ggX9_strung_X9_doNotesFit : GoodIn wsX9_strung wsX9_doNotesFit := (goodIn_cons (good_rb bq_wsX9_strung ([(1, 23)] : List (Nat × Nat)) rfl (by decide +kernel)) (goodIn_app (goodIn_app (good_rb bq_wsX9_strung ([(0, 0), (2, 0), (1, 3), (1, 4), (1, 5), (2, 1), (2, 2), (2, 3), (0, 5), (2, 4), (0, 21), (2, 5), (2, 6), (2, 7), (2, 8), (2, 9), (2, 10), (2, 11), (2, 12), (2, 13), (0, 1), (1, 2), (2, 14), (0, 22)] : List (Nat × Nat)) rfl (by decide +kernel)) (goodIn_app (good_rb bq_wsX9_strung ([(1, 1), (0, 20), (2, 15), (2, 16), (2, 17), (2, 18), (2, 19), (2, 20), (2, 21), (2, 22), (2, 23), (3, 0), (3, 1), (3, 2), (3, 3), (3, 4), (3, 5), (3, 6), (3, 7), (3, 8), (3, 9), (3, 10), (3, 11), (3, 12)] : List (Nat × Nat)) rfl (by decide +kernel)) (goodIn_app (good_rb bq_wsX9_strung ([(3, 13), (3, 14), (3, 15), (3, 16), (3, 17), (3, 18), (3, 19), (3, 20), (3, 21), (3, 22), (3, 23), (4, 0), (4, 1), (4, 2), (4, 3), (4, 4), (4, 5), (4, 6), (4, 7), (4, 8), (4, 9), (4, 10), (4, 11), (4, 12)] : List (Nat × Nat)) rfl (by decide +kernel)) (goodIn_app (good_rb bq_wsX9_strung ([(4, 13), (4, 14), (4, 15), (4, 16), (4, 17), (4, 18), (4, 19), (4, 20), (4, 21), (4, 22), (4, 23), (5, 0), (5, 1), (0, 14), (0, 15), (0, 16), (0, 17), (0, 18), (0, 19), (0, 23), (1, 0), (1, 6), (1, 7), (1, 8)] : List (Nat × Nat)) rfl (by decide +kernel)) (good_rb bq_wsX9_strung ([(1, 9), (1, 10), (1, 11), (1, 12)] : List (Nat × Nat)) rfl (by decide +kernel)))))) (goodIn_sb (fun _ h => (List.mem_cons_of_mem _ (List.mem_append_right _ h))) (by decide +kernel))))
set_option maxRecDepth 20000 in
theorem gX9_strung_X9_doNotesFit : GoodIn wsX9_strung (wsV RX9 459 RX9 yX9_doNotesFit wsX9_doNotesFit) := goodIn_app (good_rp ([45, 46, 47, 6] : List Nat) rfl (by decide +kernel)) ggX9_strung_X9_doNotesFit
set_option maxRecDepth 20000 in
theorem ggX9_strung_X9_isChair : GoodIn wsX9_strung wsX9_isChair := (goodIn_cons (good_rb bq_wsX9_strung ([(0, 6)] : List (Nat × Nat)) rfl (by decide +kernel)) (goodIn_app (good_rb bq_wsX9_strung ([(0, 0), (0, 7), (0, 8), (0, 5), (0, 9)] : List (Nat × Nat)) rfl (by decide +kernel)) (goodIn_sb (fun _ h => (List.mem_cons_of_mem _ (List.mem_append_right _ h))) (by decide +kernel))))
set_option maxRecDepth 20000 in
theorem gX9_strung_X9_isChair : GoodIn wsX9_strung (wsV RX9 351 RX9 yX9_isChair wsX9_isChair) := goodIn_app (good_rp ([3, 4, 5, 6] : List Nat) rfl (by decide +kernel)) ggX9_strung_X9_isChair
set_option maxRecDepth 20000 in
theorem ggX9_strung_X9_keepsAll : GoodIn wsX9_strung wsX9_keepsAll := (goodIn_cons (good_rb bq_wsX9_strung ([(0, 13)] : List (Nat × Nat)) rfl (by decide +kernel)) (goodIn_app (goodIn_app (good_rb bq_wsX9_strung ([(0, 14), (0, 15), (0, 16), (0, 5), (0, 17), (0, 18), (0, 19), (0, 0), (0, 20), (0, 21), (0, 1), (0, 22), (0, 23), (1, 0), (1, 1), (1, 2), (1, 3), (1, 4), (1, 5), (1, 6), (1, 7), (1, 8), (1, 9), (1, 10)] : List (Nat × Nat)) rfl (by decide +kernel)) (good_rb bq_wsX9_strung ([(1, 11), (1, 12)] : List (Nat × Nat)) rfl (by decide +kernel))) (goodIn_sb (fun _ h => (List.mem_cons_of_mem _ (List.mem_append_right _ h))) (by decide +kernel))))
set_option maxRecDepth 20000 in
theorem gX9_strung_X9_keepsAll : GoodIn wsX9_strung (wsV RX9 420 RX9 yX9_keepsAll wsX9_keepsAll) := goodIn_app (good_rp ([11, 12, 13, 6] : List Nat) rfl (by decide +kernel)) ggX9_strung_X9_keepsAll
set_option maxRecDepth 20000 in
theorem bq_wsX9_toastOf : subq wsX9_toastOf [wsX9_toastOf_r1, wsX9_toastOf_r2] := ⟨(fun _ h => (List.mem_cons_of_mem _ (List.mem_append_left _ (List.mem_append_left _ h)))), (fun _ h => (List.mem_cons_of_mem _ (List.mem_append_left _ (List.mem_append_right _ h)))), trivial⟩
set_option maxRecDepth 20000 in
theorem ggX9_toastOf_X9_settles : GoodIn wsX9_toastOf wsX9_settles := (goodIn_cons (good_rb bq_wsX9_toastOf ([(0, 5)] : List (Nat × Nat)) rfl (by decide +kernel)) (goodIn_app (goodIn_app (good_rb bq_wsX9_toastOf ([(0, 6), (0, 0), (0, 7), (0, 8), (0, 9), (0, 4), (0, 10), (0, 11), (0, 12), (0, 13), (0, 14), (0, 15), (0, 16), (0, 17), (0, 18), (0, 19), (0, 20), (0, 21), (0, 22), (0, 23), (1, 0), (1, 1), (1, 2), (1, 3)] : List (Nat × Nat)) rfl (by decide +kernel)) (good_rb bq_wsX9_toastOf ([(1, 4), (1, 5), (1, 6), (1, 7), (1, 8), (1, 9), (1, 10)] : List (Nat × Nat)) rfl (by decide +kernel))) (goodIn_sb (fun _ h => (List.mem_cons_of_mem _ (List.mem_append_right _ h))) (by decide +kernel))))
set_option maxRecDepth 20000 in
theorem gX9_toastOf_X9_settles : GoodIn wsX9_toastOf (wsV RX9 380 RX9 yX9_settles wsX9_settles) := goodIn_app (good_rp ([2, 3, 4, 5] : List Nat) rfl (by decide +kernel)) ggX9_toastOf_X9_settles
set_option maxRecDepth 20000 in
theorem bq_wsX9_toasts : subq wsX9_toasts [wsX9_toasts_r1, wsX9_toasts_r2, wsX9_toasts_r3, wsX9_toasts_r4, wsX9_toasts_r5, wsX9_toasts_r6] := ⟨(fun _ h => (List.mem_cons_of_mem _ (List.mem_append_left _ (List.mem_append_left _ h)))), (fun _ h => (List.mem_cons_of_mem _ (List.mem_append_left _ (List.mem_append_right _ (List.mem_append_left _ h))))), (fun _ h => (List.mem_cons_of_mem _ (List.mem_append_left _ (List.mem_append_right _ (List.mem_append_right _ (List.mem_append_left _ h)))))), (fun _ h => (List.mem_cons_of_mem _ (List.mem_append_left _ (List.mem_append_right _ (List.mem_append_right _ (List.mem_append_right _ (List.mem_append_left _ h))))))), (fun _ h => (List.mem_cons_of_mem _ (List.mem_append_left _ (List.mem_append_right _ (List.mem_append_right _ (List.mem_append_right _ (List.mem_append_right _ (List.mem_append_left _ h)))))))), (fun _ h => (List.mem_cons_of_mem _ (List.mem_append_left _ (List.mem_append_right _ (List.mem_append_right _ (List.mem_append_right _ (List.mem_append_right _ (List.mem_append_right _ h)))))))), trivial⟩
set_option maxRecDepth 20000 in
theorem ggX9_toasts_X9_bits : GoodIn wsX9_toasts wsX9_bits := (goodIn_cons (good_rb bq_wsX9_toasts ([(3, 23)] : List (Nat × Nat)) rfl (by decide +kernel)) (good_rb bq_wsX9_toasts ([] : List (Nat × Nat)) rfl (by decide +kernel)))
set_option maxRecDepth 20000 in
theorem gX9_toasts_X9_bits : GoodIn wsX9_toasts (va_wsS RX9 370 yX9_bits wsX9_bits) := goodIn_app (good_rp ([94, 95, 8] : List Nat) rfl (by decide +kernel)) ggX9_toasts_X9_bits
set_option maxRecDepth 20000 in
theorem ggX9_toasts_X9_draws : GoodIn wsX9_toasts wsX9_draws := (goodIn_cons (good_rb bq_wsX9_toasts ([(1, 19)] : List (Nat × Nat)) rfl (by decide +kernel)) (goodIn_app (good_rb bq_wsX9_toasts ([(0, 3), (1, 20), (1, 21), (1, 22), (1, 23)] : List (Nat × Nat)) rfl (by decide +kernel)) (goodIn_sb (fun _ h => (List.mem_cons_of_mem _ (List.mem_append_right _ h))) (by decide +kernel))))
set_option maxRecDepth 20000 in
theorem gX9_toasts_X9_draws : GoodIn wsX9_toasts (wsV RX9 477 RX9 yX9_draws wsX9_draws) := goodIn_app (good_rp ([41, 42, 43, 8] : List Nat) rfl (by decide +kernel)) ggX9_toasts_X9_draws
set_option maxRecDepth 20000 in
theorem ggX9_toasts_X9_goes : GoodIn wsX9_toasts wsX9_goes := (goodIn_cons (good_rb bq_wsX9_toasts ([(3, 10)] : List (Nat × Nat)) rfl (by decide +kernel)) (goodIn_app (goodIn_app (good_rb bq_wsX9_toasts ([(0, 3), (0, 23), (3, 11), (3, 12), (3, 13), (0, 7), (3, 14), (3, 15), (1, 0), (1, 5), (3, 16), (1, 1), (1, 4), (0, 22), (2, 8), (2, 9), (2, 10), (2, 11), (2, 23), (3, 0), (3, 1), (3, 2), (2, 16), (2, 17)] : List (Nat × Nat)) rfl (by decide +kernel)) (goodIn_app (good_rb bq_wsX9_toasts ([(2, 18), (3, 17), (3, 18), (3, 19), (3, 20), (2, 19), (2, 20), (2, 21), (2, 22), (3, 3), (3, 4), (3, 5), (3, 6), (3, 21), (3, 22), (3, 23), (4, 0), (4, 1), (4, 2), (4, 3), (4, 4), (4, 5), (4, 6), (4, 7)] : List (Nat × Nat)) rfl (by decide +kernel)) (good_rb bq_wsX9_toasts ([(4, 8), (4, 9), (4, 10), (4, 11), (4, 12), (4, 13), (4, 14), (4, 15), (4, 16), (4, 17), (4, 18), (4, 19), (4, 20), (2, 4), (2, 5), (2, 6), (2, 7), (2, 12), (2, 13), (2, 14), (2, 15)] : List (Nat × Nat)) rfl (by decide +kernel)))) (goodIn_sb (fun _ h => (List.mem_cons_of_mem _ (List.mem_append_right _ h))) (by decide +kernel))))
set_option maxRecDepth 20000 in
theorem gX9_toasts_X9_goes : GoodIn wsX9_toasts (wsV RX9 383 RX9 yX9_goes wsX9_goes) := goodIn_app (good_rp ([80, 81, 82, 8] : List Nat) rfl (by decide +kernel)) ggX9_toasts_X9_goes
set_option maxRecDepth 20000 in
theorem ggX9_toasts_X9_in : GoodIn wsX9_toasts wsX9_in := (goodIn_cons (good_rb bq_wsX9_toasts ([(0, 11)] : List (Nat × Nat)) rfl (by decide +kernel)) (good_rb bq_wsX9_toasts ([] : List (Nat × Nat)) rfl (by decide +kernel)))
set_option maxRecDepth 20000 in
theorem gX9_toasts_X9_in : GoodIn wsX9_toasts (va_wsS RX9 131 yX9_in wsX9_in) := goodIn_app (good_rp ([10, 11, 8] : List Nat) rfl (by decide +kernel)) ggX9_toasts_X9_in
set_option maxRecDepth 20000 in
theorem ggX9_toasts_X9_isHall : GoodIn wsX9_toasts wsX9_isHall := (goodIn_cons (good_rb bq_wsX9_toasts ([(0, 8)] : List (Nat × Nat)) rfl (by decide +kernel)) (goodIn_app (good_rb bq_wsX9_toasts ([(0, 3)] : List (Nat × Nat)) rfl (by decide +kernel)) (goodIn_sb (fun _ h => (List.mem_cons_of_mem _ (List.mem_append_right _ h))) (by decide +kernel))))
set_option maxRecDepth 20000 in
theorem gX9_toasts_X9_isHall : GoodIn wsX9_toasts (wsV RX9 404 RX9 yX9_isHall wsX9_isHall) := goodIn_app (good_rp ([5, 6, 7, 8] : List Nat) rfl (by decide +kernel)) ggX9_toasts_X9_isHall
set_option maxRecDepth 20000 in
theorem ggX9_toasts_X9_keepsAll : GoodIn wsX9_toasts wsX9_keepsAll := (goodIn_cons (good_rb bq_wsX9_toasts ([(0, 15)] : List (Nat × Nat)) rfl (by decide +kernel)) (goodIn_app (goodIn_app (good_rb bq_wsX9_toasts ([(0, 16), (0, 17), (0, 18), (0, 7), (0, 19), (0, 20), (0, 21), (0, 3), (0, 22), (0, 23), (1, 0), (1, 1), (1, 2), (1, 3), (1, 4), (1, 5), (1, 6), (1, 7), (1, 8), (1, 9), (1, 10), (1, 11), (1, 12), (1, 13)] : List (Nat × Nat)) rfl (by decide +kernel)) (good_rb bq_wsX9_toasts ([(1, 14), (1, 15)] : List (Nat × Nat)) rfl (by decide +kernel))) (goodIn_sb (fun _ h => (List.mem_cons_of_mem _ (List.mem_append_right _ h))) (by decide +kernel))))
set_option maxRecDepth 20000 in
theorem gX9_toasts_X9_keepsAll : GoodIn wsX9_toasts (wsV RX9 420 RX9 yX9_keepsAll wsX9_keepsAll) := goodIn_app (good_rp ([13, 14, 15, 8] : List Nat) rfl (by decide +kernel)) ggX9_toasts_X9_keepsAll
set_option maxRecDepth 20000 in
theorem ggX9_toasts_X9_laysBack : GoodIn wsX9_toasts wsX9_laysBack := (goodIn_cons (good_rb bq_wsX9_toasts ([(5, 0)] : List (Nat × Nat)) rfl (by decide +kernel)) (goodIn_app (goodIn_app (good_rb bq_wsX9_toasts ([(0, 16), (0, 17), (0, 18), (0, 7), (0, 19), (0, 20), (0, 21), (0, 3), (0, 22), (0, 23), (1, 0), (1, 1), (1, 2), (1, 3), (1, 4), (1, 5), (1, 6), (1, 7), (1, 8), (1, 9), (1, 10), (1, 11), (1, 12), (1, 13)] : List (Nat × Nat)) rfl (by decide +kernel)) (good_rb bq_wsX9_toasts ([(1, 14), (1, 15)] : List (Nat × Nat)) rfl (by decide +kernel))) (goodIn_sb (fun _ h => (List.mem_cons_of_mem _ (List.mem_append_right _ h))) (by decide +kernel))))
set_option maxRecDepth 20000 in
theorem gX9_toasts_X9_laysBack : GoodIn wsX9_toasts (wsV RX9 426 RX9 yX9_laysBack wsX9_laysBack) := goodIn_app (good_rp ([118, 119, 120, 8] : List Nat) rfl (by decide +kernel)) ggX9_toasts_X9_laysBack
set_option maxRecDepth 20000 in
theorem ggX9_toasts_X9_those : GoodIn wsX9_toasts wsX9_those := (goodIn_cons (good_rb bq_wsX9_toasts ([(2, 11)] : List (Nat × Nat)) rfl (by decide +kernel)) (goodIn_app (good_rb bq_wsX9_toasts ([(0, 3), (0, 23)] : List (Nat × Nat)) rfl (by decide +kernel)) (goodIn_sb (fun _ h => (List.mem_cons_of_mem _ (List.mem_append_right _ h))) (by decide +kernel))))
set_option maxRecDepth 20000 in
theorem gX9_toasts_X9_those : GoodIn wsX9_toasts (wsV RX9 341 RX9 yX9_those wsX9_those) := goodIn_app (good_rp ([57, 58, 59, 8] : List Nat) rfl (by decide +kernel)) ggX9_toasts_X9_those
set_option maxRecDepth 20000 in
theorem ggX9_toasts_X9_toastOf : GoodIn wsX9_toasts wsX9_toastOf := (goodIn_cons (good_rb bq_wsX9_toasts ([(2, 3)] : List (Nat × Nat)) rfl (by decide +kernel)) (goodIn_app (goodIn_app (good_rb bq_wsX9_toasts ([(0, 23), (2, 4), (2, 5), (2, 6), (0, 7), (2, 7), (0, 3), (2, 8), (2, 9), (2, 10), (2, 11), (2, 12), (2, 13), (2, 14), (2, 15), (1, 4), (1, 5), (2, 16), (2, 17), (2, 18), (2, 19), (2, 20), (2, 21), (2, 22)] : List (Nat × Nat)) rfl (by decide +kernel)) (good_rb bq_wsX9_toasts ([(1, 0), (0, 22), (1, 1), (2, 23), (3, 0), (3, 1), (3, 2), (3, 3), (3, 4), (3, 5), (3, 6)] : List (Nat × Nat)) rfl (by decide +kernel))) (goodIn_sb (fun _ h => (List.mem_cons_of_mem _ (List.mem_append_right _ h))) (by decide +kernel))))
set_option maxRecDepth 20000 in
theorem gX9_toasts_X9_toastOf : GoodIn wsX9_toasts (wsV RX9 480 RX9 yX9_toastOf wsX9_toastOf) := goodIn_app (good_rp ([49, 50, 51, 8] : List Nat) rfl (by decide +kernel)) ggX9_toasts_X9_toastOf
noncomputable def b_X9_earns_24 (F : Nat)  (mo : OB)  (y0 : Int32) : Option (Int32) :=
  some y0
noncomputable def f_X9_earns (F : Nat)  (x1 : Int32) (mo : OB) : Option (Int32) :=
  if ib x1 8 then (if ((mo.2.1 3) (Int32.toNatClampNeg x1)) = 1 then (Option.bind (f_X9_givesNow F x1 mo) (fun q3 => (b_X9_earns_24 F mo (1 + (q3 / 10))))) else (b_X9_earns_24 F mo 0)) else none
set_option maxHeartbeats 4000000 in
set_option maxRecDepth 100000 in
theorem c_X9_earns (l : Launch) (D : va_G) (k : Nat → ClassId) (sz : Nat)  (va : Nat → Nat) (F : Nat)  (x1 : Int32) (mo : OB)  {res : Int32} (h : f_X9_earns F x1 mo = some res) : CtI l yX9_earns wsX9_earns (rmK 5 0 0) [.ref (va 0), .int x1] D k sz (moW k va mo) (fun r (_ : Unit) => r = res) (fun _ : Unit => moW k va mo) 0 0 := by
  refine CtI.mk (cc := cX9_earns) (maxL := 2) (ret := (some .int)) (by decide) rfl (Nat.le_of_ble_eq_true rfl) ?_
  intro p e s m below meth c A ls E hP hD hS hl
  obtain ⟨hx, hb, hr, hml, hown, hts, hlocks, hin, hG, hA⟩ := E
  have hown : s.vm.findClass RX9 = some m.cls := hown
  have in9 : ∀ w ∈ u_ws RX9 TX9 53, w ∈ wsX9_earns := fun _ h => List.mem_cons_of_mem _ (List.mem_append_right _ h)
  have hl : lv_has ls 2 [(0, .ref (va 0)), (1, .int x1)] := hl
  have B24 : ∀ (y0 : Int32) (H : Heap) (locs : List Loc) (ls : Array Slot), b_X9_earns_24 F mo y0 = some res → va_P D vwCl (moW k va mo) H → va_D A (moW k va mo) → va_S A s.heap H locs → lv_has ls 2 [] → W p l e (rmK 5 0 0) s m (List.toArray [.ref (va 0), .int x1]) below meth c H locs 0 0 (MQ below (va_Qi (fun r (_ : Unit) => r = res) (hcB D (fun _ : Unit => moW k va mo) A) A) (List.toArray [.ref (va 0), .int x1]) s 0 0 A) (F0 m 24 ls [.int y0]) := by
    intro y0 H locs ls h hP hD hS hl
    exact fw_endI (rv := fun b : Int32 => b) (wp := fun b : Int32 => moW k va mo) hx hb hr hlocks h rfl hP hD hS dX9_earns_24
  refine lv_aload_n hx hb dX9_earns_0 rfl (lv_at hl 0 rfl) ?_
  refine va_get (D := D) (ci := 7) (v := .ref (va 3)) (C := RX9) (T := TX9) (N := 53) hx hb hts in9 hown hG.1 hP 0 rfl rfl 3 (by decide) (hts (.fieldLink RX9 16 "ChairCaneModel" "is" "[I") (mem_b bq_wsX9_earns 0 0 rfl)) (fun _ h9 => h9) rfl dX9_earns_1 ?_
  refine lv_iload_n hx hb dX9_earns_4 rfl (lv_at hl 1 rfl) ?_
  obtain ⟨g1, h⟩ := fw_g h
  refine va_iald hx hb hG.1 hP 3 0 rfl rfl (ib_vp g1) dX9_earns_5 ?_
  refine lv_iconst (v := 1) hx hb dX9_earns_6 (by decide) ?_
  refine lv_icmp_ne (tgt := 23) hx hb dX9_earns_7 (by decide) (fun c2 => ?_) (fun c2 => ?_)
  · have h := fw_f c2 h
    refine lv_iconst (v := 0) hx hb dX9_earns_23 (by decide) ?_
    exact B24 _ _ _ _ h hP hD hS (lv_sub hl [] rfl)
  · have h := fw_t c2 h
    refine lv_iconst (v := 1) hx hb dX9_earns_10 (by decide) ?_
    refine lv_aload_n hx hb dX9_earns_11 rfl (lv_at hl 0 rfl) ?_
    refine lv_iload_n hx hb dX9_earns_12 rfl (lv_at hl 1 rfl) ?_
    refine fw_Vi (As := [.int x1]) (rest := [.int 1]) (n := 1) (wr := []) (rv := fun b : Int32 => b) (wp := fun b : Int32 => moW k va mo) h hx hb hml hown hts hG hA hP hD hS hl.1 (List.range (moW k va mo).length) [] (fun q hq9 => c_X9_givesNow l D k _  va F x1 mo  hq9) (ci := 7) (q0 := 0) rfl rfl gX9_earns_X9_givesNow rfl ⟨rfl, rfl, Nat.le_of_ble_eq_true rfl, Nat.le_of_ble_eq_true rfl⟩ (by decide +kernel) (al_C _) rfl (al_n _) ⟨rfl, rfl, Nat.le_of_ble_eq_true rfl, Nat.le_of_ble_eq_true rfl, Nat.le_of_ble_eq_true rfl⟩ dX9_earns_13 (fun q3 H locs h hP hD hS => ?_)
    obtain ⟨hP, hD⟩ := cv (w' := moW k va mo) hP hD rfl
    refine hc_is (z := q3) rfl ?_
    refine lv_bipush (v := 10) hx hb dX9_earns_16 (by decide) ?_
    refine lv_idiv hx hb dX9_earns_18 (by decide) ?_
    refine lv_iadd hx hb dX9_earns_19 ?_
    refine lv_goto (tgt := 24) hx hb dX9_earns_20 (by decide) ?_
    exact B24 _ _ _ _ h hP hD hS (lv_sub hl [] rfl)
noncomputable def b_X9_laysWays_149 (F : Nat)   (k7 : (Int32 × Int32 × Int32 × Int32 × OB) → Option (OB)) (v1 : Int32) (v2 : Int32) (v3 : Int32) (v4 : Int32) (y0 : Int32) (y1 : Int32) (y2 : Int32) (mo : OB) : Option (OB) :=
  if ib y2 4 then (Option.bind (f_X9_laysBack F (mo.1, (uF mo.2.1 46 (upd (mo.2.1 46) (Int32.toNatClampNeg y2) (y1 - y0))), mo.2.2)) (fun q2 => (k7 (v1, v2, v3, (v4 + 1), q2)))) else none
noncomputable def b_X9_laysWays_123 (F : Nat)   (k7 : (Int32 × Int32 × Int32 × Int32 × OB) → Option (OB)) (v1 : Int32) (v2 : Int32) (v3 : Int32) (v4 : Int32) (y0 : Int32) (y1 : Int32) (y2 : Int32) (mo : OB) : Option (OB) :=
  if ib y2 4 then (if ib v4 4 then (if ib v2 8 then (if ((mo.2.1 3) (Int32.toNatClampNeg v2)) = 2 then (b_X9_laysWays_149 F k7 v1 v2 v3 v4 10 ((mo.2.1 46) (Int32.toNatClampNeg v4)) v4 (mo.1, (uF mo.2.1 45 (upd (mo.2.1 45) (Int32.toNatClampNeg y2) (y1 - y0))), mo.2.2)) else (b_X9_laysWays_149 F k7 v1 v2 v3 v4 0 ((mo.2.1 46) (Int32.toNatClampNeg v4)) v4 (mo.1, (uF mo.2.1 45 (upd (mo.2.1 45) (Int32.toNatClampNeg y2) (y1 - y0))), mo.2.2))) else none) else none) else none
noncomputable def b_X9_laysWays_52 (F : Nat)   (k7 : (Int32 × Int32 × Int32 × Int32 × OB) → Option (OB)) (k52 : (Int32 × Int32 × Int32 × Int32 × Int32 × OB) → Option (OB)) (a52 : (Int32 × Int32 × Int32 × Int32 × Int32 × OB)) : Option (OB) :=
  if a52.2.2.1 ≤ a52.2.2.2.2.1 then (if ib a52.2.2.2.1 4 then (if ib a52.1 8 then (if ((a52.2.2.2.2.2.2.1 3) (Int32.toNatClampNeg a52.1)) = 2 then (b_X9_laysWays_123 F k7 a52.1 a52.2.1 a52.2.2.1 a52.2.2.2.1 10 ((a52.2.2.2.2.2.2.1 45) (Int32.toNatClampNeg a52.2.2.2.1)) a52.2.2.2.1 a52.2.2.2.2.2) else (b_X9_laysWays_123 F k7 a52.1 a52.2.1 a52.2.2.1 a52.2.2.2.1 0 ((a52.2.2.2.2.2.2.1 45) (Int32.toNatClampNeg a52.2.2.2.1)) a52.2.2.2.1 a52.2.2.2.2.2)) else none) else none) else (Option.bind (f_X9_goes F a52.2.2.2.2.2) (fun q11 => (if ib a52.2.2.2.1 4 then (Option.bind (f_X9_earns F a52.1 q11.2) (fun q13 => (Option.bind (f_X9_earns F a52.2.1 (q11.2.1, (uF q11.2.2.1 45 (upd (q11.2.2.1 45) (Int32.toNatClampNeg a52.2.2.2.1) (((q11.2.2.1 45) (Int32.toNatClampNeg a52.2.2.2.1)) + q13))), q11.2.2.2)) (fun q14 => (k52 (a52.1, a52.2.1, a52.2.2.1, a52.2.2.2.1, (a52.2.2.2.2.1 + 1), (q11.2.1, (uF (uF q11.2.2.1 45 (upd (q11.2.2.1 45) (Int32.toNatClampNeg a52.2.2.2.1) (((q11.2.2.1 45) (Int32.toNatClampNeg a52.2.2.2.1)) + q13))) 46 (upd (q11.2.2.1 46) (Int32.toNatClampNeg a52.2.2.2.1) (((q11.2.2.1 46) (Int32.toNatClampNeg a52.2.2.2.1)) + q14))), q11.2.2.2))))))) else none)))
noncomputable def b_X9_laysWays_7 (F : Nat)    (k7 : (Int32 × Int32 × Int32 × Int32 × OB) → Option (OB)) (a7 : (Int32 × Int32 × Int32 × Int32 × OB)) : Option (OB) :=
  if 4 ≤ a7.2.2.2.1 then (if ib a7.1 8 then (if ib a7.2.1 8 then (some (a7.2.2.2.2.1, (uF a7.2.2.2.2.2.1 38 (upd (upd (a7.2.2.2.2.2.1 38) (Int32.toNatClampNeg a7.1) (-1)) (Int32.toNatClampNeg a7.2.1) (-1))), a7.2.2.2.2.2.2)) else none) else none) else (if ib a7.1 8 then (if ib a7.2.1 8 then (if ib a7.2.2.2.1 4 then (lp (b_X9_laysWays_52 F k7) F (a7.1, a7.2.1, a7.2.2.1, a7.2.2.2.1, 0, (a7.2.2.2.2.1, (uF (uF (uF a7.2.2.2.2.2.1 38 (upd (upd (a7.2.2.2.2.2.1 38) (Int32.toNatClampNeg a7.1) (a7.2.2.2.1 / 2)) (Int32.toNatClampNeg a7.2.1) (a7.2.2.2.1 - a7.2.2.2.1 / 2 * 2))) 45 (upd (a7.2.2.2.2.2.1 45) (Int32.toNatClampNeg a7.2.2.2.1) 0)) 46 (upd (a7.2.2.2.2.2.1 46) (Int32.toNatClampNeg a7.2.2.2.1) 0)), a7.2.2.2.2.2.2))) else none) else none) else none)
noncomputable def f_X9_laysWays (F : Nat)  (x1 : Int32) (x2 : Int32) (x3 : Int32) (mo : OB) : Option (OB) :=
  Option.bind (f_X9_keepsAll F mo) (fun q21 => (lp (b_X9_laysWays_7 F) F (x1, x2, x3, 0, q21)))
set_option maxHeartbeats 4000000 in
set_option maxRecDepth 100000 in
theorem c_X9_laysWays (l : Launch) (D : va_G) (k : Nat → ClassId) (sz : Nat)  (va : Nat → Nat) (F : Nat)  (x1 : Int32) (x2 : Int32) (x3 : Int32) (mo : OB)  {res : OB} (h : f_X9_laysWays F x1 x2 x3 mo = some res) : CtV l yX9_laysWays wsX9_laysWays (rmK 7 0 0) [.ref (va 0), .int x1, .int x2, .int x3] D k sz (moW k va mo) (fun (_ : Unit) => True) (fun _ : Unit => moW k va res) 0 0 := by
  refine CtV.mk (cc := cX9_laysWays) (maxL := 6) (ret := none) (by decide) rfl (Nat.le_of_ble_eq_true rfl) ?_
  intro p e s m below meth c A ls E hP hD hS hl
  obtain ⟨hx, hb, hr, hml, hown, hts, hlocks, hin, hG, hA⟩ := E
  have hown : s.vm.findClass RX9 = some m.cls := hown
  have in9 : ∀ w ∈ u_ws RX9 TX9 53, w ∈ wsX9_laysWays := fun _ h => List.mem_cons_of_mem _ (List.mem_append_right _ h)
  have hl : lv_has ls 6 [(0, .ref (va 0)), (1, .int x1), (2, .int x2), (3, .int x3)] := hl
  have B7 : ∀ a7 : (Int32 × Int32 × Int32 × Int32 × OB), lp (b_X9_laysWays_7 F) F a7 = some res → ∀ (H : Heap) (locs : List Loc) (ls : Array Slot), va_P D vwCl (moW k va a7.2.2.2.2) H → va_D A (moW k va a7.2.2.2.2) → va_S A s.heap H locs → lv_has ls 6 [(0, .ref (va 0)), (1, .int a7.1), (2, .int a7.2.1), (3, .int a7.2.2.1), (4, .int a7.2.2.2.1)] → W p l e (rmK 7 0 0) s m (List.toArray [.ref (va 0), .int x1, .int x2, .int x3]) below meth c H locs 0 0 (MQ below (va_Qv (fun (_ : Unit) => True) (hcB D (fun _ : Unit => moW k va res) A) A) (List.toArray [.ref (va 0), .int x1, .int x2, .int x3]) s 0 0 A) (F0 m 7 ls []) := by
    refine lp_W ?_ F
    intro k7 hk7 a7 h H locs ls hP hD hS hl
    have hc7 : ∀ (v1 : Int32) (v2 : Int32) (v3 : Int32) (v4 : Int32) (mo : OB), k7 (v1, v2, v3, v4, mo) = some res → ∀ (H : Heap) (locs : List Loc) (ls : Array Slot), va_P D vwCl (moW k va mo) H → va_D A (moW k va mo) → va_S A s.heap H locs → lv_has ls 6 [(0, .ref (va 0)), (1, .int v1), (2, .int v2), (3, .int v3), (4, .int v4)] → W p l e (rmK 7 0 0) s m (List.toArray [.ref (va 0), .int x1, .int x2, .int x3]) below meth c H locs 0 0 (MQ below (va_Qv (fun (_ : Unit) => True) (hcB D (fun _ : Unit => moW k va res) A) A) (List.toArray [.ref (va 0), .int x1, .int x2, .int x3]) s 0 0 A) (F0 m 7 ls []) := fun v1 v2 v3 v4 mo => hk7 (v1, v2, v3, v4, mo)
    have B149 : ∀ (v1 : Int32) (v2 : Int32) (v3 : Int32) (v4 : Int32) (y0 : Int32) (y1 : Int32) (y2 : Int32) (mo : OB) (H : Heap) (locs : List Loc) (ls : Array Slot), b_X9_laysWays_149 F k7 v1 v2 v3 v4 y0 y1 y2 mo = some res → va_P D vwCl (moW k va mo) H → va_D A (moW k va mo) → va_S A s.heap H locs → lv_has ls 6 [(0, .ref (va 0)), (1, .int v1), (2, .int v2), (3, .int v3), (4, .int v4)] → W p l e (rmK 7 0 0) s m (List.toArray [.ref (va 0), .int x1, .int x2, .int x3]) below meth c H locs 0 0 (MQ below (va_Qv (fun (_ : Unit) => True) (hcB D (fun _ : Unit => moW k va res) A) A) (List.toArray [.ref (va 0), .int x1, .int x2, .int x3]) s 0 0 A) (F0 m 149 ls [.int y0, .int y1, .int y2, .ref (va 33)]) := by
      intro v1 v2 v3 v4 y0 y1 y2 mo H locs ls h hP hD hS hl
      refine lv_isub hx hb dX9_laysWays_149 ?_
      obtain ⟨g1, h⟩ := fw_g h
      refine va_iast hx hb hG.1 hP hD hS 33 0 rfl rfl (ib_vp g1) dX9_laysWays_150 (fun H locs hP hD hS => ?_)
      refine lv_aload_n hx hb dX9_laysWays_151 rfl (lv_at hl 0 rfl) ?_
      obtain ⟨hP, hD⟩ := cv (w' := moW k va (mo.1, (uF mo.2.1 46 (upd (mo.2.1 46) (Int32.toNatClampNeg y2) (y1 - y0))), mo.2.2)) hP hD rfl
      refine fw_Vv (As := []) (rest := []) (n := 0) (wr := []) (wp := fun b : OB => moW k va b) h hx hb hml hown hts hG hA hP hD hS hl.1 (List.range (moW k va (mo.1, (uF mo.2.1 46 (upd (mo.2.1 46) (Int32.toNatClampNeg y2) (y1 - y0))), mo.2.2)).length) [] (fun q hq9 => c_X9_laysBack l D k _  va F  (mo.1, (uF mo.2.1 46 (upd (mo.2.1 46) (Int32.toNatClampNeg y2) (y1 - y0))), mo.2.2)  hq9) (ci := 7) (q0 := 0) rfl rfl gX9_laysWays_X9_laysBack rfl ⟨rfl, rfl, Nat.le_of_ble_eq_true rfl, Nat.le_of_ble_eq_true rfl⟩ (by decide +kernel) (al_C _) rfl (al_n _) ⟨rfl, rfl, Nat.le_of_ble_eq_true rfl, Nat.le_of_ble_eq_true rfl, Nat.le_of_ble_eq_true rfl⟩ dX9_laysWays_152 (fun q2 H locs h hP hD hS => ?_)
      obtain ⟨hP, hD⟩ := cv (w' := moW k va q2) hP hD rfl
      refine lv_iinc (v := (v4 + 1)) (lv' := [(4, .int (v4 + 1)), (0, .ref (va 0)), (1, .int v1), (2, .int v2), (3, .int v3)]) hx hb dX9_laysWays_155 hl (k := 4) rfl rfl (by decide) rfl (fun ls hl => ?_)
      refine lv_goto (tgt := 7) hx hb dX9_laysWays_158 (by decide) ?_
      exact hc7 _ _ _ _ _ h _ _ _ hP hD hS (lv_sub hl [1, 2, 3, 4, 0] rfl)
    have B123 : ∀ (v1 : Int32) (v2 : Int32) (v3 : Int32) (v4 : Int32) (y0 : Int32) (y1 : Int32) (y2 : Int32) (mo : OB) (H : Heap) (locs : List Loc) (ls : Array Slot), b_X9_laysWays_123 F k7 v1 v2 v3 v4 y0 y1 y2 mo = some res → va_P D vwCl (moW k va mo) H → va_D A (moW k va mo) → va_S A s.heap H locs → lv_has ls 6 [(0, .ref (va 0)), (1, .int v1), (2, .int v2), (3, .int v3), (4, .int v4)] → W p l e (rmK 7 0 0) s m (List.toArray [.ref (va 0), .int x1, .int x2, .int x3]) below meth c H locs 0 0 (MQ below (va_Qv (fun (_ : Unit) => True) (hcB D (fun _ : Unit => moW k va res) A) A) (List.toArray [.ref (va 0), .int x1, .int x2, .int x3]) s 0 0 A) (F0 m 123 ls [.int y0, .int y1, .int y2, .ref (va 32)]) := by
      intro v1 v2 v3 v4 y0 y1 y2 mo H locs ls h hP hD hS hl
      refine lv_isub hx hb dX9_laysWays_123 ?_
      obtain ⟨g3, h⟩ := fw_g h
      refine va_iast hx hb hG.1 hP hD hS 32 0 rfl rfl (ib_vp g3) dX9_laysWays_124 (fun H locs hP hD hS => ?_)
      refine lv_aload_n hx hb dX9_laysWays_125 rfl (lv_at hl 0 rfl) ?_
      refine va_get (D := D) (ci := 7) (v := .ref (va 33)) (C := RX9) (T := TX9) (N := 53) hx hb hts in9 hown hG.1 hP 0 rfl rfl 46 (by decide) (hts (.fieldLink RX9 113 "ChairCaneModel" "secondHas" "[I") (mem_b bq_wsX9_laysWays 0 2 rfl)) (fun _ h9 => h9) rfl dX9_laysWays_126 ?_
      refine lv_iload hx hb dX9_laysWays_129 (lv_at hl 4 rfl) ?_
      refine lv_dup2_11 hx hb dX9_laysWays_131 rfl rfl ?_
      obtain ⟨g4, h⟩ := fw_g h
      refine va_iald hx hb hG.1 hP 33 0 rfl rfl (ib_vp g4) dX9_laysWays_132 ?_
      refine lv_aload_n hx hb dX9_laysWays_133 rfl (lv_at hl 0 rfl) ?_
      refine va_get (D := D) (ci := 7) (v := .ref (va 3)) (C := RX9) (T := TX9) (N := 53) hx hb hts in9 hown hG.1 hP 0 rfl rfl 3 (by decide) (hts (.fieldLink RX9 16 "ChairCaneModel" "is" "[I") (mem_b bq_wsX9_laysWays 0 3 rfl)) (fun _ h9 => h9) rfl dX9_laysWays_134 ?_
      refine lv_iload_n hx hb dX9_laysWays_137 rfl (lv_at hl 2 rfl) ?_
      obtain ⟨g5, h⟩ := fw_g h
      refine va_iald hx hb hG.1 hP 3 0 rfl rfl (ib_vp g5) dX9_laysWays_138 ?_
      refine lv_iconst (v := 2) hx hb dX9_laysWays_139 (by decide) ?_
      refine lv_icmp_ne (tgt := 148) hx hb dX9_laysWays_140 (by decide) (fun c6 => ?_) (fun c6 => ?_)
      · have h := fw_f c6 h
        refine lv_iconst (v := 0) hx hb dX9_laysWays_148 (by decide) ?_
        exact B149 _ _ _ _ _ _ _ _ _ _ _ h hP hD hS hl
      · have h := fw_t c6 h
        refine lv_bipush (v := 10) hx hb dX9_laysWays_143 (by decide) ?_
        refine lv_goto (tgt := 149) hx hb dX9_laysWays_145 (by decide) ?_
        exact B149 _ _ _ _ _ _ _ _ _ _ _ h hP hD hS hl
    have B52 : ∀ a52 : (Int32 × Int32 × Int32 × Int32 × Int32 × OB), lp (b_X9_laysWays_52 F k7) F a52 = some res → ∀ (H : Heap) (locs : List Loc) (ls : Array Slot), va_P D vwCl (moW k va a52.2.2.2.2.2) H → va_D A (moW k va a52.2.2.2.2.2) → va_S A s.heap H locs → lv_has ls 6 [(0, .ref (va 0)), (1, .int a52.1), (2, .int a52.2.1), (3, .int a52.2.2.1), (4, .int a52.2.2.2.1), (5, .int a52.2.2.2.2.1)] → W p l e (rmK 7 0 0) s m (List.toArray [.ref (va 0), .int x1, .int x2, .int x3]) below meth c H locs 0 0 (MQ below (va_Qv (fun (_ : Unit) => True) (hcB D (fun _ : Unit => moW k va res) A) A) (List.toArray [.ref (va 0), .int x1, .int x2, .int x3]) s 0 0 A) (F0 m 52 ls []) := by
      refine lp_W ?_ F
      intro k52 hk52 a52 h H locs ls hP hD hS hl
      have hc52 : ∀ (v1 : Int32) (v2 : Int32) (v3 : Int32) (v4 : Int32) (v5 : Int32) (mo : OB), k52 (v1, v2, v3, v4, v5, mo) = some res → ∀ (H : Heap) (locs : List Loc) (ls : Array Slot), va_P D vwCl (moW k va mo) H → va_D A (moW k va mo) → va_S A s.heap H locs → lv_has ls 6 [(0, .ref (va 0)), (1, .int v1), (2, .int v2), (3, .int v3), (4, .int v4), (5, .int v5)] → W p l e (rmK 7 0 0) s m (List.toArray [.ref (va 0), .int x1, .int x2, .int x3]) below meth c H locs 0 0 (MQ below (va_Qv (fun (_ : Unit) => True) (hcB D (fun _ : Unit => moW k va res) A) A) (List.toArray [.ref (va 0), .int x1, .int x2, .int x3]) s 0 0 A) (F0 m 52 ls []) := fun v1 v2 v3 v4 v5 mo => hk52 (v1, v2, v3, v4, v5, mo)
      refine lv_iload hx hb dX9_laysWays_52 (lv_at hl 5 rfl) ?_
      refine lv_iload_n hx hb dX9_laysWays_54 rfl (lv_at hl 3 rfl) ?_
      refine lv_icmp_ge (tgt := 99) hx hb dX9_laysWays_55 (by decide) (fun c7 => ?_) (fun c7 => ?_)
      · have h := fw_t c7 h
        refine lv_aload_n hx hb dX9_laysWays_99 rfl (lv_at hl 0 rfl) ?_
        refine va_get (D := D) (ci := 7) (v := .ref (va 32)) (C := RX9) (T := TX9) (N := 53) hx hb hts in9 hown hG.1 hP 0 rfl rfl 45 (by decide) (hts (.fieldLink RX9 110 "ChairCaneModel" "firstHas" "[I") (mem_b bq_wsX9_laysWays 0 1 rfl)) (fun _ h9 => h9) rfl dX9_laysWays_100 ?_
        refine lv_iload hx hb dX9_laysWays_103 (lv_at hl 4 rfl) ?_
        refine lv_dup2_11 hx hb dX9_laysWays_105 rfl rfl ?_
        obtain ⟨g8, h⟩ := fw_g h
        refine va_iald hx hb hG.1 hP 32 0 rfl rfl (ib_vp g8) dX9_laysWays_106 ?_
        refine lv_aload_n hx hb dX9_laysWays_107 rfl (lv_at hl 0 rfl) ?_
        refine va_get (D := D) (ci := 7) (v := .ref (va 3)) (C := RX9) (T := TX9) (N := 53) hx hb hts in9 hown hG.1 hP 0 rfl rfl 3 (by decide) (hts (.fieldLink RX9 16 "ChairCaneModel" "is" "[I") (mem_b bq_wsX9_laysWays 0 3 rfl)) (fun _ h9 => h9) rfl dX9_laysWays_108 ?_
        refine lv_iload_n hx hb dX9_laysWays_111 rfl (lv_at hl 1 rfl) ?_
        obtain ⟨g9, h⟩ := fw_g h
        refine va_iald hx hb hG.1 hP 3 0 rfl rfl (ib_vp g9) dX9_laysWays_112 ?_
        refine lv_iconst (v := 2) hx hb dX9_laysWays_113 (by decide) ?_
        refine lv_icmp_ne (tgt := 122) hx hb dX9_laysWays_114 (by decide) (fun c10 => ?_) (fun c10 => ?_)
        · have h := fw_f c10 h
          refine lv_iconst (v := 0) hx hb dX9_laysWays_122 (by decide) ?_
          exact B123 _ _ _ _ _ _ _ _ _ _ _ h hP hD hS (lv_sub hl [0, 1, 2, 3, 4] rfl)
        · have h := fw_t c10 h
          refine lv_bipush (v := 10) hx hb dX9_laysWays_117 (by decide) ?_
          refine lv_goto (tgt := 123) hx hb dX9_laysWays_119 (by decide) ?_
          exact B123 _ _ _ _ _ _ _ _ _ _ _ h hP hD hS (lv_sub hl [0, 1, 2, 3, 4] rfl)
      · have h := fw_f c7 h
        refine lv_aload_n hx hb dX9_laysWays_58 rfl (lv_at hl 0 rfl) ?_
        refine fw_Vi (As := []) (rest := []) (n := 0) (wr := []) (rv := fun b : Int32 × OB => b.1) (wp := fun b : Int32 × OB => moW k va b.2) h hx hb hml hown hts hG hA hP hD hS hl.1 (List.range (moW k va a52.2.2.2.2.2).length) [] (fun q hq9 => c_X9_goes l D k _  va F  a52.2.2.2.2.2  hq9) (ci := 7) (q0 := 0) rfl rfl gX9_laysWays_X9_goes rfl ⟨rfl, rfl, Nat.le_of_ble_eq_true rfl, Nat.le_of_ble_eq_true rfl⟩ (by decide +kernel) (al_C _) rfl (al_n _) ⟨rfl, rfl, Nat.le_of_ble_eq_true rfl, Nat.le_of_ble_eq_true rfl, Nat.le_of_ble_eq_true rfl⟩ dX9_laysWays_59 (fun q11 H locs h hP hD hS => ?_)
        obtain ⟨hP, hD⟩ := cv (w' := moW k va q11.2) hP hD rfl
        refine hc_is (z := q11.1) rfl ?_
        refine lv_pop hx hb dX9_laysWays_62 rfl ?_
        refine lv_aload_n hx hb dX9_laysWays_63 rfl (lv_at hl 0 rfl) ?_
        refine va_get (D := D) (ci := 7) (v := .ref (va 32)) (C := RX9) (T := TX9) (N := 53) hx hb hts in9 hown hG.1 hP 0 rfl rfl 45 (by decide) (hts (.fieldLink RX9 110 "ChairCaneModel" "firstHas" "[I") (mem_b bq_wsX9_laysWays 0 1 rfl)) (fun _ h9 => h9) rfl dX9_laysWays_64 ?_
        refine lv_iload hx hb dX9_laysWays_67 (lv_at hl 4 rfl) ?_
        refine lv_dup2_11 hx hb dX9_laysWays_69 rfl rfl ?_
        obtain ⟨g12, h⟩ := fw_g h
        refine va_iald hx hb hG.1 hP 32 0 rfl rfl (ib_vp g12) dX9_laysWays_70 ?_
        refine lv_aload_n hx hb dX9_laysWays_71 rfl (lv_at hl 0 rfl) ?_
        refine lv_iload_n hx hb dX9_laysWays_72 rfl (lv_at hl 1 rfl) ?_
        refine fw_Vi (As := [.int a52.1]) (rest := [.int ((q11.2.2.1 45) (Int32.toNatClampNeg a52.2.2.2.1)), .int a52.2.2.2.1, .ref (va 32)]) (n := 1) (wr := []) (rv := fun b : Int32 => b) (wp := fun b : Int32 => moW k va q11.2) h hx hb hml hown hts hG hA hP hD hS hl.1 (List.range (moW k va q11.2).length) [] (fun q hq9 => c_X9_earns l D k _  va F a52.1 q11.2  hq9) (ci := 7) (q0 := 0) rfl rfl gX9_laysWays_X9_earns rfl ⟨rfl, rfl, Nat.le_of_ble_eq_true rfl, Nat.le_of_ble_eq_true rfl⟩ (by decide +kernel) (al_C _) rfl (al_n _) ⟨rfl, rfl, Nat.le_of_ble_eq_true rfl, Nat.le_of_ble_eq_true rfl, Nat.le_of_ble_eq_true rfl⟩ dX9_laysWays_73 (fun q13 H locs h hP hD hS => ?_)
        obtain ⟨hP, hD⟩ := cv (w' := moW k va q11.2) hP hD rfl
        refine hc_is (z := q13) rfl ?_
        refine lv_iadd hx hb dX9_laysWays_76 ?_
        refine va_iast hx hb hG.1 hP hD hS 32 0 rfl rfl (ib_vp g12) dX9_laysWays_77 (fun H locs hP hD hS => ?_)
        refine lv_aload_n hx hb dX9_laysWays_78 rfl (lv_at hl 0 rfl) ?_
        refine va_get (D := D) (ci := 7) (v := .ref (va 33)) (C := RX9) (T := TX9) (N := 53) hx hb hts in9 hown hG.1 hP 0 rfl rfl 46 (by decide) (hts (.fieldLink RX9 113 "ChairCaneModel" "secondHas" "[I") (mem_b bq_wsX9_laysWays 0 2 rfl)) (fun _ h9 => h9) rfl dX9_laysWays_79 ?_
        refine lv_iload hx hb dX9_laysWays_82 (lv_at hl 4 rfl) ?_
        refine lv_dup2_11 hx hb dX9_laysWays_84 rfl rfl ?_
        refine va_iald hx hb hG.1 hP 33 0 rfl rfl (ib_vp g12) dX9_laysWays_85 ?_
        refine lv_aload_n hx hb dX9_laysWays_86 rfl (lv_at hl 0 rfl) ?_
        refine lv_iload_n hx hb dX9_laysWays_87 rfl (lv_at hl 2 rfl) ?_
        obtain ⟨hP, hD⟩ := cv (w' := moW k va (q11.2.1, (uF q11.2.2.1 45 (upd (q11.2.2.1 45) (Int32.toNatClampNeg a52.2.2.2.1) (((q11.2.2.1 45) (Int32.toNatClampNeg a52.2.2.2.1)) + q13))), q11.2.2.2)) hP hD rfl
        refine fw_Vi (As := [.int a52.2.1]) (rest := [.int ((q11.2.2.1 46) (Int32.toNatClampNeg a52.2.2.2.1)), .int a52.2.2.2.1, .ref (va 33)]) (n := 1) (wr := []) (rv := fun b : Int32 => b) (wp := fun b : Int32 => moW k va (q11.2.1, (uF q11.2.2.1 45 (upd (q11.2.2.1 45) (Int32.toNatClampNeg a52.2.2.2.1) (((q11.2.2.1 45) (Int32.toNatClampNeg a52.2.2.2.1)) + q13))), q11.2.2.2)) h hx hb hml hown hts hG hA hP hD hS hl.1 (List.range (moW k va (q11.2.1, (uF q11.2.2.1 45 (upd (q11.2.2.1 45) (Int32.toNatClampNeg a52.2.2.2.1) (((q11.2.2.1 45) (Int32.toNatClampNeg a52.2.2.2.1)) + q13))), q11.2.2.2)).length) [] (fun q hq9 => c_X9_earns l D k _  va F a52.2.1 (q11.2.1, (uF q11.2.2.1 45 (upd (q11.2.2.1 45) (Int32.toNatClampNeg a52.2.2.2.1) (((q11.2.2.1 45) (Int32.toNatClampNeg a52.2.2.2.1)) + q13))), q11.2.2.2)  hq9) (ci := 7) (q0 := 0) rfl rfl gX9_laysWays_X9_earns rfl ⟨rfl, rfl, Nat.le_of_ble_eq_true rfl, Nat.le_of_ble_eq_true rfl⟩ (by decide +kernel) (al_C _) rfl (al_n _) ⟨rfl, rfl, Nat.le_of_ble_eq_true rfl, Nat.le_of_ble_eq_true rfl, Nat.le_of_ble_eq_true rfl⟩ dX9_laysWays_88 (fun q14 H locs h hP hD hS => ?_)
        obtain ⟨hP, hD⟩ := cv (w' := moW k va (q11.2.1, (uF q11.2.2.1 45 (upd (q11.2.2.1 45) (Int32.toNatClampNeg a52.2.2.2.1) (((q11.2.2.1 45) (Int32.toNatClampNeg a52.2.2.2.1)) + q13))), q11.2.2.2)) hP hD rfl
        refine hc_is (z := q14) rfl ?_
        refine lv_iadd hx hb dX9_laysWays_91 ?_
        refine va_iast hx hb hG.1 hP hD hS 33 0 rfl rfl (ib_vp g12) dX9_laysWays_92 (fun H locs hP hD hS => ?_)
        refine lv_iinc (v := (a52.2.2.2.2.1 + 1)) (lv' := [(5, .int (a52.2.2.2.2.1 + 1)), (0, .ref (va 0)), (1, .int a52.1), (2, .int a52.2.1), (3, .int a52.2.2.1), (4, .int a52.2.2.2.1)]) hx hb dX9_laysWays_93 hl (k := 5) rfl rfl (by decide) rfl (fun ls hl => ?_)
        refine lv_goto (tgt := 52) hx hb dX9_laysWays_96 (by decide) ?_
        exact hc52 _ _ _ _ _ _ h _ _ _ hP hD hS (lv_sub hl [1, 2, 3, 4, 5, 0] rfl)
    have C52 : ∀ (v1 : Int32) (v2 : Int32) (v3 : Int32) (v4 : Int32) (v5 : Int32) (mo : OB), lp (b_X9_laysWays_52 F k7) F (v1, v2, v3, v4, v5, mo) = some res → ∀ (H : Heap) (locs : List Loc) (ls : Array Slot), va_P D vwCl (moW k va mo) H → va_D A (moW k va mo) → va_S A s.heap H locs → lv_has ls 6 [(0, .ref (va 0)), (1, .int v1), (2, .int v2), (3, .int v3), (4, .int v4), (5, .int v5)] → W p l e (rmK 7 0 0) s m (List.toArray [.ref (va 0), .int x1, .int x2, .int x3]) below meth c H locs 0 0 (MQ below (va_Qv (fun (_ : Unit) => True) (hcB D (fun _ : Unit => moW k va res) A) A) (List.toArray [.ref (va 0), .int x1, .int x2, .int x3]) s 0 0 A) (F0 m 52 ls []) := fun v1 v2 v3 v4 v5 mo => B52 (v1, v2, v3, v4, v5, mo)
    refine lv_iload hx hb dX9_laysWays_7 (lv_at hl 4 rfl) ?_
    refine lv_iconst (v := 4) hx hb dX9_laysWays_9 (by decide) ?_
    refine lv_icmp_ge (tgt := 161) hx hb dX9_laysWays_10 (by decide) (fun c15 => ?_) (fun c15 => ?_)
    · have h := fw_t c15 h
      refine lv_aload_n hx hb dX9_laysWays_161 rfl (lv_at hl 0 rfl) ?_
      refine va_get (D := D) (ci := 7) (v := .ref (va 28)) (C := RX9) (T := TX9) (N := 53) hx hb hts in9 hown hG.1 hP 0 rfl rfl 38 (by decide) (hts (.fieldLink RX9 97 "ChairCaneModel" "must" "[I") (mem_b bq_wsX9_laysWays 0 0 rfl)) (fun _ h9 => h9) rfl dX9_laysWays_162 ?_
      refine lv_iload_n hx hb dX9_laysWays_165 rfl (lv_at hl 1 rfl) ?_
      refine lv_iconst (v := (-1)) hx hb dX9_laysWays_166 (by decide) ?_
      obtain ⟨g16, h⟩ := fw_g h
      refine va_iast hx hb hG.1 hP hD hS 28 0 rfl rfl (ib_vp g16) dX9_laysWays_167 (fun H locs hP hD hS => ?_)
      refine lv_aload_n hx hb dX9_laysWays_168 rfl (lv_at hl 0 rfl) ?_
      refine va_get (D := D) (ci := 7) (v := .ref (va 28)) (C := RX9) (T := TX9) (N := 53) hx hb hts in9 hown hG.1 hP 0 rfl rfl 38 (by decide) (hts (.fieldLink RX9 97 "ChairCaneModel" "must" "[I") (mem_b bq_wsX9_laysWays 0 0 rfl)) (fun _ h9 => h9) rfl dX9_laysWays_169 ?_
      refine lv_iload_n hx hb dX9_laysWays_172 rfl (lv_at hl 2 rfl) ?_
      refine lv_iconst (v := (-1)) hx hb dX9_laysWays_173 (by decide) ?_
      obtain ⟨g17, h⟩ := fw_g h
      refine va_iast hx hb hG.1 hP hD hS 28 0 rfl rfl (ib_vp g17) dX9_laysWays_174 (fun H locs hP hD hS => ?_)
      exact fw_endV (wp := fun b : OB => moW k va b) hx hb hr hlocks h hP hD hS dX9_laysWays_175
    · have h := fw_f c15 h
      refine lv_aload_n hx hb dX9_laysWays_13 rfl (lv_at hl 0 rfl) ?_
      refine va_get (D := D) (ci := 7) (v := .ref (va 28)) (C := RX9) (T := TX9) (N := 53) hx hb hts in9 hown hG.1 hP 0 rfl rfl 38 (by decide) (hts (.fieldLink RX9 97 "ChairCaneModel" "must" "[I") (mem_b bq_wsX9_laysWays 0 0 rfl)) (fun _ h9 => h9) rfl dX9_laysWays_14 ?_
      refine lv_iload_n hx hb dX9_laysWays_17 rfl (lv_at hl 1 rfl) ?_
      refine lv_iload hx hb dX9_laysWays_18 (lv_at hl 4 rfl) ?_
      refine lv_iconst (v := 2) hx hb dX9_laysWays_20 (by decide) ?_
      refine lv_idiv hx hb dX9_laysWays_21 (by decide) ?_
      obtain ⟨g18, h⟩ := fw_g h
      refine va_iast hx hb hG.1 hP hD hS 28 0 rfl rfl (ib_vp g18) dX9_laysWays_22 (fun H locs hP hD hS => ?_)
      refine lv_aload_n hx hb dX9_laysWays_23 rfl (lv_at hl 0 rfl) ?_
      refine va_get (D := D) (ci := 7) (v := .ref (va 28)) (C := RX9) (T := TX9) (N := 53) hx hb hts in9 hown hG.1 hP 0 rfl rfl 38 (by decide) (hts (.fieldLink RX9 97 "ChairCaneModel" "must" "[I") (mem_b bq_wsX9_laysWays 0 0 rfl)) (fun _ h9 => h9) rfl dX9_laysWays_24 ?_
      refine lv_iload_n hx hb dX9_laysWays_27 rfl (lv_at hl 2 rfl) ?_
      refine lv_iload hx hb dX9_laysWays_28 (lv_at hl 4 rfl) ?_
      refine lv_iconst (v := 2) hx hb dX9_laysWays_30 (by decide) ?_
      refine lv_irem hx hb dX9_laysWays_31 (by decide) ?_
      obtain ⟨g19, h⟩ := fw_g h
      refine va_iast hx hb hG.1 hP hD hS 28 0 rfl rfl (ib_vp g19) dX9_laysWays_32 (fun H locs hP hD hS => ?_)
      refine lv_aload_n hx hb dX9_laysWays_33 rfl (lv_at hl 0 rfl) ?_
      refine va_get (D := D) (ci := 7) (v := .ref (va 32)) (C := RX9) (T := TX9) (N := 53) hx hb hts in9 hown hG.1 hP 0 rfl rfl 45 (by decide) (hts (.fieldLink RX9 110 "ChairCaneModel" "firstHas" "[I") (mem_b bq_wsX9_laysWays 0 1 rfl)) (fun _ h9 => h9) rfl dX9_laysWays_34 ?_
      refine lv_iload hx hb dX9_laysWays_37 (lv_at hl 4 rfl) ?_
      refine lv_iconst (v := 0) hx hb dX9_laysWays_39 (by decide) ?_
      obtain ⟨g20, h⟩ := fw_g h
      refine va_iast hx hb hG.1 hP hD hS 32 0 rfl rfl (ib_vp g20) dX9_laysWays_40 (fun H locs hP hD hS => ?_)
      refine lv_aload_n hx hb dX9_laysWays_41 rfl (lv_at hl 0 rfl) ?_
      refine va_get (D := D) (ci := 7) (v := .ref (va 33)) (C := RX9) (T := TX9) (N := 53) hx hb hts in9 hown hG.1 hP 0 rfl rfl 46 (by decide) (hts (.fieldLink RX9 113 "ChairCaneModel" "secondHas" "[I") (mem_b bq_wsX9_laysWays 0 2 rfl)) (fun _ h9 => h9) rfl dX9_laysWays_42 ?_
      refine lv_iload hx hb dX9_laysWays_45 (lv_at hl 4 rfl) ?_
      refine lv_iconst (v := 0) hx hb dX9_laysWays_47 (by decide) ?_
      refine va_iast hx hb hG.1 hP hD hS 33 0 rfl rfl (ib_vp g20) dX9_laysWays_48 (fun H locs hP hD hS => ?_)
      refine lv_iconst (v := 0) hx hb dX9_laysWays_49 (by decide) ?_
      refine lv_istore (lv' := [(5, .int 0), (0, .ref (va 0)), (1, .int a7.1), (2, .int a7.2.1), (3, .int a7.2.2.1), (4, .int a7.2.2.2.1)]) hx hb dX9_laysWays_50 hl (by decide) rfl (fun ls hl => ?_)
      exact C52 _ _ _ _ _ _ h _ _ _ hP hD hS (lv_sub hl [1, 2, 3, 4, 5, 0] rfl)
  have C7 : ∀ (v1 : Int32) (v2 : Int32) (v3 : Int32) (v4 : Int32) (mo : OB), lp (b_X9_laysWays_7 F) F (v1, v2, v3, v4, mo) = some res → ∀ (H : Heap) (locs : List Loc) (ls : Array Slot), va_P D vwCl (moW k va mo) H → va_D A (moW k va mo) → va_S A s.heap H locs → lv_has ls 6 [(0, .ref (va 0)), (1, .int v1), (2, .int v2), (3, .int v3), (4, .int v4)] → W p l e (rmK 7 0 0) s m (List.toArray [.ref (va 0), .int x1, .int x2, .int x3]) below meth c H locs 0 0 (MQ below (va_Qv (fun (_ : Unit) => True) (hcB D (fun _ : Unit => moW k va res) A) A) (List.toArray [.ref (va 0), .int x1, .int x2, .int x3]) s 0 0 A) (F0 m 7 ls []) := fun v1 v2 v3 v4 mo => B7 (v1, v2, v3, v4, mo)
  refine lv_aload_n hx hb dX9_laysWays_0 rfl (lv_at hl 0 rfl) ?_
  refine fw_Vv (As := []) (rest := []) (n := 0) (wr := []) (wp := fun b : OB => moW k va b) h hx hb hml hown hts hG hA hP hD hS hl.1 (List.range (moW k va mo).length) [] (fun q hq9 => c_X9_keepsAll l D k _  va F  mo  hq9) (ci := 7) (q0 := 0) rfl rfl gX9_laysWays_X9_keepsAll rfl ⟨rfl, rfl, Nat.le_of_ble_eq_true rfl, Nat.le_of_ble_eq_true rfl⟩ (by decide +kernel) (al_C _) rfl (al_n _) ⟨rfl, rfl, Nat.le_of_ble_eq_true rfl, Nat.le_of_ble_eq_true rfl, Nat.le_of_ble_eq_true rfl⟩ dX9_laysWays_1 (fun q21 H locs h hP hD hS => ?_)
  obtain ⟨hP, hD⟩ := cv (w' := moW k va q21) hP hD rfl
  refine lv_iconst (v := 0) hx hb dX9_laysWays_4 (by decide) ?_
  refine lv_istore (lv' := [(4, .int 0), (0, .ref (va 0)), (1, .int x1), (2, .int x2), (3, .int x3)]) hx hb dX9_laysWays_5 hl (by decide) rfl (fun ls hl => ?_)
  exact C7 _ _ _ _ _ h _ _ _ hP hD hS (lv_sub hl [1, 2, 3, 4, 0] rfl)
noncomputable def b_X9_rests_66 (F : Nat)    (mo : OB) : Option (Int32 × OB) :=
  some ((-1), mo)
noncomputable def b_X9_rests_187 (F : Nat)    (y0 : Int32) (mo : OB) : Option (Int32 × OB) :=
  some (y0, mo)
noncomputable def b_X9_rests_145 (F : Nat)   (k84 : (Int32 × Int32 × Int32 × Int32 × OB) → Option (Int32 × OB)) (v4 : Int32) (v5 : Int32) (v6 : Int32) (v7 : Int32) (mo : OB) : Option (Int32 × OB) :=
  k84 (v4, v5, v6, (v7 + 1), mo)
noncomputable def b_X9_rests_140 (F : Nat)   (k84 : (Int32 × Int32 × Int32 × Int32 × OB) → Option (Int32 × OB)) (v4 : Int32) (v5 : Int32) (v7 : Int32) (y0 : Int32) (mo : OB) : Option (Int32 × OB) :=
  b_X9_rests_145 F k84 v4 (v5 + 1) y0 v7 mo
noncomputable def b_X9_rests_84 (F : Nat)    (k84 : (Int32 × Int32 × Int32 × Int32 × OB) → Option (Int32 × OB)) (a84 : (Int32 × Int32 × Int32 × Int32 × OB)) : Option (Int32 × OB) :=
  if 4 ≤ a84.2.2.2.1 then (if a84.1 = 0 then (some (a84.2.1, a84.2.2.2.2)) else (if a84.2.2.1 = (-1) then (b_X9_rests_187 F (-2) a84.2.2.2.2) else (if a84.1 = 1 then (b_X9_rests_187 F (a84.2.2.1 / 2) a84.2.2.2.2) else (b_X9_rests_187 F (a84.2.2.1 - a84.2.2.1 / 2 * 2) a84.2.2.2.2)))) else (if ib (a84.2.2.2.1 ^^^ 2) 4 then (if ib a84.2.2.2.1 4 then (if ((a84.2.2.2.2.2.1 45) (Int32.toNatClampNeg a84.2.2.2.1)) < ((a84.2.2.2.2.2.1 45) (Int32.toNatClampNeg (a84.2.2.2.1 ^^^ 2))) then (b_X9_rests_145 F k84 a84.1 a84.2.1 a84.2.2.1 a84.2.2.2.1 a84.2.2.2.2) else (if ib (a84.2.2.2.1 ^^^ 1) 4 then (if ((a84.2.2.2.2.2.1 46) (Int32.toNatClampNeg a84.2.2.2.1)) < ((a84.2.2.2.2.2.1 46) (Int32.toNatClampNeg (a84.2.2.2.1 ^^^ 1))) then (b_X9_rests_145 F k84 a84.1 a84.2.1 a84.2.2.1 a84.2.2.2.1 a84.2.2.2.2) else (if a84.2.1 = 0 then (b_X9_rests_140 F k84 a84.1 a84.2.1 a84.2.2.2.1 a84.2.2.2.1 a84.2.2.2.2) else (b_X9_rests_140 F k84 a84.1 a84.2.1 a84.2.2.2.1 a84.2.2.1 a84.2.2.2.2))) else none)) else none) else none)
noncomputable def f_X9_rests (F : Nat)  (x1 : Int32) (x2 : Int32) (x3 : Int32) (x4 : Int32) (mo : OB) : Option (Int32 × OB) :=
  Option.bind (f_X9_isSitter F x1 mo) (fun q11 => (if q11 = 0 then (b_X9_rests_66 F mo) else (Option.bind (f_X9_isSitter F x2 mo) (fun q13 => (if q13 = 0 then (b_X9_rests_66 F mo) else (if x1 = x2 then (b_X9_rests_66 F mo) else (if ib x1 8 then (if ((mo.2.1 3) (Int32.toNatClampNeg x1)) = 2 then (b_X9_rests_66 F mo) else (if ib x2 8 then (if ((mo.2.1 3) (Int32.toNatClampNeg x2)) = 2 then (b_X9_rests_66 F mo) else (Option.bind (f_X9_in F (Int32.toInt64 x3) 1 20) (fun q20 => (if q20 = 0 then (b_X9_rests_66 F mo) else (Option.bind (f_X9_in F (Int32.toInt64 x4) 0 2) (fun q22 => (if q22 = 0 then (b_X9_rests_66 F mo) else (Option.bind (f_X9_laysWays F x1 x2 x3 mo) (fun q24 => (lp (b_X9_rests_84 F) F (x4, 0, (-1), 0, q24))))))))))) else none)) else none)))))))
set_option maxHeartbeats 4000000 in
set_option maxRecDepth 100000 in
theorem c_X9_rests (l : Launch) (D : va_G) (k : Nat → ClassId) (sz : Nat)  (va : Nat → Nat) (F : Nat)  (x1 : Int32) (x2 : Int32) (x3 : Int32) (x4 : Int32) (mo : OB)  {res : Int32 × OB} (h : f_X9_rests F x1 x2 x3 x4 mo = some res) : CtI l yX9_rests wsX9_rests (rmK 8 0 0) [.ref (va 0), .int x1, .int x2, .int x3, .int x4] D k sz (moW k va mo) (fun r (_ : Unit) => r = res.1) (fun _ : Unit => moW k va res.2) 0 0 := by
  refine CtI.mk (cc := cX9_rests) (maxL := 8) (ret := (some .int)) (by decide) rfl (Nat.le_of_ble_eq_true rfl) ?_
  intro p e s m below meth c A ls E hP hD hS hl
  obtain ⟨hx, hb, hr, hml, hown, hts, hlocks, hin, hG, hA⟩ := E
  have hown : s.vm.findClass RX9 = some m.cls := hown
  have in9 : ∀ w ∈ u_ws RX9 TX9 53, w ∈ wsX9_rests := fun _ h => List.mem_cons_of_mem _ (List.mem_append_right _ h)
  have hl : lv_has ls 8 [(0, .ref (va 0)), (1, .int x1), (2, .int x2), (3, .int x3), (4, .int x4)] := hl
  have B66 : ∀ (mo : OB) (H : Heap) (locs : List Loc) (ls : Array Slot), b_X9_rests_66 F mo = some res → va_P D vwCl (moW k va mo) H → va_D A (moW k va mo) → va_S A s.heap H locs → lv_has ls 8 [] → W p l e (rmK 8 0 0) s m (List.toArray [.ref (va 0), .int x1, .int x2, .int x3, .int x4]) below meth c H locs 0 0 (MQ below (va_Qi (fun r (_ : Unit) => r = res.1) (hcB D (fun _ : Unit => moW k va res.2) A) A) (List.toArray [.ref (va 0), .int x1, .int x2, .int x3, .int x4]) s 0 0 A) (F0 m 66 ls []) := by
    intro mo H locs ls h hP hD hS hl
    refine lv_iconst (v := (-1)) hx hb dX9_rests_66 (by decide) ?_
    exact fw_endI (rv := fun b : Int32 × OB => b.1) (wp := fun b : Int32 × OB => moW k va b.2) hx hb hr hlocks h rfl hP hD hS dX9_rests_67
  have B187 : ∀ (y0 : Int32) (mo : OB) (H : Heap) (locs : List Loc) (ls : Array Slot), b_X9_rests_187 F y0 mo = some res → va_P D vwCl (moW k va mo) H → va_D A (moW k va mo) → va_S A s.heap H locs → lv_has ls 8 [] → W p l e (rmK 8 0 0) s m (List.toArray [.ref (va 0), .int x1, .int x2, .int x3, .int x4]) below meth c H locs 0 0 (MQ below (va_Qi (fun r (_ : Unit) => r = res.1) (hcB D (fun _ : Unit => moW k va res.2) A) A) (List.toArray [.ref (va 0), .int x1, .int x2, .int x3, .int x4]) s 0 0 A) (F0 m 187 ls [.int y0]) := by
    intro y0 mo H locs ls h hP hD hS hl
    exact fw_endI (rv := fun b : Int32 × OB => b.1) (wp := fun b : Int32 × OB => moW k va b.2) hx hb hr hlocks h rfl hP hD hS dX9_rests_187
  have B84 : ∀ a84 : (Int32 × Int32 × Int32 × Int32 × OB), lp (b_X9_rests_84 F) F a84 = some res → ∀ (H : Heap) (locs : List Loc) (ls : Array Slot), va_P D vwCl (moW k va a84.2.2.2.2) H → va_D A (moW k va a84.2.2.2.2) → va_S A s.heap H locs → lv_has ls 8 [(0, .ref (va 0)), (4, .int a84.1), (5, .int a84.2.1), (6, .int a84.2.2.1), (7, .int a84.2.2.2.1)] → W p l e (rmK 8 0 0) s m (List.toArray [.ref (va 0), .int x1, .int x2, .int x3, .int x4]) below meth c H locs 0 0 (MQ below (va_Qi (fun r (_ : Unit) => r = res.1) (hcB D (fun _ : Unit => moW k va res.2) A) A) (List.toArray [.ref (va 0), .int x1, .int x2, .int x3, .int x4]) s 0 0 A) (F0 m 84 ls []) := by
    refine lp_W ?_ F
    intro k84 hk84 a84 h H locs ls hP hD hS hl
    have hc84 : ∀ (v4 : Int32) (v5 : Int32) (v6 : Int32) (v7 : Int32) (mo : OB), k84 (v4, v5, v6, v7, mo) = some res → ∀ (H : Heap) (locs : List Loc) (ls : Array Slot), va_P D vwCl (moW k va mo) H → va_D A (moW k va mo) → va_S A s.heap H locs → lv_has ls 8 [(0, .ref (va 0)), (4, .int v4), (5, .int v5), (6, .int v6), (7, .int v7)] → W p l e (rmK 8 0 0) s m (List.toArray [.ref (va 0), .int x1, .int x2, .int x3, .int x4]) below meth c H locs 0 0 (MQ below (va_Qi (fun r (_ : Unit) => r = res.1) (hcB D (fun _ : Unit => moW k va res.2) A) A) (List.toArray [.ref (va 0), .int x1, .int x2, .int x3, .int x4]) s 0 0 A) (F0 m 84 ls []) := fun v4 v5 v6 v7 mo => hk84 (v4, v5, v6, v7, mo)
    have B145 : ∀ (v4 : Int32) (v5 : Int32) (v6 : Int32) (v7 : Int32) (mo : OB) (H : Heap) (locs : List Loc) (ls : Array Slot), b_X9_rests_145 F k84 v4 v5 v6 v7 mo = some res → va_P D vwCl (moW k va mo) H → va_D A (moW k va mo) → va_S A s.heap H locs → lv_has ls 8 [(0, .ref (va 0)), (4, .int v4), (5, .int v5), (6, .int v6), (7, .int v7)] → W p l e (rmK 8 0 0) s m (List.toArray [.ref (va 0), .int x1, .int x2, .int x3, .int x4]) below meth c H locs 0 0 (MQ below (va_Qi (fun r (_ : Unit) => r = res.1) (hcB D (fun _ : Unit => moW k va res.2) A) A) (List.toArray [.ref (va 0), .int x1, .int x2, .int x3, .int x4]) s 0 0 A) (F0 m 145 ls []) := by
      intro v4 v5 v6 v7 mo H locs ls h hP hD hS hl
      refine lv_iinc (v := (v7 + 1)) (lv' := [(7, .int (v7 + 1)), (0, .ref (va 0)), (4, .int v4), (5, .int v5), (6, .int v6)]) hx hb dX9_rests_145 hl (k := 4) rfl rfl (by decide) rfl (fun ls hl => ?_)
      refine lv_goto (tgt := 84) hx hb dX9_rests_148 (by decide) ?_
      exact hc84 _ _ _ _ _ h _ _ _ hP hD hS (lv_sub hl [1, 2, 3, 4, 0] rfl)
    have B140 : ∀ (v4 : Int32) (v5 : Int32) (v7 : Int32) (y0 : Int32) (mo : OB) (H : Heap) (locs : List Loc) (ls : Array Slot), b_X9_rests_140 F k84 v4 v5 v7 y0 mo = some res → va_P D vwCl (moW k va mo) H → va_D A (moW k va mo) → va_S A s.heap H locs → lv_has ls 8 [(0, .ref (va 0)), (4, .int v4), (5, .int v5), (7, .int v7)] → W p l e (rmK 8 0 0) s m (List.toArray [.ref (va 0), .int x1, .int x2, .int x3, .int x4]) below meth c H locs 0 0 (MQ below (va_Qi (fun r (_ : Unit) => r = res.1) (hcB D (fun _ : Unit => moW k va res.2) A) A) (List.toArray [.ref (va 0), .int x1, .int x2, .int x3, .int x4]) s 0 0 A) (F0 m 140 ls [.int y0]) := by
      intro v4 v5 v7 y0 mo H locs ls h hP hD hS hl
      refine lv_istore (lv' := [(6, .int y0), (0, .ref (va 0)), (4, .int v4), (5, .int v5), (7, .int v7)]) hx hb dX9_rests_140 hl (by decide) rfl (fun ls hl => ?_)
      refine lv_iinc (v := (v5 + 1)) (lv' := [(5, .int (v5 + 1)), (6, .int y0), (0, .ref (va 0)), (4, .int v4), (7, .int v7)]) hx hb dX9_rests_142 hl (k := 3) rfl rfl (by decide) rfl (fun ls hl => ?_)
      exact B145 _ _ _ _ _ _ _ _ h hP hD hS (lv_sub hl [2, 3, 0, 1, 4] rfl)
    refine lv_iload hx hb dX9_rests_84 (lv_at hl 4 rfl) ?_
    refine lv_iconst (v := 4) hx hb dX9_rests_86 (by decide) ?_
    refine lv_icmp_ge (tgt := 151) hx hb dX9_rests_87 (by decide) (fun c1 => ?_) (fun c1 => ?_)
    · have h := fw_t c1 h
      refine lv_iload hx hb dX9_rests_151 (lv_at hl 1 rfl) ?_
      refine lv_if_ne (tgt := 159) hx hb dX9_rests_153 (by decide) (fun c2 => ?_) (fun c2 => ?_)
      · have h := fw_f c2 h
        refine lv_iload hx hb dX9_rests_159 (lv_at hl 3 rfl) ?_
        refine lv_iconst (v := (-1)) hx hb dX9_rests_161 (by decide) ?_
        refine lv_icmp_ne (tgt := 170) hx hb dX9_rests_162 (by decide) (fun c3 => ?_) (fun c3 => ?_)
        · have h := fw_f c3 h
          refine lv_iload hx hb dX9_rests_170 (lv_at hl 1 rfl) ?_
          refine lv_iconst (v := 1) hx hb dX9_rests_172 (by decide) ?_
          refine lv_icmp_ne (tgt := 183) hx hb dX9_rests_173 (by decide) (fun c4 => ?_) (fun c4 => ?_)
          · have h := fw_f c4 h
            refine lv_iload hx hb dX9_rests_183 (lv_at hl 3 rfl) ?_
            refine lv_iconst (v := 2) hx hb dX9_rests_185 (by decide) ?_
            refine lv_irem hx hb dX9_rests_186 (by decide) ?_
            exact B187 _ _ _ _ _ h hP hD hS (lv_sub hl [] rfl)
          · have h := fw_t c4 h
            refine lv_iload hx hb dX9_rests_176 (lv_at hl 3 rfl) ?_
            refine lv_iconst (v := 2) hx hb dX9_rests_178 (by decide) ?_
            refine lv_idiv hx hb dX9_rests_179 (by decide) ?_
            refine lv_goto (tgt := 187) hx hb dX9_rests_180 (by decide) ?_
            exact B187 _ _ _ _ _ h hP hD hS (lv_sub hl [] rfl)
        · have h := fw_t c3 h
          refine lv_bipush (v := (-2)) hx hb dX9_rests_165 (by decide) ?_
          refine lv_goto (tgt := 187) hx hb dX9_rests_167 (by decide) ?_
          exact B187 _ _ _ _ _ h hP hD hS (lv_sub hl [] rfl)
      · have h := fw_t c2 h
        refine lv_iload hx hb dX9_rests_156 (lv_at hl 2 rfl) ?_
        exact fw_endI (rv := fun b : Int32 × OB => b.1) (wp := fun b : Int32 × OB => moW k va b.2) hx hb hr hlocks h rfl hP hD hS dX9_rests_158
    · have h := fw_f c1 h
      refine lv_aload_n hx hb dX9_rests_90 rfl (lv_at hl 0 rfl) ?_
      refine va_get (D := D) (ci := 7) (v := .ref (va 32)) (C := RX9) (T := TX9) (N := 53) hx hb hts in9 hown hG.1 hP 0 rfl rfl 45 (by decide) (hts (.fieldLink RX9 110 "ChairCaneModel" "firstHas" "[I") (mem_b bq_wsX9_rests 0 3 rfl)) (fun _ h9 => h9) rfl dX9_rests_91 ?_
      refine lv_iload hx hb dX9_rests_94 (lv_at hl 4 rfl) ?_
      refine lv_iconst (v := 2) hx hb dX9_rests_96 (by decide) ?_
      refine lv_ixor hx hb dX9_rests_97 ?_
      obtain ⟨g5, h⟩ := fw_g h
      refine va_iald hx hb hG.1 hP 32 0 rfl rfl (ib_vp g5) dX9_rests_98 ?_
      refine lv_aload_n hx hb dX9_rests_99 rfl (lv_at hl 0 rfl) ?_
      refine va_get (D := D) (ci := 7) (v := .ref (va 32)) (C := RX9) (T := TX9) (N := 53) hx hb hts in9 hown hG.1 hP 0 rfl rfl 45 (by decide) (hts (.fieldLink RX9 110 "ChairCaneModel" "firstHas" "[I") (mem_b bq_wsX9_rests 0 3 rfl)) (fun _ h9 => h9) rfl dX9_rests_100 ?_
      refine lv_iload hx hb dX9_rests_103 (lv_at hl 4 rfl) ?_
      obtain ⟨g6, h⟩ := fw_g h
      refine va_iald hx hb hG.1 hP 32 0 rfl rfl (ib_vp g6) dX9_rests_105 ?_
      refine lv_icmp_gt (tgt := 145) hx hb dX9_rests_106 (by decide) (fun c7 => ?_) (fun c7 => ?_)
      · have h := fw_t c7 h
        exact B145 _ _ _ _ _ _ _ _ h hP hD hS hl
      · have h := fw_f c7 h
        refine lv_aload_n hx hb dX9_rests_109 rfl (lv_at hl 0 rfl) ?_
        refine va_get (D := D) (ci := 7) (v := .ref (va 33)) (C := RX9) (T := TX9) (N := 53) hx hb hts in9 hown hG.1 hP 0 rfl rfl 46 (by decide) (hts (.fieldLink RX9 113 "ChairCaneModel" "secondHas" "[I") (mem_b bq_wsX9_rests 0 4 rfl)) (fun _ h9 => h9) rfl dX9_rests_110 ?_
        refine lv_iload hx hb dX9_rests_113 (lv_at hl 4 rfl) ?_
        refine lv_iconst (v := 1) hx hb dX9_rests_115 (by decide) ?_
        refine lv_ixor hx hb dX9_rests_116 ?_
        obtain ⟨g8, h⟩ := fw_g h
        refine va_iald hx hb hG.1 hP 33 0 rfl rfl (ib_vp g8) dX9_rests_117 ?_
        refine lv_aload_n hx hb dX9_rests_118 rfl (lv_at hl 0 rfl) ?_
        refine va_get (D := D) (ci := 7) (v := .ref (va 33)) (C := RX9) (T := TX9) (N := 53) hx hb hts in9 hown hG.1 hP 0 rfl rfl 46 (by decide) (hts (.fieldLink RX9 113 "ChairCaneModel" "secondHas" "[I") (mem_b bq_wsX9_rests 0 4 rfl)) (fun _ h9 => h9) rfl dX9_rests_119 ?_
        refine lv_iload hx hb dX9_rests_122 (lv_at hl 4 rfl) ?_
        refine va_iald hx hb hG.1 hP 33 0 rfl rfl (ib_vp g6) dX9_rests_124 ?_
        refine lv_icmp_gt (tgt := 145) hx hb dX9_rests_125 (by decide) (fun c9 => ?_) (fun c9 => ?_)
        · have h := fw_t c9 h
          exact B145 _ _ _ _ _ _ _ _ h hP hD hS hl
        · have h := fw_f c9 h
          refine lv_iload hx hb dX9_rests_128 (lv_at hl 2 rfl) ?_
          refine lv_if_ne (tgt := 138) hx hb dX9_rests_130 (by decide) (fun c10 => ?_) (fun c10 => ?_)
          · have h := fw_f c10 h
            refine lv_iload hx hb dX9_rests_138 (lv_at hl 3 rfl) ?_
            exact B140 _ _ _ _ _ _ _ _ h hP hD hS (lv_sub hl [0, 1, 2, 4] rfl)
          · have h := fw_t c10 h
            refine lv_iload hx hb dX9_rests_133 (lv_at hl 4 rfl) ?_
            refine lv_goto (tgt := 140) hx hb dX9_rests_135 (by decide) ?_
            exact B140 _ _ _ _ _ _ _ _ h hP hD hS (lv_sub hl [0, 1, 2, 4] rfl)
  have C84 : ∀ (v4 : Int32) (v5 : Int32) (v6 : Int32) (v7 : Int32) (mo : OB), lp (b_X9_rests_84 F) F (v4, v5, v6, v7, mo) = some res → ∀ (H : Heap) (locs : List Loc) (ls : Array Slot), va_P D vwCl (moW k va mo) H → va_D A (moW k va mo) → va_S A s.heap H locs → lv_has ls 8 [(0, .ref (va 0)), (4, .int v4), (5, .int v5), (6, .int v6), (7, .int v7)] → W p l e (rmK 8 0 0) s m (List.toArray [.ref (va 0), .int x1, .int x2, .int x3, .int x4]) below meth c H locs 0 0 (MQ below (va_Qi (fun r (_ : Unit) => r = res.1) (hcB D (fun _ : Unit => moW k va res.2) A) A) (List.toArray [.ref (va 0), .int x1, .int x2, .int x3, .int x4]) s 0 0 A) (F0 m 84 ls []) := fun v4 v5 v6 v7 mo => B84 (v4, v5, v6, v7, mo)
  refine lv_aload_n hx hb dX9_rests_0 rfl (lv_at hl 0 rfl) ?_
  refine lv_iload_n hx hb dX9_rests_1 rfl (lv_at hl 1 rfl) ?_
  refine fw_Vi (As := [.int x1]) (rest := []) (n := 1) (wr := []) (rv := fun b : Int32 => b) (wp := fun b : Int32 => moW k va mo) h hx hb hml hown hts hG hA hP hD hS hl.1 (List.range (moW k va mo).length) [] (fun q hq9 => c_X9_isSitter l D k _  va F x1 mo  hq9) (ci := 7) (q0 := 0) rfl rfl gX9_rests_X9_isSitter rfl ⟨rfl, rfl, Nat.le_of_ble_eq_true rfl, Nat.le_of_ble_eq_true rfl⟩ (by decide +kernel) (al_C _) rfl (al_n _) ⟨rfl, rfl, Nat.le_of_ble_eq_true rfl, Nat.le_of_ble_eq_true rfl, Nat.le_of_ble_eq_true rfl⟩ dX9_rests_2 (fun q11 H locs h hP hD hS => ?_)
  obtain ⟨hP, hD⟩ := cv (w' := moW k va mo) hP hD rfl
  refine hc_is (z := q11) rfl ?_
  refine lv_if_eq (tgt := 66) hx hb dX9_rests_5 (by decide) (fun c12 => ?_) (fun c12 => ?_)
  · have h := fw_t c12 h
    exact B66 _ _ _ _ h hP hD hS (lv_sub hl [] rfl)
  · have h := fw_f c12 h
    refine lv_aload_n hx hb dX9_rests_8 rfl (lv_at hl 0 rfl) ?_
    refine lv_iload_n hx hb dX9_rests_9 rfl (lv_at hl 2 rfl) ?_
    refine fw_Vi (As := [.int x2]) (rest := []) (n := 1) (wr := []) (rv := fun b : Int32 => b) (wp := fun b : Int32 => moW k va mo) h hx hb hml hown hts hG hA hP hD hS hl.1 (List.range (moW k va mo).length) [] (fun q hq9 => c_X9_isSitter l D k _  va F x2 mo  hq9) (ci := 7) (q0 := 0) rfl rfl gX9_rests_X9_isSitter rfl ⟨rfl, rfl, Nat.le_of_ble_eq_true rfl, Nat.le_of_ble_eq_true rfl⟩ (by decide +kernel) (al_C _) rfl (al_n _) ⟨rfl, rfl, Nat.le_of_ble_eq_true rfl, Nat.le_of_ble_eq_true rfl, Nat.le_of_ble_eq_true rfl⟩ dX9_rests_10 (fun q13 H locs h hP hD hS => ?_)
    obtain ⟨hP, hD⟩ := cv (w' := moW k va mo) hP hD rfl
    refine hc_is (z := q13) rfl ?_
    refine lv_if_eq (tgt := 66) hx hb dX9_rests_13 (by decide) (fun c14 => ?_) (fun c14 => ?_)
    · have h := fw_t c14 h
      exact B66 _ _ _ _ h hP hD hS (lv_sub hl [] rfl)
    · have h := fw_f c14 h
      refine lv_iload_n hx hb dX9_rests_16 rfl (lv_at hl 1 rfl) ?_
      refine lv_iload_n hx hb dX9_rests_17 rfl (lv_at hl 2 rfl) ?_
      refine lv_icmp_eq (tgt := 66) hx hb dX9_rests_18 (by decide) (fun c15 => ?_) (fun c15 => ?_)
      · have h := fw_t c15 h
        exact B66 _ _ _ _ h hP hD hS (lv_sub hl [] rfl)
      · have h := fw_f c15 h
        refine lv_aload_n hx hb dX9_rests_21 rfl (lv_at hl 0 rfl) ?_
        refine va_get (D := D) (ci := 7) (v := .ref (va 3)) (C := RX9) (T := TX9) (N := 53) hx hb hts in9 hown hG.1 hP 0 rfl rfl 3 (by decide) (hts (.fieldLink RX9 16 "ChairCaneModel" "is" "[I") (mem_b bq_wsX9_rests 0 0 rfl)) (fun _ h9 => h9) rfl dX9_rests_22 ?_
        refine lv_iload_n hx hb dX9_rests_25 rfl (lv_at hl 1 rfl) ?_
        obtain ⟨g16, h⟩ := fw_g h
        refine va_iald hx hb hG.1 hP 3 0 rfl rfl (ib_vp g16) dX9_rests_26 ?_
        refine lv_iconst (v := 2) hx hb dX9_rests_27 (by decide) ?_
        refine lv_icmp_eq (tgt := 66) hx hb dX9_rests_28 (by decide) (fun c17 => ?_) (fun c17 => ?_)
        · have h := fw_t c17 h
          exact B66 _ _ _ _ h hP hD hS (lv_sub hl [] rfl)
        · have h := fw_f c17 h
          refine lv_aload_n hx hb dX9_rests_31 rfl (lv_at hl 0 rfl) ?_
          refine va_get (D := D) (ci := 7) (v := .ref (va 3)) (C := RX9) (T := TX9) (N := 53) hx hb hts in9 hown hG.1 hP 0 rfl rfl 3 (by decide) (hts (.fieldLink RX9 16 "ChairCaneModel" "is" "[I") (mem_b bq_wsX9_rests 0 0 rfl)) (fun _ h9 => h9) rfl dX9_rests_32 ?_
          refine lv_iload_n hx hb dX9_rests_35 rfl (lv_at hl 2 rfl) ?_
          obtain ⟨g18, h⟩ := fw_g h
          refine va_iald hx hb hG.1 hP 3 0 rfl rfl (ib_vp g18) dX9_rests_36 ?_
          refine lv_iconst (v := 2) hx hb dX9_rests_37 (by decide) ?_
          refine lv_icmp_eq (tgt := 66) hx hb dX9_rests_38 (by decide) (fun c19 => ?_) (fun c19 => ?_)
          · have h := fw_t c19 h
            exact B66 _ _ _ _ h hP hD hS (lv_sub hl [] rfl)
          · have h := fw_f c19 h
            refine lv_iload_n hx hb dX9_rests_41 rfl (lv_at hl 3 rfl) ?_
            refine lv_i2l hx hb dX9_rests_42 rfl ?_
            refine lv_lconst (v := 1) hx hb dX9_rests_43 (by decide) ?_
            refine lv_ldc2 (v := 20) hx hb hown (hts (.constantLong RX9 440 (20)) (mem_b bq_wsX9_rests 0 1 rfl)) dX9_rests_44 ?_
            refine fw_Si (As := [.long (Int32.toInt64 x3), .long 1, .long 20]) (rest := []) (n := 3) (wr := moW k va mo) (rv := fun b : Int32 => b) (wp := fun b : Int32 => []) h hx hb hml hown hts hG hA hP hD hS hl.1 [] (List.range (moW k va mo).length) (fun q hq9 => c_X9_in l D k _   F (Int32.toInt64 x3) 1 20   hq9) gX9_rests_X9_in rfl ⟨rfl, rfl, Nat.le_of_ble_eq_true rfl, Nat.le_of_ble_eq_true rfl⟩ (by decide +kernel) rfl (al_C _) (al_m _) ⟨rfl, rfl, Nat.le_of_ble_eq_true rfl, Nat.le_of_ble_eq_true rfl, Nat.le_of_ble_eq_true rfl⟩ dX9_rests_47 (fun q20 H locs h hP hD hS => ?_)
            obtain ⟨hP, hD⟩ := cv (w' := (moW k va mo) ++ []) hP hD rfl
            rw [List.append_nil] at hP hD
            refine hc_is (z := q20) rfl ?_
            refine lv_if_eq (tgt := 66) hx hb dX9_rests_50 (by decide) (fun c21 => ?_) (fun c21 => ?_)
            · have h := fw_t c21 h
              exact B66 _ _ _ _ h hP hD hS (lv_sub hl [] rfl)
            · have h := fw_f c21 h
              refine lv_iload hx hb dX9_rests_53 (lv_at hl 4 rfl) ?_
              refine lv_i2l hx hb dX9_rests_55 rfl ?_
              refine lv_lconst (v := 0) hx hb dX9_rests_56 (by decide) ?_
              refine lv_ldc2 (v := 2) hx hb hown (hts (.constantLong RX9 365 (2)) (mem_b bq_wsX9_rests 0 2 rfl)) dX9_rests_57 ?_
              refine fw_Si (As := [.long (Int32.toInt64 x4), .long 0, .long 2]) (rest := []) (n := 3) (wr := moW k va mo) (rv := fun b : Int32 => b) (wp := fun b : Int32 => []) h hx hb hml hown hts hG hA hP hD hS hl.1 [] (List.range (moW k va mo).length) (fun q hq9 => c_X9_in l D k _   F (Int32.toInt64 x4) 0 2   hq9) gX9_rests_X9_in rfl ⟨rfl, rfl, Nat.le_of_ble_eq_true rfl, Nat.le_of_ble_eq_true rfl⟩ (by decide +kernel) rfl (al_C _) (al_m _) ⟨rfl, rfl, Nat.le_of_ble_eq_true rfl, Nat.le_of_ble_eq_true rfl, Nat.le_of_ble_eq_true rfl⟩ dX9_rests_60 (fun q22 H locs h hP hD hS => ?_)
              obtain ⟨hP, hD⟩ := cv (w' := (moW k va mo) ++ []) hP hD rfl
              rw [List.append_nil] at hP hD
              refine hc_is (z := q22) rfl ?_
              refine lv_if_ne (tgt := 68) hx hb dX9_rests_63 (by decide) (fun c23 => ?_) (fun c23 => ?_)
              · have h := fw_f c23 h
                refine lv_aload_n hx hb dX9_rests_68 rfl (lv_at hl 0 rfl) ?_
                refine lv_iload_n hx hb dX9_rests_69 rfl (lv_at hl 1 rfl) ?_
                refine lv_iload_n hx hb dX9_rests_70 rfl (lv_at hl 2 rfl) ?_
                refine lv_iload_n hx hb dX9_rests_71 rfl (lv_at hl 3 rfl) ?_
                refine fw_Vv (As := [.int x1, .int x2, .int x3]) (rest := []) (n := 3) (wr := []) (wp := fun b : OB => moW k va b) h hx hb hml hown hts hG hA hP hD hS hl.1 (List.range (moW k va mo).length) [] (fun q hq9 => c_X9_laysWays l D k _  va F x1 x2 x3 mo  hq9) (ci := 7) (q0 := 0) rfl rfl gX9_rests_X9_laysWays rfl ⟨rfl, rfl, Nat.le_of_ble_eq_true rfl, Nat.le_of_ble_eq_true rfl⟩ (by decide +kernel) (al_C _) rfl (al_n _) ⟨rfl, rfl, Nat.le_of_ble_eq_true rfl, Nat.le_of_ble_eq_true rfl, Nat.le_of_ble_eq_true rfl⟩ dX9_rests_72 (fun q24 H locs h hP hD hS => ?_)
                obtain ⟨hP, hD⟩ := cv (w' := moW k va q24) hP hD rfl
                refine lv_iconst (v := 0) hx hb dX9_rests_75 (by decide) ?_
                refine lv_istore (lv' := [(5, .int 0), (0, .ref (va 0)), (1, .int x1), (2, .int x2), (3, .int x3), (4, .int x4)]) hx hb dX9_rests_76 hl (by decide) rfl (fun ls hl => ?_)
                refine lv_iconst (v := (-1)) hx hb dX9_rests_78 (by decide) ?_
                refine lv_istore (lv' := [(6, .int (-1)), (5, .int 0), (0, .ref (va 0)), (1, .int x1), (2, .int x2), (3, .int x3), (4, .int x4)]) hx hb dX9_rests_79 hl (by decide) rfl (fun ls hl => ?_)
                refine lv_iconst (v := 0) hx hb dX9_rests_81 (by decide) ?_
                refine lv_istore (lv' := [(7, .int 0), (6, .int (-1)), (5, .int 0), (0, .ref (va 0)), (1, .int x1), (2, .int x2), (3, .int x3), (4, .int x4)]) hx hb dX9_rests_82 hl (by decide) rfl (fun ls hl => ?_)
                exact C84 _ _ _ _ _ h _ _ _ hP hD hS (lv_sub hl [3, 7, 2, 1, 0] rfl)
              · have h := fw_t c23 h
                exact B66 _ _ _ _ h hP hD hS (lv_sub hl [] rfl)
noncomputable def b_X9_laysAll_10 (F : Nat)   (k2 : (Int32 × OB) → Option (OB)) (k10 : (Int32 × Int32 × OB) → Option (OB)) (a10 : (Int32 × Int32 × OB)) : Option (OB) :=
  if 8 ≤ a10.2.1 then (Option.bind (f_X9_goes F a10.2.2) (fun q2 => (k2 ((a10.1 + 1), q2.2)))) else (if ib a10.2.1 8 then (if ib ((8 * a10.1) + a10.2.1) 488 then (k10 (a10.1, (a10.2.1 + 1), (a10.2.2.1, (uF a10.2.2.2.1 47 (upd (a10.2.2.2.1 47) (Int32.toNatClampNeg ((8 * a10.1) + a10.2.1)) ((a10.2.2.2.1 3) (Int32.toNatClampNeg a10.2.1)))), a10.2.2.2.2))) else none) else none)
noncomputable def b_X9_laysAll_2 (F : Nat)    (k2 : (Int32 × OB) → Option (OB)) (a2 : (Int32 × OB)) : Option (OB) :=
  if 60 < a2.1 then (some a2.2) else (lp (b_X9_laysAll_10 F k2) F (a2.1, 0, a2.2))
noncomputable def f_X9_laysAll (F : Nat)   (mo : OB) : Option (OB) :=
  lp (b_X9_laysAll_2 F) F (0, mo)
set_option maxHeartbeats 4000000 in
set_option maxRecDepth 100000 in
theorem c_X9_laysAll (l : Launch) (D : va_G) (k : Nat → ClassId) (sz : Nat)  (va : Nat → Nat) (F : Nat)   (mo : OB)  {res : OB} (h : f_X9_laysAll F mo = some res) : CtV l yX9_laysAll wsX9_laysAll (rmK 7 0 0) [.ref (va 0)] D k sz (moW k va mo) (fun (_ : Unit) => True) (fun _ : Unit => moW k va res) 0 0 := by
  refine CtV.mk (cc := cX9_laysAll) (maxL := 3) (ret := none) (by decide) rfl (Nat.le_of_ble_eq_true rfl) ?_
  intro p e s m below meth c A ls E hP hD hS hl
  obtain ⟨hx, hb, hr, hml, hown, hts, hlocks, hin, hG, hA⟩ := E
  have hown : s.vm.findClass RX9 = some m.cls := hown
  have in9 : ∀ w ∈ u_ws RX9 TX9 53, w ∈ wsX9_laysAll := fun _ h => List.mem_cons_of_mem _ (List.mem_append_right _ h)
  have hl : lv_has ls 3 [(0, .ref (va 0))] := hl
  have B2 : ∀ a2 : (Int32 × OB), lp (b_X9_laysAll_2 F) F a2 = some res → ∀ (H : Heap) (locs : List Loc) (ls : Array Slot), va_P D vwCl (moW k va a2.2) H → va_D A (moW k va a2.2) → va_S A s.heap H locs → lv_has ls 3 [(0, .ref (va 0)), (1, .int a2.1)] → W p l e (rmK 7 0 0) s m (List.toArray [.ref (va 0)]) below meth c H locs 0 0 (MQ below (va_Qv (fun (_ : Unit) => True) (hcB D (fun _ : Unit => moW k va res) A) A) (List.toArray [.ref (va 0)]) s 0 0 A) (F0 m 2 ls []) := by
    refine lp_W ?_ F
    intro k2 hk2 a2 h H locs ls hP hD hS hl
    have hc2 : ∀ (v1 : Int32) (mo : OB), k2 (v1, mo) = some res → ∀ (H : Heap) (locs : List Loc) (ls : Array Slot), va_P D vwCl (moW k va mo) H → va_D A (moW k va mo) → va_S A s.heap H locs → lv_has ls 3 [(0, .ref (va 0)), (1, .int v1)] → W p l e (rmK 7 0 0) s m (List.toArray [.ref (va 0)]) below meth c H locs 0 0 (MQ below (va_Qv (fun (_ : Unit) => True) (hcB D (fun _ : Unit => moW k va res) A) A) (List.toArray [.ref (va 0)]) s 0 0 A) (F0 m 2 ls []) := fun v1 mo => hk2 (v1, mo)
    have B10 : ∀ a10 : (Int32 × Int32 × OB), lp (b_X9_laysAll_10 F k2) F a10 = some res → ∀ (H : Heap) (locs : List Loc) (ls : Array Slot), va_P D vwCl (moW k va a10.2.2) H → va_D A (moW k va a10.2.2) → va_S A s.heap H locs → lv_has ls 3 [(0, .ref (va 0)), (1, .int a10.1), (2, .int a10.2.1)] → W p l e (rmK 7 0 0) s m (List.toArray [.ref (va 0)]) below meth c H locs 0 0 (MQ below (va_Qv (fun (_ : Unit) => True) (hcB D (fun _ : Unit => moW k va res) A) A) (List.toArray [.ref (va 0)]) s 0 0 A) (F0 m 10 ls []) := by
      refine lp_W ?_ F
      intro k10 hk10 a10 h H locs ls hP hD hS hl
      have hc10 : ∀ (v1 : Int32) (v2 : Int32) (mo : OB), k10 (v1, v2, mo) = some res → ∀ (H : Heap) (locs : List Loc) (ls : Array Slot), va_P D vwCl (moW k va mo) H → va_D A (moW k va mo) → va_S A s.heap H locs → lv_has ls 3 [(0, .ref (va 0)), (1, .int v1), (2, .int v2)] → W p l e (rmK 7 0 0) s m (List.toArray [.ref (va 0)]) below meth c H locs 0 0 (MQ below (va_Qv (fun (_ : Unit) => True) (hcB D (fun _ : Unit => moW k va res) A) A) (List.toArray [.ref (va 0)]) s 0 0 A) (F0 m 10 ls []) := fun v1 v2 mo => hk10 (v1, v2, mo)
      refine lv_iload_n hx hb dX9_laysAll_10 rfl (lv_at hl 2 rfl) ?_
      refine lv_bipush (v := 8) hx hb dX9_laysAll_11 (by decide) ?_
      refine lv_icmp_ge (tgt := 39) hx hb dX9_laysAll_13 (by decide) (fun c1 => ?_) (fun c1 => ?_)
      · have h := fw_t c1 h
        refine lv_aload_n hx hb dX9_laysAll_39 rfl (lv_at hl 0 rfl) ?_
        refine fw_Vi (As := []) (rest := []) (n := 0) (wr := []) (rv := fun b : Int32 × OB => b.1) (wp := fun b : Int32 × OB => moW k va b.2) h hx hb hml hown hts hG hA hP hD hS hl.1 (List.range (moW k va a10.2.2).length) [] (fun q hq9 => c_X9_goes l D k _  va F  a10.2.2  hq9) (ci := 7) (q0 := 0) rfl rfl gX9_laysAll_X9_goes rfl ⟨rfl, rfl, Nat.le_of_ble_eq_true rfl, Nat.le_of_ble_eq_true rfl⟩ (by decide +kernel) (al_C _) rfl (al_n _) ⟨rfl, rfl, Nat.le_of_ble_eq_true rfl, Nat.le_of_ble_eq_true rfl, Nat.le_of_ble_eq_true rfl⟩ dX9_laysAll_40 (fun q2 H locs h hP hD hS => ?_)
        obtain ⟨hP, hD⟩ := cv (w' := moW k va q2.2) hP hD rfl
        refine hc_is (z := q2.1) rfl ?_
        refine lv_pop hx hb dX9_laysAll_43 rfl ?_
        refine lv_iinc (v := (a10.1 + 1)) (lv' := [(1, .int (a10.1 + 1)), (0, .ref (va 0)), (2, .int a10.2.1)]) hx hb dX9_laysAll_44 hl (k := 1) rfl rfl (by decide) rfl (fun ls hl => ?_)
        refine lv_goto (tgt := 2) hx hb dX9_laysAll_47 (by decide) ?_
        exact hc2 _ _ h _ _ _ hP hD hS (lv_sub hl [1, 0] rfl)
      · have h := fw_f c1 h
        refine lv_aload_n hx hb dX9_laysAll_16 rfl (lv_at hl 0 rfl) ?_
        refine va_get (D := D) (ci := 7) (v := .ref (va 34)) (C := RX9) (T := TX9) (N := 53) hx hb hts in9 hown hG.1 hP 0 rfl rfl 47 (by decide) (hts (.fieldLink RX9 116 "ChairCaneModel" "lay" "[I") (mem_b bq_wsX9_laysAll 0 0 rfl)) (fun _ h9 => h9) rfl dX9_laysAll_17 ?_
        refine lv_bipush (v := 8) hx hb dX9_laysAll_20 (by decide) ?_
        refine lv_iload_n hx hb dX9_laysAll_22 rfl (lv_at hl 1 rfl) ?_
        refine lv_imul hx hb dX9_laysAll_23 ?_
        refine lv_iload_n hx hb dX9_laysAll_24 rfl (lv_at hl 2 rfl) ?_
        refine lv_iadd hx hb dX9_laysAll_25 ?_
        refine lv_aload_n hx hb dX9_laysAll_26 rfl (lv_at hl 0 rfl) ?_
        refine va_get (D := D) (ci := 7) (v := .ref (va 3)) (C := RX9) (T := TX9) (N := 53) hx hb hts in9 hown hG.1 hP 0 rfl rfl 3 (by decide) (hts (.fieldLink RX9 16 "ChairCaneModel" "is" "[I") (mem_b bq_wsX9_laysAll 0 1 rfl)) (fun _ h9 => h9) rfl dX9_laysAll_27 ?_
        refine lv_iload_n hx hb dX9_laysAll_30 rfl (lv_at hl 2 rfl) ?_
        obtain ⟨g3, h⟩ := fw_g h
        refine va_iald hx hb hG.1 hP 3 0 rfl rfl (ib_vp g3) dX9_laysAll_31 ?_
        obtain ⟨g4, h⟩ := fw_g h
        refine va_iast hx hb hG.1 hP hD hS 34 0 rfl rfl (ib_vp g4) dX9_laysAll_32 (fun H locs hP hD hS => ?_)
        refine lv_iinc (v := (a10.2.1 + 1)) (lv' := [(2, .int (a10.2.1 + 1)), (0, .ref (va 0)), (1, .int a10.1)]) hx hb dX9_laysAll_33 hl (k := 2) rfl rfl (by decide) rfl (fun ls hl => ?_)
        refine lv_goto (tgt := 10) hx hb dX9_laysAll_36 (by decide) ?_
        exact hc10 _ _ _ h _ _ _ hP hD hS (lv_sub hl [1, 2, 0] rfl)
    have C10 : ∀ (v1 : Int32) (v2 : Int32) (mo : OB), lp (b_X9_laysAll_10 F k2) F (v1, v2, mo) = some res → ∀ (H : Heap) (locs : List Loc) (ls : Array Slot), va_P D vwCl (moW k va mo) H → va_D A (moW k va mo) → va_S A s.heap H locs → lv_has ls 3 [(0, .ref (va 0)), (1, .int v1), (2, .int v2)] → W p l e (rmK 7 0 0) s m (List.toArray [.ref (va 0)]) below meth c H locs 0 0 (MQ below (va_Qv (fun (_ : Unit) => True) (hcB D (fun _ : Unit => moW k va res) A) A) (List.toArray [.ref (va 0)]) s 0 0 A) (F0 m 10 ls []) := fun v1 v2 mo => B10 (v1, v2, mo)
    refine lv_iload_n hx hb dX9_laysAll_2 rfl (lv_at hl 1 rfl) ?_
    refine lv_bipush (v := 60) hx hb dX9_laysAll_3 (by decide) ?_
    refine lv_icmp_gt (tgt := 50) hx hb dX9_laysAll_5 (by decide) (fun c5 => ?_) (fun c5 => ?_)
    · have h := fw_t c5 h
      exact fw_endV (wp := fun b : OB => moW k va b) hx hb hr hlocks h hP hD hS dX9_laysAll_50
    · have h := fw_f c5 h
      refine lv_iconst (v := 0) hx hb dX9_laysAll_8 (by decide) ?_
      refine lv_istore_n (lv' := [(2, .int 0), (0, .ref (va 0)), (1, .int a2.1)]) hx hb dX9_laysAll_9 rfl hl (by decide) rfl (fun ls hl => ?_)
      exact C10 _ _ _ h _ _ _ hP hD hS (lv_sub hl [1, 2, 0] rfl)
  have C2 : ∀ (v1 : Int32) (mo : OB), lp (b_X9_laysAll_2 F) F (v1, mo) = some res → ∀ (H : Heap) (locs : List Loc) (ls : Array Slot), va_P D vwCl (moW k va mo) H → va_D A (moW k va mo) → va_S A s.heap H locs → lv_has ls 3 [(0, .ref (va 0)), (1, .int v1)] → W p l e (rmK 7 0 0) s m (List.toArray [.ref (va 0)]) below meth c H locs 0 0 (MQ below (va_Qv (fun (_ : Unit) => True) (hcB D (fun _ : Unit => moW k va res) A) A) (List.toArray [.ref (va 0)]) s 0 0 A) (F0 m 2 ls []) := fun v1 mo => B2 (v1, mo)
  refine lv_iconst (v := 0) hx hb dX9_laysAll_0 (by decide) ?_
  refine lv_istore_n (lv' := [(1, .int 0), (0, .ref (va 0))]) hx hb dX9_laysAll_1 rfl hl (by decide) rfl (fun ls hl => ?_)
  exact C2 _ _ h _ _ _ hP hD hS (lv_sub hl [1, 0] rfl)
noncomputable def b_X9_isAlike_2 (F : Nat)  (mo : OB)  (k2 : (Int32 × Int32 × Int32) → Option (Int32)) (a2 : (Int32 × Int32 × Int32)) : Option (Int32) :=
  if ((mo.2.1 1) (Int32.toNatClampNeg 3)) ≤ a2.2.2 then (some 1) else (if ib ((8 * a2.1) + a2.2.2) 488 then (if ib ((8 * a2.2.1) + a2.2.2) 488 then (if ((mo.2.1 47) (Int32.toNatClampNeg ((8 * a2.1) + a2.2.2))) = ((mo.2.1 47) (Int32.toNatClampNeg ((8 * a2.2.1) + a2.2.2))) then (k2 (a2.1, a2.2.1, (a2.2.2 + 1))) else (some 0)) else none) else none)
noncomputable def f_X9_isAlike (F : Nat)  (x1 : Int32) (x2 : Int32) (mo : OB) : Option (Int32) :=
  lp (b_X9_isAlike_2 F mo) F (x1, x2, 0)
set_option maxRecDepth 20000 in
theorem bq_wsX9_isAlike : subq wsX9_isAlike [[.fieldLink RX9 9 "ChairCaneModel" "scalar" "[I", .fieldLink RX9 116 "ChairCaneModel" "lay" "[I"]] := ⟨(fun _ h => (List.mem_cons_of_mem _ (List.mem_append_left _ h))), trivial⟩
set_option maxHeartbeats 4000000 in
set_option maxRecDepth 100000 in
theorem c_X9_isAlike (l : Launch) (D : va_G) (k : Nat → ClassId) (sz : Nat)  (va : Nat → Nat) (F : Nat)  (x1 : Int32) (x2 : Int32) (mo : OB)  {res : Int32} (h : f_X9_isAlike F x1 x2 mo = some res) : CtI l yX9_isAlike wsX9_isAlike (rmK 1 0 0) [.ref (va 0), .int x1, .int x2] D k sz (moW k va mo) (fun r (_ : Unit) => r = res) (fun _ : Unit => moW k va mo) 0 0 := by
  refine CtI.mk (cc := cX9_isAlike) (maxL := 4) (ret := (some .boolean)) (by decide) rfl (Nat.le_of_ble_eq_true rfl) ?_
  intro p e s m below meth c A ls E hP hD hS hl
  obtain ⟨hx, hb, hr, hml, hown, hts, hlocks, hin, hG, hA⟩ := E
  have hown : s.vm.findClass RX9 = some m.cls := hown
  have in9 : ∀ w ∈ u_ws RX9 TX9 53, w ∈ wsX9_isAlike := fun _ h => List.mem_cons_of_mem _ (List.mem_append_right _ h)
  have hl : lv_has ls 4 [(0, .ref (va 0)), (1, .int x1), (2, .int x2)] := hl
  have B2 : ∀ a2 : (Int32 × Int32 × Int32), lp (b_X9_isAlike_2 F mo) F a2 = some res → ∀ (H : Heap) (locs : List Loc) (ls : Array Slot), va_P D vwCl (moW k va mo) H → va_D A (moW k va mo) → va_S A s.heap H locs → lv_has ls 4 [(0, .ref (va 0)), (1, .int a2.1), (2, .int a2.2.1), (3, .int a2.2.2)] → W p l e (rmK 1 0 0) s m (List.toArray [.ref (va 0), .int x1, .int x2]) below meth c H locs 0 0 (MQ below (va_Qi (fun r (_ : Unit) => r = res) (hcB D (fun _ : Unit => moW k va mo) A) A) (List.toArray [.ref (va 0), .int x1, .int x2]) s 0 0 A) (F0 m 2 ls []) := by
    refine lp_W ?_ F
    intro k2 hk2 a2 h H locs ls hP hD hS hl
    have hc2 : ∀ (v1 : Int32) (v2 : Int32) (v3 : Int32), k2 (v1, v2, v3) = some res → ∀ (H : Heap) (locs : List Loc) (ls : Array Slot), va_P D vwCl (moW k va mo) H → va_D A (moW k va mo) → va_S A s.heap H locs → lv_has ls 4 [(0, .ref (va 0)), (1, .int v1), (2, .int v2), (3, .int v3)] → W p l e (rmK 1 0 0) s m (List.toArray [.ref (va 0), .int x1, .int x2]) below meth c H locs 0 0 (MQ below (va_Qi (fun r (_ : Unit) => r = res) (hcB D (fun _ : Unit => moW k va mo) A) A) (List.toArray [.ref (va 0), .int x1, .int x2]) s 0 0 A) (F0 m 2 ls []) := fun v1 v2 v3 => hk2 (v1, v2, v3)
    refine lv_iload_n hx hb dX9_isAlike_2 rfl (lv_at hl 3 rfl) ?_
    refine lv_aload_n hx hb dX9_isAlike_3 rfl (lv_at hl 0 rfl) ?_
    refine va_get (D := D) (ci := 7) (v := .ref (va 1)) (C := RX9) (T := TX9) (N := 53) hx hb hts in9 hown hG.1 hP 0 rfl rfl 1 (by decide) (hts (.fieldLink RX9 9 "ChairCaneModel" "scalar" "[I") (mem_b bq_wsX9_isAlike 0 0 rfl)) (fun _ h9 => h9) rfl dX9_isAlike_4 ?_
    refine lv_iconst (v := 3) hx hb dX9_isAlike_7 (by decide) ?_
    refine va_iald hx hb hG.1 hP 1 0 rfl rfl (by unfold vp_in; decide) dX9_isAlike_8 ?_
    refine lv_icmp_ge (tgt := 45) hx hb dX9_isAlike_9 (by decide) (fun c1 => ?_) (fun c1 => ?_)
    · have h := fw_t c1 h
      refine lv_iconst (v := 1) hx hb dX9_isAlike_45 (by decide) ?_
      exact fw_endZ (v := 1) (rv := fun b : Int32 => b) (wp := fun b : Int32 => moW k va mo) hx hb hr hlocks h rfl rfl hP hD hS dX9_isAlike_46
    · have h := fw_f c1 h
      refine lv_aload_n hx hb dX9_isAlike_12 rfl (lv_at hl 0 rfl) ?_
      refine va_get (D := D) (ci := 7) (v := .ref (va 34)) (C := RX9) (T := TX9) (N := 53) hx hb hts in9 hown hG.1 hP 0 rfl rfl 47 (by decide) (hts (.fieldLink RX9 116 "ChairCaneModel" "lay" "[I") (mem_b bq_wsX9_isAlike 0 1 rfl)) (fun _ h9 => h9) rfl dX9_isAlike_13 ?_
      refine lv_bipush (v := 8) hx hb dX9_isAlike_16 (by decide) ?_
      refine lv_iload_n hx hb dX9_isAlike_18 rfl (lv_at hl 1 rfl) ?_
      refine lv_imul hx hb dX9_isAlike_19 ?_
      refine lv_iload_n hx hb dX9_isAlike_20 rfl (lv_at hl 3 rfl) ?_
      refine lv_iadd hx hb dX9_isAlike_21 ?_
      obtain ⟨g2, h⟩ := fw_g h
      refine va_iald hx hb hG.1 hP 34 0 rfl rfl (ib_vp g2) dX9_isAlike_22 ?_
      refine lv_aload_n hx hb dX9_isAlike_23 rfl (lv_at hl 0 rfl) ?_
      refine va_get (D := D) (ci := 7) (v := .ref (va 34)) (C := RX9) (T := TX9) (N := 53) hx hb hts in9 hown hG.1 hP 0 rfl rfl 47 (by decide) (hts (.fieldLink RX9 116 "ChairCaneModel" "lay" "[I") (mem_b bq_wsX9_isAlike 0 1 rfl)) (fun _ h9 => h9) rfl dX9_isAlike_24 ?_
      refine lv_bipush (v := 8) hx hb dX9_isAlike_27 (by decide) ?_
      refine lv_iload_n hx hb dX9_isAlike_29 rfl (lv_at hl 2 rfl) ?_
      refine lv_imul hx hb dX9_isAlike_30 ?_
      refine lv_iload_n hx hb dX9_isAlike_31 rfl (lv_at hl 3 rfl) ?_
      refine lv_iadd hx hb dX9_isAlike_32 ?_
      obtain ⟨g3, h⟩ := fw_g h
      refine va_iald hx hb hG.1 hP 34 0 rfl rfl (ib_vp g3) dX9_isAlike_33 ?_
      refine lv_icmp_eq (tgt := 39) hx hb dX9_isAlike_34 (by decide) (fun c4 => ?_) (fun c4 => ?_)
      · have h := fw_t c4 h
        refine lv_iinc (v := (a2.2.2 + 1)) (lv' := [(3, .int (a2.2.2 + 1)), (0, .ref (va 0)), (1, .int a2.1), (2, .int a2.2.1)]) hx hb dX9_isAlike_39 hl (k := 3) rfl rfl (by decide) rfl (fun ls hl => ?_)
        refine lv_goto (tgt := 2) hx hb dX9_isAlike_42 (by decide) ?_
        exact hc2 _ _ _ h _ _ _ hP hD hS (lv_sub hl [1, 2, 3, 0] rfl)
      · have h := fw_f c4 h
        refine lv_iconst (v := 0) hx hb dX9_isAlike_37 (by decide) ?_
        exact fw_endZ (v := 0) (rv := fun b : Int32 => b) (wp := fun b : Int32 => moW k va mo) hx hb hr hlocks h rfl rfl hP hD hS dX9_isAlike_38
  have C2 : ∀ (v1 : Int32) (v2 : Int32) (v3 : Int32), lp (b_X9_isAlike_2 F mo) F (v1, v2, v3) = some res → ∀ (H : Heap) (locs : List Loc) (ls : Array Slot), va_P D vwCl (moW k va mo) H → va_D A (moW k va mo) → va_S A s.heap H locs → lv_has ls 4 [(0, .ref (va 0)), (1, .int v1), (2, .int v2), (3, .int v3)] → W p l e (rmK 1 0 0) s m (List.toArray [.ref (va 0), .int x1, .int x2]) below meth c H locs 0 0 (MQ below (va_Qi (fun r (_ : Unit) => r = res) (hcB D (fun _ : Unit => moW k va mo) A) A) (List.toArray [.ref (va 0), .int x1, .int x2]) s 0 0 A) (F0 m 2 ls []) := fun v1 v2 v3 => B2 (v1, v2, v3)
  refine lv_iconst (v := 0) hx hb dX9_isAlike_0 (by decide) ?_
  refine lv_istore_n (lv' := [(3, .int 0), (0, .ref (va 0)), (1, .int x1), (2, .int x2)]) hx hb dX9_isAlike_1 rfl hl (by decide) rfl (fun ls hl => ?_)
  exact C2 _ _ _ h _ _ _ hP hD hS (lv_sub hl [1, 2, 3, 0] rfl)
noncomputable def b_X9_ring_17 (F : Nat)    (mo : OB) : Option (Int32 × OB) :=
  some ((-1), mo)
noncomputable def b_X9_ring_76 (F : Nat)    (y0 : Int32) (mo : OB) : Option (Int32 × OB) :=
  some (y0, mo)
noncomputable def b_X9_ring_43 (F : Nat)   (k33 : (Int32 × Int32 × OB) → Option (Int32 × OB)) (k43 : (Int32 × Int32 × Int32 × OB) → Option (Int32 × OB)) (a43 : (Int32 × Int32 × Int32 × OB)) : Option (Int32 × OB) :=
  if 60 < a43.2.2.1 then (k33 (a43.1, (a43.2.1 + 1), a43.2.2.2)) else (Option.bind (f_X9_isAlike F a43.2.1 a43.2.2.1 a43.2.2.2) (fun q2 => (if q2 = 0 then (k43 (a43.1, a43.2.1, (a43.2.2.1 + 1), a43.2.2.2)) else (if a43.1 = 0 then (b_X9_ring_76 F (((a43.2.2.2.2.1 1) (Int32.toNatClampNeg 4)) + a43.2.1) a43.2.2.2) else (b_X9_ring_76 F (a43.2.2.1 - a43.2.1) a43.2.2.2)))))
noncomputable def b_X9_ring_33 (F : Nat)    (k33 : (Int32 × Int32 × OB) → Option (Int32 × OB)) (a33 : (Int32 × Int32 × OB)) : Option (Int32 × OB) :=
  if 60 ≤ a33.2.1 then (some ((-2), a33.2.2)) else (lp (b_X9_ring_43 F k33) F (a33.1, a33.2.1, (a33.2.1 + 1), a33.2.2))
noncomputable def f_X9_ring (F : Nat)  (x1 : Int32) (mo : OB) : Option (Int32 × OB) :=
  Option.bind (f_X9_isHall F mo) (fun q6 => (if q6 = 0 then (b_X9_ring_17 F mo) else (Option.bind (f_X9_in F (Int32.toInt64 x1) 0 1) (fun q8 => (if q8 = 0 then (b_X9_ring_17 F mo) else (Option.bind (f_X9_keepsAll F mo) (fun q10 => (Option.bind (f_X9_laysAll F q10) (fun q11 => (Option.bind (f_X9_laysBack F q11) (fun q12 => (lp (b_X9_ring_33 F) F (x1, 0, q12)))))))))))))
set_option maxHeartbeats 4000000 in
set_option maxRecDepth 100000 in
theorem c_X9_ring (l : Launch) (D : va_G) (k : Nat → ClassId) (sz : Nat)  (va : Nat → Nat) (F : Nat)  (x1 : Int32) (mo : OB)  {res : Int32 × OB} (h : f_X9_ring F x1 mo = some res) : CtI l yX9_ring wsX9_ring (rmK 8 0 0) [.ref (va 0), .int x1] D k sz (moW k va mo) (fun r (_ : Unit) => r = res.1) (fun _ : Unit => moW k va res.2) 0 0 := by
  refine CtI.mk (cc := cX9_ring) (maxL := 4) (ret := (some .int)) (by decide) rfl (Nat.le_of_ble_eq_true rfl) ?_
  intro p e s m below meth c A ls E hP hD hS hl
  obtain ⟨hx, hb, hr, hml, hown, hts, hlocks, hin, hG, hA⟩ := E
  have hown : s.vm.findClass RX9 = some m.cls := hown
  have in9 : ∀ w ∈ u_ws RX9 TX9 53, w ∈ wsX9_ring := fun _ h => List.mem_cons_of_mem _ (List.mem_append_right _ h)
  have hl : lv_has ls 4 [(0, .ref (va 0)), (1, .int x1)] := hl
  have B17 : ∀ (mo : OB) (H : Heap) (locs : List Loc) (ls : Array Slot), b_X9_ring_17 F mo = some res → va_P D vwCl (moW k va mo) H → va_D A (moW k va mo) → va_S A s.heap H locs → lv_has ls 4 [] → W p l e (rmK 8 0 0) s m (List.toArray [.ref (va 0), .int x1]) below meth c H locs 0 0 (MQ below (va_Qi (fun r (_ : Unit) => r = res.1) (hcB D (fun _ : Unit => moW k va res.2) A) A) (List.toArray [.ref (va 0), .int x1]) s 0 0 A) (F0 m 17 ls []) := by
    intro mo H locs ls h hP hD hS hl
    refine lv_iconst (v := (-1)) hx hb dX9_ring_17 (by decide) ?_
    exact fw_endI (rv := fun b : Int32 × OB => b.1) (wp := fun b : Int32 × OB => moW k va b.2) hx hb hr hlocks h rfl hP hD hS dX9_ring_18
  have B76 : ∀ (y0 : Int32) (mo : OB) (H : Heap) (locs : List Loc) (ls : Array Slot), b_X9_ring_76 F y0 mo = some res → va_P D vwCl (moW k va mo) H → va_D A (moW k va mo) → va_S A s.heap H locs → lv_has ls 4 [] → W p l e (rmK 8 0 0) s m (List.toArray [.ref (va 0), .int x1]) below meth c H locs 0 0 (MQ below (va_Qi (fun r (_ : Unit) => r = res.1) (hcB D (fun _ : Unit => moW k va res.2) A) A) (List.toArray [.ref (va 0), .int x1]) s 0 0 A) (F0 m 76 ls [.int y0]) := by
    intro y0 mo H locs ls h hP hD hS hl
    exact fw_endI (rv := fun b : Int32 × OB => b.1) (wp := fun b : Int32 × OB => moW k va b.2) hx hb hr hlocks h rfl hP hD hS dX9_ring_76
  have B33 : ∀ a33 : (Int32 × Int32 × OB), lp (b_X9_ring_33 F) F a33 = some res → ∀ (H : Heap) (locs : List Loc) (ls : Array Slot), va_P D vwCl (moW k va a33.2.2) H → va_D A (moW k va a33.2.2) → va_S A s.heap H locs → lv_has ls 4 [(0, .ref (va 0)), (1, .int a33.1), (2, .int a33.2.1)] → W p l e (rmK 8 0 0) s m (List.toArray [.ref (va 0), .int x1]) below meth c H locs 0 0 (MQ below (va_Qi (fun r (_ : Unit) => r = res.1) (hcB D (fun _ : Unit => moW k va res.2) A) A) (List.toArray [.ref (va 0), .int x1]) s 0 0 A) (F0 m 33 ls []) := by
    refine lp_W ?_ F
    intro k33 hk33 a33 h H locs ls hP hD hS hl
    have hc33 : ∀ (v1 : Int32) (v2 : Int32) (mo : OB), k33 (v1, v2, mo) = some res → ∀ (H : Heap) (locs : List Loc) (ls : Array Slot), va_P D vwCl (moW k va mo) H → va_D A (moW k va mo) → va_S A s.heap H locs → lv_has ls 4 [(0, .ref (va 0)), (1, .int v1), (2, .int v2)] → W p l e (rmK 8 0 0) s m (List.toArray [.ref (va 0), .int x1]) below meth c H locs 0 0 (MQ below (va_Qi (fun r (_ : Unit) => r = res.1) (hcB D (fun _ : Unit => moW k va res.2) A) A) (List.toArray [.ref (va 0), .int x1]) s 0 0 A) (F0 m 33 ls []) := fun v1 v2 mo => hk33 (v1, v2, mo)
    have B43 : ∀ a43 : (Int32 × Int32 × Int32 × OB), lp (b_X9_ring_43 F k33) F a43 = some res → ∀ (H : Heap) (locs : List Loc) (ls : Array Slot), va_P D vwCl (moW k va a43.2.2.2) H → va_D A (moW k va a43.2.2.2) → va_S A s.heap H locs → lv_has ls 4 [(0, .ref (va 0)), (1, .int a43.1), (2, .int a43.2.1), (3, .int a43.2.2.1)] → W p l e (rmK 8 0 0) s m (List.toArray [.ref (va 0), .int x1]) below meth c H locs 0 0 (MQ below (va_Qi (fun r (_ : Unit) => r = res.1) (hcB D (fun _ : Unit => moW k va res.2) A) A) (List.toArray [.ref (va 0), .int x1]) s 0 0 A) (F0 m 43 ls []) := by
      refine lp_W ?_ F
      intro k43 hk43 a43 h H locs ls hP hD hS hl
      have hc43 : ∀ (v1 : Int32) (v2 : Int32) (v3 : Int32) (mo : OB), k43 (v1, v2, v3, mo) = some res → ∀ (H : Heap) (locs : List Loc) (ls : Array Slot), va_P D vwCl (moW k va mo) H → va_D A (moW k va mo) → va_S A s.heap H locs → lv_has ls 4 [(0, .ref (va 0)), (1, .int v1), (2, .int v2), (3, .int v3)] → W p l e (rmK 8 0 0) s m (List.toArray [.ref (va 0), .int x1]) below meth c H locs 0 0 (MQ below (va_Qi (fun r (_ : Unit) => r = res.1) (hcB D (fun _ : Unit => moW k va res.2) A) A) (List.toArray [.ref (va 0), .int x1]) s 0 0 A) (F0 m 43 ls []) := fun v1 v2 v3 mo => hk43 (v1, v2, v3, mo)
      refine lv_iload_n hx hb dX9_ring_43 rfl (lv_at hl 3 rfl) ?_
      refine lv_bipush (v := 60) hx hb dX9_ring_44 (by decide) ?_
      refine lv_icmp_gt (tgt := 83) hx hb dX9_ring_46 (by decide) (fun c1 => ?_) (fun c1 => ?_)
      · have h := fw_t c1 h
        refine lv_iinc (v := (a43.2.1 + 1)) (lv' := [(2, .int (a43.2.1 + 1)), (0, .ref (va 0)), (1, .int a43.1), (3, .int a43.2.2.1)]) hx hb dX9_ring_83 hl (k := 2) rfl rfl (by decide) rfl (fun ls hl => ?_)
        refine lv_goto (tgt := 33) hx hb dX9_ring_86 (by decide) ?_
        exact hc33 _ _ _ h _ _ _ hP hD hS (lv_sub hl [1, 2, 0] rfl)
      · have h := fw_f c1 h
        refine lv_aload_n hx hb dX9_ring_49 rfl (lv_at hl 0 rfl) ?_
        refine lv_iload_n hx hb dX9_ring_50 rfl (lv_at hl 2 rfl) ?_
        refine lv_iload_n hx hb dX9_ring_51 rfl (lv_at hl 3 rfl) ?_
        refine fw_Vi (As := [.int a43.2.1, .int a43.2.2.1]) (rest := []) (n := 2) (wr := []) (rv := fun b : Int32 => b) (wp := fun b : Int32 => moW k va a43.2.2.2) h hx hb hml hown hts hG hA hP hD hS hl.1 (List.range (moW k va a43.2.2.2).length) [] (fun q hq9 => c_X9_isAlike l D k _  va F a43.2.1 a43.2.2.1 a43.2.2.2  hq9) (ci := 7) (q0 := 0) rfl rfl gX9_ring_X9_isAlike rfl ⟨rfl, rfl, Nat.le_of_ble_eq_true rfl, Nat.le_of_ble_eq_true rfl⟩ (by decide +kernel) (al_C _) rfl (al_n _) ⟨rfl, rfl, Nat.le_of_ble_eq_true rfl, Nat.le_of_ble_eq_true rfl, Nat.le_of_ble_eq_true rfl⟩ dX9_ring_52 (fun q2 H locs h hP hD hS => ?_)
        obtain ⟨hP, hD⟩ := cv (w' := moW k va a43.2.2.2) hP hD rfl
        refine hc_is (z := q2) rfl ?_
        refine lv_if_eq (tgt := 77) hx hb dX9_ring_55 (by decide) (fun c3 => ?_) (fun c3 => ?_)
        · have h := fw_t c3 h
          refine lv_iinc (v := (a43.2.2.1 + 1)) (lv' := [(3, .int (a43.2.2.1 + 1)), (0, .ref (va 0)), (1, .int a43.1), (2, .int a43.2.1)]) hx hb dX9_ring_77 hl (k := 3) rfl rfl (by decide) rfl (fun ls hl => ?_)
          refine lv_goto (tgt := 43) hx hb dX9_ring_80 (by decide) ?_
          exact hc43 _ _ _ _ h _ _ _ hP hD hS (lv_sub hl [1, 2, 3, 0] rfl)
        · have h := fw_f c3 h
          refine lv_iload_n hx hb dX9_ring_58 rfl (lv_at hl 1 rfl) ?_
          refine lv_if_ne (tgt := 73) hx hb dX9_ring_59 (by decide) (fun c4 => ?_) (fun c4 => ?_)
          · have h := fw_f c4 h
            refine lv_iload_n hx hb dX9_ring_73 rfl (lv_at hl 3 rfl) ?_
            refine lv_iload_n hx hb dX9_ring_74 rfl (lv_at hl 2 rfl) ?_
            refine lv_isub hx hb dX9_ring_75 ?_
            exact B76 _ _ _ _ _ h hP hD hS (lv_sub hl [] rfl)
          · have h := fw_t c4 h
            refine lv_aload_n hx hb dX9_ring_62 rfl (lv_at hl 0 rfl) ?_
            refine va_get (D := D) (ci := 7) (v := .ref (va 1)) (C := RX9) (T := TX9) (N := 53) hx hb hts in9 hown hG.1 hP 0 rfl rfl 1 (by decide) (hts (.fieldLink RX9 9 "ChairCaneModel" "scalar" "[I") (mem_b bq_wsX9_ring 0 0 rfl)) (fun _ h9 => h9) rfl dX9_ring_63 ?_
            refine lv_iconst (v := 4) hx hb dX9_ring_66 (by decide) ?_
            refine va_iald hx hb hG.1 hP 1 0 rfl rfl (by unfold vp_in; decide) dX9_ring_67 ?_
            refine lv_iload_n hx hb dX9_ring_68 rfl (lv_at hl 2 rfl) ?_
            refine lv_iadd hx hb dX9_ring_69 ?_
            refine lv_goto (tgt := 76) hx hb dX9_ring_70 (by decide) ?_
            exact B76 _ _ _ _ _ h hP hD hS (lv_sub hl [] rfl)
    have C43 : ∀ (v1 : Int32) (v2 : Int32) (v3 : Int32) (mo : OB), lp (b_X9_ring_43 F k33) F (v1, v2, v3, mo) = some res → ∀ (H : Heap) (locs : List Loc) (ls : Array Slot), va_P D vwCl (moW k va mo) H → va_D A (moW k va mo) → va_S A s.heap H locs → lv_has ls 4 [(0, .ref (va 0)), (1, .int v1), (2, .int v2), (3, .int v3)] → W p l e (rmK 8 0 0) s m (List.toArray [.ref (va 0), .int x1]) below meth c H locs 0 0 (MQ below (va_Qi (fun r (_ : Unit) => r = res.1) (hcB D (fun _ : Unit => moW k va res.2) A) A) (List.toArray [.ref (va 0), .int x1]) s 0 0 A) (F0 m 43 ls []) := fun v1 v2 v3 mo => B43 (v1, v2, v3, mo)
    refine lv_iload_n hx hb dX9_ring_33 rfl (lv_at hl 2 rfl) ?_
    refine lv_bipush (v := 60) hx hb dX9_ring_34 (by decide) ?_
    refine lv_icmp_ge (tgt := 89) hx hb dX9_ring_36 (by decide) (fun c5 => ?_) (fun c5 => ?_)
    · have h := fw_t c5 h
      refine lv_bipush (v := (-2)) hx hb dX9_ring_89 (by decide) ?_
      exact fw_endI (rv := fun b : Int32 × OB => b.1) (wp := fun b : Int32 × OB => moW k va b.2) hx hb hr hlocks h rfl hP hD hS dX9_ring_91
    · have h := fw_f c5 h
      refine lv_iload_n hx hb dX9_ring_39 rfl (lv_at hl 2 rfl) ?_
      refine lv_iconst (v := 1) hx hb dX9_ring_40 (by decide) ?_
      refine lv_iadd hx hb dX9_ring_41 ?_
      refine lv_istore_n (lv' := [(3, .int (a33.2.1 + 1)), (0, .ref (va 0)), (1, .int a33.1), (2, .int a33.2.1)]) hx hb dX9_ring_42 rfl hl (by decide) rfl (fun ls hl => ?_)
      exact C43 _ _ _ _ h _ _ _ hP hD hS (lv_sub hl [1, 2, 3, 0] rfl)
  have C33 : ∀ (v1 : Int32) (v2 : Int32) (mo : OB), lp (b_X9_ring_33 F) F (v1, v2, mo) = some res → ∀ (H : Heap) (locs : List Loc) (ls : Array Slot), va_P D vwCl (moW k va mo) H → va_D A (moW k va mo) → va_S A s.heap H locs → lv_has ls 4 [(0, .ref (va 0)), (1, .int v1), (2, .int v2)] → W p l e (rmK 8 0 0) s m (List.toArray [.ref (va 0), .int x1]) below meth c H locs 0 0 (MQ below (va_Qi (fun r (_ : Unit) => r = res.1) (hcB D (fun _ : Unit => moW k va res.2) A) A) (List.toArray [.ref (va 0), .int x1]) s 0 0 A) (F0 m 33 ls []) := fun v1 v2 mo => B33 (v1, v2, mo)
  refine lv_aload_n hx hb dX9_ring_0 rfl (lv_at hl 0 rfl) ?_
  refine fw_Vi (As := []) (rest := []) (n := 0) (wr := []) (rv := fun b : Int32 => b) (wp := fun b : Int32 => moW k va mo) h hx hb hml hown hts hG hA hP hD hS hl.1 (List.range (moW k va mo).length) [] (fun q hq9 => c_X9_isHall l D k _  va F  mo  hq9) (ci := 7) (q0 := 0) rfl rfl gX9_ring_X9_isHall rfl ⟨rfl, rfl, Nat.le_of_ble_eq_true rfl, Nat.le_of_ble_eq_true rfl⟩ (by decide +kernel) (al_C _) rfl (al_n _) ⟨rfl, rfl, Nat.le_of_ble_eq_true rfl, Nat.le_of_ble_eq_true rfl, Nat.le_of_ble_eq_true rfl⟩ dX9_ring_1 (fun q6 H locs h hP hD hS => ?_)
  obtain ⟨hP, hD⟩ := cv (w' := moW k va mo) hP hD rfl
  refine hc_is (z := q6) rfl ?_
  refine lv_if_eq (tgt := 17) hx hb dX9_ring_4 (by decide) (fun c7 => ?_) (fun c7 => ?_)
  · have h := fw_t c7 h
    exact B17 _ _ _ _ h hP hD hS (lv_sub hl [] rfl)
  · have h := fw_f c7 h
    refine lv_iload_n hx hb dX9_ring_7 rfl (lv_at hl 1 rfl) ?_
    refine lv_i2l hx hb dX9_ring_8 rfl ?_
    refine lv_lconst (v := 0) hx hb dX9_ring_9 (by decide) ?_
    refine lv_lconst (v := 1) hx hb dX9_ring_10 (by decide) ?_
    refine fw_Si (As := [.long (Int32.toInt64 x1), .long 0, .long 1]) (rest := []) (n := 3) (wr := moW k va mo) (rv := fun b : Int32 => b) (wp := fun b : Int32 => []) h hx hb hml hown hts hG hA hP hD hS hl.1 [] (List.range (moW k va mo).length) (fun q hq9 => c_X9_in l D k _   F (Int32.toInt64 x1) 0 1   hq9) gX9_ring_X9_in rfl ⟨rfl, rfl, Nat.le_of_ble_eq_true rfl, Nat.le_of_ble_eq_true rfl⟩ (by decide +kernel) rfl (al_C _) (al_m _) ⟨rfl, rfl, Nat.le_of_ble_eq_true rfl, Nat.le_of_ble_eq_true rfl, Nat.le_of_ble_eq_true rfl⟩ dX9_ring_11 (fun q8 H locs h hP hD hS => ?_)
    obtain ⟨hP, hD⟩ := cv (w' := (moW k va mo) ++ []) hP hD rfl
    rw [List.append_nil] at hP hD
    refine hc_is (z := q8) rfl ?_
    refine lv_if_ne (tgt := 19) hx hb dX9_ring_14 (by decide) (fun c9 => ?_) (fun c9 => ?_)
    · have h := fw_f c9 h
      refine lv_aload_n hx hb dX9_ring_19 rfl (lv_at hl 0 rfl) ?_
      refine fw_Vv (As := []) (rest := []) (n := 0) (wr := []) (wp := fun b : OB => moW k va b) h hx hb hml hown hts hG hA hP hD hS hl.1 (List.range (moW k va mo).length) [] (fun q hq9 => c_X9_keepsAll l D k _  va F  mo  hq9) (ci := 7) (q0 := 0) rfl rfl gX9_ring_X9_keepsAll rfl ⟨rfl, rfl, Nat.le_of_ble_eq_true rfl, Nat.le_of_ble_eq_true rfl⟩ (by decide +kernel) (al_C _) rfl (al_n _) ⟨rfl, rfl, Nat.le_of_ble_eq_true rfl, Nat.le_of_ble_eq_true rfl, Nat.le_of_ble_eq_true rfl⟩ dX9_ring_20 (fun q10 H locs h hP hD hS => ?_)
      obtain ⟨hP, hD⟩ := cv (w' := moW k va q10) hP hD rfl
      refine lv_aload_n hx hb dX9_ring_23 rfl (lv_at hl 0 rfl) ?_
      refine fw_Vv (As := []) (rest := []) (n := 0) (wr := []) (wp := fun b : OB => moW k va b) h hx hb hml hown hts hG hA hP hD hS hl.1 (List.range (moW k va q10).length) [] (fun q hq9 => c_X9_laysAll l D k _  va F  q10  hq9) (ci := 7) (q0 := 0) rfl rfl gX9_ring_X9_laysAll rfl ⟨rfl, rfl, Nat.le_of_ble_eq_true rfl, Nat.le_of_ble_eq_true rfl⟩ (by decide +kernel) (al_C _) rfl (al_n _) ⟨rfl, rfl, Nat.le_of_ble_eq_true rfl, Nat.le_of_ble_eq_true rfl, Nat.le_of_ble_eq_true rfl⟩ dX9_ring_24 (fun q11 H locs h hP hD hS => ?_)
      obtain ⟨hP, hD⟩ := cv (w' := moW k va q11) hP hD rfl
      refine lv_aload_n hx hb dX9_ring_27 rfl (lv_at hl 0 rfl) ?_
      refine fw_Vv (As := []) (rest := []) (n := 0) (wr := []) (wp := fun b : OB => moW k va b) h hx hb hml hown hts hG hA hP hD hS hl.1 (List.range (moW k va q11).length) [] (fun q hq9 => c_X9_laysBack l D k _  va F  q11  hq9) (ci := 7) (q0 := 0) rfl rfl gX9_ring_X9_laysBack rfl ⟨rfl, rfl, Nat.le_of_ble_eq_true rfl, Nat.le_of_ble_eq_true rfl⟩ (by decide +kernel) (al_C _) rfl (al_n _) ⟨rfl, rfl, Nat.le_of_ble_eq_true rfl, Nat.le_of_ble_eq_true rfl, Nat.le_of_ble_eq_true rfl⟩ dX9_ring_28 (fun q12 H locs h hP hD hS => ?_)
      obtain ⟨hP, hD⟩ := cv (w' := moW k va q12) hP hD rfl
      refine lv_iconst (v := 0) hx hb dX9_ring_31 (by decide) ?_
      refine lv_istore_n (lv' := [(2, .int 0), (0, .ref (va 0)), (1, .int x1)]) hx hb dX9_ring_32 rfl hl (by decide) rfl (fun ls hl => ?_)
      exact C33 _ _ _ h _ _ _ hP hD hS (lv_sub hl [1, 2, 0] rfl)
    · have h := fw_t c9 h
      exact B17 _ _ _ _ h hP hD hS (lv_sub hl [] rfl)
noncomputable def b_X9_allGive_4 (F : Nat)  (mo : OB)  (k4 : (Int32 × Int32) → Option (Int32)) (a4 : (Int32 × Int32)) : Option (Int32) :=
  if ((mo.2.1 1) (Int32.toNatClampNeg 3)) ≤ a4.2 then (some a4.1) else (Option.bind (f_X9_givesNow F a4.2 mo) (fun q2 => (k4 ((a4.1 + q2), (a4.2 + 1)))))
noncomputable def f_X9_allGive (F : Nat)   (mo : OB) : Option (Int32) :=
  lp (b_X9_allGive_4 F mo) F (0, 0)
set_option maxHeartbeats 4000000 in
set_option maxRecDepth 100000 in
theorem c_X9_allGive (l : Launch) (D : va_G) (k : Nat → ClassId) (sz : Nat)  (va : Nat → Nat) (F : Nat)   (mo : OB)  {res : Int32} (h : f_X9_allGive F mo = some res) : CtI l yX9_allGive wsX9_allGive (rmK 5 0 0) [.ref (va 0)] D k sz (moW k va mo) (fun r (_ : Unit) => r = res) (fun _ : Unit => moW k va mo) 0 0 := by
  refine CtI.mk (cc := cX9_allGive) (maxL := 3) (ret := (some .int)) (by decide) rfl (Nat.le_of_ble_eq_true rfl) ?_
  intro p e s m below meth c A ls E hP hD hS hl
  obtain ⟨hx, hb, hr, hml, hown, hts, hlocks, hin, hG, hA⟩ := E
  have hown : s.vm.findClass RX9 = some m.cls := hown
  have in9 : ∀ w ∈ u_ws RX9 TX9 53, w ∈ wsX9_allGive := fun _ h => List.mem_cons_of_mem _ (List.mem_append_right _ h)
  have hl : lv_has ls 3 [(0, .ref (va 0))] := hl
  have B4 : ∀ a4 : (Int32 × Int32), lp (b_X9_allGive_4 F mo) F a4 = some res → ∀ (H : Heap) (locs : List Loc) (ls : Array Slot), va_P D vwCl (moW k va mo) H → va_D A (moW k va mo) → va_S A s.heap H locs → lv_has ls 3 [(0, .ref (va 0)), (1, .int a4.1), (2, .int a4.2)] → W p l e (rmK 5 0 0) s m (List.toArray [.ref (va 0)]) below meth c H locs 0 0 (MQ below (va_Qi (fun r (_ : Unit) => r = res) (hcB D (fun _ : Unit => moW k va mo) A) A) (List.toArray [.ref (va 0)]) s 0 0 A) (F0 m 4 ls []) := by
    refine lp_W ?_ F
    intro k4 hk4 a4 h H locs ls hP hD hS hl
    have hc4 : ∀ (v1 : Int32) (v2 : Int32), k4 (v1, v2) = some res → ∀ (H : Heap) (locs : List Loc) (ls : Array Slot), va_P D vwCl (moW k va mo) H → va_D A (moW k va mo) → va_S A s.heap H locs → lv_has ls 3 [(0, .ref (va 0)), (1, .int v1), (2, .int v2)] → W p l e (rmK 5 0 0) s m (List.toArray [.ref (va 0)]) below meth c H locs 0 0 (MQ below (va_Qi (fun r (_ : Unit) => r = res) (hcB D (fun _ : Unit => moW k va mo) A) A) (List.toArray [.ref (va 0)]) s 0 0 A) (F0 m 4 ls []) := fun v1 v2 => hk4 (v1, v2)
    refine lv_iload_n hx hb dX9_allGive_4 rfl (lv_at hl 2 rfl) ?_
    refine lv_aload_n hx hb dX9_allGive_5 rfl (lv_at hl 0 rfl) ?_
    refine va_get (D := D) (ci := 7) (v := .ref (va 1)) (C := RX9) (T := TX9) (N := 53) hx hb hts in9 hown hG.1 hP 0 rfl rfl 1 (by decide) (hts (.fieldLink RX9 9 "ChairCaneModel" "scalar" "[I") (mem_b bq_wsX9_allGive 0 0 rfl)) (fun _ h9 => h9) rfl dX9_allGive_6 ?_
    refine lv_iconst (v := 3) hx hb dX9_allGive_9 (by decide) ?_
    refine va_iald hx hb hG.1 hP 1 0 rfl rfl (by unfold vp_in; decide) dX9_allGive_10 ?_
    refine lv_icmp_ge (tgt := 28) hx hb dX9_allGive_11 (by decide) (fun c1 => ?_) (fun c1 => ?_)
    · have h := fw_t c1 h
      refine lv_iload_n hx hb dX9_allGive_28 rfl (lv_at hl 1 rfl) ?_
      exact fw_endI (rv := fun b : Int32 => b) (wp := fun b : Int32 => moW k va mo) hx hb hr hlocks h rfl hP hD hS dX9_allGive_29
    · have h := fw_f c1 h
      refine lv_iload_n hx hb dX9_allGive_14 rfl (lv_at hl 1 rfl) ?_
      refine lv_aload_n hx hb dX9_allGive_15 rfl (lv_at hl 0 rfl) ?_
      refine lv_iload_n hx hb dX9_allGive_16 rfl (lv_at hl 2 rfl) ?_
      refine fw_Vi (As := [.int a4.2]) (rest := [.int a4.1]) (n := 1) (wr := []) (rv := fun b : Int32 => b) (wp := fun b : Int32 => moW k va mo) h hx hb hml hown hts hG hA hP hD hS hl.1 (List.range (moW k va mo).length) [] (fun q hq9 => c_X9_givesNow l D k _  va F a4.2 mo  hq9) (ci := 7) (q0 := 0) rfl rfl gX9_allGive_X9_givesNow rfl ⟨rfl, rfl, Nat.le_of_ble_eq_true rfl, Nat.le_of_ble_eq_true rfl⟩ (by decide +kernel) (al_C _) rfl (al_n _) ⟨rfl, rfl, Nat.le_of_ble_eq_true rfl, Nat.le_of_ble_eq_true rfl, Nat.le_of_ble_eq_true rfl⟩ dX9_allGive_17 (fun q2 H locs h hP hD hS => ?_)
      obtain ⟨hP, hD⟩ := cv (w' := moW k va mo) hP hD rfl
      refine hc_is (z := q2) rfl ?_
      refine lv_iadd hx hb dX9_allGive_20 ?_
      refine lv_istore_n (lv' := [(1, .int (a4.1 + q2)), (0, .ref (va 0)), (2, .int a4.2)]) hx hb dX9_allGive_21 rfl hl (by decide) rfl (fun ls hl => ?_)
      refine lv_iinc (v := (a4.2 + 1)) (lv' := [(2, .int (a4.2 + 1)), (1, .int (a4.1 + q2)), (0, .ref (va 0))]) hx hb dX9_allGive_22 hl (k := 2) rfl rfl (by decide) rfl (fun ls hl => ?_)
      refine lv_goto (tgt := 4) hx hb dX9_allGive_25 (by decide) ?_
      exact hc4 _ _ h _ _ _ hP hD hS (lv_sub hl [2, 1, 0] rfl)
  have C4 : ∀ (v1 : Int32) (v2 : Int32), lp (b_X9_allGive_4 F mo) F (v1, v2) = some res → ∀ (H : Heap) (locs : List Loc) (ls : Array Slot), va_P D vwCl (moW k va mo) H → va_D A (moW k va mo) → va_S A s.heap H locs → lv_has ls 3 [(0, .ref (va 0)), (1, .int v1), (2, .int v2)] → W p l e (rmK 5 0 0) s m (List.toArray [.ref (va 0)]) below meth c H locs 0 0 (MQ below (va_Qi (fun r (_ : Unit) => r = res) (hcB D (fun _ : Unit => moW k va mo) A) A) (List.toArray [.ref (va 0)]) s 0 0 A) (F0 m 4 ls []) := fun v1 v2 => B4 (v1, v2)
  refine lv_iconst (v := 0) hx hb dX9_allGive_0 (by decide) ?_
  refine lv_istore_n (lv' := [(1, .int 0), (0, .ref (va 0))]) hx hb dX9_allGive_1 rfl hl (by decide) rfl (fun ls hl => ?_)
  refine lv_iconst (v := 0) hx hb dX9_allGive_2 (by decide) ?_
  refine lv_istore_n (lv' := [(2, .int 0), (1, .int 0), (0, .ref (va 0))]) hx hb dX9_allGive_3 rfl hl (by decide) rfl (fun ls hl => ?_)
  exact C4 _ _ h _ _ _ hP hD hS (lv_sub hl [2, 1, 0] rfl)
noncomputable def b_X9_pence_20 (F : Nat)  (mo : OB)   : Option (Int32) :=
  some (-1)
noncomputable def b_X9_pence_140 (F : Nat)  (mo : OB)  (y0 : Int32) (y1 : Int32) : Option (Int32) :=
  some (y1 + y0)
noncomputable def b_X9_pence_115 (F : Nat)  (mo : OB) (k51 : (Int32 × Int32 × Int32 × Int32 × Int32 × Int32 × Int32) → Option (Int32)) (v1 : Int32) (v2 : Int32) (v3 : Int32) (v4 : Int32) (v6 : Int32) (v7 : Int32) (y0 : Int32) (y1 : Int32) : Option (Int32) :=
  k51 (v1, v2, v3, v4, (y1 + y0), v6, (v7 + 1))
noncomputable def b_X9_pence_110 (F : Nat)  (mo : OB) (k51 : (Int32 × Int32 × Int32 × Int32 × Int32 × Int32 × Int32) → Option (Int32)) (v1 : Int32) (v2 : Int32) (v3 : Int32) (v4 : Int32) (v6 : Int32) (v7 : Int32) (y0 : Int32) : Option (Int32) :=
  b_X9_pence_115 F mo k51 v1 v2 v3 v4 v6 v7 1 y0
noncomputable def b_X9_pence_114 (F : Nat)  (mo : OB) (k51 : (Int32 × Int32 × Int32 × Int32 × Int32 × Int32 × Int32) → Option (Int32)) (v1 : Int32) (v2 : Int32) (v3 : Int32) (v4 : Int32) (v6 : Int32) (v7 : Int32) (y0 : Int32) : Option (Int32) :=
  b_X9_pence_115 F mo k51 v1 v2 v3 v4 v6 v7 0 y0
noncomputable def b_X9_pence_51 (F : Nat)  (mo : OB)  (k51 : (Int32 × Int32 × Int32 × Int32 × Int32 × Int32 × Int32) → Option (Int32)) (a51 : (Int32 × Int32 × Int32 × Int32 × Int32 × Int32 × Int32)) : Option (Int32) :=
  if ((mo.2.1 1) (Int32.toNatClampNeg 3)) ≤ a51.2.2.2.2.2.2 then (if ¬ a51.2.2.1 = 0 then (if a51.2.2.2.1 ≤ a51.2.2.2.2.1 then (b_X9_pence_140 F mo 0 (a51.2.2.2.2.2.1 / a51.2.2.1)) else (b_X9_pence_140 F mo 1 (a51.2.2.2.2.2.1 / a51.2.2.1))) else none) else (Option.bind (f_X9_givesNow F a51.2.2.2.2.2.2 mo) (fun q4 => (if ¬ a51.2.2.1 = 0 then (if 0 < (((a51.1 * q4) - (a51.1 * q4) / a51.2.2.1 * a51.2.2.1) - (a51.2.2.2.2.2.1 - a51.2.2.2.2.2.1 / a51.2.2.1 * a51.2.2.1)) then (b_X9_pence_110 F mo k51 a51.1 a51.2.1 a51.2.2.1 (a51.2.2.2.1 - ((a51.1 * q4) / a51.2.2.1)) a51.2.2.2.2.2.1 a51.2.2.2.2.2.2 a51.2.2.2.2.1) else (if (((a51.1 * q4) - (a51.1 * q4) / a51.2.2.1 * a51.2.2.1) - (a51.2.2.2.2.2.1 - a51.2.2.2.2.2.1 / a51.2.2.1 * a51.2.2.1)) = 0 then (if a51.2.1 ≤ a51.2.2.2.2.2.2 then (b_X9_pence_114 F mo k51 a51.1 a51.2.1 a51.2.2.1 (a51.2.2.2.1 - ((a51.1 * q4) / a51.2.2.1)) a51.2.2.2.2.2.1 a51.2.2.2.2.2.2 a51.2.2.2.2.1) else (b_X9_pence_110 F mo k51 a51.1 a51.2.1 a51.2.2.1 (a51.2.2.2.1 - ((a51.1 * q4) / a51.2.2.1)) a51.2.2.2.2.2.1 a51.2.2.2.2.2.2 a51.2.2.2.2.1)) else (b_X9_pence_114 F mo k51 a51.1 a51.2.1 a51.2.2.1 (a51.2.2.2.1 - ((a51.1 * q4) / a51.2.2.1)) a51.2.2.2.2.2.1 a51.2.2.2.2.2.2 a51.2.2.2.2.1))) else none)))
noncomputable def f_X9_pence (F : Nat)  (x1 : Int32) (x2 : Int32) (mo : OB) : Option (Int32) :=
  Option.bind (f_X9_isSitter F x2 mo) (fun q9 => (if q9 = 0 then (b_X9_pence_20 F mo ) else (Option.bind (f_X9_in F (Int32.toInt64 x1) 0 9999) (fun q11 => (if q11 = 0 then (b_X9_pence_20 F mo ) else (Option.bind (f_X9_allGive F mo) (fun q13 => (if q13 = 0 then (some 0) else (Option.bind (f_X9_givesNow F x2 mo) (fun q15 => (lp (b_X9_pence_51 F mo) F (x1, x2, q13, x1, 0, (x1 * q15), 0))))))))))))
set_option maxHeartbeats 4000000 in
set_option maxRecDepth 100000 in
theorem c_X9_pence (l : Launch) (D : va_G) (k : Nat → ClassId) (sz : Nat)  (va : Nat → Nat) (F : Nat)  (x1 : Int32) (x2 : Int32) (mo : OB)  {res : Int32} (h : f_X9_pence F x1 x2 mo = some res) : CtI l yX9_pence wsX9_pence (rmK 6 0 0) [.ref (va 0), .int x1, .int x2] D k sz (moW k va mo) (fun r (_ : Unit) => r = res) (fun _ : Unit => moW k va mo) 0 0 := by
  refine CtI.mk (cc := cX9_pence) (maxL := 10) (ret := (some .int)) (by decide) rfl (Nat.le_of_ble_eq_true rfl) ?_
  intro p e s m below meth c A ls E hP hD hS hl
  obtain ⟨hx, hb, hr, hml, hown, hts, hlocks, hin, hG, hA⟩ := E
  have hown : s.vm.findClass RX9 = some m.cls := hown
  have in9 : ∀ w ∈ u_ws RX9 TX9 53, w ∈ wsX9_pence := fun _ h => List.mem_cons_of_mem _ (List.mem_append_right _ h)
  have hl : lv_has ls 10 [(0, .ref (va 0)), (1, .int x1), (2, .int x2)] := hl
  have B20 : ∀ (H : Heap) (locs : List Loc) (ls : Array Slot), b_X9_pence_20 F mo  = some res → va_P D vwCl (moW k va mo) H → va_D A (moW k va mo) → va_S A s.heap H locs → lv_has ls 10 [] → W p l e (rmK 6 0 0) s m (List.toArray [.ref (va 0), .int x1, .int x2]) below meth c H locs 0 0 (MQ below (va_Qi (fun r (_ : Unit) => r = res) (hcB D (fun _ : Unit => moW k va mo) A) A) (List.toArray [.ref (va 0), .int x1, .int x2]) s 0 0 A) (F0 m 20 ls []) := by
    intro  H locs ls h hP hD hS hl
    refine lv_iconst (v := (-1)) hx hb dX9_pence_20 (by decide) ?_
    exact fw_endI (rv := fun b : Int32 => b) (wp := fun b : Int32 => moW k va mo) hx hb hr hlocks h rfl hP hD hS dX9_pence_21
  have B140 : ∀ (y0 : Int32) (y1 : Int32) (H : Heap) (locs : List Loc) (ls : Array Slot), b_X9_pence_140 F mo y0 y1 = some res → va_P D vwCl (moW k va mo) H → va_D A (moW k va mo) → va_S A s.heap H locs → lv_has ls 10 [] → W p l e (rmK 6 0 0) s m (List.toArray [.ref (va 0), .int x1, .int x2]) below meth c H locs 0 0 (MQ below (va_Qi (fun r (_ : Unit) => r = res) (hcB D (fun _ : Unit => moW k va mo) A) A) (List.toArray [.ref (va 0), .int x1, .int x2]) s 0 0 A) (F0 m 140 ls [.int y0, .int y1]) := by
    intro y0 y1 H locs ls h hP hD hS hl
    refine lv_iadd hx hb dX9_pence_140 ?_
    exact fw_endI (rv := fun b : Int32 => b) (wp := fun b : Int32 => moW k va mo) hx hb hr hlocks h rfl hP hD hS dX9_pence_141
  have B51 : ∀ a51 : (Int32 × Int32 × Int32 × Int32 × Int32 × Int32 × Int32), lp (b_X9_pence_51 F mo) F a51 = some res → ∀ (H : Heap) (locs : List Loc) (ls : Array Slot), va_P D vwCl (moW k va mo) H → va_D A (moW k va mo) → va_S A s.heap H locs → lv_has ls 10 [(0, .ref (va 0)), (1, .int a51.1), (2, .int a51.2.1), (3, .int a51.2.2.1), (4, .int a51.2.2.2.1), (5, .int a51.2.2.2.2.1), (6, .int a51.2.2.2.2.2.1), (7, .int a51.2.2.2.2.2.2)] → W p l e (rmK 6 0 0) s m (List.toArray [.ref (va 0), .int x1, .int x2]) below meth c H locs 0 0 (MQ below (va_Qi (fun r (_ : Unit) => r = res) (hcB D (fun _ : Unit => moW k va mo) A) A) (List.toArray [.ref (va 0), .int x1, .int x2]) s 0 0 A) (F0 m 51 ls []) := by
    refine lp_W ?_ F
    intro k51 hk51 a51 h H locs ls hP hD hS hl
    have hc51 : ∀ (v1 : Int32) (v2 : Int32) (v3 : Int32) (v4 : Int32) (v5 : Int32) (v6 : Int32) (v7 : Int32), k51 (v1, v2, v3, v4, v5, v6, v7) = some res → ∀ (H : Heap) (locs : List Loc) (ls : Array Slot), va_P D vwCl (moW k va mo) H → va_D A (moW k va mo) → va_S A s.heap H locs → lv_has ls 10 [(0, .ref (va 0)), (1, .int v1), (2, .int v2), (3, .int v3), (4, .int v4), (5, .int v5), (6, .int v6), (7, .int v7)] → W p l e (rmK 6 0 0) s m (List.toArray [.ref (va 0), .int x1, .int x2]) below meth c H locs 0 0 (MQ below (va_Qi (fun r (_ : Unit) => r = res) (hcB D (fun _ : Unit => moW k va mo) A) A) (List.toArray [.ref (va 0), .int x1, .int x2]) s 0 0 A) (F0 m 51 ls []) := fun v1 v2 v3 v4 v5 v6 v7 => hk51 (v1, v2, v3, v4, v5, v6, v7)
    have B115 : ∀ (v1 : Int32) (v2 : Int32) (v3 : Int32) (v4 : Int32) (v6 : Int32) (v7 : Int32) (y0 : Int32) (y1 : Int32) (H : Heap) (locs : List Loc) (ls : Array Slot), b_X9_pence_115 F mo k51 v1 v2 v3 v4 v6 v7 y0 y1 = some res → va_P D vwCl (moW k va mo) H → va_D A (moW k va mo) → va_S A s.heap H locs → lv_has ls 10 [(0, .ref (va 0)), (1, .int v1), (2, .int v2), (3, .int v3), (4, .int v4), (6, .int v6), (7, .int v7)] → W p l e (rmK 6 0 0) s m (List.toArray [.ref (va 0), .int x1, .int x2]) below meth c H locs 0 0 (MQ below (va_Qi (fun r (_ : Unit) => r = res) (hcB D (fun _ : Unit => moW k va mo) A) A) (List.toArray [.ref (va 0), .int x1, .int x2]) s 0 0 A) (F0 m 115 ls [.int y0, .int y1]) := by
      intro v1 v2 v3 v4 v6 v7 y0 y1 H locs ls h hP hD hS hl
      refine lv_iadd hx hb dX9_pence_115 ?_
      refine lv_istore (lv' := [(5, .int (y1 + y0)), (0, .ref (va 0)), (1, .int v1), (2, .int v2), (3, .int v3), (4, .int v4), (6, .int v6), (7, .int v7)]) hx hb dX9_pence_116 hl (by decide) rfl (fun ls hl => ?_)
      refine lv_iinc (v := (v7 + 1)) (lv' := [(7, .int (v7 + 1)), (5, .int (y1 + y0)), (0, .ref (va 0)), (1, .int v1), (2, .int v2), (3, .int v3), (4, .int v4), (6, .int v6)]) hx hb dX9_pence_118 hl (k := 7) rfl rfl (by decide) rfl (fun ls hl => ?_)
      refine lv_goto (tgt := 51) hx hb dX9_pence_121 (by decide) ?_
      exact hc51 _ _ _ _ _ _ _ h _ _ _ hP hD hS (lv_sub hl [2, 3, 4, 5, 6, 1, 7, 0] rfl)
    have B110 : ∀ (v1 : Int32) (v2 : Int32) (v3 : Int32) (v4 : Int32) (v6 : Int32) (v7 : Int32) (y0 : Int32) (H : Heap) (locs : List Loc) (ls : Array Slot), b_X9_pence_110 F mo k51 v1 v2 v3 v4 v6 v7 y0 = some res → va_P D vwCl (moW k va mo) H → va_D A (moW k va mo) → va_S A s.heap H locs → lv_has ls 10 [(0, .ref (va 0)), (1, .int v1), (2, .int v2), (3, .int v3), (4, .int v4), (6, .int v6), (7, .int v7)] → W p l e (rmK 6 0 0) s m (List.toArray [.ref (va 0), .int x1, .int x2]) below meth c H locs 0 0 (MQ below (va_Qi (fun r (_ : Unit) => r = res) (hcB D (fun _ : Unit => moW k va mo) A) A) (List.toArray [.ref (va 0), .int x1, .int x2]) s 0 0 A) (F0 m 110 ls [.int y0]) := by
      intro v1 v2 v3 v4 v6 v7 y0 H locs ls h hP hD hS hl
      refine lv_iconst (v := 1) hx hb dX9_pence_110 (by decide) ?_
      refine lv_goto (tgt := 115) hx hb dX9_pence_111 (by decide) ?_
      exact B115 _ _ _ _ _ _ _ _ _ _ _ h hP hD hS hl
    have B114 : ∀ (v1 : Int32) (v2 : Int32) (v3 : Int32) (v4 : Int32) (v6 : Int32) (v7 : Int32) (y0 : Int32) (H : Heap) (locs : List Loc) (ls : Array Slot), b_X9_pence_114 F mo k51 v1 v2 v3 v4 v6 v7 y0 = some res → va_P D vwCl (moW k va mo) H → va_D A (moW k va mo) → va_S A s.heap H locs → lv_has ls 10 [(0, .ref (va 0)), (1, .int v1), (2, .int v2), (3, .int v3), (4, .int v4), (6, .int v6), (7, .int v7)] → W p l e (rmK 6 0 0) s m (List.toArray [.ref (va 0), .int x1, .int x2]) below meth c H locs 0 0 (MQ below (va_Qi (fun r (_ : Unit) => r = res) (hcB D (fun _ : Unit => moW k va mo) A) A) (List.toArray [.ref (va 0), .int x1, .int x2]) s 0 0 A) (F0 m 114 ls [.int y0]) := by
      intro v1 v2 v3 v4 v6 v7 y0 H locs ls h hP hD hS hl
      refine lv_iconst (v := 0) hx hb dX9_pence_114 (by decide) ?_
      exact B115 _ _ _ _ _ _ _ _ _ _ _ h hP hD hS hl
    refine lv_iload hx hb dX9_pence_51 (lv_at hl 7 rfl) ?_
    refine lv_aload_n hx hb dX9_pence_53 rfl (lv_at hl 0 rfl) ?_
    refine va_get (D := D) (ci := 7) (v := .ref (va 1)) (C := RX9) (T := TX9) (N := 53) hx hb hts in9 hown hG.1 hP 0 rfl rfl 1 (by decide) (hts (.fieldLink RX9 9 "ChairCaneModel" "scalar" "[I") (mem_b bq_wsX9_pence 0 1 rfl)) (fun _ h9 => h9) rfl dX9_pence_54 ?_
    refine lv_iconst (v := 3) hx hb dX9_pence_57 (by decide) ?_
    refine va_iald hx hb hG.1 hP 1 0 rfl rfl (by unfold vp_in; decide) dX9_pence_58 ?_
    refine lv_icmp_ge (tgt := 124) hx hb dX9_pence_59 (by decide) (fun c1 => ?_) (fun c1 => ?_)
    · have h := fw_t c1 h
      refine lv_iload hx hb dX9_pence_124 (lv_at hl 6 rfl) ?_
      refine lv_iload_n hx hb dX9_pence_126 rfl (lv_at hl 3 rfl) ?_
      obtain ⟨g2, h⟩ := fw_g h
      refine lv_idiv hx hb dX9_pence_127 g2 ?_
      refine lv_iload hx hb dX9_pence_128 (lv_at hl 5 rfl) ?_
      refine lv_iload hx hb dX9_pence_130 (lv_at hl 4 rfl) ?_
      refine lv_icmp_ge (tgt := 139) hx hb dX9_pence_132 (by decide) (fun c3 => ?_) (fun c3 => ?_)
      · have h := fw_t c3 h
        refine lv_iconst (v := 0) hx hb dX9_pence_139 (by decide) ?_
        exact B140 _ _ _ _ _ h hP hD hS (lv_sub hl [] rfl)
      · have h := fw_f c3 h
        refine lv_iconst (v := 1) hx hb dX9_pence_135 (by decide) ?_
        refine lv_goto (tgt := 140) hx hb dX9_pence_136 (by decide) ?_
        exact B140 _ _ _ _ _ h hP hD hS (lv_sub hl [] rfl)
    · have h := fw_f c1 h
      refine lv_iload_n hx hb dX9_pence_62 rfl (lv_at hl 1 rfl) ?_
      refine lv_aload_n hx hb dX9_pence_63 rfl (lv_at hl 0 rfl) ?_
      refine lv_iload hx hb dX9_pence_64 (lv_at hl 7 rfl) ?_
      refine fw_Vi (As := [.int a51.2.2.2.2.2.2]) (rest := [.int a51.1]) (n := 1) (wr := []) (rv := fun b : Int32 => b) (wp := fun b : Int32 => moW k va mo) h hx hb hml hown hts hG hA hP hD hS hl.1 (List.range (moW k va mo).length) [] (fun q hq9 => c_X9_givesNow l D k _  va F a51.2.2.2.2.2.2 mo  hq9) (ci := 7) (q0 := 0) rfl rfl gX9_pence_X9_givesNow rfl ⟨rfl, rfl, Nat.le_of_ble_eq_true rfl, Nat.le_of_ble_eq_true rfl⟩ (by decide +kernel) (al_C _) rfl (al_n _) ⟨rfl, rfl, Nat.le_of_ble_eq_true rfl, Nat.le_of_ble_eq_true rfl, Nat.le_of_ble_eq_true rfl⟩ dX9_pence_66 (fun q4 H locs h hP hD hS => ?_)
      obtain ⟨hP, hD⟩ := cv (w' := moW k va mo) hP hD rfl
      refine hc_is (z := q4) rfl ?_
      refine lv_imul hx hb dX9_pence_69 ?_
      refine lv_istore (lv' := [(8, .int (a51.1 * q4)), (0, .ref (va 0)), (1, .int a51.1), (2, .int a51.2.1), (3, .int a51.2.2.1), (4, .int a51.2.2.2.1), (5, .int a51.2.2.2.2.1), (6, .int a51.2.2.2.2.2.1), (7, .int a51.2.2.2.2.2.2)]) hx hb dX9_pence_70 hl (by decide) rfl (fun ls hl => ?_)
      refine lv_iload hx hb dX9_pence_72 (lv_at hl 5 rfl) ?_
      refine lv_iload hx hb dX9_pence_74 (lv_at hl 0 rfl) ?_
      refine lv_iload_n hx hb dX9_pence_76 rfl (lv_at hl 4 rfl) ?_
      obtain ⟨g5, h⟩ := fw_g h
      refine lv_idiv hx hb dX9_pence_77 g5 ?_
      refine lv_isub hx hb dX9_pence_78 ?_
      refine lv_istore (lv' := [(4, .int (a51.2.2.2.1 - ((a51.1 * q4) / a51.2.2.1))), (8, .int (a51.1 * q4)), (0, .ref (va 0)), (1, .int a51.1), (2, .int a51.2.1), (3, .int a51.2.2.1), (5, .int a51.2.2.2.2.1), (6, .int a51.2.2.2.2.2.1), (7, .int a51.2.2.2.2.2.2)]) hx hb dX9_pence_79 hl (by decide) rfl (fun ls hl => ?_)
      refine lv_iload hx hb dX9_pence_81 (lv_at hl 1 rfl) ?_
      refine lv_iload_n hx hb dX9_pence_83 rfl (lv_at hl 5 rfl) ?_
      refine lv_irem hx hb dX9_pence_84 g5 ?_
      refine lv_iload hx hb dX9_pence_85 (lv_at hl 7 rfl) ?_
      refine lv_iload_n hx hb dX9_pence_87 rfl (lv_at hl 5 rfl) ?_
      refine lv_irem hx hb dX9_pence_88 g5 ?_
      refine lv_isub hx hb dX9_pence_89 ?_
      refine lv_istore (lv' := [(9, .int (((a51.1 * q4) - (a51.1 * q4) / a51.2.2.1 * a51.2.2.1) - (a51.2.2.2.2.2.1 - a51.2.2.2.2.2.1 / a51.2.2.1 * a51.2.2.1))), (4, .int (a51.2.2.2.1 - ((a51.1 * q4) / a51.2.2.1))), (8, .int (a51.1 * q4)), (0, .ref (va 0)), (1, .int a51.1), (2, .int a51.2.1), (3, .int a51.2.2.1), (5, .int a51.2.2.2.2.1), (6, .int a51.2.2.2.2.2.1), (7, .int a51.2.2.2.2.2.2)]) hx hb dX9_pence_90 hl (by decide) rfl (fun ls hl => ?_)
      refine lv_iload hx hb dX9_pence_92 (lv_at hl 7 rfl) ?_
      refine lv_iload hx hb dX9_pence_94 (lv_at hl 0 rfl) ?_
      refine lv_if_gt (tgt := 110) hx hb dX9_pence_96 (by decide) (fun c6 => ?_) (fun c6 => ?_)
      · have h := fw_t c6 h
        exact B110 _ _ _ _ _ _ _ _ _ _ h hP hD hS (lv_sub hl [3, 4, 5, 6, 1, 8, 9] rfl)
      · have h := fw_f c6 h
        refine lv_iload hx hb dX9_pence_99 (lv_at hl 0 rfl) ?_
        refine lv_if_ne (tgt := 114) hx hb dX9_pence_101 (by decide) (fun c7 => ?_) (fun c7 => ?_)
        · have h := fw_f c7 h
          exact B114 _ _ _ _ _ _ _ _ _ _ h hP hD hS (lv_sub hl [3, 4, 5, 6, 1, 8, 9] rfl)
        · have h := fw_t c7 h
          refine lv_iload hx hb dX9_pence_104 (lv_at hl 9 rfl) ?_
          refine lv_iload_n hx hb dX9_pence_106 rfl (lv_at hl 5 rfl) ?_
          refine lv_icmp_ge (tgt := 114) hx hb dX9_pence_107 (by decide) (fun c8 => ?_) (fun c8 => ?_)
          · have h := fw_t c8 h
            exact B114 _ _ _ _ _ _ _ _ _ _ h hP hD hS (lv_sub hl [3, 4, 5, 6, 1, 8, 9] rfl)
          · have h := fw_f c8 h
            exact B110 _ _ _ _ _ _ _ _ _ _ h hP hD hS (lv_sub hl [3, 4, 5, 6, 1, 8, 9] rfl)
  have C51 : ∀ (v1 : Int32) (v2 : Int32) (v3 : Int32) (v4 : Int32) (v5 : Int32) (v6 : Int32) (v7 : Int32), lp (b_X9_pence_51 F mo) F (v1, v2, v3, v4, v5, v6, v7) = some res → ∀ (H : Heap) (locs : List Loc) (ls : Array Slot), va_P D vwCl (moW k va mo) H → va_D A (moW k va mo) → va_S A s.heap H locs → lv_has ls 10 [(0, .ref (va 0)), (1, .int v1), (2, .int v2), (3, .int v3), (4, .int v4), (5, .int v5), (6, .int v6), (7, .int v7)] → W p l e (rmK 6 0 0) s m (List.toArray [.ref (va 0), .int x1, .int x2]) below meth c H locs 0 0 (MQ below (va_Qi (fun r (_ : Unit) => r = res) (hcB D (fun _ : Unit => moW k va mo) A) A) (List.toArray [.ref (va 0), .int x1, .int x2]) s 0 0 A) (F0 m 51 ls []) := fun v1 v2 v3 v4 v5 v6 v7 => B51 (v1, v2, v3, v4, v5, v6, v7)
  refine lv_aload_n hx hb dX9_pence_0 rfl (lv_at hl 0 rfl) ?_
  refine lv_iload_n hx hb dX9_pence_1 rfl (lv_at hl 2 rfl) ?_
  refine fw_Vi (As := [.int x2]) (rest := []) (n := 1) (wr := []) (rv := fun b : Int32 => b) (wp := fun b : Int32 => moW k va mo) h hx hb hml hown hts hG hA hP hD hS hl.1 (List.range (moW k va mo).length) [] (fun q hq9 => c_X9_isSitter l D k _  va F x2 mo  hq9) (ci := 7) (q0 := 0) rfl rfl gX9_pence_X9_isSitter rfl ⟨rfl, rfl, Nat.le_of_ble_eq_true rfl, Nat.le_of_ble_eq_true rfl⟩ (by decide +kernel) (al_C _) rfl (al_n _) ⟨rfl, rfl, Nat.le_of_ble_eq_true rfl, Nat.le_of_ble_eq_true rfl, Nat.le_of_ble_eq_true rfl⟩ dX9_pence_2 (fun q9 H locs h hP hD hS => ?_)
  obtain ⟨hP, hD⟩ := cv (w' := moW k va mo) hP hD rfl
  refine hc_is (z := q9) rfl ?_
  refine lv_if_eq (tgt := 20) hx hb dX9_pence_5 (by decide) (fun c10 => ?_) (fun c10 => ?_)
  · have h := fw_t c10 h
    exact B20 _ _ _ h hP hD hS (lv_sub hl [] rfl)
  · have h := fw_f c10 h
    refine lv_iload_n hx hb dX9_pence_8 rfl (lv_at hl 1 rfl) ?_
    refine lv_i2l hx hb dX9_pence_9 rfl ?_
    refine lv_lconst (v := 0) hx hb dX9_pence_10 (by decide) ?_
    refine lv_ldc2 (v := 9999) hx hb hown (hts (.constantLong RX9 452 (9999)) (mem_b bq_wsX9_pence 0 0 rfl)) dX9_pence_11 ?_
    refine fw_Si (As := [.long (Int32.toInt64 x1), .long 0, .long 9999]) (rest := []) (n := 3) (wr := moW k va mo) (rv := fun b : Int32 => b) (wp := fun b : Int32 => []) h hx hb hml hown hts hG hA hP hD hS hl.1 [] (List.range (moW k va mo).length) (fun q hq9 => c_X9_in l D k _   F (Int32.toInt64 x1) 0 9999   hq9) gX9_pence_X9_in rfl ⟨rfl, rfl, Nat.le_of_ble_eq_true rfl, Nat.le_of_ble_eq_true rfl⟩ (by decide +kernel) rfl (al_C _) (al_m _) ⟨rfl, rfl, Nat.le_of_ble_eq_true rfl, Nat.le_of_ble_eq_true rfl, Nat.le_of_ble_eq_true rfl⟩ dX9_pence_14 (fun q11 H locs h hP hD hS => ?_)
    obtain ⟨hP, hD⟩ := cv (w' := (moW k va mo) ++ []) hP hD rfl
    rw [List.append_nil] at hP hD
    refine hc_is (z := q11) rfl ?_
    refine lv_if_ne (tgt := 22) hx hb dX9_pence_17 (by decide) (fun c12 => ?_) (fun c12 => ?_)
    · have h := fw_f c12 h
      refine lv_aload_n hx hb dX9_pence_22 rfl (lv_at hl 0 rfl) ?_
      refine fw_Vi (As := []) (rest := []) (n := 0) (wr := []) (rv := fun b : Int32 => b) (wp := fun b : Int32 => moW k va mo) h hx hb hml hown hts hG hA hP hD hS hl.1 (List.range (moW k va mo).length) [] (fun q hq9 => c_X9_allGive l D k _  va F  mo  hq9) (ci := 7) (q0 := 0) rfl rfl gX9_pence_X9_allGive rfl ⟨rfl, rfl, Nat.le_of_ble_eq_true rfl, Nat.le_of_ble_eq_true rfl⟩ (by decide +kernel) (al_C _) rfl (al_n _) ⟨rfl, rfl, Nat.le_of_ble_eq_true rfl, Nat.le_of_ble_eq_true rfl, Nat.le_of_ble_eq_true rfl⟩ dX9_pence_23 (fun q13 H locs h hP hD hS => ?_)
      obtain ⟨hP, hD⟩ := cv (w' := moW k va mo) hP hD rfl
      refine hc_is (z := q13) rfl ?_
      refine lv_istore_n (lv' := [(3, .int q13), (0, .ref (va 0)), (1, .int x1), (2, .int x2)]) hx hb dX9_pence_26 rfl hl (by decide) rfl (fun ls hl => ?_)
      refine lv_iload_n hx hb dX9_pence_27 rfl (lv_at hl 0 rfl) ?_
      refine lv_if_ne (tgt := 33) hx hb dX9_pence_28 (by decide) (fun c14 => ?_) (fun c14 => ?_)
      · have h := fw_f c14 h
        refine lv_iload_n hx hb dX9_pence_33 rfl (lv_at hl 2 rfl) ?_
        refine lv_istore (lv' := [(4, .int x1), (3, .int q13), (0, .ref (va 0)), (1, .int x1), (2, .int x2)]) hx hb dX9_pence_34 hl (by decide) rfl (fun ls hl => ?_)
        refine lv_iconst (v := 0) hx hb dX9_pence_36 (by decide) ?_
        refine lv_istore (lv' := [(5, .int 0), (4, .int x1), (3, .int q13), (0, .ref (va 0)), (1, .int x1), (2, .int x2)]) hx hb dX9_pence_37 hl (by decide) rfl (fun ls hl => ?_)
        refine lv_iload_n hx hb dX9_pence_39 rfl (lv_at hl 4 rfl) ?_
        refine lv_aload_n hx hb dX9_pence_40 rfl (lv_at hl 3 rfl) ?_
        refine lv_iload_n hx hb dX9_pence_41 rfl (lv_at hl 5 rfl) ?_
        refine fw_Vi (As := [.int x2]) (rest := [.int x1]) (n := 1) (wr := []) (rv := fun b : Int32 => b) (wp := fun b : Int32 => moW k va mo) h hx hb hml hown hts hG hA hP hD hS hl.1 (List.range (moW k va mo).length) [] (fun q hq9 => c_X9_givesNow l D k _  va F x2 mo  hq9) (ci := 7) (q0 := 0) rfl rfl gX9_pence_X9_givesNow rfl ⟨rfl, rfl, Nat.le_of_ble_eq_true rfl, Nat.le_of_ble_eq_true rfl⟩ (by decide +kernel) (al_C _) rfl (al_n _) ⟨rfl, rfl, Nat.le_of_ble_eq_true rfl, Nat.le_of_ble_eq_true rfl, Nat.le_of_ble_eq_true rfl⟩ dX9_pence_42 (fun q15 H locs h hP hD hS => ?_)
        obtain ⟨hP, hD⟩ := cv (w' := moW k va mo) hP hD rfl
        refine hc_is (z := q15) rfl ?_
        refine lv_imul hx hb dX9_pence_45 ?_
        refine lv_istore (lv' := [(6, .int (x1 * q15)), (5, .int 0), (4, .int x1), (3, .int q13), (0, .ref (va 0)), (1, .int x1), (2, .int x2)]) hx hb dX9_pence_46 hl (by decide) rfl (fun ls hl => ?_)
        refine lv_iconst (v := 0) hx hb dX9_pence_48 (by decide) ?_
        refine lv_istore (lv' := [(7, .int 0), (6, .int (x1 * q15)), (5, .int 0), (4, .int x1), (3, .int q13), (0, .ref (va 0)), (1, .int x1), (2, .int x2)]) hx hb dX9_pence_49 hl (by decide) rfl (fun ls hl => ?_)
        exact C51 _ _ _ _ _ _ _ h _ _ _ hP hD hS (lv_sub hl [5, 6, 7, 4, 3, 2, 1, 0] rfl)
      · have h := fw_t c14 h
        refine lv_iconst (v := 0) hx hb dX9_pence_31 (by decide) ?_
        exact fw_endI (rv := fun b : Int32 => b) (wp := fun b : Int32 => moW k va mo) hx hb hr hlocks h rfl hP hD hS dX9_pence_32
    · have h := fw_t c12 h
      exact B20 _ _ _ h hP hD hS (lv_sub hl [] rfl)
noncomputable def b_X9_note_61 (F : Nat)    (mo : OB) : Option (Int32 × OB) :=
  some ((-2), mo)
noncomputable def f_X9_note (F : Nat)  (x1 : Int32) (x2 : Int32) (x3 : Int32) (mo : OB) : Option (Int32 × OB) :=
  if x1 = (-1) then (some (0, (mo.1, (uF mo.2.1 1 (upd (mo.2.1 1) (Int32.toNatClampNeg 5) 0)), mo.2.2))) else (Option.bind (f_X9_in F (Int32.toInt64 x1) 0 60) (fun q2 => (if q2 = 0 then (b_X9_note_61 F mo) else (Option.bind (f_X9_isSitter F x2 mo) (fun q4 => (if q4 = 0 then (b_X9_note_61 F mo) else (Option.bind (f_X9_in F (Int32.toInt64 x3) 0 2) (fun q6 => (if q6 = 0 then (b_X9_note_61 F mo) else (if ((mo.2.1 1) (Int32.toNatClampNeg 5)) = 10 then (b_X9_note_61 F mo) else (if ib ((mo.2.1 1) (Int32.toNatClampNeg 5)) 10 then (some ((((mo.2.1 1) (Int32.toNatClampNeg 5)) + 1), (mo.1, (uF (uF (uF (uF mo.2.1 1 (upd (mo.2.1 1) (Int32.toNatClampNeg 5) (((mo.2.1 1) (Int32.toNatClampNeg 5)) + 1))) 8 (upd (mo.2.1 8) (Int32.toNatClampNeg ((mo.2.1 1) (Int32.toNatClampNeg 5))) x1)) 9 (upd (mo.2.1 9) (Int32.toNatClampNeg ((mo.2.1 1) (Int32.toNatClampNeg 5))) x2)) 10 (upd (mo.2.1 10) (Int32.toNatClampNeg ((mo.2.1 1) (Int32.toNatClampNeg 5))) x3)), mo.2.2))) else none)))))))))))
set_option maxHeartbeats 4000000 in
set_option maxRecDepth 100000 in
theorem c_X9_note (l : Launch) (D : va_G) (k : Nat → ClassId) (sz : Nat)  (va : Nat → Nat) (F : Nat)  (x1 : Int32) (x2 : Int32) (x3 : Int32) (mo : OB)  {res : Int32 × OB} (h : f_X9_note F x1 x2 x3 mo = some res) : CtI l yX9_note wsX9_note (rmK 3 0 0) [.ref (va 0), .int x1, .int x2, .int x3] D k sz (moW k va mo) (fun r (_ : Unit) => r = res.1) (fun _ : Unit => moW k va res.2) 0 0 := by
  refine CtI.mk (cc := cX9_note) (maxL := 5) (ret := (some .int)) (by decide) rfl (Nat.le_of_ble_eq_true rfl) ?_
  intro p e s m below meth c A ls E hP hD hS hl
  obtain ⟨hx, hb, hr, hml, hown, hts, hlocks, hin, hG, hA⟩ := E
  have hown : s.vm.findClass RX9 = some m.cls := hown
  have in9 : ∀ w ∈ u_ws RX9 TX9 53, w ∈ wsX9_note := fun _ h => List.mem_cons_of_mem _ (List.mem_append_right _ h)
  have hl : lv_has ls 5 [(0, .ref (va 0)), (1, .int x1), (2, .int x2), (3, .int x3)] := hl
  have B61 : ∀ (mo : OB) (H : Heap) (locs : List Loc) (ls : Array Slot), b_X9_note_61 F mo = some res → va_P D vwCl (moW k va mo) H → va_D A (moW k va mo) → va_S A s.heap H locs → lv_has ls 5 [] → W p l e (rmK 3 0 0) s m (List.toArray [.ref (va 0), .int x1, .int x2, .int x3]) below meth c H locs 0 0 (MQ below (va_Qi (fun r (_ : Unit) => r = res.1) (hcB D (fun _ : Unit => moW k va res.2) A) A) (List.toArray [.ref (va 0), .int x1, .int x2, .int x3]) s 0 0 A) (F0 m 61 ls []) := by
    intro mo H locs ls h hP hD hS hl
    refine lv_bipush (v := (-2)) hx hb dX9_note_61 (by decide) ?_
    exact fw_endI (rv := fun b : Int32 × OB => b.1) (wp := fun b : Int32 × OB => moW k va b.2) hx hb hr hlocks h rfl hP hD hS dX9_note_63
  refine lv_iload_n hx hb dX9_note_0 rfl (lv_at hl 1 rfl) ?_
  refine lv_iconst (v := (-1)) hx hb dX9_note_1 (by decide) ?_
  refine lv_icmp_ne (tgt := 14) hx hb dX9_note_2 (by decide) (fun c1 => ?_) (fun c1 => ?_)
  · have h := fw_f c1 h
    refine lv_aload_n hx hb dX9_note_14 rfl (lv_at hl 0 rfl) ?_
    refine va_get (D := D) (ci := 7) (v := .ref (va 1)) (C := RX9) (T := TX9) (N := 53) hx hb hts in9 hown hG.1 hP 0 rfl rfl 1 (by decide) (hts (.fieldLink RX9 9 "ChairCaneModel" "scalar" "[I") (mem_b bq_wsX9_note 0 0 rfl)) (fun _ h9 => h9) rfl dX9_note_15 ?_
    refine lv_iconst (v := 5) hx hb dX9_note_18 (by decide) ?_
    refine va_iald hx hb hG.1 hP 1 0 rfl rfl (by unfold vp_in; decide) dX9_note_19 ?_
    refine lv_istore (lv' := [(4, .int ((mo.2.1 1) (Int32.toNatClampNeg 5))), (0, .ref (va 0)), (1, .int x1), (2, .int x2), (3, .int x3)]) hx hb dX9_note_20 hl (by decide) rfl (fun ls hl => ?_)
    refine lv_iload_n hx hb dX9_note_22 rfl (lv_at hl 2 rfl) ?_
    refine lv_i2l hx hb dX9_note_23 rfl ?_
    refine lv_lconst (v := 0) hx hb dX9_note_24 (by decide) ?_
    refine lv_ldc2 (v := 60) hx hb hown (hts (.constantLong RX9 457 (60)) (mem_b bq_wsX9_note 0 1 rfl)) dX9_note_25 ?_
    refine fw_Si (As := [.long (Int32.toInt64 x1), .long 0, .long 60]) (rest := []) (n := 3) (wr := moW k va mo) (rv := fun b : Int32 => b) (wp := fun b : Int32 => []) h hx hb hml hown hts hG hA hP hD hS hl.1 [] (List.range (moW k va mo).length) (fun q hq9 => c_X9_in l D k _   F (Int32.toInt64 x1) 0 60   hq9) gX9_note_X9_in rfl ⟨rfl, rfl, Nat.le_of_ble_eq_true rfl, Nat.le_of_ble_eq_true rfl⟩ (by decide +kernel) rfl (al_C _) (al_m _) ⟨rfl, rfl, Nat.le_of_ble_eq_true rfl, Nat.le_of_ble_eq_true rfl, Nat.le_of_ble_eq_true rfl⟩ dX9_note_28 (fun q2 H locs h hP hD hS => ?_)
    obtain ⟨hP, hD⟩ := cv (w' := (moW k va mo) ++ []) hP hD rfl
    rw [List.append_nil] at hP hD
    refine hc_is (z := q2) rfl ?_
    refine lv_if_eq (tgt := 61) hx hb dX9_note_31 (by decide) (fun c3 => ?_) (fun c3 => ?_)
    · have h := fw_t c3 h
      exact B61 _ _ _ _ h hP hD hS (lv_sub hl [] rfl)
    · have h := fw_f c3 h
      refine lv_aload_n hx hb dX9_note_34 rfl (lv_at hl 1 rfl) ?_
      refine lv_iload_n hx hb dX9_note_35 rfl (lv_at hl 3 rfl) ?_
      refine fw_Vi (As := [.int x2]) (rest := []) (n := 1) (wr := []) (rv := fun b : Int32 => b) (wp := fun b : Int32 => moW k va mo) h hx hb hml hown hts hG hA hP hD hS hl.1 (List.range (moW k va mo).length) [] (fun q hq9 => c_X9_isSitter l D k _  va F x2 mo  hq9) (ci := 7) (q0 := 0) rfl rfl gX9_note_X9_isSitter rfl ⟨rfl, rfl, Nat.le_of_ble_eq_true rfl, Nat.le_of_ble_eq_true rfl⟩ (by decide +kernel) (al_C _) rfl (al_n _) ⟨rfl, rfl, Nat.le_of_ble_eq_true rfl, Nat.le_of_ble_eq_true rfl, Nat.le_of_ble_eq_true rfl⟩ dX9_note_36 (fun q4 H locs h hP hD hS => ?_)
      obtain ⟨hP, hD⟩ := cv (w' := moW k va mo) hP hD rfl
      refine hc_is (z := q4) rfl ?_
      refine lv_if_eq (tgt := 61) hx hb dX9_note_39 (by decide) (fun c5 => ?_) (fun c5 => ?_)
      · have h := fw_t c5 h
        exact B61 _ _ _ _ h hP hD hS (lv_sub hl [] rfl)
      · have h := fw_f c5 h
        refine lv_iload_n hx hb dX9_note_42 rfl (lv_at hl 4 rfl) ?_
        refine lv_i2l hx hb dX9_note_43 rfl ?_
        refine lv_lconst (v := 0) hx hb dX9_note_44 (by decide) ?_
        refine lv_ldc2 (v := 2) hx hb hown (hts (.constantLong RX9 365 (2)) (mem_b bq_wsX9_note 0 2 rfl)) dX9_note_45 ?_
        refine fw_Si (As := [.long (Int32.toInt64 x3), .long 0, .long 2]) (rest := []) (n := 3) (wr := moW k va mo) (rv := fun b : Int32 => b) (wp := fun b : Int32 => []) h hx hb hml hown hts hG hA hP hD hS hl.1 [] (List.range (moW k va mo).length) (fun q hq9 => c_X9_in l D k _   F (Int32.toInt64 x3) 0 2   hq9) gX9_note_X9_in rfl ⟨rfl, rfl, Nat.le_of_ble_eq_true rfl, Nat.le_of_ble_eq_true rfl⟩ (by decide +kernel) rfl (al_C _) (al_m _) ⟨rfl, rfl, Nat.le_of_ble_eq_true rfl, Nat.le_of_ble_eq_true rfl, Nat.le_of_ble_eq_true rfl⟩ dX9_note_48 (fun q6 H locs h hP hD hS => ?_)
        obtain ⟨hP, hD⟩ := cv (w' := (moW k va mo) ++ []) hP hD rfl
        rw [List.append_nil] at hP hD
        refine hc_is (z := q6) rfl ?_
        refine lv_if_eq (tgt := 61) hx hb dX9_note_51 (by decide) (fun c7 => ?_) (fun c7 => ?_)
        · have h := fw_t c7 h
          exact B61 _ _ _ _ h hP hD hS (lv_sub hl [] rfl)
        · have h := fw_f c7 h
          refine lv_iload hx hb dX9_note_54 (lv_at hl 0 rfl) ?_
          refine lv_bipush (v := 10) hx hb dX9_note_56 (by decide) ?_
          refine lv_icmp_ne (tgt := 64) hx hb dX9_note_58 (by decide) (fun c8 => ?_) (fun c8 => ?_)
          · have h := fw_f c8 h
            refine lv_aload_n hx hb dX9_note_64 rfl (lv_at hl 1 rfl) ?_
            refine va_get (D := D) (ci := 7) (v := .ref (va 8)) (C := RX9) (T := TX9) (N := 53) hx hb hts in9 hown hG.1 hP 0 rfl rfl 8 (by decide) (hts (.fieldLink RX9 31 "ChairCaneModel" "noteMinute" "[I") (mem_b bq_wsX9_note 0 3 rfl)) (fun _ h9 => h9) rfl dX9_note_65 ?_
            refine lv_iload hx hb dX9_note_68 (lv_at hl 0 rfl) ?_
            refine lv_iload_n hx hb dX9_note_70 rfl (lv_at hl 2 rfl) ?_
            obtain ⟨g9, h⟩ := fw_g h
            refine va_iast hx hb hG.1 hP hD hS 8 0 rfl rfl (ib_vp g9) dX9_note_71 (fun H locs hP hD hS => ?_)
            refine lv_aload_n hx hb dX9_note_72 rfl (lv_at hl 1 rfl) ?_
            refine va_get (D := D) (ci := 7) (v := .ref (va 9)) (C := RX9) (T := TX9) (N := 53) hx hb hts in9 hown hG.1 hP 0 rfl rfl 9 (by decide) (hts (.fieldLink RX9 34 "ChairCaneModel" "noteWho" "[I") (mem_b bq_wsX9_note 0 4 rfl)) (fun _ h9 => h9) rfl dX9_note_73 ?_
            refine lv_iload hx hb dX9_note_76 (lv_at hl 0 rfl) ?_
            refine lv_iload_n hx hb dX9_note_78 rfl (lv_at hl 3 rfl) ?_
            refine va_iast hx hb hG.1 hP hD hS 9 0 rfl rfl (ib_vp g9) dX9_note_79 (fun H locs hP hD hS => ?_)
            refine lv_aload_n hx hb dX9_note_80 rfl (lv_at hl 1 rfl) ?_
            refine va_get (D := D) (ci := 7) (v := .ref (va 10)) (C := RX9) (T := TX9) (N := 53) hx hb hts in9 hown hG.1 hP 0 rfl rfl 10 (by decide) (hts (.fieldLink RX9 37 "ChairCaneModel" "noteIs" "[I") (mem_b bq_wsX9_note 0 5 rfl)) (fun _ h9 => h9) rfl dX9_note_81 ?_
            refine lv_iload hx hb dX9_note_84 (lv_at hl 0 rfl) ?_
            refine lv_iload_n hx hb dX9_note_86 rfl (lv_at hl 4 rfl) ?_
            refine va_iast hx hb hG.1 hP hD hS 10 0 rfl rfl (ib_vp g9) dX9_note_87 (fun H locs hP hD hS => ?_)
            refine lv_aload_n hx hb dX9_note_88 rfl (lv_at hl 1 rfl) ?_
            refine va_get (D := D) (ci := 7) (v := .ref (va 1)) (C := RX9) (T := TX9) (N := 53) hx hb hts in9 hown hG.1 hP 0 rfl rfl 1 (by decide) (hts (.fieldLink RX9 9 "ChairCaneModel" "scalar" "[I") (mem_b bq_wsX9_note 0 0 rfl)) (fun _ h9 => h9) rfl dX9_note_89 ?_
            refine lv_iconst (v := 5) hx hb dX9_note_92 (by decide) ?_
            refine lv_dup2_11 hx hb dX9_note_93 rfl rfl ?_
            refine va_iald hx hb hG.1 hP 1 0 rfl rfl (by unfold vp_in; decide) dX9_note_94 ?_
            refine lv_iconst (v := 1) hx hb dX9_note_95 (by decide) ?_
            refine lv_iadd hx hb dX9_note_96 ?_
            refine va_iast hx hb hG.1 hP hD hS 1 0 rfl rfl (by unfold vp_in; decide) dX9_note_97 (fun H locs hP hD hS => ?_)
            refine lv_iload hx hb dX9_note_98 (lv_at hl 0 rfl) ?_
            refine lv_iconst (v := 1) hx hb dX9_note_100 (by decide) ?_
            refine lv_iadd hx hb dX9_note_101 ?_
            exact fw_endI (rv := fun b : Int32 × OB => b.1) (wp := fun b : Int32 × OB => moW k va b.2) hx hb hr hlocks h rfl hP hD hS dX9_note_102
          · have h := fw_t c8 h
            exact B61 _ _ _ _ h hP hD hS (lv_sub hl [] rfl)
  · have h := fw_t c1 h
    refine lv_aload_n hx hb dX9_note_5 rfl (lv_at hl 0 rfl) ?_
    refine va_get (D := D) (ci := 7) (v := .ref (va 1)) (C := RX9) (T := TX9) (N := 53) hx hb hts in9 hown hG.1 hP 0 rfl rfl 1 (by decide) (hts (.fieldLink RX9 9 "ChairCaneModel" "scalar" "[I") (mem_b bq_wsX9_note 0 0 rfl)) (fun _ h9 => h9) rfl dX9_note_6 ?_
    refine lv_iconst (v := 5) hx hb dX9_note_9 (by decide) ?_
    refine lv_iconst (v := 0) hx hb dX9_note_10 (by decide) ?_
    refine va_iast hx hb hG.1 hP hD hS 1 0 rfl rfl (by unfold vp_in; decide) dX9_note_11 (fun H locs hP hD hS => ?_)
    refine lv_iconst (v := 0) hx hb dX9_note_12 (by decide) ?_
    exact fw_endI (rv := fun b : Int32 × OB => b.1) (wp := fun b : Int32 × OB => moW k va b.2) hx hb hr hlocks h rfl hP hD hS dX9_note_13
noncomputable def b_X9_doNotesFit_10 (F : Nat)    (k10 : (Int32 × OB) → Option (Int32 × OB)) (a10 : (Int32 × OB)) : Option (Int32 × OB) :=
  if ((a10.2.2.1 1) (Int32.toNatClampNeg 5)) ≤ a10.1 then (some (1, a10.2)) else (if ib a10.1 10 then (if ib ((8 * ((a10.2.2.1 8) (Int32.toNatClampNeg a10.1))) + ((a10.2.2.1 9) (Int32.toNatClampNeg a10.1))) 488 then (if ((a10.2.2.1 47) (Int32.toNatClampNeg ((8 * ((a10.2.2.1 8) (Int32.toNatClampNeg a10.1))) + ((a10.2.2.1 9) (Int32.toNatClampNeg a10.1))))) = ((a10.2.2.1 10) (Int32.toNatClampNeg a10.1)) then (k10 ((a10.1 + 1), a10.2)) else (some (0, a10.2))) else none) else none)
noncomputable def f_X9_doNotesFit (F : Nat)   (mo : OB) : Option (Int32 × OB) :=
  Option.bind (f_X9_laysAll F mo) (fun q5 => (Option.bind (f_X9_laysBack F q5) (fun q6 => (lp (b_X9_doNotesFit_10 F) F (0, q6)))))
set_option maxHeartbeats 4000000 in
set_option maxRecDepth 100000 in
theorem c_X9_doNotesFit (l : Launch) (D : va_G) (k : Nat → ClassId) (sz : Nat)  (va : Nat → Nat) (F : Nat)   (mo : OB)  {res : Int32 × OB} (h : f_X9_doNotesFit F mo = some res) : CtI l yX9_doNotesFit wsX9_doNotesFit (rmK 8 0 0) [.ref (va 0)] D k sz (moW k va mo) (fun r (_ : Unit) => r = res.1) (fun _ : Unit => moW k va res.2) 0 0 := by
  refine CtI.mk (cc := cX9_doNotesFit) (maxL := 2) (ret := (some .boolean)) (by decide) rfl (Nat.le_of_ble_eq_true rfl) ?_
  intro p e s m below meth c A ls E hP hD hS hl
  obtain ⟨hx, hb, hr, hml, hown, hts, hlocks, hin, hG, hA⟩ := E
  have hown : s.vm.findClass RX9 = some m.cls := hown
  have in9 : ∀ w ∈ u_ws RX9 TX9 53, w ∈ wsX9_doNotesFit := fun _ h => List.mem_cons_of_mem _ (List.mem_append_right _ h)
  have hl : lv_has ls 2 [(0, .ref (va 0))] := hl
  have B10 : ∀ a10 : (Int32 × OB), lp (b_X9_doNotesFit_10 F) F a10 = some res → ∀ (H : Heap) (locs : List Loc) (ls : Array Slot), va_P D vwCl (moW k va a10.2) H → va_D A (moW k va a10.2) → va_S A s.heap H locs → lv_has ls 2 [(0, .ref (va 0)), (1, .int a10.1)] → W p l e (rmK 8 0 0) s m (List.toArray [.ref (va 0)]) below meth c H locs 0 0 (MQ below (va_Qi (fun r (_ : Unit) => r = res.1) (hcB D (fun _ : Unit => moW k va res.2) A) A) (List.toArray [.ref (va 0)]) s 0 0 A) (F0 m 10 ls []) := by
    refine lp_W ?_ F
    intro k10 hk10 a10 h H locs ls hP hD hS hl
    have hc10 : ∀ (v1 : Int32) (mo : OB), k10 (v1, mo) = some res → ∀ (H : Heap) (locs : List Loc) (ls : Array Slot), va_P D vwCl (moW k va mo) H → va_D A (moW k va mo) → va_S A s.heap H locs → lv_has ls 2 [(0, .ref (va 0)), (1, .int v1)] → W p l e (rmK 8 0 0) s m (List.toArray [.ref (va 0)]) below meth c H locs 0 0 (MQ below (va_Qi (fun r (_ : Unit) => r = res.1) (hcB D (fun _ : Unit => moW k va res.2) A) A) (List.toArray [.ref (va 0)]) s 0 0 A) (F0 m 10 ls []) := fun v1 mo => hk10 (v1, mo)
    refine lv_iload_n hx hb dX9_doNotesFit_10 rfl (lv_at hl 1 rfl) ?_
    refine lv_aload_n hx hb dX9_doNotesFit_11 rfl (lv_at hl 0 rfl) ?_
    refine va_get (D := D) (ci := 7) (v := .ref (va 1)) (C := RX9) (T := TX9) (N := 53) hx hb hts in9 hown hG.1 hP 0 rfl rfl 1 (by decide) (hts (.fieldLink RX9 9 "ChairCaneModel" "scalar" "[I") (mem_b bq_wsX9_doNotesFit 0 0 rfl)) (fun _ h9 => h9) rfl dX9_doNotesFit_12 ?_
    refine lv_iconst (v := 5) hx hb dX9_doNotesFit_15 (by decide) ?_
    refine va_iald hx hb hG.1 hP 1 0 rfl rfl (by unfold vp_in; decide) dX9_doNotesFit_16 ?_
    refine lv_icmp_ge (tgt := 58) hx hb dX9_doNotesFit_17 (by decide) (fun c1 => ?_) (fun c1 => ?_)
    · have h := fw_t c1 h
      refine lv_iconst (v := 1) hx hb dX9_doNotesFit_58 (by decide) ?_
      exact fw_endZ (v := 1) (rv := fun b : Int32 × OB => b.1) (wp := fun b : Int32 × OB => moW k va b.2) hx hb hr hlocks h rfl rfl hP hD hS dX9_doNotesFit_59
    · have h := fw_f c1 h
      refine lv_aload_n hx hb dX9_doNotesFit_20 rfl (lv_at hl 0 rfl) ?_
      refine va_get (D := D) (ci := 7) (v := .ref (va 34)) (C := RX9) (T := TX9) (N := 53) hx hb hts in9 hown hG.1 hP 0 rfl rfl 47 (by decide) (hts (.fieldLink RX9 116 "ChairCaneModel" "lay" "[I") (mem_b bq_wsX9_doNotesFit 0 1 rfl)) (fun _ h9 => h9) rfl dX9_doNotesFit_21 ?_
      refine lv_bipush (v := 8) hx hb dX9_doNotesFit_24 (by decide) ?_
      refine lv_aload_n hx hb dX9_doNotesFit_26 rfl (lv_at hl 0 rfl) ?_
      refine va_get (D := D) (ci := 7) (v := .ref (va 8)) (C := RX9) (T := TX9) (N := 53) hx hb hts in9 hown hG.1 hP 0 rfl rfl 8 (by decide) (hts (.fieldLink RX9 31 "ChairCaneModel" "noteMinute" "[I") (mem_b bq_wsX9_doNotesFit 0 2 rfl)) (fun _ h9 => h9) rfl dX9_doNotesFit_27 ?_
      refine lv_iload_n hx hb dX9_doNotesFit_30 rfl (lv_at hl 1 rfl) ?_
      obtain ⟨g2, h⟩ := fw_g h
      refine va_iald hx hb hG.1 hP 8 0 rfl rfl (ib_vp g2) dX9_doNotesFit_31 ?_
      refine lv_imul hx hb dX9_doNotesFit_32 ?_
      refine lv_aload_n hx hb dX9_doNotesFit_33 rfl (lv_at hl 0 rfl) ?_
      refine va_get (D := D) (ci := 7) (v := .ref (va 9)) (C := RX9) (T := TX9) (N := 53) hx hb hts in9 hown hG.1 hP 0 rfl rfl 9 (by decide) (hts (.fieldLink RX9 34 "ChairCaneModel" "noteWho" "[I") (mem_b bq_wsX9_doNotesFit 0 3 rfl)) (fun _ h9 => h9) rfl dX9_doNotesFit_34 ?_
      refine lv_iload_n hx hb dX9_doNotesFit_37 rfl (lv_at hl 1 rfl) ?_
      refine va_iald hx hb hG.1 hP 9 0 rfl rfl (ib_vp g2) dX9_doNotesFit_38 ?_
      refine lv_iadd hx hb dX9_doNotesFit_39 ?_
      obtain ⟨g3, h⟩ := fw_g h
      refine va_iald hx hb hG.1 hP 34 0 rfl rfl (ib_vp g3) dX9_doNotesFit_40 ?_
      refine lv_aload_n hx hb dX9_doNotesFit_41 rfl (lv_at hl 0 rfl) ?_
      refine va_get (D := D) (ci := 7) (v := .ref (va 10)) (C := RX9) (T := TX9) (N := 53) hx hb hts in9 hown hG.1 hP 0 rfl rfl 10 (by decide) (hts (.fieldLink RX9 37 "ChairCaneModel" "noteIs" "[I") (mem_b bq_wsX9_doNotesFit 0 4 rfl)) (fun _ h9 => h9) rfl dX9_doNotesFit_42 ?_
      refine lv_iload_n hx hb dX9_doNotesFit_45 rfl (lv_at hl 1 rfl) ?_
      refine va_iald hx hb hG.1 hP 10 0 rfl rfl (ib_vp g2) dX9_doNotesFit_46 ?_
      refine lv_icmp_eq (tgt := 52) hx hb dX9_doNotesFit_47 (by decide) (fun c4 => ?_) (fun c4 => ?_)
      · have h := fw_t c4 h
        refine lv_iinc (v := (a10.1 + 1)) (lv' := [(1, .int (a10.1 + 1)), (0, .ref (va 0))]) hx hb dX9_doNotesFit_52 hl (k := 1) rfl rfl (by decide) rfl (fun ls hl => ?_)
        refine lv_goto (tgt := 10) hx hb dX9_doNotesFit_55 (by decide) ?_
        exact hc10 _ _ h _ _ _ hP hD hS (lv_sub hl [1, 0] rfl)
      · have h := fw_f c4 h
        refine lv_iconst (v := 0) hx hb dX9_doNotesFit_50 (by decide) ?_
        exact fw_endZ (v := 0) (rv := fun b : Int32 × OB => b.1) (wp := fun b : Int32 × OB => moW k va b.2) hx hb hr hlocks h rfl rfl hP hD hS dX9_doNotesFit_51
  have C10 : ∀ (v1 : Int32) (mo : OB), lp (b_X9_doNotesFit_10 F) F (v1, mo) = some res → ∀ (H : Heap) (locs : List Loc) (ls : Array Slot), va_P D vwCl (moW k va mo) H → va_D A (moW k va mo) → va_S A s.heap H locs → lv_has ls 2 [(0, .ref (va 0)), (1, .int v1)] → W p l e (rmK 8 0 0) s m (List.toArray [.ref (va 0)]) below meth c H locs 0 0 (MQ below (va_Qi (fun r (_ : Unit) => r = res.1) (hcB D (fun _ : Unit => moW k va res.2) A) A) (List.toArray [.ref (va 0)]) s 0 0 A) (F0 m 10 ls []) := fun v1 mo => B10 (v1, mo)
  refine lv_aload_n hx hb dX9_doNotesFit_0 rfl (lv_at hl 0 rfl) ?_
  refine fw_Vv (As := []) (rest := []) (n := 0) (wr := []) (wp := fun b : OB => moW k va b) h hx hb hml hown hts hG hA hP hD hS hl.1 (List.range (moW k va mo).length) [] (fun q hq9 => c_X9_laysAll l D k _  va F  mo  hq9) (ci := 7) (q0 := 0) rfl rfl gX9_doNotesFit_X9_laysAll rfl ⟨rfl, rfl, Nat.le_of_ble_eq_true rfl, Nat.le_of_ble_eq_true rfl⟩ (by decide +kernel) (al_C _) rfl (al_n _) ⟨rfl, rfl, Nat.le_of_ble_eq_true rfl, Nat.le_of_ble_eq_true rfl, Nat.le_of_ble_eq_true rfl⟩ dX9_doNotesFit_1 (fun q5 H locs h hP hD hS => ?_)
  obtain ⟨hP, hD⟩ := cv (w' := moW k va q5) hP hD rfl
  refine lv_aload_n hx hb dX9_doNotesFit_4 rfl (lv_at hl 0 rfl) ?_
  refine fw_Vv (As := []) (rest := []) (n := 0) (wr := []) (wp := fun b : OB => moW k va b) h hx hb hml hown hts hG hA hP hD hS hl.1 (List.range (moW k va q5).length) [] (fun q hq9 => c_X9_laysBack l D k _  va F  q5  hq9) (ci := 7) (q0 := 0) rfl rfl gX9_doNotesFit_X9_laysBack rfl ⟨rfl, rfl, Nat.le_of_ble_eq_true rfl, Nat.le_of_ble_eq_true rfl⟩ (by decide +kernel) (al_C _) rfl (al_n _) ⟨rfl, rfl, Nat.le_of_ble_eq_true rfl, Nat.le_of_ble_eq_true rfl, Nat.le_of_ble_eq_true rfl⟩ dX9_doNotesFit_5 (fun q6 H locs h hP hD hS => ?_)
  obtain ⟨hP, hD⟩ := cv (w' := moW k va q6) hP hD rfl
  refine lv_iconst (v := 0) hx hb dX9_doNotesFit_8 (by decide) ?_
  refine lv_istore_n (lv' := [(1, .int 0), (0, .ref (va 0))]) hx hb dX9_doNotesFit_9 rfl hl (by decide) rfl (fun ls hl => ?_)
  exact C10 _ _ h _ _ _ hP hD hS (lv_sub hl [1, 0] rfl)
noncomputable def f_X9_couldRule (F : Nat)  (x1 : Int32) (mo : OB) : Option (Int32 × OB) :=
  Option.bind (f_X9_begins F (mo.1, (uF mo.2.1 1 (upd (mo.2.1 1) (Int32.toNatClampNeg 7) x1)), mo.2.2)) (fun q1 => (Option.bind (f_X9_doNotesFit F q1) (fun q2 => (if bo q2.1 then (some (q2.1, q2.2)) else none))))
set_option maxHeartbeats 4000000 in
set_option maxRecDepth 100000 in
theorem c_X9_couldRule (l : Launch) (D : va_G) (k : Nat → ClassId) (sz : Nat)  (va : Nat → Nat) (F : Nat)  (x1 : Int32) (mo : OB)  {res : Int32 × OB} (h : f_X9_couldRule F x1 mo = some res) : CtI l yX9_couldRule wsX9_couldRule (rmK 9 0 0) [.ref (va 0), .int x1] D k sz (moW k va mo) (fun r (_ : Unit) => r = res.1) (fun _ : Unit => moW k va res.2) 0 0 := by
  refine CtI.mk (cc := cX9_couldRule) (maxL := 2) (ret := (some .boolean)) (by decide) rfl (Nat.le_of_ble_eq_true rfl) ?_
  intro p e s m below meth c A ls E hP hD hS hl
  obtain ⟨hx, hb, hr, hml, hown, hts, hlocks, hin, hG, hA⟩ := E
  have hown : s.vm.findClass RX9 = some m.cls := hown
  have in9 : ∀ w ∈ u_ws RX9 TX9 53, w ∈ wsX9_couldRule := fun _ h => List.mem_cons_of_mem _ (List.mem_append_right _ h)
  have hl : lv_has ls 2 [(0, .ref (va 0)), (1, .int x1)] := hl
  refine lv_aload_n hx hb dX9_couldRule_0 rfl (lv_at hl 0 rfl) ?_
  refine va_get (D := D) (ci := 7) (v := .ref (va 1)) (C := RX9) (T := TX9) (N := 53) hx hb hts in9 hown hG.1 hP 0 rfl rfl 1 (by decide) (hts (.fieldLink RX9 9 "ChairCaneModel" "scalar" "[I") (mem_b bq_wsX9_couldRule 0 0 rfl)) (fun _ h9 => h9) rfl dX9_couldRule_1 ?_
  refine lv_bipush (v := 7) hx hb dX9_couldRule_4 (by decide) ?_
  refine lv_iload_n hx hb dX9_couldRule_6 rfl (lv_at hl 1 rfl) ?_
  refine va_iast hx hb hG.1 hP hD hS 1 0 rfl rfl (by unfold vp_in; decide) dX9_couldRule_7 (fun H locs hP hD hS => ?_)
  refine lv_aload_n hx hb dX9_couldRule_8 rfl (lv_at hl 0 rfl) ?_
  obtain ⟨hP, hD⟩ := cv (w' := moW k va (mo.1, (uF mo.2.1 1 (upd (mo.2.1 1) (Int32.toNatClampNeg 7) x1)), mo.2.2)) hP hD rfl
  refine fw_Vv (As := []) (rest := []) (n := 0) (wr := []) (wp := fun b : OB => moW k va b) h hx hb hml hown hts hG hA hP hD hS hl.1 (List.range (moW k va (mo.1, (uF mo.2.1 1 (upd (mo.2.1 1) (Int32.toNatClampNeg 7) x1)), mo.2.2)).length) [] (fun q hq9 => c_X9_begins l D k _  va F  (mo.1, (uF mo.2.1 1 (upd (mo.2.1 1) (Int32.toNatClampNeg 7) x1)), mo.2.2)  hq9) (ci := 7) (q0 := 0) rfl rfl gX9_couldRule_X9_begins rfl ⟨rfl, rfl, Nat.le_of_ble_eq_true rfl, Nat.le_of_ble_eq_true rfl⟩ (by decide +kernel) (al_C _) rfl (al_n _) ⟨rfl, rfl, Nat.le_of_ble_eq_true rfl, Nat.le_of_ble_eq_true rfl, Nat.le_of_ble_eq_true rfl⟩ dX9_couldRule_9 (fun q1 H locs h hP hD hS => ?_)
  obtain ⟨hP, hD⟩ := cv (w' := moW k va q1) hP hD rfl
  refine lv_aload_n hx hb dX9_couldRule_12 rfl (lv_at hl 0 rfl) ?_
  refine fw_Vi (As := []) (rest := []) (n := 0) (wr := []) (rv := fun b : Int32 × OB => b.1) (wp := fun b : Int32 × OB => moW k va b.2) h hx hb hml hown hts hG hA hP hD hS hl.1 (List.range (moW k va q1).length) [] (fun q hq9 => c_X9_doNotesFit l D k _  va F  q1  hq9) (ci := 7) (q0 := 0) rfl rfl gX9_couldRule_X9_doNotesFit rfl ⟨rfl, rfl, Nat.le_of_ble_eq_true rfl, Nat.le_of_ble_eq_true rfl⟩ (by decide +kernel) (al_C _) rfl (al_n _) ⟨rfl, rfl, Nat.le_of_ble_eq_true rfl, Nat.le_of_ble_eq_true rfl, Nat.le_of_ble_eq_true rfl⟩ dX9_couldRule_13 (fun q2 H locs h hP hD hS => ?_)
  obtain ⟨hP, hD⟩ := cv (w' := moW k va q2.2) hP hD rfl
  refine hc_is (z := q2.1) rfl ?_
  obtain ⟨g3, h⟩ := fw_g h
  exact fw_endZ (rv := fun b : Int32 × OB => b.1) (wp := fun b : Int32 × OB => moW k va b.2) hx hb hr hlocks h (bo_z g3) rfl hP hD hS dX9_couldRule_16
noncomputable def b_X9_ruled_17 (F : Nat)    (mo : OB) : Option (Int32 × OB) :=
  some ((-3), mo)
noncomputable def b_X9_ruled_79 (F : Nat)    (y0 : Int32) (mo : OB) : Option (Int32 × OB) :=
  some (y0, mo)
noncomputable def b_X9_ruled_64 (F : Nat)   (k32 : (Int32 × Int32 × Int32 × Int32 × OB) → Option (Int32 × OB)) (v1 : Int32) (v2 : Int32) (v3 : Int32) (v4 : Int32) (mo : OB) : Option (Int32 × OB) :=
  k32 (v1, v2, v3, (v4 + 1), mo)
noncomputable def b_X9_ruled_60 (F : Nat)   (k32 : (Int32 × Int32 × Int32 × Int32 × OB) → Option (Int32 × OB)) (v1 : Int32) (v2 : Int32) (v4 : Int32) (y0 : Int32) (mo : OB) : Option (Int32 × OB) :=
  b_X9_ruled_64 F k32 v1 (v2 + 1) y0 v4 mo
noncomputable def b_X9_ruled_32 (F : Nat)    (k32 : (Int32 × Int32 × Int32 × Int32 × OB) → Option (Int32 × OB)) (a32 : (Int32 × Int32 × Int32 × Int32 × OB)) : Option (Int32 × OB) :=
  if (a32.2.2.2.2.1 22) ≤ a32.2.2.2.1 then (if a32.1 = 0 then (b_X9_ruled_79 F a32.2.1 a32.2.2.2.2) else (b_X9_ruled_79 F a32.2.2.1 a32.2.2.2.2)) else (Option.bind (f_X9_couldRule F a32.2.2.2.1 a32.2.2.2.2) (fun q3 => (if q3.1 = 0 then (b_X9_ruled_64 F k32 a32.1 a32.2.1 a32.2.2.1 a32.2.2.2.1 q3.2) else (if a32.2.1 = 0 then (b_X9_ruled_60 F k32 a32.1 a32.2.1 a32.2.2.2.1 a32.2.2.2.1 q3.2) else (b_X9_ruled_60 F k32 a32.1 a32.2.1 a32.2.2.2.1 a32.2.2.1 q3.2)))))
noncomputable def f_X9_ruled (F : Nat)  (x1 : Int32) (mo : OB) : Option (Int32 × OB) :=
  Option.bind (f_X9_isHall F mo) (fun q6 => (if q6 = 0 then (b_X9_ruled_17 F mo) else (Option.bind (f_X9_in F (Int32.toInt64 x1) 0 1) (fun q8 => (if q8 = 0 then (b_X9_ruled_17 F mo) else (Option.bind (f_X9_keepsAll F mo) (fun q10 => (lp (b_X9_ruled_32 F) F (x1, 0, (-2), (-1), q10)))))))))
set_option maxHeartbeats 4000000 in
set_option maxRecDepth 100000 in
theorem c_X9_ruled (l : Launch) (D : va_G) (k : Nat → ClassId) (sz : Nat)  (va : Nat → Nat) (F : Nat)  (x1 : Int32) (mo : OB)  {res : Int32 × OB} (h : f_X9_ruled F x1 mo = some res) : CtI l yX9_ruled wsX9_ruled (rmK 10 0 0) [.ref (va 0), .int x1] D k sz (moW k va mo) (fun r (_ : Unit) => r = res.1) (fun _ : Unit => moW k va res.2) 0 0 := by
  refine CtI.mk (cc := cX9_ruled) (maxL := 5) (ret := (some .int)) (by decide) rfl (Nat.le_of_ble_eq_true rfl) ?_
  intro p e s m below meth c A ls E hP hD hS hl
  obtain ⟨hx, hb, hr, hml, hown, hts, hlocks, hin, hG, hA⟩ := E
  have hown : s.vm.findClass RX9 = some m.cls := hown
  have in9 : ∀ w ∈ u_ws RX9 TX9 53, w ∈ wsX9_ruled := fun _ h => List.mem_cons_of_mem _ (List.mem_append_right _ h)
  have hl : lv_has ls 5 [(0, .ref (va 0)), (1, .int x1)] := hl
  have B17 : ∀ (mo : OB) (H : Heap) (locs : List Loc) (ls : Array Slot), b_X9_ruled_17 F mo = some res → va_P D vwCl (moW k va mo) H → va_D A (moW k va mo) → va_S A s.heap H locs → lv_has ls 5 [] → W p l e (rmK 10 0 0) s m (List.toArray [.ref (va 0), .int x1]) below meth c H locs 0 0 (MQ below (va_Qi (fun r (_ : Unit) => r = res.1) (hcB D (fun _ : Unit => moW k va res.2) A) A) (List.toArray [.ref (va 0), .int x1]) s 0 0 A) (F0 m 17 ls []) := by
    intro mo H locs ls h hP hD hS hl
    refine lv_bipush (v := (-3)) hx hb dX9_ruled_17 (by decide) ?_
    exact fw_endI (rv := fun b : Int32 × OB => b.1) (wp := fun b : Int32 × OB => moW k va b.2) hx hb hr hlocks h rfl hP hD hS dX9_ruled_19
  have B79 : ∀ (y0 : Int32) (mo : OB) (H : Heap) (locs : List Loc) (ls : Array Slot), b_X9_ruled_79 F y0 mo = some res → va_P D vwCl (moW k va mo) H → va_D A (moW k va mo) → va_S A s.heap H locs → lv_has ls 5 [] → W p l e (rmK 10 0 0) s m (List.toArray [.ref (va 0), .int x1]) below meth c H locs 0 0 (MQ below (va_Qi (fun r (_ : Unit) => r = res.1) (hcB D (fun _ : Unit => moW k va res.2) A) A) (List.toArray [.ref (va 0), .int x1]) s 0 0 A) (F0 m 79 ls [.int y0]) := by
    intro y0 mo H locs ls h hP hD hS hl
    exact fw_endI (rv := fun b : Int32 × OB => b.1) (wp := fun b : Int32 × OB => moW k va b.2) hx hb hr hlocks h rfl hP hD hS dX9_ruled_79
  have B32 : ∀ a32 : (Int32 × Int32 × Int32 × Int32 × OB), lp (b_X9_ruled_32 F) F a32 = some res → ∀ (H : Heap) (locs : List Loc) (ls : Array Slot), va_P D vwCl (moW k va a32.2.2.2.2) H → va_D A (moW k va a32.2.2.2.2) → va_S A s.heap H locs → lv_has ls 5 [(0, .ref (va 0)), (1, .int a32.1), (2, .int a32.2.1), (3, .int a32.2.2.1), (4, .int a32.2.2.2.1)] → W p l e (rmK 10 0 0) s m (List.toArray [.ref (va 0), .int x1]) below meth c H locs 0 0 (MQ below (va_Qi (fun r (_ : Unit) => r = res.1) (hcB D (fun _ : Unit => moW k va res.2) A) A) (List.toArray [.ref (va 0), .int x1]) s 0 0 A) (F0 m 32 ls []) := by
    refine lp_W ?_ F
    intro k32 hk32 a32 h H locs ls hP hD hS hl
    have hc32 : ∀ (v1 : Int32) (v2 : Int32) (v3 : Int32) (v4 : Int32) (mo : OB), k32 (v1, v2, v3, v4, mo) = some res → ∀ (H : Heap) (locs : List Loc) (ls : Array Slot), va_P D vwCl (moW k va mo) H → va_D A (moW k va mo) → va_S A s.heap H locs → lv_has ls 5 [(0, .ref (va 0)), (1, .int v1), (2, .int v2), (3, .int v3), (4, .int v4)] → W p l e (rmK 10 0 0) s m (List.toArray [.ref (va 0), .int x1]) below meth c H locs 0 0 (MQ below (va_Qi (fun r (_ : Unit) => r = res.1) (hcB D (fun _ : Unit => moW k va res.2) A) A) (List.toArray [.ref (va 0), .int x1]) s 0 0 A) (F0 m 32 ls []) := fun v1 v2 v3 v4 mo => hk32 (v1, v2, v3, v4, mo)
    have B64 : ∀ (v1 : Int32) (v2 : Int32) (v3 : Int32) (v4 : Int32) (mo : OB) (H : Heap) (locs : List Loc) (ls : Array Slot), b_X9_ruled_64 F k32 v1 v2 v3 v4 mo = some res → va_P D vwCl (moW k va mo) H → va_D A (moW k va mo) → va_S A s.heap H locs → lv_has ls 5 [(0, .ref (va 0)), (1, .int v1), (2, .int v2), (3, .int v3), (4, .int v4)] → W p l e (rmK 10 0 0) s m (List.toArray [.ref (va 0), .int x1]) below meth c H locs 0 0 (MQ below (va_Qi (fun r (_ : Unit) => r = res.1) (hcB D (fun _ : Unit => moW k va res.2) A) A) (List.toArray [.ref (va 0), .int x1]) s 0 0 A) (F0 m 64 ls []) := by
      intro v1 v2 v3 v4 mo H locs ls h hP hD hS hl
      refine lv_iinc (v := (v4 + 1)) (lv' := [(4, .int (v4 + 1)), (0, .ref (va 0)), (1, .int v1), (2, .int v2), (3, .int v3)]) hx hb dX9_ruled_64 hl (k := 4) rfl rfl (by decide) rfl (fun ls hl => ?_)
      refine lv_goto (tgt := 32) hx hb dX9_ruled_67 (by decide) ?_
      exact hc32 _ _ _ _ _ h _ _ _ hP hD hS (lv_sub hl [1, 2, 3, 4, 0] rfl)
    have B60 : ∀ (v1 : Int32) (v2 : Int32) (v4 : Int32) (y0 : Int32) (mo : OB) (H : Heap) (locs : List Loc) (ls : Array Slot), b_X9_ruled_60 F k32 v1 v2 v4 y0 mo = some res → va_P D vwCl (moW k va mo) H → va_D A (moW k va mo) → va_S A s.heap H locs → lv_has ls 5 [(0, .ref (va 0)), (1, .int v1), (2, .int v2), (4, .int v4)] → W p l e (rmK 10 0 0) s m (List.toArray [.ref (va 0), .int x1]) below meth c H locs 0 0 (MQ below (va_Qi (fun r (_ : Unit) => r = res.1) (hcB D (fun _ : Unit => moW k va res.2) A) A) (List.toArray [.ref (va 0), .int x1]) s 0 0 A) (F0 m 60 ls [.int y0]) := by
      intro v1 v2 v4 y0 mo H locs ls h hP hD hS hl
      refine lv_istore_n (lv' := [(3, .int y0), (0, .ref (va 0)), (1, .int v1), (2, .int v2), (4, .int v4)]) hx hb dX9_ruled_60 rfl hl (by decide) rfl (fun ls hl => ?_)
      refine lv_iinc (v := (v2 + 1)) (lv' := [(2, .int (v2 + 1)), (3, .int y0), (0, .ref (va 0)), (1, .int v1), (4, .int v4)]) hx hb dX9_ruled_61 hl (k := 3) rfl rfl (by decide) rfl (fun ls hl => ?_)
      exact B64 _ _ _ _ _ _ _ _ h hP hD hS (lv_sub hl [2, 3, 0, 1, 4] rfl)
    refine lv_iload hx hb dX9_ruled_32 (lv_at hl 4 rfl) ?_
    refine lv_aload_n hx hb dX9_ruled_34 rfl (lv_at hl 0 rfl) ?_
    refine va_get (D := D) (ci := 7) (v := .int (a32.2.2.2.2.1 22)) (C := RX9) (T := TX9) (N := 53) hx hb hts in9 hown hG.1 hP 0 rfl rfl 22 (by decide) (hts (.fieldLink RX9 312 "ChairCaneModel" "rules" "I") (mem_b bq_wsX9_ruled 0 0 rfl)) (fun _ h9 => h9) rfl dX9_ruled_35 ?_
    refine lv_icmp_ge (tgt := 70) hx hb dX9_ruled_38 (by decide) (fun c1 => ?_) (fun c1 => ?_)
    · have h := fw_t c1 h
      refine lv_iload_n hx hb dX9_ruled_70 rfl (lv_at hl 1 rfl) ?_
      refine lv_if_ne (tgt := 78) hx hb dX9_ruled_71 (by decide) (fun c2 => ?_) (fun c2 => ?_)
      · have h := fw_f c2 h
        refine lv_iload_n hx hb dX9_ruled_78 rfl (lv_at hl 3 rfl) ?_
        exact B79 _ _ _ _ _ h hP hD hS (lv_sub hl [] rfl)
      · have h := fw_t c2 h
        refine lv_iload_n hx hb dX9_ruled_74 rfl (lv_at hl 2 rfl) ?_
        refine lv_goto (tgt := 79) hx hb dX9_ruled_75 (by decide) ?_
        exact B79 _ _ _ _ _ h hP hD hS (lv_sub hl [] rfl)
    · have h := fw_f c1 h
      refine lv_aload_n hx hb dX9_ruled_41 rfl (lv_at hl 0 rfl) ?_
      refine lv_iload hx hb dX9_ruled_42 (lv_at hl 4 rfl) ?_
      refine fw_Vi (As := [.int a32.2.2.2.1]) (rest := []) (n := 1) (wr := []) (rv := fun b : Int32 × OB => b.1) (wp := fun b : Int32 × OB => moW k va b.2) h hx hb hml hown hts hG hA hP hD hS hl.1 (List.range (moW k va a32.2.2.2.2).length) [] (fun q hq9 => c_X9_couldRule l D k _  va F a32.2.2.2.1 a32.2.2.2.2  hq9) (ci := 7) (q0 := 0) rfl rfl gX9_ruled_X9_couldRule rfl ⟨rfl, rfl, Nat.le_of_ble_eq_true rfl, Nat.le_of_ble_eq_true rfl⟩ (by decide +kernel) (al_C _) rfl (al_n _) ⟨rfl, rfl, Nat.le_of_ble_eq_true rfl, Nat.le_of_ble_eq_true rfl, Nat.le_of_ble_eq_true rfl⟩ dX9_ruled_44 (fun q3 H locs h hP hD hS => ?_)
      obtain ⟨hP, hD⟩ := cv (w' := moW k va q3.2) hP hD rfl
      refine hc_is (z := q3.1) rfl ?_
      refine lv_if_eq (tgt := 64) hx hb dX9_ruled_47 (by decide) (fun c4 => ?_) (fun c4 => ?_)
      · have h := fw_t c4 h
        exact B64 _ _ _ _ _ _ _ _ h hP hD hS hl
      · have h := fw_f c4 h
        refine lv_iload_n hx hb dX9_ruled_50 rfl (lv_at hl 2 rfl) ?_
        refine lv_if_ne (tgt := 59) hx hb dX9_ruled_51 (by decide) (fun c5 => ?_) (fun c5 => ?_)
        · have h := fw_f c5 h
          refine lv_iload_n hx hb dX9_ruled_59 rfl (lv_at hl 3 rfl) ?_
          exact B60 _ _ _ _ _ _ _ _ h hP hD hS (lv_sub hl [0, 1, 2, 4] rfl)
        · have h := fw_t c5 h
          refine lv_iload hx hb dX9_ruled_54 (lv_at hl 4 rfl) ?_
          refine lv_goto (tgt := 60) hx hb dX9_ruled_56 (by decide) ?_
          exact B60 _ _ _ _ _ _ _ _ h hP hD hS (lv_sub hl [0, 1, 2, 4] rfl)
  have C32 : ∀ (v1 : Int32) (v2 : Int32) (v3 : Int32) (v4 : Int32) (mo : OB), lp (b_X9_ruled_32 F) F (v1, v2, v3, v4, mo) = some res → ∀ (H : Heap) (locs : List Loc) (ls : Array Slot), va_P D vwCl (moW k va mo) H → va_D A (moW k va mo) → va_S A s.heap H locs → lv_has ls 5 [(0, .ref (va 0)), (1, .int v1), (2, .int v2), (3, .int v3), (4, .int v4)] → W p l e (rmK 10 0 0) s m (List.toArray [.ref (va 0), .int x1]) below meth c H locs 0 0 (MQ below (va_Qi (fun r (_ : Unit) => r = res.1) (hcB D (fun _ : Unit => moW k va res.2) A) A) (List.toArray [.ref (va 0), .int x1]) s 0 0 A) (F0 m 32 ls []) := fun v1 v2 v3 v4 mo => B32 (v1, v2, v3, v4, mo)
  refine lv_aload_n hx hb dX9_ruled_0 rfl (lv_at hl 0 rfl) ?_
  refine fw_Vi (As := []) (rest := []) (n := 0) (wr := []) (rv := fun b : Int32 => b) (wp := fun b : Int32 => moW k va mo) h hx hb hml hown hts hG hA hP hD hS hl.1 (List.range (moW k va mo).length) [] (fun q hq9 => c_X9_isHall l D k _  va F  mo  hq9) (ci := 7) (q0 := 0) rfl rfl gX9_ruled_X9_isHall rfl ⟨rfl, rfl, Nat.le_of_ble_eq_true rfl, Nat.le_of_ble_eq_true rfl⟩ (by decide +kernel) (al_C _) rfl (al_n _) ⟨rfl, rfl, Nat.le_of_ble_eq_true rfl, Nat.le_of_ble_eq_true rfl, Nat.le_of_ble_eq_true rfl⟩ dX9_ruled_1 (fun q6 H locs h hP hD hS => ?_)
  obtain ⟨hP, hD⟩ := cv (w' := moW k va mo) hP hD rfl
  refine hc_is (z := q6) rfl ?_
  refine lv_if_eq (tgt := 17) hx hb dX9_ruled_4 (by decide) (fun c7 => ?_) (fun c7 => ?_)
  · have h := fw_t c7 h
    exact B17 _ _ _ _ h hP hD hS (lv_sub hl [] rfl)
  · have h := fw_f c7 h
    refine lv_iload_n hx hb dX9_ruled_7 rfl (lv_at hl 1 rfl) ?_
    refine lv_i2l hx hb dX9_ruled_8 rfl ?_
    refine lv_lconst (v := 0) hx hb dX9_ruled_9 (by decide) ?_
    refine lv_lconst (v := 1) hx hb dX9_ruled_10 (by decide) ?_
    refine fw_Si (As := [.long (Int32.toInt64 x1), .long 0, .long 1]) (rest := []) (n := 3) (wr := moW k va mo) (rv := fun b : Int32 => b) (wp := fun b : Int32 => []) h hx hb hml hown hts hG hA hP hD hS hl.1 [] (List.range (moW k va mo).length) (fun q hq9 => c_X9_in l D k _   F (Int32.toInt64 x1) 0 1   hq9) gX9_ruled_X9_in rfl ⟨rfl, rfl, Nat.le_of_ble_eq_true rfl, Nat.le_of_ble_eq_true rfl⟩ (by decide +kernel) rfl (al_C _) (al_m _) ⟨rfl, rfl, Nat.le_of_ble_eq_true rfl, Nat.le_of_ble_eq_true rfl, Nat.le_of_ble_eq_true rfl⟩ dX9_ruled_11 (fun q8 H locs h hP hD hS => ?_)
    obtain ⟨hP, hD⟩ := cv (w' := (moW k va mo) ++ []) hP hD rfl
    rw [List.append_nil] at hP hD
    refine hc_is (z := q8) rfl ?_
    refine lv_if_ne (tgt := 20) hx hb dX9_ruled_14 (by decide) (fun c9 => ?_) (fun c9 => ?_)
    · have h := fw_f c9 h
      refine lv_aload_n hx hb dX9_ruled_20 rfl (lv_at hl 0 rfl) ?_
      refine fw_Vv (As := []) (rest := []) (n := 0) (wr := []) (wp := fun b : OB => moW k va b) h hx hb hml hown hts hG hA hP hD hS hl.1 (List.range (moW k va mo).length) [] (fun q hq9 => c_X9_keepsAll l D k _  va F  mo  hq9) (ci := 7) (q0 := 0) rfl rfl gX9_ruled_X9_keepsAll rfl ⟨rfl, rfl, Nat.le_of_ble_eq_true rfl, Nat.le_of_ble_eq_true rfl⟩ (by decide +kernel) (al_C _) rfl (al_n _) ⟨rfl, rfl, Nat.le_of_ble_eq_true rfl, Nat.le_of_ble_eq_true rfl, Nat.le_of_ble_eq_true rfl⟩ dX9_ruled_21 (fun q10 H locs h hP hD hS => ?_)
      obtain ⟨hP, hD⟩ := cv (w' := moW k va q10) hP hD rfl
      refine lv_iconst (v := 0) hx hb dX9_ruled_24 (by decide) ?_
      refine lv_istore_n (lv' := [(2, .int 0), (0, .ref (va 0)), (1, .int x1)]) hx hb dX9_ruled_25 rfl hl (by decide) rfl (fun ls hl => ?_)
      refine lv_bipush (v := (-2)) hx hb dX9_ruled_26 (by decide) ?_
      refine lv_istore_n (lv' := [(3, .int (-2)), (2, .int 0), (0, .ref (va 0)), (1, .int x1)]) hx hb dX9_ruled_28 rfl hl (by decide) rfl (fun ls hl => ?_)
      refine lv_iconst (v := (-1)) hx hb dX9_ruled_29 (by decide) ?_
      refine lv_istore (lv' := [(4, .int (-1)), (3, .int (-2)), (2, .int 0), (0, .ref (va 0)), (1, .int x1)]) hx hb dX9_ruled_30 hl (by decide) rfl (fun ls hl => ?_)
      exact C32 _ _ _ _ _ h _ _ _ hP hD hS (lv_sub hl [3, 4, 2, 1, 0] rfl)
    · have h := fw_t c9 h
      exact B17 _ _ _ _ h hP hD hS (lv_sub hl [] rfl)
noncomputable def b_X9_strung_54 (F : Nat)   (k18 : (Int32 × Int32 × Int32 × OB) → Option (Int32 × OB)) (v1 : Int32) (v3 : Int32) (y0 : Int32) (y1 : Int32) (mo : OB) : Option (Int32 × OB) :=
  k18 (v1, (y1 ||| y0), (v3 + 1), mo)
noncomputable def b_X9_strung_18 (F : Nat)    (k18 : (Int32 × Int32 × Int32 × OB) → Option (Int32 × OB)) (a18 : (Int32 × Int32 × Int32 × OB)) : Option (Int32 × OB) :=
  if ((a18.2.2.2.2.1 1) (Int32.toNatClampNeg 1)) ≤ a18.2.2.1 then (some (a18.2.1, a18.2.2.2)) else (Option.bind (f_X9_begins F a18.2.2.2) (fun q2 => (if ib a18.1 8 then (Option.bind (f_X9_doNotesFit F (q2.1, (uF q2.2.1 4 (upd (q2.2.1 4) (Int32.toNatClampNeg a18.1) a18.2.2.1)), q2.2.2)) (fun q4 => (if q4.1 = 0 then (b_X9_strung_54 F k18 a18.1 a18.2.2.1 0 a18.2.1 q4.2) else (b_X9_strung_54 F k18 a18.1 a18.2.2.1 (1 <<< (a18.2.2.1 &&& 31)) a18.2.1 q4.2)))) else none)))
noncomputable def f_X9_strung (F : Nat)  (x1 : Int32) (mo : OB) : Option (Int32 × OB) :=
  Option.bind (f_X9_isChair F x1 mo) (fun q6 => (if q6 = 0 then (some ((-1), mo)) else (Option.bind (f_X9_keepsAll F mo) (fun q8 => (lp (b_X9_strung_18 F) F (x1, 0, 0, q8))))))
set_option maxHeartbeats 4000000 in
set_option maxRecDepth 100000 in
theorem c_X9_strung (l : Launch) (D : va_G) (k : Nat → ClassId) (sz : Nat)  (va : Nat → Nat) (F : Nat)  (x1 : Int32) (mo : OB)  {res : Int32 × OB} (h : f_X9_strung F x1 mo = some res) : CtI l yX9_strung wsX9_strung (rmK 9 0 0) [.ref (va 0), .int x1] D k sz (moW k va mo) (fun r (_ : Unit) => r = res.1) (fun _ : Unit => moW k va res.2) 0 0 := by
  refine CtI.mk (cc := cX9_strung) (maxL := 4) (ret := (some .int)) (by decide) rfl (Nat.le_of_ble_eq_true rfl) ?_
  intro p e s m below meth c A ls E hP hD hS hl
  obtain ⟨hx, hb, hr, hml, hown, hts, hlocks, hin, hG, hA⟩ := E
  have hown : s.vm.findClass RX9 = some m.cls := hown
  have in9 : ∀ w ∈ u_ws RX9 TX9 53, w ∈ wsX9_strung := fun _ h => List.mem_cons_of_mem _ (List.mem_append_right _ h)
  have hl : lv_has ls 4 [(0, .ref (va 0)), (1, .int x1)] := hl
  have B18 : ∀ a18 : (Int32 × Int32 × Int32 × OB), lp (b_X9_strung_18 F) F a18 = some res → ∀ (H : Heap) (locs : List Loc) (ls : Array Slot), va_P D vwCl (moW k va a18.2.2.2) H → va_D A (moW k va a18.2.2.2) → va_S A s.heap H locs → lv_has ls 4 [(0, .ref (va 0)), (1, .int a18.1), (2, .int a18.2.1), (3, .int a18.2.2.1)] → W p l e (rmK 9 0 0) s m (List.toArray [.ref (va 0), .int x1]) below meth c H locs 0 0 (MQ below (va_Qi (fun r (_ : Unit) => r = res.1) (hcB D (fun _ : Unit => moW k va res.2) A) A) (List.toArray [.ref (va 0), .int x1]) s 0 0 A) (F0 m 18 ls []) := by
    refine lp_W ?_ F
    intro k18 hk18 a18 h H locs ls hP hD hS hl
    have hc18 : ∀ (v1 : Int32) (v2 : Int32) (v3 : Int32) (mo : OB), k18 (v1, v2, v3, mo) = some res → ∀ (H : Heap) (locs : List Loc) (ls : Array Slot), va_P D vwCl (moW k va mo) H → va_D A (moW k va mo) → va_S A s.heap H locs → lv_has ls 4 [(0, .ref (va 0)), (1, .int v1), (2, .int v2), (3, .int v3)] → W p l e (rmK 9 0 0) s m (List.toArray [.ref (va 0), .int x1]) below meth c H locs 0 0 (MQ below (va_Qi (fun r (_ : Unit) => r = res.1) (hcB D (fun _ : Unit => moW k va res.2) A) A) (List.toArray [.ref (va 0), .int x1]) s 0 0 A) (F0 m 18 ls []) := fun v1 v2 v3 mo => hk18 (v1, v2, v3, mo)
    have B54 : ∀ (v1 : Int32) (v3 : Int32) (y0 : Int32) (y1 : Int32) (mo : OB) (H : Heap) (locs : List Loc) (ls : Array Slot), b_X9_strung_54 F k18 v1 v3 y0 y1 mo = some res → va_P D vwCl (moW k va mo) H → va_D A (moW k va mo) → va_S A s.heap H locs → lv_has ls 4 [(0, .ref (va 0)), (1, .int v1), (3, .int v3)] → W p l e (rmK 9 0 0) s m (List.toArray [.ref (va 0), .int x1]) below meth c H locs 0 0 (MQ below (va_Qi (fun r (_ : Unit) => r = res.1) (hcB D (fun _ : Unit => moW k va res.2) A) A) (List.toArray [.ref (va 0), .int x1]) s 0 0 A) (F0 m 54 ls [.int y0, .int y1]) := by
      intro v1 v3 y0 y1 mo H locs ls h hP hD hS hl
      refine lv_ior hx hb dX9_strung_54 ?_
      refine lv_istore_n (lv' := [(2, .int (y1 ||| y0)), (0, .ref (va 0)), (1, .int v1), (3, .int v3)]) hx hb dX9_strung_55 rfl hl (by decide) rfl (fun ls hl => ?_)
      refine lv_iinc (v := (v3 + 1)) (lv' := [(3, .int (v3 + 1)), (2, .int (y1 ||| y0)), (0, .ref (va 0)), (1, .int v1)]) hx hb dX9_strung_56 hl (k := 3) rfl rfl (by decide) rfl (fun ls hl => ?_)
      refine lv_goto (tgt := 18) hx hb dX9_strung_59 (by decide) ?_
      exact hc18 _ _ _ _ h _ _ _ hP hD hS (lv_sub hl [2, 3, 1, 0] rfl)
    refine lv_iload_n hx hb dX9_strung_18 rfl (lv_at hl 3 rfl) ?_
    refine lv_aload_n hx hb dX9_strung_19 rfl (lv_at hl 0 rfl) ?_
    refine va_get (D := D) (ci := 7) (v := .ref (va 1)) (C := RX9) (T := TX9) (N := 53) hx hb hts in9 hown hG.1 hP 0 rfl rfl 1 (by decide) (hts (.fieldLink RX9 9 "ChairCaneModel" "scalar" "[I") (mem_b bq_wsX9_strung 0 0 rfl)) (fun _ h9 => h9) rfl dX9_strung_20 ?_
    refine lv_iconst (v := 1) hx hb dX9_strung_23 (by decide) ?_
    refine va_iald hx hb hG.1 hP 1 0 rfl rfl (by unfold vp_in; decide) dX9_strung_24 ?_
    refine lv_icmp_ge (tgt := 62) hx hb dX9_strung_25 (by decide) (fun c1 => ?_) (fun c1 => ?_)
    · have h := fw_t c1 h
      refine lv_iload_n hx hb dX9_strung_62 rfl (lv_at hl 2 rfl) ?_
      exact fw_endI (rv := fun b : Int32 × OB => b.1) (wp := fun b : Int32 × OB => moW k va b.2) hx hb hr hlocks h rfl hP hD hS dX9_strung_63
    · have h := fw_f c1 h
      refine lv_aload_n hx hb dX9_strung_28 rfl (lv_at hl 0 rfl) ?_
      refine fw_Vv (As := []) (rest := []) (n := 0) (wr := []) (wp := fun b : OB => moW k va b) h hx hb hml hown hts hG hA hP hD hS hl.1 (List.range (moW k va a18.2.2.2).length) [] (fun q hq9 => c_X9_begins l D k _  va F  a18.2.2.2  hq9) (ci := 7) (q0 := 0) rfl rfl gX9_strung_X9_begins rfl ⟨rfl, rfl, Nat.le_of_ble_eq_true rfl, Nat.le_of_ble_eq_true rfl⟩ (by decide +kernel) (al_C _) rfl (al_n _) ⟨rfl, rfl, Nat.le_of_ble_eq_true rfl, Nat.le_of_ble_eq_true rfl, Nat.le_of_ble_eq_true rfl⟩ dX9_strung_29 (fun q2 H locs h hP hD hS => ?_)
      obtain ⟨hP, hD⟩ := cv (w' := moW k va q2) hP hD rfl
      refine lv_aload_n hx hb dX9_strung_32 rfl (lv_at hl 0 rfl) ?_
      refine va_get (D := D) (ci := 7) (v := .ref (va 4)) (C := RX9) (T := TX9) (N := 53) hx hb hts in9 hown hG.1 hP 0 rfl rfl 4 (by decide) (hts (.fieldLink RX9 19 "ChairCaneModel" "strandOf" "[I") (mem_b bq_wsX9_strung 0 1 rfl)) (fun _ h9 => h9) rfl dX9_strung_33 ?_
      refine lv_iload_n hx hb dX9_strung_36 rfl (lv_at hl 1 rfl) ?_
      refine lv_iload_n hx hb dX9_strung_37 rfl (lv_at hl 3 rfl) ?_
      obtain ⟨g3, h⟩ := fw_g h
      refine va_iast hx hb hG.1 hP hD hS 4 0 rfl rfl (ib_vp g3) dX9_strung_38 (fun H locs hP hD hS => ?_)
      refine lv_iload_n hx hb dX9_strung_39 rfl (lv_at hl 2 rfl) ?_
      refine lv_aload_n hx hb dX9_strung_40 rfl (lv_at hl 0 rfl) ?_
      obtain ⟨hP, hD⟩ := cv (w' := moW k va (q2.1, (uF q2.2.1 4 (upd (q2.2.1 4) (Int32.toNatClampNeg a18.1) a18.2.2.1)), q2.2.2)) hP hD rfl
      refine fw_Vi (As := []) (rest := [.int a18.2.1]) (n := 0) (wr := []) (rv := fun b : Int32 × OB => b.1) (wp := fun b : Int32 × OB => moW k va b.2) h hx hb hml hown hts hG hA hP hD hS hl.1 (List.range (moW k va (q2.1, (uF q2.2.1 4 (upd (q2.2.1 4) (Int32.toNatClampNeg a18.1) a18.2.2.1)), q2.2.2)).length) [] (fun q hq9 => c_X9_doNotesFit l D k _  va F  (q2.1, (uF q2.2.1 4 (upd (q2.2.1 4) (Int32.toNatClampNeg a18.1) a18.2.2.1)), q2.2.2)  hq9) (ci := 7) (q0 := 0) rfl rfl gX9_strung_X9_doNotesFit rfl ⟨rfl, rfl, Nat.le_of_ble_eq_true rfl, Nat.le_of_ble_eq_true rfl⟩ (by decide +kernel) (al_C _) rfl (al_n _) ⟨rfl, rfl, Nat.le_of_ble_eq_true rfl, Nat.le_of_ble_eq_true rfl, Nat.le_of_ble_eq_true rfl⟩ dX9_strung_41 (fun q4 H locs h hP hD hS => ?_)
      obtain ⟨hP, hD⟩ := cv (w' := moW k va q4.2) hP hD rfl
      refine hc_is (z := q4.1) rfl ?_
      refine lv_if_eq (tgt := 53) hx hb dX9_strung_44 (by decide) (fun c5 => ?_) (fun c5 => ?_)
      · have h := fw_t c5 h
        refine lv_iconst (v := 0) hx hb dX9_strung_53 (by decide) ?_
        exact B54 _ _ _ _ _ _ _ _ h hP hD hS (lv_sub hl [0, 1, 3] rfl)
      · have h := fw_f c5 h
        refine lv_iconst (v := 1) hx hb dX9_strung_47 (by decide) ?_
        refine lv_iload_n hx hb dX9_strung_48 rfl (lv_at hl 3 rfl) ?_
        refine lv_ishl hx hb dX9_strung_49 ?_
        refine lv_goto (tgt := 54) hx hb dX9_strung_50 (by decide) ?_
        exact B54 _ _ _ _ _ _ _ _ h hP hD hS (lv_sub hl [0, 1, 3] rfl)
  have C18 : ∀ (v1 : Int32) (v2 : Int32) (v3 : Int32) (mo : OB), lp (b_X9_strung_18 F) F (v1, v2, v3, mo) = some res → ∀ (H : Heap) (locs : List Loc) (ls : Array Slot), va_P D vwCl (moW k va mo) H → va_D A (moW k va mo) → va_S A s.heap H locs → lv_has ls 4 [(0, .ref (va 0)), (1, .int v1), (2, .int v2), (3, .int v3)] → W p l e (rmK 9 0 0) s m (List.toArray [.ref (va 0), .int x1]) below meth c H locs 0 0 (MQ below (va_Qi (fun r (_ : Unit) => r = res.1) (hcB D (fun _ : Unit => moW k va res.2) A) A) (List.toArray [.ref (va 0), .int x1]) s 0 0 A) (F0 m 18 ls []) := fun v1 v2 v3 mo => B18 (v1, v2, v3, mo)
  refine lv_aload_n hx hb dX9_strung_0 rfl (lv_at hl 0 rfl) ?_
  refine lv_iload_n hx hb dX9_strung_1 rfl (lv_at hl 1 rfl) ?_
  refine fw_Vi (As := [.int x1]) (rest := []) (n := 1) (wr := []) (rv := fun b : Int32 => b) (wp := fun b : Int32 => moW k va mo) h hx hb hml hown hts hG hA hP hD hS hl.1 (List.range (moW k va mo).length) [] (fun q hq9 => c_X9_isChair l D k _  va F x1 mo  hq9) (ci := 7) (q0 := 0) rfl rfl gX9_strung_X9_isChair rfl ⟨rfl, rfl, Nat.le_of_ble_eq_true rfl, Nat.le_of_ble_eq_true rfl⟩ (by decide +kernel) (al_C _) rfl (al_n _) ⟨rfl, rfl, Nat.le_of_ble_eq_true rfl, Nat.le_of_ble_eq_true rfl, Nat.le_of_ble_eq_true rfl⟩ dX9_strung_2 (fun q6 H locs h hP hD hS => ?_)
  obtain ⟨hP, hD⟩ := cv (w' := moW k va mo) hP hD rfl
  refine hc_is (z := q6) rfl ?_
  refine lv_if_ne (tgt := 10) hx hb dX9_strung_5 (by decide) (fun c7 => ?_) (fun c7 => ?_)
  · have h := fw_f c7 h
    refine lv_aload_n hx hb dX9_strung_10 rfl (lv_at hl 0 rfl) ?_
    refine fw_Vv (As := []) (rest := []) (n := 0) (wr := []) (wp := fun b : OB => moW k va b) h hx hb hml hown hts hG hA hP hD hS hl.1 (List.range (moW k va mo).length) [] (fun q hq9 => c_X9_keepsAll l D k _  va F  mo  hq9) (ci := 7) (q0 := 0) rfl rfl gX9_strung_X9_keepsAll rfl ⟨rfl, rfl, Nat.le_of_ble_eq_true rfl, Nat.le_of_ble_eq_true rfl⟩ (by decide +kernel) (al_C _) rfl (al_n _) ⟨rfl, rfl, Nat.le_of_ble_eq_true rfl, Nat.le_of_ble_eq_true rfl, Nat.le_of_ble_eq_true rfl⟩ dX9_strung_11 (fun q8 H locs h hP hD hS => ?_)
    obtain ⟨hP, hD⟩ := cv (w' := moW k va q8) hP hD rfl
    refine lv_iconst (v := 0) hx hb dX9_strung_14 (by decide) ?_
    refine lv_istore_n (lv' := [(2, .int 0), (0, .ref (va 0)), (1, .int x1)]) hx hb dX9_strung_15 rfl hl (by decide) rfl (fun ls hl => ?_)
    refine lv_iconst (v := 0) hx hb dX9_strung_16 (by decide) ?_
    refine lv_istore_n (lv' := [(3, .int 0), (2, .int 0), (0, .ref (va 0)), (1, .int x1)]) hx hb dX9_strung_17 rfl hl (by decide) rfl (fun ls hl => ?_)
    exact C18 _ _ _ _ h _ _ _ hP hD hS (lv_sub hl [2, 3, 1, 0] rfl)
  · have h := fw_t c7 h
    refine lv_iconst (v := (-1)) hx hb dX9_strung_8 (by decide) ?_
    exact fw_endI (rv := fun b : Int32 × OB => b.1) (wp := fun b : Int32 × OB => moW k va b.2) hx hb hr hlocks h rfl hP hD hS dX9_strung_9
noncomputable def b_X9_mostAlike_78 (F : Nat)  (mo : OB) (k5 : (Int32 × Int32 × Int32 × Int32) → Option (Int32)) (v1 : Int32) (v2 : Int32) (v4 : Int32) (y0 : Int32) : Option (Int32) :=
  k5 (v1, v2, y0, (v4 + 1))
noncomputable def b_X9_mostAlike_57 (F : Nat)  (mo : OB) (k5 : (Int32 × Int32 × Int32 × Int32) → Option (Int32)) (k17 : (Int32 × Int32 × Int32 × Int32 × Int32 × Int32) → Option (Int32)) (v1 : Int32) (v2 : Int32) (v3 : Int32) (v4 : Int32) (v6 : Int32) (y0 : Int32) (y1 : Int32) : Option (Int32) :=
  k17 (v1, v2, v3, v4, (y1 + y0), (v6 + 1))
noncomputable def b_X9_mostAlike_17 (F : Nat)  (mo : OB) (k5 : (Int32 × Int32 × Int32 × Int32) → Option (Int32)) (k17 : (Int32 × Int32 × Int32 × Int32 × Int32 × Int32) → Option (Int32)) (a17 : (Int32 × Int32 × Int32 × Int32 × Int32 × Int32)) : Option (Int32) :=
  if a17.2.1 ≤ a17.2.2.2.2.2 then (if a17.2.2.2.2.1 ≤ a17.2.2.1 then (b_X9_mostAlike_78 F mo k5 a17.1 a17.2.1 a17.2.2.2.1 a17.2.2.1) else (b_X9_mostAlike_78 F mo k5 a17.1 a17.2.1 a17.2.2.2.1 a17.2.2.2.2.1)) else (if ib ((8 * a17.2.2.2.2.2) + a17.1) 56 then (if ib ((8 * a17.2.2.2.1) + a17.1) 56 then (if ((mo.2.1 48) (Int32.toNatClampNeg ((8 * a17.2.2.2.2.2) + a17.1))) = ((mo.2.1 48) (Int32.toNatClampNeg ((8 * a17.2.2.2.1) + a17.1))) then (b_X9_mostAlike_57 F mo k5 k17 a17.1 a17.2.1 a17.2.2.1 a17.2.2.2.1 a17.2.2.2.2.2 1 a17.2.2.2.2.1) else (b_X9_mostAlike_57 F mo k5 k17 a17.1 a17.2.1 a17.2.2.1 a17.2.2.2.1 a17.2.2.2.2.2 0 a17.2.2.2.2.1)) else none) else none)
noncomputable def b_X9_mostAlike_5 (F : Nat)  (mo : OB)  (k5 : (Int32 × Int32 × Int32 × Int32) → Option (Int32)) (a5 : (Int32 × Int32 × Int32 × Int32)) : Option (Int32) :=
  if a5.2.1 ≤ a5.2.2.2 then (some a5.2.2.1) else (lp (b_X9_mostAlike_17 F mo k5) F (a5.1, a5.2.1, a5.2.2.1, a5.2.2.2, 0, 0))
noncomputable def f_X9_mostAlike (F : Nat)  (x1 : Int32) (x2 : Int32) (mo : OB) : Option (Int32) :=
  lp (b_X9_mostAlike_5 F mo) F (x1, x2, 0, 0)
set_option maxRecDepth 20000 in
theorem bq_wsX9_mostAlike : subq wsX9_mostAlike [[.fieldLink RX9 119 "ChairCaneModel" "shows" "[I"]] := ⟨(fun _ h => (List.mem_cons_of_mem _ (List.mem_append_left _ h))), trivial⟩
set_option maxHeartbeats 4000000 in
set_option maxRecDepth 100000 in
theorem c_X9_mostAlike (l : Launch) (D : va_G) (k : Nat → ClassId) (sz : Nat)  (va : Nat → Nat) (F : Nat)  (x1 : Int32) (x2 : Int32) (mo : OB)  {res : Int32} (h : f_X9_mostAlike F x1 x2 mo = some res) : CtI l yX9_mostAlike wsX9_mostAlike (rmK 1 0 0) [.ref (va 0), .int x1, .int x2] D k sz (moW k va mo) (fun r (_ : Unit) => r = res) (fun _ : Unit => moW k va mo) 0 0 := by
  refine CtI.mk (cc := cX9_mostAlike) (maxL := 7) (ret := (some .int)) (by decide) rfl (Nat.le_of_ble_eq_true rfl) ?_
  intro p e s m below meth c A ls E hP hD hS hl
  obtain ⟨hx, hb, hr, hml, hown, hts, hlocks, hin, hG, hA⟩ := E
  have hown : s.vm.findClass RX9 = some m.cls := hown
  have in9 : ∀ w ∈ u_ws RX9 TX9 53, w ∈ wsX9_mostAlike := fun _ h => List.mem_cons_of_mem _ (List.mem_append_right _ h)
  have hl : lv_has ls 7 [(0, .ref (va 0)), (1, .int x1), (2, .int x2)] := hl
  have B5 : ∀ a5 : (Int32 × Int32 × Int32 × Int32), lp (b_X9_mostAlike_5 F mo) F a5 = some res → ∀ (H : Heap) (locs : List Loc) (ls : Array Slot), va_P D vwCl (moW k va mo) H → va_D A (moW k va mo) → va_S A s.heap H locs → lv_has ls 7 [(0, .ref (va 0)), (1, .int a5.1), (2, .int a5.2.1), (3, .int a5.2.2.1), (4, .int a5.2.2.2)] → W p l e (rmK 1 0 0) s m (List.toArray [.ref (va 0), .int x1, .int x2]) below meth c H locs 0 0 (MQ below (va_Qi (fun r (_ : Unit) => r = res) (hcB D (fun _ : Unit => moW k va mo) A) A) (List.toArray [.ref (va 0), .int x1, .int x2]) s 0 0 A) (F0 m 5 ls []) := by
    refine lp_W ?_ F
    intro k5 hk5 a5 h H locs ls hP hD hS hl
    have hc5 : ∀ (v1 : Int32) (v2 : Int32) (v3 : Int32) (v4 : Int32), k5 (v1, v2, v3, v4) = some res → ∀ (H : Heap) (locs : List Loc) (ls : Array Slot), va_P D vwCl (moW k va mo) H → va_D A (moW k va mo) → va_S A s.heap H locs → lv_has ls 7 [(0, .ref (va 0)), (1, .int v1), (2, .int v2), (3, .int v3), (4, .int v4)] → W p l e (rmK 1 0 0) s m (List.toArray [.ref (va 0), .int x1, .int x2]) below meth c H locs 0 0 (MQ below (va_Qi (fun r (_ : Unit) => r = res) (hcB D (fun _ : Unit => moW k va mo) A) A) (List.toArray [.ref (va 0), .int x1, .int x2]) s 0 0 A) (F0 m 5 ls []) := fun v1 v2 v3 v4 => hk5 (v1, v2, v3, v4)
    have B78 : ∀ (v1 : Int32) (v2 : Int32) (v4 : Int32) (y0 : Int32) (H : Heap) (locs : List Loc) (ls : Array Slot), b_X9_mostAlike_78 F mo k5 v1 v2 v4 y0 = some res → va_P D vwCl (moW k va mo) H → va_D A (moW k va mo) → va_S A s.heap H locs → lv_has ls 7 [(0, .ref (va 0)), (1, .int v1), (2, .int v2), (4, .int v4)] → W p l e (rmK 1 0 0) s m (List.toArray [.ref (va 0), .int x1, .int x2]) below meth c H locs 0 0 (MQ below (va_Qi (fun r (_ : Unit) => r = res) (hcB D (fun _ : Unit => moW k va mo) A) A) (List.toArray [.ref (va 0), .int x1, .int x2]) s 0 0 A) (F0 m 78 ls [.int y0]) := by
      intro v1 v2 v4 y0 H locs ls h hP hD hS hl
      refine lv_istore_n (lv' := [(3, .int y0), (0, .ref (va 0)), (1, .int v1), (2, .int v2), (4, .int v4)]) hx hb dX9_mostAlike_78 rfl hl (by decide) rfl (fun ls hl => ?_)
      refine lv_iinc (v := (v4 + 1)) (lv' := [(4, .int (v4 + 1)), (3, .int y0), (0, .ref (va 0)), (1, .int v1), (2, .int v2)]) hx hb dX9_mostAlike_79 hl (k := 4) rfl rfl (by decide) rfl (fun ls hl => ?_)
      refine lv_goto (tgt := 5) hx hb dX9_mostAlike_82 (by decide) ?_
      exact hc5 _ _ _ _ h _ _ _ hP hD hS (lv_sub hl [2, 3, 4, 1, 0] rfl)
    have B17 : ∀ a17 : (Int32 × Int32 × Int32 × Int32 × Int32 × Int32), lp (b_X9_mostAlike_17 F mo k5) F a17 = some res → ∀ (H : Heap) (locs : List Loc) (ls : Array Slot), va_P D vwCl (moW k va mo) H → va_D A (moW k va mo) → va_S A s.heap H locs → lv_has ls 7 [(0, .ref (va 0)), (1, .int a17.1), (2, .int a17.2.1), (3, .int a17.2.2.1), (4, .int a17.2.2.2.1), (5, .int a17.2.2.2.2.1), (6, .int a17.2.2.2.2.2)] → W p l e (rmK 1 0 0) s m (List.toArray [.ref (va 0), .int x1, .int x2]) below meth c H locs 0 0 (MQ below (va_Qi (fun r (_ : Unit) => r = res) (hcB D (fun _ : Unit => moW k va mo) A) A) (List.toArray [.ref (va 0), .int x1, .int x2]) s 0 0 A) (F0 m 17 ls []) := by
      refine lp_W ?_ F
      intro k17 hk17 a17 h H locs ls hP hD hS hl
      have hc17 : ∀ (v1 : Int32) (v2 : Int32) (v3 : Int32) (v4 : Int32) (v5 : Int32) (v6 : Int32), k17 (v1, v2, v3, v4, v5, v6) = some res → ∀ (H : Heap) (locs : List Loc) (ls : Array Slot), va_P D vwCl (moW k va mo) H → va_D A (moW k va mo) → va_S A s.heap H locs → lv_has ls 7 [(0, .ref (va 0)), (1, .int v1), (2, .int v2), (3, .int v3), (4, .int v4), (5, .int v5), (6, .int v6)] → W p l e (rmK 1 0 0) s m (List.toArray [.ref (va 0), .int x1, .int x2]) below meth c H locs 0 0 (MQ below (va_Qi (fun r (_ : Unit) => r = res) (hcB D (fun _ : Unit => moW k va mo) A) A) (List.toArray [.ref (va 0), .int x1, .int x2]) s 0 0 A) (F0 m 17 ls []) := fun v1 v2 v3 v4 v5 v6 => hk17 (v1, v2, v3, v4, v5, v6)
      have B57 : ∀ (v1 : Int32) (v2 : Int32) (v3 : Int32) (v4 : Int32) (v6 : Int32) (y0 : Int32) (y1 : Int32) (H : Heap) (locs : List Loc) (ls : Array Slot), b_X9_mostAlike_57 F mo k5 k17 v1 v2 v3 v4 v6 y0 y1 = some res → va_P D vwCl (moW k va mo) H → va_D A (moW k va mo) → va_S A s.heap H locs → lv_has ls 7 [(0, .ref (va 0)), (1, .int v1), (2, .int v2), (3, .int v3), (4, .int v4), (6, .int v6)] → W p l e (rmK 1 0 0) s m (List.toArray [.ref (va 0), .int x1, .int x2]) below meth c H locs 0 0 (MQ below (va_Qi (fun r (_ : Unit) => r = res) (hcB D (fun _ : Unit => moW k va mo) A) A) (List.toArray [.ref (va 0), .int x1, .int x2]) s 0 0 A) (F0 m 57 ls [.int y0, .int y1]) := by
        intro v1 v2 v3 v4 v6 y0 y1 H locs ls h hP hD hS hl
        refine lv_iadd hx hb dX9_mostAlike_57 ?_
        refine lv_istore (lv' := [(5, .int (y1 + y0)), (0, .ref (va 0)), (1, .int v1), (2, .int v2), (3, .int v3), (4, .int v4), (6, .int v6)]) hx hb dX9_mostAlike_58 hl (by decide) rfl (fun ls hl => ?_)
        refine lv_iinc (v := (v6 + 1)) (lv' := [(6, .int (v6 + 1)), (5, .int (y1 + y0)), (0, .ref (va 0)), (1, .int v1), (2, .int v2), (3, .int v3), (4, .int v4)]) hx hb dX9_mostAlike_60 hl (k := 6) rfl rfl (by decide) rfl (fun ls hl => ?_)
        refine lv_goto (tgt := 17) hx hb dX9_mostAlike_63 (by decide) ?_
        exact hc17 _ _ _ _ _ _ h _ _ _ hP hD hS (lv_sub hl [2, 3, 4, 5, 6, 1, 0] rfl)
      refine lv_iload hx hb dX9_mostAlike_17 (lv_at hl 6 rfl) ?_
      refine lv_iload_n hx hb dX9_mostAlike_19 rfl (lv_at hl 2 rfl) ?_
      refine lv_icmp_ge (tgt := 66) hx hb dX9_mostAlike_20 (by decide) (fun c1 => ?_) (fun c1 => ?_)
      · have h := fw_t c1 h
        refine lv_iload hx hb dX9_mostAlike_66 (lv_at hl 5 rfl) ?_
        refine lv_iload_n hx hb dX9_mostAlike_68 rfl (lv_at hl 3 rfl) ?_
        refine lv_icmp_le (tgt := 77) hx hb dX9_mostAlike_69 (by decide) (fun c2 => ?_) (fun c2 => ?_)
        · have h := fw_t c2 h
          refine lv_iload_n hx hb dX9_mostAlike_77 rfl (lv_at hl 3 rfl) ?_
          exact B78 _ _ _ _ _ _ _ h hP hD hS (lv_sub hl [0, 1, 2, 4] rfl)
        · have h := fw_f c2 h
          refine lv_iload hx hb dX9_mostAlike_72 (lv_at hl 5 rfl) ?_
          refine lv_goto (tgt := 78) hx hb dX9_mostAlike_74 (by decide) ?_
          exact B78 _ _ _ _ _ _ _ h hP hD hS (lv_sub hl [0, 1, 2, 4] rfl)
      · have h := fw_f c1 h
        refine lv_iload hx hb dX9_mostAlike_23 (lv_at hl 5 rfl) ?_
        refine lv_aload_n hx hb dX9_mostAlike_25 rfl (lv_at hl 0 rfl) ?_
        refine va_get (D := D) (ci := 7) (v := .ref (va 35)) (C := RX9) (T := TX9) (N := 53) hx hb hts in9 hown hG.1 hP 0 rfl rfl 48 (by decide) (hts (.fieldLink RX9 119 "ChairCaneModel" "shows" "[I") (mem_b bq_wsX9_mostAlike 0 0 rfl)) (fun _ h9 => h9) rfl dX9_mostAlike_26 ?_
        refine lv_bipush (v := 8) hx hb dX9_mostAlike_29 (by decide) ?_
        refine lv_iload hx hb dX9_mostAlike_31 (lv_at hl 6 rfl) ?_
        refine lv_imul hx hb dX9_mostAlike_33 ?_
        refine lv_iload_n hx hb dX9_mostAlike_34 rfl (lv_at hl 1 rfl) ?_
        refine lv_iadd hx hb dX9_mostAlike_35 ?_
        obtain ⟨g3, h⟩ := fw_g h
        refine va_iald hx hb hG.1 hP 35 0 rfl rfl (ib_vp g3) dX9_mostAlike_36 ?_
        refine lv_aload_n hx hb dX9_mostAlike_37 rfl (lv_at hl 0 rfl) ?_
        refine va_get (D := D) (ci := 7) (v := .ref (va 35)) (C := RX9) (T := TX9) (N := 53) hx hb hts in9 hown hG.1 hP 0 rfl rfl 48 (by decide) (hts (.fieldLink RX9 119 "ChairCaneModel" "shows" "[I") (mem_b bq_wsX9_mostAlike 0 0 rfl)) (fun _ h9 => h9) rfl dX9_mostAlike_38 ?_
        refine lv_bipush (v := 8) hx hb dX9_mostAlike_41 (by decide) ?_
        refine lv_iload hx hb dX9_mostAlike_43 (lv_at hl 4 rfl) ?_
        refine lv_imul hx hb dX9_mostAlike_45 ?_
        refine lv_iload_n hx hb dX9_mostAlike_46 rfl (lv_at hl 1 rfl) ?_
        refine lv_iadd hx hb dX9_mostAlike_47 ?_
        obtain ⟨g4, h⟩ := fw_g h
        refine va_iald hx hb hG.1 hP 35 0 rfl rfl (ib_vp g4) dX9_mostAlike_48 ?_
        refine lv_icmp_ne (tgt := 56) hx hb dX9_mostAlike_49 (by decide) (fun c5 => ?_) (fun c5 => ?_)
        · have h := fw_f c5 h
          refine lv_iconst (v := 0) hx hb dX9_mostAlike_56 (by decide) ?_
          exact B57 _ _ _ _ _ _ _ _ _ _ h hP hD hS (lv_sub hl [0, 1, 2, 3, 4, 6] rfl)
        · have h := fw_t c5 h
          refine lv_iconst (v := 1) hx hb dX9_mostAlike_52 (by decide) ?_
          refine lv_goto (tgt := 57) hx hb dX9_mostAlike_53 (by decide) ?_
          exact B57 _ _ _ _ _ _ _ _ _ _ h hP hD hS (lv_sub hl [0, 1, 2, 3, 4, 6] rfl)
    have C17 : ∀ (v1 : Int32) (v2 : Int32) (v3 : Int32) (v4 : Int32) (v5 : Int32) (v6 : Int32), lp (b_X9_mostAlike_17 F mo k5) F (v1, v2, v3, v4, v5, v6) = some res → ∀ (H : Heap) (locs : List Loc) (ls : Array Slot), va_P D vwCl (moW k va mo) H → va_D A (moW k va mo) → va_S A s.heap H locs → lv_has ls 7 [(0, .ref (va 0)), (1, .int v1), (2, .int v2), (3, .int v3), (4, .int v4), (5, .int v5), (6, .int v6)] → W p l e (rmK 1 0 0) s m (List.toArray [.ref (va 0), .int x1, .int x2]) below meth c H locs 0 0 (MQ below (va_Qi (fun r (_ : Unit) => r = res) (hcB D (fun _ : Unit => moW k va mo) A) A) (List.toArray [.ref (va 0), .int x1, .int x2]) s 0 0 A) (F0 m 17 ls []) := fun v1 v2 v3 v4 v5 v6 => B17 (v1, v2, v3, v4, v5, v6)
    refine lv_iload hx hb dX9_mostAlike_5 (lv_at hl 4 rfl) ?_
    refine lv_iload_n hx hb dX9_mostAlike_7 rfl (lv_at hl 2 rfl) ?_
    refine lv_icmp_ge (tgt := 85) hx hb dX9_mostAlike_8 (by decide) (fun c6 => ?_) (fun c6 => ?_)
    · have h := fw_t c6 h
      refine lv_iload_n hx hb dX9_mostAlike_85 rfl (lv_at hl 3 rfl) ?_
      exact fw_endI (rv := fun b : Int32 => b) (wp := fun b : Int32 => moW k va mo) hx hb hr hlocks h rfl hP hD hS dX9_mostAlike_86
    · have h := fw_f c6 h
      refine lv_iconst (v := 0) hx hb dX9_mostAlike_11 (by decide) ?_
      refine lv_istore (lv' := [(5, .int 0), (0, .ref (va 0)), (1, .int a5.1), (2, .int a5.2.1), (3, .int a5.2.2.1), (4, .int a5.2.2.2)]) hx hb dX9_mostAlike_12 hl (by decide) rfl (fun ls hl => ?_)
      refine lv_iconst (v := 0) hx hb dX9_mostAlike_14 (by decide) ?_
      refine lv_istore (lv' := [(6, .int 0), (5, .int 0), (0, .ref (va 0)), (1, .int a5.1), (2, .int a5.2.1), (3, .int a5.2.2.1), (4, .int a5.2.2.2)]) hx hb dX9_mostAlike_15 hl (by decide) rfl (fun ls hl => ?_)
      exact C17 _ _ _ _ _ _ h _ _ _ hP hD hS (lv_sub hl [2, 3, 4, 5, 6, 1, 0] rfl)
  have C5 : ∀ (v1 : Int32) (v2 : Int32) (v3 : Int32) (v4 : Int32), lp (b_X9_mostAlike_5 F mo) F (v1, v2, v3, v4) = some res → ∀ (H : Heap) (locs : List Loc) (ls : Array Slot), va_P D vwCl (moW k va mo) H → va_D A (moW k va mo) → va_S A s.heap H locs → lv_has ls 7 [(0, .ref (va 0)), (1, .int v1), (2, .int v2), (3, .int v3), (4, .int v4)] → W p l e (rmK 1 0 0) s m (List.toArray [.ref (va 0), .int x1, .int x2]) below meth c H locs 0 0 (MQ below (va_Qi (fun r (_ : Unit) => r = res) (hcB D (fun _ : Unit => moW k va mo) A) A) (List.toArray [.ref (va 0), .int x1, .int x2]) s 0 0 A) (F0 m 5 ls []) := fun v1 v2 v3 v4 => B5 (v1, v2, v3, v4)
  refine lv_iconst (v := 0) hx hb dX9_mostAlike_0 (by decide) ?_
  refine lv_istore_n (lv' := [(3, .int 0), (0, .ref (va 0)), (1, .int x1), (2, .int x2)]) hx hb dX9_mostAlike_1 rfl hl (by decide) rfl (fun ls hl => ?_)
  refine lv_iconst (v := 0) hx hb dX9_mostAlike_2 (by decide) ?_
  refine lv_istore (lv' := [(4, .int 0), (3, .int 0), (0, .ref (va 0)), (1, .int x1), (2, .int x2)]) hx hb dX9_mostAlike_3 hl (by decide) rfl (fun ls hl => ?_)
  exact C5 _ _ _ _ h _ _ _ hP hD hS (lv_sub hl [2, 3, 4, 1, 0] rfl)
noncomputable def b_X9_look_29 (F : Nat)    (mo : OB) : Option (Int32 × OB) :=
  some ((-1), mo)
noncomputable def b_X9_look_120 (F : Nat)    (mo : OB) : Option (Int32 × OB) :=
  some ((-2), mo)
noncomputable def b_X9_look_188 (F : Nat)    (y0 : Int32) (mo : OB) : Option (Int32 × OB) :=
  some (y0, mo)
noncomputable def b_X9_look_164 (F : Nat)   (k129 : (Int32 × Int32 × Int32 × Int32 × OB) → Option (Int32 × OB)) (v2 : Int32) (v3 : Int32) (v5 : Int32) (y0 : Int32) (mo : OB) : Option (Int32 × OB) :=
  k129 (v2, v3, y0, (v5 + 1), mo)
noncomputable def b_X9_look_129 (F : Nat)    (k129 : (Int32 × Int32 × Int32 × Int32 × OB) → Option (Int32 × OB)) (a129 : (Int32 × Int32 × Int32 × Int32 × OB)) : Option (Int32 × OB) :=
  if ((a129.2.2.2.2.2.1 1) (Int32.toNatClampNeg 3)) ≤ a129.2.2.2.1 then (if a129.1 = 0 then (b_X9_look_188 F a129.2.2.1 a129.2.2.2.2) else (Option.bind (f_X9_mostAlike F a129.2.2.1 a129.2.1 a129.2.2.2.2) (fun q3 => (b_X9_look_188 F q3 a129.2.2.2.2)))) else (Option.bind (f_X9_mostAlike F a129.2.2.2.1 a129.2.1 a129.2.2.2.2) (fun q4 => (Option.bind (f_X9_mostAlike F a129.2.2.1 a129.2.1 a129.2.2.2.2) (fun q5 => (if q5 ≤ q4 then (b_X9_look_164 F k129 a129.1 a129.2.1 a129.2.2.2.1 a129.2.2.1 a129.2.2.2.2) else (b_X9_look_164 F k129 a129.1 a129.2.1 a129.2.2.2.1 a129.2.2.2.1 a129.2.2.2.2))))))
noncomputable def b_X9_look_101 (F : Nat)   (k40 : (Int32 × Int32 × Int32 × Int32 × OB) → Option (Int32 × OB)) (v1 : Int32) (v2 : Int32) (v3 : Int32) (v4 : Int32) (mo : OB) : Option (Int32 × OB) :=
  k40 (v1, v2, v3, (v4 + 1), mo)
noncomputable def b_X9_look_61 (F : Nat)   (k40 : (Int32 × Int32 × Int32 × Int32 × OB) → Option (Int32 × OB)) (k61 : (Int32 × Int32 × Int32 × Int32 × Int32 × OB) → Option (Int32 × OB)) (a61 : (Int32 × Int32 × Int32 × Int32 × Int32 × OB)) : Option (Int32 × OB) :=
  if 8 ≤ a61.2.2.2.2.1 then (b_X9_look_101 F k40 a61.1 a61.2.1 (a61.2.2.1 + 1) a61.2.2.2.1 a61.2.2.2.2.2) else (if ib ((8 * a61.1) + a61.2.2.2.2.1) 488 then (if ib ((8 * a61.2.2.1) + a61.2.2.2.2.1) 56 then (k61 (a61.1, a61.2.1, a61.2.2.1, a61.2.2.2.1, (a61.2.2.2.2.1 + 1), (a61.2.2.2.2.2.1, (uF a61.2.2.2.2.2.2.1 48 (upd (a61.2.2.2.2.2.2.1 48) (Int32.toNatClampNeg ((8 * a61.2.2.1) + a61.2.2.2.2.1)) ((a61.2.2.2.2.2.2.1 47) (Int32.toNatClampNeg ((8 * a61.1) + a61.2.2.2.2.1))))), a61.2.2.2.2.2.2.2))) else none) else none)
noncomputable def b_X9_look_40 (F : Nat)    (k40 : (Int32 × Int32 × Int32 × Int32 × OB) → Option (Int32 × OB)) (a40 : (Int32 × Int32 × Int32 × Int32 × OB)) : Option (Int32 × OB) :=
  if (a40.2.2.2.2.1 22) ≤ a40.2.2.2.1 then (if a40.2.2.1 = 0 then (b_X9_look_120 F a40.2.2.2.2) else (if ((a40.2.2.2.2.2.1 1) (Int32.toNatClampNeg 3)) = 0 then (b_X9_look_120 F a40.2.2.2.2) else (lp (b_X9_look_129 F) F (a40.2.1, a40.2.2.1, 0, 1, a40.2.2.2.2)))) else (Option.bind (f_X9_couldRule F a40.2.2.2.1 a40.2.2.2.2) (fun q13 => (if q13.1 = 0 then (b_X9_look_101 F k40 a40.1 a40.2.1 a40.2.2.1 a40.2.2.2.1 q13.2) else (lp (b_X9_look_61 F k40) F (a40.1, a40.2.1, a40.2.2.1, a40.2.2.2.1, 0, q13.2)))))
noncomputable def f_X9_look (F : Nat)  (x1 : Int32) (x2 : Int32) (mo : OB) : Option (Int32 × OB) :=
  Option.bind (f_X9_isHall F mo) (fun q15 => (if q15 = 0 then (b_X9_look_29 F mo) else (Option.bind (f_X9_in F (Int32.toInt64 x1) 0 60) (fun q17 => (if q17 = 0 then (b_X9_look_29 F mo) else (Option.bind (f_X9_in F (Int32.toInt64 x2) 0 1) (fun q19 => (if q19 = 0 then (b_X9_look_29 F mo) else (Option.bind (f_X9_keepsAll F mo) (fun q21 => (lp (b_X9_look_40 F) F (x1, x2, 0, (-1), q21))))))))))))
set_option maxHeartbeats 4000000 in
set_option maxRecDepth 100000 in
theorem c_X9_look (l : Launch) (D : va_G) (k : Nat → ClassId) (sz : Nat)  (va : Nat → Nat) (F : Nat)  (x1 : Int32) (x2 : Int32) (mo : OB)  {res : Int32 × OB} (h : f_X9_look F x1 x2 mo = some res) : CtI l yX9_look wsX9_look (rmK 10 0 0) [.ref (va 0), .int x1, .int x2] D k sz (moW k va mo) (fun r (_ : Unit) => r = res.1) (fun _ : Unit => moW k va res.2) 0 0 := by
  refine CtI.mk (cc := cX9_look) (maxL := 6) (ret := (some .int)) (by decide) rfl (Nat.le_of_ble_eq_true rfl) ?_
  intro p e s m below meth c A ls E hP hD hS hl
  obtain ⟨hx, hb, hr, hml, hown, hts, hlocks, hin, hG, hA⟩ := E
  have hown : s.vm.findClass RX9 = some m.cls := hown
  have in9 : ∀ w ∈ u_ws RX9 TX9 53, w ∈ wsX9_look := fun _ h => List.mem_cons_of_mem _ (List.mem_append_right _ h)
  have hl : lv_has ls 6 [(0, .ref (va 0)), (1, .int x1), (2, .int x2)] := hl
  have B29 : ∀ (mo : OB) (H : Heap) (locs : List Loc) (ls : Array Slot), b_X9_look_29 F mo = some res → va_P D vwCl (moW k va mo) H → va_D A (moW k va mo) → va_S A s.heap H locs → lv_has ls 6 [] → W p l e (rmK 10 0 0) s m (List.toArray [.ref (va 0), .int x1, .int x2]) below meth c H locs 0 0 (MQ below (va_Qi (fun r (_ : Unit) => r = res.1) (hcB D (fun _ : Unit => moW k va res.2) A) A) (List.toArray [.ref (va 0), .int x1, .int x2]) s 0 0 A) (F0 m 29 ls []) := by
    intro mo H locs ls h hP hD hS hl
    refine lv_iconst (v := (-1)) hx hb dX9_look_29 (by decide) ?_
    exact fw_endI (rv := fun b : Int32 × OB => b.1) (wp := fun b : Int32 × OB => moW k va b.2) hx hb hr hlocks h rfl hP hD hS dX9_look_30
  have B120 : ∀ (mo : OB) (H : Heap) (locs : List Loc) (ls : Array Slot), b_X9_look_120 F mo = some res → va_P D vwCl (moW k va mo) H → va_D A (moW k va mo) → va_S A s.heap H locs → lv_has ls 6 [] → W p l e (rmK 10 0 0) s m (List.toArray [.ref (va 0), .int x1, .int x2]) below meth c H locs 0 0 (MQ below (va_Qi (fun r (_ : Unit) => r = res.1) (hcB D (fun _ : Unit => moW k va res.2) A) A) (List.toArray [.ref (va 0), .int x1, .int x2]) s 0 0 A) (F0 m 120 ls []) := by
    intro mo H locs ls h hP hD hS hl
    refine lv_bipush (v := (-2)) hx hb dX9_look_120 (by decide) ?_
    exact fw_endI (rv := fun b : Int32 × OB => b.1) (wp := fun b : Int32 × OB => moW k va b.2) hx hb hr hlocks h rfl hP hD hS dX9_look_122
  have B188 : ∀ (y0 : Int32) (mo : OB) (H : Heap) (locs : List Loc) (ls : Array Slot), b_X9_look_188 F y0 mo = some res → va_P D vwCl (moW k va mo) H → va_D A (moW k va mo) → va_S A s.heap H locs → lv_has ls 6 [] → W p l e (rmK 10 0 0) s m (List.toArray [.ref (va 0), .int x1, .int x2]) below meth c H locs 0 0 (MQ below (va_Qi (fun r (_ : Unit) => r = res.1) (hcB D (fun _ : Unit => moW k va res.2) A) A) (List.toArray [.ref (va 0), .int x1, .int x2]) s 0 0 A) (F0 m 188 ls [.int y0]) := by
    intro y0 mo H locs ls h hP hD hS hl
    exact fw_endI (rv := fun b : Int32 × OB => b.1) (wp := fun b : Int32 × OB => moW k va b.2) hx hb hr hlocks h rfl hP hD hS dX9_look_188
  have B129 : ∀ a129 : (Int32 × Int32 × Int32 × Int32 × OB), lp (b_X9_look_129 F) F a129 = some res → ∀ (H : Heap) (locs : List Loc) (ls : Array Slot), va_P D vwCl (moW k va a129.2.2.2.2) H → va_D A (moW k va a129.2.2.2.2) → va_S A s.heap H locs → lv_has ls 6 [(0, .ref (va 0)), (2, .int a129.1), (3, .int a129.2.1), (4, .int a129.2.2.1), (5, .int a129.2.2.2.1)] → W p l e (rmK 10 0 0) s m (List.toArray [.ref (va 0), .int x1, .int x2]) below meth c H locs 0 0 (MQ below (va_Qi (fun r (_ : Unit) => r = res.1) (hcB D (fun _ : Unit => moW k va res.2) A) A) (List.toArray [.ref (va 0), .int x1, .int x2]) s 0 0 A) (F0 m 129 ls []) := by
    refine lp_W ?_ F
    intro k129 hk129 a129 h H locs ls hP hD hS hl
    have hc129 : ∀ (v2 : Int32) (v3 : Int32) (v4 : Int32) (v5 : Int32) (mo : OB), k129 (v2, v3, v4, v5, mo) = some res → ∀ (H : Heap) (locs : List Loc) (ls : Array Slot), va_P D vwCl (moW k va mo) H → va_D A (moW k va mo) → va_S A s.heap H locs → lv_has ls 6 [(0, .ref (va 0)), (2, .int v2), (3, .int v3), (4, .int v4), (5, .int v5)] → W p l e (rmK 10 0 0) s m (List.toArray [.ref (va 0), .int x1, .int x2]) below meth c H locs 0 0 (MQ below (va_Qi (fun r (_ : Unit) => r = res.1) (hcB D (fun _ : Unit => moW k va res.2) A) A) (List.toArray [.ref (va 0), .int x1, .int x2]) s 0 0 A) (F0 m 129 ls []) := fun v2 v3 v4 v5 mo => hk129 (v2, v3, v4, v5, mo)
    have B164 : ∀ (v2 : Int32) (v3 : Int32) (v5 : Int32) (y0 : Int32) (mo : OB) (H : Heap) (locs : List Loc) (ls : Array Slot), b_X9_look_164 F k129 v2 v3 v5 y0 mo = some res → va_P D vwCl (moW k va mo) H → va_D A (moW k va mo) → va_S A s.heap H locs → lv_has ls 6 [(0, .ref (va 0)), (2, .int v2), (3, .int v3), (5, .int v5)] → W p l e (rmK 10 0 0) s m (List.toArray [.ref (va 0), .int x1, .int x2]) below meth c H locs 0 0 (MQ below (va_Qi (fun r (_ : Unit) => r = res.1) (hcB D (fun _ : Unit => moW k va res.2) A) A) (List.toArray [.ref (va 0), .int x1, .int x2]) s 0 0 A) (F0 m 164 ls [.int y0]) := by
      intro v2 v3 v5 y0 mo H locs ls h hP hD hS hl
      refine lv_istore (lv' := [(4, .int y0), (0, .ref (va 0)), (2, .int v2), (3, .int v3), (5, .int v5)]) hx hb dX9_look_164 hl (by decide) rfl (fun ls hl => ?_)
      refine lv_iinc (v := (v5 + 1)) (lv' := [(5, .int (v5 + 1)), (4, .int y0), (0, .ref (va 0)), (2, .int v2), (3, .int v3)]) hx hb dX9_look_166 hl (k := 4) rfl rfl (by decide) rfl (fun ls hl => ?_)
      refine lv_goto (tgt := 129) hx hb dX9_look_169 (by decide) ?_
      exact hc129 _ _ _ _ _ h _ _ _ hP hD hS (lv_sub hl [2, 3, 4, 1, 0] rfl)
    refine lv_iload hx hb dX9_look_129 (lv_at hl 4 rfl) ?_
    refine lv_aload_n hx hb dX9_look_131 rfl (lv_at hl 0 rfl) ?_
    refine va_get (D := D) (ci := 7) (v := .ref (va 1)) (C := RX9) (T := TX9) (N := 53) hx hb hts in9 hown hG.1 hP 0 rfl rfl 1 (by decide) (hts (.fieldLink RX9 9 "ChairCaneModel" "scalar" "[I") (mem_b bq_wsX9_look 0 4 rfl)) (fun _ h9 => h9) rfl dX9_look_132 ?_
    refine lv_iconst (v := 3) hx hb dX9_look_135 (by decide) ?_
    refine va_iald hx hb hG.1 hP 1 0 rfl rfl (by unfold vp_in; decide) dX9_look_136 ?_
    refine lv_icmp_ge (tgt := 172) hx hb dX9_look_137 (by decide) (fun c1 => ?_) (fun c1 => ?_)
    · have h := fw_t c1 h
      refine lv_iload_n hx hb dX9_look_172 rfl (lv_at hl 1 rfl) ?_
      refine lv_if_ne (tgt := 181) hx hb dX9_look_173 (by decide) (fun c2 => ?_) (fun c2 => ?_)
      · have h := fw_f c2 h
        refine lv_aload_n hx hb dX9_look_181 rfl (lv_at hl 0 rfl) ?_
        refine lv_iload hx hb dX9_look_182 (lv_at hl 3 rfl) ?_
        refine lv_iload_n hx hb dX9_look_184 rfl (lv_at hl 2 rfl) ?_
        refine fw_Vi (As := [.int a129.2.2.1, .int a129.2.1]) (rest := []) (n := 2) (wr := []) (rv := fun b : Int32 => b) (wp := fun b : Int32 => moW k va a129.2.2.2.2) h hx hb hml hown hts hG hA hP hD hS hl.1 (List.range (moW k va a129.2.2.2.2).length) [] (fun q hq9 => c_X9_mostAlike l D k _  va F a129.2.2.1 a129.2.1 a129.2.2.2.2  hq9) (ci := 7) (q0 := 0) rfl rfl gX9_look_X9_mostAlike rfl ⟨rfl, rfl, Nat.le_of_ble_eq_true rfl, Nat.le_of_ble_eq_true rfl⟩ (by decide +kernel) (al_C _) rfl (al_n _) ⟨rfl, rfl, Nat.le_of_ble_eq_true rfl, Nat.le_of_ble_eq_true rfl, Nat.le_of_ble_eq_true rfl⟩ dX9_look_185 (fun q3 H locs h hP hD hS => ?_)
        obtain ⟨hP, hD⟩ := cv (w' := moW k va a129.2.2.2.2) hP hD rfl
        refine hc_is (z := q3) rfl ?_
        exact B188 _ _ _ _ _ h hP hD hS (lv_sub hl [] rfl)
      · have h := fw_t c2 h
        refine lv_iload hx hb dX9_look_176 (lv_at hl 3 rfl) ?_
        refine lv_goto (tgt := 188) hx hb dX9_look_178 (by decide) ?_
        exact B188 _ _ _ _ _ h hP hD hS (lv_sub hl [] rfl)
    · have h := fw_f c1 h
      refine lv_aload_n hx hb dX9_look_140 rfl (lv_at hl 0 rfl) ?_
      refine lv_iload hx hb dX9_look_141 (lv_at hl 4 rfl) ?_
      refine lv_iload_n hx hb dX9_look_143 rfl (lv_at hl 2 rfl) ?_
      refine fw_Vi (As := [.int a129.2.2.2.1, .int a129.2.1]) (rest := []) (n := 2) (wr := []) (rv := fun b : Int32 => b) (wp := fun b : Int32 => moW k va a129.2.2.2.2) h hx hb hml hown hts hG hA hP hD hS hl.1 (List.range (moW k va a129.2.2.2.2).length) [] (fun q hq9 => c_X9_mostAlike l D k _  va F a129.2.2.2.1 a129.2.1 a129.2.2.2.2  hq9) (ci := 7) (q0 := 0) rfl rfl gX9_look_X9_mostAlike rfl ⟨rfl, rfl, Nat.le_of_ble_eq_true rfl, Nat.le_of_ble_eq_true rfl⟩ (by decide +kernel) (al_C _) rfl (al_n _) ⟨rfl, rfl, Nat.le_of_ble_eq_true rfl, Nat.le_of_ble_eq_true rfl, Nat.le_of_ble_eq_true rfl⟩ dX9_look_144 (fun q4 H locs h hP hD hS => ?_)
      obtain ⟨hP, hD⟩ := cv (w' := moW k va a129.2.2.2.2) hP hD rfl
      refine hc_is (z := q4) rfl ?_
      refine lv_aload_n hx hb dX9_look_147 rfl (lv_at hl 0 rfl) ?_
      refine lv_iload hx hb dX9_look_148 (lv_at hl 3 rfl) ?_
      refine lv_iload_n hx hb dX9_look_150 rfl (lv_at hl 2 rfl) ?_
      refine fw_Vi (As := [.int a129.2.2.1, .int a129.2.1]) (rest := [.int q4]) (n := 2) (wr := []) (rv := fun b : Int32 => b) (wp := fun b : Int32 => moW k va a129.2.2.2.2) h hx hb hml hown hts hG hA hP hD hS hl.1 (List.range (moW k va a129.2.2.2.2).length) [] (fun q hq9 => c_X9_mostAlike l D k _  va F a129.2.2.1 a129.2.1 a129.2.2.2.2  hq9) (ci := 7) (q0 := 0) rfl rfl gX9_look_X9_mostAlike rfl ⟨rfl, rfl, Nat.le_of_ble_eq_true rfl, Nat.le_of_ble_eq_true rfl⟩ (by decide +kernel) (al_C _) rfl (al_n _) ⟨rfl, rfl, Nat.le_of_ble_eq_true rfl, Nat.le_of_ble_eq_true rfl, Nat.le_of_ble_eq_true rfl⟩ dX9_look_151 (fun q5 H locs h hP hD hS => ?_)
      obtain ⟨hP, hD⟩ := cv (w' := moW k va a129.2.2.2.2) hP hD rfl
      refine hc_is (z := q5) rfl ?_
      refine lv_icmp_ge (tgt := 162) hx hb dX9_look_154 (by decide) (fun c6 => ?_) (fun c6 => ?_)
      · have h := fw_t c6 h
        refine lv_iload hx hb dX9_look_162 (lv_at hl 3 rfl) ?_
        exact B164 _ _ _ _ _ _ _ _ h hP hD hS (lv_sub hl [0, 1, 2, 4] rfl)
      · have h := fw_f c6 h
        refine lv_iload hx hb dX9_look_157 (lv_at hl 4 rfl) ?_
        refine lv_goto (tgt := 164) hx hb dX9_look_159 (by decide) ?_
        exact B164 _ _ _ _ _ _ _ _ h hP hD hS (lv_sub hl [0, 1, 2, 4] rfl)
  have C129 : ∀ (v2 : Int32) (v3 : Int32) (v4 : Int32) (v5 : Int32) (mo : OB), lp (b_X9_look_129 F) F (v2, v3, v4, v5, mo) = some res → ∀ (H : Heap) (locs : List Loc) (ls : Array Slot), va_P D vwCl (moW k va mo) H → va_D A (moW k va mo) → va_S A s.heap H locs → lv_has ls 6 [(0, .ref (va 0)), (2, .int v2), (3, .int v3), (4, .int v4), (5, .int v5)] → W p l e (rmK 10 0 0) s m (List.toArray [.ref (va 0), .int x1, .int x2]) below meth c H locs 0 0 (MQ below (va_Qi (fun r (_ : Unit) => r = res.1) (hcB D (fun _ : Unit => moW k va res.2) A) A) (List.toArray [.ref (va 0), .int x1, .int x2]) s 0 0 A) (F0 m 129 ls []) := fun v2 v3 v4 v5 mo => B129 (v2, v3, v4, v5, mo)
  have B40 : ∀ a40 : (Int32 × Int32 × Int32 × Int32 × OB), lp (b_X9_look_40 F) F a40 = some res → ∀ (H : Heap) (locs : List Loc) (ls : Array Slot), va_P D vwCl (moW k va a40.2.2.2.2) H → va_D A (moW k va a40.2.2.2.2) → va_S A s.heap H locs → lv_has ls 6 [(0, .ref (va 0)), (1, .int a40.1), (2, .int a40.2.1), (3, .int a40.2.2.1), (4, .int a40.2.2.2.1)] → W p l e (rmK 10 0 0) s m (List.toArray [.ref (va 0), .int x1, .int x2]) below meth c H locs 0 0 (MQ below (va_Qi (fun r (_ : Unit) => r = res.1) (hcB D (fun _ : Unit => moW k va res.2) A) A) (List.toArray [.ref (va 0), .int x1, .int x2]) s 0 0 A) (F0 m 40 ls []) := by
    refine lp_W ?_ F
    intro k40 hk40 a40 h H locs ls hP hD hS hl
    have hc40 : ∀ (v1 : Int32) (v2 : Int32) (v3 : Int32) (v4 : Int32) (mo : OB), k40 (v1, v2, v3, v4, mo) = some res → ∀ (H : Heap) (locs : List Loc) (ls : Array Slot), va_P D vwCl (moW k va mo) H → va_D A (moW k va mo) → va_S A s.heap H locs → lv_has ls 6 [(0, .ref (va 0)), (1, .int v1), (2, .int v2), (3, .int v3), (4, .int v4)] → W p l e (rmK 10 0 0) s m (List.toArray [.ref (va 0), .int x1, .int x2]) below meth c H locs 0 0 (MQ below (va_Qi (fun r (_ : Unit) => r = res.1) (hcB D (fun _ : Unit => moW k va res.2) A) A) (List.toArray [.ref (va 0), .int x1, .int x2]) s 0 0 A) (F0 m 40 ls []) := fun v1 v2 v3 v4 mo => hk40 (v1, v2, v3, v4, mo)
    have B101 : ∀ (v1 : Int32) (v2 : Int32) (v3 : Int32) (v4 : Int32) (mo : OB) (H : Heap) (locs : List Loc) (ls : Array Slot), b_X9_look_101 F k40 v1 v2 v3 v4 mo = some res → va_P D vwCl (moW k va mo) H → va_D A (moW k va mo) → va_S A s.heap H locs → lv_has ls 6 [(0, .ref (va 0)), (1, .int v1), (2, .int v2), (3, .int v3), (4, .int v4)] → W p l e (rmK 10 0 0) s m (List.toArray [.ref (va 0), .int x1, .int x2]) below meth c H locs 0 0 (MQ below (va_Qi (fun r (_ : Unit) => r = res.1) (hcB D (fun _ : Unit => moW k va res.2) A) A) (List.toArray [.ref (va 0), .int x1, .int x2]) s 0 0 A) (F0 m 101 ls []) := by
      intro v1 v2 v3 v4 mo H locs ls h hP hD hS hl
      refine lv_iinc (v := (v4 + 1)) (lv' := [(4, .int (v4 + 1)), (0, .ref (va 0)), (1, .int v1), (2, .int v2), (3, .int v3)]) hx hb dX9_look_101 hl (k := 4) rfl rfl (by decide) rfl (fun ls hl => ?_)
      refine lv_goto (tgt := 40) hx hb dX9_look_104 (by decide) ?_
      exact hc40 _ _ _ _ _ h _ _ _ hP hD hS (lv_sub hl [1, 2, 3, 4, 0] rfl)
    have B61 : ∀ a61 : (Int32 × Int32 × Int32 × Int32 × Int32 × OB), lp (b_X9_look_61 F k40) F a61 = some res → ∀ (H : Heap) (locs : List Loc) (ls : Array Slot), va_P D vwCl (moW k va a61.2.2.2.2.2) H → va_D A (moW k va a61.2.2.2.2.2) → va_S A s.heap H locs → lv_has ls 6 [(0, .ref (va 0)), (1, .int a61.1), (2, .int a61.2.1), (3, .int a61.2.2.1), (4, .int a61.2.2.2.1), (5, .int a61.2.2.2.2.1)] → W p l e (rmK 10 0 0) s m (List.toArray [.ref (va 0), .int x1, .int x2]) below meth c H locs 0 0 (MQ below (va_Qi (fun r (_ : Unit) => r = res.1) (hcB D (fun _ : Unit => moW k va res.2) A) A) (List.toArray [.ref (va 0), .int x1, .int x2]) s 0 0 A) (F0 m 61 ls []) := by
      refine lp_W ?_ F
      intro k61 hk61 a61 h H locs ls hP hD hS hl
      have hc61 : ∀ (v1 : Int32) (v2 : Int32) (v3 : Int32) (v4 : Int32) (v5 : Int32) (mo : OB), k61 (v1, v2, v3, v4, v5, mo) = some res → ∀ (H : Heap) (locs : List Loc) (ls : Array Slot), va_P D vwCl (moW k va mo) H → va_D A (moW k va mo) → va_S A s.heap H locs → lv_has ls 6 [(0, .ref (va 0)), (1, .int v1), (2, .int v2), (3, .int v3), (4, .int v4), (5, .int v5)] → W p l e (rmK 10 0 0) s m (List.toArray [.ref (va 0), .int x1, .int x2]) below meth c H locs 0 0 (MQ below (va_Qi (fun r (_ : Unit) => r = res.1) (hcB D (fun _ : Unit => moW k va res.2) A) A) (List.toArray [.ref (va 0), .int x1, .int x2]) s 0 0 A) (F0 m 61 ls []) := fun v1 v2 v3 v4 v5 mo => hk61 (v1, v2, v3, v4, v5, mo)
      refine lv_iload hx hb dX9_look_61 (lv_at hl 5 rfl) ?_
      refine lv_bipush (v := 8) hx hb dX9_look_63 (by decide) ?_
      refine lv_icmp_ge (tgt := 98) hx hb dX9_look_65 (by decide) (fun c7 => ?_) (fun c7 => ?_)
      · have h := fw_t c7 h
        refine lv_iinc (v := (a61.2.2.1 + 1)) (lv' := [(3, .int (a61.2.2.1 + 1)), (0, .ref (va 0)), (1, .int a61.1), (2, .int a61.2.1), (4, .int a61.2.2.2.1), (5, .int a61.2.2.2.2.1)]) hx hb dX9_look_98 hl (k := 3) rfl rfl (by decide) rfl (fun ls hl => ?_)
        exact B101 _ _ _ _ _ _ _ _ h hP hD hS (lv_sub hl [1, 2, 3, 0, 4] rfl)
      · have h := fw_f c7 h
        refine lv_aload_n hx hb dX9_look_68 rfl (lv_at hl 0 rfl) ?_
        refine va_get (D := D) (ci := 7) (v := .ref (va 35)) (C := RX9) (T := TX9) (N := 53) hx hb hts in9 hown hG.1 hP 0 rfl rfl 48 (by decide) (hts (.fieldLink RX9 119 "ChairCaneModel" "shows" "[I") (mem_b bq_wsX9_look 0 2 rfl)) (fun _ h9 => h9) rfl dX9_look_69 ?_
        refine lv_bipush (v := 8) hx hb dX9_look_72 (by decide) ?_
        refine lv_iload_n hx hb dX9_look_74 rfl (lv_at hl 3 rfl) ?_
        refine lv_imul hx hb dX9_look_75 ?_
        refine lv_iload hx hb dX9_look_76 (lv_at hl 5 rfl) ?_
        refine lv_iadd hx hb dX9_look_78 ?_
        refine lv_aload_n hx hb dX9_look_79 rfl (lv_at hl 0 rfl) ?_
        refine va_get (D := D) (ci := 7) (v := .ref (va 34)) (C := RX9) (T := TX9) (N := 53) hx hb hts in9 hown hG.1 hP 0 rfl rfl 47 (by decide) (hts (.fieldLink RX9 116 "ChairCaneModel" "lay" "[I") (mem_b bq_wsX9_look 0 3 rfl)) (fun _ h9 => h9) rfl dX9_look_80 ?_
        refine lv_bipush (v := 8) hx hb dX9_look_83 (by decide) ?_
        refine lv_iload_n hx hb dX9_look_85 rfl (lv_at hl 1 rfl) ?_
        refine lv_imul hx hb dX9_look_86 ?_
        refine lv_iload hx hb dX9_look_87 (lv_at hl 5 rfl) ?_
        refine lv_iadd hx hb dX9_look_89 ?_
        obtain ⟨g8, h⟩ := fw_g h
        refine va_iald hx hb hG.1 hP 34 0 rfl rfl (ib_vp g8) dX9_look_90 ?_
        obtain ⟨g9, h⟩ := fw_g h
        refine va_iast hx hb hG.1 hP hD hS 35 0 rfl rfl (ib_vp g9) dX9_look_91 (fun H locs hP hD hS => ?_)
        refine lv_iinc (v := (a61.2.2.2.2.1 + 1)) (lv' := [(5, .int (a61.2.2.2.2.1 + 1)), (0, .ref (va 0)), (1, .int a61.1), (2, .int a61.2.1), (3, .int a61.2.2.1), (4, .int a61.2.2.2.1)]) hx hb dX9_look_92 hl (k := 5) rfl rfl (by decide) rfl (fun ls hl => ?_)
        refine lv_goto (tgt := 61) hx hb dX9_look_95 (by decide) ?_
        exact hc61 _ _ _ _ _ _ h _ _ _ hP hD hS (lv_sub hl [1, 2, 3, 4, 5, 0] rfl)
    have C61 : ∀ (v1 : Int32) (v2 : Int32) (v3 : Int32) (v4 : Int32) (v5 : Int32) (mo : OB), lp (b_X9_look_61 F k40) F (v1, v2, v3, v4, v5, mo) = some res → ∀ (H : Heap) (locs : List Loc) (ls : Array Slot), va_P D vwCl (moW k va mo) H → va_D A (moW k va mo) → va_S A s.heap H locs → lv_has ls 6 [(0, .ref (va 0)), (1, .int v1), (2, .int v2), (3, .int v3), (4, .int v4), (5, .int v5)] → W p l e (rmK 10 0 0) s m (List.toArray [.ref (va 0), .int x1, .int x2]) below meth c H locs 0 0 (MQ below (va_Qi (fun r (_ : Unit) => r = res.1) (hcB D (fun _ : Unit => moW k va res.2) A) A) (List.toArray [.ref (va 0), .int x1, .int x2]) s 0 0 A) (F0 m 61 ls []) := fun v1 v2 v3 v4 v5 mo => B61 (v1, v2, v3, v4, v5, mo)
    refine lv_iload hx hb dX9_look_40 (lv_at hl 4 rfl) ?_
    refine lv_aload_n hx hb dX9_look_42 rfl (lv_at hl 0 rfl) ?_
    refine va_get (D := D) (ci := 7) (v := .int (a40.2.2.2.2.1 22)) (C := RX9) (T := TX9) (N := 53) hx hb hts in9 hown hG.1 hP 0 rfl rfl 22 (by decide) (hts (.fieldLink RX9 312 "ChairCaneModel" "rules" "I") (mem_b bq_wsX9_look 0 1 rfl)) (fun _ h9 => h9) rfl dX9_look_43 ?_
    refine lv_icmp_ge (tgt := 107) hx hb dX9_look_46 (by decide) (fun c10 => ?_) (fun c10 => ?_)
    · have h := fw_t c10 h
      refine lv_iload_n hx hb dX9_look_107 rfl (lv_at hl 3 rfl) ?_
      refine lv_if_eq (tgt := 120) hx hb dX9_look_108 (by decide) (fun c11 => ?_) (fun c11 => ?_)
      · have h := fw_t c11 h
        exact B120 _ _ _ _ h hP hD hS (lv_sub hl [] rfl)
      · have h := fw_f c11 h
        refine lv_aload_n hx hb dX9_look_111 rfl (lv_at hl 0 rfl) ?_
        refine va_get (D := D) (ci := 7) (v := .ref (va 1)) (C := RX9) (T := TX9) (N := 53) hx hb hts in9 hown hG.1 hP 0 rfl rfl 1 (by decide) (hts (.fieldLink RX9 9 "ChairCaneModel" "scalar" "[I") (mem_b bq_wsX9_look 0 4 rfl)) (fun _ h9 => h9) rfl dX9_look_112 ?_
        refine lv_iconst (v := 3) hx hb dX9_look_115 (by decide) ?_
        refine va_iald hx hb hG.1 hP 1 0 rfl rfl (by unfold vp_in; decide) dX9_look_116 ?_
        refine lv_if_ne (tgt := 123) hx hb dX9_look_117 (by decide) (fun c12 => ?_) (fun c12 => ?_)
        · have h := fw_f c12 h
          refine lv_iconst (v := 0) hx hb dX9_look_123 (by decide) ?_
          refine lv_istore (lv' := [(4, .int 0), (0, .ref (va 0)), (1, .int a40.1), (2, .int a40.2.1), (3, .int a40.2.2.1)]) hx hb dX9_look_124 hl (by decide) rfl (fun ls hl => ?_)
          refine lv_iconst (v := 1) hx hb dX9_look_126 (by decide) ?_
          refine lv_istore (lv' := [(5, .int 1), (4, .int 0), (0, .ref (va 0)), (1, .int a40.1), (2, .int a40.2.1), (3, .int a40.2.2.1)]) hx hb dX9_look_127 hl (by decide) rfl (fun ls hl => ?_)
          exact C129 _ _ _ _ _ h _ _ _ hP hD hS (lv_sub hl [2, 4, 5, 1, 0] rfl)
        · have h := fw_t c12 h
          exact B120 _ _ _ _ h hP hD hS (lv_sub hl [] rfl)
    · have h := fw_f c10 h
      refine lv_aload_n hx hb dX9_look_49 rfl (lv_at hl 0 rfl) ?_
      refine lv_iload hx hb dX9_look_50 (lv_at hl 4 rfl) ?_
      refine fw_Vi (As := [.int a40.2.2.2.1]) (rest := []) (n := 1) (wr := []) (rv := fun b : Int32 × OB => b.1) (wp := fun b : Int32 × OB => moW k va b.2) h hx hb hml hown hts hG hA hP hD hS hl.1 (List.range (moW k va a40.2.2.2.2).length) [] (fun q hq9 => c_X9_couldRule l D k _  va F a40.2.2.2.1 a40.2.2.2.2  hq9) (ci := 7) (q0 := 0) rfl rfl gX9_look_X9_couldRule rfl ⟨rfl, rfl, Nat.le_of_ble_eq_true rfl, Nat.le_of_ble_eq_true rfl⟩ (by decide +kernel) (al_C _) rfl (al_n _) ⟨rfl, rfl, Nat.le_of_ble_eq_true rfl, Nat.le_of_ble_eq_true rfl, Nat.le_of_ble_eq_true rfl⟩ dX9_look_52 (fun q13 H locs h hP hD hS => ?_)
      obtain ⟨hP, hD⟩ := cv (w' := moW k va q13.2) hP hD rfl
      refine hc_is (z := q13.1) rfl ?_
      refine lv_if_eq (tgt := 101) hx hb dX9_look_55 (by decide) (fun c14 => ?_) (fun c14 => ?_)
      · have h := fw_t c14 h
        exact B101 _ _ _ _ _ _ _ _ h hP hD hS hl
      · have h := fw_f c14 h
        refine lv_iconst (v := 0) hx hb dX9_look_58 (by decide) ?_
        refine lv_istore (lv' := [(5, .int 0), (0, .ref (va 0)), (1, .int a40.1), (2, .int a40.2.1), (3, .int a40.2.2.1), (4, .int a40.2.2.2.1)]) hx hb dX9_look_59 hl (by decide) rfl (fun ls hl => ?_)
        exact C61 _ _ _ _ _ _ h _ _ _ hP hD hS (lv_sub hl [1, 2, 3, 4, 5, 0] rfl)
  have C40 : ∀ (v1 : Int32) (v2 : Int32) (v3 : Int32) (v4 : Int32) (mo : OB), lp (b_X9_look_40 F) F (v1, v2, v3, v4, mo) = some res → ∀ (H : Heap) (locs : List Loc) (ls : Array Slot), va_P D vwCl (moW k va mo) H → va_D A (moW k va mo) → va_S A s.heap H locs → lv_has ls 6 [(0, .ref (va 0)), (1, .int v1), (2, .int v2), (3, .int v3), (4, .int v4)] → W p l e (rmK 10 0 0) s m (List.toArray [.ref (va 0), .int x1, .int x2]) below meth c H locs 0 0 (MQ below (va_Qi (fun r (_ : Unit) => r = res.1) (hcB D (fun _ : Unit => moW k va res.2) A) A) (List.toArray [.ref (va 0), .int x1, .int x2]) s 0 0 A) (F0 m 40 ls []) := fun v1 v2 v3 v4 mo => B40 (v1, v2, v3, v4, mo)
  refine lv_aload_n hx hb dX9_look_0 rfl (lv_at hl 0 rfl) ?_
  refine fw_Vi (As := []) (rest := []) (n := 0) (wr := []) (rv := fun b : Int32 => b) (wp := fun b : Int32 => moW k va mo) h hx hb hml hown hts hG hA hP hD hS hl.1 (List.range (moW k va mo).length) [] (fun q hq9 => c_X9_isHall l D k _  va F  mo  hq9) (ci := 7) (q0 := 0) rfl rfl gX9_look_X9_isHall rfl ⟨rfl, rfl, Nat.le_of_ble_eq_true rfl, Nat.le_of_ble_eq_true rfl⟩ (by decide +kernel) (al_C _) rfl (al_n _) ⟨rfl, rfl, Nat.le_of_ble_eq_true rfl, Nat.le_of_ble_eq_true rfl, Nat.le_of_ble_eq_true rfl⟩ dX9_look_1 (fun q15 H locs h hP hD hS => ?_)
  obtain ⟨hP, hD⟩ := cv (w' := moW k va mo) hP hD rfl
  refine hc_is (z := q15) rfl ?_
  refine lv_if_eq (tgt := 29) hx hb dX9_look_4 (by decide) (fun c16 => ?_) (fun c16 => ?_)
  · have h := fw_t c16 h
    exact B29 _ _ _ _ h hP hD hS (lv_sub hl [] rfl)
  · have h := fw_f c16 h
    refine lv_iload_n hx hb dX9_look_7 rfl (lv_at hl 1 rfl) ?_
    refine lv_i2l hx hb dX9_look_8 rfl ?_
    refine lv_lconst (v := 0) hx hb dX9_look_9 (by decide) ?_
    refine lv_ldc2 (v := 60) hx hb hown (hts (.constantLong RX9 457 (60)) (mem_b bq_wsX9_look 0 0 rfl)) dX9_look_10 ?_
    refine fw_Si (As := [.long (Int32.toInt64 x1), .long 0, .long 60]) (rest := []) (n := 3) (wr := moW k va mo) (rv := fun b : Int32 => b) (wp := fun b : Int32 => []) h hx hb hml hown hts hG hA hP hD hS hl.1 [] (List.range (moW k va mo).length) (fun q hq9 => c_X9_in l D k _   F (Int32.toInt64 x1) 0 60   hq9) gX9_look_X9_in rfl ⟨rfl, rfl, Nat.le_of_ble_eq_true rfl, Nat.le_of_ble_eq_true rfl⟩ (by decide +kernel) rfl (al_C _) (al_m _) ⟨rfl, rfl, Nat.le_of_ble_eq_true rfl, Nat.le_of_ble_eq_true rfl, Nat.le_of_ble_eq_true rfl⟩ dX9_look_13 (fun q17 H locs h hP hD hS => ?_)
    obtain ⟨hP, hD⟩ := cv (w' := (moW k va mo) ++ []) hP hD rfl
    rw [List.append_nil] at hP hD
    refine hc_is (z := q17) rfl ?_
    refine lv_if_eq (tgt := 29) hx hb dX9_look_16 (by decide) (fun c18 => ?_) (fun c18 => ?_)
    · have h := fw_t c18 h
      exact B29 _ _ _ _ h hP hD hS (lv_sub hl [] rfl)
    · have h := fw_f c18 h
      refine lv_iload_n hx hb dX9_look_19 rfl (lv_at hl 2 rfl) ?_
      refine lv_i2l hx hb dX9_look_20 rfl ?_
      refine lv_lconst (v := 0) hx hb dX9_look_21 (by decide) ?_
      refine lv_lconst (v := 1) hx hb dX9_look_22 (by decide) ?_
      refine fw_Si (As := [.long (Int32.toInt64 x2), .long 0, .long 1]) (rest := []) (n := 3) (wr := moW k va mo) (rv := fun b : Int32 => b) (wp := fun b : Int32 => []) h hx hb hml hown hts hG hA hP hD hS hl.1 [] (List.range (moW k va mo).length) (fun q hq9 => c_X9_in l D k _   F (Int32.toInt64 x2) 0 1   hq9) gX9_look_X9_in rfl ⟨rfl, rfl, Nat.le_of_ble_eq_true rfl, Nat.le_of_ble_eq_true rfl⟩ (by decide +kernel) rfl (al_C _) (al_m _) ⟨rfl, rfl, Nat.le_of_ble_eq_true rfl, Nat.le_of_ble_eq_true rfl, Nat.le_of_ble_eq_true rfl⟩ dX9_look_23 (fun q19 H locs h hP hD hS => ?_)
      obtain ⟨hP, hD⟩ := cv (w' := (moW k va mo) ++ []) hP hD rfl
      rw [List.append_nil] at hP hD
      refine hc_is (z := q19) rfl ?_
      refine lv_if_ne (tgt := 31) hx hb dX9_look_26 (by decide) (fun c20 => ?_) (fun c20 => ?_)
      · have h := fw_f c20 h
        refine lv_aload_n hx hb dX9_look_31 rfl (lv_at hl 0 rfl) ?_
        refine fw_Vv (As := []) (rest := []) (n := 0) (wr := []) (wp := fun b : OB => moW k va b) h hx hb hml hown hts hG hA hP hD hS hl.1 (List.range (moW k va mo).length) [] (fun q hq9 => c_X9_keepsAll l D k _  va F  mo  hq9) (ci := 7) (q0 := 0) rfl rfl gX9_look_X9_keepsAll rfl ⟨rfl, rfl, Nat.le_of_ble_eq_true rfl, Nat.le_of_ble_eq_true rfl⟩ (by decide +kernel) (al_C _) rfl (al_n _) ⟨rfl, rfl, Nat.le_of_ble_eq_true rfl, Nat.le_of_ble_eq_true rfl, Nat.le_of_ble_eq_true rfl⟩ dX9_look_32 (fun q21 H locs h hP hD hS => ?_)
        obtain ⟨hP, hD⟩ := cv (w' := moW k va q21) hP hD rfl
        refine lv_iconst (v := 0) hx hb dX9_look_35 (by decide) ?_
        refine lv_istore_n (lv' := [(3, .int 0), (0, .ref (va 0)), (1, .int x1), (2, .int x2)]) hx hb dX9_look_36 rfl hl (by decide) rfl (fun ls hl => ?_)
        refine lv_iconst (v := (-1)) hx hb dX9_look_37 (by decide) ?_
        refine lv_istore (lv' := [(4, .int (-1)), (3, .int 0), (0, .ref (va 0)), (1, .int x1), (2, .int x2)]) hx hb dX9_look_38 hl (by decide) rfl (fun ls hl => ?_)
        exact C40 _ _ _ _ _ h _ _ _ hP hD hS (lv_sub hl [2, 3, 4, 1, 0] rfl)
      · have h := fw_t c20 h
        exact B29 _ _ _ _ h hP hD hS (lv_sub hl [] rfl)
noncomputable def f_X9_seed (F : Nat)  (x1 : Int32) (mo : OB) : Option (Int32 × OB) :=
  if 0 ≤ x1 then (some (((mo.2.1 1) (Int32.toNatClampNeg 6)), (mo.1, (uF mo.2.1 1 (upd (mo.2.1 1) (Int32.toNatClampNeg 6) x1)), mo.2.2))) else (some ((-1), mo))
set_option maxRecDepth 20000 in
theorem bq_wsX9_seed : subq wsX9_seed [[.fieldLink RX9 9 "ChairCaneModel" "scalar" "[I"]] := ⟨(fun _ h => (List.mem_cons_of_mem _ (List.mem_append_left _ h))), trivial⟩
set_option maxHeartbeats 4000000 in
set_option maxRecDepth 100000 in
theorem c_X9_seed (l : Launch) (D : va_G) (k : Nat → ClassId) (sz : Nat)  (va : Nat → Nat) (F : Nat)  (x1 : Int32) (mo : OB)  {res : Int32 × OB} (h : f_X9_seed F x1 mo = some res) : CtI l yX9_seed wsX9_seed (rmK 1 0 0) [.ref (va 0), .int x1] D k sz (moW k va mo) (fun r (_ : Unit) => r = res.1) (fun _ : Unit => moW k va res.2) 0 0 := by
  refine CtI.mk (cc := cX9_seed) (maxL := 3) (ret := (some .int)) (by decide) rfl (Nat.le_of_ble_eq_true rfl) ?_
  intro p e s m below meth c A ls E hP hD hS hl
  obtain ⟨hx, hb, hr, hml, hown, hts, hlocks, hin, hG, hA⟩ := E
  have hown : s.vm.findClass RX9 = some m.cls := hown
  have in9 : ∀ w ∈ u_ws RX9 TX9 53, w ∈ wsX9_seed := fun _ h => List.mem_cons_of_mem _ (List.mem_append_right _ h)
  have hl : lv_has ls 3 [(0, .ref (va 0)), (1, .int x1)] := hl
  refine lv_iload_n hx hb dX9_seed_0 rfl (lv_at hl 1 rfl) ?_
  refine lv_if_ge (tgt := 6) hx hb dX9_seed_1 (by decide) (fun c1 => ?_) (fun c1 => ?_)
  · have h := fw_t c1 h
    refine lv_aload_n hx hb dX9_seed_6 rfl (lv_at hl 0 rfl) ?_
    refine va_get (D := D) (ci := 7) (v := .ref (va 1)) (C := RX9) (T := TX9) (N := 53) hx hb hts in9 hown hG.1 hP 0 rfl rfl 1 (by decide) (hts (.fieldLink RX9 9 "ChairCaneModel" "scalar" "[I") (mem_b bq_wsX9_seed 0 0 rfl)) (fun _ h9 => h9) rfl dX9_seed_7 ?_
    refine lv_bipush (v := 6) hx hb dX9_seed_10 (by decide) ?_
    refine va_iald hx hb hG.1 hP 1 0 rfl rfl (by unfold vp_in; decide) dX9_seed_12 ?_
    refine lv_istore_n (lv' := [(2, .int ((mo.2.1 1) (Int32.toNatClampNeg 6))), (0, .ref (va 0)), (1, .int x1)]) hx hb dX9_seed_13 rfl hl (by decide) rfl (fun ls hl => ?_)
    refine lv_aload_n hx hb dX9_seed_14 rfl (lv_at hl 1 rfl) ?_
    refine va_get (D := D) (ci := 7) (v := .ref (va 1)) (C := RX9) (T := TX9) (N := 53) hx hb hts in9 hown hG.1 hP 0 rfl rfl 1 (by decide) (hts (.fieldLink RX9 9 "ChairCaneModel" "scalar" "[I") (mem_b bq_wsX9_seed 0 0 rfl)) (fun _ h9 => h9) rfl dX9_seed_15 ?_
    refine lv_bipush (v := 6) hx hb dX9_seed_18 (by decide) ?_
    refine lv_iload_n hx hb dX9_seed_20 rfl (lv_at hl 2 rfl) ?_
    refine va_iast hx hb hG.1 hP hD hS 1 0 rfl rfl (by unfold vp_in; decide) dX9_seed_21 (fun H locs hP hD hS => ?_)
    refine lv_iload_n hx hb dX9_seed_22 rfl (lv_at hl 0 rfl) ?_
    exact fw_endI (rv := fun b : Int32 × OB => b.1) (wp := fun b : Int32 × OB => moW k va b.2) hx hb hr hlocks h rfl hP hD hS dX9_seed_23
  · have h := fw_f c1 h
    refine lv_iconst (v := (-1)) hx hb dX9_seed_4 (by decide) ?_
    exact fw_endI (rv := fun b : Int32 × OB => b.1) (wp := fun b : Int32 × OB => moW k va b.2) hx hb hr hlocks h rfl hP hD hS dX9_seed_5
noncomputable def f_X9_draws (F : Nat)  (x1 : Int32) (mo : OB) : Option (Int32 × OB) :=
  if ¬ x1 = 0 then (some (((((upd (mo.2.1 1) (Int32.toNatClampNeg 6) (Int64.toInt32 ((((Int32.toInt64 ((mo.2.1 1) (Int32.toNatClampNeg 6))) * 1103515245) + 12345) - (((Int32.toInt64 ((mo.2.1 1) (Int32.toNatClampNeg 6))) * 1103515245) + 12345) / 2147483648 * 2147483648))) (Int32.toNatClampNeg 6)) / 65536) - (((upd (mo.2.1 1) (Int32.toNatClampNeg 6) (Int64.toInt32 ((((Int32.toInt64 ((mo.2.1 1) (Int32.toNatClampNeg 6))) * 1103515245) + 12345) - (((Int32.toInt64 ((mo.2.1 1) (Int32.toNatClampNeg 6))) * 1103515245) + 12345) / 2147483648 * 2147483648))) (Int32.toNatClampNeg 6)) / 65536) / x1 * x1), (mo.1, (uF mo.2.1 1 (upd (mo.2.1 1) (Int32.toNatClampNeg 6) (Int64.toInt32 ((((Int32.toInt64 ((mo.2.1 1) (Int32.toNatClampNeg 6))) * 1103515245) + 12345) - (((Int32.toInt64 ((mo.2.1 1) (Int32.toNatClampNeg 6))) * 1103515245) + 12345) / 2147483648 * 2147483648)))), mo.2.2))) else none
set_option maxRecDepth 20000 in
theorem bq_wsX9_draws : subq wsX9_draws [[.fieldLink RX9 9 "ChairCaneModel" "scalar" "[I", .constantLong RX9 468 (1103515245), .constantLong RX9 470 (12345), .constantLong RX9 472 (2147483648), .constant RX9 474 (65536)]] := ⟨(fun _ h => (List.mem_cons_of_mem _ (List.mem_append_left _ h))), trivial⟩
set_option maxHeartbeats 4000000 in
set_option maxRecDepth 100000 in
theorem c_X9_draws (l : Launch) (D : va_G) (k : Nat → ClassId) (sz : Nat)  (va : Nat → Nat) (F : Nat)  (x1 : Int32) (mo : OB)  {res : Int32 × OB} (h : f_X9_draws F x1 mo = some res) : CtI l yX9_draws wsX9_draws (rmK 1 0 0) [.ref (va 0), .int x1] D k sz (moW k va mo) (fun r (_ : Unit) => r = res.1) (fun _ : Unit => moW k va res.2) 0 0 := by
  refine CtI.mk (cc := cX9_draws) (maxL := 2) (ret := (some .int)) (by decide) rfl (Nat.le_of_ble_eq_true rfl) ?_
  intro p e s m below meth c A ls E hP hD hS hl
  obtain ⟨hx, hb, hr, hml, hown, hts, hlocks, hin, hG, hA⟩ := E
  have hown : s.vm.findClass RX9 = some m.cls := hown
  have in9 : ∀ w ∈ u_ws RX9 TX9 53, w ∈ wsX9_draws := fun _ h => List.mem_cons_of_mem _ (List.mem_append_right _ h)
  have hl : lv_has ls 2 [(0, .ref (va 0)), (1, .int x1)] := hl
  refine lv_aload_n hx hb dX9_draws_0 rfl (lv_at hl 0 rfl) ?_
  refine va_get (D := D) (ci := 7) (v := .ref (va 1)) (C := RX9) (T := TX9) (N := 53) hx hb hts in9 hown hG.1 hP 0 rfl rfl 1 (by decide) (hts (.fieldLink RX9 9 "ChairCaneModel" "scalar" "[I") (mem_b bq_wsX9_draws 0 0 rfl)) (fun _ h9 => h9) rfl dX9_draws_1 ?_
  refine lv_bipush (v := 6) hx hb dX9_draws_4 (by decide) ?_
  refine lv_aload_n hx hb dX9_draws_6 rfl (lv_at hl 0 rfl) ?_
  refine va_get (D := D) (ci := 7) (v := .ref (va 1)) (C := RX9) (T := TX9) (N := 53) hx hb hts in9 hown hG.1 hP 0 rfl rfl 1 (by decide) (hts (.fieldLink RX9 9 "ChairCaneModel" "scalar" "[I") (mem_b bq_wsX9_draws 0 0 rfl)) (fun _ h9 => h9) rfl dX9_draws_7 ?_
  refine lv_bipush (v := 6) hx hb dX9_draws_10 (by decide) ?_
  refine va_iald hx hb hG.1 hP 1 0 rfl rfl (by unfold vp_in; decide) dX9_draws_12 ?_
  refine lv_i2l hx hb dX9_draws_13 rfl ?_
  refine lv_ldc2 (v := 1103515245) hx hb hown (hts (.constantLong RX9 468 (1103515245)) (mem_b bq_wsX9_draws 0 1 rfl)) dX9_draws_14 ?_
  refine lv_lmul hx hb dX9_draws_17 ?_
  refine lv_ldc2 (v := 12345) hx hb hown (hts (.constantLong RX9 470 (12345)) (mem_b bq_wsX9_draws 0 2 rfl)) dX9_draws_18 ?_
  refine lv_ladd hx hb dX9_draws_21 ?_
  refine lv_ldc2 (v := 2147483648) hx hb hown (hts (.constantLong RX9 472 (2147483648)) (mem_b bq_wsX9_draws 0 3 rfl)) dX9_draws_22 ?_
  refine lv_lrem hx hb dX9_draws_25 (by decide) ?_
  refine lv_l2i hx hb dX9_draws_26 rfl ?_
  refine va_iast hx hb hG.1 hP hD hS 1 0 rfl rfl (by unfold vp_in; decide) dX9_draws_27 (fun H locs hP hD hS => ?_)
  refine lv_aload_n hx hb dX9_draws_28 rfl (lv_at hl 0 rfl) ?_
  refine va_get (D := D) (ci := 7) (v := .ref (va 1)) (C := RX9) (T := TX9) (N := 53) hx hb hts in9 hown hG.1 hP 0 rfl rfl 1 (by decide) (hts (.fieldLink RX9 9 "ChairCaneModel" "scalar" "[I") (mem_b bq_wsX9_draws 0 0 rfl)) (fun _ h9 => h9) rfl dX9_draws_29 ?_
  refine lv_bipush (v := 6) hx hb dX9_draws_32 (by decide) ?_
  refine va_iald hx hb hG.1 hP 1 0 rfl rfl (by unfold vp_in; decide) dX9_draws_34 ?_
  refine lv_ldcw (v := 65536) hx hb hown (hts (.constant RX9 474 (65536)) (mem_b bq_wsX9_draws 0 4 rfl)) dX9_draws_35 ?_
  refine lv_idiv hx hb dX9_draws_38 (by decide) ?_
  refine lv_iload_n hx hb dX9_draws_39 rfl (lv_at hl 1 rfl) ?_
  obtain ⟨g1, h⟩ := fw_g h
  refine lv_irem hx hb dX9_draws_40 g1 ?_
  exact fw_endI (rv := fun b : Int32 × OB => b.1) (wp := fun b : Int32 × OB => moW k va b.2) hx hb hr hlocks h rfl hP hD hS dX9_draws_41
noncomputable def b_X9_toastOf_27 (F : Nat)    (y0 : Int32) (y1 : Int32) (mo : OB) : Option (OB) :=
  if ib y1 8 then (Option.bind (f_X9_settles F (mo.1, (uF mo.2.1 3 (upd (mo.2.1 3) (Int32.toNatClampNeg y1) y0)), mo.2.2)) (fun q2 => (some q2.2))) else none
noncomputable def f_X9_toastOf (F : Nat)  (x1 : Int32) (mo : OB) : Option (OB) :=
  if ib x1 8 then (if ((mo.2.1 3) (Int32.toNatClampNeg x1)) = 2 then (b_X9_toastOf_27 F 2 x1 mo) else (b_X9_toastOf_27 F (1 - ((mo.2.1 3) (Int32.toNatClampNeg x1))) x1 mo)) else none
set_option maxHeartbeats 4000000 in
set_option maxRecDepth 100000 in
theorem c_X9_toastOf (l : Launch) (D : va_G) (k : Nat → ClassId) (sz : Nat)  (va : Nat → Nat) (F : Nat)  (x1 : Int32) (mo : OB)  {res : OB} (h : f_X9_toastOf F x1 mo = some res) : CtV l yX9_toastOf wsX9_toastOf (rmK 6 0 0) [.ref (va 0), .int x1] D k sz (moW k va mo) (fun (_ : Unit) => True) (fun _ : Unit => moW k va res) 0 0 := by
  refine CtV.mk (cc := cX9_toastOf) (maxL := 2) (ret := none) (by decide) rfl (Nat.le_of_ble_eq_true rfl) ?_
  intro p e s m below meth c A ls E hP hD hS hl
  obtain ⟨hx, hb, hr, hml, hown, hts, hlocks, hin, hG, hA⟩ := E
  have hown : s.vm.findClass RX9 = some m.cls := hown
  have in9 : ∀ w ∈ u_ws RX9 TX9 53, w ∈ wsX9_toastOf := fun _ h => List.mem_cons_of_mem _ (List.mem_append_right _ h)
  have hl : lv_has ls 2 [(0, .ref (va 0)), (1, .int x1)] := hl
  have B27 : ∀ (y0 : Int32) (y1 : Int32) (mo : OB) (H : Heap) (locs : List Loc) (ls : Array Slot), b_X9_toastOf_27 F y0 y1 mo = some res → va_P D vwCl (moW k va mo) H → va_D A (moW k va mo) → va_S A s.heap H locs → lv_has ls 2 [(0, .ref (va 0))] → W p l e (rmK 6 0 0) s m (List.toArray [.ref (va 0), .int x1]) below meth c H locs 0 0 (MQ below (va_Qv (fun (_ : Unit) => True) (hcB D (fun _ : Unit => moW k va res) A) A) (List.toArray [.ref (va 0), .int x1]) s 0 0 A) (F0 m 27 ls [.int y0, .int y1, .ref (va 3)]) := by
    intro y0 y1 mo H locs ls h hP hD hS hl
    obtain ⟨g1, h⟩ := fw_g h
    refine va_iast hx hb hG.1 hP hD hS 3 0 rfl rfl (ib_vp g1) dX9_toastOf_27 (fun H locs hP hD hS => ?_)
    refine lv_aload_n hx hb dX9_toastOf_28 rfl (lv_at hl 0 rfl) ?_
    obtain ⟨hP, hD⟩ := cv (w' := moW k va (mo.1, (uF mo.2.1 3 (upd (mo.2.1 3) (Int32.toNatClampNeg y1) y0)), mo.2.2)) hP hD rfl
    refine fw_Vi (As := []) (rest := []) (n := 0) (wr := []) (rv := fun b : Int32 × OB => b.1) (wp := fun b : Int32 × OB => moW k va b.2) h hx hb hml hown hts hG hA hP hD hS hl.1 (List.range (moW k va (mo.1, (uF mo.2.1 3 (upd (mo.2.1 3) (Int32.toNatClampNeg y1) y0)), mo.2.2)).length) [] (fun q hq9 => c_X9_settles l D k _  va F  (mo.1, (uF mo.2.1 3 (upd (mo.2.1 3) (Int32.toNatClampNeg y1) y0)), mo.2.2)  hq9) (ci := 7) (q0 := 0) rfl rfl gX9_toastOf_X9_settles rfl ⟨rfl, rfl, Nat.le_of_ble_eq_true rfl, Nat.le_of_ble_eq_true rfl⟩ (by decide +kernel) (al_C _) rfl (al_n _) ⟨rfl, rfl, Nat.le_of_ble_eq_true rfl, Nat.le_of_ble_eq_true rfl, Nat.le_of_ble_eq_true rfl⟩ dX9_toastOf_29 (fun q2 H locs h hP hD hS => ?_)
    obtain ⟨hP, hD⟩ := cv (w' := moW k va q2.2) hP hD rfl
    refine hc_is (z := q2.1) rfl ?_
    refine lv_pop hx hb dX9_toastOf_32 rfl ?_
    exact fw_endV (wp := fun b : OB => moW k va b) hx hb hr hlocks h hP hD hS dX9_toastOf_33
  refine lv_aload_n hx hb dX9_toastOf_0 rfl (lv_at hl 0 rfl) ?_
  refine va_get (D := D) (ci := 7) (v := .ref (va 3)) (C := RX9) (T := TX9) (N := 53) hx hb hts in9 hown hG.1 hP 0 rfl rfl 3 (by decide) (hts (.fieldLink RX9 16 "ChairCaneModel" "is" "[I") (mem_b bq_wsX9_toastOf 0 0 rfl)) (fun _ h9 => h9) rfl dX9_toastOf_1 ?_
  refine lv_iload_n hx hb dX9_toastOf_4 rfl (lv_at hl 1 rfl) ?_
  refine lv_aload_n hx hb dX9_toastOf_5 rfl (lv_at hl 0 rfl) ?_
  refine va_get (D := D) (ci := 7) (v := .ref (va 3)) (C := RX9) (T := TX9) (N := 53) hx hb hts in9 hown hG.1 hP 0 rfl rfl 3 (by decide) (hts (.fieldLink RX9 16 "ChairCaneModel" "is" "[I") (mem_b bq_wsX9_toastOf 0 0 rfl)) (fun _ h9 => h9) rfl dX9_toastOf_6 ?_
  refine lv_iload_n hx hb dX9_toastOf_9 rfl (lv_at hl 1 rfl) ?_
  obtain ⟨g3, h⟩ := fw_g h
  refine va_iald hx hb hG.1 hP 3 0 rfl rfl (ib_vp g3) dX9_toastOf_10 ?_
  refine lv_iconst (v := 2) hx hb dX9_toastOf_11 (by decide) ?_
  refine lv_icmp_ne (tgt := 19) hx hb dX9_toastOf_12 (by decide) (fun c4 => ?_) (fun c4 => ?_)
  · have h := fw_f c4 h
    refine lv_iconst (v := 1) hx hb dX9_toastOf_19 (by decide) ?_
    refine lv_aload_n hx hb dX9_toastOf_20 rfl (lv_at hl 0 rfl) ?_
    refine va_get (D := D) (ci := 7) (v := .ref (va 3)) (C := RX9) (T := TX9) (N := 53) hx hb hts in9 hown hG.1 hP 0 rfl rfl 3 (by decide) (hts (.fieldLink RX9 16 "ChairCaneModel" "is" "[I") (mem_b bq_wsX9_toastOf 0 0 rfl)) (fun _ h9 => h9) rfl dX9_toastOf_21 ?_
    refine lv_iload_n hx hb dX9_toastOf_24 rfl (lv_at hl 1 rfl) ?_
    refine va_iald hx hb hG.1 hP 3 0 rfl rfl (ib_vp g3) dX9_toastOf_25 ?_
    refine lv_isub hx hb dX9_toastOf_26 ?_
    exact B27 _ _ _ _ _ _ h hP hD hS (lv_sub hl [0] rfl)
  · have h := fw_t c4 h
    refine lv_iconst (v := 2) hx hb dX9_toastOf_15 (by decide) ?_
    refine lv_goto (tgt := 27) hx hb dX9_toastOf_16 (by decide) ?_
    exact B27 _ _ _ _ _ _ h hP hD hS (lv_sub hl [0] rfl)
noncomputable def b_X9_toasts_54 (F : Nat)    (mo : OB) : Option (Int32 × OB) :=
  some ((-1), mo)
noncomputable def b_X9_toasts_160 (F : Nat)   (k79 : (Int32 × Int32 × Int32 × Int32 × Int32 × Int32 × Int32 × Int32 × OB) → Option (Int32 × OB)) (v1 : Int32) (v2 : Int32) (v3 : Int32) (v4 : Int32) (v5 : Int32) (v8 : Int32) (y0 : Int32) (y2 : Int32) (mo : OB) : Option (Int32 × OB) :=
  Option.bind (f_X9_those F y0 mo) (fun q1 => (Option.bind (f_X9_bits F q1) (fun q2 => (Option.bind (f_X9_laysBack F mo) (fun q3 => (k79 (v1, v2, v3, v4, v5, ((mo.2.1 1) (Int32.toNatClampNeg 6)), (y2 + q2), (v8 + 1), q3)))))))
noncomputable def b_X9_toasts_136 (F : Nat)   (k79 : (Int32 × Int32 × Int32 × Int32 × Int32 × Int32 × Int32 × Int32 × OB) → Option (Int32 × OB)) (k97 : (Int32 × Int32 × Int32 × Int32 × Int32 × Int32 × Int32 × Int32 × OB) → Option (Int32 × OB)) (v1 : Int32) (v2 : Int32) (v3 : Int32) (v4 : Int32) (v5 : Int32) (v7 : Int32) (v8 : Int32) (v9 : Int32) (mo : OB) : Option (Int32 × OB) :=
  Option.bind (f_X9_goes F mo) (fun q4 => (k97 (v1, v2, v3, v4, v5, v7, v8, (v9 + 1), q4.2)))
noncomputable def b_X9_toasts_97 (F : Nat)   (k79 : (Int32 × Int32 × Int32 × Int32 × Int32 × Int32 × Int32 × Int32 × OB) → Option (Int32 × OB)) (k97 : (Int32 × Int32 × Int32 × Int32 × Int32 × Int32 × Int32 × Int32 × OB) → Option (Int32 × OB)) (a97 : (Int32 × Int32 × Int32 × Int32 × Int32 × Int32 × Int32 × Int32 × OB)) : Option (Int32 × OB) :=
  if a97.2.1 ≤ a97.2.2.2.2.2.2.2.1 then (if a97.2.2.2.1 = 0 then (b_X9_toasts_160 F k79 a97.1 a97.2.1 a97.2.2.1 a97.2.2.2.1 a97.2.2.2.2.1 a97.2.2.2.2.2.2.1 2 a97.2.2.2.2.2.1 a97.2.2.2.2.2.2.2.2) else (b_X9_toasts_160 F k79 a97.1 a97.2.1 a97.2.2.1 a97.2.2.2.1 a97.2.2.2.2.1 a97.2.2.2.2.2.2.1 1 a97.2.2.2.2.2.1 a97.2.2.2.2.2.2.2.2)) else (Option.bind (f_X9_draws F 100 a97.2.2.2.2.2.2.2.2) (fun q7 => (if a97.2.2.1 ≤ q7.1 then (b_X9_toasts_136 F k79 k97 a97.1 a97.2.1 a97.2.2.1 a97.2.2.2.1 a97.2.2.2.2.1 a97.2.2.2.2.2.1 a97.2.2.2.2.2.2.1 a97.2.2.2.2.2.2.2.1 q7.2) else (if ((q7.2.2.1 1) (Int32.toNatClampNeg 3)) ≤ 0 then (b_X9_toasts_136 F k79 k97 a97.1 a97.2.1 a97.2.2.1 a97.2.2.2.1 a97.2.2.2.2.1 a97.2.2.2.2.2.1 a97.2.2.2.2.2.2.1 a97.2.2.2.2.2.2.2.1 q7.2) else (Option.bind (f_X9_draws F ((q7.2.2.1 1) (Int32.toNatClampNeg 3)) q7.2) (fun q10 => (Option.bind (f_X9_toastOf F q10.1 q10.2) (fun q11 => (b_X9_toasts_136 F k79 k97 a97.1 a97.2.1 a97.2.2.1 a97.2.2.2.1 a97.2.2.2.2.1 a97.2.2.2.2.2.1 a97.2.2.2.2.2.2.1 a97.2.2.2.2.2.2.2.1 q11)))))))))
noncomputable def b_X9_toasts_79 (F : Nat)    (k79 : (Int32 × Int32 × Int32 × Int32 × Int32 × Int32 × Int32 × Int32 × OB) → Option (Int32 × OB)) (a79 : (Int32 × Int32 × Int32 × Int32 × Int32 × Int32 × Int32 × Int32 × OB)) : Option (Int32 × OB) :=
  if a79.1 ≤ a79.2.2.2.2.2.2.2.1 then (some (a79.2.2.2.2.2.2.1, (a79.2.2.2.2.2.2.2.2.1, (uF a79.2.2.2.2.2.2.2.2.2.1 1 (upd (a79.2.2.2.2.2.2.2.2.2.1 1) (Int32.toNatClampNeg 6) a79.2.2.2.2.1)), a79.2.2.2.2.2.2.2.2.2.2))) else (lp (b_X9_toasts_97 F k79) F (a79.1, a79.2.1, a79.2.2.1, a79.2.2.2.1, a79.2.2.2.2.1, a79.2.2.2.2.2.2.1, a79.2.2.2.2.2.2.2.1, 0, (a79.2.2.2.2.2.2.2.2.1, (uF a79.2.2.2.2.2.2.2.2.2.1 1 (upd (a79.2.2.2.2.2.2.2.2.2.1 1) (Int32.toNatClampNeg 6) a79.2.2.2.2.2.1)), a79.2.2.2.2.2.2.2.2.2.2)))
noncomputable def f_X9_toasts (F : Nat)  (x1 : Int32) (x2 : Int32) (x3 : Int32) (x4 : Int32) (mo : OB) : Option (Int32 × OB) :=
  Option.bind (f_X9_isHall F mo) (fun q13 => (if q13 = 0 then (b_X9_toasts_54 F mo) else (Option.bind (f_X9_in F (Int32.toInt64 x1) 1 10) (fun q15 => (if q15 = 0 then (b_X9_toasts_54 F mo) else (Option.bind (f_X9_in F (Int32.toInt64 x2) 1 60) (fun q17 => (if q17 = 0 then (b_X9_toasts_54 F mo) else (Option.bind (f_X9_in F (Int32.toInt64 x3) 0 100) (fun q19 => (if q19 = 0 then (b_X9_toasts_54 F mo) else (Option.bind (f_X9_in F (Int32.toInt64 x4) 0 1) (fun q21 => (if q21 = 0 then (b_X9_toasts_54 F mo) else (Option.bind (f_X9_keepsAll F mo) (fun q23 => (lp (b_X9_toasts_79 F) F (x1, x2, x3, x4, ((mo.2.1 1) (Int32.toNatClampNeg 6)), ((mo.2.1 1) (Int32.toNatClampNeg 6)), 0, 0, q23))))))))))))))))))
set_option maxHeartbeats 4000000 in
set_option maxRecDepth 100000 in
theorem c_X9_toasts (l : Launch) (D : va_G) (k : Nat → ClassId) (sz : Nat)  (va : Nat → Nat) (F : Nat)  (x1 : Int32) (x2 : Int32) (x3 : Int32) (x4 : Int32) (mo : OB)  {res : Int32 × OB} (h : f_X9_toasts F x1 x2 x3 x4 mo = some res) : CtI l yX9_toasts wsX9_toasts (rmK 7 0 0) [.ref (va 0), .int x1, .int x2, .int x3, .int x4] D k sz (moW k va mo) (fun r (_ : Unit) => r = res.1) (fun _ : Unit => moW k va res.2) 0 0 := by
  refine CtI.mk (cc := cX9_toasts) (maxL := 10) (ret := (some .int)) (by decide) rfl (Nat.le_of_ble_eq_true rfl) ?_
  intro p e s m below meth c A ls E hP hD hS hl
  obtain ⟨hx, hb, hr, hml, hown, hts, hlocks, hin, hG, hA⟩ := E
  have hown : s.vm.findClass RX9 = some m.cls := hown
  have in9 : ∀ w ∈ u_ws RX9 TX9 53, w ∈ wsX9_toasts := fun _ h => List.mem_cons_of_mem _ (List.mem_append_right _ h)
  have hl : lv_has ls 10 [(0, .ref (va 0)), (1, .int x1), (2, .int x2), (3, .int x3), (4, .int x4)] := hl
  have B54 : ∀ (mo : OB) (H : Heap) (locs : List Loc) (ls : Array Slot), b_X9_toasts_54 F mo = some res → va_P D vwCl (moW k va mo) H → va_D A (moW k va mo) → va_S A s.heap H locs → lv_has ls 10 [] → W p l e (rmK 7 0 0) s m (List.toArray [.ref (va 0), .int x1, .int x2, .int x3, .int x4]) below meth c H locs 0 0 (MQ below (va_Qi (fun r (_ : Unit) => r = res.1) (hcB D (fun _ : Unit => moW k va res.2) A) A) (List.toArray [.ref (va 0), .int x1, .int x2, .int x3, .int x4]) s 0 0 A) (F0 m 54 ls []) := by
    intro mo H locs ls h hP hD hS hl
    refine lv_iconst (v := (-1)) hx hb dX9_toasts_54 (by decide) ?_
    exact fw_endI (rv := fun b : Int32 × OB => b.1) (wp := fun b : Int32 × OB => moW k va b.2) hx hb hr hlocks h rfl hP hD hS dX9_toasts_55
  have B79 : ∀ a79 : (Int32 × Int32 × Int32 × Int32 × Int32 × Int32 × Int32 × Int32 × OB), lp (b_X9_toasts_79 F) F a79 = some res → ∀ (H : Heap) (locs : List Loc) (ls : Array Slot), va_P D vwCl (moW k va a79.2.2.2.2.2.2.2.2) H → va_D A (moW k va a79.2.2.2.2.2.2.2.2) → va_S A s.heap H locs → lv_has ls 10 [(0, .ref (va 0)), (1, .int a79.1), (2, .int a79.2.1), (3, .int a79.2.2.1), (4, .int a79.2.2.2.1), (5, .int a79.2.2.2.2.1), (6, .int a79.2.2.2.2.2.1), (7, .int a79.2.2.2.2.2.2.1), (8, .int a79.2.2.2.2.2.2.2.1)] → W p l e (rmK 7 0 0) s m (List.toArray [.ref (va 0), .int x1, .int x2, .int x3, .int x4]) below meth c H locs 0 0 (MQ below (va_Qi (fun r (_ : Unit) => r = res.1) (hcB D (fun _ : Unit => moW k va res.2) A) A) (List.toArray [.ref (va 0), .int x1, .int x2, .int x3, .int x4]) s 0 0 A) (F0 m 79 ls []) := by
    refine lp_W ?_ F
    intro k79 hk79 a79 h H locs ls hP hD hS hl
    have hc79 : ∀ (v1 : Int32) (v2 : Int32) (v3 : Int32) (v4 : Int32) (v5 : Int32) (v6 : Int32) (v7 : Int32) (v8 : Int32) (mo : OB), k79 (v1, v2, v3, v4, v5, v6, v7, v8, mo) = some res → ∀ (H : Heap) (locs : List Loc) (ls : Array Slot), va_P D vwCl (moW k va mo) H → va_D A (moW k va mo) → va_S A s.heap H locs → lv_has ls 10 [(0, .ref (va 0)), (1, .int v1), (2, .int v2), (3, .int v3), (4, .int v4), (5, .int v5), (6, .int v6), (7, .int v7), (8, .int v8)] → W p l e (rmK 7 0 0) s m (List.toArray [.ref (va 0), .int x1, .int x2, .int x3, .int x4]) below meth c H locs 0 0 (MQ below (va_Qi (fun r (_ : Unit) => r = res.1) (hcB D (fun _ : Unit => moW k va res.2) A) A) (List.toArray [.ref (va 0), .int x1, .int x2, .int x3, .int x4]) s 0 0 A) (F0 m 79 ls []) := fun v1 v2 v3 v4 v5 v6 v7 v8 mo => hk79 (v1, v2, v3, v4, v5, v6, v7, v8, mo)
    have B160 : ∀ (v1 : Int32) (v2 : Int32) (v3 : Int32) (v4 : Int32) (v5 : Int32) (v8 : Int32) (y0 : Int32) (y2 : Int32) (mo : OB) (H : Heap) (locs : List Loc) (ls : Array Slot), b_X9_toasts_160 F k79 v1 v2 v3 v4 v5 v8 y0 y2 mo = some res → va_P D vwCl (moW k va mo) H → va_D A (moW k va mo) → va_S A s.heap H locs → lv_has ls 10 [(0, .ref (va 0)), (1, .int v1), (2, .int v2), (3, .int v3), (4, .int v4), (5, .int v5), (8, .int v8)] → W p l e (rmK 7 0 0) s m (List.toArray [.ref (va 0), .int x1, .int x2, .int x3, .int x4]) below meth c H locs 0 0 (MQ below (va_Qi (fun r (_ : Unit) => r = res.1) (hcB D (fun _ : Unit => moW k va res.2) A) A) (List.toArray [.ref (va 0), .int x1, .int x2, .int x3, .int x4]) s 0 0 A) (F0 m 160 ls [.int y0, .ref (va 0), .int y2]) := by
      intro v1 v2 v3 v4 v5 v8 y0 y2 mo H locs ls h hP hD hS hl
      refine fw_Vi (As := [.int y0]) (rest := [.int y2]) (n := 1) (wr := []) (rv := fun b : Int32 => b) (wp := fun b : Int32 => moW k va mo) h hx hb hml hown hts hG hA hP hD hS hl.1 (List.range (moW k va mo).length) [] (fun q hq9 => c_X9_those l D k _  va F y0 mo  hq9) (ci := 7) (q0 := 0) rfl rfl gX9_toasts_X9_those rfl ⟨rfl, rfl, Nat.le_of_ble_eq_true rfl, Nat.le_of_ble_eq_true rfl⟩ (by decide +kernel) (al_C _) rfl (al_n _) ⟨rfl, rfl, Nat.le_of_ble_eq_true rfl, Nat.le_of_ble_eq_true rfl, Nat.le_of_ble_eq_true rfl⟩ dX9_toasts_160 (fun q1 H locs h hP hD hS => ?_)
      obtain ⟨hP, hD⟩ := cv (w' := moW k va mo) hP hD rfl
      refine hc_is (z := q1) rfl ?_
      refine fw_Si (As := [.int q1]) (rest := [.int y2]) (n := 1) (wr := moW k va mo) (rv := fun b : Int32 => b) (wp := fun b : Int32 => []) h hx hb hml hown hts hG hA hP hD hS hl.1 [] (List.range (moW k va mo).length) (fun q hq9 => c_X9_bits l D k _   F q1   hq9) gX9_toasts_X9_bits rfl ⟨rfl, rfl, Nat.le_of_ble_eq_true rfl, Nat.le_of_ble_eq_true rfl⟩ (by decide +kernel) rfl (al_C _) (al_m _) ⟨rfl, rfl, Nat.le_of_ble_eq_true rfl, Nat.le_of_ble_eq_true rfl, Nat.le_of_ble_eq_true rfl⟩ dX9_toasts_163 (fun q2 H locs h hP hD hS => ?_)
      obtain ⟨hP, hD⟩ := cv (w' := (moW k va mo) ++ []) hP hD rfl
      rw [List.append_nil] at hP hD
      refine hc_is (z := q2) rfl ?_
      refine lv_iadd hx hb dX9_toasts_166 ?_
      refine lv_istore (lv' := [(7, .int (y2 + q2)), (0, .ref (va 0)), (1, .int v1), (2, .int v2), (3, .int v3), (4, .int v4), (5, .int v5), (8, .int v8)]) hx hb dX9_toasts_167 hl (by decide) rfl (fun ls hl => ?_)
      refine lv_aload_n hx hb dX9_toasts_169 rfl (lv_at hl 1 rfl) ?_
      refine va_get (D := D) (ci := 7) (v := .ref (va 1)) (C := RX9) (T := TX9) (N := 53) hx hb hts in9 hown hG.1 hP 0 rfl rfl 1 (by decide) (hts (.fieldLink RX9 9 "ChairCaneModel" "scalar" "[I") (mem_b bq_wsX9_toasts 0 3 rfl)) (fun _ h9 => h9) rfl dX9_toasts_170 ?_
      refine lv_bipush (v := 6) hx hb dX9_toasts_173 (by decide) ?_
      refine va_iald hx hb hG.1 hP 1 0 rfl rfl (by unfold vp_in; decide) dX9_toasts_175 ?_
      refine lv_istore (lv' := [(6, .int ((mo.2.1 1) (Int32.toNatClampNeg 6))), (7, .int (y2 + q2)), (0, .ref (va 0)), (1, .int v1), (2, .int v2), (3, .int v3), (4, .int v4), (5, .int v5), (8, .int v8)]) hx hb dX9_toasts_176 hl (by decide) rfl (fun ls hl => ?_)
      refine lv_aload_n hx hb dX9_toasts_178 rfl (lv_at hl 2 rfl) ?_
      refine fw_Vv (As := []) (rest := []) (n := 0) (wr := []) (wp := fun b : OB => moW k va b) h hx hb hml hown hts hG hA hP hD hS hl.1 (List.range (moW k va mo).length) [] (fun q hq9 => c_X9_laysBack l D k _  va F  mo  hq9) (ci := 7) (q0 := 0) rfl rfl gX9_toasts_X9_laysBack rfl ⟨rfl, rfl, Nat.le_of_ble_eq_true rfl, Nat.le_of_ble_eq_true rfl⟩ (by decide +kernel) (al_C _) rfl (al_n _) ⟨rfl, rfl, Nat.le_of_ble_eq_true rfl, Nat.le_of_ble_eq_true rfl, Nat.le_of_ble_eq_true rfl⟩ dX9_toasts_179 (fun q3 H locs h hP hD hS => ?_)
      obtain ⟨hP, hD⟩ := cv (w' := moW k va q3) hP hD rfl
      refine lv_iinc (v := (v8 + 1)) (lv' := [(8, .int (v8 + 1)), (6, .int ((mo.2.1 1) (Int32.toNatClampNeg 6))), (7, .int (y2 + q2)), (0, .ref (va 0)), (1, .int v1), (2, .int v2), (3, .int v3), (4, .int v4), (5, .int v5)]) hx hb dX9_toasts_182 hl (k := 8) rfl rfl (by decide) rfl (fun ls hl => ?_)
      refine lv_goto (tgt := 79) hx hb dX9_toasts_185 (by decide) ?_
      exact hc79 _ _ _ _ _ _ _ _ _ h _ _ _ hP hD hS (lv_sub hl [3, 4, 5, 6, 7, 8, 1, 2, 0] rfl)
    have B97 : ∀ a97 : (Int32 × Int32 × Int32 × Int32 × Int32 × Int32 × Int32 × Int32 × OB), lp (b_X9_toasts_97 F k79) F a97 = some res → ∀ (H : Heap) (locs : List Loc) (ls : Array Slot), va_P D vwCl (moW k va a97.2.2.2.2.2.2.2.2) H → va_D A (moW k va a97.2.2.2.2.2.2.2.2) → va_S A s.heap H locs → lv_has ls 10 [(0, .ref (va 0)), (1, .int a97.1), (2, .int a97.2.1), (3, .int a97.2.2.1), (4, .int a97.2.2.2.1), (5, .int a97.2.2.2.2.1), (7, .int a97.2.2.2.2.2.1), (8, .int a97.2.2.2.2.2.2.1), (9, .int a97.2.2.2.2.2.2.2.1)] → W p l e (rmK 7 0 0) s m (List.toArray [.ref (va 0), .int x1, .int x2, .int x3, .int x4]) below meth c H locs 0 0 (MQ below (va_Qi (fun r (_ : Unit) => r = res.1) (hcB D (fun _ : Unit => moW k va res.2) A) A) (List.toArray [.ref (va 0), .int x1, .int x2, .int x3, .int x4]) s 0 0 A) (F0 m 97 ls []) := by
      refine lp_W ?_ F
      intro k97 hk97 a97 h H locs ls hP hD hS hl
      have hc97 : ∀ (v1 : Int32) (v2 : Int32) (v3 : Int32) (v4 : Int32) (v5 : Int32) (v7 : Int32) (v8 : Int32) (v9 : Int32) (mo : OB), k97 (v1, v2, v3, v4, v5, v7, v8, v9, mo) = some res → ∀ (H : Heap) (locs : List Loc) (ls : Array Slot), va_P D vwCl (moW k va mo) H → va_D A (moW k va mo) → va_S A s.heap H locs → lv_has ls 10 [(0, .ref (va 0)), (1, .int v1), (2, .int v2), (3, .int v3), (4, .int v4), (5, .int v5), (7, .int v7), (8, .int v8), (9, .int v9)] → W p l e (rmK 7 0 0) s m (List.toArray [.ref (va 0), .int x1, .int x2, .int x3, .int x4]) below meth c H locs 0 0 (MQ below (va_Qi (fun r (_ : Unit) => r = res.1) (hcB D (fun _ : Unit => moW k va res.2) A) A) (List.toArray [.ref (va 0), .int x1, .int x2, .int x3, .int x4]) s 0 0 A) (F0 m 97 ls []) := fun v1 v2 v3 v4 v5 v7 v8 v9 mo => hk97 (v1, v2, v3, v4, v5, v7, v8, v9, mo)
      have B136 : ∀ (v1 : Int32) (v2 : Int32) (v3 : Int32) (v4 : Int32) (v5 : Int32) (v7 : Int32) (v8 : Int32) (v9 : Int32) (mo : OB) (H : Heap) (locs : List Loc) (ls : Array Slot), b_X9_toasts_136 F k79 k97 v1 v2 v3 v4 v5 v7 v8 v9 mo = some res → va_P D vwCl (moW k va mo) H → va_D A (moW k va mo) → va_S A s.heap H locs → lv_has ls 10 [(0, .ref (va 0)), (1, .int v1), (2, .int v2), (3, .int v3), (4, .int v4), (5, .int v5), (7, .int v7), (8, .int v8), (9, .int v9)] → W p l e (rmK 7 0 0) s m (List.toArray [.ref (va 0), .int x1, .int x2, .int x3, .int x4]) below meth c H locs 0 0 (MQ below (va_Qi (fun r (_ : Unit) => r = res.1) (hcB D (fun _ : Unit => moW k va res.2) A) A) (List.toArray [.ref (va 0), .int x1, .int x2, .int x3, .int x4]) s 0 0 A) (F0 m 136 ls []) := by
        intro v1 v2 v3 v4 v5 v7 v8 v9 mo H locs ls h hP hD hS hl
        refine lv_aload_n hx hb dX9_toasts_136 rfl (lv_at hl 0 rfl) ?_
        refine fw_Vi (As := []) (rest := []) (n := 0) (wr := []) (rv := fun b : Int32 × OB => b.1) (wp := fun b : Int32 × OB => moW k va b.2) h hx hb hml hown hts hG hA hP hD hS hl.1 (List.range (moW k va mo).length) [] (fun q hq9 => c_X9_goes l D k _  va F  mo  hq9) (ci := 7) (q0 := 0) rfl rfl gX9_toasts_X9_goes rfl ⟨rfl, rfl, Nat.le_of_ble_eq_true rfl, Nat.le_of_ble_eq_true rfl⟩ (by decide +kernel) (al_C _) rfl (al_n _) ⟨rfl, rfl, Nat.le_of_ble_eq_true rfl, Nat.le_of_ble_eq_true rfl, Nat.le_of_ble_eq_true rfl⟩ dX9_toasts_137 (fun q4 H locs h hP hD hS => ?_)
        obtain ⟨hP, hD⟩ := cv (w' := moW k va q4.2) hP hD rfl
        refine hc_is (z := q4.1) rfl ?_
        refine lv_pop hx hb dX9_toasts_140 rfl ?_
        refine lv_iinc (v := (v9 + 1)) (lv' := [(9, .int (v9 + 1)), (0, .ref (va 0)), (1, .int v1), (2, .int v2), (3, .int v3), (4, .int v4), (5, .int v5), (7, .int v7), (8, .int v8)]) hx hb dX9_toasts_141 hl (k := 8) rfl rfl (by decide) rfl (fun ls hl => ?_)
        refine lv_goto (tgt := 97) hx hb dX9_toasts_144 (by decide) ?_
        exact hc97 _ _ _ _ _ _ _ _ _ h _ _ _ hP hD hS (lv_sub hl [1, 2, 3, 4, 5, 6, 7, 8, 0] rfl)
      refine lv_iload hx hb dX9_toasts_97 (lv_at hl 8 rfl) ?_
      refine lv_iload_n hx hb dX9_toasts_99 rfl (lv_at hl 2 rfl) ?_
      refine lv_icmp_ge (tgt := 147) hx hb dX9_toasts_100 (by decide) (fun c5 => ?_) (fun c5 => ?_)
      · have h := fw_t c5 h
        refine lv_iload hx hb dX9_toasts_147 (lv_at hl 6 rfl) ?_
        refine lv_aload_n hx hb dX9_toasts_149 rfl (lv_at hl 0 rfl) ?_
        refine lv_iload hx hb dX9_toasts_150 (lv_at hl 4 rfl) ?_
        refine lv_if_ne (tgt := 159) hx hb dX9_toasts_152 (by decide) (fun c6 => ?_) (fun c6 => ?_)
        · have h := fw_f c6 h
          refine lv_iconst (v := 1) hx hb dX9_toasts_159 (by decide) ?_
          exact B160 _ _ _ _ _ _ _ _ _ _ _ _ h hP hD hS (lv_sub hl [0, 1, 2, 3, 4, 5, 7] rfl)
        · have h := fw_t c6 h
          refine lv_iconst (v := 2) hx hb dX9_toasts_155 (by decide) ?_
          refine lv_goto (tgt := 160) hx hb dX9_toasts_156 (by decide) ?_
          exact B160 _ _ _ _ _ _ _ _ _ _ _ _ h hP hD hS (lv_sub hl [0, 1, 2, 3, 4, 5, 7] rfl)
      · have h := fw_f c5 h
        refine lv_aload_n hx hb dX9_toasts_103 rfl (lv_at hl 0 rfl) ?_
        refine lv_bipush (v := 100) hx hb dX9_toasts_104 (by decide) ?_
        refine fw_Vi (As := [.int 100]) (rest := []) (n := 1) (wr := []) (rv := fun b : Int32 × OB => b.1) (wp := fun b : Int32 × OB => moW k va b.2) h hx hb hml hown hts hG hA hP hD hS hl.1 (List.range (moW k va a97.2.2.2.2.2.2.2.2).length) [] (fun q hq9 => c_X9_draws l D k _  va F 100 a97.2.2.2.2.2.2.2.2  hq9) (ci := 7) (q0 := 0) rfl rfl gX9_toasts_X9_draws rfl ⟨rfl, rfl, Nat.le_of_ble_eq_true rfl, Nat.le_of_ble_eq_true rfl⟩ (by decide +kernel) (al_C _) rfl (al_n _) ⟨rfl, rfl, Nat.le_of_ble_eq_true rfl, Nat.le_of_ble_eq_true rfl, Nat.le_of_ble_eq_true rfl⟩ dX9_toasts_106 (fun q7 H locs h hP hD hS => ?_)
        obtain ⟨hP, hD⟩ := cv (w' := moW k va q7.2) hP hD rfl
        refine hc_is (z := q7.1) rfl ?_
        refine lv_iload_n hx hb dX9_toasts_109 rfl (lv_at hl 3 rfl) ?_
        refine lv_icmp_ge (tgt := 136) hx hb dX9_toasts_110 (by decide) (fun c8 => ?_) (fun c8 => ?_)
        · have h := fw_t c8 h
          exact B136 _ _ _ _ _ _ _ _ _ _ _ _ h hP hD hS hl
        · have h := fw_f c8 h
          refine lv_aload_n hx hb dX9_toasts_113 rfl (lv_at hl 0 rfl) ?_
          refine va_get (D := D) (ci := 7) (v := .ref (va 1)) (C := RX9) (T := TX9) (N := 53) hx hb hts in9 hown hG.1 hP 0 rfl rfl 1 (by decide) (hts (.fieldLink RX9 9 "ChairCaneModel" "scalar" "[I") (mem_b bq_wsX9_toasts 0 3 rfl)) (fun _ h9 => h9) rfl dX9_toasts_114 ?_
          refine lv_iconst (v := 3) hx hb dX9_toasts_117 (by decide) ?_
          refine va_iald hx hb hG.1 hP 1 0 rfl rfl (by unfold vp_in; decide) dX9_toasts_118 ?_
          refine lv_if_le (tgt := 136) hx hb dX9_toasts_119 (by decide) (fun c9 => ?_) (fun c9 => ?_)
          · have h := fw_t c9 h
            exact B136 _ _ _ _ _ _ _ _ _ _ _ _ h hP hD hS hl
          · have h := fw_f c9 h
            refine lv_aload_n hx hb dX9_toasts_122 rfl (lv_at hl 0 rfl) ?_
            refine lv_aload_n hx hb dX9_toasts_123 rfl (lv_at hl 0 rfl) ?_
            refine lv_aload_n hx hb dX9_toasts_124 rfl (lv_at hl 0 rfl) ?_
            refine va_get (D := D) (ci := 7) (v := .ref (va 1)) (C := RX9) (T := TX9) (N := 53) hx hb hts in9 hown hG.1 hP 0 rfl rfl 1 (by decide) (hts (.fieldLink RX9 9 "ChairCaneModel" "scalar" "[I") (mem_b bq_wsX9_toasts 0 3 rfl)) (fun _ h9 => h9) rfl dX9_toasts_125 ?_
            refine lv_iconst (v := 3) hx hb dX9_toasts_128 (by decide) ?_
            refine va_iald hx hb hG.1 hP 1 0 rfl rfl (by unfold vp_in; decide) dX9_toasts_129 ?_
            refine fw_Vi (As := [.int ((q7.2.2.1 1) (Int32.toNatClampNeg 3))]) (rest := [.ref (va 0)]) (n := 1) (wr := []) (rv := fun b : Int32 × OB => b.1) (wp := fun b : Int32 × OB => moW k va b.2) h hx hb hml hown hts hG hA hP hD hS hl.1 (List.range (moW k va q7.2).length) [] (fun q hq9 => c_X9_draws l D k _  va F ((q7.2.2.1 1) (Int32.toNatClampNeg 3)) q7.2  hq9) (ci := 7) (q0 := 0) rfl rfl gX9_toasts_X9_draws rfl ⟨rfl, rfl, Nat.le_of_ble_eq_true rfl, Nat.le_of_ble_eq_true rfl⟩ (by decide +kernel) (al_C _) rfl (al_n _) ⟨rfl, rfl, Nat.le_of_ble_eq_true rfl, Nat.le_of_ble_eq_true rfl, Nat.le_of_ble_eq_true rfl⟩ dX9_toasts_130 (fun q10 H locs h hP hD hS => ?_)
            obtain ⟨hP, hD⟩ := cv (w' := moW k va q10.2) hP hD rfl
            refine hc_is (z := q10.1) rfl ?_
            refine fw_Vv (As := [.int q10.1]) (rest := []) (n := 1) (wr := []) (wp := fun b : OB => moW k va b) h hx hb hml hown hts hG hA hP hD hS hl.1 (List.range (moW k va q10.2).length) [] (fun q hq9 => c_X9_toastOf l D k _  va F q10.1 q10.2  hq9) (ci := 7) (q0 := 0) rfl rfl gX9_toasts_X9_toastOf rfl ⟨rfl, rfl, Nat.le_of_ble_eq_true rfl, Nat.le_of_ble_eq_true rfl⟩ (by decide +kernel) (al_C _) rfl (al_n _) ⟨rfl, rfl, Nat.le_of_ble_eq_true rfl, Nat.le_of_ble_eq_true rfl, Nat.le_of_ble_eq_true rfl⟩ dX9_toasts_133 (fun q11 H locs h hP hD hS => ?_)
            obtain ⟨hP, hD⟩ := cv (w' := moW k va q11) hP hD rfl
            exact B136 _ _ _ _ _ _ _ _ _ _ _ _ h hP hD hS hl
    have C97 : ∀ (v1 : Int32) (v2 : Int32) (v3 : Int32) (v4 : Int32) (v5 : Int32) (v7 : Int32) (v8 : Int32) (v9 : Int32) (mo : OB), lp (b_X9_toasts_97 F k79) F (v1, v2, v3, v4, v5, v7, v8, v9, mo) = some res → ∀ (H : Heap) (locs : List Loc) (ls : Array Slot), va_P D vwCl (moW k va mo) H → va_D A (moW k va mo) → va_S A s.heap H locs → lv_has ls 10 [(0, .ref (va 0)), (1, .int v1), (2, .int v2), (3, .int v3), (4, .int v4), (5, .int v5), (7, .int v7), (8, .int v8), (9, .int v9)] → W p l e (rmK 7 0 0) s m (List.toArray [.ref (va 0), .int x1, .int x2, .int x3, .int x4]) below meth c H locs 0 0 (MQ below (va_Qi (fun r (_ : Unit) => r = res.1) (hcB D (fun _ : Unit => moW k va res.2) A) A) (List.toArray [.ref (va 0), .int x1, .int x2, .int x3, .int x4]) s 0 0 A) (F0 m 97 ls []) := fun v1 v2 v3 v4 v5 v7 v8 v9 mo => B97 (v1, v2, v3, v4, v5, v7, v8, v9, mo)
    refine lv_iload hx hb dX9_toasts_79 (lv_at hl 8 rfl) ?_
    refine lv_iload_n hx hb dX9_toasts_81 rfl (lv_at hl 1 rfl) ?_
    refine lv_icmp_ge (tgt := 188) hx hb dX9_toasts_82 (by decide) (fun c12 => ?_) (fun c12 => ?_)
    · have h := fw_t c12 h
      refine lv_aload_n hx hb dX9_toasts_188 rfl (lv_at hl 0 rfl) ?_
      refine va_get (D := D) (ci := 7) (v := .ref (va 1)) (C := RX9) (T := TX9) (N := 53) hx hb hts in9 hown hG.1 hP 0 rfl rfl 1 (by decide) (hts (.fieldLink RX9 9 "ChairCaneModel" "scalar" "[I") (mem_b bq_wsX9_toasts 0 3 rfl)) (fun _ h9 => h9) rfl dX9_toasts_189 ?_
      refine lv_bipush (v := 6) hx hb dX9_toasts_192 (by decide) ?_
      refine lv_iload hx hb dX9_toasts_194 (lv_at hl 5 rfl) ?_
      refine va_iast hx hb hG.1 hP hD hS 1 0 rfl rfl (by unfold vp_in; decide) dX9_toasts_196 (fun H locs hP hD hS => ?_)
      refine lv_iload hx hb dX9_toasts_197 (lv_at hl 7 rfl) ?_
      exact fw_endI (rv := fun b : Int32 × OB => b.1) (wp := fun b : Int32 × OB => moW k va b.2) hx hb hr hlocks h rfl hP hD hS dX9_toasts_199
    · have h := fw_f c12 h
      refine lv_aload_n hx hb dX9_toasts_85 rfl (lv_at hl 0 rfl) ?_
      refine va_get (D := D) (ci := 7) (v := .ref (va 1)) (C := RX9) (T := TX9) (N := 53) hx hb hts in9 hown hG.1 hP 0 rfl rfl 1 (by decide) (hts (.fieldLink RX9 9 "ChairCaneModel" "scalar" "[I") (mem_b bq_wsX9_toasts 0 3 rfl)) (fun _ h9 => h9) rfl dX9_toasts_86 ?_
      refine lv_bipush (v := 6) hx hb dX9_toasts_89 (by decide) ?_
      refine lv_iload hx hb dX9_toasts_91 (lv_at hl 6 rfl) ?_
      refine va_iast hx hb hG.1 hP hD hS 1 0 rfl rfl (by unfold vp_in; decide) dX9_toasts_93 (fun H locs hP hD hS => ?_)
      refine lv_iconst (v := 0) hx hb dX9_toasts_94 (by decide) ?_
      refine lv_istore (lv' := [(9, .int 0), (0, .ref (va 0)), (1, .int a79.1), (2, .int a79.2.1), (3, .int a79.2.2.1), (4, .int a79.2.2.2.1), (5, .int a79.2.2.2.2.1), (6, .int a79.2.2.2.2.2.1), (7, .int a79.2.2.2.2.2.2.1), (8, .int a79.2.2.2.2.2.2.2.1)]) hx hb dX9_toasts_95 hl (by decide) rfl (fun ls hl => ?_)
      exact C97 _ _ _ _ _ _ _ _ _ h _ _ _ hP hD hS (lv_sub hl [1, 2, 3, 4, 5, 6, 8, 9, 0] rfl)
  have C79 : ∀ (v1 : Int32) (v2 : Int32) (v3 : Int32) (v4 : Int32) (v5 : Int32) (v6 : Int32) (v7 : Int32) (v8 : Int32) (mo : OB), lp (b_X9_toasts_79 F) F (v1, v2, v3, v4, v5, v6, v7, v8, mo) = some res → ∀ (H : Heap) (locs : List Loc) (ls : Array Slot), va_P D vwCl (moW k va mo) H → va_D A (moW k va mo) → va_S A s.heap H locs → lv_has ls 10 [(0, .ref (va 0)), (1, .int v1), (2, .int v2), (3, .int v3), (4, .int v4), (5, .int v5), (6, .int v6), (7, .int v7), (8, .int v8)] → W p l e (rmK 7 0 0) s m (List.toArray [.ref (va 0), .int x1, .int x2, .int x3, .int x4]) below meth c H locs 0 0 (MQ below (va_Qi (fun r (_ : Unit) => r = res.1) (hcB D (fun _ : Unit => moW k va res.2) A) A) (List.toArray [.ref (va 0), .int x1, .int x2, .int x3, .int x4]) s 0 0 A) (F0 m 79 ls []) := fun v1 v2 v3 v4 v5 v6 v7 v8 mo => B79 (v1, v2, v3, v4, v5, v6, v7, v8, mo)
  refine lv_aload_n hx hb dX9_toasts_0 rfl (lv_at hl 0 rfl) ?_
  refine fw_Vi (As := []) (rest := []) (n := 0) (wr := []) (rv := fun b : Int32 => b) (wp := fun b : Int32 => moW k va mo) h hx hb hml hown hts hG hA hP hD hS hl.1 (List.range (moW k va mo).length) [] (fun q hq9 => c_X9_isHall l D k _  va F  mo  hq9) (ci := 7) (q0 := 0) rfl rfl gX9_toasts_X9_isHall rfl ⟨rfl, rfl, Nat.le_of_ble_eq_true rfl, Nat.le_of_ble_eq_true rfl⟩ (by decide +kernel) (al_C _) rfl (al_n _) ⟨rfl, rfl, Nat.le_of_ble_eq_true rfl, Nat.le_of_ble_eq_true rfl, Nat.le_of_ble_eq_true rfl⟩ dX9_toasts_1 (fun q13 H locs h hP hD hS => ?_)
  obtain ⟨hP, hD⟩ := cv (w' := moW k va mo) hP hD rfl
  refine hc_is (z := q13) rfl ?_
  refine lv_if_eq (tgt := 54) hx hb dX9_toasts_4 (by decide) (fun c14 => ?_) (fun c14 => ?_)
  · have h := fw_t c14 h
    exact B54 _ _ _ _ h hP hD hS (lv_sub hl [] rfl)
  · have h := fw_f c14 h
    refine lv_iload_n hx hb dX9_toasts_7 rfl (lv_at hl 1 rfl) ?_
    refine lv_i2l hx hb dX9_toasts_8 rfl ?_
    refine lv_lconst (v := 1) hx hb dX9_toasts_9 (by decide) ?_
    refine lv_ldc2 (v := 10) hx hb hown (hts (.constantLong RX9 475 (10)) (mem_b bq_wsX9_toasts 0 0 rfl)) dX9_toasts_10 ?_
    refine fw_Si (As := [.long (Int32.toInt64 x1), .long 1, .long 10]) (rest := []) (n := 3) (wr := moW k va mo) (rv := fun b : Int32 => b) (wp := fun b : Int32 => []) h hx hb hml hown hts hG hA hP hD hS hl.1 [] (List.range (moW k va mo).length) (fun q hq9 => c_X9_in l D k _   F (Int32.toInt64 x1) 1 10   hq9) gX9_toasts_X9_in rfl ⟨rfl, rfl, Nat.le_of_ble_eq_true rfl, Nat.le_of_ble_eq_true rfl⟩ (by decide +kernel) rfl (al_C _) (al_m _) ⟨rfl, rfl, Nat.le_of_ble_eq_true rfl, Nat.le_of_ble_eq_true rfl, Nat.le_of_ble_eq_true rfl⟩ dX9_toasts_13 (fun q15 H locs h hP hD hS => ?_)
    obtain ⟨hP, hD⟩ := cv (w' := (moW k va mo) ++ []) hP hD rfl
    rw [List.append_nil] at hP hD
    refine hc_is (z := q15) rfl ?_
    refine lv_if_eq (tgt := 54) hx hb dX9_toasts_16 (by decide) (fun c16 => ?_) (fun c16 => ?_)
    · have h := fw_t c16 h
      exact B54 _ _ _ _ h hP hD hS (lv_sub hl [] rfl)
    · have h := fw_f c16 h
      refine lv_iload_n hx hb dX9_toasts_19 rfl (lv_at hl 2 rfl) ?_
      refine lv_i2l hx hb dX9_toasts_20 rfl ?_
      refine lv_lconst (v := 1) hx hb dX9_toasts_21 (by decide) ?_
      refine lv_ldc2 (v := 60) hx hb hown (hts (.constantLong RX9 457 (60)) (mem_b bq_wsX9_toasts 0 1 rfl)) dX9_toasts_22 ?_
      refine fw_Si (As := [.long (Int32.toInt64 x2), .long 1, .long 60]) (rest := []) (n := 3) (wr := moW k va mo) (rv := fun b : Int32 => b) (wp := fun b : Int32 => []) h hx hb hml hown hts hG hA hP hD hS hl.1 [] (List.range (moW k va mo).length) (fun q hq9 => c_X9_in l D k _   F (Int32.toInt64 x2) 1 60   hq9) gX9_toasts_X9_in rfl ⟨rfl, rfl, Nat.le_of_ble_eq_true rfl, Nat.le_of_ble_eq_true rfl⟩ (by decide +kernel) rfl (al_C _) (al_m _) ⟨rfl, rfl, Nat.le_of_ble_eq_true rfl, Nat.le_of_ble_eq_true rfl, Nat.le_of_ble_eq_true rfl⟩ dX9_toasts_25 (fun q17 H locs h hP hD hS => ?_)
      obtain ⟨hP, hD⟩ := cv (w' := (moW k va mo) ++ []) hP hD rfl
      rw [List.append_nil] at hP hD
      refine hc_is (z := q17) rfl ?_
      refine lv_if_eq (tgt := 54) hx hb dX9_toasts_28 (by decide) (fun c18 => ?_) (fun c18 => ?_)
      · have h := fw_t c18 h
        exact B54 _ _ _ _ h hP hD hS (lv_sub hl [] rfl)
      · have h := fw_f c18 h
        refine lv_iload_n hx hb dX9_toasts_31 rfl (lv_at hl 3 rfl) ?_
        refine lv_i2l hx hb dX9_toasts_32 rfl ?_
        refine lv_lconst (v := 0) hx hb dX9_toasts_33 (by decide) ?_
        refine lv_ldc2 (v := 100) hx hb hown (hts (.constantLong RX9 418 (100)) (mem_b bq_wsX9_toasts 0 2 rfl)) dX9_toasts_34 ?_
        refine fw_Si (As := [.long (Int32.toInt64 x3), .long 0, .long 100]) (rest := []) (n := 3) (wr := moW k va mo) (rv := fun b : Int32 => b) (wp := fun b : Int32 => []) h hx hb hml hown hts hG hA hP hD hS hl.1 [] (List.range (moW k va mo).length) (fun q hq9 => c_X9_in l D k _   F (Int32.toInt64 x3) 0 100   hq9) gX9_toasts_X9_in rfl ⟨rfl, rfl, Nat.le_of_ble_eq_true rfl, Nat.le_of_ble_eq_true rfl⟩ (by decide +kernel) rfl (al_C _) (al_m _) ⟨rfl, rfl, Nat.le_of_ble_eq_true rfl, Nat.le_of_ble_eq_true rfl, Nat.le_of_ble_eq_true rfl⟩ dX9_toasts_37 (fun q19 H locs h hP hD hS => ?_)
        obtain ⟨hP, hD⟩ := cv (w' := (moW k va mo) ++ []) hP hD rfl
        rw [List.append_nil] at hP hD
        refine hc_is (z := q19) rfl ?_
        refine lv_if_eq (tgt := 54) hx hb dX9_toasts_40 (by decide) (fun c20 => ?_) (fun c20 => ?_)
        · have h := fw_t c20 h
          exact B54 _ _ _ _ h hP hD hS (lv_sub hl [] rfl)
        · have h := fw_f c20 h
          refine lv_iload hx hb dX9_toasts_43 (lv_at hl 4 rfl) ?_
          refine lv_i2l hx hb dX9_toasts_45 rfl ?_
          refine lv_lconst (v := 0) hx hb dX9_toasts_46 (by decide) ?_
          refine lv_lconst (v := 1) hx hb dX9_toasts_47 (by decide) ?_
          refine fw_Si (As := [.long (Int32.toInt64 x4), .long 0, .long 1]) (rest := []) (n := 3) (wr := moW k va mo) (rv := fun b : Int32 => b) (wp := fun b : Int32 => []) h hx hb hml hown hts hG hA hP hD hS hl.1 [] (List.range (moW k va mo).length) (fun q hq9 => c_X9_in l D k _   F (Int32.toInt64 x4) 0 1   hq9) gX9_toasts_X9_in rfl ⟨rfl, rfl, Nat.le_of_ble_eq_true rfl, Nat.le_of_ble_eq_true rfl⟩ (by decide +kernel) rfl (al_C _) (al_m _) ⟨rfl, rfl, Nat.le_of_ble_eq_true rfl, Nat.le_of_ble_eq_true rfl, Nat.le_of_ble_eq_true rfl⟩ dX9_toasts_48 (fun q21 H locs h hP hD hS => ?_)
          obtain ⟨hP, hD⟩ := cv (w' := (moW k va mo) ++ []) hP hD rfl
          rw [List.append_nil] at hP hD
          refine hc_is (z := q21) rfl ?_
          refine lv_if_ne (tgt := 56) hx hb dX9_toasts_51 (by decide) (fun c22 => ?_) (fun c22 => ?_)
          · have h := fw_f c22 h
            refine lv_aload_n hx hb dX9_toasts_56 rfl (lv_at hl 0 rfl) ?_
            refine va_get (D := D) (ci := 7) (v := .ref (va 1)) (C := RX9) (T := TX9) (N := 53) hx hb hts in9 hown hG.1 hP 0 rfl rfl 1 (by decide) (hts (.fieldLink RX9 9 "ChairCaneModel" "scalar" "[I") (mem_b bq_wsX9_toasts 0 3 rfl)) (fun _ h9 => h9) rfl dX9_toasts_57 ?_
            refine lv_bipush (v := 6) hx hb dX9_toasts_60 (by decide) ?_
            refine va_iald hx hb hG.1 hP 1 0 rfl rfl (by unfold vp_in; decide) dX9_toasts_62 ?_
            refine lv_istore (lv' := [(5, .int ((mo.2.1 1) (Int32.toNatClampNeg 6))), (0, .ref (va 0)), (1, .int x1), (2, .int x2), (3, .int x3), (4, .int x4)]) hx hb dX9_toasts_63 hl (by decide) rfl (fun ls hl => ?_)
            refine lv_iload hx hb dX9_toasts_65 (lv_at hl 0 rfl) ?_
            refine lv_istore (lv' := [(6, .int ((mo.2.1 1) (Int32.toNatClampNeg 6))), (5, .int ((mo.2.1 1) (Int32.toNatClampNeg 6))), (0, .ref (va 0)), (1, .int x1), (2, .int x2), (3, .int x3), (4, .int x4)]) hx hb dX9_toasts_67 hl (by decide) rfl (fun ls hl => ?_)
            refine lv_iconst (v := 0) hx hb dX9_toasts_69 (by decide) ?_
            refine lv_istore (lv' := [(7, .int 0), (6, .int ((mo.2.1 1) (Int32.toNatClampNeg 6))), (5, .int ((mo.2.1 1) (Int32.toNatClampNeg 6))), (0, .ref (va 0)), (1, .int x1), (2, .int x2), (3, .int x3), (4, .int x4)]) hx hb dX9_toasts_70 hl (by decide) rfl (fun ls hl => ?_)
            refine lv_aload_n hx hb dX9_toasts_72 rfl (lv_at hl 3 rfl) ?_
            refine fw_Vv (As := []) (rest := []) (n := 0) (wr := []) (wp := fun b : OB => moW k va b) h hx hb hml hown hts hG hA hP hD hS hl.1 (List.range (moW k va mo).length) [] (fun q hq9 => c_X9_keepsAll l D k _  va F  mo  hq9) (ci := 7) (q0 := 0) rfl rfl gX9_toasts_X9_keepsAll rfl ⟨rfl, rfl, Nat.le_of_ble_eq_true rfl, Nat.le_of_ble_eq_true rfl⟩ (by decide +kernel) (al_C _) rfl (al_n _) ⟨rfl, rfl, Nat.le_of_ble_eq_true rfl, Nat.le_of_ble_eq_true rfl, Nat.le_of_ble_eq_true rfl⟩ dX9_toasts_73 (fun q23 H locs h hP hD hS => ?_)
            obtain ⟨hP, hD⟩ := cv (w' := moW k va q23) hP hD rfl
            refine lv_iconst (v := 0) hx hb dX9_toasts_76 (by decide) ?_
            refine lv_istore (lv' := [(8, .int 0), (7, .int 0), (6, .int ((mo.2.1 1) (Int32.toNatClampNeg 6))), (5, .int ((mo.2.1 1) (Int32.toNatClampNeg 6))), (0, .ref (va 0)), (1, .int x1), (2, .int x2), (3, .int x3), (4, .int x4)]) hx hb dX9_toasts_77 hl (by decide) rfl (fun ls hl => ?_)
            exact C79 _ _ _ _ _ _ _ _ _ h _ _ _ hP hD hS (lv_sub hl [4, 5, 6, 7, 8, 3, 2, 1, 0] rfl)
          · have h := fw_t c22 h
            exact B54 _ _ _ _ h hP hD hS (lv_sub hl [] rfl)
noncomputable def f_X9_count (F : Nat)  (x1 : Int32) (mo : OB) : Option (Int32) :=
  if x1 = 0 then (some ((mo.2.1 1) (Int32.toNatClampNeg 1))) else if x1 = 1 then (some ((mo.2.1 1) (Int32.toNatClampNeg 2))) else if x1 = 2 then (some ((mo.2.1 1) (Int32.toNatClampNeg 3))) else if x1 = 3 then (some (mo.1 22)) else if x1 = 4 then (some ((mo.2.1 1) (Int32.toNatClampNeg 7))) else if x1 = 5 then (some ((mo.2.1 1) (Int32.toNatClampNeg 4))) else if x1 = 6 then (Option.bind (f_X9_those F 1 mo) (fun q8 => (some q8))) else if x1 = 7 then (Option.bind (f_X9_those F 2 mo) (fun q10 => (some q10))) else if x1 = 8 then (Option.bind (f_X9_allGive F mo) (fun q12 => (some q12))) else if x1 = 9 then (some ((mo.2.1 1) (Int32.toNatClampNeg 5))) else if x1 = 10 then (some (mo.1 41)) else if x1 = 11 then (some ((mo.2.1 1) (Int32.toNatClampNeg 6))) else if x1 = 12 then (some (mo.1 18)) else (some (-1))
set_option maxHeartbeats 4000000 in
set_option maxRecDepth 100000 in
theorem c_X9_count (l : Launch) (D : va_G) (k : Nat → ClassId) (sz : Nat)  (va : Nat → Nat) (F : Nat)  (x1 : Int32) (mo : OB)  {res : Int32} (h : f_X9_count F x1 mo = some res) : CtI l yX9_count wsX9_count (rmK 6 0 0) [.ref (va 0), .int x1] D k sz (moW k va mo) (fun r (_ : Unit) => r = res) (fun _ : Unit => moW k va mo) 0 0 := by
  refine CtI.mk (cc := cX9_count) (maxL := 2) (ret := (some .int)) (by decide) rfl (Nat.le_of_ble_eq_true rfl) ?_
  intro p e s m below meth c A ls E hP hD hS hl
  obtain ⟨hx, hb, hr, hml, hown, hts, hlocks, hin, hG, hA⟩ := E
  have hown : s.vm.findClass RX9 = some m.cls := hown
  have in9 : ∀ w ∈ u_ws RX9 TX9 53, w ∈ wsX9_count := fun _ h => List.mem_cons_of_mem _ (List.mem_append_right _ h)
  have hl : lv_has ls 2 [(0, .ref (va 0)), (1, .int x1)] := hl
  refine lv_iload_n hx hb dX9_count_0 rfl (lv_at hl 1 rfl) ?_
  by_cases c1 : x1 = 0
  · have h := fw_t c1 h
    refine lv_tableIn (off := 67) (tgt := 68) hx hb dX9_count_1 (by rw [c1]; decide) (by rw [c1]; decide) (by rw [c1]; rfl) (by decide) ?_
    refine lv_aload_n hx hb dX9_count_68 rfl (lv_at hl 0 rfl) ?_
    refine va_get (D := D) (ci := 7) (v := .ref (va 1)) (C := RX9) (T := TX9) (N := 53) hx hb hts in9 hown hG.1 hP 0 rfl rfl 1 (by decide) (hts (.fieldLink RX9 9 "ChairCaneModel" "scalar" "[I") (mem_b bq_wsX9_count 0 0 rfl)) (fun _ h9 => h9) rfl dX9_count_69 ?_
    refine lv_iconst (v := 1) hx hb dX9_count_72 (by decide) ?_
    refine va_iald hx hb hG.1 hP 1 0 rfl rfl (by unfold vp_in; decide) dX9_count_73 ?_
    exact fw_endI (rv := fun b : Int32 => b) (wp := fun b : Int32 => moW k va mo) hx hb hr hlocks h rfl hP hD hS dX9_count_74
  have h := fw_f c1 h
  by_cases c2 : x1 = 1
  · have h := fw_t c2 h
    refine lv_tableIn (off := 74) (tgt := 75) hx hb dX9_count_1 (by rw [c2]; decide) (by rw [c2]; decide) (by rw [c2]; rfl) (by decide) ?_
    refine lv_aload_n hx hb dX9_count_75 rfl (lv_at hl 0 rfl) ?_
    refine va_get (D := D) (ci := 7) (v := .ref (va 1)) (C := RX9) (T := TX9) (N := 53) hx hb hts in9 hown hG.1 hP 0 rfl rfl 1 (by decide) (hts (.fieldLink RX9 9 "ChairCaneModel" "scalar" "[I") (mem_b bq_wsX9_count 0 0 rfl)) (fun _ h9 => h9) rfl dX9_count_76 ?_
    refine lv_iconst (v := 2) hx hb dX9_count_79 (by decide) ?_
    refine va_iald hx hb hG.1 hP 1 0 rfl rfl (by unfold vp_in; decide) dX9_count_80 ?_
    exact fw_endI (rv := fun b : Int32 => b) (wp := fun b : Int32 => moW k va mo) hx hb hr hlocks h rfl hP hD hS dX9_count_81
  have h := fw_f c2 h
  by_cases c3 : x1 = 2
  · have h := fw_t c3 h
    refine lv_tableIn (off := 81) (tgt := 82) hx hb dX9_count_1 (by rw [c3]; decide) (by rw [c3]; decide) (by rw [c3]; rfl) (by decide) ?_
    refine lv_aload_n hx hb dX9_count_82 rfl (lv_at hl 0 rfl) ?_
    refine va_get (D := D) (ci := 7) (v := .ref (va 1)) (C := RX9) (T := TX9) (N := 53) hx hb hts in9 hown hG.1 hP 0 rfl rfl 1 (by decide) (hts (.fieldLink RX9 9 "ChairCaneModel" "scalar" "[I") (mem_b bq_wsX9_count 0 0 rfl)) (fun _ h9 => h9) rfl dX9_count_83 ?_
    refine lv_iconst (v := 3) hx hb dX9_count_86 (by decide) ?_
    refine va_iald hx hb hG.1 hP 1 0 rfl rfl (by unfold vp_in; decide) dX9_count_87 ?_
    exact fw_endI (rv := fun b : Int32 => b) (wp := fun b : Int32 => moW k va mo) hx hb hr hlocks h rfl hP hD hS dX9_count_88
  have h := fw_f c3 h
  by_cases c4 : x1 = 3
  · have h := fw_t c4 h
    refine lv_tableIn (off := 88) (tgt := 89) hx hb dX9_count_1 (by rw [c4]; decide) (by rw [c4]; decide) (by rw [c4]; rfl) (by decide) ?_
    refine lv_aload_n hx hb dX9_count_89 rfl (lv_at hl 0 rfl) ?_
    refine va_get (D := D) (ci := 7) (v := .int (mo.1 22)) (C := RX9) (T := TX9) (N := 53) hx hb hts in9 hown hG.1 hP 0 rfl rfl 22 (by decide) (hts (.fieldLink RX9 312 "ChairCaneModel" "rules" "I") (mem_b bq_wsX9_count 0 1 rfl)) (fun _ h9 => h9) rfl dX9_count_90 ?_
    exact fw_endI (rv := fun b : Int32 => b) (wp := fun b : Int32 => moW k va mo) hx hb hr hlocks h rfl hP hD hS dX9_count_93
  have h := fw_f c4 h
  by_cases c5 : x1 = 4
  · have h := fw_t c5 h
    refine lv_tableIn (off := 93) (tgt := 94) hx hb dX9_count_1 (by rw [c5]; decide) (by rw [c5]; decide) (by rw [c5]; rfl) (by decide) ?_
    refine lv_aload_n hx hb dX9_count_94 rfl (lv_at hl 0 rfl) ?_
    refine va_get (D := D) (ci := 7) (v := .ref (va 1)) (C := RX9) (T := TX9) (N := 53) hx hb hts in9 hown hG.1 hP 0 rfl rfl 1 (by decide) (hts (.fieldLink RX9 9 "ChairCaneModel" "scalar" "[I") (mem_b bq_wsX9_count 0 0 rfl)) (fun _ h9 => h9) rfl dX9_count_95 ?_
    refine lv_bipush (v := 7) hx hb dX9_count_98 (by decide) ?_
    refine va_iald hx hb hG.1 hP 1 0 rfl rfl (by unfold vp_in; decide) dX9_count_100 ?_
    exact fw_endI (rv := fun b : Int32 => b) (wp := fun b : Int32 => moW k va mo) hx hb hr hlocks h rfl hP hD hS dX9_count_101
  have h := fw_f c5 h
  by_cases c6 : x1 = 5
  · have h := fw_t c6 h
    refine lv_tableIn (off := 101) (tgt := 102) hx hb dX9_count_1 (by rw [c6]; decide) (by rw [c6]; decide) (by rw [c6]; rfl) (by decide) ?_
    refine lv_aload_n hx hb dX9_count_102 rfl (lv_at hl 0 rfl) ?_
    refine va_get (D := D) (ci := 7) (v := .ref (va 1)) (C := RX9) (T := TX9) (N := 53) hx hb hts in9 hown hG.1 hP 0 rfl rfl 1 (by decide) (hts (.fieldLink RX9 9 "ChairCaneModel" "scalar" "[I") (mem_b bq_wsX9_count 0 0 rfl)) (fun _ h9 => h9) rfl dX9_count_103 ?_
    refine lv_iconst (v := 4) hx hb dX9_count_106 (by decide) ?_
    refine va_iald hx hb hG.1 hP 1 0 rfl rfl (by unfold vp_in; decide) dX9_count_107 ?_
    exact fw_endI (rv := fun b : Int32 => b) (wp := fun b : Int32 => moW k va mo) hx hb hr hlocks h rfl hP hD hS dX9_count_108
  have h := fw_f c6 h
  by_cases c7 : x1 = 6
  · have h := fw_t c7 h
    refine lv_tableIn (off := 108) (tgt := 109) hx hb dX9_count_1 (by rw [c7]; decide) (by rw [c7]; decide) (by rw [c7]; rfl) (by decide) ?_
    refine lv_aload_n hx hb dX9_count_109 rfl (lv_at hl 0 rfl) ?_
    refine lv_iconst (v := 1) hx hb dX9_count_110 (by decide) ?_
    refine fw_Vi (As := [.int 1]) (rest := []) (n := 1) (wr := []) (rv := fun b : Int32 => b) (wp := fun b : Int32 => moW k va mo) h hx hb hml hown hts hG hA hP hD hS hl.1 (List.range (moW k va mo).length) [] (fun q hq9 => c_X9_those l D k _  va F 1 mo  hq9) (ci := 7) (q0 := 0) rfl rfl gX9_count_X9_those rfl ⟨rfl, rfl, Nat.le_of_ble_eq_true rfl, Nat.le_of_ble_eq_true rfl⟩ (by decide +kernel) (al_C _) rfl (al_n _) ⟨rfl, rfl, Nat.le_of_ble_eq_true rfl, Nat.le_of_ble_eq_true rfl, Nat.le_of_ble_eq_true rfl⟩ dX9_count_111 (fun q8 H locs h hP hD hS => ?_)
    obtain ⟨hP, hD⟩ := cv (w' := moW k va mo) hP hD rfl
    refine hc_is (z := q8) rfl ?_
    exact fw_endI (rv := fun b : Int32 => b) (wp := fun b : Int32 => moW k va mo) hx hb hr hlocks h rfl hP hD hS dX9_count_114
  have h := fw_f c7 h
  by_cases c9 : x1 = 7
  · have h := fw_t c9 h
    refine lv_tableIn (off := 114) (tgt := 115) hx hb dX9_count_1 (by rw [c9]; decide) (by rw [c9]; decide) (by rw [c9]; rfl) (by decide) ?_
    refine lv_aload_n hx hb dX9_count_115 rfl (lv_at hl 0 rfl) ?_
    refine lv_iconst (v := 2) hx hb dX9_count_116 (by decide) ?_
    refine fw_Vi (As := [.int 2]) (rest := []) (n := 1) (wr := []) (rv := fun b : Int32 => b) (wp := fun b : Int32 => moW k va mo) h hx hb hml hown hts hG hA hP hD hS hl.1 (List.range (moW k va mo).length) [] (fun q hq9 => c_X9_those l D k _  va F 2 mo  hq9) (ci := 7) (q0 := 0) rfl rfl gX9_count_X9_those rfl ⟨rfl, rfl, Nat.le_of_ble_eq_true rfl, Nat.le_of_ble_eq_true rfl⟩ (by decide +kernel) (al_C _) rfl (al_n _) ⟨rfl, rfl, Nat.le_of_ble_eq_true rfl, Nat.le_of_ble_eq_true rfl, Nat.le_of_ble_eq_true rfl⟩ dX9_count_117 (fun q10 H locs h hP hD hS => ?_)
    obtain ⟨hP, hD⟩ := cv (w' := moW k va mo) hP hD rfl
    refine hc_is (z := q10) rfl ?_
    exact fw_endI (rv := fun b : Int32 => b) (wp := fun b : Int32 => moW k va mo) hx hb hr hlocks h rfl hP hD hS dX9_count_120
  have h := fw_f c9 h
  by_cases c11 : x1 = 8
  · have h := fw_t c11 h
    refine lv_tableIn (off := 120) (tgt := 121) hx hb dX9_count_1 (by rw [c11]; decide) (by rw [c11]; decide) (by rw [c11]; rfl) (by decide) ?_
    refine lv_aload_n hx hb dX9_count_121 rfl (lv_at hl 0 rfl) ?_
    refine fw_Vi (As := []) (rest := []) (n := 0) (wr := []) (rv := fun b : Int32 => b) (wp := fun b : Int32 => moW k va mo) h hx hb hml hown hts hG hA hP hD hS hl.1 (List.range (moW k va mo).length) [] (fun q hq9 => c_X9_allGive l D k _  va F  mo  hq9) (ci := 7) (q0 := 0) rfl rfl gX9_count_X9_allGive rfl ⟨rfl, rfl, Nat.le_of_ble_eq_true rfl, Nat.le_of_ble_eq_true rfl⟩ (by decide +kernel) (al_C _) rfl (al_n _) ⟨rfl, rfl, Nat.le_of_ble_eq_true rfl, Nat.le_of_ble_eq_true rfl, Nat.le_of_ble_eq_true rfl⟩ dX9_count_122 (fun q12 H locs h hP hD hS => ?_)
    obtain ⟨hP, hD⟩ := cv (w' := moW k va mo) hP hD rfl
    refine hc_is (z := q12) rfl ?_
    exact fw_endI (rv := fun b : Int32 => b) (wp := fun b : Int32 => moW k va mo) hx hb hr hlocks h rfl hP hD hS dX9_count_125
  have h := fw_f c11 h
  by_cases c13 : x1 = 9
  · have h := fw_t c13 h
    refine lv_tableIn (off := 125) (tgt := 126) hx hb dX9_count_1 (by rw [c13]; decide) (by rw [c13]; decide) (by rw [c13]; rfl) (by decide) ?_
    refine lv_aload_n hx hb dX9_count_126 rfl (lv_at hl 0 rfl) ?_
    refine va_get (D := D) (ci := 7) (v := .ref (va 1)) (C := RX9) (T := TX9) (N := 53) hx hb hts in9 hown hG.1 hP 0 rfl rfl 1 (by decide) (hts (.fieldLink RX9 9 "ChairCaneModel" "scalar" "[I") (mem_b bq_wsX9_count 0 0 rfl)) (fun _ h9 => h9) rfl dX9_count_127 ?_
    refine lv_iconst (v := 5) hx hb dX9_count_130 (by decide) ?_
    refine va_iald hx hb hG.1 hP 1 0 rfl rfl (by unfold vp_in; decide) dX9_count_131 ?_
    exact fw_endI (rv := fun b : Int32 => b) (wp := fun b : Int32 => moW k va mo) hx hb hr hlocks h rfl hP hD hS dX9_count_132
  have h := fw_f c13 h
  by_cases c14 : x1 = 10
  · have h := fw_t c14 h
    refine lv_tableIn (off := 132) (tgt := 133) hx hb dX9_count_1 (by rw [c14]; decide) (by rw [c14]; decide) (by rw [c14]; rfl) (by decide) ?_
    refine lv_aload_n hx hb dX9_count_133 rfl (lv_at hl 0 rfl) ?_
    refine va_get (D := D) (ci := 7) (v := .int (mo.1 41)) (C := RX9) (T := TX9) (N := 53) hx hb hts in9 hown hG.1 hP 0 rfl rfl 41 (by decide) (hts (.fieldLink RX9 299 "ChairCaneModel" "pastMany" "I") (mem_b bq_wsX9_count 0 2 rfl)) (fun _ h9 => h9) rfl dX9_count_134 ?_
    exact fw_endI (rv := fun b : Int32 => b) (wp := fun b : Int32 => moW k va mo) hx hb hr hlocks h rfl hP hD hS dX9_count_137
  have h := fw_f c14 h
  by_cases c15 : x1 = 11
  · have h := fw_t c15 h
    refine lv_tableIn (off := 137) (tgt := 138) hx hb dX9_count_1 (by rw [c15]; decide) (by rw [c15]; decide) (by rw [c15]; rfl) (by decide) ?_
    refine lv_aload_n hx hb dX9_count_138 rfl (lv_at hl 0 rfl) ?_
    refine va_get (D := D) (ci := 7) (v := .ref (va 1)) (C := RX9) (T := TX9) (N := 53) hx hb hts in9 hown hG.1 hP 0 rfl rfl 1 (by decide) (hts (.fieldLink RX9 9 "ChairCaneModel" "scalar" "[I") (mem_b bq_wsX9_count 0 0 rfl)) (fun _ h9 => h9) rfl dX9_count_139 ?_
    refine lv_bipush (v := 6) hx hb dX9_count_142 (by decide) ?_
    refine va_iald hx hb hG.1 hP 1 0 rfl rfl (by unfold vp_in; decide) dX9_count_144 ?_
    exact fw_endI (rv := fun b : Int32 => b) (wp := fun b : Int32 => moW k va mo) hx hb hr hlocks h rfl hP hD hS dX9_count_145
  have h := fw_f c15 h
  by_cases c16 : x1 = 12
  · have h := fw_t c16 h
    refine lv_tableIn (off := 145) (tgt := 146) hx hb dX9_count_1 (by rw [c16]; decide) (by rw [c16]; decide) (by rw [c16]; rfl) (by decide) ?_
    refine lv_aload_n hx hb dX9_count_146 rfl (lv_at hl 0 rfl) ?_
    refine va_get (D := D) (ci := 7) (v := .int (mo.1 18)) (C := RX9) (T := TX9) (N := 53) hx hb hts in9 hown hG.1 hP 0 rfl rfl 18 (by decide) (hts (.fieldLink RX9 135 "ChairCaneModel" "taped" "I") (mem_b bq_wsX9_count 0 3 rfl)) (fun _ h9 => h9) rfl dX9_count_147 ?_
    exact fw_endI (rv := fun b : Int32 => b) (wp := fun b : Int32 => moW k va mo) hx hb hr hlocks h rfl hP hD hS dX9_count_150
  have h := fw_f c16 h
  simp only [sp_eq, show (0 : Int32).toInt = 0 from by decide, show (1 : Int32).toInt = 1 from by decide, show (2 : Int32).toInt = 2 from by decide, show (3 : Int32).toInt = 3 from by decide, show (4 : Int32).toInt = 4 from by decide, show (5 : Int32).toInt = 5 from by decide, show (6 : Int32).toInt = 6 from by decide, show (7 : Int32).toInt = 7 from by decide, show (8 : Int32).toInt = 8 from by decide, show (9 : Int32).toInt = 9 from by decide, show (10 : Int32).toInt = 10 from by decide, show (11 : Int32).toInt = 11 from by decide, show (12 : Int32).toInt = 12 from by decide] at c1 c2 c3 c4 c5 c6 c7 c9 c11 c13 c14 c15 c16
  refine lv_tableOut (tgt := 151) hx hb dX9_count_1 (by omega) (by decide) ?_
  refine lv_iconst (v := (-1)) hx hb dX9_count_151 (by decide) ?_
  exact fw_endI (rv := fun b : Int32 => b) (wp := fun b : Int32 => moW k va mo) hx hb hr hlocks h rfl hP hD hS dX9_count_152
noncomputable def f_X9_image (F : Nat)  (x1 : Int32) (mo : OB) : Option (Int32 × OB) :=
  Option.bind (f_X9_in F (Int32.toInt64 x1) 0 3) (fun q1 => (if q1 = 0 then (some ((-1), mo)) else (if ib x1 4 then (Option.bind (f_X9_carriesAll F x1 0 (mo.1, (uF mo.2.1 50 (upd (mo.2.1 50) (Int32.toNatClampNeg x1) (vp_nar .boolean 1))), mo.2.2)) (fun q4 => (some (((q4.2.1 1) (Int32.toNatClampNeg 4)), q4)))) else none)))
set_option maxHeartbeats 4000000 in
set_option maxRecDepth 100000 in
theorem c_X9_image (l : Launch) (D : va_G) (k : Nat → ClassId) (sz : Nat)  (va : Nat → Nat) (F : Nat)  (x1 : Int32) (mo : OB)  {res : Int32 × OB} (h : f_X9_image F x1 mo = some res) : CtI l yX9_image wsX9_image (rmK 3 0 0) [.ref (va 0), .int x1] D k sz (moW k va mo) (fun r (_ : Unit) => r = res.1) (fun _ : Unit => moW k va res.2) 0 0 := by
  refine CtI.mk (cc := cX9_image) (maxL := 2) (ret := (some .int)) (by decide) rfl (Nat.le_of_ble_eq_true rfl) ?_
  intro p e s m below meth c A ls E hP hD hS hl
  obtain ⟨hx, hb, hr, hml, hown, hts, hlocks, hin, hG, hA⟩ := E
  have hown : s.vm.findClass RX9 = some m.cls := hown
  have in9 : ∀ w ∈ u_ws RX9 TX9 53, w ∈ wsX9_image := fun _ h => List.mem_cons_of_mem _ (List.mem_append_right _ h)
  have hl : lv_has ls 2 [(0, .ref (va 0)), (1, .int x1)] := hl
  refine lv_iload_n hx hb dX9_image_0 rfl (lv_at hl 1 rfl) ?_
  refine lv_i2l hx hb dX9_image_1 rfl ?_
  refine lv_lconst (v := 0) hx hb dX9_image_2 (by decide) ?_
  refine lv_ldc2 (v := 3) hx hb hown (hts (.constantLong RX9 354 (3)) (mem_b bq_wsX9_image 0 0 rfl)) dX9_image_3 ?_
  refine fw_Si (As := [.long (Int32.toInt64 x1), .long 0, .long 3]) (rest := []) (n := 3) (wr := moW k va mo) (rv := fun b : Int32 => b) (wp := fun b : Int32 => []) h hx hb hml hown hts hG hA hP hD hS hl.1 [] (List.range (moW k va mo).length) (fun q hq9 => c_X9_in l D k _   F (Int32.toInt64 x1) 0 3   hq9) gX9_image_X9_in rfl ⟨rfl, rfl, Nat.le_of_ble_eq_true rfl, Nat.le_of_ble_eq_true rfl⟩ (by decide +kernel) rfl (al_C _) (al_m _) ⟨rfl, rfl, Nat.le_of_ble_eq_true rfl, Nat.le_of_ble_eq_true rfl, Nat.le_of_ble_eq_true rfl⟩ dX9_image_6 (fun q1 H locs h hP hD hS => ?_)
  obtain ⟨hP, hD⟩ := cv (w' := (moW k va mo) ++ []) hP hD rfl
  rw [List.append_nil] at hP hD
  refine hc_is (z := q1) rfl ?_
  refine lv_if_ne (tgt := 14) hx hb dX9_image_9 (by decide) (fun c2 => ?_) (fun c2 => ?_)
  · have h := fw_f c2 h
    refine lv_aload_n hx hb dX9_image_14 rfl (lv_at hl 0 rfl) ?_
    refine va_get (D := D) (ci := 7) (v := .ref (va 37)) (C := RX9) (T := TX9) (N := 53) hx hb hts in9 hown hG.1 hP 0 rfl rfl 50 (by decide) (hts (.fieldLink RX9 125 "ChairCaneModel" "isMade" "[Z") (mem_b bq_wsX9_image 0 1 rfl)) (fun _ h9 => h9) rfl dX9_image_15 ?_
    refine lv_iload_n hx hb dX9_image_18 rfl (lv_at hl 1 rfl) ?_
    refine lv_iconst (v := 1) hx hb dX9_image_19 (by decide) ?_
    obtain ⟨g3, h⟩ := fw_g h
    refine va_zast hx hb hG.1 hP hD hS 37 2 rfl rfl (ib_vp g3) dX9_image_20 (fun H locs hP hD hS => ?_)
    refine lv_aload_n hx hb dX9_image_21 rfl (lv_at hl 0 rfl) ?_
    refine lv_iload_n hx hb dX9_image_22 rfl (lv_at hl 1 rfl) ?_
    refine lv_iconst (v := 0) hx hb dX9_image_23 (by decide) ?_
    obtain ⟨hP, hD⟩ := cv (w' := moW k va (mo.1, (uF mo.2.1 50 (upd (mo.2.1 50) (Int32.toNatClampNeg x1) (vp_nar .boolean 1))), mo.2.2)) hP hD rfl
    refine fw_Vv (As := [.int x1, .int 0]) (rest := []) (n := 2) (wr := []) (wp := fun b : OB => moW k va b) h hx hb hml hown hts hG hA hP hD hS hl.1 (List.range (moW k va (mo.1, (uF mo.2.1 50 (upd (mo.2.1 50) (Int32.toNatClampNeg x1) (vp_nar .boolean 1))), mo.2.2)).length) [] (fun q hq9 => c_X9_carriesAll l D k _  va F x1 0 (mo.1, (uF mo.2.1 50 (upd (mo.2.1 50) (Int32.toNatClampNeg x1) (vp_nar .boolean 1))), mo.2.2)  hq9) (ci := 7) (q0 := 0) rfl rfl gX9_image_X9_carriesAll rfl ⟨rfl, rfl, Nat.le_of_ble_eq_true rfl, Nat.le_of_ble_eq_true rfl⟩ (by decide +kernel) (al_C _) rfl (al_n _) ⟨rfl, rfl, Nat.le_of_ble_eq_true rfl, Nat.le_of_ble_eq_true rfl, Nat.le_of_ble_eq_true rfl⟩ dX9_image_24 (fun q4 H locs h hP hD hS => ?_)
    obtain ⟨hP, hD⟩ := cv (w' := moW k va q4) hP hD rfl
    refine lv_aload_n hx hb dX9_image_27 rfl (lv_at hl 0 rfl) ?_
    refine va_get (D := D) (ci := 7) (v := .ref (va 1)) (C := RX9) (T := TX9) (N := 53) hx hb hts in9 hown hG.1 hP 0 rfl rfl 1 (by decide) (hts (.fieldLink RX9 9 "ChairCaneModel" "scalar" "[I") (mem_b bq_wsX9_image 0 2 rfl)) (fun _ h9 => h9) rfl dX9_image_28 ?_
    refine lv_iconst (v := 4) hx hb dX9_image_31 (by decide) ?_
    refine va_iald hx hb hG.1 hP 1 0 rfl rfl (by unfold vp_in; decide) dX9_image_32 ?_
    exact fw_endI (rv := fun b : Int32 × OB => b.1) (wp := fun b : Int32 × OB => moW k va b.2) hx hb hr hlocks h rfl hP hD hS dX9_image_33
  · have h := fw_t c2 h
    refine lv_iconst (v := (-1)) hx hb dX9_image_12 (by decide) ?_
    exact fw_endI (rv := fun b : Int32 × OB => b.1) (wp := fun b : Int32 × OB => moW k va b.2) hx hb hr hlocks h rfl hP hD hS dX9_image_13
noncomputable def b_X9_back_21 (F : Nat)    (mo : OB) : Option (Int32 × OB) :=
  some ((-1), mo)
noncomputable def f_X9_back (F : Nat)  (x1 : Int32) (mo : OB) : Option (Int32 × OB) :=
  Option.bind (f_X9_in F (Int32.toInt64 x1) 0 3) (fun q1 => (if q1 = 0 then (b_X9_back_21 F mo) else (if ib x1 4 then (if ((mo.2.1 50) (Int32.toNatClampNeg x1)) = 0 then (b_X9_back_21 F mo) else (Option.bind (f_X9_carriesAll F x1 1 mo) (fun q5 => (some (((q5.2.1 1) (Int32.toNatClampNeg 4)), q5))))) else none)))
set_option maxHeartbeats 4000000 in
set_option maxRecDepth 100000 in
theorem c_X9_back (l : Launch) (D : va_G) (k : Nat → ClassId) (sz : Nat)  (va : Nat → Nat) (F : Nat)  (x1 : Int32) (mo : OB)  {res : Int32 × OB} (h : f_X9_back F x1 mo = some res) : CtI l yX9_back wsX9_back (rmK 3 0 0) [.ref (va 0), .int x1] D k sz (moW k va mo) (fun r (_ : Unit) => r = res.1) (fun _ : Unit => moW k va res.2) 0 0 := by
  refine CtI.mk (cc := cX9_back) (maxL := 2) (ret := (some .int)) (by decide) rfl (Nat.le_of_ble_eq_true rfl) ?_
  intro p e s m below meth c A ls E hP hD hS hl
  obtain ⟨hx, hb, hr, hml, hown, hts, hlocks, hin, hG, hA⟩ := E
  have hown : s.vm.findClass RX9 = some m.cls := hown
  have in9 : ∀ w ∈ u_ws RX9 TX9 53, w ∈ wsX9_back := fun _ h => List.mem_cons_of_mem _ (List.mem_append_right _ h)
  have hl : lv_has ls 2 [(0, .ref (va 0)), (1, .int x1)] := hl
  have B21 : ∀ (mo : OB) (H : Heap) (locs : List Loc) (ls : Array Slot), b_X9_back_21 F mo = some res → va_P D vwCl (moW k va mo) H → va_D A (moW k va mo) → va_S A s.heap H locs → lv_has ls 2 [] → W p l e (rmK 3 0 0) s m (List.toArray [.ref (va 0), .int x1]) below meth c H locs 0 0 (MQ below (va_Qi (fun r (_ : Unit) => r = res.1) (hcB D (fun _ : Unit => moW k va res.2) A) A) (List.toArray [.ref (va 0), .int x1]) s 0 0 A) (F0 m 21 ls []) := by
    intro mo H locs ls h hP hD hS hl
    refine lv_iconst (v := (-1)) hx hb dX9_back_21 (by decide) ?_
    exact fw_endI (rv := fun b : Int32 × OB => b.1) (wp := fun b : Int32 × OB => moW k va b.2) hx hb hr hlocks h rfl hP hD hS dX9_back_22
  refine lv_iload_n hx hb dX9_back_0 rfl (lv_at hl 1 rfl) ?_
  refine lv_i2l hx hb dX9_back_1 rfl ?_
  refine lv_lconst (v := 0) hx hb dX9_back_2 (by decide) ?_
  refine lv_ldc2 (v := 3) hx hb hown (hts (.constantLong RX9 354 (3)) (mem_b bq_wsX9_back 0 0 rfl)) dX9_back_3 ?_
  refine fw_Si (As := [.long (Int32.toInt64 x1), .long 0, .long 3]) (rest := []) (n := 3) (wr := moW k va mo) (rv := fun b : Int32 => b) (wp := fun b : Int32 => []) h hx hb hml hown hts hG hA hP hD hS hl.1 [] (List.range (moW k va mo).length) (fun q hq9 => c_X9_in l D k _   F (Int32.toInt64 x1) 0 3   hq9) gX9_back_X9_in rfl ⟨rfl, rfl, Nat.le_of_ble_eq_true rfl, Nat.le_of_ble_eq_true rfl⟩ (by decide +kernel) rfl (al_C _) (al_m _) ⟨rfl, rfl, Nat.le_of_ble_eq_true rfl, Nat.le_of_ble_eq_true rfl, Nat.le_of_ble_eq_true rfl⟩ dX9_back_6 (fun q1 H locs h hP hD hS => ?_)
  obtain ⟨hP, hD⟩ := cv (w' := (moW k va mo) ++ []) hP hD rfl
  rw [List.append_nil] at hP hD
  refine hc_is (z := q1) rfl ?_
  refine lv_if_eq (tgt := 21) hx hb dX9_back_9 (by decide) (fun c2 => ?_) (fun c2 => ?_)
  · have h := fw_t c2 h
    exact B21 _ _ _ _ h hP hD hS (lv_sub hl [] rfl)
  · have h := fw_f c2 h
    refine lv_aload_n hx hb dX9_back_12 rfl (lv_at hl 0 rfl) ?_
    refine va_get (D := D) (ci := 7) (v := .ref (va 37)) (C := RX9) (T := TX9) (N := 53) hx hb hts in9 hown hG.1 hP 0 rfl rfl 50 (by decide) (hts (.fieldLink RX9 125 "ChairCaneModel" "isMade" "[Z") (mem_b bq_wsX9_back 0 1 rfl)) (fun _ h9 => h9) rfl dX9_back_13 ?_
    refine lv_iload_n hx hb dX9_back_16 rfl (lv_at hl 1 rfl) ?_
    obtain ⟨g3, h⟩ := fw_g h
    refine va_zald hx hb hG.1 hP 37 2 rfl rfl (ib_vp g3) dX9_back_17 ?_
    refine lv_if_ne (tgt := 23) hx hb dX9_back_18 (by decide) (fun c4 => ?_) (fun c4 => ?_)
    · have h := fw_f c4 h
      refine lv_aload_n hx hb dX9_back_23 rfl (lv_at hl 0 rfl) ?_
      refine lv_iload_n hx hb dX9_back_24 rfl (lv_at hl 1 rfl) ?_
      refine lv_iconst (v := 1) hx hb dX9_back_25 (by decide) ?_
      refine fw_Vv (As := [.int x1, .int 1]) (rest := []) (n := 2) (wr := []) (wp := fun b : OB => moW k va b) h hx hb hml hown hts hG hA hP hD hS hl.1 (List.range (moW k va mo).length) [] (fun q hq9 => c_X9_carriesAll l D k _  va F x1 1 mo  hq9) (ci := 7) (q0 := 0) rfl rfl gX9_back_X9_carriesAll rfl ⟨rfl, rfl, Nat.le_of_ble_eq_true rfl, Nat.le_of_ble_eq_true rfl⟩ (by decide +kernel) (al_C _) rfl (al_n _) ⟨rfl, rfl, Nat.le_of_ble_eq_true rfl, Nat.le_of_ble_eq_true rfl, Nat.le_of_ble_eq_true rfl⟩ dX9_back_26 (fun q5 H locs h hP hD hS => ?_)
      obtain ⟨hP, hD⟩ := cv (w' := moW k va q5) hP hD rfl
      refine lv_aload_n hx hb dX9_back_29 rfl (lv_at hl 0 rfl) ?_
      refine va_get (D := D) (ci := 7) (v := .ref (va 1)) (C := RX9) (T := TX9) (N := 53) hx hb hts in9 hown hG.1 hP 0 rfl rfl 1 (by decide) (hts (.fieldLink RX9 9 "ChairCaneModel" "scalar" "[I") (mem_b bq_wsX9_back 0 2 rfl)) (fun _ h9 => h9) rfl dX9_back_30 ?_
      refine lv_iconst (v := 4) hx hb dX9_back_33 (by decide) ?_
      refine va_iald hx hb hG.1 hP 1 0 rfl rfl (by unfold vp_in; decide) dX9_back_34 ?_
      exact fw_endI (rv := fun b : Int32 × OB => b.1) (wp := fun b : Int32 × OB => moW k va b.2) hx hb hr hlocks h rfl hP hD hS dX9_back_35
    · have h := fw_t c4 h
      exact B21 _ _ _ _ h hP hD hS (lv_sub hl [] rfl)
end
section
/-! the frame rule for contracts that ask for texts -/
theorem CtIE.fr {l : Launch} {y : MethodName} {wd : List Cond} {rm : Room} {av : List Value} {D : va_G} {k : Nat → ClassId} {sz mc ms : Nat} {ws wc wr : va_W} {S S' : Type} {E : (Nat → Prop) → State → Prop} {post : Int32 → S → Prop} {wp : S → va_W} {post' : Int32 → S' → Prop} {wp' : S' → va_W} (hE : EOk E) (h : CtIE l y wd rm av D k E sz wc post wp mc ms) (isC isR isO : List Nat) (g : S → S') (hC : isC.map (fun i => ws[i]?) = wc.map some) (hR : isR.map (fun i => ws[i]?) = wr.map some) (hn : va_nd isC = true ∧ va_nd isR = true ∧ va_nd isO = true ∧ ∀ i ∈ isR, i ∉ isC) (hO : ∀ u, isO.map (fun i => (wr ++ wp u)[i]?) = (wp' (g u)).map some) (hx : ∀ q, va_A wc sz q → va_A ws sz q) (hpo : ∀ r u, post r u → post' r (g u)) : CtIE l y wd rm av D k E sz ws post' wp' mc ms :=
  Met.wk h (fun a st q => ⟨q.1, fr_pre isC hC hn.1 q.2.1, hE.2 _ _ st st st.heap [] q.2.2 va_S.rf hx rfl (State.WarmedH.refl st)⟩) (fun a st o t q1 q2 => by
    obtain ⟨⟨r, u, e1, e2, e3, e4⟩, e5⟩ := q2
    obtain ⟨f1, f2⟩ := fr_post isC isR isO hC hR hn (hO u) q1.2.1 e5 e3 e4
    exact ⟨⟨r, g u, e1, hpo r u e2, f1⟩, f2⟩) hx
end
section
/-! contracts over worlds in pieces -/
theorem qm_A {w1 w2 : va_W} (p : w1.Perm w2) (sz : Nat) : va_A w1 sz = va_A w2 sz := by
  funext q
  apply propext
  constructor
  · rintro (⟨k, e, h⟩ | h)
    · obtain ⟨j, hj⟩ := List.mem_iff_getElem?.mp (p.mem_iff.mp (List.mem_of_getElem? h))
      exact Or.inl ⟨j, e, hj⟩
    · exact Or.inr h
  · rintro (⟨k, e, h⟩ | h)
    · obtain ⟨j, hj⟩ := List.mem_iff_getElem?.mp (p.mem_iff.mpr (List.mem_of_getElem? h))
      exact Or.inl ⟨j, e, hj⟩
    · exact Or.inr h
theorem q_ndo (n m q : Nat) : va_nd (List.range n) = true ∧ va_nd (List.range' n m) = true ∧ va_nd (List.range' m q ++ List.range m) = true ∧ ∀ i ∈ List.range' n m, i ∉ List.range n := by
  refine ⟨q_nd0 List.nodup_range, q_nd0 List.nodup_range', q_nd0 ?_, fun i h z => ?_⟩
  · rw [List.nodup_append]
    refine ⟨List.nodup_range', List.nodup_range, fun a ha b hb e => ?_⟩
    have := List.mem_range'_1.mp ha
    have := List.mem_range.mp hb
    omega
  · have := List.mem_range'_1.mp h
    have := List.mem_range.mp z
    omega
theorem ql_eq {us us' : List va_W} : ∀ {is : List Nat}, (∀ j ∈ is, us'.getD j [] = us.getD j []) → ql us' is = ql us is := by
  intro is h
  unfold ql
  rw [qt_fm, qt_fm]
  induction is with
  | nil => rfl
  | cons i l ih =>
    rw [List.flatMap_cons, List.flatMap_cons, ih (fun j hj => h j (List.mem_cons_of_mem _ hj))]
    exact congrArg (· ++ _) (h i (List.mem_cons_self ..))
noncomputable def qall (f g : Nat → va_W) : List Nat → Prop
  | [] => True
  | i :: l => f i = g i ∧ qall f g l
theorem qall_of {f g : Nat → va_W} : ∀ {l : List Nat}, qall f g l → ∀ j ∈ l, f j = g j
  | [], _, _, h => absurd h List.not_mem_nil
  | i :: l, q, j, h => by
    rcases List.mem_cons.mp h with e | e
    · rw [e]
      exact q.1
    · exact qall_of q.2 j e
section QFR
variable {l : Launch} {y : MethodName} {wd : List Cond} {rm : Room} {av : List Value} {D : va_G} {k : Nat → ClassId} {sz mc ms : Nat} {ws wc wp wp' : va_W} {post : Int32 → Unit → Prop} {E : (Nat → Prop) → State → Prop}
theorem CtI.qf0 (h : CtI l y wd rm av D k sz wc post (fun _ : Unit => wp) mc ms) (wr : va_W) : CtI l y wd rm av D k sz (wc ++ wr) post (fun _ : Unit => wp ++ wr) mc ms :=
  CtI.fr (wr := wr) h (List.range wc.length) (List.range' wc.length wr.length) (List.range' wr.length wp.length ++ List.range wr.length) (fun u => u) (q_l wc wr) (q_r wc wr) (q_ndo _ _ _) (fun _ => by rw [List.map_append, q_r, q_l, List.map_append]) (fr_in _ (q_l wc wr)) (fun _ _ z => z)
theorem CtIE.qf0 (hE : EOk E) (h : CtIE l y wd rm av D k E sz wc post (fun _ : Unit => wp) mc ms) (wr : va_W) : CtIE l y wd rm av D k E sz (wc ++ wr) post (fun _ : Unit => wp ++ wr) mc ms :=
  CtIE.fr (wr := wr) hE h (List.range wc.length) (List.range' wc.length wr.length) (List.range' wr.length wp.length ++ List.range wr.length) (fun u => u) (q_l wc wr) (q_r wc wr) (q_ndo _ _ _) (fun _ => by rw [List.map_append, q_r, q_l, List.map_append]) (fr_in _ (q_l wc wr)) (fun _ _ z => z)
theorem CtI.qp (h : CtI l y wd rm av D k sz wc post (fun _ : Unit => wp) mc ms) (p : wc.Perm ws) (p' : wp.Perm wp') : CtI l y wd rm av D k sz ws post (fun _ : Unit => wp') mc ms := by
  have eA := qm_A p sz
  unfold CtI at h ⊢
  rw [← eA]
  exact Met.wk h (fun a st q => ⟨q.1, q.2.1, qm_P p.symm q.2.2.1, q.2.2.2.1, qm_D p.symm q.2.2.2.2⟩) (fun a st o t _ q => by
    obtain ⟨⟨r, u, e1, e2, e3, e4⟩, e5⟩ := q
    exact ⟨⟨r, u, e1, e2, qm_P p' e3, qm_D p' e4⟩, e5⟩) (fun _ q => q)
theorem CtIE.qp (h : CtIE l y wd rm av D k E sz wc post (fun _ : Unit => wp) mc ms) (p : wc.Perm ws) (p' : wp.Perm wp') : CtIE l y wd rm av D k E sz ws post (fun _ : Unit => wp') mc ms := by
  have eA := qm_A p sz
  unfold CtIE at h ⊢
  rw [← eA]
  exact Met.wk h (fun a st q => ⟨q.1, ⟨q.2.1.1, qm_P p.symm q.2.1.2.1, q.2.1.2.2.1, qm_D p.symm q.2.1.2.2.2⟩, q.2.2⟩) (fun a st o t _ q => by
    obtain ⟨⟨r, u, e1, e2, e3, e4⟩, e5⟩ := q
    exact ⟨⟨r, u, e1, e2, qm_P p' e3, qm_D p' e4⟩, e5⟩) (fun _ q => q)
theorem CtI.qfr {us us' : List va_W} (isC isR is : List Nat) (h : CtI l y wd rm av D k sz (ql us isC) post (fun _ : Unit => ql us' isC) mc ms) (hp : is.Perm (isC ++ isR)) (hr : ∀ j ∈ isR, us'.getD j [] = us.getD j []) : CtI l y wd rm av D k sz (ql us is) post (fun _ : Unit => ql us' is) mc ms := by
  refine CtI.qp (CtI.qf0 h (ql us isR)) (q_to us is isC isR hp).symm ?_
  rw [← ql_eq hr]
  exact (q_to us' is isC isR hp).symm
theorem CtIE.qfr {us us' : List va_W} (hE : EOk E) (isC isR is : List Nat) (h : CtIE l y wd rm av D k E sz (ql us isC) post (fun _ : Unit => ql us' isC) mc ms) (hp : is.Perm (isC ++ isR)) (hr : ∀ j ∈ isR, us'.getD j [] = us.getD j []) : CtIE l y wd rm av D k E sz (ql us is) post (fun _ : Unit => ql us' is) mc ms := by
  refine CtIE.qp (CtIE.qf0 hE h (ql us isR)) (q_to us is isC isR hp).symm ?_
  rw [← ql_eq hr]
  exact (q_to us' is isC isR hp).symm
end QFR
end
section
/-! a rule by its number -/
theorem rAd_at {ra : Nat → Nat} {xrr : Nat → Option Nat} {i : Int32} (hq : ∀ i, i < 6 → xrr i = some (ra (6 * i))) (g : ib i 6) : va_rf (xrr (Int32.toNatClampNeg i)) = va_rf (rAd ra i) := by
  have g' : 0 ≤ i.toInt ∧ i.toInt < 6 := g
  have e : Int32.toNatClampNeg i = i.toInt.toNat := rfl
  unfold rAd
  rw [if_pos g', e, hq _ (by omega)]
/-! the six rules, standings, as functions -/
theorem dX3_passMinutes_0 : decode cX3_passMinutes 0 = .ok (.iconst 0, 1) := of_0 ok_iconst_0 (by decide +kernel)
theorem dX3_passMinutes_1 : decode cX3_passMinutes 1 = .ok (.istore_n 3, 1) := of_0 ok_istore_n_3 (by decide +kernel)
theorem dX3_passMinutes_2 : decode cX3_passMinutes 2 = .ok (.iload_n 3, 1) := of_0 ok_iload_n_3 (by decide +kernel)
theorem dX3_passMinutes_3 : decode cX3_passMinutes 3 = .ok (.iload_n 1, 1) := of_0 ok_iload_n_1 (by decide +kernel)
theorem dX3_passMinutes_4 : decode cX3_passMinutes 4 = .ok (.if_icmp .ge 15, 3) := of_s2 ok_if_icmp_ge 0 15 (by decide +kernel)
theorem dX3_passMinutes_7 : decode cX3_passMinutes 7 = .ok (.aload_n 0, 1) := of_0 ok_aload_n_0 (by decide +kernel)
theorem dX3_passMinutes_8 : decode cX3_passMinutes 8 = .ok (.aload_n 2, 1) := of_0 ok_aload_n_2 (by decide +kernel)
theorem dX3_passMinutes_9 : decode cX3_passMinutes 9 = .ok (.invokevirtual 111, 3) := of_u2 ok_invokevirtual 0 111 (by decide +kernel)
theorem dX3_passMinutes_12 : decode cX3_passMinutes 12 = .ok (.pop, 1) := of_0 ok_pop (by decide +kernel)
theorem dX3_passMinutes_13 : decode cX3_passMinutes 13 = .ok (.iinc 3 1, 3) := of_ii ok_iinc 1 (by decide +kernel)
theorem dX3_passMinutes_16 : decode cX3_passMinutes 16 = .ok (.goto (-14), 3) := of_s2 ok_goto 255 242 (by decide +kernel)
theorem dX3_passMinutes_19 : decode cX3_passMinutes 19 = .ok (.return_, 1) := of_0 ok_return_ (by decide +kernel)
theorem dX6_copyFrom_0 : decode cX6_copyFrom 0 = .ok (.aload_n 0, 1) := of_0 ok_aload_n_0 (by decide +kernel)
theorem dX6_copyFrom_1 : decode cX6_copyFrom 1 = .ok (.getfield 12, 3) := of_u2 ok_getfield 0 12 (by decide +kernel)
theorem dX6_copyFrom_4 : decode cX6_copyFrom 4 = .ok (.aload_n 1, 1) := of_0 ok_aload_n_1 (by decide +kernel)
theorem dX6_copyFrom_5 : decode cX6_copyFrom 5 = .ok (.getfield 12, 3) := of_u2 ok_getfield 0 12 (by decide +kernel)
theorem dX6_copyFrom_8 : decode cX6_copyFrom 8 = .ok (.invokevirtual 39, 3) := of_u2 ok_invokevirtual 0 39 (by decide +kernel)
theorem dX6_copyFrom_11 : decode cX6_copyFrom 11 = .ok (.aload_n 0, 1) := of_0 ok_aload_n_0 (by decide +kernel)
theorem dX6_copyFrom_12 : decode cX6_copyFrom 12 = .ok (.getfield 21, 3) := of_u2 ok_getfield 0 21 (by decide +kernel)
theorem dX6_copyFrom_15 : decode cX6_copyFrom 15 = .ok (.aload_n 1, 1) := of_0 ok_aload_n_1 (by decide +kernel)
theorem dX6_copyFrom_16 : decode cX6_copyFrom 16 = .ok (.getfield 21, 3) := of_u2 ok_getfield 0 21 (by decide +kernel)
theorem dX6_copyFrom_19 : decode cX6_copyFrom 19 = .ok (.invokevirtual 43, 3) := of_u2 ok_invokevirtual 0 43 (by decide +kernel)
theorem dX6_copyFrom_22 : decode cX6_copyFrom 22 = .ok (.aload_n 0, 1) := of_0 ok_aload_n_0 (by decide +kernel)
theorem dX6_copyFrom_23 : decode cX6_copyFrom 23 = .ok (.getfield 28, 3) := of_u2 ok_getfield 0 28 (by decide +kernel)
theorem dX6_copyFrom_26 : decode cX6_copyFrom 26 = .ok (.aload_n 1, 1) := of_0 ok_aload_n_1 (by decide +kernel)
theorem dX6_copyFrom_27 : decode cX6_copyFrom 27 = .ok (.getfield 28, 3) := of_u2 ok_getfield 0 28 (by decide +kernel)
theorem dX6_copyFrom_30 : decode cX6_copyFrom 30 = .ok (.invokevirtual 46, 3) := of_u2 ok_invokevirtual 0 46 (by decide +kernel)
theorem dX6_copyFrom_33 : decode cX6_copyFrom 33 = .ok (.aload_n 0, 1) := of_0 ok_aload_n_0 (by decide +kernel)
theorem dX6_copyFrom_34 : decode cX6_copyFrom 34 = .ok (.aload_n 1, 1) := of_0 ok_aload_n_1 (by decide +kernel)
theorem dX6_copyFrom_35 : decode cX6_copyFrom 35 = .ok (.getfield 32, 3) := of_u2 ok_getfield 0 32 (by decide +kernel)
theorem dX6_copyFrom_38 : decode cX6_copyFrom 38 = .ok (.putfield 32, 3) := of_u2 ok_putfield 0 32 (by decide +kernel)
theorem dX6_copyFrom_41 : decode cX6_copyFrom 41 = .ok (.aload_n 0, 1) := of_0 ok_aload_n_0 (by decide +kernel)
theorem dX6_copyFrom_42 : decode cX6_copyFrom 42 = .ok (.aload_n 1, 1) := of_0 ok_aload_n_1 (by decide +kernel)
theorem dX6_copyFrom_43 : decode cX6_copyFrom 43 = .ok (.getfield 36, 3) := of_u2 ok_getfield 0 36 (by decide +kernel)
theorem dX6_copyFrom_46 : decode cX6_copyFrom 46 = .ok (.putfield 36, 3) := of_u2 ok_putfield 0 36 (by decide +kernel)
theorem dX6_copyFrom_49 : decode cX6_copyFrom 49 = .ok (.return_, 1) := of_0 ok_return_ (by decide +kernel)
set_option maxRecDepth 20000 in
theorem bq_wsX3_passMinutes : subq wsX3_passMinutes [wsX3_passMinutes_r1, wsX3_passMinutes_r2, wsX3_passMinutes_r3, wsX3_passMinutes_r4] := ⟨(fun _ h => (List.mem_cons_of_mem _ (List.mem_append_left _ (List.mem_append_left _ (List.mem_append_left _ h))))), (fun _ h => (List.mem_cons_of_mem _ (List.mem_append_left _ (List.mem_append_left _ (List.mem_append_right _ (List.mem_append_left _ h)))))), (fun _ h => (List.mem_cons_of_mem _ (List.mem_append_left _ (List.mem_append_left _ (List.mem_append_right _ (List.mem_append_right _ (List.mem_append_left _ h))))))), (fun _ h => (List.mem_cons_of_mem _ (List.mem_append_left _ (List.mem_append_left _ (List.mem_append_right _ (List.mem_append_right _ (List.mem_append_right _ h))))))), trivial⟩
set_option maxRecDepth 20000 in
theorem ggX3_passMinutes_X3_passMinute : GoodIn wsX3_passMinutes wsX3_passMinute := (goodIn_cons (good_rb bq_wsX3_passMinutes ([(0, 4)] : List (Nat × Nat)) rfl (by decide +kernel)) (goodIn_app (goodIn_app (goodIn_app (good_rb bq_wsX3_passMinutes ([(0, 5), (0, 6), (0, 7), (0, 8), (0, 9), (0, 10), (0, 11), (0, 3), (0, 12), (0, 13), (0, 14), (0, 15), (0, 16), (0, 17), (0, 18), (0, 19), (0, 20), (0, 21), (0, 22), (0, 23), (1, 0), (1, 1), (1, 2), (1, 3)] : List (Nat × Nat)) rfl (by decide +kernel)) (goodIn_app (good_rb bq_wsX3_passMinutes ([(1, 4), (1, 5), (1, 6), (1, 7), (1, 8), (1, 9), (1, 10), (1, 11), (1, 12), (1, 13), (1, 14), (1, 15), (1, 16), (1, 17), (1, 18), (1, 19), (1, 20), (1, 21), (1, 22), (1, 23), (2, 0), (2, 1), (2, 2), (2, 3)] : List (Nat × Nat)) rfl (by decide +kernel)) (goodIn_app (good_rb bq_wsX3_passMinutes ([(2, 4), (2, 5), (2, 6), (2, 7), (2, 8), (2, 9), (2, 10), (2, 11), (2, 12), (2, 13), (2, 14), (2, 15), (2, 16), (2, 17), (2, 18), (2, 19), (2, 20), (2, 21), (2, 22), (2, 23), (3, 0), (3, 1), (3, 2), (3, 3)] : List (Nat × Nat)) rfl (by decide +kernel)) (good_rb bq_wsX3_passMinutes ([(3, 4), (3, 5), (3, 6), (3, 7), (3, 8), (3, 9), (3, 10), (3, 11)] : List (Nat × Nat)) rfl (by decide +kernel))))) (goodIn_sb (fun _ h => (List.mem_cons_of_mem _ (List.mem_append_left _ (List.mem_append_right _ h)))) (by decide +kernel))) (goodIn_sb (fun _ h => (List.mem_cons_of_mem _ (List.mem_append_right _ h))) (by decide +kernel))))
set_option maxRecDepth 20000 in
theorem gX3_passMinutes_X3_passMinute : GoodIn wsX3_passMinutes (wsV RX3 111 RX3 yX3_passMinute wsX3_passMinute) := goodIn_app (good_rp ([1, 2, 3, 4] : List Nat) rfl (by decide +kernel)) ggX3_passMinutes_X3_passMinute
set_option maxRecDepth 20000 in
theorem bq_wsX6_copyFrom : subq wsX6_copyFrom [wsX6_copyFrom_r1, wsX6_copyFrom_r2, wsX6_copyFrom_r3] := ⟨(fun _ h => (List.mem_cons_of_mem _ (List.mem_append_left _ (List.mem_append_left _ (List.mem_append_left _ (List.mem_append_left _ (List.mem_append_left _ h))))))), (fun _ h => (List.mem_cons_of_mem _ (List.mem_append_left _ (List.mem_append_left _ (List.mem_append_left _ (List.mem_append_left _ (List.mem_append_right _ (List.mem_append_left _ h)))))))), (fun _ h => (List.mem_cons_of_mem _ (List.mem_append_left _ (List.mem_append_left _ (List.mem_append_left _ (List.mem_append_left _ (List.mem_append_right _ (List.mem_append_right _ h)))))))), trivial⟩
set_option maxRecDepth 20000 in
theorem ggX6_copyFrom_X0_copyFrom : GoodIn wsX6_copyFrom wsX0_copyFrom := (goodIn_cons (good_rb bq_wsX6_copyFrom ([(1, 10)] : List (Nat × Nat)) rfl (by decide +kernel)) (goodIn_app (good_rb bq_wsX6_copyFrom ([(1, 11), (1, 12), (0, 16), (0, 17), (0, 18), (1, 13), (1, 14), (1, 15), (1, 16)] : List (Nat × Nat)) rfl (by decide +kernel)) (goodIn_sb (fun _ h => (List.mem_cons_of_mem _ (List.mem_append_left _ (List.mem_append_right _ h)))) (by decide +kernel))))
set_option maxRecDepth 20000 in
theorem gX6_copyFrom_X0_copyFrom : GoodIn wsX6_copyFrom (wsV RX6 43 RX0 yX0_copyFrom wsX0_copyFrom) := goodIn_app (good_rp ([31, 32, 33, 34] : List Nat) rfl (by decide +kernel)) ggX6_copyFrom_X0_copyFrom
set_option maxRecDepth 20000 in
theorem ggX6_copyFrom_X2_copyFrom : GoodIn wsX6_copyFrom wsX2_copyFrom := (goodIn_cons (good_rb bq_wsX6_copyFrom ([(1, 21)] : List (Nat × Nat)) rfl (by decide +kernel)) (goodIn_app (good_rb bq_wsX6_copyFrom ([(1, 22), (1, 23), (0, 16), (0, 17), (0, 18), (2, 0), (2, 1), (2, 2)] : List (Nat × Nat)) rfl (by decide +kernel)) (goodIn_sb (fun _ h => (List.mem_cons_of_mem _ (List.mem_append_right _ h))) (by decide +kernel))))
set_option maxRecDepth 20000 in
theorem gX6_copyFrom_X2_copyFrom : GoodIn wsX6_copyFrom (wsV RX6 46 RX2 yX2_copyFrom wsX2_copyFrom) := goodIn_app (good_rp ([42, 43, 44, 45] : List Nat) rfl (by decide +kernel)) ggX6_copyFrom_X2_copyFrom
set_option maxRecDepth 20000 in
theorem ggX6_copyFrom_X3_copyFrom : GoodIn wsX6_copyFrom wsX3_copyFrom := (goodIn_cons (good_rb bq_wsX6_copyFrom ([(0, 9)] : List (Nat × Nat)) rfl (by decide +kernel)) (goodIn_app (good_rb bq_wsX6_copyFrom ([(0, 10), (0, 11), (0, 12), (0, 13), (0, 14), (0, 15), (0, 16), (0, 17), (0, 18), (0, 19), (0, 20), (0, 21), (0, 22), (0, 23), (1, 0), (1, 1), (1, 2), (1, 3), (1, 4), (1, 5)] : List (Nat × Nat)) rfl (by decide +kernel)) (goodIn_sb (fun _ h => (List.mem_cons_of_mem _ (List.mem_append_left _ (List.mem_append_left _ (List.mem_append_right _ h))))) (by decide +kernel))))
set_option maxRecDepth 20000 in
theorem gX6_copyFrom_X3_copyFrom : GoodIn wsX6_copyFrom (wsV RX6 39 RX3 yX3_copyFrom wsX3_copyFrom) := goodIn_app (good_rp ([6, 7, 8, 9] : List Nat) rfl (by decide +kernel)) ggX6_copyFrom_X3_copyFrom
noncomputable def RU (k : Nat → ClassId) (ra : Nat → Nat) (rz : Nat → OB) : va_W := ([((ra 0), .inr (3, [.ref (ra 1), .ref (ra 2), .ref (ra 3), .ref (ra 4), .ref (ra 5), .int ((rz 0).1 5), .int ((rz 0).1 6), .int ((rz 0).1 7)])), ((ra 1), hcI k 400 ((rz 0).2.1 0)), ((ra 2), hcI k 12 ((rz 0).2.1 1)), ((ra 3), hcI k 12 ((rz 0).2.1 2)), ((ra 4), hcI k 12 ((rz 0).2.1 3)), ((ra 5), hcJ k 60 ((rz 0).2.2 4)), ((ra 6), .inr (3, [.ref (ra 7), .ref (ra 8), .ref (ra 9), .ref (ra 10), .ref (ra 11), .int ((rz 1).1 5), .int ((rz 1).1 6), .int ((rz 1).1 7)])), ((ra 7), hcI k 400 ((rz 1).2.1 0)), ((ra 8), hcI k 12 ((rz 1).2.1 1)), ((ra 9), hcI k 12 ((rz 1).2.1 2)), ((ra 10), hcI k 12 ((rz 1).2.1 3)), ((ra 11), hcJ k 60 ((rz 1).2.2 4)), ((ra 12), .inr (3, [.ref (ra 13), .ref (ra 14), .ref (ra 15), .ref (ra 16), .ref (ra 17), .int ((rz 2).1 5), .int ((rz 2).1 6), .int ((rz 2).1 7)])), ((ra 13), hcI k 400 ((rz 2).2.1 0)), ((ra 14), hcI k 12 ((rz 2).2.1 1)), ((ra 15), hcI k 12 ((rz 2).2.1 2)), ((ra 16), hcI k 12 ((rz 2).2.1 3)), ((ra 17), hcJ k 60 ((rz 2).2.2 4)), ((ra 18), .inr (3, [.ref (ra 19), .ref (ra 20), .ref (ra 21), .ref (ra 22), .ref (ra 23), .int ((rz 3).1 5), .int ((rz 3).1 6), .int ((rz 3).1 7)])), ((ra 19), hcI k 400 ((rz 3).2.1 0)), ((ra 20), hcI k 12 ((rz 3).2.1 1)), ((ra 21), hcI k 12 ((rz 3).2.1 2)), ((ra 22), hcI k 12 ((rz 3).2.1 3)), ((ra 23), hcJ k 60 ((rz 3).2.2 4)), ((ra 24), .inr (3, [.ref (ra 25), .ref (ra 26), .ref (ra 27), .ref (ra 28), .ref (ra 29), .int ((rz 4).1 5), .int ((rz 4).1 6), .int ((rz 4).1 7)])), ((ra 25), hcI k 400 ((rz 4).2.1 0)), ((ra 26), hcI k 12 ((rz 4).2.1 1)), ((ra 27), hcI k 12 ((rz 4).2.1 2)), ((ra 28), hcI k 12 ((rz 4).2.1 3)), ((ra 29), hcJ k 60 ((rz 4).2.2 4)), ((ra 30), .inr (3, [.ref (ra 31), .ref (ra 32), .ref (ra 33), .ref (ra 34), .ref (ra 35), .int ((rz 5).1 5), .int ((rz 5).1 6), .int ((rz 5).1 7)])), ((ra 31), hcI k 400 ((rz 5).2.1 0)), ((ra 32), hcI k 12 ((rz 5).2.1 1)), ((ra 33), hcI k 12 ((rz 5).2.1 2)), ((ra 34), hcI k 12 ((rz 5).2.1 3)), ((ra 35), hcJ k 60 ((rz 5).2.2 4))] : va_W)
theorem fw_b {β γ : Type} {o : Option β} {g : β → Option γ} {res : γ} (h : Option.bind o g = some res) : ∃ q, o = some q ∧ g q = some res := by
  cases o with
  | none => cases h
  | some q => exact ⟨q, rfl, h⟩
noncomputable def f_X3_passMinute (F : Nat) (x1 : Int32) (rm : OB) (rz : Nat → OB) : Option (Int32 × OB × (Nat → OB)) :=
  if 0 ≤ (Int32.toInt x1) ∧ (Int32.toInt x1) < 6 then (Option.bind (f_X3_passMinute_r F rm (rz (Int32.toInt x1).toNat)) (fun q => some (q.1, q.2.1, uF rz (Int32.toInt x1).toNat q.2.2))) else (Option.bind (f_X3_passMinute_n F rm) (fun q => some (q.1, q.2, rz)))
set_option maxHeartbeats 4000000 in
set_option maxRecDepth 100000 in
theorem c_X3_passMinute (l : Launch) (D : va_G) (k : Nat → ClassId) (sz : Nat)  (xa : Nat → Nat) (ra : Nat → Nat) (F : Nat) (x1 : Int32) (rm : OB) (rz : Nat → OB) {res : Int32 × OB × (Nat → OB)} (h : f_X3_passMinute F x1 rm rz = some res) : CtI l yX3_passMinute wsX3_passMinute (rmK 5 0 0) [.ref (xa 0), va_rf (rAd ra x1)] D k sz (rmW k xa rm ++ (RU k ra rz)) (fun r (_ : Unit) => r = res.1) (fun _ : Unit => rmW k xa res.2.1 ++ (RU k ra res.2.2)) 0 0 := by
  by_cases g : 0 ≤ (Int32.toInt x1) ∧ (Int32.toInt x1) < 6
  · have h := fw_t g h
    obtain ⟨q, hq, h⟩ := fw_b h
    cases h
    have ec : (Int32.toInt x1) = 0 ∨ (Int32.toInt x1) = 1 ∨ (Int32.toInt x1) = 2 ∨ (Int32.toInt x1) = 3 ∨ (Int32.toInt x1) = 4 ∨ (Int32.toInt x1) = 5 := by omega
    rcases ec with ec | ec | ec | ec | ec | ec
    · have en : (Int32.toInt x1).toNat = 0 := by omega
      have ea : rAd ra x1 = some (ra 0) := by unfold rAd; rw [if_pos g, en]
      rw [ea]
      rw [en] at hq ⊢
      exact CtI.qfr (us := [rmW k xa rm, ruW k (fun j => ra (0 + j)) (rz 0), ruW k (fun j => ra (6 + j)) (rz 1), ruW k (fun j => ra (12 + j)) (rz 2), ruW k (fun j => ra (18 + j)) (rz 3), ruW k (fun j => ra (24 + j)) (rz 4), ruW k (fun j => ra (30 + j)) (rz 5)]) (us' := [rmW k xa q.2.1, ruW k (fun j => ra (0 + j)) (uF rz 0 q.2.2 0), ruW k (fun j => ra (6 + j)) (uF rz 0 q.2.2 1), ruW k (fun j => ra (12 + j)) (uF rz 0 q.2.2 2), ruW k (fun j => ra (18 + j)) (uF rz 0 q.2.2 3), ruW k (fun j => ra (24 + j)) (uF rz 0 q.2.2 4), ruW k (fun j => ra (30 + j)) (uF rz 0 q.2.2 5)]) [0, 1] [2, 3, 4, 5, 6] [0, 1, 2, 3, 4, 5, 6] (c_X3_passMinute_r l D k sz  xa (fun j => ra (0 + j)) F rm (rz 0) hq) (by decide +kernel) (qall_of ⟨rfl, rfl, rfl, rfl, rfl, trivial⟩)
    · have en : (Int32.toInt x1).toNat = 1 := by omega
      have ea : rAd ra x1 = some (ra 6) := by unfold rAd; rw [if_pos g, en]
      rw [ea]
      rw [en] at hq ⊢
      exact CtI.qfr (us := [rmW k xa rm, ruW k (fun j => ra (0 + j)) (rz 0), ruW k (fun j => ra (6 + j)) (rz 1), ruW k (fun j => ra (12 + j)) (rz 2), ruW k (fun j => ra (18 + j)) (rz 3), ruW k (fun j => ra (24 + j)) (rz 4), ruW k (fun j => ra (30 + j)) (rz 5)]) (us' := [rmW k xa q.2.1, ruW k (fun j => ra (0 + j)) (uF rz 1 q.2.2 0), ruW k (fun j => ra (6 + j)) (uF rz 1 q.2.2 1), ruW k (fun j => ra (12 + j)) (uF rz 1 q.2.2 2), ruW k (fun j => ra (18 + j)) (uF rz 1 q.2.2 3), ruW k (fun j => ra (24 + j)) (uF rz 1 q.2.2 4), ruW k (fun j => ra (30 + j)) (uF rz 1 q.2.2 5)]) [0, 2] [1, 3, 4, 5, 6] [0, 1, 2, 3, 4, 5, 6] (c_X3_passMinute_r l D k sz  xa (fun j => ra (6 + j)) F rm (rz 1) hq) (by decide +kernel) (qall_of ⟨rfl, rfl, rfl, rfl, rfl, trivial⟩)
    · have en : (Int32.toInt x1).toNat = 2 := by omega
      have ea : rAd ra x1 = some (ra 12) := by unfold rAd; rw [if_pos g, en]
      rw [ea]
      rw [en] at hq ⊢
      exact CtI.qfr (us := [rmW k xa rm, ruW k (fun j => ra (0 + j)) (rz 0), ruW k (fun j => ra (6 + j)) (rz 1), ruW k (fun j => ra (12 + j)) (rz 2), ruW k (fun j => ra (18 + j)) (rz 3), ruW k (fun j => ra (24 + j)) (rz 4), ruW k (fun j => ra (30 + j)) (rz 5)]) (us' := [rmW k xa q.2.1, ruW k (fun j => ra (0 + j)) (uF rz 2 q.2.2 0), ruW k (fun j => ra (6 + j)) (uF rz 2 q.2.2 1), ruW k (fun j => ra (12 + j)) (uF rz 2 q.2.2 2), ruW k (fun j => ra (18 + j)) (uF rz 2 q.2.2 3), ruW k (fun j => ra (24 + j)) (uF rz 2 q.2.2 4), ruW k (fun j => ra (30 + j)) (uF rz 2 q.2.2 5)]) [0, 3] [1, 2, 4, 5, 6] [0, 1, 2, 3, 4, 5, 6] (c_X3_passMinute_r l D k sz  xa (fun j => ra (12 + j)) F rm (rz 2) hq) (by decide +kernel) (qall_of ⟨rfl, rfl, rfl, rfl, rfl, trivial⟩)
    · have en : (Int32.toInt x1).toNat = 3 := by omega
      have ea : rAd ra x1 = some (ra 18) := by unfold rAd; rw [if_pos g, en]
      rw [ea]
      rw [en] at hq ⊢
      exact CtI.qfr (us := [rmW k xa rm, ruW k (fun j => ra (0 + j)) (rz 0), ruW k (fun j => ra (6 + j)) (rz 1), ruW k (fun j => ra (12 + j)) (rz 2), ruW k (fun j => ra (18 + j)) (rz 3), ruW k (fun j => ra (24 + j)) (rz 4), ruW k (fun j => ra (30 + j)) (rz 5)]) (us' := [rmW k xa q.2.1, ruW k (fun j => ra (0 + j)) (uF rz 3 q.2.2 0), ruW k (fun j => ra (6 + j)) (uF rz 3 q.2.2 1), ruW k (fun j => ra (12 + j)) (uF rz 3 q.2.2 2), ruW k (fun j => ra (18 + j)) (uF rz 3 q.2.2 3), ruW k (fun j => ra (24 + j)) (uF rz 3 q.2.2 4), ruW k (fun j => ra (30 + j)) (uF rz 3 q.2.2 5)]) [0, 4] [1, 2, 3, 5, 6] [0, 1, 2, 3, 4, 5, 6] (c_X3_passMinute_r l D k sz  xa (fun j => ra (18 + j)) F rm (rz 3) hq) (by decide +kernel) (qall_of ⟨rfl, rfl, rfl, rfl, rfl, trivial⟩)
    · have en : (Int32.toInt x1).toNat = 4 := by omega
      have ea : rAd ra x1 = some (ra 24) := by unfold rAd; rw [if_pos g, en]
      rw [ea]
      rw [en] at hq ⊢
      exact CtI.qfr (us := [rmW k xa rm, ruW k (fun j => ra (0 + j)) (rz 0), ruW k (fun j => ra (6 + j)) (rz 1), ruW k (fun j => ra (12 + j)) (rz 2), ruW k (fun j => ra (18 + j)) (rz 3), ruW k (fun j => ra (24 + j)) (rz 4), ruW k (fun j => ra (30 + j)) (rz 5)]) (us' := [rmW k xa q.2.1, ruW k (fun j => ra (0 + j)) (uF rz 4 q.2.2 0), ruW k (fun j => ra (6 + j)) (uF rz 4 q.2.2 1), ruW k (fun j => ra (12 + j)) (uF rz 4 q.2.2 2), ruW k (fun j => ra (18 + j)) (uF rz 4 q.2.2 3), ruW k (fun j => ra (24 + j)) (uF rz 4 q.2.2 4), ruW k (fun j => ra (30 + j)) (uF rz 4 q.2.2 5)]) [0, 5] [1, 2, 3, 4, 6] [0, 1, 2, 3, 4, 5, 6] (c_X3_passMinute_r l D k sz  xa (fun j => ra (24 + j)) F rm (rz 4) hq) (by decide +kernel) (qall_of ⟨rfl, rfl, rfl, rfl, rfl, trivial⟩)
    · have en : (Int32.toInt x1).toNat = 5 := by omega
      have ea : rAd ra x1 = some (ra 30) := by unfold rAd; rw [if_pos g, en]
      rw [ea]
      rw [en] at hq ⊢
      exact CtI.qfr (us := [rmW k xa rm, ruW k (fun j => ra (0 + j)) (rz 0), ruW k (fun j => ra (6 + j)) (rz 1), ruW k (fun j => ra (12 + j)) (rz 2), ruW k (fun j => ra (18 + j)) (rz 3), ruW k (fun j => ra (24 + j)) (rz 4), ruW k (fun j => ra (30 + j)) (rz 5)]) (us' := [rmW k xa q.2.1, ruW k (fun j => ra (0 + j)) (uF rz 5 q.2.2 0), ruW k (fun j => ra (6 + j)) (uF rz 5 q.2.2 1), ruW k (fun j => ra (12 + j)) (uF rz 5 q.2.2 2), ruW k (fun j => ra (18 + j)) (uF rz 5 q.2.2 3), ruW k (fun j => ra (24 + j)) (uF rz 5 q.2.2 4), ruW k (fun j => ra (30 + j)) (uF rz 5 q.2.2 5)]) [0, 6] [1, 2, 3, 4, 5] [0, 1, 2, 3, 4, 5, 6] (c_X3_passMinute_r l D k sz  xa (fun j => ra (30 + j)) F rm (rz 5) hq) (by decide +kernel) (qall_of ⟨rfl, rfl, rfl, rfl, rfl, trivial⟩)
  · have h := fw_f g h
    obtain ⟨q, hq, h⟩ := fw_b h
    cases h
    have ea : rAd ra x1 = none := by unfold rAd; rw [if_neg g]
    rw [ea]
    exact CtI.qf0 (c_X3_passMinute_n l D k sz xa F rm hq) (RU k ra rz)
noncomputable def b_X3_passMinutes_2 (F : Nat)    (k2 : (Int32 × Int32 × Int32 × OB × (Nat → OB)) → Option (OB × (Nat → OB))) (a2 : (Int32 × Int32 × Int32 × OB × (Nat → OB))) : Option (OB × (Nat → OB)) :=
  if a2.1 ≤ a2.2.2.1 then (some (a2.2.2.2.1, a2.2.2.2.2)) else (Option.bind (f_X3_passMinute F a2.2.1 a2.2.2.2.1 a2.2.2.2.2) (fun q2 => (k2 (a2.1, a2.2.1, (a2.2.2.1 + 1), q2.2.1, q2.2.2))))
noncomputable def f_X3_passMinutes (F : Nat)  (x1 : Int32) (x2 : Int32) (rm : OB) (rz : Nat → OB) : Option (OB × (Nat → OB)) :=
  lp (b_X3_passMinutes_2 F) F (x1, x2, 0, rm, rz)
set_option maxHeartbeats 4000000 in
set_option maxRecDepth 100000 in
theorem c_X3_passMinutes (l : Launch) (D : va_G) (k : Nat → ClassId) (sz : Nat)  (xa : Nat → Nat) (ra : Nat → Nat) (F : Nat)  (x1 : Int32) (x2 : Int32) (rm : OB) (rz : Nat → OB)  {res : OB × (Nat → OB)} (h : f_X3_passMinutes F x1 x2 rm rz = some res) : CtV l yX3_passMinutes wsX3_passMinutes (rmK 6 0 0) [.ref (xa 0), .int x1, va_rf (rAd ra x2)] D k sz (rmW k xa rm ++ (RU k ra rz)) (fun (_ : Unit) => True) (fun _ : Unit => rmW k xa res.1 ++ (RU k ra res.2)) 0 0 := by
  refine CtV.mk (cc := cX3_passMinutes) (maxL := 4) (ret := none) (by decide) rfl (by cases rAd ra x2 <;> exact Nat.le_of_ble_eq_true rfl) ?_
  intro p e s m below meth c A ls E hP hD hS hl
  obtain ⟨hx, hb, hr, hml, hown, hts, hlocks, hin, hG, hA⟩ := E
  have hown : s.vm.findClass RX3 = some m.cls := hown
  have in3 : ∀ w ∈ u_ws RX3 TX3 17, w ∈ wsX3_passMinutes := fun _ h => List.mem_cons_of_mem _ (List.mem_append_left _ (List.mem_append_right _ h))
  have in4 : ∀ w ∈ u_ws RX4 TX4 8, w ∈ wsX3_passMinutes := fun _ h => List.mem_cons_of_mem _ (List.mem_append_right _ h)
  have hl : lv_has ls 4 [(0, .ref (xa 0)), (1, .int x1), (2, va_rf (rAd ra x2))] := (by cases h9 : rAd ra x2 <;> (rw [h9] at hl; exact hl))
  have B2 : ∀ a2 : (Int32 × Int32 × Int32 × OB × (Nat → OB)), lp (b_X3_passMinutes_2 F) F a2 = some res → ∀ (H : Heap) (locs : List Loc) (ls : Array Slot), va_P D vwCl (rmW k xa a2.2.2.2.1 ++ (RU k ra a2.2.2.2.2)) H → va_D A (rmW k xa a2.2.2.2.1 ++ (RU k ra a2.2.2.2.2)) → va_S A s.heap H locs → lv_has ls 4 [(0, .ref (xa 0)), (1, .int a2.1), (2, va_rf (rAd ra a2.2.1)), (3, .int a2.2.2.1)] → W p l e (rmK 6 0 0) s m (List.toArray [.ref (xa 0), .int x1, va_rf (rAd ra x2)]) below meth c H locs 0 0 (MQ below (va_Qv (fun (_ : Unit) => True) (hcB D (fun _ : Unit => rmW k xa res.1 ++ (RU k ra res.2)) A) A) (List.toArray [.ref (xa 0), .int x1, va_rf (rAd ra x2)]) s 0 0 A) (F0 m 2 ls []) := by
    refine lp_W ?_ F
    intro k2 hk2 a2 h H locs ls hP hD hS hl
    have hc2 : ∀ (v1 : Int32) (v2 : Int32) (v3 : Int32) (rm : OB) (rz : Nat → OB), k2 (v1, v2, v3, rm, rz) = some res → ∀ (H : Heap) (locs : List Loc) (ls : Array Slot), va_P D vwCl (rmW k xa rm ++ (RU k ra rz)) H → va_D A (rmW k xa rm ++ (RU k ra rz)) → va_S A s.heap H locs → lv_has ls 4 [(0, .ref (xa 0)), (1, .int v1), (2, va_rf (rAd ra v2)), (3, .int v3)] → W p l e (rmK 6 0 0) s m (List.toArray [.ref (xa 0), .int x1, va_rf (rAd ra x2)]) below meth c H locs 0 0 (MQ below (va_Qv (fun (_ : Unit) => True) (hcB D (fun _ : Unit => rmW k xa res.1 ++ (RU k ra res.2)) A) A) (List.toArray [.ref (xa 0), .int x1, va_rf (rAd ra x2)]) s 0 0 A) (F0 m 2 ls []) := fun v1 v2 v3 rm rz => hk2 (v1, v2, v3, rm, rz)
    refine lv_iload_n hx hb dX3_passMinutes_2 rfl (lv_at hl 3 rfl) ?_
    refine lv_iload_n hx hb dX3_passMinutes_3 rfl (lv_at hl 1 rfl) ?_
    refine lv_icmp_ge (tgt := 19) hx hb dX3_passMinutes_4 (by decide) (fun c1 => ?_) (fun c1 => ?_)
    · have h := fw_t c1 h
      exact fw_endV (wp := fun b : OB × (Nat → OB) => rmW k xa b.1 ++ (RU k ra b.2)) hx hb hr hlocks h hP hD hS dX3_passMinutes_19
    · have h := fw_f c1 h
      refine lv_aload_n hx hb dX3_passMinutes_7 rfl (lv_at hl 0 rfl) ?_
      refine lv_aload_nO hx hb dX3_passMinutes_8 rfl (lv_at hl 2 rfl) ?_
      refine fw_Vi (As := [va_rf (rAd ra a2.2.1)]) (rest := []) (n := 1) (wr := []) (rv := fun b : Int32 × OB × (Nat → OB) => b.1) (wp := fun b : Int32 × OB × (Nat → OB) => rmW k xa b.2.1 ++ (RU k ra b.2.2)) h hx hb hml hown hts hG hA hP hD hS hl.1 (List.range (rmW k xa a2.2.2.2.1 ++ (RU k ra a2.2.2.2.2)).length) [] (fun q hq9 => c_X3_passMinute l D k _  xa ra F a2.2.1 a2.2.2.2.1 a2.2.2.2.2  hq9) (ci := 2) (q0 := 0) rfl rfl gX3_passMinutes_X3_passMinute rfl ⟨rfl, rfl, Nat.le_of_ble_eq_true rfl, Nat.le_of_ble_eq_true rfl⟩ (by decide +kernel) (al_C _) rfl (al_n _) ⟨rfl, rfl, Nat.le_of_ble_eq_true rfl, Nat.le_of_ble_eq_true rfl, Nat.le_of_ble_eq_true rfl⟩ dX3_passMinutes_9 (fun q2 H locs h hP hD hS => ?_)
      obtain ⟨hP, hD⟩ := cv (w' := rmW k xa q2.2.1 ++ (RU k ra q2.2.2)) hP hD rfl
      refine hc_is (z := q2.1) rfl ?_
      refine lv_pop hx hb dX3_passMinutes_12 rfl ?_
      refine lv_iinc (v := (a2.2.2.1 + 1)) (lv' := [(3, .int (a2.2.2.1 + 1)), (0, .ref (xa 0)), (1, .int a2.1), (2, va_rf (rAd ra a2.2.1))]) hx hb dX3_passMinutes_13 hl (k := 3) rfl rfl (by decide) (by cases rAd ra a2.2.1 <;> rfl) (fun ls hl => ?_)
      refine lv_goto (tgt := 2) hx hb dX3_passMinutes_16 (by decide) ?_
      exact hc2 _ _ _ _ _ h _ _ _ hP hD hS (lv_sub hl [1, 2, 3, 0] rfl)
  have C2 : ∀ (v1 : Int32) (v2 : Int32) (v3 : Int32) (rm : OB) (rz : Nat → OB), lp (b_X3_passMinutes_2 F) F (v1, v2, v3, rm, rz) = some res → ∀ (H : Heap) (locs : List Loc) (ls : Array Slot), va_P D vwCl (rmW k xa rm ++ (RU k ra rz)) H → va_D A (rmW k xa rm ++ (RU k ra rz)) → va_S A s.heap H locs → lv_has ls 4 [(0, .ref (xa 0)), (1, .int v1), (2, va_rf (rAd ra v2)), (3, .int v3)] → W p l e (rmK 6 0 0) s m (List.toArray [.ref (xa 0), .int x1, va_rf (rAd ra x2)]) below meth c H locs 0 0 (MQ below (va_Qv (fun (_ : Unit) => True) (hcB D (fun _ : Unit => rmW k xa res.1 ++ (RU k ra res.2)) A) A) (List.toArray [.ref (xa 0), .int x1, va_rf (rAd ra x2)]) s 0 0 A) (F0 m 2 ls []) := fun v1 v2 v3 rm rz => B2 (v1, v2, v3, rm, rz)
  refine lv_iconst (v := 0) hx hb dX3_passMinutes_0 (by decide) ?_
  refine lv_istore_n (lv' := [(3, .int 0), (0, .ref (xa 0)), (1, .int x1), (2, va_rf (rAd ra x2))]) hx hb dX3_passMinutes_1 rfl hl (by decide) (by cases rAd ra x2 <;> rfl) (fun ls hl => ?_)
  exact C2 _ _ _ _ _ h _ _ _ hP hD hS (lv_sub hl [1, 2, 3, 0] rfl)
noncomputable def f_X5_read_u (F : Nat) (x1 : Int32) (tp : OB) (rz : Nat → OB) : Option (Int32 × OB × (Nat → OB)) :=
  if 0 ≤ (Int32.toInt x1) ∧ (Int32.toInt x1) < 6 then (Option.bind (f_X5_read F tp (rz (Int32.toInt x1).toNat)) (fun q => some (q.1, q.2.1, uF rz (Int32.toInt x1).toNat q.2.2))) else (none)
set_option maxHeartbeats 4000000 in
set_option maxRecDepth 100000 in
theorem c_X5_read_u (l : Launch) (D : va_G) (k : Nat → ClassId) (sz : Nat) (ad tv : Nat → Nat) (ta : Nat → Nat) (ra : Nat → Nat) (F : Nat) (x1 : Int32) (tp : OB) (rz : Nat → OB) {res : Int32 × OB × (Nat → OB)} (h : f_X5_read_u F x1 tp rz = some res) : CtIE l yX5_read wsX5_read (rmK 28 0 0) [.ref (ta 0), va_rf (rAd ra x1)] D k (EX ad tv) sz (tpW k ta tp ++ (RU k ra rz)) (fun r (_ : Unit) => r = res.1) (fun _ : Unit => tpW k ta res.2.1 ++ (RU k ra res.2.2)) 0 0 := by
  by_cases g : 0 ≤ (Int32.toInt x1) ∧ (Int32.toInt x1) < 6
  · have h := fw_t g h
    obtain ⟨q, hq, h⟩ := fw_b h
    cases h
    have ec : (Int32.toInt x1) = 0 ∨ (Int32.toInt x1) = 1 ∨ (Int32.toInt x1) = 2 ∨ (Int32.toInt x1) = 3 ∨ (Int32.toInt x1) = 4 ∨ (Int32.toInt x1) = 5 := by omega
    rcases ec with ec | ec | ec | ec | ec | ec
    · have en : (Int32.toInt x1).toNat = 0 := by omega
      have ea : rAd ra x1 = some (ra 0) := by unfold rAd; rw [if_pos g, en]
      rw [ea]
      rw [en] at hq ⊢
      exact CtIE.qfr (us := [tpW k ta tp, ruW k (fun j => ra (0 + j)) (rz 0), ruW k (fun j => ra (6 + j)) (rz 1), ruW k (fun j => ra (12 + j)) (rz 2), ruW k (fun j => ra (18 + j)) (rz 3), ruW k (fun j => ra (24 + j)) (rz 4), ruW k (fun j => ra (30 + j)) (rz 5)]) (us' := [tpW k ta q.2.1, ruW k (fun j => ra (0 + j)) (uF rz 0 q.2.2 0), ruW k (fun j => ra (6 + j)) (uF rz 0 q.2.2 1), ruW k (fun j => ra (12 + j)) (uF rz 0 q.2.2 2), ruW k (fun j => ra (18 + j)) (uF rz 0 q.2.2 3), ruW k (fun j => ra (24 + j)) (uF rz 0 q.2.2 4), ruW k (fun j => ra (30 + j)) (uF rz 0 q.2.2 5)]) (EX.ok ad tv) [0, 1] [2, 3, 4, 5, 6] [0, 1, 2, 3, 4, 5, 6] (c_X5_read l D k sz ad tv ta (fun j => ra (0 + j)) F tp (rz 0) hq) (by decide +kernel) (qall_of ⟨rfl, rfl, rfl, rfl, rfl, trivial⟩)
    · have en : (Int32.toInt x1).toNat = 1 := by omega
      have ea : rAd ra x1 = some (ra 6) := by unfold rAd; rw [if_pos g, en]
      rw [ea]
      rw [en] at hq ⊢
      exact CtIE.qfr (us := [tpW k ta tp, ruW k (fun j => ra (0 + j)) (rz 0), ruW k (fun j => ra (6 + j)) (rz 1), ruW k (fun j => ra (12 + j)) (rz 2), ruW k (fun j => ra (18 + j)) (rz 3), ruW k (fun j => ra (24 + j)) (rz 4), ruW k (fun j => ra (30 + j)) (rz 5)]) (us' := [tpW k ta q.2.1, ruW k (fun j => ra (0 + j)) (uF rz 1 q.2.2 0), ruW k (fun j => ra (6 + j)) (uF rz 1 q.2.2 1), ruW k (fun j => ra (12 + j)) (uF rz 1 q.2.2 2), ruW k (fun j => ra (18 + j)) (uF rz 1 q.2.2 3), ruW k (fun j => ra (24 + j)) (uF rz 1 q.2.2 4), ruW k (fun j => ra (30 + j)) (uF rz 1 q.2.2 5)]) (EX.ok ad tv) [0, 2] [1, 3, 4, 5, 6] [0, 1, 2, 3, 4, 5, 6] (c_X5_read l D k sz ad tv ta (fun j => ra (6 + j)) F tp (rz 1) hq) (by decide +kernel) (qall_of ⟨rfl, rfl, rfl, rfl, rfl, trivial⟩)
    · have en : (Int32.toInt x1).toNat = 2 := by omega
      have ea : rAd ra x1 = some (ra 12) := by unfold rAd; rw [if_pos g, en]
      rw [ea]
      rw [en] at hq ⊢
      exact CtIE.qfr (us := [tpW k ta tp, ruW k (fun j => ra (0 + j)) (rz 0), ruW k (fun j => ra (6 + j)) (rz 1), ruW k (fun j => ra (12 + j)) (rz 2), ruW k (fun j => ra (18 + j)) (rz 3), ruW k (fun j => ra (24 + j)) (rz 4), ruW k (fun j => ra (30 + j)) (rz 5)]) (us' := [tpW k ta q.2.1, ruW k (fun j => ra (0 + j)) (uF rz 2 q.2.2 0), ruW k (fun j => ra (6 + j)) (uF rz 2 q.2.2 1), ruW k (fun j => ra (12 + j)) (uF rz 2 q.2.2 2), ruW k (fun j => ra (18 + j)) (uF rz 2 q.2.2 3), ruW k (fun j => ra (24 + j)) (uF rz 2 q.2.2 4), ruW k (fun j => ra (30 + j)) (uF rz 2 q.2.2 5)]) (EX.ok ad tv) [0, 3] [1, 2, 4, 5, 6] [0, 1, 2, 3, 4, 5, 6] (c_X5_read l D k sz ad tv ta (fun j => ra (12 + j)) F tp (rz 2) hq) (by decide +kernel) (qall_of ⟨rfl, rfl, rfl, rfl, rfl, trivial⟩)
    · have en : (Int32.toInt x1).toNat = 3 := by omega
      have ea : rAd ra x1 = some (ra 18) := by unfold rAd; rw [if_pos g, en]
      rw [ea]
      rw [en] at hq ⊢
      exact CtIE.qfr (us := [tpW k ta tp, ruW k (fun j => ra (0 + j)) (rz 0), ruW k (fun j => ra (6 + j)) (rz 1), ruW k (fun j => ra (12 + j)) (rz 2), ruW k (fun j => ra (18 + j)) (rz 3), ruW k (fun j => ra (24 + j)) (rz 4), ruW k (fun j => ra (30 + j)) (rz 5)]) (us' := [tpW k ta q.2.1, ruW k (fun j => ra (0 + j)) (uF rz 3 q.2.2 0), ruW k (fun j => ra (6 + j)) (uF rz 3 q.2.2 1), ruW k (fun j => ra (12 + j)) (uF rz 3 q.2.2 2), ruW k (fun j => ra (18 + j)) (uF rz 3 q.2.2 3), ruW k (fun j => ra (24 + j)) (uF rz 3 q.2.2 4), ruW k (fun j => ra (30 + j)) (uF rz 3 q.2.2 5)]) (EX.ok ad tv) [0, 4] [1, 2, 3, 5, 6] [0, 1, 2, 3, 4, 5, 6] (c_X5_read l D k sz ad tv ta (fun j => ra (18 + j)) F tp (rz 3) hq) (by decide +kernel) (qall_of ⟨rfl, rfl, rfl, rfl, rfl, trivial⟩)
    · have en : (Int32.toInt x1).toNat = 4 := by omega
      have ea : rAd ra x1 = some (ra 24) := by unfold rAd; rw [if_pos g, en]
      rw [ea]
      rw [en] at hq ⊢
      exact CtIE.qfr (us := [tpW k ta tp, ruW k (fun j => ra (0 + j)) (rz 0), ruW k (fun j => ra (6 + j)) (rz 1), ruW k (fun j => ra (12 + j)) (rz 2), ruW k (fun j => ra (18 + j)) (rz 3), ruW k (fun j => ra (24 + j)) (rz 4), ruW k (fun j => ra (30 + j)) (rz 5)]) (us' := [tpW k ta q.2.1, ruW k (fun j => ra (0 + j)) (uF rz 4 q.2.2 0), ruW k (fun j => ra (6 + j)) (uF rz 4 q.2.2 1), ruW k (fun j => ra (12 + j)) (uF rz 4 q.2.2 2), ruW k (fun j => ra (18 + j)) (uF rz 4 q.2.2 3), ruW k (fun j => ra (24 + j)) (uF rz 4 q.2.2 4), ruW k (fun j => ra (30 + j)) (uF rz 4 q.2.2 5)]) (EX.ok ad tv) [0, 5] [1, 2, 3, 4, 6] [0, 1, 2, 3, 4, 5, 6] (c_X5_read l D k sz ad tv ta (fun j => ra (24 + j)) F tp (rz 4) hq) (by decide +kernel) (qall_of ⟨rfl, rfl, rfl, rfl, rfl, trivial⟩)
    · have en : (Int32.toInt x1).toNat = 5 := by omega
      have ea : rAd ra x1 = some (ra 30) := by unfold rAd; rw [if_pos g, en]
      rw [ea]
      rw [en] at hq ⊢
      exact CtIE.qfr (us := [tpW k ta tp, ruW k (fun j => ra (0 + j)) (rz 0), ruW k (fun j => ra (6 + j)) (rz 1), ruW k (fun j => ra (12 + j)) (rz 2), ruW k (fun j => ra (18 + j)) (rz 3), ruW k (fun j => ra (24 + j)) (rz 4), ruW k (fun j => ra (30 + j)) (rz 5)]) (us' := [tpW k ta q.2.1, ruW k (fun j => ra (0 + j)) (uF rz 5 q.2.2 0), ruW k (fun j => ra (6 + j)) (uF rz 5 q.2.2 1), ruW k (fun j => ra (12 + j)) (uF rz 5 q.2.2 2), ruW k (fun j => ra (18 + j)) (uF rz 5 q.2.2 3), ruW k (fun j => ra (24 + j)) (uF rz 5 q.2.2 4), ruW k (fun j => ra (30 + j)) (uF rz 5 q.2.2 5)]) (EX.ok ad tv) [0, 6] [1, 2, 3, 4, 5] [0, 1, 2, 3, 4, 5, 6] (c_X5_read l D k sz ad tv ta (fun j => ra (30 + j)) F tp (rz 5) hq) (by decide +kernel) (qall_of ⟨rfl, rfl, rfl, rfl, rfl, trivial⟩)
  · have h := fw_f g h
    cases h
noncomputable def f_X6_copyFrom (F : Nat)   (si : Nat → Int32) (rm : OB) (ac : OB) (nt : OB) (sj : Nat → Int32) (rn : OB) (ae : OB) (nu : OB) : Option ((Nat → Int32) × OB × OB × OB) :=
  Option.bind (f_X3_copyFrom F rm rn) (fun q1 => (Option.bind (f_X0_copyFrom F ac ae) (fun q2 => (Option.bind (f_X2_copyFrom F nt nu) (fun q3 => (some ((uF (uF si 3 (sj 3)) 4 (sj 4)), q1, q2, q3)))))))
set_option maxHeartbeats 4000000 in
set_option maxRecDepth 100000 in
theorem c_X6_copyFrom (l : Launch) (D : va_G) (k : Nat → ClassId) (sz : Nat)  (sa : Nat → Nat) (xa : Nat → Nat) (ca : Nat → Nat) (na : Nat → Nat) (sb : Nat → Nat) (xb : Nat → Nat) (cb : Nat → Nat) (nb : Nat → Nat) (F : Nat)   (si : Nat → Int32) (rm : OB) (ac : OB) (nt : OB) (sj : Nat → Int32) (rn : OB) (ae : OB) (nu : OB)  {res : (Nat → Int32) × OB × OB × OB} (h : f_X6_copyFrom F si rm ac nt sj rn ae nu = some res) : CtV l yX6_copyFrom wsX6_copyFrom (rmK 3 0 0) [.ref (sa 0), .ref (sb 0)] D k sz (([((sa 0), .inr (4, [.ref (xa 0), .ref (ca 0), .ref (na 0), .int (si 3), .int (si 4)]))] : va_W) ++ (rmW k xa rm ++ (acW k ca ac ++ (ntW k na nt ++ (([((sb 0), .inr (4, [.ref (xb 0), .ref (cb 0), .ref (nb 0), .int (sj 3), .int (sj 4)]))] : va_W) ++ (rmW k xb rn ++ (acW k cb ae ++ (ntW k nb nu)))))))) (fun (_ : Unit) => True) (fun _ : Unit => ([((sa 0), .inr (4, [.ref (xa 0), .ref (ca 0), .ref (na 0), .int (res.1 3), .int (res.1 4)]))] : va_W) ++ (rmW k xa res.2.1 ++ (acW k ca res.2.2.1 ++ (ntW k na res.2.2.2 ++ (([((sb 0), .inr (4, [.ref (xb 0), .ref (cb 0), .ref (nb 0), .int (sj 3), .int (sj 4)]))] : va_W) ++ (rmW k xb rn ++ (acW k cb ae ++ (ntW k nb nu)))))))) 0 0 := by
  refine CtV.mk (cc := cX6_copyFrom) (maxL := 2) (ret := none) (by decide) rfl (Nat.le_of_ble_eq_true rfl) ?_
  intro p e s m below meth c A ls E hP hD hS hl
  obtain ⟨hx, hb, hr, hml, hown, hts, hlocks, hin, hG, hA⟩ := E
  have hown : s.vm.findClass RX6 = some m.cls := hown
  have in0 : ∀ w ∈ u_ws RX0 TX0 5, w ∈ wsX6_copyFrom := fun _ h => List.mem_cons_of_mem _ (List.mem_append_left _ (List.mem_append_right _ h))
  have in2 : ∀ w ∈ u_ws RX2 TX2 4, w ∈ wsX6_copyFrom := fun _ h => List.mem_cons_of_mem _ (List.mem_append_right _ h)
  have in3 : ∀ w ∈ u_ws RX3 TX3 17, w ∈ wsX6_copyFrom := fun _ h => List.mem_cons_of_mem _ (List.mem_append_left _ (List.mem_append_left _ (List.mem_append_right _ h)))
  have in6 : ∀ w ∈ u_ws RX6 TX6 5, w ∈ wsX6_copyFrom := fun _ h => List.mem_cons_of_mem _ (List.mem_append_left _ (List.mem_append_left _ (List.mem_append_left _ (List.mem_append_right _ h))))
  have hl : lv_has ls 2 [(0, .ref (sa 0)), (1, .ref (sb 0))] := hl
  refine lv_aload_n hx hb dX6_copyFrom_0 rfl (lv_at hl 0 rfl) ?_
  refine va_get (D := D) (ci := 4) (v := .ref (xa 0)) (C := RX6) (T := TX6) (N := 5) hx hb hts in6 hown hG.1 hP 0 rfl rfl 0 (by decide) (hts (.fieldLink RX6 12 "ChairCane$Standing" "room" "LChairCane$Room;") (mem_b bq_wsX6_copyFrom 0 0 rfl)) (fun _ h9 => h9) rfl dX6_copyFrom_1 ?_
  refine lv_aload_n hx hb dX6_copyFrom_4 rfl (lv_at hl 1 rfl) ?_
  refine va_get (D := D) (ci := 4) (v := .ref (xb 0)) (C := RX6) (T := TX6) (N := 5) hx hb hts in6 hown hG.1 hP 18 rfl rfl 0 (by decide) (hts (.fieldLink RX6 12 "ChairCane$Standing" "room" "LChairCane$Room;") (mem_b bq_wsX6_copyFrom 0 0 rfl)) (fun _ h9 => h9) rfl dX6_copyFrom_5 ?_
  obtain ⟨hP, hD⟩ := qm hP hD (q_to [([((sa 0), .inr (4, [.ref (xa 0), .ref (ca 0), .ref (na 0), .int (si 3), .int (si 4)]))] : va_W), rmW k xa rm, acW k ca ac, ntW k na nt, ([((sb 0), .inr (4, [.ref (xb 0), .ref (cb 0), .ref (nb 0), .int (sj 3), .int (sj 4)]))] : va_W), rmW k xb rn, acW k cb ae, ntW k nb nu] [0, 1, 2, 3, 4, 5, 6, 7] [1, 5] [0, 2, 3, 4, 6, 7] (by decide +kernel))
  refine fw_Vv (As := [.ref (xb 0)]) (rest := []) (n := 1) (wp := fun b : OB => rmW k xa b ++ (rmW k xb rn)) h hx hb hml hown hts hG hA hP hD hS hl.1 _ _ (fun q hq9 => c_X3_copyFrom l D k _  xa xb F  rm rn  hq9) (ci := 2) (q0 := 0) rfl rfl gX6_copyFrom_X3_copyFrom rfl ⟨rfl, rfl, Nat.le_of_ble_eq_true rfl, Nat.le_of_ble_eq_true rfl⟩ (by decide +kernel) (q_l _ _) (q_r _ _) (q_nd _ _) ⟨rfl, rfl, Nat.le_of_ble_eq_true rfl, Nat.le_of_ble_eq_true rfl, Nat.le_of_ble_eq_true rfl⟩ dX6_copyFrom_8 (fun q1 H locs h hP hD hS => ?_)
  obtain ⟨hP, hD⟩ := qm (w2 := ([((sa 0), .inr (4, [.ref (xa 0), .ref (ca 0), .ref (na 0), .int (si 3), .int (si 4)]))] : va_W) ++ (rmW k xa q1 ++ (acW k ca ac ++ (ntW k na nt ++ (([((sb 0), .inr (4, [.ref (xb 0), .ref (cb 0), .ref (nb 0), .int (sj 3), .int (sj 4)]))] : va_W) ++ (rmW k xb rn ++ (acW k cb ae ++ (ntW k nb nu)))))))) hP hD (q_from [([((sa 0), .inr (4, [.ref (xa 0), .ref (ca 0), .ref (na 0), .int (si 3), .int (si 4)]))] : va_W), rmW k xa q1, acW k ca ac, ntW k na nt, ([((sb 0), .inr (4, [.ref (xb 0), .ref (cb 0), .ref (nb 0), .int (sj 3), .int (sj 4)]))] : va_W), rmW k xb rn, acW k cb ae, ntW k nb nu] [0, 2, 3, 4, 6, 7] [1, 5] [0, 1, 2, 3, 4, 5, 6, 7] (by decide +kernel))
  refine lv_aload_n hx hb dX6_copyFrom_11 rfl (lv_at hl 0 rfl) ?_
  refine va_get (D := D) (ci := 4) (v := .ref (ca 0)) (C := RX6) (T := TX6) (N := 5) hx hb hts in6 hown hG.1 hP 0 rfl rfl 1 (by decide) (hts (.fieldLink RX6 21 "ChairCane$Standing" "acts" "LChairCane$Acts;") (mem_b bq_wsX6_copyFrom 0 1 rfl)) (fun _ h9 => h9) rfl dX6_copyFrom_12 ?_
  refine lv_aload_n hx hb dX6_copyFrom_15 rfl (lv_at hl 1 rfl) ?_
  refine va_get (D := D) (ci := 4) (v := .ref (cb 0)) (C := RX6) (T := TX6) (N := 5) hx hb hts in6 hown hG.1 hP 18 rfl rfl 1 (by decide) (hts (.fieldLink RX6 21 "ChairCane$Standing" "acts" "LChairCane$Acts;") (mem_b bq_wsX6_copyFrom 0 1 rfl)) (fun _ h9 => h9) rfl dX6_copyFrom_16 ?_
  obtain ⟨hP, hD⟩ := qm hP hD (q_to [([((sa 0), .inr (4, [.ref (xa 0), .ref (ca 0), .ref (na 0), .int (si 3), .int (si 4)]))] : va_W), rmW k xa q1, acW k ca ac, ntW k na nt, ([((sb 0), .inr (4, [.ref (xb 0), .ref (cb 0), .ref (nb 0), .int (sj 3), .int (sj 4)]))] : va_W), rmW k xb rn, acW k cb ae, ntW k nb nu] [0, 1, 2, 3, 4, 5, 6, 7] [2, 6] [0, 1, 3, 4, 5, 7] (by decide +kernel))
  refine fw_Vv (As := [.ref (cb 0)]) (rest := []) (n := 1) (wp := fun b : OB => acW k ca b ++ (acW k cb ae)) h hx hb hml hown hts hG hA hP hD hS hl.1 _ _ (fun q hq9 => c_X0_copyFrom l D k _  ca cb F  ac ae  hq9) (ci := 0) (q0 := 0) rfl rfl gX6_copyFrom_X0_copyFrom rfl ⟨rfl, rfl, Nat.le_of_ble_eq_true rfl, Nat.le_of_ble_eq_true rfl⟩ (by decide +kernel) (q_l _ _) (q_r _ _) (q_nd _ _) ⟨rfl, rfl, Nat.le_of_ble_eq_true rfl, Nat.le_of_ble_eq_true rfl, Nat.le_of_ble_eq_true rfl⟩ dX6_copyFrom_19 (fun q2 H locs h hP hD hS => ?_)
  obtain ⟨hP, hD⟩ := qm (w2 := ([((sa 0), .inr (4, [.ref (xa 0), .ref (ca 0), .ref (na 0), .int (si 3), .int (si 4)]))] : va_W) ++ (rmW k xa q1 ++ (acW k ca q2 ++ (ntW k na nt ++ (([((sb 0), .inr (4, [.ref (xb 0), .ref (cb 0), .ref (nb 0), .int (sj 3), .int (sj 4)]))] : va_W) ++ (rmW k xb rn ++ (acW k cb ae ++ (ntW k nb nu)))))))) hP hD (q_from [([((sa 0), .inr (4, [.ref (xa 0), .ref (ca 0), .ref (na 0), .int (si 3), .int (si 4)]))] : va_W), rmW k xa q1, acW k ca q2, ntW k na nt, ([((sb 0), .inr (4, [.ref (xb 0), .ref (cb 0), .ref (nb 0), .int (sj 3), .int (sj 4)]))] : va_W), rmW k xb rn, acW k cb ae, ntW k nb nu] [0, 1, 3, 4, 5, 7] [2, 6] [0, 1, 2, 3, 4, 5, 6, 7] (by decide +kernel))
  refine lv_aload_n hx hb dX6_copyFrom_22 rfl (lv_at hl 0 rfl) ?_
  refine va_get (D := D) (ci := 4) (v := .ref (na 0)) (C := RX6) (T := TX6) (N := 5) hx hb hts in6 hown hG.1 hP 0 rfl rfl 2 (by decide) (hts (.fieldLink RX6 28 "ChairCane$Standing" "notes" "LChairCane$Notes;") (mem_b bq_wsX6_copyFrom 0 2 rfl)) (fun _ h9 => h9) rfl dX6_copyFrom_23 ?_
  refine lv_aload_n hx hb dX6_copyFrom_26 rfl (lv_at hl 1 rfl) ?_
  refine va_get (D := D) (ci := 4) (v := .ref (nb 0)) (C := RX6) (T := TX6) (N := 5) hx hb hts in6 hown hG.1 hP 18 rfl rfl 2 (by decide) (hts (.fieldLink RX6 28 "ChairCane$Standing" "notes" "LChairCane$Notes;") (mem_b bq_wsX6_copyFrom 0 2 rfl)) (fun _ h9 => h9) rfl dX6_copyFrom_27 ?_
  obtain ⟨hP, hD⟩ := qm hP hD (q_to [([((sa 0), .inr (4, [.ref (xa 0), .ref (ca 0), .ref (na 0), .int (si 3), .int (si 4)]))] : va_W), rmW k xa q1, acW k ca q2, ntW k na nt, ([((sb 0), .inr (4, [.ref (xb 0), .ref (cb 0), .ref (nb 0), .int (sj 3), .int (sj 4)]))] : va_W), rmW k xb rn, acW k cb ae, ntW k nb nu] [0, 1, 2, 3, 4, 5, 6, 7] [3, 7] [0, 1, 2, 4, 5, 6] (by decide +kernel))
  refine fw_Vv (As := [.ref (nb 0)]) (rest := []) (n := 1) (wp := fun b : OB => ntW k na b ++ (ntW k nb nu)) h hx hb hml hown hts hG hA hP hD hS hl.1 _ _ (fun q hq9 => c_X2_copyFrom l D k _  na nb F  nt nu  hq9) (ci := 1) (q0 := 0) rfl rfl gX6_copyFrom_X2_copyFrom rfl ⟨rfl, rfl, Nat.le_of_ble_eq_true rfl, Nat.le_of_ble_eq_true rfl⟩ (by decide +kernel) (q_l _ _) (q_r _ _) (q_nd _ _) ⟨rfl, rfl, Nat.le_of_ble_eq_true rfl, Nat.le_of_ble_eq_true rfl, Nat.le_of_ble_eq_true rfl⟩ dX6_copyFrom_30 (fun q3 H locs h hP hD hS => ?_)
  obtain ⟨hP, hD⟩ := qm (w2 := ([((sa 0), .inr (4, [.ref (xa 0), .ref (ca 0), .ref (na 0), .int (si 3), .int (si 4)]))] : va_W) ++ (rmW k xa q1 ++ (acW k ca q2 ++ (ntW k na q3 ++ (([((sb 0), .inr (4, [.ref (xb 0), .ref (cb 0), .ref (nb 0), .int (sj 3), .int (sj 4)]))] : va_W) ++ (rmW k xb rn ++ (acW k cb ae ++ (ntW k nb nu)))))))) hP hD (q_from [([((sa 0), .inr (4, [.ref (xa 0), .ref (ca 0), .ref (na 0), .int (si 3), .int (si 4)]))] : va_W), rmW k xa q1, acW k ca q2, ntW k na q3, ([((sb 0), .inr (4, [.ref (xb 0), .ref (cb 0), .ref (nb 0), .int (sj 3), .int (sj 4)]))] : va_W), rmW k xb rn, acW k cb ae, ntW k nb nu] [0, 1, 2, 4, 5, 6] [3, 7] [0, 1, 2, 3, 4, 5, 6, 7] (by decide +kernel))
  refine lv_aload_n hx hb dX6_copyFrom_33 rfl (lv_at hl 0 rfl) ?_
  refine lv_aload_n hx hb dX6_copyFrom_34 rfl (lv_at hl 1 rfl) ?_
  refine va_get (D := D) (ci := 4) (v := .int (sj 3)) (C := RX6) (T := TX6) (N := 5) hx hb hts in6 hown hG.1 hP 18 rfl rfl 3 (by decide) (hts (.fieldLink RX6 32 "ChairCane$Standing" "inForce" "I") (mem_b bq_wsX6_copyFrom 0 3 rfl)) (fun _ h9 => h9) rfl dX6_copyFrom_35 ?_
  refine va_put (D := D) (ci := 4) (v := .int (sj 3)) (C := RX6) (T := TX6) (N := 5) hx hb hts in6 tyX6 tyX6_ok nmX6 hown hG.1 hP hD hS 0 rfl rfl 3 (by decide) (hts (.fieldLink RX6 32 "ChairCane$Standing" "inForce" "I") (mem_b bq_wsX6_copyFrom 0 3 rfl)) (fun _ h9 => h9) rfl (tyX6_ok 3 (by decide)) rfl rfl (Nat.le_of_ble_eq_true rfl) dX6_copyFrom_38 (fun H locs hP hD hS => ?_)
  refine lv_aload_n hx hb dX6_copyFrom_41 rfl (lv_at hl 0 rfl) ?_
  refine lv_aload_n hx hb dX6_copyFrom_42 rfl (lv_at hl 1 rfl) ?_
  refine va_get (D := D) (ci := 4) (v := .int (sj 4)) (C := RX6) (T := TX6) (N := 5) hx hb hts in6 hown hG.1 hP 18 rfl rfl 4 (by decide) (hts (.fieldLink RX6 36 "ChairCane$Standing" "x" "I") (mem_b bq_wsX6_copyFrom 0 4 rfl)) (fun _ h9 => h9) rfl dX6_copyFrom_43 ?_
  refine va_put (D := D) (ci := 4) (v := .int (sj 4)) (C := RX6) (T := TX6) (N := 5) hx hb hts in6 tyX6 tyX6_ok nmX6 hown hG.1 hP hD hS 0 rfl rfl 4 (by decide) (hts (.fieldLink RX6 36 "ChairCane$Standing" "x" "I") (mem_b bq_wsX6_copyFrom 0 4 rfl)) (fun _ h9 => h9) rfl (tyX6_ok 4 (by decide)) rfl rfl (Nat.le_of_ble_eq_true rfl) dX6_copyFrom_46 (fun H locs hP hD hS => ?_)
  exact fw_endV (wp := fun b : (Nat → Int32) × OB × OB × OB => ([((sa 0), .inr (4, [.ref (xa 0), .ref (ca 0), .ref (na 0), .int (b.1 3), .int (b.1 4)]))] : va_W) ++ (rmW k xa b.2.1 ++ (acW k ca b.2.2.1 ++ (ntW k na b.2.2.2 ++ (([((sb 0), .inr (4, [.ref (xb 0), .ref (cb 0), .ref (nb 0), .int (sj 3), .int (sj 4)]))] : va_W) ++ (rmW k xb rn ++ (acW k cb ae ++ (ntW k nb nu)))))))) hx hb hr hlocks h hP hD hS dX6_copyFrom_49
end
