/-! 25.model2 -/
section
/-! the reference goes on, as functions -/
theorem dX9_answer_0 : decode cX9_answer 0 = .ok (.iconst 0, 1) := of_0 ok_iconst_0 (by decide +kernel)
theorem dX9_answer_1 : decode cX9_answer 1 = .ok (.istore 4, 2) := of_u1 ok_istore (by decide +kernel)
theorem dX9_answer_3 : decode cX9_answer 3 = .ok (.iload_n 2, 1) := of_0 ok_iload_n_2 (by decide +kernel)
theorem dX9_answer_4 : decode cX9_answer 4 = .ok (.istore 5, 2) := of_u1 ok_istore (by decide +kernel)
theorem dX9_answer_6 : decode cX9_answer 6 = .ok (.iload 5, 2) := of_u1 ok_iload (by decide +kernel)
theorem dX9_answer_8 : decode cX9_answer 8 = .ok (.iload_n 3, 1) := of_0 ok_iload_n_3 (by decide +kernel)
theorem dX9_answer_9 : decode cX9_answer 9 = .ok (.if_icmp .ge 144, 3) := of_s2 ok_if_icmp_ge 0 144 (by decide +kernel)
theorem dX9_answer_12 : decode cX9_answer 12 = .ok (.aload_n 0, 1) := of_0 ok_aload_n_0 (by decide +kernel)
theorem dX9_answer_13 : decode cX9_answer 13 = .ok (.getfield 69, 3) := of_u2 ok_getfield 0 69 (by decide +kernel)
theorem dX9_answer_16 : decode cX9_answer 16 = .ok (.sipush 300, 3) := of_s2 ok_sipush 1 44 (by decide +kernel)
theorem dX9_answer_19 : decode cX9_answer 19 = .ok (.iload_n 1, 1) := of_0 ok_iload_n_1 (by decide +kernel)
theorem dX9_answer_20 : decode cX9_answer 20 = .ok (.imul, 1) := of_0 ok_imul (by decide +kernel)
theorem dX9_answer_21 : decode cX9_answer 21 = .ok (.iload 5, 2) := of_u1 ok_iload (by decide +kernel)
theorem dX9_answer_23 : decode cX9_answer 23 = .ok (.iadd, 1) := of_0 ok_iadd (by decide +kernel)
theorem dX9_answer_24 : decode cX9_answer 24 = .ok (.iaload, 1) := of_0 ok_iaload (by decide +kernel)
theorem dX9_answer_25 : decode cX9_answer 25 = .ok (.istore 6, 2) := of_u1 ok_istore (by decide +kernel)
theorem dX9_answer_27 : decode cX9_answer 27 = .ok (.aload_n 0, 1) := of_0 ok_aload_n_0 (by decide +kernel)
theorem dX9_answer_28 : decode cX9_answer 28 = .ok (.getfield 72, 3) := of_u2 ok_getfield 0 72 (by decide +kernel)
theorem dX9_answer_31 : decode cX9_answer 31 = .ok (.sipush 300, 3) := of_s2 ok_sipush 1 44 (by decide +kernel)
theorem dX9_answer_34 : decode cX9_answer 34 = .ok (.iload_n 1, 1) := of_0 ok_iload_n_1 (by decide +kernel)
theorem dX9_answer_35 : decode cX9_answer 35 = .ok (.imul, 1) := of_0 ok_imul (by decide +kernel)
theorem dX9_answer_36 : decode cX9_answer 36 = .ok (.iload 5, 2) := of_u1 ok_iload (by decide +kernel)
theorem dX9_answer_38 : decode cX9_answer 38 = .ok (.iadd, 1) := of_0 ok_iadd (by decide +kernel)
theorem dX9_answer_39 : decode cX9_answer 39 = .ok (.iaload, 1) := of_0 ok_iaload (by decide +kernel)
theorem dX9_answer_40 : decode cX9_answer 40 = .ok (.istore 7, 2) := of_u1 ok_istore (by decide +kernel)
theorem dX9_answer_42 : decode cX9_answer 42 = .ok (.iload 6, 2) := of_u1 ok_iload (by decide +kernel)
theorem dX9_answer_44 : decode cX9_answer 44 = .ok (.ifCond .eq 9, 3) := of_s2 ok_ifCond_eq 0 9 (by decide +kernel)
theorem dX9_answer_47 : decode cX9_answer 47 = .ok (.iload 6, 2) := of_u1 ok_iload (by decide +kernel)
theorem dX9_answer_49 : decode cX9_answer 49 = .ok (.iconst 1, 1) := of_0 ok_iconst_1 (by decide +kernel)
theorem dX9_answer_50 : decode cX9_answer 50 = .ok (.if_icmp .ne 34, 3) := of_s2 ok_if_icmp_ne 0 34 (by decide +kernel)
theorem dX9_answer_53 : decode cX9_answer 53 = .ok (.aload_n 0, 1) := of_0 ok_aload_n_0 (by decide +kernel)
theorem dX9_answer_54 : decode cX9_answer 54 = .ok (.getfield 94, 3) := of_u2 ok_getfield 0 94 (by decide +kernel)
theorem dX9_answer_57 : decode cX9_answer 57 = .ok (.iload 4, 2) := of_u1 ok_iload (by decide +kernel)
theorem dX9_answer_59 : decode cX9_answer 59 = .ok (.iload 6, 2) := of_u1 ok_iload (by decide +kernel)
theorem dX9_answer_61 : decode cX9_answer 61 = .ok (.ifCond .ne 9, 3) := of_s2 ok_ifCond_ne 0 9 (by decide +kernel)
theorem dX9_answer_64 : decode cX9_answer 64 = .ok (.iload 7, 2) := of_u1 ok_iload (by decide +kernel)
theorem dX9_answer_66 : decode cX9_answer 66 = .ok (.i2l, 1) := of_0 ok_i2l (by decide +kernel)
theorem dX9_answer_67 : decode cX9_answer 67 = .ok (.goto 10, 3) := of_s2 ok_goto 0 10 (by decide +kernel)
theorem dX9_answer_70 : decode cX9_answer 70 = .ok (.aload_n 0, 1) := of_0 ok_aload_n_0 (by decide +kernel)
theorem dX9_answer_71 : decode cX9_answer 71 = .ok (.getfield 90, 3) := of_u2 ok_getfield 0 90 (by decide +kernel)
theorem dX9_answer_74 : decode cX9_answer 74 = .ok (.iload 7, 2) := of_u1 ok_iload (by decide +kernel)
theorem dX9_answer_76 : decode cX9_answer 76 = .ok (.laload, 1) := of_0 ok_laload (by decide +kernel)
theorem dX9_answer_77 : decode cX9_answer 77 = .ok (.lastore, 1) := of_0 ok_lastore (by decide +kernel)
theorem dX9_answer_78 : decode cX9_answer 78 = .ok (.iinc 4 1, 3) := of_ii ok_iinc 1 (by decide +kernel)
theorem dX9_answer_81 : decode cX9_answer 81 = .ok (.goto 66, 3) := of_s2 ok_goto 0 66 (by decide +kernel)
theorem dX9_answer_84 : decode cX9_answer 84 = .ok (.iload 6, 2) := of_u1 ok_iload (by decide +kernel)
theorem dX9_answer_86 : decode cX9_answer 86 = .ok (.bipush 9, 2) := of_s1 ok_bipush 9 (by decide +kernel)
theorem dX9_answer_88 : decode cX9_answer 88 = .ok (.if_icmp .ne 26, 3) := of_s2 ok_if_icmp_ne 0 26 (by decide +kernel)
theorem dX9_answer_91 : decode cX9_answer 91 = .ok (.aload_n 0, 1) := of_0 ok_aload_n_0 (by decide +kernel)
theorem dX9_answer_92 : decode cX9_answer 92 = .ok (.getfield 94, 3) := of_u2 ok_getfield 0 94 (by decide +kernel)
theorem dX9_answer_95 : decode cX9_answer 95 = .ok (.iload 4, 2) := of_u1 ok_iload (by decide +kernel)
theorem dX9_answer_97 : decode cX9_answer 97 = .ok (.iconst 1, 1) := of_0 ok_iconst_1 (by decide +kernel)
theorem dX9_answer_98 : decode cX9_answer 98 = .ok (.isub, 1) := of_0 ok_isub (by decide +kernel)
theorem dX9_answer_99 : decode cX9_answer 99 = .ok (.lconst 1, 1) := of_0 ok_lconst_1 (by decide +kernel)
theorem dX9_answer_100 : decode cX9_answer 100 = .ok (.aload_n 0, 1) := of_0 ok_aload_n_0 (by decide +kernel)
theorem dX9_answer_101 : decode cX9_answer 101 = .ok (.getfield 94, 3) := of_u2 ok_getfield 0 94 (by decide +kernel)
theorem dX9_answer_104 : decode cX9_answer 104 = .ok (.iload 4, 2) := of_u1 ok_iload (by decide +kernel)
theorem dX9_answer_106 : decode cX9_answer 106 = .ok (.iconst 1, 1) := of_0 ok_iconst_1 (by decide +kernel)
theorem dX9_answer_107 : decode cX9_answer 107 = .ok (.isub, 1) := of_0 ok_isub (by decide +kernel)
theorem dX9_answer_108 : decode cX9_answer 108 = .ok (.laload, 1) := of_0 ok_laload (by decide +kernel)
theorem dX9_answer_109 : decode cX9_answer 109 = .ok (.lsub, 1) := of_0 ok_lsub (by decide +kernel)
theorem dX9_answer_110 : decode cX9_answer 110 = .ok (.lastore, 1) := of_0 ok_lastore (by decide +kernel)
theorem dX9_answer_111 : decode cX9_answer 111 = .ok (.goto 36, 3) := of_s2 ok_goto 0 36 (by decide +kernel)
theorem dX9_answer_114 : decode cX9_answer 114 = .ok (.iinc 4 (-1), 3) := of_ii ok_iinc 255 (by decide +kernel)
theorem dX9_answer_117 : decode cX9_answer 117 = .ok (.aload_n 0, 1) := of_0 ok_aload_n_0 (by decide +kernel)
theorem dX9_answer_118 : decode cX9_answer 118 = .ok (.getfield 94, 3) := of_u2 ok_getfield 0 94 (by decide +kernel)
theorem dX9_answer_121 : decode cX9_answer 121 = .ok (.iload 4, 2) := of_u1 ok_iload (by decide +kernel)
theorem dX9_answer_123 : decode cX9_answer 123 = .ok (.iconst 1, 1) := of_0 ok_iconst_1 (by decide +kernel)
theorem dX9_answer_124 : decode cX9_answer 124 = .ok (.isub, 1) := of_0 ok_isub (by decide +kernel)
theorem dX9_answer_125 : decode cX9_answer 125 = .ok (.iload 6, 2) := of_u1 ok_iload (by decide +kernel)
theorem dX9_answer_127 : decode cX9_answer 127 = .ok (.aload_n 0, 1) := of_0 ok_aload_n_0 (by decide +kernel)
theorem dX9_answer_128 : decode cX9_answer 128 = .ok (.getfield 94, 3) := of_u2 ok_getfield 0 94 (by decide +kernel)
theorem dX9_answer_131 : decode cX9_answer 131 = .ok (.iload 4, 2) := of_u1 ok_iload (by decide +kernel)
theorem dX9_answer_133 : decode cX9_answer 133 = .ok (.iconst 1, 1) := of_0 ok_iconst_1 (by decide +kernel)
theorem dX9_answer_134 : decode cX9_answer 134 = .ok (.isub, 1) := of_0 ok_isub (by decide +kernel)
theorem dX9_answer_135 : decode cX9_answer 135 = .ok (.laload, 1) := of_0 ok_laload (by decide +kernel)
theorem dX9_answer_136 : decode cX9_answer 136 = .ok (.aload_n 0, 1) := of_0 ok_aload_n_0 (by decide +kernel)
theorem dX9_answer_137 : decode cX9_answer 137 = .ok (.getfield 94, 3) := of_u2 ok_getfield 0 94 (by decide +kernel)
theorem dX9_answer_140 : decode cX9_answer 140 = .ok (.iload 4, 2) := of_u1 ok_iload (by decide +kernel)
theorem dX9_answer_142 : decode cX9_answer 142 = .ok (.laload, 1) := of_0 ok_laload (by decide +kernel)
theorem dX9_answer_143 : decode cX9_answer 143 = .ok (.invokestatic 328, 3) := of_u2 ok_invokestatic 1 72 (by decide +kernel)
theorem dX9_answer_146 : decode cX9_answer 146 = .ok (.lastore, 1) := of_0 ok_lastore (by decide +kernel)
theorem dX9_answer_147 : decode cX9_answer 147 = .ok (.iinc 5 1, 3) := of_ii ok_iinc 1 (by decide +kernel)
theorem dX9_answer_150 : decode cX9_answer 150 = .ok (.goto (-144), 3) := of_s2 ok_goto 255 112 (by decide +kernel)
theorem dX9_answer_153 : decode cX9_answer 153 = .ok (.aload_n 0, 1) := of_0 ok_aload_n_0 (by decide +kernel)
theorem dX9_answer_154 : decode cX9_answer 154 = .ok (.getfield 94, 3) := of_u2 ok_getfield 0 94 (by decide +kernel)
theorem dX9_answer_157 : decode cX9_answer 157 = .ok (.iconst 0, 1) := of_0 ok_iconst_0 (by decide +kernel)
theorem dX9_answer_158 : decode cX9_answer 158 = .ok (.laload, 1) := of_0 ok_laload (by decide +kernel)
theorem dX9_answer_159 : decode cX9_answer 159 = .ok (.lreturn, 1) := of_0 ok_lreturn (by decide +kernel)
theorem dX9_begins_0 : decode cX9_begins 0 = .ok (.aload_n 0, 1) := of_0 ok_aload_n_0 (by decide +kernel)
theorem dX9_begins_1 : decode cX9_begins 1 = .ok (.getfield 40, 3) := of_u2 ok_getfield 0 40 (by decide +kernel)
theorem dX9_begins_4 : decode cX9_begins 4 = .ok (.aload_n 0, 1) := of_0 ok_aload_n_0 (by decide +kernel)
theorem dX9_begins_5 : decode cX9_begins 5 = .ok (.getfield 13, 3) := of_u2 ok_getfield 0 13 (by decide +kernel)
theorem dX9_begins_8 : decode cX9_begins 8 = .ok (.invokestatic 289, 3) := of_u2 ok_invokestatic 1 33 (by decide +kernel)
theorem dX9_begins_11 : decode cX9_begins 11 = .ok (.aload_n 0, 1) := of_0 ok_aload_n_0 (by decide +kernel)
theorem dX9_begins_12 : decode cX9_begins 12 = .ok (.getfield 9, 3) := of_u2 ok_getfield 0 9 (by decide +kernel)
theorem dX9_begins_15 : decode cX9_begins 15 = .ok (.iconst 4, 1) := of_0 ok_iconst_4 (by decide +kernel)
theorem dX9_begins_16 : decode cX9_begins 16 = .ok (.iconst 0, 1) := of_0 ok_iconst_0 (by decide +kernel)
theorem dX9_begins_17 : decode cX9_begins 17 = .ok (.iastore, 1) := of_0 ok_iastore (by decide +kernel)
theorem dX9_begins_18 : decode cX9_begins 18 = .ok (.iconst 0, 1) := of_0 ok_iconst_0 (by decide +kernel)
theorem dX9_begins_19 : decode cX9_begins 19 = .ok (.istore_n 1, 1) := of_0 ok_istore_n_1 (by decide +kernel)
theorem dX9_begins_20 : decode cX9_begins 20 = .ok (.iload_n 1, 1) := of_0 ok_iload_n_1 (by decide +kernel)
theorem dX9_begins_21 : decode cX9_begins 21 = .ok (.bipush 8, 2) := of_s1 ok_bipush 8 (by decide +kernel)
theorem dX9_begins_23 : decode cX9_begins 23 = .ok (.if_icmp .ge 16, 3) := of_s2 ok_if_icmp_ge 0 16 (by decide +kernel)
theorem dX9_begins_26 : decode cX9_begins 26 = .ok (.aload_n 0, 1) := of_0 ok_aload_n_0 (by decide +kernel)
theorem dX9_begins_27 : decode cX9_begins 27 = .ok (.getfield 16, 3) := of_u2 ok_getfield 0 16 (by decide +kernel)
theorem dX9_begins_30 : decode cX9_begins 30 = .ok (.iload_n 1, 1) := of_0 ok_iload_n_1 (by decide +kernel)
theorem dX9_begins_31 : decode cX9_begins 31 = .ok (.iconst 0, 1) := of_0 ok_iconst_0 (by decide +kernel)
theorem dX9_begins_32 : decode cX9_begins 32 = .ok (.iastore, 1) := of_0 ok_iastore (by decide +kernel)
theorem dX9_begins_33 : decode cX9_begins 33 = .ok (.iinc 1 1, 3) := of_ii ok_iinc 1 (by decide +kernel)
theorem dX9_begins_36 : decode cX9_begins 36 = .ok (.goto (-16), 3) := of_s2 ok_goto 255 240 (by decide +kernel)
theorem dX9_begins_39 : decode cX9_begins 39 = .ok (.return_, 1) := of_0 ok_return_ (by decide +kernel)
theorem dX9_chair_0 : decode cX9_chair 0 = .ok (.aload_n 0, 1) := of_0 ok_aload_n_0 (by decide +kernel)
theorem dX9_chair_1 : decode cX9_chair 1 = .ok (.iload_n 1, 1) := of_0 ok_iload_n_1 (by decide +kernel)
theorem dX9_chair_2 : decode cX9_chair 2 = .ok (.invokevirtual 351, 3) := of_u2 ok_invokevirtual 1 95 (by decide +kernel)
theorem dX9_chair_5 : decode cX9_chair 5 = .ok (.ifCond .eq 15, 3) := of_s2 ok_ifCond_eq 0 15 (by decide +kernel)
theorem dX9_chair_8 : decode cX9_chair 8 = .ok (.iload_n 2, 1) := of_0 ok_iload_n_2 (by decide +kernel)
theorem dX9_chair_9 : decode cX9_chair 9 = .ok (.i2l, 1) := of_0 ok_i2l (by decide +kernel)
theorem dX9_chair_10 : decode cX9_chair 10 = .ok (.lconst 0, 1) := of_0 ok_lconst_0 (by decide +kernel)
theorem dX9_chair_11 : decode cX9_chair 11 = .ok (.ldc2_w 354, 3) := of_u2 ok_ldc2_w 1 98 (by decide +kernel)
theorem dX9_chair_14 : decode cX9_chair 14 = .ok (.invokestatic 131, 3) := of_u2 ok_invokestatic 0 131 (by decide +kernel)
theorem dX9_chair_17 : decode cX9_chair 17 = .ok (.ifCond .ne 6, 3) := of_s2 ok_ifCond_ne 0 6 (by decide +kernel)
theorem dX9_chair_20 : decode cX9_chair 20 = .ok (.bipush (-2), 2) := of_s1 ok_bipush 254 (by decide +kernel)
theorem dX9_chair_22 : decode cX9_chair 22 = .ok (.ireturn, 1) := of_0 ok_ireturn (by decide +kernel)
theorem dX9_chair_23 : decode cX9_chair 23 = .ok (.aload_n 0, 1) := of_0 ok_aload_n_0 (by decide +kernel)
theorem dX9_chair_24 : decode cX9_chair 24 = .ok (.iload_n 1, 1) := of_0 ok_iload_n_1 (by decide +kernel)
theorem dX9_chair_25 : decode cX9_chair 25 = .ok (.invokevirtual 356, 3) := of_u2 ok_invokevirtual 1 100 (by decide +kernel)
theorem dX9_chair_28 : decode cX9_chair 28 = .ok (.istore_n 3, 1) := of_0 ok_istore_n_3 (by decide +kernel)
theorem dX9_chair_29 : decode cX9_chair 29 = .ok (.iload_n 2, 1) := of_0 ok_iload_n_2 (by decide +kernel)
theorem dX9_chair_30 : decode cX9_chair 30 = .ok (.tableswitch 42 0 2 #[26, 33, 40], 26) := by decide +kernel
theorem dX9_chair_56 : decode cX9_chair 56 = .ok (.aload_n 0, 1) := of_0 ok_aload_n_0 (by decide +kernel)
theorem dX9_chair_57 : decode cX9_chair 57 = .ok (.getfield 25, 3) := of_u2 ok_getfield 0 25 (by decide +kernel)
theorem dX9_chair_60 : decode cX9_chair 60 = .ok (.iload_n 1, 1) := of_0 ok_iload_n_1 (by decide +kernel)
theorem dX9_chair_61 : decode cX9_chair 61 = .ok (.iaload, 1) := of_0 ok_iaload (by decide +kernel)
theorem dX9_chair_62 : decode cX9_chair 62 = .ok (.ireturn, 1) := of_0 ok_ireturn (by decide +kernel)
theorem dX9_chair_63 : decode cX9_chair 63 = .ok (.aload_n 0, 1) := of_0 ok_aload_n_0 (by decide +kernel)
theorem dX9_chair_64 : decode cX9_chair 64 = .ok (.getfield 19, 3) := of_u2 ok_getfield 0 19 (by decide +kernel)
theorem dX9_chair_67 : decode cX9_chair 67 = .ok (.iload_n 1, 1) := of_0 ok_iload_n_1 (by decide +kernel)
theorem dX9_chair_68 : decode cX9_chair 68 = .ok (.iaload, 1) := of_0 ok_iaload (by decide +kernel)
theorem dX9_chair_69 : decode cX9_chair 69 = .ok (.ireturn, 1) := of_0 ok_ireturn (by decide +kernel)
theorem dX9_chair_70 : decode cX9_chair 70 = .ok (.iload_n 3, 1) := of_0 ok_iload_n_3 (by decide +kernel)
theorem dX9_chair_71 : decode cX9_chair 71 = .ok (.ireturn, 1) := of_0 ok_ireturn (by decide +kernel)
theorem dX9_chair_72 : decode cX9_chair 72 = .ok (.iload_n 3, 1) := of_0 ok_iload_n_3 (by decide +kernel)
theorem dX9_chair_73 : decode cX9_chair 73 = .ok (.iconst (-1), 1) := of_0 ok_iconst_m1 (by decide +kernel)
theorem dX9_chair_74 : decode cX9_chair 74 = .ok (.if_icmp .ne 7, 3) := of_s2 ok_if_icmp_ne 0 7 (by decide +kernel)
theorem dX9_chair_77 : decode cX9_chair 77 = .ok (.iconst 0, 1) := of_0 ok_iconst_0 (by decide +kernel)
theorem dX9_chair_78 : decode cX9_chair 78 = .ok (.goto 8, 3) := of_s2 ok_goto 0 8 (by decide +kernel)
theorem dX9_chair_81 : decode cX9_chair 81 = .ok (.aload_n 0, 1) := of_0 ok_aload_n_0 (by decide +kernel)
theorem dX9_chair_82 : decode cX9_chair 82 = .ok (.iload_n 3, 1) := of_0 ok_iload_n_3 (by decide +kernel)
theorem dX9_chair_83 : decode cX9_chair 83 = .ok (.invokevirtual 359, 3) := of_u2 ok_invokevirtual 1 103 (by decide +kernel)
theorem dX9_chair_86 : decode cX9_chair 86 = .ok (.ireturn, 1) := of_0 ok_ireturn (by decide +kernel)
theorem dX9_copies_0 : decode cX9_copies 0 = .ok (.iconst 0, 1) := of_0 ok_iconst_0 (by decide +kernel)
theorem dX9_copies_1 : decode cX9_copies 1 = .ok (.istore_n 2, 1) := of_0 ok_istore_n_2 (by decide +kernel)
theorem dX9_copies_2 : decode cX9_copies 2 = .ok (.iload_n 2, 1) := of_0 ok_iload_n_2 (by decide +kernel)
theorem dX9_copies_3 : decode cX9_copies 3 = .ok (.aload_n 0, 1) := of_0 ok_aload_n_0 (by decide +kernel)
theorem dX9_copies_4 : decode cX9_copies 4 = .ok (.arraylength, 1) := of_0 ok_arraylength (by decide +kernel)
theorem dX9_copies_5 : decode cX9_copies 5 = .ok (.if_icmp .ge 15, 3) := of_s2 ok_if_icmp_ge 0 15 (by decide +kernel)
theorem dX9_copies_8 : decode cX9_copies 8 = .ok (.aload_n 1, 1) := of_0 ok_aload_n_1 (by decide +kernel)
theorem dX9_copies_9 : decode cX9_copies 9 = .ok (.iload_n 2, 1) := of_0 ok_iload_n_2 (by decide +kernel)
theorem dX9_copies_10 : decode cX9_copies 10 = .ok (.aload_n 0, 1) := of_0 ok_aload_n_0 (by decide +kernel)
theorem dX9_copies_11 : decode cX9_copies 11 = .ok (.iload_n 2, 1) := of_0 ok_iload_n_2 (by decide +kernel)
theorem dX9_copies_12 : decode cX9_copies 12 = .ok (.iaload, 1) := of_0 ok_iaload (by decide +kernel)
theorem dX9_copies_13 : decode cX9_copies 13 = .ok (.iastore, 1) := of_0 ok_iastore (by decide +kernel)
theorem dX9_copies_14 : decode cX9_copies 14 = .ok (.iinc 2 1, 3) := of_ii ok_iinc 1 (by decide +kernel)
theorem dX9_copies_17 : decode cX9_copies 17 = .ok (.goto (-15), 3) := of_s2 ok_goto 255 241 (by decide +kernel)
theorem dX9_copies_20 : decode cX9_copies 20 = .ok (.return_, 1) := of_0 ok_return_ (by decide +kernel)
theorem dX9_dropsOf_0 : decode cX9_dropsOf 0 = .ok (.iconst 0, 1) := of_0 ok_iconst_0 (by decide +kernel)
theorem dX9_dropsOf_1 : decode cX9_dropsOf 1 = .ok (.istore_n 2, 1) := of_0 ok_istore_n_2 (by decide +kernel)
theorem dX9_dropsOf_2 : decode cX9_dropsOf 2 = .ok (.iconst 0, 1) := of_0 ok_iconst_0 (by decide +kernel)
theorem dX9_dropsOf_3 : decode cX9_dropsOf 3 = .ok (.istore_n 3, 1) := of_0 ok_istore_n_3 (by decide +kernel)
theorem dX9_dropsOf_4 : decode cX9_dropsOf 4 = .ok (.iload_n 3, 1) := of_0 ok_iload_n_3 (by decide +kernel)
theorem dX9_dropsOf_5 : decode cX9_dropsOf 5 = .ok (.aload_n 0, 1) := of_0 ok_aload_n_0 (by decide +kernel)
theorem dX9_dropsOf_6 : decode cX9_dropsOf 6 = .ok (.getfield 9, 3) := of_u2 ok_getfield 0 9 (by decide +kernel)
theorem dX9_dropsOf_9 : decode cX9_dropsOf 9 = .ok (.iconst 3, 1) := of_0 ok_iconst_3 (by decide +kernel)
theorem dX9_dropsOf_10 : decode cX9_dropsOf 10 = .ok (.iaload, 1) := of_0 ok_iaload (by decide +kernel)
theorem dX9_dropsOf_11 : decode cX9_dropsOf 11 = .ok (.if_icmp .ge 47, 3) := of_s2 ok_if_icmp_ge 0 47 (by decide +kernel)
theorem dX9_dropsOf_14 : decode cX9_dropsOf 14 = .ok (.iload_n 2, 1) := of_0 ok_iload_n_2 (by decide +kernel)
theorem dX9_dropsOf_15 : decode cX9_dropsOf 15 = .ok (.iload_n 1, 1) := of_0 ok_iload_n_1 (by decide +kernel)
theorem dX9_dropsOf_16 : decode cX9_dropsOf 16 = .ok (.iload_n 3, 1) := of_0 ok_iload_n_3 (by decide +kernel)
theorem dX9_dropsOf_17 : decode cX9_dropsOf 17 = .ok (.invokestatic 332, 3) := of_u2 ok_invokestatic 1 76 (by decide +kernel)
theorem dX9_dropsOf_20 : decode cX9_dropsOf 20 = .ok (.ifCond .eq 29, 3) := of_s2 ok_ifCond_eq 0 29 (by decide +kernel)
theorem dX9_dropsOf_23 : decode cX9_dropsOf 23 = .ok (.aload_n 0, 1) := of_0 ok_aload_n_0 (by decide +kernel)
theorem dX9_dropsOf_24 : decode cX9_dropsOf 24 = .ok (.iload_n 1, 1) := of_0 ok_iload_n_1 (by decide +kernel)
theorem dX9_dropsOf_25 : decode cX9_dropsOf 25 = .ok (.iload_n 3, 1) := of_0 ok_iload_n_3 (by decide +kernel)
theorem dX9_dropsOf_26 : decode cX9_dropsOf 26 = .ok (.invokevirtual 344, 3) := of_u2 ok_invokevirtual 1 88 (by decide +kernel)
theorem dX9_dropsOf_29 : decode cX9_dropsOf 29 = .ok (.aload_n 0, 1) := of_0 ok_aload_n_0 (by decide +kernel)
theorem dX9_dropsOf_30 : decode cX9_dropsOf 30 = .ok (.getfield 25, 3) := of_u2 ok_getfield 0 25 (by decide +kernel)
theorem dX9_dropsOf_33 : decode cX9_dropsOf 33 = .ok (.aload_n 0, 1) := of_0 ok_aload_n_0 (by decide +kernel)
theorem dX9_dropsOf_34 : decode cX9_dropsOf 34 = .ok (.getfield 28, 3) := of_u2 ok_getfield 0 28 (by decide +kernel)
theorem dX9_dropsOf_37 : decode cX9_dropsOf 37 = .ok (.iload_n 3, 1) := of_0 ok_iload_n_3 (by decide +kernel)
theorem dX9_dropsOf_38 : decode cX9_dropsOf 38 = .ok (.iaload, 1) := of_0 ok_iaload (by decide +kernel)
theorem dX9_dropsOf_39 : decode cX9_dropsOf 39 = .ok (.iaload, 1) := of_0 ok_iaload (by decide +kernel)
theorem dX9_dropsOf_40 : decode cX9_dropsOf 40 = .ok (.if_icmp .lt 9, 3) := of_s2 ok_if_icmp_lt 0 9 (by decide +kernel)
theorem dX9_dropsOf_43 : decode cX9_dropsOf 43 = .ok (.iconst 1, 1) := of_0 ok_iconst_1 (by decide +kernel)
theorem dX9_dropsOf_44 : decode cX9_dropsOf 44 = .ok (.iload_n 3, 1) := of_0 ok_iload_n_3 (by decide +kernel)
theorem dX9_dropsOf_45 : decode cX9_dropsOf 45 = .ok (.ishl, 1) := of_0 ok_ishl (by decide +kernel)
theorem dX9_dropsOf_46 : decode cX9_dropsOf 46 = .ok (.goto 4, 3) := of_s2 ok_goto 0 4 (by decide +kernel)
theorem dX9_dropsOf_49 : decode cX9_dropsOf 49 = .ok (.iconst 0, 1) := of_0 ok_iconst_0 (by decide +kernel)
theorem dX9_dropsOf_50 : decode cX9_dropsOf 50 = .ok (.ior, 1) := of_0 ok_ior (by decide +kernel)
theorem dX9_dropsOf_51 : decode cX9_dropsOf 51 = .ok (.istore_n 2, 1) := of_0 ok_istore_n_2 (by decide +kernel)
theorem dX9_dropsOf_52 : decode cX9_dropsOf 52 = .ok (.iinc 3 1, 3) := of_ii ok_iinc 1 (by decide +kernel)
theorem dX9_dropsOf_55 : decode cX9_dropsOf 55 = .ok (.goto (-51), 3) := of_s2 ok_goto 255 205 (by decide +kernel)
theorem dX9_dropsOf_58 : decode cX9_dropsOf 58 = .ok (.iload_n 2, 1) := of_0 ok_iload_n_2 (by decide +kernel)
theorem dX9_dropsOf_59 : decode cX9_dropsOf 59 = .ok (.ireturn, 1) := of_0 ok_ireturn (by decide +kernel)
theorem dX9_force_0 : decode cX9_force 0 = .ok (.iload_n 1, 1) := of_0 ok_iload_n_1 (by decide +kernel)
theorem dX9_force_1 : decode cX9_force 1 = .ok (.i2l, 1) := of_0 ok_i2l (by decide +kernel)
theorem dX9_force_2 : decode cX9_force 2 = .ok (.ldc2_w 318, 3) := of_u2 ok_ldc2_w 1 62 (by decide +kernel)
theorem dX9_force_5 : decode cX9_force 5 = .ok (.aload_n 0, 1) := of_0 ok_aload_n_0 (by decide +kernel)
theorem dX9_force_6 : decode cX9_force 6 = .ok (.getfield 312, 3) := of_u2 ok_getfield 1 56 (by decide +kernel)
theorem dX9_force_9 : decode cX9_force 9 = .ok (.iconst 1, 1) := of_0 ok_iconst_1 (by decide +kernel)
theorem dX9_force_10 : decode cX9_force 10 = .ok (.isub, 1) := of_0 ok_isub (by decide +kernel)
theorem dX9_force_11 : decode cX9_force 11 = .ok (.i2l, 1) := of_0 ok_i2l (by decide +kernel)
theorem dX9_force_12 : decode cX9_force 12 = .ok (.invokestatic 131, 3) := of_u2 ok_invokestatic 0 131 (by decide +kernel)
theorem dX9_force_15 : decode cX9_force 15 = .ok (.ifCond .ne 6, 3) := of_s2 ok_ifCond_ne 0 6 (by decide +kernel)
theorem dX9_force_18 : decode cX9_force 18 = .ok (.bipush (-2), 2) := of_s1 ok_bipush 254 (by decide +kernel)
theorem dX9_force_20 : decode cX9_force 20 = .ok (.ireturn, 1) := of_0 ok_ireturn (by decide +kernel)
theorem dX9_force_21 : decode cX9_force 21 = .ok (.aload_n 0, 1) := of_0 ok_aload_n_0 (by decide +kernel)
theorem dX9_force_22 : decode cX9_force 22 = .ok (.getfield 9, 3) := of_u2 ok_getfield 0 9 (by decide +kernel)
theorem dX9_force_25 : decode cX9_force 25 = .ok (.bipush 7, 2) := of_s1 ok_bipush 7 (by decide +kernel)
theorem dX9_force_27 : decode cX9_force 27 = .ok (.iaload, 1) := of_0 ok_iaload (by decide +kernel)
theorem dX9_force_28 : decode cX9_force 28 = .ok (.istore_n 2, 1) := of_0 ok_istore_n_2 (by decide +kernel)
theorem dX9_force_29 : decode cX9_force 29 = .ok (.aload_n 0, 1) := of_0 ok_aload_n_0 (by decide +kernel)
theorem dX9_force_30 : decode cX9_force 30 = .ok (.getfield 9, 3) := of_u2 ok_getfield 0 9 (by decide +kernel)
theorem dX9_force_33 : decode cX9_force 33 = .ok (.bipush 7, 2) := of_s1 ok_bipush 7 (by decide +kernel)
theorem dX9_force_35 : decode cX9_force 35 = .ok (.iload_n 1, 1) := of_0 ok_iload_n_1 (by decide +kernel)
theorem dX9_force_36 : decode cX9_force 36 = .ok (.iastore, 1) := of_0 ok_iastore (by decide +kernel)
theorem dX9_force_37 : decode cX9_force 37 = .ok (.iload_n 2, 1) := of_0 ok_iload_n_2 (by decide +kernel)
theorem dX9_force_38 : decode cX9_force 38 = .ok (.ireturn, 1) := of_0 ok_ireturn (by decide +kernel)
theorem dX9_gives_0 : decode cX9_gives 0 = .ok (.aload_n 0, 1) := of_0 ok_aload_n_0 (by decide +kernel)
theorem dX9_gives_1 : decode cX9_gives 1 = .ok (.getfield 19, 3) := of_u2 ok_getfield 0 19 (by decide +kernel)
theorem dX9_gives_4 : decode cX9_gives 4 = .ok (.aload_n 0, 1) := of_0 ok_aload_n_0 (by decide +kernel)
theorem dX9_gives_5 : decode cX9_gives 5 = .ok (.getfield 28, 3) := of_u2 ok_getfield 0 28 (by decide +kernel)
theorem dX9_gives_8 : decode cX9_gives 8 = .ok (.iload_n 2, 1) := of_0 ok_iload_n_2 (by decide +kernel)
theorem dX9_gives_9 : decode cX9_gives 9 = .ok (.iaload, 1) := of_0 ok_iaload (by decide +kernel)
theorem dX9_gives_10 : decode cX9_gives 10 = .ok (.iaload, 1) := of_0 ok_iaload (by decide +kernel)
theorem dX9_gives_11 : decode cX9_gives 11 = .ok (.istore_n 3, 1) := of_0 ok_istore_n_3 (by decide +kernel)
theorem dX9_gives_12 : decode cX9_gives 12 = .ok (.iload_n 1, 1) := of_0 ok_iload_n_1 (by decide +kernel)
theorem dX9_gives_13 : decode cX9_gives 13 = .ok (.iload_n 2, 1) := of_0 ok_iload_n_2 (by decide +kernel)
theorem dX9_gives_14 : decode cX9_gives 14 = .ok (.invokestatic 332, 3) := of_u2 ok_invokestatic 1 76 (by decide +kernel)
theorem dX9_gives_17 : decode cX9_gives 17 = .ok (.ifCond .eq 30, 3) := of_s2 ok_ifCond_eq 0 30 (by decide +kernel)
theorem dX9_gives_20 : decode cX9_gives 20 = .ok (.aload_n 0, 1) := of_0 ok_aload_n_0 (by decide +kernel)
theorem dX9_gives_21 : decode cX9_gives 21 = .ok (.getfield 13, 3) := of_u2 ok_getfield 0 13 (by decide +kernel)
theorem dX9_gives_24 : decode cX9_gives 24 = .ok (.iload_n 3, 1) := of_0 ok_iload_n_3 (by decide +kernel)
theorem dX9_gives_25 : decode cX9_gives 25 = .ok (.iaload, 1) := of_0 ok_iaload (by decide +kernel)
theorem dX9_gives_26 : decode cX9_gives 26 = .ok (.aload_n 0, 1) := of_0 ok_aload_n_0 (by decide +kernel)
theorem dX9_gives_27 : decode cX9_gives 27 = .ok (.getfield 22, 3) := of_u2 ok_getfield 0 22 (by decide +kernel)
theorem dX9_gives_30 : decode cX9_gives 30 = .ok (.iload_n 2, 1) := of_0 ok_iload_n_2 (by decide +kernel)
theorem dX9_gives_31 : decode cX9_gives 31 = .ok (.iaload, 1) := of_0 ok_iaload (by decide +kernel)
theorem dX9_gives_32 : decode cX9_gives 32 = .ok (.imul, 1) := of_0 ok_imul (by decide +kernel)
theorem dX9_gives_33 : decode cX9_gives 33 = .ok (.aload_n 0, 1) := of_0 ok_aload_n_0 (by decide +kernel)
theorem dX9_gives_34 : decode cX9_gives 34 = .ok (.aload_n 0, 1) := of_0 ok_aload_n_0 (by decide +kernel)
theorem dX9_gives_35 : decode cX9_gives 35 = .ok (.iload_n 1, 1) := of_0 ok_iload_n_1 (by decide +kernel)
theorem dX9_gives_36 : decode cX9_gives 36 = .ok (.iload_n 3, 1) := of_0 ok_iload_n_3 (by decide +kernel)
theorem dX9_gives_37 : decode cX9_gives 37 = .ok (.invokevirtual 335, 3) := of_u2 ok_invokevirtual 1 79 (by decide +kernel)
theorem dX9_gives_40 : decode cX9_gives 40 = .ok (.invokevirtual 338, 3) := of_u2 ok_invokevirtual 1 82 (by decide +kernel)
theorem dX9_gives_43 : decode cX9_gives 43 = .ok (.idiv, 1) := of_0 ok_idiv (by decide +kernel)
theorem dX9_gives_44 : decode cX9_gives 44 = .ok (.goto 4, 3) := of_s2 ok_goto 0 4 (by decide +kernel)
theorem dX9_gives_47 : decode cX9_gives 47 = .ok (.iconst 0, 1) := of_0 ok_iconst_0 (by decide +kernel)
theorem dX9_gives_48 : decode cX9_gives 48 = .ok (.ireturn, 1) := of_0 ok_ireturn (by decide +kernel)
theorem dX9_givesNow_0 : decode cX9_givesNow 0 = .ok (.aload_n 0, 1) := of_0 ok_aload_n_0 (by decide +kernel)
theorem dX9_givesNow_1 : decode cX9_givesNow 1 = .ok (.aload_n 0, 1) := of_0 ok_aload_n_0 (by decide +kernel)
theorem dX9_givesNow_2 : decode cX9_givesNow 2 = .ok (.iconst 1, 1) := of_0 ok_iconst_1 (by decide +kernel)
theorem dX9_givesNow_3 : decode cX9_givesNow 3 = .ok (.invokevirtual 341, 3) := of_u2 ok_invokevirtual 1 85 (by decide +kernel)
theorem dX9_givesNow_6 : decode cX9_givesNow 6 = .ok (.iload_n 1, 1) := of_0 ok_iload_n_1 (by decide +kernel)
theorem dX9_givesNow_7 : decode cX9_givesNow 7 = .ok (.invokevirtual 344, 3) := of_u2 ok_invokevirtual 1 88 (by decide +kernel)
theorem dX9_givesNow_10 : decode cX9_givesNow 10 = .ok (.ireturn, 1) := of_0 ok_ireturn (by decide +kernel)
theorem dX9_goesOn_0 : decode cX9_goesOn 0 = .ok (.aload_n 0, 1) := of_0 ok_aload_n_0 (by decide +kernel)
theorem dX9_goesOn_1 : decode cX9_goesOn 1 = .ok (.invokevirtual 184, 3) := of_u2 ok_invokevirtual 0 184 (by decide +kernel)
theorem dX9_goesOn_4 : decode cX9_goesOn 4 = .ok (.aload_n 0, 1) := of_0 ok_aload_n_0 (by decide +kernel)
theorem dX9_goesOn_5 : decode cX9_goesOn 5 = .ok (.getfield 161, 3) := of_u2 ok_getfield 0 161 (by decide +kernel)
theorem dX9_goesOn_8 : decode cX9_goesOn 8 = .ok (.ifCond .ne 32, 3) := of_s2 ok_ifCond_ne 0 32 (by decide +kernel)
theorem dX9_goesOn_11 : decode cX9_goesOn 11 = .ok (.aload_n 0, 1) := of_0 ok_aload_n_0 (by decide +kernel)
theorem dX9_goesOn_12 : decode cX9_goesOn 12 = .ok (.getfield 164, 3) := of_u2 ok_getfield 0 164 (by decide +kernel)
theorem dX9_goesOn_15 : decode cX9_goesOn 15 = .ok (.aload_n 0, 1) := of_0 ok_aload_n_0 (by decide +kernel)
theorem dX9_goesOn_16 : decode cX9_goesOn 16 = .ok (.getfield 135, 3) := of_u2 ok_getfield 0 135 (by decide +kernel)
theorem dX9_goesOn_19 : decode cX9_goesOn 19 = .ok (.if_icmp .ge 21, 3) := of_s2 ok_if_icmp_ge 0 21 (by decide +kernel)
theorem dX9_goesOn_22 : decode cX9_goesOn 22 = .ok (.aload_n 0, 1) := of_0 ok_aload_n_0 (by decide +kernel)
theorem dX9_goesOn_23 : decode cX9_goesOn 23 = .ok (.invokevirtual 167, 3) := of_u2 ok_invokevirtual 0 167 (by decide +kernel)
theorem dX9_goesOn_26 : decode cX9_goesOn 26 = .ok (.bipush 59, 2) := of_s1 ok_bipush 59 (by decide +kernel)
theorem dX9_goesOn_28 : decode cX9_goesOn 28 = .ok (.if_icmp .eq 12, 3) := of_s2 ok_if_icmp_eq 0 12 (by decide +kernel)
theorem dX9_goesOn_31 : decode cX9_goesOn 31 = .ok (.aload_n 0, 1) := of_0 ok_aload_n_0 (by decide +kernel)
theorem dX9_goesOn_32 : decode cX9_goesOn 32 = .ok (.iconst 0, 1) := of_0 ok_iconst_0 (by decide +kernel)
theorem dX9_goesOn_33 : decode cX9_goesOn 33 = .ok (.aload_n 0, 1) := of_0 ok_aload_n_0 (by decide +kernel)
theorem dX9_goesOn_34 : decode cX9_goesOn 34 = .ok (.getfield 164, 3) := of_u2 ok_getfield 0 164 (by decide +kernel)
theorem dX9_goesOn_37 : decode cX9_goesOn 37 = .ok (.invokevirtual 200, 3) := of_u2 ok_invokevirtual 0 200 (by decide +kernel)
theorem dX9_goesOn_40 : decode cX9_goesOn 40 = .ok (.aload_n 0, 1) := of_0 ok_aload_n_0 (by decide +kernel)
theorem dX9_goesOn_41 : decode cX9_goesOn 41 = .ok (.getfield 161, 3) := of_u2 ok_getfield 0 161 (by decide +kernel)
theorem dX9_goesOn_44 : decode cX9_goesOn 44 = .ok (.ifCond .ne 18, 3) := of_s2 ok_ifCond_ne 0 18 (by decide +kernel)
theorem dX9_goesOn_47 : decode cX9_goesOn 47 = .ok (.aload_n 0, 1) := of_0 ok_aload_n_0 (by decide +kernel)
theorem dX9_goesOn_48 : decode cX9_goesOn 48 = .ok (.getfield 164, 3) := of_u2 ok_getfield 0 164 (by decide +kernel)
theorem dX9_goesOn_51 : decode cX9_goesOn 51 = .ok (.aload_n 0, 1) := of_0 ok_aload_n_0 (by decide +kernel)
theorem dX9_goesOn_52 : decode cX9_goesOn 52 = .ok (.getfield 135, 3) := of_u2 ok_getfield 0 135 (by decide +kernel)
theorem dX9_goesOn_55 : decode cX9_goesOn 55 = .ok (.if_icmp .ge 7, 3) := of_s2 ok_if_icmp_ge 0 7 (by decide +kernel)
theorem dX9_goesOn_58 : decode cX9_goesOn 58 = .ok (.iconst 1, 1) := of_0 ok_iconst_1 (by decide +kernel)
theorem dX9_goesOn_59 : decode cX9_goesOn 59 = .ok (.goto 4, 3) := of_s2 ok_goto 0 4 (by decide +kernel)
theorem dX9_goesOn_62 : decode cX9_goesOn 62 = .ok (.iconst 0, 1) := of_0 ok_iconst_0 (by decide +kernel)
theorem dX9_goesOn_63 : decode cX9_goesOn 63 = .ok (.istore_n 1, 1) := of_0 ok_istore_n_1 (by decide +kernel)
theorem dX9_goesOn_64 : decode cX9_goesOn 64 = .ok (.aload_n 0, 1) := of_0 ok_aload_n_0 (by decide +kernel)
theorem dX9_goesOn_65 : decode cX9_goesOn 65 = .ok (.dup, 1) := of_0 ok_dup (by decide +kernel)
theorem dX9_goesOn_66 : decode cX9_goesOn 66 = .ok (.getfield 164, 3) := of_u2 ok_getfield 0 164 (by decide +kernel)
theorem dX9_goesOn_69 : decode cX9_goesOn 69 = .ok (.iconst 1, 1) := of_0 ok_iconst_1 (by decide +kernel)
theorem dX9_goesOn_70 : decode cX9_goesOn 70 = .ok (.iadd, 1) := of_0 ok_iadd (by decide +kernel)
theorem dX9_goesOn_71 : decode cX9_goesOn 71 = .ok (.putfield 164, 3) := of_u2 ok_putfield 0 164 (by decide +kernel)
theorem dX9_goesOn_74 : decode cX9_goesOn 74 = .ok (.iload_n 1, 1) := of_0 ok_iload_n_1 (by decide +kernel)
theorem dX9_goesOn_75 : decode cX9_goesOn 75 = .ok (.ireturn, 1) := of_0 ok_ireturn (by decide +kernel)
theorem dX9_hall_0 : decode cX9_hall 0 = .ok (.aload_n 0, 1) := of_0 ok_aload_n_0 (by decide +kernel)
theorem dX9_hall_1 : decode cX9_hall 1 = .ok (.invokevirtual 293, 3) := of_u2 ok_invokevirtual 1 37 (by decide +kernel)
theorem dX9_hall_4 : decode cX9_hall 4 = .ok (.aload_n 0, 1) := of_0 ok_aload_n_0 (by decide +kernel)
theorem dX9_hall_5 : decode cX9_hall 5 = .ok (.getfield 161, 3) := of_u2 ok_getfield 0 161 (by decide +kernel)
theorem dX9_hall_8 : decode cX9_hall 8 = .ok (.ifCond .le 11, 3) := of_s2 ok_ifCond_le 0 11 (by decide +kernel)
theorem dX9_hall_11 : decode cX9_hall 11 = .ok (.bipush (-2), 2) := of_s1 ok_bipush 254 (by decide +kernel)
theorem dX9_hall_13 : decode cX9_hall 13 = .ok (.aload_n 0, 1) := of_0 ok_aload_n_0 (by decide +kernel)
theorem dX9_hall_14 : decode cX9_hall 14 = .ok (.getfield 161, 3) := of_u2 ok_getfield 0 161 (by decide +kernel)
theorem dX9_hall_17 : decode cX9_hall 17 = .ok (.isub, 1) := of_0 ok_isub (by decide +kernel)
theorem dX9_hall_18 : decode cX9_hall 18 = .ok (.ireturn, 1) := of_0 ok_ireturn (by decide +kernel)
theorem dX9_hall_19 : decode cX9_hall 19 = .ok (.iconst 0, 1) := of_0 ok_iconst_0 (by decide +kernel)
theorem dX9_hall_20 : decode cX9_hall 20 = .ok (.istore_n 1, 1) := of_0 ok_istore_n_1 (by decide +kernel)
theorem dX9_hall_21 : decode cX9_hall 21 = .ok (.iload_n 1, 1) := of_0 ok_iload_n_1 (by decide +kernel)
theorem dX9_hall_22 : decode cX9_hall 22 = .ok (.iconst 4, 1) := of_0 ok_iconst_4 (by decide +kernel)
theorem dX9_hall_23 : decode cX9_hall 23 = .ok (.if_icmp .ge 21, 3) := of_s2 ok_if_icmp_ge 0 21 (by decide +kernel)
theorem dX9_hall_26 : decode cX9_hall 26 = .ok (.aload_n 0, 1) := of_0 ok_aload_n_0 (by decide +kernel)
theorem dX9_hall_27 : decode cX9_hall 27 = .ok (.getfield 9, 3) := of_u2 ok_getfield 0 9 (by decide +kernel)
theorem dX9_hall_30 : decode cX9_hall 30 = .ok (.iload_n 1, 1) := of_0 ok_iload_n_1 (by decide +kernel)
theorem dX9_hall_31 : decode cX9_hall 31 = .ok (.aload_n 0, 1) := of_0 ok_aload_n_0 (by decide +kernel)
theorem dX9_hall_32 : decode cX9_hall 32 = .ok (.getfield 43, 3) := of_u2 ok_getfield 0 43 (by decide +kernel)
theorem dX9_hall_35 : decode cX9_hall 35 = .ok (.iload_n 1, 1) := of_0 ok_iload_n_1 (by decide +kernel)
theorem dX9_hall_36 : decode cX9_hall 36 = .ok (.iaload, 1) := of_0 ok_iaload (by decide +kernel)
theorem dX9_hall_37 : decode cX9_hall 37 = .ok (.iastore, 1) := of_0 ok_iastore (by decide +kernel)
theorem dX9_hall_38 : decode cX9_hall 38 = .ok (.iinc 1 1, 3) := of_ii ok_iinc 1 (by decide +kernel)
theorem dX9_hall_41 : decode cX9_hall 41 = .ok (.goto (-20), 3) := of_s2 ok_goto 255 236 (by decide +kernel)
theorem dX9_hall_44 : decode cX9_hall 44 = .ok (.aload_n 0, 1) := of_0 ok_aload_n_0 (by decide +kernel)
theorem dX9_hall_45 : decode cX9_hall 45 = .ok (.getfield 9, 3) := of_u2 ok_getfield 0 9 (by decide +kernel)
theorem dX9_hall_48 : decode cX9_hall 48 = .ok (.iconst 5, 1) := of_0 ok_iconst_5 (by decide +kernel)
theorem dX9_hall_49 : decode cX9_hall 49 = .ok (.iconst 0, 1) := of_0 ok_iconst_0 (by decide +kernel)
theorem dX9_hall_50 : decode cX9_hall 50 = .ok (.iastore, 1) := of_0 ok_iastore (by decide +kernel)
theorem dX9_hall_51 : decode cX9_hall 51 = .ok (.aload_n 0, 1) := of_0 ok_aload_n_0 (by decide +kernel)
theorem dX9_hall_52 : decode cX9_hall 52 = .ok (.getfield 46, 3) := of_u2 ok_getfield 0 46 (by decide +kernel)
theorem dX9_hall_55 : decode cX9_hall 55 = .ok (.aload_n 0, 1) := of_0 ok_aload_n_0 (by decide +kernel)
theorem dX9_hall_56 : decode cX9_hall 56 = .ok (.getfield 40, 3) := of_u2 ok_getfield 0 40 (by decide +kernel)
theorem dX9_hall_59 : decode cX9_hall 59 = .ok (.invokestatic 289, 3) := of_u2 ok_invokestatic 1 33 (by decide +kernel)
theorem dX9_hall_62 : decode cX9_hall 62 = .ok (.aload_n 0, 1) := of_0 ok_aload_n_0 (by decide +kernel)
theorem dX9_hall_63 : decode cX9_hall 63 = .ok (.getfield 49, 3) := of_u2 ok_getfield 0 49 (by decide +kernel)
theorem dX9_hall_66 : decode cX9_hall 66 = .ok (.aload_n 0, 1) := of_0 ok_aload_n_0 (by decide +kernel)
theorem dX9_hall_67 : decode cX9_hall 67 = .ok (.getfield 25, 3) := of_u2 ok_getfield 0 25 (by decide +kernel)
theorem dX9_hall_70 : decode cX9_hall 70 = .ok (.invokestatic 289, 3) := of_u2 ok_invokestatic 1 33 (by decide +kernel)
theorem dX9_hall_73 : decode cX9_hall 73 = .ok (.aload_n 0, 1) := of_0 ok_aload_n_0 (by decide +kernel)
theorem dX9_hall_74 : decode cX9_hall 74 = .ok (.getfield 52, 3) := of_u2 ok_getfield 0 52 (by decide +kernel)
theorem dX9_hall_77 : decode cX9_hall 77 = .ok (.aload_n 0, 1) := of_0 ok_aload_n_0 (by decide +kernel)
theorem dX9_hall_78 : decode cX9_hall 78 = .ok (.getfield 19, 3) := of_u2 ok_getfield 0 19 (by decide +kernel)
theorem dX9_hall_81 : decode cX9_hall 81 = .ok (.invokestatic 289, 3) := of_u2 ok_invokestatic 1 33 (by decide +kernel)
theorem dX9_hall_84 : decode cX9_hall 84 = .ok (.aload_n 0, 1) := of_0 ok_aload_n_0 (by decide +kernel)
theorem dX9_hall_85 : decode cX9_hall 85 = .ok (.getfield 55, 3) := of_u2 ok_getfield 0 55 (by decide +kernel)
theorem dX9_hall_88 : decode cX9_hall 88 = .ok (.aload_n 0, 1) := of_0 ok_aload_n_0 (by decide +kernel)
theorem dX9_hall_89 : decode cX9_hall 89 = .ok (.getfield 28, 3) := of_u2 ok_getfield 0 28 (by decide +kernel)
theorem dX9_hall_92 : decode cX9_hall 92 = .ok (.invokestatic 289, 3) := of_u2 ok_invokestatic 1 33 (by decide +kernel)
theorem dX9_hall_95 : decode cX9_hall 95 = .ok (.aload_n 0, 1) := of_0 ok_aload_n_0 (by decide +kernel)
theorem dX9_hall_96 : decode cX9_hall 96 = .ok (.getfield 58, 3) := of_u2 ok_getfield 0 58 (by decide +kernel)
theorem dX9_hall_99 : decode cX9_hall 99 = .ok (.aload_n 0, 1) := of_0 ok_aload_n_0 (by decide +kernel)
theorem dX9_hall_100 : decode cX9_hall 100 = .ok (.getfield 22, 3) := of_u2 ok_getfield 0 22 (by decide +kernel)
theorem dX9_hall_103 : decode cX9_hall 103 = .ok (.invokestatic 289, 3) := of_u2 ok_invokestatic 1 33 (by decide +kernel)
theorem dX9_hall_106 : decode cX9_hall 106 = .ok (.aload_n 0, 1) := of_0 ok_aload_n_0 (by decide +kernel)
theorem dX9_hall_107 : decode cX9_hall 107 = .ok (.invokevirtual 296, 3) := of_u2 ok_invokevirtual 1 40 (by decide +kernel)
theorem dX9_hall_110 : decode cX9_hall 110 = .ok (.aload_n 0, 1) := of_0 ok_aload_n_0 (by decide +kernel)
theorem dX9_hall_111 : decode cX9_hall 111 = .ok (.iconst 0, 1) := of_0 ok_iconst_0 (by decide +kernel)
theorem dX9_hall_112 : decode cX9_hall 112 = .ok (.putfield 299, 3) := of_u2 ok_putfield 1 43 (by decide +kernel)
theorem dX9_hall_115 : decode cX9_hall 115 = .ok (.aload_n 0, 1) := of_0 ok_aload_n_0 (by decide +kernel)
theorem dX9_hall_116 : decode cX9_hall 116 = .ok (.getfield 9, 3) := of_u2 ok_getfield 0 9 (by decide +kernel)
theorem dX9_hall_119 : decode cX9_hall 119 = .ok (.iconst 3, 1) := of_0 ok_iconst_3 (by decide +kernel)
theorem dX9_hall_120 : decode cX9_hall 120 = .ok (.iaload, 1) := of_0 ok_iaload (by decide +kernel)
theorem dX9_hall_121 : decode cX9_hall 121 = .ok (.ireturn, 1) := of_0 ok_ireturn (by decide +kernel)
theorem dX9_onStrand_0 : decode cX9_onStrand 0 = .ok (.iconst 0, 1) := of_0 ok_iconst_0 (by decide +kernel)
theorem dX9_onStrand_1 : decode cX9_onStrand 1 = .ok (.istore_n 3, 1) := of_0 ok_istore_n_3 (by decide +kernel)
theorem dX9_onStrand_2 : decode cX9_onStrand 2 = .ok (.iconst 0, 1) := of_0 ok_iconst_0 (by decide +kernel)
theorem dX9_onStrand_3 : decode cX9_onStrand 3 = .ok (.istore 4, 2) := of_u1 ok_istore (by decide +kernel)
theorem dX9_onStrand_5 : decode cX9_onStrand 5 = .ok (.iload 4, 2) := of_u1 ok_iload (by decide +kernel)
theorem dX9_onStrand_7 : decode cX9_onStrand 7 = .ok (.aload_n 0, 1) := of_0 ok_aload_n_0 (by decide +kernel)
theorem dX9_onStrand_8 : decode cX9_onStrand 8 = .ok (.getfield 9, 3) := of_u2 ok_getfield 0 9 (by decide +kernel)
theorem dX9_onStrand_11 : decode cX9_onStrand 11 = .ok (.iconst 3, 1) := of_0 ok_iconst_3 (by decide +kernel)
theorem dX9_onStrand_12 : decode cX9_onStrand 12 = .ok (.iaload, 1) := of_0 ok_iaload (by decide +kernel)
theorem dX9_onStrand_13 : decode cX9_onStrand 13 = .ok (.if_icmp .ge 45, 3) := of_s2 ok_if_icmp_ge 0 45 (by decide +kernel)
theorem dX9_onStrand_16 : decode cX9_onStrand 16 = .ok (.iload_n 3, 1) := of_0 ok_iload_n_3 (by decide +kernel)
theorem dX9_onStrand_17 : decode cX9_onStrand 17 = .ok (.iload_n 1, 1) := of_0 ok_iload_n_1 (by decide +kernel)
theorem dX9_onStrand_18 : decode cX9_onStrand 18 = .ok (.iload 4, 2) := of_u1 ok_iload (by decide +kernel)
theorem dX9_onStrand_20 : decode cX9_onStrand 20 = .ok (.invokestatic 332, 3) := of_u2 ok_invokestatic 1 76 (by decide +kernel)
theorem dX9_onStrand_23 : decode cX9_onStrand 23 = .ok (.ifCond .eq 26, 3) := of_s2 ok_ifCond_eq 0 26 (by decide +kernel)
theorem dX9_onStrand_26 : decode cX9_onStrand 26 = .ok (.aload_n 0, 1) := of_0 ok_aload_n_0 (by decide +kernel)
theorem dX9_onStrand_27 : decode cX9_onStrand 27 = .ok (.getfield 19, 3) := of_u2 ok_getfield 0 19 (by decide +kernel)
theorem dX9_onStrand_30 : decode cX9_onStrand 30 = .ok (.aload_n 0, 1) := of_0 ok_aload_n_0 (by decide +kernel)
theorem dX9_onStrand_31 : decode cX9_onStrand 31 = .ok (.getfield 28, 3) := of_u2 ok_getfield 0 28 (by decide +kernel)
theorem dX9_onStrand_34 : decode cX9_onStrand 34 = .ok (.iload 4, 2) := of_u1 ok_iload (by decide +kernel)
theorem dX9_onStrand_36 : decode cX9_onStrand 36 = .ok (.iaload, 1) := of_0 ok_iaload (by decide +kernel)
theorem dX9_onStrand_37 : decode cX9_onStrand 37 = .ok (.iaload, 1) := of_0 ok_iaload (by decide +kernel)
theorem dX9_onStrand_38 : decode cX9_onStrand 38 = .ok (.iload_n 2, 1) := of_0 ok_iload_n_2 (by decide +kernel)
theorem dX9_onStrand_39 : decode cX9_onStrand 39 = .ok (.if_icmp .ne 10, 3) := of_s2 ok_if_icmp_ne 0 10 (by decide +kernel)
theorem dX9_onStrand_42 : decode cX9_onStrand 42 = .ok (.iconst 1, 1) := of_0 ok_iconst_1 (by decide +kernel)
theorem dX9_onStrand_43 : decode cX9_onStrand 43 = .ok (.iload 4, 2) := of_u1 ok_iload (by decide +kernel)
theorem dX9_onStrand_45 : decode cX9_onStrand 45 = .ok (.ishl, 1) := of_0 ok_ishl (by decide +kernel)
theorem dX9_onStrand_46 : decode cX9_onStrand 46 = .ok (.goto 4, 3) := of_s2 ok_goto 0 4 (by decide +kernel)
theorem dX9_onStrand_49 : decode cX9_onStrand 49 = .ok (.iconst 0, 1) := of_0 ok_iconst_0 (by decide +kernel)
theorem dX9_onStrand_50 : decode cX9_onStrand 50 = .ok (.ior, 1) := of_0 ok_ior (by decide +kernel)
theorem dX9_onStrand_51 : decode cX9_onStrand 51 = .ok (.istore_n 3, 1) := of_0 ok_istore_n_3 (by decide +kernel)
theorem dX9_onStrand_52 : decode cX9_onStrand 52 = .ok (.iinc 4 1, 3) := of_ii ok_iinc 1 (by decide +kernel)
theorem dX9_onStrand_55 : decode cX9_onStrand 55 = .ok (.goto (-50), 3) := of_s2 ok_goto 255 206 (by decide +kernel)
theorem dX9_onStrand_58 : decode cX9_onStrand 58 = .ok (.iload_n 3, 1) := of_0 ok_iload_n_3 (by decide +kernel)
theorem dX9_onStrand_59 : decode cX9_onStrand 59 = .ok (.ireturn, 1) := of_0 ok_ireturn (by decide +kernel)
theorem dX9_readsAll_0 : decode cX9_readsAll 0 = .ok (.aload_n 0, 1) := of_0 ok_aload_n_0 (by decide +kernel)
theorem dX9_readsAll_1 : decode cX9_readsAll 1 = .ok (.invokevirtual 280, 3) := of_u2 ok_invokevirtual 1 24 (by decide +kernel)
theorem dX9_readsAll_4 : decode cX9_readsAll 4 = .ok (.iconst 0, 1) := of_0 ok_iconst_0 (by decide +kernel)
theorem dX9_readsAll_5 : decode cX9_readsAll 5 = .ok (.istore_n 1, 1) := of_0 ok_istore_n_1 (by decide +kernel)
theorem dX9_readsAll_6 : decode cX9_readsAll 6 = .ok (.iload_n 1, 1) := of_0 ok_iload_n_1 (by decide +kernel)
theorem dX9_readsAll_7 : decode cX9_readsAll 7 = .ok (.iconst 4, 1) := of_0 ok_iconst_4 (by decide +kernel)
theorem dX9_readsAll_8 : decode cX9_readsAll 8 = .ok (.if_icmp .ge 16, 3) := of_s2 ok_if_icmp_ge 0 16 (by decide +kernel)
theorem dX9_readsAll_11 : decode cX9_readsAll 11 = .ok (.aload_n 0, 1) := of_0 ok_aload_n_0 (by decide +kernel)
theorem dX9_readsAll_12 : decode cX9_readsAll 12 = .ok (.getfield 43, 3) := of_u2 ok_getfield 0 43 (by decide +kernel)
theorem dX9_readsAll_15 : decode cX9_readsAll 15 = .ok (.iload_n 1, 1) := of_0 ok_iload_n_1 (by decide +kernel)
theorem dX9_readsAll_16 : decode cX9_readsAll 16 = .ok (.iconst 0, 1) := of_0 ok_iconst_0 (by decide +kernel)
theorem dX9_readsAll_17 : decode cX9_readsAll 17 = .ok (.iastore, 1) := of_0 ok_iastore (by decide +kernel)
theorem dX9_readsAll_18 : decode cX9_readsAll 18 = .ok (.iinc 1 1, 3) := of_ii ok_iinc 1 (by decide +kernel)
theorem dX9_readsAll_21 : decode cX9_readsAll 21 = .ok (.goto (-15), 3) := of_s2 ok_goto 255 241 (by decide +kernel)
theorem dX9_readsAll_24 : decode cX9_readsAll 24 = .ok (.iconst 0, 1) := of_0 ok_iconst_0 (by decide +kernel)
theorem dX9_readsAll_25 : decode cX9_readsAll 25 = .ok (.istore_n 1, 1) := of_0 ok_istore_n_1 (by decide +kernel)
theorem dX9_readsAll_26 : decode cX9_readsAll 26 = .ok (.iconst 1, 1) := of_0 ok_iconst_1 (by decide +kernel)
theorem dX9_readsAll_27 : decode cX9_readsAll 27 = .ok (.istore_n 2, 1) := of_0 ok_istore_n_2 (by decide +kernel)
theorem dX9_readsAll_28 : decode cX9_readsAll 28 = .ok (.iload_n 2, 1) := of_0 ok_iload_n_2 (by decide +kernel)
theorem dX9_readsAll_29 : decode cX9_readsAll 29 = .ok (.ifCond .eq 19, 3) := of_s2 ok_ifCond_eq 0 19 (by decide +kernel)
theorem dX9_readsAll_32 : decode cX9_readsAll 32 = .ok (.aload_n 0, 1) := of_0 ok_aload_n_0 (by decide +kernel)
theorem dX9_readsAll_33 : decode cX9_readsAll 33 = .ok (.iload_n 1, 1) := of_0 ok_iload_n_1 (by decide +kernel)
theorem dX9_readsAll_34 : decode cX9_readsAll 34 = .ok (.invokevirtual 283, 3) := of_u2 ok_invokevirtual 1 27 (by decide +kernel)
theorem dX9_readsAll_37 : decode cX9_readsAll 37 = .ok (.iinc 1 1, 3) := of_ii ok_iinc 1 (by decide +kernel)
theorem dX9_readsAll_40 : decode cX9_readsAll 40 = .ok (.aload_n 0, 1) := of_0 ok_aload_n_0 (by decide +kernel)
theorem dX9_readsAll_41 : decode cX9_readsAll 41 = .ok (.invokevirtual 286, 3) := of_u2 ok_invokevirtual 1 30 (by decide +kernel)
theorem dX9_readsAll_44 : decode cX9_readsAll 44 = .ok (.istore_n 2, 1) := of_0 ok_istore_n_2 (by decide +kernel)
theorem dX9_readsAll_45 : decode cX9_readsAll 45 = .ok (.goto (-17), 3) := of_s2 ok_goto 255 239 (by decide +kernel)
theorem dX9_readsAll_48 : decode cX9_readsAll 48 = .ok (.aload_n 0, 1) := of_0 ok_aload_n_0 (by decide +kernel)
theorem dX9_readsAll_49 : decode cX9_readsAll 49 = .ok (.iconst 0, 1) := of_0 ok_iconst_0 (by decide +kernel)
theorem dX9_readsAll_50 : decode cX9_readsAll 50 = .ok (.putfield 135, 3) := of_u2 ok_putfield 0 135 (by decide +kernel)
theorem dX9_readsAll_53 : decode cX9_readsAll 53 = .ok (.return_, 1) := of_0 ok_return_ (by decide +kernel)
theorem dX9_rule_0 : decode cX9_rule 0 = .ok (.aload_n 0, 1) := of_0 ok_aload_n_0 (by decide +kernel)
theorem dX9_rule_1 : decode cX9_rule 1 = .ok (.getfield 312, 3) := of_u2 ok_getfield 1 56 (by decide +kernel)
theorem dX9_rule_4 : decode cX9_rule 4 = .ok (.bipush 6, 2) := of_s1 ok_bipush 6 (by decide +kernel)
theorem dX9_rule_6 : decode cX9_rule 6 = .ok (.if_icmp .ne 5, 3) := of_s2 ok_if_icmp_ne 0 5 (by decide +kernel)
theorem dX9_rule_9 : decode cX9_rule 9 = .ok (.iconst (-1), 1) := of_0 ok_iconst_m1 (by decide +kernel)
theorem dX9_rule_10 : decode cX9_rule 10 = .ok (.ireturn, 1) := of_0 ok_ireturn (by decide +kernel)
theorem dX9_rule_11 : decode cX9_rule 11 = .ok (.aload_n 0, 1) := of_0 ok_aload_n_0 (by decide +kernel)
theorem dX9_rule_12 : decode cX9_rule 12 = .ok (.aload_n 0, 1) := of_0 ok_aload_n_0 (by decide +kernel)
theorem dX9_rule_13 : decode cX9_rule 13 = .ok (.getfield 312, 3) := of_u2 ok_getfield 1 56 (by decide +kernel)
theorem dX9_rule_16 : decode cX9_rule 16 = .ok (.putfield 191, 3) := of_u2 ok_putfield 0 191 (by decide +kernel)
theorem dX9_rule_19 : decode cX9_rule 19 = .ok (.aload_n 0, 1) := of_0 ok_aload_n_0 (by decide +kernel)
theorem dX9_rule_20 : decode cX9_rule 20 = .ok (.invokevirtual 280, 3) := of_u2 ok_invokevirtual 1 24 (by decide +kernel)
theorem dX9_rule_23 : decode cX9_rule 23 = .ok (.iconst 0, 1) := of_0 ok_iconst_0 (by decide +kernel)
theorem dX9_rule_24 : decode cX9_rule 24 = .ok (.istore_n 1, 1) := of_0 ok_istore_n_1 (by decide +kernel)
theorem dX9_rule_25 : decode cX9_rule 25 = .ok (.iconst 1, 1) := of_0 ok_iconst_1 (by decide +kernel)
theorem dX9_rule_26 : decode cX9_rule 26 = .ok (.istore_n 2, 1) := of_0 ok_istore_n_2 (by decide +kernel)
theorem dX9_rule_27 : decode cX9_rule 27 = .ok (.iload_n 2, 1) := of_0 ok_iload_n_2 (by decide +kernel)
theorem dX9_rule_28 : decode cX9_rule 28 = .ok (.ifCond .eq 19, 3) := of_s2 ok_ifCond_eq 0 19 (by decide +kernel)
theorem dX9_rule_31 : decode cX9_rule 31 = .ok (.aload_n 0, 1) := of_0 ok_aload_n_0 (by decide +kernel)
theorem dX9_rule_32 : decode cX9_rule 32 = .ok (.iload_n 1, 1) := of_0 ok_iload_n_1 (by decide +kernel)
theorem dX9_rule_33 : decode cX9_rule 33 = .ok (.invokevirtual 315, 3) := of_u2 ok_invokevirtual 1 59 (by decide +kernel)
theorem dX9_rule_36 : decode cX9_rule 36 = .ok (.iinc 1 1, 3) := of_ii ok_iinc 1 (by decide +kernel)
theorem dX9_rule_39 : decode cX9_rule 39 = .ok (.aload_n 0, 1) := of_0 ok_aload_n_0 (by decide +kernel)
theorem dX9_rule_40 : decode cX9_rule 40 = .ok (.invokevirtual 286, 3) := of_u2 ok_invokevirtual 1 30 (by decide +kernel)
theorem dX9_rule_43 : decode cX9_rule 43 = .ok (.istore_n 2, 1) := of_0 ok_istore_n_2 (by decide +kernel)
theorem dX9_rule_44 : decode cX9_rule 44 = .ok (.goto (-17), 3) := of_s2 ok_goto 255 239 (by decide +kernel)
theorem dX9_rule_47 : decode cX9_rule 47 = .ok (.aload_n 0, 1) := of_0 ok_aload_n_0 (by decide +kernel)
theorem dX9_rule_48 : decode cX9_rule 48 = .ok (.iconst 0, 1) := of_0 ok_iconst_0 (by decide +kernel)
theorem dX9_rule_49 : decode cX9_rule 49 = .ok (.putfield 135, 3) := of_u2 ok_putfield 0 135 (by decide +kernel)
theorem dX9_rule_52 : decode cX9_rule 52 = .ok (.aload_n 0, 1) := of_0 ok_aload_n_0 (by decide +kernel)
theorem dX9_rule_53 : decode cX9_rule 53 = .ok (.getfield 75, 3) := of_u2 ok_getfield 0 75 (by decide +kernel)
theorem dX9_rule_56 : decode cX9_rule 56 = .ok (.aload_n 0, 1) := of_0 ok_aload_n_0 (by decide +kernel)
theorem dX9_rule_57 : decode cX9_rule 57 = .ok (.getfield 191, 3) := of_u2 ok_getfield 0 191 (by decide +kernel)
theorem dX9_rule_60 : decode cX9_rule 60 = .ok (.iload_n 1, 1) := of_0 ok_iload_n_1 (by decide +kernel)
theorem dX9_rule_61 : decode cX9_rule 61 = .ok (.iastore, 1) := of_0 ok_iastore (by decide +kernel)
theorem dX9_rule_62 : decode cX9_rule 62 = .ok (.aload_n 0, 1) := of_0 ok_aload_n_0 (by decide +kernel)
theorem dX9_rule_63 : decode cX9_rule 63 = .ok (.dup, 1) := of_0 ok_dup (by decide +kernel)
theorem dX9_rule_64 : decode cX9_rule 64 = .ok (.getfield 312, 3) := of_u2 ok_getfield 1 56 (by decide +kernel)
theorem dX9_rule_67 : decode cX9_rule 67 = .ok (.aload_n 0, 1) := of_0 ok_aload_n_0 (by decide +kernel)
theorem dX9_rule_68 : decode cX9_rule 68 = .ok (.getfield 161, 3) := of_u2 ok_getfield 0 161 (by decide +kernel)
theorem dX9_rule_71 : decode cX9_rule 71 = .ok (.ifCond .ne 7, 3) := of_s2 ok_ifCond_ne 0 7 (by decide +kernel)
theorem dX9_rule_74 : decode cX9_rule 74 = .ok (.iconst 1, 1) := of_0 ok_iconst_1 (by decide +kernel)
theorem dX9_rule_75 : decode cX9_rule 75 = .ok (.goto 4, 3) := of_s2 ok_goto 0 4 (by decide +kernel)
theorem dX9_rule_78 : decode cX9_rule 78 = .ok (.iconst 0, 1) := of_0 ok_iconst_0 (by decide +kernel)
theorem dX9_rule_79 : decode cX9_rule 79 = .ok (.iadd, 1) := of_0 ok_iadd (by decide +kernel)
theorem dX9_rule_80 : decode cX9_rule 80 = .ok (.putfield 312, 3) := of_u2 ok_putfield 1 56 (by decide +kernel)
theorem dX9_rule_83 : decode cX9_rule 83 = .ok (.aload_n 0, 1) := of_0 ok_aload_n_0 (by decide +kernel)
theorem dX9_rule_84 : decode cX9_rule 84 = .ok (.getfield 161, 3) := of_u2 ok_getfield 0 161 (by decide +kernel)
theorem dX9_rule_87 : decode cX9_rule 87 = .ok (.ifCond .le 13, 3) := of_s2 ok_ifCond_le 0 13 (by decide +kernel)
theorem dX9_rule_90 : decode cX9_rule 90 = .ok (.bipush (-2), 2) := of_s1 ok_bipush 254 (by decide +kernel)
theorem dX9_rule_92 : decode cX9_rule 92 = .ok (.aload_n 0, 1) := of_0 ok_aload_n_0 (by decide +kernel)
theorem dX9_rule_93 : decode cX9_rule 93 = .ok (.getfield 161, 3) := of_u2 ok_getfield 0 161 (by decide +kernel)
theorem dX9_rule_96 : decode cX9_rule 96 = .ok (.isub, 1) := of_0 ok_isub (by decide +kernel)
theorem dX9_rule_97 : decode cX9_rule 97 = .ok (.goto 9, 3) := of_s2 ok_goto 0 9 (by decide +kernel)
theorem dX9_rule_100 : decode cX9_rule 100 = .ok (.aload_n 0, 1) := of_0 ok_aload_n_0 (by decide +kernel)
theorem dX9_rule_101 : decode cX9_rule 101 = .ok (.getfield 312, 3) := of_u2 ok_getfield 1 56 (by decide +kernel)
theorem dX9_rule_104 : decode cX9_rule 104 = .ok (.iconst 1, 1) := of_0 ok_iconst_1 (by decide +kernel)
theorem dX9_rule_105 : decode cX9_rule 105 = .ok (.isub, 1) := of_0 ok_isub (by decide +kernel)
theorem dX9_rule_106 : decode cX9_rule 106 = .ok (.ireturn, 1) := of_0 ok_ireturn (by decide +kernel)
theorem dX9_ruleClause_0 : decode cX9_ruleClause 0 = .ok (.aload_n 0, 1) := of_0 ok_aload_n_0 (by decide +kernel)
theorem dX9_ruleClause_1 : decode cX9_ruleClause 1 = .ok (.invokevirtual 184, 3) := of_u2 ok_invokevirtual 0 184 (by decide +kernel)
theorem dX9_ruleClause_4 : decode cX9_ruleClause 4 = .ok (.aload_n 0, 1) := of_0 ok_aload_n_0 (by decide +kernel)
theorem dX9_ruleClause_5 : decode cX9_ruleClause 5 = .ok (.getfield 164, 3) := of_u2 ok_getfield 0 164 (by decide +kernel)
theorem dX9_ruleClause_8 : decode cX9_ruleClause 8 = .ok (.istore_n 2, 1) := of_0 ok_istore_n_2 (by decide +kernel)
theorem dX9_ruleClause_9 : decode cX9_ruleClause 9 = .ok (.aload_n 0, 1) := of_0 ok_aload_n_0 (by decide +kernel)
theorem dX9_ruleClause_10 : decode cX9_ruleClause 10 = .ok (.ldc_w 302, 3) := of_u2 ok_ldc_w 1 46 (by decide +kernel)
theorem dX9_ruleClause_13 : decode cX9_ruleClause 13 = .ok (.invokevirtual 187, 3) := of_u2 ok_invokevirtual 0 187 (by decide +kernel)
theorem dX9_ruleClause_16 : decode cX9_ruleClause 16 = .ok (.ifCond .ne 10, 3) := of_s2 ok_ifCond_ne 0 10 (by decide +kernel)
theorem dX9_ruleClause_19 : decode cX9_ruleClause 19 = .ok (.aload_n 0, 1) := of_0 ok_aload_n_0 (by decide +kernel)
theorem dX9_ruleClause_20 : decode cX9_ruleClause 20 = .ok (.iconst 0, 1) := of_0 ok_iconst_0 (by decide +kernel)
theorem dX9_ruleClause_21 : decode cX9_ruleClause 21 = .ok (.iload_n 2, 1) := of_0 ok_iload_n_2 (by decide +kernel)
theorem dX9_ruleClause_22 : decode cX9_ruleClause 22 = .ok (.invokevirtual 200, 3) := of_u2 ok_invokevirtual 0 200 (by decide +kernel)
theorem dX9_ruleClause_25 : decode cX9_ruleClause 25 = .ok (.return_, 1) := of_0 ok_return_ (by decide +kernel)
theorem dX9_ruleClause_26 : decode cX9_ruleClause 26 = .ok (.iload_n 1, 1) := of_0 ok_iload_n_1 (by decide +kernel)
theorem dX9_ruleClause_27 : decode cX9_ruleClause 27 = .ok (.bipush 12, 2) := of_s1 ok_bipush 12 (by decide +kernel)
theorem dX9_ruleClause_29 : decode cX9_ruleClause 29 = .ok (.if_icmp .ne 10, 3) := of_s2 ok_if_icmp_ne 0 10 (by decide +kernel)
theorem dX9_ruleClause_32 : decode cX9_ruleClause 32 = .ok (.aload_n 0, 1) := of_0 ok_aload_n_0 (by decide +kernel)
theorem dX9_ruleClause_33 : decode cX9_ruleClause 33 = .ok (.iconst 4, 1) := of_0 ok_iconst_4 (by decide +kernel)
theorem dX9_ruleClause_34 : decode cX9_ruleClause 34 = .ok (.iload_n 2, 1) := of_0 ok_iload_n_2 (by decide +kernel)
theorem dX9_ruleClause_35 : decode cX9_ruleClause 35 = .ok (.invokevirtual 200, 3) := of_u2 ok_invokevirtual 0 200 (by decide +kernel)
theorem dX9_ruleClause_38 : decode cX9_ruleClause 38 = .ok (.return_, 1) := of_0 ok_return_ (by decide +kernel)
theorem dX9_ruleClause_39 : decode cX9_ruleClause 39 = .ok (.aload_n 0, 1) := of_0 ok_aload_n_0 (by decide +kernel)
theorem dX9_ruleClause_40 : decode cX9_ruleClause 40 = .ok (.dup, 1) := of_0 ok_dup (by decide +kernel)
theorem dX9_ruleClause_41 : decode cX9_ruleClause 41 = .ok (.getfield 164, 3) := of_u2 ok_getfield 0 164 (by decide +kernel)
theorem dX9_ruleClause_44 : decode cX9_ruleClause 44 = .ok (.iconst 3, 1) := of_0 ok_iconst_3 (by decide +kernel)
theorem dX9_ruleClause_45 : decode cX9_ruleClause 45 = .ok (.iadd, 1) := of_0 ok_iadd (by decide +kernel)
theorem dX9_ruleClause_46 : decode cX9_ruleClause 46 = .ok (.putfield 164, 3) := of_u2 ok_putfield 0 164 (by decide +kernel)
theorem dX9_ruleClause_49 : decode cX9_ruleClause 49 = .ok (.bipush 12, 2) := of_s1 ok_bipush 12 (by decide +kernel)
theorem dX9_ruleClause_51 : decode cX9_ruleClause 51 = .ok (.aload_n 0, 1) := of_0 ok_aload_n_0 (by decide +kernel)
theorem dX9_ruleClause_52 : decode cX9_ruleClause 52 = .ok (.getfield 191, 3) := of_u2 ok_getfield 0 191 (by decide +kernel)
theorem dX9_ruleClause_55 : decode cX9_ruleClause 55 = .ok (.imul, 1) := of_0 ok_imul (by decide +kernel)
theorem dX9_ruleClause_56 : decode cX9_ruleClause 56 = .ok (.iload_n 1, 1) := of_0 ok_iload_n_1 (by decide +kernel)
theorem dX9_ruleClause_57 : decode cX9_ruleClause 57 = .ok (.iadd, 1) := of_0 ok_iadd (by decide +kernel)
theorem dX9_ruleClause_58 : decode cX9_ruleClause 58 = .ok (.istore_n 3, 1) := of_0 ok_istore_n_3 (by decide +kernel)
theorem dX9_ruleClause_59 : decode cX9_ruleClause 59 = .ok (.aload_n 0, 1) := of_0 ok_aload_n_0 (by decide +kernel)
theorem dX9_ruleClause_60 : decode cX9_ruleClause 60 = .ok (.getfield 78, 3) := of_u2 ok_getfield 0 78 (by decide +kernel)
theorem dX9_ruleClause_63 : decode cX9_ruleClause 63 = .ok (.iload_n 3, 1) := of_0 ok_iload_n_3 (by decide +kernel)
theorem dX9_ruleClause_64 : decode cX9_ruleClause 64 = .ok (.aload_n 0, 1) := of_0 ok_aload_n_0 (by decide +kernel)
theorem dX9_ruleClause_65 : decode cX9_ruleClause 65 = .ok (.getfield 194, 3) := of_u2 ok_getfield 0 194 (by decide +kernel)
theorem dX9_ruleClause_68 : decode cX9_ruleClause 68 = .ok (.iastore, 1) := of_0 ok_iastore (by decide +kernel)
theorem dX9_ruleClause_69 : decode cX9_ruleClause 69 = .ok (.aload_n 0, 1) := of_0 ok_aload_n_0 (by decide +kernel)
theorem dX9_ruleClause_70 : decode cX9_ruleClause 70 = .ok (.invokevirtual 229, 3) := of_u2 ok_invokevirtual 0 229 (by decide +kernel)
theorem dX9_ruleClause_73 : decode cX9_ruleClause 73 = .ok (.aload_n 0, 1) := of_0 ok_aload_n_0 (by decide +kernel)
theorem dX9_ruleClause_74 : decode cX9_ruleClause 74 = .ok (.getfield 81, 3) := of_u2 ok_getfield 0 81 (by decide +kernel)
theorem dX9_ruleClause_77 : decode cX9_ruleClause 77 = .ok (.iload_n 3, 1) := of_0 ok_iload_n_3 (by decide +kernel)
theorem dX9_ruleClause_78 : decode cX9_ruleClause 78 = .ok (.aload_n 0, 1) := of_0 ok_aload_n_0 (by decide +kernel)
theorem dX9_ruleClause_79 : decode cX9_ruleClause 79 = .ok (.getfield 194, 3) := of_u2 ok_getfield 0 194 (by decide +kernel)
theorem dX9_ruleClause_82 : decode cX9_ruleClause 82 = .ok (.iastore, 1) := of_0 ok_iastore (by decide +kernel)
theorem dX9_ruleClause_83 : decode cX9_ruleClause 83 = .ok (.aload_n 0, 1) := of_0 ok_aload_n_0 (by decide +kernel)
theorem dX9_ruleClause_84 : decode cX9_ruleClause 84 = .ok (.getfield 161, 3) := of_u2 ok_getfield 0 161 (by decide +kernel)
theorem dX9_ruleClause_87 : decode cX9_ruleClause 87 = .ok (.ifCond .ne 17, 3) := of_s2 ok_ifCond_ne 0 17 (by decide +kernel)
theorem dX9_ruleClause_90 : decode cX9_ruleClause 90 = .ok (.aload_n 0, 1) := of_0 ok_aload_n_0 (by decide +kernel)
theorem dX9_ruleClause_91 : decode cX9_ruleClause 91 = .ok (.ldc_w 304, 3) := of_u2 ok_ldc_w 1 48 (by decide +kernel)
theorem dX9_ruleClause_94 : decode cX9_ruleClause 94 = .ok (.invokevirtual 306, 3) := of_u2 ok_invokevirtual 1 50 (by decide +kernel)
theorem dX9_ruleClause_97 : decode cX9_ruleClause 97 = .ok (.ifCond .eq 7, 3) := of_s2 ok_ifCond_eq 0 7 (by decide +kernel)
theorem dX9_ruleClause_100 : decode cX9_ruleClause 100 = .ok (.aload_n 0, 1) := of_0 ok_aload_n_0 (by decide +kernel)
theorem dX9_ruleClause_101 : decode cX9_ruleClause 101 = .ok (.invokevirtual 309, 3) := of_u2 ok_invokevirtual 1 53 (by decide +kernel)
theorem dX9_ruleClause_104 : decode cX9_ruleClause 104 = .ok (.aload_n 0, 1) := of_0 ok_aload_n_0 (by decide +kernel)
theorem dX9_ruleClause_105 : decode cX9_ruleClause 105 = .ok (.getfield 84, 3) := of_u2 ok_getfield 0 84 (by decide +kernel)
theorem dX9_ruleClause_108 : decode cX9_ruleClause 108 = .ok (.iload_n 3, 1) := of_0 ok_iload_n_3 (by decide +kernel)
theorem dX9_ruleClause_109 : decode cX9_ruleClause 109 = .ok (.aload_n 0, 1) := of_0 ok_aload_n_0 (by decide +kernel)
theorem dX9_ruleClause_110 : decode cX9_ruleClause 110 = .ok (.getfield 194, 3) := of_u2 ok_getfield 0 194 (by decide +kernel)
theorem dX9_ruleClause_113 : decode cX9_ruleClause 113 = .ok (.iastore, 1) := of_0 ok_iastore (by decide +kernel)
theorem dX9_ruleClause_114 : decode cX9_ruleClause 114 = .ok (.return_, 1) := of_0 ok_return_ (by decide +kernel)
theorem dX9_settles_0 : decode cX9_settles 0 = .ok (.iconst 0, 1) := of_0 ok_iconst_0 (by decide +kernel)
theorem dX9_settles_1 : decode cX9_settles 1 = .ok (.istore_n 1, 1) := of_0 ok_istore_n_1 (by decide +kernel)
theorem dX9_settles_2 : decode cX9_settles 2 = .ok (.aload_n 0, 1) := of_0 ok_aload_n_0 (by decide +kernel)
theorem dX9_settles_3 : decode cX9_settles 3 = .ok (.aload_n 0, 1) := of_0 ok_aload_n_0 (by decide +kernel)
theorem dX9_settles_4 : decode cX9_settles 4 = .ok (.iconst 1, 1) := of_0 ok_iconst_1 (by decide +kernel)
theorem dX9_settles_5 : decode cX9_settles 5 = .ok (.invokevirtual 341, 3) := of_u2 ok_invokevirtual 1 85 (by decide +kernel)
theorem dX9_settles_8 : decode cX9_settles 8 = .ok (.invokevirtual 367, 3) := of_u2 ok_invokevirtual 1 111 (by decide +kernel)
theorem dX9_settles_11 : decode cX9_settles 11 = .ok (.istore_n 2, 1) := of_0 ok_istore_n_2 (by decide +kernel)
theorem dX9_settles_12 : decode cX9_settles 12 = .ok (.iload_n 2, 1) := of_0 ok_iload_n_2 (by decide +kernel)
theorem dX9_settles_13 : decode cX9_settles 13 = .ok (.ifCond .eq 62, 3) := of_s2 ok_ifCond_eq 0 62 (by decide +kernel)
theorem dX9_settles_16 : decode cX9_settles 16 = .ok (.iconst 0, 1) := of_0 ok_iconst_0 (by decide +kernel)
theorem dX9_settles_17 : decode cX9_settles 17 = .ok (.istore_n 3, 1) := of_0 ok_istore_n_3 (by decide +kernel)
theorem dX9_settles_18 : decode cX9_settles 18 = .ok (.iload_n 3, 1) := of_0 ok_iload_n_3 (by decide +kernel)
theorem dX9_settles_19 : decode cX9_settles 19 = .ok (.aload_n 0, 1) := of_0 ok_aload_n_0 (by decide +kernel)
theorem dX9_settles_20 : decode cX9_settles 20 = .ok (.getfield 9, 3) := of_u2 ok_getfield 0 9 (by decide +kernel)
theorem dX9_settles_23 : decode cX9_settles 23 = .ok (.iconst 3, 1) := of_0 ok_iconst_3 (by decide +kernel)
theorem dX9_settles_24 : decode cX9_settles 24 = .ok (.iaload, 1) := of_0 ok_iaload (by decide +kernel)
theorem dX9_settles_25 : decode cX9_settles 25 = .ok (.if_icmp .ge 33, 3) := of_s2 ok_if_icmp_ge 0 33 (by decide +kernel)
theorem dX9_settles_28 : decode cX9_settles 28 = .ok (.aload_n 0, 1) := of_0 ok_aload_n_0 (by decide +kernel)
theorem dX9_settles_29 : decode cX9_settles 29 = .ok (.getfield 16, 3) := of_u2 ok_getfield 0 16 (by decide +kernel)
theorem dX9_settles_32 : decode cX9_settles 32 = .ok (.iload_n 3, 1) := of_0 ok_iload_n_3 (by decide +kernel)
theorem dX9_settles_33 : decode cX9_settles 33 = .ok (.iload_n 2, 1) := of_0 ok_iload_n_2 (by decide +kernel)
theorem dX9_settles_34 : decode cX9_settles 34 = .ok (.iload_n 3, 1) := of_0 ok_iload_n_3 (by decide +kernel)
theorem dX9_settles_35 : decode cX9_settles 35 = .ok (.invokestatic 332, 3) := of_u2 ok_invokestatic 1 76 (by decide +kernel)
theorem dX9_settles_38 : decode cX9_settles 38 = .ok (.ifCond .eq 7, 3) := of_s2 ok_ifCond_eq 0 7 (by decide +kernel)
theorem dX9_settles_41 : decode cX9_settles 41 = .ok (.iconst 2, 1) := of_0 ok_iconst_2 (by decide +kernel)
theorem dX9_settles_42 : decode cX9_settles 42 = .ok (.goto 9, 3) := of_s2 ok_goto 0 9 (by decide +kernel)
theorem dX9_settles_45 : decode cX9_settles 45 = .ok (.aload_n 0, 1) := of_0 ok_aload_n_0 (by decide +kernel)
theorem dX9_settles_46 : decode cX9_settles 46 = .ok (.getfield 16, 3) := of_u2 ok_getfield 0 16 (by decide +kernel)
theorem dX9_settles_49 : decode cX9_settles 49 = .ok (.iload_n 3, 1) := of_0 ok_iload_n_3 (by decide +kernel)
theorem dX9_settles_50 : decode cX9_settles 50 = .ok (.iaload, 1) := of_0 ok_iaload (by decide +kernel)
theorem dX9_settles_51 : decode cX9_settles 51 = .ok (.iastore, 1) := of_0 ok_iastore (by decide +kernel)
theorem dX9_settles_52 : decode cX9_settles 52 = .ok (.iinc 3 1, 3) := of_ii ok_iinc 1 (by decide +kernel)
theorem dX9_settles_55 : decode cX9_settles 55 = .ok (.goto (-37), 3) := of_s2 ok_goto 255 219 (by decide +kernel)
theorem dX9_settles_58 : decode cX9_settles 58 = .ok (.iload_n 1, 1) := of_0 ok_iload_n_1 (by decide +kernel)
theorem dX9_settles_59 : decode cX9_settles 59 = .ok (.iload_n 2, 1) := of_0 ok_iload_n_2 (by decide +kernel)
theorem dX9_settles_60 : decode cX9_settles 60 = .ok (.ior, 1) := of_0 ok_ior (by decide +kernel)
theorem dX9_settles_61 : decode cX9_settles 61 = .ok (.istore_n 1, 1) := of_0 ok_istore_n_1 (by decide +kernel)
theorem dX9_settles_62 : decode cX9_settles 62 = .ok (.aload_n 0, 1) := of_0 ok_aload_n_0 (by decide +kernel)
theorem dX9_settles_63 : decode cX9_settles 63 = .ok (.aload_n 0, 1) := of_0 ok_aload_n_0 (by decide +kernel)
theorem dX9_settles_64 : decode cX9_settles 64 = .ok (.iconst 1, 1) := of_0 ok_iconst_1 (by decide +kernel)
theorem dX9_settles_65 : decode cX9_settles 65 = .ok (.invokevirtual 341, 3) := of_u2 ok_invokevirtual 1 85 (by decide +kernel)
theorem dX9_settles_68 : decode cX9_settles 68 = .ok (.invokevirtual 367, 3) := of_u2 ok_invokevirtual 1 111 (by decide +kernel)
theorem dX9_settles_71 : decode cX9_settles 71 = .ok (.istore_n 2, 1) := of_0 ok_istore_n_2 (by decide +kernel)
theorem dX9_settles_72 : decode cX9_settles 72 = .ok (.goto (-60), 3) := of_s2 ok_goto 255 196 (by decide +kernel)
theorem dX9_settles_75 : decode cX9_settles 75 = .ok (.iload_n 1, 1) := of_0 ok_iload_n_1 (by decide +kernel)
theorem dX9_settles_76 : decode cX9_settles 76 = .ok (.ireturn, 1) := of_0 ok_ireturn (by decide +kernel)
theorem dX9_sitter_0 : decode cX9_sitter 0 = .ok (.aload_n 0, 1) := of_0 ok_aload_n_0 (by decide +kernel)
theorem dX9_sitter_1 : decode cX9_sitter 1 = .ok (.iload_n 1, 1) := of_0 ok_iload_n_1 (by decide +kernel)
theorem dX9_sitter_2 : decode cX9_sitter 2 = .ok (.invokevirtual 362, 3) := of_u2 ok_invokevirtual 1 106 (by decide +kernel)
theorem dX9_sitter_5 : decode cX9_sitter 5 = .ok (.ifCond .eq 15, 3) := of_s2 ok_ifCond_eq 0 15 (by decide +kernel)
theorem dX9_sitter_8 : decode cX9_sitter 8 = .ok (.iload_n 2, 1) := of_0 ok_iload_n_2 (by decide +kernel)
theorem dX9_sitter_9 : decode cX9_sitter 9 = .ok (.i2l, 1) := of_0 ok_i2l (by decide +kernel)
theorem dX9_sitter_10 : decode cX9_sitter 10 = .ok (.lconst 0, 1) := of_0 ok_lconst_0 (by decide +kernel)
theorem dX9_sitter_11 : decode cX9_sitter 11 = .ok (.ldc2_w 365, 3) := of_u2 ok_ldc2_w 1 109 (by decide +kernel)
theorem dX9_sitter_14 : decode cX9_sitter 14 = .ok (.invokestatic 131, 3) := of_u2 ok_invokestatic 0 131 (by decide +kernel)
theorem dX9_sitter_17 : decode cX9_sitter 17 = .ok (.ifCond .ne 5, 3) := of_s2 ok_ifCond_ne 0 5 (by decide +kernel)
theorem dX9_sitter_20 : decode cX9_sitter 20 = .ok (.iconst (-1), 1) := of_0 ok_iconst_m1 (by decide +kernel)
theorem dX9_sitter_21 : decode cX9_sitter 21 = .ok (.ireturn, 1) := of_0 ok_ireturn (by decide +kernel)
theorem dX9_sitter_22 : decode cX9_sitter 22 = .ok (.iload_n 2, 1) := of_0 ok_iload_n_2 (by decide +kernel)
theorem dX9_sitter_23 : decode cX9_sitter 23 = .ok (.ifCond .ne 12, 3) := of_s2 ok_ifCond_ne 0 12 (by decide +kernel)
theorem dX9_sitter_26 : decode cX9_sitter 26 = .ok (.aload_n 0, 1) := of_0 ok_aload_n_0 (by decide +kernel)
theorem dX9_sitter_27 : decode cX9_sitter 27 = .ok (.getfield 28, 3) := of_u2 ok_getfield 0 28 (by decide +kernel)
theorem dX9_sitter_30 : decode cX9_sitter 30 = .ok (.iload_n 1, 1) := of_0 ok_iload_n_1 (by decide +kernel)
theorem dX9_sitter_31 : decode cX9_sitter 31 = .ok (.iaload, 1) := of_0 ok_iaload (by decide +kernel)
theorem dX9_sitter_32 : decode cX9_sitter 32 = .ok (.goto 23, 3) := of_s2 ok_goto 0 23 (by decide +kernel)
theorem dX9_sitter_35 : decode cX9_sitter 35 = .ok (.iload_n 2, 1) := of_0 ok_iload_n_2 (by decide +kernel)
theorem dX9_sitter_36 : decode cX9_sitter 36 = .ok (.iconst 1, 1) := of_0 ok_iconst_1 (by decide +kernel)
theorem dX9_sitter_37 : decode cX9_sitter 37 = .ok (.if_icmp .ne 12, 3) := of_s2 ok_if_icmp_ne 0 12 (by decide +kernel)
theorem dX9_sitter_40 : decode cX9_sitter 40 = .ok (.aload_n 0, 1) := of_0 ok_aload_n_0 (by decide +kernel)
theorem dX9_sitter_41 : decode cX9_sitter 41 = .ok (.getfield 22, 3) := of_u2 ok_getfield 0 22 (by decide +kernel)
theorem dX9_sitter_44 : decode cX9_sitter 44 = .ok (.iload_n 1, 1) := of_0 ok_iload_n_1 (by decide +kernel)
theorem dX9_sitter_45 : decode cX9_sitter 45 = .ok (.iaload, 1) := of_0 ok_iaload (by decide +kernel)
theorem dX9_sitter_46 : decode cX9_sitter 46 = .ok (.goto 9, 3) := of_s2 ok_goto 0 9 (by decide +kernel)
theorem dX9_sitter_49 : decode cX9_sitter 49 = .ok (.aload_n 0, 1) := of_0 ok_aload_n_0 (by decide +kernel)
theorem dX9_sitter_50 : decode cX9_sitter 50 = .ok (.getfield 16, 3) := of_u2 ok_getfield 0 16 (by decide +kernel)
theorem dX9_sitter_53 : decode cX9_sitter 53 = .ok (.iload_n 1, 1) := of_0 ok_iload_n_1 (by decide +kernel)
theorem dX9_sitter_54 : decode cX9_sitter 54 = .ok (.iaload, 1) := of_0 ok_iaload (by decide +kernel)
theorem dX9_sitter_55 : decode cX9_sitter 55 = .ok (.ireturn, 1) := of_0 ok_ireturn (by decide +kernel)
theorem dX9_sitterOf_0 : decode cX9_sitterOf 0 = .ok (.iconst 0, 1) := of_0 ok_iconst_0 (by decide +kernel)
theorem dX9_sitterOf_1 : decode cX9_sitterOf 1 = .ok (.istore_n 2, 1) := of_0 ok_istore_n_2 (by decide +kernel)
theorem dX9_sitterOf_2 : decode cX9_sitterOf 2 = .ok (.iload_n 2, 1) := of_0 ok_iload_n_2 (by decide +kernel)
theorem dX9_sitterOf_3 : decode cX9_sitterOf 3 = .ok (.aload_n 0, 1) := of_0 ok_aload_n_0 (by decide +kernel)
theorem dX9_sitterOf_4 : decode cX9_sitterOf 4 = .ok (.getfield 9, 3) := of_u2 ok_getfield 0 9 (by decide +kernel)
theorem dX9_sitterOf_7 : decode cX9_sitterOf 7 = .ok (.iconst 3, 1) := of_0 ok_iconst_3 (by decide +kernel)
theorem dX9_sitterOf_8 : decode cX9_sitterOf 8 = .ok (.iaload, 1) := of_0 ok_iaload (by decide +kernel)
theorem dX9_sitterOf_9 : decode cX9_sitterOf 9 = .ok (.if_icmp .ge 21, 3) := of_s2 ok_if_icmp_ge 0 21 (by decide +kernel)
theorem dX9_sitterOf_12 : decode cX9_sitterOf 12 = .ok (.aload_n 0, 1) := of_0 ok_aload_n_0 (by decide +kernel)
theorem dX9_sitterOf_13 : decode cX9_sitterOf 13 = .ok (.getfield 28, 3) := of_u2 ok_getfield 0 28 (by decide +kernel)
theorem dX9_sitterOf_16 : decode cX9_sitterOf 16 = .ok (.iload_n 2, 1) := of_0 ok_iload_n_2 (by decide +kernel)
theorem dX9_sitterOf_17 : decode cX9_sitterOf 17 = .ok (.iaload, 1) := of_0 ok_iaload (by decide +kernel)
theorem dX9_sitterOf_18 : decode cX9_sitterOf 18 = .ok (.iload_n 1, 1) := of_0 ok_iload_n_1 (by decide +kernel)
theorem dX9_sitterOf_19 : decode cX9_sitterOf 19 = .ok (.if_icmp .ne 5, 3) := of_s2 ok_if_icmp_ne 0 5 (by decide +kernel)
theorem dX9_sitterOf_22 : decode cX9_sitterOf 22 = .ok (.iload_n 2, 1) := of_0 ok_iload_n_2 (by decide +kernel)
theorem dX9_sitterOf_23 : decode cX9_sitterOf 23 = .ok (.ireturn, 1) := of_0 ok_ireturn (by decide +kernel)
theorem dX9_sitterOf_24 : decode cX9_sitterOf 24 = .ok (.iinc 2 1, 3) := of_ii ok_iinc 1 (by decide +kernel)
theorem dX9_sitterOf_27 : decode cX9_sitterOf 27 = .ok (.goto (-25), 3) := of_s2 ok_goto 255 231 (by decide +kernel)
theorem dX9_sitterOf_30 : decode cX9_sitterOf 30 = .ok (.iconst (-1), 1) := of_0 ok_iconst_m1 (by decide +kernel)
theorem dX9_sitterOf_31 : decode cX9_sitterOf 31 = .ok (.ireturn, 1) := of_0 ok_ireturn (by decide +kernel)
theorem dX9_starts_0 : decode cX9_starts 0 = .ok (.aload_n 0, 1) := of_0 ok_aload_n_0 (by decide +kernel)
theorem dX9_starts_1 : decode cX9_starts 1 = .ok (.iconst 0, 1) := of_0 ok_iconst_0 (by decide +kernel)
theorem dX9_starts_2 : decode cX9_starts 2 = .ok (.putfield 164, 3) := of_u2 ok_putfield 0 164 (by decide +kernel)
theorem dX9_starts_5 : decode cX9_starts 5 = .ok (.aload_n 0, 1) := of_0 ok_aload_n_0 (by decide +kernel)
theorem dX9_starts_6 : decode cX9_starts 6 = .ok (.iconst 0, 1) := of_0 ok_iconst_0 (by decide +kernel)
theorem dX9_starts_7 : decode cX9_starts 7 = .ok (.putfield 161, 3) := of_u2 ok_putfield 0 161 (by decide +kernel)
theorem dX9_starts_10 : decode cX9_starts 10 = .ok (.aload_n 0, 1) := of_0 ok_aload_n_0 (by decide +kernel)
theorem dX9_starts_11 : decode cX9_starts 11 = .ok (.iconst 0, 1) := of_0 ok_iconst_0 (by decide +kernel)
theorem dX9_starts_12 : decode cX9_starts 12 = .ok (.putfield 194, 3) := of_u2 ok_putfield 0 194 (by decide +kernel)
theorem dX9_starts_15 : decode cX9_starts 15 = .ok (.aload_n 0, 1) := of_0 ok_aload_n_0 (by decide +kernel)
theorem dX9_starts_16 : decode cX9_starts 16 = .ok (.iconst 0, 1) := of_0 ok_iconst_0 (by decide +kernel)
theorem dX9_starts_17 : decode cX9_starts 17 = .ok (.putfield 235, 3) := of_u2 ok_putfield 0 235 (by decide +kernel)
theorem dX9_starts_20 : decode cX9_starts 20 = .ok (.aload_n 0, 1) := of_0 ok_aload_n_0 (by decide +kernel)
theorem dX9_starts_21 : decode cX9_starts 21 = .ok (.iconst 0, 1) := of_0 ok_iconst_0 (by decide +kernel)
theorem dX9_starts_22 : decode cX9_starts 22 = .ok (.putfield 197, 3) := of_u2 ok_putfield 0 197 (by decide +kernel)
theorem dX9_starts_25 : decode cX9_starts 25 = .ok (.return_, 1) := of_0 ok_return_ (by decide +kernel)
theorem dX9_strand_0 : decode cX9_strand 0 = .ok (.aload_n 0, 1) := of_0 ok_aload_n_0 (by decide +kernel)
theorem dX9_strand_1 : decode cX9_strand 1 = .ok (.iload_n 1, 1) := of_0 ok_iload_n_1 (by decide +kernel)
theorem dX9_strand_2 : decode cX9_strand 2 = .ok (.invokevirtual 347, 3) := of_u2 ok_invokevirtual 1 91 (by decide +kernel)
theorem dX9_strand_5 : decode cX9_strand 5 = .ok (.ifCond .eq 12, 3) := of_s2 ok_ifCond_eq 0 12 (by decide +kernel)
theorem dX9_strand_8 : decode cX9_strand 8 = .ok (.aload_n 0, 1) := of_0 ok_aload_n_0 (by decide +kernel)
theorem dX9_strand_9 : decode cX9_strand 9 = .ok (.getfield 13, 3) := of_u2 ok_getfield 0 13 (by decide +kernel)
theorem dX9_strand_12 : decode cX9_strand 12 = .ok (.iload_n 1, 1) := of_0 ok_iload_n_1 (by decide +kernel)
theorem dX9_strand_13 : decode cX9_strand 13 = .ok (.iaload, 1) := of_0 ok_iaload (by decide +kernel)
theorem dX9_strand_14 : decode cX9_strand 14 = .ok (.goto 4, 3) := of_s2 ok_goto 0 4 (by decide +kernel)
theorem dX9_strand_17 : decode cX9_strand 17 = .ok (.iconst (-1), 1) := of_0 ok_iconst_m1 (by decide +kernel)
theorem dX9_strand_18 : decode cX9_strand 18 = .ok (.ireturn, 1) := of_0 ok_ireturn (by decide +kernel)
theorem dX9_those_0 : decode cX9_those 0 = .ok (.iconst 0, 1) := of_0 ok_iconst_0 (by decide +kernel)
theorem dX9_those_1 : decode cX9_those 1 = .ok (.istore_n 2, 1) := of_0 ok_istore_n_2 (by decide +kernel)
theorem dX9_those_2 : decode cX9_those 2 = .ok (.iconst 0, 1) := of_0 ok_iconst_0 (by decide +kernel)
theorem dX9_those_3 : decode cX9_those 3 = .ok (.istore_n 3, 1) := of_0 ok_istore_n_3 (by decide +kernel)
theorem dX9_those_4 : decode cX9_those 4 = .ok (.iload_n 3, 1) := of_0 ok_iload_n_3 (by decide +kernel)
theorem dX9_those_5 : decode cX9_those 5 = .ok (.aload_n 0, 1) := of_0 ok_aload_n_0 (by decide +kernel)
theorem dX9_those_6 : decode cX9_those 6 = .ok (.getfield 9, 3) := of_u2 ok_getfield 0 9 (by decide +kernel)
theorem dX9_those_9 : decode cX9_those 9 = .ok (.iconst 3, 1) := of_0 ok_iconst_3 (by decide +kernel)
theorem dX9_those_10 : decode cX9_those 10 = .ok (.iaload, 1) := of_0 ok_iaload (by decide +kernel)
theorem dX9_those_11 : decode cX9_those 11 = .ok (.if_icmp .ge 29, 3) := of_s2 ok_if_icmp_ge 0 29 (by decide +kernel)
theorem dX9_those_14 : decode cX9_those 14 = .ok (.iload_n 2, 1) := of_0 ok_iload_n_2 (by decide +kernel)
theorem dX9_those_15 : decode cX9_those 15 = .ok (.aload_n 0, 1) := of_0 ok_aload_n_0 (by decide +kernel)
theorem dX9_those_16 : decode cX9_those 16 = .ok (.getfield 16, 3) := of_u2 ok_getfield 0 16 (by decide +kernel)
theorem dX9_those_19 : decode cX9_those 19 = .ok (.iload_n 3, 1) := of_0 ok_iload_n_3 (by decide +kernel)
theorem dX9_those_20 : decode cX9_those 20 = .ok (.iaload, 1) := of_0 ok_iaload (by decide +kernel)
theorem dX9_those_21 : decode cX9_those 21 = .ok (.iload_n 1, 1) := of_0 ok_iload_n_1 (by decide +kernel)
theorem dX9_those_22 : decode cX9_those 22 = .ok (.if_icmp .ne 9, 3) := of_s2 ok_if_icmp_ne 0 9 (by decide +kernel)
theorem dX9_those_25 : decode cX9_those 25 = .ok (.iconst 1, 1) := of_0 ok_iconst_1 (by decide +kernel)
theorem dX9_those_26 : decode cX9_those 26 = .ok (.iload_n 3, 1) := of_0 ok_iload_n_3 (by decide +kernel)
theorem dX9_those_27 : decode cX9_those 27 = .ok (.ishl, 1) := of_0 ok_ishl (by decide +kernel)
theorem dX9_those_28 : decode cX9_those 28 = .ok (.goto 4, 3) := of_s2 ok_goto 0 4 (by decide +kernel)
theorem dX9_those_31 : decode cX9_those 31 = .ok (.iconst 0, 1) := of_0 ok_iconst_0 (by decide +kernel)
theorem dX9_those_32 : decode cX9_those 32 = .ok (.ior, 1) := of_0 ok_ior (by decide +kernel)
theorem dX9_those_33 : decode cX9_those 33 = .ok (.istore_n 2, 1) := of_0 ok_istore_n_2 (by decide +kernel)
theorem dX9_those_34 : decode cX9_those 34 = .ok (.iinc 3 1, 3) := of_ii ok_iinc 1 (by decide +kernel)
theorem dX9_those_37 : decode cX9_those 37 = .ok (.goto (-33), 3) := of_s2 ok_goto 255 223 (by decide +kernel)
theorem dX9_those_40 : decode cX9_those 40 = .ok (.iload_n 2, 1) := of_0 ok_iload_n_2 (by decide +kernel)
theorem dX9_those_41 : decode cX9_those 41 = .ok (.ireturn, 1) := of_0 ok_ireturn (by decide +kernel)
theorem dX9_wanted_0 : decode cX9_wanted 0 = .ok (.aload_n 0, 1) := of_0 ok_aload_n_0 (by decide +kernel)
theorem dX9_wanted_1 : decode cX9_wanted 1 = .ok (.getfield 9, 3) := of_u2 ok_getfield 0 9 (by decide +kernel)
theorem dX9_wanted_4 : decode cX9_wanted 4 = .ok (.bipush 7, 2) := of_s1 ok_bipush 7 (by decide +kernel)
theorem dX9_wanted_6 : decode cX9_wanted 6 = .ok (.iaload, 1) := of_0 ok_iaload (by decide +kernel)
theorem dX9_wanted_7 : decode cX9_wanted 7 = .ok (.istore_n 1, 1) := of_0 ok_istore_n_1 (by decide +kernel)
theorem dX9_wanted_8 : decode cX9_wanted 8 = .ok (.bipush 12, 2) := of_s1 ok_bipush 12 (by decide +kernel)
theorem dX9_wanted_10 : decode cX9_wanted 10 = .ok (.iload_n 1, 1) := of_0 ok_iload_n_1 (by decide +kernel)
theorem dX9_wanted_11 : decode cX9_wanted 11 = .ok (.imul, 1) := of_0 ok_imul (by decide +kernel)
theorem dX9_wanted_12 : decode cX9_wanted 12 = .ok (.istore_n 2, 1) := of_0 ok_istore_n_2 (by decide +kernel)
theorem dX9_wanted_13 : decode cX9_wanted 13 = .ok (.iload_n 2, 1) := of_0 ok_iload_n_2 (by decide +kernel)
theorem dX9_wanted_14 : decode cX9_wanted 14 = .ok (.bipush 12, 2) := of_s1 ok_bipush 12 (by decide +kernel)
theorem dX9_wanted_16 : decode cX9_wanted 16 = .ok (.iload_n 1, 1) := of_0 ok_iload_n_1 (by decide +kernel)
theorem dX9_wanted_17 : decode cX9_wanted 17 = .ok (.imul, 1) := of_0 ok_imul (by decide +kernel)
theorem dX9_wanted_18 : decode cX9_wanted 18 = .ok (.aload_n 0, 1) := of_0 ok_aload_n_0 (by decide +kernel)
theorem dX9_wanted_19 : decode cX9_wanted 19 = .ok (.getfield 75, 3) := of_u2 ok_getfield 0 75 (by decide +kernel)
theorem dX9_wanted_22 : decode cX9_wanted 22 = .ok (.iload_n 1, 1) := of_0 ok_iload_n_1 (by decide +kernel)
theorem dX9_wanted_23 : decode cX9_wanted 23 = .ok (.iaload, 1) := of_0 ok_iaload (by decide +kernel)
theorem dX9_wanted_24 : decode cX9_wanted 24 = .ok (.iadd, 1) := of_0 ok_iadd (by decide +kernel)
theorem dX9_wanted_25 : decode cX9_wanted 25 = .ok (.if_icmp .ge 64, 3) := of_s2 ok_if_icmp_ge 0 64 (by decide +kernel)
theorem dX9_wanted_28 : decode cX9_wanted 28 = .ok (.aload_n 0, 1) := of_0 ok_aload_n_0 (by decide +kernel)
theorem dX9_wanted_29 : decode cX9_wanted 29 = .ok (.getfield 81, 3) := of_u2 ok_getfield 0 81 (by decide +kernel)
theorem dX9_wanted_32 : decode cX9_wanted 32 = .ok (.iload_n 2, 1) := of_0 ok_iload_n_2 (by decide +kernel)
theorem dX9_wanted_33 : decode cX9_wanted 33 = .ok (.iaload, 1) := of_0 ok_iaload (by decide +kernel)
theorem dX9_wanted_34 : decode cX9_wanted 34 = .ok (.aload_n 0, 1) := of_0 ok_aload_n_0 (by decide +kernel)
theorem dX9_wanted_35 : decode cX9_wanted 35 = .ok (.getfield 84, 3) := of_u2 ok_getfield 0 84 (by decide +kernel)
theorem dX9_wanted_38 : decode cX9_wanted 38 = .ok (.iload_n 2, 1) := of_0 ok_iload_n_2 (by decide +kernel)
theorem dX9_wanted_39 : decode cX9_wanted 39 = .ok (.iaload, 1) := of_0 ok_iaload (by decide +kernel)
theorem dX9_wanted_40 : decode cX9_wanted 40 = .ok (.if_icmp .eq 25, 3) := of_s2 ok_if_icmp_eq 0 25 (by decide +kernel)
theorem dX9_wanted_43 : decode cX9_wanted 43 = .ok (.aload_n 0, 1) := of_0 ok_aload_n_0 (by decide +kernel)
theorem dX9_wanted_44 : decode cX9_wanted 44 = .ok (.iload_n 1, 1) := of_0 ok_iload_n_1 (by decide +kernel)
theorem dX9_wanted_45 : decode cX9_wanted 45 = .ok (.aload_n 0, 1) := of_0 ok_aload_n_0 (by decide +kernel)
theorem dX9_wanted_46 : decode cX9_wanted 46 = .ok (.getfield 81, 3) := of_u2 ok_getfield 0 81 (by decide +kernel)
theorem dX9_wanted_49 : decode cX9_wanted 49 = .ok (.iload_n 2, 1) := of_0 ok_iload_n_2 (by decide +kernel)
theorem dX9_wanted_50 : decode cX9_wanted 50 = .ok (.iaload, 1) := of_0 ok_iaload (by decide +kernel)
theorem dX9_wanted_51 : decode cX9_wanted 51 = .ok (.aload_n 0, 1) := of_0 ok_aload_n_0 (by decide +kernel)
theorem dX9_wanted_52 : decode cX9_wanted 52 = .ok (.getfield 84, 3) := of_u2 ok_getfield 0 84 (by decide +kernel)
theorem dX9_wanted_55 : decode cX9_wanted 55 = .ok (.iload_n 2, 1) := of_0 ok_iload_n_2 (by decide +kernel)
theorem dX9_wanted_56 : decode cX9_wanted 56 = .ok (.iaload, 1) := of_0 ok_iaload (by decide +kernel)
theorem dX9_wanted_57 : decode cX9_wanted 57 = .ok (.invokevirtual 320, 3) := of_u2 ok_invokevirtual 1 64 (by decide +kernel)
theorem dX9_wanted_60 : decode cX9_wanted 60 = .ok (.lconst 1, 1) := of_0 ok_lconst_1 (by decide +kernel)
theorem dX9_wanted_61 : decode cX9_wanted 61 = .ok (.lcmp, 1) := of_0 ok_lcmp (by decide +kernel)
theorem dX9_wanted_62 : decode cX9_wanted 62 = .ok (.ifCond .ne 21, 3) := of_s2 ok_ifCond_ne 0 21 (by decide +kernel)
theorem dX9_wanted_65 : decode cX9_wanted 65 = .ok (.aload_n 0, 1) := of_0 ok_aload_n_0 (by decide +kernel)
theorem dX9_wanted_66 : decode cX9_wanted 66 = .ok (.iload_n 1, 1) := of_0 ok_iload_n_1 (by decide +kernel)
theorem dX9_wanted_67 : decode cX9_wanted 67 = .ok (.aload_n 0, 1) := of_0 ok_aload_n_0 (by decide +kernel)
theorem dX9_wanted_68 : decode cX9_wanted 68 = .ok (.getfield 78, 3) := of_u2 ok_getfield 0 78 (by decide +kernel)
theorem dX9_wanted_71 : decode cX9_wanted 71 = .ok (.iload_n 2, 1) := of_0 ok_iload_n_2 (by decide +kernel)
theorem dX9_wanted_72 : decode cX9_wanted 72 = .ok (.iaload, 1) := of_0 ok_iaload (by decide +kernel)
theorem dX9_wanted_73 : decode cX9_wanted 73 = .ok (.aload_n 0, 1) := of_0 ok_aload_n_0 (by decide +kernel)
theorem dX9_wanted_74 : decode cX9_wanted 74 = .ok (.getfield 81, 3) := of_u2 ok_getfield 0 81 (by decide +kernel)
theorem dX9_wanted_77 : decode cX9_wanted 77 = .ok (.iload_n 2, 1) := of_0 ok_iload_n_2 (by decide +kernel)
theorem dX9_wanted_78 : decode cX9_wanted 78 = .ok (.iaload, 1) := of_0 ok_iaload (by decide +kernel)
theorem dX9_wanted_79 : decode cX9_wanted 79 = .ok (.invokevirtual 320, 3) := of_u2 ok_invokevirtual 1 64 (by decide +kernel)
theorem dX9_wanted_82 : decode cX9_wanted 82 = .ok (.lreturn, 1) := of_0 ok_lreturn (by decide +kernel)
theorem dX9_wanted_83 : decode cX9_wanted 83 = .ok (.iinc 2 1, 3) := of_ii ok_iinc 1 (by decide +kernel)
theorem dX9_wanted_86 : decode cX9_wanted 86 = .ok (.goto (-73), 3) := of_s2 ok_goto 255 183 (by decide +kernel)
theorem dX9_wanted_89 : decode cX9_wanted 89 = .ok (.lconst 0, 1) := of_0 ok_lconst_0 (by decide +kernel)
theorem dX9_wanted_90 : decode cX9_wanted 90 = .ok (.lreturn, 1) := of_0 ok_lreturn (by decide +kernel)
theorem dX9_weightOf_0 : decode cX9_weightOf 0 = .ok (.iconst 0, 1) := of_0 ok_iconst_0 (by decide +kernel)
theorem dX9_weightOf_1 : decode cX9_weightOf 1 = .ok (.istore_n 2, 1) := of_0 ok_istore_n_2 (by decide +kernel)
theorem dX9_weightOf_2 : decode cX9_weightOf 2 = .ok (.iconst 0, 1) := of_0 ok_iconst_0 (by decide +kernel)
theorem dX9_weightOf_3 : decode cX9_weightOf 3 = .ok (.istore_n 3, 1) := of_0 ok_istore_n_3 (by decide +kernel)
theorem dX9_weightOf_4 : decode cX9_weightOf 4 = .ok (.iload_n 3, 1) := of_0 ok_iload_n_3 (by decide +kernel)
theorem dX9_weightOf_5 : decode cX9_weightOf 5 = .ok (.aload_n 0, 1) := of_0 ok_aload_n_0 (by decide +kernel)
theorem dX9_weightOf_6 : decode cX9_weightOf 6 = .ok (.getfield 9, 3) := of_u2 ok_getfield 0 9 (by decide +kernel)
theorem dX9_weightOf_9 : decode cX9_weightOf 9 = .ok (.iconst 3, 1) := of_0 ok_iconst_3 (by decide +kernel)
theorem dX9_weightOf_10 : decode cX9_weightOf 10 = .ok (.iaload, 1) := of_0 ok_iaload (by decide +kernel)
theorem dX9_weightOf_11 : decode cX9_weightOf 11 = .ok (.if_icmp .ge 30, 3) := of_s2 ok_if_icmp_ge 0 30 (by decide +kernel)
theorem dX9_weightOf_14 : decode cX9_weightOf 14 = .ok (.iload_n 2, 1) := of_0 ok_iload_n_2 (by decide +kernel)
theorem dX9_weightOf_15 : decode cX9_weightOf 15 = .ok (.iload_n 1, 1) := of_0 ok_iload_n_1 (by decide +kernel)
theorem dX9_weightOf_16 : decode cX9_weightOf 16 = .ok (.iload_n 3, 1) := of_0 ok_iload_n_3 (by decide +kernel)
theorem dX9_weightOf_17 : decode cX9_weightOf 17 = .ok (.invokestatic 332, 3) := of_u2 ok_invokestatic 1 76 (by decide +kernel)
theorem dX9_weightOf_20 : decode cX9_weightOf 20 = .ok (.ifCond .eq 12, 3) := of_s2 ok_ifCond_eq 0 12 (by decide +kernel)
theorem dX9_weightOf_23 : decode cX9_weightOf 23 = .ok (.aload_n 0, 1) := of_0 ok_aload_n_0 (by decide +kernel)
theorem dX9_weightOf_24 : decode cX9_weightOf 24 = .ok (.getfield 22, 3) := of_u2 ok_getfield 0 22 (by decide +kernel)
theorem dX9_weightOf_27 : decode cX9_weightOf 27 = .ok (.iload_n 3, 1) := of_0 ok_iload_n_3 (by decide +kernel)
theorem dX9_weightOf_28 : decode cX9_weightOf 28 = .ok (.iaload, 1) := of_0 ok_iaload (by decide +kernel)
theorem dX9_weightOf_29 : decode cX9_weightOf 29 = .ok (.goto 4, 3) := of_s2 ok_goto 0 4 (by decide +kernel)
theorem dX9_weightOf_32 : decode cX9_weightOf 32 = .ok (.iconst 0, 1) := of_0 ok_iconst_0 (by decide +kernel)
theorem dX9_weightOf_33 : decode cX9_weightOf 33 = .ok (.iadd, 1) := of_0 ok_iadd (by decide +kernel)
theorem dX9_weightOf_34 : decode cX9_weightOf 34 = .ok (.istore_n 2, 1) := of_0 ok_istore_n_2 (by decide +kernel)
theorem dX9_weightOf_35 : decode cX9_weightOf 35 = .ok (.iinc 3 1, 3) := of_ii ok_iinc 1 (by decide +kernel)
theorem dX9_weightOf_38 : decode cX9_weightOf 38 = .ok (.goto (-34), 3) := of_s2 ok_goto 255 222 (by decide +kernel)
theorem dX9_weightOf_41 : decode cX9_weightOf 41 = .ok (.iload_n 2, 1) := of_0 ok_iload_n_2 (by decide +kernel)
theorem dX9_weightOf_42 : decode cX9_weightOf 42 = .ok (.ireturn, 1) := of_0 ok_ireturn (by decide +kernel)
set_option maxRecDepth 20000 in
theorem bq_wsX9_answer : subq wsX9_answer [[.fieldLink RX9 69 "ChairCaneModel" "sort" "[I", .fieldLink RX9 72 "ChairCaneModel" "number" "[I", .fieldLink RX9 94 "ChairCaneModel" "stack" "[J", .fieldLink RX9 90 "ChairCaneModel" "asked" "[J", .methodLink RX9 328 yX9_both, .static yX9_both, .initialized RX9, .code yX9_both cX9_both 5 (some .long), .methodLink RX9 324 yX9_truth, .static yX9_truth, .code yX9_truth cX9_truth 1 (some .long)]] := ⟨(fun _ h => (List.mem_cons_of_mem _ (List.mem_append_left _ h))), trivial⟩
set_option maxRecDepth 20000 in
theorem ggX9_answer_X9_both : GoodIn wsX9_answer wsX9_both := (goodIn_cons (good_rb bq_wsX9_answer ([(0, 7)] : List (Nat × Nat)) rfl (by decide +kernel)) (good_rb bq_wsX9_answer ([(0, 8), (0, 9), (0, 6), (0, 10)] : List (Nat × Nat)) rfl (by decide +kernel)))
set_option maxRecDepth 20000 in
theorem gX9_answer_X9_both : GoodIn wsX9_answer (va_wsS RX9 328 yX9_both wsX9_both) := goodIn_app (good_rp ([5, 6, 7] : List Nat) rfl (by decide +kernel)) ggX9_answer_X9_both
set_option maxRecDepth 20000 in
theorem bq_wsX9_begins : subq wsX9_begins [[.fieldLink RX9 40 "ChairCaneModel" "toldCane" "[I", .fieldLink RX9 13 "ChairCaneModel" "cane" "[I", .fieldLink RX9 9 "ChairCaneModel" "scalar" "[I", .fieldLink RX9 16 "ChairCaneModel" "is" "[I", .methodLink RX9 289 yX9_copies, .static yX9_copies, .initialized RX9, .code yX9_copies cX9_copies 3 none]] := ⟨(fun _ h => (List.mem_cons_of_mem _ (List.mem_append_left _ h))), trivial⟩
set_option maxRecDepth 20000 in
theorem ggX9_begins_X9_copies : GoodIn wsX9_begins wsX9_copies := (goodIn_cons (good_rb bq_wsX9_begins ([(0, 7)] : List (Nat × Nat)) rfl (by decide +kernel)) (good_rb bq_wsX9_begins ([] : List (Nat × Nat)) rfl (by decide +kernel)))
set_option maxRecDepth 20000 in
theorem gX9_begins_X9_copies : GoodIn wsX9_begins (va_wsS RX9 289 yX9_copies wsX9_copies) := goodIn_app (good_rp ([5, 6, 7] : List Nat) rfl (by decide +kernel)) ggX9_begins_X9_copies
set_option maxRecDepth 20000 in
theorem bq_wsX9_chair : subq wsX9_chair [wsX9_chair_r1, wsX9_chair_r2] := ⟨(fun _ h => (List.mem_cons_of_mem _ (List.mem_append_left _ (List.mem_append_left _ h)))), (fun _ h => (List.mem_cons_of_mem _ (List.mem_append_left _ (List.mem_append_right _ h)))), trivial⟩
set_option maxRecDepth 20000 in
theorem ggX9_chair_X9_givesNow : GoodIn wsX9_chair wsX9_givesNow := (goodIn_cons (good_rb bq_wsX9_chair ([(0, 20)] : List (Nat × Nat)) rfl (by decide +kernel)) (goodIn_app (goodIn_app (good_rb bq_wsX9_chair ([(0, 21), (0, 22), (0, 23), (0, 6), (1, 0), (0, 8), (1, 1), (1, 2), (1, 3), (1, 4), (1, 5), (0, 2), (0, 16), (1, 6), (1, 7), (1, 8), (1, 9), (1, 10), (1, 11), (1, 12), (1, 13), (1, 14), (1, 15), (1, 16)] : List (Nat × Nat)) rfl (by decide +kernel)) (good_rb bq_wsX9_chair ([(1, 17), (1, 18)] : List (Nat × Nat)) rfl (by decide +kernel))) (goodIn_sb (fun _ h => (List.mem_cons_of_mem _ (List.mem_append_right _ h))) (by decide +kernel))))
set_option maxRecDepth 20000 in
theorem gX9_chair_X9_givesNow : GoodIn wsX9_chair (wsV RX9 359 RX9 yX9_givesNow wsX9_givesNow) := goodIn_app (good_rp ([18, 19, 20, 7] : List Nat) rfl (by decide +kernel)) ggX9_chair_X9_givesNow
set_option maxRecDepth 20000 in
theorem ggX9_chair_X9_in : GoodIn wsX9_chair wsX9_in := (goodIn_cons (good_rb bq_wsX9_chair ([(0, 11)] : List (Nat × Nat)) rfl (by decide +kernel)) (good_rb bq_wsX9_chair ([] : List (Nat × Nat)) rfl (by decide +kernel)))
set_option maxRecDepth 20000 in
theorem gX9_chair_X9_in : GoodIn wsX9_chair (va_wsS RX9 131 yX9_in wsX9_in) := goodIn_app (good_rp ([10, 11, 7] : List Nat) rfl (by decide +kernel)) ggX9_chair_X9_in
set_option maxRecDepth 20000 in
theorem ggX9_chair_X9_isChair : GoodIn wsX9_chair wsX9_isChair := (goodIn_cons (good_rb bq_wsX9_chair ([(0, 7)] : List (Nat × Nat)) rfl (by decide +kernel)) (goodIn_app (good_rb bq_wsX9_chair ([(0, 8), (0, 9), (0, 10), (0, 6), (0, 11)] : List (Nat × Nat)) rfl (by decide +kernel)) (goodIn_sb (fun _ h => (List.mem_cons_of_mem _ (List.mem_append_right _ h))) (by decide +kernel))))
set_option maxRecDepth 20000 in
theorem gX9_chair_X9_isChair : GoodIn wsX9_chair (wsV RX9 351 RX9 yX9_isChair wsX9_isChair) := goodIn_app (good_rp ([4, 5, 6, 7] : List Nat) rfl (by decide +kernel)) ggX9_chair_X9_isChair
set_option maxRecDepth 20000 in
theorem ggX9_chair_X9_sitterOf : GoodIn wsX9_chair wsX9_sitterOf := (goodIn_cons (good_rb bq_wsX9_chair ([(0, 15)] : List (Nat × Nat)) rfl (by decide +kernel)) (goodIn_app (good_rb bq_wsX9_chair ([(0, 8), (0, 16)] : List (Nat × Nat)) rfl (by decide +kernel)) (goodIn_sb (fun _ h => (List.mem_cons_of_mem _ (List.mem_append_right _ h))) (by decide +kernel))))
set_option maxRecDepth 20000 in
theorem gX9_chair_X9_sitterOf : GoodIn wsX9_chair (wsV RX9 356 RX9 yX9_sitterOf wsX9_sitterOf) := goodIn_app (good_rp ([13, 14, 15, 7] : List Nat) rfl (by decide +kernel)) ggX9_chair_X9_sitterOf
set_option maxRecDepth 20000 in
theorem bq_wsX9_dropsOf : subq wsX9_dropsOf [[.fieldLink RX9 9 "ChairCaneModel" "scalar" "[I", .fieldLink RX9 25 "ChairCaneModel" "height" "[I", .fieldLink RX9 28 "ChairCaneModel" "chairOf" "[I", .methodLink RX9 332 yX9_has, .static yX9_has, .initialized RX9, .code yX9_has cX9_has 2 (some .boolean), .methodLink RX9 344 yX9_gives, .instanceMethod yX9_gives, .selects RX9 yX9_gives yX9_gives, .code yX9_gives cX9_gives 4 (some .int), .fieldLink RX9 19 "ChairCaneModel" "strandOf" "[I", .fieldLink RX9 13 "ChairCaneModel" "cane" "[I", .fieldLink RX9 22 "ChairCaneModel" "weight" "[I", .methodLink RX9 335 yX9_onStrand, .instanceMethod yX9_onStrand, .selects RX9 yX9_onStrand yX9_onStrand, .code yX9_onStrand cX9_onStrand 5 (some .int), .methodLink RX9 338 yX9_weightOf, .instanceMethod yX9_weightOf, .selects RX9 yX9_weightOf yX9_weightOf, .code yX9_weightOf cX9_weightOf 4 (some .int)]] := ⟨(fun _ h => (List.mem_cons_of_mem _ (List.mem_append_left _ h))), trivial⟩
set_option maxRecDepth 20000 in
theorem ggX9_dropsOf_X9_gives : GoodIn wsX9_dropsOf wsX9_gives := (goodIn_cons (good_rb bq_wsX9_dropsOf ([(0, 10)] : List (Nat × Nat)) rfl (by decide +kernel)) (goodIn_app (good_rb bq_wsX9_dropsOf ([(0, 11), (0, 2), (0, 12), (0, 13), (0, 3), (0, 4), (0, 5), (0, 6), (0, 14), (0, 15), (0, 16), (0, 17), (0, 0), (0, 18), (0, 19), (0, 20), (0, 21)] : List (Nat × Nat)) rfl (by decide +kernel)) (goodIn_sb (fun _ h => (List.mem_cons_of_mem _ (List.mem_append_right _ h))) (by decide +kernel))))
set_option maxRecDepth 20000 in
theorem gX9_dropsOf_X9_gives : GoodIn wsX9_dropsOf (wsV RX9 344 RX9 yX9_gives wsX9_gives) := goodIn_app (good_rp ([8, 9, 10, 6] : List Nat) rfl (by decide +kernel)) ggX9_dropsOf_X9_gives
set_option maxRecDepth 20000 in
theorem ggX9_dropsOf_X9_has : GoodIn wsX9_dropsOf wsX9_has := (goodIn_cons (good_rb bq_wsX9_dropsOf ([(0, 6)] : List (Nat × Nat)) rfl (by decide +kernel)) (good_rb bq_wsX9_dropsOf ([] : List (Nat × Nat)) rfl (by decide +kernel)))
set_option maxRecDepth 20000 in
theorem gX9_dropsOf_X9_has : GoodIn wsX9_dropsOf (va_wsS RX9 332 yX9_has wsX9_has) := goodIn_app (good_rp ([4, 5, 6] : List Nat) rfl (by decide +kernel)) ggX9_dropsOf_X9_has
set_option maxRecDepth 20000 in
theorem bq_wsX9_force : subq wsX9_force [[.constantLong RX9 318 (-1), .fieldLink RX9 312 "ChairCaneModel" "rules" "I", .fieldLink RX9 9 "ChairCaneModel" "scalar" "[I", .methodLink RX9 131 yX9_in, .static yX9_in, .initialized RX9, .code yX9_in cX9_in 6 (some .boolean)]] := ⟨(fun _ h => (List.mem_cons_of_mem _ (List.mem_append_left _ h))), trivial⟩
set_option maxRecDepth 20000 in
theorem ggX9_force_X9_in : GoodIn wsX9_force wsX9_in := (goodIn_cons (good_rb bq_wsX9_force ([(0, 6)] : List (Nat × Nat)) rfl (by decide +kernel)) (good_rb bq_wsX9_force ([] : List (Nat × Nat)) rfl (by decide +kernel)))
set_option maxRecDepth 20000 in
theorem gX9_force_X9_in : GoodIn wsX9_force (va_wsS RX9 131 yX9_in wsX9_in) := goodIn_app (good_rp ([4, 5, 6] : List Nat) rfl (by decide +kernel)) ggX9_force_X9_in
set_option maxRecDepth 20000 in
theorem bq_wsX9_givesNow : subq wsX9_givesNow [wsX9_givesNow_r1, wsX9_givesNow_r2] := ⟨(fun _ h => (List.mem_cons_of_mem _ (List.mem_append_left _ (List.mem_append_left _ h)))), (fun _ h => (List.mem_cons_of_mem _ (List.mem_append_left _ (List.mem_append_right _ h)))), trivial⟩
set_option maxRecDepth 20000 in
theorem ggX9_givesNow_X9_gives : GoodIn wsX9_givesNow wsX9_gives := (goodIn_cons (good_rb bq_wsX9_givesNow ([(0, 10)] : List (Nat × Nat)) rfl (by decide +kernel)) (goodIn_app (good_rb bq_wsX9_givesNow ([(0, 11), (0, 12), (0, 13), (0, 14), (0, 15), (0, 16), (0, 3), (0, 17), (0, 18), (0, 19), (0, 20), (0, 21), (0, 5), (0, 22), (0, 23), (1, 0), (1, 1)] : List (Nat × Nat)) rfl (by decide +kernel)) (goodIn_sb (fun _ h => (List.mem_cons_of_mem _ (List.mem_append_right _ h))) (by decide +kernel))))
set_option maxRecDepth 20000 in
theorem gX9_givesNow_X9_gives : GoodIn wsX9_givesNow (wsV RX9 344 RX9 yX9_gives wsX9_gives) := goodIn_app (good_rp ([8, 9, 10, 4] : List Nat) rfl (by decide +kernel)) ggX9_givesNow_X9_gives
set_option maxRecDepth 20000 in
theorem ggX9_givesNow_X9_those : GoodIn wsX9_givesNow wsX9_those := (goodIn_cons (good_rb bq_wsX9_givesNow ([(0, 4)] : List (Nat × Nat)) rfl (by decide +kernel)) (goodIn_app (good_rb bq_wsX9_givesNow ([(0, 5), (0, 6)] : List (Nat × Nat)) rfl (by decide +kernel)) (goodIn_sb (fun _ h => (List.mem_cons_of_mem _ (List.mem_append_right _ h))) (by decide +kernel))))
set_option maxRecDepth 20000 in
theorem gX9_givesNow_X9_those : GoodIn wsX9_givesNow (wsV RX9 341 RX9 yX9_those wsX9_those) := goodIn_app (good_rp ([1, 2, 3, 4] : List Nat) rfl (by decide +kernel)) ggX9_givesNow_X9_those
set_option maxRecDepth 20000 in
theorem bq_wsX9_gives : subq wsX9_gives [[.fieldLink RX9 19 "ChairCaneModel" "strandOf" "[I", .fieldLink RX9 28 "ChairCaneModel" "chairOf" "[I", .fieldLink RX9 13 "ChairCaneModel" "cane" "[I", .fieldLink RX9 22 "ChairCaneModel" "weight" "[I", .methodLink RX9 332 yX9_has, .static yX9_has, .initialized RX9, .code yX9_has cX9_has 2 (some .boolean), .methodLink RX9 335 yX9_onStrand, .instanceMethod yX9_onStrand, .selects RX9 yX9_onStrand yX9_onStrand, .code yX9_onStrand cX9_onStrand 5 (some .int), .fieldLink RX9 9 "ChairCaneModel" "scalar" "[I", .methodLink RX9 338 yX9_weightOf, .instanceMethod yX9_weightOf, .selects RX9 yX9_weightOf yX9_weightOf, .code yX9_weightOf cX9_weightOf 4 (some .int)]] := ⟨(fun _ h => (List.mem_cons_of_mem _ (List.mem_append_left _ h))), trivial⟩
set_option maxRecDepth 20000 in
theorem ggX9_gives_X9_has : GoodIn wsX9_gives wsX9_has := (goodIn_cons (good_rb bq_wsX9_gives ([(0, 7)] : List (Nat × Nat)) rfl (by decide +kernel)) (good_rb bq_wsX9_gives ([] : List (Nat × Nat)) rfl (by decide +kernel)))
set_option maxRecDepth 20000 in
theorem gX9_gives_X9_has : GoodIn wsX9_gives (va_wsS RX9 332 yX9_has wsX9_has) := goodIn_app (good_rp ([5, 6, 7] : List Nat) rfl (by decide +kernel)) ggX9_gives_X9_has
set_option maxRecDepth 20000 in
theorem ggX9_gives_X9_onStrand : GoodIn wsX9_gives wsX9_onStrand := (goodIn_cons (good_rb bq_wsX9_gives ([(0, 11)] : List (Nat × Nat)) rfl (by decide +kernel)) (goodIn_app (good_rb bq_wsX9_gives ([(0, 12), (0, 0), (0, 1), (0, 4), (0, 5), (0, 6), (0, 7)] : List (Nat × Nat)) rfl (by decide +kernel)) (goodIn_sb (fun _ h => (List.mem_cons_of_mem _ (List.mem_append_right _ h))) (by decide +kernel))))
set_option maxRecDepth 20000 in
theorem gX9_gives_X9_onStrand : GoodIn wsX9_gives (wsV RX9 335 RX9 yX9_onStrand wsX9_onStrand) := goodIn_app (good_rp ([9, 10, 11, 7] : List Nat) rfl (by decide +kernel)) ggX9_gives_X9_onStrand
set_option maxRecDepth 20000 in
theorem ggX9_gives_X9_weightOf : GoodIn wsX9_gives wsX9_weightOf := (goodIn_cons (good_rb bq_wsX9_gives ([(0, 16)] : List (Nat × Nat)) rfl (by decide +kernel)) (goodIn_app (good_rb bq_wsX9_gives ([(0, 12), (0, 3), (0, 4), (0, 5), (0, 6), (0, 7)] : List (Nat × Nat)) rfl (by decide +kernel)) (goodIn_sb (fun _ h => (List.mem_cons_of_mem _ (List.mem_append_right _ h))) (by decide +kernel))))
set_option maxRecDepth 20000 in
theorem gX9_gives_X9_weightOf : GoodIn wsX9_gives (wsV RX9 338 RX9 yX9_weightOf wsX9_weightOf) := goodIn_app (good_rp ([14, 15, 16, 7] : List Nat) rfl (by decide +kernel)) ggX9_gives_X9_weightOf
set_option maxRecDepth 20000 in
theorem bq_wsX9_goesOn : subq wsX9_goesOn [[.fieldLink RX9 161 "ChairCaneModel" "fault" "I", .fieldLink RX9 164 "ChairCaneModel" "p" "I", .fieldLink RX9 135 "ChairCaneModel" "taped" "I", .methodLink RX9 184 yX9_blanks, .instanceMethod yX9_blanks, .selects RX9 yX9_blanks yX9_blanks, .initialized RX9, .code yX9_blanks cX9_blanks 1 none, .methodLink RX9 167 yX9_sign, .instanceMethod yX9_sign, .selects RX9 yX9_sign yX9_sign, .code yX9_sign cX9_sign 1 (some .int), .fieldLink RX9 65 "ChairCaneModel" "tape" "[B", .methodLink RX9 200 yX9_fails, .instanceMethod yX9_fails, .selects RX9 yX9_fails yX9_fails, .code yX9_fails cX9_fails 3 none]] := ⟨(fun _ h => (List.mem_cons_of_mem _ (List.mem_append_left _ h))), trivial⟩
set_option maxRecDepth 20000 in
theorem ggX9_goesOn_X9_blanks : GoodIn wsX9_goesOn wsX9_blanks := (goodIn_cons (good_rb bq_wsX9_goesOn ([(0, 7)] : List (Nat × Nat)) rfl (by decide +kernel)) (goodIn_app (good_rb bq_wsX9_goesOn ([(0, 1), (0, 8), (0, 9), (0, 10), (0, 6), (0, 11), (0, 2), (0, 12)] : List (Nat × Nat)) rfl (by decide +kernel)) (goodIn_sb (fun _ h => (List.mem_cons_of_mem _ (List.mem_append_right _ h))) (by decide +kernel))))
set_option maxRecDepth 20000 in
theorem gX9_goesOn_X9_blanks : GoodIn wsX9_goesOn (wsV RX9 184 RX9 yX9_blanks wsX9_blanks) := goodIn_app (good_rp ([4, 5, 6, 7] : List Nat) rfl (by decide +kernel)) ggX9_goesOn_X9_blanks
set_option maxRecDepth 20000 in
theorem ggX9_goesOn_X9_fails : GoodIn wsX9_goesOn wsX9_fails := (goodIn_cons (good_rb bq_wsX9_goesOn ([(0, 16)] : List (Nat × Nat)) rfl (by decide +kernel)) (goodIn_app (good_rb bq_wsX9_goesOn ([(0, 0)] : List (Nat × Nat)) rfl (by decide +kernel)) (goodIn_sb (fun _ h => (List.mem_cons_of_mem _ (List.mem_append_right _ h))) (by decide +kernel))))
set_option maxRecDepth 20000 in
theorem gX9_goesOn_X9_fails : GoodIn wsX9_goesOn (wsV RX9 200 RX9 yX9_fails wsX9_fails) := goodIn_app (good_rp ([14, 15, 16, 7] : List Nat) rfl (by decide +kernel)) ggX9_goesOn_X9_fails
set_option maxRecDepth 20000 in
theorem ggX9_goesOn_X9_sign : GoodIn wsX9_goesOn wsX9_sign := (goodIn_cons (good_rb bq_wsX9_goesOn ([(0, 11)] : List (Nat × Nat)) rfl (by decide +kernel)) (goodIn_app (good_rb bq_wsX9_goesOn ([(0, 1), (0, 2), (0, 12)] : List (Nat × Nat)) rfl (by decide +kernel)) (goodIn_sb (fun _ h => (List.mem_cons_of_mem _ (List.mem_append_right _ h))) (by decide +kernel))))
set_option maxRecDepth 20000 in
theorem gX9_goesOn_X9_sign : GoodIn wsX9_goesOn (wsV RX9 167 RX9 yX9_sign wsX9_sign) := goodIn_app (good_rp ([9, 10, 11, 7] : List Nat) rfl (by decide +kernel)) ggX9_goesOn_X9_sign
set_option maxRecDepth 20000 in
theorem bq_wsX9_hall : subq wsX9_hall [wsX9_hall_r1, wsX9_hall_r2, wsX9_hall_r3, wsX9_hall_r4, wsX9_hall_r5, wsX9_hall_r6] := ⟨(fun _ h => (List.mem_cons_of_mem _ (List.mem_append_left _ (List.mem_append_left _ h)))), (fun _ h => (List.mem_cons_of_mem _ (List.mem_append_left _ (List.mem_append_right _ (List.mem_append_left _ h))))), (fun _ h => (List.mem_cons_of_mem _ (List.mem_append_left _ (List.mem_append_right _ (List.mem_append_right _ (List.mem_append_left _ h)))))), (fun _ h => (List.mem_cons_of_mem _ (List.mem_append_left _ (List.mem_append_right _ (List.mem_append_right _ (List.mem_append_right _ (List.mem_append_left _ h))))))), (fun _ h => (List.mem_cons_of_mem _ (List.mem_append_left _ (List.mem_append_right _ (List.mem_append_right _ (List.mem_append_right _ (List.mem_append_right _ (List.mem_append_left _ h)))))))), (fun _ h => (List.mem_cons_of_mem _ (List.mem_append_left _ (List.mem_append_right _ (List.mem_append_right _ (List.mem_append_right _ (List.mem_append_right _ (List.mem_append_right _ h)))))))), trivial⟩
set_option maxRecDepth 20000 in
theorem ggX9_hall_X9_begins : GoodIn wsX9_hall wsX9_begins := (goodIn_cons (good_rb bq_wsX9_hall ([(5, 21)] : List (Nat × Nat)) rfl (by decide +kernel)) (goodIn_app (good_rb bq_wsX9_hall ([(0, 4), (5, 22), (0, 1), (5, 23), (5, 15), (5, 16), (0, 17), (5, 17)] : List (Nat × Nat)) rfl (by decide +kernel)) (goodIn_sb (fun _ h => (List.mem_cons_of_mem _ (List.mem_append_right _ h))) (by decide +kernel))))
set_option maxRecDepth 20000 in
theorem gX9_hall_X9_begins : GoodIn wsX9_hall (wsV RX9 296 RX9 yX9_begins wsX9_begins) := goodIn_app (good_rp ([139, 140, 141, 18] : List Nat) rfl (by decide +kernel)) ggX9_hall_X9_begins
set_option maxRecDepth 20000 in
theorem ggX9_hall_X9_copies : GoodIn wsX9_hall wsX9_copies := (goodIn_cons (good_rb bq_wsX9_hall ([(5, 17)] : List (Nat × Nat)) rfl (by decide +kernel)) (good_rb bq_wsX9_hall ([] : List (Nat × Nat)) rfl (by decide +kernel)))
set_option maxRecDepth 20000 in
theorem gX9_hall_X9_copies : GoodIn wsX9_hall (va_wsS RX9 289 yX9_copies wsX9_copies) := goodIn_app (good_rp ([136, 137, 18] : List Nat) rfl (by decide +kernel)) ggX9_hall_X9_copies
set_option maxRecDepth 20000 in
theorem ggX9_hall_X9_readsAll : GoodIn wsX9_hall wsX9_readsAll := (goodIn_cons (good_rb bq_wsX9_hall ([(0, 18)] : List (Nat × Nat)) rfl (by decide +kernel)) (goodIn_app (goodIn_app (good_rb bq_wsX9_hall ([(0, 2), (0, 19), (0, 20), (0, 21), (0, 22), (0, 17), (0, 23), (1, 0), (0, 0), (1, 1), (1, 2), (1, 3), (1, 4), (1, 5), (1, 6), (1, 7), (1, 8), (1, 9), (1, 10), (1, 11), (1, 12), (1, 13), (1, 14), (1, 15)] : List (Nat × Nat)) rfl (by decide +kernel)) (goodIn_app (good_rb bq_wsX9_hall ([(1, 16), (1, 17), (1, 18), (1, 19), (1, 20), (1, 21), (1, 22), (1, 23), (2, 0), (2, 1), (2, 2), (2, 3), (2, 4), (2, 5), (2, 6), (2, 7), (2, 8), (2, 9), (2, 10), (2, 11), (2, 12), (2, 13), (2, 14), (2, 15)] : List (Nat × Nat)) rfl (by decide +kernel)) (goodIn_app (good_rb bq_wsX9_hall ([(2, 16), (2, 17), (2, 18), (2, 19), (2, 20), (2, 21), (2, 22), (2, 23), (3, 0), (3, 1), (3, 2), (3, 3), (3, 4), (3, 5), (3, 6), (3, 7), (3, 8), (3, 9), (3, 10), (3, 11), (3, 12), (3, 13), (3, 14), (3, 15)] : List (Nat × Nat)) rfl (by decide +kernel)) (goodIn_app (good_rb bq_wsX9_hall ([(3, 16), (3, 17), (3, 18), (3, 19), (3, 20), (3, 21), (3, 22), (3, 23), (4, 0), (4, 1), (4, 2), (4, 3), (4, 4), (4, 5), (4, 6), (4, 7), (4, 8), (4, 9), (4, 10), (4, 11), (4, 12), (0, 3), (0, 5), (0, 7)] : List (Nat × Nat)) rfl (by decide +kernel)) (goodIn_app (good_rb bq_wsX9_hall ([(4, 13), (4, 14), (4, 15), (4, 16), (4, 17), (4, 18), (4, 19), (4, 20), (4, 21), (4, 22), (4, 23), (5, 0), (5, 1), (5, 2), (5, 3), (5, 4), (5, 5), (5, 6), (5, 7), (5, 8), (5, 9), (5, 10), (0, 9), (0, 11)] : List (Nat × Nat)) rfl (by decide +kernel)) (good_rb bq_wsX9_hall ([(5, 11), (5, 12), (5, 13), (5, 14)] : List (Nat × Nat)) rfl (by decide +kernel))))))) (goodIn_sb (fun _ h => (List.mem_cons_of_mem _ (List.mem_append_right _ h))) (by decide +kernel))))
set_option maxRecDepth 20000 in
theorem gX9_hall_X9_readsAll : GoodIn wsX9_hall (wsV RX9 293 RX9 yX9_readsAll wsX9_readsAll) := goodIn_app (good_rp ([15, 16, 17, 18] : List Nat) rfl (by decide +kernel)) ggX9_hall_X9_readsAll
set_option maxRecDepth 20000 in
theorem bq_wsX9_onStrand : subq wsX9_onStrand [[.fieldLink RX9 9 "ChairCaneModel" "scalar" "[I", .fieldLink RX9 19 "ChairCaneModel" "strandOf" "[I", .fieldLink RX9 28 "ChairCaneModel" "chairOf" "[I", .methodLink RX9 332 yX9_has, .static yX9_has, .initialized RX9, .code yX9_has cX9_has 2 (some .boolean)]] := ⟨(fun _ h => (List.mem_cons_of_mem _ (List.mem_append_left _ h))), trivial⟩
set_option maxRecDepth 20000 in
theorem ggX9_onStrand_X9_has : GoodIn wsX9_onStrand wsX9_has := (goodIn_cons (good_rb bq_wsX9_onStrand ([(0, 6)] : List (Nat × Nat)) rfl (by decide +kernel)) (good_rb bq_wsX9_onStrand ([] : List (Nat × Nat)) rfl (by decide +kernel)))
set_option maxRecDepth 20000 in
theorem gX9_onStrand_X9_has : GoodIn wsX9_onStrand (va_wsS RX9 332 yX9_has wsX9_has) := goodIn_app (good_rp ([4, 5, 6] : List Nat) rfl (by decide +kernel)) ggX9_onStrand_X9_has
set_option maxRecDepth 20000 in
theorem bq_wsX9_readsAll : subq wsX9_readsAll [wsX9_readsAll_r1, wsX9_readsAll_r2, wsX9_readsAll_r3, wsX9_readsAll_r4, wsX9_readsAll_r5, wsX9_readsAll_r6] := ⟨(fun _ h => (List.mem_cons_of_mem _ (List.mem_append_left _ (List.mem_append_left _ h)))), (fun _ h => (List.mem_cons_of_mem _ (List.mem_append_left _ (List.mem_append_right _ (List.mem_append_left _ h))))), (fun _ h => (List.mem_cons_of_mem _ (List.mem_append_left _ (List.mem_append_right _ (List.mem_append_right _ (List.mem_append_left _ h)))))), (fun _ h => (List.mem_cons_of_mem _ (List.mem_append_left _ (List.mem_append_right _ (List.mem_append_right _ (List.mem_append_right _ (List.mem_append_left _ h))))))), (fun _ h => (List.mem_cons_of_mem _ (List.mem_append_left _ (List.mem_append_right _ (List.mem_append_right _ (List.mem_append_right _ (List.mem_append_right _ (List.mem_append_left _ h)))))))), (fun _ h => (List.mem_cons_of_mem _ (List.mem_append_left _ (List.mem_append_right _ (List.mem_append_right _ (List.mem_append_right _ (List.mem_append_right _ (List.mem_append_right _ h)))))))), trivial⟩
set_option maxRecDepth 20000 in
theorem ggX9_readsAll_X9_goesOn : GoodIn wsX9_readsAll wsX9_goesOn := (goodIn_cons (good_rb bq_wsX9_readsAll ([(5, 3)] : List (Nat × Nat)) rfl (by decide +kernel)) (goodIn_app (good_rb bq_wsX9_readsAll ([(0, 8), (0, 7), (0, 1), (0, 16), (0, 17), (0, 18), (0, 5), (0, 19), (0, 20), (0, 21), (0, 22), (0, 23), (1, 0), (3, 9), (3, 10), (3, 11), (3, 12)] : List (Nat × Nat)) rfl (by decide +kernel)) (goodIn_sb (fun _ h => (List.mem_cons_of_mem _ (List.mem_append_right _ h))) (by decide +kernel))))
set_option maxRecDepth 20000 in
theorem gX9_readsAll_X9_goesOn : GoodIn wsX9_readsAll (wsV RX9 286 RX9 yX9_goesOn wsX9_goesOn) := goodIn_app (good_rp ([121, 122, 123, 6] : List Nat) rfl (by decide +kernel)) ggX9_readsAll_X9_goesOn
set_option maxRecDepth 20000 in
theorem ggX9_readsAll_X9_hallClause : GoodIn wsX9_readsAll wsX9_hallClause := (goodIn_cons (good_rb bq_wsX9_readsAll ([(0, 15)] : List (Nat × Nat)) rfl (by decide +kernel)) (goodIn_app (goodIn_app (good_rb bq_wsX9_readsAll ([(0, 7), (0, 16), (0, 17), (0, 18), (0, 5), (0, 19), (0, 20), (0, 21), (0, 22), (0, 23), (0, 1), (1, 0), (1, 1), (1, 2), (1, 3), (1, 4), (1, 5), (1, 6), (1, 7), (1, 8), (1, 9), (1, 10), (1, 11), (1, 12)] : List (Nat × Nat)) rfl (by decide +kernel)) (goodIn_app (good_rb bq_wsX9_readsAll ([(1, 13), (1, 14), (1, 15), (1, 16), (1, 17), (1, 18), (1, 19), (1, 20), (1, 21), (1, 22), (1, 23), (2, 0), (2, 1), (2, 2), (2, 3), (2, 4), (2, 5), (2, 6), (2, 7), (2, 8), (2, 9), (2, 10), (2, 11), (2, 12)] : List (Nat × Nat)) rfl (by decide +kernel)) (goodIn_app (good_rb bq_wsX9_readsAll ([(2, 13), (2, 14), (2, 15), (2, 16), (2, 17), (2, 18), (2, 19), (2, 20), (2, 21), (2, 22), (2, 23), (3, 0), (3, 1), (3, 2), (3, 3), (3, 4), (3, 5), (3, 6), (3, 7), (3, 8), (3, 9), (3, 10), (3, 11), (3, 12)] : List (Nat × Nat)) rfl (by decide +kernel)) (goodIn_app (good_rb bq_wsX9_readsAll ([(0, 8), (3, 13), (3, 14), (3, 15), (3, 16), (0, 0), (3, 17), (3, 18), (3, 19), (3, 20), (3, 21), (3, 22), (3, 23), (4, 0), (4, 1), (4, 2), (4, 3), (4, 4), (4, 5), (4, 6), (4, 7), (4, 8), (4, 9), (4, 10)] : List (Nat × Nat)) rfl (by decide +kernel)) (good_rb bq_wsX9_readsAll ([(4, 11), (4, 12), (4, 13), (4, 14), (4, 15), (4, 16), (4, 17), (4, 18), (4, 19), (4, 20), (4, 21), (4, 22), (4, 23)] : List (Nat × Nat)) rfl (by decide +kernel)))))) (goodIn_sb (fun _ h => (List.mem_cons_of_mem _ (List.mem_append_right _ h))) (by decide +kernel))))
set_option maxRecDepth 20000 in
theorem gX9_readsAll_X9_hallClause : GoodIn wsX9_readsAll (wsV RX9 283 RX9 yX9_hallClause wsX9_hallClause) := goodIn_app (good_rp ([13, 14, 15, 6] : List Nat) rfl (by decide +kernel)) ggX9_readsAll_X9_hallClause
set_option maxRecDepth 20000 in
theorem ggX9_readsAll_X9_starts : GoodIn wsX9_readsAll wsX9_starts := (goodIn_cons (good_rb bq_wsX9_readsAll ([(0, 6)] : List (Nat × Nat)) rfl (by decide +kernel)) (goodIn_app (good_rb bq_wsX9_readsAll ([(0, 7), (0, 8), (0, 9), (0, 10), (0, 11)] : List (Nat × Nat)) rfl (by decide +kernel)) (goodIn_sb (fun _ h => (List.mem_cons_of_mem _ (List.mem_append_right _ h))) (by decide +kernel))))
set_option maxRecDepth 20000 in
theorem gX9_readsAll_X9_starts : GoodIn wsX9_readsAll (wsV RX9 280 RX9 yX9_starts wsX9_starts) := goodIn_app (good_rp ([3, 4, 5, 6] : List Nat) rfl (by decide +kernel)) ggX9_readsAll_X9_starts
set_option maxRecDepth 20000 in
theorem bq_wsX9_ruleClause : subq wsX9_ruleClause [wsX9_ruleClause_r1, wsX9_ruleClause_r2, wsX9_ruleClause_r3, wsX9_ruleClause_r4, wsX9_ruleClause_r5, wsX9_ruleClause_r6, wsX9_ruleClause_r7] := ⟨(fun _ h => (List.mem_cons_of_mem _ (List.mem_append_left _ (List.mem_append_left _ h)))), (fun _ h => (List.mem_cons_of_mem _ (List.mem_append_left _ (List.mem_append_right _ (List.mem_append_left _ h))))), (fun _ h => (List.mem_cons_of_mem _ (List.mem_append_left _ (List.mem_append_right _ (List.mem_append_right _ (List.mem_append_left _ h)))))), (fun _ h => (List.mem_cons_of_mem _ (List.mem_append_left _ (List.mem_append_right _ (List.mem_append_right _ (List.mem_append_right _ (List.mem_append_left _ h))))))), (fun _ h => (List.mem_cons_of_mem _ (List.mem_append_left _ (List.mem_append_right _ (List.mem_append_right _ (List.mem_append_right _ (List.mem_append_right _ (List.mem_append_left _ h)))))))), (fun _ h => (List.mem_cons_of_mem _ (List.mem_append_left _ (List.mem_append_right _ (List.mem_append_right _ (List.mem_append_right _ (List.mem_append_right _ (List.mem_append_right _ (List.mem_append_left _ h))))))))), (fun _ h => (List.mem_cons_of_mem _ (List.mem_append_left _ (List.mem_append_right _ (List.mem_append_right _ (List.mem_append_right _ (List.mem_append_right _ (List.mem_append_right _ (List.mem_append_right _ h))))))))), trivial⟩
set_option maxRecDepth 20000 in
theorem ggX9_ruleClause_X9_blanks : GoodIn wsX9_ruleClause wsX9_blanks := (goodIn_cons (good_rb bq_wsX9_ruleClause ([(0, 11)] : List (Nat × Nat)) rfl (by decide +kernel)) (goodIn_app (good_rb bq_wsX9_ruleClause ([(0, 0), (0, 12), (0, 13), (0, 14), (0, 10), (0, 15), (0, 16), (0, 17)] : List (Nat × Nat)) rfl (by decide +kernel)) (goodIn_sb (fun _ h => (List.mem_cons_of_mem _ (List.mem_append_right _ h))) (by decide +kernel))))
set_option maxRecDepth 20000 in
theorem gX9_ruleClause_X9_blanks : GoodIn wsX9_ruleClause (wsV RX9 184 RX9 yX9_blanks wsX9_blanks) := goodIn_app (good_rp ([8, 9, 10, 11] : List Nat) rfl (by decide +kernel)) ggX9_ruleClause_X9_blanks
set_option maxRecDepth 20000 in
theorem ggX9_ruleClause_X9_fails : GoodIn wsX9_ruleClause wsX9_fails := (goodIn_cons (good_rb bq_wsX9_ruleClause ([(3, 2)] : List (Nat × Nat)) rfl (by decide +kernel)) (goodIn_app (good_rb bq_wsX9_ruleClause ([(0, 5)] : List (Nat × Nat)) rfl (by decide +kernel)) (goodIn_sb (fun _ h => (List.mem_cons_of_mem _ (List.mem_append_right _ h))) (by decide +kernel))))
set_option maxRecDepth 20000 in
theorem gX9_ruleClause_X9_fails : GoodIn wsX9_ruleClause (wsV RX9 200 RX9 yX9_fails wsX9_fails) := goodIn_app (good_rp ([72, 73, 74, 11] : List Nat) rfl (by decide +kernel)) ggX9_ruleClause_X9_fails
set_option maxRecDepth 20000 in
theorem ggX9_ruleClause_X9_stood : GoodIn wsX9_ruleClause wsX9_stood := (goodIn_cons (good_rb bq_wsX9_ruleClause ([(0, 21)] : List (Nat × Nat)) rfl (by decide +kernel)) (goodIn_app (goodIn_app (good_rb bq_wsX9_ruleClause ([(0, 0), (0, 16), (0, 17), (0, 22), (0, 23), (1, 0), (1, 1), (1, 2), (1, 3), (1, 4), (1, 5), (1, 6), (1, 7), (1, 8), (1, 9), (1, 10), (1, 11), (1, 12), (1, 13), (1, 14), (1, 15), (1, 16), (1, 17), (1, 18)] : List (Nat × Nat)) rfl (by decide +kernel)) (goodIn_app (good_rb bq_wsX9_ruleClause ([(1, 19), (1, 20), (1, 21), (1, 22), (1, 23), (2, 0), (2, 1), (2, 2), (2, 3), (2, 4), (2, 5), (2, 6), (2, 7), (2, 8), (2, 9), (2, 10), (2, 11), (2, 12), (2, 13), (2, 14), (2, 15), (2, 16), (2, 17), (2, 18)] : List (Nat × Nat)) rfl (by decide +kernel)) (good_rb bq_wsX9_ruleClause ([(2, 19), (2, 20), (2, 21), (2, 22)] : List (Nat × Nat)) rfl (by decide +kernel)))) (goodIn_sb (fun _ h => (List.mem_cons_of_mem _ (List.mem_append_right _ h))) (by decide +kernel))))
set_option maxRecDepth 20000 in
theorem gX9_ruleClause_X9_stood : GoodIn wsX9_ruleClause (wsV RX9 187 RX9 yX9_stood wsX9_stood) := goodIn_app (good_rp ([19, 20, 21, 11] : List Nat) rfl (by decide +kernel)) ggX9_ruleClause_X9_stood
set_option maxRecDepth 20000 in
theorem ggX9_ruleClause_X9_sum : GoodIn wsX9_ruleClause wsX9_sum := (goodIn_cons (good_rb bq_wsX9_ruleClause ([(3, 6)] : List (Nat × Nat)) rfl (by decide +kernel)) (goodIn_app (goodIn_app (good_rb bq_wsX9_ruleClause ([(0, 5), (0, 0), (3, 7), (3, 8), (3, 9), (0, 10), (3, 10), (3, 11), (3, 12), (3, 13), (3, 14), (3, 15), (3, 16), (0, 7), (0, 8), (0, 9), (0, 11), (0, 12), (0, 13), (0, 14), (0, 15), (0, 16), (0, 17), (3, 17)] : List (Nat × Nat)) rfl (by decide +kernel)) (goodIn_app (good_rb bq_wsX9_ruleClause ([(3, 18), (3, 19), (3, 20), (3, 21), (3, 22), (3, 23), (4, 0), (4, 1), (4, 2), (4, 3), (4, 4), (4, 5), (2, 23), (3, 0), (3, 1), (3, 2), (4, 6), (4, 7), (4, 8), (4, 9), (4, 10), (4, 11), (4, 12), (4, 13)] : List (Nat × Nat)) rfl (by decide +kernel)) (goodIn_app (good_rb bq_wsX9_ruleClause ([(4, 14), (4, 15), (0, 1), (0, 3), (4, 16), (4, 17), (4, 18), (4, 19), (0, 18), (0, 19), (0, 20), (0, 21), (0, 22), (0, 23), (1, 0), (1, 1), (1, 2), (1, 3), (1, 4), (1, 5), (1, 6), (1, 7), (1, 8), (1, 9)] : List (Nat × Nat)) rfl (by decide +kernel)) (goodIn_app (good_rb bq_wsX9_ruleClause ([(1, 10), (1, 11), (1, 12), (1, 13), (1, 14), (1, 15), (1, 16), (1, 17), (1, 18), (1, 19), (1, 20), (1, 21), (1, 22), (1, 23), (2, 0), (2, 1), (2, 2), (2, 3), (2, 4), (2, 5), (2, 6), (2, 7), (2, 8), (2, 9)] : List (Nat × Nat)) rfl (by decide +kernel)) (good_rb bq_wsX9_ruleClause ([(2, 10), (2, 11), (2, 12), (2, 13), (2, 14), (2, 15), (2, 16), (2, 17), (2, 18), (2, 19), (2, 20), (2, 21), (2, 22)] : List (Nat × Nat)) rfl (by decide +kernel)))))) (goodIn_sb (fun _ h => (List.mem_cons_of_mem _ (List.mem_append_right _ h))) (by decide +kernel))))
set_option maxRecDepth 20000 in
theorem gX9_ruleClause_X9_sum : GoodIn wsX9_ruleClause (wsV RX9 229 RX9 yX9_sum wsX9_sum) := goodIn_app (good_rp ([76, 77, 78, 11] : List Nat) rfl (by decide +kernel)) ggX9_ruleClause_X9_sum
set_option maxRecDepth 20000 in
theorem ggX9_ruleClause_X9_takes : GoodIn wsX9_ruleClause wsX9_takes := (goodIn_cons (good_rb bq_wsX9_ruleClause ([(4, 23)] : List (Nat × Nat)) rfl (by decide +kernel)) (goodIn_app (goodIn_app (good_rb bq_wsX9_ruleClause ([(0, 0), (0, 7), (0, 8), (0, 9), (0, 10), (0, 11), (0, 12), (0, 13), (0, 14), (0, 15), (0, 16), (0, 17), (0, 18), (0, 19), (0, 20), (0, 21), (0, 22), (0, 23), (1, 0), (1, 1), (1, 2), (1, 3), (1, 4), (1, 5)] : List (Nat × Nat)) rfl (by decide +kernel)) (goodIn_app (good_rb bq_wsX9_ruleClause ([(1, 6), (1, 7), (1, 8), (1, 9), (1, 10), (1, 11), (1, 12), (1, 13), (1, 14), (1, 15), (1, 16), (1, 17), (1, 18), (1, 19), (1, 20), (1, 21), (1, 22), (1, 23), (2, 0), (2, 1), (2, 2), (2, 3), (2, 4), (2, 5)] : List (Nat × Nat)) rfl (by decide +kernel)) (good_rb bq_wsX9_ruleClause ([(2, 6), (2, 7), (2, 8), (2, 9), (2, 10), (2, 11), (2, 12), (2, 13), (2, 14), (2, 15), (2, 16), (2, 17), (2, 18), (2, 19), (2, 20), (2, 21), (2, 22)] : List (Nat × Nat)) rfl (by decide +kernel)))) (goodIn_sb (fun _ h => (List.mem_cons_of_mem _ (List.mem_append_right _ h))) (by decide +kernel))))
set_option maxRecDepth 20000 in
theorem gX9_ruleClause_X9_takes : GoodIn wsX9_ruleClause (wsV RX9 306 RX9 yX9_takes wsX9_takes) := goodIn_app (good_rp ([117, 118, 119, 11] : List Nat) rfl (by decide +kernel)) ggX9_ruleClause_X9_takes
set_option maxRecDepth 20000 in
theorem ggX9_ruleClause_X9_test : GoodIn wsX9_ruleClause wsX9_test := (goodIn_cons (good_rb bq_wsX9_ruleClause ([(5, 3)] : List (Nat × Nat)) rfl (by decide +kernel)) (goodIn_app (goodIn_app (good_rb bq_wsX9_ruleClause ([(5, 4), (0, 5), (0, 0), (5, 5), (5, 6), (5, 7), (5, 8), (0, 10), (5, 9), (0, 7), (0, 8), (0, 9), (0, 11), (0, 12), (0, 13), (0, 14), (0, 15), (0, 16), (0, 17), (0, 18), (0, 19), (0, 20), (0, 21), (0, 22)] : List (Nat × Nat)) rfl (by decide +kernel)) (goodIn_app (good_rb bq_wsX9_ruleClause ([(0, 23), (1, 0), (1, 1), (1, 2), (1, 3), (1, 4), (1, 5), (1, 6), (1, 7), (1, 8), (1, 9), (1, 10), (1, 11), (1, 12), (1, 13), (1, 14), (1, 15), (1, 16), (1, 17), (1, 18), (1, 19), (1, 20), (1, 21), (1, 22)] : List (Nat × Nat)) rfl (by decide +kernel)) (goodIn_app (good_rb bq_wsX9_ruleClause ([(1, 23), (2, 0), (2, 1), (2, 2), (2, 3), (2, 4), (2, 5), (2, 6), (2, 7), (2, 8), (2, 9), (2, 10), (2, 11), (2, 12), (2, 13), (2, 14), (2, 15), (2, 16), (2, 17), (2, 18), (2, 19), (2, 20), (2, 21), (2, 22)] : List (Nat × Nat)) rfl (by decide +kernel)) (goodIn_app (good_rb bq_wsX9_ruleClause ([(5, 10), (5, 11), (5, 12), (5, 13), (5, 14), (2, 23), (3, 0), (3, 1), (3, 2), (5, 15), (5, 16), (5, 17), (5, 18), (3, 3), (3, 4), (3, 5), (3, 6), (3, 7), (3, 8), (3, 9), (3, 10), (3, 11), (3, 12), (3, 13)] : List (Nat × Nat)) rfl (by decide +kernel)) (goodIn_app (good_rb bq_wsX9_ruleClause ([(3, 14), (3, 15), (3, 16), (3, 17), (3, 18), (3, 19), (3, 20), (3, 21), (3, 22), (3, 23), (4, 0), (4, 1), (4, 2), (4, 3), (4, 4), (4, 5), (4, 6), (4, 7), (4, 8), (4, 9), (4, 10), (4, 11), (4, 12), (4, 13)] : List (Nat × Nat)) rfl (by decide +kernel)) (good_rb bq_wsX9_ruleClause ([(4, 14), (4, 15), (0, 1), (0, 3), (4, 16), (4, 17), (4, 18), (4, 19), (5, 19), (5, 20), (5, 21), (5, 22), (5, 23), (6, 0), (6, 1), (6, 2)] : List (Nat × Nat)) rfl (by decide +kernel))))))) (goodIn_sb (fun _ h => (List.mem_cons_of_mem _ (List.mem_append_right _ h))) (by decide +kernel))))
set_option maxRecDepth 20000 in
theorem gX9_ruleClause_X9_test : GoodIn wsX9_ruleClause (wsV RX9 309 RX9 yX9_test wsX9_test) := goodIn_app (good_rp ([121, 122, 123, 11] : List Nat) rfl (by decide +kernel)) ggX9_ruleClause_X9_test
set_option maxRecDepth 20000 in
theorem bq_wsX9_rule : subq wsX9_rule [wsX9_rule_r1, wsX9_rule_r2, wsX9_rule_r3, wsX9_rule_r4, wsX9_rule_r5, wsX9_rule_r6, wsX9_rule_r7] := ⟨(fun _ h => (List.mem_cons_of_mem _ (List.mem_append_left _ (List.mem_append_left _ h)))), (fun _ h => (List.mem_cons_of_mem _ (List.mem_append_left _ (List.mem_append_right _ (List.mem_append_left _ h))))), (fun _ h => (List.mem_cons_of_mem _ (List.mem_append_left _ (List.mem_append_right _ (List.mem_append_right _ (List.mem_append_left _ h)))))), (fun _ h => (List.mem_cons_of_mem _ (List.mem_append_left _ (List.mem_append_right _ (List.mem_append_right _ (List.mem_append_right _ (List.mem_append_left _ h))))))), (fun _ h => (List.mem_cons_of_mem _ (List.mem_append_left _ (List.mem_append_right _ (List.mem_append_right _ (List.mem_append_right _ (List.mem_append_right _ (List.mem_append_left _ h)))))))), (fun _ h => (List.mem_cons_of_mem _ (List.mem_append_left _ (List.mem_append_right _ (List.mem_append_right _ (List.mem_append_right _ (List.mem_append_right _ (List.mem_append_right _ (List.mem_append_left _ h))))))))), (fun _ h => (List.mem_cons_of_mem _ (List.mem_append_left _ (List.mem_append_right _ (List.mem_append_right _ (List.mem_append_right _ (List.mem_append_right _ (List.mem_append_right _ (List.mem_append_right _ h))))))))), trivial⟩
set_option maxRecDepth 20000 in
theorem ggX9_rule_X9_goesOn : GoodIn wsX9_rule wsX9_goesOn := (goodIn_cons (good_rb bq_wsX9_rule ([(6, 16)] : List (Nat × Nat)) rfl (by decide +kernel)) (goodIn_app (good_rb bq_wsX9_rule ([(0, 4), (0, 10), (0, 2), (0, 21), (0, 22), (0, 23), (0, 8), (1, 0), (1, 1), (1, 2), (1, 3), (1, 4), (1, 5), (3, 11), (3, 12), (3, 13), (3, 14)] : List (Nat × Nat)) rfl (by decide +kernel)) (goodIn_sb (fun _ h => (List.mem_cons_of_mem _ (List.mem_append_right _ h))) (by decide +kernel))))
set_option maxRecDepth 20000 in
theorem gX9_rule_X9_goesOn : GoodIn wsX9_rule (wsV RX9 286 RX9 yX9_goesOn wsX9_goesOn) := goodIn_app (good_rp ([158, 159, 160, 9] : List Nat) rfl (by decide +kernel)) ggX9_rule_X9_goesOn
set_option maxRecDepth 20000 in
theorem ggX9_rule_X9_ruleClause : GoodIn wsX9_rule wsX9_ruleClause := (goodIn_cons (good_rb bq_wsX9_rule ([(0, 17)] : List (Nat × Nat)) rfl (by decide +kernel)) (goodIn_app (goodIn_app (good_rb bq_wsX9_rule ([(0, 10), (0, 1), (0, 18), (0, 11), (0, 19), (0, 4), (0, 20), (0, 21), (0, 22), (0, 23), (0, 8), (1, 0), (1, 1), (1, 2), (1, 3), (1, 4), (0, 2), (1, 5), (1, 6), (1, 7), (1, 8), (1, 9), (1, 10), (1, 11)] : List (Nat × Nat)) rfl (by decide +kernel)) (goodIn_app (good_rb bq_wsX9_rule ([(1, 12), (1, 13), (1, 14), (1, 15), (1, 16), (1, 17), (1, 18), (1, 19), (1, 20), (1, 21), (1, 22), (1, 23), (2, 0), (2, 1), (2, 2), (2, 3), (2, 4), (2, 5), (2, 6), (2, 7), (2, 8), (2, 9), (2, 10), (2, 11)] : List (Nat × Nat)) rfl (by decide +kernel)) (goodIn_app (good_rb bq_wsX9_rule ([(2, 12), (2, 13), (2, 14), (2, 15), (2, 16), (2, 17), (2, 18), (2, 19), (2, 20), (2, 21), (2, 22), (2, 23), (3, 0), (3, 1), (3, 2), (3, 3), (3, 4), (3, 5), (3, 6), (3, 7), (3, 8), (3, 9), (3, 10), (3, 11)] : List (Nat × Nat)) rfl (by decide +kernel)) (goodIn_app (good_rb bq_wsX9_rule ([(3, 12), (3, 13), (3, 14), (3, 15), (3, 16), (3, 17), (3, 18), (3, 19), (3, 20), (3, 21), (3, 22), (3, 23), (4, 0), (4, 1), (4, 2), (4, 3), (4, 4), (4, 5), (4, 6), (4, 7), (4, 8), (4, 9), (4, 10), (4, 11)] : List (Nat × Nat)) rfl (by decide +kernel)) (goodIn_app (good_rb bq_wsX9_rule ([(4, 12), (4, 13), (4, 14), (4, 15), (4, 16), (4, 17), (4, 18), (4, 19), (4, 20), (4, 21), (0, 13), (4, 22), (4, 23), (5, 0), (5, 1), (5, 2), (5, 3), (5, 4), (5, 5), (5, 6), (5, 7), (5, 8), (5, 9), (5, 10)] : List (Nat × Nat)) rfl (by decide +kernel)) (goodIn_app (good_rb bq_wsX9_rule ([(5, 11), (5, 12), (5, 13), (5, 14), (5, 15), (0, 12), (5, 16), (5, 17), (5, 18), (5, 19), (5, 20), (5, 21), (5, 22), (5, 23), (6, 0), (6, 1), (6, 2), (6, 3), (6, 4), (6, 5), (6, 6), (6, 7), (6, 8), (6, 9)] : List (Nat × Nat)) rfl (by decide +kernel)) (good_rb bq_wsX9_rule ([(6, 10), (6, 11), (6, 12)] : List (Nat × Nat)) rfl (by decide +kernel)))))))) (goodIn_sb (fun _ h => (List.mem_cons_of_mem _ (List.mem_append_right _ h))) (by decide +kernel))))
set_option maxRecDepth 20000 in
theorem gX9_rule_X9_ruleClause : GoodIn wsX9_rule (wsV RX9 315 RX9 yX9_ruleClause wsX9_ruleClause) := goodIn_app (good_rp ([15, 16, 17, 9] : List Nat) rfl (by decide +kernel)) ggX9_rule_X9_ruleClause
set_option maxRecDepth 20000 in
theorem ggX9_rule_X9_starts : GoodIn wsX9_rule wsX9_starts := (goodIn_cons (good_rb bq_wsX9_rule ([(0, 9)] : List (Nat × Nat)) rfl (by decide +kernel)) (goodIn_app (good_rb bq_wsX9_rule ([(0, 10), (0, 4), (0, 11), (0, 12), (0, 13)] : List (Nat × Nat)) rfl (by decide +kernel)) (goodIn_sb (fun _ h => (List.mem_cons_of_mem _ (List.mem_append_right _ h))) (by decide +kernel))))
set_option maxRecDepth 20000 in
theorem gX9_rule_X9_starts : GoodIn wsX9_rule (wsV RX9 280 RX9 yX9_starts wsX9_starts) := goodIn_app (good_rp ([6, 7, 8, 9] : List Nat) rfl (by decide +kernel)) ggX9_rule_X9_starts
set_option maxRecDepth 20000 in
theorem bq_wsX9_settles : subq wsX9_settles [wsX9_settles_r1, wsX9_settles_r2] := ⟨(fun _ h => (List.mem_cons_of_mem _ (List.mem_append_left _ (List.mem_append_left _ h)))), (fun _ h => (List.mem_cons_of_mem _ (List.mem_append_left _ (List.mem_append_right _ h)))), trivial⟩
set_option maxRecDepth 20000 in
theorem ggX9_settles_X9_dropsOf : GoodIn wsX9_settles wsX9_dropsOf := (goodIn_cons (good_rb bq_wsX9_settles ([(0, 10)] : List (Nat × Nat)) rfl (by decide +kernel)) (goodIn_app (good_rb bq_wsX9_settles ([(0, 0), (0, 11), (0, 12), (0, 13), (0, 14), (0, 5), (0, 15), (0, 16), (0, 17), (0, 18), (0, 19), (0, 20), (0, 21), (0, 22), (0, 23), (1, 0), (1, 1), (1, 2), (1, 3), (1, 4), (1, 5), (1, 6)] : List (Nat × Nat)) rfl (by decide +kernel)) (goodIn_sb (fun _ h => (List.mem_cons_of_mem _ (List.mem_append_right _ h))) (by decide +kernel))))
set_option maxRecDepth 20000 in
theorem gX9_settles_X9_dropsOf : GoodIn wsX9_settles (wsV RX9 367 RX9 yX9_dropsOf wsX9_dropsOf) := goodIn_app (good_rp ([8, 9, 10, 6] : List Nat) rfl (by decide +kernel)) ggX9_settles_X9_dropsOf
set_option maxRecDepth 20000 in
theorem ggX9_settles_X9_has : GoodIn wsX9_settles wsX9_has := (goodIn_cons (good_rb bq_wsX9_settles ([(0, 15)] : List (Nat × Nat)) rfl (by decide +kernel)) (good_rb bq_wsX9_settles ([] : List (Nat × Nat)) rfl (by decide +kernel)))
set_option maxRecDepth 20000 in
theorem gX9_settles_X9_has : GoodIn wsX9_settles (va_wsS RX9 332 yX9_has wsX9_has) := goodIn_app (good_rp ([14, 15, 6] : List Nat) rfl (by decide +kernel)) ggX9_settles_X9_has
set_option maxRecDepth 20000 in
theorem ggX9_settles_X9_those : GoodIn wsX9_settles wsX9_those := (goodIn_cons (good_rb bq_wsX9_settles ([(0, 6)] : List (Nat × Nat)) rfl (by decide +kernel)) (goodIn_app (good_rb bq_wsX9_settles ([(0, 0), (0, 1)] : List (Nat × Nat)) rfl (by decide +kernel)) (goodIn_sb (fun _ h => (List.mem_cons_of_mem _ (List.mem_append_right _ h))) (by decide +kernel))))
set_option maxRecDepth 20000 in
theorem gX9_settles_X9_those : GoodIn wsX9_settles (wsV RX9 341 RX9 yX9_those wsX9_those) := goodIn_app (good_rp ([3, 4, 5, 6] : List Nat) rfl (by decide +kernel)) ggX9_settles_X9_those
set_option maxRecDepth 20000 in
theorem bq_wsX9_sitter : subq wsX9_sitter [[.constantLong RX9 365 (2), .fieldLink RX9 28 "ChairCaneModel" "chairOf" "[I", .fieldLink RX9 22 "ChairCaneModel" "weight" "[I", .fieldLink RX9 16 "ChairCaneModel" "is" "[I", .methodLink RX9 362 yX9_isSitter, .instanceMethod yX9_isSitter, .selects RX9 yX9_isSitter yX9_isSitter, .initialized RX9, .code yX9_isSitter cX9_isSitter 2 (some .boolean), .fieldLink RX9 9 "ChairCaneModel" "scalar" "[I", .methodLink RX9 131 yX9_in, .static yX9_in, .code yX9_in cX9_in 6 (some .boolean)]] := ⟨(fun _ h => (List.mem_cons_of_mem _ (List.mem_append_left _ h))), trivial⟩
set_option maxRecDepth 20000 in
theorem ggX9_sitter_X9_in : GoodIn wsX9_sitter wsX9_in := (goodIn_cons (good_rb bq_wsX9_sitter ([(0, 12)] : List (Nat × Nat)) rfl (by decide +kernel)) (good_rb bq_wsX9_sitter ([] : List (Nat × Nat)) rfl (by decide +kernel)))
set_option maxRecDepth 20000 in
theorem gX9_sitter_X9_in : GoodIn wsX9_sitter (va_wsS RX9 131 yX9_in wsX9_in) := goodIn_app (good_rp ([11, 12, 8] : List Nat) rfl (by decide +kernel)) ggX9_sitter_X9_in
set_option maxRecDepth 20000 in
theorem ggX9_sitter_X9_isSitter : GoodIn wsX9_sitter wsX9_isSitter := (goodIn_cons (good_rb bq_wsX9_sitter ([(0, 8)] : List (Nat × Nat)) rfl (by decide +kernel)) (goodIn_app (good_rb bq_wsX9_sitter ([(0, 9), (0, 10), (0, 11), (0, 7), (0, 12)] : List (Nat × Nat)) rfl (by decide +kernel)) (goodIn_sb (fun _ h => (List.mem_cons_of_mem _ (List.mem_append_right _ h))) (by decide +kernel))))
set_option maxRecDepth 20000 in
theorem gX9_sitter_X9_isSitter : GoodIn wsX9_sitter (wsV RX9 362 RX9 yX9_isSitter wsX9_isSitter) := goodIn_app (good_rp ([5, 6, 7, 8] : List Nat) rfl (by decide +kernel)) ggX9_sitter_X9_isSitter
set_option maxRecDepth 20000 in
theorem bq_wsX9_strand : subq wsX9_strand [[.fieldLink RX9 13 "ChairCaneModel" "cane" "[I", .methodLink RX9 347 yX9_isStrand, .instanceMethod yX9_isStrand, .selects RX9 yX9_isStrand yX9_isStrand, .initialized RX9, .code yX9_isStrand cX9_isStrand 2 (some .boolean), .fieldLink RX9 9 "ChairCaneModel" "scalar" "[I", .methodLink RX9 131 yX9_in, .static yX9_in, .code yX9_in cX9_in 6 (some .boolean)]] := ⟨(fun _ h => (List.mem_cons_of_mem _ (List.mem_append_left _ h))), trivial⟩
set_option maxRecDepth 20000 in
theorem ggX9_strand_X9_isStrand : GoodIn wsX9_strand wsX9_isStrand := (goodIn_cons (good_rb bq_wsX9_strand ([(0, 5)] : List (Nat × Nat)) rfl (by decide +kernel)) (goodIn_app (good_rb bq_wsX9_strand ([(0, 6), (0, 7), (0, 8), (0, 4), (0, 9)] : List (Nat × Nat)) rfl (by decide +kernel)) (goodIn_sb (fun _ h => (List.mem_cons_of_mem _ (List.mem_append_right _ h))) (by decide +kernel))))
set_option maxRecDepth 20000 in
theorem gX9_strand_X9_isStrand : GoodIn wsX9_strand (wsV RX9 347 RX9 yX9_isStrand wsX9_isStrand) := goodIn_app (good_rp ([2, 3, 4, 5] : List Nat) rfl (by decide +kernel)) ggX9_strand_X9_isStrand
set_option maxRecDepth 20000 in
theorem bq_wsX9_wanted : subq wsX9_wanted [[.fieldLink RX9 9 "ChairCaneModel" "scalar" "[I", .fieldLink RX9 75 "ChairCaneModel" "clauses" "[I", .fieldLink RX9 81 "ChairCaneModel" "testAt" "[I", .fieldLink RX9 84 "ChairCaneModel" "endAt" "[I", .fieldLink RX9 78 "ChairCaneModel" "sumAt" "[I", .methodLink RX9 320 yX9_answer, .instanceMethod yX9_answer, .selects RX9 yX9_answer yX9_answer, .initialized RX9, .code yX9_answer cX9_answer 8 (some .long), .fieldLink RX9 69 "ChairCaneModel" "sort" "[I", .fieldLink RX9 72 "ChairCaneModel" "number" "[I", .fieldLink RX9 94 "ChairCaneModel" "stack" "[J", .fieldLink RX9 90 "ChairCaneModel" "asked" "[J", .methodLink RX9 328 yX9_both, .static yX9_both, .code yX9_both cX9_both 5 (some .long), .methodLink RX9 324 yX9_truth, .static yX9_truth, .code yX9_truth cX9_truth 1 (some .long)]] := ⟨(fun _ h => (List.mem_cons_of_mem _ (List.mem_append_left _ h))), trivial⟩
set_option maxRecDepth 20000 in
theorem ggX9_wanted_X9_answer : GoodIn wsX9_wanted wsX9_answer := (goodIn_cons (good_rb bq_wsX9_wanted ([(0, 9)] : List (Nat × Nat)) rfl (by decide +kernel)) (goodIn_app (good_rb bq_wsX9_wanted ([(0, 10), (0, 11), (0, 12), (0, 13), (0, 14), (0, 15), (0, 8), (0, 16), (0, 17), (0, 18), (0, 19)] : List (Nat × Nat)) rfl (by decide +kernel)) (goodIn_sb (fun _ h => (List.mem_cons_of_mem _ (List.mem_append_right _ h))) (by decide +kernel))))
set_option maxRecDepth 20000 in
theorem gX9_wanted_X9_answer : GoodIn wsX9_wanted (wsV RX9 320 RX9 yX9_answer wsX9_answer) := goodIn_app (good_rp ([6, 7, 8, 9] : List Nat) rfl (by decide +kernel)) ggX9_wanted_X9_answer
set_option maxRecDepth 20000 in
theorem bq_wsX9_weightOf : subq wsX9_weightOf [[.fieldLink RX9 9 "ChairCaneModel" "scalar" "[I", .fieldLink RX9 22 "ChairCaneModel" "weight" "[I", .methodLink RX9 332 yX9_has, .static yX9_has, .initialized RX9, .code yX9_has cX9_has 2 (some .boolean)]] := ⟨(fun _ h => (List.mem_cons_of_mem _ (List.mem_append_left _ h))), trivial⟩
set_option maxRecDepth 20000 in
theorem ggX9_weightOf_X9_has : GoodIn wsX9_weightOf wsX9_has := (goodIn_cons (good_rb bq_wsX9_weightOf ([(0, 5)] : List (Nat × Nat)) rfl (by decide +kernel)) (good_rb bq_wsX9_weightOf ([] : List (Nat × Nat)) rfl (by decide +kernel)))
set_option maxRecDepth 20000 in
theorem gX9_weightOf_X9_has : GoodIn wsX9_weightOf (va_wsS RX9 332 yX9_has wsX9_has) := goodIn_app (good_rp ([3, 4, 5] : List Nat) rfl (by decide +kernel)) ggX9_weightOf_X9_has
noncomputable def b_X9_goesOn_63 (F : Nat)    (y0 : Int32) (mo : OB) : Option (Int32 × OB) :=
  if bo y0 then (some (y0, ((uF mo.1 19 ((mo.1 19) + 1)), mo.2.1, mo.2.2))) else none
noncomputable def b_X9_goesOn_62 (F : Nat)    (mo : OB) : Option (Int32 × OB) :=
  b_X9_goesOn_63 F 0 mo
noncomputable def b_X9_goesOn_40 (F : Nat)    (mo : OB) : Option (Int32 × OB) :=
  if (mo.1 20) = 0 then (if (mo.1 18) ≤ (mo.1 19) then (b_X9_goesOn_62 F mo) else (b_X9_goesOn_63 F 1 mo)) else (b_X9_goesOn_62 F mo)
noncomputable def f_X9_goesOn (F : Nat)   (mo : OB) : Option (Int32 × OB) :=
  Option.bind (f_X9_blanks F mo) (fun q4 => (if (q4.1 20) = 0 then (if (q4.1 18) ≤ (q4.1 19) then (b_X9_goesOn_40 F q4) else (Option.bind (f_X9_sign F q4) (fun q7 => (if q7 = 59 then (b_X9_goesOn_40 F q4) else (Option.bind (f_X9_fails F 0 (q4.1 19) q4) (fun q9 => (b_X9_goesOn_40 F q9))))))) else (b_X9_goesOn_40 F q4)))
set_option maxHeartbeats 4000000 in
set_option maxRecDepth 100000 in
theorem c_X9_goesOn (l : Launch) (D : va_G) (k : Nat → ClassId) (sz : Nat)  (va : Nat → Nat) (F : Nat)   (mo : OB)  {res : Int32 × OB} (h : f_X9_goesOn F mo = some res) : CtI l yX9_goesOn wsX9_goesOn (rmK 3 0 0) [.ref (va 0)] D k sz (moW k va mo) (fun r (_ : Unit) => r = res.1) (fun _ : Unit => moW k va res.2) 0 0 := by
  refine CtI.mk (cc := cX9_goesOn) (maxL := 2) (ret := (some .boolean)) (by decide) rfl (Nat.le_of_ble_eq_true rfl) ?_
  intro p e s m below meth c A ls E hP hD hS hl
  obtain ⟨hx, hb, hr, hml, hown, hts, hlocks, hin, hG, hA⟩ := E
  have hown : s.vm.findClass RX9 = some m.cls := hown
  have in9 : ∀ w ∈ u_ws RX9 TX9 53, w ∈ wsX9_goesOn := fun _ h => List.mem_cons_of_mem _ (List.mem_append_right _ h)
  have hl : lv_has ls 2 [(0, .ref (va 0))] := hl
  have B63 : ∀ (y0 : Int32) (mo : OB) (H : Heap) (locs : List Loc) (ls : Array Slot), b_X9_goesOn_63 F y0 mo = some res → va_P D vwCl (moW k va mo) H → va_D A (moW k va mo) → va_S A s.heap H locs → lv_has ls 2 [(0, .ref (va 0))] → W p l e (rmK 3 0 0) s m (List.toArray [.ref (va 0)]) below meth c H locs 0 0 (MQ below (va_Qi (fun r (_ : Unit) => r = res.1) (hcB D (fun _ : Unit => moW k va res.2) A) A) (List.toArray [.ref (va 0)]) s 0 0 A) (F0 m 63 ls [.int y0]) := by
    intro y0 mo H locs ls h hP hD hS hl
    refine lv_istore_n (lv' := [(1, .int y0), (0, .ref (va 0))]) hx hb dX9_goesOn_63 rfl hl (by decide) rfl (fun ls hl => ?_)
    refine lv_aload_n hx hb dX9_goesOn_64 rfl (lv_at hl 1 rfl) ?_
    refine lv_dup hx hb dX9_goesOn_65 rfl ?_
    refine va_get (D := D) (ci := 7) (v := .int (mo.1 19)) (C := RX9) (T := TX9) (N := 53) hx hb hts in9 hown hG.1 hP 0 rfl rfl 19 (by decide) (hts (.fieldLink RX9 164 "ChairCaneModel" "p" "I") (mem_b bq_wsX9_goesOn 0 1 rfl)) (fun _ h9 => h9) rfl dX9_goesOn_66 ?_
    refine lv_iconst (v := 1) hx hb dX9_goesOn_69 (by decide) ?_
    refine lv_iadd hx hb dX9_goesOn_70 ?_
    refine va_put (D := D) (ci := 7) (v := .int ((mo.1 19) + 1)) (C := RX9) (T := TX9) (N := 53) hx hb hts in9 tyX9 tyX9_ok nmX9 hown hG.1 hP hD hS 0 rfl rfl 19 (by decide) (hts (.fieldLink RX9 164 "ChairCaneModel" "p" "I") (mem_b bq_wsX9_goesOn 0 1 rfl)) (fun _ h9 => h9) rfl (tyX9_ok 19 (by decide)) rfl rfl (Nat.le_of_ble_eq_true rfl) dX9_goesOn_71 (fun H locs hP hD hS => ?_)
    refine lv_iload_n hx hb dX9_goesOn_74 rfl (lv_at hl 0 rfl) ?_
    obtain ⟨g1, h⟩ := fw_g h
    exact fw_endZ (rv := fun b : Int32 × OB => b.1) (wp := fun b : Int32 × OB => moW k va b.2) hx hb hr hlocks h (bo_z g1) rfl hP hD hS dX9_goesOn_75
  have B62 : ∀ (mo : OB) (H : Heap) (locs : List Loc) (ls : Array Slot), b_X9_goesOn_62 F mo = some res → va_P D vwCl (moW k va mo) H → va_D A (moW k va mo) → va_S A s.heap H locs → lv_has ls 2 [(0, .ref (va 0))] → W p l e (rmK 3 0 0) s m (List.toArray [.ref (va 0)]) below meth c H locs 0 0 (MQ below (va_Qi (fun r (_ : Unit) => r = res.1) (hcB D (fun _ : Unit => moW k va res.2) A) A) (List.toArray [.ref (va 0)]) s 0 0 A) (F0 m 62 ls []) := by
    intro mo H locs ls h hP hD hS hl
    refine lv_iconst (v := 0) hx hb dX9_goesOn_62 (by decide) ?_
    exact B63 _ _ _ _ _ h hP hD hS hl
  have B40 : ∀ (mo : OB) (H : Heap) (locs : List Loc) (ls : Array Slot), b_X9_goesOn_40 F mo = some res → va_P D vwCl (moW k va mo) H → va_D A (moW k va mo) → va_S A s.heap H locs → lv_has ls 2 [(0, .ref (va 0))] → W p l e (rmK 3 0 0) s m (List.toArray [.ref (va 0)]) below meth c H locs 0 0 (MQ below (va_Qi (fun r (_ : Unit) => r = res.1) (hcB D (fun _ : Unit => moW k va res.2) A) A) (List.toArray [.ref (va 0)]) s 0 0 A) (F0 m 40 ls []) := by
    intro mo H locs ls h hP hD hS hl
    refine lv_aload_n hx hb dX9_goesOn_40 rfl (lv_at hl 0 rfl) ?_
    refine va_get (D := D) (ci := 7) (v := .int (mo.1 20)) (C := RX9) (T := TX9) (N := 53) hx hb hts in9 hown hG.1 hP 0 rfl rfl 20 (by decide) (hts (.fieldLink RX9 161 "ChairCaneModel" "fault" "I") (mem_b bq_wsX9_goesOn 0 0 rfl)) (fun _ h9 => h9) rfl dX9_goesOn_41 ?_
    refine lv_if_ne (tgt := 62) hx hb dX9_goesOn_44 (by decide) (fun c2 => ?_) (fun c2 => ?_)
    · have h := fw_f c2 h
      exact B62 _ _ _ _ h hP hD hS hl
    · have h := fw_t c2 h
      refine lv_aload_n hx hb dX9_goesOn_47 rfl (lv_at hl 0 rfl) ?_
      refine va_get (D := D) (ci := 7) (v := .int (mo.1 19)) (C := RX9) (T := TX9) (N := 53) hx hb hts in9 hown hG.1 hP 0 rfl rfl 19 (by decide) (hts (.fieldLink RX9 164 "ChairCaneModel" "p" "I") (mem_b bq_wsX9_goesOn 0 1 rfl)) (fun _ h9 => h9) rfl dX9_goesOn_48 ?_
      refine lv_aload_n hx hb dX9_goesOn_51 rfl (lv_at hl 0 rfl) ?_
      refine va_get (D := D) (ci := 7) (v := .int (mo.1 18)) (C := RX9) (T := TX9) (N := 53) hx hb hts in9 hown hG.1 hP 0 rfl rfl 18 (by decide) (hts (.fieldLink RX9 135 "ChairCaneModel" "taped" "I") (mem_b bq_wsX9_goesOn 0 2 rfl)) (fun _ h9 => h9) rfl dX9_goesOn_52 ?_
      refine lv_icmp_ge (tgt := 62) hx hb dX9_goesOn_55 (by decide) (fun c3 => ?_) (fun c3 => ?_)
      · have h := fw_t c3 h
        exact B62 _ _ _ _ h hP hD hS hl
      · have h := fw_f c3 h
        refine lv_iconst (v := 1) hx hb dX9_goesOn_58 (by decide) ?_
        refine lv_goto (tgt := 63) hx hb dX9_goesOn_59 (by decide) ?_
        exact B63 _ _ _ _ _ h hP hD hS hl
  refine lv_aload_n hx hb dX9_goesOn_0 rfl (lv_at hl 0 rfl) ?_
  refine fw_Vv (As := []) (rest := []) (n := 0) (wr := []) (wp := fun b : OB => moW k va b) h hx hb hml hown hts hG hA hP hD hS hl.1 (List.range (moW k va mo).length) [] (fun q hq9 => c_X9_blanks l D k _  va F  mo  hq9) (ci := 7) (q0 := 0) rfl rfl gX9_goesOn_X9_blanks rfl ⟨rfl, rfl, Nat.le_of_ble_eq_true rfl, Nat.le_of_ble_eq_true rfl⟩ (by decide +kernel) (al_C _) rfl (al_n _) ⟨rfl, rfl, Nat.le_of_ble_eq_true rfl, Nat.le_of_ble_eq_true rfl, Nat.le_of_ble_eq_true rfl⟩ dX9_goesOn_1 (fun q4 H locs h hP hD hS => ?_)
  obtain ⟨hP, hD⟩ := cv (w' := moW k va q4) hP hD rfl
  refine lv_aload_n hx hb dX9_goesOn_4 rfl (lv_at hl 0 rfl) ?_
  refine va_get (D := D) (ci := 7) (v := .int (q4.1 20)) (C := RX9) (T := TX9) (N := 53) hx hb hts in9 hown hG.1 hP 0 rfl rfl 20 (by decide) (hts (.fieldLink RX9 161 "ChairCaneModel" "fault" "I") (mem_b bq_wsX9_goesOn 0 0 rfl)) (fun _ h9 => h9) rfl dX9_goesOn_5 ?_
  refine lv_if_ne (tgt := 40) hx hb dX9_goesOn_8 (by decide) (fun c5 => ?_) (fun c5 => ?_)
  · have h := fw_f c5 h
    exact B40 _ _ _ _ h hP hD hS hl
  · have h := fw_t c5 h
    refine lv_aload_n hx hb dX9_goesOn_11 rfl (lv_at hl 0 rfl) ?_
    refine va_get (D := D) (ci := 7) (v := .int (q4.1 19)) (C := RX9) (T := TX9) (N := 53) hx hb hts in9 hown hG.1 hP 0 rfl rfl 19 (by decide) (hts (.fieldLink RX9 164 "ChairCaneModel" "p" "I") (mem_b bq_wsX9_goesOn 0 1 rfl)) (fun _ h9 => h9) rfl dX9_goesOn_12 ?_
    refine lv_aload_n hx hb dX9_goesOn_15 rfl (lv_at hl 0 rfl) ?_
    refine va_get (D := D) (ci := 7) (v := .int (q4.1 18)) (C := RX9) (T := TX9) (N := 53) hx hb hts in9 hown hG.1 hP 0 rfl rfl 18 (by decide) (hts (.fieldLink RX9 135 "ChairCaneModel" "taped" "I") (mem_b bq_wsX9_goesOn 0 2 rfl)) (fun _ h9 => h9) rfl dX9_goesOn_16 ?_
    refine lv_icmp_ge (tgt := 40) hx hb dX9_goesOn_19 (by decide) (fun c6 => ?_) (fun c6 => ?_)
    · have h := fw_t c6 h
      exact B40 _ _ _ _ h hP hD hS hl
    · have h := fw_f c6 h
      refine lv_aload_n hx hb dX9_goesOn_22 rfl (lv_at hl 0 rfl) ?_
      refine fw_Vi (As := []) (rest := []) (n := 0) (wr := []) (rv := fun b : Int32 => b) (wp := fun b : Int32 => moW k va q4) h hx hb hml hown hts hG hA hP hD hS hl.1 (List.range (moW k va q4).length) [] (fun q hq9 => c_X9_sign l D k _  va F  q4  hq9) (ci := 7) (q0 := 0) rfl rfl gX9_goesOn_X9_sign rfl ⟨rfl, rfl, Nat.le_of_ble_eq_true rfl, Nat.le_of_ble_eq_true rfl⟩ (by decide +kernel) (al_C _) rfl (al_n _) ⟨rfl, rfl, Nat.le_of_ble_eq_true rfl, Nat.le_of_ble_eq_true rfl, Nat.le_of_ble_eq_true rfl⟩ dX9_goesOn_23 (fun q7 H locs h hP hD hS => ?_)
      obtain ⟨hP, hD⟩ := cv (w' := moW k va q4) hP hD rfl
      refine hc_is (z := q7) rfl ?_
      refine lv_bipush (v := 59) hx hb dX9_goesOn_26 (by decide) ?_
      refine lv_icmp_eq (tgt := 40) hx hb dX9_goesOn_28 (by decide) (fun c8 => ?_) (fun c8 => ?_)
      · have h := fw_t c8 h
        exact B40 _ _ _ _ h hP hD hS hl
      · have h := fw_f c8 h
        refine lv_aload_n hx hb dX9_goesOn_31 rfl (lv_at hl 0 rfl) ?_
        refine lv_iconst (v := 0) hx hb dX9_goesOn_32 (by decide) ?_
        refine lv_aload_n hx hb dX9_goesOn_33 rfl (lv_at hl 0 rfl) ?_
        refine va_get (D := D) (ci := 7) (v := .int (q4.1 19)) (C := RX9) (T := TX9) (N := 53) hx hb hts in9 hown hG.1 hP 0 rfl rfl 19 (by decide) (hts (.fieldLink RX9 164 "ChairCaneModel" "p" "I") (mem_b bq_wsX9_goesOn 0 1 rfl)) (fun _ h9 => h9) rfl dX9_goesOn_34 ?_
        refine fw_Vv (As := [.int 0, .int (q4.1 19)]) (rest := []) (n := 2) (wr := []) (wp := fun b : OB => moW k va b) h hx hb hml hown hts hG hA hP hD hS hl.1 (List.range (moW k va q4).length) [] (fun q hq9 => c_X9_fails l D k _  va F 0 (q4.1 19) q4  hq9) (ci := 7) (q0 := 0) rfl rfl gX9_goesOn_X9_fails rfl ⟨rfl, rfl, Nat.le_of_ble_eq_true rfl, Nat.le_of_ble_eq_true rfl⟩ (by decide +kernel) (al_C _) rfl (al_n _) ⟨rfl, rfl, Nat.le_of_ble_eq_true rfl, Nat.le_of_ble_eq_true rfl, Nat.le_of_ble_eq_true rfl⟩ dX9_goesOn_37 (fun q9 H locs h hP hD hS => ?_)
        obtain ⟨hP, hD⟩ := cv (w' := moW k va q9) hP hD rfl
        exact B40 _ _ _ _ h hP hD hS hl
noncomputable def f_X9_starts (F : Nat)   (mo : OB) : Option (OB) :=
  some ((uF (uF (uF (uF (uF mo.1 19 0) 20 0) 23 0) 24 0) 25 0), mo.2.1, mo.2.2)
set_option maxRecDepth 20000 in
theorem bq_wsX9_starts : subq wsX9_starts [[.fieldLink RX9 164 "ChairCaneModel" "p" "I", .fieldLink RX9 161 "ChairCaneModel" "fault" "I", .fieldLink RX9 194 "ChairCaneModel" "entries" "I", .fieldLink RX9 235 "ChairCaneModel" "deep" "I", .fieldLink RX9 197 "ChairCaneModel" "counted" "I"]] := ⟨(fun _ h => (List.mem_cons_of_mem _ (List.mem_append_left _ h))), trivial⟩
set_option maxHeartbeats 4000000 in
set_option maxRecDepth 100000 in
theorem c_X9_starts (l : Launch) (D : va_G) (k : Nat → ClassId) (sz : Nat)  (va : Nat → Nat) (F : Nat)   (mo : OB)  {res : OB} (h : f_X9_starts F mo = some res) : CtV l yX9_starts wsX9_starts (rmK 1 0 0) [.ref (va 0)] D k sz (moW k va mo) (fun (_ : Unit) => True) (fun _ : Unit => moW k va res) 0 0 := by
  refine CtV.mk (cc := cX9_starts) (maxL := 1) (ret := none) (by decide) rfl (Nat.le_of_ble_eq_true rfl) ?_
  intro p e s m below meth c A ls E hP hD hS hl
  obtain ⟨hx, hb, hr, hml, hown, hts, hlocks, hin, hG, hA⟩ := E
  have hown : s.vm.findClass RX9 = some m.cls := hown
  have in9 : ∀ w ∈ u_ws RX9 TX9 53, w ∈ wsX9_starts := fun _ h => List.mem_cons_of_mem _ (List.mem_append_right _ h)
  have hl : lv_has ls 1 [(0, .ref (va 0))] := hl
  refine lv_aload_n hx hb dX9_starts_0 rfl (lv_at hl 0 rfl) ?_
  refine lv_iconst (v := 0) hx hb dX9_starts_1 (by decide) ?_
  refine va_put (D := D) (ci := 7) (v := .int 0) (C := RX9) (T := TX9) (N := 53) hx hb hts in9 tyX9 tyX9_ok nmX9 hown hG.1 hP hD hS 0 rfl rfl 19 (by decide) (hts (.fieldLink RX9 164 "ChairCaneModel" "p" "I") (mem_b bq_wsX9_starts 0 0 rfl)) (fun _ h9 => h9) rfl (tyX9_ok 19 (by decide)) rfl rfl (Nat.le_of_ble_eq_true rfl) dX9_starts_2 (fun H locs hP hD hS => ?_)
  refine lv_aload_n hx hb dX9_starts_5 rfl (lv_at hl 0 rfl) ?_
  refine lv_iconst (v := 0) hx hb dX9_starts_6 (by decide) ?_
  refine va_put (D := D) (ci := 7) (v := .int 0) (C := RX9) (T := TX9) (N := 53) hx hb hts in9 tyX9 tyX9_ok nmX9 hown hG.1 hP hD hS 0 rfl rfl 20 (by decide) (hts (.fieldLink RX9 161 "ChairCaneModel" "fault" "I") (mem_b bq_wsX9_starts 0 1 rfl)) (fun _ h9 => h9) rfl (tyX9_ok 20 (by decide)) rfl rfl (Nat.le_of_ble_eq_true rfl) dX9_starts_7 (fun H locs hP hD hS => ?_)
  refine lv_aload_n hx hb dX9_starts_10 rfl (lv_at hl 0 rfl) ?_
  refine lv_iconst (v := 0) hx hb dX9_starts_11 (by decide) ?_
  refine va_put (D := D) (ci := 7) (v := .int 0) (C := RX9) (T := TX9) (N := 53) hx hb hts in9 tyX9 tyX9_ok nmX9 hown hG.1 hP hD hS 0 rfl rfl 23 (by decide) (hts (.fieldLink RX9 194 "ChairCaneModel" "entries" "I") (mem_b bq_wsX9_starts 0 2 rfl)) (fun _ h9 => h9) rfl (tyX9_ok 23 (by decide)) rfl rfl (Nat.le_of_ble_eq_true rfl) dX9_starts_12 (fun H locs hP hD hS => ?_)
  refine lv_aload_n hx hb dX9_starts_15 rfl (lv_at hl 0 rfl) ?_
  refine lv_iconst (v := 0) hx hb dX9_starts_16 (by decide) ?_
  refine va_put (D := D) (ci := 7) (v := .int 0) (C := RX9) (T := TX9) (N := 53) hx hb hts in9 tyX9 tyX9_ok nmX9 hown hG.1 hP hD hS 0 rfl rfl 24 (by decide) (hts (.fieldLink RX9 235 "ChairCaneModel" "deep" "I") (mem_b bq_wsX9_starts 0 3 rfl)) (fun _ h9 => h9) rfl (tyX9_ok 24 (by decide)) rfl rfl (Nat.le_of_ble_eq_true rfl) dX9_starts_17 (fun H locs hP hD hS => ?_)
  refine lv_aload_n hx hb dX9_starts_20 rfl (lv_at hl 0 rfl) ?_
  refine lv_iconst (v := 0) hx hb dX9_starts_21 (by decide) ?_
  refine va_put (D := D) (ci := 7) (v := .int 0) (C := RX9) (T := TX9) (N := 53) hx hb hts in9 tyX9 tyX9_ok nmX9 hown hG.1 hP hD hS 0 rfl rfl 25 (by decide) (hts (.fieldLink RX9 197 "ChairCaneModel" "counted" "I") (mem_b bq_wsX9_starts 0 4 rfl)) (fun _ h9 => h9) rfl (tyX9_ok 25 (by decide)) rfl rfl (Nat.le_of_ble_eq_true rfl) dX9_starts_22 (fun H locs hP hD hS => ?_)
  exact fw_endV (wp := fun b : OB => moW k va b) hx hb hr hlocks h hP hD hS dX9_starts_25
noncomputable def b_X9_readsAll_28 (F : Nat)    (k28 : (Int32 × Int32 × OB) → Option (OB)) (a28 : (Int32 × Int32 × OB)) : Option (OB) :=
  if a28.2.1 = 0 then (some ((uF a28.2.2.1 18 0), a28.2.2.2.1, a28.2.2.2.2)) else (Option.bind (f_X9_hallClause F a28.1 a28.2.2) (fun q2 => (Option.bind (f_X9_goesOn F q2) (fun q3 => (k28 ((a28.1 + 1), q3.1, q3.2))))))
noncomputable def b_X9_readsAll_6 (F : Nat)    (k6 : (Int32 × OB) → Option (OB)) (a6 : (Int32 × OB)) : Option (OB) :=
  if 4 ≤ a6.1 then (lp (b_X9_readsAll_28 F) F (0, 1, a6.2)) else (if ib a6.1 4 then (k6 ((a6.1 + 1), (a6.2.1, (uF a6.2.2.1 12 (upd (a6.2.2.1 12) (Int32.toNatClampNeg a6.1) 0)), a6.2.2.2))) else none)
noncomputable def f_X9_readsAll (F : Nat)   (mo : OB) : Option (OB) :=
  Option.bind (f_X9_starts F mo) (fun q6 => (lp (b_X9_readsAll_6 F) F (0, q6)))
set_option maxHeartbeats 4000000 in
set_option maxRecDepth 100000 in
theorem c_X9_readsAll (l : Launch) (D : va_G) (k : Nat → ClassId) (sz : Nat) (ad tv : Nat → Nat) (va : Nat → Nat) (F : Nat)   (mo : OB)  {res : OB} (h : f_X9_readsAll F mo = some res) : CtVE l yX9_readsAll wsX9_readsAll (rmK 8 0 0) [.ref (va 0)] D k (EY ad tv) sz (moW k va mo) (fun (_ : Unit) => True) (fun _ : Unit => moW k va res) 0 0 := by
  refine CtVE.mk (cc := cX9_readsAll) (maxL := 3) (ret := none) (by decide) rfl (Nat.le_of_ble_eq_true rfl) ?_
  intro p e s m below meth c A ls hE E hP hD hS hl
  obtain ⟨hx, hb, hr, hml, hown, hts, hlocks, hin, hG, hA⟩ := E
  have hown : s.vm.findClass RX9 = some m.cls := hown
  have in9 : ∀ w ∈ u_ws RX9 TX9 53, w ∈ wsX9_readsAll := fun _ h => List.mem_cons_of_mem _ (List.mem_append_right _ h)
  have hl : lv_has ls 3 [(0, .ref (va 0))] := hl
  have B28 : ∀ a28 : (Int32 × Int32 × OB), lp (b_X9_readsAll_28 F) F a28 = some res → ∀ (H : Heap) (locs : List Loc) (ls : Array Slot), va_P D vwCl (moW k va a28.2.2) H → va_D A (moW k va a28.2.2) → va_S A s.heap H locs → lv_has ls 3 [(0, .ref (va 0)), (1, .int a28.1), (2, .int a28.2.1)] → W p l e (rmK 8 0 0) s m (List.toArray [.ref (va 0)]) below meth c H locs 0 0 (MQ below (va_Qv (fun (_ : Unit) => True) (hcB D (fun _ : Unit => moW k va res) A) A) (List.toArray [.ref (va 0)]) s 0 0 A) (F0 m 28 ls []) := by
    refine lp_W ?_ F
    intro k28 hk28 a28 h H locs ls hP hD hS hl
    have hc28 : ∀ (v1 : Int32) (v2 : Int32) (mo : OB), k28 (v1, v2, mo) = some res → ∀ (H : Heap) (locs : List Loc) (ls : Array Slot), va_P D vwCl (moW k va mo) H → va_D A (moW k va mo) → va_S A s.heap H locs → lv_has ls 3 [(0, .ref (va 0)), (1, .int v1), (2, .int v2)] → W p l e (rmK 8 0 0) s m (List.toArray [.ref (va 0)]) below meth c H locs 0 0 (MQ below (va_Qv (fun (_ : Unit) => True) (hcB D (fun _ : Unit => moW k va res) A) A) (List.toArray [.ref (va 0)]) s 0 0 A) (F0 m 28 ls []) := fun v1 v2 mo => hk28 (v1, v2, mo)
    refine lv_iload_n hx hb dX9_readsAll_28 rfl (lv_at hl 2 rfl) ?_
    refine lv_if_eq (tgt := 48) hx hb dX9_readsAll_29 (by decide) (fun c1 => ?_) (fun c1 => ?_)
    · have h := fw_t c1 h
      refine lv_aload_n hx hb dX9_readsAll_48 rfl (lv_at hl 0 rfl) ?_
      refine lv_iconst (v := 0) hx hb dX9_readsAll_49 (by decide) ?_
      refine va_put (D := D) (ci := 7) (v := .int 0) (C := RX9) (T := TX9) (N := 53) hx hb hts in9 tyX9 tyX9_ok nmX9 hown hG.1 hP hD hS 0 rfl rfl 18 (by decide) (hts (.fieldLink RX9 135 "ChairCaneModel" "taped" "I") (mem_b bq_wsX9_readsAll 0 1 rfl)) (fun _ h9 => h9) rfl (tyX9_ok 18 (by decide)) rfl rfl (Nat.le_of_ble_eq_true rfl) dX9_readsAll_50 (fun H locs hP hD hS => ?_)
      exact fw_endV (wp := fun b : OB => moW k va b) hx hb hr hlocks h hP hD hS dX9_readsAll_53
    · have h := fw_f c1 h
      refine lv_aload_n hx hb dX9_readsAll_32 rfl (lv_at hl 0 rfl) ?_
      refine lv_iload_n hx hb dX9_readsAll_33 rfl (lv_at hl 1 rfl) ?_
      refine fw_VvE (As := [.int a28.1]) (rest := []) (n := 1) (wr := []) (wp := fun b : OB => moW k va b) h (EY.ok ad tv) hE hx hb hml hown hts hG hA hP hD hS hl.1 (List.range (moW k va a28.2.2).length) [] (fun q hq9 => c_X9_hallClause l D k _ ad tv va F a28.1 a28.2.2  hq9) (va_recv hG.1 hP (ci := 7) (q0 := 0) rfl rfl) gX9_readsAll_X9_hallClause rfl ⟨rfl, rfl, Nat.le_of_ble_eq_true rfl, Nat.le_of_ble_eq_true rfl⟩ (by decide +kernel) (al_C _) rfl (al_n _) ⟨rfl, rfl, Nat.le_of_ble_eq_true rfl, Nat.le_of_ble_eq_true rfl, Nat.le_of_ble_eq_true rfl⟩ dX9_readsAll_34 (fun q2 H locs h hP hD hS => ?_)
      obtain ⟨hP, hD⟩ := cv (w' := moW k va q2) hP hD rfl
      refine lv_iinc (v := (a28.1 + 1)) (lv' := [(1, .int (a28.1 + 1)), (0, .ref (va 0)), (2, .int a28.2.1)]) hx hb dX9_readsAll_37 hl (k := 1) rfl rfl (by decide) rfl (fun ls hl => ?_)
      refine lv_aload_n hx hb dX9_readsAll_40 rfl (lv_at hl 1 rfl) ?_
      refine fw_Vi (As := []) (rest := []) (n := 0) (wr := []) (rv := fun b : Int32 × OB => b.1) (wp := fun b : Int32 × OB => moW k va b.2) h hx hb hml hown hts hG hA hP hD hS hl.1 (List.range (moW k va q2).length) [] (fun q hq9 => c_X9_goesOn l D k _  va F  q2  hq9) (ci := 7) (q0 := 0) rfl rfl gX9_readsAll_X9_goesOn rfl ⟨rfl, rfl, Nat.le_of_ble_eq_true rfl, Nat.le_of_ble_eq_true rfl⟩ (by decide +kernel) (al_C _) rfl (al_n _) ⟨rfl, rfl, Nat.le_of_ble_eq_true rfl, Nat.le_of_ble_eq_true rfl, Nat.le_of_ble_eq_true rfl⟩ dX9_readsAll_41 (fun q3 H locs h hP hD hS => ?_)
      obtain ⟨hP, hD⟩ := cv (w' := moW k va q3.2) hP hD rfl
      refine hc_is (z := q3.1) rfl ?_
      refine lv_istore_n (lv' := [(2, .int q3.1), (1, .int (a28.1 + 1)), (0, .ref (va 0))]) hx hb dX9_readsAll_44 rfl hl (by decide) rfl (fun ls hl => ?_)
      refine lv_goto (tgt := 28) hx hb dX9_readsAll_45 (by decide) ?_
      exact hc28 _ _ _ h _ _ _ hP hD hS (lv_sub hl [2, 1, 0] rfl)
  have C28 : ∀ (v1 : Int32) (v2 : Int32) (mo : OB), lp (b_X9_readsAll_28 F) F (v1, v2, mo) = some res → ∀ (H : Heap) (locs : List Loc) (ls : Array Slot), va_P D vwCl (moW k va mo) H → va_D A (moW k va mo) → va_S A s.heap H locs → lv_has ls 3 [(0, .ref (va 0)), (1, .int v1), (2, .int v2)] → W p l e (rmK 8 0 0) s m (List.toArray [.ref (va 0)]) below meth c H locs 0 0 (MQ below (va_Qv (fun (_ : Unit) => True) (hcB D (fun _ : Unit => moW k va res) A) A) (List.toArray [.ref (va 0)]) s 0 0 A) (F0 m 28 ls []) := fun v1 v2 mo => B28 (v1, v2, mo)
  have B6 : ∀ a6 : (Int32 × OB), lp (b_X9_readsAll_6 F) F a6 = some res → ∀ (H : Heap) (locs : List Loc) (ls : Array Slot), va_P D vwCl (moW k va a6.2) H → va_D A (moW k va a6.2) → va_S A s.heap H locs → lv_has ls 3 [(0, .ref (va 0)), (1, .int a6.1)] → W p l e (rmK 8 0 0) s m (List.toArray [.ref (va 0)]) below meth c H locs 0 0 (MQ below (va_Qv (fun (_ : Unit) => True) (hcB D (fun _ : Unit => moW k va res) A) A) (List.toArray [.ref (va 0)]) s 0 0 A) (F0 m 6 ls []) := by
    refine lp_W ?_ F
    intro k6 hk6 a6 h H locs ls hP hD hS hl
    have hc6 : ∀ (v1 : Int32) (mo : OB), k6 (v1, mo) = some res → ∀ (H : Heap) (locs : List Loc) (ls : Array Slot), va_P D vwCl (moW k va mo) H → va_D A (moW k va mo) → va_S A s.heap H locs → lv_has ls 3 [(0, .ref (va 0)), (1, .int v1)] → W p l e (rmK 8 0 0) s m (List.toArray [.ref (va 0)]) below meth c H locs 0 0 (MQ below (va_Qv (fun (_ : Unit) => True) (hcB D (fun _ : Unit => moW k va res) A) A) (List.toArray [.ref (va 0)]) s 0 0 A) (F0 m 6 ls []) := fun v1 mo => hk6 (v1, mo)
    refine lv_iload_n hx hb dX9_readsAll_6 rfl (lv_at hl 1 rfl) ?_
    refine lv_iconst (v := 4) hx hb dX9_readsAll_7 (by decide) ?_
    refine lv_icmp_ge (tgt := 24) hx hb dX9_readsAll_8 (by decide) (fun c4 => ?_) (fun c4 => ?_)
    · have h := fw_t c4 h
      refine lv_iconst (v := 0) hx hb dX9_readsAll_24 (by decide) ?_
      refine lv_istore_n (lv' := [(1, .int 0), (0, .ref (va 0))]) hx hb dX9_readsAll_25 rfl hl (by decide) rfl (fun ls hl => ?_)
      refine lv_iconst (v := 1) hx hb dX9_readsAll_26 (by decide) ?_
      refine lv_istore_n (lv' := [(2, .int 1), (1, .int 0), (0, .ref (va 0))]) hx hb dX9_readsAll_27 rfl hl (by decide) rfl (fun ls hl => ?_)
      exact C28 _ _ _ h _ _ _ hP hD hS (lv_sub hl [2, 1, 0] rfl)
    · have h := fw_f c4 h
      refine lv_aload_n hx hb dX9_readsAll_11 rfl (lv_at hl 0 rfl) ?_
      refine va_get (D := D) (ci := 7) (v := .ref (va 12)) (C := RX9) (T := TX9) (N := 53) hx hb hts in9 hown hG.1 hP 0 rfl rfl 12 (by decide) (hts (.fieldLink RX9 43 "ChairCaneModel" "newScalar" "[I") (mem_b bq_wsX9_readsAll 0 0 rfl)) (fun _ h9 => h9) rfl dX9_readsAll_12 ?_
      refine lv_iload_n hx hb dX9_readsAll_15 rfl (lv_at hl 1 rfl) ?_
      refine lv_iconst (v := 0) hx hb dX9_readsAll_16 (by decide) ?_
      obtain ⟨g5, h⟩ := fw_g h
      refine va_iast hx hb hG.1 hP hD hS 12 0 rfl rfl (ib_vp g5) dX9_readsAll_17 (fun H locs hP hD hS => ?_)
      refine lv_iinc (v := (a6.1 + 1)) (lv' := [(1, .int (a6.1 + 1)), (0, .ref (va 0))]) hx hb dX9_readsAll_18 hl (k := 1) rfl rfl (by decide) rfl (fun ls hl => ?_)
      refine lv_goto (tgt := 6) hx hb dX9_readsAll_21 (by decide) ?_
      exact hc6 _ _ h _ _ _ hP hD hS (lv_sub hl [1, 0] rfl)
  have C6 : ∀ (v1 : Int32) (mo : OB), lp (b_X9_readsAll_6 F) F (v1, mo) = some res → ∀ (H : Heap) (locs : List Loc) (ls : Array Slot), va_P D vwCl (moW k va mo) H → va_D A (moW k va mo) → va_S A s.heap H locs → lv_has ls 3 [(0, .ref (va 0)), (1, .int v1)] → W p l e (rmK 8 0 0) s m (List.toArray [.ref (va 0)]) below meth c H locs 0 0 (MQ below (va_Qv (fun (_ : Unit) => True) (hcB D (fun _ : Unit => moW k va res) A) A) (List.toArray [.ref (va 0)]) s 0 0 A) (F0 m 6 ls []) := fun v1 mo => B6 (v1, mo)
  refine lv_aload_n hx hb dX9_readsAll_0 rfl (lv_at hl 0 rfl) ?_
  refine fw_Vv (As := []) (rest := []) (n := 0) (wr := []) (wp := fun b : OB => moW k va b) h hx hb hml hown hts hG hA hP hD hS hl.1 (List.range (moW k va mo).length) [] (fun q hq9 => c_X9_starts l D k _  va F  mo  hq9) (ci := 7) (q0 := 0) rfl rfl gX9_readsAll_X9_starts rfl ⟨rfl, rfl, Nat.le_of_ble_eq_true rfl, Nat.le_of_ble_eq_true rfl⟩ (by decide +kernel) (al_C _) rfl (al_n _) ⟨rfl, rfl, Nat.le_of_ble_eq_true rfl, Nat.le_of_ble_eq_true rfl, Nat.le_of_ble_eq_true rfl⟩ dX9_readsAll_1 (fun q6 H locs h hP hD hS => ?_)
  obtain ⟨hP, hD⟩ := cv (w' := moW k va q6) hP hD rfl
  refine lv_iconst (v := 0) hx hb dX9_readsAll_4 (by decide) ?_
  refine lv_istore_n (lv' := [(1, .int 0), (0, .ref (va 0))]) hx hb dX9_readsAll_5 rfl hl (by decide) rfl (fun ls hl => ?_)
  exact C6 _ _ h _ _ _ hP hD hS (lv_sub hl [1, 0] rfl)
noncomputable def b_X9_copies_2 (F : Nat) (fn : Nat) (gn : Nat) (fr : Nat → Int32)  (k2 : (Int32 × (Nat → Int32)) → Option ((Nat → Int32))) (a2 : (Int32 × (Nat → Int32))) : Option ((Nat → Int32)) :=
  if (Int32.ofNat fn) ≤ a2.1 then (some a2.2) else (if ib a2.1 fn then (if ib a2.1 gn then (k2 ((a2.1 + 1), (upd a2.2 (Int32.toNatClampNeg a2.1) (fr (Int32.toNatClampNeg a2.1))))) else none) else none)
noncomputable def f_X9_copies (F : Nat) (fn : Nat) (gn : Nat)  (fr : Nat → Int32) (gr : Nat → Int32) : Option ((Nat → Int32)) :=
  lp (b_X9_copies_2 F fn gn fr) F (0, gr)
set_option maxHeartbeats 4000000 in
set_option maxRecDepth 100000 in
theorem c_X9_copies (l : Launch) (D : va_G) (k : Nat → ClassId) (sz : Nat)  (fa : Nat) (ga : Nat) (F : Nat) (fn : Nat) (gn : Nat)  (fr : Nat → Int32) (gr : Nat → Int32)  {res : (Nat → Int32)} (h : f_X9_copies F fn gn fr gr = some res) : CtV l yX9_copies wsX9_copies (rmK 1 0 0) [.ref fa, .ref ga] D k sz (([(fa, hcI k fn fr)] : va_W) ++ (([(ga, hcI k gn gr)] : va_W))) (fun (_ : Unit) => True) (fun _ : Unit => ([(fa, hcI k fn fr)] : va_W) ++ (([(ga, hcI k gn res)] : va_W))) 0 0 := by
  refine CtV.mk (cc := cX9_copies) (maxL := 3) (ret := none) (by decide) rfl (Nat.le_of_ble_eq_true rfl) ?_
  intro p e s m below meth c A ls E hP hD hS hl
  obtain ⟨hx, hb, hr, hml, hown, hts, hlocks, hin, hG, hA⟩ := E
  have hown : s.vm.findClass RX9 = some m.cls := hown
  have hl : lv_has ls 3 [(0, .ref fa), (1, .ref ga)] := hl
  have B2 : ∀ a2 : (Int32 × (Nat → Int32)), lp (b_X9_copies_2 F fn gn fr) F a2 = some res → ∀ (H : Heap) (locs : List Loc) (ls : Array Slot), va_P D vwCl (([(fa, hcI k fn fr)] : va_W) ++ (([(ga, hcI k gn a2.2)] : va_W))) H → va_D A (([(fa, hcI k fn fr)] : va_W) ++ (([(ga, hcI k gn a2.2)] : va_W))) → va_S A s.heap H locs → lv_has ls 3 [(0, .ref fa), (1, .ref ga), (2, .int a2.1)] → W p l e (rmK 1 0 0) s m (List.toArray [.ref fa, .ref ga]) below meth c H locs 0 0 (MQ below (va_Qv (fun (_ : Unit) => True) (hcB D (fun _ : Unit => ([(fa, hcI k fn fr)] : va_W) ++ (([(ga, hcI k gn res)] : va_W))) A) A) (List.toArray [.ref fa, .ref ga]) s 0 0 A) (F0 m 2 ls []) := by
    refine lp_W ?_ F
    intro k2 hk2 a2 h H locs ls hP hD hS hl
    have hc2 : ∀ (v2 : Int32) (gr : Nat → Int32), k2 (v2, gr) = some res → ∀ (H : Heap) (locs : List Loc) (ls : Array Slot), va_P D vwCl (([(fa, hcI k fn fr)] : va_W) ++ (([(ga, hcI k gn gr)] : va_W))) H → va_D A (([(fa, hcI k fn fr)] : va_W) ++ (([(ga, hcI k gn gr)] : va_W))) → va_S A s.heap H locs → lv_has ls 3 [(0, .ref fa), (1, .ref ga), (2, .int v2)] → W p l e (rmK 1 0 0) s m (List.toArray [.ref fa, .ref ga]) below meth c H locs 0 0 (MQ below (va_Qv (fun (_ : Unit) => True) (hcB D (fun _ : Unit => ([(fa, hcI k fn fr)] : va_W) ++ (([(ga, hcI k gn res)] : va_W))) A) A) (List.toArray [.ref fa, .ref ga]) s 0 0 A) (F0 m 2 ls []) := fun v2 gr => hk2 (v2, gr)
    refine lv_iload_n hx hb dX9_copies_2 rfl (lv_at hl 2 rfl) ?_
    refine lv_aload_n hx hb dX9_copies_3 rfl (lv_at hl 0 rfl) ?_
    refine va_alen hx hb hG.1 hP 0 0 rfl rfl (v := (Int32.ofNat fn)) rfl dX9_copies_4 ?_
    refine lv_icmp_ge (tgt := 20) hx hb dX9_copies_5 (by decide) (fun c1 => ?_) (fun c1 => ?_)
    · have h := fw_t c1 h
      exact fw_endV (wp := fun b : (Nat → Int32) => ([(fa, hcI k fn fr)] : va_W) ++ (([(ga, hcI k gn b)] : va_W))) hx hb hr hlocks h hP hD hS dX9_copies_20
    · have h := fw_f c1 h
      refine lv_aload_n hx hb dX9_copies_8 rfl (lv_at hl 1 rfl) ?_
      refine lv_iload_n hx hb dX9_copies_9 rfl (lv_at hl 2 rfl) ?_
      refine lv_aload_n hx hb dX9_copies_10 rfl (lv_at hl 0 rfl) ?_
      refine lv_iload_n hx hb dX9_copies_11 rfl (lv_at hl 2 rfl) ?_
      obtain ⟨g2, h⟩ := fw_g h
      refine va_iald hx hb hG.1 hP 0 0 rfl rfl (ib_vp g2) dX9_copies_12 ?_
      obtain ⟨g3, h⟩ := fw_g h
      refine va_iast hx hb hG.1 hP hD hS 1 0 rfl rfl (ib_vp g3) dX9_copies_13 (fun H locs hP hD hS => ?_)
      refine lv_iinc (v := (a2.1 + 1)) (lv' := [(2, .int (a2.1 + 1)), (0, .ref fa), (1, .ref ga)]) hx hb dX9_copies_14 hl (k := 2) rfl rfl (by decide) rfl (fun ls hl => ?_)
      refine lv_goto (tgt := 2) hx hb dX9_copies_17 (by decide) ?_
      exact hc2 _ _ h _ _ _ hP hD hS (lv_sub hl [1, 2, 0] rfl)
  have C2 : ∀ (v2 : Int32) (gr : Nat → Int32), lp (b_X9_copies_2 F fn gn fr) F (v2, gr) = some res → ∀ (H : Heap) (locs : List Loc) (ls : Array Slot), va_P D vwCl (([(fa, hcI k fn fr)] : va_W) ++ (([(ga, hcI k gn gr)] : va_W))) H → va_D A (([(fa, hcI k fn fr)] : va_W) ++ (([(ga, hcI k gn gr)] : va_W))) → va_S A s.heap H locs → lv_has ls 3 [(0, .ref fa), (1, .ref ga), (2, .int v2)] → W p l e (rmK 1 0 0) s m (List.toArray [.ref fa, .ref ga]) below meth c H locs 0 0 (MQ below (va_Qv (fun (_ : Unit) => True) (hcB D (fun _ : Unit => ([(fa, hcI k fn fr)] : va_W) ++ (([(ga, hcI k gn res)] : va_W))) A) A) (List.toArray [.ref fa, .ref ga]) s 0 0 A) (F0 m 2 ls []) := fun v2 gr => B2 (v2, gr)
  refine lv_iconst (v := 0) hx hb dX9_copies_0 (by decide) ?_
  refine lv_istore_n (lv' := [(2, .int 0), (0, .ref fa), (1, .ref ga)]) hx hb dX9_copies_1 rfl hl (by decide) rfl (fun ls hl => ?_)
  exact C2 _ _ h _ _ _ hP hD hS (lv_sub hl [1, 2, 0] rfl)
noncomputable def b_X9_begins_20 (F : Nat)    (k20 : (Int32 × OB) → Option (OB)) (a20 : (Int32 × OB)) : Option (OB) :=
  if 8 ≤ a20.1 then (some a20.2) else (if ib a20.1 8 then (k20 ((a20.1 + 1), (a20.2.1, (uF a20.2.2.1 3 (upd (a20.2.2.1 3) (Int32.toNatClampNeg a20.1) 0)), a20.2.2.2))) else none)
noncomputable def f_X9_begins (F : Nat)   (mo : OB) : Option (OB) :=
  Option.bind (f_X9_copies F 4 4 (mo.2.1 11) (mo.2.1 2)) (fun q3 => (lp (b_X9_begins_20 F) F (0, (mo.1, (uF (uF mo.2.1 1 (upd (mo.2.1 1) (Int32.toNatClampNeg 4) 0)) 2 q3), mo.2.2))))
set_option maxHeartbeats 4000000 in
set_option maxRecDepth 100000 in
theorem c_X9_begins (l : Launch) (D : va_G) (k : Nat → ClassId) (sz : Nat)  (va : Nat → Nat) (F : Nat)   (mo : OB)  {res : OB} (h : f_X9_begins F mo = some res) : CtV l yX9_begins wsX9_begins (rmK 2 0 0) [.ref (va 0)] D k sz (moW k va mo) (fun (_ : Unit) => True) (fun _ : Unit => moW k va res) 0 0 := by
  refine CtV.mk (cc := cX9_begins) (maxL := 2) (ret := none) (by decide) rfl (Nat.le_of_ble_eq_true rfl) ?_
  intro p e s m below meth c A ls E hP hD hS hl
  obtain ⟨hx, hb, hr, hml, hown, hts, hlocks, hin, hG, hA⟩ := E
  have hown : s.vm.findClass RX9 = some m.cls := hown
  have in9 : ∀ w ∈ u_ws RX9 TX9 53, w ∈ wsX9_begins := fun _ h => List.mem_cons_of_mem _ (List.mem_append_right _ h)
  have hl : lv_has ls 2 [(0, .ref (va 0))] := hl
  have B20 : ∀ a20 : (Int32 × OB), lp (b_X9_begins_20 F) F a20 = some res → ∀ (H : Heap) (locs : List Loc) (ls : Array Slot), va_P D vwCl (moW k va a20.2) H → va_D A (moW k va a20.2) → va_S A s.heap H locs → lv_has ls 2 [(0, .ref (va 0)), (1, .int a20.1)] → W p l e (rmK 2 0 0) s m (List.toArray [.ref (va 0)]) below meth c H locs 0 0 (MQ below (va_Qv (fun (_ : Unit) => True) (hcB D (fun _ : Unit => moW k va res) A) A) (List.toArray [.ref (va 0)]) s 0 0 A) (F0 m 20 ls []) := by
    refine lp_W ?_ F
    intro k20 hk20 a20 h H locs ls hP hD hS hl
    have hc20 : ∀ (v1 : Int32) (mo : OB), k20 (v1, mo) = some res → ∀ (H : Heap) (locs : List Loc) (ls : Array Slot), va_P D vwCl (moW k va mo) H → va_D A (moW k va mo) → va_S A s.heap H locs → lv_has ls 2 [(0, .ref (va 0)), (1, .int v1)] → W p l e (rmK 2 0 0) s m (List.toArray [.ref (va 0)]) below meth c H locs 0 0 (MQ below (va_Qv (fun (_ : Unit) => True) (hcB D (fun _ : Unit => moW k va res) A) A) (List.toArray [.ref (va 0)]) s 0 0 A) (F0 m 20 ls []) := fun v1 mo => hk20 (v1, mo)
    refine lv_iload_n hx hb dX9_begins_20 rfl (lv_at hl 1 rfl) ?_
    refine lv_bipush (v := 8) hx hb dX9_begins_21 (by decide) ?_
    refine lv_icmp_ge (tgt := 39) hx hb dX9_begins_23 (by decide) (fun c1 => ?_) (fun c1 => ?_)
    · have h := fw_t c1 h
      exact fw_endV (wp := fun b : OB => moW k va b) hx hb hr hlocks h hP hD hS dX9_begins_39
    · have h := fw_f c1 h
      refine lv_aload_n hx hb dX9_begins_26 rfl (lv_at hl 0 rfl) ?_
      refine va_get (D := D) (ci := 7) (v := .ref (va 3)) (C := RX9) (T := TX9) (N := 53) hx hb hts in9 hown hG.1 hP 0 rfl rfl 3 (by decide) (hts (.fieldLink RX9 16 "ChairCaneModel" "is" "[I") (mem_b bq_wsX9_begins 0 3 rfl)) (fun _ h9 => h9) rfl dX9_begins_27 ?_
      refine lv_iload_n hx hb dX9_begins_30 rfl (lv_at hl 1 rfl) ?_
      refine lv_iconst (v := 0) hx hb dX9_begins_31 (by decide) ?_
      obtain ⟨g2, h⟩ := fw_g h
      refine va_iast hx hb hG.1 hP hD hS 3 0 rfl rfl (ib_vp g2) dX9_begins_32 (fun H locs hP hD hS => ?_)
      refine lv_iinc (v := (a20.1 + 1)) (lv' := [(1, .int (a20.1 + 1)), (0, .ref (va 0))]) hx hb dX9_begins_33 hl (k := 1) rfl rfl (by decide) rfl (fun ls hl => ?_)
      refine lv_goto (tgt := 20) hx hb dX9_begins_36 (by decide) ?_
      exact hc20 _ _ h _ _ _ hP hD hS (lv_sub hl [1, 0] rfl)
  have C20 : ∀ (v1 : Int32) (mo : OB), lp (b_X9_begins_20 F) F (v1, mo) = some res → ∀ (H : Heap) (locs : List Loc) (ls : Array Slot), va_P D vwCl (moW k va mo) H → va_D A (moW k va mo) → va_S A s.heap H locs → lv_has ls 2 [(0, .ref (va 0)), (1, .int v1)] → W p l e (rmK 2 0 0) s m (List.toArray [.ref (va 0)]) below meth c H locs 0 0 (MQ below (va_Qv (fun (_ : Unit) => True) (hcB D (fun _ : Unit => moW k va res) A) A) (List.toArray [.ref (va 0)]) s 0 0 A) (F0 m 20 ls []) := fun v1 mo => B20 (v1, mo)
  refine lv_aload_n hx hb dX9_begins_0 rfl (lv_at hl 0 rfl) ?_
  refine va_get (D := D) (ci := 7) (v := .ref (va 11)) (C := RX9) (T := TX9) (N := 53) hx hb hts in9 hown hG.1 hP 0 rfl rfl 11 (by decide) (hts (.fieldLink RX9 40 "ChairCaneModel" "toldCane" "[I") (mem_b bq_wsX9_begins 0 0 rfl)) (fun _ h9 => h9) rfl dX9_begins_1 ?_
  refine lv_aload_n hx hb dX9_begins_4 rfl (lv_at hl 0 rfl) ?_
  refine va_get (D := D) (ci := 7) (v := .ref (va 2)) (C := RX9) (T := TX9) (N := 53) hx hb hts in9 hown hG.1 hP 0 rfl rfl 2 (by decide) (hts (.fieldLink RX9 13 "ChairCaneModel" "cane" "[I") (mem_b bq_wsX9_begins 0 1 rfl)) (fun _ h9 => h9) rfl dX9_begins_5 ?_
  refine fw_Sv (As := [.ref (va 11), .ref (va 2)]) (rest := []) (n := 2) (wr := ([((va 0), .inr (7, [.int (mo.1 0), .ref (va 1), .ref (va 2), .ref (va 3), .ref (va 4), .ref (va 5), .ref (va 6), .ref (va 7), .ref (va 8), .ref (va 9), .ref (va 10), .ref (va 11), .ref (va 12), .ref (va 13), .ref (va 14), .ref (va 15), .ref (va 16), .ref (va 17), .int (mo.1 18), .int (mo.1 19), .int (mo.1 20), .int (mo.1 21), .int (mo.1 22), .int (mo.1 23), .int (mo.1 24), .int (mo.1 25), .int (mo.1 26), .int (mo.1 27), .ref (va 18), .ref (va 19), .ref (va 20), .ref (va 21), .ref (va 22), .ref (va 23), .ref (va 24), .ref (va 25), .ref (va 26), .ref (va 27), .ref (va 28), .ref (va 29), .ref (va 30), .int (mo.1 41), .int (mo.1 42), .int (mo.1 43), .ref (va 31), .ref (va 32), .ref (va 33), .ref (va 34), .ref (va 35), .ref (va 36), .ref (va 37), .int (mo.1 51), .int (mo.1 52)])), ((va 1), hcI k 8 (mo.2.1 1)), ((va 3), hcI k 8 (mo.2.1 3)), ((va 4), hcI k 8 (mo.2.1 4)), ((va 5), hcI k 8 (mo.2.1 5)), ((va 6), hcI k 8 (mo.2.1 6)), ((va 7), hcI k 8 (mo.2.1 7)), ((va 8), hcI k 10 (mo.2.1 8)), ((va 9), hcI k 10 (mo.2.1 9)), ((va 10), hcI k 10 (mo.2.1 10)), ((va 12), hcI k 4 (mo.2.1 12)), ((va 13), hcI k 4 (mo.2.1 13)), ((va 14), hcI k 8 (mo.2.1 14)), ((va 15), hcI k 8 (mo.2.1 15)), ((va 16), hcI k 8 (mo.2.1 16)), ((va 17), hcI k 8 (mo.2.1 17)), ((va 18), hcY k 400 (mo.2.1 28)), ((va 19), hcI k 1800 (mo.2.1 29)), ((va 20), hcI k 1800 (mo.2.1 30)), ((va 21), hcI k 6 (mo.2.1 31)), ((va 22), hcI k 72 (mo.2.1 32)), ((va 23), hcI k 72 (mo.2.1 33)), ((va 24), hcI k 72 (mo.2.1 34)), ((va 25), hcI k 402 (mo.2.1 35)), ((va 26), hcJ k 11 (mo.2.2 36)), ((va 27), hcJ k 300 (mo.2.2 37)), ((va 28), hcI k 8 (mo.2.1 38)), ((va 29), hcI k 260 (mo.2.1 39)), ((va 30), hcI k 1 (mo.2.1 40)), ((va 31), hcZ k 256 (mo.2.1 44)), ((va 32), hcI k 4 (mo.2.1 45)), ((va 33), hcI k 4 (mo.2.1 46)), ((va 34), hcI k 488 (mo.2.1 47)), ((va 35), hcI k 56 (mo.2.1 48)), ((va 36), hcI k 2000 (mo.2.1 49)), ((va 37), hcZ k 4 (mo.2.1 50))] : va_W)) (wp := fun b : (Nat → Int32) => ([((va 11), hcI k 4 (mo.2.1 11))] : va_W) ++ (([((va 2), hcI k 4 b)] : va_W))) h hx hb hml hown hts hG hA hP hD hS hl.1 [11, 2] [0, 1, 3, 4, 5, 6, 7, 8, 9, 10, 12, 13, 14, 15, 16, 17, 18, 19, 20, 21, 22, 23, 24, 25, 26, 27, 28, 29, 30, 31, 32, 33, 34, 35, 36, 37] (fun q hq9 => c_X9_copies l D k _  (va 11) (va 2) F 4 4 (mo.2.1 11) (mo.2.1 2)  hq9) gX9_begins_X9_copies rfl ⟨rfl, rfl, Nat.le_of_ble_eq_true rfl, Nat.le_of_ble_eq_true rfl⟩ (by decide +kernel) rfl rfl ⟨by decide +kernel, by decide +kernel, by decide +kernel⟩ ⟨rfl, rfl, Nat.le_of_ble_eq_true rfl, Nat.le_of_ble_eq_true rfl, Nat.le_of_ble_eq_true rfl⟩ dX9_begins_8 (fun q3 H locs h hP hD hS => ?_)
  obtain ⟨hP, hD⟩ := cvs (w' := moW k va (mo.1, (uF mo.2.1 2 q3), mo.2.2)) hP hD [0, 1, 37, 2, 3, 4, 5, 6, 7, 8, 9, 36, 10, 11, 12, 13, 14, 15, 16, 17, 18, 19, 20, 21, 22, 23, 24, 25, 26, 27, 28, 29, 30, 31, 32, 33, 34, 35] (by decide +kernel) rfl
  refine lv_aload_n hx hb dX9_begins_11 rfl (lv_at hl 0 rfl) ?_
  refine va_get (D := D) (ci := 7) (v := .ref (va 1)) (C := RX9) (T := TX9) (N := 53) hx hb hts in9 hown hG.1 hP 0 rfl rfl 1 (by decide) (hts (.fieldLink RX9 9 "ChairCaneModel" "scalar" "[I") (mem_b bq_wsX9_begins 0 2 rfl)) (fun _ h9 => h9) rfl dX9_begins_12 ?_
  refine lv_iconst (v := 4) hx hb dX9_begins_15 (by decide) ?_
  refine lv_iconst (v := 0) hx hb dX9_begins_16 (by decide) ?_
  refine va_iast hx hb hG.1 hP hD hS 1 0 rfl rfl (by unfold vp_in; decide) dX9_begins_17 (fun H locs hP hD hS => ?_)
  refine lv_iconst (v := 0) hx hb dX9_begins_18 (by decide) ?_
  refine lv_istore_n (lv' := [(1, .int 0), (0, .ref (va 0))]) hx hb dX9_begins_19 rfl hl (by decide) rfl (fun ls hl => ?_)
  exact C20 _ _ h _ _ _ hP hD hS (lv_sub hl [1, 0] rfl)
noncomputable def b_X9_hall_21 (F : Nat)    (k21 : (Int32 × OB) → Option (Int32 × OB)) (a21 : (Int32 × OB)) : Option (Int32 × OB) :=
  if 4 ≤ a21.1 then (Option.bind (f_X9_copies F 4 4 (a21.2.2.1 13) (a21.2.2.1 11)) (fun q2 => (Option.bind (f_X9_copies F 8 8 (a21.2.2.1 14) (a21.2.2.1 6)) (fun q3 => (Option.bind (f_X9_copies F 8 8 (a21.2.2.1 15) (a21.2.2.1 4)) (fun q4 => (Option.bind (f_X9_copies F 8 8 (a21.2.2.1 16) (a21.2.2.1 7)) (fun q5 => (Option.bind (f_X9_copies F 8 8 (a21.2.2.1 17) (a21.2.2.1 5)) (fun q6 => (Option.bind (f_X9_begins F (a21.2.1, (uF (uF (uF (uF (uF (uF a21.2.2.1 1 (upd (a21.2.2.1 1) (Int32.toNatClampNeg 5) 0)) 4 q4) 5 q6) 6 q3) 7 q5) 11 q2), a21.2.2.2)) (fun q7 => (some (((q7.2.1 1) (Int32.toNatClampNeg 3)), ((uF q7.1 41 0), q7.2.1, q7.2.2))))))))))))))) else (if ib a21.1 4 then (if ib a21.1 8 then (k21 ((a21.1 + 1), (a21.2.1, (uF a21.2.2.1 1 (upd (a21.2.2.1 1) (Int32.toNatClampNeg a21.1) ((a21.2.2.1 12) (Int32.toNatClampNeg a21.1)))), a21.2.2.2))) else none) else none)
noncomputable def f_X9_hall (F : Nat)   (mo : OB) : Option (Int32 × OB) :=
  Option.bind (f_X9_readsAll F mo) (fun q10 => (if (q10.1 20) ≤ 0 then (lp (b_X9_hall_21 F) F (0, q10)) else (some (((-2) - (q10.1 20)), q10))))
set_option maxHeartbeats 4000000 in
set_option maxRecDepth 100000 in
theorem c_X9_hall (l : Launch) (D : va_G) (k : Nat → ClassId) (sz : Nat) (ad tv : Nat → Nat) (va : Nat → Nat) (F : Nat)   (mo : OB)  {res : Int32 × OB} (h : f_X9_hall F mo = some res) : CtIE l yX9_hall wsX9_hall (rmK 9 0 0) [.ref (va 0)] D k (EY ad tv) sz (moW k va mo) (fun r (_ : Unit) => r = res.1) (fun _ : Unit => moW k va res.2) 0 0 := by
  refine CtIE.mk (cc := cX9_hall) (maxL := 2) (ret := (some .int)) (by decide) rfl (Nat.le_of_ble_eq_true rfl) ?_
  intro p e s m below meth c A ls hE E hP hD hS hl
  obtain ⟨hx, hb, hr, hml, hown, hts, hlocks, hin, hG, hA⟩ := E
  have hown : s.vm.findClass RX9 = some m.cls := hown
  have in9 : ∀ w ∈ u_ws RX9 TX9 53, w ∈ wsX9_hall := fun _ h => List.mem_cons_of_mem _ (List.mem_append_right _ h)
  have hl : lv_has ls 2 [(0, .ref (va 0))] := hl
  have B21 : ∀ a21 : (Int32 × OB), lp (b_X9_hall_21 F) F a21 = some res → ∀ (H : Heap) (locs : List Loc) (ls : Array Slot), va_P D vwCl (moW k va a21.2) H → va_D A (moW k va a21.2) → va_S A s.heap H locs → lv_has ls 2 [(0, .ref (va 0)), (1, .int a21.1)] → W p l e (rmK 9 0 0) s m (List.toArray [.ref (va 0)]) below meth c H locs 0 0 (MQ below (va_Qi (fun r (_ : Unit) => r = res.1) (hcB D (fun _ : Unit => moW k va res.2) A) A) (List.toArray [.ref (va 0)]) s 0 0 A) (F0 m 21 ls []) := by
    refine lp_W ?_ F
    intro k21 hk21 a21 h H locs ls hP hD hS hl
    have hc21 : ∀ (v1 : Int32) (mo : OB), k21 (v1, mo) = some res → ∀ (H : Heap) (locs : List Loc) (ls : Array Slot), va_P D vwCl (moW k va mo) H → va_D A (moW k va mo) → va_S A s.heap H locs → lv_has ls 2 [(0, .ref (va 0)), (1, .int v1)] → W p l e (rmK 9 0 0) s m (List.toArray [.ref (va 0)]) below meth c H locs 0 0 (MQ below (va_Qi (fun r (_ : Unit) => r = res.1) (hcB D (fun _ : Unit => moW k va res.2) A) A) (List.toArray [.ref (va 0)]) s 0 0 A) (F0 m 21 ls []) := fun v1 mo => hk21 (v1, mo)
    refine lv_iload_n hx hb dX9_hall_21 rfl (lv_at hl 1 rfl) ?_
    refine lv_iconst (v := 4) hx hb dX9_hall_22 (by decide) ?_
    refine lv_icmp_ge (tgt := 44) hx hb dX9_hall_23 (by decide) (fun c1 => ?_) (fun c1 => ?_)
    · have h := fw_t c1 h
      refine lv_aload_n hx hb dX9_hall_44 rfl (lv_at hl 0 rfl) ?_
      refine va_get (D := D) (ci := 7) (v := .ref (va 1)) (C := RX9) (T := TX9) (N := 53) hx hb hts in9 hown hG.1 hP 0 rfl rfl 1 (by decide) (hts (.fieldLink RX9 9 "ChairCaneModel" "scalar" "[I") (mem_b bq_wsX9_hall 0 1 rfl)) (fun _ h9 => h9) rfl dX9_hall_45 ?_
      refine lv_iconst (v := 5) hx hb dX9_hall_48 (by decide) ?_
      refine lv_iconst (v := 0) hx hb dX9_hall_49 (by decide) ?_
      refine va_iast hx hb hG.1 hP hD hS 1 0 rfl rfl (by unfold vp_in; decide) dX9_hall_50 (fun H locs hP hD hS => ?_)
      refine lv_aload_n hx hb dX9_hall_51 rfl (lv_at hl 0 rfl) ?_
      refine va_get (D := D) (ci := 7) (v := .ref (va 13)) (C := RX9) (T := TX9) (N := 53) hx hb hts in9 hown hG.1 hP 0 rfl rfl 13 (by decide) (hts (.fieldLink RX9 46 "ChairCaneModel" "newCane" "[I") (mem_b bq_wsX9_hall 0 3 rfl)) (fun _ h9 => h9) rfl dX9_hall_52 ?_
      refine lv_aload_n hx hb dX9_hall_55 rfl (lv_at hl 0 rfl) ?_
      refine va_get (D := D) (ci := 7) (v := .ref (va 11)) (C := RX9) (T := TX9) (N := 53) hx hb hts in9 hown hG.1 hP 0 rfl rfl 11 (by decide) (hts (.fieldLink RX9 40 "ChairCaneModel" "toldCane" "[I") (mem_b bq_wsX9_hall 0 4 rfl)) (fun _ h9 => h9) rfl dX9_hall_56 ?_
      obtain ⟨hP, hD⟩ := cv (w' := moW k va (a21.2.1, (uF a21.2.2.1 1 (upd (a21.2.2.1 1) (Int32.toNatClampNeg 5) 0)), a21.2.2.2)) hP hD rfl
      refine fw_Sv (As := [.ref (va 13), .ref (va 11)]) (rest := []) (n := 2) (wr := ([((va 0), .inr (7, [.int ((a21.2.1, (uF a21.2.2.1 1 (upd (a21.2.2.1 1) (Int32.toNatClampNeg 5) 0)), a21.2.2.2).1 0), .ref (va 1), .ref (va 2), .ref (va 3), .ref (va 4), .ref (va 5), .ref (va 6), .ref (va 7), .ref (va 8), .ref (va 9), .ref (va 10), .ref (va 11), .ref (va 12), .ref (va 13), .ref (va 14), .ref (va 15), .ref (va 16), .ref (va 17), .int ((a21.2.1, (uF a21.2.2.1 1 (upd (a21.2.2.1 1) (Int32.toNatClampNeg 5) 0)), a21.2.2.2).1 18), .int ((a21.2.1, (uF a21.2.2.1 1 (upd (a21.2.2.1 1) (Int32.toNatClampNeg 5) 0)), a21.2.2.2).1 19), .int ((a21.2.1, (uF a21.2.2.1 1 (upd (a21.2.2.1 1) (Int32.toNatClampNeg 5) 0)), a21.2.2.2).1 20), .int ((a21.2.1, (uF a21.2.2.1 1 (upd (a21.2.2.1 1) (Int32.toNatClampNeg 5) 0)), a21.2.2.2).1 21), .int ((a21.2.1, (uF a21.2.2.1 1 (upd (a21.2.2.1 1) (Int32.toNatClampNeg 5) 0)), a21.2.2.2).1 22), .int ((a21.2.1, (uF a21.2.2.1 1 (upd (a21.2.2.1 1) (Int32.toNatClampNeg 5) 0)), a21.2.2.2).1 23), .int ((a21.2.1, (uF a21.2.2.1 1 (upd (a21.2.2.1 1) (Int32.toNatClampNeg 5) 0)), a21.2.2.2).1 24), .int ((a21.2.1, (uF a21.2.2.1 1 (upd (a21.2.2.1 1) (Int32.toNatClampNeg 5) 0)), a21.2.2.2).1 25), .int ((a21.2.1, (uF a21.2.2.1 1 (upd (a21.2.2.1 1) (Int32.toNatClampNeg 5) 0)), a21.2.2.2).1 26), .int ((a21.2.1, (uF a21.2.2.1 1 (upd (a21.2.2.1 1) (Int32.toNatClampNeg 5) 0)), a21.2.2.2).1 27), .ref (va 18), .ref (va 19), .ref (va 20), .ref (va 21), .ref (va 22), .ref (va 23), .ref (va 24), .ref (va 25), .ref (va 26), .ref (va 27), .ref (va 28), .ref (va 29), .ref (va 30), .int ((a21.2.1, (uF a21.2.2.1 1 (upd (a21.2.2.1 1) (Int32.toNatClampNeg 5) 0)), a21.2.2.2).1 41), .int ((a21.2.1, (uF a21.2.2.1 1 (upd (a21.2.2.1 1) (Int32.toNatClampNeg 5) 0)), a21.2.2.2).1 42), .int ((a21.2.1, (uF a21.2.2.1 1 (upd (a21.2.2.1 1) (Int32.toNatClampNeg 5) 0)), a21.2.2.2).1 43), .ref (va 31), .ref (va 32), .ref (va 33), .ref (va 34), .ref (va 35), .ref (va 36), .ref (va 37), .int ((a21.2.1, (uF a21.2.2.1 1 (upd (a21.2.2.1 1) (Int32.toNatClampNeg 5) 0)), a21.2.2.2).1 51), .int ((a21.2.1, (uF a21.2.2.1 1 (upd (a21.2.2.1 1) (Int32.toNatClampNeg 5) 0)), a21.2.2.2).1 52)])), ((va 1), hcI k 8 ((a21.2.1, (uF a21.2.2.1 1 (upd (a21.2.2.1 1) (Int32.toNatClampNeg 5) 0)), a21.2.2.2).2.1 1)), ((va 2), hcI k 4 ((a21.2.1, (uF a21.2.2.1 1 (upd (a21.2.2.1 1) (Int32.toNatClampNeg 5) 0)), a21.2.2.2).2.1 2)), ((va 3), hcI k 8 ((a21.2.1, (uF a21.2.2.1 1 (upd (a21.2.2.1 1) (Int32.toNatClampNeg 5) 0)), a21.2.2.2).2.1 3)), ((va 4), hcI k 8 ((a21.2.1, (uF a21.2.2.1 1 (upd (a21.2.2.1 1) (Int32.toNatClampNeg 5) 0)), a21.2.2.2).2.1 4)), ((va 5), hcI k 8 ((a21.2.1, (uF a21.2.2.1 1 (upd (a21.2.2.1 1) (Int32.toNatClampNeg 5) 0)), a21.2.2.2).2.1 5)), ((va 6), hcI k 8 ((a21.2.1, (uF a21.2.2.1 1 (upd (a21.2.2.1 1) (Int32.toNatClampNeg 5) 0)), a21.2.2.2).2.1 6)), ((va 7), hcI k 8 ((a21.2.1, (uF a21.2.2.1 1 (upd (a21.2.2.1 1) (Int32.toNatClampNeg 5) 0)), a21.2.2.2).2.1 7)), ((va 8), hcI k 10 ((a21.2.1, (uF a21.2.2.1 1 (upd (a21.2.2.1 1) (Int32.toNatClampNeg 5) 0)), a21.2.2.2).2.1 8)), ((va 9), hcI k 10 ((a21.2.1, (uF a21.2.2.1 1 (upd (a21.2.2.1 1) (Int32.toNatClampNeg 5) 0)), a21.2.2.2).2.1 9)), ((va 10), hcI k 10 ((a21.2.1, (uF a21.2.2.1 1 (upd (a21.2.2.1 1) (Int32.toNatClampNeg 5) 0)), a21.2.2.2).2.1 10)), ((va 12), hcI k 4 ((a21.2.1, (uF a21.2.2.1 1 (upd (a21.2.2.1 1) (Int32.toNatClampNeg 5) 0)), a21.2.2.2).2.1 12)), ((va 14), hcI k 8 ((a21.2.1, (uF a21.2.2.1 1 (upd (a21.2.2.1 1) (Int32.toNatClampNeg 5) 0)), a21.2.2.2).2.1 14)), ((va 15), hcI k 8 ((a21.2.1, (uF a21.2.2.1 1 (upd (a21.2.2.1 1) (Int32.toNatClampNeg 5) 0)), a21.2.2.2).2.1 15)), ((va 16), hcI k 8 ((a21.2.1, (uF a21.2.2.1 1 (upd (a21.2.2.1 1) (Int32.toNatClampNeg 5) 0)), a21.2.2.2).2.1 16)), ((va 17), hcI k 8 ((a21.2.1, (uF a21.2.2.1 1 (upd (a21.2.2.1 1) (Int32.toNatClampNeg 5) 0)), a21.2.2.2).2.1 17)), ((va 18), hcY k 400 ((a21.2.1, (uF a21.2.2.1 1 (upd (a21.2.2.1 1) (Int32.toNatClampNeg 5) 0)), a21.2.2.2).2.1 28)), ((va 19), hcI k 1800 ((a21.2.1, (uF a21.2.2.1 1 (upd (a21.2.2.1 1) (Int32.toNatClampNeg 5) 0)), a21.2.2.2).2.1 29)), ((va 20), hcI k 1800 ((a21.2.1, (uF a21.2.2.1 1 (upd (a21.2.2.1 1) (Int32.toNatClampNeg 5) 0)), a21.2.2.2).2.1 30)), ((va 21), hcI k 6 ((a21.2.1, (uF a21.2.2.1 1 (upd (a21.2.2.1 1) (Int32.toNatClampNeg 5) 0)), a21.2.2.2).2.1 31)), ((va 22), hcI k 72 ((a21.2.1, (uF a21.2.2.1 1 (upd (a21.2.2.1 1) (Int32.toNatClampNeg 5) 0)), a21.2.2.2).2.1 32)), ((va 23), hcI k 72 ((a21.2.1, (uF a21.2.2.1 1 (upd (a21.2.2.1 1) (Int32.toNatClampNeg 5) 0)), a21.2.2.2).2.1 33)), ((va 24), hcI k 72 ((a21.2.1, (uF a21.2.2.1 1 (upd (a21.2.2.1 1) (Int32.toNatClampNeg 5) 0)), a21.2.2.2).2.1 34)), ((va 25), hcI k 402 ((a21.2.1, (uF a21.2.2.1 1 (upd (a21.2.2.1 1) (Int32.toNatClampNeg 5) 0)), a21.2.2.2).2.1 35)), ((va 26), hcJ k 11 ((a21.2.1, (uF a21.2.2.1 1 (upd (a21.2.2.1 1) (Int32.toNatClampNeg 5) 0)), a21.2.2.2).2.2 36)), ((va 27), hcJ k 300 ((a21.2.1, (uF a21.2.2.1 1 (upd (a21.2.2.1 1) (Int32.toNatClampNeg 5) 0)), a21.2.2.2).2.2 37)), ((va 28), hcI k 8 ((a21.2.1, (uF a21.2.2.1 1 (upd (a21.2.2.1 1) (Int32.toNatClampNeg 5) 0)), a21.2.2.2).2.1 38)), ((va 29), hcI k 260 ((a21.2.1, (uF a21.2.2.1 1 (upd (a21.2.2.1 1) (Int32.toNatClampNeg 5) 0)), a21.2.2.2).2.1 39)), ((va 30), hcI k 1 ((a21.2.1, (uF a21.2.2.1 1 (upd (a21.2.2.1 1) (Int32.toNatClampNeg 5) 0)), a21.2.2.2).2.1 40)), ((va 31), hcZ k 256 ((a21.2.1, (uF a21.2.2.1 1 (upd (a21.2.2.1 1) (Int32.toNatClampNeg 5) 0)), a21.2.2.2).2.1 44)), ((va 32), hcI k 4 ((a21.2.1, (uF a21.2.2.1 1 (upd (a21.2.2.1 1) (Int32.toNatClampNeg 5) 0)), a21.2.2.2).2.1 45)), ((va 33), hcI k 4 ((a21.2.1, (uF a21.2.2.1 1 (upd (a21.2.2.1 1) (Int32.toNatClampNeg 5) 0)), a21.2.2.2).2.1 46)), ((va 34), hcI k 488 ((a21.2.1, (uF a21.2.2.1 1 (upd (a21.2.2.1 1) (Int32.toNatClampNeg 5) 0)), a21.2.2.2).2.1 47)), ((va 35), hcI k 56 ((a21.2.1, (uF a21.2.2.1 1 (upd (a21.2.2.1 1) (Int32.toNatClampNeg 5) 0)), a21.2.2.2).2.1 48)), ((va 36), hcI k 2000 ((a21.2.1, (uF a21.2.2.1 1 (upd (a21.2.2.1 1) (Int32.toNatClampNeg 5) 0)), a21.2.2.2).2.1 49)), ((va 37), hcZ k 4 ((a21.2.1, (uF a21.2.2.1 1 (upd (a21.2.2.1 1) (Int32.toNatClampNeg 5) 0)), a21.2.2.2).2.1 50))] : va_W)) (wp := fun b : (Nat → Int32) => ([((va 13), hcI k 4 (a21.2.2.1 13))] : va_W) ++ (([((va 11), hcI k 4 b)] : va_W))) h hx hb hml hown hts hG hA hP hD hS hl.1 [13, 11] [0, 1, 2, 3, 4, 5, 6, 7, 8, 9, 10, 12, 14, 15, 16, 17, 18, 19, 20, 21, 22, 23, 24, 25, 26, 27, 28, 29, 30, 31, 32, 33, 34, 35, 36, 37] (fun q hq9 => c_X9_copies l D k _  (va 13) (va 11) F 4 4 (a21.2.2.1 13) (a21.2.2.1 11)  hq9) gX9_hall_X9_copies rfl ⟨rfl, rfl, Nat.le_of_ble_eq_true rfl, Nat.le_of_ble_eq_true rfl⟩ (by decide +kernel) rfl rfl ⟨by decide +kernel, by decide +kernel, by decide +kernel⟩ ⟨rfl, rfl, Nat.le_of_ble_eq_true rfl, Nat.le_of_ble_eq_true rfl, Nat.le_of_ble_eq_true rfl⟩ dX9_hall_59 (fun q2 H locs h hP hD hS => ?_)
      obtain ⟨hP, hD⟩ := cvs (w' := moW k va (a21.2.1, (uF (uF a21.2.2.1 1 (upd (a21.2.2.1 1) (Int32.toNatClampNeg 5) 0)) 11 q2), a21.2.2.2)) hP hD [0, 1, 2, 3, 4, 5, 6, 7, 8, 9, 10, 37, 11, 36, 12, 13, 14, 15, 16, 17, 18, 19, 20, 21, 22, 23, 24, 25, 26, 27, 28, 29, 30, 31, 32, 33, 34, 35] (by decide +kernel) rfl
      refine lv_aload_n hx hb dX9_hall_62 rfl (lv_at hl 0 rfl) ?_
      refine va_get (D := D) (ci := 7) (v := .ref (va 14)) (C := RX9) (T := TX9) (N := 53) hx hb hts in9 hown hG.1 hP 0 rfl rfl 14 (by decide) (hts (.fieldLink RX9 49 "ChairCaneModel" "newHeight" "[I") (mem_b bq_wsX9_hall 0 5 rfl)) (fun _ h9 => h9) rfl dX9_hall_63 ?_
      refine lv_aload_n hx hb dX9_hall_66 rfl (lv_at hl 0 rfl) ?_
      refine va_get (D := D) (ci := 7) (v := .ref (va 6)) (C := RX9) (T := TX9) (N := 53) hx hb hts in9 hown hG.1 hP 0 rfl rfl 6 (by decide) (hts (.fieldLink RX9 25 "ChairCaneModel" "height" "[I") (mem_b bq_wsX9_hall 0 6 rfl)) (fun _ h9 => h9) rfl dX9_hall_67 ?_
      refine fw_Sv (As := [.ref (va 14), .ref (va 6)]) (rest := []) (n := 2) (wr := ([((va 0), .inr (7, [.int ((a21.2.1, (uF (uF a21.2.2.1 1 (upd (a21.2.2.1 1) (Int32.toNatClampNeg 5) 0)) 11 q2), a21.2.2.2).1 0), .ref (va 1), .ref (va 2), .ref (va 3), .ref (va 4), .ref (va 5), .ref (va 6), .ref (va 7), .ref (va 8), .ref (va 9), .ref (va 10), .ref (va 11), .ref (va 12), .ref (va 13), .ref (va 14), .ref (va 15), .ref (va 16), .ref (va 17), .int ((a21.2.1, (uF (uF a21.2.2.1 1 (upd (a21.2.2.1 1) (Int32.toNatClampNeg 5) 0)) 11 q2), a21.2.2.2).1 18), .int ((a21.2.1, (uF (uF a21.2.2.1 1 (upd (a21.2.2.1 1) (Int32.toNatClampNeg 5) 0)) 11 q2), a21.2.2.2).1 19), .int ((a21.2.1, (uF (uF a21.2.2.1 1 (upd (a21.2.2.1 1) (Int32.toNatClampNeg 5) 0)) 11 q2), a21.2.2.2).1 20), .int ((a21.2.1, (uF (uF a21.2.2.1 1 (upd (a21.2.2.1 1) (Int32.toNatClampNeg 5) 0)) 11 q2), a21.2.2.2).1 21), .int ((a21.2.1, (uF (uF a21.2.2.1 1 (upd (a21.2.2.1 1) (Int32.toNatClampNeg 5) 0)) 11 q2), a21.2.2.2).1 22), .int ((a21.2.1, (uF (uF a21.2.2.1 1 (upd (a21.2.2.1 1) (Int32.toNatClampNeg 5) 0)) 11 q2), a21.2.2.2).1 23), .int ((a21.2.1, (uF (uF a21.2.2.1 1 (upd (a21.2.2.1 1) (Int32.toNatClampNeg 5) 0)) 11 q2), a21.2.2.2).1 24), .int ((a21.2.1, (uF (uF a21.2.2.1 1 (upd (a21.2.2.1 1) (Int32.toNatClampNeg 5) 0)) 11 q2), a21.2.2.2).1 25), .int ((a21.2.1, (uF (uF a21.2.2.1 1 (upd (a21.2.2.1 1) (Int32.toNatClampNeg 5) 0)) 11 q2), a21.2.2.2).1 26), .int ((a21.2.1, (uF (uF a21.2.2.1 1 (upd (a21.2.2.1 1) (Int32.toNatClampNeg 5) 0)) 11 q2), a21.2.2.2).1 27), .ref (va 18), .ref (va 19), .ref (va 20), .ref (va 21), .ref (va 22), .ref (va 23), .ref (va 24), .ref (va 25), .ref (va 26), .ref (va 27), .ref (va 28), .ref (va 29), .ref (va 30), .int ((a21.2.1, (uF (uF a21.2.2.1 1 (upd (a21.2.2.1 1) (Int32.toNatClampNeg 5) 0)) 11 q2), a21.2.2.2).1 41), .int ((a21.2.1, (uF (uF a21.2.2.1 1 (upd (a21.2.2.1 1) (Int32.toNatClampNeg 5) 0)) 11 q2), a21.2.2.2).1 42), .int ((a21.2.1, (uF (uF a21.2.2.1 1 (upd (a21.2.2.1 1) (Int32.toNatClampNeg 5) 0)) 11 q2), a21.2.2.2).1 43), .ref (va 31), .ref (va 32), .ref (va 33), .ref (va 34), .ref (va 35), .ref (va 36), .ref (va 37), .int ((a21.2.1, (uF (uF a21.2.2.1 1 (upd (a21.2.2.1 1) (Int32.toNatClampNeg 5) 0)) 11 q2), a21.2.2.2).1 51), .int ((a21.2.1, (uF (uF a21.2.2.1 1 (upd (a21.2.2.1 1) (Int32.toNatClampNeg 5) 0)) 11 q2), a21.2.2.2).1 52)])), ((va 1), hcI k 8 ((a21.2.1, (uF (uF a21.2.2.1 1 (upd (a21.2.2.1 1) (Int32.toNatClampNeg 5) 0)) 11 q2), a21.2.2.2).2.1 1)), ((va 2), hcI k 4 ((a21.2.1, (uF (uF a21.2.2.1 1 (upd (a21.2.2.1 1) (Int32.toNatClampNeg 5) 0)) 11 q2), a21.2.2.2).2.1 2)), ((va 3), hcI k 8 ((a21.2.1, (uF (uF a21.2.2.1 1 (upd (a21.2.2.1 1) (Int32.toNatClampNeg 5) 0)) 11 q2), a21.2.2.2).2.1 3)), ((va 4), hcI k 8 ((a21.2.1, (uF (uF a21.2.2.1 1 (upd (a21.2.2.1 1) (Int32.toNatClampNeg 5) 0)) 11 q2), a21.2.2.2).2.1 4)), ((va 5), hcI k 8 ((a21.2.1, (uF (uF a21.2.2.1 1 (upd (a21.2.2.1 1) (Int32.toNatClampNeg 5) 0)) 11 q2), a21.2.2.2).2.1 5)), ((va 7), hcI k 8 ((a21.2.1, (uF (uF a21.2.2.1 1 (upd (a21.2.2.1 1) (Int32.toNatClampNeg 5) 0)) 11 q2), a21.2.2.2).2.1 7)), ((va 8), hcI k 10 ((a21.2.1, (uF (uF a21.2.2.1 1 (upd (a21.2.2.1 1) (Int32.toNatClampNeg 5) 0)) 11 q2), a21.2.2.2).2.1 8)), ((va 9), hcI k 10 ((a21.2.1, (uF (uF a21.2.2.1 1 (upd (a21.2.2.1 1) (Int32.toNatClampNeg 5) 0)) 11 q2), a21.2.2.2).2.1 9)), ((va 10), hcI k 10 ((a21.2.1, (uF (uF a21.2.2.1 1 (upd (a21.2.2.1 1) (Int32.toNatClampNeg 5) 0)) 11 q2), a21.2.2.2).2.1 10)), ((va 11), hcI k 4 ((a21.2.1, (uF (uF a21.2.2.1 1 (upd (a21.2.2.1 1) (Int32.toNatClampNeg 5) 0)) 11 q2), a21.2.2.2).2.1 11)), ((va 12), hcI k 4 ((a21.2.1, (uF (uF a21.2.2.1 1 (upd (a21.2.2.1 1) (Int32.toNatClampNeg 5) 0)) 11 q2), a21.2.2.2).2.1 12)), ((va 13), hcI k 4 ((a21.2.1, (uF (uF a21.2.2.1 1 (upd (a21.2.2.1 1) (Int32.toNatClampNeg 5) 0)) 11 q2), a21.2.2.2).2.1 13)), ((va 15), hcI k 8 ((a21.2.1, (uF (uF a21.2.2.1 1 (upd (a21.2.2.1 1) (Int32.toNatClampNeg 5) 0)) 11 q2), a21.2.2.2).2.1 15)), ((va 16), hcI k 8 ((a21.2.1, (uF (uF a21.2.2.1 1 (upd (a21.2.2.1 1) (Int32.toNatClampNeg 5) 0)) 11 q2), a21.2.2.2).2.1 16)), ((va 17), hcI k 8 ((a21.2.1, (uF (uF a21.2.2.1 1 (upd (a21.2.2.1 1) (Int32.toNatClampNeg 5) 0)) 11 q2), a21.2.2.2).2.1 17)), ((va 18), hcY k 400 ((a21.2.1, (uF (uF a21.2.2.1 1 (upd (a21.2.2.1 1) (Int32.toNatClampNeg 5) 0)) 11 q2), a21.2.2.2).2.1 28)), ((va 19), hcI k 1800 ((a21.2.1, (uF (uF a21.2.2.1 1 (upd (a21.2.2.1 1) (Int32.toNatClampNeg 5) 0)) 11 q2), a21.2.2.2).2.1 29)), ((va 20), hcI k 1800 ((a21.2.1, (uF (uF a21.2.2.1 1 (upd (a21.2.2.1 1) (Int32.toNatClampNeg 5) 0)) 11 q2), a21.2.2.2).2.1 30)), ((va 21), hcI k 6 ((a21.2.1, (uF (uF a21.2.2.1 1 (upd (a21.2.2.1 1) (Int32.toNatClampNeg 5) 0)) 11 q2), a21.2.2.2).2.1 31)), ((va 22), hcI k 72 ((a21.2.1, (uF (uF a21.2.2.1 1 (upd (a21.2.2.1 1) (Int32.toNatClampNeg 5) 0)) 11 q2), a21.2.2.2).2.1 32)), ((va 23), hcI k 72 ((a21.2.1, (uF (uF a21.2.2.1 1 (upd (a21.2.2.1 1) (Int32.toNatClampNeg 5) 0)) 11 q2), a21.2.2.2).2.1 33)), ((va 24), hcI k 72 ((a21.2.1, (uF (uF a21.2.2.1 1 (upd (a21.2.2.1 1) (Int32.toNatClampNeg 5) 0)) 11 q2), a21.2.2.2).2.1 34)), ((va 25), hcI k 402 ((a21.2.1, (uF (uF a21.2.2.1 1 (upd (a21.2.2.1 1) (Int32.toNatClampNeg 5) 0)) 11 q2), a21.2.2.2).2.1 35)), ((va 26), hcJ k 11 ((a21.2.1, (uF (uF a21.2.2.1 1 (upd (a21.2.2.1 1) (Int32.toNatClampNeg 5) 0)) 11 q2), a21.2.2.2).2.2 36)), ((va 27), hcJ k 300 ((a21.2.1, (uF (uF a21.2.2.1 1 (upd (a21.2.2.1 1) (Int32.toNatClampNeg 5) 0)) 11 q2), a21.2.2.2).2.2 37)), ((va 28), hcI k 8 ((a21.2.1, (uF (uF a21.2.2.1 1 (upd (a21.2.2.1 1) (Int32.toNatClampNeg 5) 0)) 11 q2), a21.2.2.2).2.1 38)), ((va 29), hcI k 260 ((a21.2.1, (uF (uF a21.2.2.1 1 (upd (a21.2.2.1 1) (Int32.toNatClampNeg 5) 0)) 11 q2), a21.2.2.2).2.1 39)), ((va 30), hcI k 1 ((a21.2.1, (uF (uF a21.2.2.1 1 (upd (a21.2.2.1 1) (Int32.toNatClampNeg 5) 0)) 11 q2), a21.2.2.2).2.1 40)), ((va 31), hcZ k 256 ((a21.2.1, (uF (uF a21.2.2.1 1 (upd (a21.2.2.1 1) (Int32.toNatClampNeg 5) 0)) 11 q2), a21.2.2.2).2.1 44)), ((va 32), hcI k 4 ((a21.2.1, (uF (uF a21.2.2.1 1 (upd (a21.2.2.1 1) (Int32.toNatClampNeg 5) 0)) 11 q2), a21.2.2.2).2.1 45)), ((va 33), hcI k 4 ((a21.2.1, (uF (uF a21.2.2.1 1 (upd (a21.2.2.1 1) (Int32.toNatClampNeg 5) 0)) 11 q2), a21.2.2.2).2.1 46)), ((va 34), hcI k 488 ((a21.2.1, (uF (uF a21.2.2.1 1 (upd (a21.2.2.1 1) (Int32.toNatClampNeg 5) 0)) 11 q2), a21.2.2.2).2.1 47)), ((va 35), hcI k 56 ((a21.2.1, (uF (uF a21.2.2.1 1 (upd (a21.2.2.1 1) (Int32.toNatClampNeg 5) 0)) 11 q2), a21.2.2.2).2.1 48)), ((va 36), hcI k 2000 ((a21.2.1, (uF (uF a21.2.2.1 1 (upd (a21.2.2.1 1) (Int32.toNatClampNeg 5) 0)) 11 q2), a21.2.2.2).2.1 49)), ((va 37), hcZ k 4 ((a21.2.1, (uF (uF a21.2.2.1 1 (upd (a21.2.2.1 1) (Int32.toNatClampNeg 5) 0)) 11 q2), a21.2.2.2).2.1 50))] : va_W)) (wp := fun b : (Nat → Int32) => ([((va 14), hcI k 8 (a21.2.2.1 14))] : va_W) ++ (([((va 6), hcI k 8 b)] : va_W))) h hx hb hml hown hts hG hA hP hD hS hl.1 [14, 6] [0, 1, 2, 3, 4, 5, 7, 8, 9, 10, 11, 12, 13, 15, 16, 17, 18, 19, 20, 21, 22, 23, 24, 25, 26, 27, 28, 29, 30, 31, 32, 33, 34, 35, 36, 37] (fun q hq9 => c_X9_copies l D k _  (va 14) (va 6) F 8 8 (a21.2.2.1 14) (a21.2.2.1 6)  hq9) gX9_hall_X9_copies rfl ⟨rfl, rfl, Nat.le_of_ble_eq_true rfl, Nat.le_of_ble_eq_true rfl⟩ (by decide +kernel) rfl rfl ⟨by decide +kernel, by decide +kernel, by decide +kernel⟩ ⟨rfl, rfl, Nat.le_of_ble_eq_true rfl, Nat.le_of_ble_eq_true rfl, Nat.le_of_ble_eq_true rfl⟩ dX9_hall_70 (fun q3 H locs h hP hD hS => ?_)
      obtain ⟨hP, hD⟩ := cvs (w' := moW k va (a21.2.1, (uF (uF (uF a21.2.2.1 1 (upd (a21.2.2.1 1) (Int32.toNatClampNeg 5) 0)) 6 q3) 11 q2), a21.2.2.2)) hP hD [0, 1, 2, 3, 4, 5, 37, 6, 7, 8, 9, 10, 11, 12, 36, 13, 14, 15, 16, 17, 18, 19, 20, 21, 22, 23, 24, 25, 26, 27, 28, 29, 30, 31, 32, 33, 34, 35] (by decide +kernel) rfl
      refine lv_aload_n hx hb dX9_hall_73 rfl (lv_at hl 0 rfl) ?_
      refine va_get (D := D) (ci := 7) (v := .ref (va 15)) (C := RX9) (T := TX9) (N := 53) hx hb hts in9 hown hG.1 hP 0 rfl rfl 15 (by decide) (hts (.fieldLink RX9 52 "ChairCaneModel" "newStrand" "[I") (mem_b bq_wsX9_hall 0 7 rfl)) (fun _ h9 => h9) rfl dX9_hall_74 ?_
      refine lv_aload_n hx hb dX9_hall_77 rfl (lv_at hl 0 rfl) ?_
      refine va_get (D := D) (ci := 7) (v := .ref (va 4)) (C := RX9) (T := TX9) (N := 53) hx hb hts in9 hown hG.1 hP 0 rfl rfl 4 (by decide) (hts (.fieldLink RX9 19 "ChairCaneModel" "strandOf" "[I") (mem_b bq_wsX9_hall 0 8 rfl)) (fun _ h9 => h9) rfl dX9_hall_78 ?_
      refine fw_Sv (As := [.ref (va 15), .ref (va 4)]) (rest := []) (n := 2) (wr := ([((va 0), .inr (7, [.int ((a21.2.1, (uF (uF (uF a21.2.2.1 1 (upd (a21.2.2.1 1) (Int32.toNatClampNeg 5) 0)) 6 q3) 11 q2), a21.2.2.2).1 0), .ref (va 1), .ref (va 2), .ref (va 3), .ref (va 4), .ref (va 5), .ref (va 6), .ref (va 7), .ref (va 8), .ref (va 9), .ref (va 10), .ref (va 11), .ref (va 12), .ref (va 13), .ref (va 14), .ref (va 15), .ref (va 16), .ref (va 17), .int ((a21.2.1, (uF (uF (uF a21.2.2.1 1 (upd (a21.2.2.1 1) (Int32.toNatClampNeg 5) 0)) 6 q3) 11 q2), a21.2.2.2).1 18), .int ((a21.2.1, (uF (uF (uF a21.2.2.1 1 (upd (a21.2.2.1 1) (Int32.toNatClampNeg 5) 0)) 6 q3) 11 q2), a21.2.2.2).1 19), .int ((a21.2.1, (uF (uF (uF a21.2.2.1 1 (upd (a21.2.2.1 1) (Int32.toNatClampNeg 5) 0)) 6 q3) 11 q2), a21.2.2.2).1 20), .int ((a21.2.1, (uF (uF (uF a21.2.2.1 1 (upd (a21.2.2.1 1) (Int32.toNatClampNeg 5) 0)) 6 q3) 11 q2), a21.2.2.2).1 21), .int ((a21.2.1, (uF (uF (uF a21.2.2.1 1 (upd (a21.2.2.1 1) (Int32.toNatClampNeg 5) 0)) 6 q3) 11 q2), a21.2.2.2).1 22), .int ((a21.2.1, (uF (uF (uF a21.2.2.1 1 (upd (a21.2.2.1 1) (Int32.toNatClampNeg 5) 0)) 6 q3) 11 q2), a21.2.2.2).1 23), .int ((a21.2.1, (uF (uF (uF a21.2.2.1 1 (upd (a21.2.2.1 1) (Int32.toNatClampNeg 5) 0)) 6 q3) 11 q2), a21.2.2.2).1 24), .int ((a21.2.1, (uF (uF (uF a21.2.2.1 1 (upd (a21.2.2.1 1) (Int32.toNatClampNeg 5) 0)) 6 q3) 11 q2), a21.2.2.2).1 25), .int ((a21.2.1, (uF (uF (uF a21.2.2.1 1 (upd (a21.2.2.1 1) (Int32.toNatClampNeg 5) 0)) 6 q3) 11 q2), a21.2.2.2).1 26), .int ((a21.2.1, (uF (uF (uF a21.2.2.1 1 (upd (a21.2.2.1 1) (Int32.toNatClampNeg 5) 0)) 6 q3) 11 q2), a21.2.2.2).1 27), .ref (va 18), .ref (va 19), .ref (va 20), .ref (va 21), .ref (va 22), .ref (va 23), .ref (va 24), .ref (va 25), .ref (va 26), .ref (va 27), .ref (va 28), .ref (va 29), .ref (va 30), .int ((a21.2.1, (uF (uF (uF a21.2.2.1 1 (upd (a21.2.2.1 1) (Int32.toNatClampNeg 5) 0)) 6 q3) 11 q2), a21.2.2.2).1 41), .int ((a21.2.1, (uF (uF (uF a21.2.2.1 1 (upd (a21.2.2.1 1) (Int32.toNatClampNeg 5) 0)) 6 q3) 11 q2), a21.2.2.2).1 42), .int ((a21.2.1, (uF (uF (uF a21.2.2.1 1 (upd (a21.2.2.1 1) (Int32.toNatClampNeg 5) 0)) 6 q3) 11 q2), a21.2.2.2).1 43), .ref (va 31), .ref (va 32), .ref (va 33), .ref (va 34), .ref (va 35), .ref (va 36), .ref (va 37), .int ((a21.2.1, (uF (uF (uF a21.2.2.1 1 (upd (a21.2.2.1 1) (Int32.toNatClampNeg 5) 0)) 6 q3) 11 q2), a21.2.2.2).1 51), .int ((a21.2.1, (uF (uF (uF a21.2.2.1 1 (upd (a21.2.2.1 1) (Int32.toNatClampNeg 5) 0)) 6 q3) 11 q2), a21.2.2.2).1 52)])), ((va 1), hcI k 8 ((a21.2.1, (uF (uF (uF a21.2.2.1 1 (upd (a21.2.2.1 1) (Int32.toNatClampNeg 5) 0)) 6 q3) 11 q2), a21.2.2.2).2.1 1)), ((va 2), hcI k 4 ((a21.2.1, (uF (uF (uF a21.2.2.1 1 (upd (a21.2.2.1 1) (Int32.toNatClampNeg 5) 0)) 6 q3) 11 q2), a21.2.2.2).2.1 2)), ((va 3), hcI k 8 ((a21.2.1, (uF (uF (uF a21.2.2.1 1 (upd (a21.2.2.1 1) (Int32.toNatClampNeg 5) 0)) 6 q3) 11 q2), a21.2.2.2).2.1 3)), ((va 5), hcI k 8 ((a21.2.1, (uF (uF (uF a21.2.2.1 1 (upd (a21.2.2.1 1) (Int32.toNatClampNeg 5) 0)) 6 q3) 11 q2), a21.2.2.2).2.1 5)), ((va 6), hcI k 8 ((a21.2.1, (uF (uF (uF a21.2.2.1 1 (upd (a21.2.2.1 1) (Int32.toNatClampNeg 5) 0)) 6 q3) 11 q2), a21.2.2.2).2.1 6)), ((va 7), hcI k 8 ((a21.2.1, (uF (uF (uF a21.2.2.1 1 (upd (a21.2.2.1 1) (Int32.toNatClampNeg 5) 0)) 6 q3) 11 q2), a21.2.2.2).2.1 7)), ((va 8), hcI k 10 ((a21.2.1, (uF (uF (uF a21.2.2.1 1 (upd (a21.2.2.1 1) (Int32.toNatClampNeg 5) 0)) 6 q3) 11 q2), a21.2.2.2).2.1 8)), ((va 9), hcI k 10 ((a21.2.1, (uF (uF (uF a21.2.2.1 1 (upd (a21.2.2.1 1) (Int32.toNatClampNeg 5) 0)) 6 q3) 11 q2), a21.2.2.2).2.1 9)), ((va 10), hcI k 10 ((a21.2.1, (uF (uF (uF a21.2.2.1 1 (upd (a21.2.2.1 1) (Int32.toNatClampNeg 5) 0)) 6 q3) 11 q2), a21.2.2.2).2.1 10)), ((va 11), hcI k 4 ((a21.2.1, (uF (uF (uF a21.2.2.1 1 (upd (a21.2.2.1 1) (Int32.toNatClampNeg 5) 0)) 6 q3) 11 q2), a21.2.2.2).2.1 11)), ((va 12), hcI k 4 ((a21.2.1, (uF (uF (uF a21.2.2.1 1 (upd (a21.2.2.1 1) (Int32.toNatClampNeg 5) 0)) 6 q3) 11 q2), a21.2.2.2).2.1 12)), ((va 13), hcI k 4 ((a21.2.1, (uF (uF (uF a21.2.2.1 1 (upd (a21.2.2.1 1) (Int32.toNatClampNeg 5) 0)) 6 q3) 11 q2), a21.2.2.2).2.1 13)), ((va 14), hcI k 8 ((a21.2.1, (uF (uF (uF a21.2.2.1 1 (upd (a21.2.2.1 1) (Int32.toNatClampNeg 5) 0)) 6 q3) 11 q2), a21.2.2.2).2.1 14)), ((va 16), hcI k 8 ((a21.2.1, (uF (uF (uF a21.2.2.1 1 (upd (a21.2.2.1 1) (Int32.toNatClampNeg 5) 0)) 6 q3) 11 q2), a21.2.2.2).2.1 16)), ((va 17), hcI k 8 ((a21.2.1, (uF (uF (uF a21.2.2.1 1 (upd (a21.2.2.1 1) (Int32.toNatClampNeg 5) 0)) 6 q3) 11 q2), a21.2.2.2).2.1 17)), ((va 18), hcY k 400 ((a21.2.1, (uF (uF (uF a21.2.2.1 1 (upd (a21.2.2.1 1) (Int32.toNatClampNeg 5) 0)) 6 q3) 11 q2), a21.2.2.2).2.1 28)), ((va 19), hcI k 1800 ((a21.2.1, (uF (uF (uF a21.2.2.1 1 (upd (a21.2.2.1 1) (Int32.toNatClampNeg 5) 0)) 6 q3) 11 q2), a21.2.2.2).2.1 29)), ((va 20), hcI k 1800 ((a21.2.1, (uF (uF (uF a21.2.2.1 1 (upd (a21.2.2.1 1) (Int32.toNatClampNeg 5) 0)) 6 q3) 11 q2), a21.2.2.2).2.1 30)), ((va 21), hcI k 6 ((a21.2.1, (uF (uF (uF a21.2.2.1 1 (upd (a21.2.2.1 1) (Int32.toNatClampNeg 5) 0)) 6 q3) 11 q2), a21.2.2.2).2.1 31)), ((va 22), hcI k 72 ((a21.2.1, (uF (uF (uF a21.2.2.1 1 (upd (a21.2.2.1 1) (Int32.toNatClampNeg 5) 0)) 6 q3) 11 q2), a21.2.2.2).2.1 32)), ((va 23), hcI k 72 ((a21.2.1, (uF (uF (uF a21.2.2.1 1 (upd (a21.2.2.1 1) (Int32.toNatClampNeg 5) 0)) 6 q3) 11 q2), a21.2.2.2).2.1 33)), ((va 24), hcI k 72 ((a21.2.1, (uF (uF (uF a21.2.2.1 1 (upd (a21.2.2.1 1) (Int32.toNatClampNeg 5) 0)) 6 q3) 11 q2), a21.2.2.2).2.1 34)), ((va 25), hcI k 402 ((a21.2.1, (uF (uF (uF a21.2.2.1 1 (upd (a21.2.2.1 1) (Int32.toNatClampNeg 5) 0)) 6 q3) 11 q2), a21.2.2.2).2.1 35)), ((va 26), hcJ k 11 ((a21.2.1, (uF (uF (uF a21.2.2.1 1 (upd (a21.2.2.1 1) (Int32.toNatClampNeg 5) 0)) 6 q3) 11 q2), a21.2.2.2).2.2 36)), ((va 27), hcJ k 300 ((a21.2.1, (uF (uF (uF a21.2.2.1 1 (upd (a21.2.2.1 1) (Int32.toNatClampNeg 5) 0)) 6 q3) 11 q2), a21.2.2.2).2.2 37)), ((va 28), hcI k 8 ((a21.2.1, (uF (uF (uF a21.2.2.1 1 (upd (a21.2.2.1 1) (Int32.toNatClampNeg 5) 0)) 6 q3) 11 q2), a21.2.2.2).2.1 38)), ((va 29), hcI k 260 ((a21.2.1, (uF (uF (uF a21.2.2.1 1 (upd (a21.2.2.1 1) (Int32.toNatClampNeg 5) 0)) 6 q3) 11 q2), a21.2.2.2).2.1 39)), ((va 30), hcI k 1 ((a21.2.1, (uF (uF (uF a21.2.2.1 1 (upd (a21.2.2.1 1) (Int32.toNatClampNeg 5) 0)) 6 q3) 11 q2), a21.2.2.2).2.1 40)), ((va 31), hcZ k 256 ((a21.2.1, (uF (uF (uF a21.2.2.1 1 (upd (a21.2.2.1 1) (Int32.toNatClampNeg 5) 0)) 6 q3) 11 q2), a21.2.2.2).2.1 44)), ((va 32), hcI k 4 ((a21.2.1, (uF (uF (uF a21.2.2.1 1 (upd (a21.2.2.1 1) (Int32.toNatClampNeg 5) 0)) 6 q3) 11 q2), a21.2.2.2).2.1 45)), ((va 33), hcI k 4 ((a21.2.1, (uF (uF (uF a21.2.2.1 1 (upd (a21.2.2.1 1) (Int32.toNatClampNeg 5) 0)) 6 q3) 11 q2), a21.2.2.2).2.1 46)), ((va 34), hcI k 488 ((a21.2.1, (uF (uF (uF a21.2.2.1 1 (upd (a21.2.2.1 1) (Int32.toNatClampNeg 5) 0)) 6 q3) 11 q2), a21.2.2.2).2.1 47)), ((va 35), hcI k 56 ((a21.2.1, (uF (uF (uF a21.2.2.1 1 (upd (a21.2.2.1 1) (Int32.toNatClampNeg 5) 0)) 6 q3) 11 q2), a21.2.2.2).2.1 48)), ((va 36), hcI k 2000 ((a21.2.1, (uF (uF (uF a21.2.2.1 1 (upd (a21.2.2.1 1) (Int32.toNatClampNeg 5) 0)) 6 q3) 11 q2), a21.2.2.2).2.1 49)), ((va 37), hcZ k 4 ((a21.2.1, (uF (uF (uF a21.2.2.1 1 (upd (a21.2.2.1 1) (Int32.toNatClampNeg 5) 0)) 6 q3) 11 q2), a21.2.2.2).2.1 50))] : va_W)) (wp := fun b : (Nat → Int32) => ([((va 15), hcI k 8 (a21.2.2.1 15))] : va_W) ++ (([((va 4), hcI k 8 b)] : va_W))) h hx hb hml hown hts hG hA hP hD hS hl.1 [15, 4] [0, 1, 2, 3, 5, 6, 7, 8, 9, 10, 11, 12, 13, 14, 16, 17, 18, 19, 20, 21, 22, 23, 24, 25, 26, 27, 28, 29, 30, 31, 32, 33, 34, 35, 36, 37] (fun q hq9 => c_X9_copies l D k _  (va 15) (va 4) F 8 8 (a21.2.2.1 15) (a21.2.2.1 4)  hq9) gX9_hall_X9_copies rfl ⟨rfl, rfl, Nat.le_of_ble_eq_true rfl, Nat.le_of_ble_eq_true rfl⟩ (by decide +kernel) rfl rfl ⟨by decide +kernel, by decide +kernel, by decide +kernel⟩ ⟨rfl, rfl, Nat.le_of_ble_eq_true rfl, Nat.le_of_ble_eq_true rfl, Nat.le_of_ble_eq_true rfl⟩ dX9_hall_81 (fun q4 H locs h hP hD hS => ?_)
      obtain ⟨hP, hD⟩ := cvs (w' := moW k va (a21.2.1, (uF (uF (uF (uF a21.2.2.1 1 (upd (a21.2.2.1 1) (Int32.toNatClampNeg 5) 0)) 4 q4) 6 q3) 11 q2), a21.2.2.2)) hP hD [0, 1, 2, 3, 37, 4, 5, 6, 7, 8, 9, 10, 11, 12, 13, 36, 14, 15, 16, 17, 18, 19, 20, 21, 22, 23, 24, 25, 26, 27, 28, 29, 30, 31, 32, 33, 34, 35] (by decide +kernel) rfl
      refine lv_aload_n hx hb dX9_hall_84 rfl (lv_at hl 0 rfl) ?_
      refine va_get (D := D) (ci := 7) (v := .ref (va 16)) (C := RX9) (T := TX9) (N := 53) hx hb hts in9 hown hG.1 hP 0 rfl rfl 16 (by decide) (hts (.fieldLink RX9 55 "ChairCaneModel" "newChair" "[I") (mem_b bq_wsX9_hall 0 9 rfl)) (fun _ h9 => h9) rfl dX9_hall_85 ?_
      refine lv_aload_n hx hb dX9_hall_88 rfl (lv_at hl 0 rfl) ?_
      refine va_get (D := D) (ci := 7) (v := .ref (va 7)) (C := RX9) (T := TX9) (N := 53) hx hb hts in9 hown hG.1 hP 0 rfl rfl 7 (by decide) (hts (.fieldLink RX9 28 "ChairCaneModel" "chairOf" "[I") (mem_b bq_wsX9_hall 0 10 rfl)) (fun _ h9 => h9) rfl dX9_hall_89 ?_
      refine fw_Sv (As := [.ref (va 16), .ref (va 7)]) (rest := []) (n := 2) (wr := ([((va 0), .inr (7, [.int ((a21.2.1, (uF (uF (uF (uF a21.2.2.1 1 (upd (a21.2.2.1 1) (Int32.toNatClampNeg 5) 0)) 4 q4) 6 q3) 11 q2), a21.2.2.2).1 0), .ref (va 1), .ref (va 2), .ref (va 3), .ref (va 4), .ref (va 5), .ref (va 6), .ref (va 7), .ref (va 8), .ref (va 9), .ref (va 10), .ref (va 11), .ref (va 12), .ref (va 13), .ref (va 14), .ref (va 15), .ref (va 16), .ref (va 17), .int ((a21.2.1, (uF (uF (uF (uF a21.2.2.1 1 (upd (a21.2.2.1 1) (Int32.toNatClampNeg 5) 0)) 4 q4) 6 q3) 11 q2), a21.2.2.2).1 18), .int ((a21.2.1, (uF (uF (uF (uF a21.2.2.1 1 (upd (a21.2.2.1 1) (Int32.toNatClampNeg 5) 0)) 4 q4) 6 q3) 11 q2), a21.2.2.2).1 19), .int ((a21.2.1, (uF (uF (uF (uF a21.2.2.1 1 (upd (a21.2.2.1 1) (Int32.toNatClampNeg 5) 0)) 4 q4) 6 q3) 11 q2), a21.2.2.2).1 20), .int ((a21.2.1, (uF (uF (uF (uF a21.2.2.1 1 (upd (a21.2.2.1 1) (Int32.toNatClampNeg 5) 0)) 4 q4) 6 q3) 11 q2), a21.2.2.2).1 21), .int ((a21.2.1, (uF (uF (uF (uF a21.2.2.1 1 (upd (a21.2.2.1 1) (Int32.toNatClampNeg 5) 0)) 4 q4) 6 q3) 11 q2), a21.2.2.2).1 22), .int ((a21.2.1, (uF (uF (uF (uF a21.2.2.1 1 (upd (a21.2.2.1 1) (Int32.toNatClampNeg 5) 0)) 4 q4) 6 q3) 11 q2), a21.2.2.2).1 23), .int ((a21.2.1, (uF (uF (uF (uF a21.2.2.1 1 (upd (a21.2.2.1 1) (Int32.toNatClampNeg 5) 0)) 4 q4) 6 q3) 11 q2), a21.2.2.2).1 24), .int ((a21.2.1, (uF (uF (uF (uF a21.2.2.1 1 (upd (a21.2.2.1 1) (Int32.toNatClampNeg 5) 0)) 4 q4) 6 q3) 11 q2), a21.2.2.2).1 25), .int ((a21.2.1, (uF (uF (uF (uF a21.2.2.1 1 (upd (a21.2.2.1 1) (Int32.toNatClampNeg 5) 0)) 4 q4) 6 q3) 11 q2), a21.2.2.2).1 26), .int ((a21.2.1, (uF (uF (uF (uF a21.2.2.1 1 (upd (a21.2.2.1 1) (Int32.toNatClampNeg 5) 0)) 4 q4) 6 q3) 11 q2), a21.2.2.2).1 27), .ref (va 18), .ref (va 19), .ref (va 20), .ref (va 21), .ref (va 22), .ref (va 23), .ref (va 24), .ref (va 25), .ref (va 26), .ref (va 27), .ref (va 28), .ref (va 29), .ref (va 30), .int ((a21.2.1, (uF (uF (uF (uF a21.2.2.1 1 (upd (a21.2.2.1 1) (Int32.toNatClampNeg 5) 0)) 4 q4) 6 q3) 11 q2), a21.2.2.2).1 41), .int ((a21.2.1, (uF (uF (uF (uF a21.2.2.1 1 (upd (a21.2.2.1 1) (Int32.toNatClampNeg 5) 0)) 4 q4) 6 q3) 11 q2), a21.2.2.2).1 42), .int ((a21.2.1, (uF (uF (uF (uF a21.2.2.1 1 (upd (a21.2.2.1 1) (Int32.toNatClampNeg 5) 0)) 4 q4) 6 q3) 11 q2), a21.2.2.2).1 43), .ref (va 31), .ref (va 32), .ref (va 33), .ref (va 34), .ref (va 35), .ref (va 36), .ref (va 37), .int ((a21.2.1, (uF (uF (uF (uF a21.2.2.1 1 (upd (a21.2.2.1 1) (Int32.toNatClampNeg 5) 0)) 4 q4) 6 q3) 11 q2), a21.2.2.2).1 51), .int ((a21.2.1, (uF (uF (uF (uF a21.2.2.1 1 (upd (a21.2.2.1 1) (Int32.toNatClampNeg 5) 0)) 4 q4) 6 q3) 11 q2), a21.2.2.2).1 52)])), ((va 1), hcI k 8 ((a21.2.1, (uF (uF (uF (uF a21.2.2.1 1 (upd (a21.2.2.1 1) (Int32.toNatClampNeg 5) 0)) 4 q4) 6 q3) 11 q2), a21.2.2.2).2.1 1)), ((va 2), hcI k 4 ((a21.2.1, (uF (uF (uF (uF a21.2.2.1 1 (upd (a21.2.2.1 1) (Int32.toNatClampNeg 5) 0)) 4 q4) 6 q3) 11 q2), a21.2.2.2).2.1 2)), ((va 3), hcI k 8 ((a21.2.1, (uF (uF (uF (uF a21.2.2.1 1 (upd (a21.2.2.1 1) (Int32.toNatClampNeg 5) 0)) 4 q4) 6 q3) 11 q2), a21.2.2.2).2.1 3)), ((va 4), hcI k 8 ((a21.2.1, (uF (uF (uF (uF a21.2.2.1 1 (upd (a21.2.2.1 1) (Int32.toNatClampNeg 5) 0)) 4 q4) 6 q3) 11 q2), a21.2.2.2).2.1 4)), ((va 5), hcI k 8 ((a21.2.1, (uF (uF (uF (uF a21.2.2.1 1 (upd (a21.2.2.1 1) (Int32.toNatClampNeg 5) 0)) 4 q4) 6 q3) 11 q2), a21.2.2.2).2.1 5)), ((va 6), hcI k 8 ((a21.2.1, (uF (uF (uF (uF a21.2.2.1 1 (upd (a21.2.2.1 1) (Int32.toNatClampNeg 5) 0)) 4 q4) 6 q3) 11 q2), a21.2.2.2).2.1 6)), ((va 8), hcI k 10 ((a21.2.1, (uF (uF (uF (uF a21.2.2.1 1 (upd (a21.2.2.1 1) (Int32.toNatClampNeg 5) 0)) 4 q4) 6 q3) 11 q2), a21.2.2.2).2.1 8)), ((va 9), hcI k 10 ((a21.2.1, (uF (uF (uF (uF a21.2.2.1 1 (upd (a21.2.2.1 1) (Int32.toNatClampNeg 5) 0)) 4 q4) 6 q3) 11 q2), a21.2.2.2).2.1 9)), ((va 10), hcI k 10 ((a21.2.1, (uF (uF (uF (uF a21.2.2.1 1 (upd (a21.2.2.1 1) (Int32.toNatClampNeg 5) 0)) 4 q4) 6 q3) 11 q2), a21.2.2.2).2.1 10)), ((va 11), hcI k 4 ((a21.2.1, (uF (uF (uF (uF a21.2.2.1 1 (upd (a21.2.2.1 1) (Int32.toNatClampNeg 5) 0)) 4 q4) 6 q3) 11 q2), a21.2.2.2).2.1 11)), ((va 12), hcI k 4 ((a21.2.1, (uF (uF (uF (uF a21.2.2.1 1 (upd (a21.2.2.1 1) (Int32.toNatClampNeg 5) 0)) 4 q4) 6 q3) 11 q2), a21.2.2.2).2.1 12)), ((va 13), hcI k 4 ((a21.2.1, (uF (uF (uF (uF a21.2.2.1 1 (upd (a21.2.2.1 1) (Int32.toNatClampNeg 5) 0)) 4 q4) 6 q3) 11 q2), a21.2.2.2).2.1 13)), ((va 14), hcI k 8 ((a21.2.1, (uF (uF (uF (uF a21.2.2.1 1 (upd (a21.2.2.1 1) (Int32.toNatClampNeg 5) 0)) 4 q4) 6 q3) 11 q2), a21.2.2.2).2.1 14)), ((va 15), hcI k 8 ((a21.2.1, (uF (uF (uF (uF a21.2.2.1 1 (upd (a21.2.2.1 1) (Int32.toNatClampNeg 5) 0)) 4 q4) 6 q3) 11 q2), a21.2.2.2).2.1 15)), ((va 17), hcI k 8 ((a21.2.1, (uF (uF (uF (uF a21.2.2.1 1 (upd (a21.2.2.1 1) (Int32.toNatClampNeg 5) 0)) 4 q4) 6 q3) 11 q2), a21.2.2.2).2.1 17)), ((va 18), hcY k 400 ((a21.2.1, (uF (uF (uF (uF a21.2.2.1 1 (upd (a21.2.2.1 1) (Int32.toNatClampNeg 5) 0)) 4 q4) 6 q3) 11 q2), a21.2.2.2).2.1 28)), ((va 19), hcI k 1800 ((a21.2.1, (uF (uF (uF (uF a21.2.2.1 1 (upd (a21.2.2.1 1) (Int32.toNatClampNeg 5) 0)) 4 q4) 6 q3) 11 q2), a21.2.2.2).2.1 29)), ((va 20), hcI k 1800 ((a21.2.1, (uF (uF (uF (uF a21.2.2.1 1 (upd (a21.2.2.1 1) (Int32.toNatClampNeg 5) 0)) 4 q4) 6 q3) 11 q2), a21.2.2.2).2.1 30)), ((va 21), hcI k 6 ((a21.2.1, (uF (uF (uF (uF a21.2.2.1 1 (upd (a21.2.2.1 1) (Int32.toNatClampNeg 5) 0)) 4 q4) 6 q3) 11 q2), a21.2.2.2).2.1 31)), ((va 22), hcI k 72 ((a21.2.1, (uF (uF (uF (uF a21.2.2.1 1 (upd (a21.2.2.1 1) (Int32.toNatClampNeg 5) 0)) 4 q4) 6 q3) 11 q2), a21.2.2.2).2.1 32)), ((va 23), hcI k 72 ((a21.2.1, (uF (uF (uF (uF a21.2.2.1 1 (upd (a21.2.2.1 1) (Int32.toNatClampNeg 5) 0)) 4 q4) 6 q3) 11 q2), a21.2.2.2).2.1 33)), ((va 24), hcI k 72 ((a21.2.1, (uF (uF (uF (uF a21.2.2.1 1 (upd (a21.2.2.1 1) (Int32.toNatClampNeg 5) 0)) 4 q4) 6 q3) 11 q2), a21.2.2.2).2.1 34)), ((va 25), hcI k 402 ((a21.2.1, (uF (uF (uF (uF a21.2.2.1 1 (upd (a21.2.2.1 1) (Int32.toNatClampNeg 5) 0)) 4 q4) 6 q3) 11 q2), a21.2.2.2).2.1 35)), ((va 26), hcJ k 11 ((a21.2.1, (uF (uF (uF (uF a21.2.2.1 1 (upd (a21.2.2.1 1) (Int32.toNatClampNeg 5) 0)) 4 q4) 6 q3) 11 q2), a21.2.2.2).2.2 36)), ((va 27), hcJ k 300 ((a21.2.1, (uF (uF (uF (uF a21.2.2.1 1 (upd (a21.2.2.1 1) (Int32.toNatClampNeg 5) 0)) 4 q4) 6 q3) 11 q2), a21.2.2.2).2.2 37)), ((va 28), hcI k 8 ((a21.2.1, (uF (uF (uF (uF a21.2.2.1 1 (upd (a21.2.2.1 1) (Int32.toNatClampNeg 5) 0)) 4 q4) 6 q3) 11 q2), a21.2.2.2).2.1 38)), ((va 29), hcI k 260 ((a21.2.1, (uF (uF (uF (uF a21.2.2.1 1 (upd (a21.2.2.1 1) (Int32.toNatClampNeg 5) 0)) 4 q4) 6 q3) 11 q2), a21.2.2.2).2.1 39)), ((va 30), hcI k 1 ((a21.2.1, (uF (uF (uF (uF a21.2.2.1 1 (upd (a21.2.2.1 1) (Int32.toNatClampNeg 5) 0)) 4 q4) 6 q3) 11 q2), a21.2.2.2).2.1 40)), ((va 31), hcZ k 256 ((a21.2.1, (uF (uF (uF (uF a21.2.2.1 1 (upd (a21.2.2.1 1) (Int32.toNatClampNeg 5) 0)) 4 q4) 6 q3) 11 q2), a21.2.2.2).2.1 44)), ((va 32), hcI k 4 ((a21.2.1, (uF (uF (uF (uF a21.2.2.1 1 (upd (a21.2.2.1 1) (Int32.toNatClampNeg 5) 0)) 4 q4) 6 q3) 11 q2), a21.2.2.2).2.1 45)), ((va 33), hcI k 4 ((a21.2.1, (uF (uF (uF (uF a21.2.2.1 1 (upd (a21.2.2.1 1) (Int32.toNatClampNeg 5) 0)) 4 q4) 6 q3) 11 q2), a21.2.2.2).2.1 46)), ((va 34), hcI k 488 ((a21.2.1, (uF (uF (uF (uF a21.2.2.1 1 (upd (a21.2.2.1 1) (Int32.toNatClampNeg 5) 0)) 4 q4) 6 q3) 11 q2), a21.2.2.2).2.1 47)), ((va 35), hcI k 56 ((a21.2.1, (uF (uF (uF (uF a21.2.2.1 1 (upd (a21.2.2.1 1) (Int32.toNatClampNeg 5) 0)) 4 q4) 6 q3) 11 q2), a21.2.2.2).2.1 48)), ((va 36), hcI k 2000 ((a21.2.1, (uF (uF (uF (uF a21.2.2.1 1 (upd (a21.2.2.1 1) (Int32.toNatClampNeg 5) 0)) 4 q4) 6 q3) 11 q2), a21.2.2.2).2.1 49)), ((va 37), hcZ k 4 ((a21.2.1, (uF (uF (uF (uF a21.2.2.1 1 (upd (a21.2.2.1 1) (Int32.toNatClampNeg 5) 0)) 4 q4) 6 q3) 11 q2), a21.2.2.2).2.1 50))] : va_W)) (wp := fun b : (Nat → Int32) => ([((va 16), hcI k 8 (a21.2.2.1 16))] : va_W) ++ (([((va 7), hcI k 8 b)] : va_W))) h hx hb hml hown hts hG hA hP hD hS hl.1 [16, 7] [0, 1, 2, 3, 4, 5, 6, 8, 9, 10, 11, 12, 13, 14, 15, 17, 18, 19, 20, 21, 22, 23, 24, 25, 26, 27, 28, 29, 30, 31, 32, 33, 34, 35, 36, 37] (fun q hq9 => c_X9_copies l D k _  (va 16) (va 7) F 8 8 (a21.2.2.1 16) (a21.2.2.1 7)  hq9) gX9_hall_X9_copies rfl ⟨rfl, rfl, Nat.le_of_ble_eq_true rfl, Nat.le_of_ble_eq_true rfl⟩ (by decide +kernel) rfl rfl ⟨by decide +kernel, by decide +kernel, by decide +kernel⟩ ⟨rfl, rfl, Nat.le_of_ble_eq_true rfl, Nat.le_of_ble_eq_true rfl, Nat.le_of_ble_eq_true rfl⟩ dX9_hall_92 (fun q5 H locs h hP hD hS => ?_)
      obtain ⟨hP, hD⟩ := cvs (w' := moW k va (a21.2.1, (uF (uF (uF (uF (uF a21.2.2.1 1 (upd (a21.2.2.1 1) (Int32.toNatClampNeg 5) 0)) 4 q4) 6 q3) 7 q5) 11 q2), a21.2.2.2)) hP hD [0, 1, 2, 3, 4, 5, 6, 37, 7, 8, 9, 10, 11, 12, 13, 14, 36, 15, 16, 17, 18, 19, 20, 21, 22, 23, 24, 25, 26, 27, 28, 29, 30, 31, 32, 33, 34, 35] (by decide +kernel) rfl
      refine lv_aload_n hx hb dX9_hall_95 rfl (lv_at hl 0 rfl) ?_
      refine va_get (D := D) (ci := 7) (v := .ref (va 17)) (C := RX9) (T := TX9) (N := 53) hx hb hts in9 hown hG.1 hP 0 rfl rfl 17 (by decide) (hts (.fieldLink RX9 58 "ChairCaneModel" "newWeight" "[I") (mem_b bq_wsX9_hall 0 11 rfl)) (fun _ h9 => h9) rfl dX9_hall_96 ?_
      refine lv_aload_n hx hb dX9_hall_99 rfl (lv_at hl 0 rfl) ?_
      refine va_get (D := D) (ci := 7) (v := .ref (va 5)) (C := RX9) (T := TX9) (N := 53) hx hb hts in9 hown hG.1 hP 0 rfl rfl 5 (by decide) (hts (.fieldLink RX9 22 "ChairCaneModel" "weight" "[I") (mem_b bq_wsX9_hall 0 12 rfl)) (fun _ h9 => h9) rfl dX9_hall_100 ?_
      refine fw_Sv (As := [.ref (va 17), .ref (va 5)]) (rest := []) (n := 2) (wr := ([((va 0), .inr (7, [.int ((a21.2.1, (uF (uF (uF (uF (uF a21.2.2.1 1 (upd (a21.2.2.1 1) (Int32.toNatClampNeg 5) 0)) 4 q4) 6 q3) 7 q5) 11 q2), a21.2.2.2).1 0), .ref (va 1), .ref (va 2), .ref (va 3), .ref (va 4), .ref (va 5), .ref (va 6), .ref (va 7), .ref (va 8), .ref (va 9), .ref (va 10), .ref (va 11), .ref (va 12), .ref (va 13), .ref (va 14), .ref (va 15), .ref (va 16), .ref (va 17), .int ((a21.2.1, (uF (uF (uF (uF (uF a21.2.2.1 1 (upd (a21.2.2.1 1) (Int32.toNatClampNeg 5) 0)) 4 q4) 6 q3) 7 q5) 11 q2), a21.2.2.2).1 18), .int ((a21.2.1, (uF (uF (uF (uF (uF a21.2.2.1 1 (upd (a21.2.2.1 1) (Int32.toNatClampNeg 5) 0)) 4 q4) 6 q3) 7 q5) 11 q2), a21.2.2.2).1 19), .int ((a21.2.1, (uF (uF (uF (uF (uF a21.2.2.1 1 (upd (a21.2.2.1 1) (Int32.toNatClampNeg 5) 0)) 4 q4) 6 q3) 7 q5) 11 q2), a21.2.2.2).1 20), .int ((a21.2.1, (uF (uF (uF (uF (uF a21.2.2.1 1 (upd (a21.2.2.1 1) (Int32.toNatClampNeg 5) 0)) 4 q4) 6 q3) 7 q5) 11 q2), a21.2.2.2).1 21), .int ((a21.2.1, (uF (uF (uF (uF (uF a21.2.2.1 1 (upd (a21.2.2.1 1) (Int32.toNatClampNeg 5) 0)) 4 q4) 6 q3) 7 q5) 11 q2), a21.2.2.2).1 22), .int ((a21.2.1, (uF (uF (uF (uF (uF a21.2.2.1 1 (upd (a21.2.2.1 1) (Int32.toNatClampNeg 5) 0)) 4 q4) 6 q3) 7 q5) 11 q2), a21.2.2.2).1 23), .int ((a21.2.1, (uF (uF (uF (uF (uF a21.2.2.1 1 (upd (a21.2.2.1 1) (Int32.toNatClampNeg 5) 0)) 4 q4) 6 q3) 7 q5) 11 q2), a21.2.2.2).1 24), .int ((a21.2.1, (uF (uF (uF (uF (uF a21.2.2.1 1 (upd (a21.2.2.1 1) (Int32.toNatClampNeg 5) 0)) 4 q4) 6 q3) 7 q5) 11 q2), a21.2.2.2).1 25), .int ((a21.2.1, (uF (uF (uF (uF (uF a21.2.2.1 1 (upd (a21.2.2.1 1) (Int32.toNatClampNeg 5) 0)) 4 q4) 6 q3) 7 q5) 11 q2), a21.2.2.2).1 26), .int ((a21.2.1, (uF (uF (uF (uF (uF a21.2.2.1 1 (upd (a21.2.2.1 1) (Int32.toNatClampNeg 5) 0)) 4 q4) 6 q3) 7 q5) 11 q2), a21.2.2.2).1 27), .ref (va 18), .ref (va 19), .ref (va 20), .ref (va 21), .ref (va 22), .ref (va 23), .ref (va 24), .ref (va 25), .ref (va 26), .ref (va 27), .ref (va 28), .ref (va 29), .ref (va 30), .int ((a21.2.1, (uF (uF (uF (uF (uF a21.2.2.1 1 (upd (a21.2.2.1 1) (Int32.toNatClampNeg 5) 0)) 4 q4) 6 q3) 7 q5) 11 q2), a21.2.2.2).1 41), .int ((a21.2.1, (uF (uF (uF (uF (uF a21.2.2.1 1 (upd (a21.2.2.1 1) (Int32.toNatClampNeg 5) 0)) 4 q4) 6 q3) 7 q5) 11 q2), a21.2.2.2).1 42), .int ((a21.2.1, (uF (uF (uF (uF (uF a21.2.2.1 1 (upd (a21.2.2.1 1) (Int32.toNatClampNeg 5) 0)) 4 q4) 6 q3) 7 q5) 11 q2), a21.2.2.2).1 43), .ref (va 31), .ref (va 32), .ref (va 33), .ref (va 34), .ref (va 35), .ref (va 36), .ref (va 37), .int ((a21.2.1, (uF (uF (uF (uF (uF a21.2.2.1 1 (upd (a21.2.2.1 1) (Int32.toNatClampNeg 5) 0)) 4 q4) 6 q3) 7 q5) 11 q2), a21.2.2.2).1 51), .int ((a21.2.1, (uF (uF (uF (uF (uF a21.2.2.1 1 (upd (a21.2.2.1 1) (Int32.toNatClampNeg 5) 0)) 4 q4) 6 q3) 7 q5) 11 q2), a21.2.2.2).1 52)])), ((va 1), hcI k 8 ((a21.2.1, (uF (uF (uF (uF (uF a21.2.2.1 1 (upd (a21.2.2.1 1) (Int32.toNatClampNeg 5) 0)) 4 q4) 6 q3) 7 q5) 11 q2), a21.2.2.2).2.1 1)), ((va 2), hcI k 4 ((a21.2.1, (uF (uF (uF (uF (uF a21.2.2.1 1 (upd (a21.2.2.1 1) (Int32.toNatClampNeg 5) 0)) 4 q4) 6 q3) 7 q5) 11 q2), a21.2.2.2).2.1 2)), ((va 3), hcI k 8 ((a21.2.1, (uF (uF (uF (uF (uF a21.2.2.1 1 (upd (a21.2.2.1 1) (Int32.toNatClampNeg 5) 0)) 4 q4) 6 q3) 7 q5) 11 q2), a21.2.2.2).2.1 3)), ((va 4), hcI k 8 ((a21.2.1, (uF (uF (uF (uF (uF a21.2.2.1 1 (upd (a21.2.2.1 1) (Int32.toNatClampNeg 5) 0)) 4 q4) 6 q3) 7 q5) 11 q2), a21.2.2.2).2.1 4)), ((va 6), hcI k 8 ((a21.2.1, (uF (uF (uF (uF (uF a21.2.2.1 1 (upd (a21.2.2.1 1) (Int32.toNatClampNeg 5) 0)) 4 q4) 6 q3) 7 q5) 11 q2), a21.2.2.2).2.1 6)), ((va 7), hcI k 8 ((a21.2.1, (uF (uF (uF (uF (uF a21.2.2.1 1 (upd (a21.2.2.1 1) (Int32.toNatClampNeg 5) 0)) 4 q4) 6 q3) 7 q5) 11 q2), a21.2.2.2).2.1 7)), ((va 8), hcI k 10 ((a21.2.1, (uF (uF (uF (uF (uF a21.2.2.1 1 (upd (a21.2.2.1 1) (Int32.toNatClampNeg 5) 0)) 4 q4) 6 q3) 7 q5) 11 q2), a21.2.2.2).2.1 8)), ((va 9), hcI k 10 ((a21.2.1, (uF (uF (uF (uF (uF a21.2.2.1 1 (upd (a21.2.2.1 1) (Int32.toNatClampNeg 5) 0)) 4 q4) 6 q3) 7 q5) 11 q2), a21.2.2.2).2.1 9)), ((va 10), hcI k 10 ((a21.2.1, (uF (uF (uF (uF (uF a21.2.2.1 1 (upd (a21.2.2.1 1) (Int32.toNatClampNeg 5) 0)) 4 q4) 6 q3) 7 q5) 11 q2), a21.2.2.2).2.1 10)), ((va 11), hcI k 4 ((a21.2.1, (uF (uF (uF (uF (uF a21.2.2.1 1 (upd (a21.2.2.1 1) (Int32.toNatClampNeg 5) 0)) 4 q4) 6 q3) 7 q5) 11 q2), a21.2.2.2).2.1 11)), ((va 12), hcI k 4 ((a21.2.1, (uF (uF (uF (uF (uF a21.2.2.1 1 (upd (a21.2.2.1 1) (Int32.toNatClampNeg 5) 0)) 4 q4) 6 q3) 7 q5) 11 q2), a21.2.2.2).2.1 12)), ((va 13), hcI k 4 ((a21.2.1, (uF (uF (uF (uF (uF a21.2.2.1 1 (upd (a21.2.2.1 1) (Int32.toNatClampNeg 5) 0)) 4 q4) 6 q3) 7 q5) 11 q2), a21.2.2.2).2.1 13)), ((va 14), hcI k 8 ((a21.2.1, (uF (uF (uF (uF (uF a21.2.2.1 1 (upd (a21.2.2.1 1) (Int32.toNatClampNeg 5) 0)) 4 q4) 6 q3) 7 q5) 11 q2), a21.2.2.2).2.1 14)), ((va 15), hcI k 8 ((a21.2.1, (uF (uF (uF (uF (uF a21.2.2.1 1 (upd (a21.2.2.1 1) (Int32.toNatClampNeg 5) 0)) 4 q4) 6 q3) 7 q5) 11 q2), a21.2.2.2).2.1 15)), ((va 16), hcI k 8 ((a21.2.1, (uF (uF (uF (uF (uF a21.2.2.1 1 (upd (a21.2.2.1 1) (Int32.toNatClampNeg 5) 0)) 4 q4) 6 q3) 7 q5) 11 q2), a21.2.2.2).2.1 16)), ((va 18), hcY k 400 ((a21.2.1, (uF (uF (uF (uF (uF a21.2.2.1 1 (upd (a21.2.2.1 1) (Int32.toNatClampNeg 5) 0)) 4 q4) 6 q3) 7 q5) 11 q2), a21.2.2.2).2.1 28)), ((va 19), hcI k 1800 ((a21.2.1, (uF (uF (uF (uF (uF a21.2.2.1 1 (upd (a21.2.2.1 1) (Int32.toNatClampNeg 5) 0)) 4 q4) 6 q3) 7 q5) 11 q2), a21.2.2.2).2.1 29)), ((va 20), hcI k 1800 ((a21.2.1, (uF (uF (uF (uF (uF a21.2.2.1 1 (upd (a21.2.2.1 1) (Int32.toNatClampNeg 5) 0)) 4 q4) 6 q3) 7 q5) 11 q2), a21.2.2.2).2.1 30)), ((va 21), hcI k 6 ((a21.2.1, (uF (uF (uF (uF (uF a21.2.2.1 1 (upd (a21.2.2.1 1) (Int32.toNatClampNeg 5) 0)) 4 q4) 6 q3) 7 q5) 11 q2), a21.2.2.2).2.1 31)), ((va 22), hcI k 72 ((a21.2.1, (uF (uF (uF (uF (uF a21.2.2.1 1 (upd (a21.2.2.1 1) (Int32.toNatClampNeg 5) 0)) 4 q4) 6 q3) 7 q5) 11 q2), a21.2.2.2).2.1 32)), ((va 23), hcI k 72 ((a21.2.1, (uF (uF (uF (uF (uF a21.2.2.1 1 (upd (a21.2.2.1 1) (Int32.toNatClampNeg 5) 0)) 4 q4) 6 q3) 7 q5) 11 q2), a21.2.2.2).2.1 33)), ((va 24), hcI k 72 ((a21.2.1, (uF (uF (uF (uF (uF a21.2.2.1 1 (upd (a21.2.2.1 1) (Int32.toNatClampNeg 5) 0)) 4 q4) 6 q3) 7 q5) 11 q2), a21.2.2.2).2.1 34)), ((va 25), hcI k 402 ((a21.2.1, (uF (uF (uF (uF (uF a21.2.2.1 1 (upd (a21.2.2.1 1) (Int32.toNatClampNeg 5) 0)) 4 q4) 6 q3) 7 q5) 11 q2), a21.2.2.2).2.1 35)), ((va 26), hcJ k 11 ((a21.2.1, (uF (uF (uF (uF (uF a21.2.2.1 1 (upd (a21.2.2.1 1) (Int32.toNatClampNeg 5) 0)) 4 q4) 6 q3) 7 q5) 11 q2), a21.2.2.2).2.2 36)), ((va 27), hcJ k 300 ((a21.2.1, (uF (uF (uF (uF (uF a21.2.2.1 1 (upd (a21.2.2.1 1) (Int32.toNatClampNeg 5) 0)) 4 q4) 6 q3) 7 q5) 11 q2), a21.2.2.2).2.2 37)), ((va 28), hcI k 8 ((a21.2.1, (uF (uF (uF (uF (uF a21.2.2.1 1 (upd (a21.2.2.1 1) (Int32.toNatClampNeg 5) 0)) 4 q4) 6 q3) 7 q5) 11 q2), a21.2.2.2).2.1 38)), ((va 29), hcI k 260 ((a21.2.1, (uF (uF (uF (uF (uF a21.2.2.1 1 (upd (a21.2.2.1 1) (Int32.toNatClampNeg 5) 0)) 4 q4) 6 q3) 7 q5) 11 q2), a21.2.2.2).2.1 39)), ((va 30), hcI k 1 ((a21.2.1, (uF (uF (uF (uF (uF a21.2.2.1 1 (upd (a21.2.2.1 1) (Int32.toNatClampNeg 5) 0)) 4 q4) 6 q3) 7 q5) 11 q2), a21.2.2.2).2.1 40)), ((va 31), hcZ k 256 ((a21.2.1, (uF (uF (uF (uF (uF a21.2.2.1 1 (upd (a21.2.2.1 1) (Int32.toNatClampNeg 5) 0)) 4 q4) 6 q3) 7 q5) 11 q2), a21.2.2.2).2.1 44)), ((va 32), hcI k 4 ((a21.2.1, (uF (uF (uF (uF (uF a21.2.2.1 1 (upd (a21.2.2.1 1) (Int32.toNatClampNeg 5) 0)) 4 q4) 6 q3) 7 q5) 11 q2), a21.2.2.2).2.1 45)), ((va 33), hcI k 4 ((a21.2.1, (uF (uF (uF (uF (uF a21.2.2.1 1 (upd (a21.2.2.1 1) (Int32.toNatClampNeg 5) 0)) 4 q4) 6 q3) 7 q5) 11 q2), a21.2.2.2).2.1 46)), ((va 34), hcI k 488 ((a21.2.1, (uF (uF (uF (uF (uF a21.2.2.1 1 (upd (a21.2.2.1 1) (Int32.toNatClampNeg 5) 0)) 4 q4) 6 q3) 7 q5) 11 q2), a21.2.2.2).2.1 47)), ((va 35), hcI k 56 ((a21.2.1, (uF (uF (uF (uF (uF a21.2.2.1 1 (upd (a21.2.2.1 1) (Int32.toNatClampNeg 5) 0)) 4 q4) 6 q3) 7 q5) 11 q2), a21.2.2.2).2.1 48)), ((va 36), hcI k 2000 ((a21.2.1, (uF (uF (uF (uF (uF a21.2.2.1 1 (upd (a21.2.2.1 1) (Int32.toNatClampNeg 5) 0)) 4 q4) 6 q3) 7 q5) 11 q2), a21.2.2.2).2.1 49)), ((va 37), hcZ k 4 ((a21.2.1, (uF (uF (uF (uF (uF a21.2.2.1 1 (upd (a21.2.2.1 1) (Int32.toNatClampNeg 5) 0)) 4 q4) 6 q3) 7 q5) 11 q2), a21.2.2.2).2.1 50))] : va_W)) (wp := fun b : (Nat → Int32) => ([((va 17), hcI k 8 (a21.2.2.1 17))] : va_W) ++ (([((va 5), hcI k 8 b)] : va_W))) h hx hb hml hown hts hG hA hP hD hS hl.1 [17, 5] [0, 1, 2, 3, 4, 6, 7, 8, 9, 10, 11, 12, 13, 14, 15, 16, 18, 19, 20, 21, 22, 23, 24, 25, 26, 27, 28, 29, 30, 31, 32, 33, 34, 35, 36, 37] (fun q hq9 => c_X9_copies l D k _  (va 17) (va 5) F 8 8 (a21.2.2.1 17) (a21.2.2.1 5)  hq9) gX9_hall_X9_copies rfl ⟨rfl, rfl, Nat.le_of_ble_eq_true rfl, Nat.le_of_ble_eq_true rfl⟩ (by decide +kernel) rfl rfl ⟨by decide +kernel, by decide +kernel, by decide +kernel⟩ ⟨rfl, rfl, Nat.le_of_ble_eq_true rfl, Nat.le_of_ble_eq_true rfl, Nat.le_of_ble_eq_true rfl⟩ dX9_hall_103 (fun q6 H locs h hP hD hS => ?_)
      obtain ⟨hP, hD⟩ := cvs (w' := moW k va (a21.2.1, (uF (uF (uF (uF (uF (uF a21.2.2.1 1 (upd (a21.2.2.1 1) (Int32.toNatClampNeg 5) 0)) 4 q4) 5 q6) 6 q3) 7 q5) 11 q2), a21.2.2.2)) hP hD [0, 1, 2, 3, 4, 37, 5, 6, 7, 8, 9, 10, 11, 12, 13, 14, 15, 36, 16, 17, 18, 19, 20, 21, 22, 23, 24, 25, 26, 27, 28, 29, 30, 31, 32, 33, 34, 35] (by decide +kernel) rfl
      refine lv_aload_n hx hb dX9_hall_106 rfl (lv_at hl 0 rfl) ?_
      refine fw_Vv (As := []) (rest := []) (n := 0) (wr := []) (wp := fun b : OB => moW k va b) h hx hb hml hown hts hG hA hP hD hS hl.1 (List.range (moW k va (a21.2.1, (uF (uF (uF (uF (uF (uF a21.2.2.1 1 (upd (a21.2.2.1 1) (Int32.toNatClampNeg 5) 0)) 4 q4) 5 q6) 6 q3) 7 q5) 11 q2), a21.2.2.2)).length) [] (fun q hq9 => c_X9_begins l D k _  va F  (a21.2.1, (uF (uF (uF (uF (uF (uF a21.2.2.1 1 (upd (a21.2.2.1 1) (Int32.toNatClampNeg 5) 0)) 4 q4) 5 q6) 6 q3) 7 q5) 11 q2), a21.2.2.2)  hq9) (ci := 7) (q0 := 0) rfl rfl gX9_hall_X9_begins rfl ⟨rfl, rfl, Nat.le_of_ble_eq_true rfl, Nat.le_of_ble_eq_true rfl⟩ (by decide +kernel) (al_C _) rfl (al_n _) ⟨rfl, rfl, Nat.le_of_ble_eq_true rfl, Nat.le_of_ble_eq_true rfl, Nat.le_of_ble_eq_true rfl⟩ dX9_hall_107 (fun q7 H locs h hP hD hS => ?_)
      obtain ⟨hP, hD⟩ := cv (w' := moW k va q7) hP hD rfl
      refine lv_aload_n hx hb dX9_hall_110 rfl (lv_at hl 0 rfl) ?_
      refine lv_iconst (v := 0) hx hb dX9_hall_111 (by decide) ?_
      refine va_put (D := D) (ci := 7) (v := .int 0) (C := RX9) (T := TX9) (N := 53) hx hb hts in9 tyX9 tyX9_ok nmX9 hown hG.1 hP hD hS 0 rfl rfl 41 (by decide) (hts (.fieldLink RX9 299 "ChairCaneModel" "pastMany" "I") (mem_b bq_wsX9_hall 0 13 rfl)) (fun _ h9 => h9) rfl (tyX9_ok 41 (by decide)) rfl rfl (Nat.le_of_ble_eq_true rfl) dX9_hall_112 (fun H locs hP hD hS => ?_)
      refine lv_aload_n hx hb dX9_hall_115 rfl (lv_at hl 0 rfl) ?_
      refine va_get (D := D) (ci := 7) (v := .ref (va 1)) (C := RX9) (T := TX9) (N := 53) hx hb hts in9 hown hG.1 hP 0 rfl rfl 1 (by decide) (hts (.fieldLink RX9 9 "ChairCaneModel" "scalar" "[I") (mem_b bq_wsX9_hall 0 1 rfl)) (fun _ h9 => h9) rfl dX9_hall_116 ?_
      refine lv_iconst (v := 3) hx hb dX9_hall_119 (by decide) ?_
      refine va_iald hx hb hG.1 hP 1 0 rfl rfl (by unfold vp_in; decide) dX9_hall_120 ?_
      exact fw_endI (rv := fun b : Int32 × OB => b.1) (wp := fun b : Int32 × OB => moW k va b.2) hx hb hr hlocks h rfl hP hD hS dX9_hall_121
    · have h := fw_f c1 h
      refine lv_aload_n hx hb dX9_hall_26 rfl (lv_at hl 0 rfl) ?_
      refine va_get (D := D) (ci := 7) (v := .ref (va 1)) (C := RX9) (T := TX9) (N := 53) hx hb hts in9 hown hG.1 hP 0 rfl rfl 1 (by decide) (hts (.fieldLink RX9 9 "ChairCaneModel" "scalar" "[I") (mem_b bq_wsX9_hall 0 1 rfl)) (fun _ h9 => h9) rfl dX9_hall_27 ?_
      refine lv_iload_n hx hb dX9_hall_30 rfl (lv_at hl 1 rfl) ?_
      refine lv_aload_n hx hb dX9_hall_31 rfl (lv_at hl 0 rfl) ?_
      refine va_get (D := D) (ci := 7) (v := .ref (va 12)) (C := RX9) (T := TX9) (N := 53) hx hb hts in9 hown hG.1 hP 0 rfl rfl 12 (by decide) (hts (.fieldLink RX9 43 "ChairCaneModel" "newScalar" "[I") (mem_b bq_wsX9_hall 0 2 rfl)) (fun _ h9 => h9) rfl dX9_hall_32 ?_
      refine lv_iload_n hx hb dX9_hall_35 rfl (lv_at hl 1 rfl) ?_
      obtain ⟨g8, h⟩ := fw_g h
      refine va_iald hx hb hG.1 hP 12 0 rfl rfl (ib_vp g8) dX9_hall_36 ?_
      obtain ⟨g9, h⟩ := fw_g h
      refine va_iast hx hb hG.1 hP hD hS 1 0 rfl rfl (ib_vp g9) dX9_hall_37 (fun H locs hP hD hS => ?_)
      refine lv_iinc (v := (a21.1 + 1)) (lv' := [(1, .int (a21.1 + 1)), (0, .ref (va 0))]) hx hb dX9_hall_38 hl (k := 1) rfl rfl (by decide) rfl (fun ls hl => ?_)
      refine lv_goto (tgt := 21) hx hb dX9_hall_41 (by decide) ?_
      exact hc21 _ _ h _ _ _ hP hD hS (lv_sub hl [1, 0] rfl)
  have C21 : ∀ (v1 : Int32) (mo : OB), lp (b_X9_hall_21 F) F (v1, mo) = some res → ∀ (H : Heap) (locs : List Loc) (ls : Array Slot), va_P D vwCl (moW k va mo) H → va_D A (moW k va mo) → va_S A s.heap H locs → lv_has ls 2 [(0, .ref (va 0)), (1, .int v1)] → W p l e (rmK 9 0 0) s m (List.toArray [.ref (va 0)]) below meth c H locs 0 0 (MQ below (va_Qi (fun r (_ : Unit) => r = res.1) (hcB D (fun _ : Unit => moW k va res.2) A) A) (List.toArray [.ref (va 0)]) s 0 0 A) (F0 m 21 ls []) := fun v1 mo => B21 (v1, mo)
  refine lv_aload_n hx hb dX9_hall_0 rfl (lv_at hl 0 rfl) ?_
  refine fw_VvE (As := []) (rest := []) (n := 0) (wr := []) (wp := fun b : OB => moW k va b) h (EY.ok ad tv) hE hx hb hml hown hts hG hA hP hD hS hl.1 (List.range (moW k va mo).length) [] (fun q hq9 => c_X9_readsAll l D k _ ad tv va F  mo  hq9) (va_recv hG.1 hP (ci := 7) (q0 := 0) rfl rfl) gX9_hall_X9_readsAll rfl ⟨rfl, rfl, Nat.le_of_ble_eq_true rfl, Nat.le_of_ble_eq_true rfl⟩ (by decide +kernel) (al_C _) rfl (al_n _) ⟨rfl, rfl, Nat.le_of_ble_eq_true rfl, Nat.le_of_ble_eq_true rfl, Nat.le_of_ble_eq_true rfl⟩ dX9_hall_1 (fun q10 H locs h hP hD hS => ?_)
  obtain ⟨hP, hD⟩ := cv (w' := moW k va q10) hP hD rfl
  refine lv_aload_n hx hb dX9_hall_4 rfl (lv_at hl 0 rfl) ?_
  refine va_get (D := D) (ci := 7) (v := .int (q10.1 20)) (C := RX9) (T := TX9) (N := 53) hx hb hts in9 hown hG.1 hP 0 rfl rfl 20 (by decide) (hts (.fieldLink RX9 161 "ChairCaneModel" "fault" "I") (mem_b bq_wsX9_hall 0 0 rfl)) (fun _ h9 => h9) rfl dX9_hall_5 ?_
  refine lv_if_le (tgt := 19) hx hb dX9_hall_8 (by decide) (fun c11 => ?_) (fun c11 => ?_)
  · have h := fw_t c11 h
    refine lv_iconst (v := 0) hx hb dX9_hall_19 (by decide) ?_
    refine lv_istore_n (lv' := [(1, .int 0), (0, .ref (va 0))]) hx hb dX9_hall_20 rfl hl (by decide) rfl (fun ls hl => ?_)
    exact C21 _ _ h _ _ _ hP hD hS (lv_sub hl [1, 0] rfl)
  · have h := fw_f c11 h
    refine lv_bipush (v := (-2)) hx hb dX9_hall_11 (by decide) ?_
    refine lv_aload_n hx hb dX9_hall_13 rfl (lv_at hl 0 rfl) ?_
    refine va_get (D := D) (ci := 7) (v := .int (q10.1 20)) (C := RX9) (T := TX9) (N := 53) hx hb hts in9 hown hG.1 hP 0 rfl rfl 20 (by decide) (hts (.fieldLink RX9 161 "ChairCaneModel" "fault" "I") (mem_b bq_wsX9_hall 0 0 rfl)) (fun _ h9 => h9) rfl dX9_hall_14 ?_
    refine lv_isub hx hb dX9_hall_17 ?_
    exact fw_endI (rv := fun b : Int32 × OB => b.1) (wp := fun b : Int32 × OB => moW k va b.2) hx hb hr hlocks h rfl hP hD hS dX9_hall_18
noncomputable def b_X9_ruleClause_104 (F : Nat)    (v3 : Int32) (mo : OB) : Option (OB) :=
  if ib v3 72 then (some (mo.1, (uF mo.2.1 34 (upd (mo.2.1 34) (Int32.toNatClampNeg v3) (mo.1 23))), mo.2.2)) else none
noncomputable def f_X9_ruleClause (F : Nat)  (x1 : Int32) (mo : OB) : Option (OB) :=
  Option.bind (f_X9_blanks F mo) (fun q2 => (Option.bind (f_X9_stood F 13 q2) (fun q3 => (if q3 = 0 then (Option.bind (f_X9_fails F 0 (q2.1 19) q2) (fun q13 => (some q13))) else (if x1 = 12 then (Option.bind (f_X9_fails F 4 (q2.1 19) q2) (fun q12 => (some q12))) else (if ib ((12 * (q2.1 21)) + x1) 72 then (Option.bind (f_X9_sum F ((uF q2.1 19 ((q2.1 19) + 3)), (uF q2.2.1 32 (upd (q2.2.1 32) (Int32.toNatClampNeg ((12 * (q2.1 21)) + x1)) (q2.1 23))), q2.2.2)) (fun q7 => (if (q7.1 20) = 0 then (Option.bind (f_X9_takes F 14 (q7.1, (uF q7.2.1 33 (upd (q7.2.1 33) (Int32.toNatClampNeg ((12 * (q2.1 21)) + x1)) (q7.1 23))), q7.2.2)) (fun q9 => (if q9.1 = 0 then (b_X9_ruleClause_104 F ((12 * (q2.1 21)) + x1) q9.2) else (Option.bind (f_X9_test F q9.2) (fun q11 => (b_X9_ruleClause_104 F ((12 * (q2.1 21)) + x1) q11)))))) else (b_X9_ruleClause_104 F ((12 * (q2.1 21)) + x1) (q7.1, (uF q7.2.1 33 (upd (q7.2.1 33) (Int32.toNatClampNeg ((12 * (q2.1 21)) + x1)) (q7.1 23))), q7.2.2))))) else none))))))
set_option maxHeartbeats 4000000 in
set_option maxRecDepth 100000 in
theorem c_X9_ruleClause (l : Launch) (D : va_G) (k : Nat → ClassId) (sz : Nat) (ad tv : Nat → Nat) (va : Nat → Nat) (F : Nat)  (x1 : Int32) (mo : OB)  {res : OB} (h : f_X9_ruleClause F x1 mo = some res) : CtVE l yX9_ruleClause wsX9_ruleClause (rmK 12 0 0) [.ref (va 0), .int x1] D k (EY ad tv) sz (moW k va mo) (fun (_ : Unit) => True) (fun _ : Unit => moW k va res) 0 0 := by
  refine CtVE.mk (cc := cX9_ruleClause) (maxL := 4) (ret := none) (by decide) rfl (Nat.le_of_ble_eq_true rfl) ?_
  intro p e s m below meth c A ls hE E hP hD hS hl
  obtain ⟨hx, hb, hr, hml, hown, hts, hlocks, hin, hG, hA⟩ := E
  have hown : s.vm.findClass RX9 = some m.cls := hown
  have in9 : ∀ w ∈ u_ws RX9 TX9 53, w ∈ wsX9_ruleClause := fun _ h => List.mem_cons_of_mem _ (List.mem_append_right _ h)
  have hl : lv_has ls 4 [(0, .ref (va 0)), (1, .int x1)] := hl
  have B104 : ∀ (v3 : Int32) (mo : OB) (H : Heap) (locs : List Loc) (ls : Array Slot), b_X9_ruleClause_104 F v3 mo = some res → va_P D vwCl (moW k va mo) H → va_D A (moW k va mo) → va_S A s.heap H locs → lv_has ls 4 [(0, .ref (va 0)), (3, .int v3)] → W p l e (rmK 12 0 0) s m (List.toArray [.ref (va 0), .int x1]) below meth c H locs 0 0 (MQ below (va_Qv (fun (_ : Unit) => True) (hcB D (fun _ : Unit => moW k va res) A) A) (List.toArray [.ref (va 0), .int x1]) s 0 0 A) (F0 m 104 ls []) := by
    intro v3 mo H locs ls h hP hD hS hl
    refine lv_aload_n hx hb dX9_ruleClause_104 rfl (lv_at hl 0 rfl) ?_
    refine va_get (D := D) (ci := 7) (v := .ref (va 24)) (C := RX9) (T := TX9) (N := 53) hx hb hts in9 hown hG.1 hP 0 rfl rfl 34 (by decide) (hts (.fieldLink RX9 84 "ChairCaneModel" "endAt" "[I") (mem_b bq_wsX9_ruleClause 0 6 rfl)) (fun _ h9 => h9) rfl dX9_ruleClause_105 ?_
    refine lv_iload_n hx hb dX9_ruleClause_108 rfl (lv_at hl 1 rfl) ?_
    refine lv_aload_n hx hb dX9_ruleClause_109 rfl (lv_at hl 0 rfl) ?_
    refine va_get (D := D) (ci := 7) (v := .int (mo.1 23)) (C := RX9) (T := TX9) (N := 53) hx hb hts in9 hown hG.1 hP 0 rfl rfl 23 (by decide) (hts (.fieldLink RX9 194 "ChairCaneModel" "entries" "I") (mem_b bq_wsX9_ruleClause 0 3 rfl)) (fun _ h9 => h9) rfl dX9_ruleClause_110 ?_
    obtain ⟨g1, h⟩ := fw_g h
    refine va_iast hx hb hG.1 hP hD hS 24 0 rfl rfl (ib_vp g1) dX9_ruleClause_113 (fun H locs hP hD hS => ?_)
    exact fw_endV (wp := fun b : OB => moW k va b) hx hb hr hlocks h hP hD hS dX9_ruleClause_114
  refine lv_aload_n hx hb dX9_ruleClause_0 rfl (lv_at hl 0 rfl) ?_
  refine fw_Vv (As := []) (rest := []) (n := 0) (wr := []) (wp := fun b : OB => moW k va b) h hx hb hml hown hts hG hA hP hD hS hl.1 (List.range (moW k va mo).length) [] (fun q hq9 => c_X9_blanks l D k _  va F  mo  hq9) (ci := 7) (q0 := 0) rfl rfl gX9_ruleClause_X9_blanks rfl ⟨rfl, rfl, Nat.le_of_ble_eq_true rfl, Nat.le_of_ble_eq_true rfl⟩ (by decide +kernel) (al_C _) rfl (al_n _) ⟨rfl, rfl, Nat.le_of_ble_eq_true rfl, Nat.le_of_ble_eq_true rfl, Nat.le_of_ble_eq_true rfl⟩ dX9_ruleClause_1 (fun q2 H locs h hP hD hS => ?_)
  obtain ⟨hP, hD⟩ := cv (w' := moW k va q2) hP hD rfl
  refine lv_aload_n hx hb dX9_ruleClause_4 rfl (lv_at hl 0 rfl) ?_
  refine va_get (D := D) (ci := 7) (v := .int (q2.1 19)) (C := RX9) (T := TX9) (N := 53) hx hb hts in9 hown hG.1 hP 0 rfl rfl 19 (by decide) (hts (.fieldLink RX9 164 "ChairCaneModel" "p" "I") (mem_b bq_wsX9_ruleClause 0 0 rfl)) (fun _ h9 => h9) rfl dX9_ruleClause_5 ?_
  refine lv_istore_n (lv' := [(2, .int (q2.1 19)), (0, .ref (va 0)), (1, .int x1)]) hx hb dX9_ruleClause_8 rfl hl (by decide) rfl (fun ls hl => ?_)
  refine lv_aload_n hx hb dX9_ruleClause_9 rfl (lv_at hl 1 rfl) ?_
  refine hc_ldcw hx hb hown hE.2.2.2.2.2.2.2.2.2.2.2.2.2.2.2.2.1 dX9_ruleClause_10 ?_
  refine fw_ViE (As := [.ref (ad 13)]) (rest := []) (n := 1) (wr := []) (rv := fun b : Int32 => b) (wp := fun b : Int32 => moW k va q2) h (EY.ok ad tv) hE hx hb hml hown hts hG hA hP hD hS hl.1 (List.range (moW k va q2).length) [] (fun q hq9 => c_X9_stood l D k _ ad tv va F 13 q2  hq9) (va_recv hG.1 hP (ci := 7) (q0 := 0) rfl rfl) gX9_ruleClause_X9_stood rfl ⟨rfl, rfl, Nat.le_of_ble_eq_true rfl, Nat.le_of_ble_eq_true rfl⟩ (by decide +kernel) (al_C _) rfl (al_n _) ⟨rfl, rfl, Nat.le_of_ble_eq_true rfl, Nat.le_of_ble_eq_true rfl, Nat.le_of_ble_eq_true rfl⟩ dX9_ruleClause_13 (fun q3 H locs h hP hD hS => ?_)
  obtain ⟨hP, hD⟩ := cv (w' := moW k va q2) hP hD rfl
  refine hc_is (z := q3) rfl ?_
  refine lv_if_ne (tgt := 26) hx hb dX9_ruleClause_16 (by decide) (fun c4 => ?_) (fun c4 => ?_)
  · have h := fw_f c4 h
    refine lv_iload_n hx hb dX9_ruleClause_26 rfl (lv_at hl 2 rfl) ?_
    refine lv_bipush (v := 12) hx hb dX9_ruleClause_27 (by decide) ?_
    refine lv_icmp_ne (tgt := 39) hx hb dX9_ruleClause_29 (by decide) (fun c5 => ?_) (fun c5 => ?_)
    · have h := fw_f c5 h
      refine lv_aload_n hx hb dX9_ruleClause_39 rfl (lv_at hl 1 rfl) ?_
      refine lv_dup hx hb dX9_ruleClause_40 rfl ?_
      refine va_get (D := D) (ci := 7) (v := .int (q2.1 19)) (C := RX9) (T := TX9) (N := 53) hx hb hts in9 hown hG.1 hP 0 rfl rfl 19 (by decide) (hts (.fieldLink RX9 164 "ChairCaneModel" "p" "I") (mem_b bq_wsX9_ruleClause 0 0 rfl)) (fun _ h9 => h9) rfl dX9_ruleClause_41 ?_
      refine lv_iconst (v := 3) hx hb dX9_ruleClause_44 (by decide) ?_
      refine lv_iadd hx hb dX9_ruleClause_45 ?_
      refine va_put (D := D) (ci := 7) (v := .int ((q2.1 19) + 3)) (C := RX9) (T := TX9) (N := 53) hx hb hts in9 tyX9 tyX9_ok nmX9 hown hG.1 hP hD hS 0 rfl rfl 19 (by decide) (hts (.fieldLink RX9 164 "ChairCaneModel" "p" "I") (mem_b bq_wsX9_ruleClause 0 0 rfl)) (fun _ h9 => h9) rfl (tyX9_ok 19 (by decide)) rfl rfl (Nat.le_of_ble_eq_true rfl) dX9_ruleClause_46 (fun H locs hP hD hS => ?_)
      refine lv_bipush (v := 12) hx hb dX9_ruleClause_49 (by decide) ?_
      refine lv_aload_n hx hb dX9_ruleClause_51 rfl (lv_at hl 1 rfl) ?_
      refine va_get (D := D) (ci := 7) (v := .int (q2.1 21)) (C := RX9) (T := TX9) (N := 53) hx hb hts in9 hown hG.1 hP 0 rfl rfl 21 (by decide) (hts (.fieldLink RX9 191 "ChairCaneModel" "slot" "I") (mem_b bq_wsX9_ruleClause 0 1 rfl)) (fun _ h9 => h9) rfl dX9_ruleClause_52 ?_
      refine lv_imul hx hb dX9_ruleClause_55 ?_
      refine lv_iload_n hx hb dX9_ruleClause_56 rfl (lv_at hl 2 rfl) ?_
      refine lv_iadd hx hb dX9_ruleClause_57 ?_
      refine lv_istore_n (lv' := [(3, .int ((12 * (q2.1 21)) + x1)), (2, .int (q2.1 19)), (0, .ref (va 0)), (1, .int x1)]) hx hb dX9_ruleClause_58 rfl hl (by decide) rfl (fun ls hl => ?_)
      refine lv_aload_n hx hb dX9_ruleClause_59 rfl (lv_at hl 2 rfl) ?_
      refine va_get (D := D) (ci := 7) (v := .ref (va 22)) (C := RX9) (T := TX9) (N := 53) hx hb hts in9 hown hG.1 hP 0 rfl rfl 32 (by decide) (hts (.fieldLink RX9 78 "ChairCaneModel" "sumAt" "[I") (mem_b bq_wsX9_ruleClause 0 2 rfl)) (fun _ h9 => h9) rfl dX9_ruleClause_60 ?_
      refine lv_iload_n hx hb dX9_ruleClause_63 rfl (lv_at hl 0 rfl) ?_
      refine lv_aload_n hx hb dX9_ruleClause_64 rfl (lv_at hl 2 rfl) ?_
      refine va_get (D := D) (ci := 7) (v := .int (q2.1 23)) (C := RX9) (T := TX9) (N := 53) hx hb hts in9 hown hG.1 hP 0 rfl rfl 23 (by decide) (hts (.fieldLink RX9 194 "ChairCaneModel" "entries" "I") (mem_b bq_wsX9_ruleClause 0 3 rfl)) (fun _ h9 => h9) rfl dX9_ruleClause_65 ?_
      obtain ⟨g6, h⟩ := fw_g h
      refine va_iast hx hb hG.1 hP hD hS 22 0 rfl rfl (ib_vp g6) dX9_ruleClause_68 (fun H locs hP hD hS => ?_)
      refine lv_aload_n hx hb dX9_ruleClause_69 rfl (lv_at hl 2 rfl) ?_
      obtain ⟨hP, hD⟩ := cv (w' := moW k va ((uF q2.1 19 ((q2.1 19) + 3)), (uF q2.2.1 32 (upd (q2.2.1 32) (Int32.toNatClampNeg ((12 * (q2.1 21)) + x1)) (q2.1 23))), q2.2.2)) hP hD rfl
      refine fw_VvE (As := []) (rest := []) (n := 0) (wr := []) (wp := fun b : OB => moW k va b) h (EY.ok ad tv) hE hx hb hml hown hts hG hA hP hD hS hl.1 (List.range (moW k va ((uF q2.1 19 ((q2.1 19) + 3)), (uF q2.2.1 32 (upd (q2.2.1 32) (Int32.toNatClampNeg ((12 * (q2.1 21)) + x1)) (q2.1 23))), q2.2.2)).length) [] (fun q hq9 => c_X9_sum l D k _ ad tv va F  ((uF q2.1 19 ((q2.1 19) + 3)), (uF q2.2.1 32 (upd (q2.2.1 32) (Int32.toNatClampNeg ((12 * (q2.1 21)) + x1)) (q2.1 23))), q2.2.2)  hq9) (va_recv hG.1 hP (ci := 7) (q0 := 0) rfl rfl) gX9_ruleClause_X9_sum rfl ⟨rfl, rfl, Nat.le_of_ble_eq_true rfl, Nat.le_of_ble_eq_true rfl⟩ (by decide +kernel) (al_C _) rfl (al_n _) ⟨rfl, rfl, Nat.le_of_ble_eq_true rfl, Nat.le_of_ble_eq_true rfl, Nat.le_of_ble_eq_true rfl⟩ dX9_ruleClause_70 (fun q7 H locs h hP hD hS => ?_)
      obtain ⟨hP, hD⟩ := cv (w' := moW k va q7) hP hD rfl
      refine lv_aload_n hx hb dX9_ruleClause_73 rfl (lv_at hl 2 rfl) ?_
      refine va_get (D := D) (ci := 7) (v := .ref (va 23)) (C := RX9) (T := TX9) (N := 53) hx hb hts in9 hown hG.1 hP 0 rfl rfl 33 (by decide) (hts (.fieldLink RX9 81 "ChairCaneModel" "testAt" "[I") (mem_b bq_wsX9_ruleClause 0 4 rfl)) (fun _ h9 => h9) rfl dX9_ruleClause_74 ?_
      refine lv_iload_n hx hb dX9_ruleClause_77 rfl (lv_at hl 0 rfl) ?_
      refine lv_aload_n hx hb dX9_ruleClause_78 rfl (lv_at hl 2 rfl) ?_
      refine va_get (D := D) (ci := 7) (v := .int (q7.1 23)) (C := RX9) (T := TX9) (N := 53) hx hb hts in9 hown hG.1 hP 0 rfl rfl 23 (by decide) (hts (.fieldLink RX9 194 "ChairCaneModel" "entries" "I") (mem_b bq_wsX9_ruleClause 0 3 rfl)) (fun _ h9 => h9) rfl dX9_ruleClause_79 ?_
      refine va_iast hx hb hG.1 hP hD hS 23 0 rfl rfl (ib_vp g6) dX9_ruleClause_82 (fun H locs hP hD hS => ?_)
      refine lv_aload_n hx hb dX9_ruleClause_83 rfl (lv_at hl 2 rfl) ?_
      refine va_get (D := D) (ci := 7) (v := .int (q7.1 20)) (C := RX9) (T := TX9) (N := 53) hx hb hts in9 hown hG.1 hP 0 rfl rfl 20 (by decide) (hts (.fieldLink RX9 161 "ChairCaneModel" "fault" "I") (mem_b bq_wsX9_ruleClause 0 5 rfl)) (fun _ h9 => h9) rfl dX9_ruleClause_84 ?_
      refine lv_if_ne (tgt := 104) hx hb dX9_ruleClause_87 (by decide) (fun c8 => ?_) (fun c8 => ?_)
      · have h := fw_f c8 h
        exact B104 _ _ _ _ _ h hP hD hS (lv_sub hl [2, 0] rfl)
      · have h := fw_t c8 h
        refine lv_aload_n hx hb dX9_ruleClause_90 rfl (lv_at hl 2 rfl) ?_
        refine hc_ldcw hx hb hown hE.2.2.2.2.2.2.2.2.2.2.2.2.2.2.2.2.2.1 dX9_ruleClause_91 ?_
        obtain ⟨hP, hD⟩ := cv (w' := moW k va (q7.1, (uF q7.2.1 33 (upd (q7.2.1 33) (Int32.toNatClampNeg ((12 * (q2.1 21)) + x1)) (q7.1 23))), q7.2.2)) hP hD rfl
        refine fw_ViE (As := [.ref (ad 14)]) (rest := []) (n := 1) (wr := []) (rv := fun b : Int32 × OB => b.1) (wp := fun b : Int32 × OB => moW k va b.2) h (EY.ok ad tv) hE hx hb hml hown hts hG hA hP hD hS hl.1 (List.range (moW k va (q7.1, (uF q7.2.1 33 (upd (q7.2.1 33) (Int32.toNatClampNeg ((12 * (q2.1 21)) + x1)) (q7.1 23))), q7.2.2)).length) [] (fun q hq9 => c_X9_takes l D k _ ad tv va F 14 (q7.1, (uF q7.2.1 33 (upd (q7.2.1 33) (Int32.toNatClampNeg ((12 * (q2.1 21)) + x1)) (q7.1 23))), q7.2.2)  hq9) (va_recv hG.1 hP (ci := 7) (q0 := 0) rfl rfl) gX9_ruleClause_X9_takes rfl ⟨rfl, rfl, Nat.le_of_ble_eq_true rfl, Nat.le_of_ble_eq_true rfl⟩ (by decide +kernel) (al_C _) rfl (al_n _) ⟨rfl, rfl, Nat.le_of_ble_eq_true rfl, Nat.le_of_ble_eq_true rfl, Nat.le_of_ble_eq_true rfl⟩ dX9_ruleClause_94 (fun q9 H locs h hP hD hS => ?_)
        obtain ⟨hP, hD⟩ := cv (w' := moW k va q9.2) hP hD rfl
        refine hc_is (z := q9.1) rfl ?_
        refine lv_if_eq (tgt := 104) hx hb dX9_ruleClause_97 (by decide) (fun c10 => ?_) (fun c10 => ?_)
        · have h := fw_t c10 h
          exact B104 _ _ _ _ _ h hP hD hS (lv_sub hl [2, 0] rfl)
        · have h := fw_f c10 h
          refine lv_aload_n hx hb dX9_ruleClause_100 rfl (lv_at hl 2 rfl) ?_
          refine fw_VvE (As := []) (rest := []) (n := 0) (wr := []) (wp := fun b : OB => moW k va b) h (EY.ok ad tv) hE hx hb hml hown hts hG hA hP hD hS hl.1 (List.range (moW k va q9.2).length) [] (fun q hq9 => c_X9_test l D k _ ad tv va F  q9.2  hq9) (va_recv hG.1 hP (ci := 7) (q0 := 0) rfl rfl) gX9_ruleClause_X9_test rfl ⟨rfl, rfl, Nat.le_of_ble_eq_true rfl, Nat.le_of_ble_eq_true rfl⟩ (by decide +kernel) (al_C _) rfl (al_n _) ⟨rfl, rfl, Nat.le_of_ble_eq_true rfl, Nat.le_of_ble_eq_true rfl, Nat.le_of_ble_eq_true rfl⟩ dX9_ruleClause_101 (fun q11 H locs h hP hD hS => ?_)
          obtain ⟨hP, hD⟩ := cv (w' := moW k va q11) hP hD rfl
          exact B104 _ _ _ _ _ h hP hD hS (lv_sub hl [2, 0] rfl)
    · have h := fw_t c5 h
      refine lv_aload_n hx hb dX9_ruleClause_32 rfl (lv_at hl 1 rfl) ?_
      refine lv_iconst (v := 4) hx hb dX9_ruleClause_33 (by decide) ?_
      refine lv_iload_n hx hb dX9_ruleClause_34 rfl (lv_at hl 0 rfl) ?_
      refine fw_Vv (As := [.int 4, .int (q2.1 19)]) (rest := []) (n := 2) (wr := []) (wp := fun b : OB => moW k va b) h hx hb hml hown hts hG hA hP hD hS hl.1 (List.range (moW k va q2).length) [] (fun q hq9 => c_X9_fails l D k _  va F 4 (q2.1 19) q2  hq9) (ci := 7) (q0 := 0) rfl rfl gX9_ruleClause_X9_fails rfl ⟨rfl, rfl, Nat.le_of_ble_eq_true rfl, Nat.le_of_ble_eq_true rfl⟩ (by decide +kernel) (al_C _) rfl (al_n _) ⟨rfl, rfl, Nat.le_of_ble_eq_true rfl, Nat.le_of_ble_eq_true rfl, Nat.le_of_ble_eq_true rfl⟩ dX9_ruleClause_35 (fun q12 H locs h hP hD hS => ?_)
      obtain ⟨hP, hD⟩ := cv (w' := moW k va q12) hP hD rfl
      exact fw_endV (wp := fun b : OB => moW k va b) hx hb hr hlocks h hP hD hS dX9_ruleClause_38
  · have h := fw_t c4 h
    refine lv_aload_n hx hb dX9_ruleClause_19 rfl (lv_at hl 1 rfl) ?_
    refine lv_iconst (v := 0) hx hb dX9_ruleClause_20 (by decide) ?_
    refine lv_iload_n hx hb dX9_ruleClause_21 rfl (lv_at hl 0 rfl) ?_
    refine fw_Vv (As := [.int 0, .int (q2.1 19)]) (rest := []) (n := 2) (wr := []) (wp := fun b : OB => moW k va b) h hx hb hml hown hts hG hA hP hD hS hl.1 (List.range (moW k va q2).length) [] (fun q hq9 => c_X9_fails l D k _  va F 0 (q2.1 19) q2  hq9) (ci := 7) (q0 := 0) rfl rfl gX9_ruleClause_X9_fails rfl ⟨rfl, rfl, Nat.le_of_ble_eq_true rfl, Nat.le_of_ble_eq_true rfl⟩ (by decide +kernel) (al_C _) rfl (al_n _) ⟨rfl, rfl, Nat.le_of_ble_eq_true rfl, Nat.le_of_ble_eq_true rfl, Nat.le_of_ble_eq_true rfl⟩ dX9_ruleClause_22 (fun q13 H locs h hP hD hS => ?_)
    obtain ⟨hP, hD⟩ := cv (w' := moW k va q13) hP hD rfl
    exact fw_endV (wp := fun b : OB => moW k va b) hx hb hr hlocks h hP hD hS dX9_ruleClause_25
noncomputable def b_X9_rule_106 (F : Nat)    (y0 : Int32) (mo : OB) : Option (Int32 × OB) :=
  some (y0, mo)
noncomputable def b_X9_rule_79 (F : Nat)    (y0 : Int32) (y1 : Int32) (mo : OB) : Option (Int32 × OB) :=
  if (mo.1 20) ≤ 0 then (b_X9_rule_106 F ((y1 + y0) - 1) ((uF mo.1 22 (y1 + y0)), mo.2.1, mo.2.2)) else (b_X9_rule_106 F ((-2) - (mo.1 20)) ((uF mo.1 22 (y1 + y0)), mo.2.1, mo.2.2))
noncomputable def b_X9_rule_27 (F : Nat)    (k27 : (Int32 × Int32 × OB) → Option (Int32 × OB)) (a27 : (Int32 × Int32 × OB)) : Option (Int32 × OB) :=
  if a27.2.1 = 0 then (if ib (a27.2.2.1 21) 6 then (if (a27.2.2.1 20) = 0 then (b_X9_rule_79 F 1 (a27.2.2.1 22) ((uF a27.2.2.1 18 0), (uF a27.2.2.2.1 31 (upd (a27.2.2.2.1 31) (Int32.toNatClampNeg (a27.2.2.1 21)) a27.1)), a27.2.2.2.2)) else (b_X9_rule_79 F 0 (a27.2.2.1 22) ((uF a27.2.2.1 18 0), (uF a27.2.2.2.1 31 (upd (a27.2.2.2.1 31) (Int32.toNatClampNeg (a27.2.2.1 21)) a27.1)), a27.2.2.2.2))) else none) else (Option.bind (f_X9_ruleClause F a27.1 a27.2.2) (fun q5 => (Option.bind (f_X9_goesOn F q5) (fun q6 => (k27 ((a27.1 + 1), q6.1, q6.2))))))
noncomputable def f_X9_rule (F : Nat)   (mo : OB) : Option (Int32 × OB) :=
  if (mo.1 22) = 6 then (some ((-1), mo)) else (Option.bind (f_X9_starts F ((uF mo.1 21 (mo.1 22)), mo.2.1, mo.2.2)) (fun q8 => (lp (b_X9_rule_27 F) F (0, 1, q8))))
set_option maxHeartbeats 4000000 in
set_option maxRecDepth 100000 in
theorem c_X9_rule (l : Launch) (D : va_G) (k : Nat → ClassId) (sz : Nat) (ad tv : Nat → Nat) (va : Nat → Nat) (F : Nat)   (mo : OB)  {res : Int32 × OB} (h : f_X9_rule F mo = some res) : CtIE l yX9_rule wsX9_rule (rmK 13 0 0) [.ref (va 0)] D k (EY ad tv) sz (moW k va mo) (fun r (_ : Unit) => r = res.1) (fun _ : Unit => moW k va res.2) 0 0 := by
  refine CtIE.mk (cc := cX9_rule) (maxL := 3) (ret := (some .int)) (by decide) rfl (Nat.le_of_ble_eq_true rfl) ?_
  intro p e s m below meth c A ls hE E hP hD hS hl
  obtain ⟨hx, hb, hr, hml, hown, hts, hlocks, hin, hG, hA⟩ := E
  have hown : s.vm.findClass RX9 = some m.cls := hown
  have in9 : ∀ w ∈ u_ws RX9 TX9 53, w ∈ wsX9_rule := fun _ h => List.mem_cons_of_mem _ (List.mem_append_right _ h)
  have hl : lv_has ls 3 [(0, .ref (va 0))] := hl
  have B106 : ∀ (y0 : Int32) (mo : OB) (H : Heap) (locs : List Loc) (ls : Array Slot), b_X9_rule_106 F y0 mo = some res → va_P D vwCl (moW k va mo) H → va_D A (moW k va mo) → va_S A s.heap H locs → lv_has ls 3 [] → W p l e (rmK 13 0 0) s m (List.toArray [.ref (va 0)]) below meth c H locs 0 0 (MQ below (va_Qi (fun r (_ : Unit) => r = res.1) (hcB D (fun _ : Unit => moW k va res.2) A) A) (List.toArray [.ref (va 0)]) s 0 0 A) (F0 m 106 ls [.int y0]) := by
    intro y0 mo H locs ls h hP hD hS hl
    exact fw_endI (rv := fun b : Int32 × OB => b.1) (wp := fun b : Int32 × OB => moW k va b.2) hx hb hr hlocks h rfl hP hD hS dX9_rule_106
  have B79 : ∀ (y0 : Int32) (y1 : Int32) (mo : OB) (H : Heap) (locs : List Loc) (ls : Array Slot), b_X9_rule_79 F y0 y1 mo = some res → va_P D vwCl (moW k va mo) H → va_D A (moW k va mo) → va_S A s.heap H locs → lv_has ls 3 [(0, .ref (va 0))] → W p l e (rmK 13 0 0) s m (List.toArray [.ref (va 0)]) below meth c H locs 0 0 (MQ below (va_Qi (fun r (_ : Unit) => r = res.1) (hcB D (fun _ : Unit => moW k va res.2) A) A) (List.toArray [.ref (va 0)]) s 0 0 A) (F0 m 79 ls [.int y0, .int y1, .ref (va 0)]) := by
    intro y0 y1 mo H locs ls h hP hD hS hl
    refine lv_iadd hx hb dX9_rule_79 ?_
    refine va_put (D := D) (ci := 7) (v := .int (y1 + y0)) (C := RX9) (T := TX9) (N := 53) hx hb hts in9 tyX9 tyX9_ok nmX9 hown hG.1 hP hD hS 0 rfl rfl 22 (by decide) (hts (.fieldLink RX9 312 "ChairCaneModel" "rules" "I") (mem_b bq_wsX9_rule 0 0 rfl)) (fun _ h9 => h9) rfl (tyX9_ok 22 (by decide)) rfl rfl (Nat.le_of_ble_eq_true rfl) dX9_rule_80 (fun H locs hP hD hS => ?_)
    refine lv_aload_n hx hb dX9_rule_83 rfl (lv_at hl 0 rfl) ?_
    refine va_get (D := D) (ci := 7) (v := .int (mo.1 20)) (C := RX9) (T := TX9) (N := 53) hx hb hts in9 hown hG.1 hP 0 rfl rfl 20 (by decide) (hts (.fieldLink RX9 161 "ChairCaneModel" "fault" "I") (mem_b bq_wsX9_rule 0 4 rfl)) (fun _ h9 => h9) rfl dX9_rule_84 ?_
    refine lv_if_le (tgt := 100) hx hb dX9_rule_87 (by decide) (fun c1 => ?_) (fun c1 => ?_)
    · have h := fw_t c1 h
      refine lv_aload_n hx hb dX9_rule_100 rfl (lv_at hl 0 rfl) ?_
      refine va_get (D := D) (ci := 7) (v := .int (y1 + y0)) (C := RX9) (T := TX9) (N := 53) hx hb hts in9 hown hG.1 hP 0 rfl rfl 22 (by decide) (hts (.fieldLink RX9 312 "ChairCaneModel" "rules" "I") (mem_b bq_wsX9_rule 0 0 rfl)) (fun _ h9 => h9) rfl dX9_rule_101 ?_
      refine lv_iconst (v := 1) hx hb dX9_rule_104 (by decide) ?_
      refine lv_isub hx hb dX9_rule_105 ?_
      exact B106 _ _ _ _ _ h hP hD hS (lv_sub hl [] rfl)
    · have h := fw_f c1 h
      refine lv_bipush (v := (-2)) hx hb dX9_rule_90 (by decide) ?_
      refine lv_aload_n hx hb dX9_rule_92 rfl (lv_at hl 0 rfl) ?_
      refine va_get (D := D) (ci := 7) (v := .int (mo.1 20)) (C := RX9) (T := TX9) (N := 53) hx hb hts in9 hown hG.1 hP 0 rfl rfl 20 (by decide) (hts (.fieldLink RX9 161 "ChairCaneModel" "fault" "I") (mem_b bq_wsX9_rule 0 4 rfl)) (fun _ h9 => h9) rfl dX9_rule_93 ?_
      refine lv_isub hx hb dX9_rule_96 ?_
      refine lv_goto (tgt := 106) hx hb dX9_rule_97 (by decide) ?_
      exact B106 _ _ _ _ _ h hP hD hS (lv_sub hl [] rfl)
  have B27 : ∀ a27 : (Int32 × Int32 × OB), lp (b_X9_rule_27 F) F a27 = some res → ∀ (H : Heap) (locs : List Loc) (ls : Array Slot), va_P D vwCl (moW k va a27.2.2) H → va_D A (moW k va a27.2.2) → va_S A s.heap H locs → lv_has ls 3 [(0, .ref (va 0)), (1, .int a27.1), (2, .int a27.2.1)] → W p l e (rmK 13 0 0) s m (List.toArray [.ref (va 0)]) below meth c H locs 0 0 (MQ below (va_Qi (fun r (_ : Unit) => r = res.1) (hcB D (fun _ : Unit => moW k va res.2) A) A) (List.toArray [.ref (va 0)]) s 0 0 A) (F0 m 27 ls []) := by
    refine lp_W ?_ F
    intro k27 hk27 a27 h H locs ls hP hD hS hl
    have hc27 : ∀ (v1 : Int32) (v2 : Int32) (mo : OB), k27 (v1, v2, mo) = some res → ∀ (H : Heap) (locs : List Loc) (ls : Array Slot), va_P D vwCl (moW k va mo) H → va_D A (moW k va mo) → va_S A s.heap H locs → lv_has ls 3 [(0, .ref (va 0)), (1, .int v1), (2, .int v2)] → W p l e (rmK 13 0 0) s m (List.toArray [.ref (va 0)]) below meth c H locs 0 0 (MQ below (va_Qi (fun r (_ : Unit) => r = res.1) (hcB D (fun _ : Unit => moW k va res.2) A) A) (List.toArray [.ref (va 0)]) s 0 0 A) (F0 m 27 ls []) := fun v1 v2 mo => hk27 (v1, v2, mo)
    refine lv_iload_n hx hb dX9_rule_27 rfl (lv_at hl 2 rfl) ?_
    refine lv_if_eq (tgt := 47) hx hb dX9_rule_28 (by decide) (fun c2 => ?_) (fun c2 => ?_)
    · have h := fw_t c2 h
      refine lv_aload_n hx hb dX9_rule_47 rfl (lv_at hl 0 rfl) ?_
      refine lv_iconst (v := 0) hx hb dX9_rule_48 (by decide) ?_
      refine va_put (D := D) (ci := 7) (v := .int 0) (C := RX9) (T := TX9) (N := 53) hx hb hts in9 tyX9 tyX9_ok nmX9 hown hG.1 hP hD hS 0 rfl rfl 18 (by decide) (hts (.fieldLink RX9 135 "ChairCaneModel" "taped" "I") (mem_b bq_wsX9_rule 0 2 rfl)) (fun _ h9 => h9) rfl (tyX9_ok 18 (by decide)) rfl rfl (Nat.le_of_ble_eq_true rfl) dX9_rule_49 (fun H locs hP hD hS => ?_)
      refine lv_aload_n hx hb dX9_rule_52 rfl (lv_at hl 0 rfl) ?_
      refine va_get (D := D) (ci := 7) (v := .ref (va 21)) (C := RX9) (T := TX9) (N := 53) hx hb hts in9 hown hG.1 hP 0 rfl rfl 31 (by decide) (hts (.fieldLink RX9 75 "ChairCaneModel" "clauses" "[I") (mem_b bq_wsX9_rule 0 3 rfl)) (fun _ h9 => h9) rfl dX9_rule_53 ?_
      refine lv_aload_n hx hb dX9_rule_56 rfl (lv_at hl 0 rfl) ?_
      refine va_get (D := D) (ci := 7) (v := .int (a27.2.2.1 21)) (C := RX9) (T := TX9) (N := 53) hx hb hts in9 hown hG.1 hP 0 rfl rfl 21 (by decide) (hts (.fieldLink RX9 191 "ChairCaneModel" "slot" "I") (mem_b bq_wsX9_rule 0 1 rfl)) (fun _ h9 => h9) rfl dX9_rule_57 ?_
      refine lv_iload_n hx hb dX9_rule_60 rfl (lv_at hl 1 rfl) ?_
      obtain ⟨g3, h⟩ := fw_g h
      refine va_iast hx hb hG.1 hP hD hS 21 0 rfl rfl (ib_vp g3) dX9_rule_61 (fun H locs hP hD hS => ?_)
      refine lv_aload_n hx hb dX9_rule_62 rfl (lv_at hl 0 rfl) ?_
      refine lv_dup hx hb dX9_rule_63 rfl ?_
      refine va_get (D := D) (ci := 7) (v := .int (a27.2.2.1 22)) (C := RX9) (T := TX9) (N := 53) hx hb hts in9 hown hG.1 hP 0 rfl rfl 22 (by decide) (hts (.fieldLink RX9 312 "ChairCaneModel" "rules" "I") (mem_b bq_wsX9_rule 0 0 rfl)) (fun _ h9 => h9) rfl dX9_rule_64 ?_
      refine lv_aload_n hx hb dX9_rule_67 rfl (lv_at hl 0 rfl) ?_
      refine va_get (D := D) (ci := 7) (v := .int (a27.2.2.1 20)) (C := RX9) (T := TX9) (N := 53) hx hb hts in9 hown hG.1 hP 0 rfl rfl 20 (by decide) (hts (.fieldLink RX9 161 "ChairCaneModel" "fault" "I") (mem_b bq_wsX9_rule 0 4 rfl)) (fun _ h9 => h9) rfl dX9_rule_68 ?_
      refine lv_if_ne (tgt := 78) hx hb dX9_rule_71 (by decide) (fun c4 => ?_) (fun c4 => ?_)
      · have h := fw_f c4 h
        refine lv_iconst (v := 0) hx hb dX9_rule_78 (by decide) ?_
        exact B79 _ _ _ _ _ _ h hP hD hS (lv_sub hl [0] rfl)
      · have h := fw_t c4 h
        refine lv_iconst (v := 1) hx hb dX9_rule_74 (by decide) ?_
        refine lv_goto (tgt := 79) hx hb dX9_rule_75 (by decide) ?_
        exact B79 _ _ _ _ _ _ h hP hD hS (lv_sub hl [0] rfl)
    · have h := fw_f c2 h
      refine lv_aload_n hx hb dX9_rule_31 rfl (lv_at hl 0 rfl) ?_
      refine lv_iload_n hx hb dX9_rule_32 rfl (lv_at hl 1 rfl) ?_
      refine fw_VvE (As := [.int a27.1]) (rest := []) (n := 1) (wr := []) (wp := fun b : OB => moW k va b) h (EY.ok ad tv) hE hx hb hml hown hts hG hA hP hD hS hl.1 (List.range (moW k va a27.2.2).length) [] (fun q hq9 => c_X9_ruleClause l D k _ ad tv va F a27.1 a27.2.2  hq9) (va_recv hG.1 hP (ci := 7) (q0 := 0) rfl rfl) gX9_rule_X9_ruleClause rfl ⟨rfl, rfl, Nat.le_of_ble_eq_true rfl, Nat.le_of_ble_eq_true rfl⟩ (by decide +kernel) (al_C _) rfl (al_n _) ⟨rfl, rfl, Nat.le_of_ble_eq_true rfl, Nat.le_of_ble_eq_true rfl, Nat.le_of_ble_eq_true rfl⟩ dX9_rule_33 (fun q5 H locs h hP hD hS => ?_)
      obtain ⟨hP, hD⟩ := cv (w' := moW k va q5) hP hD rfl
      refine lv_iinc (v := (a27.1 + 1)) (lv' := [(1, .int (a27.1 + 1)), (0, .ref (va 0)), (2, .int a27.2.1)]) hx hb dX9_rule_36 hl (k := 1) rfl rfl (by decide) rfl (fun ls hl => ?_)
      refine lv_aload_n hx hb dX9_rule_39 rfl (lv_at hl 1 rfl) ?_
      refine fw_Vi (As := []) (rest := []) (n := 0) (wr := []) (rv := fun b : Int32 × OB => b.1) (wp := fun b : Int32 × OB => moW k va b.2) h hx hb hml hown hts hG hA hP hD hS hl.1 (List.range (moW k va q5).length) [] (fun q hq9 => c_X9_goesOn l D k _  va F  q5  hq9) (ci := 7) (q0 := 0) rfl rfl gX9_rule_X9_goesOn rfl ⟨rfl, rfl, Nat.le_of_ble_eq_true rfl, Nat.le_of_ble_eq_true rfl⟩ (by decide +kernel) (al_C _) rfl (al_n _) ⟨rfl, rfl, Nat.le_of_ble_eq_true rfl, Nat.le_of_ble_eq_true rfl, Nat.le_of_ble_eq_true rfl⟩ dX9_rule_40 (fun q6 H locs h hP hD hS => ?_)
      obtain ⟨hP, hD⟩ := cv (w' := moW k va q6.2) hP hD rfl
      refine hc_is (z := q6.1) rfl ?_
      refine lv_istore_n (lv' := [(2, .int q6.1), (1, .int (a27.1 + 1)), (0, .ref (va 0))]) hx hb dX9_rule_43 rfl hl (by decide) rfl (fun ls hl => ?_)
      refine lv_goto (tgt := 27) hx hb dX9_rule_44 (by decide) ?_
      exact hc27 _ _ _ h _ _ _ hP hD hS (lv_sub hl [2, 1, 0] rfl)
  have C27 : ∀ (v1 : Int32) (v2 : Int32) (mo : OB), lp (b_X9_rule_27 F) F (v1, v2, mo) = some res → ∀ (H : Heap) (locs : List Loc) (ls : Array Slot), va_P D vwCl (moW k va mo) H → va_D A (moW k va mo) → va_S A s.heap H locs → lv_has ls 3 [(0, .ref (va 0)), (1, .int v1), (2, .int v2)] → W p l e (rmK 13 0 0) s m (List.toArray [.ref (va 0)]) below meth c H locs 0 0 (MQ below (va_Qi (fun r (_ : Unit) => r = res.1) (hcB D (fun _ : Unit => moW k va res.2) A) A) (List.toArray [.ref (va 0)]) s 0 0 A) (F0 m 27 ls []) := fun v1 v2 mo => B27 (v1, v2, mo)
  refine lv_aload_n hx hb dX9_rule_0 rfl (lv_at hl 0 rfl) ?_
  refine va_get (D := D) (ci := 7) (v := .int (mo.1 22)) (C := RX9) (T := TX9) (N := 53) hx hb hts in9 hown hG.1 hP 0 rfl rfl 22 (by decide) (hts (.fieldLink RX9 312 "ChairCaneModel" "rules" "I") (mem_b bq_wsX9_rule 0 0 rfl)) (fun _ h9 => h9) rfl dX9_rule_1 ?_
  refine lv_bipush (v := 6) hx hb dX9_rule_4 (by decide) ?_
  refine lv_icmp_ne (tgt := 11) hx hb dX9_rule_6 (by decide) (fun c7 => ?_) (fun c7 => ?_)
  · have h := fw_f c7 h
    refine lv_aload_n hx hb dX9_rule_11 rfl (lv_at hl 0 rfl) ?_
    refine lv_aload_n hx hb dX9_rule_12 rfl (lv_at hl 0 rfl) ?_
    refine va_get (D := D) (ci := 7) (v := .int (mo.1 22)) (C := RX9) (T := TX9) (N := 53) hx hb hts in9 hown hG.1 hP 0 rfl rfl 22 (by decide) (hts (.fieldLink RX9 312 "ChairCaneModel" "rules" "I") (mem_b bq_wsX9_rule 0 0 rfl)) (fun _ h9 => h9) rfl dX9_rule_13 ?_
    refine va_put (D := D) (ci := 7) (v := .int (mo.1 22)) (C := RX9) (T := TX9) (N := 53) hx hb hts in9 tyX9 tyX9_ok nmX9 hown hG.1 hP hD hS 0 rfl rfl 21 (by decide) (hts (.fieldLink RX9 191 "ChairCaneModel" "slot" "I") (mem_b bq_wsX9_rule 0 1 rfl)) (fun _ h9 => h9) rfl (tyX9_ok 21 (by decide)) rfl rfl (Nat.le_of_ble_eq_true rfl) dX9_rule_16 (fun H locs hP hD hS => ?_)
    refine lv_aload_n hx hb dX9_rule_19 rfl (lv_at hl 0 rfl) ?_
    obtain ⟨hP, hD⟩ := cv (w' := moW k va ((uF mo.1 21 (mo.1 22)), mo.2.1, mo.2.2)) hP hD rfl
    refine fw_Vv (As := []) (rest := []) (n := 0) (wr := []) (wp := fun b : OB => moW k va b) h hx hb hml hown hts hG hA hP hD hS hl.1 (List.range (moW k va ((uF mo.1 21 (mo.1 22)), mo.2.1, mo.2.2)).length) [] (fun q hq9 => c_X9_starts l D k _  va F  ((uF mo.1 21 (mo.1 22)), mo.2.1, mo.2.2)  hq9) (ci := 7) (q0 := 0) rfl rfl gX9_rule_X9_starts rfl ⟨rfl, rfl, Nat.le_of_ble_eq_true rfl, Nat.le_of_ble_eq_true rfl⟩ (by decide +kernel) (al_C _) rfl (al_n _) ⟨rfl, rfl, Nat.le_of_ble_eq_true rfl, Nat.le_of_ble_eq_true rfl, Nat.le_of_ble_eq_true rfl⟩ dX9_rule_20 (fun q8 H locs h hP hD hS => ?_)
    obtain ⟨hP, hD⟩ := cv (w' := moW k va q8) hP hD rfl
    refine lv_iconst (v := 0) hx hb dX9_rule_23 (by decide) ?_
    refine lv_istore_n (lv' := [(1, .int 0), (0, .ref (va 0))]) hx hb dX9_rule_24 rfl hl (by decide) rfl (fun ls hl => ?_)
    refine lv_iconst (v := 1) hx hb dX9_rule_25 (by decide) ?_
    refine lv_istore_n (lv' := [(2, .int 1), (1, .int 0), (0, .ref (va 0))]) hx hb dX9_rule_26 rfl hl (by decide) rfl (fun ls hl => ?_)
    exact C27 _ _ _ h _ _ _ hP hD hS (lv_sub hl [2, 1, 0] rfl)
  · have h := fw_t c7 h
    refine lv_iconst (v := (-1)) hx hb dX9_rule_9 (by decide) ?_
    exact fw_endI (rv := fun b : Int32 × OB => b.1) (wp := fun b : Int32 × OB => moW k va b.2) hx hb hr hlocks h rfl hP hD hS dX9_rule_10
noncomputable def f_X9_force (F : Nat)  (x1 : Int32) (mo : OB) : Option (Int32 × OB) :=
  Option.bind (f_X9_in F (Int32.toInt64 x1) (-1) (Int32.toInt64 ((mo.1 22) - 1))) (fun q1 => (if q1 = 0 then (some ((-2), mo)) else (some (((mo.2.1 1) (Int32.toNatClampNeg 7)), (mo.1, (uF mo.2.1 1 (upd (mo.2.1 1) (Int32.toNatClampNeg 7) x1)), mo.2.2)))))
set_option maxHeartbeats 4000000 in
set_option maxRecDepth 100000 in
theorem c_X9_force (l : Launch) (D : va_G) (k : Nat → ClassId) (sz : Nat)  (va : Nat → Nat) (F : Nat)  (x1 : Int32) (mo : OB)  {res : Int32 × OB} (h : f_X9_force F x1 mo = some res) : CtI l yX9_force wsX9_force (rmK 2 0 0) [.ref (va 0), .int x1] D k sz (moW k va mo) (fun r (_ : Unit) => r = res.1) (fun _ : Unit => moW k va res.2) 0 0 := by
  refine CtI.mk (cc := cX9_force) (maxL := 3) (ret := (some .int)) (by decide) rfl (Nat.le_of_ble_eq_true rfl) ?_
  intro p e s m below meth c A ls E hP hD hS hl
  obtain ⟨hx, hb, hr, hml, hown, hts, hlocks, hin, hG, hA⟩ := E
  have hown : s.vm.findClass RX9 = some m.cls := hown
  have in9 : ∀ w ∈ u_ws RX9 TX9 53, w ∈ wsX9_force := fun _ h => List.mem_cons_of_mem _ (List.mem_append_right _ h)
  have hl : lv_has ls 3 [(0, .ref (va 0)), (1, .int x1)] := hl
  refine lv_iload_n hx hb dX9_force_0 rfl (lv_at hl 1 rfl) ?_
  refine lv_i2l hx hb dX9_force_1 rfl ?_
  refine lv_ldc2 (v := (-1)) hx hb hown (hts (.constantLong RX9 318 (-1)) (mem_b bq_wsX9_force 0 0 rfl)) dX9_force_2 ?_
  refine lv_aload_n hx hb dX9_force_5 rfl (lv_at hl 0 rfl) ?_
  refine va_get (D := D) (ci := 7) (v := .int (mo.1 22)) (C := RX9) (T := TX9) (N := 53) hx hb hts in9 hown hG.1 hP 0 rfl rfl 22 (by decide) (hts (.fieldLink RX9 312 "ChairCaneModel" "rules" "I") (mem_b bq_wsX9_force 0 1 rfl)) (fun _ h9 => h9) rfl dX9_force_6 ?_
  refine lv_iconst (v := 1) hx hb dX9_force_9 (by decide) ?_
  refine lv_isub hx hb dX9_force_10 ?_
  refine lv_i2l hx hb dX9_force_11 rfl ?_
  refine fw_Si (As := [.long (Int32.toInt64 x1), .long (-1), .long (Int32.toInt64 ((mo.1 22) - 1))]) (rest := []) (n := 3) (wr := moW k va mo) (rv := fun b : Int32 => b) (wp := fun b : Int32 => []) h hx hb hml hown hts hG hA hP hD hS hl.1 [] (List.range (moW k va mo).length) (fun q hq9 => c_X9_in l D k _   F (Int32.toInt64 x1) (-1) (Int32.toInt64 ((mo.1 22) - 1))   hq9) gX9_force_X9_in rfl ⟨rfl, rfl, Nat.le_of_ble_eq_true rfl, Nat.le_of_ble_eq_true rfl⟩ (by decide +kernel) rfl (al_C _) (al_m _) ⟨rfl, rfl, Nat.le_of_ble_eq_true rfl, Nat.le_of_ble_eq_true rfl, Nat.le_of_ble_eq_true rfl⟩ dX9_force_12 (fun q1 H locs h hP hD hS => ?_)
  obtain ⟨hP, hD⟩ := cv (w' := (moW k va mo) ++ []) hP hD rfl
  rw [List.append_nil] at hP hD
  refine hc_is (z := q1) rfl ?_
  refine lv_if_ne (tgt := 21) hx hb dX9_force_15 (by decide) (fun c2 => ?_) (fun c2 => ?_)
  · have h := fw_f c2 h
    refine lv_aload_n hx hb dX9_force_21 rfl (lv_at hl 0 rfl) ?_
    refine va_get (D := D) (ci := 7) (v := .ref (va 1)) (C := RX9) (T := TX9) (N := 53) hx hb hts in9 hown hG.1 hP 0 rfl rfl 1 (by decide) (hts (.fieldLink RX9 9 "ChairCaneModel" "scalar" "[I") (mem_b bq_wsX9_force 0 2 rfl)) (fun _ h9 => h9) rfl dX9_force_22 ?_
    refine lv_bipush (v := 7) hx hb dX9_force_25 (by decide) ?_
    refine va_iald hx hb hG.1 hP 1 0 rfl rfl (by unfold vp_in; decide) dX9_force_27 ?_
    refine lv_istore_n (lv' := [(2, .int ((mo.2.1 1) (Int32.toNatClampNeg 7))), (0, .ref (va 0)), (1, .int x1)]) hx hb dX9_force_28 rfl hl (by decide) rfl (fun ls hl => ?_)
    refine lv_aload_n hx hb dX9_force_29 rfl (lv_at hl 1 rfl) ?_
    refine va_get (D := D) (ci := 7) (v := .ref (va 1)) (C := RX9) (T := TX9) (N := 53) hx hb hts in9 hown hG.1 hP 0 rfl rfl 1 (by decide) (hts (.fieldLink RX9 9 "ChairCaneModel" "scalar" "[I") (mem_b bq_wsX9_force 0 2 rfl)) (fun _ h9 => h9) rfl dX9_force_30 ?_
    refine lv_bipush (v := 7) hx hb dX9_force_33 (by decide) ?_
    refine lv_iload_n hx hb dX9_force_35 rfl (lv_at hl 2 rfl) ?_
    refine va_iast hx hb hG.1 hP hD hS 1 0 rfl rfl (by unfold vp_in; decide) dX9_force_36 (fun H locs hP hD hS => ?_)
    refine lv_iload_n hx hb dX9_force_37 rfl (lv_at hl 0 rfl) ?_
    exact fw_endI (rv := fun b : Int32 × OB => b.1) (wp := fun b : Int32 × OB => moW k va b.2) hx hb hr hlocks h rfl hP hD hS dX9_force_38
  · have h := fw_t c2 h
    refine lv_bipush (v := (-2)) hx hb dX9_force_18 (by decide) ?_
    exact fw_endI (rv := fun b : Int32 × OB => b.1) (wp := fun b : Int32 × OB => moW k va b.2) hx hb hr hlocks h rfl hP hD hS dX9_force_20
noncomputable def b_X9_answer_147 (F : Nat)   (k6 : (Int32 × Int32 × Int32 × Int32 × OB) → Option (Int64 × OB)) (v1 : Int32) (v3 : Int32) (v4 : Int32) (v5 : Int32) (mo : OB) : Option (Int64 × OB) :=
  k6 (v1, v3, v4, (v5 + 1), mo)
noncomputable def b_X9_answer_77 (F : Nat)   (k6 : (Int32 × Int32 × Int32 × Int32 × OB) → Option (Int64 × OB)) (v1 : Int32) (v3 : Int32) (v4 : Int32) (v5 : Int32) (y0 : Int64) (y1 : Int32) (mo : OB) : Option (Int64 × OB) :=
  if ib y1 300 then (b_X9_answer_147 F k6 v1 v3 (v4 + 1) v5 (mo.1, mo.2.1, (uF mo.2.2 37 (vp_updL (mo.2.2 37) (Int32.toNatClampNeg y1) y0)))) else none
noncomputable def b_X9_answer_53 (F : Nat)   (k6 : (Int32 × Int32 × Int32 × Int32 × OB) → Option (Int64 × OB)) (v1 : Int32) (v3 : Int32) (v4 : Int32) (v5 : Int32) (v6 : Int32) (v7 : Int32) (mo : OB) : Option (Int64 × OB) :=
  if v6 = 0 then (b_X9_answer_77 F k6 v1 v3 v4 v5 (Int32.toInt64 v7) v4 mo) else (if ib v7 11 then (b_X9_answer_77 F k6 v1 v3 v4 v5 ((mo.2.2 36) (Int32.toNatClampNeg v7)) v4 mo) else none)
noncomputable def b_X9_answer_6 (F : Nat)    (k6 : (Int32 × Int32 × Int32 × Int32 × OB) → Option (Int64 × OB)) (a6 : (Int32 × Int32 × Int32 × Int32 × OB)) : Option (Int64 × OB) :=
  if a6.2.1 ≤ a6.2.2.2.1 then (some (((a6.2.2.2.2.2.2 37) (Int32.toNatClampNeg 0)), a6.2.2.2.2)) else (if ib ((300 * a6.1) + a6.2.2.2.1) 1800 then (if ((a6.2.2.2.2.2.1 29) (Int32.toNatClampNeg ((300 * a6.1) + a6.2.2.2.1))) = 0 then (b_X9_answer_53 F k6 a6.1 a6.2.1 a6.2.2.1 a6.2.2.2.1 ((a6.2.2.2.2.2.1 29) (Int32.toNatClampNeg ((300 * a6.1) + a6.2.2.2.1))) ((a6.2.2.2.2.2.1 30) (Int32.toNatClampNeg ((300 * a6.1) + a6.2.2.2.1))) a6.2.2.2.2) else (if ((a6.2.2.2.2.2.1 29) (Int32.toNatClampNeg ((300 * a6.1) + a6.2.2.2.1))) = 1 then (b_X9_answer_53 F k6 a6.1 a6.2.1 a6.2.2.1 a6.2.2.2.1 ((a6.2.2.2.2.2.1 29) (Int32.toNatClampNeg ((300 * a6.1) + a6.2.2.2.1))) ((a6.2.2.2.2.2.1 30) (Int32.toNatClampNeg ((300 * a6.1) + a6.2.2.2.1))) a6.2.2.2.2) else (if ((a6.2.2.2.2.2.1 29) (Int32.toNatClampNeg ((300 * a6.1) + a6.2.2.2.1))) = 9 then (if ib (a6.2.2.1 - 1) 300 then (b_X9_answer_147 F k6 a6.1 a6.2.1 a6.2.2.1 a6.2.2.2.1 (a6.2.2.2.2.1, a6.2.2.2.2.2.1, (uF a6.2.2.2.2.2.2 37 (vp_updL (a6.2.2.2.2.2.2 37) (Int32.toNatClampNeg (a6.2.2.1 - 1)) (1 - ((a6.2.2.2.2.2.2 37) (Int32.toNatClampNeg (a6.2.2.1 - 1)))))))) else none) else (if ib ((a6.2.2.1 + (-1)) - 1) 300 then (if ib (a6.2.2.1 + (-1)) 300 then (Option.bind (f_X9_both F ((a6.2.2.2.2.2.1 29) (Int32.toNatClampNeg ((300 * a6.1) + a6.2.2.2.1))) ((a6.2.2.2.2.2.2 37) (Int32.toNatClampNeg ((a6.2.2.1 + (-1)) - 1))) ((a6.2.2.2.2.2.2 37) (Int32.toNatClampNeg (a6.2.2.1 + (-1))))) (fun q11 => (b_X9_answer_147 F k6 a6.1 a6.2.1 (a6.2.2.1 + (-1)) a6.2.2.2.1 (a6.2.2.2.2.1, a6.2.2.2.2.2.1, (uF a6.2.2.2.2.2.2 37 (vp_updL (a6.2.2.2.2.2.2 37) (Int32.toNatClampNeg ((a6.2.2.1 + (-1)) - 1)) q11)))))) else none) else none)))) else none)
noncomputable def f_X9_answer (F : Nat)  (x1 : Int32) (x2 : Int32) (x3 : Int32) (mo : OB) : Option (Int64 × OB) :=
  lp (b_X9_answer_6 F) F (x1, x3, 0, x2, mo)
set_option maxHeartbeats 4000000 in
set_option maxRecDepth 100000 in
theorem c_X9_answer (l : Launch) (D : va_G) (k : Nat → ClassId) (sz : Nat)  (va : Nat → Nat) (F : Nat)  (x1 : Int32) (x2 : Int32) (x3 : Int32) (mo : OB)  {res : Int64 × OB} (h : f_X9_answer F x1 x2 x3 mo = some res) : CtL l yX9_answer wsX9_answer (rmK 3 0 0) [.ref (va 0), .int x1, .int x2, .int x3] D k sz (moW k va mo) (fun r (_ : Unit) => r = res.1) (fun _ : Unit => moW k va res.2) 0 0 := by
  refine CtL.mk (cc := cX9_answer) (maxL := 8) (ret := (some .long)) (by decide) rfl (Nat.le_of_ble_eq_true rfl) ?_
  intro p e s m below meth c A ls E hP hD hS hl
  obtain ⟨hx, hb, hr, hml, hown, hts, hlocks, hin, hG, hA⟩ := E
  have hown : s.vm.findClass RX9 = some m.cls := hown
  have in9 : ∀ w ∈ u_ws RX9 TX9 53, w ∈ wsX9_answer := fun _ h => List.mem_cons_of_mem _ (List.mem_append_right _ h)
  have hl : lv_has ls 8 [(0, .ref (va 0)), (1, .int x1), (2, .int x2), (3, .int x3)] := hl
  have B6 : ∀ a6 : (Int32 × Int32 × Int32 × Int32 × OB), lp (b_X9_answer_6 F) F a6 = some res → ∀ (H : Heap) (locs : List Loc) (ls : Array Slot), va_P D vwCl (moW k va a6.2.2.2.2) H → va_D A (moW k va a6.2.2.2.2) → va_S A s.heap H locs → lv_has ls 8 [(0, .ref (va 0)), (1, .int a6.1), (3, .int a6.2.1), (4, .int a6.2.2.1), (5, .int a6.2.2.2.1)] → W p l e (rmK 3 0 0) s m (List.toArray [.ref (va 0), .int x1, .int x2, .int x3]) below meth c H locs 0 0 (MQ below (va_Ql (fun r (_ : Unit) => r = res.1) (hcB D (fun _ : Unit => moW k va res.2) A) A) (List.toArray [.ref (va 0), .int x1, .int x2, .int x3]) s 0 0 A) (F0 m 6 ls []) := by
    refine lp_W ?_ F
    intro k6 hk6 a6 h H locs ls hP hD hS hl
    have hc6 : ∀ (v1 : Int32) (v3 : Int32) (v4 : Int32) (v5 : Int32) (mo : OB), k6 (v1, v3, v4, v5, mo) = some res → ∀ (H : Heap) (locs : List Loc) (ls : Array Slot), va_P D vwCl (moW k va mo) H → va_D A (moW k va mo) → va_S A s.heap H locs → lv_has ls 8 [(0, .ref (va 0)), (1, .int v1), (3, .int v3), (4, .int v4), (5, .int v5)] → W p l e (rmK 3 0 0) s m (List.toArray [.ref (va 0), .int x1, .int x2, .int x3]) below meth c H locs 0 0 (MQ below (va_Ql (fun r (_ : Unit) => r = res.1) (hcB D (fun _ : Unit => moW k va res.2) A) A) (List.toArray [.ref (va 0), .int x1, .int x2, .int x3]) s 0 0 A) (F0 m 6 ls []) := fun v1 v3 v4 v5 mo => hk6 (v1, v3, v4, v5, mo)
    have B147 : ∀ (v1 : Int32) (v3 : Int32) (v4 : Int32) (v5 : Int32) (mo : OB) (H : Heap) (locs : List Loc) (ls : Array Slot), b_X9_answer_147 F k6 v1 v3 v4 v5 mo = some res → va_P D vwCl (moW k va mo) H → va_D A (moW k va mo) → va_S A s.heap H locs → lv_has ls 8 [(0, .ref (va 0)), (1, .int v1), (3, .int v3), (4, .int v4), (5, .int v5)] → W p l e (rmK 3 0 0) s m (List.toArray [.ref (va 0), .int x1, .int x2, .int x3]) below meth c H locs 0 0 (MQ below (va_Ql (fun r (_ : Unit) => r = res.1) (hcB D (fun _ : Unit => moW k va res.2) A) A) (List.toArray [.ref (va 0), .int x1, .int x2, .int x3]) s 0 0 A) (F0 m 147 ls []) := by
      intro v1 v3 v4 v5 mo H locs ls h hP hD hS hl
      refine lv_iinc (v := (v5 + 1)) (lv' := [(5, .int (v5 + 1)), (0, .ref (va 0)), (1, .int v1), (3, .int v3), (4, .int v4)]) hx hb dX9_answer_147 hl (k := 4) rfl rfl (by decide) rfl (fun ls hl => ?_)
      refine lv_goto (tgt := 6) hx hb dX9_answer_150 (by decide) ?_
      exact hc6 _ _ _ _ _ h _ _ _ hP hD hS (lv_sub hl [1, 2, 3, 4, 0] rfl)
    have B77 : ∀ (v1 : Int32) (v3 : Int32) (v4 : Int32) (v5 : Int32) (y0 : Int64) (y1 : Int32) (mo : OB) (H : Heap) (locs : List Loc) (ls : Array Slot), b_X9_answer_77 F k6 v1 v3 v4 v5 y0 y1 mo = some res → va_P D vwCl (moW k va mo) H → va_D A (moW k va mo) → va_S A s.heap H locs → lv_has ls 8 [(0, .ref (va 0)), (1, .int v1), (3, .int v3), (4, .int v4), (5, .int v5)] → W p l e (rmK 3 0 0) s m (List.toArray [.ref (va 0), .int x1, .int x2, .int x3]) below meth c H locs 0 0 (MQ below (va_Ql (fun r (_ : Unit) => r = res.1) (hcB D (fun _ : Unit => moW k va res.2) A) A) (List.toArray [.ref (va 0), .int x1, .int x2, .int x3]) s 0 0 A) (F0 m 77 ls [.long y0, .int y1, .ref (va 27)]) := by
      intro v1 v3 v4 v5 y0 y1 mo H locs ls h hP hD hS hl
      obtain ⟨g1, h⟩ := fw_g h
      refine va_last hx hb hG.1 hP hD hS 27 3 rfl rfl (ib_vp g1) dX9_answer_77 (fun H locs hP hD hS => ?_)
      refine lv_iinc (v := (v4 + 1)) (lv' := [(4, .int (v4 + 1)), (0, .ref (va 0)), (1, .int v1), (3, .int v3), (5, .int v5)]) hx hb dX9_answer_78 hl (k := 3) rfl rfl (by decide) rfl (fun ls hl => ?_)
      refine lv_goto (tgt := 147) hx hb dX9_answer_81 (by decide) ?_
      exact B147 _ _ _ _ _ _ _ _ h hP hD hS (lv_sub hl [1, 2, 3, 0, 4] rfl)
    have B53 : ∀ (v1 : Int32) (v3 : Int32) (v4 : Int32) (v5 : Int32) (v6 : Int32) (v7 : Int32) (mo : OB) (H : Heap) (locs : List Loc) (ls : Array Slot), b_X9_answer_53 F k6 v1 v3 v4 v5 v6 v7 mo = some res → va_P D vwCl (moW k va mo) H → va_D A (moW k va mo) → va_S A s.heap H locs → lv_has ls 8 [(0, .ref (va 0)), (1, .int v1), (3, .int v3), (4, .int v4), (5, .int v5), (6, .int v6), (7, .int v7)] → W p l e (rmK 3 0 0) s m (List.toArray [.ref (va 0), .int x1, .int x2, .int x3]) below meth c H locs 0 0 (MQ below (va_Ql (fun r (_ : Unit) => r = res.1) (hcB D (fun _ : Unit => moW k va res.2) A) A) (List.toArray [.ref (va 0), .int x1, .int x2, .int x3]) s 0 0 A) (F0 m 53 ls []) := by
      intro v1 v3 v4 v5 v6 v7 mo H locs ls h hP hD hS hl
      refine lv_aload_n hx hb dX9_answer_53 rfl (lv_at hl 0 rfl) ?_
      refine va_get (D := D) (ci := 7) (v := .ref (va 27)) (C := RX9) (T := TX9) (N := 53) hx hb hts in9 hown hG.1 hP 0 rfl rfl 37 (by decide) (hts (.fieldLink RX9 94 "ChairCaneModel" "stack" "[J") (mem_b bq_wsX9_answer 0 2 rfl)) (fun _ h9 => h9) rfl dX9_answer_54 ?_
      refine lv_iload hx hb dX9_answer_57 (lv_at hl 3 rfl) ?_
      refine lv_iload hx hb dX9_answer_59 (lv_at hl 5 rfl) ?_
      refine lv_if_ne (tgt := 70) hx hb dX9_answer_61 (by decide) (fun c2 => ?_) (fun c2 => ?_)
      · have h := fw_f c2 h
        refine lv_aload_n hx hb dX9_answer_70 rfl (lv_at hl 0 rfl) ?_
        refine va_get (D := D) (ci := 7) (v := .ref (va 26)) (C := RX9) (T := TX9) (N := 53) hx hb hts in9 hown hG.1 hP 0 rfl rfl 36 (by decide) (hts (.fieldLink RX9 90 "ChairCaneModel" "asked" "[J") (mem_b bq_wsX9_answer 0 3 rfl)) (fun _ h9 => h9) rfl dX9_answer_71 ?_
        refine lv_iload hx hb dX9_answer_74 (lv_at hl 6 rfl) ?_
        obtain ⟨g3, h⟩ := fw_g h
        refine va_lald hx hb hG.1 hP 26 3 rfl rfl (ib_vp g3) dX9_answer_76 ?_
        exact B77 _ _ _ _ _ _ _ _ _ _ h hP hD hS (lv_sub hl [0, 1, 2, 3, 4] rfl)
      · have h := fw_t c2 h
        refine lv_iload hx hb dX9_answer_64 (lv_at hl 6 rfl) ?_
        refine lv_i2l hx hb dX9_answer_66 rfl ?_
        refine lv_goto (tgt := 77) hx hb dX9_answer_67 (by decide) ?_
        exact B77 _ _ _ _ _ _ _ _ _ _ h hP hD hS (lv_sub hl [0, 1, 2, 3, 4] rfl)
    refine lv_iload hx hb dX9_answer_6 (lv_at hl 4 rfl) ?_
    refine lv_iload_n hx hb dX9_answer_8 rfl (lv_at hl 2 rfl) ?_
    refine lv_icmp_ge (tgt := 153) hx hb dX9_answer_9 (by decide) (fun c4 => ?_) (fun c4 => ?_)
    · have h := fw_t c4 h
      refine lv_aload_n hx hb dX9_answer_153 rfl (lv_at hl 0 rfl) ?_
      refine va_get (D := D) (ci := 7) (v := .ref (va 27)) (C := RX9) (T := TX9) (N := 53) hx hb hts in9 hown hG.1 hP 0 rfl rfl 37 (by decide) (hts (.fieldLink RX9 94 "ChairCaneModel" "stack" "[J") (mem_b bq_wsX9_answer 0 2 rfl)) (fun _ h9 => h9) rfl dX9_answer_154 ?_
      refine lv_iconst (v := 0) hx hb dX9_answer_157 (by decide) ?_
      refine va_lald hx hb hG.1 hP 27 3 rfl rfl (by unfold vp_in; decide) dX9_answer_158 ?_
      exact fw_endL (rv := fun b : Int64 × OB => b.1) (wp := fun b : Int64 × OB => moW k va b.2) hx hb hr hlocks h rfl hP hD hS dX9_answer_159
    · have h := fw_f c4 h
      refine lv_aload_n hx hb dX9_answer_12 rfl (lv_at hl 0 rfl) ?_
      refine va_get (D := D) (ci := 7) (v := .ref (va 19)) (C := RX9) (T := TX9) (N := 53) hx hb hts in9 hown hG.1 hP 0 rfl rfl 29 (by decide) (hts (.fieldLink RX9 69 "ChairCaneModel" "sort" "[I") (mem_b bq_wsX9_answer 0 0 rfl)) (fun _ h9 => h9) rfl dX9_answer_13 ?_
      refine lv_sipush (v := 300) hx hb dX9_answer_16 (by decide) ?_
      refine lv_iload_n hx hb dX9_answer_19 rfl (lv_at hl 1 rfl) ?_
      refine lv_imul hx hb dX9_answer_20 ?_
      refine lv_iload hx hb dX9_answer_21 (lv_at hl 4 rfl) ?_
      refine lv_iadd hx hb dX9_answer_23 ?_
      obtain ⟨g5, h⟩ := fw_g h
      refine va_iald hx hb hG.1 hP 19 0 rfl rfl (ib_vp g5) dX9_answer_24 ?_
      refine lv_istore (lv' := [(6, .int ((a6.2.2.2.2.2.1 29) (Int32.toNatClampNeg ((300 * a6.1) + a6.2.2.2.1)))), (0, .ref (va 0)), (1, .int a6.1), (3, .int a6.2.1), (4, .int a6.2.2.1), (5, .int a6.2.2.2.1)]) hx hb dX9_answer_25 hl (by decide) rfl (fun ls hl => ?_)
      refine lv_aload_n hx hb dX9_answer_27 rfl (lv_at hl 1 rfl) ?_
      refine va_get (D := D) (ci := 7) (v := .ref (va 20)) (C := RX9) (T := TX9) (N := 53) hx hb hts in9 hown hG.1 hP 0 rfl rfl 30 (by decide) (hts (.fieldLink RX9 72 "ChairCaneModel" "number" "[I") (mem_b bq_wsX9_answer 0 1 rfl)) (fun _ h9 => h9) rfl dX9_answer_28 ?_
      refine lv_sipush (v := 300) hx hb dX9_answer_31 (by decide) ?_
      refine lv_iload_n hx hb dX9_answer_34 rfl (lv_at hl 2 rfl) ?_
      refine lv_imul hx hb dX9_answer_35 ?_
      refine lv_iload hx hb dX9_answer_36 (lv_at hl 5 rfl) ?_
      refine lv_iadd hx hb dX9_answer_38 ?_
      refine va_iald hx hb hG.1 hP 20 0 rfl rfl (ib_vp g5) dX9_answer_39 ?_
      refine lv_istore (lv' := [(7, .int ((a6.2.2.2.2.2.1 30) (Int32.toNatClampNeg ((300 * a6.1) + a6.2.2.2.1)))), (6, .int ((a6.2.2.2.2.2.1 29) (Int32.toNatClampNeg ((300 * a6.1) + a6.2.2.2.1)))), (0, .ref (va 0)), (1, .int a6.1), (3, .int a6.2.1), (4, .int a6.2.2.1), (5, .int a6.2.2.2.1)]) hx hb dX9_answer_40 hl (by decide) rfl (fun ls hl => ?_)
      refine lv_iload hx hb dX9_answer_42 (lv_at hl 1 rfl) ?_
      refine lv_if_eq (tgt := 53) hx hb dX9_answer_44 (by decide) (fun c6 => ?_) (fun c6 => ?_)
      · have h := fw_t c6 h
        exact B53 _ _ _ _ _ _ _ _ _ _ h hP hD hS (lv_sub hl [2, 3, 4, 5, 6, 1, 0] rfl)
      · have h := fw_f c6 h
        refine lv_iload hx hb dX9_answer_47 (lv_at hl 1 rfl) ?_
        refine lv_iconst (v := 1) hx hb dX9_answer_49 (by decide) ?_
        refine lv_icmp_ne (tgt := 84) hx hb dX9_answer_50 (by decide) (fun c7 => ?_) (fun c7 => ?_)
        · have h := fw_f c7 h
          refine lv_iload hx hb dX9_answer_84 (lv_at hl 1 rfl) ?_
          refine lv_bipush (v := 9) hx hb dX9_answer_86 (by decide) ?_
          refine lv_icmp_ne (tgt := 114) hx hb dX9_answer_88 (by decide) (fun c8 => ?_) (fun c8 => ?_)
          · have h := fw_f c8 h
            refine lv_iinc (v := (a6.2.2.1 + (-1))) (lv' := [(4, .int (a6.2.2.1 + (-1))), (7, .int ((a6.2.2.2.2.2.1 30) (Int32.toNatClampNeg ((300 * a6.1) + a6.2.2.2.1)))), (6, .int ((a6.2.2.2.2.2.1 29) (Int32.toNatClampNeg ((300 * a6.1) + a6.2.2.2.1)))), (0, .ref (va 0)), (1, .int a6.1), (3, .int a6.2.1), (5, .int a6.2.2.2.1)]) hx hb dX9_answer_114 hl (k := 5) rfl rfl (by decide) rfl (fun ls hl => ?_)
            refine lv_aload_n hx hb dX9_answer_117 rfl (lv_at hl 3 rfl) ?_
            refine va_get (D := D) (ci := 7) (v := .ref (va 27)) (C := RX9) (T := TX9) (N := 53) hx hb hts in9 hown hG.1 hP 0 rfl rfl 37 (by decide) (hts (.fieldLink RX9 94 "ChairCaneModel" "stack" "[J") (mem_b bq_wsX9_answer 0 2 rfl)) (fun _ h9 => h9) rfl dX9_answer_118 ?_
            refine lv_iload hx hb dX9_answer_121 (lv_at hl 0 rfl) ?_
            refine lv_iconst (v := 1) hx hb dX9_answer_123 (by decide) ?_
            refine lv_isub hx hb dX9_answer_124 ?_
            refine lv_iload hx hb dX9_answer_125 (lv_at hl 2 rfl) ?_
            refine lv_aload_n hx hb dX9_answer_127 rfl (lv_at hl 3 rfl) ?_
            refine va_get (D := D) (ci := 7) (v := .ref (va 27)) (C := RX9) (T := TX9) (N := 53) hx hb hts in9 hown hG.1 hP 0 rfl rfl 37 (by decide) (hts (.fieldLink RX9 94 "ChairCaneModel" "stack" "[J") (mem_b bq_wsX9_answer 0 2 rfl)) (fun _ h9 => h9) rfl dX9_answer_128 ?_
            refine lv_iload hx hb dX9_answer_131 (lv_at hl 0 rfl) ?_
            refine lv_iconst (v := 1) hx hb dX9_answer_133 (by decide) ?_
            refine lv_isub hx hb dX9_answer_134 ?_
            obtain ⟨g9, h⟩ := fw_g h
            refine va_lald hx hb hG.1 hP 27 3 rfl rfl (ib_vp g9) dX9_answer_135 ?_
            refine lv_aload_n hx hb dX9_answer_136 rfl (lv_at hl 3 rfl) ?_
            refine va_get (D := D) (ci := 7) (v := .ref (va 27)) (C := RX9) (T := TX9) (N := 53) hx hb hts in9 hown hG.1 hP 0 rfl rfl 37 (by decide) (hts (.fieldLink RX9 94 "ChairCaneModel" "stack" "[J") (mem_b bq_wsX9_answer 0 2 rfl)) (fun _ h9 => h9) rfl dX9_answer_137 ?_
            refine lv_iload hx hb dX9_answer_140 (lv_at hl 0 rfl) ?_
            obtain ⟨g10, h⟩ := fw_g h
            refine va_lald hx hb hG.1 hP 27 3 rfl rfl (ib_vp g10) dX9_answer_142 ?_
            refine fw_Sl (As := [.int ((a6.2.2.2.2.2.1 29) (Int32.toNatClampNeg ((300 * a6.1) + a6.2.2.2.1))), .long ((a6.2.2.2.2.2.2 37) (Int32.toNatClampNeg ((a6.2.2.1 + (-1)) - 1))), .long ((a6.2.2.2.2.2.2 37) (Int32.toNatClampNeg (a6.2.2.1 + (-1))))]) (rest := [.int ((a6.2.2.1 + (-1)) - 1), .ref (va 27)]) (n := 3) (wr := moW k va a6.2.2.2.2) (rv := fun b : Int64 => b) (wp := fun b : Int64 => []) h hx hb hml hown hts hG hA hP hD hS hl.1 [] (List.range (moW k va a6.2.2.2.2).length) (fun q hq9 => c_X9_both l D k _   F ((a6.2.2.2.2.2.1 29) (Int32.toNatClampNeg ((300 * a6.1) + a6.2.2.2.1))) ((a6.2.2.2.2.2.2 37) (Int32.toNatClampNeg ((a6.2.2.1 + (-1)) - 1))) ((a6.2.2.2.2.2.2 37) (Int32.toNatClampNeg (a6.2.2.1 + (-1))))   hq9) gX9_answer_X9_both rfl ⟨rfl, rfl, Nat.le_of_ble_eq_true rfl, Nat.le_of_ble_eq_true rfl⟩ (by decide +kernel) rfl (al_C _) (al_m _) ⟨rfl, rfl, Nat.le_of_ble_eq_true rfl, Nat.le_of_ble_eq_true rfl, Nat.le_of_ble_eq_true rfl⟩ dX9_answer_143 (fun q11 H locs h hP hD hS => ?_)
            obtain ⟨hP, hD⟩ := cv (w' := (moW k va a6.2.2.2.2) ++ []) hP hD rfl
            rw [List.append_nil] at hP hD
            refine hc_isL (z := q11) rfl ?_
            refine va_last hx hb hG.1 hP hD hS 27 3 rfl rfl (ib_vp g9) dX9_answer_146 (fun H locs hP hD hS => ?_)
            exact B147 _ _ _ _ _ _ _ _ h hP hD hS (lv_sub hl [3, 4, 5, 0, 6] rfl)
          · have h := fw_t c8 h
            refine lv_aload_n hx hb dX9_answer_91 rfl (lv_at hl 2 rfl) ?_
            refine va_get (D := D) (ci := 7) (v := .ref (va 27)) (C := RX9) (T := TX9) (N := 53) hx hb hts in9 hown hG.1 hP 0 rfl rfl 37 (by decide) (hts (.fieldLink RX9 94 "ChairCaneModel" "stack" "[J") (mem_b bq_wsX9_answer 0 2 rfl)) (fun _ h9 => h9) rfl dX9_answer_92 ?_
            refine lv_iload hx hb dX9_answer_95 (lv_at hl 5 rfl) ?_
            refine lv_iconst (v := 1) hx hb dX9_answer_97 (by decide) ?_
            refine lv_isub hx hb dX9_answer_98 ?_
            refine lv_lconst (v := 1) hx hb dX9_answer_99 (by decide) ?_
            refine lv_aload_n hx hb dX9_answer_100 rfl (lv_at hl 2 rfl) ?_
            refine va_get (D := D) (ci := 7) (v := .ref (va 27)) (C := RX9) (T := TX9) (N := 53) hx hb hts in9 hown hG.1 hP 0 rfl rfl 37 (by decide) (hts (.fieldLink RX9 94 "ChairCaneModel" "stack" "[J") (mem_b bq_wsX9_answer 0 2 rfl)) (fun _ h9 => h9) rfl dX9_answer_101 ?_
            refine lv_iload hx hb dX9_answer_104 (lv_at hl 5 rfl) ?_
            refine lv_iconst (v := 1) hx hb dX9_answer_106 (by decide) ?_
            refine lv_isub hx hb dX9_answer_107 ?_
            obtain ⟨g12, h⟩ := fw_g h
            refine va_lald hx hb hG.1 hP 27 3 rfl rfl (ib_vp g12) dX9_answer_108 ?_
            refine lv_lsub hx hb dX9_answer_109 ?_
            refine va_last hx hb hG.1 hP hD hS 27 3 rfl rfl (ib_vp g12) dX9_answer_110 (fun H locs hP hD hS => ?_)
            refine lv_goto (tgt := 147) hx hb dX9_answer_111 (by decide) ?_
            exact B147 _ _ _ _ _ _ _ _ h hP hD hS (lv_sub hl [2, 3, 4, 5, 6] rfl)
        · have h := fw_t c7 h
          exact B53 _ _ _ _ _ _ _ _ _ _ h hP hD hS (lv_sub hl [2, 3, 4, 5, 6, 1, 0] rfl)
  have C6 : ∀ (v1 : Int32) (v3 : Int32) (v4 : Int32) (v5 : Int32) (mo : OB), lp (b_X9_answer_6 F) F (v1, v3, v4, v5, mo) = some res → ∀ (H : Heap) (locs : List Loc) (ls : Array Slot), va_P D vwCl (moW k va mo) H → va_D A (moW k va mo) → va_S A s.heap H locs → lv_has ls 8 [(0, .ref (va 0)), (1, .int v1), (3, .int v3), (4, .int v4), (5, .int v5)] → W p l e (rmK 3 0 0) s m (List.toArray [.ref (va 0), .int x1, .int x2, .int x3]) below meth c H locs 0 0 (MQ below (va_Ql (fun r (_ : Unit) => r = res.1) (hcB D (fun _ : Unit => moW k va res.2) A) A) (List.toArray [.ref (va 0), .int x1, .int x2, .int x3]) s 0 0 A) (F0 m 6 ls []) := fun v1 v3 v4 v5 mo => B6 (v1, v3, v4, v5, mo)
  refine lv_iconst (v := 0) hx hb dX9_answer_0 (by decide) ?_
  refine lv_istore (lv' := [(4, .int 0), (0, .ref (va 0)), (1, .int x1), (2, .int x2), (3, .int x3)]) hx hb dX9_answer_1 hl (by decide) rfl (fun ls hl => ?_)
  refine lv_iload_n hx hb dX9_answer_3 rfl (lv_at hl 3 rfl) ?_
  refine lv_istore (lv' := [(5, .int x2), (4, .int 0), (0, .ref (va 0)), (1, .int x1), (2, .int x2), (3, .int x3)]) hx hb dX9_answer_4 hl (by decide) rfl (fun ls hl => ?_)
  exact C6 _ _ _ _ _ h _ _ _ hP hD hS (lv_sub hl [2, 3, 5, 1, 0] rfl)
noncomputable def b_X9_wanted_65 (F : Nat)    (v1 : Int32) (v2 : Int32) (mo : OB) : Option (Int64 × OB) :=
  if ib v2 72 then (Option.bind (f_X9_answer F v1 ((mo.2.1 32) (Int32.toNatClampNeg v2)) ((mo.2.1 33) (Int32.toNatClampNeg v2)) mo) (fun q2 => (some (q2.1, q2.2)))) else none
noncomputable def b_X9_wanted_13 (F : Nat)    (k13 : (Int32 × Int32 × OB) → Option (Int64 × OB)) (a13 : (Int32 × Int32 × OB)) : Option (Int64 × OB) :=
  if ib a13.1 6 then (if ((12 * a13.1) + ((a13.2.2.2.1 31) (Int32.toNatClampNeg a13.1))) ≤ a13.2.1 then (some (0, a13.2.2)) else (if ib a13.2.1 72 then (if ((a13.2.2.2.1 33) (Int32.toNatClampNeg a13.2.1)) = ((a13.2.2.2.1 34) (Int32.toNatClampNeg a13.2.1)) then (b_X9_wanted_65 F a13.1 a13.2.1 a13.2.2) else (Option.bind (f_X9_answer F a13.1 ((a13.2.2.2.1 33) (Int32.toNatClampNeg a13.2.1)) ((a13.2.2.2.1 34) (Int32.toNatClampNeg a13.2.1)) a13.2.2) (fun q7 => (if (lg_cmp q7.1 1) = 0 then (b_X9_wanted_65 F a13.1 a13.2.1 q7.2) else (k13 (a13.1, (a13.2.1 + 1), q7.2)))))) else none)) else none
noncomputable def f_X9_wanted (F : Nat)   (mo : OB) : Option (Int64 × OB) :=
  lp (b_X9_wanted_13 F) F (((mo.2.1 1) (Int32.toNatClampNeg 7)), (12 * ((mo.2.1 1) (Int32.toNatClampNeg 7))), mo)
set_option maxHeartbeats 4000000 in
set_option maxRecDepth 100000 in
theorem c_X9_wanted (l : Launch) (D : va_G) (k : Nat → ClassId) (sz : Nat)  (va : Nat → Nat) (F : Nat)   (mo : OB)  {res : Int64 × OB} (h : f_X9_wanted F mo = some res) : CtL l yX9_wanted wsX9_wanted (rmK 4 0 0) [.ref (va 0)] D k sz (moW k va mo) (fun r (_ : Unit) => r = res.1) (fun _ : Unit => moW k va res.2) 0 0 := by
  refine CtL.mk (cc := cX9_wanted) (maxL := 3) (ret := (some .long)) (by decide) rfl (Nat.le_of_ble_eq_true rfl) ?_
  intro p e s m below meth c A ls E hP hD hS hl
  obtain ⟨hx, hb, hr, hml, hown, hts, hlocks, hin, hG, hA⟩ := E
  have hown : s.vm.findClass RX9 = some m.cls := hown
  have in9 : ∀ w ∈ u_ws RX9 TX9 53, w ∈ wsX9_wanted := fun _ h => List.mem_cons_of_mem _ (List.mem_append_right _ h)
  have hl : lv_has ls 3 [(0, .ref (va 0))] := hl
  have B65 : ∀ (v1 : Int32) (v2 : Int32) (mo : OB) (H : Heap) (locs : List Loc) (ls : Array Slot), b_X9_wanted_65 F v1 v2 mo = some res → va_P D vwCl (moW k va mo) H → va_D A (moW k va mo) → va_S A s.heap H locs → lv_has ls 3 [(0, .ref (va 0)), (1, .int v1), (2, .int v2)] → W p l e (rmK 4 0 0) s m (List.toArray [.ref (va 0)]) below meth c H locs 0 0 (MQ below (va_Ql (fun r (_ : Unit) => r = res.1) (hcB D (fun _ : Unit => moW k va res.2) A) A) (List.toArray [.ref (va 0)]) s 0 0 A) (F0 m 65 ls []) := by
    intro v1 v2 mo H locs ls h hP hD hS hl
    refine lv_aload_n hx hb dX9_wanted_65 rfl (lv_at hl 0 rfl) ?_
    refine lv_iload_n hx hb dX9_wanted_66 rfl (lv_at hl 1 rfl) ?_
    refine lv_aload_n hx hb dX9_wanted_67 rfl (lv_at hl 0 rfl) ?_
    refine va_get (D := D) (ci := 7) (v := .ref (va 22)) (C := RX9) (T := TX9) (N := 53) hx hb hts in9 hown hG.1 hP 0 rfl rfl 32 (by decide) (hts (.fieldLink RX9 78 "ChairCaneModel" "sumAt" "[I") (mem_b bq_wsX9_wanted 0 4 rfl)) (fun _ h9 => h9) rfl dX9_wanted_68 ?_
    refine lv_iload_n hx hb dX9_wanted_71 rfl (lv_at hl 2 rfl) ?_
    obtain ⟨g1, h⟩ := fw_g h
    refine va_iald hx hb hG.1 hP 22 0 rfl rfl (ib_vp g1) dX9_wanted_72 ?_
    refine lv_aload_n hx hb dX9_wanted_73 rfl (lv_at hl 0 rfl) ?_
    refine va_get (D := D) (ci := 7) (v := .ref (va 23)) (C := RX9) (T := TX9) (N := 53) hx hb hts in9 hown hG.1 hP 0 rfl rfl 33 (by decide) (hts (.fieldLink RX9 81 "ChairCaneModel" "testAt" "[I") (mem_b bq_wsX9_wanted 0 2 rfl)) (fun _ h9 => h9) rfl dX9_wanted_74 ?_
    refine lv_iload_n hx hb dX9_wanted_77 rfl (lv_at hl 2 rfl) ?_
    refine va_iald hx hb hG.1 hP 23 0 rfl rfl (ib_vp g1) dX9_wanted_78 ?_
    refine fw_Vl (As := [.int v1, .int ((mo.2.1 32) (Int32.toNatClampNeg v2)), .int ((mo.2.1 33) (Int32.toNatClampNeg v2))]) (rest := []) (n := 3) (wr := []) (rv := fun b : Int64 × OB => b.1) (wp := fun b : Int64 × OB => moW k va b.2) h hx hb hml hown hts hG hA hP hD hS hl.1 (List.range (moW k va mo).length) [] (fun q hq9 => c_X9_answer l D k _  va F v1 ((mo.2.1 32) (Int32.toNatClampNeg v2)) ((mo.2.1 33) (Int32.toNatClampNeg v2)) mo  hq9) (ci := 7) (q0 := 0) rfl rfl gX9_wanted_X9_answer rfl ⟨rfl, rfl, Nat.le_of_ble_eq_true rfl, Nat.le_of_ble_eq_true rfl⟩ (by decide +kernel) (al_C _) rfl (al_n _) ⟨rfl, rfl, Nat.le_of_ble_eq_true rfl, Nat.le_of_ble_eq_true rfl, Nat.le_of_ble_eq_true rfl⟩ dX9_wanted_79 (fun q2 H locs h hP hD hS => ?_)
    obtain ⟨hP, hD⟩ := cv (w' := moW k va q2.2) hP hD rfl
    refine hc_isL (z := q2.1) rfl ?_
    exact fw_endL (rv := fun b : Int64 × OB => b.1) (wp := fun b : Int64 × OB => moW k va b.2) hx hb hr hlocks h rfl hP hD hS dX9_wanted_82
  have B13 : ∀ a13 : (Int32 × Int32 × OB), lp (b_X9_wanted_13 F) F a13 = some res → ∀ (H : Heap) (locs : List Loc) (ls : Array Slot), va_P D vwCl (moW k va a13.2.2) H → va_D A (moW k va a13.2.2) → va_S A s.heap H locs → lv_has ls 3 [(0, .ref (va 0)), (1, .int a13.1), (2, .int a13.2.1)] → W p l e (rmK 4 0 0) s m (List.toArray [.ref (va 0)]) below meth c H locs 0 0 (MQ below (va_Ql (fun r (_ : Unit) => r = res.1) (hcB D (fun _ : Unit => moW k va res.2) A) A) (List.toArray [.ref (va 0)]) s 0 0 A) (F0 m 13 ls []) := by
    refine lp_W ?_ F
    intro k13 hk13 a13 h H locs ls hP hD hS hl
    have hc13 : ∀ (v1 : Int32) (v2 : Int32) (mo : OB), k13 (v1, v2, mo) = some res → ∀ (H : Heap) (locs : List Loc) (ls : Array Slot), va_P D vwCl (moW k va mo) H → va_D A (moW k va mo) → va_S A s.heap H locs → lv_has ls 3 [(0, .ref (va 0)), (1, .int v1), (2, .int v2)] → W p l e (rmK 4 0 0) s m (List.toArray [.ref (va 0)]) below meth c H locs 0 0 (MQ below (va_Ql (fun r (_ : Unit) => r = res.1) (hcB D (fun _ : Unit => moW k va res.2) A) A) (List.toArray [.ref (va 0)]) s 0 0 A) (F0 m 13 ls []) := fun v1 v2 mo => hk13 (v1, v2, mo)
    refine lv_iload_n hx hb dX9_wanted_13 rfl (lv_at hl 2 rfl) ?_
    refine lv_bipush (v := 12) hx hb dX9_wanted_14 (by decide) ?_
    refine lv_iload_n hx hb dX9_wanted_16 rfl (lv_at hl 1 rfl) ?_
    refine lv_imul hx hb dX9_wanted_17 ?_
    refine lv_aload_n hx hb dX9_wanted_18 rfl (lv_at hl 0 rfl) ?_
    refine va_get (D := D) (ci := 7) (v := .ref (va 21)) (C := RX9) (T := TX9) (N := 53) hx hb hts in9 hown hG.1 hP 0 rfl rfl 31 (by decide) (hts (.fieldLink RX9 75 "ChairCaneModel" "clauses" "[I") (mem_b bq_wsX9_wanted 0 1 rfl)) (fun _ h9 => h9) rfl dX9_wanted_19 ?_
    refine lv_iload_n hx hb dX9_wanted_22 rfl (lv_at hl 1 rfl) ?_
    obtain ⟨g3, h⟩ := fw_g h
    refine va_iald hx hb hG.1 hP 21 0 rfl rfl (ib_vp g3) dX9_wanted_23 ?_
    refine lv_iadd hx hb dX9_wanted_24 ?_
    refine lv_icmp_ge (tgt := 89) hx hb dX9_wanted_25 (by decide) (fun c4 => ?_) (fun c4 => ?_)
    · have h := fw_t c4 h
      refine lv_lconst (v := 0) hx hb dX9_wanted_89 (by decide) ?_
      exact fw_endL (rv := fun b : Int64 × OB => b.1) (wp := fun b : Int64 × OB => moW k va b.2) hx hb hr hlocks h rfl hP hD hS dX9_wanted_90
    · have h := fw_f c4 h
      refine lv_aload_n hx hb dX9_wanted_28 rfl (lv_at hl 0 rfl) ?_
      refine va_get (D := D) (ci := 7) (v := .ref (va 23)) (C := RX9) (T := TX9) (N := 53) hx hb hts in9 hown hG.1 hP 0 rfl rfl 33 (by decide) (hts (.fieldLink RX9 81 "ChairCaneModel" "testAt" "[I") (mem_b bq_wsX9_wanted 0 2 rfl)) (fun _ h9 => h9) rfl dX9_wanted_29 ?_
      refine lv_iload_n hx hb dX9_wanted_32 rfl (lv_at hl 2 rfl) ?_
      obtain ⟨g5, h⟩ := fw_g h
      refine va_iald hx hb hG.1 hP 23 0 rfl rfl (ib_vp g5) dX9_wanted_33 ?_
      refine lv_aload_n hx hb dX9_wanted_34 rfl (lv_at hl 0 rfl) ?_
      refine va_get (D := D) (ci := 7) (v := .ref (va 24)) (C := RX9) (T := TX9) (N := 53) hx hb hts in9 hown hG.1 hP 0 rfl rfl 34 (by decide) (hts (.fieldLink RX9 84 "ChairCaneModel" "endAt" "[I") (mem_b bq_wsX9_wanted 0 3 rfl)) (fun _ h9 => h9) rfl dX9_wanted_35 ?_
      refine lv_iload_n hx hb dX9_wanted_38 rfl (lv_at hl 2 rfl) ?_
      refine va_iald hx hb hG.1 hP 24 0 rfl rfl (ib_vp g5) dX9_wanted_39 ?_
      refine lv_icmp_eq (tgt := 65) hx hb dX9_wanted_40 (by decide) (fun c6 => ?_) (fun c6 => ?_)
      · have h := fw_t c6 h
        exact B65 _ _ _ _ _ _ h hP hD hS hl
      · have h := fw_f c6 h
        refine lv_aload_n hx hb dX9_wanted_43 rfl (lv_at hl 0 rfl) ?_
        refine lv_iload_n hx hb dX9_wanted_44 rfl (lv_at hl 1 rfl) ?_
        refine lv_aload_n hx hb dX9_wanted_45 rfl (lv_at hl 0 rfl) ?_
        refine va_get (D := D) (ci := 7) (v := .ref (va 23)) (C := RX9) (T := TX9) (N := 53) hx hb hts in9 hown hG.1 hP 0 rfl rfl 33 (by decide) (hts (.fieldLink RX9 81 "ChairCaneModel" "testAt" "[I") (mem_b bq_wsX9_wanted 0 2 rfl)) (fun _ h9 => h9) rfl dX9_wanted_46 ?_
        refine lv_iload_n hx hb dX9_wanted_49 rfl (lv_at hl 2 rfl) ?_
        refine va_iald hx hb hG.1 hP 23 0 rfl rfl (ib_vp g5) dX9_wanted_50 ?_
        refine lv_aload_n hx hb dX9_wanted_51 rfl (lv_at hl 0 rfl) ?_
        refine va_get (D := D) (ci := 7) (v := .ref (va 24)) (C := RX9) (T := TX9) (N := 53) hx hb hts in9 hown hG.1 hP 0 rfl rfl 34 (by decide) (hts (.fieldLink RX9 84 "ChairCaneModel" "endAt" "[I") (mem_b bq_wsX9_wanted 0 3 rfl)) (fun _ h9 => h9) rfl dX9_wanted_52 ?_
        refine lv_iload_n hx hb dX9_wanted_55 rfl (lv_at hl 2 rfl) ?_
        refine va_iald hx hb hG.1 hP 24 0 rfl rfl (ib_vp g5) dX9_wanted_56 ?_
        refine fw_Vl (As := [.int a13.1, .int ((a13.2.2.2.1 33) (Int32.toNatClampNeg a13.2.1)), .int ((a13.2.2.2.1 34) (Int32.toNatClampNeg a13.2.1))]) (rest := []) (n := 3) (wr := []) (rv := fun b : Int64 × OB => b.1) (wp := fun b : Int64 × OB => moW k va b.2) h hx hb hml hown hts hG hA hP hD hS hl.1 (List.range (moW k va a13.2.2).length) [] (fun q hq9 => c_X9_answer l D k _  va F a13.1 ((a13.2.2.2.1 33) (Int32.toNatClampNeg a13.2.1)) ((a13.2.2.2.1 34) (Int32.toNatClampNeg a13.2.1)) a13.2.2  hq9) (ci := 7) (q0 := 0) rfl rfl gX9_wanted_X9_answer rfl ⟨rfl, rfl, Nat.le_of_ble_eq_true rfl, Nat.le_of_ble_eq_true rfl⟩ (by decide +kernel) (al_C _) rfl (al_n _) ⟨rfl, rfl, Nat.le_of_ble_eq_true rfl, Nat.le_of_ble_eq_true rfl, Nat.le_of_ble_eq_true rfl⟩ dX9_wanted_57 (fun q7 H locs h hP hD hS => ?_)
        obtain ⟨hP, hD⟩ := cv (w' := moW k va q7.2) hP hD rfl
        refine hc_isL (z := q7.1) rfl ?_
        refine lv_lconst (v := 1) hx hb dX9_wanted_60 (by decide) ?_
        refine W.lcmp hx hb dX9_wanted_61 ?_
        refine lv_if_ne (tgt := 83) hx hb dX9_wanted_62 (by decide) (fun c8 => ?_) (fun c8 => ?_)
        · have h := fw_f c8 h
          refine lv_iinc (v := (a13.2.1 + 1)) (lv' := [(2, .int (a13.2.1 + 1)), (0, .ref (va 0)), (1, .int a13.1)]) hx hb dX9_wanted_83 hl (k := 2) rfl rfl (by decide) rfl (fun ls hl => ?_)
          refine lv_goto (tgt := 13) hx hb dX9_wanted_86 (by decide) ?_
          exact hc13 _ _ _ h _ _ _ hP hD hS (lv_sub hl [1, 2, 0] rfl)
        · have h := fw_t c8 h
          exact B65 _ _ _ _ _ _ h hP hD hS hl
  have C13 : ∀ (v1 : Int32) (v2 : Int32) (mo : OB), lp (b_X9_wanted_13 F) F (v1, v2, mo) = some res → ∀ (H : Heap) (locs : List Loc) (ls : Array Slot), va_P D vwCl (moW k va mo) H → va_D A (moW k va mo) → va_S A s.heap H locs → lv_has ls 3 [(0, .ref (va 0)), (1, .int v1), (2, .int v2)] → W p l e (rmK 4 0 0) s m (List.toArray [.ref (va 0)]) below meth c H locs 0 0 (MQ below (va_Ql (fun r (_ : Unit) => r = res.1) (hcB D (fun _ : Unit => moW k va res.2) A) A) (List.toArray [.ref (va 0)]) s 0 0 A) (F0 m 13 ls []) := fun v1 v2 mo => B13 (v1, v2, mo)
  refine lv_aload_n hx hb dX9_wanted_0 rfl (lv_at hl 0 rfl) ?_
  refine va_get (D := D) (ci := 7) (v := .ref (va 1)) (C := RX9) (T := TX9) (N := 53) hx hb hts in9 hown hG.1 hP 0 rfl rfl 1 (by decide) (hts (.fieldLink RX9 9 "ChairCaneModel" "scalar" "[I") (mem_b bq_wsX9_wanted 0 0 rfl)) (fun _ h9 => h9) rfl dX9_wanted_1 ?_
  refine lv_bipush (v := 7) hx hb dX9_wanted_4 (by decide) ?_
  refine va_iald hx hb hG.1 hP 1 0 rfl rfl (by unfold vp_in; decide) dX9_wanted_6 ?_
  refine lv_istore_n (lv' := [(1, .int ((mo.2.1 1) (Int32.toNatClampNeg 7))), (0, .ref (va 0))]) hx hb dX9_wanted_7 rfl hl (by decide) rfl (fun ls hl => ?_)
  refine lv_bipush (v := 12) hx hb dX9_wanted_8 (by decide) ?_
  refine lv_iload_n hx hb dX9_wanted_10 rfl (lv_at hl 0 rfl) ?_
  refine lv_imul hx hb dX9_wanted_11 ?_
  refine lv_istore_n (lv' := [(2, .int (12 * ((mo.2.1 1) (Int32.toNatClampNeg 7)))), (1, .int ((mo.2.1 1) (Int32.toNatClampNeg 7))), (0, .ref (va 0))]) hx hb dX9_wanted_12 rfl hl (by decide) rfl (fun ls hl => ?_)
  exact C13 _ _ _ h _ _ _ hP hD hS (lv_sub hl [2, 1, 0] rfl)
noncomputable def b_X9_those_32 (F : Nat)  (mo : OB) (k4 : (Int32 × Int32 × Int32) → Option (Int32)) (v1 : Int32) (v3 : Int32) (y0 : Int32) (y1 : Int32) : Option (Int32) :=
  k4 (v1, (y1 ||| y0), (v3 + 1))
noncomputable def b_X9_those_4 (F : Nat)  (mo : OB)  (k4 : (Int32 × Int32 × Int32) → Option (Int32)) (a4 : (Int32 × Int32 × Int32)) : Option (Int32) :=
  if ((mo.2.1 1) (Int32.toNatClampNeg 3)) ≤ a4.2.2 then (some a4.2.1) else (if ib a4.2.2 8 then (if ((mo.2.1 3) (Int32.toNatClampNeg a4.2.2)) = a4.1 then (b_X9_those_32 F mo k4 a4.1 a4.2.2 (1 <<< (a4.2.2 &&& 31)) a4.2.1) else (b_X9_those_32 F mo k4 a4.1 a4.2.2 0 a4.2.1)) else none)
noncomputable def f_X9_those (F : Nat)  (x1 : Int32) (mo : OB) : Option (Int32) :=
  lp (b_X9_those_4 F mo) F (x1, 0, 0)
set_option maxRecDepth 20000 in
theorem bq_wsX9_those : subq wsX9_those [[.fieldLink RX9 9 "ChairCaneModel" "scalar" "[I", .fieldLink RX9 16 "ChairCaneModel" "is" "[I"]] := ⟨(fun _ h => (List.mem_cons_of_mem _ (List.mem_append_left _ h))), trivial⟩
set_option maxHeartbeats 4000000 in
set_option maxRecDepth 100000 in
theorem c_X9_those (l : Launch) (D : va_G) (k : Nat → ClassId) (sz : Nat)  (va : Nat → Nat) (F : Nat)  (x1 : Int32) (mo : OB)  {res : Int32} (h : f_X9_those F x1 mo = some res) : CtI l yX9_those wsX9_those (rmK 1 0 0) [.ref (va 0), .int x1] D k sz (moW k va mo) (fun r (_ : Unit) => r = res) (fun _ : Unit => moW k va mo) 0 0 := by
  refine CtI.mk (cc := cX9_those) (maxL := 4) (ret := (some .int)) (by decide) rfl (Nat.le_of_ble_eq_true rfl) ?_
  intro p e s m below meth c A ls E hP hD hS hl
  obtain ⟨hx, hb, hr, hml, hown, hts, hlocks, hin, hG, hA⟩ := E
  have hown : s.vm.findClass RX9 = some m.cls := hown
  have in9 : ∀ w ∈ u_ws RX9 TX9 53, w ∈ wsX9_those := fun _ h => List.mem_cons_of_mem _ (List.mem_append_right _ h)
  have hl : lv_has ls 4 [(0, .ref (va 0)), (1, .int x1)] := hl
  have B4 : ∀ a4 : (Int32 × Int32 × Int32), lp (b_X9_those_4 F mo) F a4 = some res → ∀ (H : Heap) (locs : List Loc) (ls : Array Slot), va_P D vwCl (moW k va mo) H → va_D A (moW k va mo) → va_S A s.heap H locs → lv_has ls 4 [(0, .ref (va 0)), (1, .int a4.1), (2, .int a4.2.1), (3, .int a4.2.2)] → W p l e (rmK 1 0 0) s m (List.toArray [.ref (va 0), .int x1]) below meth c H locs 0 0 (MQ below (va_Qi (fun r (_ : Unit) => r = res) (hcB D (fun _ : Unit => moW k va mo) A) A) (List.toArray [.ref (va 0), .int x1]) s 0 0 A) (F0 m 4 ls []) := by
    refine lp_W ?_ F
    intro k4 hk4 a4 h H locs ls hP hD hS hl
    have hc4 : ∀ (v1 : Int32) (v2 : Int32) (v3 : Int32), k4 (v1, v2, v3) = some res → ∀ (H : Heap) (locs : List Loc) (ls : Array Slot), va_P D vwCl (moW k va mo) H → va_D A (moW k va mo) → va_S A s.heap H locs → lv_has ls 4 [(0, .ref (va 0)), (1, .int v1), (2, .int v2), (3, .int v3)] → W p l e (rmK 1 0 0) s m (List.toArray [.ref (va 0), .int x1]) below meth c H locs 0 0 (MQ below (va_Qi (fun r (_ : Unit) => r = res) (hcB D (fun _ : Unit => moW k va mo) A) A) (List.toArray [.ref (va 0), .int x1]) s 0 0 A) (F0 m 4 ls []) := fun v1 v2 v3 => hk4 (v1, v2, v3)
    have B32 : ∀ (v1 : Int32) (v3 : Int32) (y0 : Int32) (y1 : Int32) (H : Heap) (locs : List Loc) (ls : Array Slot), b_X9_those_32 F mo k4 v1 v3 y0 y1 = some res → va_P D vwCl (moW k va mo) H → va_D A (moW k va mo) → va_S A s.heap H locs → lv_has ls 4 [(0, .ref (va 0)), (1, .int v1), (3, .int v3)] → W p l e (rmK 1 0 0) s m (List.toArray [.ref (va 0), .int x1]) below meth c H locs 0 0 (MQ below (va_Qi (fun r (_ : Unit) => r = res) (hcB D (fun _ : Unit => moW k va mo) A) A) (List.toArray [.ref (va 0), .int x1]) s 0 0 A) (F0 m 32 ls [.int y0, .int y1]) := by
      intro v1 v3 y0 y1 H locs ls h hP hD hS hl
      refine lv_ior hx hb dX9_those_32 ?_
      refine lv_istore_n (lv' := [(2, .int (y1 ||| y0)), (0, .ref (va 0)), (1, .int v1), (3, .int v3)]) hx hb dX9_those_33 rfl hl (by decide) rfl (fun ls hl => ?_)
      refine lv_iinc (v := (v3 + 1)) (lv' := [(3, .int (v3 + 1)), (2, .int (y1 ||| y0)), (0, .ref (va 0)), (1, .int v1)]) hx hb dX9_those_34 hl (k := 3) rfl rfl (by decide) rfl (fun ls hl => ?_)
      refine lv_goto (tgt := 4) hx hb dX9_those_37 (by decide) ?_
      exact hc4 _ _ _ h _ _ _ hP hD hS (lv_sub hl [2, 3, 1, 0] rfl)
    refine lv_iload_n hx hb dX9_those_4 rfl (lv_at hl 3 rfl) ?_
    refine lv_aload_n hx hb dX9_those_5 rfl (lv_at hl 0 rfl) ?_
    refine va_get (D := D) (ci := 7) (v := .ref (va 1)) (C := RX9) (T := TX9) (N := 53) hx hb hts in9 hown hG.1 hP 0 rfl rfl 1 (by decide) (hts (.fieldLink RX9 9 "ChairCaneModel" "scalar" "[I") (mem_b bq_wsX9_those 0 0 rfl)) (fun _ h9 => h9) rfl dX9_those_6 ?_
    refine lv_iconst (v := 3) hx hb dX9_those_9 (by decide) ?_
    refine va_iald hx hb hG.1 hP 1 0 rfl rfl (by unfold vp_in; decide) dX9_those_10 ?_
    refine lv_icmp_ge (tgt := 40) hx hb dX9_those_11 (by decide) (fun c1 => ?_) (fun c1 => ?_)
    · have h := fw_t c1 h
      refine lv_iload_n hx hb dX9_those_40 rfl (lv_at hl 2 rfl) ?_
      exact fw_endI (rv := fun b : Int32 => b) (wp := fun b : Int32 => moW k va mo) hx hb hr hlocks h rfl hP hD hS dX9_those_41
    · have h := fw_f c1 h
      refine lv_iload_n hx hb dX9_those_14 rfl (lv_at hl 2 rfl) ?_
      refine lv_aload_n hx hb dX9_those_15 rfl (lv_at hl 0 rfl) ?_
      refine va_get (D := D) (ci := 7) (v := .ref (va 3)) (C := RX9) (T := TX9) (N := 53) hx hb hts in9 hown hG.1 hP 0 rfl rfl 3 (by decide) (hts (.fieldLink RX9 16 "ChairCaneModel" "is" "[I") (mem_b bq_wsX9_those 0 1 rfl)) (fun _ h9 => h9) rfl dX9_those_16 ?_
      refine lv_iload_n hx hb dX9_those_19 rfl (lv_at hl 3 rfl) ?_
      obtain ⟨g2, h⟩ := fw_g h
      refine va_iald hx hb hG.1 hP 3 0 rfl rfl (ib_vp g2) dX9_those_20 ?_
      refine lv_iload_n hx hb dX9_those_21 rfl (lv_at hl 1 rfl) ?_
      refine lv_icmp_ne (tgt := 31) hx hb dX9_those_22 (by decide) (fun c3 => ?_) (fun c3 => ?_)
      · have h := fw_f c3 h
        refine lv_iconst (v := 0) hx hb dX9_those_31 (by decide) ?_
        exact B32 _ _ _ _ _ _ _ h hP hD hS (lv_sub hl [0, 1, 3] rfl)
      · have h := fw_t c3 h
        refine lv_iconst (v := 1) hx hb dX9_those_25 (by decide) ?_
        refine lv_iload_n hx hb dX9_those_26 rfl (lv_at hl 3 rfl) ?_
        refine lv_ishl hx hb dX9_those_27 ?_
        refine lv_goto (tgt := 32) hx hb dX9_those_28 (by decide) ?_
        exact B32 _ _ _ _ _ _ _ h hP hD hS (lv_sub hl [0, 1, 3] rfl)
  have C4 : ∀ (v1 : Int32) (v2 : Int32) (v3 : Int32), lp (b_X9_those_4 F mo) F (v1, v2, v3) = some res → ∀ (H : Heap) (locs : List Loc) (ls : Array Slot), va_P D vwCl (moW k va mo) H → va_D A (moW k va mo) → va_S A s.heap H locs → lv_has ls 4 [(0, .ref (va 0)), (1, .int v1), (2, .int v2), (3, .int v3)] → W p l e (rmK 1 0 0) s m (List.toArray [.ref (va 0), .int x1]) below meth c H locs 0 0 (MQ below (va_Qi (fun r (_ : Unit) => r = res) (hcB D (fun _ : Unit => moW k va mo) A) A) (List.toArray [.ref (va 0), .int x1]) s 0 0 A) (F0 m 4 ls []) := fun v1 v2 v3 => B4 (v1, v2, v3)
  refine lv_iconst (v := 0) hx hb dX9_those_0 (by decide) ?_
  refine lv_istore_n (lv' := [(2, .int 0), (0, .ref (va 0)), (1, .int x1)]) hx hb dX9_those_1 rfl hl (by decide) rfl (fun ls hl => ?_)
  refine lv_iconst (v := 0) hx hb dX9_those_2 (by decide) ?_
  refine lv_istore_n (lv' := [(3, .int 0), (2, .int 0), (0, .ref (va 0)), (1, .int x1)]) hx hb dX9_those_3 rfl hl (by decide) rfl (fun ls hl => ?_)
  exact C4 _ _ _ h _ _ _ hP hD hS (lv_sub hl [2, 3, 1, 0] rfl)
noncomputable def b_X9_onStrand_50 (F : Nat)  (mo : OB) (k5 : (Int32 × Int32 × Int32 × Int32) → Option (Int32)) (v1 : Int32) (v2 : Int32) (v4 : Int32) (y0 : Int32) (y1 : Int32) : Option (Int32) :=
  k5 (v1, v2, (y1 ||| y0), (v4 + 1))
noncomputable def b_X9_onStrand_49 (F : Nat)  (mo : OB) (k5 : (Int32 × Int32 × Int32 × Int32) → Option (Int32)) (v1 : Int32) (v2 : Int32) (v4 : Int32) (y0 : Int32) : Option (Int32) :=
  b_X9_onStrand_50 F mo k5 v1 v2 v4 0 y0
noncomputable def b_X9_onStrand_5 (F : Nat)  (mo : OB)  (k5 : (Int32 × Int32 × Int32 × Int32) → Option (Int32)) (a5 : (Int32 × Int32 × Int32 × Int32)) : Option (Int32) :=
  if ((mo.2.1 1) (Int32.toNatClampNeg 3)) ≤ a5.2.2.2 then (some a5.2.2.1) else (Option.bind (f_X9_has F a5.1 a5.2.2.2) (fun q2 => (if q2 = 0 then (b_X9_onStrand_49 F mo k5 a5.1 a5.2.1 a5.2.2.2 a5.2.2.1) else (if ib a5.2.2.2 8 then (if ib ((mo.2.1 7) (Int32.toNatClampNeg a5.2.2.2)) 8 then (if ((mo.2.1 4) (Int32.toNatClampNeg ((mo.2.1 7) (Int32.toNatClampNeg a5.2.2.2)))) = a5.2.1 then (b_X9_onStrand_50 F mo k5 a5.1 a5.2.1 a5.2.2.2 (1 <<< (a5.2.2.2 &&& 31)) a5.2.2.1) else (b_X9_onStrand_49 F mo k5 a5.1 a5.2.1 a5.2.2.2 a5.2.2.1)) else none) else none))))
noncomputable def f_X9_onStrand (F : Nat)  (x1 : Int32) (x2 : Int32) (mo : OB) : Option (Int32) :=
  lp (b_X9_onStrand_5 F mo) F (x1, x2, 0, 0)
set_option maxHeartbeats 4000000 in
set_option maxRecDepth 100000 in
theorem c_X9_onStrand (l : Launch) (D : va_G) (k : Nat → ClassId) (sz : Nat)  (va : Nat → Nat) (F : Nat)  (x1 : Int32) (x2 : Int32) (mo : OB)  {res : Int32} (h : f_X9_onStrand F x1 x2 mo = some res) : CtI l yX9_onStrand wsX9_onStrand (rmK 2 0 0) [.ref (va 0), .int x1, .int x2] D k sz (moW k va mo) (fun r (_ : Unit) => r = res) (fun _ : Unit => moW k va mo) 0 0 := by
  refine CtI.mk (cc := cX9_onStrand) (maxL := 5) (ret := (some .int)) (by decide) rfl (Nat.le_of_ble_eq_true rfl) ?_
  intro p e s m below meth c A ls E hP hD hS hl
  obtain ⟨hx, hb, hr, hml, hown, hts, hlocks, hin, hG, hA⟩ := E
  have hown : s.vm.findClass RX9 = some m.cls := hown
  have in9 : ∀ w ∈ u_ws RX9 TX9 53, w ∈ wsX9_onStrand := fun _ h => List.mem_cons_of_mem _ (List.mem_append_right _ h)
  have hl : lv_has ls 5 [(0, .ref (va 0)), (1, .int x1), (2, .int x2)] := hl
  have B5 : ∀ a5 : (Int32 × Int32 × Int32 × Int32), lp (b_X9_onStrand_5 F mo) F a5 = some res → ∀ (H : Heap) (locs : List Loc) (ls : Array Slot), va_P D vwCl (moW k va mo) H → va_D A (moW k va mo) → va_S A s.heap H locs → lv_has ls 5 [(0, .ref (va 0)), (1, .int a5.1), (2, .int a5.2.1), (3, .int a5.2.2.1), (4, .int a5.2.2.2)] → W p l e (rmK 2 0 0) s m (List.toArray [.ref (va 0), .int x1, .int x2]) below meth c H locs 0 0 (MQ below (va_Qi (fun r (_ : Unit) => r = res) (hcB D (fun _ : Unit => moW k va mo) A) A) (List.toArray [.ref (va 0), .int x1, .int x2]) s 0 0 A) (F0 m 5 ls []) := by
    refine lp_W ?_ F
    intro k5 hk5 a5 h H locs ls hP hD hS hl
    have hc5 : ∀ (v1 : Int32) (v2 : Int32) (v3 : Int32) (v4 : Int32), k5 (v1, v2, v3, v4) = some res → ∀ (H : Heap) (locs : List Loc) (ls : Array Slot), va_P D vwCl (moW k va mo) H → va_D A (moW k va mo) → va_S A s.heap H locs → lv_has ls 5 [(0, .ref (va 0)), (1, .int v1), (2, .int v2), (3, .int v3), (4, .int v4)] → W p l e (rmK 2 0 0) s m (List.toArray [.ref (va 0), .int x1, .int x2]) below meth c H locs 0 0 (MQ below (va_Qi (fun r (_ : Unit) => r = res) (hcB D (fun _ : Unit => moW k va mo) A) A) (List.toArray [.ref (va 0), .int x1, .int x2]) s 0 0 A) (F0 m 5 ls []) := fun v1 v2 v3 v4 => hk5 (v1, v2, v3, v4)
    have B50 : ∀ (v1 : Int32) (v2 : Int32) (v4 : Int32) (y0 : Int32) (y1 : Int32) (H : Heap) (locs : List Loc) (ls : Array Slot), b_X9_onStrand_50 F mo k5 v1 v2 v4 y0 y1 = some res → va_P D vwCl (moW k va mo) H → va_D A (moW k va mo) → va_S A s.heap H locs → lv_has ls 5 [(0, .ref (va 0)), (1, .int v1), (2, .int v2), (4, .int v4)] → W p l e (rmK 2 0 0) s m (List.toArray [.ref (va 0), .int x1, .int x2]) below meth c H locs 0 0 (MQ below (va_Qi (fun r (_ : Unit) => r = res) (hcB D (fun _ : Unit => moW k va mo) A) A) (List.toArray [.ref (va 0), .int x1, .int x2]) s 0 0 A) (F0 m 50 ls [.int y0, .int y1]) := by
      intro v1 v2 v4 y0 y1 H locs ls h hP hD hS hl
      refine lv_ior hx hb dX9_onStrand_50 ?_
      refine lv_istore_n (lv' := [(3, .int (y1 ||| y0)), (0, .ref (va 0)), (1, .int v1), (2, .int v2), (4, .int v4)]) hx hb dX9_onStrand_51 rfl hl (by decide) rfl (fun ls hl => ?_)
      refine lv_iinc (v := (v4 + 1)) (lv' := [(4, .int (v4 + 1)), (3, .int (y1 ||| y0)), (0, .ref (va 0)), (1, .int v1), (2, .int v2)]) hx hb dX9_onStrand_52 hl (k := 4) rfl rfl (by decide) rfl (fun ls hl => ?_)
      refine lv_goto (tgt := 5) hx hb dX9_onStrand_55 (by decide) ?_
      exact hc5 _ _ _ _ h _ _ _ hP hD hS (lv_sub hl [2, 3, 4, 1, 0] rfl)
    have B49 : ∀ (v1 : Int32) (v2 : Int32) (v4 : Int32) (y0 : Int32) (H : Heap) (locs : List Loc) (ls : Array Slot), b_X9_onStrand_49 F mo k5 v1 v2 v4 y0 = some res → va_P D vwCl (moW k va mo) H → va_D A (moW k va mo) → va_S A s.heap H locs → lv_has ls 5 [(0, .ref (va 0)), (1, .int v1), (2, .int v2), (4, .int v4)] → W p l e (rmK 2 0 0) s m (List.toArray [.ref (va 0), .int x1, .int x2]) below meth c H locs 0 0 (MQ below (va_Qi (fun r (_ : Unit) => r = res) (hcB D (fun _ : Unit => moW k va mo) A) A) (List.toArray [.ref (va 0), .int x1, .int x2]) s 0 0 A) (F0 m 49 ls [.int y0]) := by
      intro v1 v2 v4 y0 H locs ls h hP hD hS hl
      refine lv_iconst (v := 0) hx hb dX9_onStrand_49 (by decide) ?_
      exact B50 _ _ _ _ _ _ _ _ h hP hD hS hl
    refine lv_iload hx hb dX9_onStrand_5 (lv_at hl 4 rfl) ?_
    refine lv_aload_n hx hb dX9_onStrand_7 rfl (lv_at hl 0 rfl) ?_
    refine va_get (D := D) (ci := 7) (v := .ref (va 1)) (C := RX9) (T := TX9) (N := 53) hx hb hts in9 hown hG.1 hP 0 rfl rfl 1 (by decide) (hts (.fieldLink RX9 9 "ChairCaneModel" "scalar" "[I") (mem_b bq_wsX9_onStrand 0 0 rfl)) (fun _ h9 => h9) rfl dX9_onStrand_8 ?_
    refine lv_iconst (v := 3) hx hb dX9_onStrand_11 (by decide) ?_
    refine va_iald hx hb hG.1 hP 1 0 rfl rfl (by unfold vp_in; decide) dX9_onStrand_12 ?_
    refine lv_icmp_ge (tgt := 58) hx hb dX9_onStrand_13 (by decide) (fun c1 => ?_) (fun c1 => ?_)
    · have h := fw_t c1 h
      refine lv_iload_n hx hb dX9_onStrand_58 rfl (lv_at hl 3 rfl) ?_
      exact fw_endI (rv := fun b : Int32 => b) (wp := fun b : Int32 => moW k va mo) hx hb hr hlocks h rfl hP hD hS dX9_onStrand_59
    · have h := fw_f c1 h
      refine lv_iload_n hx hb dX9_onStrand_16 rfl (lv_at hl 3 rfl) ?_
      refine lv_iload_n hx hb dX9_onStrand_17 rfl (lv_at hl 1 rfl) ?_
      refine lv_iload hx hb dX9_onStrand_18 (lv_at hl 4 rfl) ?_
      refine fw_Si (As := [.int a5.1, .int a5.2.2.2]) (rest := [.int a5.2.2.1]) (n := 2) (wr := moW k va mo) (rv := fun b : Int32 => b) (wp := fun b : Int32 => []) h hx hb hml hown hts hG hA hP hD hS hl.1 [] (List.range (moW k va mo).length) (fun q hq9 => c_X9_has l D k _   F a5.1 a5.2.2.2   hq9) gX9_onStrand_X9_has rfl ⟨rfl, rfl, Nat.le_of_ble_eq_true rfl, Nat.le_of_ble_eq_true rfl⟩ (by decide +kernel) rfl (al_C _) (al_m _) ⟨rfl, rfl, Nat.le_of_ble_eq_true rfl, Nat.le_of_ble_eq_true rfl, Nat.le_of_ble_eq_true rfl⟩ dX9_onStrand_20 (fun q2 H locs h hP hD hS => ?_)
      obtain ⟨hP, hD⟩ := cv (w' := (moW k va mo) ++ []) hP hD rfl
      rw [List.append_nil] at hP hD
      refine hc_is (z := q2) rfl ?_
      refine lv_if_eq (tgt := 49) hx hb dX9_onStrand_23 (by decide) (fun c3 => ?_) (fun c3 => ?_)
      · have h := fw_t c3 h
        exact B49 _ _ _ _ _ _ _ h hP hD hS (lv_sub hl [0, 1, 2, 4] rfl)
      · have h := fw_f c3 h
        refine lv_aload_n hx hb dX9_onStrand_26 rfl (lv_at hl 0 rfl) ?_
        refine va_get (D := D) (ci := 7) (v := .ref (va 4)) (C := RX9) (T := TX9) (N := 53) hx hb hts in9 hown hG.1 hP 0 rfl rfl 4 (by decide) (hts (.fieldLink RX9 19 "ChairCaneModel" "strandOf" "[I") (mem_b bq_wsX9_onStrand 0 1 rfl)) (fun _ h9 => h9) rfl dX9_onStrand_27 ?_
        refine lv_aload_n hx hb dX9_onStrand_30 rfl (lv_at hl 0 rfl) ?_
        refine va_get (D := D) (ci := 7) (v := .ref (va 7)) (C := RX9) (T := TX9) (N := 53) hx hb hts in9 hown hG.1 hP 0 rfl rfl 7 (by decide) (hts (.fieldLink RX9 28 "ChairCaneModel" "chairOf" "[I") (mem_b bq_wsX9_onStrand 0 2 rfl)) (fun _ h9 => h9) rfl dX9_onStrand_31 ?_
        refine lv_iload hx hb dX9_onStrand_34 (lv_at hl 4 rfl) ?_
        obtain ⟨g4, h⟩ := fw_g h
        refine va_iald hx hb hG.1 hP 7 0 rfl rfl (ib_vp g4) dX9_onStrand_36 ?_
        obtain ⟨g5, h⟩ := fw_g h
        refine va_iald hx hb hG.1 hP 4 0 rfl rfl (ib_vp g5) dX9_onStrand_37 ?_
        refine lv_iload_n hx hb dX9_onStrand_38 rfl (lv_at hl 2 rfl) ?_
        refine lv_icmp_ne (tgt := 49) hx hb dX9_onStrand_39 (by decide) (fun c6 => ?_) (fun c6 => ?_)
        · have h := fw_f c6 h
          exact B49 _ _ _ _ _ _ _ h hP hD hS (lv_sub hl [0, 1, 2, 4] rfl)
        · have h := fw_t c6 h
          refine lv_iconst (v := 1) hx hb dX9_onStrand_42 (by decide) ?_
          refine lv_iload hx hb dX9_onStrand_43 (lv_at hl 4 rfl) ?_
          refine lv_ishl hx hb dX9_onStrand_45 ?_
          refine lv_goto (tgt := 50) hx hb dX9_onStrand_46 (by decide) ?_
          exact B50 _ _ _ _ _ _ _ _ h hP hD hS (lv_sub hl [0, 1, 2, 4] rfl)
  have C5 : ∀ (v1 : Int32) (v2 : Int32) (v3 : Int32) (v4 : Int32), lp (b_X9_onStrand_5 F mo) F (v1, v2, v3, v4) = some res → ∀ (H : Heap) (locs : List Loc) (ls : Array Slot), va_P D vwCl (moW k va mo) H → va_D A (moW k va mo) → va_S A s.heap H locs → lv_has ls 5 [(0, .ref (va 0)), (1, .int v1), (2, .int v2), (3, .int v3), (4, .int v4)] → W p l e (rmK 2 0 0) s m (List.toArray [.ref (va 0), .int x1, .int x2]) below meth c H locs 0 0 (MQ below (va_Qi (fun r (_ : Unit) => r = res) (hcB D (fun _ : Unit => moW k va mo) A) A) (List.toArray [.ref (va 0), .int x1, .int x2]) s 0 0 A) (F0 m 5 ls []) := fun v1 v2 v3 v4 => B5 (v1, v2, v3, v4)
  refine lv_iconst (v := 0) hx hb dX9_onStrand_0 (by decide) ?_
  refine lv_istore_n (lv' := [(3, .int 0), (0, .ref (va 0)), (1, .int x1), (2, .int x2)]) hx hb dX9_onStrand_1 rfl hl (by decide) rfl (fun ls hl => ?_)
  refine lv_iconst (v := 0) hx hb dX9_onStrand_2 (by decide) ?_
  refine lv_istore (lv' := [(4, .int 0), (3, .int 0), (0, .ref (va 0)), (1, .int x1), (2, .int x2)]) hx hb dX9_onStrand_3 hl (by decide) rfl (fun ls hl => ?_)
  exact C5 _ _ _ _ h _ _ _ hP hD hS (lv_sub hl [2, 3, 4, 1, 0] rfl)
noncomputable def b_X9_weightOf_33 (F : Nat)  (mo : OB) (k4 : (Int32 × Int32 × Int32) → Option (Int32)) (v1 : Int32) (v3 : Int32) (y0 : Int32) (y1 : Int32) : Option (Int32) :=
  k4 (v1, (y1 + y0), (v3 + 1))
noncomputable def b_X9_weightOf_4 (F : Nat)  (mo : OB)  (k4 : (Int32 × Int32 × Int32) → Option (Int32)) (a4 : (Int32 × Int32 × Int32)) : Option (Int32) :=
  if ((mo.2.1 1) (Int32.toNatClampNeg 3)) ≤ a4.2.2 then (some a4.2.1) else (Option.bind (f_X9_has F a4.1 a4.2.2) (fun q2 => (if q2 = 0 then (b_X9_weightOf_33 F mo k4 a4.1 a4.2.2 0 a4.2.1) else (if ib a4.2.2 8 then (b_X9_weightOf_33 F mo k4 a4.1 a4.2.2 ((mo.2.1 5) (Int32.toNatClampNeg a4.2.2)) a4.2.1) else none))))
noncomputable def f_X9_weightOf (F : Nat)  (x1 : Int32) (mo : OB) : Option (Int32) :=
  lp (b_X9_weightOf_4 F mo) F (x1, 0, 0)
set_option maxHeartbeats 4000000 in
set_option maxRecDepth 100000 in
theorem c_X9_weightOf (l : Launch) (D : va_G) (k : Nat → ClassId) (sz : Nat)  (va : Nat → Nat) (F : Nat)  (x1 : Int32) (mo : OB)  {res : Int32} (h : f_X9_weightOf F x1 mo = some res) : CtI l yX9_weightOf wsX9_weightOf (rmK 2 0 0) [.ref (va 0), .int x1] D k sz (moW k va mo) (fun r (_ : Unit) => r = res) (fun _ : Unit => moW k va mo) 0 0 := by
  refine CtI.mk (cc := cX9_weightOf) (maxL := 4) (ret := (some .int)) (by decide) rfl (Nat.le_of_ble_eq_true rfl) ?_
  intro p e s m below meth c A ls E hP hD hS hl
  obtain ⟨hx, hb, hr, hml, hown, hts, hlocks, hin, hG, hA⟩ := E
  have hown : s.vm.findClass RX9 = some m.cls := hown
  have in9 : ∀ w ∈ u_ws RX9 TX9 53, w ∈ wsX9_weightOf := fun _ h => List.mem_cons_of_mem _ (List.mem_append_right _ h)
  have hl : lv_has ls 4 [(0, .ref (va 0)), (1, .int x1)] := hl
  have B4 : ∀ a4 : (Int32 × Int32 × Int32), lp (b_X9_weightOf_4 F mo) F a4 = some res → ∀ (H : Heap) (locs : List Loc) (ls : Array Slot), va_P D vwCl (moW k va mo) H → va_D A (moW k va mo) → va_S A s.heap H locs → lv_has ls 4 [(0, .ref (va 0)), (1, .int a4.1), (2, .int a4.2.1), (3, .int a4.2.2)] → W p l e (rmK 2 0 0) s m (List.toArray [.ref (va 0), .int x1]) below meth c H locs 0 0 (MQ below (va_Qi (fun r (_ : Unit) => r = res) (hcB D (fun _ : Unit => moW k va mo) A) A) (List.toArray [.ref (va 0), .int x1]) s 0 0 A) (F0 m 4 ls []) := by
    refine lp_W ?_ F
    intro k4 hk4 a4 h H locs ls hP hD hS hl
    have hc4 : ∀ (v1 : Int32) (v2 : Int32) (v3 : Int32), k4 (v1, v2, v3) = some res → ∀ (H : Heap) (locs : List Loc) (ls : Array Slot), va_P D vwCl (moW k va mo) H → va_D A (moW k va mo) → va_S A s.heap H locs → lv_has ls 4 [(0, .ref (va 0)), (1, .int v1), (2, .int v2), (3, .int v3)] → W p l e (rmK 2 0 0) s m (List.toArray [.ref (va 0), .int x1]) below meth c H locs 0 0 (MQ below (va_Qi (fun r (_ : Unit) => r = res) (hcB D (fun _ : Unit => moW k va mo) A) A) (List.toArray [.ref (va 0), .int x1]) s 0 0 A) (F0 m 4 ls []) := fun v1 v2 v3 => hk4 (v1, v2, v3)
    have B33 : ∀ (v1 : Int32) (v3 : Int32) (y0 : Int32) (y1 : Int32) (H : Heap) (locs : List Loc) (ls : Array Slot), b_X9_weightOf_33 F mo k4 v1 v3 y0 y1 = some res → va_P D vwCl (moW k va mo) H → va_D A (moW k va mo) → va_S A s.heap H locs → lv_has ls 4 [(0, .ref (va 0)), (1, .int v1), (3, .int v3)] → W p l e (rmK 2 0 0) s m (List.toArray [.ref (va 0), .int x1]) below meth c H locs 0 0 (MQ below (va_Qi (fun r (_ : Unit) => r = res) (hcB D (fun _ : Unit => moW k va mo) A) A) (List.toArray [.ref (va 0), .int x1]) s 0 0 A) (F0 m 33 ls [.int y0, .int y1]) := by
      intro v1 v3 y0 y1 H locs ls h hP hD hS hl
      refine lv_iadd hx hb dX9_weightOf_33 ?_
      refine lv_istore_n (lv' := [(2, .int (y1 + y0)), (0, .ref (va 0)), (1, .int v1), (3, .int v3)]) hx hb dX9_weightOf_34 rfl hl (by decide) rfl (fun ls hl => ?_)
      refine lv_iinc (v := (v3 + 1)) (lv' := [(3, .int (v3 + 1)), (2, .int (y1 + y0)), (0, .ref (va 0)), (1, .int v1)]) hx hb dX9_weightOf_35 hl (k := 3) rfl rfl (by decide) rfl (fun ls hl => ?_)
      refine lv_goto (tgt := 4) hx hb dX9_weightOf_38 (by decide) ?_
      exact hc4 _ _ _ h _ _ _ hP hD hS (lv_sub hl [2, 3, 1, 0] rfl)
    refine lv_iload_n hx hb dX9_weightOf_4 rfl (lv_at hl 3 rfl) ?_
    refine lv_aload_n hx hb dX9_weightOf_5 rfl (lv_at hl 0 rfl) ?_
    refine va_get (D := D) (ci := 7) (v := .ref (va 1)) (C := RX9) (T := TX9) (N := 53) hx hb hts in9 hown hG.1 hP 0 rfl rfl 1 (by decide) (hts (.fieldLink RX9 9 "ChairCaneModel" "scalar" "[I") (mem_b bq_wsX9_weightOf 0 0 rfl)) (fun _ h9 => h9) rfl dX9_weightOf_6 ?_
    refine lv_iconst (v := 3) hx hb dX9_weightOf_9 (by decide) ?_
    refine va_iald hx hb hG.1 hP 1 0 rfl rfl (by unfold vp_in; decide) dX9_weightOf_10 ?_
    refine lv_icmp_ge (tgt := 41) hx hb dX9_weightOf_11 (by decide) (fun c1 => ?_) (fun c1 => ?_)
    · have h := fw_t c1 h
      refine lv_iload_n hx hb dX9_weightOf_41 rfl (lv_at hl 2 rfl) ?_
      exact fw_endI (rv := fun b : Int32 => b) (wp := fun b : Int32 => moW k va mo) hx hb hr hlocks h rfl hP hD hS dX9_weightOf_42
    · have h := fw_f c1 h
      refine lv_iload_n hx hb dX9_weightOf_14 rfl (lv_at hl 2 rfl) ?_
      refine lv_iload_n hx hb dX9_weightOf_15 rfl (lv_at hl 1 rfl) ?_
      refine lv_iload_n hx hb dX9_weightOf_16 rfl (lv_at hl 3 rfl) ?_
      refine fw_Si (As := [.int a4.1, .int a4.2.2]) (rest := [.int a4.2.1]) (n := 2) (wr := moW k va mo) (rv := fun b : Int32 => b) (wp := fun b : Int32 => []) h hx hb hml hown hts hG hA hP hD hS hl.1 [] (List.range (moW k va mo).length) (fun q hq9 => c_X9_has l D k _   F a4.1 a4.2.2   hq9) gX9_weightOf_X9_has rfl ⟨rfl, rfl, Nat.le_of_ble_eq_true rfl, Nat.le_of_ble_eq_true rfl⟩ (by decide +kernel) rfl (al_C _) (al_m _) ⟨rfl, rfl, Nat.le_of_ble_eq_true rfl, Nat.le_of_ble_eq_true rfl, Nat.le_of_ble_eq_true rfl⟩ dX9_weightOf_17 (fun q2 H locs h hP hD hS => ?_)
      obtain ⟨hP, hD⟩ := cv (w' := (moW k va mo) ++ []) hP hD rfl
      rw [List.append_nil] at hP hD
      refine hc_is (z := q2) rfl ?_
      refine lv_if_eq (tgt := 32) hx hb dX9_weightOf_20 (by decide) (fun c3 => ?_) (fun c3 => ?_)
      · have h := fw_t c3 h
        refine lv_iconst (v := 0) hx hb dX9_weightOf_32 (by decide) ?_
        exact B33 _ _ _ _ _ _ _ h hP hD hS (lv_sub hl [0, 1, 3] rfl)
      · have h := fw_f c3 h
        refine lv_aload_n hx hb dX9_weightOf_23 rfl (lv_at hl 0 rfl) ?_
        refine va_get (D := D) (ci := 7) (v := .ref (va 5)) (C := RX9) (T := TX9) (N := 53) hx hb hts in9 hown hG.1 hP 0 rfl rfl 5 (by decide) (hts (.fieldLink RX9 22 "ChairCaneModel" "weight" "[I") (mem_b bq_wsX9_weightOf 0 1 rfl)) (fun _ h9 => h9) rfl dX9_weightOf_24 ?_
        refine lv_iload_n hx hb dX9_weightOf_27 rfl (lv_at hl 3 rfl) ?_
        obtain ⟨g4, h⟩ := fw_g h
        refine va_iald hx hb hG.1 hP 5 0 rfl rfl (ib_vp g4) dX9_weightOf_28 ?_
        refine lv_goto (tgt := 33) hx hb dX9_weightOf_29 (by decide) ?_
        exact B33 _ _ _ _ _ _ _ h hP hD hS (lv_sub hl [0, 1, 3] rfl)
  have C4 : ∀ (v1 : Int32) (v2 : Int32) (v3 : Int32), lp (b_X9_weightOf_4 F mo) F (v1, v2, v3) = some res → ∀ (H : Heap) (locs : List Loc) (ls : Array Slot), va_P D vwCl (moW k va mo) H → va_D A (moW k va mo) → va_S A s.heap H locs → lv_has ls 4 [(0, .ref (va 0)), (1, .int v1), (2, .int v2), (3, .int v3)] → W p l e (rmK 2 0 0) s m (List.toArray [.ref (va 0), .int x1]) below meth c H locs 0 0 (MQ below (va_Qi (fun r (_ : Unit) => r = res) (hcB D (fun _ : Unit => moW k va mo) A) A) (List.toArray [.ref (va 0), .int x1]) s 0 0 A) (F0 m 4 ls []) := fun v1 v2 v3 => B4 (v1, v2, v3)
  refine lv_iconst (v := 0) hx hb dX9_weightOf_0 (by decide) ?_
  refine lv_istore_n (lv' := [(2, .int 0), (0, .ref (va 0)), (1, .int x1)]) hx hb dX9_weightOf_1 rfl hl (by decide) rfl (fun ls hl => ?_)
  refine lv_iconst (v := 0) hx hb dX9_weightOf_2 (by decide) ?_
  refine lv_istore_n (lv' := [(3, .int 0), (2, .int 0), (0, .ref (va 0)), (1, .int x1)]) hx hb dX9_weightOf_3 rfl hl (by decide) rfl (fun ls hl => ?_)
  exact C4 _ _ _ h _ _ _ hP hD hS (lv_sub hl [2, 3, 1, 0] rfl)
noncomputable def b_X9_gives_48 (F : Nat)  (mo : OB)  (y0 : Int32) : Option (Int32) :=
  some y0
noncomputable def f_X9_gives (F : Nat)  (x1 : Int32) (x2 : Int32) (mo : OB) : Option (Int32) :=
  if ib x2 8 then (if ib ((mo.2.1 7) (Int32.toNatClampNeg x2)) 8 then (Option.bind (f_X9_has F x1 x2) (fun q3 => (if q3 = 0 then (b_X9_gives_48 F mo 0) else (if ib ((mo.2.1 4) (Int32.toNatClampNeg ((mo.2.1 7) (Int32.toNatClampNeg x2)))) 4 then (Option.bind (f_X9_onStrand F x1 ((mo.2.1 4) (Int32.toNatClampNeg ((mo.2.1 7) (Int32.toNatClampNeg x2)))) mo) (fun q6 => (Option.bind (f_X9_weightOf F q6 mo) (fun q7 => (if ¬ q7 = 0 then (b_X9_gives_48 F mo ((((mo.2.1 2) (Int32.toNatClampNeg ((mo.2.1 4) (Int32.toNatClampNeg ((mo.2.1 7) (Int32.toNatClampNeg x2)))))) * ((mo.2.1 5) (Int32.toNatClampNeg x2))) / q7)) else none))))) else none)))) else none) else none
set_option maxHeartbeats 4000000 in
set_option maxRecDepth 100000 in
theorem c_X9_gives (l : Launch) (D : va_G) (k : Nat → ClassId) (sz : Nat)  (va : Nat → Nat) (F : Nat)  (x1 : Int32) (x2 : Int32) (mo : OB)  {res : Int32} (h : f_X9_gives F x1 x2 mo = some res) : CtI l yX9_gives wsX9_gives (rmK 3 0 0) [.ref (va 0), .int x1, .int x2] D k sz (moW k va mo) (fun r (_ : Unit) => r = res) (fun _ : Unit => moW k va mo) 0 0 := by
  refine CtI.mk (cc := cX9_gives) (maxL := 4) (ret := (some .int)) (by decide) rfl (Nat.le_of_ble_eq_true rfl) ?_
  intro p e s m below meth c A ls E hP hD hS hl
  obtain ⟨hx, hb, hr, hml, hown, hts, hlocks, hin, hG, hA⟩ := E
  have hown : s.vm.findClass RX9 = some m.cls := hown
  have in9 : ∀ w ∈ u_ws RX9 TX9 53, w ∈ wsX9_gives := fun _ h => List.mem_cons_of_mem _ (List.mem_append_right _ h)
  have hl : lv_has ls 4 [(0, .ref (va 0)), (1, .int x1), (2, .int x2)] := hl
  have B48 : ∀ (y0 : Int32) (H : Heap) (locs : List Loc) (ls : Array Slot), b_X9_gives_48 F mo y0 = some res → va_P D vwCl (moW k va mo) H → va_D A (moW k va mo) → va_S A s.heap H locs → lv_has ls 4 [] → W p l e (rmK 3 0 0) s m (List.toArray [.ref (va 0), .int x1, .int x2]) below meth c H locs 0 0 (MQ below (va_Qi (fun r (_ : Unit) => r = res) (hcB D (fun _ : Unit => moW k va mo) A) A) (List.toArray [.ref (va 0), .int x1, .int x2]) s 0 0 A) (F0 m 48 ls [.int y0]) := by
    intro y0 H locs ls h hP hD hS hl
    exact fw_endI (rv := fun b : Int32 => b) (wp := fun b : Int32 => moW k va mo) hx hb hr hlocks h rfl hP hD hS dX9_gives_48
  refine lv_aload_n hx hb dX9_gives_0 rfl (lv_at hl 0 rfl) ?_
  refine va_get (D := D) (ci := 7) (v := .ref (va 4)) (C := RX9) (T := TX9) (N := 53) hx hb hts in9 hown hG.1 hP 0 rfl rfl 4 (by decide) (hts (.fieldLink RX9 19 "ChairCaneModel" "strandOf" "[I") (mem_b bq_wsX9_gives 0 0 rfl)) (fun _ h9 => h9) rfl dX9_gives_1 ?_
  refine lv_aload_n hx hb dX9_gives_4 rfl (lv_at hl 0 rfl) ?_
  refine va_get (D := D) (ci := 7) (v := .ref (va 7)) (C := RX9) (T := TX9) (N := 53) hx hb hts in9 hown hG.1 hP 0 rfl rfl 7 (by decide) (hts (.fieldLink RX9 28 "ChairCaneModel" "chairOf" "[I") (mem_b bq_wsX9_gives 0 1 rfl)) (fun _ h9 => h9) rfl dX9_gives_5 ?_
  refine lv_iload_n hx hb dX9_gives_8 rfl (lv_at hl 2 rfl) ?_
  obtain ⟨g1, h⟩ := fw_g h
  refine va_iald hx hb hG.1 hP 7 0 rfl rfl (ib_vp g1) dX9_gives_9 ?_
  obtain ⟨g2, h⟩ := fw_g h
  refine va_iald hx hb hG.1 hP 4 0 rfl rfl (ib_vp g2) dX9_gives_10 ?_
  refine lv_istore_n (lv' := [(3, .int ((mo.2.1 4) (Int32.toNatClampNeg ((mo.2.1 7) (Int32.toNatClampNeg x2))))), (0, .ref (va 0)), (1, .int x1), (2, .int x2)]) hx hb dX9_gives_11 rfl hl (by decide) rfl (fun ls hl => ?_)
  refine lv_iload_n hx hb dX9_gives_12 rfl (lv_at hl 2 rfl) ?_
  refine lv_iload_n hx hb dX9_gives_13 rfl (lv_at hl 3 rfl) ?_
  refine fw_Si (As := [.int x1, .int x2]) (rest := []) (n := 2) (wr := moW k va mo) (rv := fun b : Int32 => b) (wp := fun b : Int32 => []) h hx hb hml hown hts hG hA hP hD hS hl.1 [] (List.range (moW k va mo).length) (fun q hq9 => c_X9_has l D k _   F x1 x2   hq9) gX9_gives_X9_has rfl ⟨rfl, rfl, Nat.le_of_ble_eq_true rfl, Nat.le_of_ble_eq_true rfl⟩ (by decide +kernel) rfl (al_C _) (al_m _) ⟨rfl, rfl, Nat.le_of_ble_eq_true rfl, Nat.le_of_ble_eq_true rfl, Nat.le_of_ble_eq_true rfl⟩ dX9_gives_14 (fun q3 H locs h hP hD hS => ?_)
  obtain ⟨hP, hD⟩ := cv (w' := (moW k va mo) ++ []) hP hD rfl
  rw [List.append_nil] at hP hD
  refine hc_is (z := q3) rfl ?_
  refine lv_if_eq (tgt := 47) hx hb dX9_gives_17 (by decide) (fun c4 => ?_) (fun c4 => ?_)
  · have h := fw_t c4 h
    refine lv_iconst (v := 0) hx hb dX9_gives_47 (by decide) ?_
    exact B48 _ _ _ _ h hP hD hS (lv_sub hl [] rfl)
  · have h := fw_f c4 h
    refine lv_aload_n hx hb dX9_gives_20 rfl (lv_at hl 1 rfl) ?_
    refine va_get (D := D) (ci := 7) (v := .ref (va 2)) (C := RX9) (T := TX9) (N := 53) hx hb hts in9 hown hG.1 hP 0 rfl rfl 2 (by decide) (hts (.fieldLink RX9 13 "ChairCaneModel" "cane" "[I") (mem_b bq_wsX9_gives 0 2 rfl)) (fun _ h9 => h9) rfl dX9_gives_21 ?_
    refine lv_iload_n hx hb dX9_gives_24 rfl (lv_at hl 0 rfl) ?_
    obtain ⟨g5, h⟩ := fw_g h
    refine va_iald hx hb hG.1 hP 2 0 rfl rfl (ib_vp g5) dX9_gives_25 ?_
    refine lv_aload_n hx hb dX9_gives_26 rfl (lv_at hl 1 rfl) ?_
    refine va_get (D := D) (ci := 7) (v := .ref (va 5)) (C := RX9) (T := TX9) (N := 53) hx hb hts in9 hown hG.1 hP 0 rfl rfl 5 (by decide) (hts (.fieldLink RX9 22 "ChairCaneModel" "weight" "[I") (mem_b bq_wsX9_gives 0 3 rfl)) (fun _ h9 => h9) rfl dX9_gives_27 ?_
    refine lv_iload_n hx hb dX9_gives_30 rfl (lv_at hl 3 rfl) ?_
    refine va_iald hx hb hG.1 hP 5 0 rfl rfl (ib_vp g1) dX9_gives_31 ?_
    refine lv_imul hx hb dX9_gives_32 ?_
    refine lv_aload_n hx hb dX9_gives_33 rfl (lv_at hl 1 rfl) ?_
    refine lv_aload_n hx hb dX9_gives_34 rfl (lv_at hl 1 rfl) ?_
    refine lv_iload_n hx hb dX9_gives_35 rfl (lv_at hl 2 rfl) ?_
    refine lv_iload_n hx hb dX9_gives_36 rfl (lv_at hl 0 rfl) ?_
    refine fw_Vi (As := [.int x1, .int ((mo.2.1 4) (Int32.toNatClampNeg ((mo.2.1 7) (Int32.toNatClampNeg x2))))]) (rest := [.ref (va 0), .int (((mo.2.1 2) (Int32.toNatClampNeg ((mo.2.1 4) (Int32.toNatClampNeg ((mo.2.1 7) (Int32.toNatClampNeg x2)))))) * ((mo.2.1 5) (Int32.toNatClampNeg x2)))]) (n := 2) (wr := []) (rv := fun b : Int32 => b) (wp := fun b : Int32 => moW k va mo) h hx hb hml hown hts hG hA hP hD hS hl.1 (List.range (moW k va mo).length) [] (fun q hq9 => c_X9_onStrand l D k _  va F x1 ((mo.2.1 4) (Int32.toNatClampNeg ((mo.2.1 7) (Int32.toNatClampNeg x2)))) mo  hq9) (ci := 7) (q0 := 0) rfl rfl gX9_gives_X9_onStrand rfl ⟨rfl, rfl, Nat.le_of_ble_eq_true rfl, Nat.le_of_ble_eq_true rfl⟩ (by decide +kernel) (al_C _) rfl (al_n _) ⟨rfl, rfl, Nat.le_of_ble_eq_true rfl, Nat.le_of_ble_eq_true rfl, Nat.le_of_ble_eq_true rfl⟩ dX9_gives_37 (fun q6 H locs h hP hD hS => ?_)
    obtain ⟨hP, hD⟩ := cv (w' := moW k va mo) hP hD rfl
    refine hc_is (z := q6) rfl ?_
    refine fw_Vi (As := [.int q6]) (rest := [.int (((mo.2.1 2) (Int32.toNatClampNeg ((mo.2.1 4) (Int32.toNatClampNeg ((mo.2.1 7) (Int32.toNatClampNeg x2)))))) * ((mo.2.1 5) (Int32.toNatClampNeg x2)))]) (n := 1) (wr := []) (rv := fun b : Int32 => b) (wp := fun b : Int32 => moW k va mo) h hx hb hml hown hts hG hA hP hD hS hl.1 (List.range (moW k va mo).length) [] (fun q hq9 => c_X9_weightOf l D k _  va F q6 mo  hq9) (ci := 7) (q0 := 0) rfl rfl gX9_gives_X9_weightOf rfl ⟨rfl, rfl, Nat.le_of_ble_eq_true rfl, Nat.le_of_ble_eq_true rfl⟩ (by decide +kernel) (al_C _) rfl (al_n _) ⟨rfl, rfl, Nat.le_of_ble_eq_true rfl, Nat.le_of_ble_eq_true rfl, Nat.le_of_ble_eq_true rfl⟩ dX9_gives_40 (fun q7 H locs h hP hD hS => ?_)
    obtain ⟨hP, hD⟩ := cv (w' := moW k va mo) hP hD rfl
    refine hc_is (z := q7) rfl ?_
    obtain ⟨g8, h⟩ := fw_g h
    refine lv_idiv hx hb dX9_gives_43 g8 ?_
    refine lv_goto (tgt := 48) hx hb dX9_gives_44 (by decide) ?_
    exact B48 _ _ _ _ h hP hD hS (lv_sub hl [] rfl)
noncomputable def f_X9_givesNow (F : Nat)  (x1 : Int32) (mo : OB) : Option (Int32) :=
  Option.bind (f_X9_those F 1 mo) (fun q1 => (Option.bind (f_X9_gives F q1 x1 mo) (fun q2 => (some q2))))
set_option maxHeartbeats 4000000 in
set_option maxRecDepth 100000 in
theorem c_X9_givesNow (l : Launch) (D : va_G) (k : Nat → ClassId) (sz : Nat)  (va : Nat → Nat) (F : Nat)  (x1 : Int32) (mo : OB)  {res : Int32} (h : f_X9_givesNow F x1 mo = some res) : CtI l yX9_givesNow wsX9_givesNow (rmK 4 0 0) [.ref (va 0), .int x1] D k sz (moW k va mo) (fun r (_ : Unit) => r = res) (fun _ : Unit => moW k va mo) 0 0 := by
  refine CtI.mk (cc := cX9_givesNow) (maxL := 2) (ret := (some .int)) (by decide) rfl (Nat.le_of_ble_eq_true rfl) ?_
  intro p e s m below meth c A ls E hP hD hS hl
  obtain ⟨hx, hb, hr, hml, hown, hts, hlocks, hin, hG, hA⟩ := E
  have hown : s.vm.findClass RX9 = some m.cls := hown
  have in9 : ∀ w ∈ u_ws RX9 TX9 53, w ∈ wsX9_givesNow := fun _ h => List.mem_cons_of_mem _ (List.mem_append_right _ h)
  have hl : lv_has ls 2 [(0, .ref (va 0)), (1, .int x1)] := hl
  refine lv_aload_n hx hb dX9_givesNow_0 rfl (lv_at hl 0 rfl) ?_
  refine lv_aload_n hx hb dX9_givesNow_1 rfl (lv_at hl 0 rfl) ?_
  refine lv_iconst (v := 1) hx hb dX9_givesNow_2 (by decide) ?_
  refine fw_Vi (As := [.int 1]) (rest := [.ref (va 0)]) (n := 1) (wr := []) (rv := fun b : Int32 => b) (wp := fun b : Int32 => moW k va mo) h hx hb hml hown hts hG hA hP hD hS hl.1 (List.range (moW k va mo).length) [] (fun q hq9 => c_X9_those l D k _  va F 1 mo  hq9) (ci := 7) (q0 := 0) rfl rfl gX9_givesNow_X9_those rfl ⟨rfl, rfl, Nat.le_of_ble_eq_true rfl, Nat.le_of_ble_eq_true rfl⟩ (by decide +kernel) (al_C _) rfl (al_n _) ⟨rfl, rfl, Nat.le_of_ble_eq_true rfl, Nat.le_of_ble_eq_true rfl, Nat.le_of_ble_eq_true rfl⟩ dX9_givesNow_3 (fun q1 H locs h hP hD hS => ?_)
  obtain ⟨hP, hD⟩ := cv (w' := moW k va mo) hP hD rfl
  refine hc_is (z := q1) rfl ?_
  refine lv_iload_n hx hb dX9_givesNow_6 rfl (lv_at hl 1 rfl) ?_
  refine fw_Vi (As := [.int q1, .int x1]) (rest := []) (n := 2) (wr := []) (rv := fun b : Int32 => b) (wp := fun b : Int32 => moW k va mo) h hx hb hml hown hts hG hA hP hD hS hl.1 (List.range (moW k va mo).length) [] (fun q hq9 => c_X9_gives l D k _  va F q1 x1 mo  hq9) (ci := 7) (q0 := 0) rfl rfl gX9_givesNow_X9_gives rfl ⟨rfl, rfl, Nat.le_of_ble_eq_true rfl, Nat.le_of_ble_eq_true rfl⟩ (by decide +kernel) (al_C _) rfl (al_n _) ⟨rfl, rfl, Nat.le_of_ble_eq_true rfl, Nat.le_of_ble_eq_true rfl, Nat.le_of_ble_eq_true rfl⟩ dX9_givesNow_7 (fun q2 H locs h hP hD hS => ?_)
  obtain ⟨hP, hD⟩ := cv (w' := moW k va mo) hP hD rfl
  refine hc_is (z := q2) rfl ?_
  exact fw_endI (rv := fun b : Int32 => b) (wp := fun b : Int32 => moW k va mo) hx hb hr hlocks h rfl hP hD hS dX9_givesNow_10
noncomputable def b_X9_strand_18 (F : Nat)  (mo : OB)  (y0 : Int32) : Option (Int32) :=
  some y0
noncomputable def f_X9_strand (F : Nat)  (x1 : Int32) (mo : OB) : Option (Int32) :=
  Option.bind (f_X9_isStrand F x1 mo) (fun q1 => (if q1 = 0 then (b_X9_strand_18 F mo (-1)) else (if ib x1 4 then (b_X9_strand_18 F mo ((mo.2.1 2) (Int32.toNatClampNeg x1))) else none)))
set_option maxHeartbeats 4000000 in
set_option maxRecDepth 100000 in
theorem c_X9_strand (l : Launch) (D : va_G) (k : Nat → ClassId) (sz : Nat)  (va : Nat → Nat) (F : Nat)  (x1 : Int32) (mo : OB)  {res : Int32} (h : f_X9_strand F x1 mo = some res) : CtI l yX9_strand wsX9_strand (rmK 3 0 0) [.ref (va 0), .int x1] D k sz (moW k va mo) (fun r (_ : Unit) => r = res) (fun _ : Unit => moW k va mo) 0 0 := by
  refine CtI.mk (cc := cX9_strand) (maxL := 2) (ret := (some .int)) (by decide) rfl (Nat.le_of_ble_eq_true rfl) ?_
  intro p e s m below meth c A ls E hP hD hS hl
  obtain ⟨hx, hb, hr, hml, hown, hts, hlocks, hin, hG, hA⟩ := E
  have hown : s.vm.findClass RX9 = some m.cls := hown
  have in9 : ∀ w ∈ u_ws RX9 TX9 53, w ∈ wsX9_strand := fun _ h => List.mem_cons_of_mem _ (List.mem_append_right _ h)
  have hl : lv_has ls 2 [(0, .ref (va 0)), (1, .int x1)] := hl
  have B18 : ∀ (y0 : Int32) (H : Heap) (locs : List Loc) (ls : Array Slot), b_X9_strand_18 F mo y0 = some res → va_P D vwCl (moW k va mo) H → va_D A (moW k va mo) → va_S A s.heap H locs → lv_has ls 2 [] → W p l e (rmK 3 0 0) s m (List.toArray [.ref (va 0), .int x1]) below meth c H locs 0 0 (MQ below (va_Qi (fun r (_ : Unit) => r = res) (hcB D (fun _ : Unit => moW k va mo) A) A) (List.toArray [.ref (va 0), .int x1]) s 0 0 A) (F0 m 18 ls [.int y0]) := by
    intro y0 H locs ls h hP hD hS hl
    exact fw_endI (rv := fun b : Int32 => b) (wp := fun b : Int32 => moW k va mo) hx hb hr hlocks h rfl hP hD hS dX9_strand_18
  refine lv_aload_n hx hb dX9_strand_0 rfl (lv_at hl 0 rfl) ?_
  refine lv_iload_n hx hb dX9_strand_1 rfl (lv_at hl 1 rfl) ?_
  refine fw_Vi (As := [.int x1]) (rest := []) (n := 1) (wr := []) (rv := fun b : Int32 => b) (wp := fun b : Int32 => moW k va mo) h hx hb hml hown hts hG hA hP hD hS hl.1 (List.range (moW k va mo).length) [] (fun q hq9 => c_X9_isStrand l D k _  va F x1 mo  hq9) (ci := 7) (q0 := 0) rfl rfl gX9_strand_X9_isStrand rfl ⟨rfl, rfl, Nat.le_of_ble_eq_true rfl, Nat.le_of_ble_eq_true rfl⟩ (by decide +kernel) (al_C _) rfl (al_n _) ⟨rfl, rfl, Nat.le_of_ble_eq_true rfl, Nat.le_of_ble_eq_true rfl, Nat.le_of_ble_eq_true rfl⟩ dX9_strand_2 (fun q1 H locs h hP hD hS => ?_)
  obtain ⟨hP, hD⟩ := cv (w' := moW k va mo) hP hD rfl
  refine hc_is (z := q1) rfl ?_
  refine lv_if_eq (tgt := 17) hx hb dX9_strand_5 (by decide) (fun c2 => ?_) (fun c2 => ?_)
  · have h := fw_t c2 h
    refine lv_iconst (v := (-1)) hx hb dX9_strand_17 (by decide) ?_
    exact B18 _ _ _ _ h hP hD hS (lv_sub hl [] rfl)
  · have h := fw_f c2 h
    refine lv_aload_n hx hb dX9_strand_8 rfl (lv_at hl 0 rfl) ?_
    refine va_get (D := D) (ci := 7) (v := .ref (va 2)) (C := RX9) (T := TX9) (N := 53) hx hb hts in9 hown hG.1 hP 0 rfl rfl 2 (by decide) (hts (.fieldLink RX9 13 "ChairCaneModel" "cane" "[I") (mem_b bq_wsX9_strand 0 0 rfl)) (fun _ h9 => h9) rfl dX9_strand_9 ?_
    refine lv_iload_n hx hb dX9_strand_12 rfl (lv_at hl 1 rfl) ?_
    obtain ⟨g3, h⟩ := fw_g h
    refine va_iald hx hb hG.1 hP 2 0 rfl rfl (ib_vp g3) dX9_strand_13 ?_
    refine lv_goto (tgt := 18) hx hb dX9_strand_14 (by decide) ?_
    exact B18 _ _ _ _ h hP hD hS (lv_sub hl [] rfl)
noncomputable def b_X9_sitterOf_2 (F : Nat)  (mo : OB)  (k2 : (Int32 × Int32) → Option (Int32)) (a2 : (Int32 × Int32)) : Option (Int32) :=
  if ((mo.2.1 1) (Int32.toNatClampNeg 3)) ≤ a2.2 then (some (-1)) else (if ib a2.2 8 then (if ((mo.2.1 7) (Int32.toNatClampNeg a2.2)) = a2.1 then (some a2.2) else (k2 (a2.1, (a2.2 + 1)))) else none)
noncomputable def f_X9_sitterOf (F : Nat)  (x1 : Int32) (mo : OB) : Option (Int32) :=
  lp (b_X9_sitterOf_2 F mo) F (x1, 0)
set_option maxRecDepth 20000 in
theorem bq_wsX9_sitterOf : subq wsX9_sitterOf [[.fieldLink RX9 9 "ChairCaneModel" "scalar" "[I", .fieldLink RX9 28 "ChairCaneModel" "chairOf" "[I"]] := ⟨(fun _ h => (List.mem_cons_of_mem _ (List.mem_append_left _ h))), trivial⟩
set_option maxHeartbeats 4000000 in
set_option maxRecDepth 100000 in
theorem c_X9_sitterOf (l : Launch) (D : va_G) (k : Nat → ClassId) (sz : Nat)  (va : Nat → Nat) (F : Nat)  (x1 : Int32) (mo : OB)  {res : Int32} (h : f_X9_sitterOf F x1 mo = some res) : CtI l yX9_sitterOf wsX9_sitterOf (rmK 1 0 0) [.ref (va 0), .int x1] D k sz (moW k va mo) (fun r (_ : Unit) => r = res) (fun _ : Unit => moW k va mo) 0 0 := by
  refine CtI.mk (cc := cX9_sitterOf) (maxL := 3) (ret := (some .int)) (by decide) rfl (Nat.le_of_ble_eq_true rfl) ?_
  intro p e s m below meth c A ls E hP hD hS hl
  obtain ⟨hx, hb, hr, hml, hown, hts, hlocks, hin, hG, hA⟩ := E
  have hown : s.vm.findClass RX9 = some m.cls := hown
  have in9 : ∀ w ∈ u_ws RX9 TX9 53, w ∈ wsX9_sitterOf := fun _ h => List.mem_cons_of_mem _ (List.mem_append_right _ h)
  have hl : lv_has ls 3 [(0, .ref (va 0)), (1, .int x1)] := hl
  have B2 : ∀ a2 : (Int32 × Int32), lp (b_X9_sitterOf_2 F mo) F a2 = some res → ∀ (H : Heap) (locs : List Loc) (ls : Array Slot), va_P D vwCl (moW k va mo) H → va_D A (moW k va mo) → va_S A s.heap H locs → lv_has ls 3 [(0, .ref (va 0)), (1, .int a2.1), (2, .int a2.2)] → W p l e (rmK 1 0 0) s m (List.toArray [.ref (va 0), .int x1]) below meth c H locs 0 0 (MQ below (va_Qi (fun r (_ : Unit) => r = res) (hcB D (fun _ : Unit => moW k va mo) A) A) (List.toArray [.ref (va 0), .int x1]) s 0 0 A) (F0 m 2 ls []) := by
    refine lp_W ?_ F
    intro k2 hk2 a2 h H locs ls hP hD hS hl
    have hc2 : ∀ (v1 : Int32) (v2 : Int32), k2 (v1, v2) = some res → ∀ (H : Heap) (locs : List Loc) (ls : Array Slot), va_P D vwCl (moW k va mo) H → va_D A (moW k va mo) → va_S A s.heap H locs → lv_has ls 3 [(0, .ref (va 0)), (1, .int v1), (2, .int v2)] → W p l e (rmK 1 0 0) s m (List.toArray [.ref (va 0), .int x1]) below meth c H locs 0 0 (MQ below (va_Qi (fun r (_ : Unit) => r = res) (hcB D (fun _ : Unit => moW k va mo) A) A) (List.toArray [.ref (va 0), .int x1]) s 0 0 A) (F0 m 2 ls []) := fun v1 v2 => hk2 (v1, v2)
    refine lv_iload_n hx hb dX9_sitterOf_2 rfl (lv_at hl 2 rfl) ?_
    refine lv_aload_n hx hb dX9_sitterOf_3 rfl (lv_at hl 0 rfl) ?_
    refine va_get (D := D) (ci := 7) (v := .ref (va 1)) (C := RX9) (T := TX9) (N := 53) hx hb hts in9 hown hG.1 hP 0 rfl rfl 1 (by decide) (hts (.fieldLink RX9 9 "ChairCaneModel" "scalar" "[I") (mem_b bq_wsX9_sitterOf 0 0 rfl)) (fun _ h9 => h9) rfl dX9_sitterOf_4 ?_
    refine lv_iconst (v := 3) hx hb dX9_sitterOf_7 (by decide) ?_
    refine va_iald hx hb hG.1 hP 1 0 rfl rfl (by unfold vp_in; decide) dX9_sitterOf_8 ?_
    refine lv_icmp_ge (tgt := 30) hx hb dX9_sitterOf_9 (by decide) (fun c1 => ?_) (fun c1 => ?_)
    · have h := fw_t c1 h
      refine lv_iconst (v := (-1)) hx hb dX9_sitterOf_30 (by decide) ?_
      exact fw_endI (rv := fun b : Int32 => b) (wp := fun b : Int32 => moW k va mo) hx hb hr hlocks h rfl hP hD hS dX9_sitterOf_31
    · have h := fw_f c1 h
      refine lv_aload_n hx hb dX9_sitterOf_12 rfl (lv_at hl 0 rfl) ?_
      refine va_get (D := D) (ci := 7) (v := .ref (va 7)) (C := RX9) (T := TX9) (N := 53) hx hb hts in9 hown hG.1 hP 0 rfl rfl 7 (by decide) (hts (.fieldLink RX9 28 "ChairCaneModel" "chairOf" "[I") (mem_b bq_wsX9_sitterOf 0 1 rfl)) (fun _ h9 => h9) rfl dX9_sitterOf_13 ?_
      refine lv_iload_n hx hb dX9_sitterOf_16 rfl (lv_at hl 2 rfl) ?_
      obtain ⟨g2, h⟩ := fw_g h
      refine va_iald hx hb hG.1 hP 7 0 rfl rfl (ib_vp g2) dX9_sitterOf_17 ?_
      refine lv_iload_n hx hb dX9_sitterOf_18 rfl (lv_at hl 1 rfl) ?_
      refine lv_icmp_ne (tgt := 24) hx hb dX9_sitterOf_19 (by decide) (fun c3 => ?_) (fun c3 => ?_)
      · have h := fw_f c3 h
        refine lv_iinc (v := (a2.2 + 1)) (lv' := [(2, .int (a2.2 + 1)), (0, .ref (va 0)), (1, .int a2.1)]) hx hb dX9_sitterOf_24 hl (k := 2) rfl rfl (by decide) rfl (fun ls hl => ?_)
        refine lv_goto (tgt := 2) hx hb dX9_sitterOf_27 (by decide) ?_
        exact hc2 _ _ h _ _ _ hP hD hS (lv_sub hl [1, 2, 0] rfl)
      · have h := fw_t c3 h
        refine lv_iload_n hx hb dX9_sitterOf_22 rfl (lv_at hl 2 rfl) ?_
        exact fw_endI (rv := fun b : Int32 => b) (wp := fun b : Int32 => moW k va mo) hx hb hr hlocks h rfl hP hD hS dX9_sitterOf_23
  have C2 : ∀ (v1 : Int32) (v2 : Int32), lp (b_X9_sitterOf_2 F mo) F (v1, v2) = some res → ∀ (H : Heap) (locs : List Loc) (ls : Array Slot), va_P D vwCl (moW k va mo) H → va_D A (moW k va mo) → va_S A s.heap H locs → lv_has ls 3 [(0, .ref (va 0)), (1, .int v1), (2, .int v2)] → W p l e (rmK 1 0 0) s m (List.toArray [.ref (va 0), .int x1]) below meth c H locs 0 0 (MQ below (va_Qi (fun r (_ : Unit) => r = res) (hcB D (fun _ : Unit => moW k va mo) A) A) (List.toArray [.ref (va 0), .int x1]) s 0 0 A) (F0 m 2 ls []) := fun v1 v2 => B2 (v1, v2)
  refine lv_iconst (v := 0) hx hb dX9_sitterOf_0 (by decide) ?_
  refine lv_istore_n (lv' := [(2, .int 0), (0, .ref (va 0)), (1, .int x1)]) hx hb dX9_sitterOf_1 rfl hl (by decide) rfl (fun ls hl => ?_)
  exact C2 _ _ h _ _ _ hP hD hS (lv_sub hl [1, 2, 0] rfl)
noncomputable def b_X9_chair_20 (F : Nat)  (mo : OB)   : Option (Int32) :=
  some (-2)
noncomputable def b_X9_chair_86 (F : Nat)  (mo : OB)  (y0 : Int32) : Option (Int32) :=
  some y0
noncomputable def f_X9_chair (F : Nat)  (x1 : Int32) (x2 : Int32) (mo : OB) : Option (Int32) :=
  Option.bind (f_X9_isChair F x1 mo) (fun q1 => (if q1 = 0 then (b_X9_chair_20 F mo ) else (Option.bind (f_X9_in F (Int32.toInt64 x2) 0 3) (fun q3 => (if q3 = 0 then (b_X9_chair_20 F mo ) else (Option.bind (f_X9_sitterOf F x1 mo) (fun q5 => (if x2 = 0 then (if ib x1 8 then (some ((mo.2.1 6) (Int32.toNatClampNeg x1))) else none) else if x2 = 1 then (if ib x1 8 then (some ((mo.2.1 4) (Int32.toNatClampNeg x1))) else none) else if x2 = 2 then (some q5) else (if q5 = (-1) then (b_X9_chair_86 F mo 0) else (Option.bind (f_X9_givesNow F q5 mo) (fun q12 => (b_X9_chair_86 F mo q12))))))))))))
set_option maxHeartbeats 4000000 in
set_option maxRecDepth 100000 in
theorem c_X9_chair (l : Launch) (D : va_G) (k : Nat → ClassId) (sz : Nat)  (va : Nat → Nat) (F : Nat)  (x1 : Int32) (x2 : Int32) (mo : OB)  {res : Int32} (h : f_X9_chair F x1 x2 mo = some res) : CtI l yX9_chair wsX9_chair (rmK 5 0 0) [.ref (va 0), .int x1, .int x2] D k sz (moW k va mo) (fun r (_ : Unit) => r = res) (fun _ : Unit => moW k va mo) 0 0 := by
  refine CtI.mk (cc := cX9_chair) (maxL := 4) (ret := (some .int)) (by decide) rfl (Nat.le_of_ble_eq_true rfl) ?_
  intro p e s m below meth c A ls E hP hD hS hl
  obtain ⟨hx, hb, hr, hml, hown, hts, hlocks, hin, hG, hA⟩ := E
  have hown : s.vm.findClass RX9 = some m.cls := hown
  have in9 : ∀ w ∈ u_ws RX9 TX9 53, w ∈ wsX9_chair := fun _ h => List.mem_cons_of_mem _ (List.mem_append_right _ h)
  have hl : lv_has ls 4 [(0, .ref (va 0)), (1, .int x1), (2, .int x2)] := hl
  have B20 : ∀ (H : Heap) (locs : List Loc) (ls : Array Slot), b_X9_chair_20 F mo  = some res → va_P D vwCl (moW k va mo) H → va_D A (moW k va mo) → va_S A s.heap H locs → lv_has ls 4 [] → W p l e (rmK 5 0 0) s m (List.toArray [.ref (va 0), .int x1, .int x2]) below meth c H locs 0 0 (MQ below (va_Qi (fun r (_ : Unit) => r = res) (hcB D (fun _ : Unit => moW k va mo) A) A) (List.toArray [.ref (va 0), .int x1, .int x2]) s 0 0 A) (F0 m 20 ls []) := by
    intro  H locs ls h hP hD hS hl
    refine lv_bipush (v := (-2)) hx hb dX9_chair_20 (by decide) ?_
    exact fw_endI (rv := fun b : Int32 => b) (wp := fun b : Int32 => moW k va mo) hx hb hr hlocks h rfl hP hD hS dX9_chair_22
  have B86 : ∀ (y0 : Int32) (H : Heap) (locs : List Loc) (ls : Array Slot), b_X9_chair_86 F mo y0 = some res → va_P D vwCl (moW k va mo) H → va_D A (moW k va mo) → va_S A s.heap H locs → lv_has ls 4 [] → W p l e (rmK 5 0 0) s m (List.toArray [.ref (va 0), .int x1, .int x2]) below meth c H locs 0 0 (MQ below (va_Qi (fun r (_ : Unit) => r = res) (hcB D (fun _ : Unit => moW k va mo) A) A) (List.toArray [.ref (va 0), .int x1, .int x2]) s 0 0 A) (F0 m 86 ls [.int y0]) := by
    intro y0 H locs ls h hP hD hS hl
    exact fw_endI (rv := fun b : Int32 => b) (wp := fun b : Int32 => moW k va mo) hx hb hr hlocks h rfl hP hD hS dX9_chair_86
  refine lv_aload_n hx hb dX9_chair_0 rfl (lv_at hl 0 rfl) ?_
  refine lv_iload_n hx hb dX9_chair_1 rfl (lv_at hl 1 rfl) ?_
  refine fw_Vi (As := [.int x1]) (rest := []) (n := 1) (wr := []) (rv := fun b : Int32 => b) (wp := fun b : Int32 => moW k va mo) h hx hb hml hown hts hG hA hP hD hS hl.1 (List.range (moW k va mo).length) [] (fun q hq9 => c_X9_isChair l D k _  va F x1 mo  hq9) (ci := 7) (q0 := 0) rfl rfl gX9_chair_X9_isChair rfl ⟨rfl, rfl, Nat.le_of_ble_eq_true rfl, Nat.le_of_ble_eq_true rfl⟩ (by decide +kernel) (al_C _) rfl (al_n _) ⟨rfl, rfl, Nat.le_of_ble_eq_true rfl, Nat.le_of_ble_eq_true rfl, Nat.le_of_ble_eq_true rfl⟩ dX9_chair_2 (fun q1 H locs h hP hD hS => ?_)
  obtain ⟨hP, hD⟩ := cv (w' := moW k va mo) hP hD rfl
  refine hc_is (z := q1) rfl ?_
  refine lv_if_eq (tgt := 20) hx hb dX9_chair_5 (by decide) (fun c2 => ?_) (fun c2 => ?_)
  · have h := fw_t c2 h
    exact B20 _ _ _ h hP hD hS (lv_sub hl [] rfl)
  · have h := fw_f c2 h
    refine lv_iload_n hx hb dX9_chair_8 rfl (lv_at hl 2 rfl) ?_
    refine lv_i2l hx hb dX9_chair_9 rfl ?_
    refine lv_lconst (v := 0) hx hb dX9_chair_10 (by decide) ?_
    refine lv_ldc2 (v := 3) hx hb hown (hts (.constantLong RX9 354 (3)) (mem_b bq_wsX9_chair 0 0 rfl)) dX9_chair_11 ?_
    refine fw_Si (As := [.long (Int32.toInt64 x2), .long 0, .long 3]) (rest := []) (n := 3) (wr := moW k va mo) (rv := fun b : Int32 => b) (wp := fun b : Int32 => []) h hx hb hml hown hts hG hA hP hD hS hl.1 [] (List.range (moW k va mo).length) (fun q hq9 => c_X9_in l D k _   F (Int32.toInt64 x2) 0 3   hq9) gX9_chair_X9_in rfl ⟨rfl, rfl, Nat.le_of_ble_eq_true rfl, Nat.le_of_ble_eq_true rfl⟩ (by decide +kernel) rfl (al_C _) (al_m _) ⟨rfl, rfl, Nat.le_of_ble_eq_true rfl, Nat.le_of_ble_eq_true rfl, Nat.le_of_ble_eq_true rfl⟩ dX9_chair_14 (fun q3 H locs h hP hD hS => ?_)
    obtain ⟨hP, hD⟩ := cv (w' := (moW k va mo) ++ []) hP hD rfl
    rw [List.append_nil] at hP hD
    refine hc_is (z := q3) rfl ?_
    refine lv_if_ne (tgt := 23) hx hb dX9_chair_17 (by decide) (fun c4 => ?_) (fun c4 => ?_)
    · have h := fw_f c4 h
      refine lv_aload_n hx hb dX9_chair_23 rfl (lv_at hl 0 rfl) ?_
      refine lv_iload_n hx hb dX9_chair_24 rfl (lv_at hl 1 rfl) ?_
      refine fw_Vi (As := [.int x1]) (rest := []) (n := 1) (wr := []) (rv := fun b : Int32 => b) (wp := fun b : Int32 => moW k va mo) h hx hb hml hown hts hG hA hP hD hS hl.1 (List.range (moW k va mo).length) [] (fun q hq9 => c_X9_sitterOf l D k _  va F x1 mo  hq9) (ci := 7) (q0 := 0) rfl rfl gX9_chair_X9_sitterOf rfl ⟨rfl, rfl, Nat.le_of_ble_eq_true rfl, Nat.le_of_ble_eq_true rfl⟩ (by decide +kernel) (al_C _) rfl (al_n _) ⟨rfl, rfl, Nat.le_of_ble_eq_true rfl, Nat.le_of_ble_eq_true rfl, Nat.le_of_ble_eq_true rfl⟩ dX9_chair_25 (fun q5 H locs h hP hD hS => ?_)
      obtain ⟨hP, hD⟩ := cv (w' := moW k va mo) hP hD rfl
      refine hc_is (z := q5) rfl ?_
      refine lv_istore_n (lv' := [(3, .int q5), (0, .ref (va 0)), (1, .int x1), (2, .int x2)]) hx hb dX9_chair_28 rfl hl (by decide) rfl (fun ls hl => ?_)
      refine lv_iload_n hx hb dX9_chair_29 rfl (lv_at hl 3 rfl) ?_
      by_cases c6 : x2 = 0
      · have h := fw_t c6 h
        refine lv_tableIn (off := 26) (tgt := 56) hx hb dX9_chair_30 (by rw [c6]; decide) (by rw [c6]; decide) (by rw [c6]; rfl) (by decide) ?_
        refine lv_aload_n hx hb dX9_chair_56 rfl (lv_at hl 1 rfl) ?_
        refine va_get (D := D) (ci := 7) (v := .ref (va 6)) (C := RX9) (T := TX9) (N := 53) hx hb hts in9 hown hG.1 hP 0 rfl rfl 6 (by decide) (hts (.fieldLink RX9 25 "ChairCaneModel" "height" "[I") (mem_b bq_wsX9_chair 0 1 rfl)) (fun _ h9 => h9) rfl dX9_chair_57 ?_
        refine lv_iload_n hx hb dX9_chair_60 rfl (lv_at hl 2 rfl) ?_
        obtain ⟨g7, h⟩ := fw_g h
        refine va_iald hx hb hG.1 hP 6 0 rfl rfl (ib_vp g7) dX9_chair_61 ?_
        exact fw_endI (rv := fun b : Int32 => b) (wp := fun b : Int32 => moW k va mo) hx hb hr hlocks h rfl hP hD hS dX9_chair_62
      have h := fw_f c6 h
      by_cases c8 : x2 = 1
      · have h := fw_t c8 h
        refine lv_tableIn (off := 33) (tgt := 63) hx hb dX9_chair_30 (by rw [c8]; decide) (by rw [c8]; decide) (by rw [c8]; rfl) (by decide) ?_
        refine lv_aload_n hx hb dX9_chair_63 rfl (lv_at hl 1 rfl) ?_
        refine va_get (D := D) (ci := 7) (v := .ref (va 4)) (C := RX9) (T := TX9) (N := 53) hx hb hts in9 hown hG.1 hP 0 rfl rfl 4 (by decide) (hts (.fieldLink RX9 19 "ChairCaneModel" "strandOf" "[I") (mem_b bq_wsX9_chair 0 2 rfl)) (fun _ h9 => h9) rfl dX9_chair_64 ?_
        refine lv_iload_n hx hb dX9_chair_67 rfl (lv_at hl 2 rfl) ?_
        obtain ⟨g9, h⟩ := fw_g h
        refine va_iald hx hb hG.1 hP 4 0 rfl rfl (ib_vp g9) dX9_chair_68 ?_
        exact fw_endI (rv := fun b : Int32 => b) (wp := fun b : Int32 => moW k va mo) hx hb hr hlocks h rfl hP hD hS dX9_chair_69
      have h := fw_f c8 h
      by_cases c10 : x2 = 2
      · have h := fw_t c10 h
        refine lv_tableIn (off := 40) (tgt := 70) hx hb dX9_chair_30 (by rw [c10]; decide) (by rw [c10]; decide) (by rw [c10]; rfl) (by decide) ?_
        refine lv_iload_n hx hb dX9_chair_70 rfl (lv_at hl 0 rfl) ?_
        exact fw_endI (rv := fun b : Int32 => b) (wp := fun b : Int32 => moW k va mo) hx hb hr hlocks h rfl hP hD hS dX9_chair_71
      have h := fw_f c10 h
      simp only [sp_eq, show (0 : Int32).toInt = 0 from by decide, show (1 : Int32).toInt = 1 from by decide, show (2 : Int32).toInt = 2 from by decide] at c6 c8 c10
      refine lv_tableOut (tgt := 72) hx hb dX9_chair_30 (by omega) (by decide) ?_
      refine lv_iload_n hx hb dX9_chair_72 rfl (lv_at hl 0 rfl) ?_
      refine lv_iconst (v := (-1)) hx hb dX9_chair_73 (by decide) ?_
      refine lv_icmp_ne (tgt := 81) hx hb dX9_chair_74 (by decide) (fun c11 => ?_) (fun c11 => ?_)
      · have h := fw_f c11 h
        refine lv_aload_n hx hb dX9_chair_81 rfl (lv_at hl 1 rfl) ?_
        refine lv_iload_n hx hb dX9_chair_82 rfl (lv_at hl 0 rfl) ?_
        refine fw_Vi (As := [.int q5]) (rest := []) (n := 1) (wr := []) (rv := fun b : Int32 => b) (wp := fun b : Int32 => moW k va mo) h hx hb hml hown hts hG hA hP hD hS hl.1 (List.range (moW k va mo).length) [] (fun q hq9 => c_X9_givesNow l D k _  va F q5 mo  hq9) (ci := 7) (q0 := 0) rfl rfl gX9_chair_X9_givesNow rfl ⟨rfl, rfl, Nat.le_of_ble_eq_true rfl, Nat.le_of_ble_eq_true rfl⟩ (by decide +kernel) (al_C _) rfl (al_n _) ⟨rfl, rfl, Nat.le_of_ble_eq_true rfl, Nat.le_of_ble_eq_true rfl, Nat.le_of_ble_eq_true rfl⟩ dX9_chair_83 (fun q12 H locs h hP hD hS => ?_)
        obtain ⟨hP, hD⟩ := cv (w' := moW k va mo) hP hD rfl
        refine hc_is (z := q12) rfl ?_
        exact B86 _ _ _ _ h hP hD hS (lv_sub hl [] rfl)
      · have h := fw_t c11 h
        refine lv_iconst (v := 0) hx hb dX9_chair_77 (by decide) ?_
        refine lv_goto (tgt := 86) hx hb dX9_chair_78 (by decide) ?_
        exact B86 _ _ _ _ h hP hD hS (lv_sub hl [] rfl)
    · have h := fw_t c4 h
      exact B20 _ _ _ h hP hD hS (lv_sub hl [] rfl)
noncomputable def b_X9_sitter_20 (F : Nat)  (mo : OB)   : Option (Int32) :=
  some (-1)
noncomputable def b_X9_sitter_55 (F : Nat)  (mo : OB)  (y0 : Int32) : Option (Int32) :=
  some y0
noncomputable def f_X9_sitter (F : Nat)  (x1 : Int32) (x2 : Int32) (mo : OB) : Option (Int32) :=
  Option.bind (f_X9_isSitter F x1 mo) (fun q1 => (if q1 = 0 then (b_X9_sitter_20 F mo ) else (Option.bind (f_X9_in F (Int32.toInt64 x2) 0 2) (fun q3 => (if q3 = 0 then (b_X9_sitter_20 F mo ) else (if x2 = 0 then (if ib x1 8 then (b_X9_sitter_55 F mo ((mo.2.1 7) (Int32.toNatClampNeg x1))) else none) else (if x2 = 1 then (if ib x1 8 then (b_X9_sitter_55 F mo ((mo.2.1 5) (Int32.toNatClampNeg x1))) else none) else (if ib x1 8 then (b_X9_sitter_55 F mo ((mo.2.1 3) (Int32.toNatClampNeg x1))) else none))))))))
set_option maxHeartbeats 4000000 in
set_option maxRecDepth 100000 in
theorem c_X9_sitter (l : Launch) (D : va_G) (k : Nat → ClassId) (sz : Nat)  (va : Nat → Nat) (F : Nat)  (x1 : Int32) (x2 : Int32) (mo : OB)  {res : Int32} (h : f_X9_sitter F x1 x2 mo = some res) : CtI l yX9_sitter wsX9_sitter (rmK 3 0 0) [.ref (va 0), .int x1, .int x2] D k sz (moW k va mo) (fun r (_ : Unit) => r = res) (fun _ : Unit => moW k va mo) 0 0 := by
  refine CtI.mk (cc := cX9_sitter) (maxL := 3) (ret := (some .int)) (by decide) rfl (Nat.le_of_ble_eq_true rfl) ?_
  intro p e s m below meth c A ls E hP hD hS hl
  obtain ⟨hx, hb, hr, hml, hown, hts, hlocks, hin, hG, hA⟩ := E
  have hown : s.vm.findClass RX9 = some m.cls := hown
  have in9 : ∀ w ∈ u_ws RX9 TX9 53, w ∈ wsX9_sitter := fun _ h => List.mem_cons_of_mem _ (List.mem_append_right _ h)
  have hl : lv_has ls 3 [(0, .ref (va 0)), (1, .int x1), (2, .int x2)] := hl
  have B20 : ∀ (H : Heap) (locs : List Loc) (ls : Array Slot), b_X9_sitter_20 F mo  = some res → va_P D vwCl (moW k va mo) H → va_D A (moW k va mo) → va_S A s.heap H locs → lv_has ls 3 [] → W p l e (rmK 3 0 0) s m (List.toArray [.ref (va 0), .int x1, .int x2]) below meth c H locs 0 0 (MQ below (va_Qi (fun r (_ : Unit) => r = res) (hcB D (fun _ : Unit => moW k va mo) A) A) (List.toArray [.ref (va 0), .int x1, .int x2]) s 0 0 A) (F0 m 20 ls []) := by
    intro  H locs ls h hP hD hS hl
    refine lv_iconst (v := (-1)) hx hb dX9_sitter_20 (by decide) ?_
    exact fw_endI (rv := fun b : Int32 => b) (wp := fun b : Int32 => moW k va mo) hx hb hr hlocks h rfl hP hD hS dX9_sitter_21
  have B55 : ∀ (y0 : Int32) (H : Heap) (locs : List Loc) (ls : Array Slot), b_X9_sitter_55 F mo y0 = some res → va_P D vwCl (moW k va mo) H → va_D A (moW k va mo) → va_S A s.heap H locs → lv_has ls 3 [] → W p l e (rmK 3 0 0) s m (List.toArray [.ref (va 0), .int x1, .int x2]) below meth c H locs 0 0 (MQ below (va_Qi (fun r (_ : Unit) => r = res) (hcB D (fun _ : Unit => moW k va mo) A) A) (List.toArray [.ref (va 0), .int x1, .int x2]) s 0 0 A) (F0 m 55 ls [.int y0]) := by
    intro y0 H locs ls h hP hD hS hl
    exact fw_endI (rv := fun b : Int32 => b) (wp := fun b : Int32 => moW k va mo) hx hb hr hlocks h rfl hP hD hS dX9_sitter_55
  refine lv_aload_n hx hb dX9_sitter_0 rfl (lv_at hl 0 rfl) ?_
  refine lv_iload_n hx hb dX9_sitter_1 rfl (lv_at hl 1 rfl) ?_
  refine fw_Vi (As := [.int x1]) (rest := []) (n := 1) (wr := []) (rv := fun b : Int32 => b) (wp := fun b : Int32 => moW k va mo) h hx hb hml hown hts hG hA hP hD hS hl.1 (List.range (moW k va mo).length) [] (fun q hq9 => c_X9_isSitter l D k _  va F x1 mo  hq9) (ci := 7) (q0 := 0) rfl rfl gX9_sitter_X9_isSitter rfl ⟨rfl, rfl, Nat.le_of_ble_eq_true rfl, Nat.le_of_ble_eq_true rfl⟩ (by decide +kernel) (al_C _) rfl (al_n _) ⟨rfl, rfl, Nat.le_of_ble_eq_true rfl, Nat.le_of_ble_eq_true rfl, Nat.le_of_ble_eq_true rfl⟩ dX9_sitter_2 (fun q1 H locs h hP hD hS => ?_)
  obtain ⟨hP, hD⟩ := cv (w' := moW k va mo) hP hD rfl
  refine hc_is (z := q1) rfl ?_
  refine lv_if_eq (tgt := 20) hx hb dX9_sitter_5 (by decide) (fun c2 => ?_) (fun c2 => ?_)
  · have h := fw_t c2 h
    exact B20 _ _ _ h hP hD hS (lv_sub hl [] rfl)
  · have h := fw_f c2 h
    refine lv_iload_n hx hb dX9_sitter_8 rfl (lv_at hl 2 rfl) ?_
    refine lv_i2l hx hb dX9_sitter_9 rfl ?_
    refine lv_lconst (v := 0) hx hb dX9_sitter_10 (by decide) ?_
    refine lv_ldc2 (v := 2) hx hb hown (hts (.constantLong RX9 365 (2)) (mem_b bq_wsX9_sitter 0 0 rfl)) dX9_sitter_11 ?_
    refine fw_Si (As := [.long (Int32.toInt64 x2), .long 0, .long 2]) (rest := []) (n := 3) (wr := moW k va mo) (rv := fun b : Int32 => b) (wp := fun b : Int32 => []) h hx hb hml hown hts hG hA hP hD hS hl.1 [] (List.range (moW k va mo).length) (fun q hq9 => c_X9_in l D k _   F (Int32.toInt64 x2) 0 2   hq9) gX9_sitter_X9_in rfl ⟨rfl, rfl, Nat.le_of_ble_eq_true rfl, Nat.le_of_ble_eq_true rfl⟩ (by decide +kernel) rfl (al_C _) (al_m _) ⟨rfl, rfl, Nat.le_of_ble_eq_true rfl, Nat.le_of_ble_eq_true rfl, Nat.le_of_ble_eq_true rfl⟩ dX9_sitter_14 (fun q3 H locs h hP hD hS => ?_)
    obtain ⟨hP, hD⟩ := cv (w' := (moW k va mo) ++ []) hP hD rfl
    rw [List.append_nil] at hP hD
    refine hc_is (z := q3) rfl ?_
    refine lv_if_ne (tgt := 22) hx hb dX9_sitter_17 (by decide) (fun c4 => ?_) (fun c4 => ?_)
    · have h := fw_f c4 h
      refine lv_iload_n hx hb dX9_sitter_22 rfl (lv_at hl 2 rfl) ?_
      refine lv_if_ne (tgt := 35) hx hb dX9_sitter_23 (by decide) (fun c5 => ?_) (fun c5 => ?_)
      · have h := fw_f c5 h
        refine lv_iload_n hx hb dX9_sitter_35 rfl (lv_at hl 2 rfl) ?_
        refine lv_iconst (v := 1) hx hb dX9_sitter_36 (by decide) ?_
        refine lv_icmp_ne (tgt := 49) hx hb dX9_sitter_37 (by decide) (fun c6 => ?_) (fun c6 => ?_)
        · have h := fw_f c6 h
          refine lv_aload_n hx hb dX9_sitter_49 rfl (lv_at hl 0 rfl) ?_
          refine va_get (D := D) (ci := 7) (v := .ref (va 3)) (C := RX9) (T := TX9) (N := 53) hx hb hts in9 hown hG.1 hP 0 rfl rfl 3 (by decide) (hts (.fieldLink RX9 16 "ChairCaneModel" "is" "[I") (mem_b bq_wsX9_sitter 0 3 rfl)) (fun _ h9 => h9) rfl dX9_sitter_50 ?_
          refine lv_iload_n hx hb dX9_sitter_53 rfl (lv_at hl 1 rfl) ?_
          obtain ⟨g7, h⟩ := fw_g h
          refine va_iald hx hb hG.1 hP 3 0 rfl rfl (ib_vp g7) dX9_sitter_54 ?_
          exact B55 _ _ _ _ h hP hD hS (lv_sub hl [] rfl)
        · have h := fw_t c6 h
          refine lv_aload_n hx hb dX9_sitter_40 rfl (lv_at hl 0 rfl) ?_
          refine va_get (D := D) (ci := 7) (v := .ref (va 5)) (C := RX9) (T := TX9) (N := 53) hx hb hts in9 hown hG.1 hP 0 rfl rfl 5 (by decide) (hts (.fieldLink RX9 22 "ChairCaneModel" "weight" "[I") (mem_b bq_wsX9_sitter 0 2 rfl)) (fun _ h9 => h9) rfl dX9_sitter_41 ?_
          refine lv_iload_n hx hb dX9_sitter_44 rfl (lv_at hl 1 rfl) ?_
          obtain ⟨g8, h⟩ := fw_g h
          refine va_iald hx hb hG.1 hP 5 0 rfl rfl (ib_vp g8) dX9_sitter_45 ?_
          refine lv_goto (tgt := 55) hx hb dX9_sitter_46 (by decide) ?_
          exact B55 _ _ _ _ h hP hD hS (lv_sub hl [] rfl)
      · have h := fw_t c5 h
        refine lv_aload_n hx hb dX9_sitter_26 rfl (lv_at hl 0 rfl) ?_
        refine va_get (D := D) (ci := 7) (v := .ref (va 7)) (C := RX9) (T := TX9) (N := 53) hx hb hts in9 hown hG.1 hP 0 rfl rfl 7 (by decide) (hts (.fieldLink RX9 28 "ChairCaneModel" "chairOf" "[I") (mem_b bq_wsX9_sitter 0 1 rfl)) (fun _ h9 => h9) rfl dX9_sitter_27 ?_
        refine lv_iload_n hx hb dX9_sitter_30 rfl (lv_at hl 1 rfl) ?_
        obtain ⟨g9, h⟩ := fw_g h
        refine va_iald hx hb hG.1 hP 7 0 rfl rfl (ib_vp g9) dX9_sitter_31 ?_
        refine lv_goto (tgt := 55) hx hb dX9_sitter_32 (by decide) ?_
        exact B55 _ _ _ _ h hP hD hS (lv_sub hl [] rfl)
    · have h := fw_t c4 h
      exact B20 _ _ _ h hP hD hS (lv_sub hl [] rfl)
noncomputable def b_X9_dropsOf_50 (F : Nat)  (mo : OB) (k4 : (Int32 × Int32 × Int32) → Option (Int32)) (v1 : Int32) (v3 : Int32) (y0 : Int32) (y1 : Int32) : Option (Int32) :=
  k4 (v1, (y1 ||| y0), (v3 + 1))
noncomputable def b_X9_dropsOf_49 (F : Nat)  (mo : OB) (k4 : (Int32 × Int32 × Int32) → Option (Int32)) (v1 : Int32) (v3 : Int32) (y0 : Int32) : Option (Int32) :=
  b_X9_dropsOf_50 F mo k4 v1 v3 0 y0
noncomputable def b_X9_dropsOf_4 (F : Nat)  (mo : OB)  (k4 : (Int32 × Int32 × Int32) → Option (Int32)) (a4 : (Int32 × Int32 × Int32)) : Option (Int32) :=
  if ((mo.2.1 1) (Int32.toNatClampNeg 3)) ≤ a4.2.2 then (some a4.2.1) else (Option.bind (f_X9_has F a4.1 a4.2.2) (fun q2 => (if q2 = 0 then (b_X9_dropsOf_49 F mo k4 a4.1 a4.2.2 a4.2.1) else (Option.bind (f_X9_gives F a4.1 a4.2.2 mo) (fun q4 => (if ib a4.2.2 8 then (if ib ((mo.2.1 7) (Int32.toNatClampNeg a4.2.2)) 8 then (if q4 < ((mo.2.1 6) (Int32.toNatClampNeg ((mo.2.1 7) (Int32.toNatClampNeg a4.2.2)))) then (b_X9_dropsOf_49 F mo k4 a4.1 a4.2.2 a4.2.1) else (b_X9_dropsOf_50 F mo k4 a4.1 a4.2.2 (1 <<< (a4.2.2 &&& 31)) a4.2.1)) else none) else none))))))
noncomputable def f_X9_dropsOf (F : Nat)  (x1 : Int32) (mo : OB) : Option (Int32) :=
  lp (b_X9_dropsOf_4 F mo) F (x1, 0, 0)
set_option maxHeartbeats 4000000 in
set_option maxRecDepth 100000 in
theorem c_X9_dropsOf (l : Launch) (D : va_G) (k : Nat → ClassId) (sz : Nat)  (va : Nat → Nat) (F : Nat)  (x1 : Int32) (mo : OB)  {res : Int32} (h : f_X9_dropsOf F x1 mo = some res) : CtI l yX9_dropsOf wsX9_dropsOf (rmK 4 0 0) [.ref (va 0), .int x1] D k sz (moW k va mo) (fun r (_ : Unit) => r = res) (fun _ : Unit => moW k va mo) 0 0 := by
  refine CtI.mk (cc := cX9_dropsOf) (maxL := 4) (ret := (some .int)) (by decide) rfl (Nat.le_of_ble_eq_true rfl) ?_
  intro p e s m below meth c A ls E hP hD hS hl
  obtain ⟨hx, hb, hr, hml, hown, hts, hlocks, hin, hG, hA⟩ := E
  have hown : s.vm.findClass RX9 = some m.cls := hown
  have in9 : ∀ w ∈ u_ws RX9 TX9 53, w ∈ wsX9_dropsOf := fun _ h => List.mem_cons_of_mem _ (List.mem_append_right _ h)
  have hl : lv_has ls 4 [(0, .ref (va 0)), (1, .int x1)] := hl
  have B4 : ∀ a4 : (Int32 × Int32 × Int32), lp (b_X9_dropsOf_4 F mo) F a4 = some res → ∀ (H : Heap) (locs : List Loc) (ls : Array Slot), va_P D vwCl (moW k va mo) H → va_D A (moW k va mo) → va_S A s.heap H locs → lv_has ls 4 [(0, .ref (va 0)), (1, .int a4.1), (2, .int a4.2.1), (3, .int a4.2.2)] → W p l e (rmK 4 0 0) s m (List.toArray [.ref (va 0), .int x1]) below meth c H locs 0 0 (MQ below (va_Qi (fun r (_ : Unit) => r = res) (hcB D (fun _ : Unit => moW k va mo) A) A) (List.toArray [.ref (va 0), .int x1]) s 0 0 A) (F0 m 4 ls []) := by
    refine lp_W ?_ F
    intro k4 hk4 a4 h H locs ls hP hD hS hl
    have hc4 : ∀ (v1 : Int32) (v2 : Int32) (v3 : Int32), k4 (v1, v2, v3) = some res → ∀ (H : Heap) (locs : List Loc) (ls : Array Slot), va_P D vwCl (moW k va mo) H → va_D A (moW k va mo) → va_S A s.heap H locs → lv_has ls 4 [(0, .ref (va 0)), (1, .int v1), (2, .int v2), (3, .int v3)] → W p l e (rmK 4 0 0) s m (List.toArray [.ref (va 0), .int x1]) below meth c H locs 0 0 (MQ below (va_Qi (fun r (_ : Unit) => r = res) (hcB D (fun _ : Unit => moW k va mo) A) A) (List.toArray [.ref (va 0), .int x1]) s 0 0 A) (F0 m 4 ls []) := fun v1 v2 v3 => hk4 (v1, v2, v3)
    have B50 : ∀ (v1 : Int32) (v3 : Int32) (y0 : Int32) (y1 : Int32) (H : Heap) (locs : List Loc) (ls : Array Slot), b_X9_dropsOf_50 F mo k4 v1 v3 y0 y1 = some res → va_P D vwCl (moW k va mo) H → va_D A (moW k va mo) → va_S A s.heap H locs → lv_has ls 4 [(0, .ref (va 0)), (1, .int v1), (3, .int v3)] → W p l e (rmK 4 0 0) s m (List.toArray [.ref (va 0), .int x1]) below meth c H locs 0 0 (MQ below (va_Qi (fun r (_ : Unit) => r = res) (hcB D (fun _ : Unit => moW k va mo) A) A) (List.toArray [.ref (va 0), .int x1]) s 0 0 A) (F0 m 50 ls [.int y0, .int y1]) := by
      intro v1 v3 y0 y1 H locs ls h hP hD hS hl
      refine lv_ior hx hb dX9_dropsOf_50 ?_
      refine lv_istore_n (lv' := [(2, .int (y1 ||| y0)), (0, .ref (va 0)), (1, .int v1), (3, .int v3)]) hx hb dX9_dropsOf_51 rfl hl (by decide) rfl (fun ls hl => ?_)
      refine lv_iinc (v := (v3 + 1)) (lv' := [(3, .int (v3 + 1)), (2, .int (y1 ||| y0)), (0, .ref (va 0)), (1, .int v1)]) hx hb dX9_dropsOf_52 hl (k := 3) rfl rfl (by decide) rfl (fun ls hl => ?_)
      refine lv_goto (tgt := 4) hx hb dX9_dropsOf_55 (by decide) ?_
      exact hc4 _ _ _ h _ _ _ hP hD hS (lv_sub hl [2, 3, 1, 0] rfl)
    have B49 : ∀ (v1 : Int32) (v3 : Int32) (y0 : Int32) (H : Heap) (locs : List Loc) (ls : Array Slot), b_X9_dropsOf_49 F mo k4 v1 v3 y0 = some res → va_P D vwCl (moW k va mo) H → va_D A (moW k va mo) → va_S A s.heap H locs → lv_has ls 4 [(0, .ref (va 0)), (1, .int v1), (3, .int v3)] → W p l e (rmK 4 0 0) s m (List.toArray [.ref (va 0), .int x1]) below meth c H locs 0 0 (MQ below (va_Qi (fun r (_ : Unit) => r = res) (hcB D (fun _ : Unit => moW k va mo) A) A) (List.toArray [.ref (va 0), .int x1]) s 0 0 A) (F0 m 49 ls [.int y0]) := by
      intro v1 v3 y0 H locs ls h hP hD hS hl
      refine lv_iconst (v := 0) hx hb dX9_dropsOf_49 (by decide) ?_
      exact B50 _ _ _ _ _ _ _ h hP hD hS hl
    refine lv_iload_n hx hb dX9_dropsOf_4 rfl (lv_at hl 3 rfl) ?_
    refine lv_aload_n hx hb dX9_dropsOf_5 rfl (lv_at hl 0 rfl) ?_
    refine va_get (D := D) (ci := 7) (v := .ref (va 1)) (C := RX9) (T := TX9) (N := 53) hx hb hts in9 hown hG.1 hP 0 rfl rfl 1 (by decide) (hts (.fieldLink RX9 9 "ChairCaneModel" "scalar" "[I") (mem_b bq_wsX9_dropsOf 0 0 rfl)) (fun _ h9 => h9) rfl dX9_dropsOf_6 ?_
    refine lv_iconst (v := 3) hx hb dX9_dropsOf_9 (by decide) ?_
    refine va_iald hx hb hG.1 hP 1 0 rfl rfl (by unfold vp_in; decide) dX9_dropsOf_10 ?_
    refine lv_icmp_ge (tgt := 58) hx hb dX9_dropsOf_11 (by decide) (fun c1 => ?_) (fun c1 => ?_)
    · have h := fw_t c1 h
      refine lv_iload_n hx hb dX9_dropsOf_58 rfl (lv_at hl 2 rfl) ?_
      exact fw_endI (rv := fun b : Int32 => b) (wp := fun b : Int32 => moW k va mo) hx hb hr hlocks h rfl hP hD hS dX9_dropsOf_59
    · have h := fw_f c1 h
      refine lv_iload_n hx hb dX9_dropsOf_14 rfl (lv_at hl 2 rfl) ?_
      refine lv_iload_n hx hb dX9_dropsOf_15 rfl (lv_at hl 1 rfl) ?_
      refine lv_iload_n hx hb dX9_dropsOf_16 rfl (lv_at hl 3 rfl) ?_
      refine fw_Si (As := [.int a4.1, .int a4.2.2]) (rest := [.int a4.2.1]) (n := 2) (wr := moW k va mo) (rv := fun b : Int32 => b) (wp := fun b : Int32 => []) h hx hb hml hown hts hG hA hP hD hS hl.1 [] (List.range (moW k va mo).length) (fun q hq9 => c_X9_has l D k _   F a4.1 a4.2.2   hq9) gX9_dropsOf_X9_has rfl ⟨rfl, rfl, Nat.le_of_ble_eq_true rfl, Nat.le_of_ble_eq_true rfl⟩ (by decide +kernel) rfl (al_C _) (al_m _) ⟨rfl, rfl, Nat.le_of_ble_eq_true rfl, Nat.le_of_ble_eq_true rfl, Nat.le_of_ble_eq_true rfl⟩ dX9_dropsOf_17 (fun q2 H locs h hP hD hS => ?_)
      obtain ⟨hP, hD⟩ := cv (w' := (moW k va mo) ++ []) hP hD rfl
      rw [List.append_nil] at hP hD
      refine hc_is (z := q2) rfl ?_
      refine lv_if_eq (tgt := 49) hx hb dX9_dropsOf_20 (by decide) (fun c3 => ?_) (fun c3 => ?_)
      · have h := fw_t c3 h
        exact B49 _ _ _ _ _ _ h hP hD hS (lv_sub hl [0, 1, 3] rfl)
      · have h := fw_f c3 h
        refine lv_aload_n hx hb dX9_dropsOf_23 rfl (lv_at hl 0 rfl) ?_
        refine lv_iload_n hx hb dX9_dropsOf_24 rfl (lv_at hl 1 rfl) ?_
        refine lv_iload_n hx hb dX9_dropsOf_25 rfl (lv_at hl 3 rfl) ?_
        refine fw_Vi (As := [.int a4.1, .int a4.2.2]) (rest := [.int a4.2.1]) (n := 2) (wr := []) (rv := fun b : Int32 => b) (wp := fun b : Int32 => moW k va mo) h hx hb hml hown hts hG hA hP hD hS hl.1 (List.range (moW k va mo).length) [] (fun q hq9 => c_X9_gives l D k _  va F a4.1 a4.2.2 mo  hq9) (ci := 7) (q0 := 0) rfl rfl gX9_dropsOf_X9_gives rfl ⟨rfl, rfl, Nat.le_of_ble_eq_true rfl, Nat.le_of_ble_eq_true rfl⟩ (by decide +kernel) (al_C _) rfl (al_n _) ⟨rfl, rfl, Nat.le_of_ble_eq_true rfl, Nat.le_of_ble_eq_true rfl, Nat.le_of_ble_eq_true rfl⟩ dX9_dropsOf_26 (fun q4 H locs h hP hD hS => ?_)
        obtain ⟨hP, hD⟩ := cv (w' := moW k va mo) hP hD rfl
        refine hc_is (z := q4) rfl ?_
        refine lv_aload_n hx hb dX9_dropsOf_29 rfl (lv_at hl 0 rfl) ?_
        refine va_get (D := D) (ci := 7) (v := .ref (va 6)) (C := RX9) (T := TX9) (N := 53) hx hb hts in9 hown hG.1 hP 0 rfl rfl 6 (by decide) (hts (.fieldLink RX9 25 "ChairCaneModel" "height" "[I") (mem_b bq_wsX9_dropsOf 0 1 rfl)) (fun _ h9 => h9) rfl dX9_dropsOf_30 ?_
        refine lv_aload_n hx hb dX9_dropsOf_33 rfl (lv_at hl 0 rfl) ?_
        refine va_get (D := D) (ci := 7) (v := .ref (va 7)) (C := RX9) (T := TX9) (N := 53) hx hb hts in9 hown hG.1 hP 0 rfl rfl 7 (by decide) (hts (.fieldLink RX9 28 "ChairCaneModel" "chairOf" "[I") (mem_b bq_wsX9_dropsOf 0 2 rfl)) (fun _ h9 => h9) rfl dX9_dropsOf_34 ?_
        refine lv_iload_n hx hb dX9_dropsOf_37 rfl (lv_at hl 3 rfl) ?_
        obtain ⟨g5, h⟩ := fw_g h
        refine va_iald hx hb hG.1 hP 7 0 rfl rfl (ib_vp g5) dX9_dropsOf_38 ?_
        obtain ⟨g6, h⟩ := fw_g h
        refine va_iald hx hb hG.1 hP 6 0 rfl rfl (ib_vp g6) dX9_dropsOf_39 ?_
        refine lv_icmp_lt (tgt := 49) hx hb dX9_dropsOf_40 (by decide) (fun c7 => ?_) (fun c7 => ?_)
        · have h := fw_t c7 h
          exact B49 _ _ _ _ _ _ h hP hD hS (lv_sub hl [0, 1, 3] rfl)
        · have h := fw_f c7 h
          refine lv_iconst (v := 1) hx hb dX9_dropsOf_43 (by decide) ?_
          refine lv_iload_n hx hb dX9_dropsOf_44 rfl (lv_at hl 3 rfl) ?_
          refine lv_ishl hx hb dX9_dropsOf_45 ?_
          refine lv_goto (tgt := 50) hx hb dX9_dropsOf_46 (by decide) ?_
          exact B50 _ _ _ _ _ _ _ h hP hD hS (lv_sub hl [0, 1, 3] rfl)
  have C4 : ∀ (v1 : Int32) (v2 : Int32) (v3 : Int32), lp (b_X9_dropsOf_4 F mo) F (v1, v2, v3) = some res → ∀ (H : Heap) (locs : List Loc) (ls : Array Slot), va_P D vwCl (moW k va mo) H → va_D A (moW k va mo) → va_S A s.heap H locs → lv_has ls 4 [(0, .ref (va 0)), (1, .int v1), (2, .int v2), (3, .int v3)] → W p l e (rmK 4 0 0) s m (List.toArray [.ref (va 0), .int x1]) below meth c H locs 0 0 (MQ below (va_Qi (fun r (_ : Unit) => r = res) (hcB D (fun _ : Unit => moW k va mo) A) A) (List.toArray [.ref (va 0), .int x1]) s 0 0 A) (F0 m 4 ls []) := fun v1 v2 v3 => B4 (v1, v2, v3)
  refine lv_iconst (v := 0) hx hb dX9_dropsOf_0 (by decide) ?_
  refine lv_istore_n (lv' := [(2, .int 0), (0, .ref (va 0)), (1, .int x1)]) hx hb dX9_dropsOf_1 rfl hl (by decide) rfl (fun ls hl => ?_)
  refine lv_iconst (v := 0) hx hb dX9_dropsOf_2 (by decide) ?_
  refine lv_istore_n (lv' := [(3, .int 0), (2, .int 0), (0, .ref (va 0)), (1, .int x1)]) hx hb dX9_dropsOf_3 rfl hl (by decide) rfl (fun ls hl => ?_)
  exact C4 _ _ _ h _ _ _ hP hD hS (lv_sub hl [2, 3, 1, 0] rfl)
noncomputable def b_X9_settles_51 (F : Nat)   (k12 : (Int32 × Int32 × OB) → Option (Int32 × OB)) (k18 : (Int32 × Int32 × Int32 × OB) → Option (Int32 × OB)) (v1 : Int32) (v2 : Int32) (v3 : Int32) (y0 : Int32) (y1 : Int32) (mo : OB) : Option (Int32 × OB) :=
  if ib y1 8 then (k18 (v1, v2, (v3 + 1), (mo.1, (uF mo.2.1 3 (upd (mo.2.1 3) (Int32.toNatClampNeg y1) y0)), mo.2.2))) else none
noncomputable def b_X9_settles_18 (F : Nat)   (k12 : (Int32 × Int32 × OB) → Option (Int32 × OB)) (k18 : (Int32 × Int32 × Int32 × OB) → Option (Int32 × OB)) (a18 : (Int32 × Int32 × Int32 × OB)) : Option (Int32 × OB) :=
  if ((a18.2.2.2.2.1 1) (Int32.toNatClampNeg 3)) ≤ a18.2.2.1 then (Option.bind (f_X9_those F 1 a18.2.2.2) (fun q3 => (Option.bind (f_X9_dropsOf F q3 a18.2.2.2) (fun q4 => (k12 ((a18.1 ||| a18.2.1), q4, a18.2.2.2)))))) else (Option.bind (f_X9_has F a18.2.1 a18.2.2.1) (fun q5 => (if q5 = 0 then (if ib a18.2.2.1 8 then (b_X9_settles_51 F k12 k18 a18.1 a18.2.1 a18.2.2.1 ((a18.2.2.2.2.1 3) (Int32.toNatClampNeg a18.2.2.1)) a18.2.2.1 a18.2.2.2) else none) else (b_X9_settles_51 F k12 k18 a18.1 a18.2.1 a18.2.2.1 2 a18.2.2.1 a18.2.2.2))))
noncomputable def b_X9_settles_12 (F : Nat)    (k12 : (Int32 × Int32 × OB) → Option (Int32 × OB)) (a12 : (Int32 × Int32 × OB)) : Option (Int32 × OB) :=
  if a12.2.1 = 0 then (some (a12.1, a12.2.2)) else (lp (b_X9_settles_18 F k12) F (a12.1, a12.2.1, 0, a12.2.2))
noncomputable def f_X9_settles (F : Nat)   (mo : OB) : Option (Int32 × OB) :=
  Option.bind (f_X9_those F 1 mo) (fun q9 => (Option.bind (f_X9_dropsOf F q9 mo) (fun q10 => (lp (b_X9_settles_12 F) F (0, q10, mo)))))
set_option maxHeartbeats 4000000 in
set_option maxRecDepth 100000 in
theorem c_X9_settles (l : Launch) (D : va_G) (k : Nat → ClassId) (sz : Nat)  (va : Nat → Nat) (F : Nat)   (mo : OB)  {res : Int32 × OB} (h : f_X9_settles F mo = some res) : CtI l yX9_settles wsX9_settles (rmK 5 0 0) [.ref (va 0)] D k sz (moW k va mo) (fun r (_ : Unit) => r = res.1) (fun _ : Unit => moW k va res.2) 0 0 := by
  refine CtI.mk (cc := cX9_settles) (maxL := 4) (ret := (some .int)) (by decide) rfl (Nat.le_of_ble_eq_true rfl) ?_
  intro p e s m below meth c A ls E hP hD hS hl
  obtain ⟨hx, hb, hr, hml, hown, hts, hlocks, hin, hG, hA⟩ := E
  have hown : s.vm.findClass RX9 = some m.cls := hown
  have in9 : ∀ w ∈ u_ws RX9 TX9 53, w ∈ wsX9_settles := fun _ h => List.mem_cons_of_mem _ (List.mem_append_right _ h)
  have hl : lv_has ls 4 [(0, .ref (va 0))] := hl
  have B12 : ∀ a12 : (Int32 × Int32 × OB), lp (b_X9_settles_12 F) F a12 = some res → ∀ (H : Heap) (locs : List Loc) (ls : Array Slot), va_P D vwCl (moW k va a12.2.2) H → va_D A (moW k va a12.2.2) → va_S A s.heap H locs → lv_has ls 4 [(0, .ref (va 0)), (1, .int a12.1), (2, .int a12.2.1)] → W p l e (rmK 5 0 0) s m (List.toArray [.ref (va 0)]) below meth c H locs 0 0 (MQ below (va_Qi (fun r (_ : Unit) => r = res.1) (hcB D (fun _ : Unit => moW k va res.2) A) A) (List.toArray [.ref (va 0)]) s 0 0 A) (F0 m 12 ls []) := by
    refine lp_W ?_ F
    intro k12 hk12 a12 h H locs ls hP hD hS hl
    have hc12 : ∀ (v1 : Int32) (v2 : Int32) (mo : OB), k12 (v1, v2, mo) = some res → ∀ (H : Heap) (locs : List Loc) (ls : Array Slot), va_P D vwCl (moW k va mo) H → va_D A (moW k va mo) → va_S A s.heap H locs → lv_has ls 4 [(0, .ref (va 0)), (1, .int v1), (2, .int v2)] → W p l e (rmK 5 0 0) s m (List.toArray [.ref (va 0)]) below meth c H locs 0 0 (MQ below (va_Qi (fun r (_ : Unit) => r = res.1) (hcB D (fun _ : Unit => moW k va res.2) A) A) (List.toArray [.ref (va 0)]) s 0 0 A) (F0 m 12 ls []) := fun v1 v2 mo => hk12 (v1, v2, mo)
    have B18 : ∀ a18 : (Int32 × Int32 × Int32 × OB), lp (b_X9_settles_18 F k12) F a18 = some res → ∀ (H : Heap) (locs : List Loc) (ls : Array Slot), va_P D vwCl (moW k va a18.2.2.2) H → va_D A (moW k va a18.2.2.2) → va_S A s.heap H locs → lv_has ls 4 [(0, .ref (va 0)), (1, .int a18.1), (2, .int a18.2.1), (3, .int a18.2.2.1)] → W p l e (rmK 5 0 0) s m (List.toArray [.ref (va 0)]) below meth c H locs 0 0 (MQ below (va_Qi (fun r (_ : Unit) => r = res.1) (hcB D (fun _ : Unit => moW k va res.2) A) A) (List.toArray [.ref (va 0)]) s 0 0 A) (F0 m 18 ls []) := by
      refine lp_W ?_ F
      intro k18 hk18 a18 h H locs ls hP hD hS hl
      have hc18 : ∀ (v1 : Int32) (v2 : Int32) (v3 : Int32) (mo : OB), k18 (v1, v2, v3, mo) = some res → ∀ (H : Heap) (locs : List Loc) (ls : Array Slot), va_P D vwCl (moW k va mo) H → va_D A (moW k va mo) → va_S A s.heap H locs → lv_has ls 4 [(0, .ref (va 0)), (1, .int v1), (2, .int v2), (3, .int v3)] → W p l e (rmK 5 0 0) s m (List.toArray [.ref (va 0)]) below meth c H locs 0 0 (MQ below (va_Qi (fun r (_ : Unit) => r = res.1) (hcB D (fun _ : Unit => moW k va res.2) A) A) (List.toArray [.ref (va 0)]) s 0 0 A) (F0 m 18 ls []) := fun v1 v2 v3 mo => hk18 (v1, v2, v3, mo)
      have B51 : ∀ (v1 : Int32) (v2 : Int32) (v3 : Int32) (y0 : Int32) (y1 : Int32) (mo : OB) (H : Heap) (locs : List Loc) (ls : Array Slot), b_X9_settles_51 F k12 k18 v1 v2 v3 y0 y1 mo = some res → va_P D vwCl (moW k va mo) H → va_D A (moW k va mo) → va_S A s.heap H locs → lv_has ls 4 [(0, .ref (va 0)), (1, .int v1), (2, .int v2), (3, .int v3)] → W p l e (rmK 5 0 0) s m (List.toArray [.ref (va 0)]) below meth c H locs 0 0 (MQ below (va_Qi (fun r (_ : Unit) => r = res.1) (hcB D (fun _ : Unit => moW k va res.2) A) A) (List.toArray [.ref (va 0)]) s 0 0 A) (F0 m 51 ls [.int y0, .int y1, .ref (va 3)]) := by
        intro v1 v2 v3 y0 y1 mo H locs ls h hP hD hS hl
        obtain ⟨g1, h⟩ := fw_g h
        refine va_iast hx hb hG.1 hP hD hS 3 0 rfl rfl (ib_vp g1) dX9_settles_51 (fun H locs hP hD hS => ?_)
        refine lv_iinc (v := (v3 + 1)) (lv' := [(3, .int (v3 + 1)), (0, .ref (va 0)), (1, .int v1), (2, .int v2)]) hx hb dX9_settles_52 hl (k := 3) rfl rfl (by decide) rfl (fun ls hl => ?_)
        refine lv_goto (tgt := 18) hx hb dX9_settles_55 (by decide) ?_
        exact hc18 _ _ _ _ h _ _ _ hP hD hS (lv_sub hl [1, 2, 3, 0] rfl)
      refine lv_iload_n hx hb dX9_settles_18 rfl (lv_at hl 3 rfl) ?_
      refine lv_aload_n hx hb dX9_settles_19 rfl (lv_at hl 0 rfl) ?_
      refine va_get (D := D) (ci := 7) (v := .ref (va 1)) (C := RX9) (T := TX9) (N := 53) hx hb hts in9 hown hG.1 hP 0 rfl rfl 1 (by decide) (hts (.fieldLink RX9 9 "ChairCaneModel" "scalar" "[I") (mem_b bq_wsX9_settles 0 0 rfl)) (fun _ h9 => h9) rfl dX9_settles_20 ?_
      refine lv_iconst (v := 3) hx hb dX9_settles_23 (by decide) ?_
      refine va_iald hx hb hG.1 hP 1 0 rfl rfl (by unfold vp_in; decide) dX9_settles_24 ?_
      refine lv_icmp_ge (tgt := 58) hx hb dX9_settles_25 (by decide) (fun c2 => ?_) (fun c2 => ?_)
      · have h := fw_t c2 h
        refine lv_iload_n hx hb dX9_settles_58 rfl (lv_at hl 1 rfl) ?_
        refine lv_iload_n hx hb dX9_settles_59 rfl (lv_at hl 2 rfl) ?_
        refine lv_ior hx hb dX9_settles_60 ?_
        refine lv_istore_n (lv' := [(1, .int (a18.1 ||| a18.2.1)), (0, .ref (va 0)), (2, .int a18.2.1), (3, .int a18.2.2.1)]) hx hb dX9_settles_61 rfl hl (by decide) rfl (fun ls hl => ?_)
        refine lv_aload_n hx hb dX9_settles_62 rfl (lv_at hl 1 rfl) ?_
        refine lv_aload_n hx hb dX9_settles_63 rfl (lv_at hl 1 rfl) ?_
        refine lv_iconst (v := 1) hx hb dX9_settles_64 (by decide) ?_
        refine fw_Vi (As := [.int 1]) (rest := [.ref (va 0)]) (n := 1) (wr := []) (rv := fun b : Int32 => b) (wp := fun b : Int32 => moW k va a18.2.2.2) h hx hb hml hown hts hG hA hP hD hS hl.1 (List.range (moW k va a18.2.2.2).length) [] (fun q hq9 => c_X9_those l D k _  va F 1 a18.2.2.2  hq9) (ci := 7) (q0 := 0) rfl rfl gX9_settles_X9_those rfl ⟨rfl, rfl, Nat.le_of_ble_eq_true rfl, Nat.le_of_ble_eq_true rfl⟩ (by decide +kernel) (al_C _) rfl (al_n _) ⟨rfl, rfl, Nat.le_of_ble_eq_true rfl, Nat.le_of_ble_eq_true rfl, Nat.le_of_ble_eq_true rfl⟩ dX9_settles_65 (fun q3 H locs h hP hD hS => ?_)
        obtain ⟨hP, hD⟩ := cv (w' := moW k va a18.2.2.2) hP hD rfl
        refine hc_is (z := q3) rfl ?_
        refine fw_Vi (As := [.int q3]) (rest := []) (n := 1) (wr := []) (rv := fun b : Int32 => b) (wp := fun b : Int32 => moW k va a18.2.2.2) h hx hb hml hown hts hG hA hP hD hS hl.1 (List.range (moW k va a18.2.2.2).length) [] (fun q hq9 => c_X9_dropsOf l D k _  va F q3 a18.2.2.2  hq9) (ci := 7) (q0 := 0) rfl rfl gX9_settles_X9_dropsOf rfl ⟨rfl, rfl, Nat.le_of_ble_eq_true rfl, Nat.le_of_ble_eq_true rfl⟩ (by decide +kernel) (al_C _) rfl (al_n _) ⟨rfl, rfl, Nat.le_of_ble_eq_true rfl, Nat.le_of_ble_eq_true rfl, Nat.le_of_ble_eq_true rfl⟩ dX9_settles_68 (fun q4 H locs h hP hD hS => ?_)
        obtain ⟨hP, hD⟩ := cv (w' := moW k va a18.2.2.2) hP hD rfl
        refine hc_is (z := q4) rfl ?_
        refine lv_istore_n (lv' := [(2, .int q4), (1, .int (a18.1 ||| a18.2.1)), (0, .ref (va 0)), (3, .int a18.2.2.1)]) hx hb dX9_settles_71 rfl hl (by decide) rfl (fun ls hl => ?_)
        refine lv_goto (tgt := 12) hx hb dX9_settles_72 (by decide) ?_
        exact hc12 _ _ _ h _ _ _ hP hD hS (lv_sub hl [2, 1, 0] rfl)
      · have h := fw_f c2 h
        refine lv_aload_n hx hb dX9_settles_28 rfl (lv_at hl 0 rfl) ?_
        refine va_get (D := D) (ci := 7) (v := .ref (va 3)) (C := RX9) (T := TX9) (N := 53) hx hb hts in9 hown hG.1 hP 0 rfl rfl 3 (by decide) (hts (.fieldLink RX9 16 "ChairCaneModel" "is" "[I") (mem_b bq_wsX9_settles 0 1 rfl)) (fun _ h9 => h9) rfl dX9_settles_29 ?_
        refine lv_iload_n hx hb dX9_settles_32 rfl (lv_at hl 3 rfl) ?_
        refine lv_iload_n hx hb dX9_settles_33 rfl (lv_at hl 2 rfl) ?_
        refine lv_iload_n hx hb dX9_settles_34 rfl (lv_at hl 3 rfl) ?_
        refine fw_Si (As := [.int a18.2.1, .int a18.2.2.1]) (rest := [.int a18.2.2.1, .ref (va 3)]) (n := 2) (wr := moW k va a18.2.2.2) (rv := fun b : Int32 => b) (wp := fun b : Int32 => []) h hx hb hml hown hts hG hA hP hD hS hl.1 [] (List.range (moW k va a18.2.2.2).length) (fun q hq9 => c_X9_has l D k _   F a18.2.1 a18.2.2.1   hq9) gX9_settles_X9_has rfl ⟨rfl, rfl, Nat.le_of_ble_eq_true rfl, Nat.le_of_ble_eq_true rfl⟩ (by decide +kernel) rfl (al_C _) (al_m _) ⟨rfl, rfl, Nat.le_of_ble_eq_true rfl, Nat.le_of_ble_eq_true rfl, Nat.le_of_ble_eq_true rfl⟩ dX9_settles_35 (fun q5 H locs h hP hD hS => ?_)
        obtain ⟨hP, hD⟩ := cv (w' := (moW k va a18.2.2.2) ++ []) hP hD rfl
        rw [List.append_nil] at hP hD
        refine hc_is (z := q5) rfl ?_
        refine lv_if_eq (tgt := 45) hx hb dX9_settles_38 (by decide) (fun c6 => ?_) (fun c6 => ?_)
        · have h := fw_t c6 h
          refine lv_aload_n hx hb dX9_settles_45 rfl (lv_at hl 0 rfl) ?_
          refine va_get (D := D) (ci := 7) (v := .ref (va 3)) (C := RX9) (T := TX9) (N := 53) hx hb hts in9 hown hG.1 hP 0 rfl rfl 3 (by decide) (hts (.fieldLink RX9 16 "ChairCaneModel" "is" "[I") (mem_b bq_wsX9_settles 0 1 rfl)) (fun _ h9 => h9) rfl dX9_settles_46 ?_
          refine lv_iload_n hx hb dX9_settles_49 rfl (lv_at hl 3 rfl) ?_
          obtain ⟨g7, h⟩ := fw_g h
          refine va_iald hx hb hG.1 hP 3 0 rfl rfl (ib_vp g7) dX9_settles_50 ?_
          exact B51 _ _ _ _ _ _ _ _ _ h hP hD hS hl
        · have h := fw_f c6 h
          refine lv_iconst (v := 2) hx hb dX9_settles_41 (by decide) ?_
          refine lv_goto (tgt := 51) hx hb dX9_settles_42 (by decide) ?_
          exact B51 _ _ _ _ _ _ _ _ _ h hP hD hS hl
    have C18 : ∀ (v1 : Int32) (v2 : Int32) (v3 : Int32) (mo : OB), lp (b_X9_settles_18 F k12) F (v1, v2, v3, mo) = some res → ∀ (H : Heap) (locs : List Loc) (ls : Array Slot), va_P D vwCl (moW k va mo) H → va_D A (moW k va mo) → va_S A s.heap H locs → lv_has ls 4 [(0, .ref (va 0)), (1, .int v1), (2, .int v2), (3, .int v3)] → W p l e (rmK 5 0 0) s m (List.toArray [.ref (va 0)]) below meth c H locs 0 0 (MQ below (va_Qi (fun r (_ : Unit) => r = res.1) (hcB D (fun _ : Unit => moW k va res.2) A) A) (List.toArray [.ref (va 0)]) s 0 0 A) (F0 m 18 ls []) := fun v1 v2 v3 mo => B18 (v1, v2, v3, mo)
    refine lv_iload_n hx hb dX9_settles_12 rfl (lv_at hl 2 rfl) ?_
    refine lv_if_eq (tgt := 75) hx hb dX9_settles_13 (by decide) (fun c8 => ?_) (fun c8 => ?_)
    · have h := fw_t c8 h
      refine lv_iload_n hx hb dX9_settles_75 rfl (lv_at hl 1 rfl) ?_
      exact fw_endI (rv := fun b : Int32 × OB => b.1) (wp := fun b : Int32 × OB => moW k va b.2) hx hb hr hlocks h rfl hP hD hS dX9_settles_76
    · have h := fw_f c8 h
      refine lv_iconst (v := 0) hx hb dX9_settles_16 (by decide) ?_
      refine lv_istore_n (lv' := [(3, .int 0), (0, .ref (va 0)), (1, .int a12.1), (2, .int a12.2.1)]) hx hb dX9_settles_17 rfl hl (by decide) rfl (fun ls hl => ?_)
      exact C18 _ _ _ _ h _ _ _ hP hD hS (lv_sub hl [1, 2, 3, 0] rfl)
  have C12 : ∀ (v1 : Int32) (v2 : Int32) (mo : OB), lp (b_X9_settles_12 F) F (v1, v2, mo) = some res → ∀ (H : Heap) (locs : List Loc) (ls : Array Slot), va_P D vwCl (moW k va mo) H → va_D A (moW k va mo) → va_S A s.heap H locs → lv_has ls 4 [(0, .ref (va 0)), (1, .int v1), (2, .int v2)] → W p l e (rmK 5 0 0) s m (List.toArray [.ref (va 0)]) below meth c H locs 0 0 (MQ below (va_Qi (fun r (_ : Unit) => r = res.1) (hcB D (fun _ : Unit => moW k va res.2) A) A) (List.toArray [.ref (va 0)]) s 0 0 A) (F0 m 12 ls []) := fun v1 v2 mo => B12 (v1, v2, mo)
  refine lv_iconst (v := 0) hx hb dX9_settles_0 (by decide) ?_
  refine lv_istore_n (lv' := [(1, .int 0), (0, .ref (va 0))]) hx hb dX9_settles_1 rfl hl (by decide) rfl (fun ls hl => ?_)
  refine lv_aload_n hx hb dX9_settles_2 rfl (lv_at hl 1 rfl) ?_
  refine lv_aload_n hx hb dX9_settles_3 rfl (lv_at hl 1 rfl) ?_
  refine lv_iconst (v := 1) hx hb dX9_settles_4 (by decide) ?_
  refine fw_Vi (As := [.int 1]) (rest := [.ref (va 0)]) (n := 1) (wr := []) (rv := fun b : Int32 => b) (wp := fun b : Int32 => moW k va mo) h hx hb hml hown hts hG hA hP hD hS hl.1 (List.range (moW k va mo).length) [] (fun q hq9 => c_X9_those l D k _  va F 1 mo  hq9) (ci := 7) (q0 := 0) rfl rfl gX9_settles_X9_those rfl ⟨rfl, rfl, Nat.le_of_ble_eq_true rfl, Nat.le_of_ble_eq_true rfl⟩ (by decide +kernel) (al_C _) rfl (al_n _) ⟨rfl, rfl, Nat.le_of_ble_eq_true rfl, Nat.le_of_ble_eq_true rfl, Nat.le_of_ble_eq_true rfl⟩ dX9_settles_5 (fun q9 H locs h hP hD hS => ?_)
  obtain ⟨hP, hD⟩ := cv (w' := moW k va mo) hP hD rfl
  refine hc_is (z := q9) rfl ?_
  refine fw_Vi (As := [.int q9]) (rest := []) (n := 1) (wr := []) (rv := fun b : Int32 => b) (wp := fun b : Int32 => moW k va mo) h hx hb hml hown hts hG hA hP hD hS hl.1 (List.range (moW k va mo).length) [] (fun q hq9 => c_X9_dropsOf l D k _  va F q9 mo  hq9) (ci := 7) (q0 := 0) rfl rfl gX9_settles_X9_dropsOf rfl ⟨rfl, rfl, Nat.le_of_ble_eq_true rfl, Nat.le_of_ble_eq_true rfl⟩ (by decide +kernel) (al_C _) rfl (al_n _) ⟨rfl, rfl, Nat.le_of_ble_eq_true rfl, Nat.le_of_ble_eq_true rfl, Nat.le_of_ble_eq_true rfl⟩ dX9_settles_8 (fun q10 H locs h hP hD hS => ?_)
  obtain ⟨hP, hD⟩ := cv (w' := moW k va mo) hP hD rfl
  refine hc_is (z := q10) rfl ?_
  refine lv_istore_n (lv' := [(2, .int q10), (1, .int 0), (0, .ref (va 0))]) hx hb dX9_settles_11 rfl hl (by decide) rfl (fun ls hl => ?_)
  exact C12 _ _ _ h _ _ _ hP hD hS (lv_sub hl [2, 1, 0] rfl)
end
section
/-! the reference: a minute, as functions -/
theorem dX9_choice_0 : decode cX9_choice 0 = .ok (.aload_n 0, 1) := of_0 ok_aload_n_0 (by decide +kernel)
theorem dX9_choice_1 : decode cX9_choice 1 = .ok (.getfield 97, 3) := of_u2 ok_getfield 0 97 (by decide +kernel)
theorem dX9_choice_4 : decode cX9_choice 4 = .ok (.iload_n 1, 1) := of_0 ok_iload_n_1 (by decide +kernel)
theorem dX9_choice_5 : decode cX9_choice 5 = .ok (.iaload, 1) := of_0 ok_iaload (by decide +kernel)
theorem dX9_choice_6 : decode cX9_choice 6 = .ok (.iconst (-1), 1) := of_0 ok_iconst_m1 (by decide +kernel)
theorem dX9_choice_7 : decode cX9_choice 7 = .ok (.if_icmp .eq 10, 3) := of_s2 ok_if_icmp_eq 0 10 (by decide +kernel)
theorem dX9_choice_10 : decode cX9_choice 10 = .ok (.aload_n 0, 1) := of_0 ok_aload_n_0 (by decide +kernel)
theorem dX9_choice_11 : decode cX9_choice 11 = .ok (.getfield 97, 3) := of_u2 ok_getfield 0 97 (by decide +kernel)
theorem dX9_choice_14 : decode cX9_choice 14 = .ok (.iload_n 1, 1) := of_0 ok_iload_n_1 (by decide +kernel)
theorem dX9_choice_15 : decode cX9_choice 15 = .ok (.iaload, 1) := of_0 ok_iaload (by decide +kernel)
theorem dX9_choice_16 : decode cX9_choice 16 = .ok (.ireturn, 1) := of_0 ok_ireturn (by decide +kernel)
theorem dX9_choice_17 : decode cX9_choice 17 = .ok (.aload_n 0, 1) := of_0 ok_aload_n_0 (by decide +kernel)
theorem dX9_choice_18 : decode cX9_choice 18 = .ok (.getfield 9, 3) := of_u2 ok_getfield 0 9 (by decide +kernel)
theorem dX9_choice_21 : decode cX9_choice 21 = .ok (.bipush 7, 2) := of_s1 ok_bipush 7 (by decide +kernel)
theorem dX9_choice_23 : decode cX9_choice 23 = .ok (.iaload, 1) := of_0 ok_iaload (by decide +kernel)
theorem dX9_choice_24 : decode cX9_choice 24 = .ok (.iconst (-1), 1) := of_0 ok_iconst_m1 (by decide +kernel)
theorem dX9_choice_25 : decode cX9_choice 25 = .ok (.if_icmp .ne 10, 3) := of_s2 ok_if_icmp_ne 0 10 (by decide +kernel)
theorem dX9_choice_28 : decode cX9_choice 28 = .ok (.aload_n 0, 1) := of_0 ok_aload_n_0 (by decide +kernel)
theorem dX9_choice_29 : decode cX9_choice 29 = .ok (.getfield 16, 3) := of_u2 ok_getfield 0 16 (by decide +kernel)
theorem dX9_choice_32 : decode cX9_choice 32 = .ok (.iload_n 1, 1) := of_0 ok_iload_n_1 (by decide +kernel)
theorem dX9_choice_33 : decode cX9_choice 33 = .ok (.iaload, 1) := of_0 ok_iaload (by decide +kernel)
theorem dX9_choice_34 : decode cX9_choice 34 = .ok (.ireturn, 1) := of_0 ok_ireturn (by decide +kernel)
theorem dX9_choice_35 : decode cX9_choice 35 = .ok (.aload_n 0, 1) := of_0 ok_aload_n_0 (by decide +kernel)
theorem dX9_choice_36 : decode cX9_choice 36 = .ok (.aload_n 0, 1) := of_0 ok_aload_n_0 (by decide +kernel)
theorem dX9_choice_37 : decode cX9_choice 37 = .ok (.iconst 1, 1) := of_0 ok_iconst_1 (by decide +kernel)
theorem dX9_choice_38 : decode cX9_choice 38 = .ok (.invokevirtual 341, 3) := of_u2 ok_invokevirtual 1 85 (by decide +kernel)
theorem dX9_choice_41 : decode cX9_choice 41 = .ok (.aload_n 0, 1) := of_0 ok_aload_n_0 (by decide +kernel)
theorem dX9_choice_42 : decode cX9_choice 42 = .ok (.getfield 19, 3) := of_u2 ok_getfield 0 19 (by decide +kernel)
theorem dX9_choice_45 : decode cX9_choice 45 = .ok (.aload_n 0, 1) := of_0 ok_aload_n_0 (by decide +kernel)
theorem dX9_choice_46 : decode cX9_choice 46 = .ok (.getfield 28, 3) := of_u2 ok_getfield 0 28 (by decide +kernel)
theorem dX9_choice_49 : decode cX9_choice 49 = .ok (.iload_n 1, 1) := of_0 ok_iload_n_1 (by decide +kernel)
theorem dX9_choice_50 : decode cX9_choice 50 = .ok (.iaload, 1) := of_0 ok_iaload (by decide +kernel)
theorem dX9_choice_51 : decode cX9_choice 51 = .ok (.iaload, 1) := of_0 ok_iaload (by decide +kernel)
theorem dX9_choice_52 : decode cX9_choice 52 = .ok (.invokevirtual 335, 3) := of_u2 ok_invokevirtual 1 79 (by decide +kernel)
theorem dX9_choice_55 : decode cX9_choice 55 = .ok (.iconst 1, 1) := of_0 ok_iconst_1 (by decide +kernel)
theorem dX9_choice_56 : decode cX9_choice 56 = .ok (.iload_n 1, 1) := of_0 ok_iload_n_1 (by decide +kernel)
theorem dX9_choice_57 : decode cX9_choice 57 = .ok (.ishl, 1) := of_0 ok_ishl (by decide +kernel)
theorem dX9_choice_58 : decode cX9_choice 58 = .ok (.iconst (-1), 1) := of_0 ok_iconst_m1 (by decide +kernel)
theorem dX9_choice_59 : decode cX9_choice 59 = .ok (.ixor, 1) := of_0 ok_ixor (by decide +kernel)
theorem dX9_choice_60 : decode cX9_choice 60 = .ok (.iand, 1) := of_0 ok_iand (by decide +kernel)
theorem dX9_choice_61 : decode cX9_choice 61 = .ok (.istore_n 2, 1) := of_0 ok_istore_n_2 (by decide +kernel)
theorem dX9_choice_62 : decode cX9_choice 62 = .ok (.aload_n 0, 1) := of_0 ok_aload_n_0 (by decide +kernel)
theorem dX9_choice_63 : decode cX9_choice 63 = .ok (.getfield 90, 3) := of_u2 ok_getfield 0 90 (by decide +kernel)
theorem dX9_choice_66 : decode cX9_choice 66 = .ok (.iconst 0, 1) := of_0 ok_iconst_0 (by decide +kernel)
theorem dX9_choice_67 : decode cX9_choice 67 = .ok (.iload_n 1, 1) := of_0 ok_iload_n_1 (by decide +kernel)
theorem dX9_choice_68 : decode cX9_choice 68 = .ok (.i2l, 1) := of_0 ok_i2l (by decide +kernel)
theorem dX9_choice_69 : decode cX9_choice 69 = .ok (.lastore, 1) := of_0 ok_lastore (by decide +kernel)
theorem dX9_choice_70 : decode cX9_choice 70 = .ok (.aload_n 0, 1) := of_0 ok_aload_n_0 (by decide +kernel)
theorem dX9_choice_71 : decode cX9_choice 71 = .ok (.getfield 90, 3) := of_u2 ok_getfield 0 90 (by decide +kernel)
theorem dX9_choice_74 : decode cX9_choice 74 = .ok (.iconst 1, 1) := of_0 ok_iconst_1 (by decide +kernel)
theorem dX9_choice_75 : decode cX9_choice 75 = .ok (.aload_n 0, 1) := of_0 ok_aload_n_0 (by decide +kernel)
theorem dX9_choice_76 : decode cX9_choice 76 = .ok (.getfield 28, 3) := of_u2 ok_getfield 0 28 (by decide +kernel)
theorem dX9_choice_79 : decode cX9_choice 79 = .ok (.iload_n 1, 1) := of_0 ok_iload_n_1 (by decide +kernel)
theorem dX9_choice_80 : decode cX9_choice 80 = .ok (.iaload, 1) := of_0 ok_iaload (by decide +kernel)
theorem dX9_choice_81 : decode cX9_choice 81 = .ok (.i2l, 1) := of_0 ok_i2l (by decide +kernel)
theorem dX9_choice_82 : decode cX9_choice 82 = .ok (.lastore, 1) := of_0 ok_lastore (by decide +kernel)
theorem dX9_choice_83 : decode cX9_choice 83 = .ok (.aload_n 0, 1) := of_0 ok_aload_n_0 (by decide +kernel)
theorem dX9_choice_84 : decode cX9_choice 84 = .ok (.getfield 90, 3) := of_u2 ok_getfield 0 90 (by decide +kernel)
theorem dX9_choice_87 : decode cX9_choice 87 = .ok (.iconst 2, 1) := of_0 ok_iconst_2 (by decide +kernel)
theorem dX9_choice_88 : decode cX9_choice 88 = .ok (.aload_n 0, 1) := of_0 ok_aload_n_0 (by decide +kernel)
theorem dX9_choice_89 : decode cX9_choice 89 = .ok (.getfield 22, 3) := of_u2 ok_getfield 0 22 (by decide +kernel)
theorem dX9_choice_92 : decode cX9_choice 92 = .ok (.iload_n 1, 1) := of_0 ok_iload_n_1 (by decide +kernel)
theorem dX9_choice_93 : decode cX9_choice 93 = .ok (.iaload, 1) := of_0 ok_iaload (by decide +kernel)
theorem dX9_choice_94 : decode cX9_choice 94 = .ok (.i2l, 1) := of_0 ok_i2l (by decide +kernel)
theorem dX9_choice_95 : decode cX9_choice 95 = .ok (.lastore, 1) := of_0 ok_lastore (by decide +kernel)
theorem dX9_choice_96 : decode cX9_choice 96 = .ok (.aload_n 0, 1) := of_0 ok_aload_n_0 (by decide +kernel)
theorem dX9_choice_97 : decode cX9_choice 97 = .ok (.getfield 90, 3) := of_u2 ok_getfield 0 90 (by decide +kernel)
theorem dX9_choice_100 : decode cX9_choice 100 = .ok (.iconst 3, 1) := of_0 ok_iconst_3 (by decide +kernel)
theorem dX9_choice_101 : decode cX9_choice 101 = .ok (.aload_n 0, 1) := of_0 ok_aload_n_0 (by decide +kernel)
theorem dX9_choice_102 : decode cX9_choice 102 = .ok (.getfield 25, 3) := of_u2 ok_getfield 0 25 (by decide +kernel)
theorem dX9_choice_105 : decode cX9_choice 105 = .ok (.aload_n 0, 1) := of_0 ok_aload_n_0 (by decide +kernel)
theorem dX9_choice_106 : decode cX9_choice 106 = .ok (.getfield 28, 3) := of_u2 ok_getfield 0 28 (by decide +kernel)
theorem dX9_choice_109 : decode cX9_choice 109 = .ok (.iload_n 1, 1) := of_0 ok_iload_n_1 (by decide +kernel)
theorem dX9_choice_110 : decode cX9_choice 110 = .ok (.iaload, 1) := of_0 ok_iaload (by decide +kernel)
theorem dX9_choice_111 : decode cX9_choice 111 = .ok (.iaload, 1) := of_0 ok_iaload (by decide +kernel)
theorem dX9_choice_112 : decode cX9_choice 112 = .ok (.i2l, 1) := of_0 ok_i2l (by decide +kernel)
theorem dX9_choice_113 : decode cX9_choice 113 = .ok (.lastore, 1) := of_0 ok_lastore (by decide +kernel)
theorem dX9_choice_114 : decode cX9_choice 114 = .ok (.aload_n 0, 1) := of_0 ok_aload_n_0 (by decide +kernel)
theorem dX9_choice_115 : decode cX9_choice 115 = .ok (.getfield 90, 3) := of_u2 ok_getfield 0 90 (by decide +kernel)
theorem dX9_choice_118 : decode cX9_choice 118 = .ok (.iconst 4, 1) := of_0 ok_iconst_4 (by decide +kernel)
theorem dX9_choice_119 : decode cX9_choice 119 = .ok (.aload_n 0, 1) := of_0 ok_aload_n_0 (by decide +kernel)
theorem dX9_choice_120 : decode cX9_choice 120 = .ok (.getfield 13, 3) := of_u2 ok_getfield 0 13 (by decide +kernel)
theorem dX9_choice_123 : decode cX9_choice 123 = .ok (.aload_n 0, 1) := of_0 ok_aload_n_0 (by decide +kernel)
theorem dX9_choice_124 : decode cX9_choice 124 = .ok (.getfield 19, 3) := of_u2 ok_getfield 0 19 (by decide +kernel)
theorem dX9_choice_127 : decode cX9_choice 127 = .ok (.aload_n 0, 1) := of_0 ok_aload_n_0 (by decide +kernel)
theorem dX9_choice_128 : decode cX9_choice 128 = .ok (.getfield 28, 3) := of_u2 ok_getfield 0 28 (by decide +kernel)
theorem dX9_choice_131 : decode cX9_choice 131 = .ok (.iload_n 1, 1) := of_0 ok_iload_n_1 (by decide +kernel)
theorem dX9_choice_132 : decode cX9_choice 132 = .ok (.iaload, 1) := of_0 ok_iaload (by decide +kernel)
theorem dX9_choice_133 : decode cX9_choice 133 = .ok (.iaload, 1) := of_0 ok_iaload (by decide +kernel)
theorem dX9_choice_134 : decode cX9_choice 134 = .ok (.iaload, 1) := of_0 ok_iaload (by decide +kernel)
theorem dX9_choice_135 : decode cX9_choice 135 = .ok (.i2l, 1) := of_0 ok_i2l (by decide +kernel)
theorem dX9_choice_136 : decode cX9_choice 136 = .ok (.lastore, 1) := of_0 ok_lastore (by decide +kernel)
theorem dX9_choice_137 : decode cX9_choice 137 = .ok (.aload_n 0, 1) := of_0 ok_aload_n_0 (by decide +kernel)
theorem dX9_choice_138 : decode cX9_choice 138 = .ok (.getfield 90, 3) := of_u2 ok_getfield 0 90 (by decide +kernel)
theorem dX9_choice_141 : decode cX9_choice 141 = .ok (.iconst 5, 1) := of_0 ok_iconst_5 (by decide +kernel)
theorem dX9_choice_142 : decode cX9_choice 142 = .ok (.aload_n 0, 1) := of_0 ok_aload_n_0 (by decide +kernel)
theorem dX9_choice_143 : decode cX9_choice 143 = .ok (.getfield 16, 3) := of_u2 ok_getfield 0 16 (by decide +kernel)
theorem dX9_choice_146 : decode cX9_choice 146 = .ok (.iload_n 1, 1) := of_0 ok_iload_n_1 (by decide +kernel)
theorem dX9_choice_147 : decode cX9_choice 147 = .ok (.iaload, 1) := of_0 ok_iaload (by decide +kernel)
theorem dX9_choice_148 : decode cX9_choice 148 = .ok (.i2l, 1) := of_0 ok_i2l (by decide +kernel)
theorem dX9_choice_149 : decode cX9_choice 149 = .ok (.lastore, 1) := of_0 ok_lastore (by decide +kernel)
theorem dX9_choice_150 : decode cX9_choice 150 = .ok (.aload_n 0, 1) := of_0 ok_aload_n_0 (by decide +kernel)
theorem dX9_choice_151 : decode cX9_choice 151 = .ok (.getfield 90, 3) := of_u2 ok_getfield 0 90 (by decide +kernel)
theorem dX9_choice_154 : decode cX9_choice 154 = .ok (.bipush 6, 2) := of_s1 ok_bipush 6 (by decide +kernel)
theorem dX9_choice_156 : decode cX9_choice 156 = .ok (.aload_n 0, 1) := of_0 ok_aload_n_0 (by decide +kernel)
theorem dX9_choice_157 : decode cX9_choice 157 = .ok (.iload_n 1, 1) := of_0 ok_iload_n_1 (by decide +kernel)
theorem dX9_choice_158 : decode cX9_choice 158 = .ok (.invokevirtual 359, 3) := of_u2 ok_invokevirtual 1 103 (by decide +kernel)
theorem dX9_choice_161 : decode cX9_choice 161 = .ok (.i2l, 1) := of_0 ok_i2l (by decide +kernel)
theorem dX9_choice_162 : decode cX9_choice 162 = .ok (.lastore, 1) := of_0 ok_lastore (by decide +kernel)
theorem dX9_choice_163 : decode cX9_choice 163 = .ok (.aload_n 0, 1) := of_0 ok_aload_n_0 (by decide +kernel)
theorem dX9_choice_164 : decode cX9_choice 164 = .ok (.getfield 90, 3) := of_u2 ok_getfield 0 90 (by decide +kernel)
theorem dX9_choice_167 : decode cX9_choice 167 = .ok (.bipush 7, 2) := of_s1 ok_bipush 7 (by decide +kernel)
theorem dX9_choice_169 : decode cX9_choice 169 = .ok (.iload_n 2, 1) := of_0 ok_iload_n_2 (by decide +kernel)
theorem dX9_choice_170 : decode cX9_choice 170 = .ok (.invokestatic 370, 3) := of_u2 ok_invokestatic 1 114 (by decide +kernel)
theorem dX9_choice_173 : decode cX9_choice 173 = .ok (.i2l, 1) := of_0 ok_i2l (by decide +kernel)
theorem dX9_choice_174 : decode cX9_choice 174 = .ok (.lastore, 1) := of_0 ok_lastore (by decide +kernel)
theorem dX9_choice_175 : decode cX9_choice 175 = .ok (.aload_n 0, 1) := of_0 ok_aload_n_0 (by decide +kernel)
theorem dX9_choice_176 : decode cX9_choice 176 = .ok (.getfield 90, 3) := of_u2 ok_getfield 0 90 (by decide +kernel)
theorem dX9_choice_179 : decode cX9_choice 179 = .ok (.bipush 8, 2) := of_s1 ok_bipush 8 (by decide +kernel)
theorem dX9_choice_181 : decode cX9_choice 181 = .ok (.aload_n 0, 1) := of_0 ok_aload_n_0 (by decide +kernel)
theorem dX9_choice_182 : decode cX9_choice 182 = .ok (.iload_n 2, 1) := of_0 ok_iload_n_2 (by decide +kernel)
theorem dX9_choice_183 : decode cX9_choice 183 = .ok (.invokevirtual 338, 3) := of_u2 ok_invokevirtual 1 82 (by decide +kernel)
theorem dX9_choice_186 : decode cX9_choice 186 = .ok (.i2l, 1) := of_0 ok_i2l (by decide +kernel)
theorem dX9_choice_187 : decode cX9_choice 187 = .ok (.lastore, 1) := of_0 ok_lastore (by decide +kernel)
theorem dX9_choice_188 : decode cX9_choice 188 = .ok (.aload_n 0, 1) := of_0 ok_aload_n_0 (by decide +kernel)
theorem dX9_choice_189 : decode cX9_choice 189 = .ok (.getfield 90, 3) := of_u2 ok_getfield 0 90 (by decide +kernel)
theorem dX9_choice_192 : decode cX9_choice 192 = .ok (.bipush 9, 2) := of_s1 ok_bipush 9 (by decide +kernel)
theorem dX9_choice_194 : decode cX9_choice 194 = .ok (.aload_n 0, 1) := of_0 ok_aload_n_0 (by decide +kernel)
theorem dX9_choice_195 : decode cX9_choice 195 = .ok (.iconst 2, 1) := of_0 ok_iconst_2 (by decide +kernel)
theorem dX9_choice_196 : decode cX9_choice 196 = .ok (.invokevirtual 341, 3) := of_u2 ok_invokevirtual 1 85 (by decide +kernel)
theorem dX9_choice_199 : decode cX9_choice 199 = .ok (.invokestatic 370, 3) := of_u2 ok_invokestatic 1 114 (by decide +kernel)
theorem dX9_choice_202 : decode cX9_choice 202 = .ok (.i2l, 1) := of_0 ok_i2l (by decide +kernel)
theorem dX9_choice_203 : decode cX9_choice 203 = .ok (.lastore, 1) := of_0 ok_lastore (by decide +kernel)
theorem dX9_choice_204 : decode cX9_choice 204 = .ok (.aload_n 0, 1) := of_0 ok_aload_n_0 (by decide +kernel)
theorem dX9_choice_205 : decode cX9_choice 205 = .ok (.getfield 90, 3) := of_u2 ok_getfield 0 90 (by decide +kernel)
theorem dX9_choice_208 : decode cX9_choice 208 = .ok (.bipush 10, 2) := of_s1 ok_bipush 10 (by decide +kernel)
theorem dX9_choice_210 : decode cX9_choice 210 = .ok (.aload_n 0, 1) := of_0 ok_aload_n_0 (by decide +kernel)
theorem dX9_choice_211 : decode cX9_choice 211 = .ok (.getfield 9, 3) := of_u2 ok_getfield 0 9 (by decide +kernel)
theorem dX9_choice_214 : decode cX9_choice 214 = .ok (.iconst 4, 1) := of_0 ok_iconst_4 (by decide +kernel)
theorem dX9_choice_215 : decode cX9_choice 215 = .ok (.iaload, 1) := of_0 ok_iaload (by decide +kernel)
theorem dX9_choice_216 : decode cX9_choice 216 = .ok (.i2l, 1) := of_0 ok_i2l (by decide +kernel)
theorem dX9_choice_217 : decode cX9_choice 217 = .ok (.lastore, 1) := of_0 ok_lastore (by decide +kernel)
theorem dX9_choice_218 : decode cX9_choice 218 = .ok (.aload_n 0, 1) := of_0 ok_aload_n_0 (by decide +kernel)
theorem dX9_choice_219 : decode cX9_choice 219 = .ok (.invokevirtual 373, 3) := of_u2 ok_invokevirtual 1 117 (by decide +kernel)
theorem dX9_choice_222 : decode cX9_choice 222 = .ok (.lconst 0, 1) := of_0 ok_lconst_0 (by decide +kernel)
theorem dX9_choice_223 : decode cX9_choice 223 = .ok (.lcmp, 1) := of_0 ok_lcmp (by decide +kernel)
theorem dX9_choice_224 : decode cX9_choice 224 = .ok (.ifCond .le 7, 3) := of_s2 ok_ifCond_le 0 7 (by decide +kernel)
theorem dX9_choice_227 : decode cX9_choice 227 = .ok (.iconst 1, 1) := of_0 ok_iconst_1 (by decide +kernel)
theorem dX9_choice_228 : decode cX9_choice 228 = .ok (.goto 4, 3) := of_s2 ok_goto 0 4 (by decide +kernel)
theorem dX9_choice_231 : decode cX9_choice 231 = .ok (.iconst 0, 1) := of_0 ok_iconst_0 (by decide +kernel)
theorem dX9_choice_232 : decode cX9_choice 232 = .ok (.ireturn, 1) := of_0 ok_ireturn (by decide +kernel)
theorem dX9_goFor_0 : decode cX9_goFor 0 = .ok (.iconst 0, 1) := of_0 ok_iconst_0 (by decide +kernel)
theorem dX9_goFor_1 : decode cX9_goFor 1 = .ok (.istore_n 2, 1) := of_0 ok_istore_n_2 (by decide +kernel)
theorem dX9_goFor_2 : decode cX9_goFor 2 = .ok (.iload_n 2, 1) := of_0 ok_iload_n_2 (by decide +kernel)
theorem dX9_goFor_3 : decode cX9_goFor 3 = .ok (.iload_n 1, 1) := of_0 ok_iload_n_1 (by decide +kernel)
theorem dX9_goFor_4 : decode cX9_goFor 4 = .ok (.if_icmp .ge 14, 3) := of_s2 ok_if_icmp_ge 0 14 (by decide +kernel)
theorem dX9_goFor_7 : decode cX9_goFor 7 = .ok (.aload_n 0, 1) := of_0 ok_aload_n_0 (by decide +kernel)
theorem dX9_goFor_8 : decode cX9_goFor 8 = .ok (.invokevirtual 383, 3) := of_u2 ok_invokevirtual 1 127 (by decide +kernel)
theorem dX9_goFor_11 : decode cX9_goFor 11 = .ok (.pop, 1) := of_0 ok_pop (by decide +kernel)
theorem dX9_goFor_12 : decode cX9_goFor 12 = .ok (.iinc 2 1, 3) := of_ii ok_iinc 1 (by decide +kernel)
theorem dX9_goFor_15 : decode cX9_goFor 15 = .ok (.goto (-13), 3) := of_s2 ok_goto 255 243 (by decide +kernel)
theorem dX9_goFor_18 : decode cX9_goFor 18 = .ok (.return_, 1) := of_0 ok_return_ (by decide +kernel)
theorem dX9_goes_0 : decode cX9_goes 0 = .ok (.iconst 0, 1) := of_0 ok_iconst_0 (by decide +kernel)
theorem dX9_goes_1 : decode cX9_goes 1 = .ok (.istore_n 1, 1) := of_0 ok_istore_n_1 (by decide +kernel)
theorem dX9_goes_2 : decode cX9_goes 2 = .ok (.iload_n 1, 1) := of_0 ok_iload_n_1 (by decide +kernel)
theorem dX9_goes_3 : decode cX9_goes 3 = .ok (.aload_n 0, 1) := of_0 ok_aload_n_0 (by decide +kernel)
theorem dX9_goes_4 : decode cX9_goes 4 = .ok (.getfield 9, 3) := of_u2 ok_getfield 0 9 (by decide +kernel)
theorem dX9_goes_7 : decode cX9_goes 7 = .ok (.iconst 3, 1) := of_0 ok_iconst_3 (by decide +kernel)
theorem dX9_goes_8 : decode cX9_goes 8 = .ok (.iaload, 1) := of_0 ok_iaload (by decide +kernel)
theorem dX9_goes_9 : decode cX9_goes 9 = .ok (.if_icmp .ge 34, 3) := of_s2 ok_if_icmp_ge 0 34 (by decide +kernel)
theorem dX9_goes_12 : decode cX9_goes 12 = .ok (.aload_n 0, 1) := of_0 ok_aload_n_0 (by decide +kernel)
theorem dX9_goes_13 : decode cX9_goes 13 = .ok (.getfield 16, 3) := of_u2 ok_getfield 0 16 (by decide +kernel)
theorem dX9_goes_16 : decode cX9_goes 16 = .ok (.iload_n 1, 1) := of_0 ok_iload_n_1 (by decide +kernel)
theorem dX9_goes_17 : decode cX9_goes 17 = .ok (.aload_n 0, 1) := of_0 ok_aload_n_0 (by decide +kernel)
theorem dX9_goes_18 : decode cX9_goes 18 = .ok (.getfield 16, 3) := of_u2 ok_getfield 0 16 (by decide +kernel)
theorem dX9_goes_21 : decode cX9_goes 21 = .ok (.iload_n 1, 1) := of_0 ok_iload_n_1 (by decide +kernel)
theorem dX9_goes_22 : decode cX9_goes 22 = .ok (.iaload, 1) := of_0 ok_iaload (by decide +kernel)
theorem dX9_goes_23 : decode cX9_goes 23 = .ok (.iconst 2, 1) := of_0 ok_iconst_2 (by decide +kernel)
theorem dX9_goes_24 : decode cX9_goes 24 = .ok (.if_icmp .ne 7, 3) := of_s2 ok_if_icmp_ne 0 7 (by decide +kernel)
theorem dX9_goes_27 : decode cX9_goes 27 = .ok (.iconst 2, 1) := of_0 ok_iconst_2 (by decide +kernel)
theorem dX9_goes_28 : decode cX9_goes 28 = .ok (.goto 8, 3) := of_s2 ok_goto 0 8 (by decide +kernel)
theorem dX9_goes_31 : decode cX9_goes 31 = .ok (.aload_n 0, 1) := of_0 ok_aload_n_0 (by decide +kernel)
theorem dX9_goes_32 : decode cX9_goes 32 = .ok (.iload_n 1, 1) := of_0 ok_iload_n_1 (by decide +kernel)
theorem dX9_goes_33 : decode cX9_goes 33 = .ok (.invokevirtual 377, 3) := of_u2 ok_invokevirtual 1 121 (by decide +kernel)
theorem dX9_goes_36 : decode cX9_goes 36 = .ok (.iastore, 1) := of_0 ok_iastore (by decide +kernel)
theorem dX9_goes_37 : decode cX9_goes 37 = .ok (.iinc 1 1, 3) := of_ii ok_iinc 1 (by decide +kernel)
theorem dX9_goes_40 : decode cX9_goes 40 = .ok (.goto (-38), 3) := of_s2 ok_goto 255 218 (by decide +kernel)
theorem dX9_goes_43 : decode cX9_goes 43 = .ok (.aload_n 0, 1) := of_0 ok_aload_n_0 (by decide +kernel)
theorem dX9_goes_44 : decode cX9_goes 44 = .ok (.getfield 9, 3) := of_u2 ok_getfield 0 9 (by decide +kernel)
theorem dX9_goes_47 : decode cX9_goes 47 = .ok (.iconst 4, 1) := of_0 ok_iconst_4 (by decide +kernel)
theorem dX9_goes_48 : decode cX9_goes 48 = .ok (.dup2, 1) := of_0 ok_dup2 (by decide +kernel)
theorem dX9_goes_49 : decode cX9_goes 49 = .ok (.iaload, 1) := of_0 ok_iaload (by decide +kernel)
theorem dX9_goes_50 : decode cX9_goes 50 = .ok (.iconst 1, 1) := of_0 ok_iconst_1 (by decide +kernel)
theorem dX9_goes_51 : decode cX9_goes 51 = .ok (.iadd, 1) := of_0 ok_iadd (by decide +kernel)
theorem dX9_goes_52 : decode cX9_goes 52 = .ok (.iastore, 1) := of_0 ok_iastore (by decide +kernel)
theorem dX9_goes_53 : decode cX9_goes 53 = .ok (.aload_n 0, 1) := of_0 ok_aload_n_0 (by decide +kernel)
theorem dX9_goes_54 : decode cX9_goes 54 = .ok (.invokevirtual 380, 3) := of_u2 ok_invokevirtual 1 124 (by decide +kernel)
theorem dX9_goes_57 : decode cX9_goes 57 = .ok (.ireturn, 1) := of_0 ok_ireturn (by decide +kernel)
set_option maxRecDepth 20000 in
theorem bq_wsX9_choice : subq wsX9_choice [wsX9_choice_r1, wsX9_choice_r2, wsX9_choice_r3] := ⟨(fun _ h => (List.mem_cons_of_mem _ (List.mem_append_left _ (List.mem_append_left _ h)))), (fun _ h => (List.mem_cons_of_mem _ (List.mem_append_left _ (List.mem_append_right _ (List.mem_append_left _ h))))), (fun _ h => (List.mem_cons_of_mem _ (List.mem_append_left _ (List.mem_append_right _ (List.mem_append_right _ h))))), trivial⟩
set_option maxRecDepth 20000 in
theorem ggX9_choice_X9_bits : GoodIn wsX9_choice wsX9_bits := (goodIn_cons (good_rb bq_wsX9_choice ([(1, 11)] : List (Nat × Nat)) rfl (by decide +kernel)) (good_rb bq_wsX9_choice ([] : List (Nat × Nat)) rfl (by decide +kernel)))
set_option maxRecDepth 20000 in
theorem gX9_choice_X9_bits : GoodIn wsX9_choice (va_wsS RX9 370 yX9_bits wsX9_bits) := goodIn_app (good_rp ([34, 35, 13] : List Nat) rfl (by decide +kernel)) ggX9_choice_X9_bits
set_option maxRecDepth 20000 in
theorem ggX9_choice_X9_givesNow : GoodIn wsX9_choice wsX9_givesNow := (goodIn_cons (good_rb bq_wsX9_choice ([(1, 0)] : List (Nat × Nat)) rfl (by decide +kernel)) (goodIn_app (goodIn_app (good_rb bq_wsX9_choice ([(0, 9), (0, 10), (0, 11), (0, 12), (0, 13), (0, 1), (0, 2), (1, 1), (1, 2), (1, 3), (1, 4), (0, 3), (0, 4), (0, 8), (0, 6), (0, 18), (0, 19), (0, 20), (0, 14), (0, 15), (0, 16), (0, 17), (1, 5), (1, 6)] : List (Nat × Nat)) rfl (by decide +kernel)) (good_rb bq_wsX9_choice ([(1, 7), (1, 8)] : List (Nat × Nat)) rfl (by decide +kernel))) (goodIn_sb (fun _ h => (List.mem_cons_of_mem _ (List.mem_append_right _ h))) (by decide +kernel))))
set_option maxRecDepth 20000 in
theorem gX9_choice_X9_givesNow : GoodIn wsX9_choice (wsV RX9 359 RX9 yX9_givesNow wsX9_givesNow) := goodIn_app (good_rp ([22, 23, 24, 13] : List Nat) rfl (by decide +kernel)) ggX9_choice_X9_givesNow
set_option maxRecDepth 20000 in
theorem ggX9_choice_X9_onStrand : GoodIn wsX9_choice wsX9_onStrand := (goodIn_cons (good_rb bq_wsX9_choice ([(0, 17)] : List (Nat × Nat)) rfl (by decide +kernel)) (goodIn_app (good_rb bq_wsX9_choice ([(0, 1), (0, 3), (0, 4), (0, 18), (0, 19), (0, 12), (0, 20)] : List (Nat × Nat)) rfl (by decide +kernel)) (goodIn_sb (fun _ h => (List.mem_cons_of_mem _ (List.mem_append_right _ h))) (by decide +kernel))))
set_option maxRecDepth 20000 in
theorem gX9_choice_X9_onStrand : GoodIn wsX9_choice (wsV RX9 335 RX9 yX9_onStrand wsX9_onStrand) := goodIn_app (good_rp ([15, 16, 17, 13] : List Nat) rfl (by decide +kernel)) ggX9_choice_X9_onStrand
set_option maxRecDepth 20000 in
theorem ggX9_choice_X9_those : GoodIn wsX9_choice wsX9_those := (goodIn_cons (good_rb bq_wsX9_choice ([(0, 13)] : List (Nat × Nat)) rfl (by decide +kernel)) (goodIn_app (good_rb bq_wsX9_choice ([(0, 1), (0, 2)] : List (Nat × Nat)) rfl (by decide +kernel)) (goodIn_sb (fun _ h => (List.mem_cons_of_mem _ (List.mem_append_right _ h))) (by decide +kernel))))
set_option maxRecDepth 20000 in
theorem gX9_choice_X9_those : GoodIn wsX9_choice (wsV RX9 341 RX9 yX9_those wsX9_those) := goodIn_app (good_rp ([10, 11, 12, 13] : List Nat) rfl (by decide +kernel)) ggX9_choice_X9_those
set_option maxRecDepth 20000 in
theorem ggX9_choice_X9_wanted : GoodIn wsX9_choice wsX9_wanted := (goodIn_cons (good_rb bq_wsX9_choice ([(1, 15)] : List (Nat × Nat)) rfl (by decide +kernel)) (goodIn_app (good_rb bq_wsX9_choice ([(0, 1), (1, 16), (1, 17), (1, 18), (1, 19), (1, 20), (1, 21), (1, 22), (0, 12), (1, 23), (2, 0), (2, 1), (2, 2), (0, 5), (2, 3), (2, 4), (2, 5), (2, 6), (2, 7), (2, 8)] : List (Nat × Nat)) rfl (by decide +kernel)) (goodIn_sb (fun _ h => (List.mem_cons_of_mem _ (List.mem_append_right _ h))) (by decide +kernel))))
set_option maxRecDepth 20000 in
theorem gX9_choice_X9_wanted : GoodIn wsX9_choice (wsV RX9 373 RX9 yX9_wanted wsX9_wanted) := goodIn_app (good_rp ([37, 38, 39, 13] : List Nat) rfl (by decide +kernel)) ggX9_choice_X9_wanted
set_option maxRecDepth 20000 in
theorem ggX9_choice_X9_weightOf : GoodIn wsX9_choice wsX9_weightOf := (goodIn_cons (good_rb bq_wsX9_choice ([(1, 8)] : List (Nat × Nat)) rfl (by decide +kernel)) (goodIn_app (good_rb bq_wsX9_choice ([(0, 1), (0, 6), (0, 18), (0, 19), (0, 12), (0, 20)] : List (Nat × Nat)) rfl (by decide +kernel)) (goodIn_sb (fun _ h => (List.mem_cons_of_mem _ (List.mem_append_right _ h))) (by decide +kernel))))
set_option maxRecDepth 20000 in
theorem gX9_choice_X9_weightOf : GoodIn wsX9_choice (wsV RX9 338 RX9 yX9_weightOf wsX9_weightOf) := goodIn_app (good_rp ([30, 31, 32, 13] : List Nat) rfl (by decide +kernel)) ggX9_choice_X9_weightOf
set_option maxRecDepth 20000 in
theorem bq_wsX9_goFor : subq wsX9_goFor [wsX9_goFor_r1, wsX9_goFor_r2, wsX9_goFor_r3, wsX9_goFor_r4] := ⟨(fun _ h => (List.mem_cons_of_mem _ (List.mem_append_left _ (List.mem_append_left _ h)))), (fun _ h => (List.mem_cons_of_mem _ (List.mem_append_left _ (List.mem_append_right _ (List.mem_append_left _ h))))), (fun _ h => (List.mem_cons_of_mem _ (List.mem_append_left _ (List.mem_append_right _ (List.mem_append_right _ (List.mem_append_left _ h)))))), (fun _ h => (List.mem_cons_of_mem _ (List.mem_append_left _ (List.mem_append_right _ (List.mem_append_right _ (List.mem_append_right _ h)))))), trivial⟩
set_option maxRecDepth 20000 in
theorem ggX9_goFor_X9_goes : GoodIn wsX9_goFor wsX9_goes := (goodIn_cons (good_rb bq_wsX9_goFor ([(0, 4)] : List (Nat × Nat)) rfl (by decide +kernel)) (goodIn_app (goodIn_app (good_rb bq_wsX9_goFor ([(0, 5), (0, 6), (0, 7), (0, 8), (0, 9), (0, 3), (0, 10), (0, 11), (0, 12), (0, 13), (0, 14), (0, 15), (0, 16), (0, 17), (0, 18), (0, 19), (0, 20), (0, 21), (0, 22), (0, 23), (1, 0), (1, 1), (1, 2), (1, 3)] : List (Nat × Nat)) rfl (by decide +kernel)) (goodIn_app (good_rb bq_wsX9_goFor ([(1, 4), (1, 5), (1, 6), (1, 7), (1, 8), (1, 9), (1, 10), (1, 11), (1, 12), (1, 13), (1, 14), (1, 15), (1, 16), (1, 17), (1, 18), (1, 19), (1, 20), (1, 21), (1, 22), (1, 23), (2, 0), (2, 1), (2, 2), (2, 3)] : List (Nat × Nat)) rfl (by decide +kernel)) (good_rb bq_wsX9_goFor ([(2, 4), (2, 5), (2, 6), (2, 7), (2, 8), (2, 9), (2, 10), (2, 11), (2, 12), (2, 13), (2, 14), (2, 15), (2, 16), (2, 17), (2, 18), (2, 19), (2, 20), (2, 21), (2, 22), (2, 23), (3, 0)] : List (Nat × Nat)) rfl (by decide +kernel)))) (goodIn_sb (fun _ h => (List.mem_cons_of_mem _ (List.mem_append_right _ h))) (by decide +kernel))))
set_option maxRecDepth 20000 in
theorem gX9_goFor_X9_goes : GoodIn wsX9_goFor (wsV RX9 383 RX9 yX9_goes wsX9_goes) := goodIn_app (good_rp ([1, 2, 3, 4] : List Nat) rfl (by decide +kernel)) ggX9_goFor_X9_goes
set_option maxRecDepth 20000 in
theorem bq_wsX9_goes : subq wsX9_goes [wsX9_goes_r1, wsX9_goes_r2, wsX9_goes_r3] := ⟨(fun _ h => (List.mem_cons_of_mem _ (List.mem_append_left _ (List.mem_append_left _ h)))), (fun _ h => (List.mem_cons_of_mem _ (List.mem_append_left _ (List.mem_append_right _ (List.mem_append_left _ h))))), (fun _ h => (List.mem_cons_of_mem _ (List.mem_append_left _ (List.mem_append_right _ (List.mem_append_right _ h))))), trivial⟩
set_option maxRecDepth 20000 in
theorem ggX9_goes_X9_choice : GoodIn wsX9_goes wsX9_choice := (goodIn_cons (good_rb bq_wsX9_goes ([(0, 6)] : List (Nat × Nat)) rfl (by decide +kernel)) (goodIn_app (goodIn_app (good_rb bq_wsX9_goes ([(0, 7), (0, 0), (0, 1), (0, 8), (0, 9), (0, 10), (0, 11), (0, 12), (0, 13), (0, 14), (0, 15), (0, 16), (0, 5), (0, 17), (0, 18), (0, 19), (0, 20), (0, 21), (0, 22), (0, 23), (1, 0), (1, 1), (1, 2), (1, 3)] : List (Nat × Nat)) rfl (by decide +kernel)) (goodIn_app (good_rb bq_wsX9_goes ([(1, 4), (1, 5), (1, 6), (1, 7), (1, 8), (1, 9), (1, 10), (1, 11), (1, 12), (1, 13), (1, 14), (1, 15), (1, 16), (1, 17), (1, 18), (1, 19), (1, 20), (1, 21), (1, 22), (1, 23), (2, 0), (2, 1), (2, 2), (2, 3)] : List (Nat × Nat)) rfl (by decide +kernel)) (good_rb bq_wsX9_goes ([(2, 4), (2, 5), (2, 6), (2, 7), (2, 8), (2, 9), (2, 10), (2, 11), (2, 12)] : List (Nat × Nat)) rfl (by decide +kernel)))) (goodIn_sb (fun _ h => (List.mem_cons_of_mem _ (List.mem_append_right _ h))) (by decide +kernel))))
set_option maxRecDepth 20000 in
theorem gX9_goes_X9_choice : GoodIn wsX9_goes (wsV RX9 377 RX9 yX9_choice wsX9_choice) := goodIn_app (good_rp ([3, 4, 5, 6] : List Nat) rfl (by decide +kernel)) ggX9_goes_X9_choice
set_option maxRecDepth 20000 in
theorem ggX9_goes_X9_settles : GoodIn wsX9_goes wsX9_settles := (goodIn_cons (good_rb bq_wsX9_goes ([(2, 16)] : List (Nat × Nat)) rfl (by decide +kernel)) (goodIn_app (goodIn_app (good_rb bq_wsX9_goes ([(0, 0), (0, 1), (0, 14), (0, 15), (0, 16), (0, 5), (0, 17), (2, 17), (2, 18), (2, 19), (2, 20), (0, 12), (0, 9), (0, 22), (0, 23), (1, 0), (1, 5), (1, 6), (1, 7), (1, 8), (0, 8), (0, 13), (0, 11), (0, 18)] : List (Nat × Nat)) rfl (by decide +kernel)) (good_rb bq_wsX9_goes ([(0, 19), (0, 20), (0, 21), (1, 9), (1, 10), (1, 11), (1, 12)] : List (Nat × Nat)) rfl (by decide +kernel))) (goodIn_sb (fun _ h => (List.mem_cons_of_mem _ (List.mem_append_right _ h))) (by decide +kernel))))
set_option maxRecDepth 20000 in
theorem gX9_goes_X9_settles : GoodIn wsX9_goes (wsV RX9 380 RX9 yX9_settles wsX9_settles) := goodIn_app (good_rp ([62, 63, 64, 6] : List Nat) rfl (by decide +kernel)) ggX9_goes_X9_settles
noncomputable def b_X9_choice_232 (F : Nat)    (y0 : Int32) (mo : OB) : Option (Int32 × OB) :=
  some (y0, mo)
noncomputable def b_X9_choice_218 (F : Nat)    (mo : OB) : Option (Int32 × OB) :=
  Option.bind (f_X9_wanted F mo) (fun q1 => (if (lg_cmp q1.1 0) ≤ 0 then (b_X9_choice_232 F 0 q1.2) else (b_X9_choice_232 F 1 q1.2)))
noncomputable def b_X9_choice_204 (F : Nat)    (mo : OB) : Option (Int32 × OB) :=
  b_X9_choice_218 F (mo.1, mo.2.1, (uF mo.2.2 36 (vp_updL (mo.2.2 36) (Int32.toNatClampNeg 10) (Int32.toInt64 ((mo.2.1 1) (Int32.toNatClampNeg 4))))))
noncomputable def b_X9_choice_188 (F : Nat)    (mo : OB) : Option (Int32 × OB) :=
  Option.bind (f_X9_those F 2 mo) (fun q3 => (Option.bind (f_X9_bits F q3) (fun q4 => (b_X9_choice_204 F (mo.1, mo.2.1, (uF mo.2.2 36 (vp_updL (mo.2.2 36) (Int32.toNatClampNeg 9) (Int32.toInt64 q4))))))))
noncomputable def b_X9_choice_175 (F : Nat)    (v2 : Int32) (mo : OB) : Option (Int32 × OB) :=
  Option.bind (f_X9_weightOf F v2 mo) (fun q5 => (b_X9_choice_188 F (mo.1, mo.2.1, (uF mo.2.2 36 (vp_updL (mo.2.2 36) (Int32.toNatClampNeg 8) (Int32.toInt64 q5))))))
noncomputable def b_X9_choice_163 (F : Nat)    (v2 : Int32) (mo : OB) : Option (Int32 × OB) :=
  Option.bind (f_X9_bits F v2) (fun q6 => (b_X9_choice_175 F v2 (mo.1, mo.2.1, (uF mo.2.2 36 (vp_updL (mo.2.2 36) (Int32.toNatClampNeg 7) (Int32.toInt64 q6))))))
noncomputable def b_X9_choice_150 (F : Nat)    (v1 : Int32) (v2 : Int32) (mo : OB) : Option (Int32 × OB) :=
  Option.bind (f_X9_givesNow F v1 mo) (fun q7 => (b_X9_choice_163 F v2 (mo.1, mo.2.1, (uF mo.2.2 36 (vp_updL (mo.2.2 36) (Int32.toNatClampNeg 6) (Int32.toInt64 q7))))))
noncomputable def b_X9_choice_137 (F : Nat)    (v1 : Int32) (v2 : Int32) (mo : OB) : Option (Int32 × OB) :=
  if ib v1 8 then (b_X9_choice_150 F v1 v2 (mo.1, mo.2.1, (uF mo.2.2 36 (vp_updL (mo.2.2 36) (Int32.toNatClampNeg 5) (Int32.toInt64 ((mo.2.1 3) (Int32.toNatClampNeg v1))))))) else none
noncomputable def b_X9_choice_114 (F : Nat)    (v1 : Int32) (v2 : Int32) (mo : OB) : Option (Int32 × OB) :=
  if ib v1 8 then (if ib ((mo.2.1 7) (Int32.toNatClampNeg v1)) 8 then (if ib ((mo.2.1 4) (Int32.toNatClampNeg ((mo.2.1 7) (Int32.toNatClampNeg v1)))) 4 then (b_X9_choice_137 F v1 v2 (mo.1, mo.2.1, (uF mo.2.2 36 (vp_updL (mo.2.2 36) (Int32.toNatClampNeg 4) (Int32.toInt64 ((mo.2.1 2) (Int32.toNatClampNeg ((mo.2.1 4) (Int32.toNatClampNeg ((mo.2.1 7) (Int32.toNatClampNeg v1))))))))))) else none) else none) else none
noncomputable def b_X9_choice_96 (F : Nat)    (v1 : Int32) (v2 : Int32) (mo : OB) : Option (Int32 × OB) :=
  if ib v1 8 then (if ib ((mo.2.1 7) (Int32.toNatClampNeg v1)) 8 then (b_X9_choice_114 F v1 v2 (mo.1, mo.2.1, (uF mo.2.2 36 (vp_updL (mo.2.2 36) (Int32.toNatClampNeg 3) (Int32.toInt64 ((mo.2.1 6) (Int32.toNatClampNeg ((mo.2.1 7) (Int32.toNatClampNeg v1))))))))) else none) else none
noncomputable def b_X9_choice_83 (F : Nat)    (v1 : Int32) (v2 : Int32) (mo : OB) : Option (Int32 × OB) :=
  if ib v1 8 then (b_X9_choice_96 F v1 v2 (mo.1, mo.2.1, (uF mo.2.2 36 (vp_updL (mo.2.2 36) (Int32.toNatClampNeg 2) (Int32.toInt64 ((mo.2.1 5) (Int32.toNatClampNeg v1))))))) else none
noncomputable def b_X9_choice_70 (F : Nat)    (v1 : Int32) (v2 : Int32) (mo : OB) : Option (Int32 × OB) :=
  if ib v1 8 then (b_X9_choice_83 F v1 v2 (mo.1, mo.2.1, (uF mo.2.2 36 (vp_updL (mo.2.2 36) (Int32.toNatClampNeg 1) (Int32.toInt64 ((mo.2.1 7) (Int32.toNatClampNeg v1))))))) else none
noncomputable def f_X9_choice (F : Nat)  (x1 : Int32) (mo : OB) : Option (Int32 × OB) :=
  if ib x1 8 then (if ((mo.2.1 38) (Int32.toNatClampNeg x1)) = (-1) then (if ((mo.2.1 1) (Int32.toNatClampNeg 7)) = (-1) then (some (((mo.2.1 3) (Int32.toNatClampNeg x1)), mo)) else (Option.bind (f_X9_those F 1 mo) (fun q19 => (if ib ((mo.2.1 7) (Int32.toNatClampNeg x1)) 8 then (Option.bind (f_X9_onStrand F q19 ((mo.2.1 4) (Int32.toNatClampNeg ((mo.2.1 7) (Int32.toNatClampNeg x1)))) mo) (fun q21 => (b_X9_choice_70 F x1 (q21 &&& ((1 <<< (x1 &&& 31)) ^^^ (-1))) (mo.1, mo.2.1, (uF mo.2.2 36 (vp_updL (mo.2.2 36) (Int32.toNatClampNeg 0) (Int32.toInt64 x1))))))) else none)))) else (some (((mo.2.1 38) (Int32.toNatClampNeg x1)), mo))) else none
set_option maxHeartbeats 4000000 in
set_option maxRecDepth 100000 in
theorem c_X9_choice (l : Launch) (D : va_G) (k : Nat → ClassId) (sz : Nat)  (va : Nat → Nat) (F : Nat)  (x1 : Int32) (mo : OB)  {res : Int32 × OB} (h : f_X9_choice F x1 mo = some res) : CtI l yX9_choice wsX9_choice (rmK 5 0 0) [.ref (va 0), .int x1] D k sz (moW k va mo) (fun r (_ : Unit) => r = res.1) (fun _ : Unit => moW k va res.2) 0 0 := by
  refine CtI.mk (cc := cX9_choice) (maxL := 3) (ret := (some .int)) (by decide) rfl (Nat.le_of_ble_eq_true rfl) ?_
  intro p e s m below meth c A ls E hP hD hS hl
  obtain ⟨hx, hb, hr, hml, hown, hts, hlocks, hin, hG, hA⟩ := E
  have hown : s.vm.findClass RX9 = some m.cls := hown
  have in9 : ∀ w ∈ u_ws RX9 TX9 53, w ∈ wsX9_choice := fun _ h => List.mem_cons_of_mem _ (List.mem_append_right _ h)
  have hl : lv_has ls 3 [(0, .ref (va 0)), (1, .int x1)] := hl
  have B232 : ∀ (y0 : Int32) (mo : OB) (H : Heap) (locs : List Loc) (ls : Array Slot), b_X9_choice_232 F y0 mo = some res → va_P D vwCl (moW k va mo) H → va_D A (moW k va mo) → va_S A s.heap H locs → lv_has ls 3 [] → W p l e (rmK 5 0 0) s m (List.toArray [.ref (va 0), .int x1]) below meth c H locs 0 0 (MQ below (va_Qi (fun r (_ : Unit) => r = res.1) (hcB D (fun _ : Unit => moW k va res.2) A) A) (List.toArray [.ref (va 0), .int x1]) s 0 0 A) (F0 m 232 ls [.int y0]) := by
    intro y0 mo H locs ls h hP hD hS hl
    exact fw_endI (rv := fun b : Int32 × OB => b.1) (wp := fun b : Int32 × OB => moW k va b.2) hx hb hr hlocks h rfl hP hD hS dX9_choice_232
  have B218 : ∀ (mo : OB) (H : Heap) (locs : List Loc) (ls : Array Slot), b_X9_choice_218 F mo = some res → va_P D vwCl (moW k va mo) H → va_D A (moW k va mo) → va_S A s.heap H locs → lv_has ls 3 [(0, .ref (va 0))] → W p l e (rmK 5 0 0) s m (List.toArray [.ref (va 0), .int x1]) below meth c H locs 0 0 (MQ below (va_Qi (fun r (_ : Unit) => r = res.1) (hcB D (fun _ : Unit => moW k va res.2) A) A) (List.toArray [.ref (va 0), .int x1]) s 0 0 A) (F0 m 218 ls []) := by
    intro mo H locs ls h hP hD hS hl
    refine lv_aload_n hx hb dX9_choice_218 rfl (lv_at hl 0 rfl) ?_
    refine fw_Vl (As := []) (rest := []) (n := 0) (wr := []) (rv := fun b : Int64 × OB => b.1) (wp := fun b : Int64 × OB => moW k va b.2) h hx hb hml hown hts hG hA hP hD hS hl.1 (List.range (moW k va mo).length) [] (fun q hq9 => c_X9_wanted l D k _  va F  mo  hq9) (ci := 7) (q0 := 0) rfl rfl gX9_choice_X9_wanted rfl ⟨rfl, rfl, Nat.le_of_ble_eq_true rfl, Nat.le_of_ble_eq_true rfl⟩ (by decide +kernel) (al_C _) rfl (al_n _) ⟨rfl, rfl, Nat.le_of_ble_eq_true rfl, Nat.le_of_ble_eq_true rfl, Nat.le_of_ble_eq_true rfl⟩ dX9_choice_219 (fun q1 H locs h hP hD hS => ?_)
    obtain ⟨hP, hD⟩ := cv (w' := moW k va q1.2) hP hD rfl
    refine hc_isL (z := q1.1) rfl ?_
    refine lv_lconst (v := 0) hx hb dX9_choice_222 (by decide) ?_
    refine W.lcmp hx hb dX9_choice_223 ?_
    refine lv_if_le (tgt := 231) hx hb dX9_choice_224 (by decide) (fun c2 => ?_) (fun c2 => ?_)
    · have h := fw_t c2 h
      refine lv_iconst (v := 0) hx hb dX9_choice_231 (by decide) ?_
      exact B232 _ _ _ _ _ h hP hD hS (lv_sub hl [] rfl)
    · have h := fw_f c2 h
      refine lv_iconst (v := 1) hx hb dX9_choice_227 (by decide) ?_
      refine lv_goto (tgt := 232) hx hb dX9_choice_228 (by decide) ?_
      exact B232 _ _ _ _ _ h hP hD hS (lv_sub hl [] rfl)
  have B204 : ∀ (mo : OB) (H : Heap) (locs : List Loc) (ls : Array Slot), b_X9_choice_204 F mo = some res → va_P D vwCl (moW k va mo) H → va_D A (moW k va mo) → va_S A s.heap H locs → lv_has ls 3 [(0, .ref (va 0))] → W p l e (rmK 5 0 0) s m (List.toArray [.ref (va 0), .int x1]) below meth c H locs 0 0 (MQ below (va_Qi (fun r (_ : Unit) => r = res.1) (hcB D (fun _ : Unit => moW k va res.2) A) A) (List.toArray [.ref (va 0), .int x1]) s 0 0 A) (F0 m 204 ls []) := by
    intro mo H locs ls h hP hD hS hl
    refine lv_aload_n hx hb dX9_choice_204 rfl (lv_at hl 0 rfl) ?_
    refine va_get (D := D) (ci := 7) (v := .ref (va 26)) (C := RX9) (T := TX9) (N := 53) hx hb hts in9 hown hG.1 hP 0 rfl rfl 36 (by decide) (hts (.fieldLink RX9 90 "ChairCaneModel" "asked" "[J") (mem_b bq_wsX9_choice 0 5 rfl)) (fun _ h9 => h9) rfl dX9_choice_205 ?_
    refine lv_bipush (v := 10) hx hb dX9_choice_208 (by decide) ?_
    refine lv_aload_n hx hb dX9_choice_210 rfl (lv_at hl 0 rfl) ?_
    refine va_get (D := D) (ci := 7) (v := .ref (va 1)) (C := RX9) (T := TX9) (N := 53) hx hb hts in9 hown hG.1 hP 0 rfl rfl 1 (by decide) (hts (.fieldLink RX9 9 "ChairCaneModel" "scalar" "[I") (mem_b bq_wsX9_choice 0 1 rfl)) (fun _ h9 => h9) rfl dX9_choice_211 ?_
    refine lv_iconst (v := 4) hx hb dX9_choice_214 (by decide) ?_
    refine va_iald hx hb hG.1 hP 1 0 rfl rfl (by unfold vp_in; decide) dX9_choice_215 ?_
    refine lv_i2l hx hb dX9_choice_216 rfl ?_
    refine va_last hx hb hG.1 hP hD hS 26 3 rfl rfl (by unfold vp_in; decide) dX9_choice_217 (fun H locs hP hD hS => ?_)
    exact B218 _ _ _ _ h hP hD hS hl
  have B188 : ∀ (mo : OB) (H : Heap) (locs : List Loc) (ls : Array Slot), b_X9_choice_188 F mo = some res → va_P D vwCl (moW k va mo) H → va_D A (moW k va mo) → va_S A s.heap H locs → lv_has ls 3 [(0, .ref (va 0))] → W p l e (rmK 5 0 0) s m (List.toArray [.ref (va 0), .int x1]) below meth c H locs 0 0 (MQ below (va_Qi (fun r (_ : Unit) => r = res.1) (hcB D (fun _ : Unit => moW k va res.2) A) A) (List.toArray [.ref (va 0), .int x1]) s 0 0 A) (F0 m 188 ls []) := by
    intro mo H locs ls h hP hD hS hl
    refine lv_aload_n hx hb dX9_choice_188 rfl (lv_at hl 0 rfl) ?_
    refine va_get (D := D) (ci := 7) (v := .ref (va 26)) (C := RX9) (T := TX9) (N := 53) hx hb hts in9 hown hG.1 hP 0 rfl rfl 36 (by decide) (hts (.fieldLink RX9 90 "ChairCaneModel" "asked" "[J") (mem_b bq_wsX9_choice 0 5 rfl)) (fun _ h9 => h9) rfl dX9_choice_189 ?_
    refine lv_bipush (v := 9) hx hb dX9_choice_192 (by decide) ?_
    refine lv_aload_n hx hb dX9_choice_194 rfl (lv_at hl 0 rfl) ?_
    refine lv_iconst (v := 2) hx hb dX9_choice_195 (by decide) ?_
    refine fw_Vi (As := [.int 2]) (rest := [.int 9, .ref (va 26)]) (n := 1) (wr := []) (rv := fun b : Int32 => b) (wp := fun b : Int32 => moW k va mo) h hx hb hml hown hts hG hA hP hD hS hl.1 (List.range (moW k va mo).length) [] (fun q hq9 => c_X9_those l D k _  va F 2 mo  hq9) (ci := 7) (q0 := 0) rfl rfl gX9_choice_X9_those rfl ⟨rfl, rfl, Nat.le_of_ble_eq_true rfl, Nat.le_of_ble_eq_true rfl⟩ (by decide +kernel) (al_C _) rfl (al_n _) ⟨rfl, rfl, Nat.le_of_ble_eq_true rfl, Nat.le_of_ble_eq_true rfl, Nat.le_of_ble_eq_true rfl⟩ dX9_choice_196 (fun q3 H locs h hP hD hS => ?_)
    obtain ⟨hP, hD⟩ := cv (w' := moW k va mo) hP hD rfl
    refine hc_is (z := q3) rfl ?_
    refine fw_Si (As := [.int q3]) (rest := [.int 9, .ref (va 26)]) (n := 1) (wr := moW k va mo) (rv := fun b : Int32 => b) (wp := fun b : Int32 => []) h hx hb hml hown hts hG hA hP hD hS hl.1 [] (List.range (moW k va mo).length) (fun q hq9 => c_X9_bits l D k _   F q3   hq9) gX9_choice_X9_bits rfl ⟨rfl, rfl, Nat.le_of_ble_eq_true rfl, Nat.le_of_ble_eq_true rfl⟩ (by decide +kernel) rfl (al_C _) (al_m _) ⟨rfl, rfl, Nat.le_of_ble_eq_true rfl, Nat.le_of_ble_eq_true rfl, Nat.le_of_ble_eq_true rfl⟩ dX9_choice_199 (fun q4 H locs h hP hD hS => ?_)
    obtain ⟨hP, hD⟩ := cv (w' := (moW k va mo) ++ []) hP hD rfl
    rw [List.append_nil] at hP hD
    refine hc_is (z := q4) rfl ?_
    refine lv_i2l hx hb dX9_choice_202 rfl ?_
    refine va_last hx hb hG.1 hP hD hS 26 3 rfl rfl (by unfold vp_in; decide) dX9_choice_203 (fun H locs hP hD hS => ?_)
    exact B204 _ _ _ _ h hP hD hS hl
  have B175 : ∀ (v2 : Int32) (mo : OB) (H : Heap) (locs : List Loc) (ls : Array Slot), b_X9_choice_175 F v2 mo = some res → va_P D vwCl (moW k va mo) H → va_D A (moW k va mo) → va_S A s.heap H locs → lv_has ls 3 [(0, .ref (va 0)), (2, .int v2)] → W p l e (rmK 5 0 0) s m (List.toArray [.ref (va 0), .int x1]) below meth c H locs 0 0 (MQ below (va_Qi (fun r (_ : Unit) => r = res.1) (hcB D (fun _ : Unit => moW k va res.2) A) A) (List.toArray [.ref (va 0), .int x1]) s 0 0 A) (F0 m 175 ls []) := by
    intro v2 mo H locs ls h hP hD hS hl
    refine lv_aload_n hx hb dX9_choice_175 rfl (lv_at hl 0 rfl) ?_
    refine va_get (D := D) (ci := 7) (v := .ref (va 26)) (C := RX9) (T := TX9) (N := 53) hx hb hts in9 hown hG.1 hP 0 rfl rfl 36 (by decide) (hts (.fieldLink RX9 90 "ChairCaneModel" "asked" "[J") (mem_b bq_wsX9_choice 0 5 rfl)) (fun _ h9 => h9) rfl dX9_choice_176 ?_
    refine lv_bipush (v := 8) hx hb dX9_choice_179 (by decide) ?_
    refine lv_aload_n hx hb dX9_choice_181 rfl (lv_at hl 0 rfl) ?_
    refine lv_iload_n hx hb dX9_choice_182 rfl (lv_at hl 1 rfl) ?_
    refine fw_Vi (As := [.int v2]) (rest := [.int 8, .ref (va 26)]) (n := 1) (wr := []) (rv := fun b : Int32 => b) (wp := fun b : Int32 => moW k va mo) h hx hb hml hown hts hG hA hP hD hS hl.1 (List.range (moW k va mo).length) [] (fun q hq9 => c_X9_weightOf l D k _  va F v2 mo  hq9) (ci := 7) (q0 := 0) rfl rfl gX9_choice_X9_weightOf rfl ⟨rfl, rfl, Nat.le_of_ble_eq_true rfl, Nat.le_of_ble_eq_true rfl⟩ (by decide +kernel) (al_C _) rfl (al_n _) ⟨rfl, rfl, Nat.le_of_ble_eq_true rfl, Nat.le_of_ble_eq_true rfl, Nat.le_of_ble_eq_true rfl⟩ dX9_choice_183 (fun q5 H locs h hP hD hS => ?_)
    obtain ⟨hP, hD⟩ := cv (w' := moW k va mo) hP hD rfl
    refine hc_is (z := q5) rfl ?_
    refine lv_i2l hx hb dX9_choice_186 rfl ?_
    refine va_last hx hb hG.1 hP hD hS 26 3 rfl rfl (by unfold vp_in; decide) dX9_choice_187 (fun H locs hP hD hS => ?_)
    exact B188 _ _ _ _ h hP hD hS (lv_sub hl [0] rfl)
  have B163 : ∀ (v2 : Int32) (mo : OB) (H : Heap) (locs : List Loc) (ls : Array Slot), b_X9_choice_163 F v2 mo = some res → va_P D vwCl (moW k va mo) H → va_D A (moW k va mo) → va_S A s.heap H locs → lv_has ls 3 [(0, .ref (va 0)), (2, .int v2)] → W p l e (rmK 5 0 0) s m (List.toArray [.ref (va 0), .int x1]) below meth c H locs 0 0 (MQ below (va_Qi (fun r (_ : Unit) => r = res.1) (hcB D (fun _ : Unit => moW k va res.2) A) A) (List.toArray [.ref (va 0), .int x1]) s 0 0 A) (F0 m 163 ls []) := by
    intro v2 mo H locs ls h hP hD hS hl
    refine lv_aload_n hx hb dX9_choice_163 rfl (lv_at hl 0 rfl) ?_
    refine va_get (D := D) (ci := 7) (v := .ref (va 26)) (C := RX9) (T := TX9) (N := 53) hx hb hts in9 hown hG.1 hP 0 rfl rfl 36 (by decide) (hts (.fieldLink RX9 90 "ChairCaneModel" "asked" "[J") (mem_b bq_wsX9_choice 0 5 rfl)) (fun _ h9 => h9) rfl dX9_choice_164 ?_
    refine lv_bipush (v := 7) hx hb dX9_choice_167 (by decide) ?_
    refine lv_iload_n hx hb dX9_choice_169 rfl (lv_at hl 1 rfl) ?_
    refine fw_Si (As := [.int v2]) (rest := [.int 7, .ref (va 26)]) (n := 1) (wr := moW k va mo) (rv := fun b : Int32 => b) (wp := fun b : Int32 => []) h hx hb hml hown hts hG hA hP hD hS hl.1 [] (List.range (moW k va mo).length) (fun q hq9 => c_X9_bits l D k _   F v2   hq9) gX9_choice_X9_bits rfl ⟨rfl, rfl, Nat.le_of_ble_eq_true rfl, Nat.le_of_ble_eq_true rfl⟩ (by decide +kernel) rfl (al_C _) (al_m _) ⟨rfl, rfl, Nat.le_of_ble_eq_true rfl, Nat.le_of_ble_eq_true rfl, Nat.le_of_ble_eq_true rfl⟩ dX9_choice_170 (fun q6 H locs h hP hD hS => ?_)
    obtain ⟨hP, hD⟩ := cv (w' := (moW k va mo) ++ []) hP hD rfl
    rw [List.append_nil] at hP hD
    refine hc_is (z := q6) rfl ?_
    refine lv_i2l hx hb dX9_choice_173 rfl ?_
    refine va_last hx hb hG.1 hP hD hS 26 3 rfl rfl (by unfold vp_in; decide) dX9_choice_174 (fun H locs hP hD hS => ?_)
    exact B175 _ _ _ _ _ h hP hD hS hl
  have B150 : ∀ (v1 : Int32) (v2 : Int32) (mo : OB) (H : Heap) (locs : List Loc) (ls : Array Slot), b_X9_choice_150 F v1 v2 mo = some res → va_P D vwCl (moW k va mo) H → va_D A (moW k va mo) → va_S A s.heap H locs → lv_has ls 3 [(0, .ref (va 0)), (1, .int v1), (2, .int v2)] → W p l e (rmK 5 0 0) s m (List.toArray [.ref (va 0), .int x1]) below meth c H locs 0 0 (MQ below (va_Qi (fun r (_ : Unit) => r = res.1) (hcB D (fun _ : Unit => moW k va res.2) A) A) (List.toArray [.ref (va 0), .int x1]) s 0 0 A) (F0 m 150 ls []) := by
    intro v1 v2 mo H locs ls h hP hD hS hl
    refine lv_aload_n hx hb dX9_choice_150 rfl (lv_at hl 0 rfl) ?_
    refine va_get (D := D) (ci := 7) (v := .ref (va 26)) (C := RX9) (T := TX9) (N := 53) hx hb hts in9 hown hG.1 hP 0 rfl rfl 36 (by decide) (hts (.fieldLink RX9 90 "ChairCaneModel" "asked" "[J") (mem_b bq_wsX9_choice 0 5 rfl)) (fun _ h9 => h9) rfl dX9_choice_151 ?_
    refine lv_bipush (v := 6) hx hb dX9_choice_154 (by decide) ?_
    refine lv_aload_n hx hb dX9_choice_156 rfl (lv_at hl 0 rfl) ?_
    refine lv_iload_n hx hb dX9_choice_157 rfl (lv_at hl 1 rfl) ?_
    refine fw_Vi (As := [.int v1]) (rest := [.int 6, .ref (va 26)]) (n := 1) (wr := []) (rv := fun b : Int32 => b) (wp := fun b : Int32 => moW k va mo) h hx hb hml hown hts hG hA hP hD hS hl.1 (List.range (moW k va mo).length) [] (fun q hq9 => c_X9_givesNow l D k _  va F v1 mo  hq9) (ci := 7) (q0 := 0) rfl rfl gX9_choice_X9_givesNow rfl ⟨rfl, rfl, Nat.le_of_ble_eq_true rfl, Nat.le_of_ble_eq_true rfl⟩ (by decide +kernel) (al_C _) rfl (al_n _) ⟨rfl, rfl, Nat.le_of_ble_eq_true rfl, Nat.le_of_ble_eq_true rfl, Nat.le_of_ble_eq_true rfl⟩ dX9_choice_158 (fun q7 H locs h hP hD hS => ?_)
    obtain ⟨hP, hD⟩ := cv (w' := moW k va mo) hP hD rfl
    refine hc_is (z := q7) rfl ?_
    refine lv_i2l hx hb dX9_choice_161 rfl ?_
    refine va_last hx hb hG.1 hP hD hS 26 3 rfl rfl (by unfold vp_in; decide) dX9_choice_162 (fun H locs hP hD hS => ?_)
    exact B163 _ _ _ _ _ h hP hD hS (lv_sub hl [0, 2] rfl)
  have B137 : ∀ (v1 : Int32) (v2 : Int32) (mo : OB) (H : Heap) (locs : List Loc) (ls : Array Slot), b_X9_choice_137 F v1 v2 mo = some res → va_P D vwCl (moW k va mo) H → va_D A (moW k va mo) → va_S A s.heap H locs → lv_has ls 3 [(0, .ref (va 0)), (1, .int v1), (2, .int v2)] → W p l e (rmK 5 0 0) s m (List.toArray [.ref (va 0), .int x1]) below meth c H locs 0 0 (MQ below (va_Qi (fun r (_ : Unit) => r = res.1) (hcB D (fun _ : Unit => moW k va res.2) A) A) (List.toArray [.ref (va 0), .int x1]) s 0 0 A) (F0 m 137 ls []) := by
    intro v1 v2 mo H locs ls h hP hD hS hl
    refine lv_aload_n hx hb dX9_choice_137 rfl (lv_at hl 0 rfl) ?_
    refine va_get (D := D) (ci := 7) (v := .ref (va 26)) (C := RX9) (T := TX9) (N := 53) hx hb hts in9 hown hG.1 hP 0 rfl rfl 36 (by decide) (hts (.fieldLink RX9 90 "ChairCaneModel" "asked" "[J") (mem_b bq_wsX9_choice 0 5 rfl)) (fun _ h9 => h9) rfl dX9_choice_138 ?_
    refine lv_iconst (v := 5) hx hb dX9_choice_141 (by decide) ?_
    refine lv_aload_n hx hb dX9_choice_142 rfl (lv_at hl 0 rfl) ?_
    refine va_get (D := D) (ci := 7) (v := .ref (va 3)) (C := RX9) (T := TX9) (N := 53) hx hb hts in9 hown hG.1 hP 0 rfl rfl 3 (by decide) (hts (.fieldLink RX9 16 "ChairCaneModel" "is" "[I") (mem_b bq_wsX9_choice 0 2 rfl)) (fun _ h9 => h9) rfl dX9_choice_143 ?_
    refine lv_iload_n hx hb dX9_choice_146 rfl (lv_at hl 1 rfl) ?_
    obtain ⟨g8, h⟩ := fw_g h
    refine va_iald hx hb hG.1 hP 3 0 rfl rfl (ib_vp g8) dX9_choice_147 ?_
    refine lv_i2l hx hb dX9_choice_148 rfl ?_
    refine va_last hx hb hG.1 hP hD hS 26 3 rfl rfl (by unfold vp_in; decide) dX9_choice_149 (fun H locs hP hD hS => ?_)
    exact B150 _ _ _ _ _ _ h hP hD hS hl
  have B114 : ∀ (v1 : Int32) (v2 : Int32) (mo : OB) (H : Heap) (locs : List Loc) (ls : Array Slot), b_X9_choice_114 F v1 v2 mo = some res → va_P D vwCl (moW k va mo) H → va_D A (moW k va mo) → va_S A s.heap H locs → lv_has ls 3 [(0, .ref (va 0)), (1, .int v1), (2, .int v2)] → W p l e (rmK 5 0 0) s m (List.toArray [.ref (va 0), .int x1]) below meth c H locs 0 0 (MQ below (va_Qi (fun r (_ : Unit) => r = res.1) (hcB D (fun _ : Unit => moW k va res.2) A) A) (List.toArray [.ref (va 0), .int x1]) s 0 0 A) (F0 m 114 ls []) := by
    intro v1 v2 mo H locs ls h hP hD hS hl
    refine lv_aload_n hx hb dX9_choice_114 rfl (lv_at hl 0 rfl) ?_
    refine va_get (D := D) (ci := 7) (v := .ref (va 26)) (C := RX9) (T := TX9) (N := 53) hx hb hts in9 hown hG.1 hP 0 rfl rfl 36 (by decide) (hts (.fieldLink RX9 90 "ChairCaneModel" "asked" "[J") (mem_b bq_wsX9_choice 0 5 rfl)) (fun _ h9 => h9) rfl dX9_choice_115 ?_
    refine lv_iconst (v := 4) hx hb dX9_choice_118 (by decide) ?_
    refine lv_aload_n hx hb dX9_choice_119 rfl (lv_at hl 0 rfl) ?_
    refine va_get (D := D) (ci := 7) (v := .ref (va 2)) (C := RX9) (T := TX9) (N := 53) hx hb hts in9 hown hG.1 hP 0 rfl rfl 2 (by decide) (hts (.fieldLink RX9 13 "ChairCaneModel" "cane" "[I") (mem_b bq_wsX9_choice 0 8 rfl)) (fun _ h9 => h9) rfl dX9_choice_120 ?_
    refine lv_aload_n hx hb dX9_choice_123 rfl (lv_at hl 0 rfl) ?_
    refine va_get (D := D) (ci := 7) (v := .ref (va 4)) (C := RX9) (T := TX9) (N := 53) hx hb hts in9 hown hG.1 hP 0 rfl rfl 4 (by decide) (hts (.fieldLink RX9 19 "ChairCaneModel" "strandOf" "[I") (mem_b bq_wsX9_choice 0 3 rfl)) (fun _ h9 => h9) rfl dX9_choice_124 ?_
    refine lv_aload_n hx hb dX9_choice_127 rfl (lv_at hl 0 rfl) ?_
    refine va_get (D := D) (ci := 7) (v := .ref (va 7)) (C := RX9) (T := TX9) (N := 53) hx hb hts in9 hown hG.1 hP 0 rfl rfl 7 (by decide) (hts (.fieldLink RX9 28 "ChairCaneModel" "chairOf" "[I") (mem_b bq_wsX9_choice 0 4 rfl)) (fun _ h9 => h9) rfl dX9_choice_128 ?_
    refine lv_iload_n hx hb dX9_choice_131 rfl (lv_at hl 1 rfl) ?_
    obtain ⟨g9, h⟩ := fw_g h
    refine va_iald hx hb hG.1 hP 7 0 rfl rfl (ib_vp g9) dX9_choice_132 ?_
    obtain ⟨g10, h⟩ := fw_g h
    refine va_iald hx hb hG.1 hP 4 0 rfl rfl (ib_vp g10) dX9_choice_133 ?_
    obtain ⟨g11, h⟩ := fw_g h
    refine va_iald hx hb hG.1 hP 2 0 rfl rfl (ib_vp g11) dX9_choice_134 ?_
    refine lv_i2l hx hb dX9_choice_135 rfl ?_
    refine va_last hx hb hG.1 hP hD hS 26 3 rfl rfl (by unfold vp_in; decide) dX9_choice_136 (fun H locs hP hD hS => ?_)
    exact B137 _ _ _ _ _ _ h hP hD hS hl
  have B96 : ∀ (v1 : Int32) (v2 : Int32) (mo : OB) (H : Heap) (locs : List Loc) (ls : Array Slot), b_X9_choice_96 F v1 v2 mo = some res → va_P D vwCl (moW k va mo) H → va_D A (moW k va mo) → va_S A s.heap H locs → lv_has ls 3 [(0, .ref (va 0)), (1, .int v1), (2, .int v2)] → W p l e (rmK 5 0 0) s m (List.toArray [.ref (va 0), .int x1]) below meth c H locs 0 0 (MQ below (va_Qi (fun r (_ : Unit) => r = res.1) (hcB D (fun _ : Unit => moW k va res.2) A) A) (List.toArray [.ref (va 0), .int x1]) s 0 0 A) (F0 m 96 ls []) := by
    intro v1 v2 mo H locs ls h hP hD hS hl
    refine lv_aload_n hx hb dX9_choice_96 rfl (lv_at hl 0 rfl) ?_
    refine va_get (D := D) (ci := 7) (v := .ref (va 26)) (C := RX9) (T := TX9) (N := 53) hx hb hts in9 hown hG.1 hP 0 rfl rfl 36 (by decide) (hts (.fieldLink RX9 90 "ChairCaneModel" "asked" "[J") (mem_b bq_wsX9_choice 0 5 rfl)) (fun _ h9 => h9) rfl dX9_choice_97 ?_
    refine lv_iconst (v := 3) hx hb dX9_choice_100 (by decide) ?_
    refine lv_aload_n hx hb dX9_choice_101 rfl (lv_at hl 0 rfl) ?_
    refine va_get (D := D) (ci := 7) (v := .ref (va 6)) (C := RX9) (T := TX9) (N := 53) hx hb hts in9 hown hG.1 hP 0 rfl rfl 6 (by decide) (hts (.fieldLink RX9 25 "ChairCaneModel" "height" "[I") (mem_b bq_wsX9_choice 0 7 rfl)) (fun _ h9 => h9) rfl dX9_choice_102 ?_
    refine lv_aload_n hx hb dX9_choice_105 rfl (lv_at hl 0 rfl) ?_
    refine va_get (D := D) (ci := 7) (v := .ref (va 7)) (C := RX9) (T := TX9) (N := 53) hx hb hts in9 hown hG.1 hP 0 rfl rfl 7 (by decide) (hts (.fieldLink RX9 28 "ChairCaneModel" "chairOf" "[I") (mem_b bq_wsX9_choice 0 4 rfl)) (fun _ h9 => h9) rfl dX9_choice_106 ?_
    refine lv_iload_n hx hb dX9_choice_109 rfl (lv_at hl 1 rfl) ?_
    obtain ⟨g12, h⟩ := fw_g h
    refine va_iald hx hb hG.1 hP 7 0 rfl rfl (ib_vp g12) dX9_choice_110 ?_
    obtain ⟨g13, h⟩ := fw_g h
    refine va_iald hx hb hG.1 hP 6 0 rfl rfl (ib_vp g13) dX9_choice_111 ?_
    refine lv_i2l hx hb dX9_choice_112 rfl ?_
    refine va_last hx hb hG.1 hP hD hS 26 3 rfl rfl (by unfold vp_in; decide) dX9_choice_113 (fun H locs hP hD hS => ?_)
    exact B114 _ _ _ _ _ _ h hP hD hS hl
  have B83 : ∀ (v1 : Int32) (v2 : Int32) (mo : OB) (H : Heap) (locs : List Loc) (ls : Array Slot), b_X9_choice_83 F v1 v2 mo = some res → va_P D vwCl (moW k va mo) H → va_D A (moW k va mo) → va_S A s.heap H locs → lv_has ls 3 [(0, .ref (va 0)), (1, .int v1), (2, .int v2)] → W p l e (rmK 5 0 0) s m (List.toArray [.ref (va 0), .int x1]) below meth c H locs 0 0 (MQ below (va_Qi (fun r (_ : Unit) => r = res.1) (hcB D (fun _ : Unit => moW k va res.2) A) A) (List.toArray [.ref (va 0), .int x1]) s 0 0 A) (F0 m 83 ls []) := by
    intro v1 v2 mo H locs ls h hP hD hS hl
    refine lv_aload_n hx hb dX9_choice_83 rfl (lv_at hl 0 rfl) ?_
    refine va_get (D := D) (ci := 7) (v := .ref (va 26)) (C := RX9) (T := TX9) (N := 53) hx hb hts in9 hown hG.1 hP 0 rfl rfl 36 (by decide) (hts (.fieldLink RX9 90 "ChairCaneModel" "asked" "[J") (mem_b bq_wsX9_choice 0 5 rfl)) (fun _ h9 => h9) rfl dX9_choice_84 ?_
    refine lv_iconst (v := 2) hx hb dX9_choice_87 (by decide) ?_
    refine lv_aload_n hx hb dX9_choice_88 rfl (lv_at hl 0 rfl) ?_
    refine va_get (D := D) (ci := 7) (v := .ref (va 5)) (C := RX9) (T := TX9) (N := 53) hx hb hts in9 hown hG.1 hP 0 rfl rfl 5 (by decide) (hts (.fieldLink RX9 22 "ChairCaneModel" "weight" "[I") (mem_b bq_wsX9_choice 0 6 rfl)) (fun _ h9 => h9) rfl dX9_choice_89 ?_
    refine lv_iload_n hx hb dX9_choice_92 rfl (lv_at hl 1 rfl) ?_
    obtain ⟨g14, h⟩ := fw_g h
    refine va_iald hx hb hG.1 hP 5 0 rfl rfl (ib_vp g14) dX9_choice_93 ?_
    refine lv_i2l hx hb dX9_choice_94 rfl ?_
    refine va_last hx hb hG.1 hP hD hS 26 3 rfl rfl (by unfold vp_in; decide) dX9_choice_95 (fun H locs hP hD hS => ?_)
    exact B96 _ _ _ _ _ _ h hP hD hS hl
  have B70 : ∀ (v1 : Int32) (v2 : Int32) (mo : OB) (H : Heap) (locs : List Loc) (ls : Array Slot), b_X9_choice_70 F v1 v2 mo = some res → va_P D vwCl (moW k va mo) H → va_D A (moW k va mo) → va_S A s.heap H locs → lv_has ls 3 [(0, .ref (va 0)), (1, .int v1), (2, .int v2)] → W p l e (rmK 5 0 0) s m (List.toArray [.ref (va 0), .int x1]) below meth c H locs 0 0 (MQ below (va_Qi (fun r (_ : Unit) => r = res.1) (hcB D (fun _ : Unit => moW k va res.2) A) A) (List.toArray [.ref (va 0), .int x1]) s 0 0 A) (F0 m 70 ls []) := by
    intro v1 v2 mo H locs ls h hP hD hS hl
    refine lv_aload_n hx hb dX9_choice_70 rfl (lv_at hl 0 rfl) ?_
    refine va_get (D := D) (ci := 7) (v := .ref (va 26)) (C := RX9) (T := TX9) (N := 53) hx hb hts in9 hown hG.1 hP 0 rfl rfl 36 (by decide) (hts (.fieldLink RX9 90 "ChairCaneModel" "asked" "[J") (mem_b bq_wsX9_choice 0 5 rfl)) (fun _ h9 => h9) rfl dX9_choice_71 ?_
    refine lv_iconst (v := 1) hx hb dX9_choice_74 (by decide) ?_
    refine lv_aload_n hx hb dX9_choice_75 rfl (lv_at hl 0 rfl) ?_
    refine va_get (D := D) (ci := 7) (v := .ref (va 7)) (C := RX9) (T := TX9) (N := 53) hx hb hts in9 hown hG.1 hP 0 rfl rfl 7 (by decide) (hts (.fieldLink RX9 28 "ChairCaneModel" "chairOf" "[I") (mem_b bq_wsX9_choice 0 4 rfl)) (fun _ h9 => h9) rfl dX9_choice_76 ?_
    refine lv_iload_n hx hb dX9_choice_79 rfl (lv_at hl 1 rfl) ?_
    obtain ⟨g15, h⟩ := fw_g h
    refine va_iald hx hb hG.1 hP 7 0 rfl rfl (ib_vp g15) dX9_choice_80 ?_
    refine lv_i2l hx hb dX9_choice_81 rfl ?_
    refine va_last hx hb hG.1 hP hD hS 26 3 rfl rfl (by unfold vp_in; decide) dX9_choice_82 (fun H locs hP hD hS => ?_)
    exact B83 _ _ _ _ _ _ h hP hD hS hl
  refine lv_aload_n hx hb dX9_choice_0 rfl (lv_at hl 0 rfl) ?_
  refine va_get (D := D) (ci := 7) (v := .ref (va 28)) (C := RX9) (T := TX9) (N := 53) hx hb hts in9 hown hG.1 hP 0 rfl rfl 38 (by decide) (hts (.fieldLink RX9 97 "ChairCaneModel" "must" "[I") (mem_b bq_wsX9_choice 0 0 rfl)) (fun _ h9 => h9) rfl dX9_choice_1 ?_
  refine lv_iload_n hx hb dX9_choice_4 rfl (lv_at hl 1 rfl) ?_
  obtain ⟨g16, h⟩ := fw_g h
  refine va_iald hx hb hG.1 hP 28 0 rfl rfl (ib_vp g16) dX9_choice_5 ?_
  refine lv_iconst (v := (-1)) hx hb dX9_choice_6 (by decide) ?_
  refine lv_icmp_eq (tgt := 17) hx hb dX9_choice_7 (by decide) (fun c17 => ?_) (fun c17 => ?_)
  · have h := fw_t c17 h
    refine lv_aload_n hx hb dX9_choice_17 rfl (lv_at hl 0 rfl) ?_
    refine va_get (D := D) (ci := 7) (v := .ref (va 1)) (C := RX9) (T := TX9) (N := 53) hx hb hts in9 hown hG.1 hP 0 rfl rfl 1 (by decide) (hts (.fieldLink RX9 9 "ChairCaneModel" "scalar" "[I") (mem_b bq_wsX9_choice 0 1 rfl)) (fun _ h9 => h9) rfl dX9_choice_18 ?_
    refine lv_bipush (v := 7) hx hb dX9_choice_21 (by decide) ?_
    refine va_iald hx hb hG.1 hP 1 0 rfl rfl (by unfold vp_in; decide) dX9_choice_23 ?_
    refine lv_iconst (v := (-1)) hx hb dX9_choice_24 (by decide) ?_
    refine lv_icmp_ne (tgt := 35) hx hb dX9_choice_25 (by decide) (fun c18 => ?_) (fun c18 => ?_)
    · have h := fw_f c18 h
      refine lv_aload_n hx hb dX9_choice_35 rfl (lv_at hl 0 rfl) ?_
      refine lv_aload_n hx hb dX9_choice_36 rfl (lv_at hl 0 rfl) ?_
      refine lv_iconst (v := 1) hx hb dX9_choice_37 (by decide) ?_
      refine fw_Vi (As := [.int 1]) (rest := [.ref (va 0)]) (n := 1) (wr := []) (rv := fun b : Int32 => b) (wp := fun b : Int32 => moW k va mo) h hx hb hml hown hts hG hA hP hD hS hl.1 (List.range (moW k va mo).length) [] (fun q hq9 => c_X9_those l D k _  va F 1 mo  hq9) (ci := 7) (q0 := 0) rfl rfl gX9_choice_X9_those rfl ⟨rfl, rfl, Nat.le_of_ble_eq_true rfl, Nat.le_of_ble_eq_true rfl⟩ (by decide +kernel) (al_C _) rfl (al_n _) ⟨rfl, rfl, Nat.le_of_ble_eq_true rfl, Nat.le_of_ble_eq_true rfl, Nat.le_of_ble_eq_true rfl⟩ dX9_choice_38 (fun q19 H locs h hP hD hS => ?_)
      obtain ⟨hP, hD⟩ := cv (w' := moW k va mo) hP hD rfl
      refine hc_is (z := q19) rfl ?_
      refine lv_aload_n hx hb dX9_choice_41 rfl (lv_at hl 0 rfl) ?_
      refine va_get (D := D) (ci := 7) (v := .ref (va 4)) (C := RX9) (T := TX9) (N := 53) hx hb hts in9 hown hG.1 hP 0 rfl rfl 4 (by decide) (hts (.fieldLink RX9 19 "ChairCaneModel" "strandOf" "[I") (mem_b bq_wsX9_choice 0 3 rfl)) (fun _ h9 => h9) rfl dX9_choice_42 ?_
      refine lv_aload_n hx hb dX9_choice_45 rfl (lv_at hl 0 rfl) ?_
      refine va_get (D := D) (ci := 7) (v := .ref (va 7)) (C := RX9) (T := TX9) (N := 53) hx hb hts in9 hown hG.1 hP 0 rfl rfl 7 (by decide) (hts (.fieldLink RX9 28 "ChairCaneModel" "chairOf" "[I") (mem_b bq_wsX9_choice 0 4 rfl)) (fun _ h9 => h9) rfl dX9_choice_46 ?_
      refine lv_iload_n hx hb dX9_choice_49 rfl (lv_at hl 1 rfl) ?_
      refine va_iald hx hb hG.1 hP 7 0 rfl rfl (ib_vp g16) dX9_choice_50 ?_
      obtain ⟨g20, h⟩ := fw_g h
      refine va_iald hx hb hG.1 hP 4 0 rfl rfl (ib_vp g20) dX9_choice_51 ?_
      refine fw_Vi (As := [.int q19, .int ((mo.2.1 4) (Int32.toNatClampNeg ((mo.2.1 7) (Int32.toNatClampNeg x1))))]) (rest := []) (n := 2) (wr := []) (rv := fun b : Int32 => b) (wp := fun b : Int32 => moW k va mo) h hx hb hml hown hts hG hA hP hD hS hl.1 (List.range (moW k va mo).length) [] (fun q hq9 => c_X9_onStrand l D k _  va F q19 ((mo.2.1 4) (Int32.toNatClampNeg ((mo.2.1 7) (Int32.toNatClampNeg x1)))) mo  hq9) (ci := 7) (q0 := 0) rfl rfl gX9_choice_X9_onStrand rfl ⟨rfl, rfl, Nat.le_of_ble_eq_true rfl, Nat.le_of_ble_eq_true rfl⟩ (by decide +kernel) (al_C _) rfl (al_n _) ⟨rfl, rfl, Nat.le_of_ble_eq_true rfl, Nat.le_of_ble_eq_true rfl, Nat.le_of_ble_eq_true rfl⟩ dX9_choice_52 (fun q21 H locs h hP hD hS => ?_)
      obtain ⟨hP, hD⟩ := cv (w' := moW k va mo) hP hD rfl
      refine hc_is (z := q21) rfl ?_
      refine lv_iconst (v := 1) hx hb dX9_choice_55 (by decide) ?_
      refine lv_iload_n hx hb dX9_choice_56 rfl (lv_at hl 1 rfl) ?_
      refine lv_ishl hx hb dX9_choice_57 ?_
      refine lv_iconst (v := (-1)) hx hb dX9_choice_58 (by decide) ?_
      refine lv_ixor hx hb dX9_choice_59 ?_
      refine lv_iand hx hb dX9_choice_60 ?_
      refine lv_istore_n (lv' := [(2, .int (q21 &&& ((1 <<< (x1 &&& 31)) ^^^ (-1)))), (0, .ref (va 0)), (1, .int x1)]) hx hb dX9_choice_61 rfl hl (by decide) rfl (fun ls hl => ?_)
      refine lv_aload_n hx hb dX9_choice_62 rfl (lv_at hl 1 rfl) ?_
      refine va_get (D := D) (ci := 7) (v := .ref (va 26)) (C := RX9) (T := TX9) (N := 53) hx hb hts in9 hown hG.1 hP 0 rfl rfl 36 (by decide) (hts (.fieldLink RX9 90 "ChairCaneModel" "asked" "[J") (mem_b bq_wsX9_choice 0 5 rfl)) (fun _ h9 => h9) rfl dX9_choice_63 ?_
      refine lv_iconst (v := 0) hx hb dX9_choice_66 (by decide) ?_
      refine lv_iload_n hx hb dX9_choice_67 rfl (lv_at hl 2 rfl) ?_
      refine lv_i2l hx hb dX9_choice_68 rfl ?_
      refine va_last hx hb hG.1 hP hD hS 26 3 rfl rfl (by unfold vp_in; decide) dX9_choice_69 (fun H locs hP hD hS => ?_)
      exact B70 _ _ _ _ _ _ h hP hD hS (lv_sub hl [1, 2, 0] rfl)
    · have h := fw_t c18 h
      refine lv_aload_n hx hb dX9_choice_28 rfl (lv_at hl 0 rfl) ?_
      refine va_get (D := D) (ci := 7) (v := .ref (va 3)) (C := RX9) (T := TX9) (N := 53) hx hb hts in9 hown hG.1 hP 0 rfl rfl 3 (by decide) (hts (.fieldLink RX9 16 "ChairCaneModel" "is" "[I") (mem_b bq_wsX9_choice 0 2 rfl)) (fun _ h9 => h9) rfl dX9_choice_29 ?_
      refine lv_iload_n hx hb dX9_choice_32 rfl (lv_at hl 1 rfl) ?_
      refine va_iald hx hb hG.1 hP 3 0 rfl rfl (ib_vp g16) dX9_choice_33 ?_
      exact fw_endI (rv := fun b : Int32 × OB => b.1) (wp := fun b : Int32 × OB => moW k va b.2) hx hb hr hlocks h rfl hP hD hS dX9_choice_34
  · have h := fw_f c17 h
    refine lv_aload_n hx hb dX9_choice_10 rfl (lv_at hl 0 rfl) ?_
    refine va_get (D := D) (ci := 7) (v := .ref (va 28)) (C := RX9) (T := TX9) (N := 53) hx hb hts in9 hown hG.1 hP 0 rfl rfl 38 (by decide) (hts (.fieldLink RX9 97 "ChairCaneModel" "must" "[I") (mem_b bq_wsX9_choice 0 0 rfl)) (fun _ h9 => h9) rfl dX9_choice_11 ?_
    refine lv_iload_n hx hb dX9_choice_14 rfl (lv_at hl 1 rfl) ?_
    refine va_iald hx hb hG.1 hP 28 0 rfl rfl (ib_vp g16) dX9_choice_15 ?_
    exact fw_endI (rv := fun b : Int32 × OB => b.1) (wp := fun b : Int32 × OB => moW k va b.2) hx hb hr hlocks h rfl hP hD hS dX9_choice_16
noncomputable def b_X9_goes_36 (F : Nat)   (k2 : (Int32 × OB) → Option (Int32 × OB)) (v1 : Int32) (y0 : Int32) (y1 : Int32) (mo : OB) : Option (Int32 × OB) :=
  if ib y1 8 then (k2 ((v1 + 1), (mo.1, (uF mo.2.1 3 (upd (mo.2.1 3) (Int32.toNatClampNeg y1) y0)), mo.2.2))) else none
noncomputable def b_X9_goes_2 (F : Nat)    (k2 : (Int32 × OB) → Option (Int32 × OB)) (a2 : (Int32 × OB)) : Option (Int32 × OB) :=
  if ((a2.2.2.1 1) (Int32.toNatClampNeg 3)) ≤ a2.1 then (Option.bind (f_X9_settles F (a2.2.1, (uF a2.2.2.1 1 (upd (a2.2.2.1 1) (Int32.toNatClampNeg 4) (((a2.2.2.1 1) (Int32.toNatClampNeg 4)) + 1))), a2.2.2.2)) (fun q3 => (some (q3.1, q3.2)))) else (if ib a2.1 8 then (if ((a2.2.2.1 3) (Int32.toNatClampNeg a2.1)) = 2 then (b_X9_goes_36 F k2 a2.1 2 a2.1 a2.2) else (Option.bind (f_X9_choice F a2.1 a2.2) (fun q6 => (b_X9_goes_36 F k2 a2.1 q6.1 a2.1 q6.2)))) else none)
noncomputable def f_X9_goes (F : Nat)   (mo : OB) : Option (Int32 × OB) :=
  lp (b_X9_goes_2 F) F (0, mo)
set_option maxHeartbeats 4000000 in
set_option maxRecDepth 100000 in
theorem c_X9_goes (l : Launch) (D : va_G) (k : Nat → ClassId) (sz : Nat)  (va : Nat → Nat) (F : Nat)   (mo : OB)  {res : Int32 × OB} (h : f_X9_goes F mo = some res) : CtI l yX9_goes wsX9_goes (rmK 6 0 0) [.ref (va 0)] D k sz (moW k va mo) (fun r (_ : Unit) => r = res.1) (fun _ : Unit => moW k va res.2) 0 0 := by
  refine CtI.mk (cc := cX9_goes) (maxL := 2) (ret := (some .int)) (by decide) rfl (Nat.le_of_ble_eq_true rfl) ?_
  intro p e s m below meth c A ls E hP hD hS hl
  obtain ⟨hx, hb, hr, hml, hown, hts, hlocks, hin, hG, hA⟩ := E
  have hown : s.vm.findClass RX9 = some m.cls := hown
  have in9 : ∀ w ∈ u_ws RX9 TX9 53, w ∈ wsX9_goes := fun _ h => List.mem_cons_of_mem _ (List.mem_append_right _ h)
  have hl : lv_has ls 2 [(0, .ref (va 0))] := hl
  have B2 : ∀ a2 : (Int32 × OB), lp (b_X9_goes_2 F) F a2 = some res → ∀ (H : Heap) (locs : List Loc) (ls : Array Slot), va_P D vwCl (moW k va a2.2) H → va_D A (moW k va a2.2) → va_S A s.heap H locs → lv_has ls 2 [(0, .ref (va 0)), (1, .int a2.1)] → W p l e (rmK 6 0 0) s m (List.toArray [.ref (va 0)]) below meth c H locs 0 0 (MQ below (va_Qi (fun r (_ : Unit) => r = res.1) (hcB D (fun _ : Unit => moW k va res.2) A) A) (List.toArray [.ref (va 0)]) s 0 0 A) (F0 m 2 ls []) := by
    refine lp_W ?_ F
    intro k2 hk2 a2 h H locs ls hP hD hS hl
    have hc2 : ∀ (v1 : Int32) (mo : OB), k2 (v1, mo) = some res → ∀ (H : Heap) (locs : List Loc) (ls : Array Slot), va_P D vwCl (moW k va mo) H → va_D A (moW k va mo) → va_S A s.heap H locs → lv_has ls 2 [(0, .ref (va 0)), (1, .int v1)] → W p l e (rmK 6 0 0) s m (List.toArray [.ref (va 0)]) below meth c H locs 0 0 (MQ below (va_Qi (fun r (_ : Unit) => r = res.1) (hcB D (fun _ : Unit => moW k va res.2) A) A) (List.toArray [.ref (va 0)]) s 0 0 A) (F0 m 2 ls []) := fun v1 mo => hk2 (v1, mo)
    have B36 : ∀ (v1 : Int32) (y0 : Int32) (y1 : Int32) (mo : OB) (H : Heap) (locs : List Loc) (ls : Array Slot), b_X9_goes_36 F k2 v1 y0 y1 mo = some res → va_P D vwCl (moW k va mo) H → va_D A (moW k va mo) → va_S A s.heap H locs → lv_has ls 2 [(0, .ref (va 0)), (1, .int v1)] → W p l e (rmK 6 0 0) s m (List.toArray [.ref (va 0)]) below meth c H locs 0 0 (MQ below (va_Qi (fun r (_ : Unit) => r = res.1) (hcB D (fun _ : Unit => moW k va res.2) A) A) (List.toArray [.ref (va 0)]) s 0 0 A) (F0 m 36 ls [.int y0, .int y1, .ref (va 3)]) := by
      intro v1 y0 y1 mo H locs ls h hP hD hS hl
      obtain ⟨g1, h⟩ := fw_g h
      refine va_iast hx hb hG.1 hP hD hS 3 0 rfl rfl (ib_vp g1) dX9_goes_36 (fun H locs hP hD hS => ?_)
      refine lv_iinc (v := (v1 + 1)) (lv' := [(1, .int (v1 + 1)), (0, .ref (va 0))]) hx hb dX9_goes_37 hl (k := 1) rfl rfl (by decide) rfl (fun ls hl => ?_)
      refine lv_goto (tgt := 2) hx hb dX9_goes_40 (by decide) ?_
      exact hc2 _ _ h _ _ _ hP hD hS (lv_sub hl [1, 0] rfl)
    refine lv_iload_n hx hb dX9_goes_2 rfl (lv_at hl 1 rfl) ?_
    refine lv_aload_n hx hb dX9_goes_3 rfl (lv_at hl 0 rfl) ?_
    refine va_get (D := D) (ci := 7) (v := .ref (va 1)) (C := RX9) (T := TX9) (N := 53) hx hb hts in9 hown hG.1 hP 0 rfl rfl 1 (by decide) (hts (.fieldLink RX9 9 "ChairCaneModel" "scalar" "[I") (mem_b bq_wsX9_goes 0 0 rfl)) (fun _ h9 => h9) rfl dX9_goes_4 ?_
    refine lv_iconst (v := 3) hx hb dX9_goes_7 (by decide) ?_
    refine va_iald hx hb hG.1 hP 1 0 rfl rfl (by unfold vp_in; decide) dX9_goes_8 ?_
    refine lv_icmp_ge (tgt := 43) hx hb dX9_goes_9 (by decide) (fun c2 => ?_) (fun c2 => ?_)
    · have h := fw_t c2 h
      refine lv_aload_n hx hb dX9_goes_43 rfl (lv_at hl 0 rfl) ?_
      refine va_get (D := D) (ci := 7) (v := .ref (va 1)) (C := RX9) (T := TX9) (N := 53) hx hb hts in9 hown hG.1 hP 0 rfl rfl 1 (by decide) (hts (.fieldLink RX9 9 "ChairCaneModel" "scalar" "[I") (mem_b bq_wsX9_goes 0 0 rfl)) (fun _ h9 => h9) rfl dX9_goes_44 ?_
      refine lv_iconst (v := 4) hx hb dX9_goes_47 (by decide) ?_
      refine lv_dup2_11 hx hb dX9_goes_48 rfl rfl ?_
      refine va_iald hx hb hG.1 hP 1 0 rfl rfl (by unfold vp_in; decide) dX9_goes_49 ?_
      refine lv_iconst (v := 1) hx hb dX9_goes_50 (by decide) ?_
      refine lv_iadd hx hb dX9_goes_51 ?_
      refine va_iast hx hb hG.1 hP hD hS 1 0 rfl rfl (by unfold vp_in; decide) dX9_goes_52 (fun H locs hP hD hS => ?_)
      refine lv_aload_n hx hb dX9_goes_53 rfl (lv_at hl 0 rfl) ?_
      obtain ⟨hP, hD⟩ := cv (w' := moW k va (a2.2.1, (uF a2.2.2.1 1 (upd (a2.2.2.1 1) (Int32.toNatClampNeg 4) (((a2.2.2.1 1) (Int32.toNatClampNeg 4)) + 1))), a2.2.2.2)) hP hD rfl
      refine fw_Vi (As := []) (rest := []) (n := 0) (wr := []) (rv := fun b : Int32 × OB => b.1) (wp := fun b : Int32 × OB => moW k va b.2) h hx hb hml hown hts hG hA hP hD hS hl.1 (List.range (moW k va (a2.2.1, (uF a2.2.2.1 1 (upd (a2.2.2.1 1) (Int32.toNatClampNeg 4) (((a2.2.2.1 1) (Int32.toNatClampNeg 4)) + 1))), a2.2.2.2)).length) [] (fun q hq9 => c_X9_settles l D k _  va F  (a2.2.1, (uF a2.2.2.1 1 (upd (a2.2.2.1 1) (Int32.toNatClampNeg 4) (((a2.2.2.1 1) (Int32.toNatClampNeg 4)) + 1))), a2.2.2.2)  hq9) (ci := 7) (q0 := 0) rfl rfl gX9_goes_X9_settles rfl ⟨rfl, rfl, Nat.le_of_ble_eq_true rfl, Nat.le_of_ble_eq_true rfl⟩ (by decide +kernel) (al_C _) rfl (al_n _) ⟨rfl, rfl, Nat.le_of_ble_eq_true rfl, Nat.le_of_ble_eq_true rfl, Nat.le_of_ble_eq_true rfl⟩ dX9_goes_54 (fun q3 H locs h hP hD hS => ?_)
      obtain ⟨hP, hD⟩ := cv (w' := moW k va q3.2) hP hD rfl
      refine hc_is (z := q3.1) rfl ?_
      exact fw_endI (rv := fun b : Int32 × OB => b.1) (wp := fun b : Int32 × OB => moW k va b.2) hx hb hr hlocks h rfl hP hD hS dX9_goes_57
    · have h := fw_f c2 h
      refine lv_aload_n hx hb dX9_goes_12 rfl (lv_at hl 0 rfl) ?_
      refine va_get (D := D) (ci := 7) (v := .ref (va 3)) (C := RX9) (T := TX9) (N := 53) hx hb hts in9 hown hG.1 hP 0 rfl rfl 3 (by decide) (hts (.fieldLink RX9 16 "ChairCaneModel" "is" "[I") (mem_b bq_wsX9_goes 0 1 rfl)) (fun _ h9 => h9) rfl dX9_goes_13 ?_
      refine lv_iload_n hx hb dX9_goes_16 rfl (lv_at hl 1 rfl) ?_
      refine lv_aload_n hx hb dX9_goes_17 rfl (lv_at hl 0 rfl) ?_
      refine va_get (D := D) (ci := 7) (v := .ref (va 3)) (C := RX9) (T := TX9) (N := 53) hx hb hts in9 hown hG.1 hP 0 rfl rfl 3 (by decide) (hts (.fieldLink RX9 16 "ChairCaneModel" "is" "[I") (mem_b bq_wsX9_goes 0 1 rfl)) (fun _ h9 => h9) rfl dX9_goes_18 ?_
      refine lv_iload_n hx hb dX9_goes_21 rfl (lv_at hl 1 rfl) ?_
      obtain ⟨g4, h⟩ := fw_g h
      refine va_iald hx hb hG.1 hP 3 0 rfl rfl (ib_vp g4) dX9_goes_22 ?_
      refine lv_iconst (v := 2) hx hb dX9_goes_23 (by decide) ?_
      refine lv_icmp_ne (tgt := 31) hx hb dX9_goes_24 (by decide) (fun c5 => ?_) (fun c5 => ?_)
      · have h := fw_f c5 h
        refine lv_aload_n hx hb dX9_goes_31 rfl (lv_at hl 0 rfl) ?_
        refine lv_iload_n hx hb dX9_goes_32 rfl (lv_at hl 1 rfl) ?_
        refine fw_Vi (As := [.int a2.1]) (rest := [.int a2.1, .ref (va 3)]) (n := 1) (wr := []) (rv := fun b : Int32 × OB => b.1) (wp := fun b : Int32 × OB => moW k va b.2) h hx hb hml hown hts hG hA hP hD hS hl.1 (List.range (moW k va a2.2).length) [] (fun q hq9 => c_X9_choice l D k _  va F a2.1 a2.2  hq9) (ci := 7) (q0 := 0) rfl rfl gX9_goes_X9_choice rfl ⟨rfl, rfl, Nat.le_of_ble_eq_true rfl, Nat.le_of_ble_eq_true rfl⟩ (by decide +kernel) (al_C _) rfl (al_n _) ⟨rfl, rfl, Nat.le_of_ble_eq_true rfl, Nat.le_of_ble_eq_true rfl, Nat.le_of_ble_eq_true rfl⟩ dX9_goes_33 (fun q6 H locs h hP hD hS => ?_)
        obtain ⟨hP, hD⟩ := cv (w' := moW k va q6.2) hP hD rfl
        refine hc_is (z := q6.1) rfl ?_
        exact B36 _ _ _ _ _ _ _ h hP hD hS hl
      · have h := fw_t c5 h
        refine lv_iconst (v := 2) hx hb dX9_goes_27 (by decide) ?_
        refine lv_goto (tgt := 36) hx hb dX9_goes_28 (by decide) ?_
        exact B36 _ _ _ _ _ _ _ h hP hD hS hl
  have C2 : ∀ (v1 : Int32) (mo : OB), lp (b_X9_goes_2 F) F (v1, mo) = some res → ∀ (H : Heap) (locs : List Loc) (ls : Array Slot), va_P D vwCl (moW k va mo) H → va_D A (moW k va mo) → va_S A s.heap H locs → lv_has ls 2 [(0, .ref (va 0)), (1, .int v1)] → W p l e (rmK 6 0 0) s m (List.toArray [.ref (va 0)]) below meth c H locs 0 0 (MQ below (va_Qi (fun r (_ : Unit) => r = res.1) (hcB D (fun _ : Unit => moW k va res.2) A) A) (List.toArray [.ref (va 0)]) s 0 0 A) (F0 m 2 ls []) := fun v1 mo => B2 (v1, mo)
  refine lv_iconst (v := 0) hx hb dX9_goes_0 (by decide) ?_
  refine lv_istore_n (lv' := [(1, .int 0), (0, .ref (va 0))]) hx hb dX9_goes_1 rfl hl (by decide) rfl (fun ls hl => ?_)
  exact C2 _ _ h _ _ _ hP hD hS (lv_sub hl [1, 0] rfl)
noncomputable def b_X9_goFor_2 (F : Nat)    (k2 : (Int32 × Int32 × OB) → Option (OB)) (a2 : (Int32 × Int32 × OB)) : Option (OB) :=
  if a2.1 ≤ a2.2.1 then (some a2.2.2) else (Option.bind (f_X9_goes F a2.2.2) (fun q2 => (k2 (a2.1, (a2.2.1 + 1), q2.2))))
noncomputable def f_X9_goFor (F : Nat)  (x1 : Int32) (mo : OB) : Option (OB) :=
  lp (b_X9_goFor_2 F) F (x1, 0, mo)
set_option maxHeartbeats 4000000 in
set_option maxRecDepth 100000 in
theorem c_X9_goFor (l : Launch) (D : va_G) (k : Nat → ClassId) (sz : Nat)  (va : Nat → Nat) (F : Nat)  (x1 : Int32) (mo : OB)  {res : OB} (h : f_X9_goFor F x1 mo = some res) : CtV l yX9_goFor wsX9_goFor (rmK 7 0 0) [.ref (va 0), .int x1] D k sz (moW k va mo) (fun (_ : Unit) => True) (fun _ : Unit => moW k va res) 0 0 := by
  refine CtV.mk (cc := cX9_goFor) (maxL := 3) (ret := none) (by decide) rfl (Nat.le_of_ble_eq_true rfl) ?_
  intro p e s m below meth c A ls E hP hD hS hl
  obtain ⟨hx, hb, hr, hml, hown, hts, hlocks, hin, hG, hA⟩ := E
  have hown : s.vm.findClass RX9 = some m.cls := hown
  have in9 : ∀ w ∈ u_ws RX9 TX9 53, w ∈ wsX9_goFor := fun _ h => List.mem_cons_of_mem _ (List.mem_append_right _ h)
  have hl : lv_has ls 3 [(0, .ref (va 0)), (1, .int x1)] := hl
  have B2 : ∀ a2 : (Int32 × Int32 × OB), lp (b_X9_goFor_2 F) F a2 = some res → ∀ (H : Heap) (locs : List Loc) (ls : Array Slot), va_P D vwCl (moW k va a2.2.2) H → va_D A (moW k va a2.2.2) → va_S A s.heap H locs → lv_has ls 3 [(0, .ref (va 0)), (1, .int a2.1), (2, .int a2.2.1)] → W p l e (rmK 7 0 0) s m (List.toArray [.ref (va 0), .int x1]) below meth c H locs 0 0 (MQ below (va_Qv (fun (_ : Unit) => True) (hcB D (fun _ : Unit => moW k va res) A) A) (List.toArray [.ref (va 0), .int x1]) s 0 0 A) (F0 m 2 ls []) := by
    refine lp_W ?_ F
    intro k2 hk2 a2 h H locs ls hP hD hS hl
    have hc2 : ∀ (v1 : Int32) (v2 : Int32) (mo : OB), k2 (v1, v2, mo) = some res → ∀ (H : Heap) (locs : List Loc) (ls : Array Slot), va_P D vwCl (moW k va mo) H → va_D A (moW k va mo) → va_S A s.heap H locs → lv_has ls 3 [(0, .ref (va 0)), (1, .int v1), (2, .int v2)] → W p l e (rmK 7 0 0) s m (List.toArray [.ref (va 0), .int x1]) below meth c H locs 0 0 (MQ below (va_Qv (fun (_ : Unit) => True) (hcB D (fun _ : Unit => moW k va res) A) A) (List.toArray [.ref (va 0), .int x1]) s 0 0 A) (F0 m 2 ls []) := fun v1 v2 mo => hk2 (v1, v2, mo)
    refine lv_iload_n hx hb dX9_goFor_2 rfl (lv_at hl 2 rfl) ?_
    refine lv_iload_n hx hb dX9_goFor_3 rfl (lv_at hl 1 rfl) ?_
    refine lv_icmp_ge (tgt := 18) hx hb dX9_goFor_4 (by decide) (fun c1 => ?_) (fun c1 => ?_)
    · have h := fw_t c1 h
      exact fw_endV (wp := fun b : OB => moW k va b) hx hb hr hlocks h hP hD hS dX9_goFor_18
    · have h := fw_f c1 h
      refine lv_aload_n hx hb dX9_goFor_7 rfl (lv_at hl 0 rfl) ?_
      refine fw_Vi (As := []) (rest := []) (n := 0) (wr := []) (rv := fun b : Int32 × OB => b.1) (wp := fun b : Int32 × OB => moW k va b.2) h hx hb hml hown hts hG hA hP hD hS hl.1 (List.range (moW k va a2.2.2).length) [] (fun q hq9 => c_X9_goes l D k _  va F  a2.2.2  hq9) (ci := 7) (q0 := 0) rfl rfl gX9_goFor_X9_goes rfl ⟨rfl, rfl, Nat.le_of_ble_eq_true rfl, Nat.le_of_ble_eq_true rfl⟩ (by decide +kernel) (al_C _) rfl (al_n _) ⟨rfl, rfl, Nat.le_of_ble_eq_true rfl, Nat.le_of_ble_eq_true rfl, Nat.le_of_ble_eq_true rfl⟩ dX9_goFor_8 (fun q2 H locs h hP hD hS => ?_)
      obtain ⟨hP, hD⟩ := cv (w' := moW k va q2.2) hP hD rfl
      refine hc_is (z := q2.1) rfl ?_
      refine lv_pop hx hb dX9_goFor_11 rfl ?_
      refine lv_iinc (v := (a2.2.1 + 1)) (lv' := [(2, .int (a2.2.1 + 1)), (0, .ref (va 0)), (1, .int a2.1)]) hx hb dX9_goFor_12 hl (k := 2) rfl rfl (by decide) rfl (fun ls hl => ?_)
      refine lv_goto (tgt := 2) hx hb dX9_goFor_15 (by decide) ?_
      exact hc2 _ _ _ h _ _ _ hP hD hS (lv_sub hl [1, 2, 0] rfl)
  have C2 : ∀ (v1 : Int32) (v2 : Int32) (mo : OB), lp (b_X9_goFor_2 F) F (v1, v2, mo) = some res → ∀ (H : Heap) (locs : List Loc) (ls : Array Slot), va_P D vwCl (moW k va mo) H → va_D A (moW k va mo) → va_S A s.heap H locs → lv_has ls 3 [(0, .ref (va 0)), (1, .int v1), (2, .int v2)] → W p l e (rmK 7 0 0) s m (List.toArray [.ref (va 0), .int x1]) below meth c H locs 0 0 (MQ below (va_Qv (fun (_ : Unit) => True) (hcB D (fun _ : Unit => moW k va res) A) A) (List.toArray [.ref (va 0), .int x1]) s 0 0 A) (F0 m 2 ls []) := fun v1 v2 mo => B2 (v1, v2, mo)
  refine lv_iconst (v := 0) hx hb dX9_goFor_0 (by decide) ?_
  refine lv_istore_n (lv' := [(2, .int 0), (0, .ref (va 0)), (1, .int x1)]) hx hb dX9_goFor_1 rfl hl (by decide) rfl (fun ls hl => ?_)
  exact C2 _ _ _ h _ _ _ hP hD hS (lv_sub hl [1, 2, 0] rfl)
end
