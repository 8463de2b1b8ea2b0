/-! readers, as functions -/
theorem dX1_read_0 : decode cX1_read 0 = .ok (.aload_n 0, 1) := of_0 ok_aload_n_0 (by decide +kernel)
theorem dX1_read_1 : decode cX1_read 1 = .ok (.invokevirtual 9, 3) := of_u2 ok_invokevirtual 0 9 (by decide +kernel)
theorem dX1_read_4 : decode cX1_read 4 = .ok (.aload_n 1, 1) := of_0 ok_aload_n_1 (by decide +kernel)
theorem dX1_read_5 : decode cX1_read 5 = .ok (.invokevirtual 14, 3) := of_u2 ok_invokevirtual 0 14 (by decide +kernel)
theorem dX1_read_8 : decode cX1_read 8 = .ok (.iconst 0, 1) := of_0 ok_iconst_0 (by decide +kernel)
theorem dX1_read_9 : decode cX1_read 9 = .ok (.istore_n 2, 1) := of_0 ok_istore_n_2 (by decide +kernel)
theorem dX1_read_10 : decode cX1_read 10 = .ok (.iload_n 2, 1) := of_0 ok_iload_n_2 (by decide +kernel)
theorem dX1_read_11 : decode cX1_read 11 = .ok (.bipush 40, 2) := of_s1 ok_bipush 40 (by decide +kernel)
theorem dX1_read_13 : decode cX1_read 13 = .ok (.if_icmp .gt 49, 3) := of_s2 ok_if_icmp_gt 0 49 (by decide +kernel)
theorem dX1_read_16 : decode cX1_read 16 = .ok (.aload_n 0, 1) := of_0 ok_aload_n_0 (by decide +kernel)
theorem dX1_read_17 : decode cX1_read 17 = .ok (.aload_n 1, 1) := of_0 ok_aload_n_1 (by decide +kernel)
theorem dX1_read_18 : decode cX1_read 18 = .ok (.iload_n 2, 1) := of_0 ok_iload_n_2 (by decide +kernel)
theorem dX1_read_19 : decode cX1_read 19 = .ok (.invokestatic 19, 3) := of_u2 ok_invokestatic 0 19 (by decide +kernel)
theorem dX1_read_22 : decode cX1_read 22 = .ok (.ifCond .ne 5, 3) := of_s2 ok_ifCond_ne 0 5 (by decide +kernel)
theorem dX1_read_25 : decode cX1_read 25 = .ok (.iconst 0, 1) := of_0 ok_iconst_0 (by decide +kernel)
theorem dX1_read_26 : decode cX1_read 26 = .ok (.ireturn, 1) := of_0 ok_ireturn (by decide +kernel)
theorem dX1_read_27 : decode cX1_read 27 = .ok (.aload_n 0, 1) := of_0 ok_aload_n_0 (by decide +kernel)
theorem dX1_read_28 : decode cX1_read 28 = .ok (.invokevirtual 25, 3) := of_u2 ok_invokevirtual 0 25 (by decide +kernel)
theorem dX1_read_31 : decode cX1_read 31 = .ok (.iconst (-1), 1) := of_0 ok_iconst_m1 (by decide +kernel)
theorem dX1_read_32 : decode cX1_read 32 = .ok (.if_icmp .ne 9, 3) := of_s2 ok_if_icmp_ne 0 9 (by decide +kernel)
theorem dX1_read_35 : decode cX1_read 35 = .ok (.aload_n 1, 1) := of_0 ok_aload_n_1 (by decide +kernel)
theorem dX1_read_36 : decode cX1_read 36 = .ok (.invokevirtual 29, 3) := of_u2 ok_invokevirtual 0 29 (by decide +kernel)
theorem dX1_read_39 : decode cX1_read 39 = .ok (.iconst 1, 1) := of_0 ok_iconst_1 (by decide +kernel)
theorem dX1_read_40 : decode cX1_read 40 = .ok (.ireturn, 1) := of_0 ok_ireturn (by decide +kernel)
theorem dX1_read_41 : decode cX1_read 41 = .ok (.aload_n 0, 1) := of_0 ok_aload_n_0 (by decide +kernel)
theorem dX1_read_42 : decode cX1_read 42 = .ok (.bipush 59, 2) := of_s1 ok_bipush 59 (by decide +kernel)
theorem dX1_read_44 : decode cX1_read 44 = .ok (.invokevirtual 32, 3) := of_u2 ok_invokevirtual 0 32 (by decide +kernel)
theorem dX1_read_47 : decode cX1_read 47 = .ok (.ifCond .ne 9, 3) := of_s2 ok_ifCond_ne 0 9 (by decide +kernel)
theorem dX1_read_50 : decode cX1_read 50 = .ok (.aload_n 0, 1) := of_0 ok_aload_n_0 (by decide +kernel)
theorem dX1_read_51 : decode cX1_read 51 = .ok (.iconst 0, 1) := of_0 ok_iconst_0 (by decide +kernel)
theorem dX1_read_52 : decode cX1_read 52 = .ok (.invokevirtual 36, 3) := of_u2 ok_invokevirtual 0 36 (by decide +kernel)
theorem dX1_read_55 : decode cX1_read 55 = .ok (.ireturn, 1) := of_0 ok_ireturn (by decide +kernel)
theorem dX1_read_56 : decode cX1_read 56 = .ok (.iinc 2 1, 3) := of_ii ok_iinc 1 (by decide +kernel)
theorem dX1_read_59 : decode cX1_read 59 = .ok (.goto (-49), 3) := of_s2 ok_goto 255 207 (by decide +kernel)
theorem dX1_read_62 : decode cX1_read 62 = .ok (.iconst 0, 1) := of_0 ok_iconst_0 (by decide +kernel)
theorem dX1_read_63 : decode cX1_read 63 = .ok (.ireturn, 1) := of_0 ok_ireturn (by decide +kernel)
theorem dX1_readChair_0 : decode cX1_readChair 0 = .ok (.aload_n 0, 1) := of_0 ok_aload_n_0 (by decide +kernel)
theorem dX1_readChair_1 : decode cX1_readChair 1 = .ok (.iconst 1, 1) := of_0 ok_iconst_1 (by decide +kernel)
theorem dX1_readChair_2 : decode cX1_readChair 2 = .ok (.bipush 60, 2) := of_s1 ok_bipush 60 (by decide +kernel)
theorem dX1_readChair_4 : decode cX1_readChair 4 = .ok (.invokevirtual 63, 3) := of_u2 ok_invokevirtual 0 63 (by decide +kernel)
theorem dX1_readChair_7 : decode cX1_readChair 7 = .ok (.istore_n 2, 1) := of_0 ok_istore_n_2 (by decide +kernel)
theorem dX1_readChair_8 : decode cX1_readChair 8 = .ok (.iload_n 2, 1) := of_0 ok_iload_n_2 (by decide +kernel)
theorem dX1_readChair_9 : decode cX1_readChair 9 = .ok (.iconst (-1), 1) := of_0 ok_iconst_m1 (by decide +kernel)
theorem dX1_readChair_10 : decode cX1_readChair 10 = .ok (.if_icmp .ne 5, 3) := of_s2 ok_if_icmp_ne 0 5 (by decide +kernel)
theorem dX1_readChair_13 : decode cX1_readChair 13 = .ok (.iconst 0, 1) := of_0 ok_iconst_0 (by decide +kernel)
theorem dX1_readChair_14 : decode cX1_readChair 14 = .ok (.ireturn, 1) := of_0 ok_ireturn (by decide +kernel)
theorem dX1_readChair_15 : decode cX1_readChair 15 = .ok (.aload_n 0, 1) := of_0 ok_aload_n_0 (by decide +kernel)
theorem dX1_readChair_16 : decode cX1_readChair 16 = .ok (.iconst 0, 1) := of_0 ok_iconst_0 (by decide +kernel)
theorem dX1_readChair_17 : decode cX1_readChair 17 = .ok (.aload_n 1, 1) := of_0 ok_aload_n_1 (by decide +kernel)
theorem dX1_readChair_18 : decode cX1_readChair 18 = .ok (.getfield 43, 3) := of_u2 ok_getfield 0 43 (by decide +kernel)
theorem dX1_readChair_21 : decode cX1_readChair 21 = .ok (.iconst 1, 1) := of_0 ok_iconst_1 (by decide +kernel)
theorem dX1_readChair_22 : decode cX1_readChair 22 = .ok (.isub, 1) := of_0 ok_isub (by decide +kernel)
theorem dX1_readChair_23 : decode cX1_readChair 23 = .ok (.invokevirtual 63, 3) := of_u2 ok_invokevirtual 0 63 (by decide +kernel)
theorem dX1_readChair_26 : decode cX1_readChair 26 = .ok (.istore_n 3, 1) := of_0 ok_istore_n_3 (by decide +kernel)
theorem dX1_readChair_27 : decode cX1_readChair 27 = .ok (.iload_n 3, 1) := of_0 ok_iload_n_3 (by decide +kernel)
theorem dX1_readChair_28 : decode cX1_readChair 28 = .ok (.iconst (-1), 1) := of_0 ok_iconst_m1 (by decide +kernel)
theorem dX1_readChair_29 : decode cX1_readChair 29 = .ok (.if_icmp .eq 12, 3) := of_s2 ok_if_icmp_eq 0 12 (by decide +kernel)
theorem dX1_readChair_32 : decode cX1_readChair 32 = .ok (.aload_n 1, 1) := of_0 ok_aload_n_1 (by decide +kernel)
theorem dX1_readChair_33 : decode cX1_readChair 33 = .ok (.getfield 47, 3) := of_u2 ok_getfield 0 47 (by decide +kernel)
theorem dX1_readChair_36 : decode cX1_readChair 36 = .ok (.bipush 8, 2) := of_s1 ok_bipush 8 (by decide +kernel)
theorem dX1_readChair_38 : decode cX1_readChair 38 = .ok (.if_icmp .lt 5, 3) := of_s2 ok_if_icmp_lt 0 5 (by decide +kernel)
theorem dX1_readChair_41 : decode cX1_readChair 41 = .ok (.iconst 0, 1) := of_0 ok_iconst_0 (by decide +kernel)
theorem dX1_readChair_42 : decode cX1_readChair 42 = .ok (.ireturn, 1) := of_0 ok_ireturn (by decide +kernel)
theorem dX1_readChair_43 : decode cX1_readChair 43 = .ok (.aload_n 1, 1) := of_0 ok_aload_n_1 (by decide +kernel)
theorem dX1_readChair_44 : decode cX1_readChair 44 = .ok (.getfield 71, 3) := of_u2 ok_getfield 0 71 (by decide +kernel)
theorem dX1_readChair_47 : decode cX1_readChair 47 = .ok (.aload_n 1, 1) := of_0 ok_aload_n_1 (by decide +kernel)
theorem dX1_readChair_48 : decode cX1_readChair 48 = .ok (.getfield 47, 3) := of_u2 ok_getfield 0 47 (by decide +kernel)
theorem dX1_readChair_51 : decode cX1_readChair 51 = .ok (.iload_n 2, 1) := of_0 ok_iload_n_2 (by decide +kernel)
theorem dX1_readChair_52 : decode cX1_readChair 52 = .ok (.iastore, 1) := of_0 ok_iastore (by decide +kernel)
theorem dX1_readChair_53 : decode cX1_readChair 53 = .ok (.aload_n 1, 1) := of_0 ok_aload_n_1 (by decide +kernel)
theorem dX1_readChair_54 : decode cX1_readChair 54 = .ok (.getfield 74, 3) := of_u2 ok_getfield 0 74 (by decide +kernel)
theorem dX1_readChair_57 : decode cX1_readChair 57 = .ok (.aload_n 1, 1) := of_0 ok_aload_n_1 (by decide +kernel)
theorem dX1_readChair_58 : decode cX1_readChair 58 = .ok (.getfield 47, 3) := of_u2 ok_getfield 0 47 (by decide +kernel)
theorem dX1_readChair_61 : decode cX1_readChair 61 = .ok (.iload_n 3, 1) := of_0 ok_iload_n_3 (by decide +kernel)
theorem dX1_readChair_62 : decode cX1_readChair 62 = .ok (.iastore, 1) := of_0 ok_iastore (by decide +kernel)
theorem dX1_readChair_63 : decode cX1_readChair 63 = .ok (.aload_n 1, 1) := of_0 ok_aload_n_1 (by decide +kernel)
theorem dX1_readChair_64 : decode cX1_readChair 64 = .ok (.dup, 1) := of_0 ok_dup (by decide +kernel)
theorem dX1_readChair_65 : decode cX1_readChair 65 = .ok (.getfield 47, 3) := of_u2 ok_getfield 0 47 (by decide +kernel)
theorem dX1_readChair_68 : decode cX1_readChair 68 = .ok (.iconst 1, 1) := of_0 ok_iconst_1 (by decide +kernel)
theorem dX1_readChair_69 : decode cX1_readChair 69 = .ok (.iadd, 1) := of_0 ok_iadd (by decide +kernel)
theorem dX1_readChair_70 : decode cX1_readChair 70 = .ok (.putfield 47, 3) := of_u2 ok_putfield 0 47 (by decide +kernel)
theorem dX1_readChair_73 : decode cX1_readChair 73 = .ok (.iconst 1, 1) := of_0 ok_iconst_1 (by decide +kernel)
theorem dX1_readChair_74 : decode cX1_readChair 74 = .ok (.ireturn, 1) := of_0 ok_ireturn (by decide +kernel)
theorem dX1_readClause_0 : decode cX1_readClause 0 = .ok (.aload_n 0, 1) := of_0 ok_aload_n_0 (by decide +kernel)
theorem dX1_readClause_1 : decode cX1_readClause 1 = .ok (.invokevirtual 25, 3) := of_u2 ok_invokevirtual 0 25 (by decide +kernel)
theorem dX1_readClause_4 : decode cX1_readClause 4 = .ok (.istore_n 3, 1) := of_0 ok_istore_n_3 (by decide +kernel)
theorem dX1_readClause_5 : decode cX1_readClause 5 = .ok (.iload_n 3, 1) := of_0 ok_iload_n_3 (by decide +kernel)
theorem dX1_readClause_6 : decode cX1_readClause 6 = .ok (.sipush 271, 3) := of_s2 ok_sipush 1 15 (by decide +kernel)
theorem dX1_readClause_9 : decode cX1_readClause 9 = .ok (.if_icmp .eq 30, 3) := of_s2 ok_if_icmp_eq 0 30 (by decide +kernel)
theorem dX1_readClause_12 : decode cX1_readClause 12 = .ok (.iload_n 3, 1) := of_0 ok_iload_n_3 (by decide +kernel)
theorem dX1_readClause_13 : decode cX1_readClause 13 = .ok (.sipush 272, 3) := of_s2 ok_sipush 1 16 (by decide +kernel)
theorem dX1_readClause_16 : decode cX1_readClause 16 = .ok (.if_icmp .eq 23, 3) := of_s2 ok_if_icmp_eq 0 23 (by decide +kernel)
theorem dX1_readClause_19 : decode cX1_readClause 19 = .ok (.iload_n 3, 1) := of_0 ok_iload_n_3 (by decide +kernel)
theorem dX1_readClause_20 : decode cX1_readClause 20 = .ok (.sipush 261, 3) := of_s2 ok_sipush 1 5 (by decide +kernel)
theorem dX1_readClause_23 : decode cX1_readClause 23 = .ok (.if_icmp .eq 16, 3) := of_s2 ok_if_icmp_eq 0 16 (by decide +kernel)
theorem dX1_readClause_26 : decode cX1_readClause 26 = .ok (.iload_n 3, 1) := of_0 ok_iload_n_3 (by decide +kernel)
theorem dX1_readClause_27 : decode cX1_readClause 27 = .ok (.sipush 260, 3) := of_s2 ok_sipush 1 4 (by decide +kernel)
theorem dX1_readClause_30 : decode cX1_readClause 30 = .ok (.if_icmp .eq 9, 3) := of_s2 ok_if_icmp_eq 0 9 (by decide +kernel)
theorem dX1_readClause_33 : decode cX1_readClause 33 = .ok (.aload_n 0, 1) := of_0 ok_aload_n_0 (by decide +kernel)
theorem dX1_readClause_34 : decode cX1_readClause 34 = .ok (.iconst 0, 1) := of_0 ok_iconst_0 (by decide +kernel)
theorem dX1_readClause_35 : decode cX1_readClause 35 = .ok (.invokevirtual 36, 3) := of_u2 ok_invokevirtual 0 36 (by decide +kernel)
theorem dX1_readClause_38 : decode cX1_readClause 38 = .ok (.ireturn, 1) := of_0 ok_ireturn (by decide +kernel)
theorem dX1_readClause_39 : decode cX1_readClause 39 = .ok (.iload_n 2, 1) := of_0 ok_iload_n_2 (by decide +kernel)
theorem dX1_readClause_40 : decode cX1_readClause 40 = .ok (.bipush 40, 2) := of_s1 ok_bipush 40 (by decide +kernel)
theorem dX1_readClause_42 : decode cX1_readClause 42 = .ok (.if_icmp .ge 22, 3) := of_s2 ok_if_icmp_ge 0 22 (by decide +kernel)
theorem dX1_readClause_45 : decode cX1_readClause 45 = .ok (.iload_n 3, 1) := of_0 ok_iload_n_3 (by decide +kernel)
theorem dX1_readClause_46 : decode cX1_readClause 46 = .ok (.sipush 271, 3) := of_s2 ok_sipush 1 15 (by decide +kernel)
theorem dX1_readClause_49 : decode cX1_readClause 49 = .ok (.if_icmp .ne 7, 3) := of_s2 ok_if_icmp_ne 0 7 (by decide +kernel)
theorem dX1_readClause_52 : decode cX1_readClause 52 = .ok (.iconst 1, 1) := of_0 ok_iconst_1 (by decide +kernel)
theorem dX1_readClause_53 : decode cX1_readClause 53 = .ok (.goto 4, 3) := of_s2 ok_goto 0 4 (by decide +kernel)
theorem dX1_readClause_56 : decode cX1_readClause 56 = .ok (.iconst 0, 1) := of_0 ok_iconst_0 (by decide +kernel)
theorem dX1_readClause_57 : decode cX1_readClause 57 = .ok (.aload_n 1, 1) := of_0 ok_aload_n_1 (by decide +kernel)
theorem dX1_readClause_58 : decode cX1_readClause 58 = .ok (.getfield 39, 3) := of_u2 ok_getfield 0 39 (by decide +kernel)
theorem dX1_readClause_61 : decode cX1_readClause 61 = .ok (.if_icmp .ne 9, 3) := of_s2 ok_if_icmp_ne 0 9 (by decide +kernel)
theorem dX1_readClause_64 : decode cX1_readClause 64 = .ok (.aload_n 0, 1) := of_0 ok_aload_n_0 (by decide +kernel)
theorem dX1_readClause_65 : decode cX1_readClause 65 = .ok (.iconst 4, 1) := of_0 ok_iconst_4 (by decide +kernel)
theorem dX1_readClause_66 : decode cX1_readClause 66 = .ok (.invokevirtual 36, 3) := of_u2 ok_invokevirtual 0 36 (by decide +kernel)
theorem dX1_readClause_69 : decode cX1_readClause 69 = .ok (.ireturn, 1) := of_0 ok_ireturn (by decide +kernel)
theorem dX1_readClause_70 : decode cX1_readClause 70 = .ok (.iload_n 3, 1) := of_0 ok_iload_n_3 (by decide +kernel)
theorem dX1_readClause_71 : decode cX1_readClause 71 = .ok (.sipush 272, 3) := of_s2 ok_sipush 1 16 (by decide +kernel)
theorem dX1_readClause_74 : decode cX1_readClause 74 = .ok (.if_icmp .ne 11, 3) := of_s2 ok_if_icmp_ne 0 11 (by decide +kernel)
theorem dX1_readClause_77 : decode cX1_readClause 77 = .ok (.aload_n 1, 1) := of_0 ok_aload_n_1 (by decide +kernel)
theorem dX1_readClause_78 : decode cX1_readClause 78 = .ok (.getfield 43, 3) := of_u2 ok_getfield 0 43 (by decide +kernel)
theorem dX1_readClause_81 : decode cX1_readClause 81 = .ok (.iconst 4, 1) := of_0 ok_iconst_4 (by decide +kernel)
theorem dX1_readClause_82 : decode cX1_readClause 82 = .ok (.if_icmp .ge 19, 3) := of_s2 ok_if_icmp_ge 0 19 (by decide +kernel)
theorem dX1_readClause_85 : decode cX1_readClause 85 = .ok (.iload_n 3, 1) := of_0 ok_iload_n_3 (by decide +kernel)
theorem dX1_readClause_86 : decode cX1_readClause 86 = .ok (.sipush 261, 3) := of_s2 ok_sipush 1 5 (by decide +kernel)
theorem dX1_readClause_89 : decode cX1_readClause 89 = .ok (.if_icmp .ne 18, 3) := of_s2 ok_if_icmp_ne 0 18 (by decide +kernel)
theorem dX1_readClause_92 : decode cX1_readClause 92 = .ok (.aload_n 1, 1) := of_0 ok_aload_n_1 (by decide +kernel)
theorem dX1_readClause_93 : decode cX1_readClause 93 = .ok (.getfield 47, 3) := of_u2 ok_getfield 0 47 (by decide +kernel)
theorem dX1_readClause_96 : decode cX1_readClause 96 = .ok (.bipush 8, 2) := of_s1 ok_bipush 8 (by decide +kernel)
theorem dX1_readClause_98 : decode cX1_readClause 98 = .ok (.if_icmp .lt 9, 3) := of_s2 ok_if_icmp_lt 0 9 (by decide +kernel)
theorem dX1_readClause_101 : decode cX1_readClause 101 = .ok (.aload_n 0, 1) := of_0 ok_aload_n_0 (by decide +kernel)
theorem dX1_readClause_102 : decode cX1_readClause 102 = .ok (.iconst 4, 1) := of_0 ok_iconst_4 (by decide +kernel)
theorem dX1_readClause_103 : decode cX1_readClause 103 = .ok (.invokevirtual 36, 3) := of_u2 ok_invokevirtual 0 36 (by decide +kernel)
theorem dX1_readClause_106 : decode cX1_readClause 106 = .ok (.ireturn, 1) := of_0 ok_ireturn (by decide +kernel)
theorem dX1_readClause_107 : decode cX1_readClause 107 = .ok (.aload_n 0, 1) := of_0 ok_aload_n_0 (by decide +kernel)
theorem dX1_readClause_108 : decode cX1_readClause 108 = .ok (.invokevirtual 50, 3) := of_u2 ok_invokevirtual 0 50 (by decide +kernel)
theorem dX1_readClause_111 : decode cX1_readClause 111 = .ok (.iload_n 3, 1) := of_0 ok_iload_n_3 (by decide +kernel)
theorem dX1_readClause_112 : decode cX1_readClause 112 = .ok (.lookupswitch 54 #[(260, 48), (261, 42), (272, 36)], 36) := by decide +kernel
theorem dX1_readClause_148 : decode cX1_readClause 148 = .ok (.aload_n 0, 1) := of_0 ok_aload_n_0 (by decide +kernel)
theorem dX1_readClause_149 : decode cX1_readClause 149 = .ok (.aload_n 1, 1) := of_0 ok_aload_n_1 (by decide +kernel)
theorem dX1_readClause_150 : decode cX1_readClause 150 = .ok (.invokestatic 53, 3) := of_u2 ok_invokestatic 0 53 (by decide +kernel)
theorem dX1_readClause_153 : decode cX1_readClause 153 = .ok (.ireturn, 1) := of_0 ok_ireturn (by decide +kernel)
theorem dX1_readClause_154 : decode cX1_readClause 154 = .ok (.aload_n 0, 1) := of_0 ok_aload_n_0 (by decide +kernel)
theorem dX1_readClause_155 : decode cX1_readClause 155 = .ok (.aload_n 1, 1) := of_0 ok_aload_n_1 (by decide +kernel)
theorem dX1_readClause_156 : decode cX1_readClause 156 = .ok (.invokestatic 57, 3) := of_u2 ok_invokestatic 0 57 (by decide +kernel)
theorem dX1_readClause_159 : decode cX1_readClause 159 = .ok (.ireturn, 1) := of_0 ok_ireturn (by decide +kernel)
theorem dX1_readClause_160 : decode cX1_readClause 160 = .ok (.aload_n 0, 1) := of_0 ok_aload_n_0 (by decide +kernel)
theorem dX1_readClause_161 : decode cX1_readClause 161 = .ok (.aload_n 1, 1) := of_0 ok_aload_n_1 (by decide +kernel)
theorem dX1_readClause_162 : decode cX1_readClause 162 = .ok (.invokestatic 60, 3) := of_u2 ok_invokestatic 0 60 (by decide +kernel)
theorem dX1_readClause_165 : decode cX1_readClause 165 = .ok (.ireturn, 1) := of_0 ok_ireturn (by decide +kernel)
theorem dX1_readClause_166 : decode cX1_readClause 166 = .ok (.aload_n 1, 1) := of_0 ok_aload_n_1 (by decide +kernel)
theorem dX1_readClause_167 : decode cX1_readClause 167 = .ok (.iconst 1, 1) := of_0 ok_iconst_1 (by decide +kernel)
theorem dX1_readClause_168 : decode cX1_readClause 168 = .ok (.putfield 39, 3) := of_u2 ok_putfield 0 39 (by decide +kernel)
theorem dX1_readClause_171 : decode cX1_readClause 171 = .ok (.iconst 1, 1) := of_0 ok_iconst_1 (by decide +kernel)
theorem dX1_readClause_172 : decode cX1_readClause 172 = .ok (.ireturn, 1) := of_0 ok_ireturn (by decide +kernel)
theorem dX1_readSitter_0 : decode cX1_readSitter 0 = .ok (.aload_n 0, 1) := of_0 ok_aload_n_0 (by decide +kernel)
theorem dX1_readSitter_1 : decode cX1_readSitter 1 = .ok (.invokevirtual 25, 3) := of_u2 ok_invokevirtual 0 25 (by decide +kernel)
theorem dX1_readSitter_4 : decode cX1_readSitter 4 = .ok (.sipush 259, 3) := of_s2 ok_sipush 1 3 (by decide +kernel)
theorem dX1_readSitter_7 : decode cX1_readSitter 7 = .ok (.if_icmp .ne 21, 3) := of_s2 ok_if_icmp_ne 0 21 (by decide +kernel)
theorem dX1_readSitter_10 : decode cX1_readSitter 10 = .ok (.aload_n 1, 1) := of_0 ok_aload_n_1 (by decide +kernel)
theorem dX1_readSitter_11 : decode cX1_readSitter 11 = .ok (.aload_n 0, 1) := of_0 ok_aload_n_0 (by decide +kernel)
theorem dX1_readSitter_12 : decode cX1_readSitter 12 = .ok (.invokevirtual 77, 3) := of_u2 ok_invokevirtual 0 77 (by decide +kernel)
theorem dX1_readSitter_15 : decode cX1_readSitter 15 = .ok (.invokevirtual 80, 3) := of_u2 ok_invokevirtual 0 80 (by decide +kernel)
theorem dX1_readSitter_18 : decode cX1_readSitter 18 = .ok (.iconst (-1), 1) := of_0 ok_iconst_m1 (by decide +kernel)
theorem dX1_readSitter_19 : decode cX1_readSitter 19 = .ok (.if_icmp .eq 9, 3) := of_s2 ok_if_icmp_eq 0 9 (by decide +kernel)
theorem dX1_readSitter_22 : decode cX1_readSitter 22 = .ok (.aload_n 0, 1) := of_0 ok_aload_n_0 (by decide +kernel)
theorem dX1_readSitter_23 : decode cX1_readSitter 23 = .ok (.iconst 1, 1) := of_0 ok_iconst_1 (by decide +kernel)
theorem dX1_readSitter_24 : decode cX1_readSitter 24 = .ok (.invokevirtual 36, 3) := of_u2 ok_invokevirtual 0 36 (by decide +kernel)
theorem dX1_readSitter_27 : decode cX1_readSitter 27 = .ok (.ireturn, 1) := of_0 ok_ireturn (by decide +kernel)
theorem dX1_readSitter_28 : decode cX1_readSitter 28 = .ok (.aload_n 0, 1) := of_0 ok_aload_n_0 (by decide +kernel)
theorem dX1_readSitter_29 : decode cX1_readSitter 29 = .ok (.iconst 0, 1) := of_0 ok_iconst_0 (by decide +kernel)
theorem dX1_readSitter_30 : decode cX1_readSitter 30 = .ok (.aload_n 1, 1) := of_0 ok_aload_n_1 (by decide +kernel)
theorem dX1_readSitter_31 : decode cX1_readSitter 31 = .ok (.getfield 47, 3) := of_u2 ok_getfield 0 47 (by decide +kernel)
theorem dX1_readSitter_34 : decode cX1_readSitter 34 = .ok (.iconst 1, 1) := of_0 ok_iconst_1 (by decide +kernel)
theorem dX1_readSitter_35 : decode cX1_readSitter 35 = .ok (.isub, 1) := of_0 ok_isub (by decide +kernel)
theorem dX1_readSitter_36 : decode cX1_readSitter 36 = .ok (.invokevirtual 63, 3) := of_u2 ok_invokevirtual 0 63 (by decide +kernel)
theorem dX1_readSitter_39 : decode cX1_readSitter 39 = .ok (.istore_n 2, 1) := of_0 ok_istore_n_2 (by decide +kernel)
theorem dX1_readSitter_40 : decode cX1_readSitter 40 = .ok (.iload_n 2, 1) := of_0 ok_iload_n_2 (by decide +kernel)
theorem dX1_readSitter_41 : decode cX1_readSitter 41 = .ok (.iconst (-1), 1) := of_0 ok_iconst_m1 (by decide +kernel)
theorem dX1_readSitter_42 : decode cX1_readSitter 42 = .ok (.if_icmp .ne 5, 3) := of_s2 ok_if_icmp_ne 0 5 (by decide +kernel)
theorem dX1_readSitter_45 : decode cX1_readSitter 45 = .ok (.iconst 0, 1) := of_0 ok_iconst_0 (by decide +kernel)
theorem dX1_readSitter_46 : decode cX1_readSitter 46 = .ok (.ireturn, 1) := of_0 ok_ireturn (by decide +kernel)
theorem dX1_readSitter_47 : decode cX1_readSitter 47 = .ok (.aload_n 0, 1) := of_0 ok_aload_n_0 (by decide +kernel)
theorem dX1_readSitter_48 : decode cX1_readSitter 48 = .ok (.iconst 1, 1) := of_0 ok_iconst_1 (by decide +kernel)
theorem dX1_readSitter_49 : decode cX1_readSitter 49 = .ok (.bipush 20, 2) := of_s1 ok_bipush 20 (by decide +kernel)
theorem dX1_readSitter_51 : decode cX1_readSitter 51 = .ok (.invokevirtual 63, 3) := of_u2 ok_invokevirtual 0 63 (by decide +kernel)
theorem dX1_readSitter_54 : decode cX1_readSitter 54 = .ok (.istore_n 3, 1) := of_0 ok_istore_n_3 (by decide +kernel)
theorem dX1_readSitter_55 : decode cX1_readSitter 55 = .ok (.iload_n 3, 1) := of_0 ok_iload_n_3 (by decide +kernel)
theorem dX1_readSitter_56 : decode cX1_readSitter 56 = .ok (.iconst (-1), 1) := of_0 ok_iconst_m1 (by decide +kernel)
theorem dX1_readSitter_57 : decode cX1_readSitter 57 = .ok (.if_icmp .eq 12, 3) := of_s2 ok_if_icmp_eq 0 12 (by decide +kernel)
theorem dX1_readSitter_60 : decode cX1_readSitter 60 = .ok (.aload_n 1, 1) := of_0 ok_aload_n_1 (by decide +kernel)
theorem dX1_readSitter_61 : decode cX1_readSitter 61 = .ok (.getfield 84, 3) := of_u2 ok_getfield 0 84 (by decide +kernel)
theorem dX1_readSitter_64 : decode cX1_readSitter 64 = .ok (.bipush 8, 2) := of_s1 ok_bipush 8 (by decide +kernel)
theorem dX1_readSitter_66 : decode cX1_readSitter 66 = .ok (.if_icmp .lt 5, 3) := of_s2 ok_if_icmp_lt 0 5 (by decide +kernel)
theorem dX1_readSitter_69 : decode cX1_readSitter 69 = .ok (.iconst 0, 1) := of_0 ok_iconst_0 (by decide +kernel)
theorem dX1_readSitter_70 : decode cX1_readSitter 70 = .ok (.ireturn, 1) := of_0 ok_ireturn (by decide +kernel)
theorem dX1_readSitter_71 : decode cX1_readSitter 71 = .ok (.aload_n 1, 1) := of_0 ok_aload_n_1 (by decide +kernel)
theorem dX1_readSitter_72 : decode cX1_readSitter 72 = .ok (.getfield 87, 3) := of_u2 ok_getfield 0 87 (by decide +kernel)
theorem dX1_readSitter_75 : decode cX1_readSitter 75 = .ok (.aload_n 1, 1) := of_0 ok_aload_n_1 (by decide +kernel)
theorem dX1_readSitter_76 : decode cX1_readSitter 76 = .ok (.getfield 84, 3) := of_u2 ok_getfield 0 84 (by decide +kernel)
theorem dX1_readSitter_79 : decode cX1_readSitter 79 = .ok (.iload_n 2, 1) := of_0 ok_iload_n_2 (by decide +kernel)
theorem dX1_readSitter_80 : decode cX1_readSitter 80 = .ok (.iastore, 1) := of_0 ok_iastore (by decide +kernel)
theorem dX1_readSitter_81 : decode cX1_readSitter 81 = .ok (.aload_n 1, 1) := of_0 ok_aload_n_1 (by decide +kernel)
theorem dX1_readSitter_82 : decode cX1_readSitter 82 = .ok (.getfield 90, 3) := of_u2 ok_getfield 0 90 (by decide +kernel)
theorem dX1_readSitter_85 : decode cX1_readSitter 85 = .ok (.aload_n 1, 1) := of_0 ok_aload_n_1 (by decide +kernel)
theorem dX1_readSitter_86 : decode cX1_readSitter 86 = .ok (.getfield 84, 3) := of_u2 ok_getfield 0 84 (by decide +kernel)
theorem dX1_readSitter_89 : decode cX1_readSitter 89 = .ok (.iload_n 3, 1) := of_0 ok_iload_n_3 (by decide +kernel)
theorem dX1_readSitter_90 : decode cX1_readSitter 90 = .ok (.iastore, 1) := of_0 ok_iastore (by decide +kernel)
theorem dX1_readSitter_91 : decode cX1_readSitter 91 = .ok (.aload_n 1, 1) := of_0 ok_aload_n_1 (by decide +kernel)
theorem dX1_readSitter_92 : decode cX1_readSitter 92 = .ok (.dup, 1) := of_0 ok_dup (by decide +kernel)
theorem dX1_readSitter_93 : decode cX1_readSitter 93 = .ok (.getfield 84, 3) := of_u2 ok_getfield 0 84 (by decide +kernel)
theorem dX1_readSitter_96 : decode cX1_readSitter 96 = .ok (.iconst 1, 1) := of_0 ok_iconst_1 (by decide +kernel)
theorem dX1_readSitter_97 : decode cX1_readSitter 97 = .ok (.iadd, 1) := of_0 ok_iadd (by decide +kernel)
theorem dX1_readSitter_98 : decode cX1_readSitter 98 = .ok (.putfield 84, 3) := of_u2 ok_putfield 0 84 (by decide +kernel)
theorem dX1_readSitter_101 : decode cX1_readSitter 101 = .ok (.iconst 1, 1) := of_0 ok_iconst_1 (by decide +kernel)
theorem dX1_readSitter_102 : decode cX1_readSitter 102 = .ok (.ireturn, 1) := of_0 ok_ireturn (by decide +kernel)
theorem dX1_readStrand_0 : decode cX1_readStrand 0 = .ok (.aload_n 0, 1) := of_0 ok_aload_n_0 (by decide +kernel)
theorem dX1_readStrand_1 : decode cX1_readStrand 1 = .ok (.iconst 0, 1) := of_0 ok_iconst_0 (by decide +kernel)
theorem dX1_readStrand_2 : decode cX1_readStrand 2 = .ok (.bipush 99, 2) := of_s1 ok_bipush 99 (by decide +kernel)
theorem dX1_readStrand_4 : decode cX1_readStrand 4 = .ok (.invokevirtual 63, 3) := of_u2 ok_invokevirtual 0 63 (by decide +kernel)
theorem dX1_readStrand_7 : decode cX1_readStrand 7 = .ok (.istore_n 2, 1) := of_0 ok_istore_n_2 (by decide +kernel)
theorem dX1_readStrand_8 : decode cX1_readStrand 8 = .ok (.iload_n 2, 1) := of_0 ok_iload_n_2 (by decide +kernel)
theorem dX1_readStrand_9 : decode cX1_readStrand 9 = .ok (.iconst (-1), 1) := of_0 ok_iconst_m1 (by decide +kernel)
theorem dX1_readStrand_10 : decode cX1_readStrand 10 = .ok (.if_icmp .eq 11, 3) := of_s2 ok_if_icmp_eq 0 11 (by decide +kernel)
theorem dX1_readStrand_13 : decode cX1_readStrand 13 = .ok (.aload_n 1, 1) := of_0 ok_aload_n_1 (by decide +kernel)
theorem dX1_readStrand_14 : decode cX1_readStrand 14 = .ok (.getfield 43, 3) := of_u2 ok_getfield 0 43 (by decide +kernel)
theorem dX1_readStrand_17 : decode cX1_readStrand 17 = .ok (.iconst 4, 1) := of_0 ok_iconst_4 (by decide +kernel)
theorem dX1_readStrand_18 : decode cX1_readStrand 18 = .ok (.if_icmp .lt 5, 3) := of_s2 ok_if_icmp_lt 0 5 (by decide +kernel)
theorem dX1_readStrand_21 : decode cX1_readStrand 21 = .ok (.iconst 0, 1) := of_0 ok_iconst_0 (by decide +kernel)
theorem dX1_readStrand_22 : decode cX1_readStrand 22 = .ok (.ireturn, 1) := of_0 ok_ireturn (by decide +kernel)
theorem dX1_readStrand_23 : decode cX1_readStrand 23 = .ok (.aload_n 1, 1) := of_0 ok_aload_n_1 (by decide +kernel)
theorem dX1_readStrand_24 : decode cX1_readStrand 24 = .ok (.getfield 67, 3) := of_u2 ok_getfield 0 67 (by decide +kernel)
theorem dX1_readStrand_27 : decode cX1_readStrand 27 = .ok (.aload_n 1, 1) := of_0 ok_aload_n_1 (by decide +kernel)
theorem dX1_readStrand_28 : decode cX1_readStrand 28 = .ok (.getfield 43, 3) := of_u2 ok_getfield 0 43 (by decide +kernel)
theorem dX1_readStrand_31 : decode cX1_readStrand 31 = .ok (.iload_n 2, 1) := of_0 ok_iload_n_2 (by decide +kernel)
theorem dX1_readStrand_32 : decode cX1_readStrand 32 = .ok (.iastore, 1) := of_0 ok_iastore (by decide +kernel)
theorem dX1_readStrand_33 : decode cX1_readStrand 33 = .ok (.aload_n 1, 1) := of_0 ok_aload_n_1 (by decide +kernel)
theorem dX1_readStrand_34 : decode cX1_readStrand 34 = .ok (.dup, 1) := of_0 ok_dup (by decide +kernel)
theorem dX1_readStrand_35 : decode cX1_readStrand 35 = .ok (.getfield 43, 3) := of_u2 ok_getfield 0 43 (by decide +kernel)
theorem dX1_readStrand_38 : decode cX1_readStrand 38 = .ok (.iconst 1, 1) := of_0 ok_iconst_1 (by decide +kernel)
theorem dX1_readStrand_39 : decode cX1_readStrand 39 = .ok (.iadd, 1) := of_0 ok_iadd (by decide +kernel)
theorem dX1_readStrand_40 : decode cX1_readStrand 40 = .ok (.putfield 43, 3) := of_u2 ok_putfield 0 43 (by decide +kernel)
theorem dX1_readStrand_43 : decode cX1_readStrand 43 = .ok (.iconst 1, 1) := of_0 ok_iconst_1 (by decide +kernel)
theorem dX1_readStrand_44 : decode cX1_readStrand 44 = .ok (.ireturn, 1) := of_0 ok_ireturn (by decide +kernel)
theorem dX5_openClause_0 : decode cX5_openClause 0 = .ok (.aload_n 0, 1) := of_0 ok_aload_n_0 (by decide +kernel)
theorem dX5_openClause_1 : decode cX5_openClause 1 = .ok (.invokevirtual 45, 3) := of_u2 ok_invokevirtual 0 45 (by decide +kernel)
theorem dX5_openClause_4 : decode cX5_openClause 4 = .ok (.sipush 273, 3) := of_s2 ok_sipush 1 17 (by decide +kernel)
theorem dX5_openClause_7 : decode cX5_openClause 7 = .ok (.if_icmp .eq 9, 3) := of_s2 ok_if_icmp_eq 0 9 (by decide +kernel)
theorem dX5_openClause_10 : decode cX5_openClause 10 = .ok (.aload_n 0, 1) := of_0 ok_aload_n_0 (by decide +kernel)
theorem dX5_openClause_11 : decode cX5_openClause 11 = .ok (.iconst 0, 1) := of_0 ok_iconst_0 (by decide +kernel)
theorem dX5_openClause_12 : decode cX5_openClause 12 = .ok (.invokevirtual 49, 3) := of_u2 ok_invokevirtual 0 49 (by decide +kernel)
theorem dX5_openClause_15 : decode cX5_openClause 15 = .ok (.ireturn, 1) := of_0 ok_ireturn (by decide +kernel)
theorem dX5_openClause_16 : decode cX5_openClause 16 = .ok (.iload_n 1, 1) := of_0 ok_iload_n_1 (by decide +kernel)
theorem dX5_openClause_17 : decode cX5_openClause 17 = .ok (.bipush 12, 2) := of_s1 ok_bipush 12 (by decide +kernel)
theorem dX5_openClause_19 : decode cX5_openClause 19 = .ok (.if_icmp .lt 9, 3) := of_s2 ok_if_icmp_lt 0 9 (by decide +kernel)
theorem dX5_openClause_22 : decode cX5_openClause 22 = .ok (.aload_n 0, 1) := of_0 ok_aload_n_0 (by decide +kernel)
theorem dX5_openClause_23 : decode cX5_openClause 23 = .ok (.iconst 4, 1) := of_0 ok_iconst_4 (by decide +kernel)
theorem dX5_openClause_24 : decode cX5_openClause 24 = .ok (.invokevirtual 49, 3) := of_u2 ok_invokevirtual 0 49 (by decide +kernel)
theorem dX5_openClause_27 : decode cX5_openClause 27 = .ok (.ireturn, 1) := of_0 ok_ireturn (by decide +kernel)
theorem dX5_openClause_28 : decode cX5_openClause 28 = .ok (.aload_n 0, 1) := of_0 ok_aload_n_0 (by decide +kernel)
theorem dX5_openClause_29 : decode cX5_openClause 29 = .ok (.invokevirtual 52, 3) := of_u2 ok_invokevirtual 0 52 (by decide +kernel)
theorem dX5_openClause_32 : decode cX5_openClause 32 = .ok (.iconst 1, 1) := of_0 ok_iconst_1 (by decide +kernel)
theorem dX5_openClause_33 : decode cX5_openClause 33 = .ok (.ireturn, 1) := of_0 ok_ireturn (by decide +kernel)
theorem dX5_read_0 : decode cX5_read 0 = .ok (.aload_n 0, 1) := of_0 ok_aload_n_0 (by decide +kernel)
theorem dX5_read_1 : decode cX5_read 1 = .ok (.invokevirtual 9, 3) := of_u2 ok_invokevirtual 0 9 (by decide +kernel)
theorem dX5_read_4 : decode cX5_read 4 = .ok (.aload_n 1, 1) := of_0 ok_aload_n_1 (by decide +kernel)
theorem dX5_read_5 : decode cX5_read 5 = .ok (.invokevirtual 14, 3) := of_u2 ok_invokevirtual 0 14 (by decide +kernel)
theorem dX5_read_8 : decode cX5_read 8 = .ok (.iconst 0, 1) := of_0 ok_iconst_0 (by decide +kernel)
theorem dX5_read_9 : decode cX5_read 9 = .ok (.istore_n 2, 1) := of_0 ok_istore_n_2 (by decide +kernel)
theorem dX5_read_10 : decode cX5_read 10 = .ok (.iload_n 2, 1) := of_0 ok_iload_n_2 (by decide +kernel)
theorem dX5_read_11 : decode cX5_read 11 = .ok (.bipush 12, 2) := of_s1 ok_bipush 12 (by decide +kernel)
theorem dX5_read_13 : decode cX5_read 13 = .ok (.if_icmp .gt 91, 3) := of_s2 ok_if_icmp_gt 0 91 (by decide +kernel)
theorem dX5_read_16 : decode cX5_read 16 = .ok (.aload_n 1, 1) := of_0 ok_aload_n_1 (by decide +kernel)
theorem dX5_read_17 : decode cX5_read 17 = .ok (.getfield 19, 3) := of_u2 ok_getfield 0 19 (by decide +kernel)
theorem dX5_read_20 : decode cX5_read 20 = .ok (.istore_n 3, 1) := of_0 ok_istore_n_3 (by decide +kernel)
theorem dX5_read_21 : decode cX5_read 21 = .ok (.aload_n 0, 1) := of_0 ok_aload_n_0 (by decide +kernel)
theorem dX5_read_22 : decode cX5_read 22 = .ok (.iload_n 2, 1) := of_0 ok_iload_n_2 (by decide +kernel)
theorem dX5_read_23 : decode cX5_read 23 = .ok (.invokestatic 23, 3) := of_u2 ok_invokestatic 0 23 (by decide +kernel)
theorem dX5_read_26 : decode cX5_read 26 = .ok (.ifCond .eq 11, 3) := of_s2 ok_ifCond_eq 0 11 (by decide +kernel)
theorem dX5_read_29 : decode cX5_read 29 = .ok (.aload_n 0, 1) := of_0 ok_aload_n_0 (by decide +kernel)
theorem dX5_read_30 : decode cX5_read 30 = .ok (.aload_n 1, 1) := of_0 ok_aload_n_1 (by decide +kernel)
theorem dX5_read_31 : decode cX5_read 31 = .ok (.invokestatic 29, 3) := of_u2 ok_invokestatic 0 29 (by decide +kernel)
theorem dX5_read_34 : decode cX5_read 34 = .ok (.ifCond .ne 5, 3) := of_s2 ok_ifCond_ne 0 5 (by decide +kernel)
theorem dX5_read_37 : decode cX5_read 37 = .ok (.iconst 0, 1) := of_0 ok_iconst_0 (by decide +kernel)
theorem dX5_read_38 : decode cX5_read 38 = .ok (.ireturn, 1) := of_0 ok_ireturn (by decide +kernel)
theorem dX5_read_39 : decode cX5_read 39 = .ok (.aload_n 1, 1) := of_0 ok_aload_n_1 (by decide +kernel)
theorem dX5_read_40 : decode cX5_read 40 = .ok (.getfield 19, 3) := of_u2 ok_getfield 0 19 (by decide +kernel)
theorem dX5_read_43 : decode cX5_read 43 = .ok (.istore 4, 2) := of_u1 ok_istore (by decide +kernel)
theorem dX5_read_45 : decode cX5_read 45 = .ok (.aload_n 0, 1) := of_0 ok_aload_n_0 (by decide +kernel)
theorem dX5_read_46 : decode cX5_read 46 = .ok (.sipush 274, 3) := of_s2 ok_sipush 1 18 (by decide +kernel)
theorem dX5_read_49 : decode cX5_read 49 = .ok (.invokevirtual 33, 3) := of_u2 ok_invokevirtual 0 33 (by decide +kernel)
theorem dX5_read_52 : decode cX5_read 52 = .ok (.ifCond .eq 14, 3) := of_s2 ok_ifCond_eq 0 14 (by decide +kernel)
theorem dX5_read_55 : decode cX5_read 55 = .ok (.aload_n 0, 1) := of_0 ok_aload_n_0 (by decide +kernel)
theorem dX5_read_56 : decode cX5_read 56 = .ok (.aload_n 1, 1) := of_0 ok_aload_n_1 (by decide +kernel)
theorem dX5_read_57 : decode cX5_read 57 = .ok (.iconst 0, 1) := of_0 ok_iconst_0 (by decide +kernel)
theorem dX5_read_58 : decode cX5_read 58 = .ok (.invokestatic 37, 3) := of_u2 ok_invokestatic 0 37 (by decide +kernel)
theorem dX5_read_61 : decode cX5_read 61 = .ok (.ifCond .ne 5, 3) := of_s2 ok_ifCond_ne 0 5 (by decide +kernel)
theorem dX5_read_64 : decode cX5_read 64 = .ok (.iconst 0, 1) := of_0 ok_iconst_0 (by decide +kernel)
theorem dX5_read_65 : decode cX5_read 65 = .ok (.ireturn, 1) := of_0 ok_ireturn (by decide +kernel)
theorem dX5_read_66 : decode cX5_read 66 = .ok (.aload_n 1, 1) := of_0 ok_aload_n_1 (by decide +kernel)
theorem dX5_read_67 : decode cX5_read 67 = .ok (.iload_n 3, 1) := of_0 ok_iload_n_3 (by decide +kernel)
theorem dX5_read_68 : decode cX5_read 68 = .ok (.iload 4, 2) := of_u1 ok_iload (by decide +kernel)
theorem dX5_read_70 : decode cX5_read 70 = .ok (.invokevirtual 41, 3) := of_u2 ok_invokevirtual 0 41 (by decide +kernel)
theorem dX5_read_73 : decode cX5_read 73 = .ok (.aload_n 0, 1) := of_0 ok_aload_n_0 (by decide +kernel)
theorem dX5_read_74 : decode cX5_read 74 = .ok (.invokevirtual 45, 3) := of_u2 ok_invokevirtual 0 45 (by decide +kernel)
theorem dX5_read_77 : decode cX5_read 77 = .ok (.iconst (-1), 1) := of_0 ok_iconst_m1 (by decide +kernel)
theorem dX5_read_78 : decode cX5_read 78 = .ok (.if_icmp .ne 5, 3) := of_s2 ok_if_icmp_ne 0 5 (by decide +kernel)
theorem dX5_read_81 : decode cX5_read 81 = .ok (.iconst 1, 1) := of_0 ok_iconst_1 (by decide +kernel)
theorem dX5_read_82 : decode cX5_read 82 = .ok (.ireturn, 1) := of_0 ok_ireturn (by decide +kernel)
theorem dX5_read_83 : decode cX5_read 83 = .ok (.aload_n 0, 1) := of_0 ok_aload_n_0 (by decide +kernel)
theorem dX5_read_84 : decode cX5_read 84 = .ok (.bipush 59, 2) := of_s1 ok_bipush 59 (by decide +kernel)
theorem dX5_read_86 : decode cX5_read 86 = .ok (.invokevirtual 33, 3) := of_u2 ok_invokevirtual 0 33 (by decide +kernel)
theorem dX5_read_89 : decode cX5_read 89 = .ok (.ifCond .ne 9, 3) := of_s2 ok_ifCond_ne 0 9 (by decide +kernel)
theorem dX5_read_92 : decode cX5_read 92 = .ok (.aload_n 0, 1) := of_0 ok_aload_n_0 (by decide +kernel)
theorem dX5_read_93 : decode cX5_read 93 = .ok (.iconst 0, 1) := of_0 ok_iconst_0 (by decide +kernel)
theorem dX5_read_94 : decode cX5_read 94 = .ok (.invokevirtual 49, 3) := of_u2 ok_invokevirtual 0 49 (by decide +kernel)
theorem dX5_read_97 : decode cX5_read 97 = .ok (.ireturn, 1) := of_0 ok_ireturn (by decide +kernel)
theorem dX5_read_98 : decode cX5_read 98 = .ok (.iinc 2 1, 3) := of_ii ok_iinc 1 (by decide +kernel)
theorem dX5_read_101 : decode cX5_read 101 = .ok (.goto (-91), 3) := of_s2 ok_goto 255 165 (by decide +kernel)
theorem dX5_read_104 : decode cX5_read 104 = .ok (.iconst 0, 1) := of_0 ok_iconst_0 (by decide +kernel)
theorem dX5_read_105 : decode cX5_read 105 = .ok (.ireturn, 1) := of_0 ok_ireturn (by decide +kernel)
theorem dX5_readComparison_0 : decode cX5_readComparison 0 = .ok (.aload_n 0, 1) := of_0 ok_aload_n_0 (by decide +kernel)
theorem dX5_readComparison_1 : decode cX5_readComparison 1 = .ok (.aload_n 1, 1) := of_0 ok_aload_n_1 (by decide +kernel)
theorem dX5_readComparison_2 : decode cX5_readComparison 2 = .ok (.invokestatic 29, 3) := of_u2 ok_invokestatic 0 29 (by decide +kernel)
theorem dX5_readComparison_5 : decode cX5_readComparison 5 = .ok (.ifCond .ne 5, 3) := of_s2 ok_ifCond_ne 0 5 (by decide +kernel)
theorem dX5_readComparison_8 : decode cX5_readComparison 8 = .ok (.iconst 0, 1) := of_0 ok_iconst_0 (by decide +kernel)
theorem dX5_readComparison_9 : decode cX5_readComparison 9 = .ok (.ireturn, 1) := of_0 ok_ireturn (by decide +kernel)
theorem dX5_readComparison_10 : decode cX5_readComparison 10 = .ok (.aload_n 0, 1) := of_0 ok_aload_n_0 (by decide +kernel)
theorem dX5_readComparison_11 : decode cX5_readComparison 11 = .ok (.invokevirtual 45, 3) := of_u2 ok_invokevirtual 0 45 (by decide +kernel)
theorem dX5_readComparison_14 : decode cX5_readComparison 14 = .ok (.istore_n 2, 1) := of_0 ok_istore_n_2 (by decide +kernel)
theorem dX5_readComparison_15 : decode cX5_readComparison 15 = .ok (.iload_n 2, 1) := of_0 ok_iload_n_2 (by decide +kernel)
theorem dX5_readComparison_16 : decode cX5_readComparison 16 = .ok (.bipush 60, 2) := of_s1 ok_bipush 60 (by decide +kernel)
theorem dX5_readComparison_18 : decode cX5_readComparison 18 = .ok (.if_icmp .eq 35, 3) := of_s2 ok_if_icmp_eq 0 35 (by decide +kernel)
theorem dX5_readComparison_21 : decode cX5_readComparison 21 = .ok (.iload_n 2, 1) := of_0 ok_iload_n_2 (by decide +kernel)
theorem dX5_readComparison_22 : decode cX5_readComparison 22 = .ok (.sipush 256, 3) := of_s2 ok_sipush 1 0 (by decide +kernel)
theorem dX5_readComparison_25 : decode cX5_readComparison 25 = .ok (.if_icmp .eq 28, 3) := of_s2 ok_if_icmp_eq 0 28 (by decide +kernel)
theorem dX5_readComparison_28 : decode cX5_readComparison 28 = .ok (.iload_n 2, 1) := of_0 ok_iload_n_2 (by decide +kernel)
theorem dX5_readComparison_29 : decode cX5_readComparison 29 = .ok (.bipush 61, 2) := of_s1 ok_bipush 61 (by decide +kernel)
theorem dX5_readComparison_31 : decode cX5_readComparison 31 = .ok (.if_icmp .eq 22, 3) := of_s2 ok_if_icmp_eq 0 22 (by decide +kernel)
theorem dX5_readComparison_34 : decode cX5_readComparison 34 = .ok (.iload_n 2, 1) := of_0 ok_iload_n_2 (by decide +kernel)
theorem dX5_readComparison_35 : decode cX5_readComparison 35 = .ok (.sipush 257, 3) := of_s2 ok_sipush 1 1 (by decide +kernel)
theorem dX5_readComparison_38 : decode cX5_readComparison 38 = .ok (.if_icmp .eq 15, 3) := of_s2 ok_if_icmp_eq 0 15 (by decide +kernel)
theorem dX5_readComparison_41 : decode cX5_readComparison 41 = .ok (.iload_n 2, 1) := of_0 ok_iload_n_2 (by decide +kernel)
theorem dX5_readComparison_42 : decode cX5_readComparison 42 = .ok (.bipush 62, 2) := of_s1 ok_bipush 62 (by decide +kernel)
theorem dX5_readComparison_44 : decode cX5_readComparison 44 = .ok (.if_icmp .eq 9, 3) := of_s2 ok_if_icmp_eq 0 9 (by decide +kernel)
theorem dX5_readComparison_47 : decode cX5_readComparison 47 = .ok (.aload_n 0, 1) := of_0 ok_aload_n_0 (by decide +kernel)
theorem dX5_readComparison_48 : decode cX5_readComparison 48 = .ok (.iconst 0, 1) := of_0 ok_iconst_0 (by decide +kernel)
theorem dX5_readComparison_49 : decode cX5_readComparison 49 = .ok (.invokevirtual 49, 3) := of_u2 ok_invokevirtual 0 49 (by decide +kernel)
theorem dX5_readComparison_52 : decode cX5_readComparison 52 = .ok (.ireturn, 1) := of_0 ok_ireturn (by decide +kernel)
theorem dX5_readComparison_53 : decode cX5_readComparison 53 = .ok (.aload_n 1, 1) := of_0 ok_aload_n_1 (by decide +kernel)
theorem dX5_readComparison_54 : decode cX5_readComparison 54 = .ok (.getfield 65, 3) := of_u2 ok_getfield 0 65 (by decide +kernel)
theorem dX5_readComparison_57 : decode cX5_readComparison 57 = .ok (.bipush 60, 2) := of_s1 ok_bipush 60 (by decide +kernel)
theorem dX5_readComparison_59 : decode cX5_readComparison 59 = .ok (.if_icmp .lt 9, 3) := of_s2 ok_if_icmp_lt 0 9 (by decide +kernel)
theorem dX5_readComparison_62 : decode cX5_readComparison 62 = .ok (.aload_n 0, 1) := of_0 ok_aload_n_0 (by decide +kernel)
theorem dX5_readComparison_63 : decode cX5_readComparison 63 = .ok (.iconst 3, 1) := of_0 ok_iconst_3 (by decide +kernel)
theorem dX5_readComparison_64 : decode cX5_readComparison 64 = .ok (.invokevirtual 49, 3) := of_u2 ok_invokevirtual 0 49 (by decide +kernel)
theorem dX5_readComparison_67 : decode cX5_readComparison 67 = .ok (.ireturn, 1) := of_0 ok_ireturn (by decide +kernel)
theorem dX5_readComparison_68 : decode cX5_readComparison 68 = .ok (.aload_n 1, 1) := of_0 ok_aload_n_1 (by decide +kernel)
theorem dX5_readComparison_69 : decode cX5_readComparison 69 = .ok (.dup, 1) := of_0 ok_dup (by decide +kernel)
theorem dX5_readComparison_70 : decode cX5_readComparison 70 = .ok (.getfield 65, 3) := of_u2 ok_getfield 0 65 (by decide +kernel)
theorem dX5_readComparison_73 : decode cX5_readComparison 73 = .ok (.iconst 1, 1) := of_0 ok_iconst_1 (by decide +kernel)
theorem dX5_readComparison_74 : decode cX5_readComparison 74 = .ok (.iadd, 1) := of_0 ok_iadd (by decide +kernel)
theorem dX5_readComparison_75 : decode cX5_readComparison 75 = .ok (.putfield 65, 3) := of_u2 ok_putfield 0 65 (by decide +kernel)
theorem dX5_readComparison_78 : decode cX5_readComparison 78 = .ok (.aload_n 0, 1) := of_0 ok_aload_n_0 (by decide +kernel)
theorem dX5_readComparison_79 : decode cX5_readComparison 79 = .ok (.invokevirtual 52, 3) := of_u2 ok_invokevirtual 0 52 (by decide +kernel)
theorem dX5_readComparison_82 : decode cX5_readComparison 82 = .ok (.aload_n 0, 1) := of_0 ok_aload_n_0 (by decide +kernel)
theorem dX5_readComparison_83 : decode cX5_readComparison 83 = .ok (.aload_n 1, 1) := of_0 ok_aload_n_1 (by decide +kernel)
theorem dX5_readComparison_84 : decode cX5_readComparison 84 = .ok (.invokestatic 29, 3) := of_u2 ok_invokestatic 0 29 (by decide +kernel)
theorem dX5_readComparison_87 : decode cX5_readComparison 87 = .ok (.ifCond .ne 5, 3) := of_s2 ok_ifCond_ne 0 5 (by decide +kernel)
theorem dX5_readComparison_90 : decode cX5_readComparison 90 = .ok (.iconst 0, 1) := of_0 ok_iconst_0 (by decide +kernel)
theorem dX5_readComparison_91 : decode cX5_readComparison 91 = .ok (.ireturn, 1) := of_0 ok_ireturn (by decide +kernel)
theorem dX5_readComparison_92 : decode cX5_readComparison 92 = .ok (.aload_n 1, 1) := of_0 ok_aload_n_1 (by decide +kernel)
theorem dX5_readComparison_93 : decode cX5_readComparison 93 = .ok (.iload_n 2, 1) := of_0 ok_iload_n_2 (by decide +kernel)
theorem dX5_readComparison_94 : decode cX5_readComparison 94 = .ok (.invokevirtual 58, 3) := of_u2 ok_invokevirtual 0 58 (by decide +kernel)
theorem dX5_readComparison_97 : decode cX5_readComparison 97 = .ok (.iconst 1, 1) := of_0 ok_iconst_1 (by decide +kernel)
theorem dX5_readComparison_98 : decode cX5_readComparison 98 = .ok (.ireturn, 1) := of_0 ok_ireturn (by decide +kernel)
theorem dX5_readFact_0 : decode cX5_readFact 0 = .ok (.aload_n 0, 1) := of_0 ok_aload_n_0 (by decide +kernel)
theorem dX5_readFact_1 : decode cX5_readFact 1 = .ok (.invokevirtual 45, 3) := of_u2 ok_invokevirtual 0 45 (by decide +kernel)
theorem dX5_readFact_4 : decode cX5_readFact 4 = .ok (.istore_n 3, 1) := of_0 ok_istore_n_3 (by decide +kernel)
theorem dX5_readFact_5 : decode cX5_readFact 5 = .ok (.iload_n 3, 1) := of_0 ok_iload_n_3 (by decide +kernel)
theorem dX5_readFact_6 : decode cX5_readFact 6 = .ok (.bipush 91, 2) := of_s1 ok_bipush 91 (by decide +kernel)
theorem dX5_readFact_8 : decode cX5_readFact 8 = .ok (.if_icmp .eq 16, 3) := of_s2 ok_if_icmp_eq 0 16 (by decide +kernel)
theorem dX5_readFact_11 : decode cX5_readFact 11 = .ok (.iload_n 3, 1) := of_0 ok_iload_n_3 (by decide +kernel)
theorem dX5_readFact_12 : decode cX5_readFact 12 = .ok (.sipush 277, 3) := of_s2 ok_sipush 1 21 (by decide +kernel)
theorem dX5_readFact_15 : decode cX5_readFact 15 = .ok (.if_icmp .eq 9, 3) := of_s2 ok_if_icmp_eq 0 9 (by decide +kernel)
theorem dX5_readFact_18 : decode cX5_readFact 18 = .ok (.aload_n 0, 1) := of_0 ok_aload_n_0 (by decide +kernel)
theorem dX5_readFact_19 : decode cX5_readFact 19 = .ok (.aload_n 1, 1) := of_0 ok_aload_n_1 (by decide +kernel)
theorem dX5_readFact_20 : decode cX5_readFact 20 = .ok (.invokestatic 62, 3) := of_u2 ok_invokestatic 0 62 (by decide +kernel)
theorem dX5_readFact_23 : decode cX5_readFact 23 = .ok (.ireturn, 1) := of_0 ok_ireturn (by decide +kernel)
theorem dX5_readFact_24 : decode cX5_readFact 24 = .ok (.iload_n 2, 1) := of_0 ok_iload_n_2 (by decide +kernel)
theorem dX5_readFact_25 : decode cX5_readFact 25 = .ok (.bipush 10, 2) := of_s1 ok_bipush 10 (by decide +kernel)
theorem dX5_readFact_27 : decode cX5_readFact 27 = .ok (.if_icmp .lt 9, 3) := of_s2 ok_if_icmp_lt 0 9 (by decide +kernel)
theorem dX5_readFact_30 : decode cX5_readFact 30 = .ok (.aload_n 0, 1) := of_0 ok_aload_n_0 (by decide +kernel)
theorem dX5_readFact_31 : decode cX5_readFact 31 = .ok (.iconst 2, 1) := of_0 ok_iconst_2 (by decide +kernel)
theorem dX5_readFact_32 : decode cX5_readFact 32 = .ok (.invokevirtual 49, 3) := of_u2 ok_invokevirtual 0 49 (by decide +kernel)
theorem dX5_readFact_35 : decode cX5_readFact 35 = .ok (.ireturn, 1) := of_0 ok_ireturn (by decide +kernel)
theorem dX5_readFact_36 : decode cX5_readFact 36 = .ok (.aload_n 0, 1) := of_0 ok_aload_n_0 (by decide +kernel)
theorem dX5_readFact_37 : decode cX5_readFact 37 = .ok (.invokevirtual 52, 3) := of_u2 ok_invokevirtual 0 52 (by decide +kernel)
theorem dX5_readFact_40 : decode cX5_readFact 40 = .ok (.iload_n 3, 1) := of_0 ok_iload_n_3 (by decide +kernel)
theorem dX5_readFact_41 : decode cX5_readFact 41 = .ok (.bipush 91, 2) := of_s1 ok_bipush 91 (by decide +kernel)
theorem dX5_readFact_43 : decode cX5_readFact 43 = .ok (.if_icmp .ne 37, 3) := of_s2 ok_if_icmp_ne 0 37 (by decide +kernel)
theorem dX5_readFact_46 : decode cX5_readFact 46 = .ok (.aload_n 0, 1) := of_0 ok_aload_n_0 (by decide +kernel)
theorem dX5_readFact_47 : decode cX5_readFact 47 = .ok (.aload_n 1, 1) := of_0 ok_aload_n_1 (by decide +kernel)
theorem dX5_readFact_48 : decode cX5_readFact 48 = .ok (.iload_n 2, 1) := of_0 ok_iload_n_2 (by decide +kernel)
theorem dX5_readFact_49 : decode cX5_readFact 49 = .ok (.iconst 1, 1) := of_0 ok_iconst_1 (by decide +kernel)
theorem dX5_readFact_50 : decode cX5_readFact 50 = .ok (.iadd, 1) := of_0 ok_iadd (by decide +kernel)
theorem dX5_readFact_51 : decode cX5_readFact 51 = .ok (.invokestatic 37, 3) := of_u2 ok_invokestatic 0 37 (by decide +kernel)
theorem dX5_readFact_54 : decode cX5_readFact 54 = .ok (.ifCond .eq 24, 3) := of_s2 ok_ifCond_eq 0 24 (by decide +kernel)
theorem dX5_readFact_57 : decode cX5_readFact 57 = .ok (.aload_n 0, 1) := of_0 ok_aload_n_0 (by decide +kernel)
theorem dX5_readFact_58 : decode cX5_readFact 58 = .ok (.bipush 93, 2) := of_s1 ok_bipush 93 (by decide +kernel)
theorem dX5_readFact_60 : decode cX5_readFact 60 = .ok (.invokevirtual 33, 3) := of_u2 ok_invokevirtual 0 33 (by decide +kernel)
theorem dX5_readFact_63 : decode cX5_readFact 63 = .ok (.ifCond .ne 11, 3) := of_s2 ok_ifCond_ne 0 11 (by decide +kernel)
theorem dX5_readFact_66 : decode cX5_readFact 66 = .ok (.aload_n 0, 1) := of_0 ok_aload_n_0 (by decide +kernel)
theorem dX5_readFact_67 : decode cX5_readFact 67 = .ok (.iconst 0, 1) := of_0 ok_iconst_0 (by decide +kernel)
theorem dX5_readFact_68 : decode cX5_readFact 68 = .ok (.invokevirtual 49, 3) := of_u2 ok_invokevirtual 0 49 (by decide +kernel)
theorem dX5_readFact_71 : decode cX5_readFact 71 = .ok (.ifCond .eq 7, 3) := of_s2 ok_ifCond_eq 0 7 (by decide +kernel)
theorem dX5_readFact_74 : decode cX5_readFact 74 = .ok (.iconst 1, 1) := of_0 ok_iconst_1 (by decide +kernel)
theorem dX5_readFact_75 : decode cX5_readFact 75 = .ok (.goto 4, 3) := of_s2 ok_goto 0 4 (by decide +kernel)
theorem dX5_readFact_78 : decode cX5_readFact 78 = .ok (.iconst 0, 1) := of_0 ok_iconst_0 (by decide +kernel)
theorem dX5_readFact_79 : decode cX5_readFact 79 = .ok (.ireturn, 1) := of_0 ok_ireturn (by decide +kernel)
theorem dX5_readFact_80 : decode cX5_readFact 80 = .ok (.aload_n 0, 1) := of_0 ok_aload_n_0 (by decide +kernel)
theorem dX5_readFact_81 : decode cX5_readFact 81 = .ok (.aload_n 1, 1) := of_0 ok_aload_n_1 (by decide +kernel)
theorem dX5_readFact_82 : decode cX5_readFact 82 = .ok (.iload_n 2, 1) := of_0 ok_iload_n_2 (by decide +kernel)
theorem dX5_readFact_83 : decode cX5_readFact 83 = .ok (.iconst 1, 1) := of_0 ok_iconst_1 (by decide +kernel)
theorem dX5_readFact_84 : decode cX5_readFact 84 = .ok (.iadd, 1) := of_0 ok_iadd (by decide +kernel)
theorem dX5_readFact_85 : decode cX5_readFact 85 = .ok (.invokestatic 55, 3) := of_u2 ok_invokestatic 0 55 (by decide +kernel)
theorem dX5_readFact_88 : decode cX5_readFact 88 = .ok (.ifCond .ne 5, 3) := of_s2 ok_ifCond_ne 0 5 (by decide +kernel)
theorem dX5_readFact_91 : decode cX5_readFact 91 = .ok (.iconst 0, 1) := of_0 ok_iconst_0 (by decide +kernel)
theorem dX5_readFact_92 : decode cX5_readFact 92 = .ok (.ireturn, 1) := of_0 ok_ireturn (by decide +kernel)
theorem dX5_readFact_93 : decode cX5_readFact 93 = .ok (.aload_n 1, 1) := of_0 ok_aload_n_1 (by decide +kernel)
theorem dX5_readFact_94 : decode cX5_readFact 94 = .ok (.sipush 277, 3) := of_s2 ok_sipush 1 21 (by decide +kernel)
theorem dX5_readFact_97 : decode cX5_readFact 97 = .ok (.invokevirtual 58, 3) := of_u2 ok_invokevirtual 0 58 (by decide +kernel)
theorem dX5_readFact_100 : decode cX5_readFact 100 = .ok (.iconst 1, 1) := of_0 ok_iconst_1 (by decide +kernel)
theorem dX5_readFact_101 : decode cX5_readFact 101 = .ok (.ireturn, 1) := of_0 ok_ireturn (by decide +kernel)
theorem dX5_readSum_0 : decode cX5_readSum 0 = .ok (.iconst (-1), 1) := of_0 ok_iconst_m1 (by decide +kernel)
theorem dX5_readSum_1 : decode cX5_readSum 1 = .ok (.istore_n 2, 1) := of_0 ok_istore_n_2 (by decide +kernel)
theorem dX5_readSum_2 : decode cX5_readSum 2 = .ok (.iconst (-1), 1) := of_0 ok_iconst_m1 (by decide +kernel)
theorem dX5_readSum_3 : decode cX5_readSum 3 = .ok (.istore_n 3, 1) := of_0 ok_istore_n_3 (by decide +kernel)
theorem dX5_readSum_4 : decode cX5_readSum 4 = .ok (.iconst 0, 1) := of_0 ok_iconst_0 (by decide +kernel)
theorem dX5_readSum_5 : decode cX5_readSum 5 = .ok (.istore 4, 2) := of_u1 ok_istore (by decide +kernel)
theorem dX5_readSum_7 : decode cX5_readSum 7 = .ok (.iload 4, 2) := of_u1 ok_iload (by decide +kernel)
theorem dX5_readSum_9 : decode cX5_readSum 9 = .ok (.sipush 400, 3) := of_s2 ok_sipush 1 144 (by decide +kernel)
theorem dX5_readSum_12 : decode cX5_readSum 12 = .ok (.if_icmp .ge 73, 3) := of_s2 ok_if_icmp_ge 0 73 (by decide +kernel)
theorem dX5_readSum_15 : decode cX5_readSum 15 = .ok (.aload_n 0, 1) := of_0 ok_aload_n_0 (by decide +kernel)
theorem dX5_readSum_16 : decode cX5_readSum 16 = .ok (.aload_n 1, 1) := of_0 ok_aload_n_1 (by decide +kernel)
theorem dX5_readSum_17 : decode cX5_readSum 17 = .ok (.invokestatic 68, 3) := of_u2 ok_invokestatic 0 68 (by decide +kernel)
theorem dX5_readSum_20 : decode cX5_readSum 20 = .ok (.ifCond .ne 5, 3) := of_s2 ok_ifCond_ne 0 5 (by decide +kernel)
theorem dX5_readSum_23 : decode cX5_readSum 23 = .ok (.iconst 0, 1) := of_0 ok_iconst_0 (by decide +kernel)
theorem dX5_readSum_24 : decode cX5_readSum 24 = .ok (.ireturn, 1) := of_0 ok_ireturn (by decide +kernel)
theorem dX5_readSum_25 : decode cX5_readSum 25 = .ok (.iload_n 3, 1) := of_0 ok_iload_n_3 (by decide +kernel)
theorem dX5_readSum_26 : decode cX5_readSum 26 = .ok (.iconst (-1), 1) := of_0 ok_iconst_m1 (by decide +kernel)
theorem dX5_readSum_27 : decode cX5_readSum 27 = .ok (.if_icmp .eq 8, 3) := of_s2 ok_if_icmp_eq 0 8 (by decide +kernel)
theorem dX5_readSum_30 : decode cX5_readSum 30 = .ok (.aload_n 1, 1) := of_0 ok_aload_n_1 (by decide +kernel)
theorem dX5_readSum_31 : decode cX5_readSum 31 = .ok (.iload_n 3, 1) := of_0 ok_iload_n_3 (by decide +kernel)
theorem dX5_readSum_32 : decode cX5_readSum 32 = .ok (.invokevirtual 58, 3) := of_u2 ok_invokevirtual 0 58 (by decide +kernel)
theorem dX5_readSum_35 : decode cX5_readSum 35 = .ok (.aload_n 0, 1) := of_0 ok_aload_n_0 (by decide +kernel)
theorem dX5_readSum_36 : decode cX5_readSum 36 = .ok (.bipush 42, 2) := of_s1 ok_bipush 42 (by decide +kernel)
theorem dX5_readSum_38 : decode cX5_readSum 38 = .ok (.bipush 47, 2) := of_s1 ok_bipush 47 (by decide +kernel)
theorem dX5_readSum_40 : decode cX5_readSum 40 = .ok (.bipush 37, 2) := of_s1 ok_bipush 37 (by decide +kernel)
theorem dX5_readSum_42 : decode cX5_readSum 42 = .ok (.invokestatic 71, 3) := of_u2 ok_invokestatic 0 71 (by decide +kernel)
theorem dX5_readSum_45 : decode cX5_readSum 45 = .ok (.istore_n 3, 1) := of_0 ok_istore_n_3 (by decide +kernel)
theorem dX5_readSum_46 : decode cX5_readSum 46 = .ok (.iload_n 3, 1) := of_0 ok_iload_n_3 (by decide +kernel)
theorem dX5_readSum_47 : decode cX5_readSum 47 = .ok (.iconst (-1), 1) := of_0 ok_iconst_m1 (by decide +kernel)
theorem dX5_readSum_48 : decode cX5_readSum 48 = .ok (.if_icmp .ne 31, 3) := of_s2 ok_if_icmp_ne 0 31 (by decide +kernel)
theorem dX5_readSum_51 : decode cX5_readSum 51 = .ok (.iload_n 2, 1) := of_0 ok_iload_n_2 (by decide +kernel)
theorem dX5_readSum_52 : decode cX5_readSum 52 = .ok (.iconst (-1), 1) := of_0 ok_iconst_m1 (by decide +kernel)
theorem dX5_readSum_53 : decode cX5_readSum 53 = .ok (.if_icmp .eq 8, 3) := of_s2 ok_if_icmp_eq 0 8 (by decide +kernel)
theorem dX5_readSum_56 : decode cX5_readSum 56 = .ok (.aload_n 1, 1) := of_0 ok_aload_n_1 (by decide +kernel)
theorem dX5_readSum_57 : decode cX5_readSum 57 = .ok (.iload_n 2, 1) := of_0 ok_iload_n_2 (by decide +kernel)
theorem dX5_readSum_58 : decode cX5_readSum 58 = .ok (.invokevirtual 58, 3) := of_u2 ok_invokevirtual 0 58 (by decide +kernel)
theorem dX5_readSum_61 : decode cX5_readSum 61 = .ok (.aload_n 0, 1) := of_0 ok_aload_n_0 (by decide +kernel)
theorem dX5_readSum_62 : decode cX5_readSum 62 = .ok (.bipush 43, 2) := of_s1 ok_bipush 43 (by decide +kernel)
theorem dX5_readSum_64 : decode cX5_readSum 64 = .ok (.bipush 45, 2) := of_s1 ok_bipush 45 (by decide +kernel)
theorem dX5_readSum_66 : decode cX5_readSum 66 = .ok (.bipush 45, 2) := of_s1 ok_bipush 45 (by decide +kernel)
theorem dX5_readSum_68 : decode cX5_readSum 68 = .ok (.invokestatic 71, 3) := of_u2 ok_invokestatic 0 71 (by decide +kernel)
theorem dX5_readSum_71 : decode cX5_readSum 71 = .ok (.istore_n 2, 1) := of_0 ok_istore_n_2 (by decide +kernel)
theorem dX5_readSum_72 : decode cX5_readSum 72 = .ok (.iload_n 2, 1) := of_0 ok_iload_n_2 (by decide +kernel)
theorem dX5_readSum_73 : decode cX5_readSum 73 = .ok (.iconst (-1), 1) := of_0 ok_iconst_m1 (by decide +kernel)
theorem dX5_readSum_74 : decode cX5_readSum 74 = .ok (.if_icmp .ne 5, 3) := of_s2 ok_if_icmp_ne 0 5 (by decide +kernel)
theorem dX5_readSum_77 : decode cX5_readSum 77 = .ok (.iconst 1, 1) := of_0 ok_iconst_1 (by decide +kernel)
theorem dX5_readSum_78 : decode cX5_readSum 78 = .ok (.ireturn, 1) := of_0 ok_ireturn (by decide +kernel)
theorem dX5_readSum_79 : decode cX5_readSum 79 = .ok (.iinc 4 1, 3) := of_ii ok_iinc 1 (by decide +kernel)
theorem dX5_readSum_82 : decode cX5_readSum 82 = .ok (.goto (-75), 3) := of_s2 ok_goto 255 181 (by decide +kernel)
theorem dX5_readSum_85 : decode cX5_readSum 85 = .ok (.iconst 0, 1) := of_0 ok_iconst_0 (by decide +kernel)
theorem dX5_readSum_86 : decode cX5_readSum 86 = .ok (.ireturn, 1) := of_0 ok_ireturn (by decide +kernel)
theorem dX5_readTest_0 : decode cX5_readTest 0 = .ok (.iconst 0, 1) := of_0 ok_iconst_0 (by decide +kernel)
theorem dX5_readTest_1 : decode cX5_readTest 1 = .ok (.istore_n 3, 1) := of_0 ok_istore_n_3 (by decide +kernel)
theorem dX5_readTest_2 : decode cX5_readTest 2 = .ok (.iconst 0, 1) := of_0 ok_iconst_0 (by decide +kernel)
theorem dX5_readTest_3 : decode cX5_readTest 3 = .ok (.istore 4, 2) := of_u1 ok_istore (by decide +kernel)
theorem dX5_readTest_5 : decode cX5_readTest 5 = .ok (.iconst 0, 1) := of_0 ok_iconst_0 (by decide +kernel)
theorem dX5_readTest_6 : decode cX5_readTest 6 = .ok (.istore 5, 2) := of_u1 ok_istore (by decide +kernel)
theorem dX5_readTest_8 : decode cX5_readTest 8 = .ok (.iload 5, 2) := of_u1 ok_iload (by decide +kernel)
theorem dX5_readTest_10 : decode cX5_readTest 10 = .ok (.sipush 400, 3) := of_s2 ok_sipush 1 144 (by decide +kernel)
theorem dX5_readTest_13 : decode cX5_readTest 13 = .ok (.if_icmp .ge 71, 3) := of_s2 ok_if_icmp_ge 0 71 (by decide +kernel)
theorem dX5_readTest_16 : decode cX5_readTest 16 = .ok (.aload_n 0, 1) := of_0 ok_aload_n_0 (by decide +kernel)
theorem dX5_readTest_17 : decode cX5_readTest 17 = .ok (.aload_n 1, 1) := of_0 ok_aload_n_1 (by decide +kernel)
theorem dX5_readTest_18 : decode cX5_readTest 18 = .ok (.iload_n 2, 1) := of_0 ok_iload_n_2 (by decide +kernel)
theorem dX5_readTest_19 : decode cX5_readTest 19 = .ok (.invokestatic 55, 3) := of_u2 ok_invokestatic 0 55 (by decide +kernel)
theorem dX5_readTest_22 : decode cX5_readTest 22 = .ok (.ifCond .ne 5, 3) := of_s2 ok_ifCond_ne 0 5 (by decide +kernel)
theorem dX5_readTest_25 : decode cX5_readTest 25 = .ok (.iconst 0, 1) := of_0 ok_iconst_0 (by decide +kernel)
theorem dX5_readTest_26 : decode cX5_readTest 26 = .ok (.ireturn, 1) := of_0 ok_ireturn (by decide +kernel)
theorem dX5_readTest_27 : decode cX5_readTest 27 = .ok (.iload 4, 2) := of_u1 ok_iload (by decide +kernel)
theorem dX5_readTest_29 : decode cX5_readTest 29 = .ok (.ifCond .eq 10, 3) := of_s2 ok_ifCond_eq 0 10 (by decide +kernel)
theorem dX5_readTest_32 : decode cX5_readTest 32 = .ok (.aload_n 1, 1) := of_0 ok_aload_n_1 (by decide +kernel)
theorem dX5_readTest_33 : decode cX5_readTest 33 = .ok (.sipush 276, 3) := of_s2 ok_sipush 1 20 (by decide +kernel)
theorem dX5_readTest_36 : decode cX5_readTest 36 = .ok (.invokevirtual 58, 3) := of_u2 ok_invokevirtual 0 58 (by decide +kernel)
theorem dX5_readTest_39 : decode cX5_readTest 39 = .ok (.aload_n 0, 1) := of_0 ok_aload_n_0 (by decide +kernel)
theorem dX5_readTest_40 : decode cX5_readTest 40 = .ok (.sipush 276, 3) := of_s2 ok_sipush 1 20 (by decide +kernel)
theorem dX5_readTest_43 : decode cX5_readTest 43 = .ok (.invokevirtual 33, 3) := of_u2 ok_invokevirtual 0 33 (by decide +kernel)
theorem dX5_readTest_46 : decode cX5_readTest 46 = .ok (.istore 4, 2) := of_u1 ok_istore (by decide +kernel)
theorem dX5_readTest_48 : decode cX5_readTest 48 = .ok (.iload 4, 2) := of_u1 ok_iload (by decide +kernel)
theorem dX5_readTest_50 : decode cX5_readTest 50 = .ok (.ifCond .ne 28, 3) := of_s2 ok_ifCond_ne 0 28 (by decide +kernel)
theorem dX5_readTest_53 : decode cX5_readTest 53 = .ok (.iload_n 3, 1) := of_0 ok_iload_n_3 (by decide +kernel)
theorem dX5_readTest_54 : decode cX5_readTest 54 = .ok (.ifCond .eq 10, 3) := of_s2 ok_ifCond_eq 0 10 (by decide +kernel)
theorem dX5_readTest_57 : decode cX5_readTest 57 = .ok (.aload_n 1, 1) := of_0 ok_aload_n_1 (by decide +kernel)
theorem dX5_readTest_58 : decode cX5_readTest 58 = .ok (.sipush 275, 3) := of_s2 ok_sipush 1 19 (by decide +kernel)
theorem dX5_readTest_61 : decode cX5_readTest 61 = .ok (.invokevirtual 58, 3) := of_u2 ok_invokevirtual 0 58 (by decide +kernel)
theorem dX5_readTest_64 : decode cX5_readTest 64 = .ok (.aload_n 0, 1) := of_0 ok_aload_n_0 (by decide +kernel)
theorem dX5_readTest_65 : decode cX5_readTest 65 = .ok (.sipush 275, 3) := of_s2 ok_sipush 1 19 (by decide +kernel)
theorem dX5_readTest_68 : decode cX5_readTest 68 = .ok (.invokevirtual 33, 3) := of_u2 ok_invokevirtual 0 33 (by decide +kernel)
theorem dX5_readTest_71 : decode cX5_readTest 71 = .ok (.istore_n 3, 1) := of_0 ok_istore_n_3 (by decide +kernel)
theorem dX5_readTest_72 : decode cX5_readTest 72 = .ok (.iload_n 3, 1) := of_0 ok_iload_n_3 (by decide +kernel)
theorem dX5_readTest_73 : decode cX5_readTest 73 = .ok (.ifCond .ne 5, 3) := of_s2 ok_ifCond_ne 0 5 (by decide +kernel)
theorem dX5_readTest_76 : decode cX5_readTest 76 = .ok (.iconst 1, 1) := of_0 ok_iconst_1 (by decide +kernel)
theorem dX5_readTest_77 : decode cX5_readTest 77 = .ok (.ireturn, 1) := of_0 ok_ireturn (by decide +kernel)
theorem dX5_readTest_78 : decode cX5_readTest 78 = .ok (.iinc 5 1, 3) := of_ii ok_iinc 1 (by decide +kernel)
theorem dX5_readTest_81 : decode cX5_readTest 81 = .ok (.goto (-73), 3) := of_s2 ok_goto 255 183 (by decide +kernel)
theorem dX5_readTest_84 : decode cX5_readTest 84 = .ok (.iconst 0, 1) := of_0 ok_iconst_0 (by decide +kernel)
theorem dX5_readTest_85 : decode cX5_readTest 85 = .ok (.ireturn, 1) := of_0 ok_ireturn (by decide +kernel)
theorem dX5_readValue_0 : decode cX5_readValue 0 = .ok (.aload_n 0, 1) := of_0 ok_aload_n_0 (by decide +kernel)
theorem dX5_readValue_1 : decode cX5_readValue 1 = .ok (.invokevirtual 45, 3) := of_u2 ok_invokevirtual 0 45 (by decide +kernel)
theorem dX5_readValue_4 : decode cX5_readValue 4 = .ok (.istore_n 2, 1) := of_0 ok_istore_n_2 (by decide +kernel)
theorem dX5_readValue_5 : decode cX5_readValue 5 = .ok (.aload_n 0, 1) := of_0 ok_aload_n_0 (by decide +kernel)
theorem dX5_readValue_6 : decode cX5_readValue 6 = .ok (.invokevirtual 75, 3) := of_u2 ok_invokevirtual 0 75 (by decide +kernel)
theorem dX5_readValue_9 : decode cX5_readValue 9 = .ok (.istore_n 3, 1) := of_0 ok_istore_n_3 (by decide +kernel)
theorem dX5_readValue_10 : decode cX5_readValue 10 = .ok (.iload_n 2, 1) := of_0 ok_iload_n_2 (by decide +kernel)
theorem dX5_readValue_11 : decode cX5_readValue 11 = .ok (.sipush 259, 3) := of_s2 ok_sipush 1 3 (by decide +kernel)
theorem dX5_readValue_14 : decode cX5_readValue 14 = .ok (.if_icmp .eq 23, 3) := of_s2 ok_if_icmp_eq 0 23 (by decide +kernel)
theorem dX5_readValue_17 : decode cX5_readValue 17 = .ok (.iload_n 2, 1) := of_0 ok_iload_n_2 (by decide +kernel)
theorem dX5_readValue_18 : decode cX5_readValue 18 = .ok (.sipush 260, 3) := of_s2 ok_sipush 1 4 (by decide +kernel)
theorem dX5_readValue_21 : decode cX5_readValue 21 = .ok (.if_icmp .lt 10, 3) := of_s2 ok_if_icmp_lt 0 10 (by decide +kernel)
theorem dX5_readValue_24 : decode cX5_readValue 24 = .ok (.iload_n 2, 1) := of_0 ok_iload_n_2 (by decide +kernel)
theorem dX5_readValue_25 : decode cX5_readValue 25 = .ok (.sipush 270, 3) := of_s2 ok_sipush 1 14 (by decide +kernel)
theorem dX5_readValue_28 : decode cX5_readValue 28 = .ok (.if_icmp .le 9, 3) := of_s2 ok_if_icmp_le 0 9 (by decide +kernel)
theorem dX5_readValue_31 : decode cX5_readValue 31 = .ok (.aload_n 0, 1) := of_0 ok_aload_n_0 (by decide +kernel)
theorem dX5_readValue_32 : decode cX5_readValue 32 = .ok (.iconst 0, 1) := of_0 ok_iconst_0 (by decide +kernel)
theorem dX5_readValue_33 : decode cX5_readValue 33 = .ok (.invokevirtual 49, 3) := of_u2 ok_invokevirtual 0 49 (by decide +kernel)
theorem dX5_readValue_36 : decode cX5_readValue 36 = .ok (.ireturn, 1) := of_0 ok_ireturn (by decide +kernel)
theorem dX5_readValue_37 : decode cX5_readValue 37 = .ok (.iload_n 2, 1) := of_0 ok_iload_n_2 (by decide +kernel)
theorem dX5_readValue_38 : decode cX5_readValue 38 = .ok (.sipush 259, 3) := of_s2 ok_sipush 1 3 (by decide +kernel)
theorem dX5_readValue_41 : decode cX5_readValue 41 = .ok (.if_icmp .ne 14, 3) := of_s2 ok_if_icmp_ne 0 14 (by decide +kernel)
theorem dX5_readValue_44 : decode cX5_readValue 44 = .ok (.iload_n 3, 1) := of_0 ok_iload_n_3 (by decide +kernel)
theorem dX5_readValue_45 : decode cX5_readValue 45 = .ok (.iconst (-1), 1) := of_0 ok_iconst_m1 (by decide +kernel)
theorem dX5_readValue_46 : decode cX5_readValue 46 = .ok (.if_icmp .ne 9, 3) := of_s2 ok_if_icmp_ne 0 9 (by decide +kernel)
theorem dX5_readValue_49 : decode cX5_readValue 49 = .ok (.aload_n 0, 1) := of_0 ok_aload_n_0 (by decide +kernel)
theorem dX5_readValue_50 : decode cX5_readValue 50 = .ok (.iconst 1, 1) := of_0 ok_iconst_1 (by decide +kernel)
theorem dX5_readValue_51 : decode cX5_readValue 51 = .ok (.invokevirtual 49, 3) := of_u2 ok_invokevirtual 0 49 (by decide +kernel)
theorem dX5_readValue_54 : decode cX5_readValue 54 = .ok (.ireturn, 1) := of_0 ok_ireturn (by decide +kernel)
theorem dX5_readValue_55 : decode cX5_readValue 55 = .ok (.aload_n 1, 1) := of_0 ok_aload_n_1 (by decide +kernel)
theorem dX5_readValue_56 : decode cX5_readValue 56 = .ok (.getfield 65, 3) := of_u2 ok_getfield 0 65 (by decide +kernel)
theorem dX5_readValue_59 : decode cX5_readValue 59 = .ok (.bipush 60, 2) := of_s1 ok_bipush 60 (by decide +kernel)
theorem dX5_readValue_61 : decode cX5_readValue 61 = .ok (.if_icmp .lt 9, 3) := of_s2 ok_if_icmp_lt 0 9 (by decide +kernel)
theorem dX5_readValue_64 : decode cX5_readValue 64 = .ok (.aload_n 0, 1) := of_0 ok_aload_n_0 (by decide +kernel)
theorem dX5_readValue_65 : decode cX5_readValue 65 = .ok (.iconst 3, 1) := of_0 ok_iconst_3 (by decide +kernel)
theorem dX5_readValue_66 : decode cX5_readValue 66 = .ok (.invokevirtual 49, 3) := of_u2 ok_invokevirtual 0 49 (by decide +kernel)
theorem dX5_readValue_69 : decode cX5_readValue 69 = .ok (.ireturn, 1) := of_0 ok_ireturn (by decide +kernel)
theorem dX5_readValue_70 : decode cX5_readValue 70 = .ok (.aload_n 1, 1) := of_0 ok_aload_n_1 (by decide +kernel)
theorem dX5_readValue_71 : decode cX5_readValue 71 = .ok (.dup, 1) := of_0 ok_dup (by decide +kernel)
theorem dX5_readValue_72 : decode cX5_readValue 72 = .ok (.getfield 65, 3) := of_u2 ok_getfield 0 65 (by decide +kernel)
theorem dX5_readValue_75 : decode cX5_readValue 75 = .ok (.iconst 1, 1) := of_0 ok_iconst_1 (by decide +kernel)
theorem dX5_readValue_76 : decode cX5_readValue 76 = .ok (.iadd, 1) := of_0 ok_iadd (by decide +kernel)
theorem dX5_readValue_77 : decode cX5_readValue 77 = .ok (.putfield 65, 3) := of_u2 ok_putfield 0 65 (by decide +kernel)
theorem dX5_readValue_80 : decode cX5_readValue 80 = .ok (.aload_n 0, 1) := of_0 ok_aload_n_0 (by decide +kernel)
theorem dX5_readValue_81 : decode cX5_readValue 81 = .ok (.invokevirtual 52, 3) := of_u2 ok_invokevirtual 0 52 (by decide +kernel)
theorem dX5_readValue_84 : decode cX5_readValue 84 = .ok (.aload_n 1, 1) := of_0 ok_aload_n_1 (by decide +kernel)
theorem dX5_readValue_85 : decode cX5_readValue 85 = .ok (.iload_n 2, 1) := of_0 ok_iload_n_2 (by decide +kernel)
theorem dX5_readValue_86 : decode cX5_readValue 86 = .ok (.sipush 259, 3) := of_s2 ok_sipush 1 3 (by decide +kernel)
theorem dX5_readValue_89 : decode cX5_readValue 89 = .ok (.if_icmp .ne 11, 3) := of_s2 ok_if_icmp_ne 0 11 (by decide +kernel)
theorem dX5_readValue_92 : decode cX5_readValue 92 = .ok (.sipush 1000, 3) := of_s2 ok_sipush 3 232 (by decide +kernel)
theorem dX5_readValue_95 : decode cX5_readValue 95 = .ok (.iload_n 3, 1) := of_0 ok_iload_n_3 (by decide +kernel)
theorem dX5_readValue_96 : decode cX5_readValue 96 = .ok (.iadd, 1) := of_0 ok_iadd (by decide +kernel)
theorem dX5_readValue_97 : decode cX5_readValue 97 = .ok (.goto 4, 3) := of_s2 ok_goto 0 4 (by decide +kernel)
theorem dX5_readValue_100 : decode cX5_readValue 100 = .ok (.iload_n 2, 1) := of_0 ok_iload_n_2 (by decide +kernel)
theorem dX5_readValue_101 : decode cX5_readValue 101 = .ok (.invokevirtual 58, 3) := of_u2 ok_invokevirtual 0 58 (by decide +kernel)
theorem dX5_readValue_104 : decode cX5_readValue 104 = .ok (.iconst 1, 1) := of_0 ok_iconst_1 (by decide +kernel)
theorem dX5_readValue_105 : decode cX5_readValue 105 = .ok (.ireturn, 1) := of_0 ok_ireturn (by decide +kernel)
theorem dX5_takeOneOf_0 : decode cX5_takeOneOf 0 = .ok (.aload_n 0, 1) := of_0 ok_aload_n_0 (by decide +kernel)
theorem dX5_takeOneOf_1 : decode cX5_takeOneOf 1 = .ok (.invokevirtual 45, 3) := of_u2 ok_invokevirtual 0 45 (by decide +kernel)
theorem dX5_takeOneOf_4 : decode cX5_takeOneOf 4 = .ok (.istore 4, 2) := of_u1 ok_istore (by decide +kernel)
theorem dX5_takeOneOf_6 : decode cX5_takeOneOf 6 = .ok (.iload 4, 2) := of_u1 ok_iload (by decide +kernel)
theorem dX5_takeOneOf_8 : decode cX5_takeOneOf 8 = .ok (.iload_n 1, 1) := of_0 ok_iload_n_1 (by decide +kernel)
theorem dX5_takeOneOf_9 : decode cX5_takeOneOf 9 = .ok (.if_icmp .eq 17, 3) := of_s2 ok_if_icmp_eq 0 17 (by decide +kernel)
theorem dX5_takeOneOf_12 : decode cX5_takeOneOf 12 = .ok (.iload 4, 2) := of_u1 ok_iload (by decide +kernel)
theorem dX5_takeOneOf_14 : decode cX5_takeOneOf 14 = .ok (.iload_n 2, 1) := of_0 ok_iload_n_2 (by decide +kernel)
theorem dX5_takeOneOf_15 : decode cX5_takeOneOf 15 = .ok (.if_icmp .eq 11, 3) := of_s2 ok_if_icmp_eq 0 11 (by decide +kernel)
theorem dX5_takeOneOf_18 : decode cX5_takeOneOf 18 = .ok (.iload 4, 2) := of_u1 ok_iload (by decide +kernel)
theorem dX5_takeOneOf_20 : decode cX5_takeOneOf 20 = .ok (.iload_n 3, 1) := of_0 ok_iload_n_3 (by decide +kernel)
theorem dX5_takeOneOf_21 : decode cX5_takeOneOf 21 = .ok (.if_icmp .eq 5, 3) := of_s2 ok_if_icmp_eq 0 5 (by decide +kernel)
theorem dX5_takeOneOf_24 : decode cX5_takeOneOf 24 = .ok (.iconst (-1), 1) := of_0 ok_iconst_m1 (by decide +kernel)
theorem dX5_takeOneOf_25 : decode cX5_takeOneOf 25 = .ok (.ireturn, 1) := of_0 ok_ireturn (by decide +kernel)
theorem dX5_takeOneOf_26 : decode cX5_takeOneOf 26 = .ok (.aload_n 0, 1) := of_0 ok_aload_n_0 (by decide +kernel)
theorem dX5_takeOneOf_27 : decode cX5_takeOneOf 27 = .ok (.invokevirtual 52, 3) := of_u2 ok_invokevirtual 0 52 (by decide +kernel)
theorem dX5_takeOneOf_30 : decode cX5_takeOneOf 30 = .ok (.iload 4, 2) := of_u1 ok_iload (by decide +kernel)
theorem dX5_takeOneOf_32 : decode cX5_takeOneOf 32 = .ok (.ireturn, 1) := of_0 ok_ireturn (by decide +kernel)
set_option maxRecDepth 20000 in
theorem bq_wsX1_readChair : subq wsX1_readChair [wsX1_readChair_r1, wsX1_readChair_r2] := ⟨(fun _ h => (List.mem_cons_of_mem _ (List.mem_append_left _ (List.mem_append_left _ (List.mem_append_left _ h))))), (fun _ h => (List.mem_cons_of_mem _ (List.mem_append_left _ (List.mem_append_left _ (List.mem_append_right _ h))))), trivial⟩
set_option maxRecDepth 20000 in
theorem ggX1_readChair_X7_takeNumber : GoodIn wsX1_readChair wsX7_takeNumber := (goodIn_cons (good_rb bq_wsX1_readChair ([(0, 8)] : List (Nat × Nat)) rfl (by decide +kernel)) (goodIn_app (good_rb bq_wsX1_readChair ([(0, 9), (0, 10), (0, 11), (0, 7), (0, 12), (0, 13), (0, 14), (0, 15), (0, 16), (0, 17), (0, 18), (0, 19), (0, 20), (0, 21), (0, 22), (0, 23), (1, 0), (1, 1), (1, 2), (1, 3), (1, 4), (1, 5), (1, 6), (1, 7)] : List (Nat × Nat)) rfl (by decide +kernel)) (goodIn_sb (fun _ h => (List.mem_cons_of_mem _ (List.mem_append_right _ h))) (by decide +kernel))))
set_option maxRecDepth 20000 in
theorem gX1_readChair_X7_takeNumber : GoodIn wsX1_readChair (wsV RX1 63 RX7 yX7_takeNumber wsX7_takeNumber) := goodIn_app (good_rp ([5, 6, 7, 8] : List Nat) rfl (by decide +kernel)) ggX1_readChair_X7_takeNumber
set_option maxRecDepth 20000 in
theorem bq_wsX1_readClause : subq wsX1_readClause [wsX1_readClause_r1, wsX1_readClause_r2, wsX1_readClause_r3] := ⟨(fun _ h => (List.mem_cons_of_mem _ (List.mem_append_left _ (List.mem_append_left _ (List.mem_append_left _ h))))), (fun _ h => (List.mem_cons_of_mem _ (List.mem_append_left _ (List.mem_append_left _ (List.mem_append_right _ (List.mem_append_left _ h)))))), (fun _ h => (List.mem_cons_of_mem _ (List.mem_append_left _ (List.mem_append_left _ (List.mem_append_right _ (List.mem_append_right _ h)))))), trivial⟩
set_option maxRecDepth 20000 in
theorem ggX1_readClause_X1_readChair : GoodIn wsX1_readClause wsX1_readChair := (goodIn_cons (good_rb bq_wsX1_readClause ([(1, 17)] : List (Nat × Nat)) rfl (by decide +kernel)) (goodIn_app (goodIn_app (goodIn_app (good_rb bq_wsX1_readClause ([(0, 1), (0, 2), (1, 18), (1, 19), (1, 3), (1, 4), (1, 5), (0, 6), (1, 6), (1, 7), (0, 4), (0, 5), (0, 7), (0, 8), (0, 9), (0, 10), (1, 8), (0, 12), (0, 13), (0, 14), (0, 15), (0, 16), (0, 17), (1, 9)] : List (Nat × Nat)) rfl (by decide +kernel)) (good_rb bq_wsX1_readClause ([(1, 10), (1, 11), (1, 12), (1, 13), (1, 14), (0, 19), (0, 20), (0, 21)] : List (Nat × Nat)) rfl (by decide +kernel))) (goodIn_sb (fun _ h => (List.mem_cons_of_mem _ (List.mem_append_left _ (List.mem_append_right _ h)))) (by decide +kernel))) (goodIn_sb (fun _ h => (List.mem_cons_of_mem _ (List.mem_append_right _ h))) (by decide +kernel))))
set_option maxRecDepth 20000 in
theorem gX1_readClause_X1_readChair : GoodIn wsX1_readClause (va_wsS RX1 57 yX1_readChair wsX1_readChair) := goodIn_app (good_rp ([40, 41, 25] : List Nat) rfl (by decide +kernel)) ggX1_readClause_X1_readChair
set_option maxRecDepth 20000 in
theorem ggX1_readClause_X1_readSitter : GoodIn wsX1_readClause wsX1_readSitter := (goodIn_cons (good_rb bq_wsX1_readClause ([(1, 22)] : List (Nat × Nat)) rfl (by decide +kernel)) (goodIn_app (goodIn_app (goodIn_app (good_rb bq_wsX1_readClause ([(0, 2), (1, 23), (2, 0), (2, 1), (0, 3), (0, 4), (0, 5), (0, 6), (0, 7), (0, 8), (0, 9), (0, 10), (2, 2), (1, 10), (1, 11), (1, 12), (1, 13), (2, 3), (2, 4), (2, 5), (2, 6), (2, 7), (2, 8), (2, 9)] : List (Nat × Nat)) rfl (by decide +kernel)) (good_rb bq_wsX1_readClause ([(0, 11), (0, 12), (0, 13), (0, 14), (0, 15), (0, 16), (0, 17), (1, 3), (1, 4), (1, 5), (1, 6), (1, 7), (1, 8), (1, 9), (1, 14), (0, 19), (0, 20), (0, 21)] : List (Nat × Nat)) rfl (by decide +kernel))) (goodIn_sb (fun _ h => (List.mem_cons_of_mem _ (List.mem_append_left _ (List.mem_append_right _ h)))) (by decide +kernel))) (goodIn_sb (fun _ h => (List.mem_cons_of_mem _ (List.mem_append_right _ h))) (by decide +kernel))))
set_option maxRecDepth 20000 in
theorem gX1_readClause_X1_readSitter : GoodIn wsX1_readClause (va_wsS RX1 60 yX1_readSitter wsX1_readSitter) := goodIn_app (good_rp ([45, 46, 25] : List Nat) rfl (by decide +kernel)) ggX1_readClause_X1_readSitter
set_option maxRecDepth 20000 in
theorem ggX1_readClause_X1_readStrand : GoodIn wsX1_readClause wsX1_readStrand := (goodIn_cons (good_rb bq_wsX1_readClause ([(1, 1)] : List (Nat × Nat)) rfl (by decide +kernel)) (goodIn_app (goodIn_app (goodIn_app (good_rb bq_wsX1_readClause ([(0, 1), (1, 2), (1, 3), (1, 4), (1, 5), (0, 6), (1, 6), (1, 7), (0, 4), (0, 5), (0, 7), (0, 8), (0, 9), (0, 10), (1, 8), (0, 12), (0, 13), (0, 14), (0, 15), (0, 16), (0, 17), (1, 9), (1, 10), (1, 11)] : List (Nat × Nat)) rfl (by decide +kernel)) (good_rb bq_wsX1_readClause ([(1, 12), (1, 13), (1, 14), (0, 19), (0, 20), (0, 21)] : List (Nat × Nat)) rfl (by decide +kernel))) (goodIn_sb (fun _ h => (List.mem_cons_of_mem _ (List.mem_append_left _ (List.mem_append_right _ h)))) (by decide +kernel))) (goodIn_sb (fun _ h => (List.mem_cons_of_mem _ (List.mem_append_right _ h))) (by decide +kernel))))
set_option maxRecDepth 20000 in
theorem gX1_readClause_X1_readStrand : GoodIn wsX1_readClause (va_wsS RX1 53 yX1_readStrand wsX1_readStrand) := goodIn_app (good_rp ([23, 24, 25] : List Nat) rfl (by decide +kernel)) ggX1_readClause_X1_readStrand
set_option maxRecDepth 20000 in
theorem ggX1_readClause_X7_fail : GoodIn wsX1_readClause wsX7_fail := (goodIn_cons (good_rb bq_wsX1_readClause ([(0, 14)] : List (Nat × Nat)) rfl (by decide +kernel)) (goodIn_app (good_rb bq_wsX1_readClause ([(0, 8), (0, 9), (0, 15), (0, 16), (0, 17)] : List (Nat × Nat)) rfl (by decide +kernel)) (goodIn_sb (fun _ h => (List.mem_cons_of_mem _ (List.mem_append_right _ h))) (by decide +kernel))))
set_option maxRecDepth 20000 in
theorem gX1_readClause_X7_fail : GoodIn wsX1_readClause (wsV RX1 36 RX7 yX7_fail wsX7_fail) := goodIn_app (good_rp ([12, 13, 14, 7] : List Nat) rfl (by decide +kernel)) ggX1_readClause_X7_fail
set_option maxRecDepth 20000 in
theorem ggX1_readClause_X7_kind : GoodIn wsX1_readClause wsX7_kind := (goodIn_cons (good_rb bq_wsX1_readClause ([(0, 7)] : List (Nat × Nat)) rfl (by decide +kernel)) (goodIn_app (good_rb bq_wsX1_readClause ([(0, 8), (0, 9), (0, 10)] : List (Nat × Nat)) rfl (by decide +kernel)) (goodIn_sb (fun _ h => (List.mem_cons_of_mem _ (List.mem_append_right _ h))) (by decide +kernel))))
set_option maxRecDepth 20000 in
theorem gX1_readClause_X7_kind : GoodIn wsX1_readClause (wsV RX1 25 RX7 yX7_kind wsX7_kind) := goodIn_app (good_rp ([4, 5, 6, 7] : List Nat) rfl (by decide +kernel)) ggX1_readClause_X7_kind
set_option maxRecDepth 20000 in
theorem ggX1_readClause_X7_skip : GoodIn wsX1_readClause wsX7_skip := (goodIn_cons (good_rb bq_wsX1_readClause ([(0, 21)] : List (Nat × Nat)) rfl (by decide +kernel)) (goodIn_app (good_rb bq_wsX1_readClause ([(0, 8), (0, 9)] : List (Nat × Nat)) rfl (by decide +kernel)) (goodIn_sb (fun _ h => (List.mem_cons_of_mem _ (List.mem_append_right _ h))) (by decide +kernel))))
set_option maxRecDepth 20000 in
theorem gX1_readClause_X7_skip : GoodIn wsX1_readClause (wsV RX1 50 RX7 yX7_skip wsX7_skip) := goodIn_app (good_rp ([19, 20, 21, 7] : List Nat) rfl (by decide +kernel)) ggX1_readClause_X7_skip
set_option maxRecDepth 20000 in
theorem bq_wsX1_readSitter : subq wsX1_readSitter [wsX1_readSitter_r1, wsX1_readSitter_r2] := ⟨(fun _ h => (List.mem_cons_of_mem _ (List.mem_append_left _ (List.mem_append_left _ (List.mem_append_left _ h))))), (fun _ h => (List.mem_cons_of_mem _ (List.mem_append_left _ (List.mem_append_left _ (List.mem_append_right _ h))))), trivial⟩
set_option maxRecDepth 20000 in
theorem ggX1_readSitter_X3_sitterOn : GoodIn wsX1_readSitter wsX3_sitterOn := (goodIn_cons (good_rb bq_wsX1_readSitter ([(0, 21)] : List (Nat × Nat)) rfl (by decide +kernel)) (goodIn_app (good_rb bq_wsX1_readSitter ([(0, 22), (0, 23)] : List (Nat × Nat)) rfl (by decide +kernel)) (goodIn_sb (fun _ h => (List.mem_cons_of_mem _ (List.mem_append_left _ (List.mem_append_right _ h)))) (by decide +kernel))))
set_option maxRecDepth 20000 in
theorem gX1_readSitter_X3_sitterOn : GoodIn wsX1_readSitter (wsV RX1 80 RX3 yX3_sitterOn wsX3_sitterOn) := goodIn_app (good_rp ([18, 19, 20, 21] : List Nat) rfl (by decide +kernel)) ggX1_readSitter_X3_sitterOn
set_option maxRecDepth 20000 in
theorem ggX1_readSitter_X7_fail : GoodIn wsX1_readSitter wsX7_fail := (goodIn_cons (good_rb bq_wsX1_readSitter ([(1, 3)] : List (Nat × Nat)) rfl (by decide +kernel)) (goodIn_app (good_rb bq_wsX1_readSitter ([(0, 9), (0, 10), (1, 4), (1, 5), (1, 6)] : List (Nat × Nat)) rfl (by decide +kernel)) (goodIn_sb (fun _ h => (List.mem_cons_of_mem _ (List.mem_append_right _ h))) (by decide +kernel))))
set_option maxRecDepth 20000 in
theorem gX1_readSitter_X7_fail : GoodIn wsX1_readSitter (wsV RX1 36 RX7 yX7_fail wsX7_fail) := goodIn_app (good_rp ([25, 26, 27, 8] : List Nat) rfl (by decide +kernel)) ggX1_readSitter_X7_fail
set_option maxRecDepth 20000 in
theorem ggX1_readSitter_X7_kind : GoodIn wsX1_readSitter wsX7_kind := (goodIn_cons (good_rb bq_wsX1_readSitter ([(0, 8)] : List (Nat × Nat)) rfl (by decide +kernel)) (goodIn_app (good_rb bq_wsX1_readSitter ([(0, 9), (0, 10), (0, 11)] : List (Nat × Nat)) rfl (by decide +kernel)) (goodIn_sb (fun _ h => (List.mem_cons_of_mem _ (List.mem_append_right _ h))) (by decide +kernel))))
set_option maxRecDepth 20000 in
theorem gX1_readSitter_X7_kind : GoodIn wsX1_readSitter (wsV RX1 25 RX7 yX7_kind wsX7_kind) := goodIn_app (good_rp ([5, 6, 7, 8] : List Nat) rfl (by decide +kernel)) ggX1_readSitter_X7_kind
set_option maxRecDepth 20000 in
theorem ggX1_readSitter_X7_takeNumber : GoodIn wsX1_readSitter wsX7_takeNumber := (goodIn_cons (good_rb bq_wsX1_readSitter ([(1, 10)] : List (Nat × Nat)) rfl (by decide +kernel)) (goodIn_app (good_rb bq_wsX1_readSitter ([(1, 11), (0, 5), (0, 6), (0, 7), (0, 8), (0, 9), (0, 10), (0, 11), (1, 12), (1, 1), (1, 2), (1, 3), (1, 4), (1, 5), (1, 6), (1, 13), (0, 13), (0, 14), (0, 15), (0, 16), (1, 14), (1, 15), (1, 16), (1, 17)] : List (Nat × Nat)) rfl (by decide +kernel)) (goodIn_sb (fun _ h => (List.mem_cons_of_mem _ (List.mem_append_right _ h))) (by decide +kernel))))
set_option maxRecDepth 20000 in
theorem gX1_readSitter_X7_takeNumber : GoodIn wsX1_readSitter (wsV RX1 63 RX7 yX7_takeNumber wsX7_takeNumber) := goodIn_app (good_rp ([32, 33, 34, 8] : List Nat) rfl (by decide +kernel)) ggX1_readSitter_X7_takeNumber
set_option maxRecDepth 20000 in
theorem ggX1_readSitter_X7_value : GoodIn wsX1_readSitter wsX7_value := (goodIn_cons (good_rb bq_wsX1_readSitter ([(0, 15)] : List (Nat × Nat)) rfl (by decide +kernel)) (goodIn_app (good_rb bq_wsX1_readSitter ([(0, 9), (0, 10), (0, 16)] : List (Nat × Nat)) rfl (by decide +kernel)) (goodIn_sb (fun _ h => (List.mem_cons_of_mem _ (List.mem_append_right _ h))) (by decide +kernel))))
set_option maxRecDepth 20000 in
theorem gX1_readSitter_X7_value : GoodIn wsX1_readSitter (wsV RX1 77 RX7 yX7_value wsX7_value) := goodIn_app (good_rp ([13, 14, 15, 8] : List Nat) rfl (by decide +kernel)) ggX1_readSitter_X7_value
set_option maxRecDepth 20000 in
theorem bq_wsX1_readStrand : subq wsX1_readStrand [wsX1_readStrand_r1, wsX1_readStrand_r2] := ⟨(fun _ h => (List.mem_cons_of_mem _ (List.mem_append_left _ (List.mem_append_left _ (List.mem_append_left _ h))))), (fun _ h => (List.mem_cons_of_mem _ (List.mem_append_left _ (List.mem_append_left _ (List.mem_append_right _ h))))), trivial⟩
set_option maxRecDepth 20000 in
theorem ggX1_readStrand_X7_takeNumber : GoodIn wsX1_readStrand wsX7_takeNumber := (goodIn_cons (good_rb bq_wsX1_readStrand ([(0, 6)] : List (Nat × Nat)) rfl (by decide +kernel)) (goodIn_app (good_rb bq_wsX1_readStrand ([(0, 7), (0, 8), (0, 9), (0, 5), (0, 10), (0, 11), (0, 12), (0, 13), (0, 14), (0, 15), (0, 16), (0, 17), (0, 18), (0, 19), (0, 20), (0, 21), (0, 22), (0, 23), (1, 0), (1, 1), (1, 2), (1, 3), (1, 4), (1, 5)] : List (Nat × Nat)) rfl (by decide +kernel)) (goodIn_sb (fun _ h => (List.mem_cons_of_mem _ (List.mem_append_right _ h))) (by decide +kernel))))
set_option maxRecDepth 20000 in
theorem gX1_readStrand_X7_takeNumber : GoodIn wsX1_readStrand (wsV RX1 63 RX7 yX7_takeNumber wsX7_takeNumber) := goodIn_app (good_rp ([3, 4, 5, 6] : List Nat) rfl (by decide +kernel)) ggX1_readStrand_X7_takeNumber
set_option maxRecDepth 20000 in
theorem bq_wsX1_read : subq wsX1_read [wsX1_read_r1, wsX1_read_r2, wsX1_read_r3, wsX1_read_r4, wsX1_read_r5, wsX1_read_r6, wsX1_read_r7, wsX1_read_r8, wsX1_read_r9] := ⟨(fun _ h => (List.mem_cons_of_mem _ (List.mem_append_left _ (List.mem_append_left _ (List.mem_append_left _ h))))), (fun _ h => (List.mem_cons_of_mem _ (List.mem_append_left _ (List.mem_append_left _ (List.mem_append_right _ (List.mem_append_left _ h)))))), (fun _ h => (List.mem_cons_of_mem _ (List.mem_append_left _ (List.mem_append_left _ (List.mem_append_right _ (List.mem_append_right _ (List.mem_append_left _ h))))))), (fun _ h => (List.mem_cons_of_mem _ (List.mem_append_left _ (List.mem_append_left _ (List.mem_append_right _ (List.mem_append_right _ (List.mem_append_right _ (List.mem_append_left _ h)))))))), (fun _ h => (List.mem_cons_of_mem _ (List.mem_append_left _ (List.mem_append_left _ (List.mem_append_right _ (List.mem_append_right _ (List.mem_append_right _ (List.mem_append_right _ (List.mem_append_left _ h))))))))), (fun _ h => (List.mem_cons_of_mem _ (List.mem_append_left _ (List.mem_append_left _ (List.mem_append_right _ (List.mem_append_right _ (List.mem_append_right _ (List.mem_append_right _ (List.mem_append_right _ (List.mem_append_left _ h)))))))))), (fun _ h => (List.mem_cons_of_mem _ (List.mem_append_left _ (List.mem_append_left _ (List.mem_append_right _ (List.mem_append_right _ (List.mem_append_right _ (List.mem_append_right _ (List.mem_append_right _ (List.mem_append_right _ (List.mem_append_left _ h))))))))))), (fun _ h => (List.mem_cons_of_mem _ (List.mem_append_left _ (List.mem_append_left _ (List.mem_append_right _ (List.mem_append_right _ (List.mem_append_right _ (List.mem_append_right _ (List.mem_append_right _ (List.mem_append_right _ (List.mem_append_right _ (List.mem_append_left _ h)))))))))))), (fun _ h => (List.mem_cons_of_mem _ (List.mem_append_left _ (List.mem_append_left _ (List.mem_append_right _ (List.mem_append_right _ (List.mem_append_right _ (List.mem_append_right _ (List.mem_append_right _ (List.mem_append_right _ (List.mem_append_right _ (List.mem_append_right _ h)))))))))))), trivial⟩
set_option maxRecDepth 20000 in
theorem ggX1_read_X1_readClause : GoodIn wsX1_read wsX1_readClause := (goodIn_cons (good_rb bq_wsX1_read ([(4, 15)] : List (Nat × Nat)) rfl (by decide +kernel)) (goodIn_app (goodIn_app (goodIn_app (good_rb bq_wsX1_read ([(4, 16), (4, 17), (4, 18), (4, 19), (4, 20), (4, 21), (0, 3), (4, 22), (0, 6), (0, 5), (3, 17), (4, 23), (5, 0), (5, 1), (5, 2), (3, 18), (0, 8), (0, 7), (5, 3), (5, 4), (5, 5), (5, 6), (5, 7), (5, 8)] : List (Nat × Nat)) rfl (by decide +kernel)) (goodIn_app (good_rb bq_wsX1_read ([(4, 14), (5, 9), (5, 10), (5, 11), (5, 12), (5, 13), (5, 14), (5, 15), (5, 16), (5, 17), (5, 18), (5, 19), (5, 20), (3, 19), (5, 21), (5, 22), (5, 23), (6, 0), (6, 1), (6, 2), (6, 3), (6, 4), (6, 5), (6, 6)] : List (Nat × Nat)) rfl (by decide +kernel)) (good_rb bq_wsX1_read ([(6, 7), (6, 8), (6, 9), (6, 10), (6, 11), (6, 12), (4, 6), (6, 13), (4, 11), (6, 14)] : List (Nat × Nat)) rfl (by decide +kernel)))) (goodIn_sb (fun _ h => (List.mem_cons_of_mem _ (List.mem_append_right _ h))) (by decide +kernel))) (goodIn_sb (fun _ h => (List.mem_cons_of_mem _ (List.mem_append_left _ (List.mem_append_right _ h)))) (by decide +kernel))))
set_option maxRecDepth 20000 in
theorem gX1_read_X1_readClause : GoodIn wsX1_read (va_wsS RX1 19 yX1_readClause wsX1_readClause) := goodIn_app (good_rp ([109, 110, 111] : List Nat) rfl (by decide +kernel)) ggX1_read_X1_readClause
set_option maxRecDepth 20000 in
theorem ggX1_read_X3_clear : GoodIn wsX1_read wsX3_clear := (goodIn_cons (good_rb bq_wsX1_read ([(4, 7)] : List (Nat × Nat)) rfl (by decide +kernel)) (goodIn_app (good_rb bq_wsX1_read ([(4, 8), (4, 9), (4, 10), (4, 11)] : List (Nat × Nat)) rfl (by decide +kernel)) (goodIn_sb (fun _ h => (List.mem_cons_of_mem _ (List.mem_append_right _ h))) (by decide +kernel))))
set_option maxRecDepth 20000 in
theorem gX1_read_X3_clear : GoodIn wsX1_read (wsV RX1 14 RX3 yX3_clear wsX3_clear) := goodIn_app (good_rp ([100, 101, 102, 103] : List Nat) rfl (by decide +kernel)) ggX1_read_X3_clear
set_option maxRecDepth 20000 in
theorem ggX1_read_X3_restart : GoodIn wsX1_read wsX3_restart := (goodIn_cons (good_rb bq_wsX1_read ([(6, 18)] : List (Nat × Nat)) rfl (by decide +kernel)) (goodIn_app (goodIn_app (good_rb bq_wsX1_read ([(6, 19), (6, 20), (6, 21), (6, 22), (6, 23), (7, 0), (7, 1), (7, 2), (7, 3), (7, 4), (7, 5), (7, 6), (7, 7), (4, 6), (7, 8), (7, 9), (7, 10), (4, 11), (7, 11), (6, 14), (7, 12), (7, 13), (7, 14), (7, 15)] : List (Nat × Nat)) rfl (by decide +kernel)) (good_rb bq_wsX1_read ([(7, 16), (7, 17), (7, 18), (7, 19), (7, 20)] : List (Nat × Nat)) rfl (by decide +kernel))) (goodIn_sb (fun _ h => (List.mem_cons_of_mem _ (List.mem_append_right _ h))) (by decide +kernel))))
set_option maxRecDepth 20000 in
theorem gX1_read_X3_restart : GoodIn wsX1_read (wsV RX1 29 RX3 yX3_restart wsX3_restart) := goodIn_app (good_rp ([160, 161, 162, 103] : List Nat) rfl (by decide +kernel)) ggX1_read_X3_restart
set_option maxRecDepth 20000 in
theorem ggX1_read_X7_cutUp : GoodIn wsX1_read wsX7_cutUp := (goodIn_cons (good_rb bq_wsX1_read ([(0, 4)] : List (Nat × Nat)) rfl (by decide +kernel)) (goodIn_app (goodIn_app (good_rb bq_wsX1_read ([(0, 5), (0, 6), (0, 7), (0, 8), (0, 9), (0, 10), (0, 11), (0, 12), (0, 13), (0, 14), (0, 15), (0, 3), (0, 16), (0, 17), (0, 18), (0, 19), (0, 20), (0, 21), (0, 22), (0, 23), (1, 0), (1, 1), (1, 2), (1, 3)] : List (Nat × Nat)) rfl (by decide +kernel)) (goodIn_app (good_rb bq_wsX1_read ([(1, 4), (1, 5), (1, 6), (1, 7), (1, 8), (1, 9), (1, 10), (1, 11), (1, 12), (1, 13), (1, 14), (1, 15), (1, 16), (1, 17), (1, 18), (1, 19), (1, 20), (1, 21), (1, 22), (1, 23), (2, 0), (2, 1), (2, 2), (2, 3)] : List (Nat × Nat)) rfl (by decide +kernel)) (goodIn_app (good_rb bq_wsX1_read ([(2, 4), (2, 5), (2, 6), (2, 7), (2, 8), (2, 9), (2, 10), (2, 11), (2, 12), (2, 13), (2, 14), (2, 15), (2, 16), (2, 17), (2, 18), (2, 19), (2, 20), (2, 21), (2, 22), (2, 23), (3, 0), (3, 1), (3, 2), (3, 3)] : List (Nat × Nat)) rfl (by decide +kernel)) (good_rb bq_wsX1_read ([(3, 4), (3, 5), (3, 6), (3, 7), (3, 8), (3, 9), (3, 10), (3, 11), (3, 12), (3, 13), (3, 14), (3, 15), (3, 16), (3, 17), (3, 18), (3, 19), (3, 20), (3, 21), (3, 22), (3, 23), (4, 0), (4, 1), (4, 2)] : List (Nat × Nat)) rfl (by decide +kernel))))) (goodIn_sb (fun _ h => (List.mem_cons_of_mem _ (List.mem_append_left _ (List.mem_append_right _ h)))) (by decide +kernel))))
set_option maxRecDepth 20000 in
theorem gX1_read_X7_cutUp : GoodIn wsX1_read (wsV RX1 9 RX7 yX7_cutUp wsX7_cutUp) := goodIn_app (good_rp ([1, 2, 3, 4] : List Nat) rfl (by decide +kernel)) ggX1_read_X7_cutUp
set_option maxRecDepth 20000 in
theorem ggX1_read_X7_fail : GoodIn wsX1_read wsX7_fail := (goodIn_cons (good_rb bq_wsX1_read ([(5, 2)] : List (Nat × Nat)) rfl (by decide +kernel)) (goodIn_app (good_rb bq_wsX1_read ([(0, 6), (0, 5), (3, 18), (0, 8), (0, 7)] : List (Nat × Nat)) rfl (by decide +kernel)) (goodIn_sb (fun _ h => (List.mem_cons_of_mem _ (List.mem_append_left _ (List.mem_append_right _ h)))) (by decide +kernel))))
set_option maxRecDepth 20000 in
theorem gX1_read_X7_fail : GoodIn wsX1_read (wsV RX1 36 RX7 yX7_fail wsX7_fail) := goodIn_app (good_rp ([120, 121, 122, 4] : List Nat) rfl (by decide +kernel)) ggX1_read_X7_fail
set_option maxRecDepth 20000 in
theorem ggX1_read_X7_kind : GoodIn wsX1_read wsX7_kind := (goodIn_cons (good_rb bq_wsX1_read ([(4, 22)] : List (Nat × Nat)) rfl (by decide +kernel)) (goodIn_app (good_rb bq_wsX1_read ([(0, 6), (0, 5), (3, 17)] : List (Nat × Nat)) rfl (by decide +kernel)) (goodIn_sb (fun _ h => (List.mem_cons_of_mem _ (List.mem_append_left _ (List.mem_append_right _ h)))) (by decide +kernel))))
set_option maxRecDepth 20000 in
theorem gX1_read_X7_kind : GoodIn wsX1_read (wsV RX1 25 RX7 yX7_kind wsX7_kind) := goodIn_app (good_rp ([116, 117, 118, 4] : List Nat) rfl (by decide +kernel)) ggX1_read_X7_kind
set_option maxRecDepth 20000 in
theorem ggX1_read_X7_take : GoodIn wsX1_read wsX7_take := (goodIn_cons (good_rb bq_wsX1_read ([(8, 0)] : List (Nat × Nat)) rfl (by decide +kernel)) (goodIn_app (good_rb bq_wsX1_read ([(5, 15), (4, 20), (4, 21), (0, 3), (4, 22), (0, 6), (0, 5), (3, 17), (5, 21), (5, 4), (5, 5), (5, 6)] : List (Nat × Nat)) rfl (by decide +kernel)) (goodIn_sb (fun _ h => (List.mem_cons_of_mem _ (List.mem_append_left _ (List.mem_append_right _ h)))) (by decide +kernel))))
set_option maxRecDepth 20000 in
theorem gX1_read_X7_take : GoodIn wsX1_read (wsV RX1 32 RX7 yX7_take wsX7_take) := goodIn_app (good_rp ([190, 191, 192, 4] : List Nat) rfl (by decide +kernel)) ggX1_read_X7_take
set_option maxRecDepth 20000 in
theorem bq_wsX5_openClause : subq wsX5_openClause [[.methodLink RX5 45 yX7_kind, .instanceMethod yX7_kind, .selects RX7 yX7_kind yX7_kind, .initialized RX7, .code yX7_kind cX7_kind 1 (some .int), .fieldLink RX7 32 "ChairCane$Tape" "at" "I", .fieldLink RX7 29 "ChairCane$Tape" "pieces" "I", .fieldLink RX7 19 "ChairCane$Tape" "kinds" "[I", .methodLink RX5 49 yX7_fail, .instanceMethod yX7_fail, .selects RX7 yX7_fail yX7_fail, .code yX7_fail cX7_fail 2 (some .boolean), .fieldLink RX7 23 "ChairCane$Tape" "places" "[I", .fieldLink RX7 15 "ChairCane$Tape" "length" "I", .fieldLink RX7 35 "ChairCane$Tape" "fault" "I", .methodLink RX5 52 yX7_skip, .instanceMethod yX7_skip, .selects RX7 yX7_skip yX7_skip, .code yX7_skip cX7_skip 1 none]] := ⟨(fun _ h => (List.mem_cons_of_mem _ (List.mem_append_left _ h))), trivial⟩
set_option maxRecDepth 20000 in
theorem ggX5_openClause_X7_fail : GoodIn wsX5_openClause wsX7_fail := (goodIn_cons (good_rb bq_wsX5_openClause ([(0, 11)] : List (Nat × Nat)) rfl (by decide +kernel)) (goodIn_app (good_rb bq_wsX5_openClause ([(0, 5), (0, 6), (0, 12), (0, 13), (0, 14)] : List (Nat × Nat)) rfl (by decide +kernel)) (goodIn_sb (fun _ h => (List.mem_cons_of_mem _ (List.mem_append_right _ h))) (by decide +kernel))))
set_option maxRecDepth 20000 in
theorem gX5_openClause_X7_fail : GoodIn wsX5_openClause (wsV RX5 49 RX7 yX7_fail wsX7_fail) := goodIn_app (good_rp ([9, 10, 11, 4] : List Nat) rfl (by decide +kernel)) ggX5_openClause_X7_fail
set_option maxRecDepth 20000 in
theorem ggX5_openClause_X7_kind : GoodIn wsX5_openClause wsX7_kind := (goodIn_cons (good_rb bq_wsX5_openClause ([(0, 4)] : List (Nat × Nat)) rfl (by decide +kernel)) (goodIn_app (good_rb bq_wsX5_openClause ([(0, 5), (0, 6), (0, 7)] : List (Nat × Nat)) rfl (by decide +kernel)) (goodIn_sb (fun _ h => (List.mem_cons_of_mem _ (List.mem_append_right _ h))) (by decide +kernel))))
set_option maxRecDepth 20000 in
theorem gX5_openClause_X7_kind : GoodIn wsX5_openClause (wsV RX5 45 RX7 yX7_kind wsX7_kind) := goodIn_app (good_rp ([1, 2, 3, 4] : List Nat) rfl (by decide +kernel)) ggX5_openClause_X7_kind
set_option maxRecDepth 20000 in
theorem ggX5_openClause_X7_skip : GoodIn wsX5_openClause wsX7_skip := (goodIn_cons (good_rb bq_wsX5_openClause ([(0, 18)] : List (Nat × Nat)) rfl (by decide +kernel)) (goodIn_app (good_rb bq_wsX5_openClause ([(0, 5), (0, 6)] : List (Nat × Nat)) rfl (by decide +kernel)) (goodIn_sb (fun _ h => (List.mem_cons_of_mem _ (List.mem_append_right _ h))) (by decide +kernel))))
set_option maxRecDepth 20000 in
theorem gX5_openClause_X7_skip : GoodIn wsX5_openClause (wsV RX5 52 RX7 yX7_skip wsX7_skip) := goodIn_app (good_rp ([16, 17, 18, 4] : List Nat) rfl (by decide +kernel)) ggX5_openClause_X7_skip
set_option maxRecDepth 20000 in
theorem bq_wsX5_readComparison : subq wsX5_readComparison [wsX5_readComparison_r1, wsX5_readComparison_r2] := ⟨(fun _ h => (List.mem_cons_of_mem _ (List.mem_append_left _ (List.mem_append_left _ (List.mem_append_left _ h))))), (fun _ h => (List.mem_cons_of_mem _ (List.mem_append_left _ (List.mem_append_left _ (List.mem_append_right _ h))))), trivial⟩
set_option maxRecDepth 20000 in
theorem ggX5_readComparison_X4_add : GoodIn wsX5_readComparison wsX4_add := (goodIn_cons (good_rb bq_wsX5_readComparison ([(1, 12)] : List (Nat × Nat)) rfl (by decide +kernel)) (goodIn_app (good_rb bq_wsX5_readComparison ([(1, 13), (1, 14)] : List (Nat × Nat)) rfl (by decide +kernel)) (goodIn_sb (fun _ h => (List.mem_cons_of_mem _ (List.mem_append_left _ (List.mem_append_right _ h)))) (by decide +kernel))))
set_option maxRecDepth 20000 in
theorem gX5_readComparison_X4_add : GoodIn wsX5_readComparison (wsV RX5 58 RX4 yX4_add wsX4_add) := goodIn_app (good_rp ([33, 34, 35, 36] : List Nat) rfl (by decide +kernel)) ggX5_readComparison_X4_add
set_option maxRecDepth 20000 in
theorem ggX5_readComparison_X5_readSum : GoodIn wsX5_readComparison wsX5_readSum := (goodIn_cons (good_rb bq_wsX5_readComparison ([(0, 4)] : List (Nat × Nat)) rfl (by decide +kernel)) (goodIn_app (goodIn_app (goodIn_app (good_rb bq_wsX5_readComparison ([(0, 5), (0, 6), (0, 3), (0, 7), (0, 0), (0, 8), (0, 9), (0, 10), (0, 11), (0, 12), (0, 13), (0, 14), (0, 15), (0, 16), (0, 17), (0, 18), (0, 19), (0, 20), (0, 21), (0, 22), (0, 23), (1, 0), (1, 1), (1, 2)] : List (Nat × Nat)) rfl (by decide +kernel)) (good_rb bq_wsX5_readComparison ([(1, 3), (1, 4), (1, 5), (1, 6), (1, 7), (1, 8), (1, 9), (1, 10), (1, 11), (1, 12), (1, 13), (1, 14), (1, 15), (1, 16), (1, 17)] : List (Nat × Nat)) rfl (by decide +kernel))) (goodIn_sb (fun _ h => (List.mem_cons_of_mem _ (List.mem_append_left _ (List.mem_append_right _ h)))) (by decide +kernel))) (goodIn_sb (fun _ h => (List.mem_cons_of_mem _ (List.mem_append_right _ h))) (by decide +kernel))))
set_option maxRecDepth 20000 in
theorem gX5_readComparison_X5_readSum : GoodIn wsX5_readComparison (va_wsS RX5 29 yX5_readSum wsX5_readSum) := goodIn_app (good_rp ([2, 3, 4] : List Nat) rfl (by decide +kernel)) ggX5_readComparison_X5_readSum
set_option maxRecDepth 20000 in
theorem ggX5_readComparison_X7_fail : GoodIn wsX5_readComparison wsX7_fail := (goodIn_cons (good_rb bq_wsX5_readComparison ([(1, 0)] : List (Nat × Nat)) rfl (by decide +kernel)) (goodIn_app (good_rb bq_wsX5_readComparison ([(0, 13), (0, 14), (1, 1), (1, 2), (1, 3)] : List (Nat × Nat)) rfl (by decide +kernel)) (goodIn_sb (fun _ h => (List.mem_cons_of_mem _ (List.mem_append_right _ h))) (by decide +kernel))))
set_option maxRecDepth 20000 in
theorem gX5_readComparison_X7_fail : GoodIn wsX5_readComparison (wsV RX5 49 RX7 yX7_fail wsX7_fail) := goodIn_app (good_rp ([22, 23, 24, 12] : List Nat) rfl (by decide +kernel)) ggX5_readComparison_X7_fail
set_option maxRecDepth 20000 in
theorem ggX5_readComparison_X7_kind : GoodIn wsX5_readComparison wsX7_kind := (goodIn_cons (good_rb bq_wsX5_readComparison ([(0, 12)] : List (Nat × Nat)) rfl (by decide +kernel)) (goodIn_app (good_rb bq_wsX5_readComparison ([(0, 13), (0, 14), (0, 15)] : List (Nat × Nat)) rfl (by decide +kernel)) (goodIn_sb (fun _ h => (List.mem_cons_of_mem _ (List.mem_append_right _ h))) (by decide +kernel))))
set_option maxRecDepth 20000 in
theorem gX5_readComparison_X7_kind : GoodIn wsX5_readComparison (wsV RX5 45 RX7 yX7_kind wsX7_kind) := goodIn_app (good_rp ([9, 10, 11, 12] : List Nat) rfl (by decide +kernel)) ggX5_readComparison_X7_kind
set_option maxRecDepth 20000 in
theorem ggX5_readComparison_X7_skip : GoodIn wsX5_readComparison wsX7_skip := (goodIn_cons (good_rb bq_wsX5_readComparison ([(1, 7)] : List (Nat × Nat)) rfl (by decide +kernel)) (goodIn_app (good_rb bq_wsX5_readComparison ([(0, 13), (0, 14)] : List (Nat × Nat)) rfl (by decide +kernel)) (goodIn_sb (fun _ h => (List.mem_cons_of_mem _ (List.mem_append_right _ h))) (by decide +kernel))))
set_option maxRecDepth 20000 in
theorem gX5_readComparison_X7_skip : GoodIn wsX5_readComparison (wsV RX5 52 RX7 yX7_skip wsX7_skip) := goodIn_app (good_rp ([29, 30, 31, 12] : List Nat) rfl (by decide +kernel)) ggX5_readComparison_X7_skip
set_option maxRecDepth 20000 in
theorem bq_wsX5_readFact : subq wsX5_readFact [wsX5_readFact_r1, wsX5_readFact_r2, wsX5_readFact_r3] := ⟨(fun _ h => (List.mem_cons_of_mem _ (List.mem_append_left _ (List.mem_append_left _ (List.mem_append_left _ h))))), (fun _ h => (List.mem_cons_of_mem _ (List.mem_append_left _ (List.mem_append_left _ (List.mem_append_right _ (List.mem_append_left _ h)))))), (fun _ h => (List.mem_cons_of_mem _ (List.mem_append_left _ (List.mem_append_left _ (List.mem_append_right _ (List.mem_append_right _ h)))))), trivial⟩
set_option maxRecDepth 20000 in
theorem ggX5_readFact_X4_add : GoodIn wsX5_readFact wsX4_add := (goodIn_cons (good_rb bq_wsX5_readFact ([(1, 15)] : List (Nat × Nat)) rfl (by decide +kernel)) (goodIn_app (good_rb bq_wsX5_readFact ([(1, 16), (1, 17)] : List (Nat × Nat)) rfl (by decide +kernel)) (goodIn_sb (fun _ h => (List.mem_cons_of_mem _ (List.mem_append_right _ h))) (by decide +kernel))))
set_option maxRecDepth 20000 in
theorem gX5_readFact_X4_add : GoodIn wsX5_readFact (wsV RX5 58 RX4 yX4_add wsX4_add) := goodIn_app (good_rp ([36, 37, 38, 39] : List Nat) rfl (by decide +kernel)) ggX5_readFact_X4_add
set_option maxRecDepth 20000 in
theorem ggX5_readFact_X5_readComparison : GoodIn wsX5_readFact wsX5_readComparison := (goodIn_cons (good_rb bq_wsX5_readFact ([(0, 11)] : List (Nat × Nat)) rfl (by decide +kernel)) (goodIn_app (goodIn_app (goodIn_app (good_rb bq_wsX5_readFact ([(0, 12), (0, 13), (0, 14), (0, 10), (0, 15), (0, 16), (0, 17), (0, 18), (0, 0), (0, 1), (0, 2), (0, 3), (0, 4), (0, 5), (0, 6), (0, 7), (0, 19), (0, 20), (0, 21), (0, 22), (0, 23), (1, 0), (1, 1), (1, 2)] : List (Nat × Nat)) rfl (by decide +kernel)) (good_rb bq_wsX5_readFact ([(1, 3), (1, 4), (1, 5), (1, 6), (1, 7), (1, 8), (1, 9), (1, 10), (1, 11), (1, 12), (1, 13), (1, 14), (1, 15), (1, 16), (1, 17), (1, 18), (1, 19), (1, 20)] : List (Nat × Nat)) rfl (by decide +kernel))) (goodIn_sb (fun _ h => (List.mem_cons_of_mem _ (List.mem_append_right _ h))) (by decide +kernel))) (goodIn_sb (fun _ h => (List.mem_cons_of_mem _ (List.mem_append_left _ (List.mem_append_right _ h)))) (by decide +kernel))))
set_option maxRecDepth 20000 in
theorem gX5_readFact_X5_readComparison : GoodIn wsX5_readFact (va_wsS RX5 62 yX5_readComparison wsX5_readComparison) := goodIn_app (good_rp ([9, 10, 11] : List Nat) rfl (by decide +kernel)) ggX5_readFact_X5_readComparison
set_option maxRecDepth 20000 in
theorem ggX5_readFact_X5_readFact : GoodIn wsX5_readFact wsX5_readFact := good_rp ([0, 1, 2, 3, 4, 5, 6, 7, 8, 9, 10, 11, 12, 13, 14, 15, 16, 17, 18, 19, 20, 21, 22, 23, 24, 25, 26, 27, 28, 29, 30, 31, 32, 33, 34, 35, 36, 37, 38, 39, 40, 41, 42, 43, 44, 45, 46, 47, 48, 49, 50, 51, 52, 53, 54, 55, 56, 57, 58, 59, 60, 61, 62, 63, 64, 65, 66, 67, 68, 69, 70, 71, 72] : List Nat) rfl (by decide +kernel)
set_option maxRecDepth 20000 in
theorem gX5_readFact_X5_readFact : GoodIn wsX5_readFact (va_wsS RX5 55 yX5_readFact wsX5_readFact) := goodIn_app (good_rp ([54, 55, 11] : List Nat) rfl (by decide +kernel)) ggX5_readFact_X5_readFact
set_option maxRecDepth 20000 in
theorem ggX5_readFact_X5_readTest : GoodIn wsX5_readFact wsX5_readTest := good_rp ([56, 54, 55, 11, 36, 37, 38, 39, 40, 41, 42, 48, 49, 50, 4, 51, 52, 2, 3, 5, 6, 7, 8, 53, 33, 34, 35, 0, 1, 9, 10, 12, 13, 14, 15, 16, 17, 18, 19, 20, 21, 22, 23, 24, 25, 26, 27, 28, 29, 30, 31, 32, 43, 44, 45, 46, 47, 57, 58, 59, 60, 61, 62, 63, 64, 65, 66, 67, 68, 69, 70, 71, 72] : List Nat) rfl (by decide +kernel)
set_option maxRecDepth 20000 in
theorem gX5_readFact_X5_readTest : GoodIn wsX5_readFact (va_wsS RX5 37 yX5_readTest wsX5_readTest) := goodIn_app (good_rp ([46, 47, 11] : List Nat) rfl (by decide +kernel)) ggX5_readFact_X5_readTest
set_option maxRecDepth 20000 in
theorem ggX5_readFact_X7_fail : GoodIn wsX5_readFact wsX7_fail := (goodIn_cons (good_rb bq_wsX5_readFact ([(1, 3)] : List (Nat × Nat)) rfl (by decide +kernel)) (goodIn_app (good_rb bq_wsX5_readFact ([(0, 5), (0, 6), (1, 4), (1, 5), (1, 6)] : List (Nat × Nat)) rfl (by decide +kernel)) (goodIn_sb (fun _ h => (List.mem_cons_of_mem _ (List.mem_append_left _ (List.mem_append_right _ h)))) (by decide +kernel))))
set_option maxRecDepth 20000 in
theorem gX5_readFact_X7_fail : GoodIn wsX5_readFact (wsV RX5 49 RX7 yX7_fail wsX7_fail) := goodIn_app (good_rp ([25, 26, 27, 4] : List Nat) rfl (by decide +kernel)) ggX5_readFact_X7_fail
set_option maxRecDepth 20000 in
theorem ggX5_readFact_X7_kind : GoodIn wsX5_readFact wsX7_kind := (goodIn_cons (good_rb bq_wsX5_readFact ([(0, 4)] : List (Nat × Nat)) rfl (by decide +kernel)) (goodIn_app (good_rb bq_wsX5_readFact ([(0, 5), (0, 6), (0, 7)] : List (Nat × Nat)) rfl (by decide +kernel)) (goodIn_sb (fun _ h => (List.mem_cons_of_mem _ (List.mem_append_left _ (List.mem_append_right _ h)))) (by decide +kernel))))
set_option maxRecDepth 20000 in
theorem gX5_readFact_X7_kind : GoodIn wsX5_readFact (wsV RX5 45 RX7 yX7_kind wsX7_kind) := goodIn_app (good_rp ([1, 2, 3, 4] : List Nat) rfl (by decide +kernel)) ggX5_readFact_X7_kind
set_option maxRecDepth 20000 in
theorem ggX5_readFact_X7_skip : GoodIn wsX5_readFact wsX7_skip := (goodIn_cons (good_rb bq_wsX5_readFact ([(1, 10)] : List (Nat × Nat)) rfl (by decide +kernel)) (goodIn_app (good_rb bq_wsX5_readFact ([(0, 5), (0, 6)] : List (Nat × Nat)) rfl (by decide +kernel)) (goodIn_sb (fun _ h => (List.mem_cons_of_mem _ (List.mem_append_left _ (List.mem_append_right _ h)))) (by decide +kernel))))
set_option maxRecDepth 20000 in
theorem gX5_readFact_X7_skip : GoodIn wsX5_readFact (wsV RX5 52 RX7 yX7_skip wsX7_skip) := goodIn_app (good_rp ([32, 33, 34, 4] : List Nat) rfl (by decide +kernel)) ggX5_readFact_X7_skip
set_option maxRecDepth 20000 in
theorem ggX5_readFact_X7_take : GoodIn wsX5_readFact wsX7_take := (goodIn_cons (good_rb bq_wsX5_readFact ([(2, 2)] : List (Nat × Nat)) rfl (by decide +kernel)) (goodIn_app (good_rb bq_wsX5_readFact ([(2, 3), (0, 1), (0, 2), (0, 3), (0, 4), (0, 5), (0, 6), (0, 7), (2, 4), (1, 8), (1, 9), (1, 10)] : List (Nat × Nat)) rfl (by decide +kernel)) (goodIn_sb (fun _ h => (List.mem_cons_of_mem _ (List.mem_append_left _ (List.mem_append_right _ h)))) (by decide +kernel))))
set_option maxRecDepth 20000 in
theorem gX5_readFact_X7_take : GoodIn wsX5_readFact (wsV RX5 33 RX7 yX7_take wsX7_take) := goodIn_app (good_rp ([48, 49, 50, 4] : List Nat) rfl (by decide +kernel)) ggX5_readFact_X7_take
set_option maxRecDepth 20000 in
theorem bq_wsX5_readSum : subq wsX5_readSum [wsX5_readSum_r1, wsX5_readSum_r2] := ⟨(fun _ h => (List.mem_cons_of_mem _ (List.mem_append_left _ (List.mem_append_left _ (List.mem_append_left _ h))))), (fun _ h => (List.mem_cons_of_mem _ (List.mem_append_left _ (List.mem_append_left _ (List.mem_append_right _ h))))), trivial⟩
set_option maxRecDepth 20000 in
theorem ggX5_readSum_X4_add : GoodIn wsX5_readSum wsX4_add := (goodIn_cons (good_rb bq_wsX5_readSum ([(1, 9)] : List (Nat × Nat)) rfl (by decide +kernel)) (goodIn_app (good_rb bq_wsX5_readSum ([(1, 10), (1, 11)] : List (Nat × Nat)) rfl (by decide +kernel)) (goodIn_sb (fun _ h => (List.mem_cons_of_mem _ (List.mem_append_left _ (List.mem_append_right _ h)))) (by decide +kernel))))
set_option maxRecDepth 20000 in
theorem gX5_readSum_X4_add : GoodIn wsX5_readSum (wsV RX5 58 RX4 yX4_add wsX4_add) := goodIn_app (good_rp ([30, 31, 32, 33] : List Nat) rfl (by decide +kernel)) ggX5_readSum_X4_add
set_option maxRecDepth 20000 in
theorem ggX5_readSum_X5_readValue : GoodIn wsX5_readSum wsX5_readValue := (goodIn_cons (good_rb bq_wsX5_readSum ([(0, 3)] : List (Nat × Nat)) rfl (by decide +kernel)) (goodIn_app (goodIn_app (goodIn_app (good_rb bq_wsX5_readSum ([(0, 4), (0, 5), (0, 6), (0, 7), (0, 8), (0, 9), (0, 10), (0, 11), (0, 12), (0, 13), (0, 14), (0, 15), (0, 16), (0, 17), (0, 18), (0, 19), (0, 20), (0, 21), (0, 22), (0, 23), (1, 0), (1, 1), (1, 2), (1, 3)] : List (Nat × Nat)) rfl (by decide +kernel)) (good_rb bq_wsX5_readSum ([(1, 4), (1, 5), (1, 6), (1, 7), (1, 8), (1, 9), (1, 10), (1, 11)] : List (Nat × Nat)) rfl (by decide +kernel))) (goodIn_sb (fun _ h => (List.mem_cons_of_mem _ (List.mem_append_left _ (List.mem_append_right _ h)))) (by decide +kernel))) (goodIn_sb (fun _ h => (List.mem_cons_of_mem _ (List.mem_append_right _ h))) (by decide +kernel))))
set_option maxRecDepth 20000 in
theorem gX5_readSum_X5_readValue : GoodIn wsX5_readSum (va_wsS RX5 68 yX5_readValue wsX5_readValue) := goodIn_app (good_rp ([1, 2, 3] : List Nat) rfl (by decide +kernel)) ggX5_readSum_X5_readValue
set_option maxRecDepth 20000 in
theorem ggX5_readSum_X5_takeOneOf : GoodIn wsX5_readSum wsX5_takeOneOf := (goodIn_cons (good_rb bq_wsX5_readSum ([(1, 14)] : List (Nat × Nat)) rfl (by decide +kernel)) (goodIn_app (good_rb bq_wsX5_readSum ([(0, 5), (0, 6), (0, 7), (0, 8), (0, 9), (0, 10), (0, 11), (0, 12), (1, 1), (1, 2), (1, 3), (1, 4)] : List (Nat × Nat)) rfl (by decide +kernel)) (goodIn_sb (fun _ h => (List.mem_cons_of_mem _ (List.mem_append_right _ h))) (by decide +kernel))))
set_option maxRecDepth 20000 in
theorem gX5_readSum_X5_takeOneOf : GoodIn wsX5_readSum (va_wsS RX5 71 yX5_takeOneOf wsX5_takeOneOf) := goodIn_app (good_rp ([37, 38, 3] : List Nat) rfl (by decide +kernel)) ggX5_readSum_X5_takeOneOf
set_option maxRecDepth 20000 in
theorem bq_wsX5_readTest : subq wsX5_readTest [wsX5_readTest_r1, wsX5_readTest_r2, wsX5_readTest_r3] := ⟨(fun _ h => (List.mem_cons_of_mem _ (List.mem_append_left _ (List.mem_append_left _ (List.mem_append_left _ h))))), (fun _ h => (List.mem_cons_of_mem _ (List.mem_append_left _ (List.mem_append_left _ (List.mem_append_right _ (List.mem_append_left _ h)))))), (fun _ h => (List.mem_cons_of_mem _ (List.mem_append_left _ (List.mem_append_left _ (List.mem_append_right _ (List.mem_append_right _ h)))))), trivial⟩
set_option maxRecDepth 20000 in
theorem ggX5_readTest_X4_add : GoodIn wsX5_readTest wsX4_add := (goodIn_cons (good_rb bq_wsX5_readTest ([(0, 7)] : List (Nat × Nat)) rfl (by decide +kernel)) (goodIn_app (good_rb bq_wsX5_readTest ([(0, 8), (0, 9)] : List (Nat × Nat)) rfl (by decide +kernel)) (goodIn_sb (fun _ h => (List.mem_cons_of_mem _ (List.mem_append_right _ h))) (by decide +kernel))))
set_option maxRecDepth 20000 in
theorem gX5_readTest_X4_add : GoodIn wsX5_readTest (wsV RX5 58 RX4 yX4_add wsX4_add) := goodIn_app (good_rp ([4, 5, 6, 7] : List Nat) rfl (by decide +kernel)) ggX5_readTest_X4_add
set_option maxRecDepth 20000 in
theorem ggX5_readTest_X5_readFact : GoodIn wsX5_readTest wsX5_readFact := good_rp ([27, 28, 17, 18, 14, 19, 20, 21, 22, 29, 30, 3, 31, 32, 33, 34, 35, 36, 37, 38, 39, 40, 41, 42, 43, 44, 45, 46, 47, 48, 49, 50, 51, 24, 25, 26, 4, 5, 6, 7, 8, 9, 10, 52, 53, 54, 55, 56, 11, 12, 13, 15, 16, 23, 1, 2, 0, 57, 58, 59, 60, 61, 62, 63, 64, 65, 66, 67, 68, 69, 70, 71, 72] : List Nat) rfl (by decide +kernel)
set_option maxRecDepth 20000 in
theorem gX5_readTest_X5_readFact : GoodIn wsX5_readTest (va_wsS RX5 55 yX5_readFact wsX5_readFact) := goodIn_app (good_rp ([1, 2, 3] : List Nat) rfl (by decide +kernel)) ggX5_readTest_X5_readFact
set_option maxRecDepth 20000 in
theorem ggX5_readTest_X7_take : GoodIn wsX5_readTest wsX7_take := (goodIn_cons (good_rb bq_wsX5_readTest ([(0, 14)] : List (Nat × Nat)) rfl (by decide +kernel)) (goodIn_app (good_rb bq_wsX5_readTest ([(0, 15), (0, 16), (0, 17), (0, 13), (0, 18), (0, 19), (0, 20), (0, 21), (0, 22), (0, 23), (1, 0), (1, 1)] : List (Nat × Nat)) rfl (by decide +kernel)) (goodIn_sb (fun _ h => (List.mem_cons_of_mem _ (List.mem_append_left _ (List.mem_append_right _ h)))) (by decide +kernel))))
set_option maxRecDepth 20000 in
theorem gX5_readTest_X7_take : GoodIn wsX5_readTest (wsV RX5 33 RX7 yX7_take wsX7_take) := goodIn_app (good_rp ([11, 12, 13, 14] : List Nat) rfl (by decide +kernel)) ggX5_readTest_X7_take
set_option maxRecDepth 20000 in
theorem bq_wsX5_readValue : subq wsX5_readValue [wsX5_readValue_r1, wsX5_readValue_r2] := ⟨(fun _ h => (List.mem_cons_of_mem _ (List.mem_append_left _ (List.mem_append_left _ (List.mem_append_left _ h))))), (fun _ h => (List.mem_cons_of_mem _ (List.mem_append_left _ (List.mem_append_left _ (List.mem_append_right _ h))))), trivial⟩
set_option maxRecDepth 20000 in
theorem ggX5_readValue_X4_add : GoodIn wsX5_readValue wsX4_add := (goodIn_cons (good_rb bq_wsX5_readValue ([(1, 5)] : List (Nat × Nat)) rfl (by decide +kernel)) (goodIn_app (good_rb bq_wsX5_readValue ([(1, 6), (1, 7)] : List (Nat × Nat)) rfl (by decide +kernel)) (goodIn_sb (fun _ h => (List.mem_cons_of_mem _ (List.mem_append_left _ (List.mem_append_right _ h)))) (by decide +kernel))))
set_option maxRecDepth 20000 in
theorem gX5_readValue_X4_add : GoodIn wsX5_readValue (wsV RX5 58 RX4 yX4_add wsX4_add) := goodIn_app (good_rp ([26, 27, 28, 29] : List Nat) rfl (by decide +kernel)) ggX5_readValue_X4_add
set_option maxRecDepth 20000 in
theorem ggX5_readValue_X7_fail : GoodIn wsX5_readValue wsX7_fail := (goodIn_cons (good_rb bq_wsX5_readValue ([(0, 17)] : List (Nat × Nat)) rfl (by decide +kernel)) (goodIn_app (good_rb bq_wsX5_readValue ([(0, 6), (0, 7), (0, 18), (0, 19), (0, 20)] : List (Nat × Nat)) rfl (by decide +kernel)) (goodIn_sb (fun _ h => (List.mem_cons_of_mem _ (List.mem_append_right _ h))) (by decide +kernel))))
set_option maxRecDepth 20000 in
theorem gX5_readValue_X7_fail : GoodIn wsX5_readValue (wsV RX5 49 RX7 yX7_fail wsX7_fail) := goodIn_app (good_rp ([15, 16, 17, 5] : List Nat) rfl (by decide +kernel)) ggX5_readValue_X7_fail
set_option maxRecDepth 20000 in
theorem ggX5_readValue_X7_kind : GoodIn wsX5_readValue wsX7_kind := (goodIn_cons (good_rb bq_wsX5_readValue ([(0, 5)] : List (Nat × Nat)) rfl (by decide +kernel)) (goodIn_app (good_rb bq_wsX5_readValue ([(0, 6), (0, 7), (0, 8)] : List (Nat × Nat)) rfl (by decide +kernel)) (goodIn_sb (fun _ h => (List.mem_cons_of_mem _ (List.mem_append_right _ h))) (by decide +kernel))))
set_option maxRecDepth 20000 in
theorem gX5_readValue_X7_kind : GoodIn wsX5_readValue (wsV RX5 45 RX7 yX7_kind wsX7_kind) := goodIn_app (good_rp ([2, 3, 4, 5] : List Nat) rfl (by decide +kernel)) ggX5_readValue_X7_kind
set_option maxRecDepth 20000 in
theorem ggX5_readValue_X7_skip : GoodIn wsX5_readValue wsX7_skip := (goodIn_cons (good_rb bq_wsX5_readValue ([(1, 0)] : List (Nat × Nat)) rfl (by decide +kernel)) (goodIn_app (good_rb bq_wsX5_readValue ([(0, 6), (0, 7)] : List (Nat × Nat)) rfl (by decide +kernel)) (goodIn_sb (fun _ h => (List.mem_cons_of_mem _ (List.mem_append_right _ h))) (by decide +kernel))))
set_option maxRecDepth 20000 in
theorem gX5_readValue_X7_skip : GoodIn wsX5_readValue (wsV RX5 52 RX7 yX7_skip wsX7_skip) := goodIn_app (good_rp ([22, 23, 24, 5] : List Nat) rfl (by decide +kernel)) ggX5_readValue_X7_skip
set_option maxRecDepth 20000 in
theorem ggX5_readValue_X7_value : GoodIn wsX5_readValue wsX7_value := (goodIn_cons (good_rb bq_wsX5_readValue ([(0, 12)] : List (Nat × Nat)) rfl (by decide +kernel)) (goodIn_app (good_rb bq_wsX5_readValue ([(0, 6), (0, 7), (0, 13)] : List (Nat × Nat)) rfl (by decide +kernel)) (goodIn_sb (fun _ h => (List.mem_cons_of_mem _ (List.mem_append_right _ h))) (by decide +kernel))))
set_option maxRecDepth 20000 in
theorem gX5_readValue_X7_value : GoodIn wsX5_readValue (wsV RX5 75 RX7 yX7_value wsX7_value) := goodIn_app (good_rp ([10, 11, 12, 5] : List Nat) rfl (by decide +kernel)) ggX5_readValue_X7_value
set_option maxRecDepth 20000 in
theorem bq_wsX5_read : subq wsX5_read [wsX5_read_r1, wsX5_read_r2, wsX5_read_r3, wsX5_read_r4, wsX5_read_r5, wsX5_read_r6, wsX5_read_r7] := ⟨(fun _ h => (List.mem_cons_of_mem _ (List.mem_append_left _ (List.mem_append_left _ (List.mem_append_left _ h))))), (fun _ h => (List.mem_cons_of_mem _ (List.mem_append_left _ (List.mem_append_left _ (List.mem_append_right _ (List.mem_append_left _ h)))))), (fun _ h => (List.mem_cons_of_mem _ (List.mem_append_left _ (List.mem_append_left _ (List.mem_append_right _ (List.mem_append_right _ (List.mem_append_left _ h))))))), (fun _ h => (List.mem_cons_of_mem _ (List.mem_append_left _ (List.mem_append_left _ (List.mem_append_right _ (List.mem_append_right _ (List.mem_append_right _ (List.mem_append_left _ h)))))))), (fun _ h => (List.mem_cons_of_mem _ (List.mem_append_left _ (List.mem_append_left _ (List.mem_append_right _ (List.mem_append_right _ (List.mem_append_right _ (List.mem_append_right _ (List.mem_append_left _ h))))))))), (fun _ h => (List.mem_cons_of_mem _ (List.mem_append_left _ (List.mem_append_left _ (List.mem_append_right _ (List.mem_append_right _ (List.mem_append_right _ (List.mem_append_right _ (List.mem_append_right _ (List.mem_append_left _ h)))))))))), (fun _ h => (List.mem_cons_of_mem _ (List.mem_append_left _ (List.mem_append_left _ (List.mem_append_right _ (List.mem_append_right _ (List.mem_append_right _ (List.mem_append_right _ (List.mem_append_right _ (List.mem_append_right _ h)))))))))), trivial⟩
set_option maxRecDepth 20000 in
theorem ggX5_read_X4_clear : GoodIn wsX5_read wsX4_clear := (goodIn_cons (good_rb bq_wsX5_read ([(4, 8)] : List (Nat × Nat)) rfl (by decide +kernel)) (goodIn_app (good_rb bq_wsX5_read ([(4, 9), (4, 10), (4, 11)] : List (Nat × Nat)) rfl (by decide +kernel)) (goodIn_sb (fun _ h => (List.mem_cons_of_mem _ (List.mem_append_left _ (List.mem_append_right _ h)))) (by decide +kernel))))
set_option maxRecDepth 20000 in
theorem gX5_read_X4_clear : GoodIn wsX5_read (wsV RX5 14 RX4 yX4_clear wsX4_clear) := goodIn_app (good_rp ([101, 102, 103, 104] : List Nat) rfl (by decide +kernel)) ggX5_read_X4_clear
set_option maxRecDepth 20000 in
theorem ggX5_read_X4_closeClause : GoodIn wsX5_read wsX4_closeClause := (goodIn_cons (good_rb bq_wsX5_read ([(6, 17)] : List (Nat × Nat)) rfl (by decide +kernel)) (goodIn_app (good_rb bq_wsX5_read ([(4, 10), (6, 18), (6, 19), (6, 20), (4, 9)] : List (Nat × Nat)) rfl (by decide +kernel)) (goodIn_sb (fun _ h => (List.mem_cons_of_mem _ (List.mem_append_left _ (List.mem_append_right _ h)))) (by decide +kernel))))
set_option maxRecDepth 20000 in
theorem gX5_read_X4_closeClause : GoodIn wsX5_read (wsV RX5 41 RX4 yX4_closeClause wsX4_closeClause) := goodIn_app (good_rp ([159, 160, 161, 104] : List Nat) rfl (by decide +kernel)) ggX5_read_X4_closeClause
set_option maxRecDepth 20000 in
theorem ggX5_read_X5_openClause : GoodIn wsX5_read wsX5_openClause := (goodIn_cons (good_rb bq_wsX5_read ([(4, 15)] : List (Nat × Nat)) rfl (by decide +kernel)) (goodIn_app (good_rb bq_wsX5_read ([(4, 16), (4, 17), (4, 18), (0, 4), (4, 19), (0, 7), (0, 6), (3, 18), (4, 20), (4, 21), (4, 22), (4, 23), (3, 19), (0, 9), (0, 8), (5, 0), (5, 1), (5, 2), (5, 3)] : List (Nat × Nat)) rfl (by decide +kernel)) (goodIn_sb (fun _ h => (List.mem_cons_of_mem _ (List.mem_append_right _ h))) (by decide +kernel))))
set_option maxRecDepth 20000 in
theorem gX5_read_X5_openClause : GoodIn wsX5_read (va_wsS RX5 23 yX5_openClause wsX5_openClause) := goodIn_app (good_rp ([109, 110, 111] : List Nat) rfl (by decide +kernel)) ggX5_read_X5_openClause
set_option maxRecDepth 20000 in
theorem ggX5_read_X5_readSum : GoodIn wsX5_read wsX5_readSum := (goodIn_cons (good_rb bq_wsX5_read ([(5, 6)] : List (Nat × Nat)) rfl (by decide +kernel)) (goodIn_app (goodIn_app (goodIn_app (good_rb bq_wsX5_read ([(5, 7), (5, 8), (4, 14), (5, 9), (5, 10), (4, 16), (4, 17), (4, 18), (0, 4), (4, 19), (0, 7), (0, 6), (3, 18), (5, 11), (5, 12), (5, 13), (5, 14), (3, 20), (4, 20), (4, 21), (4, 22), (4, 23), (3, 19), (0, 9)] : List (Nat × Nat)) rfl (by decide +kernel)) (good_rb bq_wsX5_read ([(0, 8), (5, 0), (5, 1), (5, 2), (5, 3), (5, 15), (5, 16), (5, 17), (4, 7), (5, 18), (4, 9), (5, 19), (5, 20), (5, 21), (5, 22)] : List (Nat × Nat)) rfl (by decide +kernel))) (goodIn_sb (fun _ h => (List.mem_cons_of_mem _ (List.mem_append_left _ (List.mem_append_right _ h)))) (by decide +kernel))) (goodIn_sb (fun _ h => (List.mem_cons_of_mem _ (List.mem_append_right _ h))) (by decide +kernel))))
set_option maxRecDepth 20000 in
theorem gX5_read_X5_readSum : GoodIn wsX5_read (va_wsS RX5 29 yX5_readSum wsX5_readSum) := goodIn_app (good_rp ([125, 126, 111] : List Nat) rfl (by decide +kernel)) ggX5_read_X5_readSum
set_option maxRecDepth 20000 in
theorem ggX5_read_X5_readTest : GoodIn wsX5_read wsX5_readTest := (goodIn_cons (good_rb bq_wsX5_read ([(6, 7)] : List (Nat × Nat)) rfl (by decide +kernel)) (goodIn_app (goodIn_app (goodIn_app (good_rb bq_wsX5_read ([(6, 8), (6, 9), (4, 14), (5, 15), (5, 16), (5, 17), (4, 7), (5, 18), (4, 9), (5, 19), (5, 23), (6, 0), (6, 1), (0, 4), (6, 2), (6, 3), (4, 17), (4, 18), (4, 19), (0, 7), (0, 6), (3, 18), (6, 4), (5, 1)] : List (Nat × Nat)) rfl (by decide +kernel)) (goodIn_app (good_rb bq_wsX5_read ([(5, 2), (5, 3), (6, 10), (4, 16), (6, 11), (6, 12), (6, 13), (5, 10), (5, 4), (5, 5), (5, 6), (5, 7), (5, 8), (5, 9), (5, 11), (5, 12), (5, 13), (5, 14), (3, 20), (4, 20), (4, 21), (4, 22), (4, 23), (3, 19)] : List (Nat × Nat)) rfl (by decide +kernel)) (good_rb bq_wsX5_read ([(0, 9), (0, 8), (5, 0), (5, 20), (5, 21), (5, 22), (6, 5), (6, 6)] : List (Nat × Nat)) rfl (by decide +kernel)))) (goodIn_sb (fun _ h => (List.mem_cons_of_mem _ (List.mem_append_right _ h))) (by decide +kernel))) (goodIn_sb (fun _ h => (List.mem_cons_of_mem _ (List.mem_append_left _ (List.mem_append_right _ h)))) (by decide +kernel))))
set_option maxRecDepth 20000 in
theorem gX5_read_X5_readTest : GoodIn wsX5_read (va_wsS RX5 37 yX5_readTest wsX5_readTest) := goodIn_app (good_rp ([150, 151, 111] : List Nat) rfl (by decide +kernel)) ggX5_read_X5_readTest
set_option maxRecDepth 20000 in
theorem ggX5_read_X7_cutUp : GoodIn wsX5_read wsX7_cutUp := (goodIn_cons (good_rb bq_wsX5_read ([(0, 5)] : List (Nat × Nat)) rfl (by decide +kernel)) (goodIn_app (goodIn_app (good_rb bq_wsX5_read ([(0, 6), (0, 7), (0, 8), (0, 9), (0, 10), (0, 11), (0, 12), (0, 13), (0, 14), (0, 15), (0, 16), (0, 4), (0, 17), (0, 18), (0, 19), (0, 20), (0, 21), (0, 22), (0, 23), (1, 0), (1, 1), (1, 2), (1, 3), (1, 4)] : List (Nat × Nat)) rfl (by decide +kernel)) (goodIn_app (good_rb bq_wsX5_read ([(1, 5), (1, 6), (1, 7), (1, 8), (1, 9), (1, 10), (1, 11), (1, 12), (1, 13), (1, 14), (1, 15), (1, 16), (1, 17), (1, 18), (1, 19), (1, 20), (1, 21), (1, 22), (1, 23), (2, 0), (2, 1), (2, 2), (2, 3), (2, 4)] : List (Nat × Nat)) rfl (by decide +kernel)) (goodIn_app (good_rb bq_wsX5_read ([(2, 5), (2, 6), (2, 7), (2, 8), (2, 9), (2, 10), (2, 11), (2, 12), (2, 13), (2, 14), (2, 15), (2, 16), (2, 17), (2, 18), (2, 19), (2, 20), (2, 21), (2, 22), (2, 23), (3, 0), (3, 1), (3, 2), (3, 3), (3, 4)] : List (Nat × Nat)) rfl (by decide +kernel)) (good_rb bq_wsX5_read ([(3, 5), (3, 6), (3, 7), (3, 8), (3, 9), (3, 10), (3, 11), (3, 12), (3, 13), (3, 14), (3, 15), (3, 16), (3, 17), (3, 18), (3, 19), (3, 20), (3, 21), (3, 22), (3, 23), (4, 0), (4, 1), (4, 2), (4, 3)] : List (Nat × Nat)) rfl (by decide +kernel))))) (goodIn_sb (fun _ h => (List.mem_cons_of_mem _ (List.mem_append_right _ h))) (by decide +kernel))))
set_option maxRecDepth 20000 in
theorem gX5_read_X7_cutUp : GoodIn wsX5_read (wsV RX5 9 RX7 yX7_cutUp wsX7_cutUp) := goodIn_app (good_rp ([2, 3, 4, 5] : List Nat) rfl (by decide +kernel)) ggX5_read_X7_cutUp
set_option maxRecDepth 20000 in
theorem ggX5_read_X7_fail : GoodIn wsX5_read wsX7_fail := (goodIn_cons (good_rb bq_wsX5_read ([(4, 23)] : List (Nat × Nat)) rfl (by decide +kernel)) (goodIn_app (good_rb bq_wsX5_read ([(0, 7), (0, 6), (3, 19), (0, 9), (0, 8)] : List (Nat × Nat)) rfl (by decide +kernel)) (goodIn_sb (fun _ h => (List.mem_cons_of_mem _ (List.mem_append_right _ h))) (by decide +kernel))))
set_option maxRecDepth 20000 in
theorem gX5_read_X7_fail : GoodIn wsX5_read (wsV RX5 49 RX7 yX7_fail wsX7_fail) := goodIn_app (good_rp ([117, 118, 119, 5] : List Nat) rfl (by decide +kernel)) ggX5_read_X7_fail
set_option maxRecDepth 20000 in
theorem ggX5_read_X7_kind : GoodIn wsX5_read wsX7_kind := (goodIn_cons (good_rb bq_wsX5_read ([(4, 19)] : List (Nat × Nat)) rfl (by decide +kernel)) (goodIn_app (good_rb bq_wsX5_read ([(0, 7), (0, 6), (3, 18)] : List (Nat × Nat)) rfl (by decide +kernel)) (goodIn_sb (fun _ h => (List.mem_cons_of_mem _ (List.mem_append_right _ h))) (by decide +kernel))))
set_option maxRecDepth 20000 in
theorem gX5_read_X7_kind : GoodIn wsX5_read (wsV RX5 45 RX7 yX7_kind wsX7_kind) := goodIn_app (good_rp ([113, 114, 115, 5] : List Nat) rfl (by decide +kernel)) ggX5_read_X7_kind
set_option maxRecDepth 20000 in
theorem ggX5_read_X7_take : GoodIn wsX5_read wsX7_take := (goodIn_cons (good_rb bq_wsX5_read ([(6, 2)] : List (Nat × Nat)) rfl (by decide +kernel)) (goodIn_app (good_rb bq_wsX5_read ([(6, 3), (4, 17), (4, 18), (0, 4), (4, 19), (0, 7), (0, 6), (3, 18), (6, 4), (5, 1), (5, 2), (5, 3)] : List (Nat × Nat)) rfl (by decide +kernel)) (goodIn_sb (fun _ h => (List.mem_cons_of_mem _ (List.mem_append_right _ h))) (by decide +kernel))))
set_option maxRecDepth 20000 in
theorem gX5_read_X7_take : GoodIn wsX5_read (wsV RX5 33 RX7 yX7_take wsX7_take) := goodIn_app (good_rp ([144, 145, 146, 5] : List Nat) rfl (by decide +kernel)) ggX5_read_X7_take
set_option maxRecDepth 20000 in
theorem bq_wsX5_takeOneOf : subq wsX5_takeOneOf [[.methodLink RX5 45 yX7_kind, .instanceMethod yX7_kind, .selects RX7 yX7_kind yX7_kind, .initialized RX7, .code yX7_kind cX7_kind 1 (some .int), .fieldLink RX7 32 "ChairCane$Tape" "at" "I", .fieldLink RX7 29 "ChairCane$Tape" "pieces" "I", .fieldLink RX7 19 "ChairCane$Tape" "kinds" "[I", .methodLink RX5 52 yX7_skip, .instanceMethod yX7_skip, .selects RX7 yX7_skip yX7_skip, .code yX7_skip cX7_skip 1 none]] := ⟨(fun _ h => (List.mem_cons_of_mem _ (List.mem_append_left _ h))), trivial⟩
set_option maxRecDepth 20000 in
theorem ggX5_takeOneOf_X7_kind : GoodIn wsX5_takeOneOf wsX7_kind := (goodIn_cons (good_rb bq_wsX5_takeOneOf ([(0, 4)] : List (Nat × Nat)) rfl (by decide +kernel)) (goodIn_app (good_rb bq_wsX5_takeOneOf ([(0, 5), (0, 6), (0, 7)] : List (Nat × Nat)) rfl (by decide +kernel)) (goodIn_sb (fun _ h => (List.mem_cons_of_mem _ (List.mem_append_right _ h))) (by decide +kernel))))
set_option maxRecDepth 20000 in
theorem gX5_takeOneOf_X7_kind : GoodIn wsX5_takeOneOf (wsV RX5 45 RX7 yX7_kind wsX7_kind) := goodIn_app (good_rp ([1, 2, 3, 4] : List Nat) rfl (by decide +kernel)) ggX5_takeOneOf_X7_kind
set_option maxRecDepth 20000 in
theorem ggX5_takeOneOf_X7_skip : GoodIn wsX5_takeOneOf wsX7_skip := (goodIn_cons (good_rb bq_wsX5_takeOneOf ([(0, 11)] : List (Nat × Nat)) rfl (by decide +kernel)) (goodIn_app (good_rb bq_wsX5_takeOneOf ([(0, 5), (0, 6)] : List (Nat × Nat)) rfl (by decide +kernel)) (goodIn_sb (fun _ h => (List.mem_cons_of_mem _ (List.mem_append_right _ h))) (by decide +kernel))))
set_option maxRecDepth 20000 in
theorem gX5_takeOneOf_X7_skip : GoodIn wsX5_takeOneOf (wsV RX5 52 RX7 yX7_skip wsX7_skip) := goodIn_app (good_rp ([9, 10, 11, 4] : List Nat) rfl (by decide +kernel)) ggX5_takeOneOf_X7_skip
noncomputable def f_X5_openClause (F : Nat)  (x1 : Int32) (tp : OB) : Option (Int32 × OB) :=
  Option.bind (f_X7_kind F tp) (fun q1 => (if q1 = 273 then (if x1 < 12 then (Option.bind (f_X7_skip F tp) (fun q4 => (some (1, q4)))) else (Option.bind (f_X7_fail F 4 tp) (fun q5 => (if bo q5.1 then (some (q5.1, q5.2)) else none)))) else (Option.bind (f_X7_fail F 0 tp) (fun q7 => (if bo q7.1 then (some (q7.1, q7.2)) else none)))))
set_option maxHeartbeats 4000000 in
set_option maxRecDepth 100000 in
theorem c_X5_openClause (l : Launch) (D : va_G) (k : Nat → ClassId) (sz : Nat)  (ta : Nat → Nat) (F : Nat)  (x1 : Int32) (tp : OB)  {res : Int32 × OB} (h : f_X5_openClause F x1 tp = some res) : CtI l yX5_openClause wsX5_openClause (rmK 2 0 0) [.ref (ta 0), .int x1] D k sz (tpW k ta tp) (fun r (_ : Unit) => r = res.1) (fun _ : Unit => tpW k ta res.2) 0 0 := by
  refine CtI.mk (cc := cX5_openClause) (maxL := 2) (ret := (some .boolean)) (by decide) rfl (Nat.le_of_ble_eq_true rfl) ?_
  intro p e s m below meth c A ls E hP hD hS hl
  obtain ⟨hx, hb, hr, hml, hown, hts, hlocks, hin, hG, hA⟩ := E
  have hown : s.vm.findClass RX5 = some m.cls := hown
  have in7 : ∀ w ∈ u_ws RX7 TX7 8, w ∈ wsX5_openClause := fun _ h => List.mem_cons_of_mem _ (List.mem_append_right _ h)
  have hl : lv_has ls 2 [(0, .ref (ta 0)), (1, .int x1)] := hl
  refine lv_aload_n hx hb dX5_openClause_0 rfl (lv_at hl 0 rfl) ?_
  refine fw_Vi (As := []) (rest := []) (n := 0) (wr := []) (rv := fun b : Int32 => b) (wp := fun b : Int32 => tpW k ta tp) h hx hb hml hown hts hG hA hP hD hS hl.1 (List.range (tpW k ta tp).length) [] (fun q hq9 => c_X7_kind l D k _  ta F  tp  hq9) (ci := 5) (q0 := 0) rfl rfl gX5_openClause_X7_kind rfl ⟨rfl, rfl, Nat.le_of_ble_eq_true rfl, Nat.le_of_ble_eq_true rfl⟩ (by decide +kernel) (al_C _) rfl (al_n _) ⟨rfl, rfl, Nat.le_of_ble_eq_true rfl, Nat.le_of_ble_eq_true rfl, Nat.le_of_ble_eq_true rfl⟩ dX5_openClause_1 (fun q1 H locs h hP hD hS => ?_)
  obtain ⟨hP, hD⟩ := cv (w' := tpW k ta tp) hP hD rfl
  refine hc_is (z := q1) rfl ?_
  refine lv_sipush (v := 273) hx hb dX5_openClause_4 (by decide) ?_
  refine lv_icmp_eq (tgt := 16) hx hb dX5_openClause_7 (by decide) (fun c2 => ?_) (fun c2 => ?_)
  · have h := fw_t c2 h
    refine lv_iload_n hx hb dX5_openClause_16 rfl (lv_at hl 1 rfl) ?_
    refine lv_bipush (v := 12) hx hb dX5_openClause_17 (by decide) ?_
    refine lv_icmp_lt (tgt := 28) hx hb dX5_openClause_19 (by decide) (fun c3 => ?_) (fun c3 => ?_)
    · have h := fw_t c3 h
      refine lv_aload_n hx hb dX5_openClause_28 rfl (lv_at hl 0 rfl) ?_
      refine fw_Vv (As := []) (rest := []) (n := 0) (wr := []) (wp := fun b : OB => tpW k ta b) h hx hb hml hown hts hG hA hP hD hS hl.1 (List.range (tpW k ta tp).length) [] (fun q hq9 => c_X7_skip l D k _  ta F  tp  hq9) (ci := 5) (q0 := 0) rfl rfl gX5_openClause_X7_skip rfl ⟨rfl, rfl, Nat.le_of_ble_eq_true rfl, Nat.le_of_ble_eq_true rfl⟩ (by decide +kernel) (al_C _) rfl (al_n _) ⟨rfl, rfl, Nat.le_of_ble_eq_true rfl, Nat.le_of_ble_eq_true rfl, Nat.le_of_ble_eq_true rfl⟩ dX5_openClause_29 (fun q4 H locs h hP hD hS => ?_)
      obtain ⟨hP, hD⟩ := cv (w' := tpW k ta q4) hP hD rfl
      refine lv_iconst (v := 1) hx hb dX5_openClause_32 (by decide) ?_
      exact fw_endZ (v := 1) (rv := fun b : Int32 × OB => b.1) (wp := fun b : Int32 × OB => tpW k ta b.2) hx hb hr hlocks h rfl rfl hP hD hS dX5_openClause_33
    · have h := fw_f c3 h
      refine lv_aload_n hx hb dX5_openClause_22 rfl (lv_at hl 0 rfl) ?_
      refine lv_iconst (v := 4) hx hb dX5_openClause_23 (by decide) ?_
      refine fw_Vi (As := [.int 4]) (rest := []) (n := 1) (wr := []) (rv := fun b : Int32 × OB => b.1) (wp := fun b : Int32 × OB => tpW k ta b.2) h hx hb hml hown hts hG hA hP hD hS hl.1 (List.range (tpW k ta tp).length) [] (fun q hq9 => c_X7_fail l D k _  ta F 4 tp  hq9) (ci := 5) (q0 := 0) rfl rfl gX5_openClause_X7_fail rfl ⟨rfl, rfl, Nat.le_of_ble_eq_true rfl, Nat.le_of_ble_eq_true rfl⟩ (by decide +kernel) (al_C _) rfl (al_n _) ⟨rfl, rfl, Nat.le_of_ble_eq_true rfl, Nat.le_of_ble_eq_true rfl, Nat.le_of_ble_eq_true rfl⟩ dX5_openClause_24 (fun q5 H locs h hP hD hS => ?_)
      obtain ⟨hP, hD⟩ := cv (w' := tpW k ta q5.2) hP hD rfl
      refine hc_is (z := q5.1) rfl ?_
      obtain ⟨g6, h⟩ := fw_g h
      exact fw_endZ (rv := fun b : Int32 × OB => b.1) (wp := fun b : Int32 × OB => tpW k ta b.2) hx hb hr hlocks h (bo_z g6) rfl hP hD hS dX5_openClause_27
  · have h := fw_f c2 h
    refine lv_aload_n hx hb dX5_openClause_10 rfl (lv_at hl 0 rfl) ?_
    refine lv_iconst (v := 0) hx hb dX5_openClause_11 (by decide) ?_
    refine fw_Vi (As := [.int 0]) (rest := []) (n := 1) (wr := []) (rv := fun b : Int32 × OB => b.1) (wp := fun b : Int32 × OB => tpW k ta b.2) h hx hb hml hown hts hG hA hP hD hS hl.1 (List.range (tpW k ta tp).length) [] (fun q hq9 => c_X7_fail l D k _  ta F 0 tp  hq9) (ci := 5) (q0 := 0) rfl rfl gX5_openClause_X7_fail rfl ⟨rfl, rfl, Nat.le_of_ble_eq_true rfl, Nat.le_of_ble_eq_true rfl⟩ (by decide +kernel) (al_C _) rfl (al_n _) ⟨rfl, rfl, Nat.le_of_ble_eq_true rfl, Nat.le_of_ble_eq_true rfl, Nat.le_of_ble_eq_true rfl⟩ dX5_openClause_12 (fun q7 H locs h hP hD hS => ?_)
    obtain ⟨hP, hD⟩ := cv (w' := tpW k ta q7.2) hP hD rfl
    refine hc_is (z := q7.1) rfl ?_
    obtain ⟨g8, h⟩ := fw_g h
    exact fw_endZ (rv := fun b : Int32 × OB => b.1) (wp := fun b : Int32 × OB => tpW k ta b.2) hx hb hr hlocks h (bo_z g8) rfl hP hD hS dX5_openClause_15
noncomputable def b_X5_takeOneOf_26 (F : Nat)    (v4 : Int32) (tp : OB) : Option (Int32 × OB) :=
  Option.bind (f_X7_skip F tp) (fun q1 => (some (v4, q1)))
noncomputable def f_X5_takeOneOf (F : Nat)  (x1 : Int32) (x2 : Int32) (x3 : Int32) (tp : OB) : Option (Int32 × OB) :=
  Option.bind (f_X7_kind F tp) (fun q2 => (if q2 = x1 then (b_X5_takeOneOf_26 F q2 tp) else (if q2 = x2 then (b_X5_takeOneOf_26 F q2 tp) else (if q2 = x3 then (b_X5_takeOneOf_26 F q2 tp) else (some ((-1), tp))))))
set_option maxHeartbeats 4000000 in
set_option maxRecDepth 100000 in
theorem c_X5_takeOneOf (l : Launch) (D : va_G) (k : Nat → ClassId) (sz : Nat)  (ta : Nat → Nat) (F : Nat)  (x1 : Int32) (x2 : Int32) (x3 : Int32) (tp : OB)  {res : Int32 × OB} (h : f_X5_takeOneOf F x1 x2 x3 tp = some res) : CtI l yX5_takeOneOf wsX5_takeOneOf (rmK 2 0 0) [.ref (ta 0), .int x1, .int x2, .int x3] D k sz (tpW k ta tp) (fun r (_ : Unit) => r = res.1) (fun _ : Unit => tpW k ta res.2) 0 0 := by
  refine CtI.mk (cc := cX5_takeOneOf) (maxL := 5) (ret := (some .int)) (by decide) rfl (Nat.le_of_ble_eq_true rfl) ?_
  intro p e s m below meth c A ls E hP hD hS hl
  obtain ⟨hx, hb, hr, hml, hown, hts, hlocks, hin, hG, hA⟩ := E
  have hown : s.vm.findClass RX5 = some m.cls := hown
  have in7 : ∀ w ∈ u_ws RX7 TX7 8, w ∈ wsX5_takeOneOf := fun _ h => List.mem_cons_of_mem _ (List.mem_append_right _ h)
  have hl : lv_has ls 5 [(0, .ref (ta 0)), (1, .int x1), (2, .int x2), (3, .int x3)] := hl
  have B26 : ∀ (v4 : Int32) (tp : OB) (H : Heap) (locs : List Loc) (ls : Array Slot), b_X5_takeOneOf_26 F v4 tp = some res → va_P D vwCl (tpW k ta tp) H → va_D A (tpW k ta tp) → va_S A s.heap H locs → lv_has ls 5 [(0, .ref (ta 0)), (4, .int v4)] → W p l e (rmK 2 0 0) s m (List.toArray [.ref (ta 0), .int x1, .int x2, .int x3]) below meth c H locs 0 0 (MQ below (va_Qi (fun r (_ : Unit) => r = res.1) (hcB D (fun _ : Unit => tpW k ta res.2) A) A) (List.toArray [.ref (ta 0), .int x1, .int x2, .int x3]) s 0 0 A) (F0 m 26 ls []) := by
    intro v4 tp H locs ls h hP hD hS hl
    refine lv_aload_n hx hb dX5_takeOneOf_26 rfl (lv_at hl 0 rfl) ?_
    refine fw_Vv (As := []) (rest := []) (n := 0) (wr := []) (wp := fun b : OB => tpW k ta b) h hx hb hml hown hts hG hA hP hD hS hl.1 (List.range (tpW k ta tp).length) [] (fun q hq9 => c_X7_skip l D k _  ta F  tp  hq9) (ci := 5) (q0 := 0) rfl rfl gX5_takeOneOf_X7_skip rfl ⟨rfl, rfl, Nat.le_of_ble_eq_true rfl, Nat.le_of_ble_eq_true rfl⟩ (by decide +kernel) (al_C _) rfl (al_n _) ⟨rfl, rfl, Nat.le_of_ble_eq_true rfl, Nat.le_of_ble_eq_true rfl, Nat.le_of_ble_eq_true rfl⟩ dX5_takeOneOf_27 (fun q1 H locs h hP hD hS => ?_)
    obtain ⟨hP, hD⟩ := cv (w' := tpW k ta q1) hP hD rfl
    refine lv_iload hx hb dX5_takeOneOf_30 (lv_at hl 1 rfl) ?_
    exact fw_endI (rv := fun b : Int32 × OB => b.1) (wp := fun b : Int32 × OB => tpW k ta b.2) hx hb hr hlocks h rfl hP hD hS dX5_takeOneOf_32
  refine lv_aload_n hx hb dX5_takeOneOf_0 rfl (lv_at hl 0 rfl) ?_
  refine fw_Vi (As := []) (rest := []) (n := 0) (wr := []) (rv := fun b : Int32 => b) (wp := fun b : Int32 => tpW k ta tp) h hx hb hml hown hts hG hA hP hD hS hl.1 (List.range (tpW k ta tp).length) [] (fun q hq9 => c_X7_kind l D k _  ta F  tp  hq9) (ci := 5) (q0 := 0) rfl rfl gX5_takeOneOf_X7_kind rfl ⟨rfl, rfl, Nat.le_of_ble_eq_true rfl, Nat.le_of_ble_eq_true rfl⟩ (by decide +kernel) (al_C _) rfl (al_n _) ⟨rfl, rfl, Nat.le_of_ble_eq_true rfl, Nat.le_of_ble_eq_true rfl, Nat.le_of_ble_eq_true rfl⟩ dX5_takeOneOf_1 (fun q2 H locs h hP hD hS => ?_)
  obtain ⟨hP, hD⟩ := cv (w' := tpW k ta tp) hP hD rfl
  refine hc_is (z := q2) rfl ?_
  refine lv_istore (lv' := [(4, .int q2), (0, .ref (ta 0)), (1, .int x1), (2, .int x2), (3, .int x3)]) hx hb dX5_takeOneOf_4 hl (by decide) rfl (fun ls hl => ?_)
  refine lv_iload hx hb dX5_takeOneOf_6 (lv_at hl 0 rfl) ?_
  refine lv_iload_n hx hb dX5_takeOneOf_8 rfl (lv_at hl 2 rfl) ?_
  refine lv_icmp_eq (tgt := 26) hx hb dX5_takeOneOf_9 (by decide) (fun c3 => ?_) (fun c3 => ?_)
  · have h := fw_t c3 h
    exact B26 _ _ _ _ _ h hP hD hS (lv_sub hl [1, 0] rfl)
  · have h := fw_f c3 h
    refine lv_iload hx hb dX5_takeOneOf_12 (lv_at hl 0 rfl) ?_
    refine lv_iload_n hx hb dX5_takeOneOf_14 rfl (lv_at hl 3 rfl) ?_
    refine lv_icmp_eq (tgt := 26) hx hb dX5_takeOneOf_15 (by decide) (fun c4 => ?_) (fun c4 => ?_)
    · have h := fw_t c4 h
      exact B26 _ _ _ _ _ h hP hD hS (lv_sub hl [1, 0] rfl)
    · have h := fw_f c4 h
      refine lv_iload hx hb dX5_takeOneOf_18 (lv_at hl 0 rfl) ?_
      refine lv_iload_n hx hb dX5_takeOneOf_20 rfl (lv_at hl 4 rfl) ?_
      refine lv_icmp_eq (tgt := 26) hx hb dX5_takeOneOf_21 (by decide) (fun c5 => ?_) (fun c5 => ?_)
      · have h := fw_t c5 h
        exact B26 _ _ _ _ _ h hP hD hS (lv_sub hl [1, 0] rfl)
      · have h := fw_f c5 h
        refine lv_iconst (v := (-1)) hx hb dX5_takeOneOf_24 (by decide) ?_
        exact fw_endI (rv := fun b : Int32 × OB => b.1) (wp := fun b : Int32 × OB => tpW k ta b.2) hx hb hr hlocks h rfl hP hD hS dX5_takeOneOf_25
noncomputable def b_X5_readValue_31 (F : Nat)    (tp : OB) (ru : OB) : Option (Int32 × OB × OB) :=
  Option.bind (f_X7_fail F 0 tp) (fun q1 => (if bo q1.1 then (some (q1.1, q1.2, ru)) else none))
noncomputable def b_X5_readValue_101 (F : Nat)    (y0 : Int32) (tp : OB) (ru : OB) : Option (Int32 × OB × OB) :=
  Option.bind (f_X4_add F y0 ru) (fun q3 => (some (1, tp, q3)))
noncomputable def b_X5_readValue_55 (F : Nat)    (v2 : Int32) (v3 : Int32) (tp : OB) (ru : OB) : Option (Int32 × OB × OB) :=
  if (ru.1 7) < 60 then (Option.bind (f_X7_skip F tp) (fun q5 => (if v2 = 259 then (b_X5_readValue_101 F (1000 + v3) q5 ((uF ru.1 7 ((ru.1 7) + 1)), ru.2.1, ru.2.2)) else (b_X5_readValue_101 F v2 q5 ((uF ru.1 7 ((ru.1 7) + 1)), ru.2.1, ru.2.2))))) else (Option.bind (f_X7_fail F 3 tp) (fun q7 => (if bo q7.1 then (some (q7.1, q7.2, ru)) else none)))
noncomputable def b_X5_readValue_37 (F : Nat)    (v2 : Int32) (v3 : Int32) (tp : OB) (ru : OB) : Option (Int32 × OB × OB) :=
  if v2 = 259 then (if v3 = (-1) then (Option.bind (f_X7_fail F 1 tp) (fun q11 => (if bo q11.1 then (some (q11.1, q11.2, ru)) else none))) else (b_X5_readValue_55 F v2 v3 tp ru)) else (b_X5_readValue_55 F v2 v3 tp ru)
noncomputable def f_X5_readValue (F : Nat)   (tp : OB) (ru : OB) : Option (Int32 × OB × OB) :=
  Option.bind (f_X7_kind F tp) (fun q13 => (Option.bind (f_X7_value F tp) (fun q14 => (if q13 = 259 then (b_X5_readValue_37 F q13 q14 tp ru) else (if q13 < 260 then (b_X5_readValue_31 F tp ru) else (if q13 ≤ 270 then (b_X5_readValue_37 F q13 q14 tp ru) else (b_X5_readValue_31 F tp ru)))))))
set_option maxHeartbeats 4000000 in
set_option maxRecDepth 100000 in
theorem c_X5_readValue (l : Launch) (D : va_G) (k : Nat → ClassId) (sz : Nat)  (ta : Nat → Nat) (qa : Nat → Nat) (F : Nat)   (tp : OB) (ru : OB)  {res : Int32 × OB × OB} (h : f_X5_readValue F tp ru = some res) : CtI l yX5_readValue wsX5_readValue (rmK 2 0 0) [.ref (ta 0), .ref (qa 0)] D k sz (tpW k ta tp ++ (ruW k qa ru)) (fun r (_ : Unit) => r = res.1) (fun _ : Unit => tpW k ta res.2.1 ++ (ruW k qa res.2.2)) 0 0 := by
  refine CtI.mk (cc := cX5_readValue) (maxL := 4) (ret := (some .boolean)) (by decide) rfl (Nat.le_of_ble_eq_true rfl) ?_
  intro p e s m below meth c A ls E hP hD hS hl
  obtain ⟨hx, hb, hr, hml, hown, hts, hlocks, hin, hG, hA⟩ := E
  have hown : s.vm.findClass RX5 = some m.cls := hown
  have in4 : ∀ w ∈ u_ws RX4 TX4 8, w ∈ wsX5_readValue := fun _ h => List.mem_cons_of_mem _ (List.mem_append_left _ (List.mem_append_right _ h))
  have in7 : ∀ w ∈ u_ws RX7 TX7 8, w ∈ wsX5_readValue := fun _ h => List.mem_cons_of_mem _ (List.mem_append_right _ h)
  have hl : lv_has ls 4 [(0, .ref (ta 0)), (1, .ref (qa 0))] := hl
  have B31 : ∀ (tp : OB) (ru : OB) (H : Heap) (locs : List Loc) (ls : Array Slot), b_X5_readValue_31 F tp ru = some res → va_P D vwCl (tpW k ta tp ++ (ruW k qa ru)) H → va_D A (tpW k ta tp ++ (ruW k qa ru)) → va_S A s.heap H locs → lv_has ls 4 [(0, .ref (ta 0))] → W p l e (rmK 2 0 0) s m (List.toArray [.ref (ta 0), .ref (qa 0)]) below meth c H locs 0 0 (MQ below (va_Qi (fun r (_ : Unit) => r = res.1) (hcB D (fun _ : Unit => tpW k ta res.2.1 ++ (ruW k qa res.2.2)) A) A) (List.toArray [.ref (ta 0), .ref (qa 0)]) s 0 0 A) (F0 m 31 ls []) := by
    intro tp ru H locs ls h hP hD hS hl
    refine lv_aload_n hx hb dX5_readValue_31 rfl (lv_at hl 0 rfl) ?_
    refine lv_iconst (v := 0) hx hb dX5_readValue_32 (by decide) ?_
    obtain ⟨hP, hD⟩ := qm hP hD (q_to [tpW k ta tp, ruW k qa ru] [0, 1] [0] [1] (by decide +kernel))
    refine fw_Vi (As := [.int 0]) (rest := []) (n := 1) (rv := fun b : Int32 × OB => b.1) (wp := fun b : Int32 × OB => tpW k ta b.2) h hx hb hml hown hts hG hA hP hD hS hl.1 _ _ (fun q hq9 => c_X7_fail l D k _  ta F 0 tp  hq9) (ci := 5) (q0 := 0) rfl rfl gX5_readValue_X7_fail rfl ⟨rfl, rfl, Nat.le_of_ble_eq_true rfl, Nat.le_of_ble_eq_true rfl⟩ (by decide +kernel) (q_l _ _) (q_r _ _) (q_nd _ _) ⟨rfl, rfl, Nat.le_of_ble_eq_true rfl, Nat.le_of_ble_eq_true rfl, Nat.le_of_ble_eq_true rfl⟩ dX5_readValue_33 (fun q1 H locs h hP hD hS => ?_)
    obtain ⟨hP, hD⟩ := qm (w2 := tpW k ta q1.2 ++ (ruW k qa ru)) hP hD (q_from [tpW k ta q1.2, ruW k qa ru] [1] [0] [0, 1] (by decide +kernel))
    refine hc_is (z := q1.1) rfl ?_
    obtain ⟨g2, h⟩ := fw_g h
    exact fw_endZ (rv := fun b : Int32 × OB × OB => b.1) (wp := fun b : Int32 × OB × OB => tpW k ta b.2.1 ++ (ruW k qa b.2.2)) hx hb hr hlocks h (bo_z g2) rfl hP hD hS dX5_readValue_36
  have B101 : ∀ (y0 : Int32) (tp : OB) (ru : OB) (H : Heap) (locs : List Loc) (ls : Array Slot), b_X5_readValue_101 F y0 tp ru = some res → va_P D vwCl (tpW k ta tp ++ (ruW k qa ru)) H → va_D A (tpW k ta tp ++ (ruW k qa ru)) → va_S A s.heap H locs → lv_has ls 4 [] → W p l e (rmK 2 0 0) s m (List.toArray [.ref (ta 0), .ref (qa 0)]) below meth c H locs 0 0 (MQ below (va_Qi (fun r (_ : Unit) => r = res.1) (hcB D (fun _ : Unit => tpW k ta res.2.1 ++ (ruW k qa res.2.2)) A) A) (List.toArray [.ref (ta 0), .ref (qa 0)]) s 0 0 A) (F0 m 101 ls [.int y0, .ref (qa 0)]) := by
    intro y0 tp ru H locs ls h hP hD hS hl
    obtain ⟨hP, hD⟩ := qm hP hD (q_to [tpW k ta tp, ruW k qa ru] [0, 1] [1] [0] (by decide +kernel))
    refine fw_Vv (As := [.int y0]) (rest := []) (n := 1) (wp := fun b : OB => ruW k qa b) h hx hb hml hown hts hG hA hP hD hS hl.1 _ _ (fun q hq9 => c_X4_add l D k _  qa F y0 ru  hq9) (ci := 3) (q0 := 0) rfl rfl gX5_readValue_X4_add rfl ⟨rfl, rfl, Nat.le_of_ble_eq_true rfl, Nat.le_of_ble_eq_true rfl⟩ (by decide +kernel) (q_l _ _) (q_r _ _) (q_nd _ _) ⟨rfl, rfl, Nat.le_of_ble_eq_true rfl, Nat.le_of_ble_eq_true rfl, Nat.le_of_ble_eq_true rfl⟩ dX5_readValue_101 (fun q3 H locs h hP hD hS => ?_)
    obtain ⟨hP, hD⟩ := qm (w2 := tpW k ta tp ++ (ruW k qa q3)) hP hD (q_from [tpW k ta tp, ruW k qa q3] [0] [1] [0, 1] (by decide +kernel))
    refine lv_iconst (v := 1) hx hb dX5_readValue_104 (by decide) ?_
    exact fw_endZ (v := 1) (rv := fun b : Int32 × OB × OB => b.1) (wp := fun b : Int32 × OB × OB => tpW k ta b.2.1 ++ (ruW k qa b.2.2)) hx hb hr hlocks h rfl rfl hP hD hS dX5_readValue_105
  have B55 : ∀ (v2 : Int32) (v3 : Int32) (tp : OB) (ru : OB) (H : Heap) (locs : List Loc) (ls : Array Slot), b_X5_readValue_55 F v2 v3 tp ru = some res → va_P D vwCl (tpW k ta tp ++ (ruW k qa ru)) H → va_D A (tpW k ta tp ++ (ruW k qa ru)) → va_S A s.heap H locs → lv_has ls 4 [(0, .ref (ta 0)), (1, .ref (qa 0)), (2, .int v2), (3, .int v3)] → W p l e (rmK 2 0 0) s m (List.toArray [.ref (ta 0), .ref (qa 0)]) below meth c H locs 0 0 (MQ below (va_Qi (fun r (_ : Unit) => r = res.1) (hcB D (fun _ : Unit => tpW k ta res.2.1 ++ (ruW k qa res.2.2)) A) A) (List.toArray [.ref (ta 0), .ref (qa 0)]) s 0 0 A) (F0 m 55 ls []) := by
    intro v2 v3 tp ru H locs ls h hP hD hS hl
    refine lv_aload_n hx hb dX5_readValue_55 rfl (lv_at hl 1 rfl) ?_
    refine va_get (D := D) (ci := 3) (v := .int (ru.1 7)) (C := RX4) (T := TX4) (N := 8) hx hb hts in4 hown hG.1 hP 5 rfl rfl 7 (by decide) (hts (.fieldLink RX5 65 "ChairCane$Rule" "units" "I") (mem_b bq_wsX5_readValue 0 0 rfl)) (fun _ h9 => h9) rfl dX5_readValue_56 ?_
    refine lv_bipush (v := 60) hx hb dX5_readValue_59 (by decide) ?_
    refine lv_icmp_lt (tgt := 70) hx hb dX5_readValue_61 (by decide) (fun c4 => ?_) (fun c4 => ?_)
    · have h := fw_t c4 h
      refine lv_aload_n hx hb dX5_readValue_70 rfl (lv_at hl 1 rfl) ?_
      refine lv_dup hx hb dX5_readValue_71 rfl ?_
      refine va_get (D := D) (ci := 3) (v := .int (ru.1 7)) (C := RX4) (T := TX4) (N := 8) hx hb hts in4 hown hG.1 hP 5 rfl rfl 7 (by decide) (hts (.fieldLink RX5 65 "ChairCane$Rule" "units" "I") (mem_b bq_wsX5_readValue 0 0 rfl)) (fun _ h9 => h9) rfl dX5_readValue_72 ?_
      refine lv_iconst (v := 1) hx hb dX5_readValue_75 (by decide) ?_
      refine lv_iadd hx hb dX5_readValue_76 ?_
      refine va_put (D := D) (ci := 3) (v := .int ((ru.1 7) + 1)) (C := RX4) (T := TX4) (N := 8) hx hb hts in4 tyX4 tyX4_ok nmX4 hown hG.1 hP hD hS 5 rfl rfl 7 (by decide) (hts (.fieldLink RX5 65 "ChairCane$Rule" "units" "I") (mem_b bq_wsX5_readValue 0 0 rfl)) (fun _ h9 => h9) rfl (tyX4_ok 7 (by decide)) rfl rfl (Nat.le_of_ble_eq_true rfl) dX5_readValue_77 (fun H locs hP hD hS => ?_)
      refine lv_aload_n hx hb dX5_readValue_80 rfl (lv_at hl 0 rfl) ?_
      obtain ⟨hP, hD⟩ := cv (w' := tpW k ta tp ++ (ruW k qa ((uF ru.1 7 ((ru.1 7) + 1)), ru.2.1, ru.2.2))) hP hD rfl
      obtain ⟨hP, hD⟩ := qm hP hD (q_to [tpW k ta tp, ruW k qa ((uF ru.1 7 ((ru.1 7) + 1)), ru.2.1, ru.2.2)] [0, 1] [0] [1] (by decide +kernel))
      refine fw_Vv (As := []) (rest := []) (n := 0) (wp := fun b : OB => tpW k ta b) h hx hb hml hown hts hG hA hP hD hS hl.1 _ _ (fun q hq9 => c_X7_skip l D k _  ta F  tp  hq9) (ci := 5) (q0 := 0) rfl rfl gX5_readValue_X7_skip rfl ⟨rfl, rfl, Nat.le_of_ble_eq_true rfl, Nat.le_of_ble_eq_true rfl⟩ (by decide +kernel) (q_l _ _) (q_r _ _) (q_nd _ _) ⟨rfl, rfl, Nat.le_of_ble_eq_true rfl, Nat.le_of_ble_eq_true rfl, Nat.le_of_ble_eq_true rfl⟩ dX5_readValue_81 (fun q5 H locs h hP hD hS => ?_)
      obtain ⟨hP, hD⟩ := qm (w2 := tpW k ta q5 ++ (ruW k qa ((uF ru.1 7 ((ru.1 7) + 1)), ru.2.1, ru.2.2))) hP hD (q_from [tpW k ta q5, ruW k qa ((uF ru.1 7 ((ru.1 7) + 1)), ru.2.1, ru.2.2)] [1] [0] [0, 1] (by decide +kernel))
      refine lv_aload_n hx hb dX5_readValue_84 rfl (lv_at hl 1 rfl) ?_
      refine lv_iload_n hx hb dX5_readValue_85 rfl (lv_at hl 2 rfl) ?_
      refine lv_sipush (v := 259) hx hb dX5_readValue_86 (by decide) ?_
      refine lv_icmp_ne (tgt := 100) hx hb dX5_readValue_89 (by decide) (fun c6 => ?_) (fun c6 => ?_)
      · have h := fw_f c6 h
        refine lv_iload_n hx hb dX5_readValue_100 rfl (lv_at hl 2 rfl) ?_
        exact B101 _ _ _ _ _ _ h hP hD hS (lv_sub hl [] rfl)
      · have h := fw_t c6 h
        refine lv_sipush (v := 1000) hx hb dX5_readValue_92 (by decide) ?_
        refine lv_iload_n hx hb dX5_readValue_95 rfl (lv_at hl 3 rfl) ?_
        refine lv_iadd hx hb dX5_readValue_96 ?_
        refine lv_goto (tgt := 101) hx hb dX5_readValue_97 (by decide) ?_
        exact B101 _ _ _ _ _ _ h hP hD hS (lv_sub hl [] rfl)
    · have h := fw_f c4 h
      refine lv_aload_n hx hb dX5_readValue_64 rfl (lv_at hl 0 rfl) ?_
      refine lv_iconst (v := 3) hx hb dX5_readValue_65 (by decide) ?_
      obtain ⟨hP, hD⟩ := qm hP hD (q_to [tpW k ta tp, ruW k qa ru] [0, 1] [0] [1] (by decide +kernel))
      refine fw_Vi (As := [.int 3]) (rest := []) (n := 1) (rv := fun b : Int32 × OB => b.1) (wp := fun b : Int32 × OB => tpW k ta b.2) h hx hb hml hown hts hG hA hP hD hS hl.1 _ _ (fun q hq9 => c_X7_fail l D k _  ta F 3 tp  hq9) (ci := 5) (q0 := 0) rfl rfl gX5_readValue_X7_fail rfl ⟨rfl, rfl, Nat.le_of_ble_eq_true rfl, Nat.le_of_ble_eq_true rfl⟩ (by decide +kernel) (q_l _ _) (q_r _ _) (q_nd _ _) ⟨rfl, rfl, Nat.le_of_ble_eq_true rfl, Nat.le_of_ble_eq_true rfl, Nat.le_of_ble_eq_true rfl⟩ dX5_readValue_66 (fun q7 H locs h hP hD hS => ?_)
      obtain ⟨hP, hD⟩ := qm (w2 := tpW k ta q7.2 ++ (ruW k qa ru)) hP hD (q_from [tpW k ta q7.2, ruW k qa ru] [1] [0] [0, 1] (by decide +kernel))
      refine hc_is (z := q7.1) rfl ?_
      obtain ⟨g8, h⟩ := fw_g h
      exact fw_endZ (rv := fun b : Int32 × OB × OB => b.1) (wp := fun b : Int32 × OB × OB => tpW k ta b.2.1 ++ (ruW k qa b.2.2)) hx hb hr hlocks h (bo_z g8) rfl hP hD hS dX5_readValue_69
  have B37 : ∀ (v2 : Int32) (v3 : Int32) (tp : OB) (ru : OB) (H : Heap) (locs : List Loc) (ls : Array Slot), b_X5_readValue_37 F v2 v3 tp ru = some res → va_P D vwCl (tpW k ta tp ++ (ruW k qa ru)) H → va_D A (tpW k ta tp ++ (ruW k qa ru)) → va_S A s.heap H locs → lv_has ls 4 [(0, .ref (ta 0)), (1, .ref (qa 0)), (2, .int v2), (3, .int v3)] → W p l e (rmK 2 0 0) s m (List.toArray [.ref (ta 0), .ref (qa 0)]) below meth c H locs 0 0 (MQ below (va_Qi (fun r (_ : Unit) => r = res.1) (hcB D (fun _ : Unit => tpW k ta res.2.1 ++ (ruW k qa res.2.2)) A) A) (List.toArray [.ref (ta 0), .ref (qa 0)]) s 0 0 A) (F0 m 37 ls []) := by
    intro v2 v3 tp ru H locs ls h hP hD hS hl
    refine lv_iload_n hx hb dX5_readValue_37 rfl (lv_at hl 2 rfl) ?_
    refine lv_sipush (v := 259) hx hb dX5_readValue_38 (by decide) ?_
    refine lv_icmp_ne (tgt := 55) hx hb dX5_readValue_41 (by decide) (fun c9 => ?_) (fun c9 => ?_)
    · have h := fw_f c9 h
      exact B55 _ _ _ _ _ _ _ h hP hD hS hl
    · have h := fw_t c9 h
      refine lv_iload_n hx hb dX5_readValue_44 rfl (lv_at hl 3 rfl) ?_
      refine lv_iconst (v := (-1)) hx hb dX5_readValue_45 (by decide) ?_
      refine lv_icmp_ne (tgt := 55) hx hb dX5_readValue_46 (by decide) (fun c10 => ?_) (fun c10 => ?_)
      · have h := fw_f c10 h
        exact B55 _ _ _ _ _ _ _ h hP hD hS hl
      · have h := fw_t c10 h
        refine lv_aload_n hx hb dX5_readValue_49 rfl (lv_at hl 0 rfl) ?_
        refine lv_iconst (v := 1) hx hb dX5_readValue_50 (by decide) ?_
        obtain ⟨hP, hD⟩ := qm hP hD (q_to [tpW k ta tp, ruW k qa ru] [0, 1] [0] [1] (by decide +kernel))
        refine fw_Vi (As := [.int 1]) (rest := []) (n := 1) (rv := fun b : Int32 × OB => b.1) (wp := fun b : Int32 × OB => tpW k ta b.2) h hx hb hml hown hts hG hA hP hD hS hl.1 _ _ (fun q hq9 => c_X7_fail l D k _  ta F 1 tp  hq9) (ci := 5) (q0 := 0) rfl rfl gX5_readValue_X7_fail rfl ⟨rfl, rfl, Nat.le_of_ble_eq_true rfl, Nat.le_of_ble_eq_true rfl⟩ (by decide +kernel) (q_l _ _) (q_r _ _) (q_nd _ _) ⟨rfl, rfl, Nat.le_of_ble_eq_true rfl, Nat.le_of_ble_eq_true rfl, Nat.le_of_ble_eq_true rfl⟩ dX5_readValue_51 (fun q11 H locs h hP hD hS => ?_)
        obtain ⟨hP, hD⟩ := qm (w2 := tpW k ta q11.2 ++ (ruW k qa ru)) hP hD (q_from [tpW k ta q11.2, ruW k qa ru] [1] [0] [0, 1] (by decide +kernel))
        refine hc_is (z := q11.1) rfl ?_
        obtain ⟨g12, h⟩ := fw_g h
        exact fw_endZ (rv := fun b : Int32 × OB × OB => b.1) (wp := fun b : Int32 × OB × OB => tpW k ta b.2.1 ++ (ruW k qa b.2.2)) hx hb hr hlocks h (bo_z g12) rfl hP hD hS dX5_readValue_54
  refine lv_aload_n hx hb dX5_readValue_0 rfl (lv_at hl 0 rfl) ?_
  obtain ⟨hP, hD⟩ := qm hP hD (q_to [tpW k ta tp, ruW k qa ru] [0, 1] [0] [1] (by decide +kernel))
  refine fw_Vi (As := []) (rest := []) (n := 0) (rv := fun b : Int32 => b) (wp := fun b : Int32 => tpW k ta tp) h hx hb hml hown hts hG hA hP hD hS hl.1 _ _ (fun q hq9 => c_X7_kind l D k _  ta F  tp  hq9) (ci := 5) (q0 := 0) rfl rfl gX5_readValue_X7_kind rfl ⟨rfl, rfl, Nat.le_of_ble_eq_true rfl, Nat.le_of_ble_eq_true rfl⟩ (by decide +kernel) (q_l _ _) (q_r _ _) (q_nd _ _) ⟨rfl, rfl, Nat.le_of_ble_eq_true rfl, Nat.le_of_ble_eq_true rfl, Nat.le_of_ble_eq_true rfl⟩ dX5_readValue_1 (fun q13 H locs h hP hD hS => ?_)
  obtain ⟨hP, hD⟩ := qm (w2 := tpW k ta tp ++ (ruW k qa ru)) hP hD (q_from [tpW k ta tp, ruW k qa ru] [1] [0] [0, 1] (by decide +kernel))
  refine hc_is (z := q13) rfl ?_
  refine lv_istore_n (lv' := [(2, .int q13), (0, .ref (ta 0)), (1, .ref (qa 0))]) hx hb dX5_readValue_4 rfl hl (by decide) rfl (fun ls hl => ?_)
  refine lv_aload_n hx hb dX5_readValue_5 rfl (lv_at hl 1 rfl) ?_
  obtain ⟨hP, hD⟩ := qm hP hD (q_to [tpW k ta tp, ruW k qa ru] [0, 1] [0] [1] (by decide +kernel))
  refine fw_Vi (As := []) (rest := []) (n := 0) (rv := fun b : Int32 => b) (wp := fun b : Int32 => tpW k ta tp) h hx hb hml hown hts hG hA hP hD hS hl.1 _ _ (fun q hq9 => c_X7_value l D k _  ta F  tp  hq9) (ci := 5) (q0 := 0) rfl rfl gX5_readValue_X7_value rfl ⟨rfl, rfl, Nat.le_of_ble_eq_true rfl, Nat.le_of_ble_eq_true rfl⟩ (by decide +kernel) (q_l _ _) (q_r _ _) (q_nd _ _) ⟨rfl, rfl, Nat.le_of_ble_eq_true rfl, Nat.le_of_ble_eq_true rfl, Nat.le_of_ble_eq_true rfl⟩ dX5_readValue_6 (fun q14 H locs h hP hD hS => ?_)
  obtain ⟨hP, hD⟩ := qm (w2 := tpW k ta tp ++ (ruW k qa ru)) hP hD (q_from [tpW k ta tp, ruW k qa ru] [1] [0] [0, 1] (by decide +kernel))
  refine hc_is (z := q14) rfl ?_
  refine lv_istore_n (lv' := [(3, .int q14), (2, .int q13), (0, .ref (ta 0)), (1, .ref (qa 0))]) hx hb dX5_readValue_9 rfl hl (by decide) rfl (fun ls hl => ?_)
  refine lv_iload_n hx hb dX5_readValue_10 rfl (lv_at hl 1 rfl) ?_
  refine lv_sipush (v := 259) hx hb dX5_readValue_11 (by decide) ?_
  refine lv_icmp_eq (tgt := 37) hx hb dX5_readValue_14 (by decide) (fun c15 => ?_) (fun c15 => ?_)
  · have h := fw_t c15 h
    exact B37 _ _ _ _ _ _ _ h hP hD hS (lv_sub hl [2, 3, 1, 0] rfl)
  · have h := fw_f c15 h
    refine lv_iload_n hx hb dX5_readValue_17 rfl (lv_at hl 1 rfl) ?_
    refine lv_sipush (v := 260) hx hb dX5_readValue_18 (by decide) ?_
    refine lv_icmp_lt (tgt := 31) hx hb dX5_readValue_21 (by decide) (fun c16 => ?_) (fun c16 => ?_)
    · have h := fw_t c16 h
      exact B31 _ _ _ _ _ h hP hD hS (lv_sub hl [2] rfl)
    · have h := fw_f c16 h
      refine lv_iload_n hx hb dX5_readValue_24 rfl (lv_at hl 1 rfl) ?_
      refine lv_sipush (v := 270) hx hb dX5_readValue_25 (by decide) ?_
      refine lv_icmp_le (tgt := 37) hx hb dX5_readValue_28 (by decide) (fun c17 => ?_) (fun c17 => ?_)
      · have h := fw_t c17 h
        exact B37 _ _ _ _ _ _ _ h hP hD hS (lv_sub hl [2, 3, 1, 0] rfl)
      · have h := fw_f c17 h
        exact B31 _ _ _ _ _ h hP hD hS (lv_sub hl [2] rfl)
noncomputable def b_X5_readSum_79 (F : Nat)   (k7 : (Int32 × Int32 × Int32 × OB × OB) → Option (Int32 × OB × OB)) (v2 : Int32) (v3 : Int32) (v4 : Int32) (tp : OB) (ru : OB) : Option (Int32 × OB × OB) :=
  k7 (v2, v3, (v4 + 1), tp, ru)
noncomputable def b_X5_readSum_61 (F : Nat)   (k7 : (Int32 × Int32 × Int32 × OB × OB) → Option (Int32 × OB × OB)) (v3 : Int32) (v4 : Int32) (tp : OB) (ru : OB) : Option (Int32 × OB × OB) :=
  Option.bind (f_X5_takeOneOf F 43 45 45 tp) (fun q1 => (if q1.1 = (-1) then (some (1, q1.2, ru)) else (b_X5_readSum_79 F k7 q1.1 v3 v4 q1.2 ru)))
noncomputable def b_X5_readSum_35 (F : Nat)   (k7 : (Int32 × Int32 × Int32 × OB × OB) → Option (Int32 × OB × OB)) (v2 : Int32) (v4 : Int32) (tp : OB) (ru : OB) : Option (Int32 × OB × OB) :=
  Option.bind (f_X5_takeOneOf F 42 47 37 tp) (fun q3 => (if q3.1 = (-1) then (if v2 = (-1) then (b_X5_readSum_61 F k7 q3.1 v4 q3.2 ru) else (Option.bind (f_X4_add F v2 ru) (fun q6 => (b_X5_readSum_61 F k7 q3.1 v4 q3.2 q6)))) else (b_X5_readSum_79 F k7 v2 q3.1 v4 q3.2 ru)))
noncomputable def b_X5_readSum_7 (F : Nat)    (k7 : (Int32 × Int32 × Int32 × OB × OB) → Option (Int32 × OB × OB)) (a7 : (Int32 × Int32 × Int32 × OB × OB)) : Option (Int32 × OB × OB) :=
  if 400 ≤ a7.2.2.1 then (some (0, a7.2.2.2.1, a7.2.2.2.2)) else (Option.bind (f_X5_readValue F a7.2.2.2.1 a7.2.2.2.2) (fun q8 => (if q8.1 = 0 then (some (0, q8.2.1, q8.2.2)) else (if a7.2.1 = (-1) then (b_X5_readSum_35 F k7 a7.1 a7.2.2.1 q8.2.1 q8.2.2) else (Option.bind (f_X4_add F a7.2.1 q8.2.2) (fun q11 => (b_X5_readSum_35 F k7 a7.1 a7.2.2.1 q8.2.1 q11)))))))
noncomputable def f_X5_readSum (F : Nat)   (tp : OB) (ru : OB) : Option (Int32 × OB × OB) :=
  lp (b_X5_readSum_7 F) F ((-1), (-1), 0, tp, ru)
set_option maxHeartbeats 4000000 in
set_option maxRecDepth 100000 in
theorem c_X5_readSum (l : Launch) (D : va_G) (k : Nat → ClassId) (sz : Nat)  (ta : Nat → Nat) (qa : Nat → Nat) (F : Nat)   (tp : OB) (ru : OB)  {res : Int32 × OB × OB} (h : f_X5_readSum F tp ru = some res) : CtI l yX5_readSum wsX5_readSum (rmK 3 0 0) [.ref (ta 0), .ref (qa 0)] D k sz (tpW k ta tp ++ (ruW k qa ru)) (fun r (_ : Unit) => r = res.1) (fun _ : Unit => tpW k ta res.2.1 ++ (ruW k qa res.2.2)) 0 0 := by
  refine CtI.mk (cc := cX5_readSum) (maxL := 5) (ret := (some .boolean)) (by decide) rfl (Nat.le_of_ble_eq_true rfl) ?_
  intro p e s m below meth c A ls E hP hD hS hl
  obtain ⟨hx, hb, hr, hml, hown, hts, hlocks, hin, hG, hA⟩ := E
  have hown : s.vm.findClass RX5 = some m.cls := hown
  have in4 : ∀ w ∈ u_ws RX4 TX4 8, w ∈ wsX5_readSum := fun _ h => List.mem_cons_of_mem _ (List.mem_append_left _ (List.mem_append_right _ h))
  have in7 : ∀ w ∈ u_ws RX7 TX7 8, w ∈ wsX5_readSum := fun _ h => List.mem_cons_of_mem _ (List.mem_append_right _ h)
  have hl : lv_has ls 5 [(0, .ref (ta 0)), (1, .ref (qa 0))] := hl
  have B7 : ∀ a7 : (Int32 × Int32 × Int32 × OB × OB), lp (b_X5_readSum_7 F) F a7 = some res → ∀ (H : Heap) (locs : List Loc) (ls : Array Slot), va_P D vwCl (tpW k ta a7.2.2.2.1 ++ (ruW k qa a7.2.2.2.2)) H → va_D A (tpW k ta a7.2.2.2.1 ++ (ruW k qa a7.2.2.2.2)) → va_S A s.heap H locs → lv_has ls 5 [(0, .ref (ta 0)), (1, .ref (qa 0)), (2, .int a7.1), (3, .int a7.2.1), (4, .int a7.2.2.1)] → W p l e (rmK 3 0 0) s m (List.toArray [.ref (ta 0), .ref (qa 0)]) below meth c H locs 0 0 (MQ below (va_Qi (fun r (_ : Unit) => r = res.1) (hcB D (fun _ : Unit => tpW k ta res.2.1 ++ (ruW k qa res.2.2)) A) A) (List.toArray [.ref (ta 0), .ref (qa 0)]) s 0 0 A) (F0 m 7 ls []) := by
    refine lp_W ?_ F
    intro k7 hk7 a7 h H locs ls hP hD hS hl
    have hc7 : ∀ (v2 : Int32) (v3 : Int32) (v4 : Int32) (tp : OB) (ru : OB), k7 (v2, v3, v4, tp, ru) = some res → ∀ (H : Heap) (locs : List Loc) (ls : Array Slot), va_P D vwCl (tpW k ta tp ++ (ruW k qa ru)) H → va_D A (tpW k ta tp ++ (ruW k qa ru)) → va_S A s.heap H locs → lv_has ls 5 [(0, .ref (ta 0)), (1, .ref (qa 0)), (2, .int v2), (3, .int v3), (4, .int v4)] → W p l e (rmK 3 0 0) s m (List.toArray [.ref (ta 0), .ref (qa 0)]) below meth c H locs 0 0 (MQ below (va_Qi (fun r (_ : Unit) => r = res.1) (hcB D (fun _ : Unit => tpW k ta res.2.1 ++ (ruW k qa res.2.2)) A) A) (List.toArray [.ref (ta 0), .ref (qa 0)]) s 0 0 A) (F0 m 7 ls []) := fun v2 v3 v4 tp ru => hk7 (v2, v3, v4, tp, ru)
    have B79 : ∀ (v2 : Int32) (v3 : Int32) (v4 : Int32) (tp : OB) (ru : OB) (H : Heap) (locs : List Loc) (ls : Array Slot), b_X5_readSum_79 F k7 v2 v3 v4 tp ru = some res → va_P D vwCl (tpW k ta tp ++ (ruW k qa ru)) H → va_D A (tpW k ta tp ++ (ruW k qa ru)) → va_S A s.heap H locs → lv_has ls 5 [(0, .ref (ta 0)), (1, .ref (qa 0)), (2, .int v2), (3, .int v3), (4, .int v4)] → W p l e (rmK 3 0 0) s m (List.toArray [.ref (ta 0), .ref (qa 0)]) below meth c H locs 0 0 (MQ below (va_Qi (fun r (_ : Unit) => r = res.1) (hcB D (fun _ : Unit => tpW k ta res.2.1 ++ (ruW k qa res.2.2)) A) A) (List.toArray [.ref (ta 0), .ref (qa 0)]) s 0 0 A) (F0 m 79 ls []) := by
      intro v2 v3 v4 tp ru H locs ls h hP hD hS hl
      refine lv_iinc (v := (v4 + 1)) (lv' := [(4, .int (v4 + 1)), (0, .ref (ta 0)), (1, .ref (qa 0)), (2, .int v2), (3, .int v3)]) hx hb dX5_readSum_79 hl (k := 4) rfl rfl (by decide) rfl (fun ls hl => ?_)
      refine lv_goto (tgt := 7) hx hb dX5_readSum_82 (by decide) ?_
      exact hc7 _ _ _ _ _ h _ _ _ hP hD hS (lv_sub hl [1, 2, 3, 4, 0] rfl)
    have B61 : ∀ (v3 : Int32) (v4 : Int32) (tp : OB) (ru : OB) (H : Heap) (locs : List Loc) (ls : Array Slot), b_X5_readSum_61 F k7 v3 v4 tp ru = some res → va_P D vwCl (tpW k ta tp ++ (ruW k qa ru)) H → va_D A (tpW k ta tp ++ (ruW k qa ru)) → va_S A s.heap H locs → lv_has ls 5 [(0, .ref (ta 0)), (1, .ref (qa 0)), (3, .int v3), (4, .int v4)] → W p l e (rmK 3 0 0) s m (List.toArray [.ref (ta 0), .ref (qa 0)]) below meth c H locs 0 0 (MQ below (va_Qi (fun r (_ : Unit) => r = res.1) (hcB D (fun _ : Unit => tpW k ta res.2.1 ++ (ruW k qa res.2.2)) A) A) (List.toArray [.ref (ta 0), .ref (qa 0)]) s 0 0 A) (F0 m 61 ls []) := by
      intro v3 v4 tp ru H locs ls h hP hD hS hl
      refine lv_aload_n hx hb dX5_readSum_61 rfl (lv_at hl 0 rfl) ?_
      refine lv_bipush (v := 43) hx hb dX5_readSum_62 (by decide) ?_
      refine lv_bipush (v := 45) hx hb dX5_readSum_64 (by decide) ?_
      refine lv_bipush (v := 45) hx hb dX5_readSum_66 (by decide) ?_
      obtain ⟨hP, hD⟩ := qm hP hD (q_to [tpW k ta tp, ruW k qa ru] [0, 1] [0] [1] (by decide +kernel))
      refine fw_Si (As := [.ref (ta 0), .int 43, .int 45, .int 45]) (rest := []) (n := 4) (rv := fun b : Int32 × OB => b.1) (wp := fun b : Int32 × OB => tpW k ta b.2) h hx hb hml hown hts hG hA hP hD hS hl.1 _ _ (fun q hq9 => c_X5_takeOneOf l D k _  ta F 43 45 45 tp  hq9) gX5_readSum_X5_takeOneOf rfl ⟨rfl, rfl, Nat.le_of_ble_eq_true rfl, Nat.le_of_ble_eq_true rfl⟩ (by decide +kernel) (q_l _ _) (q_r _ _) (q_nd _ _) ⟨rfl, rfl, Nat.le_of_ble_eq_true rfl, Nat.le_of_ble_eq_true rfl, Nat.le_of_ble_eq_true rfl⟩ dX5_readSum_68 (fun q1 H locs h hP hD hS => ?_)
      obtain ⟨hP, hD⟩ := qm (w2 := tpW k ta q1.2 ++ (ruW k qa ru)) hP hD (q_from [tpW k ta q1.2, ruW k qa ru] [1] [0] [0, 1] (by decide +kernel))
      refine hc_is (z := q1.1) rfl ?_
      refine lv_istore_n (lv' := [(2, .int q1.1), (0, .ref (ta 0)), (1, .ref (qa 0)), (3, .int v3), (4, .int v4)]) hx hb dX5_readSum_71 rfl hl (by decide) rfl (fun ls hl => ?_)
      refine lv_iload_n hx hb dX5_readSum_72 rfl (lv_at hl 0 rfl) ?_
      refine lv_iconst (v := (-1)) hx hb dX5_readSum_73 (by decide) ?_
      refine lv_icmp_ne (tgt := 79) hx hb dX5_readSum_74 (by decide) (fun c2 => ?_) (fun c2 => ?_)
      · have h := fw_f c2 h
        exact B79 _ _ _ _ _ _ _ _ h hP hD hS (lv_sub hl [1, 2, 0, 3, 4] rfl)
      · have h := fw_t c2 h
        refine lv_iconst (v := 1) hx hb dX5_readSum_77 (by decide) ?_
        exact fw_endZ (v := 1) (rv := fun b : Int32 × OB × OB => b.1) (wp := fun b : Int32 × OB × OB => tpW k ta b.2.1 ++ (ruW k qa b.2.2)) hx hb hr hlocks h rfl rfl hP hD hS dX5_readSum_78
    have B35 : ∀ (v2 : Int32) (v4 : Int32) (tp : OB) (ru : OB) (H : Heap) (locs : List Loc) (ls : Array Slot), b_X5_readSum_35 F k7 v2 v4 tp ru = some res → va_P D vwCl (tpW k ta tp ++ (ruW k qa ru)) H → va_D A (tpW k ta tp ++ (ruW k qa ru)) → va_S A s.heap H locs → lv_has ls 5 [(0, .ref (ta 0)), (1, .ref (qa 0)), (2, .int v2), (4, .int v4)] → W p l e (rmK 3 0 0) s m (List.toArray [.ref (ta 0), .ref (qa 0)]) below meth c H locs 0 0 (MQ below (va_Qi (fun r (_ : Unit) => r = res.1) (hcB D (fun _ : Unit => tpW k ta res.2.1 ++ (ruW k qa res.2.2)) A) A) (List.toArray [.ref (ta 0), .ref (qa 0)]) s 0 0 A) (F0 m 35 ls []) := by
      intro v2 v4 tp ru H locs ls h hP hD hS hl
      refine lv_aload_n hx hb dX5_readSum_35 rfl (lv_at hl 0 rfl) ?_
      refine lv_bipush (v := 42) hx hb dX5_readSum_36 (by decide) ?_
      refine lv_bipush (v := 47) hx hb dX5_readSum_38 (by decide) ?_
      refine lv_bipush (v := 37) hx hb dX5_readSum_40 (by decide) ?_
      obtain ⟨hP, hD⟩ := qm hP hD (q_to [tpW k ta tp, ruW k qa ru] [0, 1] [0] [1] (by decide +kernel))
      refine fw_Si (As := [.ref (ta 0), .int 42, .int 47, .int 37]) (rest := []) (n := 4) (rv := fun b : Int32 × OB => b.1) (wp := fun b : Int32 × OB => tpW k ta b.2) h hx hb hml hown hts hG hA hP hD hS hl.1 _ _ (fun q hq9 => c_X5_takeOneOf l D k _  ta F 42 47 37 tp  hq9) gX5_readSum_X5_takeOneOf rfl ⟨rfl, rfl, Nat.le_of_ble_eq_true rfl, Nat.le_of_ble_eq_true rfl⟩ (by decide +kernel) (q_l _ _) (q_r _ _) (q_nd _ _) ⟨rfl, rfl, Nat.le_of_ble_eq_true rfl, Nat.le_of_ble_eq_true rfl, Nat.le_of_ble_eq_true rfl⟩ dX5_readSum_42 (fun q3 H locs h hP hD hS => ?_)
      obtain ⟨hP, hD⟩ := qm (w2 := tpW k ta q3.2 ++ (ruW k qa ru)) hP hD (q_from [tpW k ta q3.2, ruW k qa ru] [1] [0] [0, 1] (by decide +kernel))
      refine hc_is (z := q3.1) rfl ?_
      refine lv_istore_n (lv' := [(3, .int q3.1), (0, .ref (ta 0)), (1, .ref (qa 0)), (2, .int v2), (4, .int v4)]) hx hb dX5_readSum_45 rfl hl (by decide) rfl (fun ls hl => ?_)
      refine lv_iload_n hx hb dX5_readSum_46 rfl (lv_at hl 0 rfl) ?_
      refine lv_iconst (v := (-1)) hx hb dX5_readSum_47 (by decide) ?_
      refine lv_icmp_ne (tgt := 79) hx hb dX5_readSum_48 (by decide) (fun c4 => ?_) (fun c4 => ?_)
      · have h := fw_f c4 h
        exact B79 _ _ _ _ _ _ _ _ h hP hD hS (lv_sub hl [1, 2, 3, 0, 4] rfl)
      · have h := fw_t c4 h
        refine lv_iload_n hx hb dX5_readSum_51 rfl (lv_at hl 3 rfl) ?_
        refine lv_iconst (v := (-1)) hx hb dX5_readSum_52 (by decide) ?_
        refine lv_icmp_eq (tgt := 61) hx hb dX5_readSum_53 (by decide) (fun c5 => ?_) (fun c5 => ?_)
        · have h := fw_t c5 h
          exact B61 _ _ _ _ _ _ _ h hP hD hS (lv_sub hl [1, 2, 0, 4] rfl)
        · have h := fw_f c5 h
          refine lv_aload_n hx hb dX5_readSum_56 rfl (lv_at hl 2 rfl) ?_
          refine lv_iload_n hx hb dX5_readSum_57 rfl (lv_at hl 3 rfl) ?_
          obtain ⟨hP, hD⟩ := qm hP hD (q_to [tpW k ta q3.2, ruW k qa ru] [0, 1] [1] [0] (by decide +kernel))
          refine fw_Vv (As := [.int v2]) (rest := []) (n := 1) (wp := fun b : OB => ruW k qa b) h hx hb hml hown hts hG hA hP hD hS hl.1 _ _ (fun q hq9 => c_X4_add l D k _  qa F v2 ru  hq9) (ci := 3) (q0 := 0) rfl rfl gX5_readSum_X4_add rfl ⟨rfl, rfl, Nat.le_of_ble_eq_true rfl, Nat.le_of_ble_eq_true rfl⟩ (by decide +kernel) (q_l _ _) (q_r _ _) (q_nd _ _) ⟨rfl, rfl, Nat.le_of_ble_eq_true rfl, Nat.le_of_ble_eq_true rfl, Nat.le_of_ble_eq_true rfl⟩ dX5_readSum_58 (fun q6 H locs h hP hD hS => ?_)
          obtain ⟨hP, hD⟩ := qm (w2 := tpW k ta q3.2 ++ (ruW k qa q6)) hP hD (q_from [tpW k ta q3.2, ruW k qa q6] [0] [1] [0, 1] (by decide +kernel))
          exact B61 _ _ _ _ _ _ _ h hP hD hS (lv_sub hl [1, 2, 0, 4] rfl)
    refine lv_iload hx hb dX5_readSum_7 (lv_at hl 4 rfl) ?_
    refine lv_sipush (v := 400) hx hb dX5_readSum_9 (by decide) ?_
    refine lv_icmp_ge (tgt := 85) hx hb dX5_readSum_12 (by decide) (fun c7 => ?_) (fun c7 => ?_)
    · have h := fw_t c7 h
      refine lv_iconst (v := 0) hx hb dX5_readSum_85 (by decide) ?_
      exact fw_endZ (v := 0) (rv := fun b : Int32 × OB × OB => b.1) (wp := fun b : Int32 × OB × OB => tpW k ta b.2.1 ++ (ruW k qa b.2.2)) hx hb hr hlocks h rfl rfl hP hD hS dX5_readSum_86
    · have h := fw_f c7 h
      refine lv_aload_n hx hb dX5_readSum_15 rfl (lv_at hl 0 rfl) ?_
      refine lv_aload_n hx hb dX5_readSum_16 rfl (lv_at hl 1 rfl) ?_
      refine fw_Si (As := [.ref (ta 0), .ref (qa 0)]) (rest := []) (n := 2) (wr := []) (rv := fun b : Int32 × OB × OB => b.1) (wp := fun b : Int32 × OB × OB => tpW k ta b.2.1 ++ (ruW k qa b.2.2)) h hx hb hml hown hts hG hA hP hD hS hl.1 (List.range (tpW k ta a7.2.2.2.1 ++ (ruW k qa a7.2.2.2.2)).length) [] (fun q hq9 => c_X5_readValue l D k _  ta qa F  a7.2.2.2.1 a7.2.2.2.2  hq9) gX5_readSum_X5_readValue rfl ⟨rfl, rfl, Nat.le_of_ble_eq_true rfl, Nat.le_of_ble_eq_true rfl⟩ (by decide +kernel) (al_C _) rfl (al_n _) ⟨rfl, rfl, Nat.le_of_ble_eq_true rfl, Nat.le_of_ble_eq_true rfl, Nat.le_of_ble_eq_true rfl⟩ dX5_readSum_17 (fun q8 H locs h hP hD hS => ?_)
      obtain ⟨hP, hD⟩ := cv (w' := tpW k ta q8.2.1 ++ (ruW k qa q8.2.2)) hP hD rfl
      refine hc_is (z := q8.1) rfl ?_
      refine lv_if_ne (tgt := 25) hx hb dX5_readSum_20 (by decide) (fun c9 => ?_) (fun c9 => ?_)
      · have h := fw_f c9 h
        refine lv_iload_n hx hb dX5_readSum_25 rfl (lv_at hl 3 rfl) ?_
        refine lv_iconst (v := (-1)) hx hb dX5_readSum_26 (by decide) ?_
        refine lv_icmp_eq (tgt := 35) hx hb dX5_readSum_27 (by decide) (fun c10 => ?_) (fun c10 => ?_)
        · have h := fw_t c10 h
          exact B35 _ _ _ _ _ _ _ h hP hD hS (lv_sub hl [0, 1, 2, 4] rfl)
        · have h := fw_f c10 h
          refine lv_aload_n hx hb dX5_readSum_30 rfl (lv_at hl 1 rfl) ?_
          refine lv_iload_n hx hb dX5_readSum_31 rfl (lv_at hl 3 rfl) ?_
          obtain ⟨hP, hD⟩ := qm hP hD (q_to [tpW k ta q8.2.1, ruW k qa q8.2.2] [0, 1] [1] [0] (by decide +kernel))
          refine fw_Vv (As := [.int a7.2.1]) (rest := []) (n := 1) (wp := fun b : OB => ruW k qa b) h hx hb hml hown hts hG hA hP hD hS hl.1 _ _ (fun q hq9 => c_X4_add l D k _  qa F a7.2.1 q8.2.2  hq9) (ci := 3) (q0 := 0) rfl rfl gX5_readSum_X4_add rfl ⟨rfl, rfl, Nat.le_of_ble_eq_true rfl, Nat.le_of_ble_eq_true rfl⟩ (by decide +kernel) (q_l _ _) (q_r _ _) (q_nd _ _) ⟨rfl, rfl, Nat.le_of_ble_eq_true rfl, Nat.le_of_ble_eq_true rfl, Nat.le_of_ble_eq_true rfl⟩ dX5_readSum_32 (fun q11 H locs h hP hD hS => ?_)
          obtain ⟨hP, hD⟩ := qm (w2 := tpW k ta q8.2.1 ++ (ruW k qa q11)) hP hD (q_from [tpW k ta q8.2.1, ruW k qa q11] [0] [1] [0, 1] (by decide +kernel))
          exact B35 _ _ _ _ _ _ _ h hP hD hS (lv_sub hl [0, 1, 2, 4] rfl)
      · have h := fw_t c9 h
        refine lv_iconst (v := 0) hx hb dX5_readSum_23 (by decide) ?_
        exact fw_endZ (v := 0) (rv := fun b : Int32 × OB × OB => b.1) (wp := fun b : Int32 × OB × OB => tpW k ta b.2.1 ++ (ruW k qa b.2.2)) hx hb hr hlocks h rfl rfl hP hD hS dX5_readSum_24
  have C7 : ∀ (v2 : Int32) (v3 : Int32) (v4 : Int32) (tp : OB) (ru : OB), lp (b_X5_readSum_7 F) F (v2, v3, v4, tp, ru) = some res → ∀ (H : Heap) (locs : List Loc) (ls : Array Slot), va_P D vwCl (tpW k ta tp ++ (ruW k qa ru)) H → va_D A (tpW k ta tp ++ (ruW k qa ru)) → va_S A s.heap H locs → lv_has ls 5 [(0, .ref (ta 0)), (1, .ref (qa 0)), (2, .int v2), (3, .int v3), (4, .int v4)] → W p l e (rmK 3 0 0) s m (List.toArray [.ref (ta 0), .ref (qa 0)]) below meth c H locs 0 0 (MQ below (va_Qi (fun r (_ : Unit) => r = res.1) (hcB D (fun _ : Unit => tpW k ta res.2.1 ++ (ruW k qa res.2.2)) A) A) (List.toArray [.ref (ta 0), .ref (qa 0)]) s 0 0 A) (F0 m 7 ls []) := fun v2 v3 v4 tp ru => B7 (v2, v3, v4, tp, ru)
  refine lv_iconst (v := (-1)) hx hb dX5_readSum_0 (by decide) ?_
  refine lv_istore_n (lv' := [(2, .int (-1)), (0, .ref (ta 0)), (1, .ref (qa 0))]) hx hb dX5_readSum_1 rfl hl (by decide) rfl (fun ls hl => ?_)
  refine lv_iconst (v := (-1)) hx hb dX5_readSum_2 (by decide) ?_
  refine lv_istore_n (lv' := [(3, .int (-1)), (2, .int (-1)), (0, .ref (ta 0)), (1, .ref (qa 0))]) hx hb dX5_readSum_3 rfl hl (by decide) rfl (fun ls hl => ?_)
  refine lv_iconst (v := 0) hx hb dX5_readSum_4 (by decide) ?_
  refine lv_istore (lv' := [(4, .int 0), (3, .int (-1)), (2, .int (-1)), (0, .ref (ta 0)), (1, .ref (qa 0))]) hx hb dX5_readSum_5 hl (by decide) rfl (fun ls hl => ?_)
  exact C7 _ _ _ _ _ h _ _ _ hP hD hS (lv_sub hl [3, 4, 2, 1, 0] rfl)
noncomputable def b_X5_readComparison_53 (F : Nat)    (v2 : Int32) (tp : OB) (ru : OB) : Option (Int32 × OB × OB) :=
  if (ru.1 7) < 60 then (Option.bind (f_X7_skip F tp) (fun q2 => (Option.bind (f_X5_readSum F q2 ((uF ru.1 7 ((ru.1 7) + 1)), ru.2.1, ru.2.2)) (fun q3 => (if q3.1 = 0 then (some (0, q3.2.1, q3.2.2)) else (Option.bind (f_X4_add F v2 q3.2.2) (fun q5 => (some (1, q3.2.1, q5))))))))) else (Option.bind (f_X7_fail F 3 tp) (fun q6 => (if bo q6.1 then (some (q6.1, q6.2, ru)) else none)))
noncomputable def f_X5_readComparison (F : Nat)   (tp : OB) (ru : OB) : Option (Int32 × OB × OB) :=
  Option.bind (f_X5_readSum F tp ru) (fun q8 => (if q8.1 = 0 then (some (0, q8.2.1, q8.2.2)) else (Option.bind (f_X7_kind F q8.2.1) (fun q10 => (if q10 = 60 then (b_X5_readComparison_53 F q10 q8.2.1 q8.2.2) else (if q10 = 256 then (b_X5_readComparison_53 F q10 q8.2.1 q8.2.2) else (if q10 = 61 then (b_X5_readComparison_53 F q10 q8.2.1 q8.2.2) else (if q10 = 257 then (b_X5_readComparison_53 F q10 q8.2.1 q8.2.2) else (if q10 = 62 then (b_X5_readComparison_53 F q10 q8.2.1 q8.2.2) else (Option.bind (f_X7_fail F 0 q8.2.1) (fun q16 => (if bo q16.1 then (some (q16.1, q16.2, q8.2.2)) else none))))))))))))
set_option maxHeartbeats 4000000 in
set_option maxRecDepth 100000 in
theorem c_X5_readComparison (l : Launch) (D : va_G) (k : Nat → ClassId) (sz : Nat)  (ta : Nat → Nat) (qa : Nat → Nat) (F : Nat)   (tp : OB) (ru : OB)  {res : Int32 × OB × OB} (h : f_X5_readComparison F tp ru = some res) : CtI l yX5_readComparison wsX5_readComparison (rmK 4 0 0) [.ref (ta 0), .ref (qa 0)] D k sz (tpW k ta tp ++ (ruW k qa ru)) (fun r (_ : Unit) => r = res.1) (fun _ : Unit => tpW k ta res.2.1 ++ (ruW k qa res.2.2)) 0 0 := by
  refine CtI.mk (cc := cX5_readComparison) (maxL := 3) (ret := (some .boolean)) (by decide) rfl (Nat.le_of_ble_eq_true rfl) ?_
  intro p e s m below meth c A ls E hP hD hS hl
  obtain ⟨hx, hb, hr, hml, hown, hts, hlocks, hin, hG, hA⟩ := E
  have hown : s.vm.findClass RX5 = some m.cls := hown
  have in4 : ∀ w ∈ u_ws RX4 TX4 8, w ∈ wsX5_readComparison := fun _ h => List.mem_cons_of_mem _ (List.mem_append_left _ (List.mem_append_right _ h))
  have in7 : ∀ w ∈ u_ws RX7 TX7 8, w ∈ wsX5_readComparison := fun _ h => List.mem_cons_of_mem _ (List.mem_append_right _ h)
  have hl : lv_has ls 3 [(0, .ref (ta 0)), (1, .ref (qa 0))] := hl
  have B53 : ∀ (v2 : Int32) (tp : OB) (ru : OB) (H : Heap) (locs : List Loc) (ls : Array Slot), b_X5_readComparison_53 F v2 tp ru = some res → va_P D vwCl (tpW k ta tp ++ (ruW k qa ru)) H → va_D A (tpW k ta tp ++ (ruW k qa ru)) → va_S A s.heap H locs → lv_has ls 3 [(0, .ref (ta 0)), (1, .ref (qa 0)), (2, .int v2)] → W p l e (rmK 4 0 0) s m (List.toArray [.ref (ta 0), .ref (qa 0)]) below meth c H locs 0 0 (MQ below (va_Qi (fun r (_ : Unit) => r = res.1) (hcB D (fun _ : Unit => tpW k ta res.2.1 ++ (ruW k qa res.2.2)) A) A) (List.toArray [.ref (ta 0), .ref (qa 0)]) s 0 0 A) (F0 m 53 ls []) := by
    intro v2 tp ru H locs ls h hP hD hS hl
    refine lv_aload_n hx hb dX5_readComparison_53 rfl (lv_at hl 1 rfl) ?_
    refine va_get (D := D) (ci := 3) (v := .int (ru.1 7)) (C := RX4) (T := TX4) (N := 8) hx hb hts in4 hown hG.1 hP 5 rfl rfl 7 (by decide) (hts (.fieldLink RX5 65 "ChairCane$Rule" "units" "I") (mem_b bq_wsX5_readComparison 0 0 rfl)) (fun _ h9 => h9) rfl dX5_readComparison_54 ?_
    refine lv_bipush (v := 60) hx hb dX5_readComparison_57 (by decide) ?_
    refine lv_icmp_lt (tgt := 68) hx hb dX5_readComparison_59 (by decide) (fun c1 => ?_) (fun c1 => ?_)
    · have h := fw_t c1 h
      refine lv_aload_n hx hb dX5_readComparison_68 rfl (lv_at hl 1 rfl) ?_
      refine lv_dup hx hb dX5_readComparison_69 rfl ?_
      refine va_get (D := D) (ci := 3) (v := .int (ru.1 7)) (C := RX4) (T := TX4) (N := 8) hx hb hts in4 hown hG.1 hP 5 rfl rfl 7 (by decide) (hts (.fieldLink RX5 65 "ChairCane$Rule" "units" "I") (mem_b bq_wsX5_readComparison 0 0 rfl)) (fun _ h9 => h9) rfl dX5_readComparison_70 ?_
      refine lv_iconst (v := 1) hx hb dX5_readComparison_73 (by decide) ?_
      refine lv_iadd hx hb dX5_readComparison_74 ?_
      refine va_put (D := D) (ci := 3) (v := .int ((ru.1 7) + 1)) (C := RX4) (T := TX4) (N := 8) hx hb hts in4 tyX4 tyX4_ok nmX4 hown hG.1 hP hD hS 5 rfl rfl 7 (by decide) (hts (.fieldLink RX5 65 "ChairCane$Rule" "units" "I") (mem_b bq_wsX5_readComparison 0 0 rfl)) (fun _ h9 => h9) rfl (tyX4_ok 7 (by decide)) rfl rfl (Nat.le_of_ble_eq_true rfl) dX5_readComparison_75 (fun H locs hP hD hS => ?_)
      refine lv_aload_n hx hb dX5_readComparison_78 rfl (lv_at hl 0 rfl) ?_
      obtain ⟨hP, hD⟩ := cv (w' := tpW k ta tp ++ (ruW k qa ((uF ru.1 7 ((ru.1 7) + 1)), ru.2.1, ru.2.2))) hP hD rfl
      obtain ⟨hP, hD⟩ := qm hP hD (q_to [tpW k ta tp, ruW k qa ((uF ru.1 7 ((ru.1 7) + 1)), ru.2.1, ru.2.2)] [0, 1] [0] [1] (by decide +kernel))
      refine fw_Vv (As := []) (rest := []) (n := 0) (wp := fun b : OB => tpW k ta b) h hx hb hml hown hts hG hA hP hD hS hl.1 _ _ (fun q hq9 => c_X7_skip l D k _  ta F  tp  hq9) (ci := 5) (q0 := 0) rfl rfl gX5_readComparison_X7_skip rfl ⟨rfl, rfl, Nat.le_of_ble_eq_true rfl, Nat.le_of_ble_eq_true rfl⟩ (by decide +kernel) (q_l _ _) (q_r _ _) (q_nd _ _) ⟨rfl, rfl, Nat.le_of_ble_eq_true rfl, Nat.le_of_ble_eq_true rfl, Nat.le_of_ble_eq_true rfl⟩ dX5_readComparison_79 (fun q2 H locs h hP hD hS => ?_)
      obtain ⟨hP, hD⟩ := qm (w2 := tpW k ta q2 ++ (ruW k qa ((uF ru.1 7 ((ru.1 7) + 1)), ru.2.1, ru.2.2))) hP hD (q_from [tpW k ta q2, ruW k qa ((uF ru.1 7 ((ru.1 7) + 1)), ru.2.1, ru.2.2)] [1] [0] [0, 1] (by decide +kernel))
      refine lv_aload_n hx hb dX5_readComparison_82 rfl (lv_at hl 0 rfl) ?_
      refine lv_aload_n hx hb dX5_readComparison_83 rfl (lv_at hl 1 rfl) ?_
      refine fw_Si (As := [.ref (ta 0), .ref (qa 0)]) (rest := []) (n := 2) (wr := []) (rv := fun b : Int32 × OB × OB => b.1) (wp := fun b : Int32 × OB × OB => tpW k ta b.2.1 ++ (ruW k qa b.2.2)) h hx hb hml hown hts hG hA hP hD hS hl.1 (List.range (tpW k ta q2 ++ (ruW k qa ((uF ru.1 7 ((ru.1 7) + 1)), ru.2.1, ru.2.2))).length) [] (fun q hq9 => c_X5_readSum l D k _  ta qa F  q2 ((uF ru.1 7 ((ru.1 7) + 1)), ru.2.1, ru.2.2)  hq9) gX5_readComparison_X5_readSum rfl ⟨rfl, rfl, Nat.le_of_ble_eq_true rfl, Nat.le_of_ble_eq_true rfl⟩ (by decide +kernel) (al_C _) rfl (al_n _) ⟨rfl, rfl, Nat.le_of_ble_eq_true rfl, Nat.le_of_ble_eq_true rfl, Nat.le_of_ble_eq_true rfl⟩ dX5_readComparison_84 (fun q3 H locs h hP hD hS => ?_)
      obtain ⟨hP, hD⟩ := cv (w' := tpW k ta q3.2.1 ++ (ruW k qa q3.2.2)) hP hD rfl
      refine hc_is (z := q3.1) rfl ?_
      refine lv_if_ne (tgt := 92) hx hb dX5_readComparison_87 (by decide) (fun c4 => ?_) (fun c4 => ?_)
      · have h := fw_f c4 h
        refine lv_aload_n hx hb dX5_readComparison_92 rfl (lv_at hl 1 rfl) ?_
        refine lv_iload_n hx hb dX5_readComparison_93 rfl (lv_at hl 2 rfl) ?_
        obtain ⟨hP, hD⟩ := qm hP hD (q_to [tpW k ta q3.2.1, ruW k qa q3.2.2] [0, 1] [1] [0] (by decide +kernel))
        refine fw_Vv (As := [.int v2]) (rest := []) (n := 1) (wp := fun b : OB => ruW k qa b) h hx hb hml hown hts hG hA hP hD hS hl.1 _ _ (fun q hq9 => c_X4_add l D k _  qa F v2 q3.2.2  hq9) (ci := 3) (q0 := 0) rfl rfl gX5_readComparison_X4_add rfl ⟨rfl, rfl, Nat.le_of_ble_eq_true rfl, Nat.le_of_ble_eq_true rfl⟩ (by decide +kernel) (q_l _ _) (q_r _ _) (q_nd _ _) ⟨rfl, rfl, Nat.le_of_ble_eq_true rfl, Nat.le_of_ble_eq_true rfl, Nat.le_of_ble_eq_true rfl⟩ dX5_readComparison_94 (fun q5 H locs h hP hD hS => ?_)
        obtain ⟨hP, hD⟩ := qm (w2 := tpW k ta q3.2.1 ++ (ruW k qa q5)) hP hD (q_from [tpW k ta q3.2.1, ruW k qa q5] [0] [1] [0, 1] (by decide +kernel))
        refine lv_iconst (v := 1) hx hb dX5_readComparison_97 (by decide) ?_
        exact fw_endZ (v := 1) (rv := fun b : Int32 × OB × OB => b.1) (wp := fun b : Int32 × OB × OB => tpW k ta b.2.1 ++ (ruW k qa b.2.2)) hx hb hr hlocks h rfl rfl hP hD hS dX5_readComparison_98
      · have h := fw_t c4 h
        refine lv_iconst (v := 0) hx hb dX5_readComparison_90 (by decide) ?_
        exact fw_endZ (v := 0) (rv := fun b : Int32 × OB × OB => b.1) (wp := fun b : Int32 × OB × OB => tpW k ta b.2.1 ++ (ruW k qa b.2.2)) hx hb hr hlocks h rfl rfl hP hD hS dX5_readComparison_91
    · have h := fw_f c1 h
      refine lv_aload_n hx hb dX5_readComparison_62 rfl (lv_at hl 0 rfl) ?_
      refine lv_iconst (v := 3) hx hb dX5_readComparison_63 (by decide) ?_
      obtain ⟨hP, hD⟩ := qm hP hD (q_to [tpW k ta tp, ruW k qa ru] [0, 1] [0] [1] (by decide +kernel))
      refine fw_Vi (As := [.int 3]) (rest := []) (n := 1) (rv := fun b : Int32 × OB => b.1) (wp := fun b : Int32 × OB => tpW k ta b.2) h hx hb hml hown hts hG hA hP hD hS hl.1 _ _ (fun q hq9 => c_X7_fail l D k _  ta F 3 tp  hq9) (ci := 5) (q0 := 0) rfl rfl gX5_readComparison_X7_fail rfl ⟨rfl, rfl, Nat.le_of_ble_eq_true rfl, Nat.le_of_ble_eq_true rfl⟩ (by decide +kernel) (q_l _ _) (q_r _ _) (q_nd _ _) ⟨rfl, rfl, Nat.le_of_ble_eq_true rfl, Nat.le_of_ble_eq_true rfl, Nat.le_of_ble_eq_true rfl⟩ dX5_readComparison_64 (fun q6 H locs h hP hD hS => ?_)
      obtain ⟨hP, hD⟩ := qm (w2 := tpW k ta q6.2 ++ (ruW k qa ru)) hP hD (q_from [tpW k ta q6.2, ruW k qa ru] [1] [0] [0, 1] (by decide +kernel))
      refine hc_is (z := q6.1) rfl ?_
      obtain ⟨g7, h⟩ := fw_g h
      exact fw_endZ (rv := fun b : Int32 × OB × OB => b.1) (wp := fun b : Int32 × OB × OB => tpW k ta b.2.1 ++ (ruW k qa b.2.2)) hx hb hr hlocks h (bo_z g7) rfl hP hD hS dX5_readComparison_67
  refine lv_aload_n hx hb dX5_readComparison_0 rfl (lv_at hl 0 rfl) ?_
  refine lv_aload_n hx hb dX5_readComparison_1 rfl (lv_at hl 1 rfl) ?_
  refine fw_Si (As := [.ref (ta 0), .ref (qa 0)]) (rest := []) (n := 2) (wr := []) (rv := fun b : Int32 × OB × OB => b.1) (wp := fun b : Int32 × OB × OB => tpW k ta b.2.1 ++ (ruW k qa b.2.2)) h hx hb hml hown hts hG hA hP hD hS hl.1 (List.range (tpW k ta tp ++ (ruW k qa ru)).length) [] (fun q hq9 => c_X5_readSum l D k _  ta qa F  tp ru  hq9) gX5_readComparison_X5_readSum rfl ⟨rfl, rfl, Nat.le_of_ble_eq_true rfl, Nat.le_of_ble_eq_true rfl⟩ (by decide +kernel) (al_C _) rfl (al_n _) ⟨rfl, rfl, Nat.le_of_ble_eq_true rfl, Nat.le_of_ble_eq_true rfl, Nat.le_of_ble_eq_true rfl⟩ dX5_readComparison_2 (fun q8 H locs h hP hD hS => ?_)
  obtain ⟨hP, hD⟩ := cv (w' := tpW k ta q8.2.1 ++ (ruW k qa q8.2.2)) hP hD rfl
  refine hc_is (z := q8.1) rfl ?_
  refine lv_if_ne (tgt := 10) hx hb dX5_readComparison_5 (by decide) (fun c9 => ?_) (fun c9 => ?_)
  · have h := fw_f c9 h
    refine lv_aload_n hx hb dX5_readComparison_10 rfl (lv_at hl 0 rfl) ?_
    obtain ⟨hP, hD⟩ := qm hP hD (q_to [tpW k ta q8.2.1, ruW k qa q8.2.2] [0, 1] [0] [1] (by decide +kernel))
    refine fw_Vi (As := []) (rest := []) (n := 0) (rv := fun b : Int32 => b) (wp := fun b : Int32 => tpW k ta q8.2.1) h hx hb hml hown hts hG hA hP hD hS hl.1 _ _ (fun q hq9 => c_X7_kind l D k _  ta F  q8.2.1  hq9) (ci := 5) (q0 := 0) rfl rfl gX5_readComparison_X7_kind rfl ⟨rfl, rfl, Nat.le_of_ble_eq_true rfl, Nat.le_of_ble_eq_true rfl⟩ (by decide +kernel) (q_l _ _) (q_r _ _) (q_nd _ _) ⟨rfl, rfl, Nat.le_of_ble_eq_true rfl, Nat.le_of_ble_eq_true rfl, Nat.le_of_ble_eq_true rfl⟩ dX5_readComparison_11 (fun q10 H locs h hP hD hS => ?_)
    obtain ⟨hP, hD⟩ := qm (w2 := tpW k ta q8.2.1 ++ (ruW k qa q8.2.2)) hP hD (q_from [tpW k ta q8.2.1, ruW k qa q8.2.2] [1] [0] [0, 1] (by decide +kernel))
    refine hc_is (z := q10) rfl ?_
    refine lv_istore_n (lv' := [(2, .int q10), (0, .ref (ta 0)), (1, .ref (qa 0))]) hx hb dX5_readComparison_14 rfl hl (by decide) rfl (fun ls hl => ?_)
    refine lv_iload_n hx hb dX5_readComparison_15 rfl (lv_at hl 0 rfl) ?_
    refine lv_bipush (v := 60) hx hb dX5_readComparison_16 (by decide) ?_
    refine lv_icmp_eq (tgt := 53) hx hb dX5_readComparison_18 (by decide) (fun c11 => ?_) (fun c11 => ?_)
    · have h := fw_t c11 h
      exact B53 _ _ _ _ _ _ h hP hD hS (lv_sub hl [1, 2, 0] rfl)
    · have h := fw_f c11 h
      refine lv_iload_n hx hb dX5_readComparison_21 rfl (lv_at hl 0 rfl) ?_
      refine lv_sipush (v := 256) hx hb dX5_readComparison_22 (by decide) ?_
      refine lv_icmp_eq (tgt := 53) hx hb dX5_readComparison_25 (by decide) (fun c12 => ?_) (fun c12 => ?_)
      · have h := fw_t c12 h
        exact B53 _ _ _ _ _ _ h hP hD hS (lv_sub hl [1, 2, 0] rfl)
      · have h := fw_f c12 h
        refine lv_iload_n hx hb dX5_readComparison_28 rfl (lv_at hl 0 rfl) ?_
        refine lv_bipush (v := 61) hx hb dX5_readComparison_29 (by decide) ?_
        refine lv_icmp_eq (tgt := 53) hx hb dX5_readComparison_31 (by decide) (fun c13 => ?_) (fun c13 => ?_)
        · have h := fw_t c13 h
          exact B53 _ _ _ _ _ _ h hP hD hS (lv_sub hl [1, 2, 0] rfl)
        · have h := fw_f c13 h
          refine lv_iload_n hx hb dX5_readComparison_34 rfl (lv_at hl 0 rfl) ?_
          refine lv_sipush (v := 257) hx hb dX5_readComparison_35 (by decide) ?_
          refine lv_icmp_eq (tgt := 53) hx hb dX5_readComparison_38 (by decide) (fun c14 => ?_) (fun c14 => ?_)
          · have h := fw_t c14 h
            exact B53 _ _ _ _ _ _ h hP hD hS (lv_sub hl [1, 2, 0] rfl)
          · have h := fw_f c14 h
            refine lv_iload_n hx hb dX5_readComparison_41 rfl (lv_at hl 0 rfl) ?_
            refine lv_bipush (v := 62) hx hb dX5_readComparison_42 (by decide) ?_
            refine lv_icmp_eq (tgt := 53) hx hb dX5_readComparison_44 (by decide) (fun c15 => ?_) (fun c15 => ?_)
            · have h := fw_t c15 h
              exact B53 _ _ _ _ _ _ h hP hD hS (lv_sub hl [1, 2, 0] rfl)
            · have h := fw_f c15 h
              refine lv_aload_n hx hb dX5_readComparison_47 rfl (lv_at hl 1 rfl) ?_
              refine lv_iconst (v := 0) hx hb dX5_readComparison_48 (by decide) ?_
              obtain ⟨hP, hD⟩ := qm hP hD (q_to [tpW k ta q8.2.1, ruW k qa q8.2.2] [0, 1] [0] [1] (by decide +kernel))
              refine fw_Vi (As := [.int 0]) (rest := []) (n := 1) (rv := fun b : Int32 × OB => b.1) (wp := fun b : Int32 × OB => tpW k ta b.2) h hx hb hml hown hts hG hA hP hD hS hl.1 _ _ (fun q hq9 => c_X7_fail l D k _  ta F 0 q8.2.1  hq9) (ci := 5) (q0 := 0) rfl rfl gX5_readComparison_X7_fail rfl ⟨rfl, rfl, Nat.le_of_ble_eq_true rfl, Nat.le_of_ble_eq_true rfl⟩ (by decide +kernel) (q_l _ _) (q_r _ _) (q_nd _ _) ⟨rfl, rfl, Nat.le_of_ble_eq_true rfl, Nat.le_of_ble_eq_true rfl, Nat.le_of_ble_eq_true rfl⟩ dX5_readComparison_49 (fun q16 H locs h hP hD hS => ?_)
              obtain ⟨hP, hD⟩ := qm (w2 := tpW k ta q16.2 ++ (ruW k qa q8.2.2)) hP hD (q_from [tpW k ta q16.2, ruW k qa q8.2.2] [1] [0] [0, 1] (by decide +kernel))
              refine hc_is (z := q16.1) rfl ?_
              obtain ⟨g17, h⟩ := fw_g h
              exact fw_endZ (rv := fun b : Int32 × OB × OB => b.1) (wp := fun b : Int32 × OB × OB => tpW k ta b.2.1 ++ (ruW k qa b.2.2)) hx hb hr hlocks h (bo_z g17) rfl hP hD hS dX5_readComparison_52
  · have h := fw_t c9 h
    refine lv_iconst (v := 0) hx hb dX5_readComparison_8 (by decide) ?_
    exact fw_endZ (v := 0) (rv := fun b : Int32 × OB × OB => b.1) (wp := fun b : Int32 × OB × OB => tpW k ta b.2.1 ++ (ruW k qa b.2.2)) hx hb hr hlocks h rfl rfl hP hD hS dX5_readComparison_9
noncomputable def b_X1_readStrand_21 (F : Nat)    (tp : OB) (rm : OB) : Option (Int32 × OB × OB) :=
  some (0, tp, rm)
noncomputable def f_X1_readStrand (F : Nat)   (tp : OB) (rm : OB) : Option (Int32 × OB × OB) :=
  Option.bind (f_X7_takeNumber F 0 99 tp) (fun q1 => (if q1.1 = (-1) then (b_X1_readStrand_21 F q1.2 rm) else (if (rm.1 1) < 4 then (if ib (rm.1 1) 4 then (some (1, q1.2, ((uF rm.1 1 ((rm.1 1) + 1)), (uF rm.2.1 4 (upd (rm.2.1 4) (Int32.toNatClampNeg (rm.1 1)) q1.1)), rm.2.2))) else none) else (b_X1_readStrand_21 F q1.2 rm))))
set_option maxHeartbeats 4000000 in
set_option maxRecDepth 100000 in
theorem c_X1_readStrand (l : Launch) (D : va_G) (k : Nat → ClassId) (sz : Nat)  (ta : Nat → Nat) (xa : Nat → Nat) (F : Nat)   (tp : OB) (rm : OB)  {res : Int32 × OB × OB} (h : f_X1_readStrand F tp rm = some res) : CtI l yX1_readStrand wsX1_readStrand (rmK 3 0 0) [.ref (ta 0), .ref (xa 0)] D k sz (tpW k ta tp ++ (rmW k xa rm)) (fun r (_ : Unit) => r = res.1) (fun _ : Unit => tpW k ta res.2.1 ++ (rmW k xa res.2.2)) 0 0 := by
  refine CtI.mk (cc := cX1_readStrand) (maxL := 3) (ret := (some .boolean)) (by decide) rfl (Nat.le_of_ble_eq_true rfl) ?_
  intro p e s m below meth c A ls E hP hD hS hl
  obtain ⟨hx, hb, hr, hml, hown, hts, hlocks, hin, hG, hA⟩ := E
  have hown : s.vm.findClass RX1 = some m.cls := hown
  have in3 : ∀ w ∈ u_ws RX3 TX3 17, w ∈ wsX1_readStrand := fun _ h => List.mem_cons_of_mem _ (List.mem_append_left _ (List.mem_append_right _ h))
  have in7 : ∀ w ∈ u_ws RX7 TX7 8, w ∈ wsX1_readStrand := fun _ h => List.mem_cons_of_mem _ (List.mem_append_right _ h)
  have hl : lv_has ls 3 [(0, .ref (ta 0)), (1, .ref (xa 0))] := hl
  have B21 : ∀ (tp : OB) (rm : OB) (H : Heap) (locs : List Loc) (ls : Array Slot), b_X1_readStrand_21 F tp rm = some res → va_P D vwCl (tpW k ta tp ++ (rmW k xa rm)) H → va_D A (tpW k ta tp ++ (rmW k xa rm)) → va_S A s.heap H locs → lv_has ls 3 [] → W p l e (rmK 3 0 0) s m (List.toArray [.ref (ta 0), .ref (xa 0)]) below meth c H locs 0 0 (MQ below (va_Qi (fun r (_ : Unit) => r = res.1) (hcB D (fun _ : Unit => tpW k ta res.2.1 ++ (rmW k xa res.2.2)) A) A) (List.toArray [.ref (ta 0), .ref (xa 0)]) s 0 0 A) (F0 m 21 ls []) := by
    intro tp rm H locs ls h hP hD hS hl
    refine lv_iconst (v := 0) hx hb dX1_readStrand_21 (by decide) ?_
    exact fw_endZ (v := 0) (rv := fun b : Int32 × OB × OB => b.1) (wp := fun b : Int32 × OB × OB => tpW k ta b.2.1 ++ (rmW k xa b.2.2)) hx hb hr hlocks h rfl rfl hP hD hS dX1_readStrand_22
  refine lv_aload_n hx hb dX1_readStrand_0 rfl (lv_at hl 0 rfl) ?_
  refine lv_iconst (v := 0) hx hb dX1_readStrand_1 (by decide) ?_
  refine lv_bipush (v := 99) hx hb dX1_readStrand_2 (by decide) ?_
  obtain ⟨hP, hD⟩ := qm hP hD (q_to [tpW k ta tp, rmW k xa rm] [0, 1] [0] [1] (by decide +kernel))
  refine fw_Vi (As := [.int 0, .int 99]) (rest := []) (n := 2) (rv := fun b : Int32 × OB => b.1) (wp := fun b : Int32 × OB => tpW k ta b.2) h hx hb hml hown hts hG hA hP hD hS hl.1 _ _ (fun q hq9 => c_X7_takeNumber l D k _  ta F 0 99 tp  hq9) (ci := 5) (q0 := 0) rfl rfl gX1_readStrand_X7_takeNumber rfl ⟨rfl, rfl, Nat.le_of_ble_eq_true rfl, Nat.le_of_ble_eq_true rfl⟩ (by decide +kernel) (q_l _ _) (q_r _ _) (q_nd _ _) ⟨rfl, rfl, Nat.le_of_ble_eq_true rfl, Nat.le_of_ble_eq_true rfl, Nat.le_of_ble_eq_true rfl⟩ dX1_readStrand_4 (fun q1 H locs h hP hD hS => ?_)
  obtain ⟨hP, hD⟩ := qm (w2 := tpW k ta q1.2 ++ (rmW k xa rm)) hP hD (q_from [tpW k ta q1.2, rmW k xa rm] [1] [0] [0, 1] (by decide +kernel))
  refine hc_is (z := q1.1) rfl ?_
  refine lv_istore_n (lv' := [(2, .int q1.1), (0, .ref (ta 0)), (1, .ref (xa 0))]) hx hb dX1_readStrand_7 rfl hl (by decide) rfl (fun ls hl => ?_)
  refine lv_iload_n hx hb dX1_readStrand_8 rfl (lv_at hl 0 rfl) ?_
  refine lv_iconst (v := (-1)) hx hb dX1_readStrand_9 (by decide) ?_
  refine lv_icmp_eq (tgt := 21) hx hb dX1_readStrand_10 (by decide) (fun c2 => ?_) (fun c2 => ?_)
  · have h := fw_t c2 h
    exact B21 _ _ _ _ _ h hP hD hS (lv_sub hl [] rfl)
  · have h := fw_f c2 h
    refine lv_aload_n hx hb dX1_readStrand_13 rfl (lv_at hl 2 rfl) ?_
    refine va_get (D := D) (ci := 2) (v := .int (rm.1 1)) (C := RX3) (T := TX3) (N := 17) hx hb hts in3 hown hG.1 hP 5 rfl rfl 1 (by decide) (hts (.fieldLink RX1 43 "ChairCane$Room" "strands" "I") (mem_b bq_wsX1_readStrand 0 0 rfl)) (fun _ h9 => h9) rfl dX1_readStrand_14 ?_
    refine lv_iconst (v := 4) hx hb dX1_readStrand_17 (by decide) ?_
    refine lv_icmp_lt (tgt := 23) hx hb dX1_readStrand_18 (by decide) (fun c3 => ?_) (fun c3 => ?_)
    · have h := fw_t c3 h
      refine lv_aload_n hx hb dX1_readStrand_23 rfl (lv_at hl 2 rfl) ?_
      refine va_get (D := D) (ci := 2) (v := .ref (xa 1)) (C := RX3) (T := TX3) (N := 17) hx hb hts in3 hown hG.1 hP 5 rfl rfl 4 (by decide) (hts (.fieldLink RX1 67 "ChairCane$Room" "toldCane" "[I") (mem_b bq_wsX1_readStrand 0 1 rfl)) (fun _ h9 => h9) rfl dX1_readStrand_24 ?_
      refine lv_aload_n hx hb dX1_readStrand_27 rfl (lv_at hl 2 rfl) ?_
      refine va_get (D := D) (ci := 2) (v := .int (rm.1 1)) (C := RX3) (T := TX3) (N := 17) hx hb hts in3 hown hG.1 hP 5 rfl rfl 1 (by decide) (hts (.fieldLink RX1 43 "ChairCane$Room" "strands" "I") (mem_b bq_wsX1_readStrand 0 0 rfl)) (fun _ h9 => h9) rfl dX1_readStrand_28 ?_
      refine lv_iload_n hx hb dX1_readStrand_31 rfl (lv_at hl 0 rfl) ?_
      obtain ⟨g4, h⟩ := fw_g h
      refine va_iast hx hb hG.1 hP hD hS 6 0 rfl rfl (ib_vp g4) dX1_readStrand_32 (fun H locs hP hD hS => ?_)
      refine lv_aload_n hx hb dX1_readStrand_33 rfl (lv_at hl 2 rfl) ?_
      refine lv_dup hx hb dX1_readStrand_34 rfl ?_
      refine va_get (D := D) (ci := 2) (v := .int (rm.1 1)) (C := RX3) (T := TX3) (N := 17) hx hb hts in3 hown hG.1 hP 5 rfl rfl 1 (by decide) (hts (.fieldLink RX1 43 "ChairCane$Room" "strands" "I") (mem_b bq_wsX1_readStrand 0 0 rfl)) (fun _ h9 => h9) rfl dX1_readStrand_35 ?_
      refine lv_iconst (v := 1) hx hb dX1_readStrand_38 (by decide) ?_
      refine lv_iadd hx hb dX1_readStrand_39 ?_
      refine va_put (D := D) (ci := 2) (v := .int ((rm.1 1) + 1)) (C := RX3) (T := TX3) (N := 17) hx hb hts in3 tyX3 tyX3_ok nmX3 hown hG.1 hP hD hS 5 rfl rfl 1 (by decide) (hts (.fieldLink RX1 43 "ChairCane$Room" "strands" "I") (mem_b bq_wsX1_readStrand 0 0 rfl)) (fun _ h9 => h9) rfl (tyX3_ok 1 (by decide)) rfl rfl (Nat.le_of_ble_eq_true rfl) dX1_readStrand_40 (fun H locs hP hD hS => ?_)
      refine lv_iconst (v := 1) hx hb dX1_readStrand_43 (by decide) ?_
      exact fw_endZ (v := 1) (rv := fun b : Int32 × OB × OB => b.1) (wp := fun b : Int32 × OB × OB => tpW k ta b.2.1 ++ (rmW k xa b.2.2)) hx hb hr hlocks h rfl rfl hP hD hS dX1_readStrand_44
    · have h := fw_f c3 h
      exact B21 _ _ _ _ _ h hP hD hS (lv_sub hl [] rfl)
noncomputable def b_X1_readChair_41 (F : Nat)    (tp : OB) (rm : OB) : Option (Int32 × OB × OB) :=
  some (0, tp, rm)
noncomputable def f_X1_readChair (F : Nat)   (tp : OB) (rm : OB) : Option (Int32 × OB × OB) :=
  Option.bind (f_X7_takeNumber F 1 60 tp) (fun q1 => (if q1.1 = (-1) then (some (0, q1.2, rm)) else (Option.bind (f_X7_takeNumber F 0 ((rm.1 1) - 1) q1.2) (fun q3 => (if q3.1 = (-1) then (b_X1_readChair_41 F q3.2 rm) else (if (rm.1 2) < 8 then (if ib (rm.1 2) 8 then (some (1, q3.2, ((uF rm.1 2 ((rm.1 2) + 1)), (uF (uF rm.2.1 5 (upd (rm.2.1 5) (Int32.toNatClampNeg (rm.1 2)) q1.1)) 6 (upd (rm.2.1 6) (Int32.toNatClampNeg (rm.1 2)) q3.1)), rm.2.2))) else none) else (b_X1_readChair_41 F q3.2 rm)))))))
set_option maxHeartbeats 4000000 in
set_option maxRecDepth 100000 in
theorem c_X1_readChair (l : Launch) (D : va_G) (k : Nat → ClassId) (sz : Nat)  (ta : Nat → Nat) (xa : Nat → Nat) (F : Nat)   (tp : OB) (rm : OB)  {res : Int32 × OB × OB} (h : f_X1_readChair F tp rm = some res) : CtI l yX1_readChair wsX1_readChair (rmK 3 0 0) [.ref (ta 0), .ref (xa 0)] D k sz (tpW k ta tp ++ (rmW k xa rm)) (fun r (_ : Unit) => r = res.1) (fun _ : Unit => tpW k ta res.2.1 ++ (rmW k xa res.2.2)) 0 0 := by
  refine CtI.mk (cc := cX1_readChair) (maxL := 4) (ret := (some .boolean)) (by decide) rfl (Nat.le_of_ble_eq_true rfl) ?_
  intro p e s m below meth c A ls E hP hD hS hl
  obtain ⟨hx, hb, hr, hml, hown, hts, hlocks, hin, hG, hA⟩ := E
  have hown : s.vm.findClass RX1 = some m.cls := hown
  have in3 : ∀ w ∈ u_ws RX3 TX3 17, w ∈ wsX1_readChair := fun _ h => List.mem_cons_of_mem _ (List.mem_append_left _ (List.mem_append_right _ h))
  have in7 : ∀ w ∈ u_ws RX7 TX7 8, w ∈ wsX1_readChair := fun _ h => List.mem_cons_of_mem _ (List.mem_append_right _ h)
  have hl : lv_has ls 4 [(0, .ref (ta 0)), (1, .ref (xa 0))] := hl
  have B41 : ∀ (tp : OB) (rm : OB) (H : Heap) (locs : List Loc) (ls : Array Slot), b_X1_readChair_41 F tp rm = some res → va_P D vwCl (tpW k ta tp ++ (rmW k xa rm)) H → va_D A (tpW k ta tp ++ (rmW k xa rm)) → va_S A s.heap H locs → lv_has ls 4 [] → W p l e (rmK 3 0 0) s m (List.toArray [.ref (ta 0), .ref (xa 0)]) below meth c H locs 0 0 (MQ below (va_Qi (fun r (_ : Unit) => r = res.1) (hcB D (fun _ : Unit => tpW k ta res.2.1 ++ (rmW k xa res.2.2)) A) A) (List.toArray [.ref (ta 0), .ref (xa 0)]) s 0 0 A) (F0 m 41 ls []) := by
    intro tp rm H locs ls h hP hD hS hl
    refine lv_iconst (v := 0) hx hb dX1_readChair_41 (by decide) ?_
    exact fw_endZ (v := 0) (rv := fun b : Int32 × OB × OB => b.1) (wp := fun b : Int32 × OB × OB => tpW k ta b.2.1 ++ (rmW k xa b.2.2)) hx hb hr hlocks h rfl rfl hP hD hS dX1_readChair_42
  refine lv_aload_n hx hb dX1_readChair_0 rfl (lv_at hl 0 rfl) ?_
  refine lv_iconst (v := 1) hx hb dX1_readChair_1 (by decide) ?_
  refine lv_bipush (v := 60) hx hb dX1_readChair_2 (by decide) ?_
  obtain ⟨hP, hD⟩ := qm hP hD (q_to [tpW k ta tp, rmW k xa rm] [0, 1] [0] [1] (by decide +kernel))
  refine fw_Vi (As := [.int 1, .int 60]) (rest := []) (n := 2) (rv := fun b : Int32 × OB => b.1) (wp := fun b : Int32 × OB => tpW k ta b.2) h hx hb hml hown hts hG hA hP hD hS hl.1 _ _ (fun q hq9 => c_X7_takeNumber l D k _  ta F 1 60 tp  hq9) (ci := 5) (q0 := 0) rfl rfl gX1_readChair_X7_takeNumber rfl ⟨rfl, rfl, Nat.le_of_ble_eq_true rfl, Nat.le_of_ble_eq_true rfl⟩ (by decide +kernel) (q_l _ _) (q_r _ _) (q_nd _ _) ⟨rfl, rfl, Nat.le_of_ble_eq_true rfl, Nat.le_of_ble_eq_true rfl, Nat.le_of_ble_eq_true rfl⟩ dX1_readChair_4 (fun q1 H locs h hP hD hS => ?_)
  obtain ⟨hP, hD⟩ := qm (w2 := tpW k ta q1.2 ++ (rmW k xa rm)) hP hD (q_from [tpW k ta q1.2, rmW k xa rm] [1] [0] [0, 1] (by decide +kernel))
  refine hc_is (z := q1.1) rfl ?_
  refine lv_istore_n (lv' := [(2, .int q1.1), (0, .ref (ta 0)), (1, .ref (xa 0))]) hx hb dX1_readChair_7 rfl hl (by decide) rfl (fun ls hl => ?_)
  refine lv_iload_n hx hb dX1_readChair_8 rfl (lv_at hl 0 rfl) ?_
  refine lv_iconst (v := (-1)) hx hb dX1_readChair_9 (by decide) ?_
  refine lv_icmp_ne (tgt := 15) hx hb dX1_readChair_10 (by decide) (fun c2 => ?_) (fun c2 => ?_)
  · have h := fw_f c2 h
    refine lv_aload_n hx hb dX1_readChair_15 rfl (lv_at hl 1 rfl) ?_
    refine lv_iconst (v := 0) hx hb dX1_readChair_16 (by decide) ?_
    refine lv_aload_n hx hb dX1_readChair_17 rfl (lv_at hl 2 rfl) ?_
    refine va_get (D := D) (ci := 2) (v := .int (rm.1 1)) (C := RX3) (T := TX3) (N := 17) hx hb hts in3 hown hG.1 hP 5 rfl rfl 1 (by decide) (hts (.fieldLink RX1 43 "ChairCane$Room" "strands" "I") (mem_b bq_wsX1_readChair 0 0 rfl)) (fun _ h9 => h9) rfl dX1_readChair_18 ?_
    refine lv_iconst (v := 1) hx hb dX1_readChair_21 (by decide) ?_
    refine lv_isub hx hb dX1_readChair_22 ?_
    obtain ⟨hP, hD⟩ := qm hP hD (q_to [tpW k ta q1.2, rmW k xa rm] [0, 1] [0] [1] (by decide +kernel))
    refine fw_Vi (As := [.int 0, .int ((rm.1 1) - 1)]) (rest := []) (n := 2) (rv := fun b : Int32 × OB => b.1) (wp := fun b : Int32 × OB => tpW k ta b.2) h hx hb hml hown hts hG hA hP hD hS hl.1 _ _ (fun q hq9 => c_X7_takeNumber l D k _  ta F 0 ((rm.1 1) - 1) q1.2  hq9) (ci := 5) (q0 := 0) rfl rfl gX1_readChair_X7_takeNumber rfl ⟨rfl, rfl, Nat.le_of_ble_eq_true rfl, Nat.le_of_ble_eq_true rfl⟩ (by decide +kernel) (q_l _ _) (q_r _ _) (q_nd _ _) ⟨rfl, rfl, Nat.le_of_ble_eq_true rfl, Nat.le_of_ble_eq_true rfl, Nat.le_of_ble_eq_true rfl⟩ dX1_readChair_23 (fun q3 H locs h hP hD hS => ?_)
    obtain ⟨hP, hD⟩ := qm (w2 := tpW k ta q3.2 ++ (rmW k xa rm)) hP hD (q_from [tpW k ta q3.2, rmW k xa rm] [1] [0] [0, 1] (by decide +kernel))
    refine hc_is (z := q3.1) rfl ?_
    refine lv_istore_n (lv' := [(3, .int q3.1), (2, .int q1.1), (0, .ref (ta 0)), (1, .ref (xa 0))]) hx hb dX1_readChair_26 rfl hl (by decide) rfl (fun ls hl => ?_)
    refine lv_iload_n hx hb dX1_readChair_27 rfl (lv_at hl 0 rfl) ?_
    refine lv_iconst (v := (-1)) hx hb dX1_readChair_28 (by decide) ?_
    refine lv_icmp_eq (tgt := 41) hx hb dX1_readChair_29 (by decide) (fun c4 => ?_) (fun c4 => ?_)
    · have h := fw_t c4 h
      exact B41 _ _ _ _ _ h hP hD hS (lv_sub hl [] rfl)
    · have h := fw_f c4 h
      refine lv_aload_n hx hb dX1_readChair_32 rfl (lv_at hl 3 rfl) ?_
      refine va_get (D := D) (ci := 2) (v := .int (rm.1 2)) (C := RX3) (T := TX3) (N := 17) hx hb hts in3 hown hG.1 hP 5 rfl rfl 2 (by decide) (hts (.fieldLink RX1 47 "ChairCane$Room" "chairs" "I") (mem_b bq_wsX1_readChair 0 1 rfl)) (fun _ h9 => h9) rfl dX1_readChair_33 ?_
      refine lv_bipush (v := 8) hx hb dX1_readChair_36 (by decide) ?_
      refine lv_icmp_lt (tgt := 43) hx hb dX1_readChair_38 (by decide) (fun c5 => ?_) (fun c5 => ?_)
      · have h := fw_t c5 h
        refine lv_aload_n hx hb dX1_readChair_43 rfl (lv_at hl 3 rfl) ?_
        refine va_get (D := D) (ci := 2) (v := .ref (xa 2)) (C := RX3) (T := TX3) (N := 17) hx hb hts in3 hown hG.1 hP 5 rfl rfl 5 (by decide) (hts (.fieldLink RX1 71 "ChairCane$Room" "height" "[I") (mem_b bq_wsX1_readChair 0 2 rfl)) (fun _ h9 => h9) rfl dX1_readChair_44 ?_
        refine lv_aload_n hx hb dX1_readChair_47 rfl (lv_at hl 3 rfl) ?_
        refine va_get (D := D) (ci := 2) (v := .int (rm.1 2)) (C := RX3) (T := TX3) (N := 17) hx hb hts in3 hown hG.1 hP 5 rfl rfl 2 (by decide) (hts (.fieldLink RX1 47 "ChairCane$Room" "chairs" "I") (mem_b bq_wsX1_readChair 0 1 rfl)) (fun _ h9 => h9) rfl dX1_readChair_48 ?_
        refine lv_iload_n hx hb dX1_readChair_51 rfl (lv_at hl 1 rfl) ?_
        obtain ⟨g6, h⟩ := fw_g h
        refine va_iast hx hb hG.1 hP hD hS 7 0 rfl rfl (ib_vp g6) dX1_readChair_52 (fun H locs hP hD hS => ?_)
        refine lv_aload_n hx hb dX1_readChair_53 rfl (lv_at hl 3 rfl) ?_
        refine va_get (D := D) (ci := 2) (v := .ref (xa 3)) (C := RX3) (T := TX3) (N := 17) hx hb hts in3 hown hG.1 hP 5 rfl rfl 6 (by decide) (hts (.fieldLink RX1 74 "ChairCane$Room" "strandOf" "[I") (mem_b bq_wsX1_readChair 0 3 rfl)) (fun _ h9 => h9) rfl dX1_readChair_54 ?_
        refine lv_aload_n hx hb dX1_readChair_57 rfl (lv_at hl 3 rfl) ?_
        refine va_get (D := D) (ci := 2) (v := .int (rm.1 2)) (C := RX3) (T := TX3) (N := 17) hx hb hts in3 hown hG.1 hP 5 rfl rfl 2 (by decide) (hts (.fieldLink RX1 47 "ChairCane$Room" "chairs" "I") (mem_b bq_wsX1_readChair 0 1 rfl)) (fun _ h9 => h9) rfl dX1_readChair_58 ?_
        refine lv_iload_n hx hb dX1_readChair_61 rfl (lv_at hl 0 rfl) ?_
        refine va_iast hx hb hG.1 hP hD hS 8 0 rfl rfl (ib_vp g6) dX1_readChair_62 (fun H locs hP hD hS => ?_)
        refine lv_aload_n hx hb dX1_readChair_63 rfl (lv_at hl 3 rfl) ?_
        refine lv_dup hx hb dX1_readChair_64 rfl ?_
        refine va_get (D := D) (ci := 2) (v := .int (rm.1 2)) (C := RX3) (T := TX3) (N := 17) hx hb hts in3 hown hG.1 hP 5 rfl rfl 2 (by decide) (hts (.fieldLink RX1 47 "ChairCane$Room" "chairs" "I") (mem_b bq_wsX1_readChair 0 1 rfl)) (fun _ h9 => h9) rfl dX1_readChair_65 ?_
        refine lv_iconst (v := 1) hx hb dX1_readChair_68 (by decide) ?_
        refine lv_iadd hx hb dX1_readChair_69 ?_
        refine va_put (D := D) (ci := 2) (v := .int ((rm.1 2) + 1)) (C := RX3) (T := TX3) (N := 17) hx hb hts in3 tyX3 tyX3_ok nmX3 hown hG.1 hP hD hS 5 rfl rfl 2 (by decide) (hts (.fieldLink RX1 47 "ChairCane$Room" "chairs" "I") (mem_b bq_wsX1_readChair 0 1 rfl)) (fun _ h9 => h9) rfl (tyX3_ok 2 (by decide)) rfl rfl (Nat.le_of_ble_eq_true rfl) dX1_readChair_70 (fun H locs hP hD hS => ?_)
        refine lv_iconst (v := 1) hx hb dX1_readChair_73 (by decide) ?_
        exact fw_endZ (v := 1) (rv := fun b : Int32 × OB × OB => b.1) (wp := fun b : Int32 × OB × OB => tpW k ta b.2.1 ++ (rmW k xa b.2.2)) hx hb hr hlocks h rfl rfl hP hD hS dX1_readChair_74
      · have h := fw_f c5 h
        exact B41 _ _ _ _ _ h hP hD hS (lv_sub hl [] rfl)
  · have h := fw_t c2 h
    refine lv_iconst (v := 0) hx hb dX1_readChair_13 (by decide) ?_
    exact fw_endZ (v := 0) (rv := fun b : Int32 × OB × OB => b.1) (wp := fun b : Int32 × OB × OB => tpW k ta b.2.1 ++ (rmW k xa b.2.2)) hx hb hr hlocks h rfl rfl hP hD hS dX1_readChair_14
noncomputable def b_X1_readSitter_69 (F : Nat)    (tp : OB) (rm : OB) : Option (Int32 × OB × OB) :=
  some (0, tp, rm)
noncomputable def b_X1_readSitter_28 (F : Nat)    (tp : OB) (rm : OB) : Option (Int32 × OB × OB) :=
  Option.bind (f_X7_takeNumber F 0 ((rm.1 2) - 1) tp) (fun q1 => (if q1.1 = (-1) then (some (0, q1.2, rm)) else (Option.bind (f_X7_takeNumber F 1 20 q1.2) (fun q3 => (if q3.1 = (-1) then (b_X1_readSitter_69 F q3.2 rm) else (if (rm.1 3) < 8 then (if ib (rm.1 3) 8 then (some (1, q3.2, ((uF rm.1 3 ((rm.1 3) + 1)), (uF (uF rm.2.1 7 (upd (rm.2.1 7) (Int32.toNatClampNeg (rm.1 3)) q1.1)) 8 (upd (rm.2.1 8) (Int32.toNatClampNeg (rm.1 3)) q3.1)), rm.2.2))) else none) else (b_X1_readSitter_69 F q3.2 rm)))))))
noncomputable def f_X1_readSitter (F : Nat)   (tp : OB) (rm : OB) : Option (Int32 × OB × OB) :=
  Option.bind (f_X7_kind F tp) (fun q7 => (if q7 = 259 then (Option.bind (f_X7_value F tp) (fun q9 => (Option.bind (f_X3_sitterOn F q9 rm) (fun q10 => (if q10 = (-1) then (b_X1_readSitter_28 F tp rm) else (Option.bind (f_X7_fail F 1 tp) (fun q12 => (if bo q12.1 then (some (q12.1, q12.2, rm)) else none)))))))) else (b_X1_readSitter_28 F tp rm)))
set_option maxHeartbeats 4000000 in
set_option maxRecDepth 100000 in
theorem c_X1_readSitter (l : Launch) (D : va_G) (k : Nat → ClassId) (sz : Nat)  (ta : Nat → Nat) (xa : Nat → Nat) (F : Nat)   (tp : OB) (rm : OB)  {res : Int32 × OB × OB} (h : f_X1_readSitter F tp rm = some res) : CtI l yX1_readSitter wsX1_readSitter (rmK 3 0 0) [.ref (ta 0), .ref (xa 0)] D k sz (tpW k ta tp ++ (rmW k xa rm)) (fun r (_ : Unit) => r = res.1) (fun _ : Unit => tpW k ta res.2.1 ++ (rmW k xa res.2.2)) 0 0 := by
  refine CtI.mk (cc := cX1_readSitter) (maxL := 4) (ret := (some .boolean)) (by decide) rfl (Nat.le_of_ble_eq_true rfl) ?_
  intro p e s m below meth c A ls E hP hD hS hl
  obtain ⟨hx, hb, hr, hml, hown, hts, hlocks, hin, hG, hA⟩ := E
  have hown : s.vm.findClass RX1 = some m.cls := hown
  have in3 : ∀ w ∈ u_ws RX3 TX3 17, w ∈ wsX1_readSitter := fun _ h => List.mem_cons_of_mem _ (List.mem_append_left _ (List.mem_append_right _ h))
  have in7 : ∀ w ∈ u_ws RX7 TX7 8, w ∈ wsX1_readSitter := fun _ h => List.mem_cons_of_mem _ (List.mem_append_right _ h)
  have hl : lv_has ls 4 [(0, .ref (ta 0)), (1, .ref (xa 0))] := hl
  have B69 : ∀ (tp : OB) (rm : OB) (H : Heap) (locs : List Loc) (ls : Array Slot), b_X1_readSitter_69 F tp rm = some res → va_P D vwCl (tpW k ta tp ++ (rmW k xa rm)) H → va_D A (tpW k ta tp ++ (rmW k xa rm)) → va_S A s.heap H locs → lv_has ls 4 [] → W p l e (rmK 3 0 0) s m (List.toArray [.ref (ta 0), .ref (xa 0)]) below meth c H locs 0 0 (MQ below (va_Qi (fun r (_ : Unit) => r = res.1) (hcB D (fun _ : Unit => tpW k ta res.2.1 ++ (rmW k xa res.2.2)) A) A) (List.toArray [.ref (ta 0), .ref (xa 0)]) s 0 0 A) (F0 m 69 ls []) := by
    intro tp rm H locs ls h hP hD hS hl
    refine lv_iconst (v := 0) hx hb dX1_readSitter_69 (by decide) ?_
    exact fw_endZ (v := 0) (rv := fun b : Int32 × OB × OB => b.1) (wp := fun b : Int32 × OB × OB => tpW k ta b.2.1 ++ (rmW k xa b.2.2)) hx hb hr hlocks h rfl rfl hP hD hS dX1_readSitter_70
  have B28 : ∀ (tp : OB) (rm : OB) (H : Heap) (locs : List Loc) (ls : Array Slot), b_X1_readSitter_28 F tp rm = some res → va_P D vwCl (tpW k ta tp ++ (rmW k xa rm)) H → va_D A (tpW k ta tp ++ (rmW k xa rm)) → va_S A s.heap H locs → lv_has ls 4 [(0, .ref (ta 0)), (1, .ref (xa 0))] → W p l e (rmK 3 0 0) s m (List.toArray [.ref (ta 0), .ref (xa 0)]) below meth c H locs 0 0 (MQ below (va_Qi (fun r (_ : Unit) => r = res.1) (hcB D (fun _ : Unit => tpW k ta res.2.1 ++ (rmW k xa res.2.2)) A) A) (List.toArray [.ref (ta 0), .ref (xa 0)]) s 0 0 A) (F0 m 28 ls []) := by
    intro tp rm H locs ls h hP hD hS hl
    refine lv_aload_n hx hb dX1_readSitter_28 rfl (lv_at hl 0 rfl) ?_
    refine lv_iconst (v := 0) hx hb dX1_readSitter_29 (by decide) ?_
    refine lv_aload_n hx hb dX1_readSitter_30 rfl (lv_at hl 1 rfl) ?_
    refine va_get (D := D) (ci := 2) (v := .int (rm.1 2)) (C := RX3) (T := TX3) (N := 17) hx hb hts in3 hown hG.1 hP 5 rfl rfl 2 (by decide) (hts (.fieldLink RX1 47 "ChairCane$Room" "chairs" "I") (mem_b bq_wsX1_readSitter 0 0 rfl)) (fun _ h9 => h9) rfl dX1_readSitter_31 ?_
    refine lv_iconst (v := 1) hx hb dX1_readSitter_34 (by decide) ?_
    refine lv_isub hx hb dX1_readSitter_35 ?_
    obtain ⟨hP, hD⟩ := qm hP hD (q_to [tpW k ta tp, rmW k xa rm] [0, 1] [0] [1] (by decide +kernel))
    refine fw_Vi (As := [.int 0, .int ((rm.1 2) - 1)]) (rest := []) (n := 2) (rv := fun b : Int32 × OB => b.1) (wp := fun b : Int32 × OB => tpW k ta b.2) h hx hb hml hown hts hG hA hP hD hS hl.1 _ _ (fun q hq9 => c_X7_takeNumber l D k _  ta F 0 ((rm.1 2) - 1) tp  hq9) (ci := 5) (q0 := 0) rfl rfl gX1_readSitter_X7_takeNumber rfl ⟨rfl, rfl, Nat.le_of_ble_eq_true rfl, Nat.le_of_ble_eq_true rfl⟩ (by decide +kernel) (q_l _ _) (q_r _ _) (q_nd _ _) ⟨rfl, rfl, Nat.le_of_ble_eq_true rfl, Nat.le_of_ble_eq_true rfl, Nat.le_of_ble_eq_true rfl⟩ dX1_readSitter_36 (fun q1 H locs h hP hD hS => ?_)
    obtain ⟨hP, hD⟩ := qm (w2 := tpW k ta q1.2 ++ (rmW k xa rm)) hP hD (q_from [tpW k ta q1.2, rmW k xa rm] [1] [0] [0, 1] (by decide +kernel))
    refine hc_is (z := q1.1) rfl ?_
    refine lv_istore_n (lv' := [(2, .int q1.1), (0, .ref (ta 0)), (1, .ref (xa 0))]) hx hb dX1_readSitter_39 rfl hl (by decide) rfl (fun ls hl => ?_)
    refine lv_iload_n hx hb dX1_readSitter_40 rfl (lv_at hl 0 rfl) ?_
    refine lv_iconst (v := (-1)) hx hb dX1_readSitter_41 (by decide) ?_
    refine lv_icmp_ne (tgt := 47) hx hb dX1_readSitter_42 (by decide) (fun c2 => ?_) (fun c2 => ?_)
    · have h := fw_f c2 h
      refine lv_aload_n hx hb dX1_readSitter_47 rfl (lv_at hl 1 rfl) ?_
      refine lv_iconst (v := 1) hx hb dX1_readSitter_48 (by decide) ?_
      refine lv_bipush (v := 20) hx hb dX1_readSitter_49 (by decide) ?_
      obtain ⟨hP, hD⟩ := qm hP hD (q_to [tpW k ta q1.2, rmW k xa rm] [0, 1] [0] [1] (by decide +kernel))
      refine fw_Vi (As := [.int 1, .int 20]) (rest := []) (n := 2) (rv := fun b : Int32 × OB => b.1) (wp := fun b : Int32 × OB => tpW k ta b.2) h hx hb hml hown hts hG hA hP hD hS hl.1 _ _ (fun q hq9 => c_X7_takeNumber l D k _  ta F 1 20 q1.2  hq9) (ci := 5) (q0 := 0) rfl rfl gX1_readSitter_X7_takeNumber rfl ⟨rfl, rfl, Nat.le_of_ble_eq_true rfl, Nat.le_of_ble_eq_true rfl⟩ (by decide +kernel) (q_l _ _) (q_r _ _) (q_nd _ _) ⟨rfl, rfl, Nat.le_of_ble_eq_true rfl, Nat.le_of_ble_eq_true rfl, Nat.le_of_ble_eq_true rfl⟩ dX1_readSitter_51 (fun q3 H locs h hP hD hS => ?_)
      obtain ⟨hP, hD⟩ := qm (w2 := tpW k ta q3.2 ++ (rmW k xa rm)) hP hD (q_from [tpW k ta q3.2, rmW k xa rm] [1] [0] [0, 1] (by decide +kernel))
      refine hc_is (z := q3.1) rfl ?_
      refine lv_istore_n (lv' := [(3, .int q3.1), (2, .int q1.1), (0, .ref (ta 0)), (1, .ref (xa 0))]) hx hb dX1_readSitter_54 rfl hl (by decide) rfl (fun ls hl => ?_)
      refine lv_iload_n hx hb dX1_readSitter_55 rfl (lv_at hl 0 rfl) ?_
      refine lv_iconst (v := (-1)) hx hb dX1_readSitter_56 (by decide) ?_
      refine lv_icmp_eq (tgt := 69) hx hb dX1_readSitter_57 (by decide) (fun c4 => ?_) (fun c4 => ?_)
      · have h := fw_t c4 h
        exact B69 _ _ _ _ _ h hP hD hS (lv_sub hl [] rfl)
      · have h := fw_f c4 h
        refine lv_aload_n hx hb dX1_readSitter_60 rfl (lv_at hl 3 rfl) ?_
        refine va_get (D := D) (ci := 2) (v := .int (rm.1 3)) (C := RX3) (T := TX3) (N := 17) hx hb hts in3 hown hG.1 hP 5 rfl rfl 3 (by decide) (hts (.fieldLink RX1 84 "ChairCane$Room" "sitters" "I") (mem_b bq_wsX1_readSitter 0 1 rfl)) (fun _ h9 => h9) rfl dX1_readSitter_61 ?_
        refine lv_bipush (v := 8) hx hb dX1_readSitter_64 (by decide) ?_
        refine lv_icmp_lt (tgt := 71) hx hb dX1_readSitter_66 (by decide) (fun c5 => ?_) (fun c5 => ?_)
        · have h := fw_t c5 h
          refine lv_aload_n hx hb dX1_readSitter_71 rfl (lv_at hl 3 rfl) ?_
          refine va_get (D := D) (ci := 2) (v := .ref (xa 4)) (C := RX3) (T := TX3) (N := 17) hx hb hts in3 hown hG.1 hP 5 rfl rfl 7 (by decide) (hts (.fieldLink RX1 87 "ChairCane$Room" "chairOf" "[I") (mem_b bq_wsX1_readSitter 0 2 rfl)) (fun _ h9 => h9) rfl dX1_readSitter_72 ?_
          refine lv_aload_n hx hb dX1_readSitter_75 rfl (lv_at hl 3 rfl) ?_
          refine va_get (D := D) (ci := 2) (v := .int (rm.1 3)) (C := RX3) (T := TX3) (N := 17) hx hb hts in3 hown hG.1 hP 5 rfl rfl 3 (by decide) (hts (.fieldLink RX1 84 "ChairCane$Room" "sitters" "I") (mem_b bq_wsX1_readSitter 0 1 rfl)) (fun _ h9 => h9) rfl dX1_readSitter_76 ?_
          refine lv_iload_n hx hb dX1_readSitter_79 rfl (lv_at hl 1 rfl) ?_
          obtain ⟨g6, h⟩ := fw_g h
          refine va_iast hx hb hG.1 hP hD hS 9 0 rfl rfl (ib_vp g6) dX1_readSitter_80 (fun H locs hP hD hS => ?_)
          refine lv_aload_n hx hb dX1_readSitter_81 rfl (lv_at hl 3 rfl) ?_
          refine va_get (D := D) (ci := 2) (v := .ref (xa 5)) (C := RX3) (T := TX3) (N := 17) hx hb hts in3 hown hG.1 hP 5 rfl rfl 8 (by decide) (hts (.fieldLink RX1 90 "ChairCane$Room" "weight" "[I") (mem_b bq_wsX1_readSitter 0 3 rfl)) (fun _ h9 => h9) rfl dX1_readSitter_82 ?_
          refine lv_aload_n hx hb dX1_readSitter_85 rfl (lv_at hl 3 rfl) ?_
          refine va_get (D := D) (ci := 2) (v := .int (rm.1 3)) (C := RX3) (T := TX3) (N := 17) hx hb hts in3 hown hG.1 hP 5 rfl rfl 3 (by decide) (hts (.fieldLink RX1 84 "ChairCane$Room" "sitters" "I") (mem_b bq_wsX1_readSitter 0 1 rfl)) (fun _ h9 => h9) rfl dX1_readSitter_86 ?_
          refine lv_iload_n hx hb dX1_readSitter_89 rfl (lv_at hl 0 rfl) ?_
          refine va_iast hx hb hG.1 hP hD hS 10 0 rfl rfl (ib_vp g6) dX1_readSitter_90 (fun H locs hP hD hS => ?_)
          refine lv_aload_n hx hb dX1_readSitter_91 rfl (lv_at hl 3 rfl) ?_
          refine lv_dup hx hb dX1_readSitter_92 rfl ?_
          refine va_get (D := D) (ci := 2) (v := .int (rm.1 3)) (C := RX3) (T := TX3) (N := 17) hx hb hts in3 hown hG.1 hP 5 rfl rfl 3 (by decide) (hts (.fieldLink RX1 84 "ChairCane$Room" "sitters" "I") (mem_b bq_wsX1_readSitter 0 1 rfl)) (fun _ h9 => h9) rfl dX1_readSitter_93 ?_
          refine lv_iconst (v := 1) hx hb dX1_readSitter_96 (by decide) ?_
          refine lv_iadd hx hb dX1_readSitter_97 ?_
          refine va_put (D := D) (ci := 2) (v := .int ((rm.1 3) + 1)) (C := RX3) (T := TX3) (N := 17) hx hb hts in3 tyX3 tyX3_ok nmX3 hown hG.1 hP hD hS 5 rfl rfl 3 (by decide) (hts (.fieldLink RX1 84 "ChairCane$Room" "sitters" "I") (mem_b bq_wsX1_readSitter 0 1 rfl)) (fun _ h9 => h9) rfl (tyX3_ok 3 (by decide)) rfl rfl (Nat.le_of_ble_eq_true rfl) dX1_readSitter_98 (fun H locs hP hD hS => ?_)
          refine lv_iconst (v := 1) hx hb dX1_readSitter_101 (by decide) ?_
          exact fw_endZ (v := 1) (rv := fun b : Int32 × OB × OB => b.1) (wp := fun b : Int32 × OB × OB => tpW k ta b.2.1 ++ (rmW k xa b.2.2)) hx hb hr hlocks h rfl rfl hP hD hS dX1_readSitter_102
        · have h := fw_f c5 h
          exact B69 _ _ _ _ _ h hP hD hS (lv_sub hl [] rfl)
    · have h := fw_t c2 h
      refine lv_iconst (v := 0) hx hb dX1_readSitter_45 (by decide) ?_
      exact fw_endZ (v := 0) (rv := fun b : Int32 × OB × OB => b.1) (wp := fun b : Int32 × OB × OB => tpW k ta b.2.1 ++ (rmW k xa b.2.2)) hx hb hr hlocks h rfl rfl hP hD hS dX1_readSitter_46
  refine lv_aload_n hx hb dX1_readSitter_0 rfl (lv_at hl 0 rfl) ?_
  obtain ⟨hP, hD⟩ := qm hP hD (q_to [tpW k ta tp, rmW k xa rm] [0, 1] [0] [1] (by decide +kernel))
  refine fw_Vi (As := []) (rest := []) (n := 0) (rv := fun b : Int32 => b) (wp := fun b : Int32 => tpW k ta tp) h hx hb hml hown hts hG hA hP hD hS hl.1 _ _ (fun q hq9 => c_X7_kind l D k _  ta F  tp  hq9) (ci := 5) (q0 := 0) rfl rfl gX1_readSitter_X7_kind rfl ⟨rfl, rfl, Nat.le_of_ble_eq_true rfl, Nat.le_of_ble_eq_true rfl⟩ (by decide +kernel) (q_l _ _) (q_r _ _) (q_nd _ _) ⟨rfl, rfl, Nat.le_of_ble_eq_true rfl, Nat.le_of_ble_eq_true rfl, Nat.le_of_ble_eq_true rfl⟩ dX1_readSitter_1 (fun q7 H locs h hP hD hS => ?_)
  obtain ⟨hP, hD⟩ := qm (w2 := tpW k ta tp ++ (rmW k xa rm)) hP hD (q_from [tpW k ta tp, rmW k xa rm] [1] [0] [0, 1] (by decide +kernel))
  refine hc_is (z := q7) rfl ?_
  refine lv_sipush (v := 259) hx hb dX1_readSitter_4 (by decide) ?_
  refine lv_icmp_ne (tgt := 28) hx hb dX1_readSitter_7 (by decide) (fun c8 => ?_) (fun c8 => ?_)
  · have h := fw_f c8 h
    exact B28 _ _ _ _ _ h hP hD hS hl
  · have h := fw_t c8 h
    refine lv_aload_n hx hb dX1_readSitter_10 rfl (lv_at hl 1 rfl) ?_
    refine lv_aload_n hx hb dX1_readSitter_11 rfl (lv_at hl 0 rfl) ?_
    obtain ⟨hP, hD⟩ := qm hP hD (q_to [tpW k ta tp, rmW k xa rm] [0, 1] [0] [1] (by decide +kernel))
    refine fw_Vi (As := []) (rest := [.ref (xa 0)]) (n := 0) (rv := fun b : Int32 => b) (wp := fun b : Int32 => tpW k ta tp) h hx hb hml hown hts hG hA hP hD hS hl.1 _ _ (fun q hq9 => c_X7_value l D k _  ta F  tp  hq9) (ci := 5) (q0 := 0) rfl rfl gX1_readSitter_X7_value rfl ⟨rfl, rfl, Nat.le_of_ble_eq_true rfl, Nat.le_of_ble_eq_true rfl⟩ (by decide +kernel) (q_l _ _) (q_r _ _) (q_nd _ _) ⟨rfl, rfl, Nat.le_of_ble_eq_true rfl, Nat.le_of_ble_eq_true rfl, Nat.le_of_ble_eq_true rfl⟩ dX1_readSitter_12 (fun q9 H locs h hP hD hS => ?_)
    obtain ⟨hP, hD⟩ := qm (w2 := tpW k ta tp ++ (rmW k xa rm)) hP hD (q_from [tpW k ta tp, rmW k xa rm] [1] [0] [0, 1] (by decide +kernel))
    refine hc_is (z := q9) rfl ?_
    obtain ⟨hP, hD⟩ := qm hP hD (q_to [tpW k ta tp, rmW k xa rm] [0, 1] [1] [0] (by decide +kernel))
    refine fw_Vi (As := [.int q9]) (rest := []) (n := 1) (rv := fun b : Int32 => b) (wp := fun b : Int32 => rmW k xa rm) h hx hb hml hown hts hG hA hP hD hS hl.1 _ _ (fun q hq9 => c_X3_sitterOn l D k _  xa F q9 rm  hq9) (ci := 2) (q0 := 0) rfl rfl gX1_readSitter_X3_sitterOn rfl ⟨rfl, rfl, Nat.le_of_ble_eq_true rfl, Nat.le_of_ble_eq_true rfl⟩ (by decide +kernel) (q_l _ _) (q_r _ _) (q_nd _ _) ⟨rfl, rfl, Nat.le_of_ble_eq_true rfl, Nat.le_of_ble_eq_true rfl, Nat.le_of_ble_eq_true rfl⟩ dX1_readSitter_15 (fun q10 H locs h hP hD hS => ?_)
    obtain ⟨hP, hD⟩ := qm (w2 := tpW k ta tp ++ (rmW k xa rm)) hP hD (q_from [tpW k ta tp, rmW k xa rm] [0] [1] [0, 1] (by decide +kernel))
    refine hc_is (z := q10) rfl ?_
    refine lv_iconst (v := (-1)) hx hb dX1_readSitter_18 (by decide) ?_
    refine lv_icmp_eq (tgt := 28) hx hb dX1_readSitter_19 (by decide) (fun c11 => ?_) (fun c11 => ?_)
    · have h := fw_t c11 h
      exact B28 _ _ _ _ _ h hP hD hS hl
    · have h := fw_f c11 h
      refine lv_aload_n hx hb dX1_readSitter_22 rfl (lv_at hl 0 rfl) ?_
      refine lv_iconst (v := 1) hx hb dX1_readSitter_23 (by decide) ?_
      obtain ⟨hP, hD⟩ := qm hP hD (q_to [tpW k ta tp, rmW k xa rm] [0, 1] [0] [1] (by decide +kernel))
      refine fw_Vi (As := [.int 1]) (rest := []) (n := 1) (rv := fun b : Int32 × OB => b.1) (wp := fun b : Int32 × OB => tpW k ta b.2) h hx hb hml hown hts hG hA hP hD hS hl.1 _ _ (fun q hq9 => c_X7_fail l D k _  ta F 1 tp  hq9) (ci := 5) (q0 := 0) rfl rfl gX1_readSitter_X7_fail rfl ⟨rfl, rfl, Nat.le_of_ble_eq_true rfl, Nat.le_of_ble_eq_true rfl⟩ (by decide +kernel) (q_l _ _) (q_r _ _) (q_nd _ _) ⟨rfl, rfl, Nat.le_of_ble_eq_true rfl, Nat.le_of_ble_eq_true rfl, Nat.le_of_ble_eq_true rfl⟩ dX1_readSitter_24 (fun q12 H locs h hP hD hS => ?_)
      obtain ⟨hP, hD⟩ := qm (w2 := tpW k ta q12.2 ++ (rmW k xa rm)) hP hD (q_from [tpW k ta q12.2, rmW k xa rm] [1] [0] [0, 1] (by decide +kernel))
      refine hc_is (z := q12.1) rfl ?_
      obtain ⟨g13, h⟩ := fw_g h
      exact fw_endZ (rv := fun b : Int32 × OB × OB => b.1) (wp := fun b : Int32 × OB × OB => tpW k ta b.2.1 ++ (rmW k xa b.2.2)) hx hb hr hlocks h (bo_z g13) rfl hP hD hS dX1_readSitter_27
noncomputable def b_X1_readClause_64 (F : Nat)    (tp : OB) (rm : OB) : Option (Int32 × OB × OB) :=
  Option.bind (f_X7_fail F 4 tp) (fun q1 => (if bo q1.1 then (some (q1.1, q1.2, rm)) else none))
noncomputable def b_X1_readClause_101 (F : Nat)    (tp : OB) (rm : OB) : Option (Int32 × OB × OB) :=
  Option.bind (f_X7_fail F 4 tp) (fun q3 => (if bo q3.1 then (some (q3.1, q3.2, rm)) else none))
noncomputable def b_X1_readClause_107 (F : Nat)    (v3 : Int32) (tp : OB) (rm : OB) : Option (Int32 × OB × OB) :=
  Option.bind (f_X7_skip F tp) (fun q5 => (if v3 = 260 then (Option.bind (f_X1_readSitter F q5 rm) (fun q7 => (if bo q7.1 then (some (q7.1, q7.2.1, q7.2.2)) else none))) else if v3 = 261 then (Option.bind (f_X1_readChair F q5 rm) (fun q10 => (if bo q10.1 then (some (q10.1, q10.2.1, q10.2.2)) else none))) else if v3 = 272 then (Option.bind (f_X1_readStrand F q5 rm) (fun q13 => (if bo q13.1 then (some (q13.1, q13.2.1, q13.2.2)) else none))) else (some (1, q5, ((uF rm.1 0 1), rm.2.1, rm.2.2)))))
noncomputable def b_X1_readClause_85 (F : Nat)    (v3 : Int32) (tp : OB) (rm : OB) : Option (Int32 × OB × OB) :=
  if v3 = 261 then (if (rm.1 2) < 8 then (b_X1_readClause_107 F v3 tp rm) else (b_X1_readClause_101 F tp rm)) else (b_X1_readClause_107 F v3 tp rm)
noncomputable def b_X1_readClause_57 (F : Nat)    (v3 : Int32) (y0 : Int32) (tp : OB) (rm : OB) : Option (Int32 × OB × OB) :=
  if y0 = (rm.1 0) then (b_X1_readClause_64 F tp rm) else (if v3 = 272 then (if 4 ≤ (rm.1 1) then (b_X1_readClause_101 F tp rm) else (b_X1_readClause_85 F v3 tp rm)) else (b_X1_readClause_85 F v3 tp rm))
noncomputable def b_X1_readClause_39 (F : Nat)    (v2 : Int32) (v3 : Int32) (tp : OB) (rm : OB) : Option (Int32 × OB × OB) :=
  if 40 ≤ v2 then (b_X1_readClause_64 F tp rm) else (if v3 = 271 then (b_X1_readClause_57 F v3 1 tp rm) else (b_X1_readClause_57 F v3 0 tp rm))
noncomputable def f_X1_readClause (F : Nat)  (x2 : Int32) (tp : OB) (rm : OB) : Option (Int32 × OB × OB) :=
  Option.bind (f_X7_kind F tp) (fun q22 => (if q22 = 271 then (b_X1_readClause_39 F x2 q22 tp rm) else (if q22 = 272 then (b_X1_readClause_39 F x2 q22 tp rm) else (if q22 = 261 then (b_X1_readClause_39 F x2 q22 tp rm) else (if q22 = 260 then (b_X1_readClause_39 F x2 q22 tp rm) else (Option.bind (f_X7_fail F 0 tp) (fun q27 => (if bo q27.1 then (some (q27.1, q27.2, rm)) else none))))))))
set_option maxHeartbeats 4000000 in
set_option maxRecDepth 100000 in
theorem c_X1_readClause (l : Launch) (D : va_G) (k : Nat → ClassId) (sz : Nat)  (ta : Nat → Nat) (xa : Nat → Nat) (F : Nat)  (x2 : Int32) (tp : OB) (rm : OB)  {res : Int32 × OB × OB} (h : f_X1_readClause F x2 tp rm = some res) : CtI l yX1_readClause wsX1_readClause (rmK 4 0 0) [.ref (ta 0), .ref (xa 0), .int x2] D k sz (tpW k ta tp ++ (rmW k xa rm)) (fun r (_ : Unit) => r = res.1) (fun _ : Unit => tpW k ta res.2.1 ++ (rmW k xa res.2.2)) 0 0 := by
  refine CtI.mk (cc := cX1_readClause) (maxL := 4) (ret := (some .boolean)) (by decide) rfl (Nat.le_of_ble_eq_true rfl) ?_
  intro p e s m below meth c A ls E hP hD hS hl
  obtain ⟨hx, hb, hr, hml, hown, hts, hlocks, hin, hG, hA⟩ := E
  have hown : s.vm.findClass RX1 = some m.cls := hown
  have in3 : ∀ w ∈ u_ws RX3 TX3 17, w ∈ wsX1_readClause := fun _ h => List.mem_cons_of_mem _ (List.mem_append_left _ (List.mem_append_right _ h))
  have in7 : ∀ w ∈ u_ws RX7 TX7 8, w ∈ wsX1_readClause := fun _ h => List.mem_cons_of_mem _ (List.mem_append_right _ h)
  have hl : lv_has ls 4 [(0, .ref (ta 0)), (1, .ref (xa 0)), (2, .int x2)] := hl
  have B64 : ∀ (tp : OB) (rm : OB) (H : Heap) (locs : List Loc) (ls : Array Slot), b_X1_readClause_64 F tp rm = some res → va_P D vwCl (tpW k ta tp ++ (rmW k xa rm)) H → va_D A (tpW k ta tp ++ (rmW k xa rm)) → va_S A s.heap H locs → lv_has ls 4 [(0, .ref (ta 0))] → W p l e (rmK 4 0 0) s m (List.toArray [.ref (ta 0), .ref (xa 0), .int x2]) below meth c H locs 0 0 (MQ below (va_Qi (fun r (_ : Unit) => r = res.1) (hcB D (fun _ : Unit => tpW k ta res.2.1 ++ (rmW k xa res.2.2)) A) A) (List.toArray [.ref (ta 0), .ref (xa 0), .int x2]) s 0 0 A) (F0 m 64 ls []) := by
    intro tp rm H locs ls h hP hD hS hl
    refine lv_aload_n hx hb dX1_readClause_64 rfl (lv_at hl 0 rfl) ?_
    refine lv_iconst (v := 4) hx hb dX1_readClause_65 (by decide) ?_
    obtain ⟨hP, hD⟩ := qm hP hD (q_to [tpW k ta tp, rmW k xa rm] [0, 1] [0] [1] (by decide +kernel))
    refine fw_Vi (As := [.int 4]) (rest := []) (n := 1) (rv := fun b : Int32 × OB => b.1) (wp := fun b : Int32 × OB => tpW k ta b.2) h hx hb hml hown hts hG hA hP hD hS hl.1 _ _ (fun q hq9 => c_X7_fail l D k _  ta F 4 tp  hq9) (ci := 5) (q0 := 0) rfl rfl gX1_readClause_X7_fail rfl ⟨rfl, rfl, Nat.le_of_ble_eq_true rfl, Nat.le_of_ble_eq_true rfl⟩ (by decide +kernel) (q_l _ _) (q_r _ _) (q_nd _ _) ⟨rfl, rfl, Nat.le_of_ble_eq_true rfl, Nat.le_of_ble_eq_true rfl, Nat.le_of_ble_eq_true rfl⟩ dX1_readClause_66 (fun q1 H locs h hP hD hS => ?_)
    obtain ⟨hP, hD⟩ := qm (w2 := tpW k ta q1.2 ++ (rmW k xa rm)) hP hD (q_from [tpW k ta q1.2, rmW k xa rm] [1] [0] [0, 1] (by decide +kernel))
    refine hc_is (z := q1.1) rfl ?_
    obtain ⟨g2, h⟩ := fw_g h
    exact fw_endZ (rv := fun b : Int32 × OB × OB => b.1) (wp := fun b : Int32 × OB × OB => tpW k ta b.2.1 ++ (rmW k xa b.2.2)) hx hb hr hlocks h (bo_z g2) rfl hP hD hS dX1_readClause_69
  have B101 : ∀ (tp : OB) (rm : OB) (H : Heap) (locs : List Loc) (ls : Array Slot), b_X1_readClause_101 F tp rm = some res → va_P D vwCl (tpW k ta tp ++ (rmW k xa rm)) H → va_D A (tpW k ta tp ++ (rmW k xa rm)) → va_S A s.heap H locs → lv_has ls 4 [(0, .ref (ta 0))] → W p l e (rmK 4 0 0) s m (List.toArray [.ref (ta 0), .ref (xa 0), .int x2]) below meth c H locs 0 0 (MQ below (va_Qi (fun r (_ : Unit) => r = res.1) (hcB D (fun _ : Unit => tpW k ta res.2.1 ++ (rmW k xa res.2.2)) A) A) (List.toArray [.ref (ta 0), .ref (xa 0), .int x2]) s 0 0 A) (F0 m 101 ls []) := by
    intro tp rm H locs ls h hP hD hS hl
    refine lv_aload_n hx hb dX1_readClause_101 rfl (lv_at hl 0 rfl) ?_
    refine lv_iconst (v := 4) hx hb dX1_readClause_102 (by decide) ?_
    obtain ⟨hP, hD⟩ := qm hP hD (q_to [tpW k ta tp, rmW k xa rm] [0, 1] [0] [1] (by decide +kernel))
    refine fw_Vi (As := [.int 4]) (rest := []) (n := 1) (rv := fun b : Int32 × OB => b.1) (wp := fun b : Int32 × OB => tpW k ta b.2) h hx hb hml hown hts hG hA hP hD hS hl.1 _ _ (fun q hq9 => c_X7_fail l D k _  ta F 4 tp  hq9) (ci := 5) (q0 := 0) rfl rfl gX1_readClause_X7_fail rfl ⟨rfl, rfl, Nat.le_of_ble_eq_true rfl, Nat.le_of_ble_eq_true rfl⟩ (by decide +kernel) (q_l _ _) (q_r _ _) (q_nd _ _) ⟨rfl, rfl, Nat.le_of_ble_eq_true rfl, Nat.le_of_ble_eq_true rfl, Nat.le_of_ble_eq_true rfl⟩ dX1_readClause_103 (fun q3 H locs h hP hD hS => ?_)
    obtain ⟨hP, hD⟩ := qm (w2 := tpW k ta q3.2 ++ (rmW k xa rm)) hP hD (q_from [tpW k ta q3.2, rmW k xa rm] [1] [0] [0, 1] (by decide +kernel))
    refine hc_is (z := q3.1) rfl ?_
    obtain ⟨g4, h⟩ := fw_g h
    exact fw_endZ (rv := fun b : Int32 × OB × OB => b.1) (wp := fun b : Int32 × OB × OB => tpW k ta b.2.1 ++ (rmW k xa b.2.2)) hx hb hr hlocks h (bo_z g4) rfl hP hD hS dX1_readClause_106
  have B107 : ∀ (v3 : Int32) (tp : OB) (rm : OB) (H : Heap) (locs : List Loc) (ls : Array Slot), b_X1_readClause_107 F v3 tp rm = some res → va_P D vwCl (tpW k ta tp ++ (rmW k xa rm)) H → va_D A (tpW k ta tp ++ (rmW k xa rm)) → va_S A s.heap H locs → lv_has ls 4 [(0, .ref (ta 0)), (1, .ref (xa 0)), (3, .int v3)] → W p l e (rmK 4 0 0) s m (List.toArray [.ref (ta 0), .ref (xa 0), .int x2]) below meth c H locs 0 0 (MQ below (va_Qi (fun r (_ : Unit) => r = res.1) (hcB D (fun _ : Unit => tpW k ta res.2.1 ++ (rmW k xa res.2.2)) A) A) (List.toArray [.ref (ta 0), .ref (xa 0), .int x2]) s 0 0 A) (F0 m 107 ls []) := by
    intro v3 tp rm H locs ls h hP hD hS hl
    refine lv_aload_n hx hb dX1_readClause_107 rfl (lv_at hl 0 rfl) ?_
    obtain ⟨hP, hD⟩ := qm hP hD (q_to [tpW k ta tp, rmW k xa rm] [0, 1] [0] [1] (by decide +kernel))
    refine fw_Vv (As := []) (rest := []) (n := 0) (wp := fun b : OB => tpW k ta b) h hx hb hml hown hts hG hA hP hD hS hl.1 _ _ (fun q hq9 => c_X7_skip l D k _  ta F  tp  hq9) (ci := 5) (q0 := 0) rfl rfl gX1_readClause_X7_skip rfl ⟨rfl, rfl, Nat.le_of_ble_eq_true rfl, Nat.le_of_ble_eq_true rfl⟩ (by decide +kernel) (q_l _ _) (q_r _ _) (q_nd _ _) ⟨rfl, rfl, Nat.le_of_ble_eq_true rfl, Nat.le_of_ble_eq_true rfl, Nat.le_of_ble_eq_true rfl⟩ dX1_readClause_108 (fun q5 H locs h hP hD hS => ?_)
    obtain ⟨hP, hD⟩ := qm (w2 := tpW k ta q5 ++ (rmW k xa rm)) hP hD (q_from [tpW k ta q5, rmW k xa rm] [1] [0] [0, 1] (by decide +kernel))
    refine lv_iload_n hx hb dX1_readClause_111 rfl (lv_at hl 2 rfl) ?_
    by_cases c6 : v3 = 260
    · have h := fw_t c6 h
      refine lv_lookup (off := 48) (tgt := 160) hx hb dX1_readClause_112 (by decide) (by rw [c6]; rfl) (by decide) ?_
      refine lv_aload_n hx hb dX1_readClause_160 rfl (lv_at hl 0 rfl) ?_
      refine lv_aload_n hx hb dX1_readClause_161 rfl (lv_at hl 1 rfl) ?_
      refine fw_Si (As := [.ref (ta 0), .ref (xa 0)]) (rest := []) (n := 2) (wr := []) (rv := fun b : Int32 × OB × OB => b.1) (wp := fun b : Int32 × OB × OB => tpW k ta b.2.1 ++ (rmW k xa b.2.2)) h hx hb hml hown hts hG hA hP hD hS hl.1 (List.range (tpW k ta q5 ++ (rmW k xa rm)).length) [] (fun q hq9 => c_X1_readSitter l D k _  ta xa F  q5 rm  hq9) gX1_readClause_X1_readSitter rfl ⟨rfl, rfl, Nat.le_of_ble_eq_true rfl, Nat.le_of_ble_eq_true rfl⟩ (by decide +kernel) (al_C _) rfl (al_n _) ⟨rfl, rfl, Nat.le_of_ble_eq_true rfl, Nat.le_of_ble_eq_true rfl, Nat.le_of_ble_eq_true rfl⟩ dX1_readClause_162 (fun q7 H locs h hP hD hS => ?_)
      obtain ⟨hP, hD⟩ := cv (w' := tpW k ta q7.2.1 ++ (rmW k xa q7.2.2)) hP hD rfl
      refine hc_is (z := q7.1) rfl ?_
      obtain ⟨g8, h⟩ := fw_g h
      exact fw_endZ (rv := fun b : Int32 × OB × OB => b.1) (wp := fun b : Int32 × OB × OB => tpW k ta b.2.1 ++ (rmW k xa b.2.2)) hx hb hr hlocks h (bo_z g8) rfl hP hD hS dX1_readClause_165
    have h := fw_f c6 h
    by_cases c9 : v3 = 261
    · have h := fw_t c9 h
      refine lv_lookup (off := 42) (tgt := 154) hx hb dX1_readClause_112 (by decide) (by rw [c9]; rfl) (by decide) ?_
      refine lv_aload_n hx hb dX1_readClause_154 rfl (lv_at hl 0 rfl) ?_
      refine lv_aload_n hx hb dX1_readClause_155 rfl (lv_at hl 1 rfl) ?_
      refine fw_Si (As := [.ref (ta 0), .ref (xa 0)]) (rest := []) (n := 2) (wr := []) (rv := fun b : Int32 × OB × OB => b.1) (wp := fun b : Int32 × OB × OB => tpW k ta b.2.1 ++ (rmW k xa b.2.2)) h hx hb hml hown hts hG hA hP hD hS hl.1 (List.range (tpW k ta q5 ++ (rmW k xa rm)).length) [] (fun q hq9 => c_X1_readChair l D k _  ta xa F  q5 rm  hq9) gX1_readClause_X1_readChair rfl ⟨rfl, rfl, Nat.le_of_ble_eq_true rfl, Nat.le_of_ble_eq_true rfl⟩ (by decide +kernel) (al_C _) rfl (al_n _) ⟨rfl, rfl, Nat.le_of_ble_eq_true rfl, Nat.le_of_ble_eq_true rfl, Nat.le_of_ble_eq_true rfl⟩ dX1_readClause_156 (fun q10 H locs h hP hD hS => ?_)
      obtain ⟨hP, hD⟩ := cv (w' := tpW k ta q10.2.1 ++ (rmW k xa q10.2.2)) hP hD rfl
      refine hc_is (z := q10.1) rfl ?_
      obtain ⟨g11, h⟩ := fw_g h
      exact fw_endZ (rv := fun b : Int32 × OB × OB => b.1) (wp := fun b : Int32 × OB × OB => tpW k ta b.2.1 ++ (rmW k xa b.2.2)) hx hb hr hlocks h (bo_z g11) rfl hP hD hS dX1_readClause_159
    have h := fw_f c9 h
    by_cases c12 : v3 = 272
    · have h := fw_t c12 h
      refine lv_lookup (off := 36) (tgt := 148) hx hb dX1_readClause_112 (by decide) (by rw [c12]; rfl) (by decide) ?_
      refine lv_aload_n hx hb dX1_readClause_148 rfl (lv_at hl 0 rfl) ?_
      refine lv_aload_n hx hb dX1_readClause_149 rfl (lv_at hl 1 rfl) ?_
      refine fw_Si (As := [.ref (ta 0), .ref (xa 0)]) (rest := []) (n := 2) (wr := []) (rv := fun b : Int32 × OB × OB => b.1) (wp := fun b : Int32 × OB × OB => tpW k ta b.2.1 ++ (rmW k xa b.2.2)) h hx hb hml hown hts hG hA hP hD hS hl.1 (List.range (tpW k ta q5 ++ (rmW k xa rm)).length) [] (fun q hq9 => c_X1_readStrand l D k _  ta xa F  q5 rm  hq9) gX1_readClause_X1_readStrand rfl ⟨rfl, rfl, Nat.le_of_ble_eq_true rfl, Nat.le_of_ble_eq_true rfl⟩ (by decide +kernel) (al_C _) rfl (al_n _) ⟨rfl, rfl, Nat.le_of_ble_eq_true rfl, Nat.le_of_ble_eq_true rfl, Nat.le_of_ble_eq_true rfl⟩ dX1_readClause_150 (fun q13 H locs h hP hD hS => ?_)
      obtain ⟨hP, hD⟩ := cv (w' := tpW k ta q13.2.1 ++ (rmW k xa q13.2.2)) hP hD rfl
      refine hc_is (z := q13.1) rfl ?_
      obtain ⟨g14, h⟩ := fw_g h
      exact fw_endZ (rv := fun b : Int32 × OB × OB => b.1) (wp := fun b : Int32 × OB × OB => tpW k ta b.2.1 ++ (rmW k xa b.2.2)) hx hb hr hlocks h (bo_z g14) rfl hP hD hS dX1_readClause_153
    have h := fw_f c12 h
    simp only [sp_eq, show (260 : Int32).toInt = 260 from by decide, show (261 : Int32).toInt = 261 from by decide, show (272 : Int32).toInt = 272 from by decide] at c6 c9 c12
    refine lv_lookup (off := 54) (tgt := 166) hx hb dX1_readClause_112 (by decide) (by show Op.lookupswitch.offset [(260, 48), (261, 42), (272, 36)] _ _ = _; rw [Op.lookupswitch.offset_cons, if_neg (by omega), Op.lookupswitch.offset_cons, if_neg (by omega), Op.lookupswitch.offset_cons, if_neg (by omega), Op.lookupswitch.offset_nil]) (by decide) ?_
    refine lv_aload_n hx hb dX1_readClause_166 rfl (lv_at hl 1 rfl) ?_
    refine lv_iconst (v := 1) hx hb dX1_readClause_167 (by decide) ?_
    refine va_put (D := D) (ci := 2) (v := .int 1) (C := RX3) (T := TX3) (N := 17) hx hb hts in3 tyX3 tyX3_ok nmX3 hown hG.1 hP hD hS 5 rfl rfl 0 (by decide) (hts (.fieldLink RX1 39 "ChairCane$Room" "told" "Z") (mem_b bq_wsX1_readClause 0 0 rfl)) (fun _ h9 => h9) rfl (tyX3_ok 0 (by decide)) rfl rfl (Nat.le_of_ble_eq_true rfl) dX1_readClause_168 (fun H locs hP hD hS => ?_)
    refine lv_iconst (v := 1) hx hb dX1_readClause_171 (by decide) ?_
    exact fw_endZ (v := 1) (rv := fun b : Int32 × OB × OB => b.1) (wp := fun b : Int32 × OB × OB => tpW k ta b.2.1 ++ (rmW k xa b.2.2)) hx hb hr hlocks h rfl rfl hP hD hS dX1_readClause_172
  have B85 : ∀ (v3 : Int32) (tp : OB) (rm : OB) (H : Heap) (locs : List Loc) (ls : Array Slot), b_X1_readClause_85 F v3 tp rm = some res → va_P D vwCl (tpW k ta tp ++ (rmW k xa rm)) H → va_D A (tpW k ta tp ++ (rmW k xa rm)) → va_S A s.heap H locs → lv_has ls 4 [(0, .ref (ta 0)), (1, .ref (xa 0)), (3, .int v3)] → W p l e (rmK 4 0 0) s m (List.toArray [.ref (ta 0), .ref (xa 0), .int x2]) below meth c H locs 0 0 (MQ below (va_Qi (fun r (_ : Unit) => r = res.1) (hcB D (fun _ : Unit => tpW k ta res.2.1 ++ (rmW k xa res.2.2)) A) A) (List.toArray [.ref (ta 0), .ref (xa 0), .int x2]) s 0 0 A) (F0 m 85 ls []) := by
    intro v3 tp rm H locs ls h hP hD hS hl
    refine lv_iload_n hx hb dX1_readClause_85 rfl (lv_at hl 2 rfl) ?_
    refine lv_sipush (v := 261) hx hb dX1_readClause_86 (by decide) ?_
    refine lv_icmp_ne (tgt := 107) hx hb dX1_readClause_89 (by decide) (fun c15 => ?_) (fun c15 => ?_)
    · have h := fw_f c15 h
      exact B107 _ _ _ _ _ _ h hP hD hS hl
    · have h := fw_t c15 h
      refine lv_aload_n hx hb dX1_readClause_92 rfl (lv_at hl 1 rfl) ?_
      refine va_get (D := D) (ci := 2) (v := .int (rm.1 2)) (C := RX3) (T := TX3) (N := 17) hx hb hts in3 hown hG.1 hP 5 rfl rfl 2 (by decide) (hts (.fieldLink RX1 47 "ChairCane$Room" "chairs" "I") (mem_b bq_wsX1_readClause 0 2 rfl)) (fun _ h9 => h9) rfl dX1_readClause_93 ?_
      refine lv_bipush (v := 8) hx hb dX1_readClause_96 (by decide) ?_
      refine lv_icmp_lt (tgt := 107) hx hb dX1_readClause_98 (by decide) (fun c16 => ?_) (fun c16 => ?_)
      · have h := fw_t c16 h
        exact B107 _ _ _ _ _ _ h hP hD hS hl
      · have h := fw_f c16 h
        exact B101 _ _ _ _ _ h hP hD hS (lv_sub hl [0] rfl)
  have B57 : ∀ (v3 : Int32) (y0 : Int32) (tp : OB) (rm : OB) (H : Heap) (locs : List Loc) (ls : Array Slot), b_X1_readClause_57 F v3 y0 tp rm = some res → va_P D vwCl (tpW k ta tp ++ (rmW k xa rm)) H → va_D A (tpW k ta tp ++ (rmW k xa rm)) → va_S A s.heap H locs → lv_has ls 4 [(0, .ref (ta 0)), (1, .ref (xa 0)), (3, .int v3)] → W p l e (rmK 4 0 0) s m (List.toArray [.ref (ta 0), .ref (xa 0), .int x2]) below meth c H locs 0 0 (MQ below (va_Qi (fun r (_ : Unit) => r = res.1) (hcB D (fun _ : Unit => tpW k ta res.2.1 ++ (rmW k xa res.2.2)) A) A) (List.toArray [.ref (ta 0), .ref (xa 0), .int x2]) s 0 0 A) (F0 m 57 ls [.int y0]) := by
    intro v3 y0 tp rm H locs ls h hP hD hS hl
    refine lv_aload_n hx hb dX1_readClause_57 rfl (lv_at hl 1 rfl) ?_
    refine va_get (D := D) (ci := 2) (v := .int (rm.1 0)) (C := RX3) (T := TX3) (N := 17) hx hb hts in3 hown hG.1 hP 5 rfl rfl 0 (by decide) (hts (.fieldLink RX1 39 "ChairCane$Room" "told" "Z") (mem_b bq_wsX1_readClause 0 0 rfl)) (fun _ h9 => h9) rfl dX1_readClause_58 ?_
    refine lv_icmp_ne (tgt := 70) hx hb dX1_readClause_61 (by decide) (fun c17 => ?_) (fun c17 => ?_)
    · have h := fw_f c17 h
      refine lv_iload_n hx hb dX1_readClause_70 rfl (lv_at hl 2 rfl) ?_
      refine lv_sipush (v := 272) hx hb dX1_readClause_71 (by decide) ?_
      refine lv_icmp_ne (tgt := 85) hx hb dX1_readClause_74 (by decide) (fun c18 => ?_) (fun c18 => ?_)
      · have h := fw_f c18 h
        exact B85 _ _ _ _ _ _ h hP hD hS hl
      · have h := fw_t c18 h
        refine lv_aload_n hx hb dX1_readClause_77 rfl (lv_at hl 1 rfl) ?_
        refine va_get (D := D) (ci := 2) (v := .int (rm.1 1)) (C := RX3) (T := TX3) (N := 17) hx hb hts in3 hown hG.1 hP 5 rfl rfl 1 (by decide) (hts (.fieldLink RX1 43 "ChairCane$Room" "strands" "I") (mem_b bq_wsX1_readClause 0 1 rfl)) (fun _ h9 => h9) rfl dX1_readClause_78 ?_
        refine lv_iconst (v := 4) hx hb dX1_readClause_81 (by decide) ?_
        refine lv_icmp_ge (tgt := 101) hx hb dX1_readClause_82 (by decide) (fun c19 => ?_) (fun c19 => ?_)
        · have h := fw_t c19 h
          exact B101 _ _ _ _ _ h hP hD hS (lv_sub hl [0] rfl)
        · have h := fw_f c19 h
          exact B85 _ _ _ _ _ _ h hP hD hS hl
    · have h := fw_t c17 h
      exact B64 _ _ _ _ _ h hP hD hS (lv_sub hl [0] rfl)
  have B39 : ∀ (v2 : Int32) (v3 : Int32) (tp : OB) (rm : OB) (H : Heap) (locs : List Loc) (ls : Array Slot), b_X1_readClause_39 F v2 v3 tp rm = some res → va_P D vwCl (tpW k ta tp ++ (rmW k xa rm)) H → va_D A (tpW k ta tp ++ (rmW k xa rm)) → va_S A s.heap H locs → lv_has ls 4 [(0, .ref (ta 0)), (1, .ref (xa 0)), (2, .int v2), (3, .int v3)] → W p l e (rmK 4 0 0) s m (List.toArray [.ref (ta 0), .ref (xa 0), .int x2]) below meth c H locs 0 0 (MQ below (va_Qi (fun r (_ : Unit) => r = res.1) (hcB D (fun _ : Unit => tpW k ta res.2.1 ++ (rmW k xa res.2.2)) A) A) (List.toArray [.ref (ta 0), .ref (xa 0), .int x2]) s 0 0 A) (F0 m 39 ls []) := by
    intro v2 v3 tp rm H locs ls h hP hD hS hl
    refine lv_iload_n hx hb dX1_readClause_39 rfl (lv_at hl 2 rfl) ?_
    refine lv_bipush (v := 40) hx hb dX1_readClause_40 (by decide) ?_
    refine lv_icmp_ge (tgt := 64) hx hb dX1_readClause_42 (by decide) (fun c20 => ?_) (fun c20 => ?_)
    · have h := fw_t c20 h
      exact B64 _ _ _ _ _ h hP hD hS (lv_sub hl [0] rfl)
    · have h := fw_f c20 h
      refine lv_iload_n hx hb dX1_readClause_45 rfl (lv_at hl 3 rfl) ?_
      refine lv_sipush (v := 271) hx hb dX1_readClause_46 (by decide) ?_
      refine lv_icmp_ne (tgt := 56) hx hb dX1_readClause_49 (by decide) (fun c21 => ?_) (fun c21 => ?_)
      · have h := fw_f c21 h
        refine lv_iconst (v := 0) hx hb dX1_readClause_56 (by decide) ?_
        exact B57 _ _ _ _ _ _ _ h hP hD hS (lv_sub hl [0, 1, 3] rfl)
      · have h := fw_t c21 h
        refine lv_iconst (v := 1) hx hb dX1_readClause_52 (by decide) ?_
        refine lv_goto (tgt := 57) hx hb dX1_readClause_53 (by decide) ?_
        exact B57 _ _ _ _ _ _ _ h hP hD hS (lv_sub hl [0, 1, 3] rfl)
  refine lv_aload_n hx hb dX1_readClause_0 rfl (lv_at hl 0 rfl) ?_
  obtain ⟨hP, hD⟩ := qm hP hD (q_to [tpW k ta tp, rmW k xa rm] [0, 1] [0] [1] (by decide +kernel))
  refine fw_Vi (As := []) (rest := []) (n := 0) (rv := fun b : Int32 => b) (wp := fun b : Int32 => tpW k ta tp) h hx hb hml hown hts hG hA hP hD hS hl.1 _ _ (fun q hq9 => c_X7_kind l D k _  ta F  tp  hq9) (ci := 5) (q0 := 0) rfl rfl gX1_readClause_X7_kind rfl ⟨rfl, rfl, Nat.le_of_ble_eq_true rfl, Nat.le_of_ble_eq_true rfl⟩ (by decide +kernel) (q_l _ _) (q_r _ _) (q_nd _ _) ⟨rfl, rfl, Nat.le_of_ble_eq_true rfl, Nat.le_of_ble_eq_true rfl, Nat.le_of_ble_eq_true rfl⟩ dX1_readClause_1 (fun q22 H locs h hP hD hS => ?_)
  obtain ⟨hP, hD⟩ := qm (w2 := tpW k ta tp ++ (rmW k xa rm)) hP hD (q_from [tpW k ta tp, rmW k xa rm] [1] [0] [0, 1] (by decide +kernel))
  refine hc_is (z := q22) rfl ?_
  refine lv_istore_n (lv' := [(3, .int q22), (0, .ref (ta 0)), (1, .ref (xa 0)), (2, .int x2)]) hx hb dX1_readClause_4 rfl hl (by decide) rfl (fun ls hl => ?_)
  refine lv_iload_n hx hb dX1_readClause_5 rfl (lv_at hl 0 rfl) ?_
  refine lv_sipush (v := 271) hx hb dX1_readClause_6 (by decide) ?_
  refine lv_icmp_eq (tgt := 39) hx hb dX1_readClause_9 (by decide) (fun c23 => ?_) (fun c23 => ?_)
  · have h := fw_t c23 h
    exact B39 _ _ _ _ _ _ _ h hP hD hS (lv_sub hl [1, 2, 3, 0] rfl)
  · have h := fw_f c23 h
    refine lv_iload_n hx hb dX1_readClause_12 rfl (lv_at hl 0 rfl) ?_
    refine lv_sipush (v := 272) hx hb dX1_readClause_13 (by decide) ?_
    refine lv_icmp_eq (tgt := 39) hx hb dX1_readClause_16 (by decide) (fun c24 => ?_) (fun c24 => ?_)
    · have h := fw_t c24 h
      exact B39 _ _ _ _ _ _ _ h hP hD hS (lv_sub hl [1, 2, 3, 0] rfl)
    · have h := fw_f c24 h
      refine lv_iload_n hx hb dX1_readClause_19 rfl (lv_at hl 0 rfl) ?_
      refine lv_sipush (v := 261) hx hb dX1_readClause_20 (by decide) ?_
      refine lv_icmp_eq (tgt := 39) hx hb dX1_readClause_23 (by decide) (fun c25 => ?_) (fun c25 => ?_)
      · have h := fw_t c25 h
        exact B39 _ _ _ _ _ _ _ h hP hD hS (lv_sub hl [1, 2, 3, 0] rfl)
      · have h := fw_f c25 h
        refine lv_iload_n hx hb dX1_readClause_26 rfl (lv_at hl 0 rfl) ?_
        refine lv_sipush (v := 260) hx hb dX1_readClause_27 (by decide) ?_
        refine lv_icmp_eq (tgt := 39) hx hb dX1_readClause_30 (by decide) (fun c26 => ?_) (fun c26 => ?_)
        · have h := fw_t c26 h
          exact B39 _ _ _ _ _ _ _ h hP hD hS (lv_sub hl [1, 2, 3, 0] rfl)
        · have h := fw_f c26 h
          refine lv_aload_n hx hb dX1_readClause_33 rfl (lv_at hl 1 rfl) ?_
          refine lv_iconst (v := 0) hx hb dX1_readClause_34 (by decide) ?_
          obtain ⟨hP, hD⟩ := qm hP hD (q_to [tpW k ta tp, rmW k xa rm] [0, 1] [0] [1] (by decide +kernel))
          refine fw_Vi (As := [.int 0]) (rest := []) (n := 1) (rv := fun b : Int32 × OB => b.1) (wp := fun b : Int32 × OB => tpW k ta b.2) h hx hb hml hown hts hG hA hP hD hS hl.1 _ _ (fun q hq9 => c_X7_fail l D k _  ta F 0 tp  hq9) (ci := 5) (q0 := 0) rfl rfl gX1_readClause_X7_fail rfl ⟨rfl, rfl, Nat.le_of_ble_eq_true rfl, Nat.le_of_ble_eq_true rfl⟩ (by decide +kernel) (q_l _ _) (q_r _ _) (q_nd _ _) ⟨rfl, rfl, Nat.le_of_ble_eq_true rfl, Nat.le_of_ble_eq_true rfl, Nat.le_of_ble_eq_true rfl⟩ dX1_readClause_35 (fun q27 H locs h hP hD hS => ?_)
          obtain ⟨hP, hD⟩ := qm (w2 := tpW k ta q27.2 ++ (rmW k xa rm)) hP hD (q_from [tpW k ta q27.2, rmW k xa rm] [1] [0] [0, 1] (by decide +kernel))
          refine hc_is (z := q27.1) rfl ?_
          obtain ⟨g28, h⟩ := fw_g h
          exact fw_endZ (rv := fun b : Int32 × OB × OB => b.1) (wp := fun b : Int32 × OB × OB => tpW k ta b.2.1 ++ (rmW k xa b.2.2)) hx hb hr hlocks h (bo_z g28) rfl hP hD hS dX1_readClause_38
noncomputable def b_X1_read_10 (F : Nat)    (k10 : (Int32 × OB × OB) → Option (Int32 × OB × OB)) (a10 : (Int32 × OB × OB)) : Option (Int32 × OB × OB) :=
  if 40 < a10.1 then (some (0, a10.2.1, a10.2.2)) else (Option.bind (f_X1_readClause F a10.1 a10.2.1 a10.2.2) (fun q2 => (if q2.1 = 0 then (some (0, q2.2.1, q2.2.2)) else (Option.bind (f_X7_kind F q2.2.1) (fun q4 => (if q4 = (-1) then (Option.bind (f_X3_restart F q2.2.2) (fun q10 => (some (1, q2.2.1, q10)))) else (Option.bind (f_X7_take F 59 q2.2.1) (fun q6 => (if q6.1 = 0 then (Option.bind (f_X7_fail F 0 q6.2) (fun q8 => (if bo q8.1 then (some (q8.1, q8.2, q2.2.2)) else none))) else (k10 ((a10.1 + 1), q6.2, q2.2.2)))))))))))
noncomputable def f_X1_read (F : Nat)   (tp : OB) (rm : OB) : Option (Int32 × OB × OB) :=
  Option.bind (f_X7_cutUp F tp) (fun q11 => (Option.bind (f_X3_clear F rm) (fun q12 => (lp (b_X1_read_10 F) F (0, q11, q12)))))
set_option maxHeartbeats 4000000 in
set_option maxRecDepth 100000 in
theorem c_X1_read (l : Launch) (D : va_G) (k : Nat → ClassId) (sz : Nat) (ad tv : Nat → Nat) (ta : Nat → Nat) (xa : Nat → Nat) (F : Nat)   (tp : OB) (rm : OB)  {res : Int32 × OB × OB} (h : f_X1_read F tp rm = some res) : CtIE l yX1_read wsX1_read (rmK 9 0 0) [.ref (ta 0), .ref (xa 0)] D k (EX ad tv) sz (tpW k ta tp ++ (rmW k xa rm)) (fun r (_ : Unit) => r = res.1) (fun _ : Unit => tpW k ta res.2.1 ++ (rmW k xa res.2.2)) 0 0 := by
  refine CtIE.mk (cc := cX1_read) (maxL := 3) (ret := (some .boolean)) (by decide) rfl (Nat.le_of_ble_eq_true rfl) ?_
  intro p e s m below meth c A ls hE E hP hD hS hl
  obtain ⟨hx, hb, hr, hml, hown, hts, hlocks, hin, hG, hA⟩ := E
  have hown : s.vm.findClass RX1 = some m.cls := hown
  have in3 : ∀ w ∈ u_ws RX3 TX3 17, w ∈ wsX1_read := fun _ h => List.mem_cons_of_mem _ (List.mem_append_right _ h)
  have in7 : ∀ w ∈ u_ws RX7 TX7 8, w ∈ wsX1_read := fun _ h => List.mem_cons_of_mem _ (List.mem_append_left _ (List.mem_append_right _ h))
  have hl : lv_has ls 3 [(0, .ref (ta 0)), (1, .ref (xa 0))] := hl
  have B10 : ∀ a10 : (Int32 × OB × OB), lp (b_X1_read_10 F) F a10 = some res → ∀ (H : Heap) (locs : List Loc) (ls : Array Slot), va_P D vwCl (tpW k ta a10.2.1 ++ (rmW k xa a10.2.2)) H → va_D A (tpW k ta a10.2.1 ++ (rmW k xa a10.2.2)) → va_S A s.heap H locs → lv_has ls 3 [(0, .ref (ta 0)), (1, .ref (xa 0)), (2, .int a10.1)] → W p l e (rmK 9 0 0) s m (List.toArray [.ref (ta 0), .ref (xa 0)]) below meth c H locs 0 0 (MQ below (va_Qi (fun r (_ : Unit) => r = res.1) (hcB D (fun _ : Unit => tpW k ta res.2.1 ++ (rmW k xa res.2.2)) A) A) (List.toArray [.ref (ta 0), .ref (xa 0)]) s 0 0 A) (F0 m 10 ls []) := by
    refine lp_W ?_ F
    intro k10 hk10 a10 h H locs ls hP hD hS hl
    have hc10 : ∀ (v2 : Int32) (tp : OB) (rm : OB), k10 (v2, tp, rm) = some res → ∀ (H : Heap) (locs : List Loc) (ls : Array Slot), va_P D vwCl (tpW k ta tp ++ (rmW k xa rm)) H → va_D A (tpW k ta tp ++ (rmW k xa rm)) → va_S A s.heap H locs → lv_has ls 3 [(0, .ref (ta 0)), (1, .ref (xa 0)), (2, .int v2)] → W p l e (rmK 9 0 0) s m (List.toArray [.ref (ta 0), .ref (xa 0)]) below meth c H locs 0 0 (MQ below (va_Qi (fun r (_ : Unit) => r = res.1) (hcB D (fun _ : Unit => tpW k ta res.2.1 ++ (rmW k xa res.2.2)) A) A) (List.toArray [.ref (ta 0), .ref (xa 0)]) s 0 0 A) (F0 m 10 ls []) := fun v2 tp rm => hk10 (v2, tp, rm)
    refine lv_iload_n hx hb dX1_read_10 rfl (lv_at hl 2 rfl) ?_
    refine lv_bipush (v := 40) hx hb dX1_read_11 (by decide) ?_
    refine lv_icmp_gt (tgt := 62) hx hb dX1_read_13 (by decide) (fun c1 => ?_) (fun c1 => ?_)
    · have h := fw_t c1 h
      refine lv_iconst (v := 0) hx hb dX1_read_62 (by decide) ?_
      exact fw_endZ (v := 0) (rv := fun b : Int32 × OB × OB => b.1) (wp := fun b : Int32 × OB × OB => tpW k ta b.2.1 ++ (rmW k xa b.2.2)) hx hb hr hlocks h rfl rfl hP hD hS dX1_read_63
    · have h := fw_f c1 h
      refine lv_aload_n hx hb dX1_read_16 rfl (lv_at hl 0 rfl) ?_
      refine lv_aload_n hx hb dX1_read_17 rfl (lv_at hl 1 rfl) ?_
      refine lv_iload_n hx hb dX1_read_18 rfl (lv_at hl 2 rfl) ?_
      refine fw_Si (As := [.ref (ta 0), .ref (xa 0), .int a10.1]) (rest := []) (n := 3) (wr := []) (rv := fun b : Int32 × OB × OB => b.1) (wp := fun b : Int32 × OB × OB => tpW k ta b.2.1 ++ (rmW k xa b.2.2)) h hx hb hml hown hts hG hA hP hD hS hl.1 (List.range (tpW k ta a10.2.1 ++ (rmW k xa a10.2.2)).length) [] (fun q hq9 => c_X1_readClause l D k _  ta xa F a10.1 a10.2.1 a10.2.2  hq9) gX1_read_X1_readClause rfl ⟨rfl, rfl, Nat.le_of_ble_eq_true rfl, Nat.le_of_ble_eq_true rfl⟩ (by decide +kernel) (al_C _) rfl (al_n _) ⟨rfl, rfl, Nat.le_of_ble_eq_true rfl, Nat.le_of_ble_eq_true rfl, Nat.le_of_ble_eq_true rfl⟩ dX1_read_19 (fun q2 H locs h hP hD hS => ?_)
      obtain ⟨hP, hD⟩ := cv (w' := tpW k ta q2.2.1 ++ (rmW k xa q2.2.2)) hP hD rfl
      refine hc_is (z := q2.1) rfl ?_
      refine lv_if_ne (tgt := 27) hx hb dX1_read_22 (by decide) (fun c3 => ?_) (fun c3 => ?_)
      · have h := fw_f c3 h
        refine lv_aload_n hx hb dX1_read_27 rfl (lv_at hl 0 rfl) ?_
        obtain ⟨hP, hD⟩ := qm hP hD (q_to [tpW k ta q2.2.1, rmW k xa q2.2.2] [0, 1] [0] [1] (by decide +kernel))
        refine fw_Vi (As := []) (rest := []) (n := 0) (rv := fun b : Int32 => b) (wp := fun b : Int32 => tpW k ta q2.2.1) h hx hb hml hown hts hG hA hP hD hS hl.1 _ _ (fun q hq9 => c_X7_kind l D k _  ta F  q2.2.1  hq9) (ci := 5) (q0 := 0) rfl rfl gX1_read_X7_kind rfl ⟨rfl, rfl, Nat.le_of_ble_eq_true rfl, Nat.le_of_ble_eq_true rfl⟩ (by decide +kernel) (q_l _ _) (q_r _ _) (q_nd _ _) ⟨rfl, rfl, Nat.le_of_ble_eq_true rfl, Nat.le_of_ble_eq_true rfl, Nat.le_of_ble_eq_true rfl⟩ dX1_read_28 (fun q4 H locs h hP hD hS => ?_)
        obtain ⟨hP, hD⟩ := qm (w2 := tpW k ta q2.2.1 ++ (rmW k xa q2.2.2)) hP hD (q_from [tpW k ta q2.2.1, rmW k xa q2.2.2] [1] [0] [0, 1] (by decide +kernel))
        refine hc_is (z := q4) rfl ?_
        refine lv_iconst (v := (-1)) hx hb dX1_read_31 (by decide) ?_
        refine lv_icmp_ne (tgt := 41) hx hb dX1_read_32 (by decide) (fun c5 => ?_) (fun c5 => ?_)
        · have h := fw_f c5 h
          refine lv_aload_n hx hb dX1_read_41 rfl (lv_at hl 0 rfl) ?_
          refine lv_bipush (v := 59) hx hb dX1_read_42 (by decide) ?_
          obtain ⟨hP, hD⟩ := qm hP hD (q_to [tpW k ta q2.2.1, rmW k xa q2.2.2] [0, 1] [0] [1] (by decide +kernel))
          refine fw_Vi (As := [.int 59]) (rest := []) (n := 1) (rv := fun b : Int32 × OB => b.1) (wp := fun b : Int32 × OB => tpW k ta b.2) h hx hb hml hown hts hG hA hP hD hS hl.1 _ _ (fun q hq9 => c_X7_take l D k _  ta F 59 q2.2.1  hq9) (ci := 5) (q0 := 0) rfl rfl gX1_read_X7_take rfl ⟨rfl, rfl, Nat.le_of_ble_eq_true rfl, Nat.le_of_ble_eq_true rfl⟩ (by decide +kernel) (q_l _ _) (q_r _ _) (q_nd _ _) ⟨rfl, rfl, Nat.le_of_ble_eq_true rfl, Nat.le_of_ble_eq_true rfl, Nat.le_of_ble_eq_true rfl⟩ dX1_read_44 (fun q6 H locs h hP hD hS => ?_)
          obtain ⟨hP, hD⟩ := qm (w2 := tpW k ta q6.2 ++ (rmW k xa q2.2.2)) hP hD (q_from [tpW k ta q6.2, rmW k xa q2.2.2] [1] [0] [0, 1] (by decide +kernel))
          refine hc_is (z := q6.1) rfl ?_
          refine lv_if_ne (tgt := 56) hx hb dX1_read_47 (by decide) (fun c7 => ?_) (fun c7 => ?_)
          · have h := fw_f c7 h
            refine lv_iinc (v := (a10.1 + 1)) (lv' := [(2, .int (a10.1 + 1)), (0, .ref (ta 0)), (1, .ref (xa 0))]) hx hb dX1_read_56 hl (k := 2) rfl rfl (by decide) rfl (fun ls hl => ?_)
            refine lv_goto (tgt := 10) hx hb dX1_read_59 (by decide) ?_
            exact hc10 _ _ _ h _ _ _ hP hD hS (lv_sub hl [1, 2, 0] rfl)
          · have h := fw_t c7 h
            refine lv_aload_n hx hb dX1_read_50 rfl (lv_at hl 0 rfl) ?_
            refine lv_iconst (v := 0) hx hb dX1_read_51 (by decide) ?_
            obtain ⟨hP, hD⟩ := qm hP hD (q_to [tpW k ta q6.2, rmW k xa q2.2.2] [0, 1] [0] [1] (by decide +kernel))
            refine fw_Vi (As := [.int 0]) (rest := []) (n := 1) (rv := fun b : Int32 × OB => b.1) (wp := fun b : Int32 × OB => tpW k ta b.2) h hx hb hml hown hts hG hA hP hD hS hl.1 _ _ (fun q hq9 => c_X7_fail l D k _  ta F 0 q6.2  hq9) (ci := 5) (q0 := 0) rfl rfl gX1_read_X7_fail rfl ⟨rfl, rfl, Nat.le_of_ble_eq_true rfl, Nat.le_of_ble_eq_true rfl⟩ (by decide +kernel) (q_l _ _) (q_r _ _) (q_nd _ _) ⟨rfl, rfl, Nat.le_of_ble_eq_true rfl, Nat.le_of_ble_eq_true rfl, Nat.le_of_ble_eq_true rfl⟩ dX1_read_52 (fun q8 H locs h hP hD hS => ?_)
            obtain ⟨hP, hD⟩ := qm (w2 := tpW k ta q8.2 ++ (rmW k xa q2.2.2)) hP hD (q_from [tpW k ta q8.2, rmW k xa q2.2.2] [1] [0] [0, 1] (by decide +kernel))
            refine hc_is (z := q8.1) rfl ?_
            obtain ⟨g9, h⟩ := fw_g h
            exact fw_endZ (rv := fun b : Int32 × OB × OB => b.1) (wp := fun b : Int32 × OB × OB => tpW k ta b.2.1 ++ (rmW k xa b.2.2)) hx hb hr hlocks h (bo_z g9) rfl hP hD hS dX1_read_55
        · have h := fw_t c5 h
          refine lv_aload_n hx hb dX1_read_35 rfl (lv_at hl 1 rfl) ?_
          obtain ⟨hP, hD⟩ := qm hP hD (q_to [tpW k ta q2.2.1, rmW k xa q2.2.2] [0, 1] [1] [0] (by decide +kernel))
          refine fw_Vv (As := []) (rest := []) (n := 0) (wp := fun b : OB => rmW k xa b) h hx hb hml hown hts hG hA hP hD hS hl.1 _ _ (fun q hq9 => c_X3_restart l D k _  xa F  q2.2.2  hq9) (ci := 2) (q0 := 0) rfl rfl gX1_read_X3_restart rfl ⟨rfl, rfl, Nat.le_of_ble_eq_true rfl, Nat.le_of_ble_eq_true rfl⟩ (by decide +kernel) (q_l _ _) (q_r _ _) (q_nd _ _) ⟨rfl, rfl, Nat.le_of_ble_eq_true rfl, Nat.le_of_ble_eq_true rfl, Nat.le_of_ble_eq_true rfl⟩ dX1_read_36 (fun q10 H locs h hP hD hS => ?_)
          obtain ⟨hP, hD⟩ := qm (w2 := tpW k ta q2.2.1 ++ (rmW k xa q10)) hP hD (q_from [tpW k ta q2.2.1, rmW k xa q10] [0] [1] [0, 1] (by decide +kernel))
          refine lv_iconst (v := 1) hx hb dX1_read_39 (by decide) ?_
          exact fw_endZ (v := 1) (rv := fun b : Int32 × OB × OB => b.1) (wp := fun b : Int32 × OB × OB => tpW k ta b.2.1 ++ (rmW k xa b.2.2)) hx hb hr hlocks h rfl rfl hP hD hS dX1_read_40
      · have h := fw_t c3 h
        refine lv_iconst (v := 0) hx hb dX1_read_25 (by decide) ?_
        exact fw_endZ (v := 0) (rv := fun b : Int32 × OB × OB => b.1) (wp := fun b : Int32 × OB × OB => tpW k ta b.2.1 ++ (rmW k xa b.2.2)) hx hb hr hlocks h rfl rfl hP hD hS dX1_read_26
  have C10 : ∀ (v2 : Int32) (tp : OB) (rm : OB), lp (b_X1_read_10 F) F (v2, tp, rm) = some res → ∀ (H : Heap) (locs : List Loc) (ls : Array Slot), va_P D vwCl (tpW k ta tp ++ (rmW k xa rm)) H → va_D A (tpW k ta tp ++ (rmW k xa rm)) → va_S A s.heap H locs → lv_has ls 3 [(0, .ref (ta 0)), (1, .ref (xa 0)), (2, .int v2)] → W p l e (rmK 9 0 0) s m (List.toArray [.ref (ta 0), .ref (xa 0)]) below meth c H locs 0 0 (MQ below (va_Qi (fun r (_ : Unit) => r = res.1) (hcB D (fun _ : Unit => tpW k ta res.2.1 ++ (rmW k xa res.2.2)) A) A) (List.toArray [.ref (ta 0), .ref (xa 0)]) s 0 0 A) (F0 m 10 ls []) := fun v2 tp rm => B10 (v2, tp, rm)
  refine lv_aload_n hx hb dX1_read_0 rfl (lv_at hl 0 rfl) ?_
  obtain ⟨hP, hD⟩ := qm hP hD (q_to [tpW k ta tp, rmW k xa rm] [0, 1] [0] [1] (by decide +kernel))
  refine fw_VvE (As := []) (rest := []) (n := 0) (wp := fun b : OB => tpW k ta b) h (EX.ok ad tv) hE hx hb hml hown hts hG hA hP hD hS hl.1 _ _ (fun q hq9 => c_X7_cutUp l D k _ ad tv ta F  tp  hq9) (va_recv hG.1 hP (ci := 5) (q0 := 0) rfl rfl) gX1_read_X7_cutUp rfl ⟨rfl, rfl, Nat.le_of_ble_eq_true rfl, Nat.le_of_ble_eq_true rfl⟩ (by decide +kernel) (q_l _ _) (q_r _ _) (q_nd _ _) ⟨rfl, rfl, Nat.le_of_ble_eq_true rfl, Nat.le_of_ble_eq_true rfl, Nat.le_of_ble_eq_true rfl⟩ dX1_read_1 (fun q11 H locs h hP hD hS => ?_)
  obtain ⟨hP, hD⟩ := qm (w2 := tpW k ta q11 ++ (rmW k xa rm)) hP hD (q_from [tpW k ta q11, rmW k xa rm] [1] [0] [0, 1] (by decide +kernel))
  refine lv_aload_n hx hb dX1_read_4 rfl (lv_at hl 1 rfl) ?_
  obtain ⟨hP, hD⟩ := qm hP hD (q_to [tpW k ta q11, rmW k xa rm] [0, 1] [1] [0] (by decide +kernel))
  refine fw_Vv (As := []) (rest := []) (n := 0) (wp := fun b : OB => rmW k xa b) h hx hb hml hown hts hG hA hP hD hS hl.1 _ _ (fun q hq9 => c_X3_clear l D k _  xa F  rm  hq9) (ci := 2) (q0 := 0) rfl rfl gX1_read_X3_clear rfl ⟨rfl, rfl, Nat.le_of_ble_eq_true rfl, Nat.le_of_ble_eq_true rfl⟩ (by decide +kernel) (q_l _ _) (q_r _ _) (q_nd _ _) ⟨rfl, rfl, Nat.le_of_ble_eq_true rfl, Nat.le_of_ble_eq_true rfl, Nat.le_of_ble_eq_true rfl⟩ dX1_read_5 (fun q12 H locs h hP hD hS => ?_)
  obtain ⟨hP, hD⟩ := qm (w2 := tpW k ta q11 ++ (rmW k xa q12)) hP hD (q_from [tpW k ta q11, rmW k xa q12] [0] [1] [0, 1] (by decide +kernel))
  refine lv_iconst (v := 0) hx hb dX1_read_8 (by decide) ?_
  refine lv_istore_n (lv' := [(2, .int 0), (0, .ref (ta 0)), (1, .ref (xa 0))]) hx hb dX1_read_9 rfl hl (by decide) rfl (fun ls hl => ?_)
  exact C10 _ _ _ h _ _ _ hP hD hS (lv_sub hl [1, 2, 0] rfl)
noncomputable def b_X5_readTest_o_78 (F : Nat) (gF : Nat → Int32 → OB → OB → Option (Int32 × OB × OB))  (k8 : (Int32 × Int32 × Int32 × Int32 × OB × OB) → Option (Int32 × OB × OB)) (v2 : Int32) (v3 : Int32) (v4 : Int32) (v5 : Int32) (tp : OB) (ru : OB) : Option (Int32 × OB × OB) :=
  k8 (v2, v3, v4, (v5 + 1), tp, ru)
noncomputable def b_X5_readTest_o_64 (F : Nat) (gF : Nat → Int32 → OB → OB → Option (Int32 × OB × OB))  (k8 : (Int32 × Int32 × Int32 × Int32 × OB × OB) → Option (Int32 × OB × OB)) (v2 : Int32) (v4 : Int32) (v5 : Int32) (tp : OB) (ru : OB) : Option (Int32 × OB × OB) :=
  Option.bind (f_X7_take F 275 tp) (fun q1 => (if q1.1 = 0 then (some (1, q1.2, ru)) else (b_X5_readTest_o_78 F gF k8 v2 q1.1 v4 v5 q1.2 ru)))
noncomputable def b_X5_readTest_o_39 (F : Nat) (gF : Nat → Int32 → OB → OB → Option (Int32 × OB × OB))  (k8 : (Int32 × Int32 × Int32 × Int32 × OB × OB) → Option (Int32 × OB × OB)) (v2 : Int32) (v3 : Int32) (v5 : Int32) (tp : OB) (ru : OB) : Option (Int32 × OB × OB) :=
  Option.bind (f_X7_take F 276 tp) (fun q3 => (if q3.1 = 0 then (if v3 = 0 then (b_X5_readTest_o_64 F gF k8 v2 q3.1 v5 q3.2 ru) else (Option.bind (f_X4_add F 275 ru) (fun q6 => (b_X5_readTest_o_64 F gF k8 v2 q3.1 v5 q3.2 q6)))) else (b_X5_readTest_o_78 F gF k8 v2 v3 q3.1 v5 q3.2 ru)))
noncomputable def b_X5_readTest_o_8 (F : Nat) (gF : Nat → Int32 → OB → OB → Option (Int32 × OB × OB))   (k8 : (Int32 × Int32 × Int32 × Int32 × OB × OB) → Option (Int32 × OB × OB)) (a8 : (Int32 × Int32 × Int32 × Int32 × OB × OB)) : Option (Int32 × OB × OB) :=
  if 400 ≤ a8.2.2.2.1 then (some (0, a8.2.2.2.2.1, a8.2.2.2.2.2)) else (Option.bind (gF F a8.1 a8.2.2.2.2.1 a8.2.2.2.2.2) (fun q8 => (if q8.1 = 0 then (some (0, q8.2.1, q8.2.2)) else (if a8.2.2.1 = 0 then (b_X5_readTest_o_39 F gF k8 a8.1 a8.2.1 a8.2.2.2.1 q8.2.1 q8.2.2) else (Option.bind (f_X4_add F 276 q8.2.2) (fun q11 => (b_X5_readTest_o_39 F gF k8 a8.1 a8.2.1 a8.2.2.2.1 q8.2.1 q11)))))))
noncomputable def f_X5_readTest_o (F : Nat) (gF : Nat → Int32 → OB → OB → Option (Int32 × OB × OB)) (x2 : Int32) (tp : OB) (ru : OB) : Option (Int32 × OB × OB) :=
  lp (b_X5_readTest_o_8 F gF) F (x2, 0, 0, 0, tp, ru)
set_option maxHeartbeats 4000000 in
set_option maxRecDepth 100000 in
theorem c_X5_readTest_o (l : Launch) (D : va_G) (k : Nat → ClassId) (sz : Nat)  (ta : Nat → Nat) (qa : Nat → Nat) (F : Nat) (gF : Nat → Int32 → OB → OB → Option (Int32 × OB × OB)) (x2 : Int32) (tp : OB) (ru : OB) (nd : Nat) (hF : ∀ (l : Launch) (D : va_G) (k : Nat → ClassId) (sz : Nat) (ta : Nat → Nat) (qa : Nat → Nat) (F : Nat) (x2 : Int32) (tp : OB) (ru : OB) {res : Int32 × OB × OB}, gF F x2 tp ru = some res → CtI l yX5_readFact wsX5_readFact (rmK (nd + 4) 0 0) [.ref (ta 0), .ref (qa 0), .int x2] D k sz (tpW k ta tp ++ (ruW k qa ru)) (fun r (_ : Unit) => r = res.1) (fun _ : Unit => tpW k ta res.2.1 ++ (ruW k qa res.2.2)) 0 0) {res : Int32 × OB × OB} (h : f_X5_readTest_o F gF x2 tp ru = some res) : CtI l yX5_readTest wsX5_readTest (rmK (nd + 5) 0 0) [.ref (ta 0), .ref (qa 0), .int x2] D k sz (tpW k ta tp ++ (ruW k qa ru)) (fun r (_ : Unit) => r = res.1) (fun _ : Unit => tpW k ta res.2.1 ++ (ruW k qa res.2.2)) 0 0 := by
  refine CtI.mk (cc := cX5_readTest) (maxL := 6) (ret := (some .boolean)) (by decide) rfl (Nat.le_of_ble_eq_true rfl) ?_
  intro p e s m below meth c A ls E hP hD hS hl
  obtain ⟨hx, hb, hr, hml, hown, hts, hlocks, hin, hG, hA⟩ := E
  have hown : s.vm.findClass RX5 = some m.cls := hown
  have in4 : ∀ w ∈ u_ws RX4 TX4 8, w ∈ wsX5_readTest := fun _ h => List.mem_cons_of_mem _ (List.mem_append_right _ h)
  have in7 : ∀ w ∈ u_ws RX7 TX7 8, w ∈ wsX5_readTest := fun _ h => List.mem_cons_of_mem _ (List.mem_append_left _ (List.mem_append_right _ h))
  have hl : lv_has ls 6 [(0, .ref (ta 0)), (1, .ref (qa 0)), (2, .int x2)] := hl
  have B8 : ∀ a8 : (Int32 × Int32 × Int32 × Int32 × OB × OB), lp (b_X5_readTest_o_8 F gF) F a8 = some res → ∀ (H : Heap) (locs : List Loc) (ls : Array Slot), va_P D vwCl (tpW k ta a8.2.2.2.2.1 ++ (ruW k qa a8.2.2.2.2.2)) H → va_D A (tpW k ta a8.2.2.2.2.1 ++ (ruW k qa a8.2.2.2.2.2)) → va_S A s.heap H locs → lv_has ls 6 [(0, .ref (ta 0)), (1, .ref (qa 0)), (2, .int a8.1), (3, .int a8.2.1), (4, .int a8.2.2.1), (5, .int a8.2.2.2.1)] → W p l e (rmK (nd + 5) 0 0) s m (List.toArray [.ref (ta 0), .ref (qa 0), .int x2]) below meth c H locs 0 0 (MQ below (va_Qi (fun r (_ : Unit) => r = res.1) (hcB D (fun _ : Unit => tpW k ta res.2.1 ++ (ruW k qa res.2.2)) A) A) (List.toArray [.ref (ta 0), .ref (qa 0), .int x2]) s 0 0 A) (F0 m 8 ls []) := by
    refine lp_W ?_ F
    intro k8 hk8 a8 h H locs ls hP hD hS hl
    have hc8 : ∀ (v2 : Int32) (v3 : Int32) (v4 : Int32) (v5 : Int32) (tp : OB) (ru : OB), k8 (v2, v3, v4, v5, tp, ru) = some res → ∀ (H : Heap) (locs : List Loc) (ls : Array Slot), va_P D vwCl (tpW k ta tp ++ (ruW k qa ru)) H → va_D A (tpW k ta tp ++ (ruW k qa ru)) → va_S A s.heap H locs → lv_has ls 6 [(0, .ref (ta 0)), (1, .ref (qa 0)), (2, .int v2), (3, .int v3), (4, .int v4), (5, .int v5)] → W p l e (rmK (nd + 5) 0 0) s m (List.toArray [.ref (ta 0), .ref (qa 0), .int x2]) below meth c H locs 0 0 (MQ below (va_Qi (fun r (_ : Unit) => r = res.1) (hcB D (fun _ : Unit => tpW k ta res.2.1 ++ (ruW k qa res.2.2)) A) A) (List.toArray [.ref (ta 0), .ref (qa 0), .int x2]) s 0 0 A) (F0 m 8 ls []) := fun v2 v3 v4 v5 tp ru => hk8 (v2, v3, v4, v5, tp, ru)
    have B78 : ∀ (v2 : Int32) (v3 : Int32) (v4 : Int32) (v5 : Int32) (tp : OB) (ru : OB) (H : Heap) (locs : List Loc) (ls : Array Slot), b_X5_readTest_o_78 F gF k8 v2 v3 v4 v5 tp ru = some res → va_P D vwCl (tpW k ta tp ++ (ruW k qa ru)) H → va_D A (tpW k ta tp ++ (ruW k qa ru)) → va_S A s.heap H locs → lv_has ls 6 [(0, .ref (ta 0)), (1, .ref (qa 0)), (2, .int v2), (3, .int v3), (4, .int v4), (5, .int v5)] → W p l e (rmK (nd + 5) 0 0) s m (List.toArray [.ref (ta 0), .ref (qa 0), .int x2]) below meth c H locs 0 0 (MQ below (va_Qi (fun r (_ : Unit) => r = res.1) (hcB D (fun _ : Unit => tpW k ta res.2.1 ++ (ruW k qa res.2.2)) A) A) (List.toArray [.ref (ta 0), .ref (qa 0), .int x2]) s 0 0 A) (F0 m 78 ls []) := by
      intro v2 v3 v4 v5 tp ru H locs ls h hP hD hS hl
      refine lv_iinc (v := (v5 + 1)) (lv' := [(5, .int (v5 + 1)), (0, .ref (ta 0)), (1, .ref (qa 0)), (2, .int v2), (3, .int v3), (4, .int v4)]) hx hb dX5_readTest_78 hl (k := 5) rfl rfl (by decide) rfl (fun ls hl => ?_)
      refine lv_goto (tgt := 8) hx hb dX5_readTest_81 (by decide) ?_
      exact hc8 _ _ _ _ _ _ h _ _ _ hP hD hS (lv_sub hl [1, 2, 3, 4, 5, 0] rfl)
    have B64 : ∀ (v2 : Int32) (v4 : Int32) (v5 : Int32) (tp : OB) (ru : OB) (H : Heap) (locs : List Loc) (ls : Array Slot), b_X5_readTest_o_64 F gF k8 v2 v4 v5 tp ru = some res → va_P D vwCl (tpW k ta tp ++ (ruW k qa ru)) H → va_D A (tpW k ta tp ++ (ruW k qa ru)) → va_S A s.heap H locs → lv_has ls 6 [(0, .ref (ta 0)), (1, .ref (qa 0)), (2, .int v2), (4, .int v4), (5, .int v5)] → W p l e (rmK (nd + 5) 0 0) s m (List.toArray [.ref (ta 0), .ref (qa 0), .int x2]) below meth c H locs 0 0 (MQ below (va_Qi (fun r (_ : Unit) => r = res.1) (hcB D (fun _ : Unit => tpW k ta res.2.1 ++ (ruW k qa res.2.2)) A) A) (List.toArray [.ref (ta 0), .ref (qa 0), .int x2]) s 0 0 A) (F0 m 64 ls []) := by
      intro v2 v4 v5 tp ru H locs ls h hP hD hS hl
      refine lv_aload_n hx hb dX5_readTest_64 rfl (lv_at hl 0 rfl) ?_
      refine lv_sipush (v := 275) hx hb dX5_readTest_65 (by decide) ?_
      obtain ⟨hP, hD⟩ := qm hP hD (q_to [tpW k ta tp, ruW k qa ru] [0, 1] [0] [1] (by decide +kernel))
      refine fw_Vi (As := [.int 275]) (rest := []) (n := 1) (rv := fun b : Int32 × OB => b.1) (wp := fun b : Int32 × OB => tpW k ta b.2) h hx hb hml hown hts hG hA hP hD hS hl.1 _ _ (fun q hq9 => c_X7_take l D k _  ta F 275 tp  hq9) (ci := 5) (q0 := 0) rfl rfl gX5_readTest_X7_take rfl ⟨rfl, rfl, by show 2 + 1 ≤ nd + 5; omega, by show 8 + (2 + 11) + 64 * 2 ≤ 64 * (nd + 5); omega⟩ (by decide +kernel) (q_l _ _) (q_r _ _) (q_nd _ _) ⟨rfl, rfl, Nat.le_of_ble_eq_true rfl, Nat.le_of_ble_eq_true rfl, Nat.le_of_ble_eq_true rfl⟩ dX5_readTest_68 (fun q1 H locs h hP hD hS => ?_)
      obtain ⟨hP, hD⟩ := qm (w2 := tpW k ta q1.2 ++ (ruW k qa ru)) hP hD (q_from [tpW k ta q1.2, ruW k qa ru] [1] [0] [0, 1] (by decide +kernel))
      refine hc_is (z := q1.1) rfl ?_
      refine lv_istore_n (lv' := [(3, .int q1.1), (0, .ref (ta 0)), (1, .ref (qa 0)), (2, .int v2), (4, .int v4), (5, .int v5)]) hx hb dX5_readTest_71 rfl hl (by decide) rfl (fun ls hl => ?_)
      refine lv_iload_n hx hb dX5_readTest_72 rfl (lv_at hl 0 rfl) ?_
      refine lv_if_ne (tgt := 78) hx hb dX5_readTest_73 (by decide) (fun c2 => ?_) (fun c2 => ?_)
      · have h := fw_f c2 h
        exact B78 _ _ _ _ _ _ _ _ _ h hP hD hS (lv_sub hl [1, 2, 3, 0, 4, 5] rfl)
      · have h := fw_t c2 h
        refine lv_iconst (v := 1) hx hb dX5_readTest_76 (by decide) ?_
        exact fw_endZ (v := 1) (rv := fun b : Int32 × OB × OB => b.1) (wp := fun b : Int32 × OB × OB => tpW k ta b.2.1 ++ (ruW k qa b.2.2)) hx hb hr hlocks h rfl rfl hP hD hS dX5_readTest_77
    have B39 : ∀ (v2 : Int32) (v3 : Int32) (v5 : Int32) (tp : OB) (ru : OB) (H : Heap) (locs : List Loc) (ls : Array Slot), b_X5_readTest_o_39 F gF k8 v2 v3 v5 tp ru = some res → va_P D vwCl (tpW k ta tp ++ (ruW k qa ru)) H → va_D A (tpW k ta tp ++ (ruW k qa ru)) → va_S A s.heap H locs → lv_has ls 6 [(0, .ref (ta 0)), (1, .ref (qa 0)), (2, .int v2), (3, .int v3), (5, .int v5)] → W p l e (rmK (nd + 5) 0 0) s m (List.toArray [.ref (ta 0), .ref (qa 0), .int x2]) below meth c H locs 0 0 (MQ below (va_Qi (fun r (_ : Unit) => r = res.1) (hcB D (fun _ : Unit => tpW k ta res.2.1 ++ (ruW k qa res.2.2)) A) A) (List.toArray [.ref (ta 0), .ref (qa 0), .int x2]) s 0 0 A) (F0 m 39 ls []) := by
      intro v2 v3 v5 tp ru H locs ls h hP hD hS hl
      refine lv_aload_n hx hb dX5_readTest_39 rfl (lv_at hl 0 rfl) ?_
      refine lv_sipush (v := 276) hx hb dX5_readTest_40 (by decide) ?_
      obtain ⟨hP, hD⟩ := qm hP hD (q_to [tpW k ta tp, ruW k qa ru] [0, 1] [0] [1] (by decide +kernel))
      refine fw_Vi (As := [.int 276]) (rest := []) (n := 1) (rv := fun b : Int32 × OB => b.1) (wp := fun b : Int32 × OB => tpW k ta b.2) h hx hb hml hown hts hG hA hP hD hS hl.1 _ _ (fun q hq9 => c_X7_take l D k _  ta F 276 tp  hq9) (ci := 5) (q0 := 0) rfl rfl gX5_readTest_X7_take rfl ⟨rfl, rfl, by show 2 + 1 ≤ nd + 5; omega, by show 8 + (2 + 11) + 64 * 2 ≤ 64 * (nd + 5); omega⟩ (by decide +kernel) (q_l _ _) (q_r _ _) (q_nd _ _) ⟨rfl, rfl, Nat.le_of_ble_eq_true rfl, Nat.le_of_ble_eq_true rfl, Nat.le_of_ble_eq_true rfl⟩ dX5_readTest_43 (fun q3 H locs h hP hD hS => ?_)
      obtain ⟨hP, hD⟩ := qm (w2 := tpW k ta q3.2 ++ (ruW k qa ru)) hP hD (q_from [tpW k ta q3.2, ruW k qa ru] [1] [0] [0, 1] (by decide +kernel))
      refine hc_is (z := q3.1) rfl ?_
      refine lv_istore (lv' := [(4, .int q3.1), (0, .ref (ta 0)), (1, .ref (qa 0)), (2, .int v2), (3, .int v3), (5, .int v5)]) hx hb dX5_readTest_46 hl (by decide) rfl (fun ls hl => ?_)
      refine lv_iload hx hb dX5_readTest_48 (lv_at hl 0 rfl) ?_
      refine lv_if_ne (tgt := 78) hx hb dX5_readTest_50 (by decide) (fun c4 => ?_) (fun c4 => ?_)
      · have h := fw_f c4 h
        exact B78 _ _ _ _ _ _ _ _ _ h hP hD hS (lv_sub hl [1, 2, 3, 4, 0, 5] rfl)
      · have h := fw_t c4 h
        refine lv_iload_n hx hb dX5_readTest_53 rfl (lv_at hl 4 rfl) ?_
        refine lv_if_eq (tgt := 64) hx hb dX5_readTest_54 (by decide) (fun c5 => ?_) (fun c5 => ?_)
        · have h := fw_t c5 h
          exact B64 _ _ _ _ _ _ _ _ h hP hD hS (lv_sub hl [1, 2, 3, 0, 5] rfl)
        · have h := fw_f c5 h
          refine lv_aload_n hx hb dX5_readTest_57 rfl (lv_at hl 2 rfl) ?_
          refine lv_sipush (v := 275) hx hb dX5_readTest_58 (by decide) ?_
          obtain ⟨hP, hD⟩ := qm hP hD (q_to [tpW k ta q3.2, ruW k qa ru] [0, 1] [1] [0] (by decide +kernel))
          refine fw_Vv (As := [.int 275]) (rest := []) (n := 1) (wp := fun b : OB => ruW k qa b) h hx hb hml hown hts hG hA hP hD hS hl.1 _ _ (fun q hq9 => c_X4_add l D k _  qa F 275 ru  hq9) (ci := 3) (q0 := 0) rfl rfl gX5_readTest_X4_add rfl ⟨rfl, rfl, by show 1 + 1 ≤ nd + 5; omega, by show 8 + (2 + 11) + 64 * 1 ≤ 64 * (nd + 5); omega⟩ (by decide +kernel) (q_l _ _) (q_r _ _) (q_nd _ _) ⟨rfl, rfl, Nat.le_of_ble_eq_true rfl, Nat.le_of_ble_eq_true rfl, Nat.le_of_ble_eq_true rfl⟩ dX5_readTest_61 (fun q6 H locs h hP hD hS => ?_)
          obtain ⟨hP, hD⟩ := qm (w2 := tpW k ta q3.2 ++ (ruW k qa q6)) hP hD (q_from [tpW k ta q3.2, ruW k qa q6] [0] [1] [0, 1] (by decide +kernel))
          exact B64 _ _ _ _ _ _ _ _ h hP hD hS (lv_sub hl [1, 2, 3, 0, 5] rfl)
    refine lv_iload hx hb dX5_readTest_8 (lv_at hl 5 rfl) ?_
    refine lv_sipush (v := 400) hx hb dX5_readTest_10 (by decide) ?_
    refine lv_icmp_ge (tgt := 84) hx hb dX5_readTest_13 (by decide) (fun c7 => ?_) (fun c7 => ?_)
    · have h := fw_t c7 h
      refine lv_iconst (v := 0) hx hb dX5_readTest_84 (by decide) ?_
      exact fw_endZ (v := 0) (rv := fun b : Int32 × OB × OB => b.1) (wp := fun b : Int32 × OB × OB => tpW k ta b.2.1 ++ (ruW k qa b.2.2)) hx hb hr hlocks h rfl rfl hP hD hS dX5_readTest_85
    · have h := fw_f c7 h
      refine lv_aload_n hx hb dX5_readTest_16 rfl (lv_at hl 0 rfl) ?_
      refine lv_aload_n hx hb dX5_readTest_17 rfl (lv_at hl 1 rfl) ?_
      refine lv_iload_n hx hb dX5_readTest_18 rfl (lv_at hl 2 rfl) ?_
      refine fw_Si (As := [.ref (ta 0), .ref (qa 0), .int a8.1]) (rest := []) (n := 3) (wr := []) (rv := fun b : Int32 × OB × OB => b.1) (wp := fun b : Int32 × OB × OB => tpW k ta b.2.1 ++ (ruW k qa b.2.2)) h hx hb hml hown hts hG hA hP hD hS hl.1 (List.range (tpW k ta a8.2.2.2.2.1 ++ (ruW k qa a8.2.2.2.2.2)).length) [] (fun q hq9 => hF l D k _  ta qa F a8.1 a8.2.2.2.2.1 a8.2.2.2.2.2  hq9) gX5_readTest_X5_readFact rfl ⟨rfl, rfl, by show nd + 4 + 1 ≤ nd + 5; omega, by show 8 + (4 + 11) + 64 * (nd + 4) ≤ 64 * (nd + 5); omega⟩ (by decide +kernel) (al_C _) rfl (al_n _) ⟨rfl, rfl, Nat.le_of_ble_eq_true rfl, Nat.le_of_ble_eq_true rfl, Nat.le_of_ble_eq_true rfl⟩ dX5_readTest_19 (fun q8 H locs h hP hD hS => ?_)
      obtain ⟨hP, hD⟩ := cv (w' := tpW k ta q8.2.1 ++ (ruW k qa q8.2.2)) hP hD rfl
      refine hc_is (z := q8.1) rfl ?_
      refine lv_if_ne (tgt := 27) hx hb dX5_readTest_22 (by decide) (fun c9 => ?_) (fun c9 => ?_)
      · have h := fw_f c9 h
        refine lv_iload hx hb dX5_readTest_27 (lv_at hl 4 rfl) ?_
        refine lv_if_eq (tgt := 39) hx hb dX5_readTest_29 (by decide) (fun c10 => ?_) (fun c10 => ?_)
        · have h := fw_t c10 h
          exact B39 _ _ _ _ _ _ _ _ h hP hD hS (lv_sub hl [0, 1, 2, 3, 5] rfl)
        · have h := fw_f c10 h
          refine lv_aload_n hx hb dX5_readTest_32 rfl (lv_at hl 1 rfl) ?_
          refine lv_sipush (v := 276) hx hb dX5_readTest_33 (by decide) ?_
          obtain ⟨hP, hD⟩ := qm hP hD (q_to [tpW k ta q8.2.1, ruW k qa q8.2.2] [0, 1] [1] [0] (by decide +kernel))
          refine fw_Vv (As := [.int 276]) (rest := []) (n := 1) (wp := fun b : OB => ruW k qa b) h hx hb hml hown hts hG hA hP hD hS hl.1 _ _ (fun q hq9 => c_X4_add l D k _  qa F 276 q8.2.2  hq9) (ci := 3) (q0 := 0) rfl rfl gX5_readTest_X4_add rfl ⟨rfl, rfl, by show 1 + 1 ≤ nd + 5; omega, by show 8 + (2 + 11) + 64 * 1 ≤ 64 * (nd + 5); omega⟩ (by decide +kernel) (q_l _ _) (q_r _ _) (q_nd _ _) ⟨rfl, rfl, Nat.le_of_ble_eq_true rfl, Nat.le_of_ble_eq_true rfl, Nat.le_of_ble_eq_true rfl⟩ dX5_readTest_36 (fun q11 H locs h hP hD hS => ?_)
          obtain ⟨hP, hD⟩ := qm (w2 := tpW k ta q8.2.1 ++ (ruW k qa q11)) hP hD (q_from [tpW k ta q8.2.1, ruW k qa q11] [0] [1] [0, 1] (by decide +kernel))
          exact B39 _ _ _ _ _ _ _ _ h hP hD hS (lv_sub hl [0, 1, 2, 3, 5] rfl)
      · have h := fw_t c9 h
        refine lv_iconst (v := 0) hx hb dX5_readTest_25 (by decide) ?_
        exact fw_endZ (v := 0) (rv := fun b : Int32 × OB × OB => b.1) (wp := fun b : Int32 × OB × OB => tpW k ta b.2.1 ++ (ruW k qa b.2.2)) hx hb hr hlocks h rfl rfl hP hD hS dX5_readTest_26
  have C8 : ∀ (v2 : Int32) (v3 : Int32) (v4 : Int32) (v5 : Int32) (tp : OB) (ru : OB), lp (b_X5_readTest_o_8 F gF) F (v2, v3, v4, v5, tp, ru) = some res → ∀ (H : Heap) (locs : List Loc) (ls : Array Slot), va_P D vwCl (tpW k ta tp ++ (ruW k qa ru)) H → va_D A (tpW k ta tp ++ (ruW k qa ru)) → va_S A s.heap H locs → lv_has ls 6 [(0, .ref (ta 0)), (1, .ref (qa 0)), (2, .int v2), (3, .int v3), (4, .int v4), (5, .int v5)] → W p l e (rmK (nd + 5) 0 0) s m (List.toArray [.ref (ta 0), .ref (qa 0), .int x2]) below meth c H locs 0 0 (MQ below (va_Qi (fun r (_ : Unit) => r = res.1) (hcB D (fun _ : Unit => tpW k ta res.2.1 ++ (ruW k qa res.2.2)) A) A) (List.toArray [.ref (ta 0), .ref (qa 0), .int x2]) s 0 0 A) (F0 m 8 ls []) := fun v2 v3 v4 v5 tp ru => B8 (v2, v3, v4, v5, tp, ru)
  refine lv_iconst (v := 0) hx hb dX5_readTest_0 (by decide) ?_
  refine lv_istore_n (lv' := [(3, .int 0), (0, .ref (ta 0)), (1, .ref (qa 0)), (2, .int x2)]) hx hb dX5_readTest_1 rfl hl (by decide) rfl (fun ls hl => ?_)
  refine lv_iconst (v := 0) hx hb dX5_readTest_2 (by decide) ?_
  refine lv_istore (lv' := [(4, .int 0), (3, .int 0), (0, .ref (ta 0)), (1, .ref (qa 0)), (2, .int x2)]) hx hb dX5_readTest_3 hl (by decide) rfl (fun ls hl => ?_)
  refine lv_iconst (v := 0) hx hb dX5_readTest_5 (by decide) ?_
  refine lv_istore (lv' := [(5, .int 0), (4, .int 0), (3, .int 0), (0, .ref (ta 0)), (1, .ref (qa 0)), (2, .int x2)]) hx hb dX5_readTest_6 hl (by decide) rfl (fun ls hl => ?_)
  exact C8 _ _ _ _ _ _ h _ _ _ hP hD hS (lv_sub hl [3, 4, 5, 2, 1, 0] rfl)
noncomputable def b_X5_readFact_o_79 (F : Nat) (gT : Nat → Int32 → OB → OB → Option (Int32 × OB × OB)) (gF : Nat → Int32 → OB → OB → Option (Int32 × OB × OB))   (y0 : Int32) (tp : OB) (ru : OB) : Option (Int32 × OB × OB) :=
  if bo y0 then (some (y0, tp, ru)) else none
noncomputable def b_X5_readFact_o_74 (F : Nat) (gT : Nat → Int32 → OB → OB → Option (Int32 × OB × OB)) (gF : Nat → Int32 → OB → OB → Option (Int32 × OB × OB))   (tp : OB) (ru : OB) : Option (Int32 × OB × OB) :=
  b_X5_readFact_o_79 F gT gF 1 tp ru
noncomputable def b_X5_readFact_o_78 (F : Nat) (gT : Nat → Int32 → OB → OB → Option (Int32 × OB × OB)) (gF : Nat → Int32 → OB → OB → Option (Int32 × OB × OB))   (tp : OB) (ru : OB) : Option (Int32 × OB × OB) :=
  b_X5_readFact_o_79 F gT gF 0 tp ru
noncomputable def b_X5_readFact_o_24 (F : Nat) (gT : Nat → Int32 → OB → OB → Option (Int32 × OB × OB)) (gF : Nat → Int32 → OB → OB → Option (Int32 × OB × OB))   (v2 : Int32) (v3 : Int32) (tp : OB) (ru : OB) : Option (Int32 × OB × OB) :=
  if v2 < 10 then (Option.bind (f_X7_skip F tp) (fun q3 => (if v3 = 91 then (Option.bind (gT F (v2 + 1) q3 ru) (fun q8 => (if q8.1 = 0 then (b_X5_readFact_o_78 F gT gF q8.2.1 q8.2.2) else (Option.bind (f_X7_take F 93 q8.2.1) (fun q10 => (if q10.1 = 0 then (Option.bind (f_X7_fail F 0 q10.2) (fun q12 => (if q12.1 = 0 then (b_X5_readFact_o_78 F gT gF q12.2 q8.2.2) else (b_X5_readFact_o_74 F gT gF q12.2 q8.2.2)))) else (b_X5_readFact_o_74 F gT gF q10.2 q8.2.2))))))) else (Option.bind (gF F (v2 + 1) q3 ru) (fun q5 => (if q5.1 = 0 then (some (0, q5.2.1, q5.2.2)) else (Option.bind (f_X4_add F 277 q5.2.2) (fun q7 => (some (1, q5.2.1, q7)))))))))) else (Option.bind (f_X7_fail F 2 tp) (fun q14 => (if bo q14.1 then (some (q14.1, q14.2, ru)) else none)))
noncomputable def f_X5_readFact_o (F : Nat) (gT : Nat → Int32 → OB → OB → Option (Int32 × OB × OB)) (gF : Nat → Int32 → OB → OB → Option (Int32 × OB × OB)) (x2 : Int32) (tp : OB) (ru : OB) : Option (Int32 × OB × OB) :=
  Option.bind (f_X7_kind F tp) (fun q16 => (if q16 = 91 then (b_X5_readFact_o_24 F gT gF x2 q16 tp ru) else (if q16 = 277 then (b_X5_readFact_o_24 F gT gF x2 q16 tp ru) else (Option.bind (f_X5_readComparison F tp ru) (fun q19 => (if bo q19.1 then (some (q19.1, q19.2.1, q19.2.2)) else none))))))
set_option maxHeartbeats 4000000 in
set_option maxRecDepth 100000 in
theorem c_X5_readFact_o (l : Launch) (D : va_G) (k : Nat → ClassId) (sz : Nat)  (ta : Nat → Nat) (qa : Nat → Nat) (F : Nat) (gT : Nat → Int32 → OB → OB → Option (Int32 × OB × OB)) (gF : Nat → Int32 → OB → OB → Option (Int32 × OB × OB)) (x2 : Int32) (tp : OB) (ru : OB) (nd : Nat) (hT : ∀ (l : Launch) (D : va_G) (k : Nat → ClassId) (sz : Nat) (ta : Nat → Nat) (qa : Nat → Nat) (F : Nat) (x2 : Int32) (tp : OB) (ru : OB) {res : Int32 × OB × OB}, gT F x2 tp ru = some res → CtI l yX5_readTest wsX5_readTest (rmK (nd + 5) 0 0) [.ref (ta 0), .ref (qa 0), .int x2] D k sz (tpW k ta tp ++ (ruW k qa ru)) (fun r (_ : Unit) => r = res.1) (fun _ : Unit => tpW k ta res.2.1 ++ (ruW k qa res.2.2)) 0 0) (hF : ∀ (l : Launch) (D : va_G) (k : Nat → ClassId) (sz : Nat) (ta : Nat → Nat) (qa : Nat → Nat) (F : Nat) (x2 : Int32) (tp : OB) (ru : OB) {res : Int32 × OB × OB}, gF F x2 tp ru = some res → CtI l yX5_readFact wsX5_readFact (rmK (nd + 4) 0 0) [.ref (ta 0), .ref (qa 0), .int x2] D k sz (tpW k ta tp ++ (ruW k qa ru)) (fun r (_ : Unit) => r = res.1) (fun _ : Unit => tpW k ta res.2.1 ++ (ruW k qa res.2.2)) 0 0) {res : Int32 × OB × OB} (h : f_X5_readFact_o F gT gF x2 tp ru = some res) : CtI l yX5_readFact wsX5_readFact (rmK (nd + 6) 0 0) [.ref (ta 0), .ref (qa 0), .int x2] D k sz (tpW k ta tp ++ (ruW k qa ru)) (fun r (_ : Unit) => r = res.1) (fun _ : Unit => tpW k ta res.2.1 ++ (ruW k qa res.2.2)) 0 0 := by
  refine CtI.mk (cc := cX5_readFact) (maxL := 4) (ret := (some .boolean)) (by decide) rfl (Nat.le_of_ble_eq_true rfl) ?_
  intro p e s m below meth c A ls E hP hD hS hl
  obtain ⟨hx, hb, hr, hml, hown, hts, hlocks, hin, hG, hA⟩ := E
  have hown : s.vm.findClass RX5 = some m.cls := hown
  have in4 : ∀ w ∈ u_ws RX4 TX4 8, w ∈ wsX5_readFact := fun _ h => List.mem_cons_of_mem _ (List.mem_append_right _ h)
  have in7 : ∀ w ∈ u_ws RX7 TX7 8, w ∈ wsX5_readFact := fun _ h => List.mem_cons_of_mem _ (List.mem_append_left _ (List.mem_append_right _ h))
  have hl : lv_has ls 4 [(0, .ref (ta 0)), (1, .ref (qa 0)), (2, .int x2)] := hl
  have B79 : ∀ (y0 : Int32) (tp : OB) (ru : OB) (H : Heap) (locs : List Loc) (ls : Array Slot), b_X5_readFact_o_79 F gT gF y0 tp ru = some res → va_P D vwCl (tpW k ta tp ++ (ruW k qa ru)) H → va_D A (tpW k ta tp ++ (ruW k qa ru)) → va_S A s.heap H locs → lv_has ls 4 [] → W p l e (rmK (nd + 6) 0 0) s m (List.toArray [.ref (ta 0), .ref (qa 0), .int x2]) below meth c H locs 0 0 (MQ below (va_Qi (fun r (_ : Unit) => r = res.1) (hcB D (fun _ : Unit => tpW k ta res.2.1 ++ (ruW k qa res.2.2)) A) A) (List.toArray [.ref (ta 0), .ref (qa 0), .int x2]) s 0 0 A) (F0 m 79 ls [.int y0]) := by
    intro y0 tp ru H locs ls h hP hD hS hl
    obtain ⟨g1, h⟩ := fw_g h
    exact fw_endZ (rv := fun b : Int32 × OB × OB => b.1) (wp := fun b : Int32 × OB × OB => tpW k ta b.2.1 ++ (ruW k qa b.2.2)) hx hb hr hlocks h (bo_z g1) rfl hP hD hS dX5_readFact_79
  have B74 : ∀ (tp : OB) (ru : OB) (H : Heap) (locs : List Loc) (ls : Array Slot), b_X5_readFact_o_74 F gT gF tp ru = some res → va_P D vwCl (tpW k ta tp ++ (ruW k qa ru)) H → va_D A (tpW k ta tp ++ (ruW k qa ru)) → va_S A s.heap H locs → lv_has ls 4 [] → W p l e (rmK (nd + 6) 0 0) s m (List.toArray [.ref (ta 0), .ref (qa 0), .int x2]) below meth c H locs 0 0 (MQ below (va_Qi (fun r (_ : Unit) => r = res.1) (hcB D (fun _ : Unit => tpW k ta res.2.1 ++ (ruW k qa res.2.2)) A) A) (List.toArray [.ref (ta 0), .ref (qa 0), .int x2]) s 0 0 A) (F0 m 74 ls []) := by
    intro tp ru H locs ls h hP hD hS hl
    refine lv_iconst (v := 1) hx hb dX5_readFact_74 (by decide) ?_
    refine lv_goto (tgt := 79) hx hb dX5_readFact_75 (by decide) ?_
    exact B79 _ _ _ _ _ _ h hP hD hS hl
  have B78 : ∀ (tp : OB) (ru : OB) (H : Heap) (locs : List Loc) (ls : Array Slot), b_X5_readFact_o_78 F gT gF tp ru = some res → va_P D vwCl (tpW k ta tp ++ (ruW k qa ru)) H → va_D A (tpW k ta tp ++ (ruW k qa ru)) → va_S A s.heap H locs → lv_has ls 4 [] → W p l e (rmK (nd + 6) 0 0) s m (List.toArray [.ref (ta 0), .ref (qa 0), .int x2]) below meth c H locs 0 0 (MQ below (va_Qi (fun r (_ : Unit) => r = res.1) (hcB D (fun _ : Unit => tpW k ta res.2.1 ++ (ruW k qa res.2.2)) A) A) (List.toArray [.ref (ta 0), .ref (qa 0), .int x2]) s 0 0 A) (F0 m 78 ls []) := by
    intro tp ru H locs ls h hP hD hS hl
    refine lv_iconst (v := 0) hx hb dX5_readFact_78 (by decide) ?_
    exact B79 _ _ _ _ _ _ h hP hD hS hl
  have B24 : ∀ (v2 : Int32) (v3 : Int32) (tp : OB) (ru : OB) (H : Heap) (locs : List Loc) (ls : Array Slot), b_X5_readFact_o_24 F gT gF v2 v3 tp ru = some res → va_P D vwCl (tpW k ta tp ++ (ruW k qa ru)) H → va_D A (tpW k ta tp ++ (ruW k qa ru)) → va_S A s.heap H locs → lv_has ls 4 [(0, .ref (ta 0)), (1, .ref (qa 0)), (2, .int v2), (3, .int v3)] → W p l e (rmK (nd + 6) 0 0) s m (List.toArray [.ref (ta 0), .ref (qa 0), .int x2]) below meth c H locs 0 0 (MQ below (va_Qi (fun r (_ : Unit) => r = res.1) (hcB D (fun _ : Unit => tpW k ta res.2.1 ++ (ruW k qa res.2.2)) A) A) (List.toArray [.ref (ta 0), .ref (qa 0), .int x2]) s 0 0 A) (F0 m 24 ls []) := by
    intro v2 v3 tp ru H locs ls h hP hD hS hl
    refine lv_iload_n hx hb dX5_readFact_24 rfl (lv_at hl 2 rfl) ?_
    refine lv_bipush (v := 10) hx hb dX5_readFact_25 (by decide) ?_
    refine lv_icmp_lt (tgt := 36) hx hb dX5_readFact_27 (by decide) (fun c2 => ?_) (fun c2 => ?_)
    · have h := fw_t c2 h
      refine lv_aload_n hx hb dX5_readFact_36 rfl (lv_at hl 0 rfl) ?_
      obtain ⟨hP, hD⟩ := qm hP hD (q_to [tpW k ta tp, ruW k qa ru] [0, 1] [0] [1] (by decide +kernel))
      refine fw_Vv (As := []) (rest := []) (n := 0) (wp := fun b : OB => tpW k ta b) h hx hb hml hown hts hG hA hP hD hS hl.1 _ _ (fun q hq9 => c_X7_skip l D k _  ta F  tp  hq9) (ci := 5) (q0 := 0) rfl rfl gX5_readFact_X7_skip rfl ⟨rfl, rfl, by show 1 + 1 ≤ nd + 6; omega, by show 8 + (1 + 11) + 64 * 1 ≤ 64 * (nd + 6); omega⟩ (by decide +kernel) (q_l _ _) (q_r _ _) (q_nd _ _) ⟨rfl, rfl, Nat.le_of_ble_eq_true rfl, Nat.le_of_ble_eq_true rfl, Nat.le_of_ble_eq_true rfl⟩ dX5_readFact_37 (fun q3 H locs h hP hD hS => ?_)
      obtain ⟨hP, hD⟩ := qm (w2 := tpW k ta q3 ++ (ruW k qa ru)) hP hD (q_from [tpW k ta q3, ruW k qa ru] [1] [0] [0, 1] (by decide +kernel))
      refine lv_iload_n hx hb dX5_readFact_40 rfl (lv_at hl 3 rfl) ?_
      refine lv_bipush (v := 91) hx hb dX5_readFact_41 (by decide) ?_
      refine lv_icmp_ne (tgt := 80) hx hb dX5_readFact_43 (by decide) (fun c4 => ?_) (fun c4 => ?_)
      · have h := fw_f c4 h
        refine lv_aload_n hx hb dX5_readFact_80 rfl (lv_at hl 0 rfl) ?_
        refine lv_aload_n hx hb dX5_readFact_81 rfl (lv_at hl 1 rfl) ?_
        refine lv_iload_n hx hb dX5_readFact_82 rfl (lv_at hl 2 rfl) ?_
        refine lv_iconst (v := 1) hx hb dX5_readFact_83 (by decide) ?_
        refine lv_iadd hx hb dX5_readFact_84 ?_
        refine fw_Si (As := [.ref (ta 0), .ref (qa 0), .int (v2 + 1)]) (rest := []) (n := 3) (wr := []) (rv := fun b : Int32 × OB × OB => b.1) (wp := fun b : Int32 × OB × OB => tpW k ta b.2.1 ++ (ruW k qa b.2.2)) h hx hb hml hown hts hG hA hP hD hS hl.1 (List.range (tpW k ta q3 ++ (ruW k qa ru)).length) [] (fun q hq9 => hF l D k _  ta qa F (v2 + 1) q3 ru  hq9) gX5_readFact_X5_readFact rfl ⟨rfl, rfl, by show nd + 4 + 1 ≤ nd + 6; omega, by show 8 + (4 + 11) + 64 * (nd + 4) ≤ 64 * (nd + 6); omega⟩ (by decide +kernel) (al_C _) rfl (al_n _) ⟨rfl, rfl, Nat.le_of_ble_eq_true rfl, Nat.le_of_ble_eq_true rfl, Nat.le_of_ble_eq_true rfl⟩ dX5_readFact_85 (fun q5 H locs h hP hD hS => ?_)
        obtain ⟨hP, hD⟩ := cv (w' := tpW k ta q5.2.1 ++ (ruW k qa q5.2.2)) hP hD rfl
        refine hc_is (z := q5.1) rfl ?_
        refine lv_if_ne (tgt := 93) hx hb dX5_readFact_88 (by decide) (fun c6 => ?_) (fun c6 => ?_)
        · have h := fw_f c6 h
          refine lv_aload_n hx hb dX5_readFact_93 rfl (lv_at hl 1 rfl) ?_
          refine lv_sipush (v := 277) hx hb dX5_readFact_94 (by decide) ?_
          obtain ⟨hP, hD⟩ := qm hP hD (q_to [tpW k ta q5.2.1, ruW k qa q5.2.2] [0, 1] [1] [0] (by decide +kernel))
          refine fw_Vv (As := [.int 277]) (rest := []) (n := 1) (wp := fun b : OB => ruW k qa b) h hx hb hml hown hts hG hA hP hD hS hl.1 _ _ (fun q hq9 => c_X4_add l D k _  qa F 277 q5.2.2  hq9) (ci := 3) (q0 := 0) rfl rfl gX5_readFact_X4_add rfl ⟨rfl, rfl, by show 1 + 1 ≤ nd + 6; omega, by show 8 + (2 + 11) + 64 * 1 ≤ 64 * (nd + 6); omega⟩ (by decide +kernel) (q_l _ _) (q_r _ _) (q_nd _ _) ⟨rfl, rfl, Nat.le_of_ble_eq_true rfl, Nat.le_of_ble_eq_true rfl, Nat.le_of_ble_eq_true rfl⟩ dX5_readFact_97 (fun q7 H locs h hP hD hS => ?_)
          obtain ⟨hP, hD⟩ := qm (w2 := tpW k ta q5.2.1 ++ (ruW k qa q7)) hP hD (q_from [tpW k ta q5.2.1, ruW k qa q7] [0] [1] [0, 1] (by decide +kernel))
          refine lv_iconst (v := 1) hx hb dX5_readFact_100 (by decide) ?_
          exact fw_endZ (v := 1) (rv := fun b : Int32 × OB × OB => b.1) (wp := fun b : Int32 × OB × OB => tpW k ta b.2.1 ++ (ruW k qa b.2.2)) hx hb hr hlocks h rfl rfl hP hD hS dX5_readFact_101
        · have h := fw_t c6 h
          refine lv_iconst (v := 0) hx hb dX5_readFact_91 (by decide) ?_
          exact fw_endZ (v := 0) (rv := fun b : Int32 × OB × OB => b.1) (wp := fun b : Int32 × OB × OB => tpW k ta b.2.1 ++ (ruW k qa b.2.2)) hx hb hr hlocks h rfl rfl hP hD hS dX5_readFact_92
      · have h := fw_t c4 h
        refine lv_aload_n hx hb dX5_readFact_46 rfl (lv_at hl 0 rfl) ?_
        refine lv_aload_n hx hb dX5_readFact_47 rfl (lv_at hl 1 rfl) ?_
        refine lv_iload_n hx hb dX5_readFact_48 rfl (lv_at hl 2 rfl) ?_
        refine lv_iconst (v := 1) hx hb dX5_readFact_49 (by decide) ?_
        refine lv_iadd hx hb dX5_readFact_50 ?_
        refine fw_Si (As := [.ref (ta 0), .ref (qa 0), .int (v2 + 1)]) (rest := []) (n := 3) (wr := []) (rv := fun b : Int32 × OB × OB => b.1) (wp := fun b : Int32 × OB × OB => tpW k ta b.2.1 ++ (ruW k qa b.2.2)) h hx hb hml hown hts hG hA hP hD hS hl.1 (List.range (tpW k ta q3 ++ (ruW k qa ru)).length) [] (fun q hq9 => hT l D k _  ta qa F (v2 + 1) q3 ru  hq9) gX5_readFact_X5_readTest rfl ⟨rfl, rfl, by show nd + 5 + 1 ≤ nd + 6; omega, by show 8 + (6 + 11) + 64 * (nd + 5) ≤ 64 * (nd + 6); omega⟩ (by decide +kernel) (al_C _) rfl (al_n _) ⟨rfl, rfl, Nat.le_of_ble_eq_true rfl, Nat.le_of_ble_eq_true rfl, Nat.le_of_ble_eq_true rfl⟩ dX5_readFact_51 (fun q8 H locs h hP hD hS => ?_)
        obtain ⟨hP, hD⟩ := cv (w' := tpW k ta q8.2.1 ++ (ruW k qa q8.2.2)) hP hD rfl
        refine hc_is (z := q8.1) rfl ?_
        refine lv_if_eq (tgt := 78) hx hb dX5_readFact_54 (by decide) (fun c9 => ?_) (fun c9 => ?_)
        · have h := fw_t c9 h
          exact B78 _ _ _ _ _ h hP hD hS (lv_sub hl [] rfl)
        · have h := fw_f c9 h
          refine lv_aload_n hx hb dX5_readFact_57 rfl (lv_at hl 0 rfl) ?_
          refine lv_bipush (v := 93) hx hb dX5_readFact_58 (by decide) ?_
          obtain ⟨hP, hD⟩ := qm hP hD (q_to [tpW k ta q8.2.1, ruW k qa q8.2.2] [0, 1] [0] [1] (by decide +kernel))
          refine fw_Vi (As := [.int 93]) (rest := []) (n := 1) (rv := fun b : Int32 × OB => b.1) (wp := fun b : Int32 × OB => tpW k ta b.2) h hx hb hml hown hts hG hA hP hD hS hl.1 _ _ (fun q hq9 => c_X7_take l D k _  ta F 93 q8.2.1  hq9) (ci := 5) (q0 := 0) rfl rfl gX5_readFact_X7_take rfl ⟨rfl, rfl, by show 2 + 1 ≤ nd + 6; omega, by show 8 + (2 + 11) + 64 * 2 ≤ 64 * (nd + 6); omega⟩ (by decide +kernel) (q_l _ _) (q_r _ _) (q_nd _ _) ⟨rfl, rfl, Nat.le_of_ble_eq_true rfl, Nat.le_of_ble_eq_true rfl, Nat.le_of_ble_eq_true rfl⟩ dX5_readFact_60 (fun q10 H locs h hP hD hS => ?_)
          obtain ⟨hP, hD⟩ := qm (w2 := tpW k ta q10.2 ++ (ruW k qa q8.2.2)) hP hD (q_from [tpW k ta q10.2, ruW k qa q8.2.2] [1] [0] [0, 1] (by decide +kernel))
          refine hc_is (z := q10.1) rfl ?_
          refine lv_if_ne (tgt := 74) hx hb dX5_readFact_63 (by decide) (fun c11 => ?_) (fun c11 => ?_)
          · have h := fw_f c11 h
            exact B74 _ _ _ _ _ h hP hD hS (lv_sub hl [] rfl)
          · have h := fw_t c11 h
            refine lv_aload_n hx hb dX5_readFact_66 rfl (lv_at hl 0 rfl) ?_
            refine lv_iconst (v := 0) hx hb dX5_readFact_67 (by decide) ?_
            obtain ⟨hP, hD⟩ := qm hP hD (q_to [tpW k ta q10.2, ruW k qa q8.2.2] [0, 1] [0] [1] (by decide +kernel))
            refine fw_Vi (As := [.int 0]) (rest := []) (n := 1) (rv := fun b : Int32 × OB => b.1) (wp := fun b : Int32 × OB => tpW k ta b.2) h hx hb hml hown hts hG hA hP hD hS hl.1 _ _ (fun q hq9 => c_X7_fail l D k _  ta F 0 q10.2  hq9) (ci := 5) (q0 := 0) rfl rfl gX5_readFact_X7_fail rfl ⟨rfl, rfl, by show 1 + 1 ≤ nd + 6; omega, by show 8 + (2 + 11) + 64 * 1 ≤ 64 * (nd + 6); omega⟩ (by decide +kernel) (q_l _ _) (q_r _ _) (q_nd _ _) ⟨rfl, rfl, Nat.le_of_ble_eq_true rfl, Nat.le_of_ble_eq_true rfl, Nat.le_of_ble_eq_true rfl⟩ dX5_readFact_68 (fun q12 H locs h hP hD hS => ?_)
            obtain ⟨hP, hD⟩ := qm (w2 := tpW k ta q12.2 ++ (ruW k qa q8.2.2)) hP hD (q_from [tpW k ta q12.2, ruW k qa q8.2.2] [1] [0] [0, 1] (by decide +kernel))
            refine hc_is (z := q12.1) rfl ?_
            refine lv_if_eq (tgt := 78) hx hb dX5_readFact_71 (by decide) (fun c13 => ?_) (fun c13 => ?_)
            · have h := fw_t c13 h
              exact B78 _ _ _ _ _ h hP hD hS (lv_sub hl [] rfl)
            · have h := fw_f c13 h
              exact B74 _ _ _ _ _ h hP hD hS (lv_sub hl [] rfl)
    · have h := fw_f c2 h
      refine lv_aload_n hx hb dX5_readFact_30 rfl (lv_at hl 0 rfl) ?_
      refine lv_iconst (v := 2) hx hb dX5_readFact_31 (by decide) ?_
      obtain ⟨hP, hD⟩ := qm hP hD (q_to [tpW k ta tp, ruW k qa ru] [0, 1] [0] [1] (by decide +kernel))
      refine fw_Vi (As := [.int 2]) (rest := []) (n := 1) (rv := fun b : Int32 × OB => b.1) (wp := fun b : Int32 × OB => tpW k ta b.2) h hx hb hml hown hts hG hA hP hD hS hl.1 _ _ (fun q hq9 => c_X7_fail l D k _  ta F 2 tp  hq9) (ci := 5) (q0 := 0) rfl rfl gX5_readFact_X7_fail rfl ⟨rfl, rfl, by show 1 + 1 ≤ nd + 6; omega, by show 8 + (2 + 11) + 64 * 1 ≤ 64 * (nd + 6); omega⟩ (by decide +kernel) (q_l _ _) (q_r _ _) (q_nd _ _) ⟨rfl, rfl, Nat.le_of_ble_eq_true rfl, Nat.le_of_ble_eq_true rfl, Nat.le_of_ble_eq_true rfl⟩ dX5_readFact_32 (fun q14 H locs h hP hD hS => ?_)
      obtain ⟨hP, hD⟩ := qm (w2 := tpW k ta q14.2 ++ (ruW k qa ru)) hP hD (q_from [tpW k ta q14.2, ruW k qa ru] [1] [0] [0, 1] (by decide +kernel))
      refine hc_is (z := q14.1) rfl ?_
      obtain ⟨g15, h⟩ := fw_g h
      exact fw_endZ (rv := fun b : Int32 × OB × OB => b.1) (wp := fun b : Int32 × OB × OB => tpW k ta b.2.1 ++ (ruW k qa b.2.2)) hx hb hr hlocks h (bo_z g15) rfl hP hD hS dX5_readFact_35
  refine lv_aload_n hx hb dX5_readFact_0 rfl (lv_at hl 0 rfl) ?_
  obtain ⟨hP, hD⟩ := qm hP hD (q_to [tpW k ta tp, ruW k qa ru] [0, 1] [0] [1] (by decide +kernel))
  refine fw_Vi (As := []) (rest := []) (n := 0) (rv := fun b : Int32 => b) (wp := fun b : Int32 => tpW k ta tp) h hx hb hml hown hts hG hA hP hD hS hl.1 _ _ (fun q hq9 => c_X7_kind l D k _  ta F  tp  hq9) (ci := 5) (q0 := 0) rfl rfl gX5_readFact_X7_kind rfl ⟨rfl, rfl, by show 1 + 1 ≤ nd + 6; omega, by show 8 + (1 + 11) + 64 * 1 ≤ 64 * (nd + 6); omega⟩ (by decide +kernel) (q_l _ _) (q_r _ _) (q_nd _ _) ⟨rfl, rfl, Nat.le_of_ble_eq_true rfl, Nat.le_of_ble_eq_true rfl, Nat.le_of_ble_eq_true rfl⟩ dX5_readFact_1 (fun q16 H locs h hP hD hS => ?_)
  obtain ⟨hP, hD⟩ := qm (w2 := tpW k ta tp ++ (ruW k qa ru)) hP hD (q_from [tpW k ta tp, ruW k qa ru] [1] [0] [0, 1] (by decide +kernel))
  refine hc_is (z := q16) rfl ?_
  refine lv_istore_n (lv' := [(3, .int q16), (0, .ref (ta 0)), (1, .ref (qa 0)), (2, .int x2)]) hx hb dX5_readFact_4 rfl hl (by decide) rfl (fun ls hl => ?_)
  refine lv_iload_n hx hb dX5_readFact_5 rfl (lv_at hl 0 rfl) ?_
  refine lv_bipush (v := 91) hx hb dX5_readFact_6 (by decide) ?_
  refine lv_icmp_eq (tgt := 24) hx hb dX5_readFact_8 (by decide) (fun c17 => ?_) (fun c17 => ?_)
  · have h := fw_t c17 h
    exact B24 _ _ _ _ _ _ _ h hP hD hS (lv_sub hl [1, 2, 3, 0] rfl)
  · have h := fw_f c17 h
    refine lv_iload_n hx hb dX5_readFact_11 rfl (lv_at hl 0 rfl) ?_
    refine lv_sipush (v := 277) hx hb dX5_readFact_12 (by decide) ?_
    refine lv_icmp_eq (tgt := 24) hx hb dX5_readFact_15 (by decide) (fun c18 => ?_) (fun c18 => ?_)
    · have h := fw_t c18 h
      exact B24 _ _ _ _ _ _ _ h hP hD hS (lv_sub hl [1, 2, 3, 0] rfl)
    · have h := fw_f c18 h
      refine lv_aload_n hx hb dX5_readFact_18 rfl (lv_at hl 1 rfl) ?_
      refine lv_aload_n hx hb dX5_readFact_19 rfl (lv_at hl 2 rfl) ?_
      refine fw_Si (As := [.ref (ta 0), .ref (qa 0)]) (rest := []) (n := 2) (wr := []) (rv := fun b : Int32 × OB × OB => b.1) (wp := fun b : Int32 × OB × OB => tpW k ta b.2.1 ++ (ruW k qa b.2.2)) h hx hb hml hown hts hG hA hP hD hS hl.1 (List.range (tpW k ta tp ++ (ruW k qa ru)).length) [] (fun q hq9 => c_X5_readComparison l D k _  ta qa F  tp ru  hq9) gX5_readFact_X5_readComparison rfl ⟨rfl, rfl, by show 4 + 1 ≤ nd + 6; omega, by show 8 + (3 + 11) + 64 * 4 ≤ 64 * (nd + 6); omega⟩ (by decide +kernel) (al_C _) rfl (al_n _) ⟨rfl, rfl, Nat.le_of_ble_eq_true rfl, Nat.le_of_ble_eq_true rfl, Nat.le_of_ble_eq_true rfl⟩ dX5_readFact_20 (fun q19 H locs h hP hD hS => ?_)
      obtain ⟨hP, hD⟩ := cv (w' := tpW k ta q19.2.1 ++ (ruW k qa q19.2.2)) hP hD rfl
      refine hc_is (z := q19.1) rfl ?_
      obtain ⟨g20, h⟩ := fw_g h
      exact fw_endZ (rv := fun b : Int32 × OB × OB => b.1) (wp := fun b : Int32 × OB × OB => tpW k ta b.2.1 ++ (ruW k qa b.2.2)) hx hb hr hlocks h (bo_z g20) rfl hP hD hS dX5_readFact_23
noncomputable def f_X5_readTest_o_ (gF : Nat → Int32 → OB → OB → Option (Int32 × OB × OB)) : Nat → Int32 → OB → OB → Option (Int32 × OB × OB) := fun F x tp ru => f_X5_readTest_o F gF x tp ru
noncomputable def f_RF : Nat → Nat → Int32 → OB → OB → Option (Int32 × OB × OB)
  | 0 => fun _ _ _ _ => none
  | n + 1 => fun F x tp ru => f_X5_readFact_o F (f_X5_readTest_o_ (f_RF n)) (f_RF n) x tp ru
theorem c_RF : ∀ (n : Nat) (l : Launch) (D : va_G) (k : Nat → ClassId) (sz : Nat) (ta : Nat → Nat) (qa : Nat → Nat) (F : Nat) (x2 : Int32) (tp : OB) (ru : OB) {res : Int32 × OB × OB}, f_RF n F x2 tp ru = some res → CtI l yX5_readFact wsX5_readFact (rmK (2 * n + 4) 0 0) [.ref (ta 0), .ref (qa 0), .int x2] D k sz (tpW k ta tp ++ (ruW k qa ru)) (fun r (_ : Unit) => r = res.1) (fun _ : Unit => tpW k ta res.2.1 ++ (ruW k qa res.2.2)) 0 0
  | 0, _, _, _, _, _, _, _, _, _, _, _, h => by cases h
  | n + 1, l, D, k, sz, ta, qa, F, x2, tp, ru, res, h => by
    rw [show 2 * (n + 1) + 4 = 2 * n + 6 from by omega]
    have hF := fun l D k sz ta qa F x2 tp ru {res} => c_RF n l D k sz ta qa F x2 tp ru (res := res)
    exact c_X5_readFact_o l D k sz ta qa F (f_X5_readTest_o_ (f_RF n)) (f_RF n) x2 tp ru (2 * n) (fun l D k sz ta qa F x2 tp ru {res} h => c_X5_readTest_o l D k sz ta qa F (f_RF n) x2 tp ru (2 * n) hF h) hF h
noncomputable def f_X5_readTest (F : Nat) (x2 : Int32) (tp : OB) (ru : OB) : Option (Int32 × OB × OB) := f_X5_readTest_o F (f_RF 11) x2 tp ru
theorem c_X5_readTest (l : Launch) (D : va_G) (k : Nat → ClassId) (sz : Nat) (ta : Nat → Nat) (qa : Nat → Nat) (F : Nat) (x2 : Int32) (tp : OB) (ru : OB) {res : Int32 × OB × OB} (h : f_X5_readTest F x2 tp ru = some res) : CtI l yX5_readTest wsX5_readTest (rmK 27 0 0) [.ref (ta 0), .ref (qa 0), .int x2] D k sz (tpW k ta tp ++ (ruW k qa ru)) (fun r (_ : Unit) => r = res.1) (fun _ : Unit => tpW k ta res.2.1 ++ (ruW k qa res.2.2)) 0 0 :=
  c_X5_readTest_o l D k sz ta qa F (f_RF 11) x2 tp ru 22 (fun l D k sz ta qa F x2 tp ru {res} h => c_RF 11 l D k sz ta qa F x2 tp ru h) h
noncomputable def b_X5_read_37 (F : Nat)    (tp : OB) (ru : OB) : Option (Int32 × OB × OB) :=
  some (0, tp, ru)
noncomputable def b_X5_read_66 (F : Nat)   (k10 : (Int32 × OB × OB) → Option (Int32 × OB × OB)) (v2 : Int32) (v3 : Int32) (v4 : Int32) (tp : OB) (ru : OB) : Option (Int32 × OB × OB) :=
  Option.bind (f_X4_closeClause F v3 v4 ru) (fun q1 => (Option.bind (f_X7_kind F tp) (fun q2 => (if q2 = (-1) then (some (1, tp, q1)) else (Option.bind (f_X7_take F 59 tp) (fun q4 => (if q4.1 = 0 then (Option.bind (f_X7_fail F 0 q4.2) (fun q6 => (if bo q6.1 then (some (q6.1, q6.2, q1)) else none))) else (k10 ((v2 + 1), q4.2, q1)))))))))
noncomputable def b_X5_read_10 (F : Nat)    (k10 : (Int32 × OB × OB) → Option (Int32 × OB × OB)) (a10 : (Int32 × OB × OB)) : Option (Int32 × OB × OB) :=
  if 12 < a10.1 then (some (0, a10.2.1, a10.2.2)) else (Option.bind (f_X5_openClause F a10.1 a10.2.1) (fun q9 => (if q9.1 = 0 then (b_X5_read_37 F q9.2 a10.2.2) else (Option.bind (f_X5_readSum F q9.2 a10.2.2) (fun q11 => (if q11.1 = 0 then (b_X5_read_37 F q11.2.1 q11.2.2) else (Option.bind (f_X7_take F 274 q11.2.1) (fun q13 => (if q13.1 = 0 then (b_X5_read_66 F k10 a10.1 (a10.2.2.1 5) (q11.2.2.1 5) q13.2 q11.2.2) else (Option.bind (f_X5_readTest F 0 q13.2 q11.2.2) (fun q15 => (if q15.1 = 0 then (some (0, q15.2.1, q15.2.2)) else (b_X5_read_66 F k10 a10.1 (a10.2.2.1 5) (q11.2.2.1 5) q15.2.1 q15.2.2)))))))))))))
noncomputable def f_X5_read (F : Nat)   (tp : OB) (ru : OB) : Option (Int32 × OB × OB) :=
  Option.bind (f_X7_cutUp F tp) (fun q17 => (Option.bind (f_X4_clear F ru) (fun q18 => (lp (b_X5_read_10 F) F (0, q17, q18)))))
set_option maxHeartbeats 4000000 in
set_option maxRecDepth 100000 in
theorem c_X5_read (l : Launch) (D : va_G) (k : Nat → ClassId) (sz : Nat) (ad tv : Nat → Nat) (ta : Nat → Nat) (qa : Nat → Nat) (F : Nat)   (tp : OB) (ru : OB)  {res : Int32 × OB × OB} (h : f_X5_read F tp ru = some res) : CtIE l yX5_read wsX5_read (rmK 28 0 0) [.ref (ta 0), .ref (qa 0)] D k (EX ad tv) sz (tpW k ta tp ++ (ruW k qa ru)) (fun r (_ : Unit) => r = res.1) (fun _ : Unit => tpW k ta res.2.1 ++ (ruW k qa res.2.2)) 0 0 := by
  refine CtIE.mk (cc := cX5_read) (maxL := 5) (ret := (some .boolean)) (by decide) rfl (Nat.le_of_ble_eq_true rfl) ?_
  intro p e s m below meth c A ls hE E hP hD hS hl
  obtain ⟨hx, hb, hr, hml, hown, hts, hlocks, hin, hG, hA⟩ := E
  have hown : s.vm.findClass RX5 = some m.cls := hown
  have in4 : ∀ w ∈ u_ws RX4 TX4 8, w ∈ wsX5_read := fun _ h => List.mem_cons_of_mem _ (List.mem_append_left _ (List.mem_append_right _ h))
  have in7 : ∀ w ∈ u_ws RX7 TX7 8, w ∈ wsX5_read := fun _ h => List.mem_cons_of_mem _ (List.mem_append_right _ h)
  have hl : lv_has ls 5 [(0, .ref (ta 0)), (1, .ref (qa 0))] := hl
  have B37 : ∀ (tp : OB) (ru : OB) (H : Heap) (locs : List Loc) (ls : Array Slot), b_X5_read_37 F tp ru = some res → va_P D vwCl (tpW k ta tp ++ (ruW k qa ru)) H → va_D A (tpW k ta tp ++ (ruW k qa ru)) → va_S A s.heap H locs → lv_has ls 5 [] → W p l e (rmK 28 0 0) s m (List.toArray [.ref (ta 0), .ref (qa 0)]) below meth c H locs 0 0 (MQ below (va_Qi (fun r (_ : Unit) => r = res.1) (hcB D (fun _ : Unit => tpW k ta res.2.1 ++ (ruW k qa res.2.2)) A) A) (List.toArray [.ref (ta 0), .ref (qa 0)]) s 0 0 A) (F0 m 37 ls []) := by
    intro tp ru H locs ls h hP hD hS hl
    refine lv_iconst (v := 0) hx hb dX5_read_37 (by decide) ?_
    exact fw_endZ (v := 0) (rv := fun b : Int32 × OB × OB => b.1) (wp := fun b : Int32 × OB × OB => tpW k ta b.2.1 ++ (ruW k qa b.2.2)) hx hb hr hlocks h rfl rfl hP hD hS dX5_read_38
  have B10 : ∀ a10 : (Int32 × OB × OB), lp (b_X5_read_10 F) F a10 = some res → ∀ (H : Heap) (locs : List Loc) (ls : Array Slot), va_P D vwCl (tpW k ta a10.2.1 ++ (ruW k qa a10.2.2)) H → va_D A (tpW k ta a10.2.1 ++ (ruW k qa a10.2.2)) → va_S A s.heap H locs → lv_has ls 5 [(0, .ref (ta 0)), (1, .ref (qa 0)), (2, .int a10.1)] → W p l e (rmK 28 0 0) s m (List.toArray [.ref (ta 0), .ref (qa 0)]) below meth c H locs 0 0 (MQ below (va_Qi (fun r (_ : Unit) => r = res.1) (hcB D (fun _ : Unit => tpW k ta res.2.1 ++ (ruW k qa res.2.2)) A) A) (List.toArray [.ref (ta 0), .ref (qa 0)]) s 0 0 A) (F0 m 10 ls []) := by
    refine lp_W ?_ F
    intro k10 hk10 a10 h H locs ls hP hD hS hl
    have hc10 : ∀ (v2 : Int32) (tp : OB) (ru : OB), k10 (v2, tp, ru) = some res → ∀ (H : Heap) (locs : List Loc) (ls : Array Slot), va_P D vwCl (tpW k ta tp ++ (ruW k qa ru)) H → va_D A (tpW k ta tp ++ (ruW k qa ru)) → va_S A s.heap H locs → lv_has ls 5 [(0, .ref (ta 0)), (1, .ref (qa 0)), (2, .int v2)] → W p l e (rmK 28 0 0) s m (List.toArray [.ref (ta 0), .ref (qa 0)]) below meth c H locs 0 0 (MQ below (va_Qi (fun r (_ : Unit) => r = res.1) (hcB D (fun _ : Unit => tpW k ta res.2.1 ++ (ruW k qa res.2.2)) A) A) (List.toArray [.ref (ta 0), .ref (qa 0)]) s 0 0 A) (F0 m 10 ls []) := fun v2 tp ru => hk10 (v2, tp, ru)
    have B66 : ∀ (v2 : Int32) (v3 : Int32) (v4 : Int32) (tp : OB) (ru : OB) (H : Heap) (locs : List Loc) (ls : Array Slot), b_X5_read_66 F k10 v2 v3 v4 tp ru = some res → va_P D vwCl (tpW k ta tp ++ (ruW k qa ru)) H → va_D A (tpW k ta tp ++ (ruW k qa ru)) → va_S A s.heap H locs → lv_has ls 5 [(0, .ref (ta 0)), (1, .ref (qa 0)), (2, .int v2), (3, .int v3), (4, .int v4)] → W p l e (rmK 28 0 0) s m (List.toArray [.ref (ta 0), .ref (qa 0)]) below meth c H locs 0 0 (MQ below (va_Qi (fun r (_ : Unit) => r = res.1) (hcB D (fun _ : Unit => tpW k ta res.2.1 ++ (ruW k qa res.2.2)) A) A) (List.toArray [.ref (ta 0), .ref (qa 0)]) s 0 0 A) (F0 m 66 ls []) := by
      intro v2 v3 v4 tp ru H locs ls h hP hD hS hl
      refine lv_aload_n hx hb dX5_read_66 rfl (lv_at hl 1 rfl) ?_
      refine lv_iload_n hx hb dX5_read_67 rfl (lv_at hl 3 rfl) ?_
      refine lv_iload hx hb dX5_read_68 (lv_at hl 4 rfl) ?_
      obtain ⟨hP, hD⟩ := qm hP hD (q_to [tpW k ta tp, ruW k qa ru] [0, 1] [1] [0] (by decide +kernel))
      refine fw_Vv (As := [.int v3, .int v4]) (rest := []) (n := 2) (wp := fun b : OB => ruW k qa b) h hx hb hml hown hts hG hA hP hD hS hl.1 _ _ (fun q hq9 => c_X4_closeClause l D k _  qa F v3 v4 ru  hq9) (ci := 3) (q0 := 0) rfl rfl gX5_read_X4_closeClause rfl ⟨rfl, rfl, Nat.le_of_ble_eq_true rfl, Nat.le_of_ble_eq_true rfl⟩ (by decide +kernel) (q_l _ _) (q_r _ _) (q_nd _ _) ⟨rfl, rfl, Nat.le_of_ble_eq_true rfl, Nat.le_of_ble_eq_true rfl, Nat.le_of_ble_eq_true rfl⟩ dX5_read_70 (fun q1 H locs h hP hD hS => ?_)
      obtain ⟨hP, hD⟩ := qm (w2 := tpW k ta tp ++ (ruW k qa q1)) hP hD (q_from [tpW k ta tp, ruW k qa q1] [0] [1] [0, 1] (by decide +kernel))
      refine lv_aload_n hx hb dX5_read_73 rfl (lv_at hl 0 rfl) ?_
      obtain ⟨hP, hD⟩ := qm hP hD (q_to [tpW k ta tp, ruW k qa q1] [0, 1] [0] [1] (by decide +kernel))
      refine fw_Vi (As := []) (rest := []) (n := 0) (rv := fun b : Int32 => b) (wp := fun b : Int32 => tpW k ta tp) h hx hb hml hown hts hG hA hP hD hS hl.1 _ _ (fun q hq9 => c_X7_kind l D k _  ta F  tp  hq9) (ci := 5) (q0 := 0) rfl rfl gX5_read_X7_kind rfl ⟨rfl, rfl, Nat.le_of_ble_eq_true rfl, Nat.le_of_ble_eq_true rfl⟩ (by decide +kernel) (q_l _ _) (q_r _ _) (q_nd _ _) ⟨rfl, rfl, Nat.le_of_ble_eq_true rfl, Nat.le_of_ble_eq_true rfl, Nat.le_of_ble_eq_true rfl⟩ dX5_read_74 (fun q2 H locs h hP hD hS => ?_)
      obtain ⟨hP, hD⟩ := qm (w2 := tpW k ta tp ++ (ruW k qa q1)) hP hD (q_from [tpW k ta tp, ruW k qa q1] [1] [0] [0, 1] (by decide +kernel))
      refine hc_is (z := q2) rfl ?_
      refine lv_iconst (v := (-1)) hx hb dX5_read_77 (by decide) ?_
      refine lv_icmp_ne (tgt := 83) hx hb dX5_read_78 (by decide) (fun c3 => ?_) (fun c3 => ?_)
      · have h := fw_f c3 h
        refine lv_aload_n hx hb dX5_read_83 rfl (lv_at hl 0 rfl) ?_
        refine lv_bipush (v := 59) hx hb dX5_read_84 (by decide) ?_
        obtain ⟨hP, hD⟩ := qm hP hD (q_to [tpW k ta tp, ruW k qa q1] [0, 1] [0] [1] (by decide +kernel))
        refine fw_Vi (As := [.int 59]) (rest := []) (n := 1) (rv := fun b : Int32 × OB => b.1) (wp := fun b : Int32 × OB => tpW k ta b.2) h hx hb hml hown hts hG hA hP hD hS hl.1 _ _ (fun q hq9 => c_X7_take l D k _  ta F 59 tp  hq9) (ci := 5) (q0 := 0) rfl rfl gX5_read_X7_take rfl ⟨rfl, rfl, Nat.le_of_ble_eq_true rfl, Nat.le_of_ble_eq_true rfl⟩ (by decide +kernel) (q_l _ _) (q_r _ _) (q_nd _ _) ⟨rfl, rfl, Nat.le_of_ble_eq_true rfl, Nat.le_of_ble_eq_true rfl, Nat.le_of_ble_eq_true rfl⟩ dX5_read_86 (fun q4 H locs h hP hD hS => ?_)
        obtain ⟨hP, hD⟩ := qm (w2 := tpW k ta q4.2 ++ (ruW k qa q1)) hP hD (q_from [tpW k ta q4.2, ruW k qa q1] [1] [0] [0, 1] (by decide +kernel))
        refine hc_is (z := q4.1) rfl ?_
        refine lv_if_ne (tgt := 98) hx hb dX5_read_89 (by decide) (fun c5 => ?_) (fun c5 => ?_)
        · have h := fw_f c5 h
          refine lv_iinc (v := (v2 + 1)) (lv' := [(2, .int (v2 + 1)), (0, .ref (ta 0)), (1, .ref (qa 0)), (3, .int v3), (4, .int v4)]) hx hb dX5_read_98 hl (k := 2) rfl rfl (by decide) rfl (fun ls hl => ?_)
          refine lv_goto (tgt := 10) hx hb dX5_read_101 (by decide) ?_
          exact hc10 _ _ _ h _ _ _ hP hD hS (lv_sub hl [1, 2, 0] rfl)
        · have h := fw_t c5 h
          refine lv_aload_n hx hb dX5_read_92 rfl (lv_at hl 0 rfl) ?_
          refine lv_iconst (v := 0) hx hb dX5_read_93 (by decide) ?_
          obtain ⟨hP, hD⟩ := qm hP hD (q_to [tpW k ta q4.2, ruW k qa q1] [0, 1] [0] [1] (by decide +kernel))
          refine fw_Vi (As := [.int 0]) (rest := []) (n := 1) (rv := fun b : Int32 × OB => b.1) (wp := fun b : Int32 × OB => tpW k ta b.2) h hx hb hml hown hts hG hA hP hD hS hl.1 _ _ (fun q hq9 => c_X7_fail l D k _  ta F 0 q4.2  hq9) (ci := 5) (q0 := 0) rfl rfl gX5_read_X7_fail rfl ⟨rfl, rfl, Nat.le_of_ble_eq_true rfl, Nat.le_of_ble_eq_true rfl⟩ (by decide +kernel) (q_l _ _) (q_r _ _) (q_nd _ _) ⟨rfl, rfl, Nat.le_of_ble_eq_true rfl, Nat.le_of_ble_eq_true rfl, Nat.le_of_ble_eq_true rfl⟩ dX5_read_94 (fun q6 H locs h hP hD hS => ?_)
          obtain ⟨hP, hD⟩ := qm (w2 := tpW k ta q6.2 ++ (ruW k qa q1)) hP hD (q_from [tpW k ta q6.2, ruW k qa q1] [1] [0] [0, 1] (by decide +kernel))
          refine hc_is (z := q6.1) rfl ?_
          obtain ⟨g7, h⟩ := fw_g h
          exact fw_endZ (rv := fun b : Int32 × OB × OB => b.1) (wp := fun b : Int32 × OB × OB => tpW k ta b.2.1 ++ (ruW k qa b.2.2)) hx hb hr hlocks h (bo_z g7) rfl hP hD hS dX5_read_97
      · have h := fw_t c3 h
        refine lv_iconst (v := 1) hx hb dX5_read_81 (by decide) ?_
        exact fw_endZ (v := 1) (rv := fun b : Int32 × OB × OB => b.1) (wp := fun b : Int32 × OB × OB => tpW k ta b.2.1 ++ (ruW k qa b.2.2)) hx hb hr hlocks h rfl rfl hP hD hS dX5_read_82
    refine lv_iload_n hx hb dX5_read_10 rfl (lv_at hl 2 rfl) ?_
    refine lv_bipush (v := 12) hx hb dX5_read_11 (by decide) ?_
    refine lv_icmp_gt (tgt := 104) hx hb dX5_read_13 (by decide) (fun c8 => ?_) (fun c8 => ?_)
    · have h := fw_t c8 h
      refine lv_iconst (v := 0) hx hb dX5_read_104 (by decide) ?_
      exact fw_endZ (v := 0) (rv := fun b : Int32 × OB × OB => b.1) (wp := fun b : Int32 × OB × OB => tpW k ta b.2.1 ++ (ruW k qa b.2.2)) hx hb hr hlocks h rfl rfl hP hD hS dX5_read_105
    · have h := fw_f c8 h
      refine lv_aload_n hx hb dX5_read_16 rfl (lv_at hl 1 rfl) ?_
      refine va_get (D := D) (ci := 3) (v := .int (a10.2.2.1 5)) (C := RX4) (T := TX4) (N := 8) hx hb hts in4 hown hG.1 hP 5 rfl rfl 5 (by decide) (hts (.fieldLink RX5 19 "ChairCane$Rule" "length" "I") (mem_b bq_wsX5_read 0 0 rfl)) (fun _ h9 => h9) rfl dX5_read_17 ?_
      refine lv_istore_n (lv' := [(3, .int (a10.2.2.1 5)), (0, .ref (ta 0)), (1, .ref (qa 0)), (2, .int a10.1)]) hx hb dX5_read_20 rfl hl (by decide) rfl (fun ls hl => ?_)
      refine lv_aload_n hx hb dX5_read_21 rfl (lv_at hl 1 rfl) ?_
      refine lv_iload_n hx hb dX5_read_22 rfl (lv_at hl 3 rfl) ?_
      obtain ⟨hP, hD⟩ := qm hP hD (q_to [tpW k ta a10.2.1, ruW k qa a10.2.2] [0, 1] [0] [1] (by decide +kernel))
      refine fw_Si (As := [.ref (ta 0), .int a10.1]) (rest := []) (n := 2) (rv := fun b : Int32 × OB => b.1) (wp := fun b : Int32 × OB => tpW k ta b.2) h hx hb hml hown hts hG hA hP hD hS hl.1 _ _ (fun q hq9 => c_X5_openClause l D k _  ta F a10.1 a10.2.1  hq9) gX5_read_X5_openClause rfl ⟨rfl, rfl, Nat.le_of_ble_eq_true rfl, Nat.le_of_ble_eq_true rfl⟩ (by decide +kernel) (q_l _ _) (q_r _ _) (q_nd _ _) ⟨rfl, rfl, Nat.le_of_ble_eq_true rfl, Nat.le_of_ble_eq_true rfl, Nat.le_of_ble_eq_true rfl⟩ dX5_read_23 (fun q9 H locs h hP hD hS => ?_)
      obtain ⟨hP, hD⟩ := qm (w2 := tpW k ta q9.2 ++ (ruW k qa a10.2.2)) hP hD (q_from [tpW k ta q9.2, ruW k qa a10.2.2] [1] [0] [0, 1] (by decide +kernel))
      refine hc_is (z := q9.1) rfl ?_
      refine lv_if_eq (tgt := 37) hx hb dX5_read_26 (by decide) (fun c10 => ?_) (fun c10 => ?_)
      · have h := fw_t c10 h
        exact B37 _ _ _ _ _ h hP hD hS (lv_sub hl [] rfl)
      · have h := fw_f c10 h
        refine lv_aload_n hx hb dX5_read_29 rfl (lv_at hl 1 rfl) ?_
        refine lv_aload_n hx hb dX5_read_30 rfl (lv_at hl 2 rfl) ?_
        refine fw_Si (As := [.ref (ta 0), .ref (qa 0)]) (rest := []) (n := 2) (wr := []) (rv := fun b : Int32 × OB × OB => b.1) (wp := fun b : Int32 × OB × OB => tpW k ta b.2.1 ++ (ruW k qa b.2.2)) h hx hb hml hown hts hG hA hP hD hS hl.1 (List.range (tpW k ta q9.2 ++ (ruW k qa a10.2.2)).length) [] (fun q hq9 => c_X5_readSum l D k _  ta qa F  q9.2 a10.2.2  hq9) gX5_read_X5_readSum rfl ⟨rfl, rfl, Nat.le_of_ble_eq_true rfl, Nat.le_of_ble_eq_true rfl⟩ (by decide +kernel) (al_C _) rfl (al_n _) ⟨rfl, rfl, Nat.le_of_ble_eq_true rfl, Nat.le_of_ble_eq_true rfl, Nat.le_of_ble_eq_true rfl⟩ dX5_read_31 (fun q11 H locs h hP hD hS => ?_)
        obtain ⟨hP, hD⟩ := cv (w' := tpW k ta q11.2.1 ++ (ruW k qa q11.2.2)) hP hD rfl
        refine hc_is (z := q11.1) rfl ?_
        refine lv_if_ne (tgt := 39) hx hb dX5_read_34 (by decide) (fun c12 => ?_) (fun c12 => ?_)
        · have h := fw_f c12 h
          refine lv_aload_n hx hb dX5_read_39 rfl (lv_at hl 2 rfl) ?_
          refine va_get (D := D) (ci := 3) (v := .int (q11.2.2.1 5)) (C := RX4) (T := TX4) (N := 8) hx hb hts in4 hown hG.1 hP 5 rfl rfl 5 (by decide) (hts (.fieldLink RX5 19 "ChairCane$Rule" "length" "I") (mem_b bq_wsX5_read 0 0 rfl)) (fun _ h9 => h9) rfl dX5_read_40 ?_
          refine lv_istore (lv' := [(4, .int (q11.2.2.1 5)), (3, .int (a10.2.2.1 5)), (0, .ref (ta 0)), (1, .ref (qa 0)), (2, .int a10.1)]) hx hb dX5_read_43 hl (by decide) rfl (fun ls hl => ?_)
          refine lv_aload_n hx hb dX5_read_45 rfl (lv_at hl 2 rfl) ?_
          refine lv_sipush (v := 274) hx hb dX5_read_46 (by decide) ?_
          obtain ⟨hP, hD⟩ := qm hP hD (q_to [tpW k ta q11.2.1, ruW k qa q11.2.2] [0, 1] [0] [1] (by decide +kernel))
          refine fw_Vi (As := [.int 274]) (rest := []) (n := 1) (rv := fun b : Int32 × OB => b.1) (wp := fun b : Int32 × OB => tpW k ta b.2) h hx hb hml hown hts hG hA hP hD hS hl.1 _ _ (fun q hq9 => c_X7_take l D k _  ta F 274 q11.2.1  hq9) (ci := 5) (q0 := 0) rfl rfl gX5_read_X7_take rfl ⟨rfl, rfl, Nat.le_of_ble_eq_true rfl, Nat.le_of_ble_eq_true rfl⟩ (by decide +kernel) (q_l _ _) (q_r _ _) (q_nd _ _) ⟨rfl, rfl, Nat.le_of_ble_eq_true rfl, Nat.le_of_ble_eq_true rfl, Nat.le_of_ble_eq_true rfl⟩ dX5_read_49 (fun q13 H locs h hP hD hS => ?_)
          obtain ⟨hP, hD⟩ := qm (w2 := tpW k ta q13.2 ++ (ruW k qa q11.2.2)) hP hD (q_from [tpW k ta q13.2, ruW k qa q11.2.2] [1] [0] [0, 1] (by decide +kernel))
          refine hc_is (z := q13.1) rfl ?_
          refine lv_if_eq (tgt := 66) hx hb dX5_read_52 (by decide) (fun c14 => ?_) (fun c14 => ?_)
          · have h := fw_t c14 h
            exact B66 _ _ _ _ _ _ _ _ h hP hD hS (lv_sub hl [2, 3, 4, 1, 0] rfl)
          · have h := fw_f c14 h
            refine lv_aload_n hx hb dX5_read_55 rfl (lv_at hl 2 rfl) ?_
            refine lv_aload_n hx hb dX5_read_56 rfl (lv_at hl 3 rfl) ?_
            refine lv_iconst (v := 0) hx hb dX5_read_57 (by decide) ?_
            refine fw_Si (As := [.ref (ta 0), .ref (qa 0), .int 0]) (rest := []) (n := 3) (wr := []) (rv := fun b : Int32 × OB × OB => b.1) (wp := fun b : Int32 × OB × OB => tpW k ta b.2.1 ++ (ruW k qa b.2.2)) h hx hb hml hown hts hG hA hP hD hS hl.1 (List.range (tpW k ta q13.2 ++ (ruW k qa q11.2.2)).length) [] (fun q hq9 => c_X5_readTest l D k _  ta qa F 0 q13.2 q11.2.2  hq9) gX5_read_X5_readTest rfl ⟨rfl, rfl, Nat.le_of_ble_eq_true rfl, Nat.le_of_ble_eq_true rfl⟩ (by decide +kernel) (al_C _) rfl (al_n _) ⟨rfl, rfl, Nat.le_of_ble_eq_true rfl, Nat.le_of_ble_eq_true rfl, Nat.le_of_ble_eq_true rfl⟩ dX5_read_58 (fun q15 H locs h hP hD hS => ?_)
            obtain ⟨hP, hD⟩ := cv (w' := tpW k ta q15.2.1 ++ (ruW k qa q15.2.2)) hP hD rfl
            refine hc_is (z := q15.1) rfl ?_
            refine lv_if_ne (tgt := 66) hx hb dX5_read_61 (by decide) (fun c16 => ?_) (fun c16 => ?_)
            · have h := fw_f c16 h
              exact B66 _ _ _ _ _ _ _ _ h hP hD hS (lv_sub hl [2, 3, 4, 1, 0] rfl)
            · have h := fw_t c16 h
              refine lv_iconst (v := 0) hx hb dX5_read_64 (by decide) ?_
              exact fw_endZ (v := 0) (rv := fun b : Int32 × OB × OB => b.1) (wp := fun b : Int32 × OB × OB => tpW k ta b.2.1 ++ (ruW k qa b.2.2)) hx hb hr hlocks h rfl rfl hP hD hS dX5_read_65
        · have h := fw_t c12 h
          exact B37 _ _ _ _ _ h hP hD hS (lv_sub hl [] rfl)
  have C10 : ∀ (v2 : Int32) (tp : OB) (ru : OB), lp (b_X5_read_10 F) F (v2, tp, ru) = some res → ∀ (H : Heap) (locs : List Loc) (ls : Array Slot), va_P D vwCl (tpW k ta tp ++ (ruW k qa ru)) H → va_D A (tpW k ta tp ++ (ruW k qa ru)) → va_S A s.heap H locs → lv_has ls 5 [(0, .ref (ta 0)), (1, .ref (qa 0)), (2, .int v2)] → W p l e (rmK 28 0 0) s m (List.toArray [.ref (ta 0), .ref (qa 0)]) below meth c H locs 0 0 (MQ below (va_Qi (fun r (_ : Unit) => r = res.1) (hcB D (fun _ : Unit => tpW k ta res.2.1 ++ (ruW k qa res.2.2)) A) A) (List.toArray [.ref (ta 0), .ref (qa 0)]) s 0 0 A) (F0 m 10 ls []) := fun v2 tp ru => B10 (v2, tp, ru)
  refine lv_aload_n hx hb dX5_read_0 rfl (lv_at hl 0 rfl) ?_
  obtain ⟨hP, hD⟩ := qm hP hD (q_to [tpW k ta tp, ruW k qa ru] [0, 1] [0] [1] (by decide +kernel))
  refine fw_VvE (As := []) (rest := []) (n := 0) (wp := fun b : OB => tpW k ta b) h (EX.ok ad tv) hE hx hb hml hown hts hG hA hP hD hS hl.1 _ _ (fun q hq9 => c_X7_cutUp l D k _ ad tv ta F  tp  hq9) (va_recv hG.1 hP (ci := 5) (q0 := 0) rfl rfl) gX5_read_X7_cutUp rfl ⟨rfl, rfl, Nat.le_of_ble_eq_true rfl, Nat.le_of_ble_eq_true rfl⟩ (by decide +kernel) (q_l _ _) (q_r _ _) (q_nd _ _) ⟨rfl, rfl, Nat.le_of_ble_eq_true rfl, Nat.le_of_ble_eq_true rfl, Nat.le_of_ble_eq_true rfl⟩ dX5_read_1 (fun q17 H locs h hP hD hS => ?_)
  obtain ⟨hP, hD⟩ := qm (w2 := tpW k ta q17 ++ (ruW k qa ru)) hP hD (q_from [tpW k ta q17, ruW k qa ru] [1] [0] [0, 1] (by decide +kernel))
  refine lv_aload_n hx hb dX5_read_4 rfl (lv_at hl 1 rfl) ?_
  obtain ⟨hP, hD⟩ := qm hP hD (q_to [tpW k ta q17, ruW k qa ru] [0, 1] [1] [0] (by decide +kernel))
  refine fw_Vv (As := []) (rest := []) (n := 0) (wp := fun b : OB => ruW k qa b) h hx hb hml hown hts hG hA hP hD hS hl.1 _ _ (fun q hq9 => c_X4_clear l D k _  qa F  ru  hq9) (ci := 3) (q0 := 0) rfl rfl gX5_read_X4_clear rfl ⟨rfl, rfl, Nat.le_of_ble_eq_true rfl, Nat.le_of_ble_eq_true rfl⟩ (by decide +kernel) (q_l _ _) (q_r _ _) (q_nd _ _) ⟨rfl, rfl, Nat.le_of_ble_eq_true rfl, Nat.le_of_ble_eq_true rfl, Nat.le_of_ble_eq_true rfl⟩ dX5_read_5 (fun q18 H locs h hP hD hS => ?_)
  obtain ⟨hP, hD⟩ := qm (w2 := tpW k ta q17 ++ (ruW k qa q18)) hP hD (q_from [tpW k ta q17, ruW k qa q18] [0] [1] [0, 1] (by decide +kernel))
  refine lv_iconst (v := 0) hx hb dX5_read_8 (by decide) ?_
  refine lv_istore_n (lv' := [(2, .int 0), (0, .ref (ta 0)), (1, .ref (qa 0))]) hx hb dX5_read_9 rfl hl (by decide) rfl (fun ls hl => ?_)
  exact C10 _ _ _ h _ _ _ hP hD hS (lv_sub hl [1, 2, 0] rfl)
