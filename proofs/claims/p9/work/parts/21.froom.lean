/-! the room, as functions -/
theorem dJ6_bitCount_0f7a4_0 : decode cJ6_bitCount_0f7a4 0 = .ok (.iload_n 0, 1) := of_0 ok_iload_n_0 (by decide +kernel)
theorem dJ6_bitCount_0f7a4_1 : decode cJ6_bitCount_0f7a4 1 = .ok (.iload_n 0, 1) := of_0 ok_iload_n_0 (by decide +kernel)
theorem dJ6_bitCount_0f7a4_2 : decode cJ6_bitCount_0f7a4 2 = .ok (.iconst 1, 1) := of_0 ok_iconst_1 (by decide +kernel)
theorem dJ6_bitCount_0f7a4_3 : decode cJ6_bitCount_0f7a4 3 = .ok (.iushr, 1) := of_0 ok_iushr (by decide +kernel)
theorem dJ6_bitCount_0f7a4_4 : decode cJ6_bitCount_0f7a4 4 = .ok (.ldc_w 265, 3) := of_u2 ok_ldc_w 1 9 (by decide +kernel)
theorem dJ6_bitCount_0f7a4_7 : decode cJ6_bitCount_0f7a4 7 = .ok (.iand, 1) := of_0 ok_iand (by decide +kernel)
theorem dJ6_bitCount_0f7a4_8 : decode cJ6_bitCount_0f7a4 8 = .ok (.isub, 1) := of_0 ok_isub (by decide +kernel)
theorem dJ6_bitCount_0f7a4_9 : decode cJ6_bitCount_0f7a4 9 = .ok (.istore_n 0, 1) := of_0 ok_istore_n_0 (by decide +kernel)
theorem dJ6_bitCount_0f7a4_10 : decode cJ6_bitCount_0f7a4 10 = .ok (.iload_n 0, 1) := of_0 ok_iload_n_0 (by decide +kernel)
theorem dJ6_bitCount_0f7a4_11 : decode cJ6_bitCount_0f7a4 11 = .ok (.ldc_w 266, 3) := of_u2 ok_ldc_w 1 10 (by decide +kernel)
theorem dJ6_bitCount_0f7a4_14 : decode cJ6_bitCount_0f7a4 14 = .ok (.iand, 1) := of_0 ok_iand (by decide +kernel)
theorem dJ6_bitCount_0f7a4_15 : decode cJ6_bitCount_0f7a4 15 = .ok (.iload_n 0, 1) := of_0 ok_iload_n_0 (by decide +kernel)
theorem dJ6_bitCount_0f7a4_16 : decode cJ6_bitCount_0f7a4 16 = .ok (.iconst 2, 1) := of_0 ok_iconst_2 (by decide +kernel)
theorem dJ6_bitCount_0f7a4_17 : decode cJ6_bitCount_0f7a4 17 = .ok (.iushr, 1) := of_0 ok_iushr (by decide +kernel)
theorem dJ6_bitCount_0f7a4_18 : decode cJ6_bitCount_0f7a4 18 = .ok (.ldc_w 266, 3) := of_u2 ok_ldc_w 1 10 (by decide +kernel)
theorem dJ6_bitCount_0f7a4_21 : decode cJ6_bitCount_0f7a4 21 = .ok (.iand, 1) := of_0 ok_iand (by decide +kernel)
theorem dJ6_bitCount_0f7a4_22 : decode cJ6_bitCount_0f7a4 22 = .ok (.iadd, 1) := of_0 ok_iadd (by decide +kernel)
theorem dJ6_bitCount_0f7a4_23 : decode cJ6_bitCount_0f7a4 23 = .ok (.istore_n 0, 1) := of_0 ok_istore_n_0 (by decide +kernel)
theorem dJ6_bitCount_0f7a4_24 : decode cJ6_bitCount_0f7a4 24 = .ok (.iload_n 0, 1) := of_0 ok_iload_n_0 (by decide +kernel)
theorem dJ6_bitCount_0f7a4_25 : decode cJ6_bitCount_0f7a4 25 = .ok (.iload_n 0, 1) := of_0 ok_iload_n_0 (by decide +kernel)
theorem dJ6_bitCount_0f7a4_26 : decode cJ6_bitCount_0f7a4 26 = .ok (.iconst 4, 1) := of_0 ok_iconst_4 (by decide +kernel)
theorem dJ6_bitCount_0f7a4_27 : decode cJ6_bitCount_0f7a4 27 = .ok (.iushr, 1) := of_0 ok_iushr (by decide +kernel)
theorem dJ6_bitCount_0f7a4_28 : decode cJ6_bitCount_0f7a4 28 = .ok (.iadd, 1) := of_0 ok_iadd (by decide +kernel)
theorem dJ6_bitCount_0f7a4_29 : decode cJ6_bitCount_0f7a4 29 = .ok (.ldc_w 267, 3) := of_u2 ok_ldc_w 1 11 (by decide +kernel)
theorem dJ6_bitCount_0f7a4_32 : decode cJ6_bitCount_0f7a4 32 = .ok (.iand, 1) := of_0 ok_iand (by decide +kernel)
theorem dJ6_bitCount_0f7a4_33 : decode cJ6_bitCount_0f7a4 33 = .ok (.istore_n 0, 1) := of_0 ok_istore_n_0 (by decide +kernel)
theorem dJ6_bitCount_0f7a4_34 : decode cJ6_bitCount_0f7a4 34 = .ok (.iload_n 0, 1) := of_0 ok_iload_n_0 (by decide +kernel)
theorem dJ6_bitCount_0f7a4_35 : decode cJ6_bitCount_0f7a4 35 = .ok (.iload_n 0, 1) := of_0 ok_iload_n_0 (by decide +kernel)
theorem dJ6_bitCount_0f7a4_36 : decode cJ6_bitCount_0f7a4 36 = .ok (.bipush 8, 2) := of_s1 ok_bipush 8 (by decide +kernel)
theorem dJ6_bitCount_0f7a4_38 : decode cJ6_bitCount_0f7a4 38 = .ok (.iushr, 1) := of_0 ok_iushr (by decide +kernel)
theorem dJ6_bitCount_0f7a4_39 : decode cJ6_bitCount_0f7a4 39 = .ok (.iadd, 1) := of_0 ok_iadd (by decide +kernel)
theorem dJ6_bitCount_0f7a4_40 : decode cJ6_bitCount_0f7a4 40 = .ok (.istore_n 0, 1) := of_0 ok_istore_n_0 (by decide +kernel)
theorem dJ6_bitCount_0f7a4_41 : decode cJ6_bitCount_0f7a4 41 = .ok (.iload_n 0, 1) := of_0 ok_iload_n_0 (by decide +kernel)
theorem dJ6_bitCount_0f7a4_42 : decode cJ6_bitCount_0f7a4 42 = .ok (.iload_n 0, 1) := of_0 ok_iload_n_0 (by decide +kernel)
theorem dJ6_bitCount_0f7a4_43 : decode cJ6_bitCount_0f7a4 43 = .ok (.bipush 16, 2) := of_s1 ok_bipush 16 (by decide +kernel)
theorem dJ6_bitCount_0f7a4_45 : decode cJ6_bitCount_0f7a4 45 = .ok (.iushr, 1) := of_0 ok_iushr (by decide +kernel)
theorem dJ6_bitCount_0f7a4_46 : decode cJ6_bitCount_0f7a4 46 = .ok (.iadd, 1) := of_0 ok_iadd (by decide +kernel)
theorem dJ6_bitCount_0f7a4_47 : decode cJ6_bitCount_0f7a4 47 = .ok (.istore_n 0, 1) := of_0 ok_istore_n_0 (by decide +kernel)
theorem dJ6_bitCount_0f7a4_48 : decode cJ6_bitCount_0f7a4 48 = .ok (.iload_n 0, 1) := of_0 ok_iload_n_0 (by decide +kernel)
theorem dJ6_bitCount_0f7a4_49 : decode cJ6_bitCount_0f7a4 49 = .ok (.bipush 63, 2) := of_s1 ok_bipush 63 (by decide +kernel)
theorem dJ6_bitCount_0f7a4_51 : decode cJ6_bitCount_0f7a4 51 = .ok (.iand, 1) := of_0 ok_iand (by decide +kernel)
theorem dJ6_bitCount_0f7a4_52 : decode cJ6_bitCount_0f7a4 52 = .ok (.ireturn, 1) := of_0 ok_ireturn (by decide +kernel)
theorem dJ7_fill_53178_0 : decode cJ7_fill_53178 0 = .ok (.iconst 0, 1) := of_0 ok_iconst_0 (by decide +kernel)
theorem dJ7_fill_53178_1 : decode cJ7_fill_53178 1 = .ok (.istore_n 2, 1) := of_0 ok_istore_n_2 (by decide +kernel)
theorem dJ7_fill_53178_2 : decode cJ7_fill_53178 2 = .ok (.aload_n 0, 1) := of_0 ok_aload_n_0 (by decide +kernel)
theorem dJ7_fill_53178_3 : decode cJ7_fill_53178 3 = .ok (.arraylength, 1) := of_0 ok_arraylength (by decide +kernel)
theorem dJ7_fill_53178_4 : decode cJ7_fill_53178 4 = .ok (.istore_n 3, 1) := of_0 ok_istore_n_3 (by decide +kernel)
theorem dJ7_fill_53178_5 : decode cJ7_fill_53178 5 = .ok (.iload_n 2, 1) := of_0 ok_iload_n_2 (by decide +kernel)
theorem dJ7_fill_53178_6 : decode cJ7_fill_53178 6 = .ok (.iload_n 3, 1) := of_0 ok_iload_n_3 (by decide +kernel)
theorem dJ7_fill_53178_7 : decode cJ7_fill_53178 7 = .ok (.if_icmp .ge 13, 3) := of_s2 ok_if_icmp_ge 0 13 (by decide +kernel)
theorem dJ7_fill_53178_10 : decode cJ7_fill_53178 10 = .ok (.aload_n 0, 1) := of_0 ok_aload_n_0 (by decide +kernel)
theorem dJ7_fill_53178_11 : decode cJ7_fill_53178 11 = .ok (.iload_n 2, 1) := of_0 ok_iload_n_2 (by decide +kernel)
theorem dJ7_fill_53178_12 : decode cJ7_fill_53178 12 = .ok (.iload_n 1, 1) := of_0 ok_iload_n_1 (by decide +kernel)
theorem dJ7_fill_53178_13 : decode cJ7_fill_53178 13 = .ok (.iastore, 1) := of_0 ok_iastore (by decide +kernel)
theorem dJ7_fill_53178_14 : decode cJ7_fill_53178 14 = .ok (.iinc 2 1, 3) := of_ii ok_iinc 1 (by decide +kernel)
theorem dJ7_fill_53178_17 : decode cJ7_fill_53178 17 = .ok (.goto (-12), 3) := of_s2 ok_goto 255 244 (by decide +kernel)
theorem dJ7_fill_53178_20 : decode cJ7_fill_53178 20 = .ok (.return_, 1) := of_0 ok_return_ (by decide +kernel)
theorem dX3_bears_0 : decode cX3_bears 0 = .ok (.aload_n 0, 1) := of_0 ok_aload_n_0 (by decide +kernel)
theorem dX3_bears_1 : decode cX3_bears 1 = .ok (.iload_n 1, 1) := of_0 ok_iload_n_1 (by decide +kernel)
theorem dX3_bears_2 : decode cX3_bears 2 = .ok (.putfield 44, 3) := of_u2 ok_putfield 0 44 (by decide +kernel)
theorem dX3_bears_5 : decode cX3_bears 5 = .ok (.aload_n 0, 1) := of_0 ok_aload_n_0 (by decide +kernel)
theorem dX3_bears_6 : decode cX3_bears 6 = .ok (.invokevirtual 71, 3) := of_u2 ok_invokevirtual 0 71 (by decide +kernel)
theorem dX3_bears_9 : decode cX3_bears 9 = .ok (.aload_n 0, 1) := of_0 ok_aload_n_0 (by decide +kernel)
theorem dX3_bears_10 : decode cX3_bears 10 = .ok (.invokevirtual 94, 3) := of_u2 ok_invokevirtual 0 94 (by decide +kernel)
theorem dX3_bears_13 : decode cX3_bears 13 = .ok (.ifCond .ne 7, 3) := of_s2 ok_ifCond_ne 0 7 (by decide +kernel)
theorem dX3_bears_16 : decode cX3_bears 16 = .ok (.iconst 1, 1) := of_0 ok_iconst_1 (by decide +kernel)
theorem dX3_bears_17 : decode cX3_bears 17 = .ok (.goto 4, 3) := of_s2 ok_goto 0 4 (by decide +kernel)
theorem dX3_bears_20 : decode cX3_bears 20 = .ok (.iconst 0, 1) := of_0 ok_iconst_0 (by decide +kernel)
theorem dX3_bears_21 : decode cX3_bears 21 = .ok (.ireturn, 1) := of_0 ok_ireturn (by decide +kernel)
theorem dX3_clear_0 : decode cX3_clear 0 = .ok (.aload_n 0, 1) := of_0 ok_aload_n_0 (by decide +kernel)
theorem dX3_clear_1 : decode cX3_clear 1 = .ok (.iconst 0, 1) := of_0 ok_iconst_0 (by decide +kernel)
theorem dX3_clear_2 : decode cX3_clear 2 = .ok (.putfield 9, 3) := of_u2 ok_putfield 0 9 (by decide +kernel)
theorem dX3_clear_5 : decode cX3_clear 5 = .ok (.aload_n 0, 1) := of_0 ok_aload_n_0 (by decide +kernel)
theorem dX3_clear_6 : decode cX3_clear 6 = .ok (.iconst 0, 1) := of_0 ok_iconst_0 (by decide +kernel)
theorem dX3_clear_7 : decode cX3_clear 7 = .ok (.putfield 15, 3) := of_u2 ok_putfield 0 15 (by decide +kernel)
theorem dX3_clear_10 : decode cX3_clear 10 = .ok (.aload_n 0, 1) := of_0 ok_aload_n_0 (by decide +kernel)
theorem dX3_clear_11 : decode cX3_clear 11 = .ok (.iconst 0, 1) := of_0 ok_iconst_0 (by decide +kernel)
theorem dX3_clear_12 : decode cX3_clear 12 = .ok (.putfield 19, 3) := of_u2 ok_putfield 0 19 (by decide +kernel)
theorem dX3_clear_15 : decode cX3_clear 15 = .ok (.aload_n 0, 1) := of_0 ok_aload_n_0 (by decide +kernel)
theorem dX3_clear_16 : decode cX3_clear 16 = .ok (.iconst 0, 1) := of_0 ok_iconst_0 (by decide +kernel)
theorem dX3_clear_17 : decode cX3_clear 17 = .ok (.putfield 22, 3) := of_u2 ok_putfield 0 22 (by decide +kernel)
theorem dX3_clear_20 : decode cX3_clear 20 = .ok (.return_, 1) := of_0 ok_return_ (by decide +kernel)
theorem dX3_copyFrom_0 : decode cX3_copyFrom 0 = .ok (.aload_n 0, 1) := of_0 ok_aload_n_0 (by decide +kernel)
theorem dX3_copyFrom_1 : decode cX3_copyFrom 1 = .ok (.aload_n 1, 1) := of_0 ok_aload_n_1 (by decide +kernel)
theorem dX3_copyFrom_2 : decode cX3_copyFrom 2 = .ok (.getfield 9, 3) := of_u2 ok_getfield 0 9 (by decide +kernel)
theorem dX3_copyFrom_5 : decode cX3_copyFrom 5 = .ok (.putfield 9, 3) := of_u2 ok_putfield 0 9 (by decide +kernel)
theorem dX3_copyFrom_8 : decode cX3_copyFrom 8 = .ok (.aload_n 0, 1) := of_0 ok_aload_n_0 (by decide +kernel)
theorem dX3_copyFrom_9 : decode cX3_copyFrom 9 = .ok (.aload_n 1, 1) := of_0 ok_aload_n_1 (by decide +kernel)
theorem dX3_copyFrom_10 : decode cX3_copyFrom 10 = .ok (.getfield 15, 3) := of_u2 ok_getfield 0 15 (by decide +kernel)
theorem dX3_copyFrom_13 : decode cX3_copyFrom 13 = .ok (.putfield 15, 3) := of_u2 ok_putfield 0 15 (by decide +kernel)
theorem dX3_copyFrom_16 : decode cX3_copyFrom 16 = .ok (.aload_n 0, 1) := of_0 ok_aload_n_0 (by decide +kernel)
theorem dX3_copyFrom_17 : decode cX3_copyFrom 17 = .ok (.aload_n 1, 1) := of_0 ok_aload_n_1 (by decide +kernel)
theorem dX3_copyFrom_18 : decode cX3_copyFrom 18 = .ok (.getfield 19, 3) := of_u2 ok_getfield 0 19 (by decide +kernel)
theorem dX3_copyFrom_21 : decode cX3_copyFrom 21 = .ok (.putfield 19, 3) := of_u2 ok_putfield 0 19 (by decide +kernel)
theorem dX3_copyFrom_24 : decode cX3_copyFrom 24 = .ok (.aload_n 0, 1) := of_0 ok_aload_n_0 (by decide +kernel)
theorem dX3_copyFrom_25 : decode cX3_copyFrom 25 = .ok (.aload_n 1, 1) := of_0 ok_aload_n_1 (by decide +kernel)
theorem dX3_copyFrom_26 : decode cX3_copyFrom 26 = .ok (.getfield 22, 3) := of_u2 ok_getfield 0 22 (by decide +kernel)
theorem dX3_copyFrom_29 : decode cX3_copyFrom 29 = .ok (.putfield 22, 3) := of_u2 ok_putfield 0 22 (by decide +kernel)
theorem dX3_copyFrom_32 : decode cX3_copyFrom 32 = .ok (.aload_n 1, 1) := of_0 ok_aload_n_1 (by decide +kernel)
theorem dX3_copyFrom_33 : decode cX3_copyFrom 33 = .ok (.getfield 25, 3) := of_u2 ok_getfield 0 25 (by decide +kernel)
theorem dX3_copyFrom_36 : decode cX3_copyFrom 36 = .ok (.iconst 0, 1) := of_0 ok_iconst_0 (by decide +kernel)
theorem dX3_copyFrom_37 : decode cX3_copyFrom 37 = .ok (.aload_n 0, 1) := of_0 ok_aload_n_0 (by decide +kernel)
theorem dX3_copyFrom_38 : decode cX3_copyFrom 38 = .ok (.getfield 25, 3) := of_u2 ok_getfield 0 25 (by decide +kernel)
theorem dX3_copyFrom_41 : decode cX3_copyFrom 41 = .ok (.iconst 0, 1) := of_0 ok_iconst_0 (by decide +kernel)
theorem dX3_copyFrom_42 : decode cX3_copyFrom 42 = .ok (.iconst 4, 1) := of_0 ok_iconst_4 (by decide +kernel)
theorem dX3_copyFrom_43 : decode cX3_copyFrom 43 = .ok (.invokestatic 65, 3) := of_u2 ok_invokestatic 0 65 (by decide +kernel)
theorem dX3_copyFrom_46 : decode cX3_copyFrom 46 = .ok (.aload_n 1, 1) := of_0 ok_aload_n_1 (by decide +kernel)
theorem dX3_copyFrom_47 : decode cX3_copyFrom 47 = .ok (.getfield 29, 3) := of_u2 ok_getfield 0 29 (by decide +kernel)
theorem dX3_copyFrom_50 : decode cX3_copyFrom 50 = .ok (.iconst 0, 1) := of_0 ok_iconst_0 (by decide +kernel)
theorem dX3_copyFrom_51 : decode cX3_copyFrom 51 = .ok (.aload_n 0, 1) := of_0 ok_aload_n_0 (by decide +kernel)
theorem dX3_copyFrom_52 : decode cX3_copyFrom 52 = .ok (.getfield 29, 3) := of_u2 ok_getfield 0 29 (by decide +kernel)
theorem dX3_copyFrom_55 : decode cX3_copyFrom 55 = .ok (.iconst 0, 1) := of_0 ok_iconst_0 (by decide +kernel)
theorem dX3_copyFrom_56 : decode cX3_copyFrom 56 = .ok (.bipush 8, 2) := of_s1 ok_bipush 8 (by decide +kernel)
theorem dX3_copyFrom_58 : decode cX3_copyFrom 58 = .ok (.invokestatic 65, 3) := of_u2 ok_invokestatic 0 65 (by decide +kernel)
theorem dX3_copyFrom_61 : decode cX3_copyFrom 61 = .ok (.aload_n 1, 1) := of_0 ok_aload_n_1 (by decide +kernel)
theorem dX3_copyFrom_62 : decode cX3_copyFrom 62 = .ok (.getfield 32, 3) := of_u2 ok_getfield 0 32 (by decide +kernel)
theorem dX3_copyFrom_65 : decode cX3_copyFrom 65 = .ok (.iconst 0, 1) := of_0 ok_iconst_0 (by decide +kernel)
theorem dX3_copyFrom_66 : decode cX3_copyFrom 66 = .ok (.aload_n 0, 1) := of_0 ok_aload_n_0 (by decide +kernel)
theorem dX3_copyFrom_67 : decode cX3_copyFrom 67 = .ok (.getfield 32, 3) := of_u2 ok_getfield 0 32 (by decide +kernel)
theorem dX3_copyFrom_70 : decode cX3_copyFrom 70 = .ok (.iconst 0, 1) := of_0 ok_iconst_0 (by decide +kernel)
theorem dX3_copyFrom_71 : decode cX3_copyFrom 71 = .ok (.bipush 8, 2) := of_s1 ok_bipush 8 (by decide +kernel)
theorem dX3_copyFrom_73 : decode cX3_copyFrom 73 = .ok (.invokestatic 65, 3) := of_u2 ok_invokestatic 0 65 (by decide +kernel)
theorem dX3_copyFrom_76 : decode cX3_copyFrom 76 = .ok (.aload_n 1, 1) := of_0 ok_aload_n_1 (by decide +kernel)
theorem dX3_copyFrom_77 : decode cX3_copyFrom 77 = .ok (.getfield 35, 3) := of_u2 ok_getfield 0 35 (by decide +kernel)
theorem dX3_copyFrom_80 : decode cX3_copyFrom 80 = .ok (.iconst 0, 1) := of_0 ok_iconst_0 (by decide +kernel)
theorem dX3_copyFrom_81 : decode cX3_copyFrom 81 = .ok (.aload_n 0, 1) := of_0 ok_aload_n_0 (by decide +kernel)
theorem dX3_copyFrom_82 : decode cX3_copyFrom 82 = .ok (.getfield 35, 3) := of_u2 ok_getfield 0 35 (by decide +kernel)
theorem dX3_copyFrom_85 : decode cX3_copyFrom 85 = .ok (.iconst 0, 1) := of_0 ok_iconst_0 (by decide +kernel)
theorem dX3_copyFrom_86 : decode cX3_copyFrom 86 = .ok (.bipush 8, 2) := of_s1 ok_bipush 8 (by decide +kernel)
theorem dX3_copyFrom_88 : decode cX3_copyFrom 88 = .ok (.invokestatic 65, 3) := of_u2 ok_invokestatic 0 65 (by decide +kernel)
theorem dX3_copyFrom_91 : decode cX3_copyFrom 91 = .ok (.aload_n 1, 1) := of_0 ok_aload_n_1 (by decide +kernel)
theorem dX3_copyFrom_92 : decode cX3_copyFrom 92 = .ok (.getfield 38, 3) := of_u2 ok_getfield 0 38 (by decide +kernel)
theorem dX3_copyFrom_95 : decode cX3_copyFrom 95 = .ok (.iconst 0, 1) := of_0 ok_iconst_0 (by decide +kernel)
theorem dX3_copyFrom_96 : decode cX3_copyFrom 96 = .ok (.aload_n 0, 1) := of_0 ok_aload_n_0 (by decide +kernel)
theorem dX3_copyFrom_97 : decode cX3_copyFrom 97 = .ok (.getfield 38, 3) := of_u2 ok_getfield 0 38 (by decide +kernel)
theorem dX3_copyFrom_100 : decode cX3_copyFrom 100 = .ok (.iconst 0, 1) := of_0 ok_iconst_0 (by decide +kernel)
theorem dX3_copyFrom_101 : decode cX3_copyFrom 101 = .ok (.bipush 8, 2) := of_s1 ok_bipush 8 (by decide +kernel)
theorem dX3_copyFrom_103 : decode cX3_copyFrom 103 = .ok (.invokestatic 65, 3) := of_u2 ok_invokestatic 0 65 (by decide +kernel)
theorem dX3_copyFrom_106 : decode cX3_copyFrom 106 = .ok (.aload_n 1, 1) := of_0 ok_aload_n_1 (by decide +kernel)
theorem dX3_copyFrom_107 : decode cX3_copyFrom 107 = .ok (.getfield 41, 3) := of_u2 ok_getfield 0 41 (by decide +kernel)
theorem dX3_copyFrom_110 : decode cX3_copyFrom 110 = .ok (.iconst 0, 1) := of_0 ok_iconst_0 (by decide +kernel)
theorem dX3_copyFrom_111 : decode cX3_copyFrom 111 = .ok (.aload_n 0, 1) := of_0 ok_aload_n_0 (by decide +kernel)
theorem dX3_copyFrom_112 : decode cX3_copyFrom 112 = .ok (.getfield 41, 3) := of_u2 ok_getfield 0 41 (by decide +kernel)
theorem dX3_copyFrom_115 : decode cX3_copyFrom 115 = .ok (.iconst 0, 1) := of_0 ok_iconst_0 (by decide +kernel)
theorem dX3_copyFrom_116 : decode cX3_copyFrom 116 = .ok (.iconst 4, 1) := of_0 ok_iconst_4 (by decide +kernel)
theorem dX3_copyFrom_117 : decode cX3_copyFrom 117 = .ok (.invokestatic 65, 3) := of_u2 ok_invokestatic 0 65 (by decide +kernel)
theorem dX3_copyFrom_120 : decode cX3_copyFrom 120 = .ok (.aload_n 1, 1) := of_0 ok_aload_n_1 (by decide +kernel)
theorem dX3_copyFrom_121 : decode cX3_copyFrom 121 = .ok (.getfield 53, 3) := of_u2 ok_getfield 0 53 (by decide +kernel)
theorem dX3_copyFrom_124 : decode cX3_copyFrom 124 = .ok (.iconst 0, 1) := of_0 ok_iconst_0 (by decide +kernel)
theorem dX3_copyFrom_125 : decode cX3_copyFrom 125 = .ok (.aload_n 0, 1) := of_0 ok_aload_n_0 (by decide +kernel)
theorem dX3_copyFrom_126 : decode cX3_copyFrom 126 = .ok (.getfield 53, 3) := of_u2 ok_getfield 0 53 (by decide +kernel)
theorem dX3_copyFrom_129 : decode cX3_copyFrom 129 = .ok (.iconst 0, 1) := of_0 ok_iconst_0 (by decide +kernel)
theorem dX3_copyFrom_130 : decode cX3_copyFrom 130 = .ok (.iconst 4, 1) := of_0 ok_iconst_4 (by decide +kernel)
theorem dX3_copyFrom_131 : decode cX3_copyFrom 131 = .ok (.invokestatic 65, 3) := of_u2 ok_invokestatic 0 65 (by decide +kernel)
theorem dX3_copyFrom_134 : decode cX3_copyFrom 134 = .ok (.aload_n 1, 1) := of_0 ok_aload_n_1 (by decide +kernel)
theorem dX3_copyFrom_135 : decode cX3_copyFrom 135 = .ok (.getfield 56, 3) := of_u2 ok_getfield 0 56 (by decide +kernel)
theorem dX3_copyFrom_138 : decode cX3_copyFrom 138 = .ok (.iconst 0, 1) := of_0 ok_iconst_0 (by decide +kernel)
theorem dX3_copyFrom_139 : decode cX3_copyFrom 139 = .ok (.aload_n 0, 1) := of_0 ok_aload_n_0 (by decide +kernel)
theorem dX3_copyFrom_140 : decode cX3_copyFrom 140 = .ok (.getfield 56, 3) := of_u2 ok_getfield 0 56 (by decide +kernel)
theorem dX3_copyFrom_143 : decode cX3_copyFrom 143 = .ok (.iconst 0, 1) := of_0 ok_iconst_0 (by decide +kernel)
theorem dX3_copyFrom_144 : decode cX3_copyFrom 144 = .ok (.iconst 4, 1) := of_0 ok_iconst_4 (by decide +kernel)
theorem dX3_copyFrom_145 : decode cX3_copyFrom 145 = .ok (.invokestatic 65, 3) := of_u2 ok_invokestatic 0 65 (by decide +kernel)
theorem dX3_copyFrom_148 : decode cX3_copyFrom 148 = .ok (.aload_n 0, 1) := of_0 ok_aload_n_0 (by decide +kernel)
theorem dX3_copyFrom_149 : decode cX3_copyFrom 149 = .ok (.aload_n 1, 1) := of_0 ok_aload_n_1 (by decide +kernel)
theorem dX3_copyFrom_150 : decode cX3_copyFrom 150 = .ok (.getfield 44, 3) := of_u2 ok_getfield 0 44 (by decide +kernel)
theorem dX3_copyFrom_153 : decode cX3_copyFrom 153 = .ok (.putfield 44, 3) := of_u2 ok_putfield 0 44 (by decide +kernel)
theorem dX3_copyFrom_156 : decode cX3_copyFrom 156 = .ok (.aload_n 0, 1) := of_0 ok_aload_n_0 (by decide +kernel)
theorem dX3_copyFrom_157 : decode cX3_copyFrom 157 = .ok (.aload_n 1, 1) := of_0 ok_aload_n_1 (by decide +kernel)
theorem dX3_copyFrom_158 : decode cX3_copyFrom 158 = .ok (.getfield 47, 3) := of_u2 ok_getfield 0 47 (by decide +kernel)
theorem dX3_copyFrom_161 : decode cX3_copyFrom 161 = .ok (.putfield 47, 3) := of_u2 ok_putfield 0 47 (by decide +kernel)
theorem dX3_copyFrom_164 : decode cX3_copyFrom 164 = .ok (.aload_n 0, 1) := of_0 ok_aload_n_0 (by decide +kernel)
theorem dX3_copyFrom_165 : decode cX3_copyFrom 165 = .ok (.aload_n 1, 1) := of_0 ok_aload_n_1 (by decide +kernel)
theorem dX3_copyFrom_166 : decode cX3_copyFrom 166 = .ok (.getfield 50, 3) := of_u2 ok_getfield 0 50 (by decide +kernel)
theorem dX3_copyFrom_169 : decode cX3_copyFrom 169 = .ok (.putfield 50, 3) := of_u2 ok_putfield 0 50 (by decide +kernel)
theorem dX3_copyFrom_172 : decode cX3_copyFrom 172 = .ok (.aload_n 0, 1) := of_0 ok_aload_n_0 (by decide +kernel)
theorem dX3_copyFrom_173 : decode cX3_copyFrom 173 = .ok (.iconst 0, 1) := of_0 ok_iconst_0 (by decide +kernel)
theorem dX3_copyFrom_174 : decode cX3_copyFrom 174 = .ok (.putfield 59, 3) := of_u2 ok_putfield 0 59 (by decide +kernel)
theorem dX3_copyFrom_177 : decode cX3_copyFrom 177 = .ok (.return_, 1) := of_0 ok_return_ (by decide +kernel)
theorem dX3_givenOut_0 : decode cX3_givenOut 0 = .ok (.iconst 0, 1) := of_0 ok_iconst_0 (by decide +kernel)
theorem dX3_givenOut_1 : decode cX3_givenOut 1 = .ok (.istore_n 1, 1) := of_0 ok_istore_n_1 (by decide +kernel)
theorem dX3_givenOut_2 : decode cX3_givenOut 2 = .ok (.iconst 0, 1) := of_0 ok_iconst_0 (by decide +kernel)
theorem dX3_givenOut_3 : decode cX3_givenOut 3 = .ok (.istore_n 2, 1) := of_0 ok_istore_n_2 (by decide +kernel)
theorem dX3_givenOut_4 : decode cX3_givenOut 4 = .ok (.iload_n 2, 1) := of_0 ok_iload_n_2 (by decide +kernel)
theorem dX3_givenOut_5 : decode cX3_givenOut 5 = .ok (.aload_n 0, 1) := of_0 ok_aload_n_0 (by decide +kernel)
theorem dX3_givenOut_6 : decode cX3_givenOut 6 = .ok (.getfield 22, 3) := of_u2 ok_getfield 0 22 (by decide +kernel)
theorem dX3_givenOut_9 : decode cX3_givenOut 9 = .ok (.if_icmp .ge 34, 3) := of_s2 ok_if_icmp_ge 0 34 (by decide +kernel)
theorem dX3_givenOut_12 : decode cX3_givenOut 12 = .ok (.aload_n 0, 1) := of_0 ok_aload_n_0 (by decide +kernel)
theorem dX3_givenOut_13 : decode cX3_givenOut 13 = .ok (.iload_n 2, 1) := of_0 ok_iload_n_2 (by decide +kernel)
theorem dX3_givenOut_14 : decode cX3_givenOut 14 = .ok (.invokevirtual 78, 3) := of_u2 ok_invokevirtual 0 78 (by decide +kernel)
theorem dX3_givenOut_17 : decode cX3_givenOut 17 = .ok (.aload_n 0, 1) := of_0 ok_aload_n_0 (by decide +kernel)
theorem dX3_givenOut_18 : decode cX3_givenOut 18 = .ok (.getfield 29, 3) := of_u2 ok_getfield 0 29 (by decide +kernel)
theorem dX3_givenOut_21 : decode cX3_givenOut 21 = .ok (.aload_n 0, 1) := of_0 ok_aload_n_0 (by decide +kernel)
theorem dX3_givenOut_22 : decode cX3_givenOut 22 = .ok (.getfield 35, 3) := of_u2 ok_getfield 0 35 (by decide +kernel)
theorem dX3_givenOut_25 : decode cX3_givenOut 25 = .ok (.iload_n 2, 1) := of_0 ok_iload_n_2 (by decide +kernel)
theorem dX3_givenOut_26 : decode cX3_givenOut 26 = .ok (.iaload, 1) := of_0 ok_iaload (by decide +kernel)
theorem dX3_givenOut_27 : decode cX3_givenOut 27 = .ok (.iaload, 1) := of_0 ok_iaload (by decide +kernel)
theorem dX3_givenOut_28 : decode cX3_givenOut 28 = .ok (.if_icmp .lt 9, 3) := of_s2 ok_if_icmp_lt 0 9 (by decide +kernel)
theorem dX3_givenOut_31 : decode cX3_givenOut 31 = .ok (.iload_n 1, 1) := of_0 ok_iload_n_1 (by decide +kernel)
theorem dX3_givenOut_32 : decode cX3_givenOut 32 = .ok (.iconst 1, 1) := of_0 ok_iconst_1 (by decide +kernel)
theorem dX3_givenOut_33 : decode cX3_givenOut 33 = .ok (.iload_n 2, 1) := of_0 ok_iload_n_2 (by decide +kernel)
theorem dX3_givenOut_34 : decode cX3_givenOut 34 = .ok (.ishl, 1) := of_0 ok_ishl (by decide +kernel)
theorem dX3_givenOut_35 : decode cX3_givenOut 35 = .ok (.ior, 1) := of_0 ok_ior (by decide +kernel)
theorem dX3_givenOut_36 : decode cX3_givenOut 36 = .ok (.istore_n 1, 1) := of_0 ok_istore_n_1 (by decide +kernel)
theorem dX3_givenOut_37 : decode cX3_givenOut 37 = .ok (.iinc 2 1, 3) := of_ii ok_iinc 1 (by decide +kernel)
theorem dX3_givenOut_40 : decode cX3_givenOut 40 = .ok (.goto (-36), 3) := of_s2 ok_goto 255 220 (by decide +kernel)
theorem dX3_givenOut_43 : decode cX3_givenOut 43 = .ok (.iload_n 1, 1) := of_0 ok_iload_n_1 (by decide +kernel)
theorem dX3_givenOut_44 : decode cX3_givenOut 44 = .ok (.ireturn, 1) := of_0 ok_ireturn (by decide +kernel)
theorem dX3_givesInAll_0 : decode cX3_givesInAll 0 = .ok (.iconst 0, 1) := of_0 ok_iconst_0 (by decide +kernel)
theorem dX3_givesInAll_1 : decode cX3_givesInAll 1 = .ok (.istore_n 1, 1) := of_0 ok_istore_n_1 (by decide +kernel)
theorem dX3_givesInAll_2 : decode cX3_givesInAll 2 = .ok (.iconst 0, 1) := of_0 ok_iconst_0 (by decide +kernel)
theorem dX3_givesInAll_3 : decode cX3_givesInAll 3 = .ok (.istore_n 2, 1) := of_0 ok_istore_n_2 (by decide +kernel)
theorem dX3_givesInAll_4 : decode cX3_givesInAll 4 = .ok (.iload_n 2, 1) := of_0 ok_iload_n_2 (by decide +kernel)
theorem dX3_givesInAll_5 : decode cX3_givesInAll 5 = .ok (.aload_n 0, 1) := of_0 ok_aload_n_0 (by decide +kernel)
theorem dX3_givesInAll_6 : decode cX3_givesInAll 6 = .ok (.getfield 22, 3) := of_u2 ok_getfield 0 22 (by decide +kernel)
theorem dX3_givesInAll_9 : decode cX3_givesInAll 9 = .ok (.if_icmp .ge 17, 3) := of_s2 ok_if_icmp_ge 0 17 (by decide +kernel)
theorem dX3_givesInAll_12 : decode cX3_givesInAll 12 = .ok (.iload_n 1, 1) := of_0 ok_iload_n_1 (by decide +kernel)
theorem dX3_givesInAll_13 : decode cX3_givesInAll 13 = .ok (.aload_n 0, 1) := of_0 ok_aload_n_0 (by decide +kernel)
theorem dX3_givesInAll_14 : decode cX3_givesInAll 14 = .ok (.iload_n 2, 1) := of_0 ok_iload_n_2 (by decide +kernel)
theorem dX3_givesInAll_15 : decode cX3_givesInAll 15 = .ok (.invokevirtual 78, 3) := of_u2 ok_invokevirtual 0 78 (by decide +kernel)
theorem dX3_givesInAll_18 : decode cX3_givesInAll 18 = .ok (.iadd, 1) := of_0 ok_iadd (by decide +kernel)
theorem dX3_givesInAll_19 : decode cX3_givesInAll 19 = .ok (.istore_n 1, 1) := of_0 ok_istore_n_1 (by decide +kernel)
theorem dX3_givesInAll_20 : decode cX3_givesInAll 20 = .ok (.iinc 2 1, 3) := of_ii ok_iinc 1 (by decide +kernel)
theorem dX3_givesInAll_23 : decode cX3_givesInAll 23 = .ok (.goto (-19), 3) := of_s2 ok_goto 255 237 (by decide +kernel)
theorem dX3_givesInAll_26 : decode cX3_givesInAll 26 = .ok (.iload_n 1, 1) := of_0 ok_iload_n_1 (by decide +kernel)
theorem dX3_givesInAll_27 : decode cX3_givesInAll 27 = .ok (.ireturn, 1) := of_0 ok_ireturn (by decide +kernel)
theorem dX3_givesUnder_0 : decode cX3_givesUnder 0 = .ok (.iload_n 1, 1) := of_0 ok_iload_n_1 (by decide +kernel)
theorem dX3_givesUnder_1 : decode cX3_givesUnder 1 = .ok (.ifCond .lt 22, 3) := of_s2 ok_ifCond_lt 0 22 (by decide +kernel)
theorem dX3_givesUnder_4 : decode cX3_givesUnder 4 = .ok (.iload_n 1, 1) := of_0 ok_iload_n_1 (by decide +kernel)
theorem dX3_givesUnder_5 : decode cX3_givesUnder 5 = .ok (.aload_n 0, 1) := of_0 ok_aload_n_0 (by decide +kernel)
theorem dX3_givesUnder_6 : decode cX3_givesUnder 6 = .ok (.getfield 22, 3) := of_u2 ok_getfield 0 22 (by decide +kernel)
theorem dX3_givesUnder_9 : decode cX3_givesUnder 9 = .ok (.if_icmp .ge 14, 3) := of_s2 ok_if_icmp_ge 0 14 (by decide +kernel)
theorem dX3_givesUnder_12 : decode cX3_givesUnder 12 = .ok (.aload_n 0, 1) := of_0 ok_aload_n_0 (by decide +kernel)
theorem dX3_givesUnder_13 : decode cX3_givesUnder 13 = .ok (.getfield 44, 3) := of_u2 ok_getfield 0 44 (by decide +kernel)
theorem dX3_givesUnder_16 : decode cX3_givesUnder 16 = .ok (.iload_n 1, 1) := of_0 ok_iload_n_1 (by decide +kernel)
theorem dX3_givesUnder_17 : decode cX3_givesUnder 17 = .ok (.ishr, 1) := of_0 ok_ishr (by decide +kernel)
theorem dX3_givesUnder_18 : decode cX3_givesUnder 18 = .ok (.iconst 1, 1) := of_0 ok_iconst_1 (by decide +kernel)
theorem dX3_givesUnder_19 : decode cX3_givesUnder 19 = .ok (.iand, 1) := of_0 ok_iand (by decide +kernel)
theorem dX3_givesUnder_20 : decode cX3_givesUnder 20 = .ok (.ifCond .ne 5, 3) := of_s2 ok_ifCond_ne 0 5 (by decide +kernel)
theorem dX3_givesUnder_23 : decode cX3_givesUnder 23 = .ok (.iconst 0, 1) := of_0 ok_iconst_0 (by decide +kernel)
theorem dX3_givesUnder_24 : decode cX3_givesUnder 24 = .ok (.ireturn, 1) := of_0 ok_ireturn (by decide +kernel)
theorem dX3_givesUnder_25 : decode cX3_givesUnder 25 = .ok (.aload_n 0, 1) := of_0 ok_aload_n_0 (by decide +kernel)
theorem dX3_givesUnder_26 : decode cX3_givesUnder 26 = .ok (.getfield 32, 3) := of_u2 ok_getfield 0 32 (by decide +kernel)
theorem dX3_givesUnder_29 : decode cX3_givesUnder 29 = .ok (.aload_n 0, 1) := of_0 ok_aload_n_0 (by decide +kernel)
theorem dX3_givesUnder_30 : decode cX3_givesUnder 30 = .ok (.getfield 35, 3) := of_u2 ok_getfield 0 35 (by decide +kernel)
theorem dX3_givesUnder_33 : decode cX3_givesUnder 33 = .ok (.iload_n 1, 1) := of_0 ok_iload_n_1 (by decide +kernel)
theorem dX3_givesUnder_34 : decode cX3_givesUnder 34 = .ok (.iaload, 1) := of_0 ok_iaload (by decide +kernel)
theorem dX3_givesUnder_35 : decode cX3_givesUnder 35 = .ok (.iaload, 1) := of_0 ok_iaload (by decide +kernel)
theorem dX3_givesUnder_36 : decode cX3_givesUnder 36 = .ok (.istore_n 2, 1) := of_0 ok_istore_n_2 (by decide +kernel)
theorem dX3_givesUnder_37 : decode cX3_givesUnder 37 = .ok (.aload_n 0, 1) := of_0 ok_aload_n_0 (by decide +kernel)
theorem dX3_givesUnder_38 : decode cX3_givesUnder 38 = .ok (.getfield 53, 3) := of_u2 ok_getfield 0 53 (by decide +kernel)
theorem dX3_givesUnder_41 : decode cX3_givesUnder 41 = .ok (.iload_n 2, 1) := of_0 ok_iload_n_2 (by decide +kernel)
theorem dX3_givesUnder_42 : decode cX3_givesUnder 42 = .ok (.iaload, 1) := of_0 ok_iaload (by decide +kernel)
theorem dX3_givesUnder_43 : decode cX3_givesUnder 43 = .ok (.ifCond .le 26, 3) := of_s2 ok_ifCond_le 0 26 (by decide +kernel)
theorem dX3_givesUnder_46 : decode cX3_givesUnder 46 = .ok (.aload_n 0, 1) := of_0 ok_aload_n_0 (by decide +kernel)
theorem dX3_givesUnder_47 : decode cX3_givesUnder 47 = .ok (.getfield 41, 3) := of_u2 ok_getfield 0 41 (by decide +kernel)
theorem dX3_givesUnder_50 : decode cX3_givesUnder 50 = .ok (.iload_n 2, 1) := of_0 ok_iload_n_2 (by decide +kernel)
theorem dX3_givesUnder_51 : decode cX3_givesUnder 51 = .ok (.iaload, 1) := of_0 ok_iaload (by decide +kernel)
theorem dX3_givesUnder_52 : decode cX3_givesUnder 52 = .ok (.aload_n 0, 1) := of_0 ok_aload_n_0 (by decide +kernel)
theorem dX3_givesUnder_53 : decode cX3_givesUnder 53 = .ok (.getfield 38, 3) := of_u2 ok_getfield 0 38 (by decide +kernel)
theorem dX3_givesUnder_56 : decode cX3_givesUnder 56 = .ok (.iload_n 1, 1) := of_0 ok_iload_n_1 (by decide +kernel)
theorem dX3_givesUnder_57 : decode cX3_givesUnder 57 = .ok (.iaload, 1) := of_0 ok_iaload (by decide +kernel)
theorem dX3_givesUnder_58 : decode cX3_givesUnder 58 = .ok (.imul, 1) := of_0 ok_imul (by decide +kernel)
theorem dX3_givesUnder_59 : decode cX3_givesUnder 59 = .ok (.aload_n 0, 1) := of_0 ok_aload_n_0 (by decide +kernel)
theorem dX3_givesUnder_60 : decode cX3_givesUnder 60 = .ok (.getfield 53, 3) := of_u2 ok_getfield 0 53 (by decide +kernel)
theorem dX3_givesUnder_63 : decode cX3_givesUnder 63 = .ok (.iload_n 2, 1) := of_0 ok_iload_n_2 (by decide +kernel)
theorem dX3_givesUnder_64 : decode cX3_givesUnder 64 = .ok (.iaload, 1) := of_0 ok_iaload (by decide +kernel)
theorem dX3_givesUnder_65 : decode cX3_givesUnder 65 = .ok (.idiv, 1) := of_0 ok_idiv (by decide +kernel)
theorem dX3_givesUnder_66 : decode cX3_givesUnder 66 = .ok (.goto 4, 3) := of_s2 ok_goto 0 4 (by decide +kernel)
theorem dX3_givesUnder_69 : decode cX3_givesUnder 69 = .ok (.iconst 0, 1) := of_0 ok_iconst_0 (by decide +kernel)
theorem dX3_givesUnder_70 : decode cX3_givesUnder 70 = .ok (.ireturn, 1) := of_0 ok_ireturn (by decide +kernel)
theorem dX3_hasChair_0 : decode cX3_hasChair 0 = .ok (.iload_n 1, 1) := of_0 ok_iload_n_1 (by decide +kernel)
theorem dX3_hasChair_1 : decode cX3_hasChair 1 = .ok (.ifCond .lt 15, 3) := of_s2 ok_ifCond_lt 0 15 (by decide +kernel)
theorem dX3_hasChair_4 : decode cX3_hasChair 4 = .ok (.iload_n 1, 1) := of_0 ok_iload_n_1 (by decide +kernel)
theorem dX3_hasChair_5 : decode cX3_hasChair 5 = .ok (.aload_n 0, 1) := of_0 ok_aload_n_0 (by decide +kernel)
theorem dX3_hasChair_6 : decode cX3_hasChair 6 = .ok (.getfield 19, 3) := of_u2 ok_getfield 0 19 (by decide +kernel)
theorem dX3_hasChair_9 : decode cX3_hasChair 9 = .ok (.if_icmp .ge 7, 3) := of_s2 ok_if_icmp_ge 0 7 (by decide +kernel)
theorem dX3_hasChair_12 : decode cX3_hasChair 12 = .ok (.iconst 1, 1) := of_0 ok_iconst_1 (by decide +kernel)
theorem dX3_hasChair_13 : decode cX3_hasChair 13 = .ok (.goto 4, 3) := of_s2 ok_goto 0 4 (by decide +kernel)
theorem dX3_hasChair_16 : decode cX3_hasChair 16 = .ok (.iconst 0, 1) := of_0 ok_iconst_0 (by decide +kernel)
theorem dX3_hasChair_17 : decode cX3_hasChair 17 = .ok (.ireturn, 1) := of_0 ok_ireturn (by decide +kernel)
theorem dX3_hasSitter_0 : decode cX3_hasSitter 0 = .ok (.iload_n 1, 1) := of_0 ok_iload_n_1 (by decide +kernel)
theorem dX3_hasSitter_1 : decode cX3_hasSitter 1 = .ok (.ifCond .lt 15, 3) := of_s2 ok_ifCond_lt 0 15 (by decide +kernel)
theorem dX3_hasSitter_4 : decode cX3_hasSitter 4 = .ok (.iload_n 1, 1) := of_0 ok_iload_n_1 (by decide +kernel)
theorem dX3_hasSitter_5 : decode cX3_hasSitter 5 = .ok (.aload_n 0, 1) := of_0 ok_aload_n_0 (by decide +kernel)
theorem dX3_hasSitter_6 : decode cX3_hasSitter 6 = .ok (.getfield 22, 3) := of_u2 ok_getfield 0 22 (by decide +kernel)
theorem dX3_hasSitter_9 : decode cX3_hasSitter 9 = .ok (.if_icmp .ge 7, 3) := of_s2 ok_if_icmp_ge 0 7 (by decide +kernel)
theorem dX3_hasSitter_12 : decode cX3_hasSitter 12 = .ok (.iconst 1, 1) := of_0 ok_iconst_1 (by decide +kernel)
theorem dX3_hasSitter_13 : decode cX3_hasSitter 13 = .ok (.goto 4, 3) := of_s2 ok_goto 0 4 (by decide +kernel)
theorem dX3_hasSitter_16 : decode cX3_hasSitter 16 = .ok (.iconst 0, 1) := of_0 ok_iconst_0 (by decide +kernel)
theorem dX3_hasSitter_17 : decode cX3_hasSitter 17 = .ok (.ireturn, 1) := of_0 ok_ireturn (by decide +kernel)
theorem dX3_hasStrand_0 : decode cX3_hasStrand 0 = .ok (.iload_n 1, 1) := of_0 ok_iload_n_1 (by decide +kernel)
theorem dX3_hasStrand_1 : decode cX3_hasStrand 1 = .ok (.ifCond .lt 15, 3) := of_s2 ok_ifCond_lt 0 15 (by decide +kernel)
theorem dX3_hasStrand_4 : decode cX3_hasStrand 4 = .ok (.iload_n 1, 1) := of_0 ok_iload_n_1 (by decide +kernel)
theorem dX3_hasStrand_5 : decode cX3_hasStrand 5 = .ok (.aload_n 0, 1) := of_0 ok_aload_n_0 (by decide +kernel)
theorem dX3_hasStrand_6 : decode cX3_hasStrand 6 = .ok (.getfield 15, 3) := of_u2 ok_getfield 0 15 (by decide +kernel)
theorem dX3_hasStrand_9 : decode cX3_hasStrand 9 = .ok (.if_icmp .ge 7, 3) := of_s2 ok_if_icmp_ge 0 7 (by decide +kernel)
theorem dX3_hasStrand_12 : decode cX3_hasStrand 12 = .ok (.iconst 1, 1) := of_0 ok_iconst_1 (by decide +kernel)
theorem dX3_hasStrand_13 : decode cX3_hasStrand 13 = .ok (.goto 4, 3) := of_s2 ok_goto 0 4 (by decide +kernel)
theorem dX3_hasStrand_16 : decode cX3_hasStrand 16 = .ok (.iconst 0, 1) := of_0 ok_iconst_0 (by decide +kernel)
theorem dX3_hasStrand_17 : decode cX3_hasStrand 17 = .ok (.ireturn, 1) := of_0 ok_ireturn (by decide +kernel)
theorem dX3_isDown_0 : decode cX3_isDown 0 = .ok (.iload_n 1, 1) := of_0 ok_iload_n_1 (by decide +kernel)
theorem dX3_isDown_1 : decode cX3_isDown 1 = .ok (.ifCond .lt 26, 3) := of_s2 ok_ifCond_lt 0 26 (by decide +kernel)
theorem dX3_isDown_4 : decode cX3_isDown 4 = .ok (.iload_n 1, 1) := of_0 ok_iload_n_1 (by decide +kernel)
theorem dX3_isDown_5 : decode cX3_isDown 5 = .ok (.aload_n 0, 1) := of_0 ok_aload_n_0 (by decide +kernel)
theorem dX3_isDown_6 : decode cX3_isDown 6 = .ok (.getfield 22, 3) := of_u2 ok_getfield 0 22 (by decide +kernel)
theorem dX3_isDown_9 : decode cX3_isDown 9 = .ok (.if_icmp .ge 18, 3) := of_s2 ok_if_icmp_ge 0 18 (by decide +kernel)
theorem dX3_isDown_12 : decode cX3_isDown 12 = .ok (.aload_n 0, 1) := of_0 ok_aload_n_0 (by decide +kernel)
theorem dX3_isDown_13 : decode cX3_isDown 13 = .ok (.getfield 44, 3) := of_u2 ok_getfield 0 44 (by decide +kernel)
theorem dX3_isDown_16 : decode cX3_isDown 16 = .ok (.iload_n 1, 1) := of_0 ok_iload_n_1 (by decide +kernel)
theorem dX3_isDown_17 : decode cX3_isDown 17 = .ok (.ishr, 1) := of_0 ok_ishr (by decide +kernel)
theorem dX3_isDown_18 : decode cX3_isDown 18 = .ok (.iconst 1, 1) := of_0 ok_iconst_1 (by decide +kernel)
theorem dX3_isDown_19 : decode cX3_isDown 19 = .ok (.iand, 1) := of_0 ok_iand (by decide +kernel)
theorem dX3_isDown_20 : decode cX3_isDown 20 = .ok (.ifCond .eq 7, 3) := of_s2 ok_ifCond_eq 0 7 (by decide +kernel)
theorem dX3_isDown_23 : decode cX3_isDown 23 = .ok (.iconst 1, 1) := of_0 ok_iconst_1 (by decide +kernel)
theorem dX3_isDown_24 : decode cX3_isDown 24 = .ok (.goto 4, 3) := of_s2 ok_goto 0 4 (by decide +kernel)
theorem dX3_isDown_27 : decode cX3_isDown 27 = .ok (.iconst 0, 1) := of_0 ok_iconst_0 (by decide +kernel)
theorem dX3_isDown_28 : decode cX3_isDown 28 = .ok (.ireturn, 1) := of_0 ok_ireturn (by decide +kernel)
theorem dX3_isUp_0 : decode cX3_isUp 0 = .ok (.iload_n 1, 1) := of_0 ok_iload_n_1 (by decide +kernel)
theorem dX3_isUp_1 : decode cX3_isUp 1 = .ok (.ifCond .lt 26, 3) := of_s2 ok_ifCond_lt 0 26 (by decide +kernel)
theorem dX3_isUp_4 : decode cX3_isUp 4 = .ok (.iload_n 1, 1) := of_0 ok_iload_n_1 (by decide +kernel)
theorem dX3_isUp_5 : decode cX3_isUp 5 = .ok (.aload_n 0, 1) := of_0 ok_aload_n_0 (by decide +kernel)
theorem dX3_isUp_6 : decode cX3_isUp 6 = .ok (.getfield 22, 3) := of_u2 ok_getfield 0 22 (by decide +kernel)
theorem dX3_isUp_9 : decode cX3_isUp 9 = .ok (.if_icmp .ge 18, 3) := of_s2 ok_if_icmp_ge 0 18 (by decide +kernel)
theorem dX3_isUp_12 : decode cX3_isUp 12 = .ok (.aload_n 0, 1) := of_0 ok_aload_n_0 (by decide +kernel)
theorem dX3_isUp_13 : decode cX3_isUp 13 = .ok (.getfield 47, 3) := of_u2 ok_getfield 0 47 (by decide +kernel)
theorem dX3_isUp_16 : decode cX3_isUp 16 = .ok (.iload_n 1, 1) := of_0 ok_iload_n_1 (by decide +kernel)
theorem dX3_isUp_17 : decode cX3_isUp 17 = .ok (.ishr, 1) := of_0 ok_ishr (by decide +kernel)
theorem dX3_isUp_18 : decode cX3_isUp 18 = .ok (.iconst 1, 1) := of_0 ok_iconst_1 (by decide +kernel)
theorem dX3_isUp_19 : decode cX3_isUp 19 = .ok (.iand, 1) := of_0 ok_iand (by decide +kernel)
theorem dX3_isUp_20 : decode cX3_isUp 20 = .ok (.ifCond .ne 7, 3) := of_s2 ok_ifCond_ne 0 7 (by decide +kernel)
theorem dX3_isUp_23 : decode cX3_isUp 23 = .ok (.iconst 1, 1) := of_0 ok_iconst_1 (by decide +kernel)
theorem dX3_isUp_24 : decode cX3_isUp 24 = .ok (.goto 4, 3) := of_s2 ok_goto 0 4 (by decide +kernel)
theorem dX3_isUp_27 : decode cX3_isUp 27 = .ok (.iconst 0, 1) := of_0 ok_iconst_0 (by decide +kernel)
theorem dX3_isUp_28 : decode cX3_isUp 28 = .ok (.ireturn, 1) := of_0 ok_ireturn (by decide +kernel)
theorem dX3_restart_0 : decode cX3_restart 0 = .ok (.aload_n 0, 1) := of_0 ok_aload_n_0 (by decide +kernel)
theorem dX3_restart_1 : decode cX3_restart 1 = .ok (.getfield 25, 3) := of_u2 ok_getfield 0 25 (by decide +kernel)
theorem dX3_restart_4 : decode cX3_restart 4 = .ok (.iconst 0, 1) := of_0 ok_iconst_0 (by decide +kernel)
theorem dX3_restart_5 : decode cX3_restart 5 = .ok (.aload_n 0, 1) := of_0 ok_aload_n_0 (by decide +kernel)
theorem dX3_restart_6 : decode cX3_restart 6 = .ok (.getfield 41, 3) := of_u2 ok_getfield 0 41 (by decide +kernel)
theorem dX3_restart_9 : decode cX3_restart 9 = .ok (.iconst 0, 1) := of_0 ok_iconst_0 (by decide +kernel)
theorem dX3_restart_10 : decode cX3_restart 10 = .ok (.iconst 4, 1) := of_0 ok_iconst_4 (by decide +kernel)
theorem dX3_restart_11 : decode cX3_restart 11 = .ok (.invokestatic 65, 3) := of_u2 ok_invokestatic 0 65 (by decide +kernel)
theorem dX3_restart_14 : decode cX3_restart 14 = .ok (.aload_n 0, 1) := of_0 ok_aload_n_0 (by decide +kernel)
theorem dX3_restart_15 : decode cX3_restart 15 = .ok (.iconst 0, 1) := of_0 ok_iconst_0 (by decide +kernel)
theorem dX3_restart_16 : decode cX3_restart 16 = .ok (.putfield 44, 3) := of_u2 ok_putfield 0 44 (by decide +kernel)
theorem dX3_restart_19 : decode cX3_restart 19 = .ok (.aload_n 0, 1) := of_0 ok_aload_n_0 (by decide +kernel)
theorem dX3_restart_20 : decode cX3_restart 20 = .ok (.iconst 0, 1) := of_0 ok_iconst_0 (by decide +kernel)
theorem dX3_restart_21 : decode cX3_restart 21 = .ok (.putfield 47, 3) := of_u2 ok_putfield 0 47 (by decide +kernel)
theorem dX3_restart_24 : decode cX3_restart 24 = .ok (.aload_n 0, 1) := of_0 ok_aload_n_0 (by decide +kernel)
theorem dX3_restart_25 : decode cX3_restart 25 = .ok (.iconst 0, 1) := of_0 ok_iconst_0 (by decide +kernel)
theorem dX3_restart_26 : decode cX3_restart 26 = .ok (.putfield 50, 3) := of_u2 ok_putfield 0 50 (by decide +kernel)
theorem dX3_restart_29 : decode cX3_restart 29 = .ok (.aload_n 0, 1) := of_0 ok_aload_n_0 (by decide +kernel)
theorem dX3_restart_30 : decode cX3_restart 30 = .ok (.iconst 0, 1) := of_0 ok_iconst_0 (by decide +kernel)
theorem dX3_restart_31 : decode cX3_restart 31 = .ok (.putfield 59, 3) := of_u2 ok_putfield 0 59 (by decide +kernel)
theorem dX3_restart_34 : decode cX3_restart 34 = .ok (.aload_n 0, 1) := of_0 ok_aload_n_0 (by decide +kernel)
theorem dX3_restart_35 : decode cX3_restart 35 = .ok (.invokevirtual 71, 3) := of_u2 ok_invokevirtual 0 71 (by decide +kernel)
theorem dX3_restart_38 : decode cX3_restart 38 = .ok (.return_, 1) := of_0 ok_return_ (by decide +kernel)
theorem dX3_seat_0 : decode cX3_seat 0 = .ok (.aload_n 0, 1) := of_0 ok_aload_n_0 (by decide +kernel)
theorem dX3_seat_1 : decode cX3_seat 1 = .ok (.iload_n 1, 1) := of_0 ok_iload_n_1 (by decide +kernel)
theorem dX3_seat_2 : decode cX3_seat 2 = .ok (.invokevirtual 85, 3) := of_u2 ok_invokevirtual 0 85 (by decide +kernel)
theorem dX3_seat_5 : decode cX3_seat 5 = .ok (.ifCond .eq 12, 3) := of_s2 ok_ifCond_eq 0 12 (by decide +kernel)
theorem dX3_seat_8 : decode cX3_seat 8 = .ok (.aload_n 0, 1) := of_0 ok_aload_n_0 (by decide +kernel)
theorem dX3_seat_9 : decode cX3_seat 9 = .ok (.iload_n 1, 1) := of_0 ok_iload_n_1 (by decide +kernel)
theorem dX3_seat_10 : decode cX3_seat 10 = .ok (.invokevirtual 82, 3) := of_u2 ok_invokevirtual 0 82 (by decide +kernel)
theorem dX3_seat_13 : decode cX3_seat 13 = .ok (.iload_n 2, 1) := of_0 ok_iload_n_2 (by decide +kernel)
theorem dX3_seat_14 : decode cX3_seat 14 = .ok (.if_icmp .ne 4, 3) := of_s2 ok_if_icmp_ne 0 4 (by decide +kernel)
theorem dX3_seat_17 : decode cX3_seat 17 = .ok (.return_, 1) := of_0 ok_return_ (by decide +kernel)
theorem dX3_seat_18 : decode cX3_seat 18 = .ok (.aload_n 0, 1) := of_0 ok_aload_n_0 (by decide +kernel)
theorem dX3_seat_19 : decode cX3_seat 19 = .ok (.getfield 32, 3) := of_u2 ok_getfield 0 32 (by decide +kernel)
theorem dX3_seat_22 : decode cX3_seat 22 = .ok (.aload_n 0, 1) := of_0 ok_aload_n_0 (by decide +kernel)
theorem dX3_seat_23 : decode cX3_seat 23 = .ok (.getfield 35, 3) := of_u2 ok_getfield 0 35 (by decide +kernel)
theorem dX3_seat_26 : decode cX3_seat 26 = .ok (.iload_n 1, 1) := of_0 ok_iload_n_1 (by decide +kernel)
theorem dX3_seat_27 : decode cX3_seat 27 = .ok (.iaload, 1) := of_0 ok_iaload (by decide +kernel)
theorem dX3_seat_28 : decode cX3_seat 28 = .ok (.iaload, 1) := of_0 ok_iaload (by decide +kernel)
theorem dX3_seat_29 : decode cX3_seat 29 = .ok (.istore_n 3, 1) := of_0 ok_istore_n_3 (by decide +kernel)
theorem dX3_seat_30 : decode cX3_seat 30 = .ok (.aload_n 0, 1) := of_0 ok_aload_n_0 (by decide +kernel)
theorem dX3_seat_31 : decode cX3_seat 31 = .ok (.dup, 1) := of_0 ok_dup (by decide +kernel)
theorem dX3_seat_32 : decode cX3_seat 32 = .ok (.getfield 44, 3) := of_u2 ok_getfield 0 44 (by decide +kernel)
theorem dX3_seat_35 : decode cX3_seat 35 = .ok (.iconst 1, 1) := of_0 ok_iconst_1 (by decide +kernel)
theorem dX3_seat_36 : decode cX3_seat 36 = .ok (.iload_n 1, 1) := of_0 ok_iload_n_1 (by decide +kernel)
theorem dX3_seat_37 : decode cX3_seat 37 = .ok (.ishl, 1) := of_0 ok_ishl (by decide +kernel)
theorem dX3_seat_38 : decode cX3_seat 38 = .ok (.ixor, 1) := of_0 ok_ixor (by decide +kernel)
theorem dX3_seat_39 : decode cX3_seat 39 = .ok (.putfield 44, 3) := of_u2 ok_putfield 0 44 (by decide +kernel)
theorem dX3_seat_42 : decode cX3_seat 42 = .ok (.aload_n 0, 1) := of_0 ok_aload_n_0 (by decide +kernel)
theorem dX3_seat_43 : decode cX3_seat 43 = .ok (.getfield 53, 3) := of_u2 ok_getfield 0 53 (by decide +kernel)
theorem dX3_seat_46 : decode cX3_seat 46 = .ok (.iload_n 3, 1) := of_0 ok_iload_n_3 (by decide +kernel)
theorem dX3_seat_47 : decode cX3_seat 47 = .ok (.dup2, 1) := of_0 ok_dup2 (by decide +kernel)
theorem dX3_seat_48 : decode cX3_seat 48 = .ok (.iaload, 1) := of_0 ok_iaload (by decide +kernel)
theorem dX3_seat_49 : decode cX3_seat 49 = .ok (.iload_n 2, 1) := of_0 ok_iload_n_2 (by decide +kernel)
theorem dX3_seat_50 : decode cX3_seat 50 = .ok (.ifCond .eq 12, 3) := of_s2 ok_ifCond_eq 0 12 (by decide +kernel)
theorem dX3_seat_53 : decode cX3_seat 53 = .ok (.aload_n 0, 1) := of_0 ok_aload_n_0 (by decide +kernel)
theorem dX3_seat_54 : decode cX3_seat 54 = .ok (.getfield 38, 3) := of_u2 ok_getfield 0 38 (by decide +kernel)
theorem dX3_seat_57 : decode cX3_seat 57 = .ok (.iload_n 1, 1) := of_0 ok_iload_n_1 (by decide +kernel)
theorem dX3_seat_58 : decode cX3_seat 58 = .ok (.iaload, 1) := of_0 ok_iaload (by decide +kernel)
theorem dX3_seat_59 : decode cX3_seat 59 = .ok (.goto 10, 3) := of_s2 ok_goto 0 10 (by decide +kernel)
theorem dX3_seat_62 : decode cX3_seat 62 = .ok (.aload_n 0, 1) := of_0 ok_aload_n_0 (by decide +kernel)
theorem dX3_seat_63 : decode cX3_seat 63 = .ok (.getfield 38, 3) := of_u2 ok_getfield 0 38 (by decide +kernel)
theorem dX3_seat_66 : decode cX3_seat 66 = .ok (.iload_n 1, 1) := of_0 ok_iload_n_1 (by decide +kernel)
theorem dX3_seat_67 : decode cX3_seat 67 = .ok (.iaload, 1) := of_0 ok_iaload (by decide +kernel)
theorem dX3_seat_68 : decode cX3_seat 68 = .ok (.ineg, 1) := of_0 ok_ineg (by decide +kernel)
theorem dX3_seat_69 : decode cX3_seat 69 = .ok (.iadd, 1) := of_0 ok_iadd (by decide +kernel)
theorem dX3_seat_70 : decode cX3_seat 70 = .ok (.iastore, 1) := of_0 ok_iastore (by decide +kernel)
theorem dX3_seat_71 : decode cX3_seat 71 = .ok (.aload_n 0, 1) := of_0 ok_aload_n_0 (by decide +kernel)
theorem dX3_seat_72 : decode cX3_seat 72 = .ok (.getfield 56, 3) := of_u2 ok_getfield 0 56 (by decide +kernel)
theorem dX3_seat_75 : decode cX3_seat 75 = .ok (.iload_n 3, 1) := of_0 ok_iload_n_3 (by decide +kernel)
theorem dX3_seat_76 : decode cX3_seat 76 = .ok (.dup2, 1) := of_0 ok_dup2 (by decide +kernel)
theorem dX3_seat_77 : decode cX3_seat 77 = .ok (.iaload, 1) := of_0 ok_iaload (by decide +kernel)
theorem dX3_seat_78 : decode cX3_seat 78 = .ok (.iload_n 2, 1) := of_0 ok_iload_n_2 (by decide +kernel)
theorem dX3_seat_79 : decode cX3_seat 79 = .ok (.ifCond .eq 7, 3) := of_s2 ok_ifCond_eq 0 7 (by decide +kernel)
theorem dX3_seat_82 : decode cX3_seat 82 = .ok (.iconst 1, 1) := of_0 ok_iconst_1 (by decide +kernel)
theorem dX3_seat_83 : decode cX3_seat 83 = .ok (.goto 4, 3) := of_s2 ok_goto 0 4 (by decide +kernel)
theorem dX3_seat_86 : decode cX3_seat 86 = .ok (.iconst (-1), 1) := of_0 ok_iconst_m1 (by decide +kernel)
theorem dX3_seat_87 : decode cX3_seat 87 = .ok (.iadd, 1) := of_0 ok_iadd (by decide +kernel)
theorem dX3_seat_88 : decode cX3_seat 88 = .ok (.iastore, 1) := of_0 ok_iastore (by decide +kernel)
theorem dX3_seat_89 : decode cX3_seat 89 = .ok (.return_, 1) := of_0 ok_return_ (by decide +kernel)
theorem dX3_settle_0 : decode cX3_settle 0 = .ok (.iconst 0, 1) := of_0 ok_iconst_0 (by decide +kernel)
theorem dX3_settle_1 : decode cX3_settle 1 = .ok (.istore_n 1, 1) := of_0 ok_istore_n_1 (by decide +kernel)
theorem dX3_settle_2 : decode cX3_settle 2 = .ok (.iconst 0, 1) := of_0 ok_iconst_0 (by decide +kernel)
theorem dX3_settle_3 : decode cX3_settle 3 = .ok (.istore_n 2, 1) := of_0 ok_istore_n_2 (by decide +kernel)
theorem dX3_settle_4 : decode cX3_settle 4 = .ok (.iload_n 2, 1) := of_0 ok_iload_n_2 (by decide +kernel)
theorem dX3_settle_5 : decode cX3_settle 5 = .ok (.bipush 8, 2) := of_s1 ok_bipush 8 (by decide +kernel)
theorem dX3_settle_7 : decode cX3_settle 7 = .ok (.if_icmp .gt 50, 3) := of_s2 ok_if_icmp_gt 0 50 (by decide +kernel)
theorem dX3_settle_10 : decode cX3_settle 10 = .ok (.aload_n 0, 1) := of_0 ok_aload_n_0 (by decide +kernel)
theorem dX3_settle_11 : decode cX3_settle 11 = .ok (.invokevirtual 94, 3) := of_u2 ok_invokevirtual 0 94 (by decide +kernel)
theorem dX3_settle_14 : decode cX3_settle 14 = .ok (.istore_n 3, 1) := of_0 ok_istore_n_3 (by decide +kernel)
theorem dX3_settle_15 : decode cX3_settle 15 = .ok (.iload_n 3, 1) := of_0 ok_iload_n_3 (by decide +kernel)
theorem dX3_settle_16 : decode cX3_settle 16 = .ok (.ifCond .ne 5, 3) := of_s2 ok_ifCond_ne 0 5 (by decide +kernel)
theorem dX3_settle_19 : decode cX3_settle 19 = .ok (.iload_n 1, 1) := of_0 ok_iload_n_1 (by decide +kernel)
theorem dX3_settle_20 : decode cX3_settle 20 = .ok (.ireturn, 1) := of_0 ok_ireturn (by decide +kernel)
theorem dX3_settle_21 : decode cX3_settle 21 = .ok (.aload_n 0, 1) := of_0 ok_aload_n_0 (by decide +kernel)
theorem dX3_settle_22 : decode cX3_settle 22 = .ok (.dup, 1) := of_0 ok_dup (by decide +kernel)
theorem dX3_settle_23 : decode cX3_settle 23 = .ok (.getfield 44, 3) := of_u2 ok_getfield 0 44 (by decide +kernel)
theorem dX3_settle_26 : decode cX3_settle 26 = .ok (.iload_n 3, 1) := of_0 ok_iload_n_3 (by decide +kernel)
theorem dX3_settle_27 : decode cX3_settle 27 = .ok (.iconst (-1), 1) := of_0 ok_iconst_m1 (by decide +kernel)
theorem dX3_settle_28 : decode cX3_settle 28 = .ok (.ixor, 1) := of_0 ok_ixor (by decide +kernel)
theorem dX3_settle_29 : decode cX3_settle 29 = .ok (.iand, 1) := of_0 ok_iand (by decide +kernel)
theorem dX3_settle_30 : decode cX3_settle 30 = .ok (.putfield 44, 3) := of_u2 ok_putfield 0 44 (by decide +kernel)
theorem dX3_settle_33 : decode cX3_settle 33 = .ok (.aload_n 0, 1) := of_0 ok_aload_n_0 (by decide +kernel)
theorem dX3_settle_34 : decode cX3_settle 34 = .ok (.dup, 1) := of_0 ok_dup (by decide +kernel)
theorem dX3_settle_35 : decode cX3_settle 35 = .ok (.getfield 47, 3) := of_u2 ok_getfield 0 47 (by decide +kernel)
theorem dX3_settle_38 : decode cX3_settle 38 = .ok (.iload_n 3, 1) := of_0 ok_iload_n_3 (by decide +kernel)
theorem dX3_settle_39 : decode cX3_settle 39 = .ok (.ior, 1) := of_0 ok_ior (by decide +kernel)
theorem dX3_settle_40 : decode cX3_settle 40 = .ok (.putfield 47, 3) := of_u2 ok_putfield 0 47 (by decide +kernel)
theorem dX3_settle_43 : decode cX3_settle 43 = .ok (.iload_n 1, 1) := of_0 ok_iload_n_1 (by decide +kernel)
theorem dX3_settle_44 : decode cX3_settle 44 = .ok (.iload_n 3, 1) := of_0 ok_iload_n_3 (by decide +kernel)
theorem dX3_settle_45 : decode cX3_settle 45 = .ok (.ior, 1) := of_0 ok_ior (by decide +kernel)
theorem dX3_settle_46 : decode cX3_settle 46 = .ok (.istore_n 1, 1) := of_0 ok_istore_n_1 (by decide +kernel)
theorem dX3_settle_47 : decode cX3_settle 47 = .ok (.aload_n 0, 1) := of_0 ok_aload_n_0 (by decide +kernel)
theorem dX3_settle_48 : decode cX3_settle 48 = .ok (.invokevirtual 71, 3) := of_u2 ok_invokevirtual 0 71 (by decide +kernel)
theorem dX3_settle_51 : decode cX3_settle 51 = .ok (.iinc 2 1, 3) := of_ii ok_iinc 1 (by decide +kernel)
theorem dX3_settle_54 : decode cX3_settle 54 = .ok (.goto (-50), 3) := of_s2 ok_goto 255 206 (by decide +kernel)
theorem dX3_settle_57 : decode cX3_settle 57 = .ok (.iload_n 1, 1) := of_0 ok_iload_n_1 (by decide +kernel)
theorem dX3_settle_58 : decode cX3_settle 58 = .ok (.ireturn, 1) := of_0 ok_ireturn (by decide +kernel)
theorem dX3_sitterOn_0 : decode cX3_sitterOn 0 = .ok (.iconst 0, 1) := of_0 ok_iconst_0 (by decide +kernel)
theorem dX3_sitterOn_1 : decode cX3_sitterOn 1 = .ok (.istore_n 2, 1) := of_0 ok_istore_n_2 (by decide +kernel)
theorem dX3_sitterOn_2 : decode cX3_sitterOn 2 = .ok (.iload_n 2, 1) := of_0 ok_iload_n_2 (by decide +kernel)
theorem dX3_sitterOn_3 : decode cX3_sitterOn 3 = .ok (.aload_n 0, 1) := of_0 ok_aload_n_0 (by decide +kernel)
theorem dX3_sitterOn_4 : decode cX3_sitterOn 4 = .ok (.getfield 22, 3) := of_u2 ok_getfield 0 22 (by decide +kernel)
theorem dX3_sitterOn_7 : decode cX3_sitterOn 7 = .ok (.if_icmp .ge 21, 3) := of_s2 ok_if_icmp_ge 0 21 (by decide +kernel)
theorem dX3_sitterOn_10 : decode cX3_sitterOn 10 = .ok (.aload_n 0, 1) := of_0 ok_aload_n_0 (by decide +kernel)
theorem dX3_sitterOn_11 : decode cX3_sitterOn 11 = .ok (.getfield 35, 3) := of_u2 ok_getfield 0 35 (by decide +kernel)
theorem dX3_sitterOn_14 : decode cX3_sitterOn 14 = .ok (.iload_n 2, 1) := of_0 ok_iload_n_2 (by decide +kernel)
theorem dX3_sitterOn_15 : decode cX3_sitterOn 15 = .ok (.iaload, 1) := of_0 ok_iaload (by decide +kernel)
theorem dX3_sitterOn_16 : decode cX3_sitterOn 16 = .ok (.iload_n 1, 1) := of_0 ok_iload_n_1 (by decide +kernel)
theorem dX3_sitterOn_17 : decode cX3_sitterOn 17 = .ok (.if_icmp .ne 5, 3) := of_s2 ok_if_icmp_ne 0 5 (by decide +kernel)
theorem dX3_sitterOn_20 : decode cX3_sitterOn 20 = .ok (.iload_n 2, 1) := of_0 ok_iload_n_2 (by decide +kernel)
theorem dX3_sitterOn_21 : decode cX3_sitterOn 21 = .ok (.ireturn, 1) := of_0 ok_ireturn (by decide +kernel)
theorem dX3_sitterOn_22 : decode cX3_sitterOn 22 = .ok (.iinc 2 1, 3) := of_ii ok_iinc 1 (by decide +kernel)
theorem dX3_sitterOn_25 : decode cX3_sitterOn 25 = .ok (.goto (-23), 3) := of_s2 ok_goto 255 233 (by decide +kernel)
theorem dX3_sitterOn_28 : decode cX3_sitterOn 28 = .ok (.iconst (-1), 1) := of_0 ok_iconst_m1 (by decide +kernel)
theorem dX3_sitterOn_29 : decode cX3_sitterOn 29 = .ok (.ireturn, 1) := of_0 ok_ireturn (by decide +kernel)
theorem dX3_standing_0 : decode cX3_standing 0 = .ok (.iconst 1, 1) := of_0 ok_iconst_1 (by decide +kernel)
theorem dX3_standing_1 : decode cX3_standing 1 = .ok (.aload_n 0, 1) := of_0 ok_aload_n_0 (by decide +kernel)
theorem dX3_standing_2 : decode cX3_standing 2 = .ok (.getfield 22, 3) := of_u2 ok_getfield 0 22 (by decide +kernel)
theorem dX3_standing_5 : decode cX3_standing 5 = .ok (.ishl, 1) := of_0 ok_ishl (by decide +kernel)
theorem dX3_standing_6 : decode cX3_standing 6 = .ok (.iconst 1, 1) := of_0 ok_iconst_1 (by decide +kernel)
theorem dX3_standing_7 : decode cX3_standing 7 = .ok (.isub, 1) := of_0 ok_isub (by decide +kernel)
theorem dX3_standing_8 : decode cX3_standing 8 = .ok (.aload_n 0, 1) := of_0 ok_aload_n_0 (by decide +kernel)
theorem dX3_standing_9 : decode cX3_standing 9 = .ok (.getfield 44, 3) := of_u2 ok_getfield 0 44 (by decide +kernel)
theorem dX3_standing_12 : decode cX3_standing 12 = .ok (.iconst (-1), 1) := of_0 ok_iconst_m1 (by decide +kernel)
theorem dX3_standing_13 : decode cX3_standing 13 = .ok (.ixor, 1) := of_0 ok_ixor (by decide +kernel)
theorem dX3_standing_14 : decode cX3_standing 14 = .ok (.iand, 1) := of_0 ok_iand (by decide +kernel)
theorem dX3_standing_15 : decode cX3_standing 15 = .ok (.aload_n 0, 1) := of_0 ok_aload_n_0 (by decide +kernel)
theorem dX3_standing_16 : decode cX3_standing 16 = .ok (.getfield 47, 3) := of_u2 ok_getfield 0 47 (by decide +kernel)
theorem dX3_standing_19 : decode cX3_standing 19 = .ok (.iconst (-1), 1) := of_0 ok_iconst_m1 (by decide +kernel)
theorem dX3_standing_20 : decode cX3_standing 20 = .ok (.ixor, 1) := of_0 ok_ixor (by decide +kernel)
theorem dX3_standing_21 : decode cX3_standing 21 = .ok (.iand, 1) := of_0 ok_iand (by decide +kernel)
theorem dX3_standing_22 : decode cX3_standing 22 = .ok (.ireturn, 1) := of_0 ok_ireturn (by decide +kernel)
theorem dX3_stateOf_0 : decode cX3_stateOf 0 = .ok (.aload_n 0, 1) := of_0 ok_aload_n_0 (by decide +kernel)
theorem dX3_stateOf_1 : decode cX3_stateOf 1 = .ok (.iload_n 1, 1) := of_0 ok_iload_n_1 (by decide +kernel)
theorem dX3_stateOf_2 : decode cX3_stateOf 2 = .ok (.invokevirtual 74, 3) := of_u2 ok_invokevirtual 0 74 (by decide +kernel)
theorem dX3_stateOf_5 : decode cX3_stateOf 5 = .ok (.ifCond .ne 5, 3) := of_s2 ok_ifCond_ne 0 5 (by decide +kernel)
theorem dX3_stateOf_8 : decode cX3_stateOf 8 = .ok (.iconst (-1), 1) := of_0 ok_iconst_m1 (by decide +kernel)
theorem dX3_stateOf_9 : decode cX3_stateOf 9 = .ok (.ireturn, 1) := of_0 ok_ireturn (by decide +kernel)
theorem dX3_stateOf_10 : decode cX3_stateOf 10 = .ok (.aload_n 0, 1) := of_0 ok_aload_n_0 (by decide +kernel)
theorem dX3_stateOf_11 : decode cX3_stateOf 11 = .ok (.getfield 47, 3) := of_u2 ok_getfield 0 47 (by decide +kernel)
theorem dX3_stateOf_14 : decode cX3_stateOf 14 = .ok (.iload_n 1, 1) := of_0 ok_iload_n_1 (by decide +kernel)
theorem dX3_stateOf_15 : decode cX3_stateOf 15 = .ok (.ishr, 1) := of_0 ok_ishr (by decide +kernel)
theorem dX3_stateOf_16 : decode cX3_stateOf 16 = .ok (.iconst 1, 1) := of_0 ok_iconst_1 (by decide +kernel)
theorem dX3_stateOf_17 : decode cX3_stateOf 17 = .ok (.iand, 1) := of_0 ok_iand (by decide +kernel)
theorem dX3_stateOf_18 : decode cX3_stateOf 18 = .ok (.ifCond .eq 5, 3) := of_s2 ok_ifCond_eq 0 5 (by decide +kernel)
theorem dX3_stateOf_21 : decode cX3_stateOf 21 = .ok (.iconst 2, 1) := of_0 ok_iconst_2 (by decide +kernel)
theorem dX3_stateOf_22 : decode cX3_stateOf 22 = .ok (.ireturn, 1) := of_0 ok_ireturn (by decide +kernel)
theorem dX3_stateOf_23 : decode cX3_stateOf 23 = .ok (.aload_n 0, 1) := of_0 ok_aload_n_0 (by decide +kernel)
theorem dX3_stateOf_24 : decode cX3_stateOf 24 = .ok (.getfield 44, 3) := of_u2 ok_getfield 0 44 (by decide +kernel)
theorem dX3_stateOf_27 : decode cX3_stateOf 27 = .ok (.iload_n 1, 1) := of_0 ok_iload_n_1 (by decide +kernel)
theorem dX3_stateOf_28 : decode cX3_stateOf 28 = .ok (.ishr, 1) := of_0 ok_ishr (by decide +kernel)
theorem dX3_stateOf_29 : decode cX3_stateOf 29 = .ok (.iconst 1, 1) := of_0 ok_iconst_1 (by decide +kernel)
theorem dX3_stateOf_30 : decode cX3_stateOf 30 = .ok (.iand, 1) := of_0 ok_iand (by decide +kernel)
theorem dX3_stateOf_31 : decode cX3_stateOf 31 = .ok (.ifCond .eq 7, 3) := of_s2 ok_ifCond_eq 0 7 (by decide +kernel)
theorem dX3_stateOf_34 : decode cX3_stateOf 34 = .ok (.iconst 1, 1) := of_0 ok_iconst_1 (by decide +kernel)
theorem dX3_stateOf_35 : decode cX3_stateOf 35 = .ok (.goto 4, 3) := of_s2 ok_goto 0 4 (by decide +kernel)
theorem dX3_stateOf_38 : decode cX3_stateOf 38 = .ok (.iconst 0, 1) := of_0 ok_iconst_0 (by decide +kernel)
theorem dX3_stateOf_39 : decode cX3_stateOf 39 = .ok (.ireturn, 1) := of_0 ok_ireturn (by decide +kernel)
theorem dX3_turn_0 : decode cX3_turn 0 = .ok (.aload_n 0, 1) := of_0 ok_aload_n_0 (by decide +kernel)
theorem dX3_turn_1 : decode cX3_turn 1 = .ok (.iload_n 1, 1) := of_0 ok_iload_n_1 (by decide +kernel)
theorem dX3_turn_2 : decode cX3_turn 2 = .ok (.aload_n 0, 1) := of_0 ok_aload_n_0 (by decide +kernel)
theorem dX3_turn_3 : decode cX3_turn 3 = .ok (.iload_n 1, 1) := of_0 ok_iload_n_1 (by decide +kernel)
theorem dX3_turn_4 : decode cX3_turn 4 = .ok (.invokevirtual 82, 3) := of_u2 ok_invokevirtual 0 82 (by decide +kernel)
theorem dX3_turn_7 : decode cX3_turn 7 = .ok (.ifCond .ne 7, 3) := of_s2 ok_ifCond_ne 0 7 (by decide +kernel)
theorem dX3_turn_10 : decode cX3_turn 10 = .ok (.iconst 1, 1) := of_0 ok_iconst_1 (by decide +kernel)
theorem dX3_turn_11 : decode cX3_turn 11 = .ok (.goto 4, 3) := of_s2 ok_goto 0 4 (by decide +kernel)
theorem dX3_turn_14 : decode cX3_turn 14 = .ok (.iconst 0, 1) := of_0 ok_iconst_0 (by decide +kernel)
theorem dX3_turn_15 : decode cX3_turn 15 = .ok (.invokevirtual 98, 3) := of_u2 ok_invokevirtual 0 98 (by decide +kernel)
theorem dX3_turn_18 : decode cX3_turn 18 = .ok (.aload_n 0, 1) := of_0 ok_aload_n_0 (by decide +kernel)
theorem dX3_turn_19 : decode cX3_turn 19 = .ok (.invokevirtual 108, 3) := of_u2 ok_invokevirtual 0 108 (by decide +kernel)
theorem dX3_turn_22 : decode cX3_turn 22 = .ok (.pop, 1) := of_0 ok_pop (by decide +kernel)
theorem dX3_turn_23 : decode cX3_turn 23 = .ok (.return_, 1) := of_0 ok_return_ (by decide +kernel)
theorem dX3_weigh_0 : decode cX3_weigh 0 = .ok (.aload_n 0, 1) := of_0 ok_aload_n_0 (by decide +kernel)
theorem dX3_weigh_1 : decode cX3_weigh 1 = .ok (.getfield 53, 3) := of_u2 ok_getfield 0 53 (by decide +kernel)
theorem dX3_weigh_4 : decode cX3_weigh 4 = .ok (.iconst 0, 1) := of_0 ok_iconst_0 (by decide +kernel)
theorem dX3_weigh_5 : decode cX3_weigh 5 = .ok (.invokestatic 88, 3) := of_u2 ok_invokestatic 0 88 (by decide +kernel)
theorem dX3_weigh_8 : decode cX3_weigh 8 = .ok (.aload_n 0, 1) := of_0 ok_aload_n_0 (by decide +kernel)
theorem dX3_weigh_9 : decode cX3_weigh 9 = .ok (.getfield 56, 3) := of_u2 ok_getfield 0 56 (by decide +kernel)
theorem dX3_weigh_12 : decode cX3_weigh 12 = .ok (.iconst 0, 1) := of_0 ok_iconst_0 (by decide +kernel)
theorem dX3_weigh_13 : decode cX3_weigh 13 = .ok (.invokestatic 88, 3) := of_u2 ok_invokestatic 0 88 (by decide +kernel)
theorem dX3_weigh_16 : decode cX3_weigh 16 = .ok (.iconst 0, 1) := of_0 ok_iconst_0 (by decide +kernel)
theorem dX3_weigh_17 : decode cX3_weigh 17 = .ok (.istore_n 1, 1) := of_0 ok_istore_n_1 (by decide +kernel)
theorem dX3_weigh_18 : decode cX3_weigh 18 = .ok (.iload_n 1, 1) := of_0 ok_iload_n_1 (by decide +kernel)
theorem dX3_weigh_19 : decode cX3_weigh 19 = .ok (.aload_n 0, 1) := of_0 ok_aload_n_0 (by decide +kernel)
theorem dX3_weigh_20 : decode cX3_weigh 20 = .ok (.getfield 22, 3) := of_u2 ok_getfield 0 22 (by decide +kernel)
theorem dX3_weigh_23 : decode cX3_weigh 23 = .ok (.if_icmp .ge 54, 3) := of_s2 ok_if_icmp_ge 0 54 (by decide +kernel)
theorem dX3_weigh_26 : decode cX3_weigh 26 = .ok (.aload_n 0, 1) := of_0 ok_aload_n_0 (by decide +kernel)
theorem dX3_weigh_27 : decode cX3_weigh 27 = .ok (.iload_n 1, 1) := of_0 ok_iload_n_1 (by decide +kernel)
theorem dX3_weigh_28 : decode cX3_weigh 28 = .ok (.invokevirtual 82, 3) := of_u2 ok_invokevirtual 0 82 (by decide +kernel)
theorem dX3_weigh_31 : decode cX3_weigh 31 = .ok (.ifCond .eq 40, 3) := of_s2 ok_ifCond_eq 0 40 (by decide +kernel)
theorem dX3_weigh_34 : decode cX3_weigh 34 = .ok (.aload_n 0, 1) := of_0 ok_aload_n_0 (by decide +kernel)
theorem dX3_weigh_35 : decode cX3_weigh 35 = .ok (.getfield 32, 3) := of_u2 ok_getfield 0 32 (by decide +kernel)
theorem dX3_weigh_38 : decode cX3_weigh 38 = .ok (.aload_n 0, 1) := of_0 ok_aload_n_0 (by decide +kernel)
theorem dX3_weigh_39 : decode cX3_weigh 39 = .ok (.getfield 35, 3) := of_u2 ok_getfield 0 35 (by decide +kernel)
theorem dX3_weigh_42 : decode cX3_weigh 42 = .ok (.iload_n 1, 1) := of_0 ok_iload_n_1 (by decide +kernel)
theorem dX3_weigh_43 : decode cX3_weigh 43 = .ok (.iaload, 1) := of_0 ok_iaload (by decide +kernel)
theorem dX3_weigh_44 : decode cX3_weigh 44 = .ok (.iaload, 1) := of_0 ok_iaload (by decide +kernel)
theorem dX3_weigh_45 : decode cX3_weigh 45 = .ok (.istore_n 2, 1) := of_0 ok_istore_n_2 (by decide +kernel)
theorem dX3_weigh_46 : decode cX3_weigh 46 = .ok (.aload_n 0, 1) := of_0 ok_aload_n_0 (by decide +kernel)
theorem dX3_weigh_47 : decode cX3_weigh 47 = .ok (.getfield 53, 3) := of_u2 ok_getfield 0 53 (by decide +kernel)
theorem dX3_weigh_50 : decode cX3_weigh 50 = .ok (.iload_n 2, 1) := of_0 ok_iload_n_2 (by decide +kernel)
theorem dX3_weigh_51 : decode cX3_weigh 51 = .ok (.dup2, 1) := of_0 ok_dup2 (by decide +kernel)
theorem dX3_weigh_52 : decode cX3_weigh 52 = .ok (.iaload, 1) := of_0 ok_iaload (by decide +kernel)
theorem dX3_weigh_53 : decode cX3_weigh 53 = .ok (.aload_n 0, 1) := of_0 ok_aload_n_0 (by decide +kernel)
theorem dX3_weigh_54 : decode cX3_weigh 54 = .ok (.getfield 38, 3) := of_u2 ok_getfield 0 38 (by decide +kernel)
theorem dX3_weigh_57 : decode cX3_weigh 57 = .ok (.iload_n 1, 1) := of_0 ok_iload_n_1 (by decide +kernel)
theorem dX3_weigh_58 : decode cX3_weigh 58 = .ok (.iaload, 1) := of_0 ok_iaload (by decide +kernel)
theorem dX3_weigh_59 : decode cX3_weigh 59 = .ok (.iadd, 1) := of_0 ok_iadd (by decide +kernel)
theorem dX3_weigh_60 : decode cX3_weigh 60 = .ok (.iastore, 1) := of_0 ok_iastore (by decide +kernel)
theorem dX3_weigh_61 : decode cX3_weigh 61 = .ok (.aload_n 0, 1) := of_0 ok_aload_n_0 (by decide +kernel)
theorem dX3_weigh_62 : decode cX3_weigh 62 = .ok (.getfield 56, 3) := of_u2 ok_getfield 0 56 (by decide +kernel)
theorem dX3_weigh_65 : decode cX3_weigh 65 = .ok (.iload_n 2, 1) := of_0 ok_iload_n_2 (by decide +kernel)
theorem dX3_weigh_66 : decode cX3_weigh 66 = .ok (.dup2, 1) := of_0 ok_dup2 (by decide +kernel)
theorem dX3_weigh_67 : decode cX3_weigh 67 = .ok (.iaload, 1) := of_0 ok_iaload (by decide +kernel)
theorem dX3_weigh_68 : decode cX3_weigh 68 = .ok (.iconst 1, 1) := of_0 ok_iconst_1 (by decide +kernel)
theorem dX3_weigh_69 : decode cX3_weigh 69 = .ok (.iadd, 1) := of_0 ok_iadd (by decide +kernel)
theorem dX3_weigh_70 : decode cX3_weigh 70 = .ok (.iastore, 1) := of_0 ok_iastore (by decide +kernel)
theorem dX3_weigh_71 : decode cX3_weigh 71 = .ok (.iinc 1 1, 3) := of_ii ok_iinc 1 (by decide +kernel)
theorem dX3_weigh_74 : decode cX3_weigh 74 = .ok (.goto (-56), 3) := of_s2 ok_goto 255 200 (by decide +kernel)
theorem dX3_weigh_77 : decode cX3_weigh 77 = .ok (.return_, 1) := of_0 ok_return_ (by decide +kernel)
theorem dX3_wordOf_0 : decode cX3_wordOf 0 = .ok (.aload_n 0, 1) := of_0 ok_aload_n_0 (by decide +kernel)
theorem dX3_wordOf_1 : decode cX3_wordOf 1 = .ok (.iload_n 2, 1) := of_0 ok_iload_n_2 (by decide +kernel)
theorem dX3_wordOf_2 : decode cX3_wordOf 2 = .ok (.invokevirtual 74, 3) := of_u2 ok_invokevirtual 0 74 (by decide +kernel)
theorem dX3_wordOf_5 : decode cX3_wordOf 5 = .ok (.ifCond .ne 5, 3) := of_s2 ok_ifCond_ne 0 5 (by decide +kernel)
theorem dX3_wordOf_8 : decode cX3_wordOf 8 = .ok (.iconst 0, 1) := of_0 ok_iconst_0 (by decide +kernel)
theorem dX3_wordOf_9 : decode cX3_wordOf 9 = .ok (.ireturn, 1) := of_0 ok_ireturn (by decide +kernel)
theorem dX3_wordOf_10 : decode cX3_wordOf 10 = .ok (.aload_n 0, 1) := of_0 ok_aload_n_0 (by decide +kernel)
theorem dX3_wordOf_11 : decode cX3_wordOf 11 = .ok (.getfield 32, 3) := of_u2 ok_getfield 0 32 (by decide +kernel)
theorem dX3_wordOf_14 : decode cX3_wordOf 14 = .ok (.aload_n 0, 1) := of_0 ok_aload_n_0 (by decide +kernel)
theorem dX3_wordOf_15 : decode cX3_wordOf 15 = .ok (.getfield 35, 3) := of_u2 ok_getfield 0 35 (by decide +kernel)
theorem dX3_wordOf_18 : decode cX3_wordOf 18 = .ok (.iload_n 2, 1) := of_0 ok_iload_n_2 (by decide +kernel)
theorem dX3_wordOf_19 : decode cX3_wordOf 19 = .ok (.iaload, 1) := of_0 ok_iaload (by decide +kernel)
theorem dX3_wordOf_20 : decode cX3_wordOf 20 = .ok (.iaload, 1) := of_0 ok_iaload (by decide +kernel)
theorem dX3_wordOf_21 : decode cX3_wordOf 21 = .ok (.istore_n 3, 1) := of_0 ok_istore_n_3 (by decide +kernel)
theorem dX3_wordOf_22 : decode cX3_wordOf 22 = .ok (.aload_n 0, 1) := of_0 ok_aload_n_0 (by decide +kernel)
theorem dX3_wordOf_23 : decode cX3_wordOf 23 = .ok (.iload_n 2, 1) := of_0 ok_iload_n_2 (by decide +kernel)
theorem dX3_wordOf_24 : decode cX3_wordOf 24 = .ok (.invokevirtual 82, 3) := of_u2 ok_invokevirtual 0 82 (by decide +kernel)
theorem dX3_wordOf_27 : decode cX3_wordOf 27 = .ok (.istore 4, 2) := of_u1 ok_istore (by decide +kernel)
theorem dX3_wordOf_29 : decode cX3_wordOf 29 = .ok (.iload_n 1, 1) := of_0 ok_iload_n_1 (by decide +kernel)
theorem dX3_wordOf_30 : decode cX3_wordOf 30 = .ok (.tableswitch 174 260 270 #[58, 60, 67, 74, 86, 93, 104, 110, 133, 161, 169], 58) := by decide +kernel
theorem dX3_wordOf_88 : decode cX3_wordOf 88 = .ok (.iload_n 2, 1) := of_0 ok_iload_n_2 (by decide +kernel)
theorem dX3_wordOf_89 : decode cX3_wordOf 89 = .ok (.ireturn, 1) := of_0 ok_ireturn (by decide +kernel)
theorem dX3_wordOf_90 : decode cX3_wordOf 90 = .ok (.aload_n 0, 1) := of_0 ok_aload_n_0 (by decide +kernel)
theorem dX3_wordOf_91 : decode cX3_wordOf 91 = .ok (.getfield 35, 3) := of_u2 ok_getfield 0 35 (by decide +kernel)
theorem dX3_wordOf_94 : decode cX3_wordOf 94 = .ok (.iload_n 2, 1) := of_0 ok_iload_n_2 (by decide +kernel)
theorem dX3_wordOf_95 : decode cX3_wordOf 95 = .ok (.iaload, 1) := of_0 ok_iaload (by decide +kernel)
theorem dX3_wordOf_96 : decode cX3_wordOf 96 = .ok (.ireturn, 1) := of_0 ok_ireturn (by decide +kernel)
theorem dX3_wordOf_97 : decode cX3_wordOf 97 = .ok (.aload_n 0, 1) := of_0 ok_aload_n_0 (by decide +kernel)
theorem dX3_wordOf_98 : decode cX3_wordOf 98 = .ok (.getfield 38, 3) := of_u2 ok_getfield 0 38 (by decide +kernel)
theorem dX3_wordOf_101 : decode cX3_wordOf 101 = .ok (.iload_n 2, 1) := of_0 ok_iload_n_2 (by decide +kernel)
theorem dX3_wordOf_102 : decode cX3_wordOf 102 = .ok (.iaload, 1) := of_0 ok_iaload (by decide +kernel)
theorem dX3_wordOf_103 : decode cX3_wordOf 103 = .ok (.ireturn, 1) := of_0 ok_ireturn (by decide +kernel)
theorem dX3_wordOf_104 : decode cX3_wordOf 104 = .ok (.aload_n 0, 1) := of_0 ok_aload_n_0 (by decide +kernel)
theorem dX3_wordOf_105 : decode cX3_wordOf 105 = .ok (.getfield 29, 3) := of_u2 ok_getfield 0 29 (by decide +kernel)
theorem dX3_wordOf_108 : decode cX3_wordOf 108 = .ok (.aload_n 0, 1) := of_0 ok_aload_n_0 (by decide +kernel)
theorem dX3_wordOf_109 : decode cX3_wordOf 109 = .ok (.getfield 35, 3) := of_u2 ok_getfield 0 35 (by decide +kernel)
theorem dX3_wordOf_112 : decode cX3_wordOf 112 = .ok (.iload_n 2, 1) := of_0 ok_iload_n_2 (by decide +kernel)
theorem dX3_wordOf_113 : decode cX3_wordOf 113 = .ok (.iaload, 1) := of_0 ok_iaload (by decide +kernel)
theorem dX3_wordOf_114 : decode cX3_wordOf 114 = .ok (.iaload, 1) := of_0 ok_iaload (by decide +kernel)
theorem dX3_wordOf_115 : decode cX3_wordOf 115 = .ok (.ireturn, 1) := of_0 ok_ireturn (by decide +kernel)
theorem dX3_wordOf_116 : decode cX3_wordOf 116 = .ok (.aload_n 0, 1) := of_0 ok_aload_n_0 (by decide +kernel)
theorem dX3_wordOf_117 : decode cX3_wordOf 117 = .ok (.getfield 41, 3) := of_u2 ok_getfield 0 41 (by decide +kernel)
theorem dX3_wordOf_120 : decode cX3_wordOf 120 = .ok (.iload_n 3, 1) := of_0 ok_iload_n_3 (by decide +kernel)
theorem dX3_wordOf_121 : decode cX3_wordOf 121 = .ok (.iaload, 1) := of_0 ok_iaload (by decide +kernel)
theorem dX3_wordOf_122 : decode cX3_wordOf 122 = .ok (.ireturn, 1) := of_0 ok_ireturn (by decide +kernel)
theorem dX3_wordOf_123 : decode cX3_wordOf 123 = .ok (.iload 4, 2) := of_u1 ok_iload (by decide +kernel)
theorem dX3_wordOf_125 : decode cX3_wordOf 125 = .ok (.ifCond .eq 7, 3) := of_s2 ok_ifCond_eq 0 7 (by decide +kernel)
theorem dX3_wordOf_128 : decode cX3_wordOf 128 = .ok (.iconst 1, 1) := of_0 ok_iconst_1 (by decide +kernel)
theorem dX3_wordOf_129 : decode cX3_wordOf 129 = .ok (.goto 4, 3) := of_s2 ok_goto 0 4 (by decide +kernel)
theorem dX3_wordOf_132 : decode cX3_wordOf 132 = .ok (.iconst 0, 1) := of_0 ok_iconst_0 (by decide +kernel)
theorem dX3_wordOf_133 : decode cX3_wordOf 133 = .ok (.ireturn, 1) := of_0 ok_ireturn (by decide +kernel)
theorem dX3_wordOf_134 : decode cX3_wordOf 134 = .ok (.aload_n 0, 1) := of_0 ok_aload_n_0 (by decide +kernel)
theorem dX3_wordOf_135 : decode cX3_wordOf 135 = .ok (.iload_n 2, 1) := of_0 ok_iload_n_2 (by decide +kernel)
theorem dX3_wordOf_136 : decode cX3_wordOf 136 = .ok (.invokevirtual 78, 3) := of_u2 ok_invokevirtual 0 78 (by decide +kernel)
theorem dX3_wordOf_139 : decode cX3_wordOf 139 = .ok (.ireturn, 1) := of_0 ok_ireturn (by decide +kernel)
theorem dX3_wordOf_140 : decode cX3_wordOf 140 = .ok (.iload 4, 2) := of_u1 ok_iload (by decide +kernel)
theorem dX3_wordOf_142 : decode cX3_wordOf 142 = .ok (.ifCond .eq 14, 3) := of_s2 ok_ifCond_eq 0 14 (by decide +kernel)
theorem dX3_wordOf_145 : decode cX3_wordOf 145 = .ok (.aload_n 0, 1) := of_0 ok_aload_n_0 (by decide +kernel)
theorem dX3_wordOf_146 : decode cX3_wordOf 146 = .ok (.getfield 56, 3) := of_u2 ok_getfield 0 56 (by decide +kernel)
theorem dX3_wordOf_149 : decode cX3_wordOf 149 = .ok (.iload_n 3, 1) := of_0 ok_iload_n_3 (by decide +kernel)
theorem dX3_wordOf_150 : decode cX3_wordOf 150 = .ok (.iaload, 1) := of_0 ok_iaload (by decide +kernel)
theorem dX3_wordOf_151 : decode cX3_wordOf 151 = .ok (.iconst 1, 1) := of_0 ok_iconst_1 (by decide +kernel)
theorem dX3_wordOf_152 : decode cX3_wordOf 152 = .ok (.isub, 1) := of_0 ok_isub (by decide +kernel)
theorem dX3_wordOf_153 : decode cX3_wordOf 153 = .ok (.goto 9, 3) := of_s2 ok_goto 0 9 (by decide +kernel)
theorem dX3_wordOf_156 : decode cX3_wordOf 156 = .ok (.aload_n 0, 1) := of_0 ok_aload_n_0 (by decide +kernel)
theorem dX3_wordOf_157 : decode cX3_wordOf 157 = .ok (.getfield 56, 3) := of_u2 ok_getfield 0 56 (by decide +kernel)
theorem dX3_wordOf_160 : decode cX3_wordOf 160 = .ok (.iload_n 3, 1) := of_0 ok_iload_n_3 (by decide +kernel)
theorem dX3_wordOf_161 : decode cX3_wordOf 161 = .ok (.iaload, 1) := of_0 ok_iaload (by decide +kernel)
theorem dX3_wordOf_162 : decode cX3_wordOf 162 = .ok (.ireturn, 1) := of_0 ok_ireturn (by decide +kernel)
theorem dX3_wordOf_163 : decode cX3_wordOf 163 = .ok (.iload 4, 2) := of_u1 ok_iload (by decide +kernel)
theorem dX3_wordOf_165 : decode cX3_wordOf 165 = .ok (.ifCond .eq 19, 3) := of_s2 ok_ifCond_eq 0 19 (by decide +kernel)
theorem dX3_wordOf_168 : decode cX3_wordOf 168 = .ok (.aload_n 0, 1) := of_0 ok_aload_n_0 (by decide +kernel)
theorem dX3_wordOf_169 : decode cX3_wordOf 169 = .ok (.getfield 53, 3) := of_u2 ok_getfield 0 53 (by decide +kernel)
theorem dX3_wordOf_172 : decode cX3_wordOf 172 = .ok (.iload_n 3, 1) := of_0 ok_iload_n_3 (by decide +kernel)
theorem dX3_wordOf_173 : decode cX3_wordOf 173 = .ok (.iaload, 1) := of_0 ok_iaload (by decide +kernel)
theorem dX3_wordOf_174 : decode cX3_wordOf 174 = .ok (.aload_n 0, 1) := of_0 ok_aload_n_0 (by decide +kernel)
theorem dX3_wordOf_175 : decode cX3_wordOf 175 = .ok (.getfield 38, 3) := of_u2 ok_getfield 0 38 (by decide +kernel)
theorem dX3_wordOf_178 : decode cX3_wordOf 178 = .ok (.iload_n 2, 1) := of_0 ok_iload_n_2 (by decide +kernel)
theorem dX3_wordOf_179 : decode cX3_wordOf 179 = .ok (.iaload, 1) := of_0 ok_iaload (by decide +kernel)
theorem dX3_wordOf_180 : decode cX3_wordOf 180 = .ok (.isub, 1) := of_0 ok_isub (by decide +kernel)
theorem dX3_wordOf_181 : decode cX3_wordOf 181 = .ok (.goto 9, 3) := of_s2 ok_goto 0 9 (by decide +kernel)
theorem dX3_wordOf_184 : decode cX3_wordOf 184 = .ok (.aload_n 0, 1) := of_0 ok_aload_n_0 (by decide +kernel)
theorem dX3_wordOf_185 : decode cX3_wordOf 185 = .ok (.getfield 53, 3) := of_u2 ok_getfield 0 53 (by decide +kernel)
theorem dX3_wordOf_188 : decode cX3_wordOf 188 = .ok (.iload_n 3, 1) := of_0 ok_iload_n_3 (by decide +kernel)
theorem dX3_wordOf_189 : decode cX3_wordOf 189 = .ok (.iaload, 1) := of_0 ok_iaload (by decide +kernel)
theorem dX3_wordOf_190 : decode cX3_wordOf 190 = .ok (.ireturn, 1) := of_0 ok_ireturn (by decide +kernel)
theorem dX3_wordOf_191 : decode cX3_wordOf 191 = .ok (.aload_n 0, 1) := of_0 ok_aload_n_0 (by decide +kernel)
theorem dX3_wordOf_192 : decode cX3_wordOf 192 = .ok (.getfield 47, 3) := of_u2 ok_getfield 0 47 (by decide +kernel)
theorem dX3_wordOf_195 : decode cX3_wordOf 195 = .ok (.invokestatic 115, 3) := of_u2 ok_invokestatic 0 115 (by decide +kernel)
theorem dX3_wordOf_198 : decode cX3_wordOf 198 = .ok (.ireturn, 1) := of_0 ok_ireturn (by decide +kernel)
theorem dX3_wordOf_199 : decode cX3_wordOf 199 = .ok (.aload_n 0, 1) := of_0 ok_aload_n_0 (by decide +kernel)
theorem dX3_wordOf_200 : decode cX3_wordOf 200 = .ok (.getfield 50, 3) := of_u2 ok_getfield 0 50 (by decide +kernel)
theorem dX3_wordOf_203 : decode cX3_wordOf 203 = .ok (.ireturn, 1) := of_0 ok_ireturn (by decide +kernel)
theorem dX3_wordOf_204 : decode cX3_wordOf 204 = .ok (.iconst 0, 1) := of_0 ok_iconst_0 (by decide +kernel)
theorem dX3_wordOf_205 : decode cX3_wordOf 205 = .ok (.ireturn, 1) := of_0 ok_ireturn (by decide +kernel)
theorem dX3_worthTo_0 : decode cX3_worthTo 0 = .ok (.aload_n 0, 1) := of_0 ok_aload_n_0 (by decide +kernel)
theorem dX3_worthTo_1 : decode cX3_worthTo 1 = .ok (.iload_n 1, 1) := of_0 ok_iload_n_1 (by decide +kernel)
theorem dX3_worthTo_2 : decode cX3_worthTo 2 = .ok (.invokevirtual 82, 3) := of_u2 ok_invokevirtual 0 82 (by decide +kernel)
theorem dX3_worthTo_5 : decode cX3_worthTo 5 = .ok (.ifCond .eq 16, 3) := of_s2 ok_ifCond_eq 0 16 (by decide +kernel)
theorem dX3_worthTo_8 : decode cX3_worthTo 8 = .ok (.iconst 1, 1) := of_0 ok_iconst_1 (by decide +kernel)
theorem dX3_worthTo_9 : decode cX3_worthTo 9 = .ok (.aload_n 0, 1) := of_0 ok_aload_n_0 (by decide +kernel)
theorem dX3_worthTo_10 : decode cX3_worthTo 10 = .ok (.iload_n 1, 1) := of_0 ok_iload_n_1 (by decide +kernel)
theorem dX3_worthTo_11 : decode cX3_worthTo 11 = .ok (.invokevirtual 78, 3) := of_u2 ok_invokevirtual 0 78 (by decide +kernel)
theorem dX3_worthTo_14 : decode cX3_worthTo 14 = .ok (.bipush 10, 2) := of_s1 ok_bipush 10 (by decide +kernel)
theorem dX3_worthTo_16 : decode cX3_worthTo 16 = .ok (.idiv, 1) := of_0 ok_idiv (by decide +kernel)
theorem dX3_worthTo_17 : decode cX3_worthTo 17 = .ok (.iadd, 1) := of_0 ok_iadd (by decide +kernel)
theorem dX3_worthTo_18 : decode cX3_worthTo 18 = .ok (.goto 4, 3) := of_s2 ok_goto 0 4 (by decide +kernel)
theorem dX3_worthTo_21 : decode cX3_worthTo 21 = .ok (.iconst 0, 1) := of_0 ok_iconst_0 (by decide +kernel)
theorem dX3_worthTo_22 : decode cX3_worthTo 22 = .ok (.ireturn, 1) := of_0 ok_ireturn (by decide +kernel)
set_option maxRecDepth 20000 in
theorem bq_wsX3_bears : subq wsX3_bears [wsX3_bears_r1, wsX3_bears_r2] := ⟨(fun _ h => (List.mem_cons_of_mem _ (List.mem_append_left _ (List.mem_append_left _ h)))), (fun _ h => (List.mem_cons_of_mem _ (List.mem_append_left _ (List.mem_append_right _ h)))), trivial⟩
set_option maxRecDepth 20000 in
theorem ggX3_bears_X3_givenOut : GoodIn wsX3_bears wsX3_givenOut := (goodIn_cons (good_rb bq_wsX3_bears ([(0, 23)] : List (Nat × Nat)) rfl (by decide +kernel)) (goodIn_app (good_rb bq_wsX3_bears ([(0, 8), (1, 0), (0, 10), (1, 1), (1, 2), (1, 3), (0, 4), (1, 4), (0, 0), (0, 9), (0, 6), (1, 5), (0, 11)] : List (Nat × Nat)) rfl (by decide +kernel)) (goodIn_sb (fun _ h => (List.mem_cons_of_mem _ (List.mem_append_right _ h))) (by decide +kernel))))
set_option maxRecDepth 20000 in
theorem gX3_bears_X3_givenOut : GoodIn wsX3_bears (wsV RX3 94 RX3 yX3_givenOut wsX3_givenOut) := goodIn_app (good_rp ([21, 22, 23, 5] : List Nat) rfl (by decide +kernel)) ggX3_bears_X3_givenOut
set_option maxRecDepth 20000 in
theorem ggX3_bears_X3_weigh : GoodIn wsX3_bears wsX3_weigh := (goodIn_cons (good_rb bq_wsX3_bears ([(0, 5)] : List (Nat × Nat)) rfl (by decide +kernel)) (goodIn_app (good_rb bq_wsX3_bears ([(0, 6), (0, 7), (0, 8), (0, 9), (0, 10), (0, 11), (0, 12), (0, 13), (0, 14), (0, 15), (0, 16), (0, 17), (0, 18), (0, 4), (0, 19), (0, 0)] : List (Nat × Nat)) rfl (by decide +kernel)) (goodIn_sb (fun _ h => (List.mem_cons_of_mem _ (List.mem_append_right _ h))) (by decide +kernel))))
set_option maxRecDepth 20000 in
theorem gX3_bears_X3_weigh : GoodIn wsX3_bears (wsV RX3 71 RX3 yX3_weigh wsX3_weigh) := goodIn_app (good_rp ([2, 3, 4, 5] : List Nat) rfl (by decide +kernel)) ggX3_bears_X3_weigh
set_option maxRecDepth 20000 in
theorem bq_wsX3_givenOut : subq wsX3_givenOut [[.fieldLink RX3 22 "ChairCane$Room" "sitters" "I", .fieldLink RX3 29 "ChairCane$Room" "height" "[I", .fieldLink RX3 35 "ChairCane$Room" "chairOf" "[I", .methodLink RX3 78 yX3_givesUnder, .instanceMethod yX3_givesUnder, .selects RX3 yX3_givesUnder yX3_givesUnder, .initialized RX3, .code yX3_givesUnder cX3_givesUnder 3 (some .int), .fieldLink RX3 44 "ChairCane$Room" "sits" "I", .fieldLink RX3 32 "ChairCane$Room" "strandOf" "[I", .fieldLink RX3 53 "ChairCane$Room" "load" "[I", .fieldLink RX3 41 "ChairCane$Room" "cane" "[I", .fieldLink RX3 38 "ChairCane$Room" "weight" "[I"]] := ⟨(fun _ h => (List.mem_cons_of_mem _ (List.mem_append_left _ h))), trivial⟩
set_option maxRecDepth 20000 in
theorem ggX3_givenOut_X3_givesUnder : GoodIn wsX3_givenOut wsX3_givesUnder := (goodIn_cons (good_rb bq_wsX3_givenOut ([(0, 7)] : List (Nat × Nat)) rfl (by decide +kernel)) (goodIn_app (good_rb bq_wsX3_givenOut ([(0, 0), (0, 8), (0, 9), (0, 2), (0, 10), (0, 11), (0, 12)] : List (Nat × Nat)) rfl (by decide +kernel)) (goodIn_sb (fun _ h => (List.mem_cons_of_mem _ (List.mem_append_right _ h))) (by decide +kernel))))
set_option maxRecDepth 20000 in
theorem gX3_givenOut_X3_givesUnder : GoodIn wsX3_givenOut (wsV RX3 78 RX3 yX3_givesUnder wsX3_givesUnder) := goodIn_app (good_rp ([4, 5, 6, 7] : List Nat) rfl (by decide +kernel)) ggX3_givenOut_X3_givesUnder
set_option maxRecDepth 20000 in
theorem bq_wsX3_givesInAll : subq wsX3_givesInAll [[.fieldLink RX3 22 "ChairCane$Room" "sitters" "I", .methodLink RX3 78 yX3_givesUnder, .instanceMethod yX3_givesUnder, .selects RX3 yX3_givesUnder yX3_givesUnder, .initialized RX3, .code yX3_givesUnder cX3_givesUnder 3 (some .int), .fieldLink RX3 44 "ChairCane$Room" "sits" "I", .fieldLink RX3 32 "ChairCane$Room" "strandOf" "[I", .fieldLink RX3 35 "ChairCane$Room" "chairOf" "[I", .fieldLink RX3 53 "ChairCane$Room" "load" "[I", .fieldLink RX3 41 "ChairCane$Room" "cane" "[I", .fieldLink RX3 38 "ChairCane$Room" "weight" "[I"]] := ⟨(fun _ h => (List.mem_cons_of_mem _ (List.mem_append_left _ h))), trivial⟩
set_option maxRecDepth 20000 in
theorem ggX3_givesInAll_X3_givesUnder : GoodIn wsX3_givesInAll wsX3_givesUnder := (goodIn_cons (good_rb bq_wsX3_givesInAll ([(0, 5)] : List (Nat × Nat)) rfl (by decide +kernel)) (goodIn_app (good_rb bq_wsX3_givesInAll ([(0, 0), (0, 6), (0, 7), (0, 8), (0, 9), (0, 10), (0, 11)] : List (Nat × Nat)) rfl (by decide +kernel)) (goodIn_sb (fun _ h => (List.mem_cons_of_mem _ (List.mem_append_right _ h))) (by decide +kernel))))
set_option maxRecDepth 20000 in
theorem gX3_givesInAll_X3_givesUnder : GoodIn wsX3_givesInAll (wsV RX3 78 RX3 yX3_givesUnder wsX3_givesUnder) := goodIn_app (good_rp ([2, 3, 4, 5] : List Nat) rfl (by decide +kernel)) ggX3_givesInAll_X3_givesUnder
set_option maxRecDepth 20000 in
theorem bq_wsX3_restart : subq wsX3_restart [wsX3_restart_r1, wsX3_restart_r2] := ⟨(fun _ h => (List.mem_cons_of_mem _ (List.mem_append_left _ (List.mem_append_left _ h)))), (fun _ h => (List.mem_cons_of_mem _ (List.mem_append_left _ (List.mem_append_right _ h)))), trivial⟩
set_option maxRecDepth 20000 in
theorem ggX3_restart_X3_weigh : GoodIn wsX3_restart wsX3_weigh := (goodIn_cons (good_rb bq_wsX3_restart ([(0, 14)] : List (Nat × Nat)) rfl (by decide +kernel)) (goodIn_app (good_rb bq_wsX3_restart ([(0, 15), (0, 16), (0, 17), (0, 18), (0, 19), (0, 20), (0, 21), (0, 22), (0, 23), (1, 0), (1, 1), (1, 2), (1, 3), (0, 13), (1, 4), (0, 6)] : List (Nat × Nat)) rfl (by decide +kernel)) (goodIn_sb (fun _ h => (List.mem_cons_of_mem _ (List.mem_append_right _ h))) (by decide +kernel))))
set_option maxRecDepth 20000 in
theorem gX3_restart_X3_weigh : GoodIn wsX3_restart (wsV RX3 71 RX3 yX3_weigh wsX3_weigh) := goodIn_app (good_rp ([11, 12, 13, 14] : List Nat) rfl (by decide +kernel)) ggX3_restart_X3_weigh
set_option maxRecDepth 20000 in
theorem bq_wsX3_seat : subq wsX3_seat [[.fieldLink RX3 32 "ChairCane$Room" "strandOf" "[I", .fieldLink RX3 35 "ChairCane$Room" "chairOf" "[I", .fieldLink RX3 44 "ChairCane$Room" "sits" "I", .fieldLink RX3 53 "ChairCane$Room" "load" "[I", .fieldLink RX3 38 "ChairCane$Room" "weight" "[I", .fieldLink RX3 56 "ChairCane$Room" "heads" "[I", .methodLink RX3 85 yX3_isUp, .instanceMethod yX3_isUp, .selects RX3 yX3_isUp yX3_isUp, .initialized RX3, .code yX3_isUp cX3_isUp 2 (some .boolean), .fieldLink RX3 22 "ChairCane$Room" "sitters" "I", .fieldLink RX3 47 "ChairCane$Room" "dropped" "I", .methodLink RX3 82 yX3_isDown, .instanceMethod yX3_isDown, .selects RX3 yX3_isDown yX3_isDown, .code yX3_isDown cX3_isDown 2 (some .boolean)]] := ⟨(fun _ h => (List.mem_cons_of_mem _ (List.mem_append_left _ h))), trivial⟩
set_option maxRecDepth 20000 in
theorem ggX3_seat_X3_isDown : GoodIn wsX3_seat wsX3_isDown := (goodIn_cons (good_rb bq_wsX3_seat ([(0, 16)] : List (Nat × Nat)) rfl (by decide +kernel)) (goodIn_app (good_rb bq_wsX3_seat ([(0, 11), (0, 2)] : List (Nat × Nat)) rfl (by decide +kernel)) (goodIn_sb (fun _ h => (List.mem_cons_of_mem _ (List.mem_append_right _ h))) (by decide +kernel))))
set_option maxRecDepth 20000 in
theorem gX3_seat_X3_isDown : GoodIn wsX3_seat (wsV RX3 82 RX3 yX3_isDown wsX3_isDown) := goodIn_app (good_rp ([14, 15, 16, 10] : List Nat) rfl (by decide +kernel)) ggX3_seat_X3_isDown
set_option maxRecDepth 20000 in
theorem ggX3_seat_X3_isUp : GoodIn wsX3_seat wsX3_isUp := (goodIn_cons (good_rb bq_wsX3_seat ([(0, 10)] : List (Nat × Nat)) rfl (by decide +kernel)) (goodIn_app (good_rb bq_wsX3_seat ([(0, 11), (0, 12)] : List (Nat × Nat)) rfl (by decide +kernel)) (goodIn_sb (fun _ h => (List.mem_cons_of_mem _ (List.mem_append_right _ h))) (by decide +kernel))))
set_option maxRecDepth 20000 in
theorem gX3_seat_X3_isUp : GoodIn wsX3_seat (wsV RX3 85 RX3 yX3_isUp wsX3_isUp) := goodIn_app (good_rp ([7, 8, 9, 10] : List Nat) rfl (by decide +kernel)) ggX3_seat_X3_isUp
set_option maxRecDepth 20000 in
theorem bq_wsX3_settle : subq wsX3_settle [wsX3_settle_r1, wsX3_settle_r2] := ⟨(fun _ h => (List.mem_cons_of_mem _ (List.mem_append_left _ (List.mem_append_left _ h)))), (fun _ h => (List.mem_cons_of_mem _ (List.mem_append_left _ (List.mem_append_right _ h)))), trivial⟩
set_option maxRecDepth 20000 in
theorem ggX3_settle_X3_givenOut : GoodIn wsX3_settle wsX3_givenOut := (goodIn_cons (good_rb bq_wsX3_settle ([(0, 6)] : List (Nat × Nat)) rfl (by decide +kernel)) (goodIn_app (good_rb bq_wsX3_settle ([(0, 7), (0, 8), (0, 9), (0, 10), (0, 11), (0, 12), (0, 5), (0, 13), (0, 0), (0, 14), (0, 15), (0, 16), (0, 17)] : List (Nat × Nat)) rfl (by decide +kernel)) (goodIn_sb (fun _ h => (List.mem_cons_of_mem _ (List.mem_append_right _ h))) (by decide +kernel))))
set_option maxRecDepth 20000 in
theorem gX3_settle_X3_givenOut : GoodIn wsX3_settle (wsV RX3 94 RX3 yX3_givenOut wsX3_givenOut) := goodIn_app (good_rp ([3, 4, 5, 6] : List Nat) rfl (by decide +kernel)) ggX3_settle_X3_givenOut
set_option maxRecDepth 20000 in
theorem ggX3_settle_X3_weigh : GoodIn wsX3_settle wsX3_weigh := (goodIn_cons (good_rb bq_wsX3_settle ([(0, 21)] : List (Nat × Nat)) rfl (by decide +kernel)) (goodIn_app (good_rb bq_wsX3_settle ([(0, 15), (0, 22), (0, 7), (0, 14), (0, 9), (0, 17), (0, 23), (1, 0), (1, 1), (1, 2), (1, 3), (1, 4), (1, 5), (0, 5), (1, 6), (0, 0)] : List (Nat × Nat)) rfl (by decide +kernel)) (goodIn_sb (fun _ h => (List.mem_cons_of_mem _ (List.mem_append_right _ h))) (by decide +kernel))))
set_option maxRecDepth 20000 in
theorem gX3_settle_X3_weigh : GoodIn wsX3_settle (wsV RX3 71 RX3 yX3_weigh wsX3_weigh) := goodIn_app (good_rp ([19, 20, 21, 6] : List Nat) rfl (by decide +kernel)) ggX3_settle_X3_weigh
set_option maxRecDepth 20000 in
theorem bq_wsX3_stateOf : subq wsX3_stateOf [[.fieldLink RX3 47 "ChairCane$Room" "dropped" "I", .fieldLink RX3 44 "ChairCane$Room" "sits" "I", .methodLink RX3 74 yX3_hasSitter, .instanceMethod yX3_hasSitter, .selects RX3 yX3_hasSitter yX3_hasSitter, .initialized RX3, .code yX3_hasSitter cX3_hasSitter 2 (some .boolean), .fieldLink RX3 22 "ChairCane$Room" "sitters" "I"]] := ⟨(fun _ h => (List.mem_cons_of_mem _ (List.mem_append_left _ h))), trivial⟩
set_option maxRecDepth 20000 in
theorem ggX3_stateOf_X3_hasSitter : GoodIn wsX3_stateOf wsX3_hasSitter := (goodIn_cons (good_rb bq_wsX3_stateOf ([(0, 6)] : List (Nat × Nat)) rfl (by decide +kernel)) (goodIn_app (good_rb bq_wsX3_stateOf ([(0, 7)] : List (Nat × Nat)) rfl (by decide +kernel)) (goodIn_sb (fun _ h => (List.mem_cons_of_mem _ (List.mem_append_right _ h))) (by decide +kernel))))
set_option maxRecDepth 20000 in
theorem gX3_stateOf_X3_hasSitter : GoodIn wsX3_stateOf (wsV RX3 74 RX3 yX3_hasSitter wsX3_hasSitter) := goodIn_app (good_rp ([3, 4, 5, 6] : List Nat) rfl (by decide +kernel)) ggX3_stateOf_X3_hasSitter
set_option maxRecDepth 20000 in
theorem bq_wsX3_turn : subq wsX3_turn [wsX3_turn_r1, wsX3_turn_r2] := ⟨(fun _ h => (List.mem_cons_of_mem _ (List.mem_append_left _ (List.mem_append_left _ h)))), (fun _ h => (List.mem_cons_of_mem _ (List.mem_append_left _ (List.mem_append_right _ h)))), trivial⟩
set_option maxRecDepth 20000 in
theorem ggX3_turn_X3_isDown : GoodIn wsX3_turn wsX3_isDown := (goodIn_cons (good_rb bq_wsX3_turn ([(0, 4)] : List (Nat × Nat)) rfl (by decide +kernel)) (goodIn_app (good_rb bq_wsX3_turn ([(0, 5), (0, 6)] : List (Nat × Nat)) rfl (by decide +kernel)) (goodIn_sb (fun _ h => (List.mem_cons_of_mem _ (List.mem_append_right _ h))) (by decide +kernel))))
set_option maxRecDepth 20000 in
theorem gX3_turn_X3_isDown : GoodIn wsX3_turn (wsV RX3 82 RX3 yX3_isDown wsX3_isDown) := goodIn_app (good_rp ([1, 2, 3, 4] : List Nat) rfl (by decide +kernel)) ggX3_turn_X3_isDown
set_option maxRecDepth 20000 in
theorem ggX3_turn_X3_seat : GoodIn wsX3_turn wsX3_seat := (goodIn_cons (good_rb bq_wsX3_turn ([(0, 10)] : List (Nat × Nat)) rfl (by decide +kernel)) (goodIn_app (good_rb bq_wsX3_turn ([(0, 11), (0, 12), (0, 6), (0, 13), (0, 14), (0, 15), (0, 16), (0, 17), (0, 18), (0, 3), (0, 19), (0, 5), (0, 20), (0, 0), (0, 1), (0, 2), (0, 4)] : List (Nat × Nat)) rfl (by decide +kernel)) (goodIn_sb (fun _ h => (List.mem_cons_of_mem _ (List.mem_append_right _ h))) (by decide +kernel))))
set_option maxRecDepth 20000 in
theorem gX3_turn_X3_seat : GoodIn wsX3_turn (wsV RX3 98 RX3 yX3_seat wsX3_seat) := goodIn_app (good_rp ([8, 9, 10, 4] : List Nat) rfl (by decide +kernel)) ggX3_turn_X3_seat
set_option maxRecDepth 20000 in
theorem ggX3_turn_X3_settle : GoodIn wsX3_turn wsX3_settle := (goodIn_cons (good_rb bq_wsX3_turn ([(1, 0)] : List (Nat × Nat)) rfl (by decide +kernel)) (goodIn_app (goodIn_app (good_rb bq_wsX3_turn ([(0, 6), (0, 20), (1, 1), (1, 2), (1, 3), (0, 3), (1, 4), (0, 5), (1, 5), (0, 12), (1, 6), (1, 7), (1, 8), (1, 9), (0, 11), (0, 13), (1, 10), (0, 14), (1, 11), (1, 12), (1, 13), (1, 14), (0, 15), (1, 15)] : List (Nat × Nat)) rfl (by decide +kernel)) (good_rb bq_wsX3_turn ([(1, 16), (1, 17), (1, 18), (0, 0), (0, 1), (0, 2), (0, 4)] : List (Nat × Nat)) rfl (by decide +kernel))) (goodIn_sb (fun _ h => (List.mem_cons_of_mem _ (List.mem_append_right _ h))) (by decide +kernel))))
set_option maxRecDepth 20000 in
theorem gX3_turn_X3_settle : GoodIn wsX3_turn (wsV RX3 108 RX3 yX3_settle wsX3_settle) := goodIn_app (good_rp ([22, 23, 24, 4] : List Nat) rfl (by decide +kernel)) ggX3_turn_X3_settle
set_option maxRecDepth 20000 in
theorem bq_wsX3_weigh : subq wsX3_weigh [[.fieldLink RX3 53 "ChairCane$Room" "load" "[I", .fieldLink RX3 56 "ChairCane$Room" "heads" "[I", .fieldLink RX3 22 "ChairCane$Room" "sitters" "I", .fieldLink RX3 32 "ChairCane$Room" "strandOf" "[I", .fieldLink RX3 35 "ChairCane$Room" "chairOf" "[I", .fieldLink RX3 38 "ChairCane$Room" "weight" "[I", .methodLink RX3 88 yJ7_fill_53178, .static yJ7_fill_53178, .initialized RJ7, .code yJ7_fill_53178 cJ7_fill_53178 4 none, .methodLink RX3 82 yX3_isDown, .instanceMethod yX3_isDown, .selects RX3 yX3_isDown yX3_isDown, .initialized RX3, .code yX3_isDown cX3_isDown 2 (some .boolean), .fieldLink RX3 44 "ChairCane$Room" "sits" "I"]] := ⟨(fun _ h => (List.mem_cons_of_mem _ (List.mem_append_left _ h))), trivial⟩
set_option maxRecDepth 20000 in
theorem ggX3_weigh_J7_fill_53178 : GoodIn wsX3_weigh wsJ7_fill_53178 := (goodIn_cons (good_rb bq_wsX3_weigh ([(0, 9)] : List (Nat × Nat)) rfl (by decide +kernel)) (good_rb bq_wsX3_weigh ([] : List (Nat × Nat)) rfl (by decide +kernel)))
set_option maxRecDepth 20000 in
theorem gX3_weigh_J7_fill_53178 : GoodIn wsX3_weigh (va_wsS RX3 88 yJ7_fill_53178 wsJ7_fill_53178) := goodIn_app (good_rp ([7, 8, 9] : List Nat) rfl (by decide +kernel)) ggX3_weigh_J7_fill_53178
set_option maxRecDepth 20000 in
theorem ggX3_weigh_X3_isDown : GoodIn wsX3_weigh wsX3_isDown := (goodIn_cons (good_rb bq_wsX3_weigh ([(0, 14)] : List (Nat × Nat)) rfl (by decide +kernel)) (goodIn_app (good_rb bq_wsX3_weigh ([(0, 2), (0, 15)] : List (Nat × Nat)) rfl (by decide +kernel)) (goodIn_sb (fun _ h => (List.mem_cons_of_mem _ (List.mem_append_right _ h))) (by decide +kernel))))
set_option maxRecDepth 20000 in
theorem gX3_weigh_X3_isDown : GoodIn wsX3_weigh (wsV RX3 82 RX3 yX3_isDown wsX3_isDown) := goodIn_app (good_rp ([11, 12, 13, 14] : List Nat) rfl (by decide +kernel)) ggX3_weigh_X3_isDown
set_option maxRecDepth 20000 in
theorem bq_wsX3_wordOf : subq wsX3_wordOf [wsX3_wordOf_r1, wsX3_wordOf_r2] := ⟨(fun _ h => (List.mem_cons_of_mem _ (List.mem_append_left _ (List.mem_append_left _ h)))), (fun _ h => (List.mem_cons_of_mem _ (List.mem_append_left _ (List.mem_append_right _ h)))), trivial⟩
set_option maxRecDepth 20000 in
theorem ggX3_wordOf_J6_bitCount_0f7a4 : GoodIn wsX3_wordOf wsJ6_bitCount_0f7a4 := (goodIn_cons (good_rb bq_wsX3_wordOf ([(1, 3)] : List (Nat × Nat)) rfl (by decide +kernel)) (good_rb bq_wsX3_wordOf ([(1, 4), (1, 5), (1, 6)] : List (Nat × Nat)) rfl (by decide +kernel)))
set_option maxRecDepth 20000 in
theorem gX3_wordOf_J6_bitCount_0f7a4 : GoodIn wsX3_wordOf (va_wsS RX3 115 yJ6_bitCount_0f7a4 wsJ6_bitCount_0f7a4) := goodIn_app (good_rp ([25, 26, 27] : List Nat) rfl (by decide +kernel)) ggX3_wordOf_J6_bitCount_0f7a4
set_option maxRecDepth 20000 in
theorem ggX3_wordOf_X3_givesUnder : GoodIn wsX3_wordOf wsX3_givesUnder := (goodIn_cons (good_rb bq_wsX3_wordOf ([(0, 23)] : List (Nat × Nat)) rfl (by decide +kernel)) (goodIn_app (good_rb bq_wsX3_wordOf ([(0, 14), (0, 19), (0, 0), (0, 1), (0, 6), (0, 4), (0, 2)] : List (Nat × Nat)) rfl (by decide +kernel)) (goodIn_sb (fun _ h => (List.mem_cons_of_mem _ (List.mem_append_right _ h))) (by decide +kernel))))
set_option maxRecDepth 20000 in
theorem gX3_wordOf_X3_givesUnder : GoodIn wsX3_wordOf (wsV RX3 78 RX3 yX3_givesUnder wsX3_givesUnder) := goodIn_app (good_rp ([21, 22, 23, 13] : List Nat) rfl (by decide +kernel)) ggX3_wordOf_X3_givesUnder
set_option maxRecDepth 20000 in
theorem ggX3_wordOf_X3_hasSitter : GoodIn wsX3_wordOf wsX3_hasSitter := (goodIn_cons (good_rb bq_wsX3_wordOf ([(0, 13)] : List (Nat × Nat)) rfl (by decide +kernel)) (goodIn_app (good_rb bq_wsX3_wordOf ([(0, 14)] : List (Nat × Nat)) rfl (by decide +kernel)) (goodIn_sb (fun _ h => (List.mem_cons_of_mem _ (List.mem_append_right _ h))) (by decide +kernel))))
set_option maxRecDepth 20000 in
theorem gX3_wordOf_X3_hasSitter : GoodIn wsX3_wordOf (wsV RX3 74 RX3 yX3_hasSitter wsX3_hasSitter) := goodIn_app (good_rp ([10, 11, 12, 13] : List Nat) rfl (by decide +kernel)) ggX3_wordOf_X3_hasSitter
set_option maxRecDepth 20000 in
theorem ggX3_wordOf_X3_isDown : GoodIn wsX3_wordOf wsX3_isDown := (goodIn_cons (good_rb bq_wsX3_wordOf ([(0, 18)] : List (Nat × Nat)) rfl (by decide +kernel)) (goodIn_app (good_rb bq_wsX3_wordOf ([(0, 14), (0, 19)] : List (Nat × Nat)) rfl (by decide +kernel)) (goodIn_sb (fun _ h => (List.mem_cons_of_mem _ (List.mem_append_right _ h))) (by decide +kernel))))
set_option maxRecDepth 20000 in
theorem gX3_wordOf_X3_isDown : GoodIn wsX3_wordOf (wsV RX3 82 RX3 yX3_isDown wsX3_isDown) := goodIn_app (good_rp ([16, 17, 18, 13] : List Nat) rfl (by decide +kernel)) ggX3_wordOf_X3_isDown
set_option maxRecDepth 20000 in
theorem bq_wsX3_worthTo : subq wsX3_worthTo [[.methodLink RX3 82 yX3_isDown, .instanceMethod yX3_isDown, .selects RX3 yX3_isDown yX3_isDown, .initialized RX3, .code yX3_isDown cX3_isDown 2 (some .boolean), .fieldLink RX3 22 "ChairCane$Room" "sitters" "I", .fieldLink RX3 44 "ChairCane$Room" "sits" "I", .methodLink RX3 78 yX3_givesUnder, .instanceMethod yX3_givesUnder, .selects RX3 yX3_givesUnder yX3_givesUnder, .code yX3_givesUnder cX3_givesUnder 3 (some .int), .fieldLink RX3 32 "ChairCane$Room" "strandOf" "[I", .fieldLink RX3 35 "ChairCane$Room" "chairOf" "[I", .fieldLink RX3 53 "ChairCane$Room" "load" "[I", .fieldLink RX3 41 "ChairCane$Room" "cane" "[I", .fieldLink RX3 38 "ChairCane$Room" "weight" "[I"]] := ⟨(fun _ h => (List.mem_cons_of_mem _ (List.mem_append_left _ h))), trivial⟩
set_option maxRecDepth 20000 in
theorem ggX3_worthTo_X3_givesUnder : GoodIn wsX3_worthTo wsX3_givesUnder := (goodIn_cons (good_rb bq_wsX3_worthTo ([(0, 10)] : List (Nat × Nat)) rfl (by decide +kernel)) (goodIn_app (good_rb bq_wsX3_worthTo ([(0, 5), (0, 6), (0, 11), (0, 12), (0, 13), (0, 14), (0, 15)] : List (Nat × Nat)) rfl (by decide +kernel)) (goodIn_sb (fun _ h => (List.mem_cons_of_mem _ (List.mem_append_right _ h))) (by decide +kernel))))
set_option maxRecDepth 20000 in
theorem gX3_worthTo_X3_givesUnder : GoodIn wsX3_worthTo (wsV RX3 78 RX3 yX3_givesUnder wsX3_givesUnder) := goodIn_app (good_rp ([8, 9, 10, 4] : List Nat) rfl (by decide +kernel)) ggX3_worthTo_X3_givesUnder
set_option maxRecDepth 20000 in
theorem ggX3_worthTo_X3_isDown : GoodIn wsX3_worthTo wsX3_isDown := (goodIn_cons (good_rb bq_wsX3_worthTo ([(0, 4)] : List (Nat × Nat)) rfl (by decide +kernel)) (goodIn_app (good_rb bq_wsX3_worthTo ([(0, 5), (0, 6)] : List (Nat × Nat)) rfl (by decide +kernel)) (goodIn_sb (fun _ h => (List.mem_cons_of_mem _ (List.mem_append_right _ h))) (by decide +kernel))))
set_option maxRecDepth 20000 in
theorem gX3_worthTo_X3_isDown : GoodIn wsX3_worthTo (wsV RX3 82 RX3 yX3_isDown wsX3_isDown) := goodIn_app (good_rp ([1, 2, 3, 4] : List Nat) rfl (by decide +kernel)) ggX3_worthTo_X3_isDown
noncomputable def f_J6_bitCount_0f7a4 (F : Nat)  (x0 : Int32)  : Option (Int32) :=
  some ((((((((x0 - (((Int32.toUInt32 x0 >>> (Int32.toUInt32 1 &&& Int32.toUInt32 31)).toInt32) &&& 1431655765)) &&& 858993459) + (((Int32.toUInt32 (x0 - (((Int32.toUInt32 x0 >>> (Int32.toUInt32 1 &&& Int32.toUInt32 31)).toInt32) &&& 1431655765)) >>> (Int32.toUInt32 2 &&& Int32.toUInt32 31)).toInt32) &&& 858993459)) + ((Int32.toUInt32 (((x0 - (((Int32.toUInt32 x0 >>> (Int32.toUInt32 1 &&& Int32.toUInt32 31)).toInt32) &&& 1431655765)) &&& 858993459) + (((Int32.toUInt32 (x0 - (((Int32.toUInt32 x0 >>> (Int32.toUInt32 1 &&& Int32.toUInt32 31)).toInt32) &&& 1431655765)) >>> (Int32.toUInt32 2 &&& Int32.toUInt32 31)).toInt32) &&& 858993459)) >>> (Int32.toUInt32 4 &&& Int32.toUInt32 31)).toInt32)) &&& 252645135) + ((Int32.toUInt32 (((((x0 - (((Int32.toUInt32 x0 >>> (Int32.toUInt32 1 &&& Int32.toUInt32 31)).toInt32) &&& 1431655765)) &&& 858993459) + (((Int32.toUInt32 (x0 - (((Int32.toUInt32 x0 >>> (Int32.toUInt32 1 &&& Int32.toUInt32 31)).toInt32) &&& 1431655765)) >>> (Int32.toUInt32 2 &&& Int32.toUInt32 31)).toInt32) &&& 858993459)) + ((Int32.toUInt32 (((x0 - (((Int32.toUInt32 x0 >>> (Int32.toUInt32 1 &&& Int32.toUInt32 31)).toInt32) &&& 1431655765)) &&& 858993459) + (((Int32.toUInt32 (x0 - (((Int32.toUInt32 x0 >>> (Int32.toUInt32 1 &&& Int32.toUInt32 31)).toInt32) &&& 1431655765)) >>> (Int32.toUInt32 2 &&& Int32.toUInt32 31)).toInt32) &&& 858993459)) >>> (Int32.toUInt32 4 &&& Int32.toUInt32 31)).toInt32)) &&& 252645135) >>> (Int32.toUInt32 8 &&& Int32.toUInt32 31)).toInt32)) + ((Int32.toUInt32 ((((((x0 - (((Int32.toUInt32 x0 >>> (Int32.toUInt32 1 &&& Int32.toUInt32 31)).toInt32) &&& 1431655765)) &&& 858993459) + (((Int32.toUInt32 (x0 - (((Int32.toUInt32 x0 >>> (Int32.toUInt32 1 &&& Int32.toUInt32 31)).toInt32) &&& 1431655765)) >>> (Int32.toUInt32 2 &&& Int32.toUInt32 31)).toInt32) &&& 858993459)) + ((Int32.toUInt32 (((x0 - (((Int32.toUInt32 x0 >>> (Int32.toUInt32 1 &&& Int32.toUInt32 31)).toInt32) &&& 1431655765)) &&& 858993459) + (((Int32.toUInt32 (x0 - (((Int32.toUInt32 x0 >>> (Int32.toUInt32 1 &&& Int32.toUInt32 31)).toInt32) &&& 1431655765)) >>> (Int32.toUInt32 2 &&& Int32.toUInt32 31)).toInt32) &&& 858993459)) >>> (Int32.toUInt32 4 &&& Int32.toUInt32 31)).toInt32)) &&& 252645135) + ((Int32.toUInt32 (((((x0 - (((Int32.toUInt32 x0 >>> (Int32.toUInt32 1 &&& Int32.toUInt32 31)).toInt32) &&& 1431655765)) &&& 858993459) + (((Int32.toUInt32 (x0 - (((Int32.toUInt32 x0 >>> (Int32.toUInt32 1 &&& Int32.toUInt32 31)).toInt32) &&& 1431655765)) >>> (Int32.toUInt32 2 &&& Int32.toUInt32 31)).toInt32) &&& 858993459)) + ((Int32.toUInt32 (((x0 - (((Int32.toUInt32 x0 >>> (Int32.toUInt32 1 &&& Int32.toUInt32 31)).toInt32) &&& 1431655765)) &&& 858993459) + (((Int32.toUInt32 (x0 - (((Int32.toUInt32 x0 >>> (Int32.toUInt32 1 &&& Int32.toUInt32 31)).toInt32) &&& 1431655765)) >>> (Int32.toUInt32 2 &&& Int32.toUInt32 31)).toInt32) &&& 858993459)) >>> (Int32.toUInt32 4 &&& Int32.toUInt32 31)).toInt32)) &&& 252645135) >>> (Int32.toUInt32 8 &&& Int32.toUInt32 31)).toInt32)) >>> (Int32.toUInt32 16 &&& Int32.toUInt32 31)).toInt32)) &&& 63)
set_option maxRecDepth 20000 in
theorem bq_wsJ6_bitCount_0f7a4 : subq wsJ6_bitCount_0f7a4 [[.constant RJ6 265 (1431655765), .constant RJ6 266 (858993459), .constant RJ6 267 (252645135)]] := ⟨(fun _ h => (List.mem_cons_of_mem _ h)), trivial⟩
set_option maxHeartbeats 4000000 in
set_option maxRecDepth 100000 in
theorem c_J6_bitCount_0f7a4 (l : Launch) (D : va_G) (k : Nat → ClassId) (sz : Nat)   (F : Nat)  (x0 : Int32)   {res : Int32} (h : f_J6_bitCount_0f7a4 F x0 = some res) : CtI l yJ6_bitCount_0f7a4 wsJ6_bitCount_0f7a4 (rmK 1 0 0) [.int x0] D k sz ([]) (fun r (_ : Unit) => r = res) (fun _ : Unit => []) 0 0 := by
  refine CtI.mk (cc := cJ6_bitCount_0f7a4) (maxL := 1) (ret := (some .int)) (by decide) rfl (Nat.le_of_ble_eq_true rfl) ?_
  intro p e s m below meth c A ls E hP hD hS hl
  obtain ⟨hx, hb, hr, hml, hown, hts, hlocks, hin, hG, hA⟩ := E
  have hown : s.vm.findClass RJ6 = some m.cls := hown
  have hl : lv_has ls 1 [(0, .int x0)] := hl
  refine lv_iload_n hx hb dJ6_bitCount_0f7a4_0 rfl (lv_at hl 0 rfl) ?_
  refine lv_iload_n hx hb dJ6_bitCount_0f7a4_1 rfl (lv_at hl 0 rfl) ?_
  refine lv_iconst (v := 1) hx hb dJ6_bitCount_0f7a4_2 (by decide) ?_
  refine lv_iushr (v := (Int32.toUInt32 x0 >>> (Int32.toUInt32 1 &&& Int32.toUInt32 31)).toInt32) hx hb dJ6_bitCount_0f7a4_3 rfl ?_
  refine lv_ldcw (v := 1431655765) hx hb hown (hts (.constant RJ6 265 (1431655765)) (mem_b bq_wsJ6_bitCount_0f7a4 0 0 rfl)) dJ6_bitCount_0f7a4_4 ?_
  refine lv_iand hx hb dJ6_bitCount_0f7a4_7 ?_
  refine lv_isub hx hb dJ6_bitCount_0f7a4_8 ?_
  refine lv_istore_n (lv' := [(0, .int (x0 - (((Int32.toUInt32 x0 >>> (Int32.toUInt32 1 &&& Int32.toUInt32 31)).toInt32) &&& 1431655765)))]) hx hb dJ6_bitCount_0f7a4_9 rfl hl (by decide) rfl (fun ls hl => ?_)
  refine lv_iload_n hx hb dJ6_bitCount_0f7a4_10 rfl (lv_at hl 0 rfl) ?_
  refine lv_ldcw (v := 858993459) hx hb hown (hts (.constant RJ6 266 (858993459)) (mem_b bq_wsJ6_bitCount_0f7a4 0 1 rfl)) dJ6_bitCount_0f7a4_11 ?_
  refine lv_iand hx hb dJ6_bitCount_0f7a4_14 ?_
  refine lv_iload_n hx hb dJ6_bitCount_0f7a4_15 rfl (lv_at hl 0 rfl) ?_
  refine lv_iconst (v := 2) hx hb dJ6_bitCount_0f7a4_16 (by decide) ?_
  refine lv_iushr (v := (Int32.toUInt32 (x0 - (((Int32.toUInt32 x0 >>> (Int32.toUInt32 1 &&& Int32.toUInt32 31)).toInt32) &&& 1431655765)) >>> (Int32.toUInt32 2 &&& Int32.toUInt32 31)).toInt32) hx hb dJ6_bitCount_0f7a4_17 rfl ?_
  refine lv_ldcw (v := 858993459) hx hb hown (hts (.constant RJ6 266 (858993459)) (mem_b bq_wsJ6_bitCount_0f7a4 0 1 rfl)) dJ6_bitCount_0f7a4_18 ?_
  refine lv_iand hx hb dJ6_bitCount_0f7a4_21 ?_
  refine lv_iadd hx hb dJ6_bitCount_0f7a4_22 ?_
  refine lv_istore_n (lv' := [(0, .int (((x0 - (((Int32.toUInt32 x0 >>> (Int32.toUInt32 1 &&& Int32.toUInt32 31)).toInt32) &&& 1431655765)) &&& 858993459) + (((Int32.toUInt32 (x0 - (((Int32.toUInt32 x0 >>> (Int32.toUInt32 1 &&& Int32.toUInt32 31)).toInt32) &&& 1431655765)) >>> (Int32.toUInt32 2 &&& Int32.toUInt32 31)).toInt32) &&& 858993459)))]) hx hb dJ6_bitCount_0f7a4_23 rfl hl (by decide) rfl (fun ls hl => ?_)
  refine lv_iload_n hx hb dJ6_bitCount_0f7a4_24 rfl (lv_at hl 0 rfl) ?_
  refine lv_iload_n hx hb dJ6_bitCount_0f7a4_25 rfl (lv_at hl 0 rfl) ?_
  refine lv_iconst (v := 4) hx hb dJ6_bitCount_0f7a4_26 (by decide) ?_
  refine lv_iushr (v := (Int32.toUInt32 (((x0 - (((Int32.toUInt32 x0 >>> (Int32.toUInt32 1 &&& Int32.toUInt32 31)).toInt32) &&& 1431655765)) &&& 858993459) + (((Int32.toUInt32 (x0 - (((Int32.toUInt32 x0 >>> (Int32.toUInt32 1 &&& Int32.toUInt32 31)).toInt32) &&& 1431655765)) >>> (Int32.toUInt32 2 &&& Int32.toUInt32 31)).toInt32) &&& 858993459)) >>> (Int32.toUInt32 4 &&& Int32.toUInt32 31)).toInt32) hx hb dJ6_bitCount_0f7a4_27 rfl ?_
  refine lv_iadd hx hb dJ6_bitCount_0f7a4_28 ?_
  refine lv_ldcw (v := 252645135) hx hb hown (hts (.constant RJ6 267 (252645135)) (mem_b bq_wsJ6_bitCount_0f7a4 0 2 rfl)) dJ6_bitCount_0f7a4_29 ?_
  refine lv_iand hx hb dJ6_bitCount_0f7a4_32 ?_
  refine lv_istore_n (lv' := [(0, .int (((((x0 - (((Int32.toUInt32 x0 >>> (Int32.toUInt32 1 &&& Int32.toUInt32 31)).toInt32) &&& 1431655765)) &&& 858993459) + (((Int32.toUInt32 (x0 - (((Int32.toUInt32 x0 >>> (Int32.toUInt32 1 &&& Int32.toUInt32 31)).toInt32) &&& 1431655765)) >>> (Int32.toUInt32 2 &&& Int32.toUInt32 31)).toInt32) &&& 858993459)) + ((Int32.toUInt32 (((x0 - (((Int32.toUInt32 x0 >>> (Int32.toUInt32 1 &&& Int32.toUInt32 31)).toInt32) &&& 1431655765)) &&& 858993459) + (((Int32.toUInt32 (x0 - (((Int32.toUInt32 x0 >>> (Int32.toUInt32 1 &&& Int32.toUInt32 31)).toInt32) &&& 1431655765)) >>> (Int32.toUInt32 2 &&& Int32.toUInt32 31)).toInt32) &&& 858993459)) >>> (Int32.toUInt32 4 &&& Int32.toUInt32 31)).toInt32)) &&& 252645135))]) hx hb dJ6_bitCount_0f7a4_33 rfl hl (by decide) rfl (fun ls hl => ?_)
  refine lv_iload_n hx hb dJ6_bitCount_0f7a4_34 rfl (lv_at hl 0 rfl) ?_
  refine lv_iload_n hx hb dJ6_bitCount_0f7a4_35 rfl (lv_at hl 0 rfl) ?_
  refine lv_bipush (v := 8) hx hb dJ6_bitCount_0f7a4_36 (by decide) ?_
  refine lv_iushr (v := (Int32.toUInt32 (((((x0 - (((Int32.toUInt32 x0 >>> (Int32.toUInt32 1 &&& Int32.toUInt32 31)).toInt32) &&& 1431655765)) &&& 858993459) + (((Int32.toUInt32 (x0 - (((Int32.toUInt32 x0 >>> (Int32.toUInt32 1 &&& Int32.toUInt32 31)).toInt32) &&& 1431655765)) >>> (Int32.toUInt32 2 &&& Int32.toUInt32 31)).toInt32) &&& 858993459)) + ((Int32.toUInt32 (((x0 - (((Int32.toUInt32 x0 >>> (Int32.toUInt32 1 &&& Int32.toUInt32 31)).toInt32) &&& 1431655765)) &&& 858993459) + (((Int32.toUInt32 (x0 - (((Int32.toUInt32 x0 >>> (Int32.toUInt32 1 &&& Int32.toUInt32 31)).toInt32) &&& 1431655765)) >>> (Int32.toUInt32 2 &&& Int32.toUInt32 31)).toInt32) &&& 858993459)) >>> (Int32.toUInt32 4 &&& Int32.toUInt32 31)).toInt32)) &&& 252645135) >>> (Int32.toUInt32 8 &&& Int32.toUInt32 31)).toInt32) hx hb dJ6_bitCount_0f7a4_38 rfl ?_
  refine lv_iadd hx hb dJ6_bitCount_0f7a4_39 ?_
  refine lv_istore_n (lv' := [(0, .int ((((((x0 - (((Int32.toUInt32 x0 >>> (Int32.toUInt32 1 &&& Int32.toUInt32 31)).toInt32) &&& 1431655765)) &&& 858993459) + (((Int32.toUInt32 (x0 - (((Int32.toUInt32 x0 >>> (Int32.toUInt32 1 &&& Int32.toUInt32 31)).toInt32) &&& 1431655765)) >>> (Int32.toUInt32 2 &&& Int32.toUInt32 31)).toInt32) &&& 858993459)) + ((Int32.toUInt32 (((x0 - (((Int32.toUInt32 x0 >>> (Int32.toUInt32 1 &&& Int32.toUInt32 31)).toInt32) &&& 1431655765)) &&& 858993459) + (((Int32.toUInt32 (x0 - (((Int32.toUInt32 x0 >>> (Int32.toUInt32 1 &&& Int32.toUInt32 31)).toInt32) &&& 1431655765)) >>> (Int32.toUInt32 2 &&& Int32.toUInt32 31)).toInt32) &&& 858993459)) >>> (Int32.toUInt32 4 &&& Int32.toUInt32 31)).toInt32)) &&& 252645135) + ((Int32.toUInt32 (((((x0 - (((Int32.toUInt32 x0 >>> (Int32.toUInt32 1 &&& Int32.toUInt32 31)).toInt32) &&& 1431655765)) &&& 858993459) + (((Int32.toUInt32 (x0 - (((Int32.toUInt32 x0 >>> (Int32.toUInt32 1 &&& Int32.toUInt32 31)).toInt32) &&& 1431655765)) >>> (Int32.toUInt32 2 &&& Int32.toUInt32 31)).toInt32) &&& 858993459)) + ((Int32.toUInt32 (((x0 - (((Int32.toUInt32 x0 >>> (Int32.toUInt32 1 &&& Int32.toUInt32 31)).toInt32) &&& 1431655765)) &&& 858993459) + (((Int32.toUInt32 (x0 - (((Int32.toUInt32 x0 >>> (Int32.toUInt32 1 &&& Int32.toUInt32 31)).toInt32) &&& 1431655765)) >>> (Int32.toUInt32 2 &&& Int32.toUInt32 31)).toInt32) &&& 858993459)) >>> (Int32.toUInt32 4 &&& Int32.toUInt32 31)).toInt32)) &&& 252645135) >>> (Int32.toUInt32 8 &&& Int32.toUInt32 31)).toInt32)))]) hx hb dJ6_bitCount_0f7a4_40 rfl hl (by decide) rfl (fun ls hl => ?_)
  refine lv_iload_n hx hb dJ6_bitCount_0f7a4_41 rfl (lv_at hl 0 rfl) ?_
  refine lv_iload_n hx hb dJ6_bitCount_0f7a4_42 rfl (lv_at hl 0 rfl) ?_
  refine lv_bipush (v := 16) hx hb dJ6_bitCount_0f7a4_43 (by decide) ?_
  refine lv_iushr (v := (Int32.toUInt32 ((((((x0 - (((Int32.toUInt32 x0 >>> (Int32.toUInt32 1 &&& Int32.toUInt32 31)).toInt32) &&& 1431655765)) &&& 858993459) + (((Int32.toUInt32 (x0 - (((Int32.toUInt32 x0 >>> (Int32.toUInt32 1 &&& Int32.toUInt32 31)).toInt32) &&& 1431655765)) >>> (Int32.toUInt32 2 &&& Int32.toUInt32 31)).toInt32) &&& 858993459)) + ((Int32.toUInt32 (((x0 - (((Int32.toUInt32 x0 >>> (Int32.toUInt32 1 &&& Int32.toUInt32 31)).toInt32) &&& 1431655765)) &&& 858993459) + (((Int32.toUInt32 (x0 - (((Int32.toUInt32 x0 >>> (Int32.toUInt32 1 &&& Int32.toUInt32 31)).toInt32) &&& 1431655765)) >>> (Int32.toUInt32 2 &&& Int32.toUInt32 31)).toInt32) &&& 858993459)) >>> (Int32.toUInt32 4 &&& Int32.toUInt32 31)).toInt32)) &&& 252645135) + ((Int32.toUInt32 (((((x0 - (((Int32.toUInt32 x0 >>> (Int32.toUInt32 1 &&& Int32.toUInt32 31)).toInt32) &&& 1431655765)) &&& 858993459) + (((Int32.toUInt32 (x0 - (((Int32.toUInt32 x0 >>> (Int32.toUInt32 1 &&& Int32.toUInt32 31)).toInt32) &&& 1431655765)) >>> (Int32.toUInt32 2 &&& Int32.toUInt32 31)).toInt32) &&& 858993459)) + ((Int32.toUInt32 (((x0 - (((Int32.toUInt32 x0 >>> (Int32.toUInt32 1 &&& Int32.toUInt32 31)).toInt32) &&& 1431655765)) &&& 858993459) + (((Int32.toUInt32 (x0 - (((Int32.toUInt32 x0 >>> (Int32.toUInt32 1 &&& Int32.toUInt32 31)).toInt32) &&& 1431655765)) >>> (Int32.toUInt32 2 &&& Int32.toUInt32 31)).toInt32) &&& 858993459)) >>> (Int32.toUInt32 4 &&& Int32.toUInt32 31)).toInt32)) &&& 252645135) >>> (Int32.toUInt32 8 &&& Int32.toUInt32 31)).toInt32)) >>> (Int32.toUInt32 16 &&& Int32.toUInt32 31)).toInt32) hx hb dJ6_bitCount_0f7a4_45 rfl ?_
  refine lv_iadd hx hb dJ6_bitCount_0f7a4_46 ?_
  refine lv_istore_n (lv' := [(0, .int (((((((x0 - (((Int32.toUInt32 x0 >>> (Int32.toUInt32 1 &&& Int32.toUInt32 31)).toInt32) &&& 1431655765)) &&& 858993459) + (((Int32.toUInt32 (x0 - (((Int32.toUInt32 x0 >>> (Int32.toUInt32 1 &&& Int32.toUInt32 31)).toInt32) &&& 1431655765)) >>> (Int32.toUInt32 2 &&& Int32.toUInt32 31)).toInt32) &&& 858993459)) + ((Int32.toUInt32 (((x0 - (((Int32.toUInt32 x0 >>> (Int32.toUInt32 1 &&& Int32.toUInt32 31)).toInt32) &&& 1431655765)) &&& 858993459) + (((Int32.toUInt32 (x0 - (((Int32.toUInt32 x0 >>> (Int32.toUInt32 1 &&& Int32.toUInt32 31)).toInt32) &&& 1431655765)) >>> (Int32.toUInt32 2 &&& Int32.toUInt32 31)).toInt32) &&& 858993459)) >>> (Int32.toUInt32 4 &&& Int32.toUInt32 31)).toInt32)) &&& 252645135) + ((Int32.toUInt32 (((((x0 - (((Int32.toUInt32 x0 >>> (Int32.toUInt32 1 &&& Int32.toUInt32 31)).toInt32) &&& 1431655765)) &&& 858993459) + (((Int32.toUInt32 (x0 - (((Int32.toUInt32 x0 >>> (Int32.toUInt32 1 &&& Int32.toUInt32 31)).toInt32) &&& 1431655765)) >>> (Int32.toUInt32 2 &&& Int32.toUInt32 31)).toInt32) &&& 858993459)) + ((Int32.toUInt32 (((x0 - (((Int32.toUInt32 x0 >>> (Int32.toUInt32 1 &&& Int32.toUInt32 31)).toInt32) &&& 1431655765)) &&& 858993459) + (((Int32.toUInt32 (x0 - (((Int32.toUInt32 x0 >>> (Int32.toUInt32 1 &&& Int32.toUInt32 31)).toInt32) &&& 1431655765)) >>> (Int32.toUInt32 2 &&& Int32.toUInt32 31)).toInt32) &&& 858993459)) >>> (Int32.toUInt32 4 &&& Int32.toUInt32 31)).toInt32)) &&& 252645135) >>> (Int32.toUInt32 8 &&& Int32.toUInt32 31)).toInt32)) + ((Int32.toUInt32 ((((((x0 - (((Int32.toUInt32 x0 >>> (Int32.toUInt32 1 &&& Int32.toUInt32 31)).toInt32) &&& 1431655765)) &&& 858993459) + (((Int32.toUInt32 (x0 - (((Int32.toUInt32 x0 >>> (Int32.toUInt32 1 &&& Int32.toUInt32 31)).toInt32) &&& 1431655765)) >>> (Int32.toUInt32 2 &&& Int32.toUInt32 31)).toInt32) &&& 858993459)) + ((Int32.toUInt32 (((x0 - (((Int32.toUInt32 x0 >>> (Int32.toUInt32 1 &&& Int32.toUInt32 31)).toInt32) &&& 1431655765)) &&& 858993459) + (((Int32.toUInt32 (x0 - (((Int32.toUInt32 x0 >>> (Int32.toUInt32 1 &&& Int32.toUInt32 31)).toInt32) &&& 1431655765)) >>> (Int32.toUInt32 2 &&& Int32.toUInt32 31)).toInt32) &&& 858993459)) >>> (Int32.toUInt32 4 &&& Int32.toUInt32 31)).toInt32)) &&& 252645135) + ((Int32.toUInt32 (((((x0 - (((Int32.toUInt32 x0 >>> (Int32.toUInt32 1 &&& Int32.toUInt32 31)).toInt32) &&& 1431655765)) &&& 858993459) + (((Int32.toUInt32 (x0 - (((Int32.toUInt32 x0 >>> (Int32.toUInt32 1 &&& Int32.toUInt32 31)).toInt32) &&& 1431655765)) >>> (Int32.toUInt32 2 &&& Int32.toUInt32 31)).toInt32) &&& 858993459)) + ((Int32.toUInt32 (((x0 - (((Int32.toUInt32 x0 >>> (Int32.toUInt32 1 &&& Int32.toUInt32 31)).toInt32) &&& 1431655765)) &&& 858993459) + (((Int32.toUInt32 (x0 - (((Int32.toUInt32 x0 >>> (Int32.toUInt32 1 &&& Int32.toUInt32 31)).toInt32) &&& 1431655765)) >>> (Int32.toUInt32 2 &&& Int32.toUInt32 31)).toInt32) &&& 858993459)) >>> (Int32.toUInt32 4 &&& Int32.toUInt32 31)).toInt32)) &&& 252645135) >>> (Int32.toUInt32 8 &&& Int32.toUInt32 31)).toInt32)) >>> (Int32.toUInt32 16 &&& Int32.toUInt32 31)).toInt32)))]) hx hb dJ6_bitCount_0f7a4_47 rfl hl (by decide) rfl (fun ls hl => ?_)
  refine lv_iload_n hx hb dJ6_bitCount_0f7a4_48 rfl (lv_at hl 0 rfl) ?_
  refine lv_bipush (v := 63) hx hb dJ6_bitCount_0f7a4_49 (by decide) ?_
  refine lv_iand hx hb dJ6_bitCount_0f7a4_51 ?_
  exact fw_endI (rv := fun b : Int32 => b) (wp := fun b : Int32 => []) hx hb hr hlocks h rfl hP hD hS dJ6_bitCount_0f7a4_52
noncomputable def b_J7_fill_53178_5 (F : Nat) (fn : Nat)   (k5 : (Int32 × Int32 × Int32 × (Nat → Int32)) → Option ((Nat → Int32))) (a5 : (Int32 × Int32 × Int32 × (Nat → Int32))) : Option ((Nat → Int32)) :=
  if a5.2.2.1 ≤ a5.2.1 then (some a5.2.2.2) else (if ib a5.2.1 fn then (k5 (a5.1, (a5.2.1 + 1), a5.2.2.1, (upd a5.2.2.2 (Int32.toNatClampNeg a5.2.1) a5.1))) else none)
noncomputable def f_J7_fill_53178 (F : Nat) (fn : Nat) (x1 : Int32) (fr : Nat → Int32) : Option ((Nat → Int32)) :=
  lp (b_J7_fill_53178_5 F fn) F (x1, 0, (Int32.ofNat fn), fr)
set_option maxHeartbeats 4000000 in
set_option maxRecDepth 100000 in
theorem c_J7_fill_53178 (l : Launch) (D : va_G) (k : Nat → ClassId) (sz : Nat)  (fa : Nat) (F : Nat) (fn : Nat) (x1 : Int32) (fr : Nat → Int32)  {res : (Nat → Int32)} (h : f_J7_fill_53178 F fn x1 fr = some res) : CtV l yJ7_fill_53178 wsJ7_fill_53178 (rmK 1 0 0) [.ref fa, .int x1] D k sz (([(fa, hcI k fn fr)] : va_W)) (fun (_ : Unit) => True) (fun _ : Unit => ([(fa, hcI k fn res)] : va_W)) 0 0 := by
  refine CtV.mk (cc := cJ7_fill_53178) (maxL := 4) (ret := none) (by decide) rfl (Nat.le_of_ble_eq_true rfl) ?_
  intro p e s m below meth c A ls E hP hD hS hl
  obtain ⟨hx, hb, hr, hml, hown, hts, hlocks, hin, hG, hA⟩ := E
  have hown : s.vm.findClass RJ7 = some m.cls := hown
  have hl : lv_has ls 4 [(0, .ref fa), (1, .int x1)] := hl
  have B5 : ∀ a5 : (Int32 × Int32 × Int32 × (Nat → Int32)), lp (b_J7_fill_53178_5 F fn) F a5 = some res → ∀ (H : Heap) (locs : List Loc) (ls : Array Slot), va_P D vwCl (([(fa, hcI k fn a5.2.2.2)] : va_W)) H → va_D A (([(fa, hcI k fn a5.2.2.2)] : va_W)) → va_S A s.heap H locs → lv_has ls 4 [(0, .ref fa), (1, .int a5.1), (2, .int a5.2.1), (3, .int a5.2.2.1)] → W p l e (rmK 1 0 0) s m (List.toArray [.ref fa, .int x1]) below meth c H locs 0 0 (MQ below (va_Qv (fun (_ : Unit) => True) (hcB D (fun _ : Unit => ([(fa, hcI k fn res)] : va_W)) A) A) (List.toArray [.ref fa, .int x1]) s 0 0 A) (F0 m 5 ls []) := by
    refine lp_W ?_ F
    intro k5 hk5 a5 h H locs ls hP hD hS hl
    have hc5 : ∀ (v1 : Int32) (v2 : Int32) (v3 : Int32) (fr : Nat → Int32), k5 (v1, v2, v3, fr) = some res → ∀ (H : Heap) (locs : List Loc) (ls : Array Slot), va_P D vwCl (([(fa, hcI k fn fr)] : va_W)) H → va_D A (([(fa, hcI k fn fr)] : va_W)) → va_S A s.heap H locs → lv_has ls 4 [(0, .ref fa), (1, .int v1), (2, .int v2), (3, .int v3)] → W p l e (rmK 1 0 0) s m (List.toArray [.ref fa, .int x1]) below meth c H locs 0 0 (MQ below (va_Qv (fun (_ : Unit) => True) (hcB D (fun _ : Unit => ([(fa, hcI k fn res)] : va_W)) A) A) (List.toArray [.ref fa, .int x1]) s 0 0 A) (F0 m 5 ls []) := fun v1 v2 v3 fr => hk5 (v1, v2, v3, fr)
    refine lv_iload_n hx hb dJ7_fill_53178_5 rfl (lv_at hl 2 rfl) ?_
    refine lv_iload_n hx hb dJ7_fill_53178_6 rfl (lv_at hl 3 rfl) ?_
    refine lv_icmp_ge (tgt := 20) hx hb dJ7_fill_53178_7 (by decide) (fun c1 => ?_) (fun c1 => ?_)
    · have h := fw_t c1 h
      exact fw_endV (wp := fun b : (Nat → Int32) => ([(fa, hcI k fn b)] : va_W)) hx hb hr hlocks h hP hD hS dJ7_fill_53178_20
    · have h := fw_f c1 h
      refine lv_aload_n hx hb dJ7_fill_53178_10 rfl (lv_at hl 0 rfl) ?_
      refine lv_iload_n hx hb dJ7_fill_53178_11 rfl (lv_at hl 2 rfl) ?_
      refine lv_iload_n hx hb dJ7_fill_53178_12 rfl (lv_at hl 1 rfl) ?_
      obtain ⟨g2, h⟩ := fw_g h
      refine va_iast hx hb hG.1 hP hD hS 0 0 rfl rfl (ib_vp g2) dJ7_fill_53178_13 (fun H locs hP hD hS => ?_)
      refine lv_iinc (v := (a5.2.1 + 1)) (lv' := [(2, .int (a5.2.1 + 1)), (0, .ref fa), (1, .int a5.1), (3, .int a5.2.2.1)]) hx hb dJ7_fill_53178_14 hl (k := 2) rfl rfl (by decide) rfl (fun ls hl => ?_)
      refine lv_goto (tgt := 5) hx hb dJ7_fill_53178_17 (by decide) ?_
      exact hc5 _ _ _ _ h _ _ _ hP hD hS (lv_sub hl [1, 2, 0, 3] rfl)
  have C5 : ∀ (v1 : Int32) (v2 : Int32) (v3 : Int32) (fr : Nat → Int32), lp (b_J7_fill_53178_5 F fn) F (v1, v2, v3, fr) = some res → ∀ (H : Heap) (locs : List Loc) (ls : Array Slot), va_P D vwCl (([(fa, hcI k fn fr)] : va_W)) H → va_D A (([(fa, hcI k fn fr)] : va_W)) → va_S A s.heap H locs → lv_has ls 4 [(0, .ref fa), (1, .int v1), (2, .int v2), (3, .int v3)] → W p l e (rmK 1 0 0) s m (List.toArray [.ref fa, .int x1]) below meth c H locs 0 0 (MQ below (va_Qv (fun (_ : Unit) => True) (hcB D (fun _ : Unit => ([(fa, hcI k fn res)] : va_W)) A) A) (List.toArray [.ref fa, .int x1]) s 0 0 A) (F0 m 5 ls []) := fun v1 v2 v3 fr => B5 (v1, v2, v3, fr)
  refine lv_iconst (v := 0) hx hb dJ7_fill_53178_0 (by decide) ?_
  refine lv_istore_n (lv' := [(2, .int 0), (0, .ref fa), (1, .int x1)]) hx hb dJ7_fill_53178_1 rfl hl (by decide) rfl (fun ls hl => ?_)
  refine lv_aload_n hx hb dJ7_fill_53178_2 rfl (lv_at hl 1 rfl) ?_
  refine va_alen hx hb hG.1 hP 0 0 rfl rfl (v := (Int32.ofNat fn)) rfl dJ7_fill_53178_3 ?_
  refine lv_istore_n (lv' := [(3, .int (Int32.ofNat fn)), (2, .int 0), (0, .ref fa), (1, .int x1)]) hx hb dJ7_fill_53178_4 rfl hl (by decide) rfl (fun ls hl => ?_)
  exact C5 _ _ _ _ h _ _ _ hP hD hS (lv_sub hl [2, 3, 1, 0] rfl)
noncomputable def f_X3_clear (F : Nat)   (rm : OB) : Option (OB) :=
  some ((uF (uF (uF (uF rm.1 0 0) 1 0) 2 0) 3 0), rm.2.1, rm.2.2)
set_option maxRecDepth 20000 in
theorem bq_wsX3_clear : subq wsX3_clear [[.fieldLink RX3 9 "ChairCane$Room" "told" "Z", .fieldLink RX3 15 "ChairCane$Room" "strands" "I", .fieldLink RX3 19 "ChairCane$Room" "chairs" "I", .fieldLink RX3 22 "ChairCane$Room" "sitters" "I"]] := ⟨(fun _ h => (List.mem_cons_of_mem _ (List.mem_append_left _ h))), trivial⟩
set_option maxHeartbeats 4000000 in
set_option maxRecDepth 100000 in
theorem c_X3_clear (l : Launch) (D : va_G) (k : Nat → ClassId) (sz : Nat)  (xa : Nat → Nat) (F : Nat)   (rm : OB)  {res : OB} (h : f_X3_clear F rm = some res) : CtV l yX3_clear wsX3_clear (rmK 1 0 0) [.ref (xa 0)] D k sz (rmW k xa rm) (fun (_ : Unit) => True) (fun _ : Unit => rmW k xa res) 0 0 := by
  refine CtV.mk (cc := cX3_clear) (maxL := 1) (ret := none) (by decide) rfl (Nat.le_of_ble_eq_true rfl) ?_
  intro p e s m below meth c A ls E hP hD hS hl
  obtain ⟨hx, hb, hr, hml, hown, hts, hlocks, hin, hG, hA⟩ := E
  have hown : s.vm.findClass RX3 = some m.cls := hown
  have in3 : ∀ w ∈ u_ws RX3 TX3 17, w ∈ wsX3_clear := fun _ h => List.mem_cons_of_mem _ (List.mem_append_right _ h)
  have hl : lv_has ls 1 [(0, .ref (xa 0))] := hl
  refine lv_aload_n hx hb dX3_clear_0 rfl (lv_at hl 0 rfl) ?_
  refine lv_iconst (v := 0) hx hb dX3_clear_1 (by decide) ?_
  refine va_put (D := D) (ci := 2) (v := .int 0) (C := RX3) (T := TX3) (N := 17) hx hb hts in3 tyX3 tyX3_ok nmX3 hown hG.1 hP hD hS 0 rfl rfl 0 (by decide) (hts (.fieldLink RX3 9 "ChairCane$Room" "told" "Z") (mem_b bq_wsX3_clear 0 0 rfl)) (fun _ h9 => h9) rfl (tyX3_ok 0 (by decide)) rfl rfl (Nat.le_of_ble_eq_true rfl) dX3_clear_2 (fun H locs hP hD hS => ?_)
  refine lv_aload_n hx hb dX3_clear_5 rfl (lv_at hl 0 rfl) ?_
  refine lv_iconst (v := 0) hx hb dX3_clear_6 (by decide) ?_
  refine va_put (D := D) (ci := 2) (v := .int 0) (C := RX3) (T := TX3) (N := 17) hx hb hts in3 tyX3 tyX3_ok nmX3 hown hG.1 hP hD hS 0 rfl rfl 1 (by decide) (hts (.fieldLink RX3 15 "ChairCane$Room" "strands" "I") (mem_b bq_wsX3_clear 0 1 rfl)) (fun _ h9 => h9) rfl (tyX3_ok 1 (by decide)) rfl rfl (Nat.le_of_ble_eq_true rfl) dX3_clear_7 (fun H locs hP hD hS => ?_)
  refine lv_aload_n hx hb dX3_clear_10 rfl (lv_at hl 0 rfl) ?_
  refine lv_iconst (v := 0) hx hb dX3_clear_11 (by decide) ?_
  refine va_put (D := D) (ci := 2) (v := .int 0) (C := RX3) (T := TX3) (N := 17) hx hb hts in3 tyX3 tyX3_ok nmX3 hown hG.1 hP hD hS 0 rfl rfl 2 (by decide) (hts (.fieldLink RX3 19 "ChairCane$Room" "chairs" "I") (mem_b bq_wsX3_clear 0 2 rfl)) (fun _ h9 => h9) rfl (tyX3_ok 2 (by decide)) rfl rfl (Nat.le_of_ble_eq_true rfl) dX3_clear_12 (fun H locs hP hD hS => ?_)
  refine lv_aload_n hx hb dX3_clear_15 rfl (lv_at hl 0 rfl) ?_
  refine lv_iconst (v := 0) hx hb dX3_clear_16 (by decide) ?_
  refine va_put (D := D) (ci := 2) (v := .int 0) (C := RX3) (T := TX3) (N := 17) hx hb hts in3 tyX3 tyX3_ok nmX3 hown hG.1 hP hD hS 0 rfl rfl 3 (by decide) (hts (.fieldLink RX3 22 "ChairCane$Room" "sitters" "I") (mem_b bq_wsX3_clear 0 3 rfl)) (fun _ h9 => h9) rfl (tyX3_ok 3 (by decide)) rfl rfl (Nat.le_of_ble_eq_true rfl) dX3_clear_17 (fun H locs hP hD hS => ?_)
  exact fw_endV (wp := fun b : OB => rmW k xa b) hx hb hr hlocks h hP hD hS dX3_clear_20
noncomputable def b_X3_hasStrand_17 (F : Nat)  (rm : OB)  (y0 : Int32) : Option (Int32) :=
  if bo y0 then (some y0) else none
noncomputable def b_X3_hasStrand_16 (F : Nat)  (rm : OB)   : Option (Int32) :=
  b_X3_hasStrand_17 F rm 0
noncomputable def f_X3_hasStrand (F : Nat)  (x1 : Int32) (rm : OB) : Option (Int32) :=
  if x1 < 0 then (b_X3_hasStrand_16 F rm ) else (if (rm.1 1) ≤ x1 then (b_X3_hasStrand_16 F rm ) else (b_X3_hasStrand_17 F rm 1))
set_option maxRecDepth 20000 in
theorem bq_wsX3_hasStrand : subq wsX3_hasStrand [[.fieldLink RX3 15 "ChairCane$Room" "strands" "I"]] := ⟨(fun _ h => (List.mem_cons_of_mem _ (List.mem_append_left _ h))), trivial⟩
set_option maxHeartbeats 4000000 in
set_option maxRecDepth 100000 in
theorem c_X3_hasStrand (l : Launch) (D : va_G) (k : Nat → ClassId) (sz : Nat)  (xa : Nat → Nat) (F : Nat)  (x1 : Int32) (rm : OB)  {res : Int32} (h : f_X3_hasStrand F x1 rm = some res) : CtI l yX3_hasStrand wsX3_hasStrand (rmK 1 0 0) [.ref (xa 0), .int x1] D k sz (rmW k xa rm) (fun r (_ : Unit) => r = res) (fun _ : Unit => rmW k xa rm) 0 0 := by
  refine CtI.mk (cc := cX3_hasStrand) (maxL := 2) (ret := (some .boolean)) (by decide) rfl (Nat.le_of_ble_eq_true rfl) ?_
  intro p e s m below meth c A ls E hP hD hS hl
  obtain ⟨hx, hb, hr, hml, hown, hts, hlocks, hin, hG, hA⟩ := E
  have hown : s.vm.findClass RX3 = some m.cls := hown
  have in3 : ∀ w ∈ u_ws RX3 TX3 17, w ∈ wsX3_hasStrand := fun _ h => List.mem_cons_of_mem _ (List.mem_append_right _ h)
  have hl : lv_has ls 2 [(0, .ref (xa 0)), (1, .int x1)] := hl
  have B17 : ∀ (y0 : Int32) (H : Heap) (locs : List Loc) (ls : Array Slot), b_X3_hasStrand_17 F rm y0 = some res → va_P D vwCl (rmW k xa rm) H → va_D A (rmW k xa rm) → va_S A s.heap H locs → lv_has ls 2 [] → W p l e (rmK 1 0 0) s m (List.toArray [.ref (xa 0), .int x1]) below meth c H locs 0 0 (MQ below (va_Qi (fun r (_ : Unit) => r = res) (hcB D (fun _ : Unit => rmW k xa rm) A) A) (List.toArray [.ref (xa 0), .int x1]) s 0 0 A) (F0 m 17 ls [.int y0]) := by
    intro y0 H locs ls h hP hD hS hl
    obtain ⟨g1, h⟩ := fw_g h
    exact fw_endZ (rv := fun b : Int32 => b) (wp := fun b : Int32 => rmW k xa rm) hx hb hr hlocks h (bo_z g1) rfl hP hD hS dX3_hasStrand_17
  have B16 : ∀ (H : Heap) (locs : List Loc) (ls : Array Slot), b_X3_hasStrand_16 F rm  = some res → va_P D vwCl (rmW k xa rm) H → va_D A (rmW k xa rm) → va_S A s.heap H locs → lv_has ls 2 [] → W p l e (rmK 1 0 0) s m (List.toArray [.ref (xa 0), .int x1]) below meth c H locs 0 0 (MQ below (va_Qi (fun r (_ : Unit) => r = res) (hcB D (fun _ : Unit => rmW k xa rm) A) A) (List.toArray [.ref (xa 0), .int x1]) s 0 0 A) (F0 m 16 ls []) := by
    intro  H locs ls h hP hD hS hl
    refine lv_iconst (v := 0) hx hb dX3_hasStrand_16 (by decide) ?_
    exact B17 _ _ _ _ h hP hD hS hl
  refine lv_iload_n hx hb dX3_hasStrand_0 rfl (lv_at hl 1 rfl) ?_
  refine lv_if_lt (tgt := 16) hx hb dX3_hasStrand_1 (by decide) (fun c2 => ?_) (fun c2 => ?_)
  · have h := fw_t c2 h
    exact B16 _ _ _ h hP hD hS (lv_sub hl [] rfl)
  · have h := fw_f c2 h
    refine lv_iload_n hx hb dX3_hasStrand_4 rfl (lv_at hl 1 rfl) ?_
    refine lv_aload_n hx hb dX3_hasStrand_5 rfl (lv_at hl 0 rfl) ?_
    refine va_get (D := D) (ci := 2) (v := .int (rm.1 1)) (C := RX3) (T := TX3) (N := 17) hx hb hts in3 hown hG.1 hP 0 rfl rfl 1 (by decide) (hts (.fieldLink RX3 15 "ChairCane$Room" "strands" "I") (mem_b bq_wsX3_hasStrand 0 0 rfl)) (fun _ h9 => h9) rfl dX3_hasStrand_6 ?_
    refine lv_icmp_ge (tgt := 16) hx hb dX3_hasStrand_9 (by decide) (fun c3 => ?_) (fun c3 => ?_)
    · have h := fw_t c3 h
      exact B16 _ _ _ h hP hD hS (lv_sub hl [] rfl)
    · have h := fw_f c3 h
      refine lv_iconst (v := 1) hx hb dX3_hasStrand_12 (by decide) ?_
      refine lv_goto (tgt := 17) hx hb dX3_hasStrand_13 (by decide) ?_
      exact B17 _ _ _ _ h hP hD hS (lv_sub hl [] rfl)
noncomputable def b_X3_hasChair_17 (F : Nat)  (rm : OB)  (y0 : Int32) : Option (Int32) :=
  if bo y0 then (some y0) else none
noncomputable def b_X3_hasChair_16 (F : Nat)  (rm : OB)   : Option (Int32) :=
  b_X3_hasChair_17 F rm 0
noncomputable def f_X3_hasChair (F : Nat)  (x1 : Int32) (rm : OB) : Option (Int32) :=
  if x1 < 0 then (b_X3_hasChair_16 F rm ) else (if (rm.1 2) ≤ x1 then (b_X3_hasChair_16 F rm ) else (b_X3_hasChair_17 F rm 1))
set_option maxRecDepth 20000 in
theorem bq_wsX3_hasChair : subq wsX3_hasChair [[.fieldLink RX3 19 "ChairCane$Room" "chairs" "I"]] := ⟨(fun _ h => (List.mem_cons_of_mem _ (List.mem_append_left _ h))), trivial⟩
set_option maxHeartbeats 4000000 in
set_option maxRecDepth 100000 in
theorem c_X3_hasChair (l : Launch) (D : va_G) (k : Nat → ClassId) (sz : Nat)  (xa : Nat → Nat) (F : Nat)  (x1 : Int32) (rm : OB)  {res : Int32} (h : f_X3_hasChair F x1 rm = some res) : CtI l yX3_hasChair wsX3_hasChair (rmK 1 0 0) [.ref (xa 0), .int x1] D k sz (rmW k xa rm) (fun r (_ : Unit) => r = res) (fun _ : Unit => rmW k xa rm) 0 0 := by
  refine CtI.mk (cc := cX3_hasChair) (maxL := 2) (ret := (some .boolean)) (by decide) rfl (Nat.le_of_ble_eq_true rfl) ?_
  intro p e s m below meth c A ls E hP hD hS hl
  obtain ⟨hx, hb, hr, hml, hown, hts, hlocks, hin, hG, hA⟩ := E
  have hown : s.vm.findClass RX3 = some m.cls := hown
  have in3 : ∀ w ∈ u_ws RX3 TX3 17, w ∈ wsX3_hasChair := fun _ h => List.mem_cons_of_mem _ (List.mem_append_right _ h)
  have hl : lv_has ls 2 [(0, .ref (xa 0)), (1, .int x1)] := hl
  have B17 : ∀ (y0 : Int32) (H : Heap) (locs : List Loc) (ls : Array Slot), b_X3_hasChair_17 F rm y0 = some res → va_P D vwCl (rmW k xa rm) H → va_D A (rmW k xa rm) → va_S A s.heap H locs → lv_has ls 2 [] → W p l e (rmK 1 0 0) s m (List.toArray [.ref (xa 0), .int x1]) below meth c H locs 0 0 (MQ below (va_Qi (fun r (_ : Unit) => r = res) (hcB D (fun _ : Unit => rmW k xa rm) A) A) (List.toArray [.ref (xa 0), .int x1]) s 0 0 A) (F0 m 17 ls [.int y0]) := by
    intro y0 H locs ls h hP hD hS hl
    obtain ⟨g1, h⟩ := fw_g h
    exact fw_endZ (rv := fun b : Int32 => b) (wp := fun b : Int32 => rmW k xa rm) hx hb hr hlocks h (bo_z g1) rfl hP hD hS dX3_hasChair_17
  have B16 : ∀ (H : Heap) (locs : List Loc) (ls : Array Slot), b_X3_hasChair_16 F rm  = some res → va_P D vwCl (rmW k xa rm) H → va_D A (rmW k xa rm) → va_S A s.heap H locs → lv_has ls 2 [] → W p l e (rmK 1 0 0) s m (List.toArray [.ref (xa 0), .int x1]) below meth c H locs 0 0 (MQ below (va_Qi (fun r (_ : Unit) => r = res) (hcB D (fun _ : Unit => rmW k xa rm) A) A) (List.toArray [.ref (xa 0), .int x1]) s 0 0 A) (F0 m 16 ls []) := by
    intro  H locs ls h hP hD hS hl
    refine lv_iconst (v := 0) hx hb dX3_hasChair_16 (by decide) ?_
    exact B17 _ _ _ _ h hP hD hS hl
  refine lv_iload_n hx hb dX3_hasChair_0 rfl (lv_at hl 1 rfl) ?_
  refine lv_if_lt (tgt := 16) hx hb dX3_hasChair_1 (by decide) (fun c2 => ?_) (fun c2 => ?_)
  · have h := fw_t c2 h
    exact B16 _ _ _ h hP hD hS (lv_sub hl [] rfl)
  · have h := fw_f c2 h
    refine lv_iload_n hx hb dX3_hasChair_4 rfl (lv_at hl 1 rfl) ?_
    refine lv_aload_n hx hb dX3_hasChair_5 rfl (lv_at hl 0 rfl) ?_
    refine va_get (D := D) (ci := 2) (v := .int (rm.1 2)) (C := RX3) (T := TX3) (N := 17) hx hb hts in3 hown hG.1 hP 0 rfl rfl 2 (by decide) (hts (.fieldLink RX3 19 "ChairCane$Room" "chairs" "I") (mem_b bq_wsX3_hasChair 0 0 rfl)) (fun _ h9 => h9) rfl dX3_hasChair_6 ?_
    refine lv_icmp_ge (tgt := 16) hx hb dX3_hasChair_9 (by decide) (fun c3 => ?_) (fun c3 => ?_)
    · have h := fw_t c3 h
      exact B16 _ _ _ h hP hD hS (lv_sub hl [] rfl)
    · have h := fw_f c3 h
      refine lv_iconst (v := 1) hx hb dX3_hasChair_12 (by decide) ?_
      refine lv_goto (tgt := 17) hx hb dX3_hasChair_13 (by decide) ?_
      exact B17 _ _ _ _ h hP hD hS (lv_sub hl [] rfl)
noncomputable def b_X3_hasSitter_17 (F : Nat)  (rm : OB)  (y0 : Int32) : Option (Int32) :=
  if bo y0 then (some y0) else none
noncomputable def b_X3_hasSitter_16 (F : Nat)  (rm : OB)   : Option (Int32) :=
  b_X3_hasSitter_17 F rm 0
noncomputable def f_X3_hasSitter (F : Nat)  (x1 : Int32) (rm : OB) : Option (Int32) :=
  if x1 < 0 then (b_X3_hasSitter_16 F rm ) else (if (rm.1 3) ≤ x1 then (b_X3_hasSitter_16 F rm ) else (b_X3_hasSitter_17 F rm 1))
set_option maxRecDepth 20000 in
theorem bq_wsX3_hasSitter : subq wsX3_hasSitter [[.fieldLink RX3 22 "ChairCane$Room" "sitters" "I"]] := ⟨(fun _ h => (List.mem_cons_of_mem _ (List.mem_append_left _ h))), trivial⟩
set_option maxHeartbeats 4000000 in
set_option maxRecDepth 100000 in
theorem c_X3_hasSitter (l : Launch) (D : va_G) (k : Nat → ClassId) (sz : Nat)  (xa : Nat → Nat) (F : Nat)  (x1 : Int32) (rm : OB)  {res : Int32} (h : f_X3_hasSitter F x1 rm = some res) : CtI l yX3_hasSitter wsX3_hasSitter (rmK 1 0 0) [.ref (xa 0), .int x1] D k sz (rmW k xa rm) (fun r (_ : Unit) => r = res) (fun _ : Unit => rmW k xa rm) 0 0 := by
  refine CtI.mk (cc := cX3_hasSitter) (maxL := 2) (ret := (some .boolean)) (by decide) rfl (Nat.le_of_ble_eq_true rfl) ?_
  intro p e s m below meth c A ls E hP hD hS hl
  obtain ⟨hx, hb, hr, hml, hown, hts, hlocks, hin, hG, hA⟩ := E
  have hown : s.vm.findClass RX3 = some m.cls := hown
  have in3 : ∀ w ∈ u_ws RX3 TX3 17, w ∈ wsX3_hasSitter := fun _ h => List.mem_cons_of_mem _ (List.mem_append_right _ h)
  have hl : lv_has ls 2 [(0, .ref (xa 0)), (1, .int x1)] := hl
  have B17 : ∀ (y0 : Int32) (H : Heap) (locs : List Loc) (ls : Array Slot), b_X3_hasSitter_17 F rm y0 = some res → va_P D vwCl (rmW k xa rm) H → va_D A (rmW k xa rm) → va_S A s.heap H locs → lv_has ls 2 [] → W p l e (rmK 1 0 0) s m (List.toArray [.ref (xa 0), .int x1]) below meth c H locs 0 0 (MQ below (va_Qi (fun r (_ : Unit) => r = res) (hcB D (fun _ : Unit => rmW k xa rm) A) A) (List.toArray [.ref (xa 0), .int x1]) s 0 0 A) (F0 m 17 ls [.int y0]) := by
    intro y0 H locs ls h hP hD hS hl
    obtain ⟨g1, h⟩ := fw_g h
    exact fw_endZ (rv := fun b : Int32 => b) (wp := fun b : Int32 => rmW k xa rm) hx hb hr hlocks h (bo_z g1) rfl hP hD hS dX3_hasSitter_17
  have B16 : ∀ (H : Heap) (locs : List Loc) (ls : Array Slot), b_X3_hasSitter_16 F rm  = some res → va_P D vwCl (rmW k xa rm) H → va_D A (rmW k xa rm) → va_S A s.heap H locs → lv_has ls 2 [] → W p l e (rmK 1 0 0) s m (List.toArray [.ref (xa 0), .int x1]) below meth c H locs 0 0 (MQ below (va_Qi (fun r (_ : Unit) => r = res) (hcB D (fun _ : Unit => rmW k xa rm) A) A) (List.toArray [.ref (xa 0), .int x1]) s 0 0 A) (F0 m 16 ls []) := by
    intro  H locs ls h hP hD hS hl
    refine lv_iconst (v := 0) hx hb dX3_hasSitter_16 (by decide) ?_
    exact B17 _ _ _ _ h hP hD hS hl
  refine lv_iload_n hx hb dX3_hasSitter_0 rfl (lv_at hl 1 rfl) ?_
  refine lv_if_lt (tgt := 16) hx hb dX3_hasSitter_1 (by decide) (fun c2 => ?_) (fun c2 => ?_)
  · have h := fw_t c2 h
    exact B16 _ _ _ h hP hD hS (lv_sub hl [] rfl)
  · have h := fw_f c2 h
    refine lv_iload_n hx hb dX3_hasSitter_4 rfl (lv_at hl 1 rfl) ?_
    refine lv_aload_n hx hb dX3_hasSitter_5 rfl (lv_at hl 0 rfl) ?_
    refine va_get (D := D) (ci := 2) (v := .int (rm.1 3)) (C := RX3) (T := TX3) (N := 17) hx hb hts in3 hown hG.1 hP 0 rfl rfl 3 (by decide) (hts (.fieldLink RX3 22 "ChairCane$Room" "sitters" "I") (mem_b bq_wsX3_hasSitter 0 0 rfl)) (fun _ h9 => h9) rfl dX3_hasSitter_6 ?_
    refine lv_icmp_ge (tgt := 16) hx hb dX3_hasSitter_9 (by decide) (fun c3 => ?_) (fun c3 => ?_)
    · have h := fw_t c3 h
      exact B16 _ _ _ h hP hD hS (lv_sub hl [] rfl)
    · have h := fw_f c3 h
      refine lv_iconst (v := 1) hx hb dX3_hasSitter_12 (by decide) ?_
      refine lv_goto (tgt := 17) hx hb dX3_hasSitter_13 (by decide) ?_
      exact B17 _ _ _ _ h hP hD hS (lv_sub hl [] rfl)
noncomputable def b_X3_isUp_28 (F : Nat)  (rm : OB)  (y0 : Int32) : Option (Int32) :=
  if bo y0 then (some y0) else none
noncomputable def b_X3_isUp_27 (F : Nat)  (rm : OB)   : Option (Int32) :=
  b_X3_isUp_28 F rm 0
noncomputable def f_X3_isUp (F : Nat)  (x1 : Int32) (rm : OB) : Option (Int32) :=
  if x1 < 0 then (b_X3_isUp_27 F rm ) else (if (rm.1 3) ≤ x1 then (b_X3_isUp_27 F rm ) else (if (((rm.1 11) >>> (x1 &&& 31)) &&& 1) = 0 then (b_X3_isUp_28 F rm 1) else (b_X3_isUp_27 F rm )))
set_option maxRecDepth 20000 in
theorem bq_wsX3_isUp : subq wsX3_isUp [[.fieldLink RX3 22 "ChairCane$Room" "sitters" "I", .fieldLink RX3 47 "ChairCane$Room" "dropped" "I"]] := ⟨(fun _ h => (List.mem_cons_of_mem _ (List.mem_append_left _ h))), trivial⟩
set_option maxHeartbeats 4000000 in
set_option maxRecDepth 100000 in
theorem c_X3_isUp (l : Launch) (D : va_G) (k : Nat → ClassId) (sz : Nat)  (xa : Nat → Nat) (F : Nat)  (x1 : Int32) (rm : OB)  {res : Int32} (h : f_X3_isUp F x1 rm = some res) : CtI l yX3_isUp wsX3_isUp (rmK 1 0 0) [.ref (xa 0), .int x1] D k sz (rmW k xa rm) (fun r (_ : Unit) => r = res) (fun _ : Unit => rmW k xa rm) 0 0 := by
  refine CtI.mk (cc := cX3_isUp) (maxL := 2) (ret := (some .boolean)) (by decide) rfl (Nat.le_of_ble_eq_true rfl) ?_
  intro p e s m below meth c A ls E hP hD hS hl
  obtain ⟨hx, hb, hr, hml, hown, hts, hlocks, hin, hG, hA⟩ := E
  have hown : s.vm.findClass RX3 = some m.cls := hown
  have in3 : ∀ w ∈ u_ws RX3 TX3 17, w ∈ wsX3_isUp := fun _ h => List.mem_cons_of_mem _ (List.mem_append_right _ h)
  have hl : lv_has ls 2 [(0, .ref (xa 0)), (1, .int x1)] := hl
  have B28 : ∀ (y0 : Int32) (H : Heap) (locs : List Loc) (ls : Array Slot), b_X3_isUp_28 F rm y0 = some res → va_P D vwCl (rmW k xa rm) H → va_D A (rmW k xa rm) → va_S A s.heap H locs → lv_has ls 2 [] → W p l e (rmK 1 0 0) s m (List.toArray [.ref (xa 0), .int x1]) below meth c H locs 0 0 (MQ below (va_Qi (fun r (_ : Unit) => r = res) (hcB D (fun _ : Unit => rmW k xa rm) A) A) (List.toArray [.ref (xa 0), .int x1]) s 0 0 A) (F0 m 28 ls [.int y0]) := by
    intro y0 H locs ls h hP hD hS hl
    obtain ⟨g1, h⟩ := fw_g h
    exact fw_endZ (rv := fun b : Int32 => b) (wp := fun b : Int32 => rmW k xa rm) hx hb hr hlocks h (bo_z g1) rfl hP hD hS dX3_isUp_28
  have B27 : ∀ (H : Heap) (locs : List Loc) (ls : Array Slot), b_X3_isUp_27 F rm  = some res → va_P D vwCl (rmW k xa rm) H → va_D A (rmW k xa rm) → va_S A s.heap H locs → lv_has ls 2 [] → W p l e (rmK 1 0 0) s m (List.toArray [.ref (xa 0), .int x1]) below meth c H locs 0 0 (MQ below (va_Qi (fun r (_ : Unit) => r = res) (hcB D (fun _ : Unit => rmW k xa rm) A) A) (List.toArray [.ref (xa 0), .int x1]) s 0 0 A) (F0 m 27 ls []) := by
    intro  H locs ls h hP hD hS hl
    refine lv_iconst (v := 0) hx hb dX3_isUp_27 (by decide) ?_
    exact B28 _ _ _ _ h hP hD hS hl
  refine lv_iload_n hx hb dX3_isUp_0 rfl (lv_at hl 1 rfl) ?_
  refine lv_if_lt (tgt := 27) hx hb dX3_isUp_1 (by decide) (fun c2 => ?_) (fun c2 => ?_)
  · have h := fw_t c2 h
    exact B27 _ _ _ h hP hD hS (lv_sub hl [] rfl)
  · have h := fw_f c2 h
    refine lv_iload_n hx hb dX3_isUp_4 rfl (lv_at hl 1 rfl) ?_
    refine lv_aload_n hx hb dX3_isUp_5 rfl (lv_at hl 0 rfl) ?_
    refine va_get (D := D) (ci := 2) (v := .int (rm.1 3)) (C := RX3) (T := TX3) (N := 17) hx hb hts in3 hown hG.1 hP 0 rfl rfl 3 (by decide) (hts (.fieldLink RX3 22 "ChairCane$Room" "sitters" "I") (mem_b bq_wsX3_isUp 0 0 rfl)) (fun _ h9 => h9) rfl dX3_isUp_6 ?_
    refine lv_icmp_ge (tgt := 27) hx hb dX3_isUp_9 (by decide) (fun c3 => ?_) (fun c3 => ?_)
    · have h := fw_t c3 h
      exact B27 _ _ _ h hP hD hS (lv_sub hl [] rfl)
    · have h := fw_f c3 h
      refine lv_aload_n hx hb dX3_isUp_12 rfl (lv_at hl 0 rfl) ?_
      refine va_get (D := D) (ci := 2) (v := .int (rm.1 11)) (C := RX3) (T := TX3) (N := 17) hx hb hts in3 hown hG.1 hP 0 rfl rfl 11 (by decide) (hts (.fieldLink RX3 47 "ChairCane$Room" "dropped" "I") (mem_b bq_wsX3_isUp 0 1 rfl)) (fun _ h9 => h9) rfl dX3_isUp_13 ?_
      refine lv_iload_n hx hb dX3_isUp_16 rfl (lv_at hl 1 rfl) ?_
      refine lv_ishr hx hb dX3_isUp_17 ?_
      refine lv_iconst (v := 1) hx hb dX3_isUp_18 (by decide) ?_
      refine lv_iand hx hb dX3_isUp_19 ?_
      refine lv_if_ne (tgt := 27) hx hb dX3_isUp_20 (by decide) (fun c4 => ?_) (fun c4 => ?_)
      · have h := fw_f c4 h
        exact B27 _ _ _ h hP hD hS (lv_sub hl [] rfl)
      · have h := fw_t c4 h
        refine lv_iconst (v := 1) hx hb dX3_isUp_23 (by decide) ?_
        refine lv_goto (tgt := 28) hx hb dX3_isUp_24 (by decide) ?_
        exact B28 _ _ _ _ h hP hD hS (lv_sub hl [] rfl)
noncomputable def b_X3_isDown_28 (F : Nat)  (rm : OB)  (y0 : Int32) : Option (Int32) :=
  if bo y0 then (some y0) else none
noncomputable def b_X3_isDown_27 (F : Nat)  (rm : OB)   : Option (Int32) :=
  b_X3_isDown_28 F rm 0
noncomputable def f_X3_isDown (F : Nat)  (x1 : Int32) (rm : OB) : Option (Int32) :=
  if x1 < 0 then (b_X3_isDown_27 F rm ) else (if (rm.1 3) ≤ x1 then (b_X3_isDown_27 F rm ) else (if (((rm.1 10) >>> (x1 &&& 31)) &&& 1) = 0 then (b_X3_isDown_27 F rm ) else (b_X3_isDown_28 F rm 1)))
set_option maxRecDepth 20000 in
theorem bq_wsX3_isDown : subq wsX3_isDown [[.fieldLink RX3 22 "ChairCane$Room" "sitters" "I", .fieldLink RX3 44 "ChairCane$Room" "sits" "I"]] := ⟨(fun _ h => (List.mem_cons_of_mem _ (List.mem_append_left _ h))), trivial⟩
set_option maxHeartbeats 4000000 in
set_option maxRecDepth 100000 in
theorem c_X3_isDown (l : Launch) (D : va_G) (k : Nat → ClassId) (sz : Nat)  (xa : Nat → Nat) (F : Nat)  (x1 : Int32) (rm : OB)  {res : Int32} (h : f_X3_isDown F x1 rm = some res) : CtI l yX3_isDown wsX3_isDown (rmK 1 0 0) [.ref (xa 0), .int x1] D k sz (rmW k xa rm) (fun r (_ : Unit) => r = res) (fun _ : Unit => rmW k xa rm) 0 0 := by
  refine CtI.mk (cc := cX3_isDown) (maxL := 2) (ret := (some .boolean)) (by decide) rfl (Nat.le_of_ble_eq_true rfl) ?_
  intro p e s m below meth c A ls E hP hD hS hl
  obtain ⟨hx, hb, hr, hml, hown, hts, hlocks, hin, hG, hA⟩ := E
  have hown : s.vm.findClass RX3 = some m.cls := hown
  have in3 : ∀ w ∈ u_ws RX3 TX3 17, w ∈ wsX3_isDown := fun _ h => List.mem_cons_of_mem _ (List.mem_append_right _ h)
  have hl : lv_has ls 2 [(0, .ref (xa 0)), (1, .int x1)] := hl
  have B28 : ∀ (y0 : Int32) (H : Heap) (locs : List Loc) (ls : Array Slot), b_X3_isDown_28 F rm y0 = some res → va_P D vwCl (rmW k xa rm) H → va_D A (rmW k xa rm) → va_S A s.heap H locs → lv_has ls 2 [] → W p l e (rmK 1 0 0) s m (List.toArray [.ref (xa 0), .int x1]) below meth c H locs 0 0 (MQ below (va_Qi (fun r (_ : Unit) => r = res) (hcB D (fun _ : Unit => rmW k xa rm) A) A) (List.toArray [.ref (xa 0), .int x1]) s 0 0 A) (F0 m 28 ls [.int y0]) := by
    intro y0 H locs ls h hP hD hS hl
    obtain ⟨g1, h⟩ := fw_g h
    exact fw_endZ (rv := fun b : Int32 => b) (wp := fun b : Int32 => rmW k xa rm) hx hb hr hlocks h (bo_z g1) rfl hP hD hS dX3_isDown_28
  have B27 : ∀ (H : Heap) (locs : List Loc) (ls : Array Slot), b_X3_isDown_27 F rm  = some res → va_P D vwCl (rmW k xa rm) H → va_D A (rmW k xa rm) → va_S A s.heap H locs → lv_has ls 2 [] → W p l e (rmK 1 0 0) s m (List.toArray [.ref (xa 0), .int x1]) below meth c H locs 0 0 (MQ below (va_Qi (fun r (_ : Unit) => r = res) (hcB D (fun _ : Unit => rmW k xa rm) A) A) (List.toArray [.ref (xa 0), .int x1]) s 0 0 A) (F0 m 27 ls []) := by
    intro  H locs ls h hP hD hS hl
    refine lv_iconst (v := 0) hx hb dX3_isDown_27 (by decide) ?_
    exact B28 _ _ _ _ h hP hD hS hl
  refine lv_iload_n hx hb dX3_isDown_0 rfl (lv_at hl 1 rfl) ?_
  refine lv_if_lt (tgt := 27) hx hb dX3_isDown_1 (by decide) (fun c2 => ?_) (fun c2 => ?_)
  · have h := fw_t c2 h
    exact B27 _ _ _ h hP hD hS (lv_sub hl [] rfl)
  · have h := fw_f c2 h
    refine lv_iload_n hx hb dX3_isDown_4 rfl (lv_at hl 1 rfl) ?_
    refine lv_aload_n hx hb dX3_isDown_5 rfl (lv_at hl 0 rfl) ?_
    refine va_get (D := D) (ci := 2) (v := .int (rm.1 3)) (C := RX3) (T := TX3) (N := 17) hx hb hts in3 hown hG.1 hP 0 rfl rfl 3 (by decide) (hts (.fieldLink RX3 22 "ChairCane$Room" "sitters" "I") (mem_b bq_wsX3_isDown 0 0 rfl)) (fun _ h9 => h9) rfl dX3_isDown_6 ?_
    refine lv_icmp_ge (tgt := 27) hx hb dX3_isDown_9 (by decide) (fun c3 => ?_) (fun c3 => ?_)
    · have h := fw_t c3 h
      exact B27 _ _ _ h hP hD hS (lv_sub hl [] rfl)
    · have h := fw_f c3 h
      refine lv_aload_n hx hb dX3_isDown_12 rfl (lv_at hl 0 rfl) ?_
      refine va_get (D := D) (ci := 2) (v := .int (rm.1 10)) (C := RX3) (T := TX3) (N := 17) hx hb hts in3 hown hG.1 hP 0 rfl rfl 10 (by decide) (hts (.fieldLink RX3 44 "ChairCane$Room" "sits" "I") (mem_b bq_wsX3_isDown 0 1 rfl)) (fun _ h9 => h9) rfl dX3_isDown_13 ?_
      refine lv_iload_n hx hb dX3_isDown_16 rfl (lv_at hl 1 rfl) ?_
      refine lv_ishr hx hb dX3_isDown_17 ?_
      refine lv_iconst (v := 1) hx hb dX3_isDown_18 (by decide) ?_
      refine lv_iand hx hb dX3_isDown_19 ?_
      refine lv_if_eq (tgt := 27) hx hb dX3_isDown_20 (by decide) (fun c4 => ?_) (fun c4 => ?_)
      · have h := fw_t c4 h
        exact B27 _ _ _ h hP hD hS (lv_sub hl [] rfl)
      · have h := fw_f c4 h
        refine lv_iconst (v := 1) hx hb dX3_isDown_23 (by decide) ?_
        refine lv_goto (tgt := 28) hx hb dX3_isDown_24 (by decide) ?_
        exact B28 _ _ _ _ h hP hD hS (lv_sub hl [] rfl)
noncomputable def b_X3_stateOf_39 (F : Nat)  (rm : OB)  (y0 : Int32) : Option (Int32) :=
  some y0
noncomputable def f_X3_stateOf (F : Nat)  (x1 : Int32) (rm : OB) : Option (Int32) :=
  Option.bind (f_X3_hasSitter F x1 rm) (fun q1 => (if q1 = 0 then (some (-1)) else (if (((rm.1 11) >>> (x1 &&& 31)) &&& 1) = 0 then (if (((rm.1 10) >>> (x1 &&& 31)) &&& 1) = 0 then (b_X3_stateOf_39 F rm 0) else (b_X3_stateOf_39 F rm 1)) else (some 2))))
set_option maxHeartbeats 4000000 in
set_option maxRecDepth 100000 in
theorem c_X3_stateOf (l : Launch) (D : va_G) (k : Nat → ClassId) (sz : Nat)  (xa : Nat → Nat) (F : Nat)  (x1 : Int32) (rm : OB)  {res : Int32} (h : f_X3_stateOf F x1 rm = some res) : CtI l yX3_stateOf wsX3_stateOf (rmK 2 0 0) [.ref (xa 0), .int x1] D k sz (rmW k xa rm) (fun r (_ : Unit) => r = res) (fun _ : Unit => rmW k xa rm) 0 0 := by
  refine CtI.mk (cc := cX3_stateOf) (maxL := 2) (ret := (some .int)) (by decide) rfl (Nat.le_of_ble_eq_true rfl) ?_
  intro p e s m below meth c A ls E hP hD hS hl
  obtain ⟨hx, hb, hr, hml, hown, hts, hlocks, hin, hG, hA⟩ := E
  have hown : s.vm.findClass RX3 = some m.cls := hown
  have in3 : ∀ w ∈ u_ws RX3 TX3 17, w ∈ wsX3_stateOf := fun _ h => List.mem_cons_of_mem _ (List.mem_append_right _ h)
  have hl : lv_has ls 2 [(0, .ref (xa 0)), (1, .int x1)] := hl
  have B39 : ∀ (y0 : Int32) (H : Heap) (locs : List Loc) (ls : Array Slot), b_X3_stateOf_39 F rm y0 = some res → va_P D vwCl (rmW k xa rm) H → va_D A (rmW k xa rm) → va_S A s.heap H locs → lv_has ls 2 [] → W p l e (rmK 2 0 0) s m (List.toArray [.ref (xa 0), .int x1]) below meth c H locs 0 0 (MQ below (va_Qi (fun r (_ : Unit) => r = res) (hcB D (fun _ : Unit => rmW k xa rm) A) A) (List.toArray [.ref (xa 0), .int x1]) s 0 0 A) (F0 m 39 ls [.int y0]) := by
    intro y0 H locs ls h hP hD hS hl
    exact fw_endI (rv := fun b : Int32 => b) (wp := fun b : Int32 => rmW k xa rm) hx hb hr hlocks h rfl hP hD hS dX3_stateOf_39
  refine lv_aload_n hx hb dX3_stateOf_0 rfl (lv_at hl 0 rfl) ?_
  refine lv_iload_n hx hb dX3_stateOf_1 rfl (lv_at hl 1 rfl) ?_
  refine fw_Vi (As := [.int x1]) (rest := []) (n := 1) (wr := []) (rv := fun b : Int32 => b) (wp := fun b : Int32 => rmW k xa rm) h hx hb hml hown hts hG hA hP hD hS hl.1 (List.range (rmW k xa rm).length) [] (fun q hq9 => c_X3_hasSitter l D k _  xa F x1 rm  hq9) (ci := 2) (q0 := 0) rfl rfl gX3_stateOf_X3_hasSitter rfl ⟨rfl, rfl, Nat.le_of_ble_eq_true rfl, Nat.le_of_ble_eq_true rfl⟩ (by decide +kernel) (al_C _) rfl (al_n _) ⟨rfl, rfl, Nat.le_of_ble_eq_true rfl, Nat.le_of_ble_eq_true rfl, Nat.le_of_ble_eq_true rfl⟩ dX3_stateOf_2 (fun q1 H locs h hP hD hS => ?_)
  obtain ⟨hP, hD⟩ := cv (w' := rmW k xa rm) hP hD rfl
  refine hc_is (z := q1) rfl ?_
  refine lv_if_ne (tgt := 10) hx hb dX3_stateOf_5 (by decide) (fun c2 => ?_) (fun c2 => ?_)
  · have h := fw_f c2 h
    refine lv_aload_n hx hb dX3_stateOf_10 rfl (lv_at hl 0 rfl) ?_
    refine va_get (D := D) (ci := 2) (v := .int (rm.1 11)) (C := RX3) (T := TX3) (N := 17) hx hb hts in3 hown hG.1 hP 0 rfl rfl 11 (by decide) (hts (.fieldLink RX3 47 "ChairCane$Room" "dropped" "I") (mem_b bq_wsX3_stateOf 0 0 rfl)) (fun _ h9 => h9) rfl dX3_stateOf_11 ?_
    refine lv_iload_n hx hb dX3_stateOf_14 rfl (lv_at hl 1 rfl) ?_
    refine lv_ishr hx hb dX3_stateOf_15 ?_
    refine lv_iconst (v := 1) hx hb dX3_stateOf_16 (by decide) ?_
    refine lv_iand hx hb dX3_stateOf_17 ?_
    refine lv_if_eq (tgt := 23) hx hb dX3_stateOf_18 (by decide) (fun c3 => ?_) (fun c3 => ?_)
    · have h := fw_t c3 h
      refine lv_aload_n hx hb dX3_stateOf_23 rfl (lv_at hl 0 rfl) ?_
      refine va_get (D := D) (ci := 2) (v := .int (rm.1 10)) (C := RX3) (T := TX3) (N := 17) hx hb hts in3 hown hG.1 hP 0 rfl rfl 10 (by decide) (hts (.fieldLink RX3 44 "ChairCane$Room" "sits" "I") (mem_b bq_wsX3_stateOf 0 1 rfl)) (fun _ h9 => h9) rfl dX3_stateOf_24 ?_
      refine lv_iload_n hx hb dX3_stateOf_27 rfl (lv_at hl 1 rfl) ?_
      refine lv_ishr hx hb dX3_stateOf_28 ?_
      refine lv_iconst (v := 1) hx hb dX3_stateOf_29 (by decide) ?_
      refine lv_iand hx hb dX3_stateOf_30 ?_
      refine lv_if_eq (tgt := 38) hx hb dX3_stateOf_31 (by decide) (fun c4 => ?_) (fun c4 => ?_)
      · have h := fw_t c4 h
        refine lv_iconst (v := 0) hx hb dX3_stateOf_38 (by decide) ?_
        exact B39 _ _ _ _ h hP hD hS (lv_sub hl [] rfl)
      · have h := fw_f c4 h
        refine lv_iconst (v := 1) hx hb dX3_stateOf_34 (by decide) ?_
        refine lv_goto (tgt := 39) hx hb dX3_stateOf_35 (by decide) ?_
        exact B39 _ _ _ _ h hP hD hS (lv_sub hl [] rfl)
    · have h := fw_f c3 h
      refine lv_iconst (v := 2) hx hb dX3_stateOf_21 (by decide) ?_
      exact fw_endI (rv := fun b : Int32 => b) (wp := fun b : Int32 => rmW k xa rm) hx hb hr hlocks h rfl hP hD hS dX3_stateOf_22
  · have h := fw_t c2 h
    refine lv_iconst (v := (-1)) hx hb dX3_stateOf_8 (by decide) ?_
    exact fw_endI (rv := fun b : Int32 => b) (wp := fun b : Int32 => rmW k xa rm) hx hb hr hlocks h rfl hP hD hS dX3_stateOf_9
noncomputable def f_X3_standing (F : Nat)   (rm : OB) : Option (Int32) :=
  some ((((1 <<< ((rm.1 3) &&& 31)) - 1) &&& ((rm.1 10) ^^^ (-1))) &&& ((rm.1 11) ^^^ (-1)))
set_option maxRecDepth 20000 in
theorem bq_wsX3_standing : subq wsX3_standing [[.fieldLink RX3 22 "ChairCane$Room" "sitters" "I", .fieldLink RX3 44 "ChairCane$Room" "sits" "I", .fieldLink RX3 47 "ChairCane$Room" "dropped" "I"]] := ⟨(fun _ h => (List.mem_cons_of_mem _ (List.mem_append_left _ h))), trivial⟩
set_option maxHeartbeats 4000000 in
set_option maxRecDepth 100000 in
theorem c_X3_standing (l : Launch) (D : va_G) (k : Nat → ClassId) (sz : Nat)  (xa : Nat → Nat) (F : Nat)   (rm : OB)  {res : Int32} (h : f_X3_standing F rm = some res) : CtI l yX3_standing wsX3_standing (rmK 1 0 0) [.ref (xa 0)] D k sz (rmW k xa rm) (fun r (_ : Unit) => r = res) (fun _ : Unit => rmW k xa rm) 0 0 := by
  refine CtI.mk (cc := cX3_standing) (maxL := 1) (ret := (some .int)) (by decide) rfl (Nat.le_of_ble_eq_true rfl) ?_
  intro p e s m below meth c A ls E hP hD hS hl
  obtain ⟨hx, hb, hr, hml, hown, hts, hlocks, hin, hG, hA⟩ := E
  have hown : s.vm.findClass RX3 = some m.cls := hown
  have in3 : ∀ w ∈ u_ws RX3 TX3 17, w ∈ wsX3_standing := fun _ h => List.mem_cons_of_mem _ (List.mem_append_right _ h)
  have hl : lv_has ls 1 [(0, .ref (xa 0))] := hl
  refine lv_iconst (v := 1) hx hb dX3_standing_0 (by decide) ?_
  refine lv_aload_n hx hb dX3_standing_1 rfl (lv_at hl 0 rfl) ?_
  refine va_get (D := D) (ci := 2) (v := .int (rm.1 3)) (C := RX3) (T := TX3) (N := 17) hx hb hts in3 hown hG.1 hP 0 rfl rfl 3 (by decide) (hts (.fieldLink RX3 22 "ChairCane$Room" "sitters" "I") (mem_b bq_wsX3_standing 0 0 rfl)) (fun _ h9 => h9) rfl dX3_standing_2 ?_
  refine lv_ishl hx hb dX3_standing_5 ?_
  refine lv_iconst (v := 1) hx hb dX3_standing_6 (by decide) ?_
  refine lv_isub hx hb dX3_standing_7 ?_
  refine lv_aload_n hx hb dX3_standing_8 rfl (lv_at hl 0 rfl) ?_
  refine va_get (D := D) (ci := 2) (v := .int (rm.1 10)) (C := RX3) (T := TX3) (N := 17) hx hb hts in3 hown hG.1 hP 0 rfl rfl 10 (by decide) (hts (.fieldLink RX3 44 "ChairCane$Room" "sits" "I") (mem_b bq_wsX3_standing 0 1 rfl)) (fun _ h9 => h9) rfl dX3_standing_9 ?_
  refine lv_iconst (v := (-1)) hx hb dX3_standing_12 (by decide) ?_
  refine lv_ixor hx hb dX3_standing_13 ?_
  refine lv_iand hx hb dX3_standing_14 ?_
  refine lv_aload_n hx hb dX3_standing_15 rfl (lv_at hl 0 rfl) ?_
  refine va_get (D := D) (ci := 2) (v := .int (rm.1 11)) (C := RX3) (T := TX3) (N := 17) hx hb hts in3 hown hG.1 hP 0 rfl rfl 11 (by decide) (hts (.fieldLink RX3 47 "ChairCane$Room" "dropped" "I") (mem_b bq_wsX3_standing 0 2 rfl)) (fun _ h9 => h9) rfl dX3_standing_16 ?_
  refine lv_iconst (v := (-1)) hx hb dX3_standing_19 (by decide) ?_
  refine lv_ixor hx hb dX3_standing_20 ?_
  refine lv_iand hx hb dX3_standing_21 ?_
  exact fw_endI (rv := fun b : Int32 => b) (wp := fun b : Int32 => rmW k xa rm) hx hb hr hlocks h rfl hP hD hS dX3_standing_22
noncomputable def b_X3_sitterOn_2 (F : Nat)  (rm : OB)  (k2 : (Int32 × Int32) → Option (Int32)) (a2 : (Int32 × Int32)) : Option (Int32) :=
  if (rm.1 3) ≤ a2.2 then (some (-1)) else (if ib a2.2 8 then (if ((rm.2.1 7) (Int32.toNatClampNeg a2.2)) = a2.1 then (some a2.2) else (k2 (a2.1, (a2.2 + 1)))) else none)
noncomputable def f_X3_sitterOn (F : Nat)  (x1 : Int32) (rm : OB) : Option (Int32) :=
  lp (b_X3_sitterOn_2 F rm) F (x1, 0)
set_option maxRecDepth 20000 in
theorem bq_wsX3_sitterOn : subq wsX3_sitterOn [[.fieldLink RX3 22 "ChairCane$Room" "sitters" "I", .fieldLink RX3 35 "ChairCane$Room" "chairOf" "[I"]] := ⟨(fun _ h => (List.mem_cons_of_mem _ (List.mem_append_left _ h))), trivial⟩
set_option maxHeartbeats 4000000 in
set_option maxRecDepth 100000 in
theorem c_X3_sitterOn (l : Launch) (D : va_G) (k : Nat → ClassId) (sz : Nat)  (xa : Nat → Nat) (F : Nat)  (x1 : Int32) (rm : OB)  {res : Int32} (h : f_X3_sitterOn F x1 rm = some res) : CtI l yX3_sitterOn wsX3_sitterOn (rmK 1 0 0) [.ref (xa 0), .int x1] D k sz (rmW k xa rm) (fun r (_ : Unit) => r = res) (fun _ : Unit => rmW k xa rm) 0 0 := by
  refine CtI.mk (cc := cX3_sitterOn) (maxL := 3) (ret := (some .int)) (by decide) rfl (Nat.le_of_ble_eq_true rfl) ?_
  intro p e s m below meth c A ls E hP hD hS hl
  obtain ⟨hx, hb, hr, hml, hown, hts, hlocks, hin, hG, hA⟩ := E
  have hown : s.vm.findClass RX3 = some m.cls := hown
  have in3 : ∀ w ∈ u_ws RX3 TX3 17, w ∈ wsX3_sitterOn := fun _ h => List.mem_cons_of_mem _ (List.mem_append_right _ h)
  have hl : lv_has ls 3 [(0, .ref (xa 0)), (1, .int x1)] := hl
  have B2 : ∀ a2 : (Int32 × Int32), lp (b_X3_sitterOn_2 F rm) F a2 = some res → ∀ (H : Heap) (locs : List Loc) (ls : Array Slot), va_P D vwCl (rmW k xa rm) H → va_D A (rmW k xa rm) → va_S A s.heap H locs → lv_has ls 3 [(0, .ref (xa 0)), (1, .int a2.1), (2, .int a2.2)] → W p l e (rmK 1 0 0) s m (List.toArray [.ref (xa 0), .int x1]) below meth c H locs 0 0 (MQ below (va_Qi (fun r (_ : Unit) => r = res) (hcB D (fun _ : Unit => rmW k xa rm) A) A) (List.toArray [.ref (xa 0), .int x1]) s 0 0 A) (F0 m 2 ls []) := by
    refine lp_W ?_ F
    intro k2 hk2 a2 h H locs ls hP hD hS hl
    have hc2 : ∀ (v1 : Int32) (v2 : Int32), k2 (v1, v2) = some res → ∀ (H : Heap) (locs : List Loc) (ls : Array Slot), va_P D vwCl (rmW k xa rm) H → va_D A (rmW k xa rm) → va_S A s.heap H locs → lv_has ls 3 [(0, .ref (xa 0)), (1, .int v1), (2, .int v2)] → W p l e (rmK 1 0 0) s m (List.toArray [.ref (xa 0), .int x1]) below meth c H locs 0 0 (MQ below (va_Qi (fun r (_ : Unit) => r = res) (hcB D (fun _ : Unit => rmW k xa rm) A) A) (List.toArray [.ref (xa 0), .int x1]) s 0 0 A) (F0 m 2 ls []) := fun v1 v2 => hk2 (v1, v2)
    refine lv_iload_n hx hb dX3_sitterOn_2 rfl (lv_at hl 2 rfl) ?_
    refine lv_aload_n hx hb dX3_sitterOn_3 rfl (lv_at hl 0 rfl) ?_
    refine va_get (D := D) (ci := 2) (v := .int (rm.1 3)) (C := RX3) (T := TX3) (N := 17) hx hb hts in3 hown hG.1 hP 0 rfl rfl 3 (by decide) (hts (.fieldLink RX3 22 "ChairCane$Room" "sitters" "I") (mem_b bq_wsX3_sitterOn 0 0 rfl)) (fun _ h9 => h9) rfl dX3_sitterOn_4 ?_
    refine lv_icmp_ge (tgt := 28) hx hb dX3_sitterOn_7 (by decide) (fun c1 => ?_) (fun c1 => ?_)
    · have h := fw_t c1 h
      refine lv_iconst (v := (-1)) hx hb dX3_sitterOn_28 (by decide) ?_
      exact fw_endI (rv := fun b : Int32 => b) (wp := fun b : Int32 => rmW k xa rm) hx hb hr hlocks h rfl hP hD hS dX3_sitterOn_29
    · have h := fw_f c1 h
      refine lv_aload_n hx hb dX3_sitterOn_10 rfl (lv_at hl 0 rfl) ?_
      refine va_get (D := D) (ci := 2) (v := .ref (xa 4)) (C := RX3) (T := TX3) (N := 17) hx hb hts in3 hown hG.1 hP 0 rfl rfl 7 (by decide) (hts (.fieldLink RX3 35 "ChairCane$Room" "chairOf" "[I") (mem_b bq_wsX3_sitterOn 0 1 rfl)) (fun _ h9 => h9) rfl dX3_sitterOn_11 ?_
      refine lv_iload_n hx hb dX3_sitterOn_14 rfl (lv_at hl 2 rfl) ?_
      obtain ⟨g2, h⟩ := fw_g h
      refine va_iald hx hb hG.1 hP 4 0 rfl rfl (ib_vp g2) dX3_sitterOn_15 ?_
      refine lv_iload_n hx hb dX3_sitterOn_16 rfl (lv_at hl 1 rfl) ?_
      refine lv_icmp_ne (tgt := 22) hx hb dX3_sitterOn_17 (by decide) (fun c3 => ?_) (fun c3 => ?_)
      · have h := fw_f c3 h
        refine lv_iinc (v := (a2.2 + 1)) (lv' := [(2, .int (a2.2 + 1)), (0, .ref (xa 0)), (1, .int a2.1)]) hx hb dX3_sitterOn_22 hl (k := 2) rfl rfl (by decide) rfl (fun ls hl => ?_)
        refine lv_goto (tgt := 2) hx hb dX3_sitterOn_25 (by decide) ?_
        exact hc2 _ _ h _ _ _ hP hD hS (lv_sub hl [1, 2, 0] rfl)
      · have h := fw_t c3 h
        refine lv_iload_n hx hb dX3_sitterOn_20 rfl (lv_at hl 2 rfl) ?_
        exact fw_endI (rv := fun b : Int32 => b) (wp := fun b : Int32 => rmW k xa rm) hx hb hr hlocks h rfl hP hD hS dX3_sitterOn_21
  have C2 : ∀ (v1 : Int32) (v2 : Int32), lp (b_X3_sitterOn_2 F rm) F (v1, v2) = some res → ∀ (H : Heap) (locs : List Loc) (ls : Array Slot), va_P D vwCl (rmW k xa rm) H → va_D A (rmW k xa rm) → va_S A s.heap H locs → lv_has ls 3 [(0, .ref (xa 0)), (1, .int v1), (2, .int v2)] → W p l e (rmK 1 0 0) s m (List.toArray [.ref (xa 0), .int x1]) below meth c H locs 0 0 (MQ below (va_Qi (fun r (_ : Unit) => r = res) (hcB D (fun _ : Unit => rmW k xa rm) A) A) (List.toArray [.ref (xa 0), .int x1]) s 0 0 A) (F0 m 2 ls []) := fun v1 v2 => B2 (v1, v2)
  refine lv_iconst (v := 0) hx hb dX3_sitterOn_0 (by decide) ?_
  refine lv_istore_n (lv' := [(2, .int 0), (0, .ref (xa 0)), (1, .int x1)]) hx hb dX3_sitterOn_1 rfl hl (by decide) rfl (fun ls hl => ?_)
  exact C2 _ _ h _ _ _ hP hD hS (lv_sub hl [1, 2, 0] rfl)
noncomputable def b_X3_givesUnder_23 (F : Nat)  (rm : OB)   : Option (Int32) :=
  some 0
noncomputable def b_X3_givesUnder_70 (F : Nat)  (rm : OB)  (y0 : Int32) : Option (Int32) :=
  some y0
noncomputable def f_X3_givesUnder (F : Nat)  (x1 : Int32) (rm : OB) : Option (Int32) :=
  if x1 < 0 then (b_X3_givesUnder_23 F rm ) else (if (rm.1 3) ≤ x1 then (b_X3_givesUnder_23 F rm ) else (if (((rm.1 10) >>> (x1 &&& 31)) &&& 1) = 0 then (b_X3_givesUnder_23 F rm ) else (if ib x1 8 then (if ib ((rm.2.1 7) (Int32.toNatClampNeg x1)) 8 then (if ib ((rm.2.1 6) (Int32.toNatClampNeg ((rm.2.1 7) (Int32.toNatClampNeg x1)))) 4 then (if ((rm.2.1 13) (Int32.toNatClampNeg ((rm.2.1 6) (Int32.toNatClampNeg ((rm.2.1 7) (Int32.toNatClampNeg x1)))))) ≤ 0 then (b_X3_givesUnder_70 F rm 0) else (if ¬ ((rm.2.1 13) (Int32.toNatClampNeg ((rm.2.1 6) (Int32.toNatClampNeg ((rm.2.1 7) (Int32.toNatClampNeg x1)))))) = 0 then (b_X3_givesUnder_70 F rm ((((rm.2.1 9) (Int32.toNatClampNeg ((rm.2.1 6) (Int32.toNatClampNeg ((rm.2.1 7) (Int32.toNatClampNeg x1)))))) * ((rm.2.1 8) (Int32.toNatClampNeg x1))) / ((rm.2.1 13) (Int32.toNatClampNeg ((rm.2.1 6) (Int32.toNatClampNeg ((rm.2.1 7) (Int32.toNatClampNeg x1)))))))) else none)) else none) else none) else none)))
set_option maxRecDepth 20000 in
theorem bq_wsX3_givesUnder : subq wsX3_givesUnder [[.fieldLink RX3 22 "ChairCane$Room" "sitters" "I", .fieldLink RX3 44 "ChairCane$Room" "sits" "I", .fieldLink RX3 32 "ChairCane$Room" "strandOf" "[I", .fieldLink RX3 35 "ChairCane$Room" "chairOf" "[I", .fieldLink RX3 53 "ChairCane$Room" "load" "[I", .fieldLink RX3 41 "ChairCane$Room" "cane" "[I", .fieldLink RX3 38 "ChairCane$Room" "weight" "[I"]] := ⟨(fun _ h => (List.mem_cons_of_mem _ (List.mem_append_left _ h))), trivial⟩
set_option maxHeartbeats 4000000 in
set_option maxRecDepth 100000 in
theorem c_X3_givesUnder (l : Launch) (D : va_G) (k : Nat → ClassId) (sz : Nat)  (xa : Nat → Nat) (F : Nat)  (x1 : Int32) (rm : OB)  {res : Int32} (h : f_X3_givesUnder F x1 rm = some res) : CtI l yX3_givesUnder wsX3_givesUnder (rmK 1 0 0) [.ref (xa 0), .int x1] D k sz (rmW k xa rm) (fun r (_ : Unit) => r = res) (fun _ : Unit => rmW k xa rm) 0 0 := by
  refine CtI.mk (cc := cX3_givesUnder) (maxL := 3) (ret := (some .int)) (by decide) rfl (Nat.le_of_ble_eq_true rfl) ?_
  intro p e s m below meth c A ls E hP hD hS hl
  obtain ⟨hx, hb, hr, hml, hown, hts, hlocks, hin, hG, hA⟩ := E
  have hown : s.vm.findClass RX3 = some m.cls := hown
  have in3 : ∀ w ∈ u_ws RX3 TX3 17, w ∈ wsX3_givesUnder := fun _ h => List.mem_cons_of_mem _ (List.mem_append_right _ h)
  have hl : lv_has ls 3 [(0, .ref (xa 0)), (1, .int x1)] := hl
  have B23 : ∀ (H : Heap) (locs : List Loc) (ls : Array Slot), b_X3_givesUnder_23 F rm  = some res → va_P D vwCl (rmW k xa rm) H → va_D A (rmW k xa rm) → va_S A s.heap H locs → lv_has ls 3 [] → W p l e (rmK 1 0 0) s m (List.toArray [.ref (xa 0), .int x1]) below meth c H locs 0 0 (MQ below (va_Qi (fun r (_ : Unit) => r = res) (hcB D (fun _ : Unit => rmW k xa rm) A) A) (List.toArray [.ref (xa 0), .int x1]) s 0 0 A) (F0 m 23 ls []) := by
    intro  H locs ls h hP hD hS hl
    refine lv_iconst (v := 0) hx hb dX3_givesUnder_23 (by decide) ?_
    exact fw_endI (rv := fun b : Int32 => b) (wp := fun b : Int32 => rmW k xa rm) hx hb hr hlocks h rfl hP hD hS dX3_givesUnder_24
  have B70 : ∀ (y0 : Int32) (H : Heap) (locs : List Loc) (ls : Array Slot), b_X3_givesUnder_70 F rm y0 = some res → va_P D vwCl (rmW k xa rm) H → va_D A (rmW k xa rm) → va_S A s.heap H locs → lv_has ls 3 [] → W p l e (rmK 1 0 0) s m (List.toArray [.ref (xa 0), .int x1]) below meth c H locs 0 0 (MQ below (va_Qi (fun r (_ : Unit) => r = res) (hcB D (fun _ : Unit => rmW k xa rm) A) A) (List.toArray [.ref (xa 0), .int x1]) s 0 0 A) (F0 m 70 ls [.int y0]) := by
    intro y0 H locs ls h hP hD hS hl
    exact fw_endI (rv := fun b : Int32 => b) (wp := fun b : Int32 => rmW k xa rm) hx hb hr hlocks h rfl hP hD hS dX3_givesUnder_70
  refine lv_iload_n hx hb dX3_givesUnder_0 rfl (lv_at hl 1 rfl) ?_
  refine lv_if_lt (tgt := 23) hx hb dX3_givesUnder_1 (by decide) (fun c1 => ?_) (fun c1 => ?_)
  · have h := fw_t c1 h
    exact B23 _ _ _ h hP hD hS (lv_sub hl [] rfl)
  · have h := fw_f c1 h
    refine lv_iload_n hx hb dX3_givesUnder_4 rfl (lv_at hl 1 rfl) ?_
    refine lv_aload_n hx hb dX3_givesUnder_5 rfl (lv_at hl 0 rfl) ?_
    refine va_get (D := D) (ci := 2) (v := .int (rm.1 3)) (C := RX3) (T := TX3) (N := 17) hx hb hts in3 hown hG.1 hP 0 rfl rfl 3 (by decide) (hts (.fieldLink RX3 22 "ChairCane$Room" "sitters" "I") (mem_b bq_wsX3_givesUnder 0 0 rfl)) (fun _ h9 => h9) rfl dX3_givesUnder_6 ?_
    refine lv_icmp_ge (tgt := 23) hx hb dX3_givesUnder_9 (by decide) (fun c2 => ?_) (fun c2 => ?_)
    · have h := fw_t c2 h
      exact B23 _ _ _ h hP hD hS (lv_sub hl [] rfl)
    · have h := fw_f c2 h
      refine lv_aload_n hx hb dX3_givesUnder_12 rfl (lv_at hl 0 rfl) ?_
      refine va_get (D := D) (ci := 2) (v := .int (rm.1 10)) (C := RX3) (T := TX3) (N := 17) hx hb hts in3 hown hG.1 hP 0 rfl rfl 10 (by decide) (hts (.fieldLink RX3 44 "ChairCane$Room" "sits" "I") (mem_b bq_wsX3_givesUnder 0 1 rfl)) (fun _ h9 => h9) rfl dX3_givesUnder_13 ?_
      refine lv_iload_n hx hb dX3_givesUnder_16 rfl (lv_at hl 1 rfl) ?_
      refine lv_ishr hx hb dX3_givesUnder_17 ?_
      refine lv_iconst (v := 1) hx hb dX3_givesUnder_18 (by decide) ?_
      refine lv_iand hx hb dX3_givesUnder_19 ?_
      refine lv_if_ne (tgt := 25) hx hb dX3_givesUnder_20 (by decide) (fun c3 => ?_) (fun c3 => ?_)
      · have h := fw_f c3 h
        refine lv_aload_n hx hb dX3_givesUnder_25 rfl (lv_at hl 0 rfl) ?_
        refine va_get (D := D) (ci := 2) (v := .ref (xa 3)) (C := RX3) (T := TX3) (N := 17) hx hb hts in3 hown hG.1 hP 0 rfl rfl 6 (by decide) (hts (.fieldLink RX3 32 "ChairCane$Room" "strandOf" "[I") (mem_b bq_wsX3_givesUnder 0 2 rfl)) (fun _ h9 => h9) rfl dX3_givesUnder_26 ?_
        refine lv_aload_n hx hb dX3_givesUnder_29 rfl (lv_at hl 0 rfl) ?_
        refine va_get (D := D) (ci := 2) (v := .ref (xa 4)) (C := RX3) (T := TX3) (N := 17) hx hb hts in3 hown hG.1 hP 0 rfl rfl 7 (by decide) (hts (.fieldLink RX3 35 "ChairCane$Room" "chairOf" "[I") (mem_b bq_wsX3_givesUnder 0 3 rfl)) (fun _ h9 => h9) rfl dX3_givesUnder_30 ?_
        refine lv_iload_n hx hb dX3_givesUnder_33 rfl (lv_at hl 1 rfl) ?_
        obtain ⟨g4, h⟩ := fw_g h
        refine va_iald hx hb hG.1 hP 4 0 rfl rfl (ib_vp g4) dX3_givesUnder_34 ?_
        obtain ⟨g5, h⟩ := fw_g h
        refine va_iald hx hb hG.1 hP 3 0 rfl rfl (ib_vp g5) dX3_givesUnder_35 ?_
        refine lv_istore_n (lv' := [(2, .int ((rm.2.1 6) (Int32.toNatClampNeg ((rm.2.1 7) (Int32.toNatClampNeg x1))))), (0, .ref (xa 0)), (1, .int x1)]) hx hb dX3_givesUnder_36 rfl hl (by decide) rfl (fun ls hl => ?_)
        refine lv_aload_n hx hb dX3_givesUnder_37 rfl (lv_at hl 1 rfl) ?_
        refine va_get (D := D) (ci := 2) (v := .ref (xa 7)) (C := RX3) (T := TX3) (N := 17) hx hb hts in3 hown hG.1 hP 0 rfl rfl 13 (by decide) (hts (.fieldLink RX3 53 "ChairCane$Room" "load" "[I") (mem_b bq_wsX3_givesUnder 0 4 rfl)) (fun _ h9 => h9) rfl dX3_givesUnder_38 ?_
        refine lv_iload_n hx hb dX3_givesUnder_41 rfl (lv_at hl 0 rfl) ?_
        obtain ⟨g6, h⟩ := fw_g h
        refine va_iald hx hb hG.1 hP 7 0 rfl rfl (ib_vp g6) dX3_givesUnder_42 ?_
        refine lv_if_le (tgt := 69) hx hb dX3_givesUnder_43 (by decide) (fun c7 => ?_) (fun c7 => ?_)
        · have h := fw_t c7 h
          refine lv_iconst (v := 0) hx hb dX3_givesUnder_69 (by decide) ?_
          exact B70 _ _ _ _ h hP hD hS (lv_sub hl [] rfl)
        · have h := fw_f c7 h
          refine lv_aload_n hx hb dX3_givesUnder_46 rfl (lv_at hl 1 rfl) ?_
          refine va_get (D := D) (ci := 2) (v := .ref (xa 6)) (C := RX3) (T := TX3) (N := 17) hx hb hts in3 hown hG.1 hP 0 rfl rfl 9 (by decide) (hts (.fieldLink RX3 41 "ChairCane$Room" "cane" "[I") (mem_b bq_wsX3_givesUnder 0 5 rfl)) (fun _ h9 => h9) rfl dX3_givesUnder_47 ?_
          refine lv_iload_n hx hb dX3_givesUnder_50 rfl (lv_at hl 0 rfl) ?_
          refine va_iald hx hb hG.1 hP 6 0 rfl rfl (ib_vp g6) dX3_givesUnder_51 ?_
          refine lv_aload_n hx hb dX3_givesUnder_52 rfl (lv_at hl 1 rfl) ?_
          refine va_get (D := D) (ci := 2) (v := .ref (xa 5)) (C := RX3) (T := TX3) (N := 17) hx hb hts in3 hown hG.1 hP 0 rfl rfl 8 (by decide) (hts (.fieldLink RX3 38 "ChairCane$Room" "weight" "[I") (mem_b bq_wsX3_givesUnder 0 6 rfl)) (fun _ h9 => h9) rfl dX3_givesUnder_53 ?_
          refine lv_iload_n hx hb dX3_givesUnder_56 rfl (lv_at hl 2 rfl) ?_
          refine va_iald hx hb hG.1 hP 5 0 rfl rfl (ib_vp g4) dX3_givesUnder_57 ?_
          refine lv_imul hx hb dX3_givesUnder_58 ?_
          refine lv_aload_n hx hb dX3_givesUnder_59 rfl (lv_at hl 1 rfl) ?_
          refine va_get (D := D) (ci := 2) (v := .ref (xa 7)) (C := RX3) (T := TX3) (N := 17) hx hb hts in3 hown hG.1 hP 0 rfl rfl 13 (by decide) (hts (.fieldLink RX3 53 "ChairCane$Room" "load" "[I") (mem_b bq_wsX3_givesUnder 0 4 rfl)) (fun _ h9 => h9) rfl dX3_givesUnder_60 ?_
          refine lv_iload_n hx hb dX3_givesUnder_63 rfl (lv_at hl 0 rfl) ?_
          refine va_iald hx hb hG.1 hP 7 0 rfl rfl (ib_vp g6) dX3_givesUnder_64 ?_
          obtain ⟨g8, h⟩ := fw_g h
          refine lv_idiv hx hb dX3_givesUnder_65 g8 ?_
          refine lv_goto (tgt := 70) hx hb dX3_givesUnder_66 (by decide) ?_
          exact B70 _ _ _ _ h hP hD hS (lv_sub hl [] rfl)
      · have h := fw_t c3 h
        exact B23 _ _ _ h hP hD hS (lv_sub hl [] rfl)
noncomputable def b_X3_givesInAll_4 (F : Nat)  (rm : OB)  (k4 : (Int32 × Int32) → Option (Int32)) (a4 : (Int32 × Int32)) : Option (Int32) :=
  if (rm.1 3) ≤ a4.2 then (some a4.1) else (Option.bind (f_X3_givesUnder F a4.2 rm) (fun q2 => (k4 ((a4.1 + q2), (a4.2 + 1)))))
noncomputable def f_X3_givesInAll (F : Nat)   (rm : OB) : Option (Int32) :=
  lp (b_X3_givesInAll_4 F rm) F (0, 0)
set_option maxHeartbeats 4000000 in
set_option maxRecDepth 100000 in
theorem c_X3_givesInAll (l : Launch) (D : va_G) (k : Nat → ClassId) (sz : Nat)  (xa : Nat → Nat) (F : Nat)   (rm : OB)  {res : Int32} (h : f_X3_givesInAll F rm = some res) : CtI l yX3_givesInAll wsX3_givesInAll (rmK 2 0 0) [.ref (xa 0)] D k sz (rmW k xa rm) (fun r (_ : Unit) => r = res) (fun _ : Unit => rmW k xa rm) 0 0 := by
  refine CtI.mk (cc := cX3_givesInAll) (maxL := 3) (ret := (some .int)) (by decide) rfl (Nat.le_of_ble_eq_true rfl) ?_
  intro p e s m below meth c A ls E hP hD hS hl
  obtain ⟨hx, hb, hr, hml, hown, hts, hlocks, hin, hG, hA⟩ := E
  have hown : s.vm.findClass RX3 = some m.cls := hown
  have in3 : ∀ w ∈ u_ws RX3 TX3 17, w ∈ wsX3_givesInAll := fun _ h => List.mem_cons_of_mem _ (List.mem_append_right _ h)
  have hl : lv_has ls 3 [(0, .ref (xa 0))] := hl
  have B4 : ∀ a4 : (Int32 × Int32), lp (b_X3_givesInAll_4 F rm) F a4 = some res → ∀ (H : Heap) (locs : List Loc) (ls : Array Slot), va_P D vwCl (rmW k xa rm) H → va_D A (rmW k xa rm) → va_S A s.heap H locs → lv_has ls 3 [(0, .ref (xa 0)), (1, .int a4.1), (2, .int a4.2)] → W p l e (rmK 2 0 0) s m (List.toArray [.ref (xa 0)]) below meth c H locs 0 0 (MQ below (va_Qi (fun r (_ : Unit) => r = res) (hcB D (fun _ : Unit => rmW k xa rm) A) A) (List.toArray [.ref (xa 0)]) s 0 0 A) (F0 m 4 ls []) := by
    refine lp_W ?_ F
    intro k4 hk4 a4 h H locs ls hP hD hS hl
    have hc4 : ∀ (v1 : Int32) (v2 : Int32), k4 (v1, v2) = some res → ∀ (H : Heap) (locs : List Loc) (ls : Array Slot), va_P D vwCl (rmW k xa rm) H → va_D A (rmW k xa rm) → va_S A s.heap H locs → lv_has ls 3 [(0, .ref (xa 0)), (1, .int v1), (2, .int v2)] → W p l e (rmK 2 0 0) s m (List.toArray [.ref (xa 0)]) below meth c H locs 0 0 (MQ below (va_Qi (fun r (_ : Unit) => r = res) (hcB D (fun _ : Unit => rmW k xa rm) A) A) (List.toArray [.ref (xa 0)]) s 0 0 A) (F0 m 4 ls []) := fun v1 v2 => hk4 (v1, v2)
    refine lv_iload_n hx hb dX3_givesInAll_4 rfl (lv_at hl 2 rfl) ?_
    refine lv_aload_n hx hb dX3_givesInAll_5 rfl (lv_at hl 0 rfl) ?_
    refine va_get (D := D) (ci := 2) (v := .int (rm.1 3)) (C := RX3) (T := TX3) (N := 17) hx hb hts in3 hown hG.1 hP 0 rfl rfl 3 (by decide) (hts (.fieldLink RX3 22 "ChairCane$Room" "sitters" "I") (mem_b bq_wsX3_givesInAll 0 0 rfl)) (fun _ h9 => h9) rfl dX3_givesInAll_6 ?_
    refine lv_icmp_ge (tgt := 26) hx hb dX3_givesInAll_9 (by decide) (fun c1 => ?_) (fun c1 => ?_)
    · have h := fw_t c1 h
      refine lv_iload_n hx hb dX3_givesInAll_26 rfl (lv_at hl 1 rfl) ?_
      exact fw_endI (rv := fun b : Int32 => b) (wp := fun b : Int32 => rmW k xa rm) hx hb hr hlocks h rfl hP hD hS dX3_givesInAll_27
    · have h := fw_f c1 h
      refine lv_iload_n hx hb dX3_givesInAll_12 rfl (lv_at hl 1 rfl) ?_
      refine lv_aload_n hx hb dX3_givesInAll_13 rfl (lv_at hl 0 rfl) ?_
      refine lv_iload_n hx hb dX3_givesInAll_14 rfl (lv_at hl 2 rfl) ?_
      refine fw_Vi (As := [.int a4.2]) (rest := [.int a4.1]) (n := 1) (wr := []) (rv := fun b : Int32 => b) (wp := fun b : Int32 => rmW k xa rm) h hx hb hml hown hts hG hA hP hD hS hl.1 (List.range (rmW k xa rm).length) [] (fun q hq9 => c_X3_givesUnder l D k _  xa F a4.2 rm  hq9) (ci := 2) (q0 := 0) rfl rfl gX3_givesInAll_X3_givesUnder rfl ⟨rfl, rfl, Nat.le_of_ble_eq_true rfl, Nat.le_of_ble_eq_true rfl⟩ (by decide +kernel) (al_C _) rfl (al_n _) ⟨rfl, rfl, Nat.le_of_ble_eq_true rfl, Nat.le_of_ble_eq_true rfl, Nat.le_of_ble_eq_true rfl⟩ dX3_givesInAll_15 (fun q2 H locs h hP hD hS => ?_)
      obtain ⟨hP, hD⟩ := cv (w' := rmW k xa rm) hP hD rfl
      refine hc_is (z := q2) rfl ?_
      refine lv_iadd hx hb dX3_givesInAll_18 ?_
      refine lv_istore_n (lv' := [(1, .int (a4.1 + q2)), (0, .ref (xa 0)), (2, .int a4.2)]) hx hb dX3_givesInAll_19 rfl hl (by decide) rfl (fun ls hl => ?_)
      refine lv_iinc (v := (a4.2 + 1)) (lv' := [(2, .int (a4.2 + 1)), (1, .int (a4.1 + q2)), (0, .ref (xa 0))]) hx hb dX3_givesInAll_20 hl (k := 2) rfl rfl (by decide) rfl (fun ls hl => ?_)
      refine lv_goto (tgt := 4) hx hb dX3_givesInAll_23 (by decide) ?_
      exact hc4 _ _ h _ _ _ hP hD hS (lv_sub hl [2, 1, 0] rfl)
  have C4 : ∀ (v1 : Int32) (v2 : Int32), lp (b_X3_givesInAll_4 F rm) F (v1, v2) = some res → ∀ (H : Heap) (locs : List Loc) (ls : Array Slot), va_P D vwCl (rmW k xa rm) H → va_D A (rmW k xa rm) → va_S A s.heap H locs → lv_has ls 3 [(0, .ref (xa 0)), (1, .int v1), (2, .int v2)] → W p l e (rmK 2 0 0) s m (List.toArray [.ref (xa 0)]) below meth c H locs 0 0 (MQ below (va_Qi (fun r (_ : Unit) => r = res) (hcB D (fun _ : Unit => rmW k xa rm) A) A) (List.toArray [.ref (xa 0)]) s 0 0 A) (F0 m 4 ls []) := fun v1 v2 => B4 (v1, v2)
  refine lv_iconst (v := 0) hx hb dX3_givesInAll_0 (by decide) ?_
  refine lv_istore_n (lv' := [(1, .int 0), (0, .ref (xa 0))]) hx hb dX3_givesInAll_1 rfl hl (by decide) rfl (fun ls hl => ?_)
  refine lv_iconst (v := 0) hx hb dX3_givesInAll_2 (by decide) ?_
  refine lv_istore_n (lv' := [(2, .int 0), (1, .int 0), (0, .ref (xa 0))]) hx hb dX3_givesInAll_3 rfl hl (by decide) rfl (fun ls hl => ?_)
  exact C4 _ _ h _ _ _ hP hD hS (lv_sub hl [2, 1, 0] rfl)
noncomputable def b_X3_worthTo_22 (F : Nat)  (rm : OB)  (y0 : Int32) : Option (Int32) :=
  some y0
noncomputable def f_X3_worthTo (F : Nat)  (x1 : Int32) (rm : OB) : Option (Int32) :=
  Option.bind (f_X3_isDown F x1 rm) (fun q1 => (if q1 = 0 then (b_X3_worthTo_22 F rm 0) else (Option.bind (f_X3_givesUnder F x1 rm) (fun q3 => (b_X3_worthTo_22 F rm (1 + (q3 / 10)))))))
set_option maxHeartbeats 4000000 in
set_option maxRecDepth 100000 in
theorem c_X3_worthTo (l : Launch) (D : va_G) (k : Nat → ClassId) (sz : Nat)  (xa : Nat → Nat) (F : Nat)  (x1 : Int32) (rm : OB)  {res : Int32} (h : f_X3_worthTo F x1 rm = some res) : CtI l yX3_worthTo wsX3_worthTo (rmK 2 0 0) [.ref (xa 0), .int x1] D k sz (rmW k xa rm) (fun r (_ : Unit) => r = res) (fun _ : Unit => rmW k xa rm) 0 0 := by
  refine CtI.mk (cc := cX3_worthTo) (maxL := 2) (ret := (some .int)) (by decide) rfl (Nat.le_of_ble_eq_true rfl) ?_
  intro p e s m below meth c A ls E hP hD hS hl
  obtain ⟨hx, hb, hr, hml, hown, hts, hlocks, hin, hG, hA⟩ := E
  have hown : s.vm.findClass RX3 = some m.cls := hown
  have in3 : ∀ w ∈ u_ws RX3 TX3 17, w ∈ wsX3_worthTo := fun _ h => List.mem_cons_of_mem _ (List.mem_append_right _ h)
  have hl : lv_has ls 2 [(0, .ref (xa 0)), (1, .int x1)] := hl
  have B22 : ∀ (y0 : Int32) (H : Heap) (locs : List Loc) (ls : Array Slot), b_X3_worthTo_22 F rm y0 = some res → va_P D vwCl (rmW k xa rm) H → va_D A (rmW k xa rm) → va_S A s.heap H locs → lv_has ls 2 [] → W p l e (rmK 2 0 0) s m (List.toArray [.ref (xa 0), .int x1]) below meth c H locs 0 0 (MQ below (va_Qi (fun r (_ : Unit) => r = res) (hcB D (fun _ : Unit => rmW k xa rm) A) A) (List.toArray [.ref (xa 0), .int x1]) s 0 0 A) (F0 m 22 ls [.int y0]) := by
    intro y0 H locs ls h hP hD hS hl
    exact fw_endI (rv := fun b : Int32 => b) (wp := fun b : Int32 => rmW k xa rm) hx hb hr hlocks h rfl hP hD hS dX3_worthTo_22
  refine lv_aload_n hx hb dX3_worthTo_0 rfl (lv_at hl 0 rfl) ?_
  refine lv_iload_n hx hb dX3_worthTo_1 rfl (lv_at hl 1 rfl) ?_
  refine fw_Vi (As := [.int x1]) (rest := []) (n := 1) (wr := []) (rv := fun b : Int32 => b) (wp := fun b : Int32 => rmW k xa rm) h hx hb hml hown hts hG hA hP hD hS hl.1 (List.range (rmW k xa rm).length) [] (fun q hq9 => c_X3_isDown l D k _  xa F x1 rm  hq9) (ci := 2) (q0 := 0) rfl rfl gX3_worthTo_X3_isDown rfl ⟨rfl, rfl, Nat.le_of_ble_eq_true rfl, Nat.le_of_ble_eq_true rfl⟩ (by decide +kernel) (al_C _) rfl (al_n _) ⟨rfl, rfl, Nat.le_of_ble_eq_true rfl, Nat.le_of_ble_eq_true rfl, Nat.le_of_ble_eq_true rfl⟩ dX3_worthTo_2 (fun q1 H locs h hP hD hS => ?_)
  obtain ⟨hP, hD⟩ := cv (w' := rmW k xa rm) hP hD rfl
  refine hc_is (z := q1) rfl ?_
  refine lv_if_eq (tgt := 21) hx hb dX3_worthTo_5 (by decide) (fun c2 => ?_) (fun c2 => ?_)
  · have h := fw_t c2 h
    refine lv_iconst (v := 0) hx hb dX3_worthTo_21 (by decide) ?_
    exact B22 _ _ _ _ h hP hD hS (lv_sub hl [] rfl)
  · have h := fw_f c2 h
    refine lv_iconst (v := 1) hx hb dX3_worthTo_8 (by decide) ?_
    refine lv_aload_n hx hb dX3_worthTo_9 rfl (lv_at hl 0 rfl) ?_
    refine lv_iload_n hx hb dX3_worthTo_10 rfl (lv_at hl 1 rfl) ?_
    refine fw_Vi (As := [.int x1]) (rest := [.int 1]) (n := 1) (wr := []) (rv := fun b : Int32 => b) (wp := fun b : Int32 => rmW k xa rm) h hx hb hml hown hts hG hA hP hD hS hl.1 (List.range (rmW k xa rm).length) [] (fun q hq9 => c_X3_givesUnder l D k _  xa F x1 rm  hq9) (ci := 2) (q0 := 0) rfl rfl gX3_worthTo_X3_givesUnder rfl ⟨rfl, rfl, Nat.le_of_ble_eq_true rfl, Nat.le_of_ble_eq_true rfl⟩ (by decide +kernel) (al_C _) rfl (al_n _) ⟨rfl, rfl, Nat.le_of_ble_eq_true rfl, Nat.le_of_ble_eq_true rfl, Nat.le_of_ble_eq_true rfl⟩ dX3_worthTo_11 (fun q3 H locs h hP hD hS => ?_)
    obtain ⟨hP, hD⟩ := cv (w' := rmW k xa rm) hP hD rfl
    refine hc_is (z := q3) rfl ?_
    refine lv_bipush (v := 10) hx hb dX3_worthTo_14 (by decide) ?_
    refine lv_idiv hx hb dX3_worthTo_16 (by decide) ?_
    refine lv_iadd hx hb dX3_worthTo_17 ?_
    refine lv_goto (tgt := 22) hx hb dX3_worthTo_18 (by decide) ?_
    exact B22 _ _ _ _ h hP hD hS (lv_sub hl [] rfl)
noncomputable def b_X3_seat_17 (F : Nat)    (rm : OB) : Option (OB) :=
  some rm
noncomputable def b_X3_seat_87 (F : Nat)    (y0 : Int32) (y1 : Int32) (y2 : Int32) (rm : OB) : Option (OB) :=
  if ib y2 4 then (some (rm.1, (uF rm.2.1 14 (upd (rm.2.1 14) (Int32.toNatClampNeg y2) (y1 + y0))), rm.2.2)) else none
noncomputable def b_X3_seat_69 (F : Nat)    (v2 : Int32) (v3 : Int32) (y0 : Int32) (y1 : Int32) (y2 : Int32) (rm : OB) : Option (OB) :=
  if ib y2 4 then (if ib v3 4 then (if v2 = 0 then (b_X3_seat_87 F (-1) ((rm.2.1 14) (Int32.toNatClampNeg v3)) v3 (rm.1, (uF rm.2.1 13 (upd (rm.2.1 13) (Int32.toNatClampNeg y2) (y1 + y0))), rm.2.2)) else (b_X3_seat_87 F 1 ((rm.2.1 14) (Int32.toNatClampNeg v3)) v3 (rm.1, (uF rm.2.1 13 (upd (rm.2.1 13) (Int32.toNatClampNeg y2) (y1 + y0))), rm.2.2))) else none) else none
noncomputable def f_X3_seat (F : Nat)  (x1 : Int32) (x2 : Int32) (rm : OB) : Option (OB) :=
  Option.bind (f_X3_isUp F x1 rm) (fun q5 => (if q5 = 0 then (b_X3_seat_17 F rm) else (Option.bind (f_X3_isDown F x1 rm) (fun q7 => (if q7 = x2 then (b_X3_seat_17 F rm) else (if ib x1 8 then (if ib ((rm.2.1 7) (Int32.toNatClampNeg x1)) 8 then (if ib ((rm.2.1 6) (Int32.toNatClampNeg ((rm.2.1 7) (Int32.toNatClampNeg x1)))) 4 then (if x2 = 0 then (b_X3_seat_69 F x2 ((rm.2.1 6) (Int32.toNatClampNeg ((rm.2.1 7) (Int32.toNatClampNeg x1)))) (-((rm.2.1 8) (Int32.toNatClampNeg x1))) ((rm.2.1 13) (Int32.toNatClampNeg ((rm.2.1 6) (Int32.toNatClampNeg ((rm.2.1 7) (Int32.toNatClampNeg x1)))))) ((rm.2.1 6) (Int32.toNatClampNeg ((rm.2.1 7) (Int32.toNatClampNeg x1)))) ((uF rm.1 10 ((rm.1 10) ^^^ (1 <<< (x1 &&& 31)))), rm.2.1, rm.2.2)) else (b_X3_seat_69 F x2 ((rm.2.1 6) (Int32.toNatClampNeg ((rm.2.1 7) (Int32.toNatClampNeg x1)))) ((rm.2.1 8) (Int32.toNatClampNeg x1)) ((rm.2.1 13) (Int32.toNatClampNeg ((rm.2.1 6) (Int32.toNatClampNeg ((rm.2.1 7) (Int32.toNatClampNeg x1)))))) ((rm.2.1 6) (Int32.toNatClampNeg ((rm.2.1 7) (Int32.toNatClampNeg x1)))) ((uF rm.1 10 ((rm.1 10) ^^^ (1 <<< (x1 &&& 31)))), rm.2.1, rm.2.2))) else none) else none) else none))))))
set_option maxHeartbeats 4000000 in
set_option maxRecDepth 100000 in
theorem c_X3_seat (l : Launch) (D : va_G) (k : Nat → ClassId) (sz : Nat)  (xa : Nat → Nat) (F : Nat)  (x1 : Int32) (x2 : Int32) (rm : OB)  {res : OB} (h : f_X3_seat F x1 x2 rm = some res) : CtV l yX3_seat wsX3_seat (rmK 2 0 0) [.ref (xa 0), .int x1, .int x2] D k sz (rmW k xa rm) (fun (_ : Unit) => True) (fun _ : Unit => rmW k xa res) 0 0 := by
  refine CtV.mk (cc := cX3_seat) (maxL := 4) (ret := none) (by decide) rfl (Nat.le_of_ble_eq_true rfl) ?_
  intro p e s m below meth c A ls E hP hD hS hl
  obtain ⟨hx, hb, hr, hml, hown, hts, hlocks, hin, hG, hA⟩ := E
  have hown : s.vm.findClass RX3 = some m.cls := hown
  have in3 : ∀ w ∈ u_ws RX3 TX3 17, w ∈ wsX3_seat := fun _ h => List.mem_cons_of_mem _ (List.mem_append_right _ h)
  have hl : lv_has ls 4 [(0, .ref (xa 0)), (1, .int x1), (2, .int x2)] := hl
  have B17 : ∀ (rm : OB) (H : Heap) (locs : List Loc) (ls : Array Slot), b_X3_seat_17 F rm = some res → va_P D vwCl (rmW k xa rm) H → va_D A (rmW k xa rm) → va_S A s.heap H locs → lv_has ls 4 [] → W p l e (rmK 2 0 0) s m (List.toArray [.ref (xa 0), .int x1, .int x2]) below meth c H locs 0 0 (MQ below (va_Qv (fun (_ : Unit) => True) (hcB D (fun _ : Unit => rmW k xa res) A) A) (List.toArray [.ref (xa 0), .int x1, .int x2]) s 0 0 A) (F0 m 17 ls []) := by
    intro rm H locs ls h hP hD hS hl
    exact fw_endV (wp := fun b : OB => rmW k xa b) hx hb hr hlocks h hP hD hS dX3_seat_17
  have B87 : ∀ (y0 : Int32) (y1 : Int32) (y2 : Int32) (rm : OB) (H : Heap) (locs : List Loc) (ls : Array Slot), b_X3_seat_87 F y0 y1 y2 rm = some res → va_P D vwCl (rmW k xa rm) H → va_D A (rmW k xa rm) → va_S A s.heap H locs → lv_has ls 4 [] → W p l e (rmK 2 0 0) s m (List.toArray [.ref (xa 0), .int x1, .int x2]) below meth c H locs 0 0 (MQ below (va_Qv (fun (_ : Unit) => True) (hcB D (fun _ : Unit => rmW k xa res) A) A) (List.toArray [.ref (xa 0), .int x1, .int x2]) s 0 0 A) (F0 m 87 ls [.int y0, .int y1, .int y2, .ref (xa 8)]) := by
    intro y0 y1 y2 rm H locs ls h hP hD hS hl
    refine lv_iadd hx hb dX3_seat_87 ?_
    obtain ⟨g1, h⟩ := fw_g h
    refine va_iast hx hb hG.1 hP hD hS 8 0 rfl rfl (ib_vp g1) dX3_seat_88 (fun H locs hP hD hS => ?_)
    exact fw_endV (wp := fun b : OB => rmW k xa b) hx hb hr hlocks h hP hD hS dX3_seat_89
  have B69 : ∀ (v2 : Int32) (v3 : Int32) (y0 : Int32) (y1 : Int32) (y2 : Int32) (rm : OB) (H : Heap) (locs : List Loc) (ls : Array Slot), b_X3_seat_69 F v2 v3 y0 y1 y2 rm = some res → va_P D vwCl (rmW k xa rm) H → va_D A (rmW k xa rm) → va_S A s.heap H locs → lv_has ls 4 [(0, .ref (xa 0)), (2, .int v2), (3, .int v3)] → W p l e (rmK 2 0 0) s m (List.toArray [.ref (xa 0), .int x1, .int x2]) below meth c H locs 0 0 (MQ below (va_Qv (fun (_ : Unit) => True) (hcB D (fun _ : Unit => rmW k xa res) A) A) (List.toArray [.ref (xa 0), .int x1, .int x2]) s 0 0 A) (F0 m 69 ls [.int y0, .int y1, .int y2, .ref (xa 7)]) := by
    intro v2 v3 y0 y1 y2 rm H locs ls h hP hD hS hl
    refine lv_iadd hx hb dX3_seat_69 ?_
    obtain ⟨g2, h⟩ := fw_g h
    refine va_iast hx hb hG.1 hP hD hS 7 0 rfl rfl (ib_vp g2) dX3_seat_70 (fun H locs hP hD hS => ?_)
    refine lv_aload_n hx hb dX3_seat_71 rfl (lv_at hl 0 rfl) ?_
    refine va_get (D := D) (ci := 2) (v := .ref (xa 8)) (C := RX3) (T := TX3) (N := 17) hx hb hts in3 hown hG.1 hP 0 rfl rfl 14 (by decide) (hts (.fieldLink RX3 56 "ChairCane$Room" "heads" "[I") (mem_b bq_wsX3_seat 0 5 rfl)) (fun _ h9 => h9) rfl dX3_seat_72 ?_
    refine lv_iload_n hx hb dX3_seat_75 rfl (lv_at hl 2 rfl) ?_
    refine lv_dup2_11 hx hb dX3_seat_76 rfl rfl ?_
    obtain ⟨g3, h⟩ := fw_g h
    refine va_iald hx hb hG.1 hP 8 0 rfl rfl (ib_vp g3) dX3_seat_77 ?_
    refine lv_iload_n hx hb dX3_seat_78 rfl (lv_at hl 1 rfl) ?_
    refine lv_if_eq (tgt := 86) hx hb dX3_seat_79 (by decide) (fun c4 => ?_) (fun c4 => ?_)
    · have h := fw_t c4 h
      refine lv_iconst (v := (-1)) hx hb dX3_seat_86 (by decide) ?_
      exact B87 _ _ _ _ _ _ _ h hP hD hS (lv_sub hl [] rfl)
    · have h := fw_f c4 h
      refine lv_iconst (v := 1) hx hb dX3_seat_82 (by decide) ?_
      refine lv_goto (tgt := 87) hx hb dX3_seat_83 (by decide) ?_
      exact B87 _ _ _ _ _ _ _ h hP hD hS (lv_sub hl [] rfl)
  refine lv_aload_n hx hb dX3_seat_0 rfl (lv_at hl 0 rfl) ?_
  refine lv_iload_n hx hb dX3_seat_1 rfl (lv_at hl 1 rfl) ?_
  refine fw_Vi (As := [.int x1]) (rest := []) (n := 1) (wr := []) (rv := fun b : Int32 => b) (wp := fun b : Int32 => rmW k xa rm) h hx hb hml hown hts hG hA hP hD hS hl.1 (List.range (rmW k xa rm).length) [] (fun q hq9 => c_X3_isUp l D k _  xa F x1 rm  hq9) (ci := 2) (q0 := 0) rfl rfl gX3_seat_X3_isUp rfl ⟨rfl, rfl, Nat.le_of_ble_eq_true rfl, Nat.le_of_ble_eq_true rfl⟩ (by decide +kernel) (al_C _) rfl (al_n _) ⟨rfl, rfl, Nat.le_of_ble_eq_true rfl, Nat.le_of_ble_eq_true rfl, Nat.le_of_ble_eq_true rfl⟩ dX3_seat_2 (fun q5 H locs h hP hD hS => ?_)
  obtain ⟨hP, hD⟩ := cv (w' := rmW k xa rm) hP hD rfl
  refine hc_is (z := q5) rfl ?_
  refine lv_if_eq (tgt := 17) hx hb dX3_seat_5 (by decide) (fun c6 => ?_) (fun c6 => ?_)
  · have h := fw_t c6 h
    exact B17 _ _ _ _ h hP hD hS (lv_sub hl [] rfl)
  · have h := fw_f c6 h
    refine lv_aload_n hx hb dX3_seat_8 rfl (lv_at hl 0 rfl) ?_
    refine lv_iload_n hx hb dX3_seat_9 rfl (lv_at hl 1 rfl) ?_
    refine fw_Vi (As := [.int x1]) (rest := []) (n := 1) (wr := []) (rv := fun b : Int32 => b) (wp := fun b : Int32 => rmW k xa rm) h hx hb hml hown hts hG hA hP hD hS hl.1 (List.range (rmW k xa rm).length) [] (fun q hq9 => c_X3_isDown l D k _  xa F x1 rm  hq9) (ci := 2) (q0 := 0) rfl rfl gX3_seat_X3_isDown rfl ⟨rfl, rfl, Nat.le_of_ble_eq_true rfl, Nat.le_of_ble_eq_true rfl⟩ (by decide +kernel) (al_C _) rfl (al_n _) ⟨rfl, rfl, Nat.le_of_ble_eq_true rfl, Nat.le_of_ble_eq_true rfl, Nat.le_of_ble_eq_true rfl⟩ dX3_seat_10 (fun q7 H locs h hP hD hS => ?_)
    obtain ⟨hP, hD⟩ := cv (w' := rmW k xa rm) hP hD rfl
    refine hc_is (z := q7) rfl ?_
    refine lv_iload_n hx hb dX3_seat_13 rfl (lv_at hl 2 rfl) ?_
    refine lv_icmp_ne (tgt := 18) hx hb dX3_seat_14 (by decide) (fun c8 => ?_) (fun c8 => ?_)
    · have h := fw_f c8 h
      refine lv_aload_n hx hb dX3_seat_18 rfl (lv_at hl 0 rfl) ?_
      refine va_get (D := D) (ci := 2) (v := .ref (xa 3)) (C := RX3) (T := TX3) (N := 17) hx hb hts in3 hown hG.1 hP 0 rfl rfl 6 (by decide) (hts (.fieldLink RX3 32 "ChairCane$Room" "strandOf" "[I") (mem_b bq_wsX3_seat 0 0 rfl)) (fun _ h9 => h9) rfl dX3_seat_19 ?_
      refine lv_aload_n hx hb dX3_seat_22 rfl (lv_at hl 0 rfl) ?_
      refine va_get (D := D) (ci := 2) (v := .ref (xa 4)) (C := RX3) (T := TX3) (N := 17) hx hb hts in3 hown hG.1 hP 0 rfl rfl 7 (by decide) (hts (.fieldLink RX3 35 "ChairCane$Room" "chairOf" "[I") (mem_b bq_wsX3_seat 0 1 rfl)) (fun _ h9 => h9) rfl dX3_seat_23 ?_
      refine lv_iload_n hx hb dX3_seat_26 rfl (lv_at hl 1 rfl) ?_
      obtain ⟨g9, h⟩ := fw_g h
      refine va_iald hx hb hG.1 hP 4 0 rfl rfl (ib_vp g9) dX3_seat_27 ?_
      obtain ⟨g10, h⟩ := fw_g h
      refine va_iald hx hb hG.1 hP 3 0 rfl rfl (ib_vp g10) dX3_seat_28 ?_
      refine lv_istore_n (lv' := [(3, .int ((rm.2.1 6) (Int32.toNatClampNeg ((rm.2.1 7) (Int32.toNatClampNeg x1))))), (0, .ref (xa 0)), (1, .int x1), (2, .int x2)]) hx hb dX3_seat_29 rfl hl (by decide) rfl (fun ls hl => ?_)
      refine lv_aload_n hx hb dX3_seat_30 rfl (lv_at hl 1 rfl) ?_
      refine lv_dup hx hb dX3_seat_31 rfl ?_
      refine va_get (D := D) (ci := 2) (v := .int (rm.1 10)) (C := RX3) (T := TX3) (N := 17) hx hb hts in3 hown hG.1 hP 0 rfl rfl 10 (by decide) (hts (.fieldLink RX3 44 "ChairCane$Room" "sits" "I") (mem_b bq_wsX3_seat 0 2 rfl)) (fun _ h9 => h9) rfl dX3_seat_32 ?_
      refine lv_iconst (v := 1) hx hb dX3_seat_35 (by decide) ?_
      refine lv_iload_n hx hb dX3_seat_36 rfl (lv_at hl 2 rfl) ?_
      refine lv_ishl hx hb dX3_seat_37 ?_
      refine lv_ixor hx hb dX3_seat_38 ?_
      refine va_put (D := D) (ci := 2) (v := .int ((rm.1 10) ^^^ (1 <<< (x1 &&& 31)))) (C := RX3) (T := TX3) (N := 17) hx hb hts in3 tyX3 tyX3_ok nmX3 hown hG.1 hP hD hS 0 rfl rfl 10 (by decide) (hts (.fieldLink RX3 44 "ChairCane$Room" "sits" "I") (mem_b bq_wsX3_seat 0 2 rfl)) (fun _ h9 => h9) rfl (tyX3_ok 10 (by decide)) rfl rfl (Nat.le_of_ble_eq_true rfl) dX3_seat_39 (fun H locs hP hD hS => ?_)
      refine lv_aload_n hx hb dX3_seat_42 rfl (lv_at hl 1 rfl) ?_
      refine va_get (D := D) (ci := 2) (v := .ref (xa 7)) (C := RX3) (T := TX3) (N := 17) hx hb hts in3 hown hG.1 hP 0 rfl rfl 13 (by decide) (hts (.fieldLink RX3 53 "ChairCane$Room" "load" "[I") (mem_b bq_wsX3_seat 0 3 rfl)) (fun _ h9 => h9) rfl dX3_seat_43 ?_
      refine lv_iload_n hx hb dX3_seat_46 rfl (lv_at hl 0 rfl) ?_
      refine lv_dup2_11 hx hb dX3_seat_47 rfl rfl ?_
      obtain ⟨g11, h⟩ := fw_g h
      refine va_iald hx hb hG.1 hP 7 0 rfl rfl (ib_vp g11) dX3_seat_48 ?_
      refine lv_iload_n hx hb dX3_seat_49 rfl (lv_at hl 3 rfl) ?_
      refine lv_if_eq (tgt := 62) hx hb dX3_seat_50 (by decide) (fun c12 => ?_) (fun c12 => ?_)
      · have h := fw_t c12 h
        refine lv_aload_n hx hb dX3_seat_62 rfl (lv_at hl 1 rfl) ?_
        refine va_get (D := D) (ci := 2) (v := .ref (xa 5)) (C := RX3) (T := TX3) (N := 17) hx hb hts in3 hown hG.1 hP 0 rfl rfl 8 (by decide) (hts (.fieldLink RX3 38 "ChairCane$Room" "weight" "[I") (mem_b bq_wsX3_seat 0 4 rfl)) (fun _ h9 => h9) rfl dX3_seat_63 ?_
        refine lv_iload_n hx hb dX3_seat_66 rfl (lv_at hl 2 rfl) ?_
        refine va_iald hx hb hG.1 hP 5 0 rfl rfl (ib_vp g9) dX3_seat_67 ?_
        refine lv_ineg hx hb dX3_seat_68 ?_
        exact B69 _ _ _ _ _ _ _ _ _ h hP hD hS (lv_sub hl [1, 3, 0] rfl)
      · have h := fw_f c12 h
        refine lv_aload_n hx hb dX3_seat_53 rfl (lv_at hl 1 rfl) ?_
        refine va_get (D := D) (ci := 2) (v := .ref (xa 5)) (C := RX3) (T := TX3) (N := 17) hx hb hts in3 hown hG.1 hP 0 rfl rfl 8 (by decide) (hts (.fieldLink RX3 38 "ChairCane$Room" "weight" "[I") (mem_b bq_wsX3_seat 0 4 rfl)) (fun _ h9 => h9) rfl dX3_seat_54 ?_
        refine lv_iload_n hx hb dX3_seat_57 rfl (lv_at hl 2 rfl) ?_
        refine va_iald hx hb hG.1 hP 5 0 rfl rfl (ib_vp g9) dX3_seat_58 ?_
        refine lv_goto (tgt := 69) hx hb dX3_seat_59 (by decide) ?_
        exact B69 _ _ _ _ _ _ _ _ _ h hP hD hS (lv_sub hl [1, 3, 0] rfl)
    · have h := fw_t c8 h
      exact B17 _ _ _ _ h hP hD hS (lv_sub hl [] rfl)
noncomputable def b_X3_weigh_71 (F : Nat)   (k18 : (Int32 × OB) → Option (OB)) (v1 : Int32) (rm : OB) : Option (OB) :=
  k18 ((v1 + 1), rm)
noncomputable def b_X3_weigh_18 (F : Nat)    (k18 : (Int32 × OB) → Option (OB)) (a18 : (Int32 × OB)) : Option (OB) :=
  if (a18.2.1 3) ≤ a18.1 then (some a18.2) else (Option.bind (f_X3_isDown F a18.1 a18.2) (fun q2 => (if q2 = 0 then (b_X3_weigh_71 F k18 a18.1 a18.2) else (if ib a18.1 8 then (if ib ((a18.2.2.1 7) (Int32.toNatClampNeg a18.1)) 8 then (if ib ((a18.2.2.1 6) (Int32.toNatClampNeg ((a18.2.2.1 7) (Int32.toNatClampNeg a18.1)))) 4 then (b_X3_weigh_71 F k18 a18.1 (a18.2.1, (uF (uF a18.2.2.1 13 (upd (a18.2.2.1 13) (Int32.toNatClampNeg ((a18.2.2.1 6) (Int32.toNatClampNeg ((a18.2.2.1 7) (Int32.toNatClampNeg a18.1))))) (((a18.2.2.1 13) (Int32.toNatClampNeg ((a18.2.2.1 6) (Int32.toNatClampNeg ((a18.2.2.1 7) (Int32.toNatClampNeg a18.1)))))) + ((a18.2.2.1 8) (Int32.toNatClampNeg a18.1))))) 14 (upd (a18.2.2.1 14) (Int32.toNatClampNeg ((a18.2.2.1 6) (Int32.toNatClampNeg ((a18.2.2.1 7) (Int32.toNatClampNeg a18.1))))) (((a18.2.2.1 14) (Int32.toNatClampNeg ((a18.2.2.1 6) (Int32.toNatClampNeg ((a18.2.2.1 7) (Int32.toNatClampNeg a18.1)))))) + 1))), a18.2.2.2)) else none) else none) else none))))
noncomputable def f_X3_weigh (F : Nat)   (rm : OB) : Option (OB) :=
  Option.bind (f_J7_fill_53178 F 4 0 (rm.2.1 13)) (fun q7 => (Option.bind (f_J7_fill_53178 F 4 0 (rm.2.1 14)) (fun q8 => (lp (b_X3_weigh_18 F) F (0, (rm.1, (uF (uF rm.2.1 13 q7) 14 q8), rm.2.2))))))
set_option maxHeartbeats 4000000 in
set_option maxRecDepth 100000 in
theorem c_X3_weigh (l : Launch) (D : va_G) (k : Nat → ClassId) (sz : Nat)  (xa : Nat → Nat) (F : Nat)   (rm : OB)  {res : OB} (h : f_X3_weigh F rm = some res) : CtV l yX3_weigh wsX3_weigh (rmK 2 0 0) [.ref (xa 0)] D k sz (rmW k xa rm) (fun (_ : Unit) => True) (fun _ : Unit => rmW k xa res) 0 0 := by
  refine CtV.mk (cc := cX3_weigh) (maxL := 3) (ret := none) (by decide) rfl (Nat.le_of_ble_eq_true rfl) ?_
  intro p e s m below meth c A ls E hP hD hS hl
  obtain ⟨hx, hb, hr, hml, hown, hts, hlocks, hin, hG, hA⟩ := E
  have hown : s.vm.findClass RX3 = some m.cls := hown
  have in3 : ∀ w ∈ u_ws RX3 TX3 17, w ∈ wsX3_weigh := fun _ h => List.mem_cons_of_mem _ (List.mem_append_right _ h)
  have hl : lv_has ls 3 [(0, .ref (xa 0))] := hl
  have B18 : ∀ a18 : (Int32 × OB), lp (b_X3_weigh_18 F) F a18 = some res → ∀ (H : Heap) (locs : List Loc) (ls : Array Slot), va_P D vwCl (rmW k xa a18.2) H → va_D A (rmW k xa a18.2) → va_S A s.heap H locs → lv_has ls 3 [(0, .ref (xa 0)), (1, .int a18.1)] → W p l e (rmK 2 0 0) s m (List.toArray [.ref (xa 0)]) below meth c H locs 0 0 (MQ below (va_Qv (fun (_ : Unit) => True) (hcB D (fun _ : Unit => rmW k xa res) A) A) (List.toArray [.ref (xa 0)]) s 0 0 A) (F0 m 18 ls []) := by
    refine lp_W ?_ F
    intro k18 hk18 a18 h H locs ls hP hD hS hl
    have hc18 : ∀ (v1 : Int32) (rm : OB), k18 (v1, rm) = some res → ∀ (H : Heap) (locs : List Loc) (ls : Array Slot), va_P D vwCl (rmW k xa rm) H → va_D A (rmW k xa rm) → va_S A s.heap H locs → lv_has ls 3 [(0, .ref (xa 0)), (1, .int v1)] → W p l e (rmK 2 0 0) s m (List.toArray [.ref (xa 0)]) below meth c H locs 0 0 (MQ below (va_Qv (fun (_ : Unit) => True) (hcB D (fun _ : Unit => rmW k xa res) A) A) (List.toArray [.ref (xa 0)]) s 0 0 A) (F0 m 18 ls []) := fun v1 rm => hk18 (v1, rm)
    have B71 : ∀ (v1 : Int32) (rm : OB) (H : Heap) (locs : List Loc) (ls : Array Slot), b_X3_weigh_71 F k18 v1 rm = some res → va_P D vwCl (rmW k xa rm) H → va_D A (rmW k xa rm) → va_S A s.heap H locs → lv_has ls 3 [(0, .ref (xa 0)), (1, .int v1)] → W p l e (rmK 2 0 0) s m (List.toArray [.ref (xa 0)]) below meth c H locs 0 0 (MQ below (va_Qv (fun (_ : Unit) => True) (hcB D (fun _ : Unit => rmW k xa res) A) A) (List.toArray [.ref (xa 0)]) s 0 0 A) (F0 m 71 ls []) := by
      intro v1 rm H locs ls h hP hD hS hl
      refine lv_iinc (v := (v1 + 1)) (lv' := [(1, .int (v1 + 1)), (0, .ref (xa 0))]) hx hb dX3_weigh_71 hl (k := 1) rfl rfl (by decide) rfl (fun ls hl => ?_)
      refine lv_goto (tgt := 18) hx hb dX3_weigh_74 (by decide) ?_
      exact hc18 _ _ h _ _ _ hP hD hS (lv_sub hl [1, 0] rfl)
    refine lv_iload_n hx hb dX3_weigh_18 rfl (lv_at hl 1 rfl) ?_
    refine lv_aload_n hx hb dX3_weigh_19 rfl (lv_at hl 0 rfl) ?_
    refine va_get (D := D) (ci := 2) (v := .int (a18.2.1 3)) (C := RX3) (T := TX3) (N := 17) hx hb hts in3 hown hG.1 hP 0 rfl rfl 3 (by decide) (hts (.fieldLink RX3 22 "ChairCane$Room" "sitters" "I") (mem_b bq_wsX3_weigh 0 2 rfl)) (fun _ h9 => h9) rfl dX3_weigh_20 ?_
    refine lv_icmp_ge (tgt := 77) hx hb dX3_weigh_23 (by decide) (fun c1 => ?_) (fun c1 => ?_)
    · have h := fw_t c1 h
      exact fw_endV (wp := fun b : OB => rmW k xa b) hx hb hr hlocks h hP hD hS dX3_weigh_77
    · have h := fw_f c1 h
      refine lv_aload_n hx hb dX3_weigh_26 rfl (lv_at hl 0 rfl) ?_
      refine lv_iload_n hx hb dX3_weigh_27 rfl (lv_at hl 1 rfl) ?_
      refine fw_Vi (As := [.int a18.1]) (rest := []) (n := 1) (wr := []) (rv := fun b : Int32 => b) (wp := fun b : Int32 => rmW k xa a18.2) h hx hb hml hown hts hG hA hP hD hS hl.1 (List.range (rmW k xa a18.2).length) [] (fun q hq9 => c_X3_isDown l D k _  xa F a18.1 a18.2  hq9) (ci := 2) (q0 := 0) rfl rfl gX3_weigh_X3_isDown rfl ⟨rfl, rfl, Nat.le_of_ble_eq_true rfl, Nat.le_of_ble_eq_true rfl⟩ (by decide +kernel) (al_C _) rfl (al_n _) ⟨rfl, rfl, Nat.le_of_ble_eq_true rfl, Nat.le_of_ble_eq_true rfl, Nat.le_of_ble_eq_true rfl⟩ dX3_weigh_28 (fun q2 H locs h hP hD hS => ?_)
      obtain ⟨hP, hD⟩ := cv (w' := rmW k xa a18.2) hP hD rfl
      refine hc_is (z := q2) rfl ?_
      refine lv_if_eq (tgt := 71) hx hb dX3_weigh_31 (by decide) (fun c3 => ?_) (fun c3 => ?_)
      · have h := fw_t c3 h
        exact B71 _ _ _ _ _ h hP hD hS hl
      · have h := fw_f c3 h
        refine lv_aload_n hx hb dX3_weigh_34 rfl (lv_at hl 0 rfl) ?_
        refine va_get (D := D) (ci := 2) (v := .ref (xa 3)) (C := RX3) (T := TX3) (N := 17) hx hb hts in3 hown hG.1 hP 0 rfl rfl 6 (by decide) (hts (.fieldLink RX3 32 "ChairCane$Room" "strandOf" "[I") (mem_b bq_wsX3_weigh 0 3 rfl)) (fun _ h9 => h9) rfl dX3_weigh_35 ?_
        refine lv_aload_n hx hb dX3_weigh_38 rfl (lv_at hl 0 rfl) ?_
        refine va_get (D := D) (ci := 2) (v := .ref (xa 4)) (C := RX3) (T := TX3) (N := 17) hx hb hts in3 hown hG.1 hP 0 rfl rfl 7 (by decide) (hts (.fieldLink RX3 35 "ChairCane$Room" "chairOf" "[I") (mem_b bq_wsX3_weigh 0 4 rfl)) (fun _ h9 => h9) rfl dX3_weigh_39 ?_
        refine lv_iload_n hx hb dX3_weigh_42 rfl (lv_at hl 1 rfl) ?_
        obtain ⟨g4, h⟩ := fw_g h
        refine va_iald hx hb hG.1 hP 4 0 rfl rfl (ib_vp g4) dX3_weigh_43 ?_
        obtain ⟨g5, h⟩ := fw_g h
        refine va_iald hx hb hG.1 hP 3 0 rfl rfl (ib_vp g5) dX3_weigh_44 ?_
        refine lv_istore_n (lv' := [(2, .int ((a18.2.2.1 6) (Int32.toNatClampNeg ((a18.2.2.1 7) (Int32.toNatClampNeg a18.1))))), (0, .ref (xa 0)), (1, .int a18.1)]) hx hb dX3_weigh_45 rfl hl (by decide) rfl (fun ls hl => ?_)
        refine lv_aload_n hx hb dX3_weigh_46 rfl (lv_at hl 1 rfl) ?_
        refine va_get (D := D) (ci := 2) (v := .ref (xa 7)) (C := RX3) (T := TX3) (N := 17) hx hb hts in3 hown hG.1 hP 0 rfl rfl 13 (by decide) (hts (.fieldLink RX3 53 "ChairCane$Room" "load" "[I") (mem_b bq_wsX3_weigh 0 0 rfl)) (fun _ h9 => h9) rfl dX3_weigh_47 ?_
        refine lv_iload_n hx hb dX3_weigh_50 rfl (lv_at hl 0 rfl) ?_
        refine lv_dup2_11 hx hb dX3_weigh_51 rfl rfl ?_
        obtain ⟨g6, h⟩ := fw_g h
        refine va_iald hx hb hG.1 hP 7 0 rfl rfl (ib_vp g6) dX3_weigh_52 ?_
        refine lv_aload_n hx hb dX3_weigh_53 rfl (lv_at hl 1 rfl) ?_
        refine va_get (D := D) (ci := 2) (v := .ref (xa 5)) (C := RX3) (T := TX3) (N := 17) hx hb hts in3 hown hG.1 hP 0 rfl rfl 8 (by decide) (hts (.fieldLink RX3 38 "ChairCane$Room" "weight" "[I") (mem_b bq_wsX3_weigh 0 5 rfl)) (fun _ h9 => h9) rfl dX3_weigh_54 ?_
        refine lv_iload_n hx hb dX3_weigh_57 rfl (lv_at hl 2 rfl) ?_
        refine va_iald hx hb hG.1 hP 5 0 rfl rfl (ib_vp g4) dX3_weigh_58 ?_
        refine lv_iadd hx hb dX3_weigh_59 ?_
        refine va_iast hx hb hG.1 hP hD hS 7 0 rfl rfl (ib_vp g6) dX3_weigh_60 (fun H locs hP hD hS => ?_)
        refine lv_aload_n hx hb dX3_weigh_61 rfl (lv_at hl 1 rfl) ?_
        refine va_get (D := D) (ci := 2) (v := .ref (xa 8)) (C := RX3) (T := TX3) (N := 17) hx hb hts in3 hown hG.1 hP 0 rfl rfl 14 (by decide) (hts (.fieldLink RX3 56 "ChairCane$Room" "heads" "[I") (mem_b bq_wsX3_weigh 0 1 rfl)) (fun _ h9 => h9) rfl dX3_weigh_62 ?_
        refine lv_iload_n hx hb dX3_weigh_65 rfl (lv_at hl 0 rfl) ?_
        refine lv_dup2_11 hx hb dX3_weigh_66 rfl rfl ?_
        refine va_iald hx hb hG.1 hP 8 0 rfl rfl (ib_vp g6) dX3_weigh_67 ?_
        refine lv_iconst (v := 1) hx hb dX3_weigh_68 (by decide) ?_
        refine lv_iadd hx hb dX3_weigh_69 ?_
        refine va_iast hx hb hG.1 hP hD hS 8 0 rfl rfl (ib_vp g6) dX3_weigh_70 (fun H locs hP hD hS => ?_)
        exact B71 _ _ _ _ _ h hP hD hS (lv_sub hl [1, 2] rfl)
  have C18 : ∀ (v1 : Int32) (rm : OB), lp (b_X3_weigh_18 F) F (v1, rm) = some res → ∀ (H : Heap) (locs : List Loc) (ls : Array Slot), va_P D vwCl (rmW k xa rm) H → va_D A (rmW k xa rm) → va_S A s.heap H locs → lv_has ls 3 [(0, .ref (xa 0)), (1, .int v1)] → W p l e (rmK 2 0 0) s m (List.toArray [.ref (xa 0)]) below meth c H locs 0 0 (MQ below (va_Qv (fun (_ : Unit) => True) (hcB D (fun _ : Unit => rmW k xa res) A) A) (List.toArray [.ref (xa 0)]) s 0 0 A) (F0 m 18 ls []) := fun v1 rm => B18 (v1, rm)
  refine lv_aload_n hx hb dX3_weigh_0 rfl (lv_at hl 0 rfl) ?_
  refine va_get (D := D) (ci := 2) (v := .ref (xa 7)) (C := RX3) (T := TX3) (N := 17) hx hb hts in3 hown hG.1 hP 0 rfl rfl 13 (by decide) (hts (.fieldLink RX3 53 "ChairCane$Room" "load" "[I") (mem_b bq_wsX3_weigh 0 0 rfl)) (fun _ h9 => h9) rfl dX3_weigh_1 ?_
  refine lv_iconst (v := 0) hx hb dX3_weigh_4 (by decide) ?_
  refine fw_Sv (As := [.ref (xa 7), .int 0]) (rest := []) (n := 2) (wr := ([((xa 0), .inr (2, [.int (rm.1 0), .int (rm.1 1), .int (rm.1 2), .int (rm.1 3), .ref (xa 1), .ref (xa 2), .ref (xa 3), .ref (xa 4), .ref (xa 5), .ref (xa 6), .int (rm.1 10), .int (rm.1 11), .int (rm.1 12), .ref (xa 7), .ref (xa 8), .int (rm.1 15), .int (rm.1 16)])), ((xa 1), hcI k 4 (rm.2.1 4)), ((xa 2), hcI k 8 (rm.2.1 5)), ((xa 3), hcI k 8 (rm.2.1 6)), ((xa 4), hcI k 8 (rm.2.1 7)), ((xa 5), hcI k 8 (rm.2.1 8)), ((xa 6), hcI k 4 (rm.2.1 9)), ((xa 8), hcI k 4 (rm.2.1 14))] : va_W)) (wp := fun b : (Nat → Int32) => ([((xa 7), hcI k 4 b)] : va_W)) h hx hb hml hown hts hG hA hP hD hS hl.1 [7] [0, 1, 2, 3, 4, 5, 6, 8] (fun q hq9 => c_J7_fill_53178 l D k _  (xa 7) F 4 0 (rm.2.1 13)  hq9) gX3_weigh_J7_fill_53178 rfl ⟨rfl, rfl, Nat.le_of_ble_eq_true rfl, Nat.le_of_ble_eq_true rfl⟩ (by decide +kernel) rfl rfl ⟨by decide +kernel, by decide +kernel, by decide +kernel⟩ ⟨rfl, rfl, Nat.le_of_ble_eq_true rfl, Nat.le_of_ble_eq_true rfl, Nat.le_of_ble_eq_true rfl⟩ dX3_weigh_5 (fun q7 H locs h hP hD hS => ?_)
  obtain ⟨hP, hD⟩ := cvs (w' := rmW k xa (rm.1, (uF rm.2.1 13 q7), rm.2.2)) hP hD [0, 1, 2, 3, 4, 5, 6, 8, 7] (by decide +kernel) rfl
  refine lv_aload_n hx hb dX3_weigh_8 rfl (lv_at hl 0 rfl) ?_
  refine va_get (D := D) (ci := 2) (v := .ref (xa 8)) (C := RX3) (T := TX3) (N := 17) hx hb hts in3 hown hG.1 hP 0 rfl rfl 14 (by decide) (hts (.fieldLink RX3 56 "ChairCane$Room" "heads" "[I") (mem_b bq_wsX3_weigh 0 1 rfl)) (fun _ h9 => h9) rfl dX3_weigh_9 ?_
  refine lv_iconst (v := 0) hx hb dX3_weigh_12 (by decide) ?_
  refine fw_Sv (As := [.ref (xa 8), .int 0]) (rest := []) (n := 2) (wr := ([((xa 0), .inr (2, [.int ((rm.1, (uF rm.2.1 13 q7), rm.2.2).1 0), .int ((rm.1, (uF rm.2.1 13 q7), rm.2.2).1 1), .int ((rm.1, (uF rm.2.1 13 q7), rm.2.2).1 2), .int ((rm.1, (uF rm.2.1 13 q7), rm.2.2).1 3), .ref (xa 1), .ref (xa 2), .ref (xa 3), .ref (xa 4), .ref (xa 5), .ref (xa 6), .int ((rm.1, (uF rm.2.1 13 q7), rm.2.2).1 10), .int ((rm.1, (uF rm.2.1 13 q7), rm.2.2).1 11), .int ((rm.1, (uF rm.2.1 13 q7), rm.2.2).1 12), .ref (xa 7), .ref (xa 8), .int ((rm.1, (uF rm.2.1 13 q7), rm.2.2).1 15), .int ((rm.1, (uF rm.2.1 13 q7), rm.2.2).1 16)])), ((xa 1), hcI k 4 ((rm.1, (uF rm.2.1 13 q7), rm.2.2).2.1 4)), ((xa 2), hcI k 8 ((rm.1, (uF rm.2.1 13 q7), rm.2.2).2.1 5)), ((xa 3), hcI k 8 ((rm.1, (uF rm.2.1 13 q7), rm.2.2).2.1 6)), ((xa 4), hcI k 8 ((rm.1, (uF rm.2.1 13 q7), rm.2.2).2.1 7)), ((xa 5), hcI k 8 ((rm.1, (uF rm.2.1 13 q7), rm.2.2).2.1 8)), ((xa 6), hcI k 4 ((rm.1, (uF rm.2.1 13 q7), rm.2.2).2.1 9)), ((xa 7), hcI k 4 ((rm.1, (uF rm.2.1 13 q7), rm.2.2).2.1 13))] : va_W)) (wp := fun b : (Nat → Int32) => ([((xa 8), hcI k 4 b)] : va_W)) h hx hb hml hown hts hG hA hP hD hS hl.1 [8] [0, 1, 2, 3, 4, 5, 6, 7] (fun q hq9 => c_J7_fill_53178 l D k _  (xa 8) F 4 0 (rm.2.1 14)  hq9) gX3_weigh_J7_fill_53178 rfl ⟨rfl, rfl, Nat.le_of_ble_eq_true rfl, Nat.le_of_ble_eq_true rfl⟩ (by decide +kernel) rfl rfl ⟨by decide +kernel, by decide +kernel, by decide +kernel⟩ ⟨rfl, rfl, Nat.le_of_ble_eq_true rfl, Nat.le_of_ble_eq_true rfl, Nat.le_of_ble_eq_true rfl⟩ dX3_weigh_13 (fun q8 H locs h hP hD hS => ?_)
  obtain ⟨hP, hD⟩ := cvs (w' := rmW k xa (rm.1, (uF (uF rm.2.1 13 q7) 14 q8), rm.2.2)) hP hD [0, 1, 2, 3, 4, 5, 6, 7, 8] (by decide +kernel) rfl
  refine lv_iconst (v := 0) hx hb dX3_weigh_16 (by decide) ?_
  refine lv_istore_n (lv' := [(1, .int 0), (0, .ref (xa 0))]) hx hb dX3_weigh_17 rfl hl (by decide) rfl (fun ls hl => ?_)
  exact C18 _ _ h _ _ _ hP hD hS (lv_sub hl [1, 0] rfl)
noncomputable def b_X3_givenOut_37 (F : Nat)  (rm : OB) (k4 : (Int32 × Int32) → Option (Int32)) (v1 : Int32) (v2 : Int32) : Option (Int32) :=
  k4 (v1, (v2 + 1))
noncomputable def b_X3_givenOut_4 (F : Nat)  (rm : OB)  (k4 : (Int32 × Int32) → Option (Int32)) (a4 : (Int32 × Int32)) : Option (Int32) :=
  if (rm.1 3) ≤ a4.2 then (some a4.1) else (Option.bind (f_X3_givesUnder F a4.2 rm) (fun q2 => (if ib a4.2 8 then (if ib ((rm.2.1 7) (Int32.toNatClampNeg a4.2)) 8 then (if q2 < ((rm.2.1 5) (Int32.toNatClampNeg ((rm.2.1 7) (Int32.toNatClampNeg a4.2)))) then (b_X3_givenOut_37 F rm k4 a4.1 a4.2) else (b_X3_givenOut_37 F rm k4 (a4.1 ||| (1 <<< (a4.2 &&& 31))) a4.2)) else none) else none)))
noncomputable def f_X3_givenOut (F : Nat)   (rm : OB) : Option (Int32) :=
  lp (b_X3_givenOut_4 F rm) F (0, 0)
set_option maxHeartbeats 4000000 in
set_option maxRecDepth 100000 in
theorem c_X3_givenOut (l : Launch) (D : va_G) (k : Nat → ClassId) (sz : Nat)  (xa : Nat → Nat) (F : Nat)   (rm : OB)  {res : Int32} (h : f_X3_givenOut F rm = some res) : CtI l yX3_givenOut wsX3_givenOut (rmK 2 0 0) [.ref (xa 0)] D k sz (rmW k xa rm) (fun r (_ : Unit) => r = res) (fun _ : Unit => rmW k xa rm) 0 0 := by
  refine CtI.mk (cc := cX3_givenOut) (maxL := 3) (ret := (some .int)) (by decide) rfl (Nat.le_of_ble_eq_true rfl) ?_
  intro p e s m below meth c A ls E hP hD hS hl
  obtain ⟨hx, hb, hr, hml, hown, hts, hlocks, hin, hG, hA⟩ := E
  have hown : s.vm.findClass RX3 = some m.cls := hown
  have in3 : ∀ w ∈ u_ws RX3 TX3 17, w ∈ wsX3_givenOut := fun _ h => List.mem_cons_of_mem _ (List.mem_append_right _ h)
  have hl : lv_has ls 3 [(0, .ref (xa 0))] := hl
  have B4 : ∀ a4 : (Int32 × Int32), lp (b_X3_givenOut_4 F rm) F a4 = some res → ∀ (H : Heap) (locs : List Loc) (ls : Array Slot), va_P D vwCl (rmW k xa rm) H → va_D A (rmW k xa rm) → va_S A s.heap H locs → lv_has ls 3 [(0, .ref (xa 0)), (1, .int a4.1), (2, .int a4.2)] → W p l e (rmK 2 0 0) s m (List.toArray [.ref (xa 0)]) below meth c H locs 0 0 (MQ below (va_Qi (fun r (_ : Unit) => r = res) (hcB D (fun _ : Unit => rmW k xa rm) A) A) (List.toArray [.ref (xa 0)]) s 0 0 A) (F0 m 4 ls []) := by
    refine lp_W ?_ F
    intro k4 hk4 a4 h H locs ls hP hD hS hl
    have hc4 : ∀ (v1 : Int32) (v2 : Int32), k4 (v1, v2) = some res → ∀ (H : Heap) (locs : List Loc) (ls : Array Slot), va_P D vwCl (rmW k xa rm) H → va_D A (rmW k xa rm) → va_S A s.heap H locs → lv_has ls 3 [(0, .ref (xa 0)), (1, .int v1), (2, .int v2)] → W p l e (rmK 2 0 0) s m (List.toArray [.ref (xa 0)]) below meth c H locs 0 0 (MQ below (va_Qi (fun r (_ : Unit) => r = res) (hcB D (fun _ : Unit => rmW k xa rm) A) A) (List.toArray [.ref (xa 0)]) s 0 0 A) (F0 m 4 ls []) := fun v1 v2 => hk4 (v1, v2)
    have B37 : ∀ (v1 : Int32) (v2 : Int32) (H : Heap) (locs : List Loc) (ls : Array Slot), b_X3_givenOut_37 F rm k4 v1 v2 = some res → va_P D vwCl (rmW k xa rm) H → va_D A (rmW k xa rm) → va_S A s.heap H locs → lv_has ls 3 [(0, .ref (xa 0)), (1, .int v1), (2, .int v2)] → W p l e (rmK 2 0 0) s m (List.toArray [.ref (xa 0)]) below meth c H locs 0 0 (MQ below (va_Qi (fun r (_ : Unit) => r = res) (hcB D (fun _ : Unit => rmW k xa rm) A) A) (List.toArray [.ref (xa 0)]) s 0 0 A) (F0 m 37 ls []) := by
      intro v1 v2 H locs ls h hP hD hS hl
      refine lv_iinc (v := (v2 + 1)) (lv' := [(2, .int (v2 + 1)), (0, .ref (xa 0)), (1, .int v1)]) hx hb dX3_givenOut_37 hl (k := 2) rfl rfl (by decide) rfl (fun ls hl => ?_)
      refine lv_goto (tgt := 4) hx hb dX3_givenOut_40 (by decide) ?_
      exact hc4 _ _ h _ _ _ hP hD hS (lv_sub hl [1, 2, 0] rfl)
    refine lv_iload_n hx hb dX3_givenOut_4 rfl (lv_at hl 2 rfl) ?_
    refine lv_aload_n hx hb dX3_givenOut_5 rfl (lv_at hl 0 rfl) ?_
    refine va_get (D := D) (ci := 2) (v := .int (rm.1 3)) (C := RX3) (T := TX3) (N := 17) hx hb hts in3 hown hG.1 hP 0 rfl rfl 3 (by decide) (hts (.fieldLink RX3 22 "ChairCane$Room" "sitters" "I") (mem_b bq_wsX3_givenOut 0 0 rfl)) (fun _ h9 => h9) rfl dX3_givenOut_6 ?_
    refine lv_icmp_ge (tgt := 43) hx hb dX3_givenOut_9 (by decide) (fun c1 => ?_) (fun c1 => ?_)
    · have h := fw_t c1 h
      refine lv_iload_n hx hb dX3_givenOut_43 rfl (lv_at hl 1 rfl) ?_
      exact fw_endI (rv := fun b : Int32 => b) (wp := fun b : Int32 => rmW k xa rm) hx hb hr hlocks h rfl hP hD hS dX3_givenOut_44
    · have h := fw_f c1 h
      refine lv_aload_n hx hb dX3_givenOut_12 rfl (lv_at hl 0 rfl) ?_
      refine lv_iload_n hx hb dX3_givenOut_13 rfl (lv_at hl 2 rfl) ?_
      refine fw_Vi (As := [.int a4.2]) (rest := []) (n := 1) (wr := []) (rv := fun b : Int32 => b) (wp := fun b : Int32 => rmW k xa rm) h hx hb hml hown hts hG hA hP hD hS hl.1 (List.range (rmW k xa rm).length) [] (fun q hq9 => c_X3_givesUnder l D k _  xa F a4.2 rm  hq9) (ci := 2) (q0 := 0) rfl rfl gX3_givenOut_X3_givesUnder rfl ⟨rfl, rfl, Nat.le_of_ble_eq_true rfl, Nat.le_of_ble_eq_true rfl⟩ (by decide +kernel) (al_C _) rfl (al_n _) ⟨rfl, rfl, Nat.le_of_ble_eq_true rfl, Nat.le_of_ble_eq_true rfl, Nat.le_of_ble_eq_true rfl⟩ dX3_givenOut_14 (fun q2 H locs h hP hD hS => ?_)
      obtain ⟨hP, hD⟩ := cv (w' := rmW k xa rm) hP hD rfl
      refine hc_is (z := q2) rfl ?_
      refine lv_aload_n hx hb dX3_givenOut_17 rfl (lv_at hl 0 rfl) ?_
      refine va_get (D := D) (ci := 2) (v := .ref (xa 2)) (C := RX3) (T := TX3) (N := 17) hx hb hts in3 hown hG.1 hP 0 rfl rfl 5 (by decide) (hts (.fieldLink RX3 29 "ChairCane$Room" "height" "[I") (mem_b bq_wsX3_givenOut 0 1 rfl)) (fun _ h9 => h9) rfl dX3_givenOut_18 ?_
      refine lv_aload_n hx hb dX3_givenOut_21 rfl (lv_at hl 0 rfl) ?_
      refine va_get (D := D) (ci := 2) (v := .ref (xa 4)) (C := RX3) (T := TX3) (N := 17) hx hb hts in3 hown hG.1 hP 0 rfl rfl 7 (by decide) (hts (.fieldLink RX3 35 "ChairCane$Room" "chairOf" "[I") (mem_b bq_wsX3_givenOut 0 2 rfl)) (fun _ h9 => h9) rfl dX3_givenOut_22 ?_
      refine lv_iload_n hx hb dX3_givenOut_25 rfl (lv_at hl 2 rfl) ?_
      obtain ⟨g3, h⟩ := fw_g h
      refine va_iald hx hb hG.1 hP 4 0 rfl rfl (ib_vp g3) dX3_givenOut_26 ?_
      obtain ⟨g4, h⟩ := fw_g h
      refine va_iald hx hb hG.1 hP 2 0 rfl rfl (ib_vp g4) dX3_givenOut_27 ?_
      refine lv_icmp_lt (tgt := 37) hx hb dX3_givenOut_28 (by decide) (fun c5 => ?_) (fun c5 => ?_)
      · have h := fw_t c5 h
        exact B37 _ _ _ _ _ h hP hD hS hl
      · have h := fw_f c5 h
        refine lv_iload_n hx hb dX3_givenOut_31 rfl (lv_at hl 1 rfl) ?_
        refine lv_iconst (v := 1) hx hb dX3_givenOut_32 (by decide) ?_
        refine lv_iload_n hx hb dX3_givenOut_33 rfl (lv_at hl 2 rfl) ?_
        refine lv_ishl hx hb dX3_givenOut_34 ?_
        refine lv_ior hx hb dX3_givenOut_35 ?_
        refine lv_istore_n (lv' := [(1, .int (a4.1 ||| (1 <<< (a4.2 &&& 31)))), (0, .ref (xa 0)), (2, .int a4.2)]) hx hb dX3_givenOut_36 rfl hl (by decide) rfl (fun ls hl => ?_)
        exact B37 _ _ _ _ _ h hP hD hS (lv_sub hl [1, 0, 2] rfl)
  have C4 : ∀ (v1 : Int32) (v2 : Int32), lp (b_X3_givenOut_4 F rm) F (v1, v2) = some res → ∀ (H : Heap) (locs : List Loc) (ls : Array Slot), va_P D vwCl (rmW k xa rm) H → va_D A (rmW k xa rm) → va_S A s.heap H locs → lv_has ls 3 [(0, .ref (xa 0)), (1, .int v1), (2, .int v2)] → W p l e (rmK 2 0 0) s m (List.toArray [.ref (xa 0)]) below meth c H locs 0 0 (MQ below (va_Qi (fun r (_ : Unit) => r = res) (hcB D (fun _ : Unit => rmW k xa rm) A) A) (List.toArray [.ref (xa 0)]) s 0 0 A) (F0 m 4 ls []) := fun v1 v2 => B4 (v1, v2)
  refine lv_iconst (v := 0) hx hb dX3_givenOut_0 (by decide) ?_
  refine lv_istore_n (lv' := [(1, .int 0), (0, .ref (xa 0))]) hx hb dX3_givenOut_1 rfl hl (by decide) rfl (fun ls hl => ?_)
  refine lv_iconst (v := 0) hx hb dX3_givenOut_2 (by decide) ?_
  refine lv_istore_n (lv' := [(2, .int 0), (1, .int 0), (0, .ref (xa 0))]) hx hb dX3_givenOut_3 rfl hl (by decide) rfl (fun ls hl => ?_)
  exact C4 _ _ h _ _ _ hP hD hS (lv_sub hl [2, 1, 0] rfl)
noncomputable def b_X3_bears_21 (F : Nat)    (y0 : Int32) (rm : OB) : Option (Int32 × OB) :=
  if bo y0 then (some (y0, rm)) else none
noncomputable def f_X3_bears (F : Nat)  (x1 : Int32) (rm : OB) : Option (Int32 × OB) :=
  Option.bind (f_X3_weigh F ((uF rm.1 10 x1), rm.2.1, rm.2.2)) (fun q2 => (Option.bind (f_X3_givenOut F q2) (fun q3 => (if q3 = 0 then (b_X3_bears_21 F 1 q2) else (b_X3_bears_21 F 0 q2)))))
set_option maxHeartbeats 4000000 in
set_option maxRecDepth 100000 in
theorem c_X3_bears (l : Launch) (D : va_G) (k : Nat → ClassId) (sz : Nat)  (xa : Nat → Nat) (F : Nat)  (x1 : Int32) (rm : OB)  {res : Int32 × OB} (h : f_X3_bears F x1 rm = some res) : CtI l yX3_bears wsX3_bears (rmK 3 0 0) [.ref (xa 0), .int x1] D k sz (rmW k xa rm) (fun r (_ : Unit) => r = res.1) (fun _ : Unit => rmW k xa res.2) 0 0 := by
  refine CtI.mk (cc := cX3_bears) (maxL := 2) (ret := (some .boolean)) (by decide) rfl (Nat.le_of_ble_eq_true rfl) ?_
  intro p e s m below meth c A ls E hP hD hS hl
  obtain ⟨hx, hb, hr, hml, hown, hts, hlocks, hin, hG, hA⟩ := E
  have hown : s.vm.findClass RX3 = some m.cls := hown
  have in3 : ∀ w ∈ u_ws RX3 TX3 17, w ∈ wsX3_bears := fun _ h => List.mem_cons_of_mem _ (List.mem_append_right _ h)
  have hl : lv_has ls 2 [(0, .ref (xa 0)), (1, .int x1)] := hl
  have B21 : ∀ (y0 : Int32) (rm : OB) (H : Heap) (locs : List Loc) (ls : Array Slot), b_X3_bears_21 F y0 rm = some res → va_P D vwCl (rmW k xa rm) H → va_D A (rmW k xa rm) → va_S A s.heap H locs → lv_has ls 2 [] → W p l e (rmK 3 0 0) s m (List.toArray [.ref (xa 0), .int x1]) below meth c H locs 0 0 (MQ below (va_Qi (fun r (_ : Unit) => r = res.1) (hcB D (fun _ : Unit => rmW k xa res.2) A) A) (List.toArray [.ref (xa 0), .int x1]) s 0 0 A) (F0 m 21 ls [.int y0]) := by
    intro y0 rm H locs ls h hP hD hS hl
    obtain ⟨g1, h⟩ := fw_g h
    exact fw_endZ (rv := fun b : Int32 × OB => b.1) (wp := fun b : Int32 × OB => rmW k xa b.2) hx hb hr hlocks h (bo_z g1) rfl hP hD hS dX3_bears_21
  refine lv_aload_n hx hb dX3_bears_0 rfl (lv_at hl 0 rfl) ?_
  refine lv_iload_n hx hb dX3_bears_1 rfl (lv_at hl 1 rfl) ?_
  refine va_put (D := D) (ci := 2) (v := .int x1) (C := RX3) (T := TX3) (N := 17) hx hb hts in3 tyX3 tyX3_ok nmX3 hown hG.1 hP hD hS 0 rfl rfl 10 (by decide) (hts (.fieldLink RX3 44 "ChairCane$Room" "sits" "I") (mem_b bq_wsX3_bears 0 0 rfl)) (fun _ h9 => h9) rfl (tyX3_ok 10 (by decide)) rfl rfl (Nat.le_of_ble_eq_true rfl) dX3_bears_2 (fun H locs hP hD hS => ?_)
  refine lv_aload_n hx hb dX3_bears_5 rfl (lv_at hl 0 rfl) ?_
  obtain ⟨hP, hD⟩ := cv (w' := rmW k xa ((uF rm.1 10 x1), rm.2.1, rm.2.2)) hP hD rfl
  refine fw_Vv (As := []) (rest := []) (n := 0) (wr := []) (wp := fun b : OB => rmW k xa b) h hx hb hml hown hts hG hA hP hD hS hl.1 (List.range (rmW k xa ((uF rm.1 10 x1), rm.2.1, rm.2.2)).length) [] (fun q hq9 => c_X3_weigh l D k _  xa F  ((uF rm.1 10 x1), rm.2.1, rm.2.2)  hq9) (ci := 2) (q0 := 0) rfl rfl gX3_bears_X3_weigh rfl ⟨rfl, rfl, Nat.le_of_ble_eq_true rfl, Nat.le_of_ble_eq_true rfl⟩ (by decide +kernel) (al_C _) rfl (al_n _) ⟨rfl, rfl, Nat.le_of_ble_eq_true rfl, Nat.le_of_ble_eq_true rfl, Nat.le_of_ble_eq_true rfl⟩ dX3_bears_6 (fun q2 H locs h hP hD hS => ?_)
  obtain ⟨hP, hD⟩ := cv (w' := rmW k xa q2) hP hD rfl
  refine lv_aload_n hx hb dX3_bears_9 rfl (lv_at hl 0 rfl) ?_
  refine fw_Vi (As := []) (rest := []) (n := 0) (wr := []) (rv := fun b : Int32 => b) (wp := fun b : Int32 => rmW k xa q2) h hx hb hml hown hts hG hA hP hD hS hl.1 (List.range (rmW k xa q2).length) [] (fun q hq9 => c_X3_givenOut l D k _  xa F  q2  hq9) (ci := 2) (q0 := 0) rfl rfl gX3_bears_X3_givenOut rfl ⟨rfl, rfl, Nat.le_of_ble_eq_true rfl, Nat.le_of_ble_eq_true rfl⟩ (by decide +kernel) (al_C _) rfl (al_n _) ⟨rfl, rfl, Nat.le_of_ble_eq_true rfl, Nat.le_of_ble_eq_true rfl, Nat.le_of_ble_eq_true rfl⟩ dX3_bears_10 (fun q3 H locs h hP hD hS => ?_)
  obtain ⟨hP, hD⟩ := cv (w' := rmW k xa q2) hP hD rfl
  refine hc_is (z := q3) rfl ?_
  refine lv_if_ne (tgt := 20) hx hb dX3_bears_13 (by decide) (fun c4 => ?_) (fun c4 => ?_)
  · have h := fw_f c4 h
    refine lv_iconst (v := 0) hx hb dX3_bears_20 (by decide) ?_
    exact B21 _ _ _ _ _ h hP hD hS (lv_sub hl [] rfl)
  · have h := fw_t c4 h
    refine lv_iconst (v := 1) hx hb dX3_bears_16 (by decide) ?_
    refine lv_goto (tgt := 21) hx hb dX3_bears_17 (by decide) ?_
    exact B21 _ _ _ _ _ h hP hD hS (lv_sub hl [] rfl)
noncomputable def b_X3_settle_4 (F : Nat)    (k4 : (Int32 × Int32 × OB) → Option (Int32 × OB)) (a4 : (Int32 × Int32 × OB)) : Option (Int32 × OB) :=
  if 8 < a4.2.1 then (some (a4.1, a4.2.2)) else (Option.bind (f_X3_givenOut F a4.2.2) (fun q2 => (if q2 = 0 then (some (a4.1, a4.2.2)) else (Option.bind (f_X3_weigh F ((uF (uF a4.2.2.1 10 ((a4.2.2.1 10) &&& (q2 ^^^ (-1)))) 11 ((a4.2.2.1 11) ||| q2)), a4.2.2.2.1, a4.2.2.2.2)) (fun q4 => (k4 ((a4.1 ||| q2), (a4.2.1 + 1), q4)))))))
noncomputable def f_X3_settle (F : Nat)   (rm : OB) : Option (Int32 × OB) :=
  lp (b_X3_settle_4 F) F (0, 0, rm)
set_option maxHeartbeats 4000000 in
set_option maxRecDepth 100000 in
theorem c_X3_settle (l : Launch) (D : va_G) (k : Nat → ClassId) (sz : Nat)  (xa : Nat → Nat) (F : Nat)   (rm : OB)  {res : Int32 × OB} (h : f_X3_settle F rm = some res) : CtI l yX3_settle wsX3_settle (rmK 3 0 0) [.ref (xa 0)] D k sz (rmW k xa rm) (fun r (_ : Unit) => r = res.1) (fun _ : Unit => rmW k xa res.2) 0 0 := by
  refine CtI.mk (cc := cX3_settle) (maxL := 4) (ret := (some .int)) (by decide) rfl (Nat.le_of_ble_eq_true rfl) ?_
  intro p e s m below meth c A ls E hP hD hS hl
  obtain ⟨hx, hb, hr, hml, hown, hts, hlocks, hin, hG, hA⟩ := E
  have hown : s.vm.findClass RX3 = some m.cls := hown
  have in3 : ∀ w ∈ u_ws RX3 TX3 17, w ∈ wsX3_settle := fun _ h => List.mem_cons_of_mem _ (List.mem_append_right _ h)
  have hl : lv_has ls 4 [(0, .ref (xa 0))] := hl
  have B4 : ∀ a4 : (Int32 × Int32 × OB), lp (b_X3_settle_4 F) F a4 = some res → ∀ (H : Heap) (locs : List Loc) (ls : Array Slot), va_P D vwCl (rmW k xa a4.2.2) H → va_D A (rmW k xa a4.2.2) → va_S A s.heap H locs → lv_has ls 4 [(0, .ref (xa 0)), (1, .int a4.1), (2, .int a4.2.1)] → W p l e (rmK 3 0 0) s m (List.toArray [.ref (xa 0)]) below meth c H locs 0 0 (MQ below (va_Qi (fun r (_ : Unit) => r = res.1) (hcB D (fun _ : Unit => rmW k xa res.2) A) A) (List.toArray [.ref (xa 0)]) s 0 0 A) (F0 m 4 ls []) := by
    refine lp_W ?_ F
    intro k4 hk4 a4 h H locs ls hP hD hS hl
    have hc4 : ∀ (v1 : Int32) (v2 : Int32) (rm : OB), k4 (v1, v2, rm) = some res → ∀ (H : Heap) (locs : List Loc) (ls : Array Slot), va_P D vwCl (rmW k xa rm) H → va_D A (rmW k xa rm) → va_S A s.heap H locs → lv_has ls 4 [(0, .ref (xa 0)), (1, .int v1), (2, .int v2)] → W p l e (rmK 3 0 0) s m (List.toArray [.ref (xa 0)]) below meth c H locs 0 0 (MQ below (va_Qi (fun r (_ : Unit) => r = res.1) (hcB D (fun _ : Unit => rmW k xa res.2) A) A) (List.toArray [.ref (xa 0)]) s 0 0 A) (F0 m 4 ls []) := fun v1 v2 rm => hk4 (v1, v2, rm)
    refine lv_iload_n hx hb dX3_settle_4 rfl (lv_at hl 2 rfl) ?_
    refine lv_bipush (v := 8) hx hb dX3_settle_5 (by decide) ?_
    refine lv_icmp_gt (tgt := 57) hx hb dX3_settle_7 (by decide) (fun c1 => ?_) (fun c1 => ?_)
    · have h := fw_t c1 h
      refine lv_iload_n hx hb dX3_settle_57 rfl (lv_at hl 1 rfl) ?_
      exact fw_endI (rv := fun b : Int32 × OB => b.1) (wp := fun b : Int32 × OB => rmW k xa b.2) hx hb hr hlocks h rfl hP hD hS dX3_settle_58
    · have h := fw_f c1 h
      refine lv_aload_n hx hb dX3_settle_10 rfl (lv_at hl 0 rfl) ?_
      refine fw_Vi (As := []) (rest := []) (n := 0) (wr := []) (rv := fun b : Int32 => b) (wp := fun b : Int32 => rmW k xa a4.2.2) h hx hb hml hown hts hG hA hP hD hS hl.1 (List.range (rmW k xa a4.2.2).length) [] (fun q hq9 => c_X3_givenOut l D k _  xa F  a4.2.2  hq9) (ci := 2) (q0 := 0) rfl rfl gX3_settle_X3_givenOut rfl ⟨rfl, rfl, Nat.le_of_ble_eq_true rfl, Nat.le_of_ble_eq_true rfl⟩ (by decide +kernel) (al_C _) rfl (al_n _) ⟨rfl, rfl, Nat.le_of_ble_eq_true rfl, Nat.le_of_ble_eq_true rfl, Nat.le_of_ble_eq_true rfl⟩ dX3_settle_11 (fun q2 H locs h hP hD hS => ?_)
      obtain ⟨hP, hD⟩ := cv (w' := rmW k xa a4.2.2) hP hD rfl
      refine hc_is (z := q2) rfl ?_
      refine lv_istore_n (lv' := [(3, .int q2), (0, .ref (xa 0)), (1, .int a4.1), (2, .int a4.2.1)]) hx hb dX3_settle_14 rfl hl (by decide) rfl (fun ls hl => ?_)
      refine lv_iload_n hx hb dX3_settle_15 rfl (lv_at hl 0 rfl) ?_
      refine lv_if_ne (tgt := 21) hx hb dX3_settle_16 (by decide) (fun c3 => ?_) (fun c3 => ?_)
      · have h := fw_f c3 h
        refine lv_aload_n hx hb dX3_settle_21 rfl (lv_at hl 1 rfl) ?_
        refine lv_dup hx hb dX3_settle_22 rfl ?_
        refine va_get (D := D) (ci := 2) (v := .int (a4.2.2.1 10)) (C := RX3) (T := TX3) (N := 17) hx hb hts in3 hown hG.1 hP 0 rfl rfl 10 (by decide) (hts (.fieldLink RX3 44 "ChairCane$Room" "sits" "I") (mem_b bq_wsX3_settle 0 0 rfl)) (fun _ h9 => h9) rfl dX3_settle_23 ?_
        refine lv_iload_n hx hb dX3_settle_26 rfl (lv_at hl 0 rfl) ?_
        refine lv_iconst (v := (-1)) hx hb dX3_settle_27 (by decide) ?_
        refine lv_ixor hx hb dX3_settle_28 ?_
        refine lv_iand hx hb dX3_settle_29 ?_
        refine va_put (D := D) (ci := 2) (v := .int ((a4.2.2.1 10) &&& (q2 ^^^ (-1)))) (C := RX3) (T := TX3) (N := 17) hx hb hts in3 tyX3 tyX3_ok nmX3 hown hG.1 hP hD hS 0 rfl rfl 10 (by decide) (hts (.fieldLink RX3 44 "ChairCane$Room" "sits" "I") (mem_b bq_wsX3_settle 0 0 rfl)) (fun _ h9 => h9) rfl (tyX3_ok 10 (by decide)) rfl rfl (Nat.le_of_ble_eq_true rfl) dX3_settle_30 (fun H locs hP hD hS => ?_)
        refine lv_aload_n hx hb dX3_settle_33 rfl (lv_at hl 1 rfl) ?_
        refine lv_dup hx hb dX3_settle_34 rfl ?_
        refine va_get (D := D) (ci := 2) (v := .int (a4.2.2.1 11)) (C := RX3) (T := TX3) (N := 17) hx hb hts in3 hown hG.1 hP 0 rfl rfl 11 (by decide) (hts (.fieldLink RX3 47 "ChairCane$Room" "dropped" "I") (mem_b bq_wsX3_settle 0 1 rfl)) (fun _ h9 => h9) rfl dX3_settle_35 ?_
        refine lv_iload_n hx hb dX3_settle_38 rfl (lv_at hl 0 rfl) ?_
        refine lv_ior hx hb dX3_settle_39 ?_
        refine va_put (D := D) (ci := 2) (v := .int ((a4.2.2.1 11) ||| q2)) (C := RX3) (T := TX3) (N := 17) hx hb hts in3 tyX3 tyX3_ok nmX3 hown hG.1 hP hD hS 0 rfl rfl 11 (by decide) (hts (.fieldLink RX3 47 "ChairCane$Room" "dropped" "I") (mem_b bq_wsX3_settle 0 1 rfl)) (fun _ h9 => h9) rfl (tyX3_ok 11 (by decide)) rfl rfl (Nat.le_of_ble_eq_true rfl) dX3_settle_40 (fun H locs hP hD hS => ?_)
        refine lv_iload_n hx hb dX3_settle_43 rfl (lv_at hl 2 rfl) ?_
        refine lv_iload_n hx hb dX3_settle_44 rfl (lv_at hl 0 rfl) ?_
        refine lv_ior hx hb dX3_settle_45 ?_
        refine lv_istore_n (lv' := [(1, .int (a4.1 ||| q2)), (3, .int q2), (0, .ref (xa 0)), (2, .int a4.2.1)]) hx hb dX3_settle_46 rfl hl (by decide) rfl (fun ls hl => ?_)
        refine lv_aload_n hx hb dX3_settle_47 rfl (lv_at hl 2 rfl) ?_
        obtain ⟨hP, hD⟩ := cv (w' := rmW k xa ((uF (uF a4.2.2.1 10 ((a4.2.2.1 10) &&& (q2 ^^^ (-1)))) 11 ((a4.2.2.1 11) ||| q2)), a4.2.2.2.1, a4.2.2.2.2)) hP hD rfl
        refine fw_Vv (As := []) (rest := []) (n := 0) (wr := []) (wp := fun b : OB => rmW k xa b) h hx hb hml hown hts hG hA hP hD hS hl.1 (List.range (rmW k xa ((uF (uF a4.2.2.1 10 ((a4.2.2.1 10) &&& (q2 ^^^ (-1)))) 11 ((a4.2.2.1 11) ||| q2)), a4.2.2.2.1, a4.2.2.2.2)).length) [] (fun q hq9 => c_X3_weigh l D k _  xa F  ((uF (uF a4.2.2.1 10 ((a4.2.2.1 10) &&& (q2 ^^^ (-1)))) 11 ((a4.2.2.1 11) ||| q2)), a4.2.2.2.1, a4.2.2.2.2)  hq9) (ci := 2) (q0 := 0) rfl rfl gX3_settle_X3_weigh rfl ⟨rfl, rfl, Nat.le_of_ble_eq_true rfl, Nat.le_of_ble_eq_true rfl⟩ (by decide +kernel) (al_C _) rfl (al_n _) ⟨rfl, rfl, Nat.le_of_ble_eq_true rfl, Nat.le_of_ble_eq_true rfl, Nat.le_of_ble_eq_true rfl⟩ dX3_settle_48 (fun q4 H locs h hP hD hS => ?_)
        obtain ⟨hP, hD⟩ := cv (w' := rmW k xa q4) hP hD rfl
        refine lv_iinc (v := (a4.2.1 + 1)) (lv' := [(2, .int (a4.2.1 + 1)), (1, .int (a4.1 ||| q2)), (3, .int q2), (0, .ref (xa 0))]) hx hb dX3_settle_51 hl (k := 3) rfl rfl (by decide) rfl (fun ls hl => ?_)
        refine lv_goto (tgt := 4) hx hb dX3_settle_54 (by decide) ?_
        exact hc4 _ _ _ h _ _ _ hP hD hS (lv_sub hl [3, 1, 0] rfl)
      · have h := fw_t c3 h
        refine lv_iload_n hx hb dX3_settle_19 rfl (lv_at hl 2 rfl) ?_
        exact fw_endI (rv := fun b : Int32 × OB => b.1) (wp := fun b : Int32 × OB => rmW k xa b.2) hx hb hr hlocks h rfl hP hD hS dX3_settle_20
  have C4 : ∀ (v1 : Int32) (v2 : Int32) (rm : OB), lp (b_X3_settle_4 F) F (v1, v2, rm) = some res → ∀ (H : Heap) (locs : List Loc) (ls : Array Slot), va_P D vwCl (rmW k xa rm) H → va_D A (rmW k xa rm) → va_S A s.heap H locs → lv_has ls 4 [(0, .ref (xa 0)), (1, .int v1), (2, .int v2)] → W p l e (rmK 3 0 0) s m (List.toArray [.ref (xa 0)]) below meth c H locs 0 0 (MQ below (va_Qi (fun r (_ : Unit) => r = res.1) (hcB D (fun _ : Unit => rmW k xa res.2) A) A) (List.toArray [.ref (xa 0)]) s 0 0 A) (F0 m 4 ls []) := fun v1 v2 rm => B4 (v1, v2, rm)
  refine lv_iconst (v := 0) hx hb dX3_settle_0 (by decide) ?_
  refine lv_istore_n (lv' := [(1, .int 0), (0, .ref (xa 0))]) hx hb dX3_settle_1 rfl hl (by decide) rfl (fun ls hl => ?_)
  refine lv_iconst (v := 0) hx hb dX3_settle_2 (by decide) ?_
  refine lv_istore_n (lv' := [(2, .int 0), (1, .int 0), (0, .ref (xa 0))]) hx hb dX3_settle_3 rfl hl (by decide) rfl (fun ls hl => ?_)
  exact C4 _ _ _ h _ _ _ hP hD hS (lv_sub hl [2, 1, 0] rfl)
noncomputable def f_X3_restart (F : Nat)   (rm : OB) : Option (OB) :=
  Option.bind (f_X3_weigh F ((uF (uF (uF (uF rm.1 10 0) 11 0) 12 0) 15 0), (uF rm.2.1 9 (va_cpy (rm.2.1 4) (rm.2.1 9) 0 0 4)), rm.2.2)) (fun q1 => (some q1))
set_option maxHeartbeats 4000000 in
set_option maxRecDepth 100000 in
theorem c_X3_restart (l : Launch) (D : va_G) (k : Nat → ClassId) (sz : Nat)  (xa : Nat → Nat) (F : Nat)   (rm : OB)  {res : OB} (h : f_X3_restart F rm = some res) : CtV l yX3_restart wsX3_restart (rmK 3 0 0) [.ref (xa 0)] D k sz (rmW k xa rm) (fun (_ : Unit) => True) (fun _ : Unit => rmW k xa res) 0 0 := by
  refine CtV.mk (cc := cX3_restart) (maxL := 1) (ret := none) (by decide) rfl (Nat.le_of_ble_eq_true rfl) ?_
  intro p e s m below meth c A ls E hP hD hS hl
  obtain ⟨hx, hb, hr, hml, hown, hts, hlocks, hin, hG, hA⟩ := E
  have hown : s.vm.findClass RX3 = some m.cls := hown
  have in3 : ∀ w ∈ u_ws RX3 TX3 17, w ∈ wsX3_restart := fun _ h => List.mem_cons_of_mem _ (List.mem_append_right _ h)
  have hl : lv_has ls 1 [(0, .ref (xa 0))] := hl
  refine lv_aload_n hx hb dX3_restart_0 rfl (lv_at hl 0 rfl) ?_
  refine va_get (D := D) (ci := 2) (v := .ref (xa 1)) (C := RX3) (T := TX3) (N := 17) hx hb hts in3 hown hG.1 hP 0 rfl rfl 4 (by decide) (hts (.fieldLink RX3 25 "ChairCane$Room" "toldCane" "[I") (mem_b bq_wsX3_restart 0 0 rfl)) (fun _ h9 => h9) rfl dX3_restart_1 ?_
  refine lv_iconst (v := 0) hx hb dX3_restart_4 (by decide) ?_
  refine lv_aload_n hx hb dX3_restart_5 rfl (lv_at hl 0 rfl) ?_
  refine va_get (D := D) (ci := 2) (v := .ref (xa 6)) (C := RX3) (T := TX3) (N := 17) hx hb hts in3 hown hG.1 hP 0 rfl rfl 9 (by decide) (hts (.fieldLink RX3 41 "ChairCane$Room" "cane" "[I") (mem_b bq_wsX3_restart 0 1 rfl)) (fun _ h9 => h9) rfl dX3_restart_6 ?_
  refine lv_iconst (v := 0) hx hb dX3_restart_9 (by decide) ?_
  refine lv_iconst (v := 4) hx hb dX3_restart_10 (by decide) ?_
  refine va_copyi hx hb (by rw [hml]; exact hl.1.symm) hown (hts (.methodLink RX3 65 arraycopyName) (mem_b bq_wsX3_restart 0 2 rfl)) (hts (.native arraycopyName) (mem_b bq_wsX3_restart 0 3 rfl)) (hts (.static arraycopyName) (mem_b bq_wsX3_restart 0 4 rfl)) (hts (.initialized "java/lang/System") (mem_b bq_wsX3_restart 0 5 rfl)) hG.1 hP hD hS 1 6 0 0 rfl rfl rfl rfl rfl (by decide) (by decide) (by decide) (by decide) (by decide) (fun _ _ => rfl) (Nat.le_of_ble_eq_true rfl) (Nat.le_of_ble_eq_true rfl) dX3_restart_11 (fun H locs hP hD hS => ?_)
  refine lv_aload_n hx hb dX3_restart_14 rfl (lv_at hl 0 rfl) ?_
  refine lv_iconst (v := 0) hx hb dX3_restart_15 (by decide) ?_
  refine va_put (D := D) (ci := 2) (v := .int 0) (C := RX3) (T := TX3) (N := 17) hx hb hts in3 tyX3 tyX3_ok nmX3 hown hG.1 hP hD hS 0 rfl rfl 10 (by decide) (hts (.fieldLink RX3 44 "ChairCane$Room" "sits" "I") (mem_b bq_wsX3_restart 0 6 rfl)) (fun _ h9 => h9) rfl (tyX3_ok 10 (by decide)) rfl rfl (Nat.le_of_ble_eq_true rfl) dX3_restart_16 (fun H locs hP hD hS => ?_)
  refine lv_aload_n hx hb dX3_restart_19 rfl (lv_at hl 0 rfl) ?_
  refine lv_iconst (v := 0) hx hb dX3_restart_20 (by decide) ?_
  refine va_put (D := D) (ci := 2) (v := .int 0) (C := RX3) (T := TX3) (N := 17) hx hb hts in3 tyX3 tyX3_ok nmX3 hown hG.1 hP hD hS 0 rfl rfl 11 (by decide) (hts (.fieldLink RX3 47 "ChairCane$Room" "dropped" "I") (mem_b bq_wsX3_restart 0 7 rfl)) (fun _ h9 => h9) rfl (tyX3_ok 11 (by decide)) rfl rfl (Nat.le_of_ble_eq_true rfl) dX3_restart_21 (fun H locs hP hD hS => ?_)
  refine lv_aload_n hx hb dX3_restart_24 rfl (lv_at hl 0 rfl) ?_
  refine lv_iconst (v := 0) hx hb dX3_restart_25 (by decide) ?_
  refine va_put (D := D) (ci := 2) (v := .int 0) (C := RX3) (T := TX3) (N := 17) hx hb hts in3 tyX3 tyX3_ok nmX3 hown hG.1 hP hD hS 0 rfl rfl 12 (by decide) (hts (.fieldLink RX3 50 "ChairCane$Room" "minute" "I") (mem_b bq_wsX3_restart 0 8 rfl)) (fun _ h9 => h9) rfl (tyX3_ok 12 (by decide)) rfl rfl (Nat.le_of_ble_eq_true rfl) dX3_restart_26 (fun H locs hP hD hS => ?_)
  refine lv_aload_n hx hb dX3_restart_29 rfl (lv_at hl 0 rfl) ?_
  refine lv_iconst (v := 0) hx hb dX3_restart_30 (by decide) ?_
  refine va_put (D := D) (ci := 2) (v := .int 0) (C := RX3) (T := TX3) (N := 17) hx hb hts in3 tyX3 tyX3_ok nmX3 hown hG.1 hP hD hS 0 rfl rfl 15 (by decide) (hts (.fieldLink RX3 59 "ChairCane$Room" "held" "I") (mem_b bq_wsX3_restart 0 9 rfl)) (fun _ h9 => h9) rfl (tyX3_ok 15 (by decide)) rfl rfl (Nat.le_of_ble_eq_true rfl) dX3_restart_31 (fun H locs hP hD hS => ?_)
  refine lv_aload_n hx hb dX3_restart_34 rfl (lv_at hl 0 rfl) ?_
  obtain ⟨hP, hD⟩ := cv (w' := rmW k xa ((uF (uF (uF (uF rm.1 10 0) 11 0) 12 0) 15 0), (uF rm.2.1 9 (va_cpy (rm.2.1 4) (rm.2.1 9) 0 0 4)), rm.2.2)) hP hD rfl
  refine fw_Vv (As := []) (rest := []) (n := 0) (wr := []) (wp := fun b : OB => rmW k xa b) h hx hb hml hown hts hG hA hP hD hS hl.1 (List.range (rmW k xa ((uF (uF (uF (uF rm.1 10 0) 11 0) 12 0) 15 0), (uF rm.2.1 9 (va_cpy (rm.2.1 4) (rm.2.1 9) 0 0 4)), rm.2.2)).length) [] (fun q hq9 => c_X3_weigh l D k _  xa F  ((uF (uF (uF (uF rm.1 10 0) 11 0) 12 0) 15 0), (uF rm.2.1 9 (va_cpy (rm.2.1 4) (rm.2.1 9) 0 0 4)), rm.2.2)  hq9) (ci := 2) (q0 := 0) rfl rfl gX3_restart_X3_weigh rfl ⟨rfl, rfl, Nat.le_of_ble_eq_true rfl, Nat.le_of_ble_eq_true rfl⟩ (by decide +kernel) (al_C _) rfl (al_n _) ⟨rfl, rfl, Nat.le_of_ble_eq_true rfl, Nat.le_of_ble_eq_true rfl, Nat.le_of_ble_eq_true rfl⟩ dX3_restart_35 (fun q1 H locs h hP hD hS => ?_)
  obtain ⟨hP, hD⟩ := cv (w' := rmW k xa q1) hP hD rfl
  exact fw_endV (wp := fun b : OB => rmW k xa b) hx hb hr hlocks h hP hD hS dX3_restart_38
noncomputable def b_X3_turn_15 (F : Nat)    (y0 : Int32) (y1 : Int32) (rm : OB) : Option (OB) :=
  Option.bind (f_X3_seat F y1 y0 rm) (fun q1 => (Option.bind (f_X3_settle F q1) (fun q2 => (some q2.2))))
noncomputable def f_X3_turn (F : Nat)  (x1 : Int32) (rm : OB) : Option (OB) :=
  Option.bind (f_X3_isDown F x1 rm) (fun q3 => (if q3 = 0 then (b_X3_turn_15 F 1 x1 rm) else (b_X3_turn_15 F 0 x1 rm)))
set_option maxHeartbeats 4000000 in
set_option maxRecDepth 100000 in
theorem c_X3_turn (l : Launch) (D : va_G) (k : Nat → ClassId) (sz : Nat)  (xa : Nat → Nat) (F : Nat)  (x1 : Int32) (rm : OB)  {res : OB} (h : f_X3_turn F x1 rm = some res) : CtV l yX3_turn wsX3_turn (rmK 4 0 0) [.ref (xa 0), .int x1] D k sz (rmW k xa rm) (fun (_ : Unit) => True) (fun _ : Unit => rmW k xa res) 0 0 := by
  refine CtV.mk (cc := cX3_turn) (maxL := 2) (ret := none) (by decide) rfl (Nat.le_of_ble_eq_true rfl) ?_
  intro p e s m below meth c A ls E hP hD hS hl
  obtain ⟨hx, hb, hr, hml, hown, hts, hlocks, hin, hG, hA⟩ := E
  have hown : s.vm.findClass RX3 = some m.cls := hown
  have in3 : ∀ w ∈ u_ws RX3 TX3 17, w ∈ wsX3_turn := fun _ h => List.mem_cons_of_mem _ (List.mem_append_right _ h)
  have hl : lv_has ls 2 [(0, .ref (xa 0)), (1, .int x1)] := hl
  have B15 : ∀ (y0 : Int32) (y1 : Int32) (rm : OB) (H : Heap) (locs : List Loc) (ls : Array Slot), b_X3_turn_15 F y0 y1 rm = some res → va_P D vwCl (rmW k xa rm) H → va_D A (rmW k xa rm) → va_S A s.heap H locs → lv_has ls 2 [(0, .ref (xa 0))] → W p l e (rmK 4 0 0) s m (List.toArray [.ref (xa 0), .int x1]) below meth c H locs 0 0 (MQ below (va_Qv (fun (_ : Unit) => True) (hcB D (fun _ : Unit => rmW k xa res) A) A) (List.toArray [.ref (xa 0), .int x1]) s 0 0 A) (F0 m 15 ls [.int y0, .int y1, .ref (xa 0)]) := by
    intro y0 y1 rm H locs ls h hP hD hS hl
    refine fw_Vv (As := [.int y1, .int y0]) (rest := []) (n := 2) (wr := []) (wp := fun b : OB => rmW k xa b) h hx hb hml hown hts hG hA hP hD hS hl.1 (List.range (rmW k xa rm).length) [] (fun q hq9 => c_X3_seat l D k _  xa F y1 y0 rm  hq9) (ci := 2) (q0 := 0) rfl rfl gX3_turn_X3_seat rfl ⟨rfl, rfl, Nat.le_of_ble_eq_true rfl, Nat.le_of_ble_eq_true rfl⟩ (by decide +kernel) (al_C _) rfl (al_n _) ⟨rfl, rfl, Nat.le_of_ble_eq_true rfl, Nat.le_of_ble_eq_true rfl, Nat.le_of_ble_eq_true rfl⟩ dX3_turn_15 (fun q1 H locs h hP hD hS => ?_)
    obtain ⟨hP, hD⟩ := cv (w' := rmW k xa q1) hP hD rfl
    refine lv_aload_n hx hb dX3_turn_18 rfl (lv_at hl 0 rfl) ?_
    refine fw_Vi (As := []) (rest := []) (n := 0) (wr := []) (rv := fun b : Int32 × OB => b.1) (wp := fun b : Int32 × OB => rmW k xa b.2) h hx hb hml hown hts hG hA hP hD hS hl.1 (List.range (rmW k xa q1).length) [] (fun q hq9 => c_X3_settle l D k _  xa F  q1  hq9) (ci := 2) (q0 := 0) rfl rfl gX3_turn_X3_settle rfl ⟨rfl, rfl, Nat.le_of_ble_eq_true rfl, Nat.le_of_ble_eq_true rfl⟩ (by decide +kernel) (al_C _) rfl (al_n _) ⟨rfl, rfl, Nat.le_of_ble_eq_true rfl, Nat.le_of_ble_eq_true rfl, Nat.le_of_ble_eq_true rfl⟩ dX3_turn_19 (fun q2 H locs h hP hD hS => ?_)
    obtain ⟨hP, hD⟩ := cv (w' := rmW k xa q2.2) hP hD rfl
    refine hc_is (z := q2.1) rfl ?_
    refine lv_pop hx hb dX3_turn_22 rfl ?_
    exact fw_endV (wp := fun b : OB => rmW k xa b) hx hb hr hlocks h hP hD hS dX3_turn_23
  refine lv_aload_n hx hb dX3_turn_0 rfl (lv_at hl 0 rfl) ?_
  refine lv_iload_n hx hb dX3_turn_1 rfl (lv_at hl 1 rfl) ?_
  refine lv_aload_n hx hb dX3_turn_2 rfl (lv_at hl 0 rfl) ?_
  refine lv_iload_n hx hb dX3_turn_3 rfl (lv_at hl 1 rfl) ?_
  refine fw_Vi (As := [.int x1]) (rest := [.int x1, .ref (xa 0)]) (n := 1) (wr := []) (rv := fun b : Int32 => b) (wp := fun b : Int32 => rmW k xa rm) h hx hb hml hown hts hG hA hP hD hS hl.1 (List.range (rmW k xa rm).length) [] (fun q hq9 => c_X3_isDown l D k _  xa F x1 rm  hq9) (ci := 2) (q0 := 0) rfl rfl gX3_turn_X3_isDown rfl ⟨rfl, rfl, Nat.le_of_ble_eq_true rfl, Nat.le_of_ble_eq_true rfl⟩ (by decide +kernel) (al_C _) rfl (al_n _) ⟨rfl, rfl, Nat.le_of_ble_eq_true rfl, Nat.le_of_ble_eq_true rfl, Nat.le_of_ble_eq_true rfl⟩ dX3_turn_4 (fun q3 H locs h hP hD hS => ?_)
  obtain ⟨hP, hD⟩ := cv (w' := rmW k xa rm) hP hD rfl
  refine hc_is (z := q3) rfl ?_
  refine lv_if_ne (tgt := 14) hx hb dX3_turn_7 (by decide) (fun c4 => ?_) (fun c4 => ?_)
  · have h := fw_f c4 h
    refine lv_iconst (v := 0) hx hb dX3_turn_14 (by decide) ?_
    exact B15 _ _ _ _ _ _ h hP hD hS (lv_sub hl [0] rfl)
  · have h := fw_t c4 h
    refine lv_iconst (v := 1) hx hb dX3_turn_10 (by decide) ?_
    refine lv_goto (tgt := 15) hx hb dX3_turn_11 (by decide) ?_
    exact B15 _ _ _ _ _ _ h hP hD hS (lv_sub hl [0] rfl)
noncomputable def b_X3_wordOf_133 (F : Nat)  (rm : OB)  (y0 : Int32) : Option (Int32) :=
  some y0
noncomputable def b_X3_wordOf_162 (F : Nat)  (rm : OB)  (y0 : Int32) : Option (Int32) :=
  some y0
noncomputable def b_X3_wordOf_190 (F : Nat)  (rm : OB)  (y0 : Int32) : Option (Int32) :=
  some y0
noncomputable def f_X3_wordOf (F : Nat)  (x1 : Int32) (x2 : Int32) (rm : OB) : Option (Int32) :=
  Option.bind (f_X3_hasSitter F x2 rm) (fun q1 => (if q1 = 0 then (some 0) else (if ib x2 8 then (if ib ((rm.2.1 7) (Int32.toNatClampNeg x2)) 8 then (Option.bind (f_X3_isDown F x2 rm) (fun q5 => (if x1 = 260 then (some x2) else if x1 = 261 then (some ((rm.2.1 7) (Int32.toNatClampNeg x2))) else if x1 = 262 then (some ((rm.2.1 8) (Int32.toNatClampNeg x2))) else if x1 = 263 then (some ((rm.2.1 5) (Int32.toNatClampNeg ((rm.2.1 7) (Int32.toNatClampNeg x2))))) else if x1 = 264 then (if ib ((rm.2.1 6) (Int32.toNatClampNeg ((rm.2.1 7) (Int32.toNatClampNeg x2)))) 4 then (some ((rm.2.1 9) (Int32.toNatClampNeg ((rm.2.1 6) (Int32.toNatClampNeg ((rm.2.1 7) (Int32.toNatClampNeg x2))))))) else none) else if x1 = 265 then (if q5 = 0 then (b_X3_wordOf_133 F rm 0) else (b_X3_wordOf_133 F rm 1)) else if x1 = 266 then (Option.bind (f_X3_givesUnder F x2 rm) (fun q15 => (some q15))) else if x1 = 267 then (if q5 = 0 then (if ib ((rm.2.1 6) (Int32.toNatClampNeg ((rm.2.1 7) (Int32.toNatClampNeg x2)))) 4 then (b_X3_wordOf_162 F rm ((rm.2.1 14) (Int32.toNatClampNeg ((rm.2.1 6) (Int32.toNatClampNeg ((rm.2.1 7) (Int32.toNatClampNeg x2))))))) else none) else (if ib ((rm.2.1 6) (Int32.toNatClampNeg ((rm.2.1 7) (Int32.toNatClampNeg x2)))) 4 then (b_X3_wordOf_162 F rm (((rm.2.1 14) (Int32.toNatClampNeg ((rm.2.1 6) (Int32.toNatClampNeg ((rm.2.1 7) (Int32.toNatClampNeg x2)))))) - 1)) else none)) else if x1 = 268 then (if q5 = 0 then (if ib ((rm.2.1 6) (Int32.toNatClampNeg ((rm.2.1 7) (Int32.toNatClampNeg x2)))) 4 then (b_X3_wordOf_190 F rm ((rm.2.1 13) (Int32.toNatClampNeg ((rm.2.1 6) (Int32.toNatClampNeg ((rm.2.1 7) (Int32.toNatClampNeg x2))))))) else none) else (if ib ((rm.2.1 6) (Int32.toNatClampNeg ((rm.2.1 7) (Int32.toNatClampNeg x2)))) 4 then (b_X3_wordOf_190 F rm (((rm.2.1 13) (Int32.toNatClampNeg ((rm.2.1 6) (Int32.toNatClampNeg ((rm.2.1 7) (Int32.toNatClampNeg x2)))))) - ((rm.2.1 8) (Int32.toNatClampNeg x2)))) else none)) else if x1 = 269 then (Option.bind (f_J6_bitCount_0f7a4 F (rm.1 11)) (fun q25 => (some q25))) else if x1 = 270 then (some (rm.1 12)) else (some 0)))) else none) else none)))
set_option maxHeartbeats 4000000 in
set_option maxRecDepth 100000 in
theorem c_X3_wordOf (l : Launch) (D : va_G) (k : Nat → ClassId) (sz : Nat)  (xa : Nat → Nat) (F : Nat)  (x1 : Int32) (x2 : Int32) (rm : OB)  {res : Int32} (h : f_X3_wordOf F x1 x2 rm = some res) : CtI l yX3_wordOf wsX3_wordOf (rmK 2 0 0) [.ref (xa 0), .int x1, .int x2] D k sz (rmW k xa rm) (fun r (_ : Unit) => r = res) (fun _ : Unit => rmW k xa rm) 0 0 := by
  refine CtI.mk (cc := cX3_wordOf) (maxL := 5) (ret := (some .int)) (by decide) rfl (Nat.le_of_ble_eq_true rfl) ?_
  intro p e s m below meth c A ls E hP hD hS hl
  obtain ⟨hx, hb, hr, hml, hown, hts, hlocks, hin, hG, hA⟩ := E
  have hown : s.vm.findClass RX3 = some m.cls := hown
  have in3 : ∀ w ∈ u_ws RX3 TX3 17, w ∈ wsX3_wordOf := fun _ h => List.mem_cons_of_mem _ (List.mem_append_right _ h)
  have hl : lv_has ls 5 [(0, .ref (xa 0)), (1, .int x1), (2, .int x2)] := hl
  have B133 : ∀ (y0 : Int32) (H : Heap) (locs : List Loc) (ls : Array Slot), b_X3_wordOf_133 F rm y0 = some res → va_P D vwCl (rmW k xa rm) H → va_D A (rmW k xa rm) → va_S A s.heap H locs → lv_has ls 5 [] → W p l e (rmK 2 0 0) s m (List.toArray [.ref (xa 0), .int x1, .int x2]) below meth c H locs 0 0 (MQ below (va_Qi (fun r (_ : Unit) => r = res) (hcB D (fun _ : Unit => rmW k xa rm) A) A) (List.toArray [.ref (xa 0), .int x1, .int x2]) s 0 0 A) (F0 m 133 ls [.int y0]) := by
    intro y0 H locs ls h hP hD hS hl
    exact fw_endI (rv := fun b : Int32 => b) (wp := fun b : Int32 => rmW k xa rm) hx hb hr hlocks h rfl hP hD hS dX3_wordOf_133
  have B162 : ∀ (y0 : Int32) (H : Heap) (locs : List Loc) (ls : Array Slot), b_X3_wordOf_162 F rm y0 = some res → va_P D vwCl (rmW k xa rm) H → va_D A (rmW k xa rm) → va_S A s.heap H locs → lv_has ls 5 [] → W p l e (rmK 2 0 0) s m (List.toArray [.ref (xa 0), .int x1, .int x2]) below meth c H locs 0 0 (MQ below (va_Qi (fun r (_ : Unit) => r = res) (hcB D (fun _ : Unit => rmW k xa rm) A) A) (List.toArray [.ref (xa 0), .int x1, .int x2]) s 0 0 A) (F0 m 162 ls [.int y0]) := by
    intro y0 H locs ls h hP hD hS hl
    exact fw_endI (rv := fun b : Int32 => b) (wp := fun b : Int32 => rmW k xa rm) hx hb hr hlocks h rfl hP hD hS dX3_wordOf_162
  have B190 : ∀ (y0 : Int32) (H : Heap) (locs : List Loc) (ls : Array Slot), b_X3_wordOf_190 F rm y0 = some res → va_P D vwCl (rmW k xa rm) H → va_D A (rmW k xa rm) → va_S A s.heap H locs → lv_has ls 5 [] → W p l e (rmK 2 0 0) s m (List.toArray [.ref (xa 0), .int x1, .int x2]) below meth c H locs 0 0 (MQ below (va_Qi (fun r (_ : Unit) => r = res) (hcB D (fun _ : Unit => rmW k xa rm) A) A) (List.toArray [.ref (xa 0), .int x1, .int x2]) s 0 0 A) (F0 m 190 ls [.int y0]) := by
    intro y0 H locs ls h hP hD hS hl
    exact fw_endI (rv := fun b : Int32 => b) (wp := fun b : Int32 => rmW k xa rm) hx hb hr hlocks h rfl hP hD hS dX3_wordOf_190
  refine lv_aload_n hx hb dX3_wordOf_0 rfl (lv_at hl 0 rfl) ?_
  refine lv_iload_n hx hb dX3_wordOf_1 rfl (lv_at hl 2 rfl) ?_
  refine fw_Vi (As := [.int x2]) (rest := []) (n := 1) (wr := []) (rv := fun b : Int32 => b) (wp := fun b : Int32 => rmW k xa rm) h hx hb hml hown hts hG hA hP hD hS hl.1 (List.range (rmW k xa rm).length) [] (fun q hq9 => c_X3_hasSitter l D k _  xa F x2 rm  hq9) (ci := 2) (q0 := 0) rfl rfl gX3_wordOf_X3_hasSitter rfl ⟨rfl, rfl, Nat.le_of_ble_eq_true rfl, Nat.le_of_ble_eq_true rfl⟩ (by decide +kernel) (al_C _) rfl (al_n _) ⟨rfl, rfl, Nat.le_of_ble_eq_true rfl, Nat.le_of_ble_eq_true rfl, Nat.le_of_ble_eq_true rfl⟩ dX3_wordOf_2 (fun q1 H locs h hP hD hS => ?_)
  obtain ⟨hP, hD⟩ := cv (w' := rmW k xa rm) hP hD rfl
  refine hc_is (z := q1) rfl ?_
  refine lv_if_ne (tgt := 10) hx hb dX3_wordOf_5 (by decide) (fun c2 => ?_) (fun c2 => ?_)
  · have h := fw_f c2 h
    refine lv_aload_n hx hb dX3_wordOf_10 rfl (lv_at hl 0 rfl) ?_
    refine va_get (D := D) (ci := 2) (v := .ref (xa 3)) (C := RX3) (T := TX3) (N := 17) hx hb hts in3 hown hG.1 hP 0 rfl rfl 6 (by decide) (hts (.fieldLink RX3 32 "ChairCane$Room" "strandOf" "[I") (mem_b bq_wsX3_wordOf 0 0 rfl)) (fun _ h9 => h9) rfl dX3_wordOf_11 ?_
    refine lv_aload_n hx hb dX3_wordOf_14 rfl (lv_at hl 0 rfl) ?_
    refine va_get (D := D) (ci := 2) (v := .ref (xa 4)) (C := RX3) (T := TX3) (N := 17) hx hb hts in3 hown hG.1 hP 0 rfl rfl 7 (by decide) (hts (.fieldLink RX3 35 "ChairCane$Room" "chairOf" "[I") (mem_b bq_wsX3_wordOf 0 1 rfl)) (fun _ h9 => h9) rfl dX3_wordOf_15 ?_
    refine lv_iload_n hx hb dX3_wordOf_18 rfl (lv_at hl 2 rfl) ?_
    obtain ⟨g3, h⟩ := fw_g h
    refine va_iald hx hb hG.1 hP 4 0 rfl rfl (ib_vp g3) dX3_wordOf_19 ?_
    obtain ⟨g4, h⟩ := fw_g h
    refine va_iald hx hb hG.1 hP 3 0 rfl rfl (ib_vp g4) dX3_wordOf_20 ?_
    refine lv_istore_n (lv' := [(3, .int ((rm.2.1 6) (Int32.toNatClampNeg ((rm.2.1 7) (Int32.toNatClampNeg x2))))), (0, .ref (xa 0)), (1, .int x1), (2, .int x2)]) hx hb dX3_wordOf_21 rfl hl (by decide) rfl (fun ls hl => ?_)
    refine lv_aload_n hx hb dX3_wordOf_22 rfl (lv_at hl 1 rfl) ?_
    refine lv_iload_n hx hb dX3_wordOf_23 rfl (lv_at hl 3 rfl) ?_
    refine fw_Vi (As := [.int x2]) (rest := []) (n := 1) (wr := []) (rv := fun b : Int32 => b) (wp := fun b : Int32 => rmW k xa rm) h hx hb hml hown hts hG hA hP hD hS hl.1 (List.range (rmW k xa rm).length) [] (fun q hq9 => c_X3_isDown l D k _  xa F x2 rm  hq9) (ci := 2) (q0 := 0) rfl rfl gX3_wordOf_X3_isDown rfl ⟨rfl, rfl, Nat.le_of_ble_eq_true rfl, Nat.le_of_ble_eq_true rfl⟩ (by decide +kernel) (al_C _) rfl (al_n _) ⟨rfl, rfl, Nat.le_of_ble_eq_true rfl, Nat.le_of_ble_eq_true rfl, Nat.le_of_ble_eq_true rfl⟩ dX3_wordOf_24 (fun q5 H locs h hP hD hS => ?_)
    obtain ⟨hP, hD⟩ := cv (w' := rmW k xa rm) hP hD rfl
    refine hc_is (z := q5) rfl ?_
    refine lv_istore (lv' := [(4, .int q5), (3, .int ((rm.2.1 6) (Int32.toNatClampNeg ((rm.2.1 7) (Int32.toNatClampNeg x2))))), (0, .ref (xa 0)), (1, .int x1), (2, .int x2)]) hx hb dX3_wordOf_27 hl (by decide) rfl (fun ls hl => ?_)
    refine lv_iload_n hx hb dX3_wordOf_29 rfl (lv_at hl 3 rfl) ?_
    by_cases c6 : x1 = 260
    · have h := fw_t c6 h
      refine lv_tableIn (off := 58) (tgt := 88) hx hb dX3_wordOf_30 (by rw [c6]; decide) (by rw [c6]; decide) (by rw [c6]; rfl) (by decide) ?_
      refine lv_iload_n hx hb dX3_wordOf_88 rfl (lv_at hl 4 rfl) ?_
      exact fw_endI (rv := fun b : Int32 => b) (wp := fun b : Int32 => rmW k xa rm) hx hb hr hlocks h rfl hP hD hS dX3_wordOf_89
    have h := fw_f c6 h
    by_cases c7 : x1 = 261
    · have h := fw_t c7 h
      refine lv_tableIn (off := 60) (tgt := 90) hx hb dX3_wordOf_30 (by rw [c7]; decide) (by rw [c7]; decide) (by rw [c7]; rfl) (by decide) ?_
      refine lv_aload_n hx hb dX3_wordOf_90 rfl (lv_at hl 2 rfl) ?_
      refine va_get (D := D) (ci := 2) (v := .ref (xa 4)) (C := RX3) (T := TX3) (N := 17) hx hb hts in3 hown hG.1 hP 0 rfl rfl 7 (by decide) (hts (.fieldLink RX3 35 "ChairCane$Room" "chairOf" "[I") (mem_b bq_wsX3_wordOf 0 1 rfl)) (fun _ h9 => h9) rfl dX3_wordOf_91 ?_
      refine lv_iload_n hx hb dX3_wordOf_94 rfl (lv_at hl 4 rfl) ?_
      refine va_iald hx hb hG.1 hP 4 0 rfl rfl (ib_vp g3) dX3_wordOf_95 ?_
      exact fw_endI (rv := fun b : Int32 => b) (wp := fun b : Int32 => rmW k xa rm) hx hb hr hlocks h rfl hP hD hS dX3_wordOf_96
    have h := fw_f c7 h
    by_cases c8 : x1 = 262
    · have h := fw_t c8 h
      refine lv_tableIn (off := 67) (tgt := 97) hx hb dX3_wordOf_30 (by rw [c8]; decide) (by rw [c8]; decide) (by rw [c8]; rfl) (by decide) ?_
      refine lv_aload_n hx hb dX3_wordOf_97 rfl (lv_at hl 2 rfl) ?_
      refine va_get (D := D) (ci := 2) (v := .ref (xa 5)) (C := RX3) (T := TX3) (N := 17) hx hb hts in3 hown hG.1 hP 0 rfl rfl 8 (by decide) (hts (.fieldLink RX3 38 "ChairCane$Room" "weight" "[I") (mem_b bq_wsX3_wordOf 0 2 rfl)) (fun _ h9 => h9) rfl dX3_wordOf_98 ?_
      refine lv_iload_n hx hb dX3_wordOf_101 rfl (lv_at hl 4 rfl) ?_
      refine va_iald hx hb hG.1 hP 5 0 rfl rfl (ib_vp g3) dX3_wordOf_102 ?_
      exact fw_endI (rv := fun b : Int32 => b) (wp := fun b : Int32 => rmW k xa rm) hx hb hr hlocks h rfl hP hD hS dX3_wordOf_103
    have h := fw_f c8 h
    by_cases c9 : x1 = 263
    · have h := fw_t c9 h
      refine lv_tableIn (off := 74) (tgt := 104) hx hb dX3_wordOf_30 (by rw [c9]; decide) (by rw [c9]; decide) (by rw [c9]; rfl) (by decide) ?_
      refine lv_aload_n hx hb dX3_wordOf_104 rfl (lv_at hl 2 rfl) ?_
      refine va_get (D := D) (ci := 2) (v := .ref (xa 2)) (C := RX3) (T := TX3) (N := 17) hx hb hts in3 hown hG.1 hP 0 rfl rfl 5 (by decide) (hts (.fieldLink RX3 29 "ChairCane$Room" "height" "[I") (mem_b bq_wsX3_wordOf 0 3 rfl)) (fun _ h9 => h9) rfl dX3_wordOf_105 ?_
      refine lv_aload_n hx hb dX3_wordOf_108 rfl (lv_at hl 2 rfl) ?_
      refine va_get (D := D) (ci := 2) (v := .ref (xa 4)) (C := RX3) (T := TX3) (N := 17) hx hb hts in3 hown hG.1 hP 0 rfl rfl 7 (by decide) (hts (.fieldLink RX3 35 "ChairCane$Room" "chairOf" "[I") (mem_b bq_wsX3_wordOf 0 1 rfl)) (fun _ h9 => h9) rfl dX3_wordOf_109 ?_
      refine lv_iload_n hx hb dX3_wordOf_112 rfl (lv_at hl 4 rfl) ?_
      refine va_iald hx hb hG.1 hP 4 0 rfl rfl (ib_vp g3) dX3_wordOf_113 ?_
      refine va_iald hx hb hG.1 hP 2 0 rfl rfl (ib_vp g4) dX3_wordOf_114 ?_
      exact fw_endI (rv := fun b : Int32 => b) (wp := fun b : Int32 => rmW k xa rm) hx hb hr hlocks h rfl hP hD hS dX3_wordOf_115
    have h := fw_f c9 h
    by_cases c10 : x1 = 264
    · have h := fw_t c10 h
      refine lv_tableIn (off := 86) (tgt := 116) hx hb dX3_wordOf_30 (by rw [c10]; decide) (by rw [c10]; decide) (by rw [c10]; rfl) (by decide) ?_
      refine lv_aload_n hx hb dX3_wordOf_116 rfl (lv_at hl 2 rfl) ?_
      refine va_get (D := D) (ci := 2) (v := .ref (xa 6)) (C := RX3) (T := TX3) (N := 17) hx hb hts in3 hown hG.1 hP 0 rfl rfl 9 (by decide) (hts (.fieldLink RX3 41 "ChairCane$Room" "cane" "[I") (mem_b bq_wsX3_wordOf 0 4 rfl)) (fun _ h9 => h9) rfl dX3_wordOf_117 ?_
      refine lv_iload_n hx hb dX3_wordOf_120 rfl (lv_at hl 1 rfl) ?_
      obtain ⟨g11, h⟩ := fw_g h
      refine va_iald hx hb hG.1 hP 6 0 rfl rfl (ib_vp g11) dX3_wordOf_121 ?_
      exact fw_endI (rv := fun b : Int32 => b) (wp := fun b : Int32 => rmW k xa rm) hx hb hr hlocks h rfl hP hD hS dX3_wordOf_122
    have h := fw_f c10 h
    by_cases c12 : x1 = 265
    · have h := fw_t c12 h
      refine lv_tableIn (off := 93) (tgt := 123) hx hb dX3_wordOf_30 (by rw [c12]; decide) (by rw [c12]; decide) (by rw [c12]; rfl) (by decide) ?_
      refine lv_iload hx hb dX3_wordOf_123 (lv_at hl 0 rfl) ?_
      refine lv_if_eq (tgt := 132) hx hb dX3_wordOf_125 (by decide) (fun c13 => ?_) (fun c13 => ?_)
      · have h := fw_t c13 h
        refine lv_iconst (v := 0) hx hb dX3_wordOf_132 (by decide) ?_
        exact B133 _ _ _ _ h hP hD hS (lv_sub hl [] rfl)
      · have h := fw_f c13 h
        refine lv_iconst (v := 1) hx hb dX3_wordOf_128 (by decide) ?_
        refine lv_goto (tgt := 133) hx hb dX3_wordOf_129 (by decide) ?_
        exact B133 _ _ _ _ h hP hD hS (lv_sub hl [] rfl)
    have h := fw_f c12 h
    by_cases c14 : x1 = 266
    · have h := fw_t c14 h
      refine lv_tableIn (off := 104) (tgt := 134) hx hb dX3_wordOf_30 (by rw [c14]; decide) (by rw [c14]; decide) (by rw [c14]; rfl) (by decide) ?_
      refine lv_aload_n hx hb dX3_wordOf_134 rfl (lv_at hl 2 rfl) ?_
      refine lv_iload_n hx hb dX3_wordOf_135 rfl (lv_at hl 4 rfl) ?_
      refine fw_Vi (As := [.int x2]) (rest := []) (n := 1) (wr := []) (rv := fun b : Int32 => b) (wp := fun b : Int32 => rmW k xa rm) h hx hb hml hown hts hG hA hP hD hS hl.1 (List.range (rmW k xa rm).length) [] (fun q hq9 => c_X3_givesUnder l D k _  xa F x2 rm  hq9) (ci := 2) (q0 := 0) rfl rfl gX3_wordOf_X3_givesUnder rfl ⟨rfl, rfl, Nat.le_of_ble_eq_true rfl, Nat.le_of_ble_eq_true rfl⟩ (by decide +kernel) (al_C _) rfl (al_n _) ⟨rfl, rfl, Nat.le_of_ble_eq_true rfl, Nat.le_of_ble_eq_true rfl, Nat.le_of_ble_eq_true rfl⟩ dX3_wordOf_136 (fun q15 H locs h hP hD hS => ?_)
      obtain ⟨hP, hD⟩ := cv (w' := rmW k xa rm) hP hD rfl
      refine hc_is (z := q15) rfl ?_
      exact fw_endI (rv := fun b : Int32 => b) (wp := fun b : Int32 => rmW k xa rm) hx hb hr hlocks h rfl hP hD hS dX3_wordOf_139
    have h := fw_f c14 h
    by_cases c16 : x1 = 267
    · have h := fw_t c16 h
      refine lv_tableIn (off := 110) (tgt := 140) hx hb dX3_wordOf_30 (by rw [c16]; decide) (by rw [c16]; decide) (by rw [c16]; rfl) (by decide) ?_
      refine lv_iload hx hb dX3_wordOf_140 (lv_at hl 0 rfl) ?_
      refine lv_if_eq (tgt := 156) hx hb dX3_wordOf_142 (by decide) (fun c17 => ?_) (fun c17 => ?_)
      · have h := fw_t c17 h
        refine lv_aload_n hx hb dX3_wordOf_156 rfl (lv_at hl 2 rfl) ?_
        refine va_get (D := D) (ci := 2) (v := .ref (xa 8)) (C := RX3) (T := TX3) (N := 17) hx hb hts in3 hown hG.1 hP 0 rfl rfl 14 (by decide) (hts (.fieldLink RX3 56 "ChairCane$Room" "heads" "[I") (mem_b bq_wsX3_wordOf 0 5 rfl)) (fun _ h9 => h9) rfl dX3_wordOf_157 ?_
        refine lv_iload_n hx hb dX3_wordOf_160 rfl (lv_at hl 1 rfl) ?_
        obtain ⟨g18, h⟩ := fw_g h
        refine va_iald hx hb hG.1 hP 8 0 rfl rfl (ib_vp g18) dX3_wordOf_161 ?_
        exact B162 _ _ _ _ h hP hD hS (lv_sub hl [] rfl)
      · have h := fw_f c17 h
        refine lv_aload_n hx hb dX3_wordOf_145 rfl (lv_at hl 2 rfl) ?_
        refine va_get (D := D) (ci := 2) (v := .ref (xa 8)) (C := RX3) (T := TX3) (N := 17) hx hb hts in3 hown hG.1 hP 0 rfl rfl 14 (by decide) (hts (.fieldLink RX3 56 "ChairCane$Room" "heads" "[I") (mem_b bq_wsX3_wordOf 0 5 rfl)) (fun _ h9 => h9) rfl dX3_wordOf_146 ?_
        refine lv_iload_n hx hb dX3_wordOf_149 rfl (lv_at hl 1 rfl) ?_
        obtain ⟨g19, h⟩ := fw_g h
        refine va_iald hx hb hG.1 hP 8 0 rfl rfl (ib_vp g19) dX3_wordOf_150 ?_
        refine lv_iconst (v := 1) hx hb dX3_wordOf_151 (by decide) ?_
        refine lv_isub hx hb dX3_wordOf_152 ?_
        refine lv_goto (tgt := 162) hx hb dX3_wordOf_153 (by decide) ?_
        exact B162 _ _ _ _ h hP hD hS (lv_sub hl [] rfl)
    have h := fw_f c16 h
    by_cases c20 : x1 = 268
    · have h := fw_t c20 h
      refine lv_tableIn (off := 133) (tgt := 163) hx hb dX3_wordOf_30 (by rw [c20]; decide) (by rw [c20]; decide) (by rw [c20]; rfl) (by decide) ?_
      refine lv_iload hx hb dX3_wordOf_163 (lv_at hl 0 rfl) ?_
      refine lv_if_eq (tgt := 184) hx hb dX3_wordOf_165 (by decide) (fun c21 => ?_) (fun c21 => ?_)
      · have h := fw_t c21 h
        refine lv_aload_n hx hb dX3_wordOf_184 rfl (lv_at hl 2 rfl) ?_
        refine va_get (D := D) (ci := 2) (v := .ref (xa 7)) (C := RX3) (T := TX3) (N := 17) hx hb hts in3 hown hG.1 hP 0 rfl rfl 13 (by decide) (hts (.fieldLink RX3 53 "ChairCane$Room" "load" "[I") (mem_b bq_wsX3_wordOf 0 6 rfl)) (fun _ h9 => h9) rfl dX3_wordOf_185 ?_
        refine lv_iload_n hx hb dX3_wordOf_188 rfl (lv_at hl 1 rfl) ?_
        obtain ⟨g22, h⟩ := fw_g h
        refine va_iald hx hb hG.1 hP 7 0 rfl rfl (ib_vp g22) dX3_wordOf_189 ?_
        exact B190 _ _ _ _ h hP hD hS (lv_sub hl [] rfl)
      · have h := fw_f c21 h
        refine lv_aload_n hx hb dX3_wordOf_168 rfl (lv_at hl 2 rfl) ?_
        refine va_get (D := D) (ci := 2) (v := .ref (xa 7)) (C := RX3) (T := TX3) (N := 17) hx hb hts in3 hown hG.1 hP 0 rfl rfl 13 (by decide) (hts (.fieldLink RX3 53 "ChairCane$Room" "load" "[I") (mem_b bq_wsX3_wordOf 0 6 rfl)) (fun _ h9 => h9) rfl dX3_wordOf_169 ?_
        refine lv_iload_n hx hb dX3_wordOf_172 rfl (lv_at hl 1 rfl) ?_
        obtain ⟨g23, h⟩ := fw_g h
        refine va_iald hx hb hG.1 hP 7 0 rfl rfl (ib_vp g23) dX3_wordOf_173 ?_
        refine lv_aload_n hx hb dX3_wordOf_174 rfl (lv_at hl 2 rfl) ?_
        refine va_get (D := D) (ci := 2) (v := .ref (xa 5)) (C := RX3) (T := TX3) (N := 17) hx hb hts in3 hown hG.1 hP 0 rfl rfl 8 (by decide) (hts (.fieldLink RX3 38 "ChairCane$Room" "weight" "[I") (mem_b bq_wsX3_wordOf 0 2 rfl)) (fun _ h9 => h9) rfl dX3_wordOf_175 ?_
        refine lv_iload_n hx hb dX3_wordOf_178 rfl (lv_at hl 4 rfl) ?_
        refine va_iald hx hb hG.1 hP 5 0 rfl rfl (ib_vp g3) dX3_wordOf_179 ?_
        refine lv_isub hx hb dX3_wordOf_180 ?_
        refine lv_goto (tgt := 190) hx hb dX3_wordOf_181 (by decide) ?_
        exact B190 _ _ _ _ h hP hD hS (lv_sub hl [] rfl)
    have h := fw_f c20 h
    by_cases c24 : x1 = 269
    · have h := fw_t c24 h
      refine lv_tableIn (off := 161) (tgt := 191) hx hb dX3_wordOf_30 (by rw [c24]; decide) (by rw [c24]; decide) (by rw [c24]; rfl) (by decide) ?_
      refine lv_aload_n hx hb dX3_wordOf_191 rfl (lv_at hl 2 rfl) ?_
      refine va_get (D := D) (ci := 2) (v := .int (rm.1 11)) (C := RX3) (T := TX3) (N := 17) hx hb hts in3 hown hG.1 hP 0 rfl rfl 11 (by decide) (hts (.fieldLink RX3 47 "ChairCane$Room" "dropped" "I") (mem_b bq_wsX3_wordOf 0 7 rfl)) (fun _ h9 => h9) rfl dX3_wordOf_192 ?_
      refine fw_Si (As := [.int (rm.1 11)]) (rest := []) (n := 1) (wr := rmW k xa rm) (rv := fun b : Int32 => b) (wp := fun b : Int32 => []) h hx hb hml hown hts hG hA hP hD hS hl.1 [] (List.range (rmW k xa rm).length) (fun q hq9 => c_J6_bitCount_0f7a4 l D k _   F (rm.1 11)   hq9) gX3_wordOf_J6_bitCount_0f7a4 rfl ⟨rfl, rfl, Nat.le_of_ble_eq_true rfl, Nat.le_of_ble_eq_true rfl⟩ (by decide +kernel) rfl (al_C _) (al_m _) ⟨rfl, rfl, Nat.le_of_ble_eq_true rfl, Nat.le_of_ble_eq_true rfl, Nat.le_of_ble_eq_true rfl⟩ dX3_wordOf_195 (fun q25 H locs h hP hD hS => ?_)
      obtain ⟨hP, hD⟩ := cv (w' := (rmW k xa rm) ++ []) hP hD rfl
      rw [List.append_nil] at hP hD
      refine hc_is (z := q25) rfl ?_
      exact fw_endI (rv := fun b : Int32 => b) (wp := fun b : Int32 => rmW k xa rm) hx hb hr hlocks h rfl hP hD hS dX3_wordOf_198
    have h := fw_f c24 h
    by_cases c26 : x1 = 270
    · have h := fw_t c26 h
      refine lv_tableIn (off := 169) (tgt := 199) hx hb dX3_wordOf_30 (by rw [c26]; decide) (by rw [c26]; decide) (by rw [c26]; rfl) (by decide) ?_
      refine lv_aload_n hx hb dX3_wordOf_199 rfl (lv_at hl 2 rfl) ?_
      refine va_get (D := D) (ci := 2) (v := .int (rm.1 12)) (C := RX3) (T := TX3) (N := 17) hx hb hts in3 hown hG.1 hP 0 rfl rfl 12 (by decide) (hts (.fieldLink RX3 50 "ChairCane$Room" "minute" "I") (mem_b bq_wsX3_wordOf 0 8 rfl)) (fun _ h9 => h9) rfl dX3_wordOf_200 ?_
      exact fw_endI (rv := fun b : Int32 => b) (wp := fun b : Int32 => rmW k xa rm) hx hb hr hlocks h rfl hP hD hS dX3_wordOf_203
    have h := fw_f c26 h
    simp only [sp_eq, show (260 : Int32).toInt = 260 from by decide, show (261 : Int32).toInt = 261 from by decide, show (262 : Int32).toInt = 262 from by decide, show (263 : Int32).toInt = 263 from by decide, show (264 : Int32).toInt = 264 from by decide, show (265 : Int32).toInt = 265 from by decide, show (266 : Int32).toInt = 266 from by decide, show (267 : Int32).toInt = 267 from by decide, show (268 : Int32).toInt = 268 from by decide, show (269 : Int32).toInt = 269 from by decide, show (270 : Int32).toInt = 270 from by decide] at c6 c7 c8 c9 c10 c12 c14 c16 c20 c24 c26
    refine lv_tableOut (tgt := 204) hx hb dX3_wordOf_30 (by omega) (by decide) ?_
    refine lv_iconst (v := 0) hx hb dX3_wordOf_204 (by decide) ?_
    exact fw_endI (rv := fun b : Int32 => b) (wp := fun b : Int32 => rmW k xa rm) hx hb hr hlocks h rfl hP hD hS dX3_wordOf_205
  · have h := fw_t c2 h
    refine lv_iconst (v := 0) hx hb dX3_wordOf_8 (by decide) ?_
    exact fw_endI (rv := fun b : Int32 => b) (wp := fun b : Int32 => rmW k xa rm) hx hb hr hlocks h rfl hP hD hS dX3_wordOf_9
noncomputable def f_X3_copyFrom (F : Nat)   (rm : OB) (rn : OB) : Option (OB) :=
  if bo (rn.1 0) then (some ((uF (uF (uF (uF (uF (uF (uF (uF rm.1 0 (rn.1 0)) 1 (rn.1 1)) 2 (rn.1 2)) 3 (rn.1 3)) 10 (rn.1 10)) 11 (rn.1 11)) 12 (rn.1 12)) 15 0), (uF (uF (uF (uF (uF (uF (uF (uF rm.2.1 4 (va_cpy (rn.2.1 4) (rm.2.1 4) 0 0 4)) 5 (va_cpy (rn.2.1 5) (rm.2.1 5) 0 0 8)) 6 (va_cpy (rn.2.1 6) (rm.2.1 6) 0 0 8)) 7 (va_cpy (rn.2.1 7) (rm.2.1 7) 0 0 8)) 8 (va_cpy (rn.2.1 8) (rm.2.1 8) 0 0 8)) 9 (va_cpy (rn.2.1 9) (rm.2.1 9) 0 0 4)) 13 (va_cpy (rn.2.1 13) (rm.2.1 13) 0 0 4)) 14 (va_cpy (rn.2.1 14) (rm.2.1 14) 0 0 4)), rm.2.2)) else none
set_option maxRecDepth 20000 in
theorem bq_wsX3_copyFrom : subq wsX3_copyFrom [[.fieldLink RX3 9 "ChairCane$Room" "told" "Z", .fieldLink RX3 15 "ChairCane$Room" "strands" "I", .fieldLink RX3 19 "ChairCane$Room" "chairs" "I", .fieldLink RX3 22 "ChairCane$Room" "sitters" "I", .fieldLink RX3 25 "ChairCane$Room" "toldCane" "[I", .methodLink RX3 65 arraycopyName, .native arraycopyName, .static arraycopyName, .initialized "java/lang/System", .fieldLink RX3 29 "ChairCane$Room" "height" "[I", .fieldLink RX3 32 "ChairCane$Room" "strandOf" "[I", .fieldLink RX3 35 "ChairCane$Room" "chairOf" "[I", .fieldLink RX3 38 "ChairCane$Room" "weight" "[I", .fieldLink RX3 41 "ChairCane$Room" "cane" "[I", .fieldLink RX3 53 "ChairCane$Room" "load" "[I", .fieldLink RX3 56 "ChairCane$Room" "heads" "[I", .fieldLink RX3 44 "ChairCane$Room" "sits" "I", .fieldLink RX3 47 "ChairCane$Room" "dropped" "I", .fieldLink RX3 50 "ChairCane$Room" "minute" "I", .fieldLink RX3 59 "ChairCane$Room" "held" "I"]] := ⟨(fun _ h => (List.mem_cons_of_mem _ (List.mem_append_left _ h))), trivial⟩
set_option maxHeartbeats 4000000 in
set_option maxRecDepth 100000 in
theorem c_X3_copyFrom (l : Launch) (D : va_G) (k : Nat → ClassId) (sz : Nat)  (xa : Nat → Nat) (xb : Nat → Nat) (F : Nat)   (rm : OB) (rn : OB)  {res : OB} (h : f_X3_copyFrom F rm rn = some res) : CtV l yX3_copyFrom wsX3_copyFrom (rmK 2 0 0) [.ref (xa 0), .ref (xb 0)] D k sz (rmW k xa rm ++ (rmW k xb rn)) (fun (_ : Unit) => True) (fun _ : Unit => rmW k xa res ++ (rmW k xb rn)) 0 0 := by
  refine CtV.mk (cc := cX3_copyFrom) (maxL := 2) (ret := none) (by decide) rfl (Nat.le_of_ble_eq_true rfl) ?_
  intro p e s m below meth c A ls E hP hD hS hl
  obtain ⟨hx, hb, hr, hml, hown, hts, hlocks, hin, hG, hA⟩ := E
  have hown : s.vm.findClass RX3 = some m.cls := hown
  have in3 : ∀ w ∈ u_ws RX3 TX3 17, w ∈ wsX3_copyFrom := fun _ h => List.mem_cons_of_mem _ (List.mem_append_right _ h)
  have hl : lv_has ls 2 [(0, .ref (xa 0)), (1, .ref (xb 0))] := hl
  refine lv_aload_n hx hb dX3_copyFrom_0 rfl (lv_at hl 0 rfl) ?_
  refine lv_aload_n hx hb dX3_copyFrom_1 rfl (lv_at hl 1 rfl) ?_
  refine va_get (D := D) (ci := 2) (v := .int (rn.1 0)) (C := RX3) (T := TX3) (N := 17) hx hb hts in3 hown hG.1 hP 9 rfl rfl 0 (by decide) (hts (.fieldLink RX3 9 "ChairCane$Room" "told" "Z") (mem_b bq_wsX3_copyFrom 0 0 rfl)) (fun _ h9 => h9) rfl dX3_copyFrom_2 ?_
  obtain ⟨g1, h⟩ := fw_g h
  refine va_put (D := D) (ci := 2) (v := .int (rn.1 0)) (C := RX3) (T := TX3) (N := 17) hx hb hts in3 tyX3 tyX3_ok nmX3 hown hG.1 hP hD hS 0 rfl rfl 0 (by decide) (hts (.fieldLink RX3 9 "ChairCane$Room" "told" "Z") (mem_b bq_wsX3_copyFrom 0 0 rfl)) (fun _ h9 => h9) rfl (tyX3_ok 0 (by decide)) (bo_z g1) (bo_f g1) (Nat.le_of_ble_eq_true rfl) dX3_copyFrom_5 (fun H locs hP hD hS => ?_)
  refine lv_aload_n hx hb dX3_copyFrom_8 rfl (lv_at hl 0 rfl) ?_
  refine lv_aload_n hx hb dX3_copyFrom_9 rfl (lv_at hl 1 rfl) ?_
  refine va_get (D := D) (ci := 2) (v := .int (rn.1 1)) (C := RX3) (T := TX3) (N := 17) hx hb hts in3 hown hG.1 hP 9 rfl rfl 1 (by decide) (hts (.fieldLink RX3 15 "ChairCane$Room" "strands" "I") (mem_b bq_wsX3_copyFrom 0 1 rfl)) (fun _ h9 => h9) rfl dX3_copyFrom_10 ?_
  refine va_put (D := D) (ci := 2) (v := .int (rn.1 1)) (C := RX3) (T := TX3) (N := 17) hx hb hts in3 tyX3 tyX3_ok nmX3 hown hG.1 hP hD hS 0 rfl rfl 1 (by decide) (hts (.fieldLink RX3 15 "ChairCane$Room" "strands" "I") (mem_b bq_wsX3_copyFrom 0 1 rfl)) (fun _ h9 => h9) rfl (tyX3_ok 1 (by decide)) rfl rfl (Nat.le_of_ble_eq_true rfl) dX3_copyFrom_13 (fun H locs hP hD hS => ?_)
  refine lv_aload_n hx hb dX3_copyFrom_16 rfl (lv_at hl 0 rfl) ?_
  refine lv_aload_n hx hb dX3_copyFrom_17 rfl (lv_at hl 1 rfl) ?_
  refine va_get (D := D) (ci := 2) (v := .int (rn.1 2)) (C := RX3) (T := TX3) (N := 17) hx hb hts in3 hown hG.1 hP 9 rfl rfl 2 (by decide) (hts (.fieldLink RX3 19 "ChairCane$Room" "chairs" "I") (mem_b bq_wsX3_copyFrom 0 2 rfl)) (fun _ h9 => h9) rfl dX3_copyFrom_18 ?_
  refine va_put (D := D) (ci := 2) (v := .int (rn.1 2)) (C := RX3) (T := TX3) (N := 17) hx hb hts in3 tyX3 tyX3_ok nmX3 hown hG.1 hP hD hS 0 rfl rfl 2 (by decide) (hts (.fieldLink RX3 19 "ChairCane$Room" "chairs" "I") (mem_b bq_wsX3_copyFrom 0 2 rfl)) (fun _ h9 => h9) rfl (tyX3_ok 2 (by decide)) rfl rfl (Nat.le_of_ble_eq_true rfl) dX3_copyFrom_21 (fun H locs hP hD hS => ?_)
  obtain ⟨hP, hD⟩ := cv (w' := rmW k xa ((uF (uF (uF rm.1 0 (rn.1 0)) 1 (rn.1 1)) 2 (rn.1 2)), rm.2.1, rm.2.2) ++ (rmW k xb rn)) hP hD rfl
  refine lv_aload_n hx hb dX3_copyFrom_24 rfl (lv_at hl 0 rfl) ?_
  refine lv_aload_n hx hb dX3_copyFrom_25 rfl (lv_at hl 1 rfl) ?_
  refine va_get (D := D) (ci := 2) (v := .int (rn.1 3)) (C := RX3) (T := TX3) (N := 17) hx hb hts in3 hown hG.1 hP 9 rfl rfl 3 (by decide) (hts (.fieldLink RX3 22 "ChairCane$Room" "sitters" "I") (mem_b bq_wsX3_copyFrom 0 3 rfl)) (fun _ h9 => h9) rfl dX3_copyFrom_26 ?_
  refine va_put (D := D) (ci := 2) (v := .int (rn.1 3)) (C := RX3) (T := TX3) (N := 17) hx hb hts in3 tyX3 tyX3_ok nmX3 hown hG.1 hP hD hS 0 rfl rfl 3 (by decide) (hts (.fieldLink RX3 22 "ChairCane$Room" "sitters" "I") (mem_b bq_wsX3_copyFrom 0 3 rfl)) (fun _ h9 => h9) rfl (tyX3_ok 3 (by decide)) rfl rfl (Nat.le_of_ble_eq_true rfl) dX3_copyFrom_29 (fun H locs hP hD hS => ?_)
  refine lv_aload_n hx hb dX3_copyFrom_32 rfl (lv_at hl 1 rfl) ?_
  refine va_get (D := D) (ci := 2) (v := .ref (xb 1)) (C := RX3) (T := TX3) (N := 17) hx hb hts in3 hown hG.1 hP 9 rfl rfl 4 (by decide) (hts (.fieldLink RX3 25 "ChairCane$Room" "toldCane" "[I") (mem_b bq_wsX3_copyFrom 0 4 rfl)) (fun _ h9 => h9) rfl dX3_copyFrom_33 ?_
  refine lv_iconst (v := 0) hx hb dX3_copyFrom_36 (by decide) ?_
  refine lv_aload_n hx hb dX3_copyFrom_37 rfl (lv_at hl 0 rfl) ?_
  refine va_get (D := D) (ci := 2) (v := .ref (xa 1)) (C := RX3) (T := TX3) (N := 17) hx hb hts in3 hown hG.1 hP 0 rfl rfl 4 (by decide) (hts (.fieldLink RX3 25 "ChairCane$Room" "toldCane" "[I") (mem_b bq_wsX3_copyFrom 0 4 rfl)) (fun _ h9 => h9) rfl dX3_copyFrom_38 ?_
  refine lv_iconst (v := 0) hx hb dX3_copyFrom_41 (by decide) ?_
  refine lv_iconst (v := 4) hx hb dX3_copyFrom_42 (by decide) ?_
  refine va_copyi hx hb (by rw [hml]; exact hl.1.symm) hown (hts (.methodLink RX3 65 arraycopyName) (mem_b bq_wsX3_copyFrom 0 5 rfl)) (hts (.native arraycopyName) (mem_b bq_wsX3_copyFrom 0 6 rfl)) (hts (.static arraycopyName) (mem_b bq_wsX3_copyFrom 0 7 rfl)) (hts (.initialized "java/lang/System") (mem_b bq_wsX3_copyFrom 0 8 rfl)) hG.1 hP hD hS 10 1 0 0 rfl rfl rfl rfl rfl (by decide) (by decide) (by decide) (by decide) (by decide) (fun _ _ => rfl) (Nat.le_of_ble_eq_true rfl) (Nat.le_of_ble_eq_true rfl) dX3_copyFrom_43 (fun H locs hP hD hS => ?_)
  refine lv_aload_n hx hb dX3_copyFrom_46 rfl (lv_at hl 1 rfl) ?_
  refine va_get (D := D) (ci := 2) (v := .ref (xb 2)) (C := RX3) (T := TX3) (N := 17) hx hb hts in3 hown hG.1 hP 9 rfl rfl 5 (by decide) (hts (.fieldLink RX3 29 "ChairCane$Room" "height" "[I") (mem_b bq_wsX3_copyFrom 0 9 rfl)) (fun _ h9 => h9) rfl dX3_copyFrom_47 ?_
  refine lv_iconst (v := 0) hx hb dX3_copyFrom_50 (by decide) ?_
  refine lv_aload_n hx hb dX3_copyFrom_51 rfl (lv_at hl 0 rfl) ?_
  refine va_get (D := D) (ci := 2) (v := .ref (xa 2)) (C := RX3) (T := TX3) (N := 17) hx hb hts in3 hown hG.1 hP 0 rfl rfl 5 (by decide) (hts (.fieldLink RX3 29 "ChairCane$Room" "height" "[I") (mem_b bq_wsX3_copyFrom 0 9 rfl)) (fun _ h9 => h9) rfl dX3_copyFrom_52 ?_
  refine lv_iconst (v := 0) hx hb dX3_copyFrom_55 (by decide) ?_
  refine lv_bipush (v := 8) hx hb dX3_copyFrom_56 (by decide) ?_
  refine va_copyi hx hb (by rw [hml]; exact hl.1.symm) hown (hts (.methodLink RX3 65 arraycopyName) (mem_b bq_wsX3_copyFrom 0 5 rfl)) (hts (.native arraycopyName) (mem_b bq_wsX3_copyFrom 0 6 rfl)) (hts (.static arraycopyName) (mem_b bq_wsX3_copyFrom 0 7 rfl)) (hts (.initialized "java/lang/System") (mem_b bq_wsX3_copyFrom 0 8 rfl)) hG.1 hP hD hS 11 2 0 0 rfl rfl rfl rfl rfl (by decide) (by decide) (by decide) (by decide) (by decide) (fun _ _ => rfl) (Nat.le_of_ble_eq_true rfl) (Nat.le_of_ble_eq_true rfl) dX3_copyFrom_58 (fun H locs hP hD hS => ?_)
  obtain ⟨hP, hD⟩ := cv (w' := rmW k xa ((uF (uF (uF (uF rm.1 0 (rn.1 0)) 1 (rn.1 1)) 2 (rn.1 2)) 3 (rn.1 3)), (uF (uF rm.2.1 4 (va_cpy (rn.2.1 4) (rm.2.1 4) 0 0 4)) 5 (va_cpy (rn.2.1 5) (rm.2.1 5) 0 0 8)), rm.2.2) ++ (rmW k xb rn)) hP hD rfl
  refine lv_aload_n hx hb dX3_copyFrom_61 rfl (lv_at hl 1 rfl) ?_
  refine va_get (D := D) (ci := 2) (v := .ref (xb 3)) (C := RX3) (T := TX3) (N := 17) hx hb hts in3 hown hG.1 hP 9 rfl rfl 6 (by decide) (hts (.fieldLink RX3 32 "ChairCane$Room" "strandOf" "[I") (mem_b bq_wsX3_copyFrom 0 10 rfl)) (fun _ h9 => h9) rfl dX3_copyFrom_62 ?_
  refine lv_iconst (v := 0) hx hb dX3_copyFrom_65 (by decide) ?_
  refine lv_aload_n hx hb dX3_copyFrom_66 rfl (lv_at hl 0 rfl) ?_
  refine va_get (D := D) (ci := 2) (v := .ref (xa 3)) (C := RX3) (T := TX3) (N := 17) hx hb hts in3 hown hG.1 hP 0 rfl rfl 6 (by decide) (hts (.fieldLink RX3 32 "ChairCane$Room" "strandOf" "[I") (mem_b bq_wsX3_copyFrom 0 10 rfl)) (fun _ h9 => h9) rfl dX3_copyFrom_67 ?_
  refine lv_iconst (v := 0) hx hb dX3_copyFrom_70 (by decide) ?_
  refine lv_bipush (v := 8) hx hb dX3_copyFrom_71 (by decide) ?_
  refine va_copyi hx hb (by rw [hml]; exact hl.1.symm) hown (hts (.methodLink RX3 65 arraycopyName) (mem_b bq_wsX3_copyFrom 0 5 rfl)) (hts (.native arraycopyName) (mem_b bq_wsX3_copyFrom 0 6 rfl)) (hts (.static arraycopyName) (mem_b bq_wsX3_copyFrom 0 7 rfl)) (hts (.initialized "java/lang/System") (mem_b bq_wsX3_copyFrom 0 8 rfl)) hG.1 hP hD hS 12 3 0 0 rfl rfl rfl rfl rfl (by decide) (by decide) (by decide) (by decide) (by decide) (fun _ _ => rfl) (Nat.le_of_ble_eq_true rfl) (Nat.le_of_ble_eq_true rfl) dX3_copyFrom_73 (fun H locs hP hD hS => ?_)
  refine lv_aload_n hx hb dX3_copyFrom_76 rfl (lv_at hl 1 rfl) ?_
  refine va_get (D := D) (ci := 2) (v := .ref (xb 4)) (C := RX3) (T := TX3) (N := 17) hx hb hts in3 hown hG.1 hP 9 rfl rfl 7 (by decide) (hts (.fieldLink RX3 35 "ChairCane$Room" "chairOf" "[I") (mem_b bq_wsX3_copyFrom 0 11 rfl)) (fun _ h9 => h9) rfl dX3_copyFrom_77 ?_
  refine lv_iconst (v := 0) hx hb dX3_copyFrom_80 (by decide) ?_
  refine lv_aload_n hx hb dX3_copyFrom_81 rfl (lv_at hl 0 rfl) ?_
  refine va_get (D := D) (ci := 2) (v := .ref (xa 4)) (C := RX3) (T := TX3) (N := 17) hx hb hts in3 hown hG.1 hP 0 rfl rfl 7 (by decide) (hts (.fieldLink RX3 35 "ChairCane$Room" "chairOf" "[I") (mem_b bq_wsX3_copyFrom 0 11 rfl)) (fun _ h9 => h9) rfl dX3_copyFrom_82 ?_
  refine lv_iconst (v := 0) hx hb dX3_copyFrom_85 (by decide) ?_
  refine lv_bipush (v := 8) hx hb dX3_copyFrom_86 (by decide) ?_
  refine va_copyi hx hb (by rw [hml]; exact hl.1.symm) hown (hts (.methodLink RX3 65 arraycopyName) (mem_b bq_wsX3_copyFrom 0 5 rfl)) (hts (.native arraycopyName) (mem_b bq_wsX3_copyFrom 0 6 rfl)) (hts (.static arraycopyName) (mem_b bq_wsX3_copyFrom 0 7 rfl)) (hts (.initialized "java/lang/System") (mem_b bq_wsX3_copyFrom 0 8 rfl)) hG.1 hP hD hS 13 4 0 0 rfl rfl rfl rfl rfl (by decide) (by decide) (by decide) (by decide) (by decide) (fun _ _ => rfl) (Nat.le_of_ble_eq_true rfl) (Nat.le_of_ble_eq_true rfl) dX3_copyFrom_88 (fun H locs hP hD hS => ?_)
  refine lv_aload_n hx hb dX3_copyFrom_91 rfl (lv_at hl 1 rfl) ?_
  refine va_get (D := D) (ci := 2) (v := .ref (xb 5)) (C := RX3) (T := TX3) (N := 17) hx hb hts in3 hown hG.1 hP 9 rfl rfl 8 (by decide) (hts (.fieldLink RX3 38 "ChairCane$Room" "weight" "[I") (mem_b bq_wsX3_copyFrom 0 12 rfl)) (fun _ h9 => h9) rfl dX3_copyFrom_92 ?_
  refine lv_iconst (v := 0) hx hb dX3_copyFrom_95 (by decide) ?_
  refine lv_aload_n hx hb dX3_copyFrom_96 rfl (lv_at hl 0 rfl) ?_
  refine va_get (D := D) (ci := 2) (v := .ref (xa 5)) (C := RX3) (T := TX3) (N := 17) hx hb hts in3 hown hG.1 hP 0 rfl rfl 8 (by decide) (hts (.fieldLink RX3 38 "ChairCane$Room" "weight" "[I") (mem_b bq_wsX3_copyFrom 0 12 rfl)) (fun _ h9 => h9) rfl dX3_copyFrom_97 ?_
  refine lv_iconst (v := 0) hx hb dX3_copyFrom_100 (by decide) ?_
  refine lv_bipush (v := 8) hx hb dX3_copyFrom_101 (by decide) ?_
  refine va_copyi hx hb (by rw [hml]; exact hl.1.symm) hown (hts (.methodLink RX3 65 arraycopyName) (mem_b bq_wsX3_copyFrom 0 5 rfl)) (hts (.native arraycopyName) (mem_b bq_wsX3_copyFrom 0 6 rfl)) (hts (.static arraycopyName) (mem_b bq_wsX3_copyFrom 0 7 rfl)) (hts (.initialized "java/lang/System") (mem_b bq_wsX3_copyFrom 0 8 rfl)) hG.1 hP hD hS 14 5 0 0 rfl rfl rfl rfl rfl (by decide) (by decide) (by decide) (by decide) (by decide) (fun _ _ => rfl) (Nat.le_of_ble_eq_true rfl) (Nat.le_of_ble_eq_true rfl) dX3_copyFrom_103 (fun H locs hP hD hS => ?_)
  obtain ⟨hP, hD⟩ := cv (w' := rmW k xa ((uF (uF (uF (uF rm.1 0 (rn.1 0)) 1 (rn.1 1)) 2 (rn.1 2)) 3 (rn.1 3)), (uF (uF (uF (uF (uF rm.2.1 4 (va_cpy (rn.2.1 4) (rm.2.1 4) 0 0 4)) 5 (va_cpy (rn.2.1 5) (rm.2.1 5) 0 0 8)) 6 (va_cpy (rn.2.1 6) (rm.2.1 6) 0 0 8)) 7 (va_cpy (rn.2.1 7) (rm.2.1 7) 0 0 8)) 8 (va_cpy (rn.2.1 8) (rm.2.1 8) 0 0 8)), rm.2.2) ++ (rmW k xb rn)) hP hD rfl
  refine lv_aload_n hx hb dX3_copyFrom_106 rfl (lv_at hl 1 rfl) ?_
  refine va_get (D := D) (ci := 2) (v := .ref (xb 6)) (C := RX3) (T := TX3) (N := 17) hx hb hts in3 hown hG.1 hP 9 rfl rfl 9 (by decide) (hts (.fieldLink RX3 41 "ChairCane$Room" "cane" "[I") (mem_b bq_wsX3_copyFrom 0 13 rfl)) (fun _ h9 => h9) rfl dX3_copyFrom_107 ?_
  refine lv_iconst (v := 0) hx hb dX3_copyFrom_110 (by decide) ?_
  refine lv_aload_n hx hb dX3_copyFrom_111 rfl (lv_at hl 0 rfl) ?_
  refine va_get (D := D) (ci := 2) (v := .ref (xa 6)) (C := RX3) (T := TX3) (N := 17) hx hb hts in3 hown hG.1 hP 0 rfl rfl 9 (by decide) (hts (.fieldLink RX3 41 "ChairCane$Room" "cane" "[I") (mem_b bq_wsX3_copyFrom 0 13 rfl)) (fun _ h9 => h9) rfl dX3_copyFrom_112 ?_
  refine lv_iconst (v := 0) hx hb dX3_copyFrom_115 (by decide) ?_
  refine lv_iconst (v := 4) hx hb dX3_copyFrom_116 (by decide) ?_
  refine va_copyi hx hb (by rw [hml]; exact hl.1.symm) hown (hts (.methodLink RX3 65 arraycopyName) (mem_b bq_wsX3_copyFrom 0 5 rfl)) (hts (.native arraycopyName) (mem_b bq_wsX3_copyFrom 0 6 rfl)) (hts (.static arraycopyName) (mem_b bq_wsX3_copyFrom 0 7 rfl)) (hts (.initialized "java/lang/System") (mem_b bq_wsX3_copyFrom 0 8 rfl)) hG.1 hP hD hS 15 6 0 0 rfl rfl rfl rfl rfl (by decide) (by decide) (by decide) (by decide) (by decide) (fun _ _ => rfl) (Nat.le_of_ble_eq_true rfl) (Nat.le_of_ble_eq_true rfl) dX3_copyFrom_117 (fun H locs hP hD hS => ?_)
  refine lv_aload_n hx hb dX3_copyFrom_120 rfl (lv_at hl 1 rfl) ?_
  refine va_get (D := D) (ci := 2) (v := .ref (xb 7)) (C := RX3) (T := TX3) (N := 17) hx hb hts in3 hown hG.1 hP 9 rfl rfl 13 (by decide) (hts (.fieldLink RX3 53 "ChairCane$Room" "load" "[I") (mem_b bq_wsX3_copyFrom 0 14 rfl)) (fun _ h9 => h9) rfl dX3_copyFrom_121 ?_
  refine lv_iconst (v := 0) hx hb dX3_copyFrom_124 (by decide) ?_
  refine lv_aload_n hx hb dX3_copyFrom_125 rfl (lv_at hl 0 rfl) ?_
  refine va_get (D := D) (ci := 2) (v := .ref (xa 7)) (C := RX3) (T := TX3) (N := 17) hx hb hts in3 hown hG.1 hP 0 rfl rfl 13 (by decide) (hts (.fieldLink RX3 53 "ChairCane$Room" "load" "[I") (mem_b bq_wsX3_copyFrom 0 14 rfl)) (fun _ h9 => h9) rfl dX3_copyFrom_126 ?_
  refine lv_iconst (v := 0) hx hb dX3_copyFrom_129 (by decide) ?_
  refine lv_iconst (v := 4) hx hb dX3_copyFrom_130 (by decide) ?_
  refine va_copyi hx hb (by rw [hml]; exact hl.1.symm) hown (hts (.methodLink RX3 65 arraycopyName) (mem_b bq_wsX3_copyFrom 0 5 rfl)) (hts (.native arraycopyName) (mem_b bq_wsX3_copyFrom 0 6 rfl)) (hts (.static arraycopyName) (mem_b bq_wsX3_copyFrom 0 7 rfl)) (hts (.initialized "java/lang/System") (mem_b bq_wsX3_copyFrom 0 8 rfl)) hG.1 hP hD hS 16 7 0 0 rfl rfl rfl rfl rfl (by decide) (by decide) (by decide) (by decide) (by decide) (fun _ _ => rfl) (Nat.le_of_ble_eq_true rfl) (Nat.le_of_ble_eq_true rfl) dX3_copyFrom_131 (fun H locs hP hD hS => ?_)
  refine lv_aload_n hx hb dX3_copyFrom_134 rfl (lv_at hl 1 rfl) ?_
  refine va_get (D := D) (ci := 2) (v := .ref (xb 8)) (C := RX3) (T := TX3) (N := 17) hx hb hts in3 hown hG.1 hP 9 rfl rfl 14 (by decide) (hts (.fieldLink RX3 56 "ChairCane$Room" "heads" "[I") (mem_b bq_wsX3_copyFrom 0 15 rfl)) (fun _ h9 => h9) rfl dX3_copyFrom_135 ?_
  refine lv_iconst (v := 0) hx hb dX3_copyFrom_138 (by decide) ?_
  refine lv_aload_n hx hb dX3_copyFrom_139 rfl (lv_at hl 0 rfl) ?_
  refine va_get (D := D) (ci := 2) (v := .ref (xa 8)) (C := RX3) (T := TX3) (N := 17) hx hb hts in3 hown hG.1 hP 0 rfl rfl 14 (by decide) (hts (.fieldLink RX3 56 "ChairCane$Room" "heads" "[I") (mem_b bq_wsX3_copyFrom 0 15 rfl)) (fun _ h9 => h9) rfl dX3_copyFrom_140 ?_
  refine lv_iconst (v := 0) hx hb dX3_copyFrom_143 (by decide) ?_
  refine lv_iconst (v := 4) hx hb dX3_copyFrom_144 (by decide) ?_
  refine va_copyi hx hb (by rw [hml]; exact hl.1.symm) hown (hts (.methodLink RX3 65 arraycopyName) (mem_b bq_wsX3_copyFrom 0 5 rfl)) (hts (.native arraycopyName) (mem_b bq_wsX3_copyFrom 0 6 rfl)) (hts (.static arraycopyName) (mem_b bq_wsX3_copyFrom 0 7 rfl)) (hts (.initialized "java/lang/System") (mem_b bq_wsX3_copyFrom 0 8 rfl)) hG.1 hP hD hS 17 8 0 0 rfl rfl rfl rfl rfl (by decide) (by decide) (by decide) (by decide) (by decide) (fun _ _ => rfl) (Nat.le_of_ble_eq_true rfl) (Nat.le_of_ble_eq_true rfl) dX3_copyFrom_145 (fun H locs hP hD hS => ?_)
  obtain ⟨hP, hD⟩ := cv (w' := rmW k xa ((uF (uF (uF (uF rm.1 0 (rn.1 0)) 1 (rn.1 1)) 2 (rn.1 2)) 3 (rn.1 3)), (uF (uF (uF (uF (uF (uF (uF (uF rm.2.1 4 (va_cpy (rn.2.1 4) (rm.2.1 4) 0 0 4)) 5 (va_cpy (rn.2.1 5) (rm.2.1 5) 0 0 8)) 6 (va_cpy (rn.2.1 6) (rm.2.1 6) 0 0 8)) 7 (va_cpy (rn.2.1 7) (rm.2.1 7) 0 0 8)) 8 (va_cpy (rn.2.1 8) (rm.2.1 8) 0 0 8)) 9 (va_cpy (rn.2.1 9) (rm.2.1 9) 0 0 4)) 13 (va_cpy (rn.2.1 13) (rm.2.1 13) 0 0 4)) 14 (va_cpy (rn.2.1 14) (rm.2.1 14) 0 0 4)), rm.2.2) ++ (rmW k xb rn)) hP hD rfl
  refine lv_aload_n hx hb dX3_copyFrom_148 rfl (lv_at hl 0 rfl) ?_
  refine lv_aload_n hx hb dX3_copyFrom_149 rfl (lv_at hl 1 rfl) ?_
  refine va_get (D := D) (ci := 2) (v := .int (rn.1 10)) (C := RX3) (T := TX3) (N := 17) hx hb hts in3 hown hG.1 hP 9 rfl rfl 10 (by decide) (hts (.fieldLink RX3 44 "ChairCane$Room" "sits" "I") (mem_b bq_wsX3_copyFrom 0 16 rfl)) (fun _ h9 => h9) rfl dX3_copyFrom_150 ?_
  refine va_put (D := D) (ci := 2) (v := .int (rn.1 10)) (C := RX3) (T := TX3) (N := 17) hx hb hts in3 tyX3 tyX3_ok nmX3 hown hG.1 hP hD hS 0 rfl rfl 10 (by decide) (hts (.fieldLink RX3 44 "ChairCane$Room" "sits" "I") (mem_b bq_wsX3_copyFrom 0 16 rfl)) (fun _ h9 => h9) rfl (tyX3_ok 10 (by decide)) rfl rfl (Nat.le_of_ble_eq_true rfl) dX3_copyFrom_153 (fun H locs hP hD hS => ?_)
  refine lv_aload_n hx hb dX3_copyFrom_156 rfl (lv_at hl 0 rfl) ?_
  refine lv_aload_n hx hb dX3_copyFrom_157 rfl (lv_at hl 1 rfl) ?_
  refine va_get (D := D) (ci := 2) (v := .int (rn.1 11)) (C := RX3) (T := TX3) (N := 17) hx hb hts in3 hown hG.1 hP 9 rfl rfl 11 (by decide) (hts (.fieldLink RX3 47 "ChairCane$Room" "dropped" "I") (mem_b bq_wsX3_copyFrom 0 17 rfl)) (fun _ h9 => h9) rfl dX3_copyFrom_158 ?_
  refine va_put (D := D) (ci := 2) (v := .int (rn.1 11)) (C := RX3) (T := TX3) (N := 17) hx hb hts in3 tyX3 tyX3_ok nmX3 hown hG.1 hP hD hS 0 rfl rfl 11 (by decide) (hts (.fieldLink RX3 47 "ChairCane$Room" "dropped" "I") (mem_b bq_wsX3_copyFrom 0 17 rfl)) (fun _ h9 => h9) rfl (tyX3_ok 11 (by decide)) rfl rfl (Nat.le_of_ble_eq_true rfl) dX3_copyFrom_161 (fun H locs hP hD hS => ?_)
  refine lv_aload_n hx hb dX3_copyFrom_164 rfl (lv_at hl 0 rfl) ?_
  refine lv_aload_n hx hb dX3_copyFrom_165 rfl (lv_at hl 1 rfl) ?_
  refine va_get (D := D) (ci := 2) (v := .int (rn.1 12)) (C := RX3) (T := TX3) (N := 17) hx hb hts in3 hown hG.1 hP 9 rfl rfl 12 (by decide) (hts (.fieldLink RX3 50 "ChairCane$Room" "minute" "I") (mem_b bq_wsX3_copyFrom 0 18 rfl)) (fun _ h9 => h9) rfl dX3_copyFrom_166 ?_
  refine va_put (D := D) (ci := 2) (v := .int (rn.1 12)) (C := RX3) (T := TX3) (N := 17) hx hb hts in3 tyX3 tyX3_ok nmX3 hown hG.1 hP hD hS 0 rfl rfl 12 (by decide) (hts (.fieldLink RX3 50 "ChairCane$Room" "minute" "I") (mem_b bq_wsX3_copyFrom 0 18 rfl)) (fun _ h9 => h9) rfl (tyX3_ok 12 (by decide)) rfl rfl (Nat.le_of_ble_eq_true rfl) dX3_copyFrom_169 (fun H locs hP hD hS => ?_)
  obtain ⟨hP, hD⟩ := cv (w' := rmW k xa ((uF (uF (uF (uF (uF (uF (uF rm.1 0 (rn.1 0)) 1 (rn.1 1)) 2 (rn.1 2)) 3 (rn.1 3)) 10 (rn.1 10)) 11 (rn.1 11)) 12 (rn.1 12)), (uF (uF (uF (uF (uF (uF (uF (uF rm.2.1 4 (va_cpy (rn.2.1 4) (rm.2.1 4) 0 0 4)) 5 (va_cpy (rn.2.1 5) (rm.2.1 5) 0 0 8)) 6 (va_cpy (rn.2.1 6) (rm.2.1 6) 0 0 8)) 7 (va_cpy (rn.2.1 7) (rm.2.1 7) 0 0 8)) 8 (va_cpy (rn.2.1 8) (rm.2.1 8) 0 0 8)) 9 (va_cpy (rn.2.1 9) (rm.2.1 9) 0 0 4)) 13 (va_cpy (rn.2.1 13) (rm.2.1 13) 0 0 4)) 14 (va_cpy (rn.2.1 14) (rm.2.1 14) 0 0 4)), rm.2.2) ++ (rmW k xb rn)) hP hD rfl
  refine lv_aload_n hx hb dX3_copyFrom_172 rfl (lv_at hl 0 rfl) ?_
  refine lv_iconst (v := 0) hx hb dX3_copyFrom_173 (by decide) ?_
  refine va_put (D := D) (ci := 2) (v := .int 0) (C := RX3) (T := TX3) (N := 17) hx hb hts in3 tyX3 tyX3_ok nmX3 hown hG.1 hP hD hS 0 rfl rfl 15 (by decide) (hts (.fieldLink RX3 59 "ChairCane$Room" "held" "I") (mem_b bq_wsX3_copyFrom 0 19 rfl)) (fun _ h9 => h9) rfl (tyX3_ok 15 (by decide)) rfl rfl (Nat.le_of_ble_eq_true rfl) dX3_copyFrom_174 (fun H locs hP hD hS => ?_)
  exact fw_endV (wp := fun b : OB => rmW k xa b ++ (rmW k xb rn)) hx hb hr hlocks h hP hD hS dX3_copyFrom_177
