/-! the reference: acts and questions, as functions -/
theorem dX9_ahead_0 : decode cX9_ahead 0 = .ok (.aload_n 0, 1) := of_0 ok_aload_n_0 (by decide +kernel)
theorem dX9_ahead_1 : decode cX9_ahead 1 = .ok (.invokevirtual 404, 3) := of_u2 ok_invokevirtual 1 148 (by decide +kernel)
theorem dX9_ahead_4 : decode cX9_ahead 4 = .ok (.ifCond .eq 40, 3) := of_s2 ok_ifCond_eq 0 40 (by decide +kernel)
theorem dX9_ahead_7 : decode cX9_ahead 7 = .ok (.iload_n 3, 1) := of_0 ok_iload_n_3 (by decide +kernel)
theorem dX9_ahead_8 : decode cX9_ahead 8 = .ok (.i2l, 1) := of_0 ok_i2l (by decide +kernel)
theorem dX9_ahead_9 : decode cX9_ahead 9 = .ok (.lconst 0, 1) := of_0 ok_lconst_0 (by decide +kernel)
theorem dX9_ahead_10 : decode cX9_ahead 10 = .ok (.ldc2_w 365, 3) := of_u2 ok_ldc2_w 1 109 (by decide +kernel)
theorem dX9_ahead_13 : decode cX9_ahead 13 = .ok (.invokestatic 131, 3) := of_u2 ok_invokestatic 0 131 (by decide +kernel)
theorem dX9_ahead_16 : decode cX9_ahead 16 = .ok (.ifCond .eq 28, 3) := of_s2 ok_ifCond_eq 0 28 (by decide +kernel)
theorem dX9_ahead_19 : decode cX9_ahead 19 = .ok (.iload_n 3, 1) := of_0 ok_iload_n_3 (by decide +kernel)
theorem dX9_ahead_20 : decode cX9_ahead 20 = .ok (.iconst 2, 1) := of_0 ok_iconst_2 (by decide +kernel)
theorem dX9_ahead_21 : decode cX9_ahead 21 = .ok (.if_icmp .ge 11, 3) := of_s2 ok_if_icmp_ge 0 11 (by decide +kernel)
theorem dX9_ahead_24 : decode cX9_ahead 24 = .ok (.aload_n 0, 1) := of_0 ok_aload_n_0 (by decide +kernel)
theorem dX9_ahead_25 : decode cX9_ahead 25 = .ok (.iload_n 1, 1) := of_0 ok_iload_n_1 (by decide +kernel)
theorem dX9_ahead_26 : decode cX9_ahead 26 = .ok (.invokevirtual 362, 3) := of_u2 ok_invokevirtual 1 106 (by decide +kernel)
theorem dX9_ahead_29 : decode cX9_ahead 29 = .ok (.ifCond .eq 15, 3) := of_s2 ok_ifCond_eq 0 15 (by decide +kernel)
theorem dX9_ahead_32 : decode cX9_ahead 32 = .ok (.iload_n 2, 1) := of_0 ok_iload_n_2 (by decide +kernel)
theorem dX9_ahead_33 : decode cX9_ahead 33 = .ok (.i2l, 1) := of_0 ok_i2l (by decide +kernel)
theorem dX9_ahead_34 : decode cX9_ahead 34 = .ok (.lconst 0, 1) := of_0 ok_lconst_0 (by decide +kernel)
theorem dX9_ahead_35 : decode cX9_ahead 35 = .ok (.ldc2_w 418, 3) := of_u2 ok_ldc2_w 1 162 (by decide +kernel)
theorem dX9_ahead_38 : decode cX9_ahead 38 = .ok (.invokestatic 131, 3) := of_u2 ok_invokestatic 0 131 (by decide +kernel)
theorem dX9_ahead_41 : decode cX9_ahead 41 = .ok (.ifCond .ne 5, 3) := of_s2 ok_ifCond_ne 0 5 (by decide +kernel)
theorem dX9_ahead_44 : decode cX9_ahead 44 = .ok (.iconst (-1), 1) := of_0 ok_iconst_m1 (by decide +kernel)
theorem dX9_ahead_45 : decode cX9_ahead 45 = .ok (.ireturn, 1) := of_0 ok_ireturn (by decide +kernel)
theorem dX9_ahead_46 : decode cX9_ahead 46 = .ok (.aload_n 0, 1) := of_0 ok_aload_n_0 (by decide +kernel)
theorem dX9_ahead_47 : decode cX9_ahead 47 = .ok (.invokevirtual 420, 3) := of_u2 ok_invokevirtual 1 164 (by decide +kernel)
theorem dX9_ahead_50 : decode cX9_ahead 50 = .ok (.aload_n 0, 1) := of_0 ok_aload_n_0 (by decide +kernel)
theorem dX9_ahead_51 : decode cX9_ahead 51 = .ok (.iload_n 2, 1) := of_0 ok_iload_n_2 (by decide +kernel)
theorem dX9_ahead_52 : decode cX9_ahead 52 = .ok (.invokevirtual 423, 3) := of_u2 ok_invokevirtual 1 167 (by decide +kernel)
theorem dX9_ahead_55 : decode cX9_ahead 55 = .ok (.iload_n 3, 1) := of_0 ok_iload_n_3 (by decide +kernel)
theorem dX9_ahead_56 : decode cX9_ahead 56 = .ok (.ifCond .ne 12, 3) := of_s2 ok_ifCond_ne 0 12 (by decide +kernel)
theorem dX9_ahead_59 : decode cX9_ahead 59 = .ok (.aload_n 0, 1) := of_0 ok_aload_n_0 (by decide +kernel)
theorem dX9_ahead_60 : decode cX9_ahead 60 = .ok (.getfield 16, 3) := of_u2 ok_getfield 0 16 (by decide +kernel)
theorem dX9_ahead_63 : decode cX9_ahead 63 = .ok (.iload_n 1, 1) := of_0 ok_iload_n_1 (by decide +kernel)
theorem dX9_ahead_64 : decode cX9_ahead 64 = .ok (.iaload, 1) := of_0 ok_iaload (by decide +kernel)
theorem dX9_ahead_65 : decode cX9_ahead 65 = .ok (.goto 24, 3) := of_s2 ok_goto 0 24 (by decide +kernel)
theorem dX9_ahead_68 : decode cX9_ahead 68 = .ok (.iload_n 3, 1) := of_0 ok_iload_n_3 (by decide +kernel)
theorem dX9_ahead_69 : decode cX9_ahead 69 = .ok (.iconst 1, 1) := of_0 ok_iconst_1 (by decide +kernel)
theorem dX9_ahead_70 : decode cX9_ahead 70 = .ok (.if_icmp .ne 11, 3) := of_s2 ok_if_icmp_ne 0 11 (by decide +kernel)
theorem dX9_ahead_73 : decode cX9_ahead 73 = .ok (.aload_n 0, 1) := of_0 ok_aload_n_0 (by decide +kernel)
theorem dX9_ahead_74 : decode cX9_ahead 74 = .ok (.iload_n 1, 1) := of_0 ok_iload_n_1 (by decide +kernel)
theorem dX9_ahead_75 : decode cX9_ahead 75 = .ok (.invokevirtual 359, 3) := of_u2 ok_invokevirtual 1 103 (by decide +kernel)
theorem dX9_ahead_78 : decode cX9_ahead 78 = .ok (.goto 11, 3) := of_s2 ok_goto 0 11 (by decide +kernel)
theorem dX9_ahead_81 : decode cX9_ahead 81 = .ok (.aload_n 0, 1) := of_0 ok_aload_n_0 (by decide +kernel)
theorem dX9_ahead_82 : decode cX9_ahead 82 = .ok (.iconst 2, 1) := of_0 ok_iconst_2 (by decide +kernel)
theorem dX9_ahead_83 : decode cX9_ahead 83 = .ok (.invokevirtual 341, 3) := of_u2 ok_invokevirtual 1 85 (by decide +kernel)
theorem dX9_ahead_86 : decode cX9_ahead 86 = .ok (.invokestatic 370, 3) := of_u2 ok_invokestatic 1 114 (by decide +kernel)
theorem dX9_ahead_89 : decode cX9_ahead 89 = .ok (.istore 4, 2) := of_u1 ok_istore (by decide +kernel)
theorem dX9_ahead_91 : decode cX9_ahead 91 = .ok (.aload_n 0, 1) := of_0 ok_aload_n_0 (by decide +kernel)
theorem dX9_ahead_92 : decode cX9_ahead 92 = .ok (.invokevirtual 426, 3) := of_u2 ok_invokevirtual 1 170 (by decide +kernel)
theorem dX9_ahead_95 : decode cX9_ahead 95 = .ok (.iload 4, 2) := of_u1 ok_iload (by decide +kernel)
theorem dX9_ahead_97 : decode cX9_ahead 97 = .ok (.ireturn, 1) := of_0 ok_ireturn (by decide +kernel)
theorem dX9_carriesAll_0 : decode cX9_carriesAll 0 = .ok (.aload_n 0, 1) := of_0 ok_aload_n_0 (by decide +kernel)
theorem dX9_carriesAll_1 : decode cX9_carriesAll 1 = .ok (.sipush 400, 3) := of_s2 ok_sipush 1 144 (by decide +kernel)
theorem dX9_carriesAll_4 : decode cX9_carriesAll 4 = .ok (.iload_n 1, 1) := of_0 ok_iload_n_1 (by decide +kernel)
theorem dX9_carriesAll_5 : decode cX9_carriesAll 5 = .ok (.imul, 1) := of_0 ok_imul (by decide +kernel)
theorem dX9_carriesAll_6 : decode cX9_carriesAll 6 = .ok (.putfield 486, 3) := of_u2 ok_putfield 1 230 (by decide +kernel)
theorem dX9_carriesAll_9 : decode cX9_carriesAll 9 = .ok (.aload_n 0, 1) := of_0 ok_aload_n_0 (by decide +kernel)
theorem dX9_carriesAll_10 : decode cX9_carriesAll 10 = .ok (.iload_n 2, 1) := of_0 ok_iload_n_2 (by decide +kernel)
theorem dX9_carriesAll_11 : decode cX9_carriesAll 11 = .ok (.putfield 483, 3) := of_u2 ok_putfield 1 227 (by decide +kernel)
theorem dX9_carriesAll_14 : decode cX9_carriesAll 14 = .ok (.aload_n 0, 1) := of_0 ok_aload_n_0 (by decide +kernel)
theorem dX9_carriesAll_15 : decode cX9_carriesAll 15 = .ok (.aload_n 0, 1) := of_0 ok_aload_n_0 (by decide +kernel)
theorem dX9_carriesAll_16 : decode cX9_carriesAll 16 = .ok (.getfield 9, 3) := of_u2 ok_getfield 0 9 (by decide +kernel)
theorem dX9_carriesAll_19 : decode cX9_carriesAll 19 = .ok (.invokevirtual 489, 3) := of_u2 ok_invokevirtual 1 233 (by decide +kernel)
theorem dX9_carriesAll_22 : decode cX9_carriesAll 22 = .ok (.aload_n 0, 1) := of_0 ok_aload_n_0 (by decide +kernel)
theorem dX9_carriesAll_23 : decode cX9_carriesAll 23 = .ok (.aload_n 0, 1) := of_0 ok_aload_n_0 (by decide +kernel)
theorem dX9_carriesAll_24 : decode cX9_carriesAll 24 = .ok (.getfield 13, 3) := of_u2 ok_getfield 0 13 (by decide +kernel)
theorem dX9_carriesAll_27 : decode cX9_carriesAll 27 = .ok (.invokevirtual 489, 3) := of_u2 ok_invokevirtual 1 233 (by decide +kernel)
theorem dX9_carriesAll_30 : decode cX9_carriesAll 30 = .ok (.aload_n 0, 1) := of_0 ok_aload_n_0 (by decide +kernel)
theorem dX9_carriesAll_31 : decode cX9_carriesAll 31 = .ok (.aload_n 0, 1) := of_0 ok_aload_n_0 (by decide +kernel)
theorem dX9_carriesAll_32 : decode cX9_carriesAll 32 = .ok (.getfield 16, 3) := of_u2 ok_getfield 0 16 (by decide +kernel)
theorem dX9_carriesAll_35 : decode cX9_carriesAll 35 = .ok (.invokevirtual 489, 3) := of_u2 ok_invokevirtual 1 233 (by decide +kernel)
theorem dX9_carriesAll_38 : decode cX9_carriesAll 38 = .ok (.aload_n 0, 1) := of_0 ok_aload_n_0 (by decide +kernel)
theorem dX9_carriesAll_39 : decode cX9_carriesAll 39 = .ok (.aload_n 0, 1) := of_0 ok_aload_n_0 (by decide +kernel)
theorem dX9_carriesAll_40 : decode cX9_carriesAll 40 = .ok (.getfield 19, 3) := of_u2 ok_getfield 0 19 (by decide +kernel)
theorem dX9_carriesAll_43 : decode cX9_carriesAll 43 = .ok (.invokevirtual 489, 3) := of_u2 ok_invokevirtual 1 233 (by decide +kernel)
theorem dX9_carriesAll_46 : decode cX9_carriesAll 46 = .ok (.aload_n 0, 1) := of_0 ok_aload_n_0 (by decide +kernel)
theorem dX9_carriesAll_47 : decode cX9_carriesAll 47 = .ok (.aload_n 0, 1) := of_0 ok_aload_n_0 (by decide +kernel)
theorem dX9_carriesAll_48 : decode cX9_carriesAll 48 = .ok (.getfield 22, 3) := of_u2 ok_getfield 0 22 (by decide +kernel)
theorem dX9_carriesAll_51 : decode cX9_carriesAll 51 = .ok (.invokevirtual 489, 3) := of_u2 ok_invokevirtual 1 233 (by decide +kernel)
theorem dX9_carriesAll_54 : decode cX9_carriesAll 54 = .ok (.iload_n 1, 1) := of_0 ok_iload_n_1 (by decide +kernel)
theorem dX9_carriesAll_55 : decode cX9_carriesAll 55 = .ok (.iconst 4, 1) := of_0 ok_iconst_4 (by decide +kernel)
theorem dX9_carriesAll_56 : decode cX9_carriesAll 56 = .ok (.if_icmp .ne 4, 3) := of_s2 ok_if_icmp_ne 0 4 (by decide +kernel)
theorem dX9_carriesAll_59 : decode cX9_carriesAll 59 = .ok (.return_, 1) := of_0 ok_return_ (by decide +kernel)
theorem dX9_carriesAll_60 : decode cX9_carriesAll 60 = .ok (.aload_n 0, 1) := of_0 ok_aload_n_0 (by decide +kernel)
theorem dX9_carriesAll_61 : decode cX9_carriesAll 61 = .ok (.getfield 103, 3) := of_u2 ok_getfield 0 103 (by decide +kernel)
theorem dX9_carriesAll_64 : decode cX9_carriesAll 64 = .ok (.iconst 0, 1) := of_0 ok_iconst_0 (by decide +kernel)
theorem dX9_carriesAll_65 : decode cX9_carriesAll 65 = .ok (.aload_n 0, 1) := of_0 ok_aload_n_0 (by decide +kernel)
theorem dX9_carriesAll_66 : decode cX9_carriesAll 66 = .ok (.getfield 299, 3) := of_u2 ok_getfield 1 43 (by decide +kernel)
theorem dX9_carriesAll_69 : decode cX9_carriesAll 69 = .ok (.iastore, 1) := of_0 ok_iastore (by decide +kernel)
theorem dX9_carriesAll_70 : decode cX9_carriesAll 70 = .ok (.aload_n 0, 1) := of_0 ok_aload_n_0 (by decide +kernel)
theorem dX9_carriesAll_71 : decode cX9_carriesAll 71 = .ok (.aload_n 0, 1) := of_0 ok_aload_n_0 (by decide +kernel)
theorem dX9_carriesAll_72 : decode cX9_carriesAll 72 = .ok (.getfield 103, 3) := of_u2 ok_getfield 0 103 (by decide +kernel)
theorem dX9_carriesAll_75 : decode cX9_carriesAll 75 = .ok (.invokevirtual 489, 3) := of_u2 ok_invokevirtual 1 233 (by decide +kernel)
theorem dX9_carriesAll_78 : decode cX9_carriesAll 78 = .ok (.aload_n 0, 1) := of_0 ok_aload_n_0 (by decide +kernel)
theorem dX9_carriesAll_79 : decode cX9_carriesAll 79 = .ok (.aload_n 0, 1) := of_0 ok_aload_n_0 (by decide +kernel)
theorem dX9_carriesAll_80 : decode cX9_carriesAll 80 = .ok (.getfield 103, 3) := of_u2 ok_getfield 0 103 (by decide +kernel)
theorem dX9_carriesAll_83 : decode cX9_carriesAll 83 = .ok (.iconst 0, 1) := of_0 ok_iconst_0 (by decide +kernel)
theorem dX9_carriesAll_84 : decode cX9_carriesAll 84 = .ok (.iaload, 1) := of_0 ok_iaload (by decide +kernel)
theorem dX9_carriesAll_85 : decode cX9_carriesAll 85 = .ok (.putfield 299, 3) := of_u2 ok_putfield 1 43 (by decide +kernel)
theorem dX9_carriesAll_88 : decode cX9_carriesAll 88 = .ok (.aload_n 0, 1) := of_0 ok_aload_n_0 (by decide +kernel)
theorem dX9_carriesAll_89 : decode cX9_carriesAll 89 = .ok (.aload_n 0, 1) := of_0 ok_aload_n_0 (by decide +kernel)
theorem dX9_carriesAll_90 : decode cX9_carriesAll 90 = .ok (.getfield 25, 3) := of_u2 ok_getfield 0 25 (by decide +kernel)
theorem dX9_carriesAll_93 : decode cX9_carriesAll 93 = .ok (.invokevirtual 489, 3) := of_u2 ok_invokevirtual 1 233 (by decide +kernel)
theorem dX9_carriesAll_96 : decode cX9_carriesAll 96 = .ok (.aload_n 0, 1) := of_0 ok_aload_n_0 (by decide +kernel)
theorem dX9_carriesAll_97 : decode cX9_carriesAll 97 = .ok (.aload_n 0, 1) := of_0 ok_aload_n_0 (by decide +kernel)
theorem dX9_carriesAll_98 : decode cX9_carriesAll 98 = .ok (.getfield 28, 3) := of_u2 ok_getfield 0 28 (by decide +kernel)
theorem dX9_carriesAll_101 : decode cX9_carriesAll 101 = .ok (.invokevirtual 489, 3) := of_u2 ok_invokevirtual 1 233 (by decide +kernel)
theorem dX9_carriesAll_104 : decode cX9_carriesAll 104 = .ok (.aload_n 0, 1) := of_0 ok_aload_n_0 (by decide +kernel)
theorem dX9_carriesAll_105 : decode cX9_carriesAll 105 = .ok (.aload_n 0, 1) := of_0 ok_aload_n_0 (by decide +kernel)
theorem dX9_carriesAll_106 : decode cX9_carriesAll 106 = .ok (.getfield 31, 3) := of_u2 ok_getfield 0 31 (by decide +kernel)
theorem dX9_carriesAll_109 : decode cX9_carriesAll 109 = .ok (.invokevirtual 489, 3) := of_u2 ok_invokevirtual 1 233 (by decide +kernel)
theorem dX9_carriesAll_112 : decode cX9_carriesAll 112 = .ok (.aload_n 0, 1) := of_0 ok_aload_n_0 (by decide +kernel)
theorem dX9_carriesAll_113 : decode cX9_carriesAll 113 = .ok (.aload_n 0, 1) := of_0 ok_aload_n_0 (by decide +kernel)
theorem dX9_carriesAll_114 : decode cX9_carriesAll 114 = .ok (.getfield 34, 3) := of_u2 ok_getfield 0 34 (by decide +kernel)
theorem dX9_carriesAll_117 : decode cX9_carriesAll 117 = .ok (.invokevirtual 489, 3) := of_u2 ok_invokevirtual 1 233 (by decide +kernel)
theorem dX9_carriesAll_120 : decode cX9_carriesAll 120 = .ok (.aload_n 0, 1) := of_0 ok_aload_n_0 (by decide +kernel)
theorem dX9_carriesAll_121 : decode cX9_carriesAll 121 = .ok (.aload_n 0, 1) := of_0 ok_aload_n_0 (by decide +kernel)
theorem dX9_carriesAll_122 : decode cX9_carriesAll 122 = .ok (.getfield 37, 3) := of_u2 ok_getfield 0 37 (by decide +kernel)
theorem dX9_carriesAll_125 : decode cX9_carriesAll 125 = .ok (.invokevirtual 489, 3) := of_u2 ok_invokevirtual 1 233 (by decide +kernel)
theorem dX9_carriesAll_128 : decode cX9_carriesAll 128 = .ok (.aload_n 0, 1) := of_0 ok_aload_n_0 (by decide +kernel)
theorem dX9_carriesAll_129 : decode cX9_carriesAll 129 = .ok (.aload_n 0, 1) := of_0 ok_aload_n_0 (by decide +kernel)
theorem dX9_carriesAll_130 : decode cX9_carriesAll 130 = .ok (.getfield 40, 3) := of_u2 ok_getfield 0 40 (by decide +kernel)
theorem dX9_carriesAll_133 : decode cX9_carriesAll 133 = .ok (.invokevirtual 489, 3) := of_u2 ok_invokevirtual 1 233 (by decide +kernel)
theorem dX9_carriesAll_136 : decode cX9_carriesAll 136 = .ok (.aload_n 0, 1) := of_0 ok_aload_n_0 (by decide +kernel)
theorem dX9_carriesAll_137 : decode cX9_carriesAll 137 = .ok (.aload_n 0, 1) := of_0 ok_aload_n_0 (by decide +kernel)
theorem dX9_carriesAll_138 : decode cX9_carriesAll 138 = .ok (.getfield 100, 3) := of_u2 ok_getfield 0 100 (by decide +kernel)
theorem dX9_carriesAll_141 : decode cX9_carriesAll 141 = .ok (.invokevirtual 489, 3) := of_u2 ok_invokevirtual 1 233 (by decide +kernel)
theorem dX9_carriesAll_144 : decode cX9_carriesAll 144 = .ok (.return_, 1) := of_0 ok_return_ (by decide +kernel)
theorem dX9_carryRow_0 : decode cX9_carryRow 0 = .ok (.iconst 0, 1) := of_0 ok_iconst_0 (by decide +kernel)
theorem dX9_carryRow_1 : decode cX9_carryRow 1 = .ok (.istore_n 2, 1) := of_0 ok_istore_n_2 (by decide +kernel)
theorem dX9_carryRow_2 : decode cX9_carryRow 2 = .ok (.iload_n 2, 1) := of_0 ok_iload_n_2 (by decide +kernel)
theorem dX9_carryRow_3 : decode cX9_carryRow 3 = .ok (.aload_n 1, 1) := of_0 ok_aload_n_1 (by decide +kernel)
theorem dX9_carryRow_4 : decode cX9_carryRow 4 = .ok (.arraylength, 1) := of_0 ok_arraylength (by decide +kernel)
theorem dX9_carryRow_5 : decode cX9_carryRow 5 = .ok (.if_icmp .ge 53, 3) := of_s2 ok_if_icmp_ge 0 53 (by decide +kernel)
theorem dX9_carryRow_8 : decode cX9_carryRow 8 = .ok (.aload_n 0, 1) := of_0 ok_aload_n_0 (by decide +kernel)
theorem dX9_carryRow_9 : decode cX9_carryRow 9 = .ok (.getfield 483, 3) := of_u2 ok_getfield 1 227 (by decide +kernel)
theorem dX9_carryRow_12 : decode cX9_carryRow 12 = .ok (.ifCond .eq 18, 3) := of_s2 ok_ifCond_eq 0 18 (by decide +kernel)
theorem dX9_carryRow_15 : decode cX9_carryRow 15 = .ok (.aload_n 1, 1) := of_0 ok_aload_n_1 (by decide +kernel)
theorem dX9_carryRow_16 : decode cX9_carryRow 16 = .ok (.iload_n 2, 1) := of_0 ok_iload_n_2 (by decide +kernel)
theorem dX9_carryRow_17 : decode cX9_carryRow 17 = .ok (.aload_n 0, 1) := of_0 ok_aload_n_0 (by decide +kernel)
theorem dX9_carryRow_18 : decode cX9_carryRow 18 = .ok (.getfield 122, 3) := of_u2 ok_getfield 0 122 (by decide +kernel)
theorem dX9_carryRow_21 : decode cX9_carryRow 21 = .ok (.aload_n 0, 1) := of_0 ok_aload_n_0 (by decide +kernel)
theorem dX9_carryRow_22 : decode cX9_carryRow 22 = .ok (.getfield 486, 3) := of_u2 ok_getfield 1 230 (by decide +kernel)
theorem dX9_carryRow_25 : decode cX9_carryRow 25 = .ok (.iaload, 1) := of_0 ok_iaload (by decide +kernel)
theorem dX9_carryRow_26 : decode cX9_carryRow 26 = .ok (.iastore, 1) := of_0 ok_iastore (by decide +kernel)
theorem dX9_carryRow_27 : decode cX9_carryRow 27 = .ok (.goto 15, 3) := of_s2 ok_goto 0 15 (by decide +kernel)
theorem dX9_carryRow_30 : decode cX9_carryRow 30 = .ok (.aload_n 0, 1) := of_0 ok_aload_n_0 (by decide +kernel)
theorem dX9_carryRow_31 : decode cX9_carryRow 31 = .ok (.getfield 122, 3) := of_u2 ok_getfield 0 122 (by decide +kernel)
theorem dX9_carryRow_34 : decode cX9_carryRow 34 = .ok (.aload_n 0, 1) := of_0 ok_aload_n_0 (by decide +kernel)
theorem dX9_carryRow_35 : decode cX9_carryRow 35 = .ok (.getfield 486, 3) := of_u2 ok_getfield 1 230 (by decide +kernel)
theorem dX9_carryRow_38 : decode cX9_carryRow 38 = .ok (.aload_n 1, 1) := of_0 ok_aload_n_1 (by decide +kernel)
theorem dX9_carryRow_39 : decode cX9_carryRow 39 = .ok (.iload_n 2, 1) := of_0 ok_iload_n_2 (by decide +kernel)
theorem dX9_carryRow_40 : decode cX9_carryRow 40 = .ok (.iaload, 1) := of_0 ok_iaload (by decide +kernel)
theorem dX9_carryRow_41 : decode cX9_carryRow 41 = .ok (.iastore, 1) := of_0 ok_iastore (by decide +kernel)
theorem dX9_carryRow_42 : decode cX9_carryRow 42 = .ok (.aload_n 0, 1) := of_0 ok_aload_n_0 (by decide +kernel)
theorem dX9_carryRow_43 : decode cX9_carryRow 43 = .ok (.dup, 1) := of_0 ok_dup (by decide +kernel)
theorem dX9_carryRow_44 : decode cX9_carryRow 44 = .ok (.getfield 486, 3) := of_u2 ok_getfield 1 230 (by decide +kernel)
theorem dX9_carryRow_47 : decode cX9_carryRow 47 = .ok (.iconst 1, 1) := of_0 ok_iconst_1 (by decide +kernel)
theorem dX9_carryRow_48 : decode cX9_carryRow 48 = .ok (.iadd, 1) := of_0 ok_iadd (by decide +kernel)
theorem dX9_carryRow_49 : decode cX9_carryRow 49 = .ok (.putfield 486, 3) := of_u2 ok_putfield 1 230 (by decide +kernel)
theorem dX9_carryRow_52 : decode cX9_carryRow 52 = .ok (.iinc 2 1, 3) := of_ii ok_iinc 1 (by decide +kernel)
theorem dX9_carryRow_55 : decode cX9_carryRow 55 = .ok (.goto (-53), 3) := of_s2 ok_goto 255 203 (by decide +kernel)
theorem dX9_carryRow_58 : decode cX9_carryRow 58 = .ok (.return_, 1) := of_0 ok_return_ (by decide +kernel)
theorem dX9_ease_0 : decode cX9_ease 0 = .ok (.aload_n 0, 1) := of_0 ok_aload_n_0 (by decide +kernel)
theorem dX9_ease_1 : decode cX9_ease 1 = .ok (.invokevirtual 404, 3) := of_u2 ok_invokevirtual 1 148 (by decide +kernel)
theorem dX9_ease_4 : decode cX9_ease 4 = .ok (.ifCond .eq 13, 3) := of_s2 ok_ifCond_eq 0 13 (by decide +kernel)
theorem dX9_ease_7 : decode cX9_ease 7 = .ok (.iload_n 1, 1) := of_0 ok_iload_n_1 (by decide +kernel)
theorem dX9_ease_8 : decode cX9_ease 8 = .ok (.i2l, 1) := of_0 ok_i2l (by decide +kernel)
theorem dX9_ease_9 : decode cX9_ease 9 = .ok (.lconst 0, 1) := of_0 ok_lconst_0 (by decide +kernel)
theorem dX9_ease_10 : decode cX9_ease 10 = .ok (.lconst 1, 1) := of_0 ok_lconst_1 (by decide +kernel)
theorem dX9_ease_11 : decode cX9_ease 11 = .ok (.invokestatic 131, 3) := of_u2 ok_invokestatic 0 131 (by decide +kernel)
theorem dX9_ease_14 : decode cX9_ease 14 = .ok (.ifCond .ne 5, 3) := of_s2 ok_ifCond_ne 0 5 (by decide +kernel)
theorem dX9_ease_17 : decode cX9_ease 17 = .ok (.iconst (-1), 1) := of_0 ok_iconst_m1 (by decide +kernel)
theorem dX9_ease_18 : decode cX9_ease 18 = .ok (.ireturn, 1) := of_0 ok_ireturn (by decide +kernel)
theorem dX9_ease_19 : decode cX9_ease 19 = .ok (.aload_n 0, 1) := of_0 ok_aload_n_0 (by decide +kernel)
theorem dX9_ease_20 : decode cX9_ease 20 = .ok (.iconst 0, 1) := of_0 ok_iconst_0 (by decide +kernel)
theorem dX9_ease_21 : decode cX9_ease 21 = .ok (.invokevirtual 341, 3) := of_u2 ok_invokevirtual 1 85 (by decide +kernel)
theorem dX9_ease_24 : decode cX9_ease 24 = .ok (.istore_n 2, 1) := of_0 ok_istore_n_2 (by decide +kernel)
theorem dX9_ease_25 : decode cX9_ease 25 = .ok (.aload_n 0, 1) := of_0 ok_aload_n_0 (by decide +kernel)
theorem dX9_ease_26 : decode cX9_ease 26 = .ok (.iconst 1, 1) := of_0 ok_iconst_1 (by decide +kernel)
theorem dX9_ease_27 : decode cX9_ease 27 = .ok (.invokevirtual 341, 3) := of_u2 ok_invokevirtual 1 85 (by decide +kernel)
theorem dX9_ease_30 : decode cX9_ease 30 = .ok (.istore_n 3, 1) := of_0 ok_istore_n_3 (by decide +kernel)
theorem dX9_ease_31 : decode cX9_ease 31 = .ok (.iconst 0, 1) := of_0 ok_iconst_0 (by decide +kernel)
theorem dX9_ease_32 : decode cX9_ease 32 = .ok (.istore 4, 2) := of_u1 ok_istore (by decide +kernel)
theorem dX9_ease_34 : decode cX9_ease 34 = .ok (.iconst 0, 1) := of_0 ok_iconst_0 (by decide +kernel)
theorem dX9_ease_35 : decode cX9_ease 35 = .ok (.istore 5, 2) := of_u1 ok_istore (by decide +kernel)
theorem dX9_ease_37 : decode cX9_ease 37 = .ok (.iload 5, 2) := of_u1 ok_iload (by decide +kernel)
theorem dX9_ease_39 : decode cX9_ease 39 = .ok (.iload_n 2, 1) := of_0 ok_iload_n_2 (by decide +kernel)
theorem dX9_ease_40 : decode cX9_ease 40 = .ok (.if_icmp .gt 46, 3) := of_s2 ok_if_icmp_gt 0 46 (by decide +kernel)
theorem dX9_ease_43 : decode cX9_ease 43 = .ok (.iload 5, 2) := of_u1 ok_iload (by decide +kernel)
theorem dX9_ease_45 : decode cX9_ease 45 = .ok (.iload_n 2, 1) := of_0 ok_iload_n_2 (by decide +kernel)
theorem dX9_ease_46 : decode cX9_ease 46 = .ok (.iconst (-1), 1) := of_0 ok_iconst_m1 (by decide +kernel)
theorem dX9_ease_47 : decode cX9_ease 47 = .ok (.ixor, 1) := of_0 ok_ixor (by decide +kernel)
theorem dX9_ease_48 : decode cX9_ease 48 = .ok (.iand, 1) := of_0 ok_iand (by decide +kernel)
theorem dX9_ease_49 : decode cX9_ease 49 = .ok (.ifCond .ne 31, 3) := of_s2 ok_ifCond_ne 0 31 (by decide +kernel)
theorem dX9_ease_52 : decode cX9_ease 52 = .ok (.iload 5, 2) := of_u1 ok_iload (by decide +kernel)
theorem dX9_ease_54 : decode cX9_ease 54 = .ok (.invokestatic 370, 3) := of_u2 ok_invokestatic 1 114 (by decide +kernel)
theorem dX9_ease_57 : decode cX9_ease 57 = .ok (.iload 4, 2) := of_u1 ok_iload (by decide +kernel)
theorem dX9_ease_59 : decode cX9_ease 59 = .ok (.invokestatic 370, 3) := of_u2 ok_invokestatic 1 114 (by decide +kernel)
theorem dX9_ease_62 : decode cX9_ease 62 = .ok (.if_icmp .le 18, 3) := of_s2 ok_if_icmp_le 0 18 (by decide +kernel)
theorem dX9_ease_65 : decode cX9_ease 65 = .ok (.aload_n 0, 1) := of_0 ok_aload_n_0 (by decide +kernel)
theorem dX9_ease_66 : decode cX9_ease 66 = .ok (.iload_n 3, 1) := of_0 ok_iload_n_3 (by decide +kernel)
theorem dX9_ease_67 : decode cX9_ease 67 = .ok (.iload 5, 2) := of_u1 ok_iload (by decide +kernel)
theorem dX9_ease_69 : decode cX9_ease 69 = .ok (.ior, 1) := of_0 ok_ior (by decide +kernel)
theorem dX9_ease_70 : decode cX9_ease 70 = .ok (.invokevirtual 367, 3) := of_u2 ok_invokevirtual 1 111 (by decide +kernel)
theorem dX9_ease_73 : decode cX9_ease 73 = .ok (.ifCond .ne 7, 3) := of_s2 ok_ifCond_ne 0 7 (by decide +kernel)
theorem dX9_ease_76 : decode cX9_ease 76 = .ok (.iload 5, 2) := of_u1 ok_iload (by decide +kernel)
theorem dX9_ease_78 : decode cX9_ease 78 = .ok (.istore 4, 2) := of_u1 ok_istore (by decide +kernel)
theorem dX9_ease_80 : decode cX9_ease 80 = .ok (.iinc 5 1, 3) := of_ii ok_iinc 1 (by decide +kernel)
theorem dX9_ease_83 : decode cX9_ease 83 = .ok (.goto (-46), 3) := of_s2 ok_goto 255 210 (by decide +kernel)
theorem dX9_ease_86 : decode cX9_ease 86 = .ok (.iload_n 1, 1) := of_0 ok_iload_n_1 (by decide +kernel)
theorem dX9_ease_87 : decode cX9_ease 87 = .ok (.ifCond .ne 11, 3) := of_s2 ok_ifCond_ne 0 11 (by decide +kernel)
theorem dX9_ease_90 : decode cX9_ease 90 = .ok (.iload 4, 2) := of_u1 ok_iload (by decide +kernel)
theorem dX9_ease_92 : decode cX9_ease 92 = .ok (.invokestatic 370, 3) := of_u2 ok_invokestatic 1 114 (by decide +kernel)
theorem dX9_ease_95 : decode cX9_ease 95 = .ok (.goto 5, 3) := of_s2 ok_goto 0 5 (by decide +kernel)
theorem dX9_ease_98 : decode cX9_ease 98 = .ok (.iload 4, 2) := of_u1 ok_iload (by decide +kernel)
theorem dX9_ease_100 : decode cX9_ease 100 = .ok (.ireturn, 1) := of_0 ok_ireturn (by decide +kernel)
theorem dX9_falls_0 : decode cX9_falls 0 = .ok (.aload_n 0, 1) := of_0 ok_aload_n_0 (by decide +kernel)
theorem dX9_falls_1 : decode cX9_falls 1 = .ok (.invokevirtual 404, 3) := of_u2 ok_invokevirtual 1 148 (by decide +kernel)
theorem dX9_falls_4 : decode cX9_falls 4 = .ok (.ifCond .eq 13, 3) := of_s2 ok_ifCond_eq 0 13 (by decide +kernel)
theorem dX9_falls_7 : decode cX9_falls 7 = .ok (.iload_n 1, 1) := of_0 ok_iload_n_1 (by decide +kernel)
theorem dX9_falls_8 : decode cX9_falls 8 = .ok (.i2l, 1) := of_0 ok_i2l (by decide +kernel)
theorem dX9_falls_9 : decode cX9_falls 9 = .ok (.lconst 0, 1) := of_0 ok_lconst_0 (by decide +kernel)
theorem dX9_falls_10 : decode cX9_falls 10 = .ok (.lconst 1, 1) := of_0 ok_lconst_1 (by decide +kernel)
theorem dX9_falls_11 : decode cX9_falls 11 = .ok (.invokestatic 131, 3) := of_u2 ok_invokestatic 0 131 (by decide +kernel)
theorem dX9_falls_14 : decode cX9_falls 14 = .ok (.ifCond .ne 5, 3) := of_s2 ok_ifCond_ne 0 5 (by decide +kernel)
theorem dX9_falls_17 : decode cX9_falls 17 = .ok (.iconst (-1), 1) := of_0 ok_iconst_m1 (by decide +kernel)
theorem dX9_falls_18 : decode cX9_falls 18 = .ok (.ireturn, 1) := of_0 ok_ireturn (by decide +kernel)
theorem dX9_falls_19 : decode cX9_falls 19 = .ok (.aload_n 0, 1) := of_0 ok_aload_n_0 (by decide +kernel)
theorem dX9_falls_20 : decode cX9_falls 20 = .ok (.invokevirtual 420, 3) := of_u2 ok_invokevirtual 1 164 (by decide +kernel)
theorem dX9_falls_23 : decode cX9_falls 23 = .ok (.bipush (-2), 2) := of_s1 ok_bipush 254 (by decide +kernel)
theorem dX9_falls_25 : decode cX9_falls 25 = .ok (.istore_n 2, 1) := of_0 ok_istore_n_2 (by decide +kernel)
theorem dX9_falls_26 : decode cX9_falls 26 = .ok (.iconst 0, 1) := of_0 ok_iconst_0 (by decide +kernel)
theorem dX9_falls_27 : decode cX9_falls 27 = .ok (.istore_n 3, 1) := of_0 ok_istore_n_3 (by decide +kernel)
theorem dX9_falls_28 : decode cX9_falls 28 = .ok (.iload_n 3, 1) := of_0 ok_iload_n_3 (by decide +kernel)
theorem dX9_falls_29 : decode cX9_falls 29 = .ok (.sipush 200, 3) := of_s2 ok_sipush 0 200 (by decide +kernel)
theorem dX9_falls_32 : decode cX9_falls 32 = .ok (.if_icmp .ge 49, 3) := of_s2 ok_if_icmp_ge 0 49 (by decide +kernel)
theorem dX9_falls_35 : decode cX9_falls 35 = .ok (.iload_n 2, 1) := of_0 ok_iload_n_2 (by decide +kernel)
theorem dX9_falls_36 : decode cX9_falls 36 = .ok (.bipush (-2), 2) := of_s1 ok_bipush 254 (by decide +kernel)
theorem dX9_falls_38 : decode cX9_falls 38 = .ok (.if_icmp .ne 43, 3) := of_s2 ok_if_icmp_ne 0 43 (by decide +kernel)
theorem dX9_falls_41 : decode cX9_falls 41 = .ok (.aload_n 0, 1) := of_0 ok_aload_n_0 (by decide +kernel)
theorem dX9_falls_42 : decode cX9_falls 42 = .ok (.invokevirtual 383, 3) := of_u2 ok_invokevirtual 1 127 (by decide +kernel)
theorem dX9_falls_45 : decode cX9_falls 45 = .ok (.istore 4, 2) := of_u1 ok_istore (by decide +kernel)
theorem dX9_falls_47 : decode cX9_falls 47 = .ok (.iload 4, 2) := of_u1 ok_iload (by decide +kernel)
theorem dX9_falls_49 : decode cX9_falls 49 = .ok (.ifCond .ne 8, 3) := of_s2 ok_ifCond_ne 0 8 (by decide +kernel)
theorem dX9_falls_52 : decode cX9_falls 52 = .ok (.bipush (-2), 2) := of_s1 ok_bipush 254 (by decide +kernel)
theorem dX9_falls_54 : decode cX9_falls 54 = .ok (.goto 20, 3) := of_s2 ok_goto 0 20 (by decide +kernel)
theorem dX9_falls_57 : decode cX9_falls 57 = .ok (.iload_n 1, 1) := of_0 ok_iload_n_1 (by decide +kernel)
theorem dX9_falls_58 : decode cX9_falls 58 = .ok (.ifCond .ne 14, 3) := of_s2 ok_ifCond_ne 0 14 (by decide +kernel)
theorem dX9_falls_61 : decode cX9_falls 61 = .ok (.aload_n 0, 1) := of_0 ok_aload_n_0 (by decide +kernel)
theorem dX9_falls_62 : decode cX9_falls 62 = .ok (.getfield 9, 3) := of_u2 ok_getfield 0 9 (by decide +kernel)
theorem dX9_falls_65 : decode cX9_falls 65 = .ok (.iconst 4, 1) := of_0 ok_iconst_4 (by decide +kernel)
theorem dX9_falls_66 : decode cX9_falls 66 = .ok (.iaload, 1) := of_0 ok_iaload (by decide +kernel)
theorem dX9_falls_67 : decode cX9_falls 67 = .ok (.iconst 1, 1) := of_0 ok_iconst_1 (by decide +kernel)
theorem dX9_falls_68 : decode cX9_falls 68 = .ok (.isub, 1) := of_0 ok_isub (by decide +kernel)
theorem dX9_falls_69 : decode cX9_falls 69 = .ok (.goto 5, 3) := of_s2 ok_goto 0 5 (by decide +kernel)
theorem dX9_falls_72 : decode cX9_falls 72 = .ok (.iload 4, 2) := of_u1 ok_iload (by decide +kernel)
theorem dX9_falls_74 : decode cX9_falls 74 = .ok (.istore_n 2, 1) := of_0 ok_istore_n_2 (by decide +kernel)
theorem dX9_falls_75 : decode cX9_falls 75 = .ok (.iinc 3 1, 3) := of_ii ok_iinc 1 (by decide +kernel)
theorem dX9_falls_78 : decode cX9_falls 78 = .ok (.goto (-50), 3) := of_s2 ok_goto 255 206 (by decide +kernel)
theorem dX9_falls_81 : decode cX9_falls 81 = .ok (.aload_n 0, 1) := of_0 ok_aload_n_0 (by decide +kernel)
theorem dX9_falls_82 : decode cX9_falls 82 = .ok (.invokevirtual 426, 3) := of_u2 ok_invokevirtual 1 170 (by decide +kernel)
theorem dX9_falls_85 : decode cX9_falls 85 = .ok (.iload_n 2, 1) := of_0 ok_iload_n_2 (by decide +kernel)
theorem dX9_falls_86 : decode cX9_falls 86 = .ok (.ireturn, 1) := of_0 ok_ireturn (by decide +kernel)
theorem dX9_felled_0 : decode cX9_felled 0 = .ok (.aload_n 0, 1) := of_0 ok_aload_n_0 (by decide +kernel)
theorem dX9_felled_1 : decode cX9_felled 1 = .ok (.iload_n 1, 1) := of_0 ok_iload_n_1 (by decide +kernel)
theorem dX9_felled_2 : decode cX9_felled 2 = .ok (.iconst 1, 1) := of_0 ok_iconst_1 (by decide +kernel)
theorem dX9_felled_3 : decode cX9_felled 3 = .ok (.invokevirtual 410, 3) := of_u2 ok_invokevirtual 1 154 (by decide +kernel)
theorem dX9_felled_6 : decode cX9_felled 6 = .ok (.ifCond .eq 11, 3) := of_s2 ok_ifCond_eq 0 11 (by decide +kernel)
theorem dX9_felled_9 : decode cX9_felled 9 = .ok (.aload_n 0, 1) := of_0 ok_aload_n_0 (by decide +kernel)
theorem dX9_felled_10 : decode cX9_felled 10 = .ok (.iload_n 1, 1) := of_0 ok_iload_n_1 (by decide +kernel)
theorem dX9_felled_11 : decode cX9_felled 11 = .ok (.invokevirtual 429, 3) := of_u2 ok_invokevirtual 1 173 (by decide +kernel)
theorem dX9_felled_14 : decode cX9_felled 14 = .ok (.goto 4, 3) := of_s2 ok_goto 0 4 (by decide +kernel)
theorem dX9_felled_17 : decode cX9_felled 17 = .ok (.iconst (-1), 1) := of_0 ok_iconst_m1 (by decide +kernel)
theorem dX9_felled_18 : decode cX9_felled 18 = .ok (.ireturn, 1) := of_0 ok_ireturn (by decide +kernel)
theorem dX9_felledBy_0 : decode cX9_felledBy 0 = .ok (.aload_n 0, 1) := of_0 ok_aload_n_0 (by decide +kernel)
theorem dX9_felledBy_1 : decode cX9_felledBy 1 = .ok (.invokevirtual 420, 3) := of_u2 ok_invokevirtual 1 164 (by decide +kernel)
theorem dX9_felledBy_4 : decode cX9_felledBy 4 = .ok (.aload_n 0, 1) := of_0 ok_aload_n_0 (by decide +kernel)
theorem dX9_felledBy_5 : decode cX9_felledBy 5 = .ok (.getfield 16, 3) := of_u2 ok_getfield 0 16 (by decide +kernel)
theorem dX9_felledBy_8 : decode cX9_felledBy 8 = .ok (.iload_n 1, 1) := of_0 ok_iload_n_1 (by decide +kernel)
theorem dX9_felledBy_9 : decode cX9_felledBy 9 = .ok (.iconst 0, 1) := of_0 ok_iconst_0 (by decide +kernel)
theorem dX9_felledBy_10 : decode cX9_felledBy 10 = .ok (.iastore, 1) := of_0 ok_iastore (by decide +kernel)
theorem dX9_felledBy_11 : decode cX9_felledBy 11 = .ok (.aload_n 0, 1) := of_0 ok_aload_n_0 (by decide +kernel)
theorem dX9_felledBy_12 : decode cX9_felledBy 12 = .ok (.invokevirtual 380, 3) := of_u2 ok_invokevirtual 1 124 (by decide +kernel)
theorem dX9_felledBy_15 : decode cX9_felledBy 15 = .ok (.istore_n 2, 1) := of_0 ok_istore_n_2 (by decide +kernel)
theorem dX9_felledBy_16 : decode cX9_felledBy 16 = .ok (.aload_n 0, 1) := of_0 ok_aload_n_0 (by decide +kernel)
theorem dX9_felledBy_17 : decode cX9_felledBy 17 = .ok (.invokevirtual 426, 3) := of_u2 ok_invokevirtual 1 170 (by decide +kernel)
theorem dX9_felledBy_20 : decode cX9_felledBy 20 = .ok (.iload_n 2, 1) := of_0 ok_iload_n_2 (by decide +kernel)
theorem dX9_felledBy_21 : decode cX9_felledBy 21 = .ok (.ireturn, 1) := of_0 ok_ireturn (by decide +kernel)
theorem dX9_heavy_0 : decode cX9_heavy 0 = .ok (.aload_n 0, 1) := of_0 ok_aload_n_0 (by decide +kernel)
theorem dX9_heavy_1 : decode cX9_heavy 1 = .ok (.iload_n 1, 1) := of_0 ok_iload_n_1 (by decide +kernel)
theorem dX9_heavy_2 : decode cX9_heavy 2 = .ok (.invokevirtual 362, 3) := of_u2 ok_invokevirtual 1 106 (by decide +kernel)
theorem dX9_heavy_5 : decode cX9_heavy 5 = .ok (.ifCond .eq 23, 3) := of_s2 ok_ifCond_eq 0 23 (by decide +kernel)
theorem dX9_heavy_8 : decode cX9_heavy 8 = .ok (.aload_n 0, 1) := of_0 ok_aload_n_0 (by decide +kernel)
theorem dX9_heavy_9 : decode cX9_heavy 9 = .ok (.getfield 16, 3) := of_u2 ok_getfield 0 16 (by decide +kernel)
theorem dX9_heavy_12 : decode cX9_heavy 12 = .ok (.iload_n 1, 1) := of_0 ok_iload_n_1 (by decide +kernel)
theorem dX9_heavy_13 : decode cX9_heavy 13 = .ok (.iaload, 1) := of_0 ok_iaload (by decide +kernel)
theorem dX9_heavy_14 : decode cX9_heavy 14 = .ok (.iconst 2, 1) := of_0 ok_iconst_2 (by decide +kernel)
theorem dX9_heavy_15 : decode cX9_heavy 15 = .ok (.if_icmp .eq 13, 3) := of_s2 ok_if_icmp_eq 0 13 (by decide +kernel)
theorem dX9_heavy_18 : decode cX9_heavy 18 = .ok (.iload_n 2, 1) := of_0 ok_iload_n_2 (by decide +kernel)
theorem dX9_heavy_19 : decode cX9_heavy 19 = .ok (.i2l, 1) := of_0 ok_i2l (by decide +kernel)
theorem dX9_heavy_20 : decode cX9_heavy 20 = .ok (.lconst 0, 1) := of_0 ok_lconst_0 (by decide +kernel)
theorem dX9_heavy_21 : decode cX9_heavy 21 = .ok (.lconst 1, 1) := of_0 ok_lconst_1 (by decide +kernel)
theorem dX9_heavy_22 : decode cX9_heavy 22 = .ok (.invokestatic 131, 3) := of_u2 ok_invokestatic 0 131 (by decide +kernel)
theorem dX9_heavy_25 : decode cX9_heavy 25 = .ok (.ifCond .ne 5, 3) := of_s2 ok_ifCond_ne 0 5 (by decide +kernel)
theorem dX9_heavy_28 : decode cX9_heavy 28 = .ok (.iconst (-1), 1) := of_0 ok_iconst_m1 (by decide +kernel)
theorem dX9_heavy_29 : decode cX9_heavy 29 = .ok (.ireturn, 1) := of_0 ok_ireturn (by decide +kernel)
theorem dX9_heavy_30 : decode cX9_heavy 30 = .ok (.aload_n 0, 1) := of_0 ok_aload_n_0 (by decide +kernel)
theorem dX9_heavy_31 : decode cX9_heavy 31 = .ok (.getfield 22, 3) := of_u2 ok_getfield 0 22 (by decide +kernel)
theorem dX9_heavy_34 : decode cX9_heavy 34 = .ok (.iload_n 1, 1) := of_0 ok_iload_n_1 (by decide +kernel)
theorem dX9_heavy_35 : decode cX9_heavy 35 = .ok (.iaload, 1) := of_0 ok_iaload (by decide +kernel)
theorem dX9_heavy_36 : decode cX9_heavy 36 = .ok (.istore_n 3, 1) := of_0 ok_istore_n_3 (by decide +kernel)
theorem dX9_heavy_37 : decode cX9_heavy 37 = .ok (.aload_n 0, 1) := of_0 ok_aload_n_0 (by decide +kernel)
theorem dX9_heavy_38 : decode cX9_heavy 38 = .ok (.iconst 1, 1) := of_0 ok_iconst_1 (by decide +kernel)
theorem dX9_heavy_39 : decode cX9_heavy 39 = .ok (.invokevirtual 341, 3) := of_u2 ok_invokevirtual 1 85 (by decide +kernel)
theorem dX9_heavy_42 : decode cX9_heavy 42 = .ok (.iconst 1, 1) := of_0 ok_iconst_1 (by decide +kernel)
theorem dX9_heavy_43 : decode cX9_heavy 43 = .ok (.iload_n 1, 1) := of_0 ok_iload_n_1 (by decide +kernel)
theorem dX9_heavy_44 : decode cX9_heavy 44 = .ok (.ishl, 1) := of_0 ok_ishl (by decide +kernel)
theorem dX9_heavy_45 : decode cX9_heavy 45 = .ok (.ior, 1) := of_0 ok_ior (by decide +kernel)
theorem dX9_heavy_46 : decode cX9_heavy 46 = .ok (.istore 4, 2) := of_u1 ok_istore (by decide +kernel)
theorem dX9_heavy_48 : decode cX9_heavy 48 = .ok (.iconst 0, 1) := of_0 ok_iconst_0 (by decide +kernel)
theorem dX9_heavy_49 : decode cX9_heavy 49 = .ok (.istore 5, 2) := of_u1 ok_istore (by decide +kernel)
theorem dX9_heavy_51 : decode cX9_heavy 51 = .ok (.bipush (-2), 2) := of_s1 ok_bipush 254 (by decide +kernel)
theorem dX9_heavy_53 : decode cX9_heavy 53 = .ok (.istore 6, 2) := of_u1 ok_istore (by decide +kernel)
theorem dX9_heavy_55 : decode cX9_heavy 55 = .ok (.iconst 1, 1) := of_0 ok_iconst_1 (by decide +kernel)
theorem dX9_heavy_56 : decode cX9_heavy 56 = .ok (.istore 7, 2) := of_u1 ok_istore (by decide +kernel)
theorem dX9_heavy_58 : decode cX9_heavy 58 = .ok (.iload 7, 2) := of_u1 ok_iload (by decide +kernel)
theorem dX9_heavy_60 : decode cX9_heavy 60 = .ok (.bipush 20, 2) := of_s1 ok_bipush 20 (by decide +kernel)
theorem dX9_heavy_62 : decode cX9_heavy 62 = .ok (.if_icmp .gt 43, 3) := of_s2 ok_if_icmp_gt 0 43 (by decide +kernel)
theorem dX9_heavy_65 : decode cX9_heavy 65 = .ok (.aload_n 0, 1) := of_0 ok_aload_n_0 (by decide +kernel)
theorem dX9_heavy_66 : decode cX9_heavy 66 = .ok (.getfield 22, 3) := of_u2 ok_getfield 0 22 (by decide +kernel)
theorem dX9_heavy_69 : decode cX9_heavy 69 = .ok (.iload_n 1, 1) := of_0 ok_iload_n_1 (by decide +kernel)
theorem dX9_heavy_70 : decode cX9_heavy 70 = .ok (.iload 7, 2) := of_u1 ok_iload (by decide +kernel)
theorem dX9_heavy_72 : decode cX9_heavy 72 = .ok (.iastore, 1) := of_0 ok_iastore (by decide +kernel)
theorem dX9_heavy_73 : decode cX9_heavy 73 = .ok (.aload_n 0, 1) := of_0 ok_aload_n_0 (by decide +kernel)
theorem dX9_heavy_74 : decode cX9_heavy 74 = .ok (.iload 4, 2) := of_u1 ok_iload (by decide +kernel)
theorem dX9_heavy_76 : decode cX9_heavy 76 = .ok (.invokevirtual 367, 3) := of_u2 ok_invokevirtual 1 111 (by decide +kernel)
theorem dX9_heavy_79 : decode cX9_heavy 79 = .ok (.ifCond .ne 20, 3) := of_s2 ok_ifCond_ne 0 20 (by decide +kernel)
theorem dX9_heavy_82 : decode cX9_heavy 82 = .ok (.iload 5, 2) := of_u1 ok_iload (by decide +kernel)
theorem dX9_heavy_84 : decode cX9_heavy 84 = .ok (.ifCond .ne 8, 3) := of_s2 ok_ifCond_ne 0 8 (by decide +kernel)
theorem dX9_heavy_87 : decode cX9_heavy 87 = .ok (.iload 7, 2) := of_u1 ok_iload (by decide +kernel)
theorem dX9_heavy_89 : decode cX9_heavy 89 = .ok (.goto 5, 3) := of_s2 ok_goto 0 5 (by decide +kernel)
theorem dX9_heavy_92 : decode cX9_heavy 92 = .ok (.iload 6, 2) := of_u1 ok_iload (by decide +kernel)
theorem dX9_heavy_94 : decode cX9_heavy 94 = .ok (.istore 6, 2) := of_u1 ok_istore (by decide +kernel)
theorem dX9_heavy_96 : decode cX9_heavy 96 = .ok (.iinc 5 1, 3) := of_ii ok_iinc 1 (by decide +kernel)
theorem dX9_heavy_99 : decode cX9_heavy 99 = .ok (.iinc 7 1, 3) := of_ii ok_iinc 1 (by decide +kernel)
theorem dX9_heavy_102 : decode cX9_heavy 102 = .ok (.goto (-44), 3) := of_s2 ok_goto 255 212 (by decide +kernel)
theorem dX9_heavy_105 : decode cX9_heavy 105 = .ok (.aload_n 0, 1) := of_0 ok_aload_n_0 (by decide +kernel)
theorem dX9_heavy_106 : decode cX9_heavy 106 = .ok (.getfield 22, 3) := of_u2 ok_getfield 0 22 (by decide +kernel)
theorem dX9_heavy_109 : decode cX9_heavy 109 = .ok (.iload_n 1, 1) := of_0 ok_iload_n_1 (by decide +kernel)
theorem dX9_heavy_110 : decode cX9_heavy 110 = .ok (.iload_n 3, 1) := of_0 ok_iload_n_3 (by decide +kernel)
theorem dX9_heavy_111 : decode cX9_heavy 111 = .ok (.iastore, 1) := of_0 ok_iastore (by decide +kernel)
theorem dX9_heavy_112 : decode cX9_heavy 112 = .ok (.iload_n 2, 1) := of_0 ok_iload_n_2 (by decide +kernel)
theorem dX9_heavy_113 : decode cX9_heavy 113 = .ok (.ifCond .ne 8, 3) := of_s2 ok_ifCond_ne 0 8 (by decide +kernel)
theorem dX9_heavy_116 : decode cX9_heavy 116 = .ok (.iload 5, 2) := of_u1 ok_iload (by decide +kernel)
theorem dX9_heavy_118 : decode cX9_heavy 118 = .ok (.goto 5, 3) := of_s2 ok_goto 0 5 (by decide +kernel)
theorem dX9_heavy_121 : decode cX9_heavy 121 = .ok (.iload 6, 2) := of_u1 ok_iload (by decide +kernel)
theorem dX9_heavy_123 : decode cX9_heavy 123 = .ok (.ireturn, 1) := of_0 ok_ireturn (by decide +kernel)
theorem dX9_help_0 : decode cX9_help 0 = .ok (.aload_n 0, 1) := of_0 ok_aload_n_0 (by decide +kernel)
theorem dX9_help_1 : decode cX9_help 1 = .ok (.iload_n 1, 1) := of_0 ok_iload_n_1 (by decide +kernel)
theorem dX9_help_2 : decode cX9_help 2 = .ok (.iconst 2, 1) := of_0 ok_iconst_2 (by decide +kernel)
theorem dX9_help_3 : decode cX9_help 3 = .ok (.invokevirtual 410, 3) := of_u2 ok_invokevirtual 1 154 (by decide +kernel)
theorem dX9_help_6 : decode cX9_help 6 = .ok (.ifCond .ne 5, 3) := of_s2 ok_ifCond_ne 0 5 (by decide +kernel)
theorem dX9_help_9 : decode cX9_help 9 = .ok (.iconst (-1), 1) := of_0 ok_iconst_m1 (by decide +kernel)
theorem dX9_help_10 : decode cX9_help 10 = .ok (.ireturn, 1) := of_0 ok_ireturn (by decide +kernel)
theorem dX9_help_11 : decode cX9_help 11 = .ok (.aload_n 0, 1) := of_0 ok_aload_n_0 (by decide +kernel)
theorem dX9_help_12 : decode cX9_help 12 = .ok (.invokevirtual 407, 3) := of_u2 ok_invokevirtual 1 151 (by decide +kernel)
theorem dX9_help_15 : decode cX9_help 15 = .ok (.aload_n 0, 1) := of_0 ok_aload_n_0 (by decide +kernel)
theorem dX9_help_16 : decode cX9_help 16 = .ok (.getfield 16, 3) := of_u2 ok_getfield 0 16 (by decide +kernel)
theorem dX9_help_19 : decode cX9_help 19 = .ok (.iload_n 1, 1) := of_0 ok_iload_n_1 (by decide +kernel)
theorem dX9_help_20 : decode cX9_help 20 = .ok (.iconst 0, 1) := of_0 ok_iconst_0 (by decide +kernel)
theorem dX9_help_21 : decode cX9_help 21 = .ok (.iastore, 1) := of_0 ok_iastore (by decide +kernel)
theorem dX9_help_22 : decode cX9_help 22 = .ok (.aload_n 0, 1) := of_0 ok_aload_n_0 (by decide +kernel)
theorem dX9_help_23 : decode cX9_help 23 = .ok (.iconst 2, 1) := of_0 ok_iconst_2 (by decide +kernel)
theorem dX9_help_24 : decode cX9_help 24 = .ok (.invokevirtual 341, 3) := of_u2 ok_invokevirtual 1 85 (by decide +kernel)
theorem dX9_help_27 : decode cX9_help 27 = .ok (.invokestatic 370, 3) := of_u2 ok_invokestatic 1 114 (by decide +kernel)
theorem dX9_help_30 : decode cX9_help 30 = .ok (.ireturn, 1) := of_0 ok_ireturn (by decide +kernel)
theorem dX9_isSo_0 : decode cX9_isSo 0 = .ok (.aload_n 0, 1) := of_0 ok_aload_n_0 (by decide +kernel)
theorem dX9_isSo_1 : decode cX9_isSo 1 = .ok (.iload_n 1, 1) := of_0 ok_iload_n_1 (by decide +kernel)
theorem dX9_isSo_2 : decode cX9_isSo 2 = .ok (.invokevirtual 362, 3) := of_u2 ok_invokevirtual 1 106 (by decide +kernel)
theorem dX9_isSo_5 : decode cX9_isSo 5 = .ok (.ifCond .eq 17, 3) := of_s2 ok_ifCond_eq 0 17 (by decide +kernel)
theorem dX9_isSo_8 : decode cX9_isSo 8 = .ok (.aload_n 0, 1) := of_0 ok_aload_n_0 (by decide +kernel)
theorem dX9_isSo_9 : decode cX9_isSo 9 = .ok (.getfield 16, 3) := of_u2 ok_getfield 0 16 (by decide +kernel)
theorem dX9_isSo_12 : decode cX9_isSo 12 = .ok (.iload_n 1, 1) := of_0 ok_iload_n_1 (by decide +kernel)
theorem dX9_isSo_13 : decode cX9_isSo 13 = .ok (.iaload, 1) := of_0 ok_iaload (by decide +kernel)
theorem dX9_isSo_14 : decode cX9_isSo 14 = .ok (.iload_n 2, 1) := of_0 ok_iload_n_2 (by decide +kernel)
theorem dX9_isSo_15 : decode cX9_isSo 15 = .ok (.if_icmp .ne 7, 3) := of_s2 ok_if_icmp_ne 0 7 (by decide +kernel)
theorem dX9_isSo_18 : decode cX9_isSo 18 = .ok (.iconst 1, 1) := of_0 ok_iconst_1 (by decide +kernel)
theorem dX9_isSo_19 : decode cX9_isSo 19 = .ok (.goto 4, 3) := of_s2 ok_goto 0 4 (by decide +kernel)
theorem dX9_isSo_22 : decode cX9_isSo 22 = .ok (.iconst 0, 1) := of_0 ok_iconst_0 (by decide +kernel)
theorem dX9_isSo_23 : decode cX9_isSo 23 = .ok (.ireturn, 1) := of_0 ok_ireturn (by decide +kernel)
theorem dX9_keepsAct_0 : decode cX9_keepsAct 0 = .ok (.aload_n 0, 1) := of_0 ok_aload_n_0 (by decide +kernel)
theorem dX9_keepsAct_1 : decode cX9_keepsAct 1 = .ok (.getfield 299, 3) := of_u2 ok_getfield 1 43 (by decide +kernel)
theorem dX9_keepsAct_4 : decode cX9_keepsAct 4 = .ok (.bipush 20, 2) := of_s1 ok_bipush 20 (by decide +kernel)
theorem dX9_keepsAct_6 : decode cX9_keepsAct 6 = .ok (.if_icmp .ne 44, 3) := of_s2 ok_if_icmp_ne 0 44 (by decide +kernel)
theorem dX9_keepsAct_9 : decode cX9_keepsAct 9 = .ok (.bipush 13, 2) := of_s1 ok_bipush 13 (by decide +kernel)
theorem dX9_keepsAct_11 : decode cX9_keepsAct 11 = .ok (.istore_n 1, 1) := of_0 ok_istore_n_1 (by decide +kernel)
theorem dX9_keepsAct_12 : decode cX9_keepsAct 12 = .ok (.iload_n 1, 1) := of_0 ok_iload_n_1 (by decide +kernel)
theorem dX9_keepsAct_13 : decode cX9_keepsAct 13 = .ok (.sipush 260, 3) := of_s2 ok_sipush 1 4 (by decide +kernel)
theorem dX9_keepsAct_16 : decode cX9_keepsAct 16 = .ok (.if_icmp .ge 24, 3) := of_s2 ok_if_icmp_ge 0 24 (by decide +kernel)
theorem dX9_keepsAct_19 : decode cX9_keepsAct 19 = .ok (.aload_n 0, 1) := of_0 ok_aload_n_0 (by decide +kernel)
theorem dX9_keepsAct_20 : decode cX9_keepsAct 20 = .ok (.getfield 100, 3) := of_u2 ok_getfield 0 100 (by decide +kernel)
theorem dX9_keepsAct_23 : decode cX9_keepsAct 23 = .ok (.iload_n 1, 1) := of_0 ok_iload_n_1 (by decide +kernel)
theorem dX9_keepsAct_24 : decode cX9_keepsAct 24 = .ok (.bipush 13, 2) := of_s1 ok_bipush 13 (by decide +kernel)
theorem dX9_keepsAct_26 : decode cX9_keepsAct 26 = .ok (.isub, 1) := of_0 ok_isub (by decide +kernel)
theorem dX9_keepsAct_27 : decode cX9_keepsAct 27 = .ok (.aload_n 0, 1) := of_0 ok_aload_n_0 (by decide +kernel)
theorem dX9_keepsAct_28 : decode cX9_keepsAct 28 = .ok (.getfield 100, 3) := of_u2 ok_getfield 0 100 (by decide +kernel)
theorem dX9_keepsAct_31 : decode cX9_keepsAct 31 = .ok (.iload_n 1, 1) := of_0 ok_iload_n_1 (by decide +kernel)
theorem dX9_keepsAct_32 : decode cX9_keepsAct 32 = .ok (.iaload, 1) := of_0 ok_iaload (by decide +kernel)
theorem dX9_keepsAct_33 : decode cX9_keepsAct 33 = .ok (.iastore, 1) := of_0 ok_iastore (by decide +kernel)
theorem dX9_keepsAct_34 : decode cX9_keepsAct 34 = .ok (.iinc 1 1, 3) := of_ii ok_iinc 1 (by decide +kernel)
theorem dX9_keepsAct_37 : decode cX9_keepsAct 37 = .ok (.goto (-25), 3) := of_s2 ok_goto 255 231 (by decide +kernel)
theorem dX9_keepsAct_40 : decode cX9_keepsAct 40 = .ok (.aload_n 0, 1) := of_0 ok_aload_n_0 (by decide +kernel)
theorem dX9_keepsAct_41 : decode cX9_keepsAct 41 = .ok (.dup, 1) := of_0 ok_dup (by decide +kernel)
theorem dX9_keepsAct_42 : decode cX9_keepsAct 42 = .ok (.getfield 299, 3) := of_u2 ok_getfield 1 43 (by decide +kernel)
theorem dX9_keepsAct_45 : decode cX9_keepsAct 45 = .ok (.iconst 1, 1) := of_0 ok_iconst_1 (by decide +kernel)
theorem dX9_keepsAct_46 : decode cX9_keepsAct 46 = .ok (.isub, 1) := of_0 ok_isub (by decide +kernel)
theorem dX9_keepsAct_47 : decode cX9_keepsAct 47 = .ok (.putfield 299, 3) := of_u2 ok_putfield 1 43 (by decide +kernel)
theorem dX9_keepsAct_50 : decode cX9_keepsAct 50 = .ok (.aload_n 0, 1) := of_0 ok_aload_n_0 (by decide +kernel)
theorem dX9_keepsAct_51 : decode cX9_keepsAct 51 = .ok (.aload_n 0, 1) := of_0 ok_aload_n_0 (by decide +kernel)
theorem dX9_keepsAct_52 : decode cX9_keepsAct 52 = .ok (.getfield 299, 3) := of_u2 ok_getfield 1 43 (by decide +kernel)
theorem dX9_keepsAct_55 : decode cX9_keepsAct 55 = .ok (.iconst 0, 1) := of_0 ok_iconst_0 (by decide +kernel)
theorem dX9_keepsAct_56 : decode cX9_keepsAct 56 = .ok (.invokevirtual 400, 3) := of_u2 ok_invokevirtual 1 144 (by decide +kernel)
theorem dX9_keepsAct_59 : decode cX9_keepsAct 59 = .ok (.aload_n 0, 1) := of_0 ok_aload_n_0 (by decide +kernel)
theorem dX9_keepsAct_60 : decode cX9_keepsAct 60 = .ok (.dup, 1) := of_0 ok_dup (by decide +kernel)
theorem dX9_keepsAct_61 : decode cX9_keepsAct 61 = .ok (.getfield 299, 3) := of_u2 ok_getfield 1 43 (by decide +kernel)
theorem dX9_keepsAct_64 : decode cX9_keepsAct 64 = .ok (.iconst 1, 1) := of_0 ok_iconst_1 (by decide +kernel)
theorem dX9_keepsAct_65 : decode cX9_keepsAct 65 = .ok (.iadd, 1) := of_0 ok_iadd (by decide +kernel)
theorem dX9_keepsAct_66 : decode cX9_keepsAct 66 = .ok (.putfield 299, 3) := of_u2 ok_putfield 1 43 (by decide +kernel)
theorem dX9_keepsAct_69 : decode cX9_keepsAct 69 = .ok (.return_, 1) := of_0 ok_return_ (by decide +kernel)
theorem dX9_keepsAll_0 : decode cX9_keepsAll 0 = .ok (.aload_n 0, 1) := of_0 ok_aload_n_0 (by decide +kernel)
theorem dX9_keepsAll_1 : decode cX9_keepsAll 1 = .ok (.iconst 4, 1) := of_0 ok_iconst_4 (by decide +kernel)
theorem dX9_keepsAll_2 : decode cX9_keepsAll 2 = .ok (.iconst 0, 1) := of_0 ok_iconst_0 (by decide +kernel)
theorem dX9_keepsAll_3 : decode cX9_keepsAll 3 = .ok (.invokevirtual 415, 3) := of_u2 ok_invokevirtual 1 159 (by decide +kernel)
theorem dX9_keepsAll_6 : decode cX9_keepsAll 6 = .ok (.return_, 1) := of_0 ok_return_ (by decide +kernel)
theorem dX9_laysBack_0 : decode cX9_laysBack 0 = .ok (.aload_n 0, 1) := of_0 ok_aload_n_0 (by decide +kernel)
theorem dX9_laysBack_1 : decode cX9_laysBack 1 = .ok (.iconst 4, 1) := of_0 ok_iconst_4 (by decide +kernel)
theorem dX9_laysBack_2 : decode cX9_laysBack 2 = .ok (.iconst 1, 1) := of_0 ok_iconst_1 (by decide +kernel)
theorem dX9_laysBack_3 : decode cX9_laysBack 3 = .ok (.invokevirtual 415, 3) := of_u2 ok_invokevirtual 1 159 (by decide +kernel)
theorem dX9_laysBack_6 : decode cX9_laysBack 6 = .ok (.return_, 1) := of_0 ok_return_ (by decide +kernel)
theorem dX9_let_0 : decode cX9_let 0 = .ok (.aload_n 0, 1) := of_0 ok_aload_n_0 (by decide +kernel)
theorem dX9_let_1 : decode cX9_let 1 = .ok (.iload_n 1, 1) := of_0 ok_iload_n_1 (by decide +kernel)
theorem dX9_let_2 : decode cX9_let 2 = .ok (.invokevirtual 347, 3) := of_u2 ok_invokevirtual 1 91 (by decide +kernel)
theorem dX9_let_5 : decode cX9_let 5 = .ok (.ifCond .eq 25, 3) := of_s2 ok_ifCond_eq 0 25 (by decide +kernel)
theorem dX9_let_8 : decode cX9_let 8 = .ok (.iload_n 2, 1) := of_0 ok_iload_n_2 (by decide +kernel)
theorem dX9_let_9 : decode cX9_let 9 = .ok (.i2l, 1) := of_0 ok_i2l (by decide +kernel)
theorem dX9_let_10 : decode cX9_let 10 = .ok (.lconst 0, 1) := of_0 ok_lconst_0 (by decide +kernel)
theorem dX9_let_11 : decode cX9_let 11 = .ok (.ldc2_w 413, 3) := of_u2 ok_ldc2_w 1 157 (by decide +kernel)
theorem dX9_let_14 : decode cX9_let 14 = .ok (.invokestatic 131, 3) := of_u2 ok_invokestatic 0 131 (by decide +kernel)
theorem dX9_let_17 : decode cX9_let 17 = .ok (.ifCond .eq 13, 3) := of_s2 ok_ifCond_eq 0 13 (by decide +kernel)
theorem dX9_let_20 : decode cX9_let 20 = .ok (.aload_n 0, 1) := of_0 ok_aload_n_0 (by decide +kernel)
theorem dX9_let_21 : decode cX9_let 21 = .ok (.getfield 13, 3) := of_u2 ok_getfield 0 13 (by decide +kernel)
theorem dX9_let_24 : decode cX9_let 24 = .ok (.iload_n 1, 1) := of_0 ok_iload_n_1 (by decide +kernel)
theorem dX9_let_25 : decode cX9_let 25 = .ok (.iaload, 1) := of_0 ok_iaload (by decide +kernel)
theorem dX9_let_26 : decode cX9_let 26 = .ok (.iload_n 2, 1) := of_0 ok_iload_n_2 (by decide +kernel)
theorem dX9_let_27 : decode cX9_let 27 = .ok (.if_icmp .ne 5, 3) := of_s2 ok_if_icmp_ne 0 5 (by decide +kernel)
theorem dX9_let_30 : decode cX9_let 30 = .ok (.iconst (-1), 1) := of_0 ok_iconst_m1 (by decide +kernel)
theorem dX9_let_31 : decode cX9_let 31 = .ok (.ireturn, 1) := of_0 ok_ireturn (by decide +kernel)
theorem dX9_let_32 : decode cX9_let 32 = .ok (.aload_n 0, 1) := of_0 ok_aload_n_0 (by decide +kernel)
theorem dX9_let_33 : decode cX9_let 33 = .ok (.invokevirtual 407, 3) := of_u2 ok_invokevirtual 1 151 (by decide +kernel)
theorem dX9_let_36 : decode cX9_let 36 = .ok (.aload_n 0, 1) := of_0 ok_aload_n_0 (by decide +kernel)
theorem dX9_let_37 : decode cX9_let 37 = .ok (.getfield 13, 3) := of_u2 ok_getfield 0 13 (by decide +kernel)
theorem dX9_let_40 : decode cX9_let 40 = .ok (.iload_n 1, 1) := of_0 ok_iload_n_1 (by decide +kernel)
theorem dX9_let_41 : decode cX9_let 41 = .ok (.iload_n 2, 1) := of_0 ok_iload_n_2 (by decide +kernel)
theorem dX9_let_42 : decode cX9_let 42 = .ok (.iastore, 1) := of_0 ok_iastore (by decide +kernel)
theorem dX9_let_43 : decode cX9_let 43 = .ok (.aload_n 0, 1) := of_0 ok_aload_n_0 (by decide +kernel)
theorem dX9_let_44 : decode cX9_let 44 = .ok (.invokevirtual 380, 3) := of_u2 ok_invokevirtual 1 124 (by decide +kernel)
theorem dX9_let_47 : decode cX9_let 47 = .ok (.ireturn, 1) := of_0 ok_ireturn (by decide +kernel)
theorem dX9_minute_0 : decode cX9_minute 0 = .ok (.aload_n 0, 1) := of_0 ok_aload_n_0 (by decide +kernel)
theorem dX9_minute_1 : decode cX9_minute 1 = .ok (.invokevirtual 404, 3) := of_u2 ok_invokevirtual 1 148 (by decide +kernel)
theorem dX9_minute_4 : decode cX9_minute 4 = .ok (.ifCond .eq 15, 3) := of_s2 ok_ifCond_eq 0 15 (by decide +kernel)
theorem dX9_minute_7 : decode cX9_minute 7 = .ok (.aload_n 0, 1) := of_0 ok_aload_n_0 (by decide +kernel)
theorem dX9_minute_8 : decode cX9_minute 8 = .ok (.getfield 9, 3) := of_u2 ok_getfield 0 9 (by decide +kernel)
theorem dX9_minute_11 : decode cX9_minute 11 = .ok (.iconst 4, 1) := of_0 ok_iconst_4 (by decide +kernel)
theorem dX9_minute_12 : decode cX9_minute 12 = .ok (.iaload, 1) := of_0 ok_iaload (by decide +kernel)
theorem dX9_minute_13 : decode cX9_minute 13 = .ok (.sipush 999, 3) := of_s2 ok_sipush 3 231 (by decide +kernel)
theorem dX9_minute_16 : decode cX9_minute 16 = .ok (.if_icmp .ne 5, 3) := of_s2 ok_if_icmp_ne 0 5 (by decide +kernel)
theorem dX9_minute_19 : decode cX9_minute 19 = .ok (.iconst (-1), 1) := of_0 ok_iconst_m1 (by decide +kernel)
theorem dX9_minute_20 : decode cX9_minute 20 = .ok (.ireturn, 1) := of_0 ok_ireturn (by decide +kernel)
theorem dX9_minute_21 : decode cX9_minute 21 = .ok (.aload_n 0, 1) := of_0 ok_aload_n_0 (by decide +kernel)
theorem dX9_minute_22 : decode cX9_minute 22 = .ok (.invokevirtual 407, 3) := of_u2 ok_invokevirtual 1 151 (by decide +kernel)
theorem dX9_minute_25 : decode cX9_minute 25 = .ok (.aload_n 0, 1) := of_0 ok_aload_n_0 (by decide +kernel)
theorem dX9_minute_26 : decode cX9_minute 26 = .ok (.invokevirtual 383, 3) := of_u2 ok_invokevirtual 1 127 (by decide +kernel)
theorem dX9_minute_29 : decode cX9_minute 29 = .ok (.ireturn, 1) := of_0 ok_ireturn (by decide +kernel)
theorem dX9_most_0 : decode cX9_most 0 = .ok (.aload_n 0, 1) := of_0 ok_aload_n_0 (by decide +kernel)
theorem dX9_most_1 : decode cX9_most 1 = .ok (.iload_n 1, 1) := of_0 ok_iload_n_1 (by decide +kernel)
theorem dX9_most_2 : decode cX9_most 2 = .ok (.invokevirtual 347, 3) := of_u2 ok_invokevirtual 1 91 (by decide +kernel)
theorem dX9_most_5 : decode cX9_most 5 = .ok (.ifCond .ne 5, 3) := of_s2 ok_ifCond_ne 0 5 (by decide +kernel)
theorem dX9_most_8 : decode cX9_most 8 = .ok (.iconst (-1), 1) := of_0 ok_iconst_m1 (by decide +kernel)
theorem dX9_most_9 : decode cX9_most 9 = .ok (.ireturn, 1) := of_0 ok_ireturn (by decide +kernel)
theorem dX9_most_10 : decode cX9_most 10 = .ok (.aload_n 0, 1) := of_0 ok_aload_n_0 (by decide +kernel)
theorem dX9_most_11 : decode cX9_most 11 = .ok (.getfield 13, 3) := of_u2 ok_getfield 0 13 (by decide +kernel)
theorem dX9_most_14 : decode cX9_most 14 = .ok (.iload_n 1, 1) := of_0 ok_iload_n_1 (by decide +kernel)
theorem dX9_most_15 : decode cX9_most 15 = .ok (.iaload, 1) := of_0 ok_iaload (by decide +kernel)
theorem dX9_most_16 : decode cX9_most 16 = .ok (.istore_n 2, 1) := of_0 ok_istore_n_2 (by decide +kernel)
theorem dX9_most_17 : decode cX9_most 17 = .ok (.aload_n 0, 1) := of_0 ok_aload_n_0 (by decide +kernel)
theorem dX9_most_18 : decode cX9_most 18 = .ok (.iconst 1, 1) := of_0 ok_iconst_1 (by decide +kernel)
theorem dX9_most_19 : decode cX9_most 19 = .ok (.invokevirtual 341, 3) := of_u2 ok_invokevirtual 1 85 (by decide +kernel)
theorem dX9_most_22 : decode cX9_most 22 = .ok (.istore_n 3, 1) := of_0 ok_istore_n_3 (by decide +kernel)
theorem dX9_most_23 : decode cX9_most 23 = .ok (.bipush (-2), 2) := of_s1 ok_bipush 254 (by decide +kernel)
theorem dX9_most_25 : decode cX9_most 25 = .ok (.istore 4, 2) := of_u1 ok_istore (by decide +kernel)
theorem dX9_most_27 : decode cX9_most 27 = .ok (.iconst 0, 1) := of_0 ok_iconst_0 (by decide +kernel)
theorem dX9_most_28 : decode cX9_most 28 = .ok (.istore 5, 2) := of_u1 ok_istore (by decide +kernel)
theorem dX9_most_30 : decode cX9_most 30 = .ok (.iload 5, 2) := of_u1 ok_iload (by decide +kernel)
theorem dX9_most_32 : decode cX9_most 32 = .ok (.bipush 99, 2) := of_s1 ok_bipush 99 (by decide +kernel)
theorem dX9_most_34 : decode cX9_most 34 = .ok (.if_icmp .gt 34, 3) := of_s2 ok_if_icmp_gt 0 34 (by decide +kernel)
theorem dX9_most_37 : decode cX9_most 37 = .ok (.aload_n 0, 1) := of_0 ok_aload_n_0 (by decide +kernel)
theorem dX9_most_38 : decode cX9_most 38 = .ok (.getfield 13, 3) := of_u2 ok_getfield 0 13 (by decide +kernel)
theorem dX9_most_41 : decode cX9_most 41 = .ok (.iload_n 1, 1) := of_0 ok_iload_n_1 (by decide +kernel)
theorem dX9_most_42 : decode cX9_most 42 = .ok (.iload 5, 2) := of_u1 ok_iload (by decide +kernel)
theorem dX9_most_44 : decode cX9_most 44 = .ok (.iastore, 1) := of_0 ok_iastore (by decide +kernel)
theorem dX9_most_45 : decode cX9_most 45 = .ok (.aload_n 0, 1) := of_0 ok_aload_n_0 (by decide +kernel)
theorem dX9_most_46 : decode cX9_most 46 = .ok (.iload_n 3, 1) := of_0 ok_iload_n_3 (by decide +kernel)
theorem dX9_most_47 : decode cX9_most 47 = .ok (.invokevirtual 367, 3) := of_u2 ok_invokevirtual 1 111 (by decide +kernel)
theorem dX9_most_50 : decode cX9_most 50 = .ok (.ifCond .ne 8, 3) := of_s2 ok_ifCond_ne 0 8 (by decide +kernel)
theorem dX9_most_53 : decode cX9_most 53 = .ok (.iload 5, 2) := of_u1 ok_iload (by decide +kernel)
theorem dX9_most_55 : decode cX9_most 55 = .ok (.goto 5, 3) := of_s2 ok_goto 0 5 (by decide +kernel)
theorem dX9_most_58 : decode cX9_most 58 = .ok (.iload 4, 2) := of_u1 ok_iload (by decide +kernel)
theorem dX9_most_60 : decode cX9_most 60 = .ok (.istore 4, 2) := of_u1 ok_istore (by decide +kernel)
theorem dX9_most_62 : decode cX9_most 62 = .ok (.iinc 5 1, 3) := of_ii ok_iinc 1 (by decide +kernel)
theorem dX9_most_65 : decode cX9_most 65 = .ok (.goto (-35), 3) := of_s2 ok_goto 255 221 (by decide +kernel)
theorem dX9_most_68 : decode cX9_most 68 = .ok (.aload_n 0, 1) := of_0 ok_aload_n_0 (by decide +kernel)
theorem dX9_most_69 : decode cX9_most 69 = .ok (.getfield 13, 3) := of_u2 ok_getfield 0 13 (by decide +kernel)
theorem dX9_most_72 : decode cX9_most 72 = .ok (.iload_n 1, 1) := of_0 ok_iload_n_1 (by decide +kernel)
theorem dX9_most_73 : decode cX9_most 73 = .ok (.iload_n 2, 1) := of_0 ok_iload_n_2 (by decide +kernel)
theorem dX9_most_74 : decode cX9_most 74 = .ok (.iastore, 1) := of_0 ok_iastore (by decide +kernel)
theorem dX9_most_75 : decode cX9_most 75 = .ok (.iload 4, 2) := of_u1 ok_iload (by decide +kernel)
theorem dX9_most_77 : decode cX9_most 77 = .ok (.ireturn, 1) := of_0 ok_ireturn (by decide +kernel)
theorem dX9_moves_0 : decode cX9_moves 0 = .ok (.aload_n 0, 1) := of_0 ok_aload_n_0 (by decide +kernel)
theorem dX9_moves_1 : decode cX9_moves 1 = .ok (.getfield 386, 3) := of_u2 ok_getfield 1 130 (by decide +kernel)
theorem dX9_moves_4 : decode cX9_moves 4 = .ok (.ifCond .eq 15, 3) := of_s2 ok_ifCond_eq 0 15 (by decide +kernel)
theorem dX9_moves_7 : decode cX9_moves 7 = .ok (.aload_n 0, 1) := of_0 ok_aload_n_0 (by decide +kernel)
theorem dX9_moves_8 : decode cX9_moves 8 = .ok (.getfield 100, 3) := of_u2 ok_getfield 0 100 (by decide +kernel)
theorem dX9_moves_11 : decode cX9_moves 11 = .ok (.aload_n 0, 1) := of_0 ok_aload_n_0 (by decide +kernel)
theorem dX9_moves_12 : decode cX9_moves 12 = .ok (.getfield 390, 3) := of_u2 ok_getfield 1 134 (by decide +kernel)
theorem dX9_moves_15 : decode cX9_moves 15 = .ok (.iaload, 1) := of_0 ok_iaload (by decide +kernel)
theorem dX9_moves_16 : decode cX9_moves 16 = .ok (.goto 4, 3) := of_s2 ok_goto 0 4 (by decide +kernel)
theorem dX9_moves_19 : decode cX9_moves 19 = .ok (.iload_n 1, 1) := of_0 ok_iload_n_1 (by decide +kernel)
theorem dX9_moves_20 : decode cX9_moves 20 = .ok (.istore_n 2, 1) := of_0 ok_istore_n_2 (by decide +kernel)
theorem dX9_moves_21 : decode cX9_moves 21 = .ok (.aload_n 0, 1) := of_0 ok_aload_n_0 (by decide +kernel)
theorem dX9_moves_22 : decode cX9_moves 22 = .ok (.getfield 100, 3) := of_u2 ok_getfield 0 100 (by decide +kernel)
theorem dX9_moves_25 : decode cX9_moves 25 = .ok (.aload_n 0, 1) := of_0 ok_aload_n_0 (by decide +kernel)
theorem dX9_moves_26 : decode cX9_moves 26 = .ok (.getfield 390, 3) := of_u2 ok_getfield 1 134 (by decide +kernel)
theorem dX9_moves_29 : decode cX9_moves 29 = .ok (.iload_n 2, 1) := of_0 ok_iload_n_2 (by decide +kernel)
theorem dX9_moves_30 : decode cX9_moves 30 = .ok (.iastore, 1) := of_0 ok_iastore (by decide +kernel)
theorem dX9_moves_31 : decode cX9_moves 31 = .ok (.aload_n 0, 1) := of_0 ok_aload_n_0 (by decide +kernel)
theorem dX9_moves_32 : decode cX9_moves 32 = .ok (.dup, 1) := of_0 ok_dup (by decide +kernel)
theorem dX9_moves_33 : decode cX9_moves 33 = .ok (.getfield 390, 3) := of_u2 ok_getfield 1 134 (by decide +kernel)
theorem dX9_moves_36 : decode cX9_moves 36 = .ok (.iconst 1, 1) := of_0 ok_iconst_1 (by decide +kernel)
theorem dX9_moves_37 : decode cX9_moves 37 = .ok (.iadd, 1) := of_0 ok_iadd (by decide +kernel)
theorem dX9_moves_38 : decode cX9_moves 38 = .ok (.putfield 390, 3) := of_u2 ok_putfield 1 134 (by decide +kernel)
theorem dX9_moves_41 : decode cX9_moves 41 = .ok (.iload_n 2, 1) := of_0 ok_iload_n_2 (by decide +kernel)
theorem dX9_moves_42 : decode cX9_moves 42 = .ok (.ireturn, 1) := of_0 ok_ireturn (by decide +kernel)
theorem dX9_movesAll_0 : decode cX9_movesAll 0 = .ok (.aload_n 0, 1) := of_0 ok_aload_n_0 (by decide +kernel)
theorem dX9_movesAll_1 : decode cX9_movesAll 1 = .ok (.bipush 13, 2) := of_s1 ok_bipush 13 (by decide +kernel)
theorem dX9_movesAll_3 : decode cX9_movesAll 3 = .ok (.iload_n 1, 1) := of_0 ok_iload_n_1 (by decide +kernel)
theorem dX9_movesAll_4 : decode cX9_movesAll 4 = .ok (.imul, 1) := of_0 ok_imul (by decide +kernel)
theorem dX9_movesAll_5 : decode cX9_movesAll 5 = .ok (.putfield 390, 3) := of_u2 ok_putfield 1 134 (by decide +kernel)
theorem dX9_movesAll_8 : decode cX9_movesAll 8 = .ok (.aload_n 0, 1) := of_0 ok_aload_n_0 (by decide +kernel)
theorem dX9_movesAll_9 : decode cX9_movesAll 9 = .ok (.iload_n 2, 1) := of_0 ok_iload_n_2 (by decide +kernel)
theorem dX9_movesAll_10 : decode cX9_movesAll 10 = .ok (.putfield 386, 3) := of_u2 ok_putfield 1 130 (by decide +kernel)
theorem dX9_movesAll_13 : decode cX9_movesAll 13 = .ok (.aload_n 0, 1) := of_0 ok_aload_n_0 (by decide +kernel)
theorem dX9_movesAll_14 : decode cX9_movesAll 14 = .ok (.getfield 9, 3) := of_u2 ok_getfield 0 9 (by decide +kernel)
theorem dX9_movesAll_17 : decode cX9_movesAll 17 = .ok (.iconst 4, 1) := of_0 ok_iconst_4 (by decide +kernel)
theorem dX9_movesAll_18 : decode cX9_movesAll 18 = .ok (.aload_n 0, 1) := of_0 ok_aload_n_0 (by decide +kernel)
theorem dX9_movesAll_19 : decode cX9_movesAll 19 = .ok (.aload_n 0, 1) := of_0 ok_aload_n_0 (by decide +kernel)
theorem dX9_movesAll_20 : decode cX9_movesAll 20 = .ok (.getfield 9, 3) := of_u2 ok_getfield 0 9 (by decide +kernel)
theorem dX9_movesAll_23 : decode cX9_movesAll 23 = .ok (.iconst 4, 1) := of_0 ok_iconst_4 (by decide +kernel)
theorem dX9_movesAll_24 : decode cX9_movesAll 24 = .ok (.iaload, 1) := of_0 ok_iaload (by decide +kernel)
theorem dX9_movesAll_25 : decode cX9_movesAll 25 = .ok (.invokevirtual 393, 3) := of_u2 ok_invokevirtual 1 137 (by decide +kernel)
theorem dX9_movesAll_28 : decode cX9_movesAll 28 = .ok (.iastore, 1) := of_0 ok_iastore (by decide +kernel)
theorem dX9_movesAll_29 : decode cX9_movesAll 29 = .ok (.aload_n 0, 1) := of_0 ok_aload_n_0 (by decide +kernel)
theorem dX9_movesAll_30 : decode cX9_movesAll 30 = .ok (.aload_n 0, 1) := of_0 ok_aload_n_0 (by decide +kernel)
theorem dX9_movesAll_31 : decode cX9_movesAll 31 = .ok (.getfield 13, 3) := of_u2 ok_getfield 0 13 (by decide +kernel)
theorem dX9_movesAll_34 : decode cX9_movesAll 34 = .ok (.invokevirtual 396, 3) := of_u2 ok_invokevirtual 1 140 (by decide +kernel)
theorem dX9_movesAll_37 : decode cX9_movesAll 37 = .ok (.aload_n 0, 1) := of_0 ok_aload_n_0 (by decide +kernel)
theorem dX9_movesAll_38 : decode cX9_movesAll 38 = .ok (.aload_n 0, 1) := of_0 ok_aload_n_0 (by decide +kernel)
theorem dX9_movesAll_39 : decode cX9_movesAll 39 = .ok (.getfield 16, 3) := of_u2 ok_getfield 0 16 (by decide +kernel)
theorem dX9_movesAll_42 : decode cX9_movesAll 42 = .ok (.invokevirtual 396, 3) := of_u2 ok_invokevirtual 1 140 (by decide +kernel)
theorem dX9_movesAll_45 : decode cX9_movesAll 45 = .ok (.return_, 1) := of_0 ok_return_ (by decide +kernel)
theorem dX9_movesRow_0 : decode cX9_movesRow 0 = .ok (.iconst 0, 1) := of_0 ok_iconst_0 (by decide +kernel)
theorem dX9_movesRow_1 : decode cX9_movesRow 1 = .ok (.istore_n 2, 1) := of_0 ok_istore_n_2 (by decide +kernel)
theorem dX9_movesRow_2 : decode cX9_movesRow 2 = .ok (.iload_n 2, 1) := of_0 ok_iload_n_2 (by decide +kernel)
theorem dX9_movesRow_3 : decode cX9_movesRow 3 = .ok (.aload_n 1, 1) := of_0 ok_aload_n_1 (by decide +kernel)
theorem dX9_movesRow_4 : decode cX9_movesRow 4 = .ok (.arraylength, 1) := of_0 ok_arraylength (by decide +kernel)
theorem dX9_movesRow_5 : decode cX9_movesRow 5 = .ok (.if_icmp .ge 19, 3) := of_s2 ok_if_icmp_ge 0 19 (by decide +kernel)
theorem dX9_movesRow_8 : decode cX9_movesRow 8 = .ok (.aload_n 1, 1) := of_0 ok_aload_n_1 (by decide +kernel)
theorem dX9_movesRow_9 : decode cX9_movesRow 9 = .ok (.iload_n 2, 1) := of_0 ok_iload_n_2 (by decide +kernel)
theorem dX9_movesRow_10 : decode cX9_movesRow 10 = .ok (.aload_n 0, 1) := of_0 ok_aload_n_0 (by decide +kernel)
theorem dX9_movesRow_11 : decode cX9_movesRow 11 = .ok (.aload_n 1, 1) := of_0 ok_aload_n_1 (by decide +kernel)
theorem dX9_movesRow_12 : decode cX9_movesRow 12 = .ok (.iload_n 2, 1) := of_0 ok_iload_n_2 (by decide +kernel)
theorem dX9_movesRow_13 : decode cX9_movesRow 13 = .ok (.iaload, 1) := of_0 ok_iaload (by decide +kernel)
theorem dX9_movesRow_14 : decode cX9_movesRow 14 = .ok (.invokevirtual 393, 3) := of_u2 ok_invokevirtual 1 137 (by decide +kernel)
theorem dX9_movesRow_17 : decode cX9_movesRow 17 = .ok (.iastore, 1) := of_0 ok_iastore (by decide +kernel)
theorem dX9_movesRow_18 : decode cX9_movesRow 18 = .ok (.iinc 2 1, 3) := of_ii ok_iinc 1 (by decide +kernel)
theorem dX9_movesRow_21 : decode cX9_movesRow 21 = .ok (.goto (-19), 3) := of_s2 ok_goto 255 237 (by decide +kernel)
theorem dX9_movesRow_24 : decode cX9_movesRow 24 = .ok (.return_, 1) := of_0 ok_return_ (by decide +kernel)
theorem dX9_nextOf_0 : decode cX9_nextOf 0 = .ok (.iconst 0, 1) := of_0 ok_iconst_0 (by decide +kernel)
theorem dX9_nextOf_1 : decode cX9_nextOf 1 = .ok (.istore_n 2, 1) := of_0 ok_istore_n_2 (by decide +kernel)
theorem dX9_nextOf_2 : decode cX9_nextOf 2 = .ok (.iload_n 2, 1) := of_0 ok_iload_n_2 (by decide +kernel)
theorem dX9_nextOf_3 : decode cX9_nextOf 3 = .ok (.aload_n 0, 1) := of_0 ok_aload_n_0 (by decide +kernel)
theorem dX9_nextOf_4 : decode cX9_nextOf 4 = .ok (.getfield 9, 3) := of_u2 ok_getfield 0 9 (by decide +kernel)
theorem dX9_nextOf_7 : decode cX9_nextOf 7 = .ok (.iconst 3, 1) := of_0 ok_iconst_3 (by decide +kernel)
theorem dX9_nextOf_8 : decode cX9_nextOf 8 = .ok (.iaload, 1) := of_0 ok_iaload (by decide +kernel)
theorem dX9_nextOf_9 : decode cX9_nextOf 9 = .ok (.if_icmp .ge 44, 3) := of_s2 ok_if_icmp_ge 0 44 (by decide +kernel)
theorem dX9_nextOf_12 : decode cX9_nextOf 12 = .ok (.iload_n 1, 1) := of_0 ok_iload_n_1 (by decide +kernel)
theorem dX9_nextOf_13 : decode cX9_nextOf 13 = .ok (.iconst 1, 1) := of_0 ok_iconst_1 (by decide +kernel)
theorem dX9_nextOf_14 : decode cX9_nextOf 14 = .ok (.iload_n 2, 1) := of_0 ok_iload_n_2 (by decide +kernel)
theorem dX9_nextOf_15 : decode cX9_nextOf 15 = .ok (.ishl, 1) := of_0 ok_ishl (by decide +kernel)
theorem dX9_nextOf_16 : decode cX9_nextOf 16 = .ok (.iconst (-1), 1) := of_0 ok_iconst_m1 (by decide +kernel)
theorem dX9_nextOf_17 : decode cX9_nextOf 17 = .ok (.ixor, 1) := of_0 ok_ixor (by decide +kernel)
theorem dX9_nextOf_18 : decode cX9_nextOf 18 = .ok (.iand, 1) := of_0 ok_iand (by decide +kernel)
theorem dX9_nextOf_19 : decode cX9_nextOf 19 = .ok (.istore_n 3, 1) := of_0 ok_istore_n_3 (by decide +kernel)
theorem dX9_nextOf_20 : decode cX9_nextOf 20 = .ok (.iload_n 1, 1) := of_0 ok_iload_n_1 (by decide +kernel)
theorem dX9_nextOf_21 : decode cX9_nextOf 21 = .ok (.iload_n 2, 1) := of_0 ok_iload_n_2 (by decide +kernel)
theorem dX9_nextOf_22 : decode cX9_nextOf 22 = .ok (.invokestatic 332, 3) := of_u2 ok_invokestatic 1 76 (by decide +kernel)
theorem dX9_nextOf_25 : decode cX9_nextOf 25 = .ok (.ifCond .eq 22, 3) := of_s2 ok_ifCond_eq 0 22 (by decide +kernel)
theorem dX9_nextOf_28 : decode cX9_nextOf 28 = .ok (.aload_n 0, 1) := of_0 ok_aload_n_0 (by decide +kernel)
theorem dX9_nextOf_29 : decode cX9_nextOf 29 = .ok (.iload_n 3, 1) := of_0 ok_iload_n_3 (by decide +kernel)
theorem dX9_nextOf_30 : decode cX9_nextOf 30 = .ok (.invokevirtual 367, 3) := of_u2 ok_invokevirtual 1 111 (by decide +kernel)
theorem dX9_nextOf_33 : decode cX9_nextOf 33 = .ok (.ifCond .ne 14, 3) := of_s2 ok_ifCond_ne 0 14 (by decide +kernel)
theorem dX9_nextOf_36 : decode cX9_nextOf 36 = .ok (.aload_n 0, 1) := of_0 ok_aload_n_0 (by decide +kernel)
theorem dX9_nextOf_37 : decode cX9_nextOf 37 = .ok (.getfield 106, 3) := of_u2 ok_getfield 0 106 (by decide +kernel)
theorem dX9_nextOf_40 : decode cX9_nextOf 40 = .ok (.iload_n 3, 1) := of_0 ok_iload_n_3 (by decide +kernel)
theorem dX9_nextOf_41 : decode cX9_nextOf 41 = .ok (.baload, 1) := of_0 ok_baload (by decide +kernel)
theorem dX9_nextOf_42 : decode cX9_nextOf 42 = .ok (.ifCond .eq 5, 3) := of_s2 ok_ifCond_eq 0 5 (by decide +kernel)
theorem dX9_nextOf_45 : decode cX9_nextOf 45 = .ok (.iload_n 2, 1) := of_0 ok_iload_n_2 (by decide +kernel)
theorem dX9_nextOf_46 : decode cX9_nextOf 46 = .ok (.ireturn, 1) := of_0 ok_ireturn (by decide +kernel)
theorem dX9_nextOf_47 : decode cX9_nextOf 47 = .ok (.iinc 2 1, 3) := of_ii ok_iinc 1 (by decide +kernel)
theorem dX9_nextOf_50 : decode cX9_nextOf 50 = .ok (.goto (-48), 3) := of_s2 ok_goto 255 208 (by decide +kernel)
theorem dX9_nextOf_53 : decode cX9_nextOf 53 = .ok (.iconst (-1), 1) := of_0 ok_iconst_m1 (by decide +kernel)
theorem dX9_nextOf_54 : decode cX9_nextOf 54 = .ok (.ireturn, 1) := of_0 ok_ireturn (by decide +kernel)
theorem dX9_rise_0 : decode cX9_rise 0 = .ok (.aload_n 0, 1) := of_0 ok_aload_n_0 (by decide +kernel)
theorem dX9_rise_1 : decode cX9_rise 1 = .ok (.iload_n 1, 1) := of_0 ok_iload_n_1 (by decide +kernel)
theorem dX9_rise_2 : decode cX9_rise 2 = .ok (.iconst 1, 1) := of_0 ok_iconst_1 (by decide +kernel)
theorem dX9_rise_3 : decode cX9_rise 3 = .ok (.invokevirtual 410, 3) := of_u2 ok_invokevirtual 1 154 (by decide +kernel)
theorem dX9_rise_6 : decode cX9_rise 6 = .ok (.ifCond .ne 5, 3) := of_s2 ok_ifCond_ne 0 5 (by decide +kernel)
theorem dX9_rise_9 : decode cX9_rise 9 = .ok (.iconst (-1), 1) := of_0 ok_iconst_m1 (by decide +kernel)
theorem dX9_rise_10 : decode cX9_rise 10 = .ok (.ireturn, 1) := of_0 ok_ireturn (by decide +kernel)
theorem dX9_rise_11 : decode cX9_rise 11 = .ok (.aload_n 0, 1) := of_0 ok_aload_n_0 (by decide +kernel)
theorem dX9_rise_12 : decode cX9_rise 12 = .ok (.invokevirtual 407, 3) := of_u2 ok_invokevirtual 1 151 (by decide +kernel)
theorem dX9_rise_15 : decode cX9_rise 15 = .ok (.aload_n 0, 1) := of_0 ok_aload_n_0 (by decide +kernel)
theorem dX9_rise_16 : decode cX9_rise 16 = .ok (.getfield 16, 3) := of_u2 ok_getfield 0 16 (by decide +kernel)
theorem dX9_rise_19 : decode cX9_rise 19 = .ok (.iload_n 1, 1) := of_0 ok_iload_n_1 (by decide +kernel)
theorem dX9_rise_20 : decode cX9_rise 20 = .ok (.iconst 0, 1) := of_0 ok_iconst_0 (by decide +kernel)
theorem dX9_rise_21 : decode cX9_rise 21 = .ok (.iastore, 1) := of_0 ok_iastore (by decide +kernel)
theorem dX9_rise_22 : decode cX9_rise 22 = .ok (.aload_n 0, 1) := of_0 ok_aload_n_0 (by decide +kernel)
theorem dX9_rise_23 : decode cX9_rise 23 = .ok (.invokevirtual 380, 3) := of_u2 ok_invokevirtual 1 124 (by decide +kernel)
theorem dX9_rise_26 : decode cX9_rise 26 = .ok (.ireturn, 1) := of_0 ok_ireturn (by decide +kernel)
theorem dX9_sit_0 : decode cX9_sit 0 = .ok (.aload_n 0, 1) := of_0 ok_aload_n_0 (by decide +kernel)
theorem dX9_sit_1 : decode cX9_sit 1 = .ok (.iload_n 1, 1) := of_0 ok_iload_n_1 (by decide +kernel)
theorem dX9_sit_2 : decode cX9_sit 2 = .ok (.iconst 0, 1) := of_0 ok_iconst_0 (by decide +kernel)
theorem dX9_sit_3 : decode cX9_sit 3 = .ok (.invokevirtual 410, 3) := of_u2 ok_invokevirtual 1 154 (by decide +kernel)
theorem dX9_sit_6 : decode cX9_sit 6 = .ok (.ifCond .ne 5, 3) := of_s2 ok_ifCond_ne 0 5 (by decide +kernel)
theorem dX9_sit_9 : decode cX9_sit 9 = .ok (.iconst (-1), 1) := of_0 ok_iconst_m1 (by decide +kernel)
theorem dX9_sit_10 : decode cX9_sit 10 = .ok (.ireturn, 1) := of_0 ok_ireturn (by decide +kernel)
theorem dX9_sit_11 : decode cX9_sit 11 = .ok (.aload_n 0, 1) := of_0 ok_aload_n_0 (by decide +kernel)
theorem dX9_sit_12 : decode cX9_sit 12 = .ok (.invokevirtual 407, 3) := of_u2 ok_invokevirtual 1 151 (by decide +kernel)
theorem dX9_sit_15 : decode cX9_sit 15 = .ok (.aload_n 0, 1) := of_0 ok_aload_n_0 (by decide +kernel)
theorem dX9_sit_16 : decode cX9_sit 16 = .ok (.getfield 16, 3) := of_u2 ok_getfield 0 16 (by decide +kernel)
theorem dX9_sit_19 : decode cX9_sit 19 = .ok (.iload_n 1, 1) := of_0 ok_iload_n_1 (by decide +kernel)
theorem dX9_sit_20 : decode cX9_sit 20 = .ok (.iconst 1, 1) := of_0 ok_iconst_1 (by decide +kernel)
theorem dX9_sit_21 : decode cX9_sit 21 = .ok (.iastore, 1) := of_0 ok_iastore (by decide +kernel)
theorem dX9_sit_22 : decode cX9_sit 22 = .ok (.aload_n 0, 1) := of_0 ok_aload_n_0 (by decide +kernel)
theorem dX9_sit_23 : decode cX9_sit 23 = .ok (.invokevirtual 380, 3) := of_u2 ok_invokevirtual 1 124 (by decide +kernel)
theorem dX9_sit_26 : decode cX9_sit 26 = .ok (.ireturn, 1) := of_0 ok_ireturn (by decide +kernel)
theorem dX9_tall_0 : decode cX9_tall 0 = .ok (.aload_n 0, 1) := of_0 ok_aload_n_0 (by decide +kernel)
theorem dX9_tall_1 : decode cX9_tall 1 = .ok (.invokevirtual 404, 3) := of_u2 ok_invokevirtual 1 148 (by decide +kernel)
theorem dX9_tall_4 : decode cX9_tall 4 = .ok (.ifCond .eq 13, 3) := of_s2 ok_ifCond_eq 0 13 (by decide +kernel)
theorem dX9_tall_7 : decode cX9_tall 7 = .ok (.iload_n 1, 1) := of_0 ok_iload_n_1 (by decide +kernel)
theorem dX9_tall_8 : decode cX9_tall 8 = .ok (.i2l, 1) := of_0 ok_i2l (by decide +kernel)
theorem dX9_tall_9 : decode cX9_tall 9 = .ok (.lconst 0, 1) := of_0 ok_lconst_0 (by decide +kernel)
theorem dX9_tall_10 : decode cX9_tall 10 = .ok (.lconst 1, 1) := of_0 ok_lconst_1 (by decide +kernel)
theorem dX9_tall_11 : decode cX9_tall 11 = .ok (.invokestatic 131, 3) := of_u2 ok_invokestatic 0 131 (by decide +kernel)
theorem dX9_tall_14 : decode cX9_tall 14 = .ok (.ifCond .ne 5, 3) := of_s2 ok_ifCond_ne 0 5 (by decide +kernel)
theorem dX9_tall_17 : decode cX9_tall 17 = .ok (.iconst (-1), 1) := of_0 ok_iconst_m1 (by decide +kernel)
theorem dX9_tall_18 : decode cX9_tall 18 = .ok (.ireturn, 1) := of_0 ok_ireturn (by decide +kernel)
theorem dX9_tall_19 : decode cX9_tall 19 = .ok (.bipush (-2), 2) := of_s1 ok_bipush 254 (by decide +kernel)
theorem dX9_tall_21 : decode cX9_tall 21 = .ok (.istore_n 2, 1) := of_0 ok_istore_n_2 (by decide +kernel)
theorem dX9_tall_22 : decode cX9_tall 22 = .ok (.bipush (-2), 2) := of_s1 ok_bipush 254 (by decide +kernel)
theorem dX9_tall_24 : decode cX9_tall 24 = .ok (.istore_n 3, 1) := of_0 ok_istore_n_3 (by decide +kernel)
theorem dX9_tall_25 : decode cX9_tall 25 = .ok (.iconst 0, 1) := of_0 ok_iconst_0 (by decide +kernel)
theorem dX9_tall_26 : decode cX9_tall 26 = .ok (.istore 4, 2) := of_u1 ok_istore (by decide +kernel)
theorem dX9_tall_28 : decode cX9_tall 28 = .ok (.iload 4, 2) := of_u1 ok_iload (by decide +kernel)
theorem dX9_tall_30 : decode cX9_tall 30 = .ok (.aload_n 0, 1) := of_0 ok_aload_n_0 (by decide +kernel)
theorem dX9_tall_31 : decode cX9_tall 31 = .ok (.getfield 9, 3) := of_u2 ok_getfield 0 9 (by decide +kernel)
theorem dX9_tall_34 : decode cX9_tall 34 = .ok (.iconst 3, 1) := of_0 ok_iconst_3 (by decide +kernel)
theorem dX9_tall_35 : decode cX9_tall 35 = .ok (.iaload, 1) := of_0 ok_iaload (by decide +kernel)
theorem dX9_tall_36 : decode cX9_tall 36 = .ok (.if_icmp .ge 46, 3) := of_s2 ok_if_icmp_ge 0 46 (by decide +kernel)
theorem dX9_tall_39 : decode cX9_tall 39 = .ok (.aload_n 0, 1) := of_0 ok_aload_n_0 (by decide +kernel)
theorem dX9_tall_40 : decode cX9_tall 40 = .ok (.getfield 16, 3) := of_u2 ok_getfield 0 16 (by decide +kernel)
theorem dX9_tall_43 : decode cX9_tall 43 = .ok (.iload 4, 2) := of_u1 ok_iload (by decide +kernel)
theorem dX9_tall_45 : decode cX9_tall 45 = .ok (.iaload, 1) := of_0 ok_iaload (by decide +kernel)
theorem dX9_tall_46 : decode cX9_tall 46 = .ok (.iconst 1, 1) := of_0 ok_iconst_1 (by decide +kernel)
theorem dX9_tall_47 : decode cX9_tall 47 = .ok (.if_icmp .ne 29, 3) := of_s2 ok_if_icmp_ne 0 29 (by decide +kernel)
theorem dX9_tall_50 : decode cX9_tall 50 = .ok (.aload_n 0, 1) := of_0 ok_aload_n_0 (by decide +kernel)
theorem dX9_tall_51 : decode cX9_tall 51 = .ok (.iload 4, 2) := of_u1 ok_iload (by decide +kernel)
theorem dX9_tall_53 : decode cX9_tall 53 = .ok (.invokevirtual 429, 3) := of_u2 ok_invokevirtual 1 173 (by decide +kernel)
theorem dX9_tall_56 : decode cX9_tall 56 = .ok (.invokestatic 370, 3) := of_u2 ok_invokestatic 1 114 (by decide +kernel)
theorem dX9_tall_59 : decode cX9_tall 59 = .ok (.iload_n 3, 1) := of_0 ok_iload_n_3 (by decide +kernel)
theorem dX9_tall_60 : decode cX9_tall 60 = .ok (.if_icmp .le 16, 3) := of_s2 ok_if_icmp_le 0 16 (by decide +kernel)
theorem dX9_tall_63 : decode cX9_tall 63 = .ok (.iload 4, 2) := of_u1 ok_iload (by decide +kernel)
theorem dX9_tall_65 : decode cX9_tall 65 = .ok (.istore_n 2, 1) := of_0 ok_istore_n_2 (by decide +kernel)
theorem dX9_tall_66 : decode cX9_tall 66 = .ok (.aload_n 0, 1) := of_0 ok_aload_n_0 (by decide +kernel)
theorem dX9_tall_67 : decode cX9_tall 67 = .ok (.iload 4, 2) := of_u1 ok_iload (by decide +kernel)
theorem dX9_tall_69 : decode cX9_tall 69 = .ok (.invokevirtual 429, 3) := of_u2 ok_invokevirtual 1 173 (by decide +kernel)
theorem dX9_tall_72 : decode cX9_tall 72 = .ok (.invokestatic 370, 3) := of_u2 ok_invokestatic 1 114 (by decide +kernel)
theorem dX9_tall_75 : decode cX9_tall 75 = .ok (.istore_n 3, 1) := of_0 ok_istore_n_3 (by decide +kernel)
theorem dX9_tall_76 : decode cX9_tall 76 = .ok (.iinc 4 1, 3) := of_ii ok_iinc 1 (by decide +kernel)
theorem dX9_tall_79 : decode cX9_tall 79 = .ok (.goto (-51), 3) := of_s2 ok_goto 255 205 (by decide +kernel)
theorem dX9_tall_82 : decode cX9_tall 82 = .ok (.iload_n 1, 1) := of_0 ok_iload_n_1 (by decide +kernel)
theorem dX9_tall_83 : decode cX9_tall 83 = .ok (.ifCond .ne 7, 3) := of_s2 ok_ifCond_ne 0 7 (by decide +kernel)
theorem dX9_tall_86 : decode cX9_tall 86 = .ok (.iload_n 2, 1) := of_0 ok_iload_n_2 (by decide +kernel)
theorem dX9_tall_87 : decode cX9_tall 87 = .ok (.goto 4, 3) := of_s2 ok_goto 0 4 (by decide +kernel)
theorem dX9_tall_90 : decode cX9_tall 90 = .ok (.iload_n 3, 1) := of_0 ok_iload_n_3 (by decide +kernel)
theorem dX9_tall_91 : decode cX9_tall 91 = .ok (.ireturn, 1) := of_0 ok_ireturn (by decide +kernel)
theorem dX9_undo_0 : decode cX9_undo 0 = .ok (.aload_n 0, 1) := of_0 ok_aload_n_0 (by decide +kernel)
theorem dX9_undo_1 : decode cX9_undo 1 = .ok (.getfield 299, 3) := of_u2 ok_getfield 1 43 (by decide +kernel)
theorem dX9_undo_4 : decode cX9_undo 4 = .ok (.ifCond .ne 6, 3) := of_s2 ok_ifCond_ne 0 6 (by decide +kernel)
theorem dX9_undo_7 : decode cX9_undo 7 = .ok (.bipush (-2), 2) := of_s1 ok_bipush 254 (by decide +kernel)
theorem dX9_undo_9 : decode cX9_undo 9 = .ok (.ireturn, 1) := of_0 ok_ireturn (by decide +kernel)
theorem dX9_undo_10 : decode cX9_undo 10 = .ok (.aload_n 0, 1) := of_0 ok_aload_n_0 (by decide +kernel)
theorem dX9_undo_11 : decode cX9_undo 11 = .ok (.dup, 1) := of_0 ok_dup (by decide +kernel)
theorem dX9_undo_12 : decode cX9_undo 12 = .ok (.getfield 299, 3) := of_u2 ok_getfield 1 43 (by decide +kernel)
theorem dX9_undo_15 : decode cX9_undo 15 = .ok (.iconst 1, 1) := of_0 ok_iconst_1 (by decide +kernel)
theorem dX9_undo_16 : decode cX9_undo 16 = .ok (.isub, 1) := of_0 ok_isub (by decide +kernel)
theorem dX9_undo_17 : decode cX9_undo 17 = .ok (.putfield 299, 3) := of_u2 ok_putfield 1 43 (by decide +kernel)
theorem dX9_undo_20 : decode cX9_undo 20 = .ok (.aload_n 0, 1) := of_0 ok_aload_n_0 (by decide +kernel)
theorem dX9_undo_21 : decode cX9_undo 21 = .ok (.aload_n 0, 1) := of_0 ok_aload_n_0 (by decide +kernel)
theorem dX9_undo_22 : decode cX9_undo 22 = .ok (.getfield 299, 3) := of_u2 ok_getfield 1 43 (by decide +kernel)
theorem dX9_undo_25 : decode cX9_undo 25 = .ok (.iconst 1, 1) := of_0 ok_iconst_1 (by decide +kernel)
theorem dX9_undo_26 : decode cX9_undo 26 = .ok (.invokevirtual 400, 3) := of_u2 ok_invokevirtual 1 144 (by decide +kernel)
theorem dX9_undo_29 : decode cX9_undo 29 = .ok (.aload_n 0, 1) := of_0 ok_aload_n_0 (by decide +kernel)
theorem dX9_undo_30 : decode cX9_undo 30 = .ok (.getfield 299, 3) := of_u2 ok_getfield 1 43 (by decide +kernel)
theorem dX9_undo_33 : decode cX9_undo 33 = .ok (.ireturn, 1) := of_0 ok_ireturn (by decide +kernel)
theorem dX9_way_0 : decode cX9_way 0 = .ok (.aload_n 0, 1) := of_0 ok_aload_n_0 (by decide +kernel)
theorem dX9_way_1 : decode cX9_way 1 = .ok (.invokevirtual 404, 3) := of_u2 ok_invokevirtual 1 148 (by decide +kernel)
theorem dX9_way_4 : decode cX9_way 4 = .ok (.ifCond .eq 15, 3) := of_s2 ok_ifCond_eq 0 15 (by decide +kernel)
theorem dX9_way_7 : decode cX9_way 7 = .ok (.iload_n 1, 1) := of_0 ok_iload_n_1 (by decide +kernel)
theorem dX9_way_8 : decode cX9_way 8 = .ok (.i2l, 1) := of_0 ok_i2l (by decide +kernel)
theorem dX9_way_9 : decode cX9_way 9 = .ok (.lconst 0, 1) := of_0 ok_lconst_0 (by decide +kernel)
theorem dX9_way_10 : decode cX9_way 10 = .ok (.ldc2_w 432, 3) := of_u2 ok_ldc2_w 1 176 (by decide +kernel)
theorem dX9_way_13 : decode cX9_way 13 = .ok (.invokestatic 131, 3) := of_u2 ok_invokestatic 0 131 (by decide +kernel)
theorem dX9_way_16 : decode cX9_way 16 = .ok (.ifCond .ne 6, 3) := of_s2 ok_ifCond_ne 0 6 (by decide +kernel)
theorem dX9_way_19 : decode cX9_way 19 = .ok (.bipush (-3), 2) := of_s1 ok_bipush 253 (by decide +kernel)
theorem dX9_way_21 : decode cX9_way 21 = .ok (.ireturn, 1) := of_0 ok_ireturn (by decide +kernel)
theorem dX9_way_22 : decode cX9_way 22 = .ok (.aload_n 0, 1) := of_0 ok_aload_n_0 (by decide +kernel)
theorem dX9_way_23 : decode cX9_way 23 = .ok (.iconst 1, 1) := of_0 ok_iconst_1 (by decide +kernel)
theorem dX9_way_24 : decode cX9_way 24 = .ok (.invokevirtual 341, 3) := of_u2 ok_invokevirtual 1 85 (by decide +kernel)
theorem dX9_way_27 : decode cX9_way 27 = .ok (.istore_n 2, 1) := of_0 ok_istore_n_2 (by decide +kernel)
theorem dX9_way_28 : decode cX9_way 28 = .ok (.iconst 0, 1) := of_0 ok_iconst_0 (by decide +kernel)
theorem dX9_way_29 : decode cX9_way 29 = .ok (.istore_n 3, 1) := of_0 ok_istore_n_3 (by decide +kernel)
theorem dX9_way_30 : decode cX9_way 30 = .ok (.iload_n 3, 1) := of_0 ok_iload_n_3 (by decide +kernel)
theorem dX9_way_31 : decode cX9_way 31 = .ok (.iload_n 2, 1) := of_0 ok_iload_n_2 (by decide +kernel)
theorem dX9_way_32 : decode cX9_way 32 = .ok (.if_icmp .gt 41, 3) := of_s2 ok_if_icmp_gt 0 41 (by decide +kernel)
theorem dX9_way_35 : decode cX9_way 35 = .ok (.iload_n 3, 1) := of_0 ok_iload_n_3 (by decide +kernel)
theorem dX9_way_36 : decode cX9_way 36 = .ok (.iload_n 2, 1) := of_0 ok_iload_n_2 (by decide +kernel)
theorem dX9_way_37 : decode cX9_way 37 = .ok (.iconst (-1), 1) := of_0 ok_iconst_m1 (by decide +kernel)
theorem dX9_way_38 : decode cX9_way 38 = .ok (.ixor, 1) := of_0 ok_ixor (by decide +kernel)
theorem dX9_way_39 : decode cX9_way 39 = .ok (.iand, 1) := of_0 ok_iand (by decide +kernel)
theorem dX9_way_40 : decode cX9_way 40 = .ok (.ifCond .ne 27, 3) := of_s2 ok_ifCond_ne 0 27 (by decide +kernel)
theorem dX9_way_43 : decode cX9_way 43 = .ok (.aload_n 0, 1) := of_0 ok_aload_n_0 (by decide +kernel)
theorem dX9_way_44 : decode cX9_way 44 = .ok (.getfield 106, 3) := of_u2 ok_getfield 0 106 (by decide +kernel)
theorem dX9_way_47 : decode cX9_way 47 = .ok (.iload_n 3, 1) := of_0 ok_iload_n_3 (by decide +kernel)
theorem dX9_way_48 : decode cX9_way 48 = .ok (.iload_n 3, 1) := of_0 ok_iload_n_3 (by decide +kernel)
theorem dX9_way_49 : decode cX9_way 49 = .ok (.ifCond .eq 12, 3) := of_s2 ok_ifCond_eq 0 12 (by decide +kernel)
theorem dX9_way_52 : decode cX9_way 52 = .ok (.aload_n 0, 1) := of_0 ok_aload_n_0 (by decide +kernel)
theorem dX9_way_53 : decode cX9_way 53 = .ok (.iload_n 3, 1) := of_0 ok_iload_n_3 (by decide +kernel)
theorem dX9_way_54 : decode cX9_way 54 = .ok (.invokevirtual 434, 3) := of_u2 ok_invokevirtual 1 178 (by decide +kernel)
theorem dX9_way_57 : decode cX9_way 57 = .ok (.iconst (-1), 1) := of_0 ok_iconst_m1 (by decide +kernel)
theorem dX9_way_58 : decode cX9_way 58 = .ok (.if_icmp .eq 7, 3) := of_s2 ok_if_icmp_eq 0 7 (by decide +kernel)
theorem dX9_way_61 : decode cX9_way 61 = .ok (.iconst 1, 1) := of_0 ok_iconst_1 (by decide +kernel)
theorem dX9_way_62 : decode cX9_way 62 = .ok (.goto 4, 3) := of_s2 ok_goto 0 4 (by decide +kernel)
theorem dX9_way_65 : decode cX9_way 65 = .ok (.iconst 0, 1) := of_0 ok_iconst_0 (by decide +kernel)
theorem dX9_way_66 : decode cX9_way 66 = .ok (.bastore, 1) := of_0 ok_bastore (by decide +kernel)
theorem dX9_way_67 : decode cX9_way 67 = .ok (.iinc 3 1, 3) := of_ii ok_iinc 1 (by decide +kernel)
theorem dX9_way_70 : decode cX9_way 70 = .ok (.goto (-40), 3) := of_s2 ok_goto 255 216 (by decide +kernel)
theorem dX9_way_73 : decode cX9_way 73 = .ok (.aload_n 0, 1) := of_0 ok_aload_n_0 (by decide +kernel)
theorem dX9_way_74 : decode cX9_way 74 = .ok (.getfield 106, 3) := of_u2 ok_getfield 0 106 (by decide +kernel)
theorem dX9_way_77 : decode cX9_way 77 = .ok (.iload_n 2, 1) := of_0 ok_iload_n_2 (by decide +kernel)
theorem dX9_way_78 : decode cX9_way 78 = .ok (.baload, 1) := of_0 ok_baload (by decide +kernel)
theorem dX9_way_79 : decode cX9_way 79 = .ok (.ifCond .ne 6, 3) := of_s2 ok_ifCond_ne 0 6 (by decide +kernel)
theorem dX9_way_82 : decode cX9_way 82 = .ok (.bipush (-2), 2) := of_s1 ok_bipush 254 (by decide +kernel)
theorem dX9_way_84 : decode cX9_way 84 = .ok (.ireturn, 1) := of_0 ok_ireturn (by decide +kernel)
theorem dX9_way_85 : decode cX9_way 85 = .ok (.iload_n 2, 1) := of_0 ok_iload_n_2 (by decide +kernel)
theorem dX9_way_86 : decode cX9_way 86 = .ok (.istore_n 3, 1) := of_0 ok_istore_n_3 (by decide +kernel)
theorem dX9_way_87 : decode cX9_way 87 = .ok (.iconst 0, 1) := of_0 ok_iconst_0 (by decide +kernel)
theorem dX9_way_88 : decode cX9_way 88 = .ok (.istore 4, 2) := of_u1 ok_istore (by decide +kernel)
theorem dX9_way_90 : decode cX9_way 90 = .ok (.iload 4, 2) := of_u1 ok_iload (by decide +kernel)
theorem dX9_way_92 : decode cX9_way 92 = .ok (.iload_n 1, 1) := of_0 ok_iload_n_1 (by decide +kernel)
theorem dX9_way_93 : decode cX9_way 93 = .ok (.if_icmp .ge 25, 3) := of_s2 ok_if_icmp_ge 0 25 (by decide +kernel)
theorem dX9_way_96 : decode cX9_way 96 = .ok (.iload_n 3, 1) := of_0 ok_iload_n_3 (by decide +kernel)
theorem dX9_way_97 : decode cX9_way 97 = .ok (.ifCond .eq 21, 3) := of_s2 ok_ifCond_eq 0 21 (by decide +kernel)
theorem dX9_way_100 : decode cX9_way 100 = .ok (.iload_n 3, 1) := of_0 ok_iload_n_3 (by decide +kernel)
theorem dX9_way_101 : decode cX9_way 101 = .ok (.iconst 1, 1) := of_0 ok_iconst_1 (by decide +kernel)
theorem dX9_way_102 : decode cX9_way 102 = .ok (.aload_n 0, 1) := of_0 ok_aload_n_0 (by decide +kernel)
theorem dX9_way_103 : decode cX9_way 103 = .ok (.iload_n 3, 1) := of_0 ok_iload_n_3 (by decide +kernel)
theorem dX9_way_104 : decode cX9_way 104 = .ok (.invokevirtual 434, 3) := of_u2 ok_invokevirtual 1 178 (by decide +kernel)
theorem dX9_way_107 : decode cX9_way 107 = .ok (.ishl, 1) := of_0 ok_ishl (by decide +kernel)
theorem dX9_way_108 : decode cX9_way 108 = .ok (.iconst (-1), 1) := of_0 ok_iconst_m1 (by decide +kernel)
theorem dX9_way_109 : decode cX9_way 109 = .ok (.ixor, 1) := of_0 ok_ixor (by decide +kernel)
theorem dX9_way_110 : decode cX9_way 110 = .ok (.iand, 1) := of_0 ok_iand (by decide +kernel)
theorem dX9_way_111 : decode cX9_way 111 = .ok (.istore_n 3, 1) := of_0 ok_istore_n_3 (by decide +kernel)
theorem dX9_way_112 : decode cX9_way 112 = .ok (.iinc 4 1, 3) := of_ii ok_iinc 1 (by decide +kernel)
theorem dX9_way_115 : decode cX9_way 115 = .ok (.goto (-25), 3) := of_s2 ok_goto 255 231 (by decide +kernel)
theorem dX9_way_118 : decode cX9_way 118 = .ok (.iload_n 3, 1) := of_0 ok_iload_n_3 (by decide +kernel)
theorem dX9_way_119 : decode cX9_way 119 = .ok (.ifCond .ne 7, 3) := of_s2 ok_ifCond_ne 0 7 (by decide +kernel)
theorem dX9_way_122 : decode cX9_way 122 = .ok (.iconst (-1), 1) := of_0 ok_iconst_m1 (by decide +kernel)
theorem dX9_way_123 : decode cX9_way 123 = .ok (.goto 8, 3) := of_s2 ok_goto 0 8 (by decide +kernel)
theorem dX9_way_126 : decode cX9_way 126 = .ok (.aload_n 0, 1) := of_0 ok_aload_n_0 (by decide +kernel)
theorem dX9_way_127 : decode cX9_way 127 = .ok (.iload_n 3, 1) := of_0 ok_iload_n_3 (by decide +kernel)
theorem dX9_way_128 : decode cX9_way 128 = .ok (.invokevirtual 434, 3) := of_u2 ok_invokevirtual 1 178 (by decide +kernel)
theorem dX9_way_131 : decode cX9_way 131 = .ok (.ireturn, 1) := of_0 ok_ireturn (by decide +kernel)
set_option maxRecDepth 20000 in
theorem bq_wsX9_ahead : subq wsX9_ahead [wsX9_ahead_r1, wsX9_ahead_r2, wsX9_ahead_r3, wsX9_ahead_r4, wsX9_ahead_r5] := ⟨(fun _ h => (List.mem_cons_of_mem _ (List.mem_append_left _ (List.mem_append_left _ h)))), (fun _ h => (List.mem_cons_of_mem _ (List.mem_append_left _ (List.mem_append_right _ (List.mem_append_left _ h))))), (fun _ h => (List.mem_cons_of_mem _ (List.mem_append_left _ (List.mem_append_right _ (List.mem_append_right _ (List.mem_append_left _ h)))))), (fun _ h => (List.mem_cons_of_mem _ (List.mem_append_left _ (List.mem_append_right _ (List.mem_append_right _ (List.mem_append_right _ (List.mem_append_left _ h))))))), (fun _ h => (List.mem_cons_of_mem _ (List.mem_append_left _ (List.mem_append_right _ (List.mem_append_right _ (List.mem_append_right _ (List.mem_append_right _ h))))))), trivial⟩
set_option maxRecDepth 20000 in
theorem ggX9_ahead_X9_bits : GoodIn wsX9_ahead wsX9_bits := (goodIn_cons (good_rb bq_wsX9_ahead ([(3, 10)] : List (Nat × Nat)) rfl (by decide +kernel)) (good_rb bq_wsX9_ahead ([] : List (Nat × Nat)) rfl (by decide +kernel)))
set_option maxRecDepth 20000 in
theorem gX9_ahead_X9_bits : GoodIn wsX9_ahead (va_wsS RX9 370 yX9_bits wsX9_bits) := goodIn_app (good_rp ([81, 82, 7] : List Nat) rfl (by decide +kernel)) ggX9_ahead_X9_bits
set_option maxRecDepth 20000 in
theorem ggX9_ahead_X9_givesNow : GoodIn wsX9_ahead wsX9_givesNow := (goodIn_cons (good_rb bq_wsX9_ahead ([(2, 23)] : List (Nat × Nat)) rfl (by decide +kernel)) (goodIn_app (goodIn_app (good_rb bq_wsX9_ahead ([(2, 9), (2, 10), (2, 11), (0, 6), (2, 12), (0, 8), (0, 2), (3, 0), (3, 1), (3, 2), (3, 3), (1, 3), (1, 8), (1, 2), (1, 4), (2, 17), (2, 18), (2, 19), (2, 13), (2, 14), (2, 15), (2, 16), (3, 4), (3, 5)] : List (Nat × Nat)) rfl (by decide +kernel)) (good_rb bq_wsX9_ahead ([(3, 6), (3, 7)] : List (Nat × Nat)) rfl (by decide +kernel))) (goodIn_sb (fun _ h => (List.mem_cons_of_mem _ (List.mem_append_right _ h))) (by decide +kernel))))
set_option maxRecDepth 20000 in
theorem gX9_ahead_X9_givesNow : GoodIn wsX9_ahead (wsV RX9 359 RX9 yX9_givesNow wsX9_givesNow) := goodIn_app (good_rp ([69, 70, 71, 7] : List Nat) rfl (by decide +kernel)) ggX9_ahead_X9_givesNow
set_option maxRecDepth 20000 in
theorem ggX9_ahead_X9_goFor : GoodIn wsX9_ahead wsX9_goFor := (goodIn_cons (good_rb bq_wsX9_ahead ([(1, 22)] : List (Nat × Nat)) rfl (by decide +kernel)) (goodIn_app (goodIn_app (good_rb bq_wsX9_ahead ([(1, 23), (2, 0), (2, 1), (0, 6), (2, 2), (0, 8), (0, 2), (2, 3), (2, 4), (2, 5), (2, 6), (2, 7), (1, 3), (1, 8), (2, 8), (1, 4), (1, 7), (1, 2), (2, 9), (2, 10), (2, 11), (2, 12), (2, 13), (2, 14)] : List (Nat × Nat)) rfl (by decide +kernel)) (goodIn_app (good_rb bq_wsX9_ahead ([(2, 15), (2, 16), (2, 17), (2, 18), (2, 19), (2, 20), (2, 21), (2, 22), (2, 23), (3, 0), (3, 1), (3, 2), (3, 3), (3, 4), (3, 5), (3, 6), (3, 7), (3, 8), (3, 9), (3, 10), (3, 11), (3, 12), (3, 13), (3, 14)] : List (Nat × Nat)) rfl (by decide +kernel)) (goodIn_app (good_rb bq_wsX9_ahead ([(3, 15), (3, 16), (3, 17), (3, 18), (3, 19), (3, 20), (3, 21), (3, 22), (3, 23), (4, 0), (4, 1), (4, 2), (4, 3), (4, 4), (4, 5), (4, 6), (4, 7), (4, 8), (4, 9), (4, 10), (4, 11), (4, 12), (4, 13), (4, 14)] : List (Nat × Nat)) rfl (by decide +kernel)) (good_rb bq_wsX9_ahead ([(4, 15)] : List (Nat × Nat)) rfl (by decide +kernel))))) (goodIn_sb (fun _ h => (List.mem_cons_of_mem _ (List.mem_append_right _ h))) (by decide +kernel))))
set_option maxRecDepth 20000 in
theorem gX9_ahead_X9_goFor : GoodIn wsX9_ahead (wsV RX9 423 RX9 yX9_goFor wsX9_goFor) := goodIn_app (good_rp ([44, 45, 46, 7] : List Nat) rfl (by decide +kernel)) ggX9_ahead_X9_goFor
set_option maxRecDepth 20000 in
theorem ggX9_ahead_X9_in : GoodIn wsX9_ahead wsX9_in := (goodIn_cons (good_rb bq_wsX9_ahead ([(0, 11)] : List (Nat × Nat)) rfl (by decide +kernel)) (good_rb bq_wsX9_ahead ([] : List (Nat × Nat)) rfl (by decide +kernel)))
set_option maxRecDepth 20000 in
theorem gX9_ahead_X9_in : GoodIn wsX9_ahead (va_wsS RX9 131 yX9_in wsX9_in) := goodIn_app (good_rp ([10, 11, 7] : List Nat) rfl (by decide +kernel)) ggX9_ahead_X9_in
set_option maxRecDepth 20000 in
theorem ggX9_ahead_X9_isHall : GoodIn wsX9_ahead wsX9_isHall := (goodIn_cons (good_rb bq_wsX9_ahead ([(0, 7)] : List (Nat × Nat)) rfl (by decide +kernel)) (goodIn_app (good_rb bq_wsX9_ahead ([(0, 8)] : List (Nat × Nat)) rfl (by decide +kernel)) (goodIn_sb (fun _ h => (List.mem_cons_of_mem _ (List.mem_append_right _ h))) (by decide +kernel))))
set_option maxRecDepth 20000 in
theorem gX9_ahead_X9_isHall : GoodIn wsX9_ahead (wsV RX9 404 RX9 yX9_isHall wsX9_isHall) := goodIn_app (good_rp ([4, 5, 6, 7] : List Nat) rfl (by decide +kernel)) ggX9_ahead_X9_isHall
set_option maxRecDepth 20000 in
theorem ggX9_ahead_X9_isSitter : GoodIn wsX9_ahead wsX9_isSitter := (goodIn_cons (good_rb bq_wsX9_ahead ([(0, 15)] : List (Nat × Nat)) rfl (by decide +kernel)) (goodIn_app (good_rb bq_wsX9_ahead ([(0, 8), (0, 9), (0, 10), (0, 6), (0, 11)] : List (Nat × Nat)) rfl (by decide +kernel)) (goodIn_sb (fun _ h => (List.mem_cons_of_mem _ (List.mem_append_right _ h))) (by decide +kernel))))
set_option maxRecDepth 20000 in
theorem gX9_ahead_X9_isSitter : GoodIn wsX9_ahead (wsV RX9 362 RX9 yX9_isSitter wsX9_isSitter) := goodIn_app (good_rp ([13, 14, 15, 7] : List Nat) rfl (by decide +kernel)) ggX9_ahead_X9_isSitter
set_option maxRecDepth 20000 in
theorem ggX9_ahead_X9_keepsAll : GoodIn wsX9_ahead wsX9_keepsAll := (goodIn_cons (good_rb bq_wsX9_ahead ([(0, 19)] : List (Nat × Nat)) rfl (by decide +kernel)) (goodIn_app (goodIn_app (good_rb bq_wsX9_ahead ([(0, 20), (0, 21), (0, 22), (0, 6), (0, 23), (1, 0), (1, 1), (0, 8), (1, 2), (0, 2), (1, 3), (1, 4), (1, 5), (1, 6), (1, 7), (1, 8), (1, 9), (1, 10), (1, 11), (1, 12), (1, 13), (1, 14), (1, 15), (1, 16)] : List (Nat × Nat)) rfl (by decide +kernel)) (good_rb bq_wsX9_ahead ([(1, 17), (1, 18)] : List (Nat × Nat)) rfl (by decide +kernel))) (goodIn_sb (fun _ h => (List.mem_cons_of_mem _ (List.mem_append_right _ h))) (by decide +kernel))))
set_option maxRecDepth 20000 in
theorem gX9_ahead_X9_keepsAll : GoodIn wsX9_ahead (wsV RX9 420 RX9 yX9_keepsAll wsX9_keepsAll) := goodIn_app (good_rp ([17, 18, 19, 7] : List Nat) rfl (by decide +kernel)) ggX9_ahead_X9_keepsAll
set_option maxRecDepth 20000 in
theorem ggX9_ahead_X9_laysBack : GoodIn wsX9_ahead wsX9_laysBack := (goodIn_cons (good_rb bq_wsX9_ahead ([(4, 19)] : List (Nat × Nat)) rfl (by decide +kernel)) (goodIn_app (goodIn_app (good_rb bq_wsX9_ahead ([(0, 20), (0, 21), (0, 22), (0, 6), (0, 23), (1, 0), (1, 1), (0, 8), (1, 2), (0, 2), (1, 3), (1, 4), (1, 5), (1, 6), (1, 7), (1, 8), (1, 9), (1, 10), (1, 11), (1, 12), (1, 13), (1, 14), (1, 15), (1, 16)] : List (Nat × Nat)) rfl (by decide +kernel)) (good_rb bq_wsX9_ahead ([(1, 17), (1, 18)] : List (Nat × Nat)) rfl (by decide +kernel))) (goodIn_sb (fun _ h => (List.mem_cons_of_mem _ (List.mem_append_right _ h))) (by decide +kernel))))
set_option maxRecDepth 20000 in
theorem gX9_ahead_X9_laysBack : GoodIn wsX9_ahead (wsV RX9 426 RX9 yX9_laysBack wsX9_laysBack) := goodIn_app (good_rp ([113, 114, 115, 7] : List Nat) rfl (by decide +kernel)) ggX9_ahead_X9_laysBack
set_option maxRecDepth 20000 in
theorem ggX9_ahead_X9_those : GoodIn wsX9_ahead wsX9_those := (goodIn_cons (good_rb bq_wsX9_ahead ([(2, 12)] : List (Nat × Nat)) rfl (by decide +kernel)) (goodIn_app (good_rb bq_wsX9_ahead ([(0, 8), (0, 2)] : List (Nat × Nat)) rfl (by decide +kernel)) (goodIn_sb (fun _ h => (List.mem_cons_of_mem _ (List.mem_append_right _ h))) (by decide +kernel))))
set_option maxRecDepth 20000 in
theorem gX9_ahead_X9_those : GoodIn wsX9_ahead (wsV RX9 341 RX9 yX9_those wsX9_those) := goodIn_app (good_rp ([58, 59, 60, 7] : List Nat) rfl (by decide +kernel)) ggX9_ahead_X9_those
set_option maxRecDepth 20000 in
theorem bq_wsX9_carriesAll : subq wsX9_carriesAll [[.fieldLink RX9 486 "ChairCaneModel" "imageAt" "I", .fieldLink RX9 483 "ChairCaneModel" "goesBack" "Z", .fieldLink RX9 9 "ChairCaneModel" "scalar" "[I", .fieldLink RX9 13 "ChairCaneModel" "cane" "[I", .fieldLink RX9 16 "ChairCaneModel" "is" "[I", .fieldLink RX9 19 "ChairCaneModel" "strandOf" "[I", .fieldLink RX9 22 "ChairCaneModel" "weight" "[I", .fieldLink RX9 103 "ChairCaneModel" "pastOf" "[I", .fieldLink RX9 299 "ChairCaneModel" "pastMany" "I", .fieldLink RX9 25 "ChairCaneModel" "height" "[I", .fieldLink RX9 28 "ChairCaneModel" "chairOf" "[I", .fieldLink RX9 31 "ChairCaneModel" "noteMinute" "[I", .fieldLink RX9 34 "ChairCaneModel" "noteWho" "[I", .fieldLink RX9 37 "ChairCaneModel" "noteIs" "[I", .fieldLink RX9 40 "ChairCaneModel" "toldCane" "[I", .fieldLink RX9 100 "ChairCaneModel" "past" "[I", .methodLink RX9 489 yX9_carryRow, .instanceMethod yX9_carryRow, .selects RX9 yX9_carryRow yX9_carryRow, .initialized RX9, .code yX9_carryRow cX9_carryRow 3 none, .fieldLink RX9 122 "ChairCaneModel" "images" "[I"]] := ⟨(fun _ h => (List.mem_cons_of_mem _ (List.mem_append_left _ h))), trivial⟩
set_option maxRecDepth 20000 in
theorem ggX9_carriesAll_X9_carryRow : GoodIn wsX9_carriesAll wsX9_carryRow := (goodIn_cons (good_rb bq_wsX9_carriesAll ([(0, 20)] : List (Nat × Nat)) rfl (by decide +kernel)) (goodIn_app (good_rb bq_wsX9_carriesAll ([(0, 1), (0, 21), (0, 0)] : List (Nat × Nat)) rfl (by decide +kernel)) (goodIn_sb (fun _ h => (List.mem_cons_of_mem _ (List.mem_append_right _ h))) (by decide +kernel))))
set_option maxRecDepth 20000 in
theorem gX9_carriesAll_X9_carryRow : GoodIn wsX9_carriesAll (wsV RX9 489 RX9 yX9_carryRow wsX9_carryRow) := goodIn_app (good_rp ([17, 18, 19, 20] : List Nat) rfl (by decide +kernel)) ggX9_carriesAll_X9_carryRow
set_option maxRecDepth 20000 in
theorem bq_wsX9_ease : subq wsX9_ease [wsX9_ease_r1, wsX9_ease_r2] := ⟨(fun _ h => (List.mem_cons_of_mem _ (List.mem_append_left _ (List.mem_append_left _ h)))), (fun _ h => (List.mem_cons_of_mem _ (List.mem_append_left _ (List.mem_append_right _ h)))), trivial⟩
set_option maxRecDepth 20000 in
theorem ggX9_ease_X9_bits : GoodIn wsX9_ease wsX9_bits := (goodIn_cons (good_rb bq_wsX9_ease ([(0, 16)] : List (Nat × Nat)) rfl (by decide +kernel)) (good_rb bq_wsX9_ease ([] : List (Nat × Nat)) rfl (by decide +kernel)))
set_option maxRecDepth 20000 in
theorem gX9_ease_X9_bits : GoodIn wsX9_ease (va_wsS RX9 370 yX9_bits wsX9_bits) := goodIn_app (good_rp ([15, 16, 4] : List Nat) rfl (by decide +kernel)) ggX9_ease_X9_bits
set_option maxRecDepth 20000 in
theorem ggX9_ease_X9_dropsOf : GoodIn wsX9_ease wsX9_dropsOf := (goodIn_cons (good_rb bq_wsX9_ease ([(0, 20)] : List (Nat × Nat)) rfl (by decide +kernel)) (goodIn_app (good_rb bq_wsX9_ease ([(0, 5), (0, 21), (0, 22), (0, 23), (1, 0), (0, 3), (1, 1), (1, 2), (1, 3), (1, 4), (1, 5), (1, 6), (1, 7), (1, 8), (1, 9), (1, 10), (1, 11), (1, 12), (1, 13), (1, 14), (1, 15), (1, 16)] : List (Nat × Nat)) rfl (by decide +kernel)) (goodIn_sb (fun _ h => (List.mem_cons_of_mem _ (List.mem_append_right _ h))) (by decide +kernel))))
set_option maxRecDepth 20000 in
theorem gX9_ease_X9_dropsOf : GoodIn wsX9_ease (wsV RX9 367 RX9 yX9_dropsOf wsX9_dropsOf) := goodIn_app (good_rp ([18, 19, 20, 4] : List Nat) rfl (by decide +kernel)) ggX9_ease_X9_dropsOf
set_option maxRecDepth 20000 in
theorem ggX9_ease_X9_in : GoodIn wsX9_ease wsX9_in := (goodIn_cons (good_rb bq_wsX9_ease ([(0, 8)] : List (Nat × Nat)) rfl (by decide +kernel)) (good_rb bq_wsX9_ease ([] : List (Nat × Nat)) rfl (by decide +kernel)))
set_option maxRecDepth 20000 in
theorem gX9_ease_X9_in : GoodIn wsX9_ease (va_wsS RX9 131 yX9_in wsX9_in) := goodIn_app (good_rp ([7, 8, 4] : List Nat) rfl (by decide +kernel)) ggX9_ease_X9_in
set_option maxRecDepth 20000 in
theorem ggX9_ease_X9_isHall : GoodIn wsX9_ease wsX9_isHall := (goodIn_cons (good_rb bq_wsX9_ease ([(0, 4)] : List (Nat × Nat)) rfl (by decide +kernel)) (goodIn_app (good_rb bq_wsX9_ease ([(0, 5)] : List (Nat × Nat)) rfl (by decide +kernel)) (goodIn_sb (fun _ h => (List.mem_cons_of_mem _ (List.mem_append_right _ h))) (by decide +kernel))))
set_option maxRecDepth 20000 in
theorem gX9_ease_X9_isHall : GoodIn wsX9_ease (wsV RX9 404 RX9 yX9_isHall wsX9_isHall) := goodIn_app (good_rp ([1, 2, 3, 4] : List Nat) rfl (by decide +kernel)) ggX9_ease_X9_isHall
set_option maxRecDepth 20000 in
theorem ggX9_ease_X9_those : GoodIn wsX9_ease wsX9_those := (goodIn_cons (good_rb bq_wsX9_ease ([(0, 12)] : List (Nat × Nat)) rfl (by decide +kernel)) (goodIn_app (good_rb bq_wsX9_ease ([(0, 5), (0, 13)] : List (Nat × Nat)) rfl (by decide +kernel)) (goodIn_sb (fun _ h => (List.mem_cons_of_mem _ (List.mem_append_right _ h))) (by decide +kernel))))
set_option maxRecDepth 20000 in
theorem gX9_ease_X9_those : GoodIn wsX9_ease (wsV RX9 341 RX9 yX9_those wsX9_those) := goodIn_app (good_rp ([10, 11, 12, 4] : List Nat) rfl (by decide +kernel)) ggX9_ease_X9_those
set_option maxRecDepth 20000 in
theorem bq_wsX9_falls : subq wsX9_falls [wsX9_falls_r1, wsX9_falls_r2, wsX9_falls_r3, wsX9_falls_r4, wsX9_falls_r5] := ⟨(fun _ h => (List.mem_cons_of_mem _ (List.mem_append_left _ (List.mem_append_left _ h)))), (fun _ h => (List.mem_cons_of_mem _ (List.mem_append_left _ (List.mem_append_right _ (List.mem_append_left _ h))))), (fun _ h => (List.mem_cons_of_mem _ (List.mem_append_left _ (List.mem_append_right _ (List.mem_append_right _ (List.mem_append_left _ h)))))), (fun _ h => (List.mem_cons_of_mem _ (List.mem_append_left _ (List.mem_append_right _ (List.mem_append_right _ (List.mem_append_right _ (List.mem_append_left _ h))))))), (fun _ h => (List.mem_cons_of_mem _ (List.mem_append_left _ (List.mem_append_right _ (List.mem_append_right _ (List.mem_append_right _ (List.mem_append_right _ h))))))), trivial⟩
set_option maxRecDepth 20000 in
theorem ggX9_falls_X9_goes : GoodIn wsX9_falls wsX9_goes := (goodIn_cons (good_rb bq_wsX9_falls ([(1, 16)] : List (Nat × Nat)) rfl (by decide +kernel)) (goodIn_app (goodIn_app (good_rb bq_wsX9_falls ([(0, 0), (0, 20), (1, 17), (1, 18), (1, 19), (0, 4), (1, 20), (1, 21), (0, 21), (1, 2), (1, 22), (0, 22), (1, 1), (0, 19), (1, 23), (2, 0), (2, 1), (2, 2), (2, 3), (2, 4), (2, 5), (2, 6), (2, 7), (2, 8)] : List (Nat × Nat)) rfl (by decide +kernel)) (goodIn_app (good_rb bq_wsX9_falls ([(2, 9), (2, 10), (2, 11), (2, 12), (2, 13), (2, 14), (2, 15), (2, 16), (2, 17), (2, 18), (2, 19), (2, 20), (2, 21), (2, 22), (2, 23), (3, 0), (3, 1), (3, 2), (3, 3), (3, 4), (3, 5), (3, 6), (3, 7), (3, 8)] : List (Nat × Nat)) rfl (by decide +kernel)) (good_rb bq_wsX9_falls ([(3, 9), (3, 10), (3, 11), (3, 12), (3, 13), (3, 14), (3, 15), (3, 16), (3, 17), (3, 18), (3, 19), (3, 20), (3, 21), (3, 22), (3, 23), (4, 0), (4, 1), (4, 2), (4, 3), (4, 4), (4, 5)] : List (Nat × Nat)) rfl (by decide +kernel)))) (goodIn_sb (fun _ h => (List.mem_cons_of_mem _ (List.mem_append_right _ h))) (by decide +kernel))))
set_option maxRecDepth 20000 in
theorem gX9_falls_X9_goes : GoodIn wsX9_falls (wsV RX9 383 RX9 yX9_goes wsX9_goes) := goodIn_app (good_rp ([38, 39, 40, 5] : List Nat) rfl (by decide +kernel)) ggX9_falls_X9_goes
set_option maxRecDepth 20000 in
theorem ggX9_falls_X9_in : GoodIn wsX9_falls wsX9_in := (goodIn_cons (good_rb bq_wsX9_falls ([(0, 8)] : List (Nat × Nat)) rfl (by decide +kernel)) (good_rb bq_wsX9_falls ([] : List (Nat × Nat)) rfl (by decide +kernel)))
set_option maxRecDepth 20000 in
theorem gX9_falls_X9_in : GoodIn wsX9_falls (va_wsS RX9 131 yX9_in wsX9_in) := goodIn_app (good_rp ([7, 8, 5] : List Nat) rfl (by decide +kernel)) ggX9_falls_X9_in
set_option maxRecDepth 20000 in
theorem ggX9_falls_X9_isHall : GoodIn wsX9_falls wsX9_isHall := (goodIn_cons (good_rb bq_wsX9_falls ([(0, 5)] : List (Nat × Nat)) rfl (by decide +kernel)) (goodIn_app (good_rb bq_wsX9_falls ([(0, 0)] : List (Nat × Nat)) rfl (by decide +kernel)) (goodIn_sb (fun _ h => (List.mem_cons_of_mem _ (List.mem_append_right _ h))) (by decide +kernel))))
set_option maxRecDepth 20000 in
theorem gX9_falls_X9_isHall : GoodIn wsX9_falls (wsV RX9 404 RX9 yX9_isHall wsX9_isHall) := goodIn_app (good_rp ([2, 3, 4, 5] : List Nat) rfl (by decide +kernel)) ggX9_falls_X9_isHall
set_option maxRecDepth 20000 in
theorem ggX9_falls_X9_keepsAll : GoodIn wsX9_falls wsX9_keepsAll := (goodIn_cons (good_rb bq_wsX9_falls ([(0, 12)] : List (Nat × Nat)) rfl (by decide +kernel)) (goodIn_app (goodIn_app (good_rb bq_wsX9_falls ([(0, 13), (0, 14), (0, 15), (0, 4), (0, 16), (0, 17), (0, 18), (0, 0), (0, 19), (0, 20), (0, 21), (0, 22), (0, 23), (1, 0), (1, 1), (1, 2), (1, 3), (1, 4), (1, 5), (1, 6), (1, 7), (1, 8), (1, 9), (1, 10)] : List (Nat × Nat)) rfl (by decide +kernel)) (good_rb bq_wsX9_falls ([(1, 11), (1, 12)] : List (Nat × Nat)) rfl (by decide +kernel))) (goodIn_sb (fun _ h => (List.mem_cons_of_mem _ (List.mem_append_right _ h))) (by decide +kernel))))
set_option maxRecDepth 20000 in
theorem gX9_falls_X9_keepsAll : GoodIn wsX9_falls (wsV RX9 420 RX9 yX9_keepsAll wsX9_keepsAll) := goodIn_app (good_rp ([10, 11, 12, 5] : List Nat) rfl (by decide +kernel)) ggX9_falls_X9_keepsAll
set_option maxRecDepth 20000 in
theorem ggX9_falls_X9_laysBack : GoodIn wsX9_falls wsX9_laysBack := (goodIn_cons (good_rb bq_wsX9_falls ([(4, 9)] : List (Nat × Nat)) rfl (by decide +kernel)) (goodIn_app (goodIn_app (good_rb bq_wsX9_falls ([(0, 13), (0, 14), (0, 15), (0, 4), (0, 16), (0, 17), (0, 18), (0, 0), (0, 19), (0, 20), (0, 21), (0, 22), (0, 23), (1, 0), (1, 1), (1, 2), (1, 3), (1, 4), (1, 5), (1, 6), (1, 7), (1, 8), (1, 9), (1, 10)] : List (Nat × Nat)) rfl (by decide +kernel)) (good_rb bq_wsX9_falls ([(1, 11), (1, 12)] : List (Nat × Nat)) rfl (by decide +kernel))) (goodIn_sb (fun _ h => (List.mem_cons_of_mem _ (List.mem_append_right _ h))) (by decide +kernel))))
set_option maxRecDepth 20000 in
theorem gX9_falls_X9_laysBack : GoodIn wsX9_falls (wsV RX9 426 RX9 yX9_laysBack wsX9_laysBack) := goodIn_app (good_rp ([103, 104, 105, 5] : List Nat) rfl (by decide +kernel)) ggX9_falls_X9_laysBack
set_option maxRecDepth 20000 in
theorem bq_wsX9_felledBy : subq wsX9_felledBy [wsX9_felledBy_r1, wsX9_felledBy_r2, wsX9_felledBy_r3] := ⟨(fun _ h => (List.mem_cons_of_mem _ (List.mem_append_left _ (List.mem_append_left _ h)))), (fun _ h => (List.mem_cons_of_mem _ (List.mem_append_left _ (List.mem_append_right _ (List.mem_append_left _ h))))), (fun _ h => (List.mem_cons_of_mem _ (List.mem_append_left _ (List.mem_append_right _ (List.mem_append_right _ h))))), trivial⟩
set_option maxRecDepth 20000 in
theorem ggX9_felledBy_X9_keepsAll : GoodIn wsX9_felledBy wsX9_keepsAll := (goodIn_cons (good_rb bq_wsX9_felledBy ([(0, 5)] : List (Nat × Nat)) rfl (by decide +kernel)) (goodIn_app (goodIn_app (good_rb bq_wsX9_felledBy ([(0, 6), (0, 7), (0, 8), (0, 4), (0, 9), (0, 10), (0, 11), (0, 12), (0, 13), (0, 0), (0, 14), (0, 15), (0, 16), (0, 17), (0, 18), (0, 19), (0, 20), (0, 21), (0, 22), (0, 23), (1, 0), (1, 1), (1, 2), (1, 3)] : List (Nat × Nat)) rfl (by decide +kernel)) (good_rb bq_wsX9_felledBy ([(1, 4), (1, 5)] : List (Nat × Nat)) rfl (by decide +kernel))) (goodIn_sb (fun _ h => (List.mem_cons_of_mem _ (List.mem_append_right _ h))) (by decide +kernel))))
set_option maxRecDepth 20000 in
theorem gX9_felledBy_X9_keepsAll : GoodIn wsX9_felledBy (wsV RX9 420 RX9 yX9_keepsAll wsX9_keepsAll) := goodIn_app (good_rp ([2, 3, 4, 5] : List Nat) rfl (by decide +kernel)) ggX9_felledBy_X9_keepsAll
set_option maxRecDepth 20000 in
theorem ggX9_felledBy_X9_laysBack : GoodIn wsX9_felledBy wsX9_laysBack := (goodIn_cons (good_rb bq_wsX9_felledBy ([(2, 12)] : List (Nat × Nat)) rfl (by decide +kernel)) (goodIn_app (goodIn_app (good_rb bq_wsX9_felledBy ([(0, 6), (0, 7), (0, 8), (0, 4), (0, 9), (0, 10), (0, 11), (0, 12), (0, 13), (0, 0), (0, 14), (0, 15), (0, 16), (0, 17), (0, 18), (0, 19), (0, 20), (0, 21), (0, 22), (0, 23), (1, 0), (1, 1), (1, 2), (1, 3)] : List (Nat × Nat)) rfl (by decide +kernel)) (good_rb bq_wsX9_felledBy ([(1, 4), (1, 5)] : List (Nat × Nat)) rfl (by decide +kernel))) (goodIn_sb (fun _ h => (List.mem_cons_of_mem _ (List.mem_append_right _ h))) (by decide +kernel))))
set_option maxRecDepth 20000 in
theorem gX9_felledBy_X9_laysBack : GoodIn wsX9_felledBy (wsV RX9 426 RX9 yX9_laysBack wsX9_laysBack) := goodIn_app (good_rp ([58, 59, 60, 5] : List Nat) rfl (by decide +kernel)) ggX9_felledBy_X9_laysBack
set_option maxRecDepth 20000 in
theorem ggX9_felledBy_X9_settles : GoodIn wsX9_felledBy wsX9_settles := (goodIn_cons (good_rb bq_wsX9_felledBy ([(1, 9)] : List (Nat × Nat)) rfl (by decide +kernel)) (goodIn_app (goodIn_app (good_rb bq_wsX9_felledBy ([(0, 12), (0, 0), (1, 10), (1, 11), (1, 12), (0, 4), (1, 13), (1, 14), (1, 15), (1, 16), (1, 17), (0, 18), (0, 19), (1, 18), (1, 19), (1, 20), (1, 21), (1, 22), (1, 23), (2, 0), (0, 14), (0, 13), (0, 15), (2, 1)] : List (Nat × Nat)) rfl (by decide +kernel)) (good_rb bq_wsX9_felledBy ([(2, 2), (2, 3), (2, 4), (2, 5), (2, 6), (2, 7), (2, 8)] : List (Nat × Nat)) rfl (by decide +kernel))) (goodIn_sb (fun _ h => (List.mem_cons_of_mem _ (List.mem_append_right _ h))) (by decide +kernel))))
set_option maxRecDepth 20000 in
theorem gX9_felledBy_X9_settles : GoodIn wsX9_felledBy (wsV RX9 380 RX9 yX9_settles wsX9_settles) := goodIn_app (good_rp ([31, 32, 33, 5] : List Nat) rfl (by decide +kernel)) ggX9_felledBy_X9_settles
set_option maxRecDepth 20000 in
theorem bq_wsX9_felled : subq wsX9_felled [wsX9_felled_r1, wsX9_felled_r2, wsX9_felled_r3, wsX9_felled_r4] := ⟨(fun _ h => (List.mem_cons_of_mem _ (List.mem_append_left _ (List.mem_append_left _ h)))), (fun _ h => (List.mem_cons_of_mem _ (List.mem_append_left _ (List.mem_append_right _ (List.mem_append_left _ h))))), (fun _ h => (List.mem_cons_of_mem _ (List.mem_append_left _ (List.mem_append_right _ (List.mem_append_right _ (List.mem_append_left _ h)))))), (fun _ h => (List.mem_cons_of_mem _ (List.mem_append_left _ (List.mem_append_right _ (List.mem_append_right _ (List.mem_append_right _ h)))))), trivial⟩
set_option maxRecDepth 20000 in
theorem ggX9_felled_X9_felledBy : GoodIn wsX9_felled wsX9_felledBy := (goodIn_cons (good_rb bq_wsX9_felled ([(0, 17)] : List (Nat × Nat)) rfl (by decide +kernel)) (goodIn_app (goodIn_app (good_rb bq_wsX9_felled ([(0, 5), (0, 18), (0, 19), (0, 20), (0, 3), (0, 21), (0, 22), (0, 23), (1, 0), (1, 1), (1, 2), (1, 3), (0, 10), (1, 4), (1, 5), (1, 6), (1, 7), (1, 8), (1, 9), (1, 10), (1, 11), (1, 12), (1, 13), (1, 14)] : List (Nat × Nat)) rfl (by decide +kernel)) (goodIn_app (good_rb bq_wsX9_felled ([(1, 15), (1, 16), (1, 17), (1, 18), (1, 19), (1, 20), (1, 21), (1, 22), (1, 23), (2, 0), (2, 1), (2, 2), (2, 3), (2, 4), (2, 5), (2, 6), (2, 7), (2, 8), (2, 9), (2, 10), (2, 11), (2, 12), (2, 13), (2, 14)] : List (Nat × Nat)) rfl (by decide +kernel)) (good_rb bq_wsX9_felled ([(2, 15), (2, 16), (2, 17), (2, 18), (2, 19), (2, 20), (2, 21), (2, 22), (2, 23), (3, 0), (3, 1), (3, 2), (3, 3)] : List (Nat × Nat)) rfl (by decide +kernel)))) (goodIn_sb (fun _ h => (List.mem_cons_of_mem _ (List.mem_append_right _ h))) (by decide +kernel))))
set_option maxRecDepth 20000 in
theorem gX9_felled_X9_felledBy : GoodIn wsX9_felled (wsV RX9 429 RX9 yX9_felledBy wsX9_felledBy) := goodIn_app (good_rp ([15, 16, 17, 4] : List Nat) rfl (by decide +kernel)) ggX9_felled_X9_felledBy
set_option maxRecDepth 20000 in
theorem ggX9_felled_X9_isSo : GoodIn wsX9_felled wsX9_isSo := (goodIn_cons (good_rb bq_wsX9_felled ([(0, 4)] : List (Nat × Nat)) rfl (by decide +kernel)) (goodIn_app (good_rb bq_wsX9_felled ([(0, 5), (0, 6), (0, 7), (0, 8), (0, 3), (0, 9), (0, 10), (0, 11), (0, 12), (0, 13)] : List (Nat × Nat)) rfl (by decide +kernel)) (goodIn_sb (fun _ h => (List.mem_cons_of_mem _ (List.mem_append_right _ h))) (by decide +kernel))))
set_option maxRecDepth 20000 in
theorem gX9_felled_X9_isSo : GoodIn wsX9_felled (wsV RX9 410 RX9 yX9_isSo wsX9_isSo) := goodIn_app (good_rp ([1, 2, 3, 4] : List Nat) rfl (by decide +kernel)) ggX9_felled_X9_isSo
set_option maxRecDepth 20000 in
theorem bq_wsX9_heavy : subq wsX9_heavy [wsX9_heavy_r1, wsX9_heavy_r2] := ⟨(fun _ h => (List.mem_cons_of_mem _ (List.mem_append_left _ (List.mem_append_left _ h)))), (fun _ h => (List.mem_cons_of_mem _ (List.mem_append_left _ (List.mem_append_right _ h)))), trivial⟩
set_option maxRecDepth 20000 in
theorem ggX9_heavy_X9_dropsOf : GoodIn wsX9_heavy wsX9_dropsOf := (goodIn_cons (good_rb bq_wsX9_heavy ([(0, 18)] : List (Nat × Nat)) rfl (by decide +kernel)) (goodIn_app (good_rb bq_wsX9_heavy ([(0, 7), (0, 19), (0, 20), (0, 21), (0, 22), (0, 5), (0, 23), (1, 0), (1, 1), (1, 2), (1, 3), (1, 4), (1, 5), (0, 1), (1, 6), (1, 7), (1, 8), (1, 9), (1, 10), (1, 11), (1, 12), (1, 13)] : List (Nat × Nat)) rfl (by decide +kernel)) (goodIn_sb (fun _ h => (List.mem_cons_of_mem _ (List.mem_append_right _ h))) (by decide +kernel))))
set_option maxRecDepth 20000 in
theorem gX9_heavy_X9_dropsOf : GoodIn wsX9_heavy (wsV RX9 367 RX9 yX9_dropsOf wsX9_dropsOf) := goodIn_app (good_rp ([16, 17, 18, 6] : List Nat) rfl (by decide +kernel)) ggX9_heavy_X9_dropsOf
set_option maxRecDepth 20000 in
theorem ggX9_heavy_X9_in : GoodIn wsX9_heavy wsX9_in := (goodIn_cons (good_rb bq_wsX9_heavy ([(0, 10)] : List (Nat × Nat)) rfl (by decide +kernel)) (good_rb bq_wsX9_heavy ([] : List (Nat × Nat)) rfl (by decide +kernel)))
set_option maxRecDepth 20000 in
theorem gX9_heavy_X9_in : GoodIn wsX9_heavy (va_wsS RX9 131 yX9_in wsX9_in) := goodIn_app (good_rp ([9, 10, 6] : List Nat) rfl (by decide +kernel)) ggX9_heavy_X9_in
set_option maxRecDepth 20000 in
theorem ggX9_heavy_X9_isSitter : GoodIn wsX9_heavy wsX9_isSitter := (goodIn_cons (good_rb bq_wsX9_heavy ([(0, 6)] : List (Nat × Nat)) rfl (by decide +kernel)) (goodIn_app (good_rb bq_wsX9_heavy ([(0, 7), (0, 8), (0, 9), (0, 5), (0, 10)] : List (Nat × Nat)) rfl (by decide +kernel)) (goodIn_sb (fun _ h => (List.mem_cons_of_mem _ (List.mem_append_right _ h))) (by decide +kernel))))
set_option maxRecDepth 20000 in
theorem gX9_heavy_X9_isSitter : GoodIn wsX9_heavy (wsV RX9 362 RX9 yX9_isSitter wsX9_isSitter) := goodIn_app (good_rp ([3, 4, 5, 6] : List Nat) rfl (by decide +kernel)) ggX9_heavy_X9_isSitter
set_option maxRecDepth 20000 in
theorem ggX9_heavy_X9_those : GoodIn wsX9_heavy wsX9_those := (goodIn_cons (good_rb bq_wsX9_heavy ([(0, 14)] : List (Nat × Nat)) rfl (by decide +kernel)) (goodIn_app (good_rb bq_wsX9_heavy ([(0, 7), (0, 0)] : List (Nat × Nat)) rfl (by decide +kernel)) (goodIn_sb (fun _ h => (List.mem_cons_of_mem _ (List.mem_append_right _ h))) (by decide +kernel))))
set_option maxRecDepth 20000 in
theorem gX9_heavy_X9_those : GoodIn wsX9_heavy (wsV RX9 341 RX9 yX9_those wsX9_those) := goodIn_app (good_rp ([12, 13, 14, 6] : List Nat) rfl (by decide +kernel)) ggX9_heavy_X9_those
set_option maxRecDepth 20000 in
theorem bq_wsX9_help : subq wsX9_help [wsX9_help_r1, wsX9_help_r2] := ⟨(fun _ h => (List.mem_cons_of_mem _ (List.mem_append_left _ (List.mem_append_left _ h)))), (fun _ h => (List.mem_cons_of_mem _ (List.mem_append_left _ (List.mem_append_right _ h)))), trivial⟩
set_option maxRecDepth 20000 in
theorem ggX9_help_X9_bits : GoodIn wsX9_help wsX9_bits := (goodIn_cons (good_rb bq_wsX9_help ([(1, 17)] : List (Nat × Nat)) rfl (by decide +kernel)) (good_rb bq_wsX9_help ([] : List (Nat × Nat)) rfl (by decide +kernel)))
set_option maxRecDepth 20000 in
theorem gX9_help_X9_bits : GoodIn wsX9_help (va_wsS RX9 370 yX9_bits wsX9_bits) := goodIn_app (good_rp ([40, 41, 5] : List Nat) rfl (by decide +kernel)) ggX9_help_X9_bits
set_option maxRecDepth 20000 in
theorem ggX9_help_X9_isSo : GoodIn wsX9_help wsX9_isSo := (goodIn_cons (good_rb bq_wsX9_help ([(0, 5)] : List (Nat × Nat)) rfl (by decide +kernel)) (goodIn_app (good_rb bq_wsX9_help ([(0, 0), (0, 6), (0, 7), (0, 8), (0, 4), (0, 9), (0, 10), (0, 11), (0, 12), (0, 13)] : List (Nat × Nat)) rfl (by decide +kernel)) (goodIn_sb (fun _ h => (List.mem_cons_of_mem _ (List.mem_append_right _ h))) (by decide +kernel))))
set_option maxRecDepth 20000 in
theorem gX9_help_X9_isSo : GoodIn wsX9_help (wsV RX9 410 RX9 yX9_isSo wsX9_isSo) := goodIn_app (good_rp ([2, 3, 4, 5] : List Nat) rfl (by decide +kernel)) ggX9_help_X9_isSo
set_option maxRecDepth 20000 in
theorem ggX9_help_X9_keepsAct : GoodIn wsX9_help wsX9_keepsAct := (goodIn_cons (good_rb bq_wsX9_help ([(0, 17)] : List (Nat × Nat)) rfl (by decide +kernel)) (goodIn_app (good_rb bq_wsX9_help ([(0, 18), (0, 19), (0, 20), (0, 21), (0, 22), (0, 4), (0, 23), (1, 0), (1, 1), (0, 10), (1, 2), (0, 0), (1, 3), (1, 4), (1, 5), (1, 6), (1, 7), (1, 8), (1, 9), (1, 10)] : List (Nat × Nat)) rfl (by decide +kernel)) (goodIn_sb (fun _ h => (List.mem_cons_of_mem _ (List.mem_append_right _ h))) (by decide +kernel))))
set_option maxRecDepth 20000 in
theorem gX9_help_X9_keepsAct : GoodIn wsX9_help (wsV RX9 407 RX9 yX9_keepsAct wsX9_keepsAct) := goodIn_app (good_rp ([15, 16, 17, 5] : List Nat) rfl (by decide +kernel)) ggX9_help_X9_keepsAct
set_option maxRecDepth 20000 in
theorem ggX9_help_X9_those : GoodIn wsX9_help wsX9_those := (goodIn_cons (good_rb bq_wsX9_help ([(1, 14)] : List (Nat × Nat)) rfl (by decide +kernel)) (goodIn_app (good_rb bq_wsX9_help ([(0, 10), (0, 0)] : List (Nat × Nat)) rfl (by decide +kernel)) (goodIn_sb (fun _ h => (List.mem_cons_of_mem _ (List.mem_append_right _ h))) (by decide +kernel))))
set_option maxRecDepth 20000 in
theorem gX9_help_X9_those : GoodIn wsX9_help (wsV RX9 341 RX9 yX9_those wsX9_those) := goodIn_app (good_rp ([36, 37, 38, 5] : List Nat) rfl (by decide +kernel)) ggX9_help_X9_those
set_option maxRecDepth 20000 in
theorem bq_wsX9_isSo : subq wsX9_isSo [[.fieldLink RX9 16 "ChairCaneModel" "is" "[I", .methodLink RX9 362 yX9_isSitter, .instanceMethod yX9_isSitter, .selects RX9 yX9_isSitter yX9_isSitter, .initialized RX9, .code yX9_isSitter cX9_isSitter 2 (some .boolean), .fieldLink RX9 9 "ChairCaneModel" "scalar" "[I", .methodLink RX9 131 yX9_in, .static yX9_in, .code yX9_in cX9_in 6 (some .boolean)]] := ⟨(fun _ h => (List.mem_cons_of_mem _ (List.mem_append_left _ h))), trivial⟩
set_option maxRecDepth 20000 in
theorem ggX9_isSo_X9_isSitter : GoodIn wsX9_isSo wsX9_isSitter := (goodIn_cons (good_rb bq_wsX9_isSo ([(0, 5)] : List (Nat × Nat)) rfl (by decide +kernel)) (goodIn_app (good_rb bq_wsX9_isSo ([(0, 6), (0, 7), (0, 8), (0, 4), (0, 9)] : List (Nat × Nat)) rfl (by decide +kernel)) (goodIn_sb (fun _ h => (List.mem_cons_of_mem _ (List.mem_append_right _ h))) (by decide +kernel))))
set_option maxRecDepth 20000 in
theorem gX9_isSo_X9_isSitter : GoodIn wsX9_isSo (wsV RX9 362 RX9 yX9_isSitter wsX9_isSitter) := goodIn_app (good_rp ([2, 3, 4, 5] : List Nat) rfl (by decide +kernel)) ggX9_isSo_X9_isSitter
set_option maxRecDepth 20000 in
theorem bq_wsX9_keepsAct : subq wsX9_keepsAct [[.fieldLink RX9 299 "ChairCaneModel" "pastMany" "I", .fieldLink RX9 100 "ChairCaneModel" "past" "[I", .methodLink RX9 400 yX9_movesAll, .instanceMethod yX9_movesAll, .selects RX9 yX9_movesAll yX9_movesAll, .initialized RX9, .code yX9_movesAll cX9_movesAll 3 none, .fieldLink RX9 390 "ChairCaneModel" "pastAt" "I", .fieldLink RX9 386 "ChairCaneModel" "takesBack" "Z", .fieldLink RX9 9 "ChairCaneModel" "scalar" "[I", .fieldLink RX9 13 "ChairCaneModel" "cane" "[I", .fieldLink RX9 16 "ChairCaneModel" "is" "[I", .methodLink RX9 393 yX9_moves, .instanceMethod yX9_moves, .selects RX9 yX9_moves yX9_moves, .code yX9_moves cX9_moves 3 (some .int), .methodLink RX9 396 yX9_movesRow, .instanceMethod yX9_movesRow, .selects RX9 yX9_movesRow yX9_movesRow, .code yX9_movesRow cX9_movesRow 3 none]] := ⟨(fun _ h => (List.mem_cons_of_mem _ (List.mem_append_left _ h))), trivial⟩
set_option maxRecDepth 20000 in
theorem ggX9_keepsAct_X9_movesAll : GoodIn wsX9_keepsAct wsX9_movesAll := (goodIn_cons (good_rb bq_wsX9_keepsAct ([(0, 6)] : List (Nat × Nat)) rfl (by decide +kernel)) (goodIn_app (good_rb bq_wsX9_keepsAct ([(0, 7), (0, 8), (0, 9), (0, 10), (0, 11), (0, 12), (0, 13), (0, 14), (0, 5), (0, 15), (0, 1), (0, 16), (0, 17), (0, 18), (0, 19)] : List (Nat × Nat)) rfl (by decide +kernel)) (goodIn_sb (fun _ h => (List.mem_cons_of_mem _ (List.mem_append_right _ h))) (by decide +kernel))))
set_option maxRecDepth 20000 in
theorem gX9_keepsAct_X9_movesAll : GoodIn wsX9_keepsAct (wsV RX9 400 RX9 yX9_movesAll wsX9_movesAll) := goodIn_app (good_rp ([3, 4, 5, 6] : List Nat) rfl (by decide +kernel)) ggX9_keepsAct_X9_movesAll
set_option maxRecDepth 20000 in
theorem bq_wsX9_keepsAll : subq wsX9_keepsAll [wsX9_keepsAll_r1, wsX9_keepsAll_r2] := ⟨(fun _ h => (List.mem_cons_of_mem _ (List.mem_append_left _ (List.mem_append_left _ h)))), (fun _ h => (List.mem_cons_of_mem _ (List.mem_append_left _ (List.mem_append_right _ h)))), trivial⟩
set_option maxRecDepth 20000 in
theorem ggX9_keepsAll_X9_carriesAll : GoodIn wsX9_keepsAll wsX9_carriesAll := (goodIn_cons (good_rb bq_wsX9_keepsAll ([(0, 4)] : List (Nat × Nat)) rfl (by decide +kernel)) (goodIn_app (good_rb bq_wsX9_keepsAll ([(0, 5), (0, 6), (0, 7), (0, 8), (0, 9), (0, 10), (0, 11), (0, 12), (0, 13), (0, 14), (0, 15), (0, 16), (0, 17), (0, 18), (0, 19), (0, 20), (0, 21), (0, 22), (0, 23), (0, 3), (1, 0), (1, 1)] : List (Nat × Nat)) rfl (by decide +kernel)) (goodIn_sb (fun _ h => (List.mem_cons_of_mem _ (List.mem_append_right _ h))) (by decide +kernel))))
set_option maxRecDepth 20000 in
theorem gX9_keepsAll_X9_carriesAll : GoodIn wsX9_keepsAll (wsV RX9 415 RX9 yX9_carriesAll wsX9_carriesAll) := goodIn_app (good_rp ([1, 2, 3, 4] : List Nat) rfl (by decide +kernel)) ggX9_keepsAll_X9_carriesAll
set_option maxRecDepth 20000 in
theorem bq_wsX9_laysBack : subq wsX9_laysBack [wsX9_laysBack_r1, wsX9_laysBack_r2] := ⟨(fun _ h => (List.mem_cons_of_mem _ (List.mem_append_left _ (List.mem_append_left _ h)))), (fun _ h => (List.mem_cons_of_mem _ (List.mem_append_left _ (List.mem_append_right _ h)))), trivial⟩
set_option maxRecDepth 20000 in
theorem ggX9_laysBack_X9_carriesAll : GoodIn wsX9_laysBack wsX9_carriesAll := (goodIn_cons (good_rb bq_wsX9_laysBack ([(0, 4)] : List (Nat × Nat)) rfl (by decide +kernel)) (goodIn_app (good_rb bq_wsX9_laysBack ([(0, 5), (0, 6), (0, 7), (0, 8), (0, 9), (0, 10), (0, 11), (0, 12), (0, 13), (0, 14), (0, 15), (0, 16), (0, 17), (0, 18), (0, 19), (0, 20), (0, 21), (0, 22), (0, 23), (0, 3), (1, 0), (1, 1)] : List (Nat × Nat)) rfl (by decide +kernel)) (goodIn_sb (fun _ h => (List.mem_cons_of_mem _ (List.mem_append_right _ h))) (by decide +kernel))))
set_option maxRecDepth 20000 in
theorem gX9_laysBack_X9_carriesAll : GoodIn wsX9_laysBack (wsV RX9 415 RX9 yX9_carriesAll wsX9_carriesAll) := goodIn_app (good_rp ([1, 2, 3, 4] : List Nat) rfl (by decide +kernel)) ggX9_laysBack_X9_carriesAll
set_option maxRecDepth 20000 in
theorem bq_wsX9_let : subq wsX9_let [wsX9_let_r1, wsX9_let_r2, wsX9_let_r3] := ⟨(fun _ h => (List.mem_cons_of_mem _ (List.mem_append_left _ (List.mem_append_left _ h)))), (fun _ h => (List.mem_cons_of_mem _ (List.mem_append_left _ (List.mem_append_right _ (List.mem_append_left _ h))))), (fun _ h => (List.mem_cons_of_mem _ (List.mem_append_left _ (List.mem_append_right _ (List.mem_append_right _ h))))), trivial⟩
set_option maxRecDepth 20000 in
theorem ggX9_let_X9_in : GoodIn wsX9_let wsX9_in := (goodIn_cons (good_rb bq_wsX9_let ([(0, 10)] : List (Nat × Nat)) rfl (by decide +kernel)) (good_rb bq_wsX9_let ([] : List (Nat × Nat)) rfl (by decide +kernel)))
set_option maxRecDepth 20000 in
theorem gX9_let_X9_in : GoodIn wsX9_let (va_wsS RX9 131 yX9_in wsX9_in) := goodIn_app (good_rp ([9, 10, 6] : List Nat) rfl (by decide +kernel)) ggX9_let_X9_in
set_option maxRecDepth 20000 in
theorem ggX9_let_X9_isStrand : GoodIn wsX9_let wsX9_isStrand := (goodIn_cons (good_rb bq_wsX9_let ([(0, 6)] : List (Nat × Nat)) rfl (by decide +kernel)) (goodIn_app (good_rb bq_wsX9_let ([(0, 7), (0, 8), (0, 9), (0, 5), (0, 10)] : List (Nat × Nat)) rfl (by decide +kernel)) (goodIn_sb (fun _ h => (List.mem_cons_of_mem _ (List.mem_append_right _ h))) (by decide +kernel))))
set_option maxRecDepth 20000 in
theorem gX9_let_X9_isStrand : GoodIn wsX9_let (wsV RX9 347 RX9 yX9_isStrand wsX9_isStrand) := goodIn_app (good_rp ([3, 4, 5, 6] : List Nat) rfl (by decide +kernel)) ggX9_let_X9_isStrand
set_option maxRecDepth 20000 in
theorem ggX9_let_X9_keepsAct : GoodIn wsX9_let wsX9_keepsAct := (goodIn_cons (good_rb bq_wsX9_let ([(0, 14)] : List (Nat × Nat)) rfl (by decide +kernel)) (goodIn_app (good_rb bq_wsX9_let ([(0, 15), (0, 16), (0, 17), (0, 18), (0, 19), (0, 5), (0, 20), (0, 21), (0, 22), (0, 7), (0, 1), (0, 23), (1, 0), (1, 1), (1, 2), (1, 3), (1, 4), (1, 5), (1, 6), (1, 7)] : List (Nat × Nat)) rfl (by decide +kernel)) (goodIn_sb (fun _ h => (List.mem_cons_of_mem _ (List.mem_append_right _ h))) (by decide +kernel))))
set_option maxRecDepth 20000 in
theorem gX9_let_X9_keepsAct : GoodIn wsX9_let (wsV RX9 407 RX9 yX9_keepsAct wsX9_keepsAct) := goodIn_app (good_rp ([12, 13, 14, 6] : List Nat) rfl (by decide +kernel)) ggX9_let_X9_keepsAct
set_option maxRecDepth 20000 in
theorem ggX9_let_X9_settles : GoodIn wsX9_let wsX9_settles := (goodIn_cons (good_rb bq_wsX9_let ([(1, 11)] : List (Nat × Nat)) rfl (by decide +kernel)) (goodIn_app (goodIn_app (good_rb bq_wsX9_let ([(0, 7), (0, 23), (1, 12), (1, 13), (1, 14), (0, 5), (1, 15), (1, 16), (1, 17), (1, 18), (1, 19), (1, 20), (1, 21), (1, 22), (1, 23), (2, 0), (2, 1), (2, 2), (2, 3), (2, 4), (2, 5), (0, 1), (2, 6), (2, 7)] : List (Nat × Nat)) rfl (by decide +kernel)) (good_rb bq_wsX9_let ([(2, 8), (2, 9), (2, 10), (2, 11), (2, 12), (2, 13), (2, 14)] : List (Nat × Nat)) rfl (by decide +kernel))) (goodIn_sb (fun _ h => (List.mem_cons_of_mem _ (List.mem_append_right _ h))) (by decide +kernel))))
set_option maxRecDepth 20000 in
theorem gX9_let_X9_settles : GoodIn wsX9_let (wsV RX9 380 RX9 yX9_settles wsX9_settles) := goodIn_app (good_rp ([33, 34, 35, 6] : List Nat) rfl (by decide +kernel)) ggX9_let_X9_settles
set_option maxRecDepth 20000 in
theorem bq_wsX9_minute : subq wsX9_minute [wsX9_minute_r1, wsX9_minute_r2, wsX9_minute_r3, wsX9_minute_r4, wsX9_minute_r5] := ⟨(fun _ h => (List.mem_cons_of_mem _ (List.mem_append_left _ (List.mem_append_left _ h)))), (fun _ h => (List.mem_cons_of_mem _ (List.mem_append_left _ (List.mem_append_right _ (List.mem_append_left _ h))))), (fun _ h => (List.mem_cons_of_mem _ (List.mem_append_left _ (List.mem_append_right _ (List.mem_append_right _ (List.mem_append_left _ h)))))), (fun _ h => (List.mem_cons_of_mem _ (List.mem_append_left _ (List.mem_append_right _ (List.mem_append_right _ (List.mem_append_right _ (List.mem_append_left _ h))))))), (fun _ h => (List.mem_cons_of_mem _ (List.mem_append_left _ (List.mem_append_right _ (List.mem_append_right _ (List.mem_append_right _ (List.mem_append_right _ h))))))), trivial⟩
set_option maxRecDepth 20000 in
theorem ggX9_minute_X9_goes : GoodIn wsX9_minute wsX9_goes := (goodIn_cons (good_rb bq_wsX9_minute ([(1, 7)] : List (Nat × Nat)) rfl (by decide +kernel)) (goodIn_app (goodIn_app (good_rb bq_wsX9_minute ([(0, 0), (0, 19), (1, 8), (1, 9), (1, 10), (0, 4), (1, 11), (1, 12), (1, 13), (1, 14), (1, 15), (1, 16), (1, 17), (0, 18), (1, 18), (1, 19), (1, 20), (1, 21), (1, 22), (1, 23), (2, 0), (2, 1), (2, 2), (2, 3)] : List (Nat × Nat)) rfl (by decide +kernel)) (goodIn_app (good_rb bq_wsX9_minute ([(2, 4), (2, 5), (2, 6), (2, 7), (2, 8), (2, 9), (2, 10), (2, 11), (2, 12), (2, 13), (2, 14), (2, 15), (2, 16), (2, 17), (2, 18), (2, 19), (2, 20), (2, 21), (2, 22), (2, 23), (3, 0), (3, 1), (3, 2), (3, 3)] : List (Nat × Nat)) rfl (by decide +kernel)) (good_rb bq_wsX9_minute ([(3, 4), (3, 5), (3, 6), (3, 7), (3, 8), (3, 9), (3, 10), (3, 11), (3, 12), (3, 13), (3, 14), (3, 15), (3, 16), (3, 17), (3, 18), (3, 19), (3, 20), (3, 21), (3, 22), (3, 23), (4, 0)] : List (Nat × Nat)) rfl (by decide +kernel)))) (goodIn_sb (fun _ h => (List.mem_cons_of_mem _ (List.mem_append_right _ h))) (by decide +kernel))))
set_option maxRecDepth 20000 in
theorem gX9_minute_X9_goes : GoodIn wsX9_minute (wsV RX9 383 RX9 yX9_goes wsX9_goes) := goodIn_app (good_rp ([29, 30, 31, 5] : List Nat) rfl (by decide +kernel)) ggX9_minute_X9_goes
set_option maxRecDepth 20000 in
theorem ggX9_minute_X9_isHall : GoodIn wsX9_minute wsX9_isHall := (goodIn_cons (good_rb bq_wsX9_minute ([(0, 5)] : List (Nat × Nat)) rfl (by decide +kernel)) (goodIn_app (good_rb bq_wsX9_minute ([(0, 0)] : List (Nat × Nat)) rfl (by decide +kernel)) (goodIn_sb (fun _ h => (List.mem_cons_of_mem _ (List.mem_append_right _ h))) (by decide +kernel))))
set_option maxRecDepth 20000 in
theorem gX9_minute_X9_isHall : GoodIn wsX9_minute (wsV RX9 404 RX9 yX9_isHall wsX9_isHall) := goodIn_app (good_rp ([2, 3, 4, 5] : List Nat) rfl (by decide +kernel)) ggX9_minute_X9_isHall
set_option maxRecDepth 20000 in
theorem ggX9_minute_X9_keepsAct : GoodIn wsX9_minute wsX9_keepsAct := (goodIn_cons (good_rb bq_wsX9_minute ([(0, 9)] : List (Nat × Nat)) rfl (by decide +kernel)) (goodIn_app (good_rb bq_wsX9_minute ([(0, 10), (0, 11), (0, 12), (0, 13), (0, 14), (0, 4), (0, 15), (0, 16), (0, 17), (0, 0), (0, 18), (0, 19), (0, 20), (0, 21), (0, 22), (0, 23), (1, 0), (1, 1), (1, 2), (1, 3)] : List (Nat × Nat)) rfl (by decide +kernel)) (goodIn_sb (fun _ h => (List.mem_cons_of_mem _ (List.mem_append_right _ h))) (by decide +kernel))))
set_option maxRecDepth 20000 in
theorem gX9_minute_X9_keepsAct : GoodIn wsX9_minute (wsV RX9 407 RX9 yX9_keepsAct wsX9_keepsAct) := goodIn_app (good_rp ([7, 8, 9, 5] : List Nat) rfl (by decide +kernel)) ggX9_minute_X9_keepsAct
set_option maxRecDepth 20000 in
theorem bq_wsX9_most : subq wsX9_most [wsX9_most_r1, wsX9_most_r2] := ⟨(fun _ h => (List.mem_cons_of_mem _ (List.mem_append_left _ (List.mem_append_left _ h)))), (fun _ h => (List.mem_cons_of_mem _ (List.mem_append_left _ (List.mem_append_right _ h)))), trivial⟩
set_option maxRecDepth 20000 in
theorem ggX9_most_X9_dropsOf : GoodIn wsX9_most wsX9_dropsOf := (goodIn_cons (good_rb bq_wsX9_most ([(0, 18)] : List (Nat × Nat)) rfl (by decide +kernel)) (goodIn_app (good_rb bq_wsX9_most ([(0, 6), (0, 19), (0, 20), (0, 21), (0, 22), (0, 4), (0, 23), (1, 0), (1, 1), (1, 2), (1, 3), (1, 4), (0, 0), (1, 5), (1, 6), (1, 7), (1, 8), (1, 9), (1, 10), (1, 11), (1, 12), (1, 13)] : List (Nat × Nat)) rfl (by decide +kernel)) (goodIn_sb (fun _ h => (List.mem_cons_of_mem _ (List.mem_append_right _ h))) (by decide +kernel))))
set_option maxRecDepth 20000 in
theorem gX9_most_X9_dropsOf : GoodIn wsX9_most (wsV RX9 367 RX9 yX9_dropsOf wsX9_dropsOf) := goodIn_app (good_rp ([16, 17, 18, 5] : List Nat) rfl (by decide +kernel)) ggX9_most_X9_dropsOf
set_option maxRecDepth 20000 in
theorem ggX9_most_X9_isStrand : GoodIn wsX9_most wsX9_isStrand := (goodIn_cons (good_rb bq_wsX9_most ([(0, 5)] : List (Nat × Nat)) rfl (by decide +kernel)) (goodIn_app (good_rb bq_wsX9_most ([(0, 6), (0, 7), (0, 8), (0, 4), (0, 9)] : List (Nat × Nat)) rfl (by decide +kernel)) (goodIn_sb (fun _ h => (List.mem_cons_of_mem _ (List.mem_append_right _ h))) (by decide +kernel))))
set_option maxRecDepth 20000 in
theorem gX9_most_X9_isStrand : GoodIn wsX9_most (wsV RX9 347 RX9 yX9_isStrand wsX9_isStrand) := goodIn_app (good_rp ([2, 3, 4, 5] : List Nat) rfl (by decide +kernel)) ggX9_most_X9_isStrand
set_option maxRecDepth 20000 in
theorem ggX9_most_X9_those : GoodIn wsX9_most wsX9_those := (goodIn_cons (good_rb bq_wsX9_most ([(0, 13)] : List (Nat × Nat)) rfl (by decide +kernel)) (goodIn_app (good_rb bq_wsX9_most ([(0, 6), (0, 14)] : List (Nat × Nat)) rfl (by decide +kernel)) (goodIn_sb (fun _ h => (List.mem_cons_of_mem _ (List.mem_append_right _ h))) (by decide +kernel))))
set_option maxRecDepth 20000 in
theorem gX9_most_X9_those : GoodIn wsX9_most (wsV RX9 341 RX9 yX9_those wsX9_those) := goodIn_app (good_rp ([11, 12, 13, 5] : List Nat) rfl (by decide +kernel)) ggX9_most_X9_those
set_option maxRecDepth 20000 in
theorem bq_wsX9_movesAll : subq wsX9_movesAll [[.fieldLink RX9 390 "ChairCaneModel" "pastAt" "I", .fieldLink RX9 386 "ChairCaneModel" "takesBack" "Z", .fieldLink RX9 9 "ChairCaneModel" "scalar" "[I", .fieldLink RX9 13 "ChairCaneModel" "cane" "[I", .fieldLink RX9 16 "ChairCaneModel" "is" "[I", .methodLink RX9 393 yX9_moves, .instanceMethod yX9_moves, .selects RX9 yX9_moves yX9_moves, .initialized RX9, .code yX9_moves cX9_moves 3 (some .int), .fieldLink RX9 100 "ChairCaneModel" "past" "[I", .methodLink RX9 396 yX9_movesRow, .instanceMethod yX9_movesRow, .selects RX9 yX9_movesRow yX9_movesRow, .code yX9_movesRow cX9_movesRow 3 none]] := ⟨(fun _ h => (List.mem_cons_of_mem _ (List.mem_append_left _ h))), trivial⟩
set_option maxRecDepth 20000 in
theorem ggX9_movesAll_X9_moves : GoodIn wsX9_movesAll wsX9_moves := (goodIn_cons (good_rb bq_wsX9_movesAll ([(0, 9)] : List (Nat × Nat)) rfl (by decide +kernel)) (goodIn_app (good_rb bq_wsX9_movesAll ([(0, 1), (0, 10), (0, 0)] : List (Nat × Nat)) rfl (by decide +kernel)) (goodIn_sb (fun _ h => (List.mem_cons_of_mem _ (List.mem_append_right _ h))) (by decide +kernel))))
set_option maxRecDepth 20000 in
theorem gX9_movesAll_X9_moves : GoodIn wsX9_movesAll (wsV RX9 393 RX9 yX9_moves wsX9_moves) := goodIn_app (good_rp ([6, 7, 8, 9] : List Nat) rfl (by decide +kernel)) ggX9_movesAll_X9_moves
set_option maxRecDepth 20000 in
theorem ggX9_movesAll_X9_movesRow : GoodIn wsX9_movesAll wsX9_movesRow := (goodIn_cons (good_rb bq_wsX9_movesAll ([(0, 14)] : List (Nat × Nat)) rfl (by decide +kernel)) (goodIn_app (good_rb bq_wsX9_movesAll ([(0, 5), (0, 6), (0, 7), (0, 8), (0, 9), (0, 1), (0, 10), (0, 0)] : List (Nat × Nat)) rfl (by decide +kernel)) (goodIn_sb (fun _ h => (List.mem_cons_of_mem _ (List.mem_append_right _ h))) (by decide +kernel))))
set_option maxRecDepth 20000 in
theorem gX9_movesAll_X9_movesRow : GoodIn wsX9_movesAll (wsV RX9 396 RX9 yX9_movesRow wsX9_movesRow) := goodIn_app (good_rp ([12, 13, 14, 9] : List Nat) rfl (by decide +kernel)) ggX9_movesAll_X9_movesRow
set_option maxRecDepth 20000 in
theorem bq_wsX9_movesRow : subq wsX9_movesRow [[.methodLink RX9 393 yX9_moves, .instanceMethod yX9_moves, .selects RX9 yX9_moves yX9_moves, .initialized RX9, .code yX9_moves cX9_moves 3 (some .int), .fieldLink RX9 386 "ChairCaneModel" "takesBack" "Z", .fieldLink RX9 100 "ChairCaneModel" "past" "[I", .fieldLink RX9 390 "ChairCaneModel" "pastAt" "I"]] := ⟨(fun _ h => (List.mem_cons_of_mem _ (List.mem_append_left _ h))), trivial⟩
set_option maxRecDepth 20000 in
theorem ggX9_movesRow_X9_moves : GoodIn wsX9_movesRow wsX9_moves := (goodIn_cons (good_rb bq_wsX9_movesRow ([(0, 4)] : List (Nat × Nat)) rfl (by decide +kernel)) (goodIn_app (good_rb bq_wsX9_movesRow ([(0, 5), (0, 6), (0, 7)] : List (Nat × Nat)) rfl (by decide +kernel)) (goodIn_sb (fun _ h => (List.mem_cons_of_mem _ (List.mem_append_right _ h))) (by decide +kernel))))
set_option maxRecDepth 20000 in
theorem gX9_movesRow_X9_moves : GoodIn wsX9_movesRow (wsV RX9 393 RX9 yX9_moves wsX9_moves) := goodIn_app (good_rp ([1, 2, 3, 4] : List Nat) rfl (by decide +kernel)) ggX9_movesRow_X9_moves
set_option maxRecDepth 20000 in
theorem bq_wsX9_nextOf : subq wsX9_nextOf [wsX9_nextOf_r1, wsX9_nextOf_r2] := ⟨(fun _ h => (List.mem_cons_of_mem _ (List.mem_append_left _ (List.mem_append_left _ h)))), (fun _ h => (List.mem_cons_of_mem _ (List.mem_append_left _ (List.mem_append_right _ h)))), trivial⟩
set_option maxRecDepth 20000 in
theorem ggX9_nextOf_X9_dropsOf : GoodIn wsX9_nextOf wsX9_dropsOf := (goodIn_cons (good_rb bq_wsX9_nextOf ([(0, 9)] : List (Nat × Nat)) rfl (by decide +kernel)) (goodIn_app (good_rb bq_wsX9_nextOf ([(0, 0), (0, 10), (0, 11), (0, 2), (0, 3), (0, 4), (0, 5), (0, 12), (0, 13), (0, 14), (0, 15), (0, 16), (0, 17), (0, 18), (0, 19), (0, 20), (0, 21), (0, 22), (0, 23), (1, 0), (1, 1), (1, 2)] : List (Nat × Nat)) rfl (by decide +kernel)) (goodIn_sb (fun _ h => (List.mem_cons_of_mem _ (List.mem_append_right _ h))) (by decide +kernel))))
set_option maxRecDepth 20000 in
theorem gX9_nextOf_X9_dropsOf : GoodIn wsX9_nextOf (wsV RX9 367 RX9 yX9_dropsOf wsX9_dropsOf) := goodIn_app (good_rp ([7, 8, 9, 5] : List Nat) rfl (by decide +kernel)) ggX9_nextOf_X9_dropsOf
set_option maxRecDepth 20000 in
theorem ggX9_nextOf_X9_has : GoodIn wsX9_nextOf wsX9_has := (goodIn_cons (good_rb bq_wsX9_nextOf ([(0, 5)] : List (Nat × Nat)) rfl (by decide +kernel)) (good_rb bq_wsX9_nextOf ([] : List (Nat × Nat)) rfl (by decide +kernel)))
set_option maxRecDepth 20000 in
theorem gX9_nextOf_X9_has : GoodIn wsX9_nextOf (va_wsS RX9 332 yX9_has wsX9_has) := goodIn_app (good_rp ([3, 4, 5] : List Nat) rfl (by decide +kernel)) ggX9_nextOf_X9_has
set_option maxRecDepth 20000 in
theorem bq_wsX9_rise : subq wsX9_rise [wsX9_rise_r1, wsX9_rise_r2, wsX9_rise_r3] := ⟨(fun _ h => (List.mem_cons_of_mem _ (List.mem_append_left _ (List.mem_append_left _ h)))), (fun _ h => (List.mem_cons_of_mem _ (List.mem_append_left _ (List.mem_append_right _ (List.mem_append_left _ h))))), (fun _ h => (List.mem_cons_of_mem _ (List.mem_append_left _ (List.mem_append_right _ (List.mem_append_right _ h))))), trivial⟩
set_option maxRecDepth 20000 in
theorem ggX9_rise_X9_isSo : GoodIn wsX9_rise wsX9_isSo := (goodIn_cons (good_rb bq_wsX9_rise ([(0, 5)] : List (Nat × Nat)) rfl (by decide +kernel)) (goodIn_app (good_rb bq_wsX9_rise ([(0, 0), (0, 6), (0, 7), (0, 8), (0, 4), (0, 9), (0, 10), (0, 11), (0, 12), (0, 13)] : List (Nat × Nat)) rfl (by decide +kernel)) (goodIn_sb (fun _ h => (List.mem_cons_of_mem _ (List.mem_append_right _ h))) (by decide +kernel))))
set_option maxRecDepth 20000 in
theorem gX9_rise_X9_isSo : GoodIn wsX9_rise (wsV RX9 410 RX9 yX9_isSo wsX9_isSo) := goodIn_app (good_rp ([2, 3, 4, 5] : List Nat) rfl (by decide +kernel)) ggX9_rise_X9_isSo
set_option maxRecDepth 20000 in
theorem ggX9_rise_X9_keepsAct : GoodIn wsX9_rise wsX9_keepsAct := (goodIn_cons (good_rb bq_wsX9_rise ([(0, 17)] : List (Nat × Nat)) rfl (by decide +kernel)) (goodIn_app (good_rb bq_wsX9_rise ([(0, 18), (0, 19), (0, 20), (0, 21), (0, 22), (0, 4), (0, 23), (1, 0), (1, 1), (0, 10), (1, 2), (0, 0), (1, 3), (1, 4), (1, 5), (1, 6), (1, 7), (1, 8), (1, 9), (1, 10)] : List (Nat × Nat)) rfl (by decide +kernel)) (goodIn_sb (fun _ h => (List.mem_cons_of_mem _ (List.mem_append_right _ h))) (by decide +kernel))))
set_option maxRecDepth 20000 in
theorem gX9_rise_X9_keepsAct : GoodIn wsX9_rise (wsV RX9 407 RX9 yX9_keepsAct wsX9_keepsAct) := goodIn_app (good_rp ([15, 16, 17, 5] : List Nat) rfl (by decide +kernel)) ggX9_rise_X9_keepsAct
set_option maxRecDepth 20000 in
theorem ggX9_rise_X9_settles : GoodIn wsX9_rise wsX9_settles := (goodIn_cons (good_rb bq_wsX9_rise ([(1, 14)] : List (Nat × Nat)) rfl (by decide +kernel)) (goodIn_app (goodIn_app (good_rb bq_wsX9_rise ([(0, 10), (0, 0), (1, 15), (1, 16), (1, 17), (0, 4), (1, 18), (1, 19), (1, 20), (1, 21), (1, 22), (1, 23), (2, 0), (2, 1), (2, 2), (2, 3), (2, 4), (2, 5), (2, 6), (2, 7), (2, 8), (1, 2), (2, 9), (2, 10)] : List (Nat × Nat)) rfl (by decide +kernel)) (good_rb bq_wsX9_rise ([(2, 11), (2, 12), (2, 13), (2, 14), (2, 15), (2, 16), (2, 17)] : List (Nat × Nat)) rfl (by decide +kernel))) (goodIn_sb (fun _ h => (List.mem_cons_of_mem _ (List.mem_append_right _ h))) (by decide +kernel))))
set_option maxRecDepth 20000 in
theorem gX9_rise_X9_settles : GoodIn wsX9_rise (wsV RX9 380 RX9 yX9_settles wsX9_settles) := goodIn_app (good_rp ([36, 37, 38, 5] : List Nat) rfl (by decide +kernel)) ggX9_rise_X9_settles
set_option maxRecDepth 20000 in
theorem bq_wsX9_sit : subq wsX9_sit [wsX9_sit_r1, wsX9_sit_r2, wsX9_sit_r3] := ⟨(fun _ h => (List.mem_cons_of_mem _ (List.mem_append_left _ (List.mem_append_left _ h)))), (fun _ h => (List.mem_cons_of_mem _ (List.mem_append_left _ (List.mem_append_right _ (List.mem_append_left _ h))))), (fun _ h => (List.mem_cons_of_mem _ (List.mem_append_left _ (List.mem_append_right _ (List.mem_append_right _ h))))), trivial⟩
set_option maxRecDepth 20000 in
theorem ggX9_sit_X9_isSo : GoodIn wsX9_sit wsX9_isSo := (goodIn_cons (good_rb bq_wsX9_sit ([(0, 5)] : List (Nat × Nat)) rfl (by decide +kernel)) (goodIn_app (good_rb bq_wsX9_sit ([(0, 0), (0, 6), (0, 7), (0, 8), (0, 4), (0, 9), (0, 10), (0, 11), (0, 12), (0, 13)] : List (Nat × Nat)) rfl (by decide +kernel)) (goodIn_sb (fun _ h => (List.mem_cons_of_mem _ (List.mem_append_right _ h))) (by decide +kernel))))
set_option maxRecDepth 20000 in
theorem gX9_sit_X9_isSo : GoodIn wsX9_sit (wsV RX9 410 RX9 yX9_isSo wsX9_isSo) := goodIn_app (good_rp ([2, 3, 4, 5] : List Nat) rfl (by decide +kernel)) ggX9_sit_X9_isSo
set_option maxRecDepth 20000 in
theorem ggX9_sit_X9_keepsAct : GoodIn wsX9_sit wsX9_keepsAct := (goodIn_cons (good_rb bq_wsX9_sit ([(0, 17)] : List (Nat × Nat)) rfl (by decide +kernel)) (goodIn_app (good_rb bq_wsX9_sit ([(0, 18), (0, 19), (0, 20), (0, 21), (0, 22), (0, 4), (0, 23), (1, 0), (1, 1), (0, 10), (1, 2), (0, 0), (1, 3), (1, 4), (1, 5), (1, 6), (1, 7), (1, 8), (1, 9), (1, 10)] : List (Nat × Nat)) rfl (by decide +kernel)) (goodIn_sb (fun _ h => (List.mem_cons_of_mem _ (List.mem_append_right _ h))) (by decide +kernel))))
set_option maxRecDepth 20000 in
theorem gX9_sit_X9_keepsAct : GoodIn wsX9_sit (wsV RX9 407 RX9 yX9_keepsAct wsX9_keepsAct) := goodIn_app (good_rp ([15, 16, 17, 5] : List Nat) rfl (by decide +kernel)) ggX9_sit_X9_keepsAct
set_option maxRecDepth 20000 in
theorem ggX9_sit_X9_settles : GoodIn wsX9_sit wsX9_settles := (goodIn_cons (good_rb bq_wsX9_sit ([(1, 14)] : List (Nat × Nat)) rfl (by decide +kernel)) (goodIn_app (goodIn_app (good_rb bq_wsX9_sit ([(0, 10), (0, 0), (1, 15), (1, 16), (1, 17), (0, 4), (1, 18), (1, 19), (1, 20), (1, 21), (1, 22), (1, 23), (2, 0), (2, 1), (2, 2), (2, 3), (2, 4), (2, 5), (2, 6), (2, 7), (2, 8), (1, 2), (2, 9), (2, 10)] : List (Nat × Nat)) rfl (by decide +kernel)) (good_rb bq_wsX9_sit ([(2, 11), (2, 12), (2, 13), (2, 14), (2, 15), (2, 16), (2, 17)] : List (Nat × Nat)) rfl (by decide +kernel))) (goodIn_sb (fun _ h => (List.mem_cons_of_mem _ (List.mem_append_right _ h))) (by decide +kernel))))
set_option maxRecDepth 20000 in
theorem gX9_sit_X9_settles : GoodIn wsX9_sit (wsV RX9 380 RX9 yX9_settles wsX9_settles) := goodIn_app (good_rp ([36, 37, 38, 5] : List Nat) rfl (by decide +kernel)) ggX9_sit_X9_settles
set_option maxRecDepth 20000 in
theorem bq_wsX9_tall : subq wsX9_tall [wsX9_tall_r1, wsX9_tall_r2, wsX9_tall_r3, wsX9_tall_r4] := ⟨(fun _ h => (List.mem_cons_of_mem _ (List.mem_append_left _ (List.mem_append_left _ h)))), (fun _ h => (List.mem_cons_of_mem _ (List.mem_append_left _ (List.mem_append_right _ (List.mem_append_left _ h))))), (fun _ h => (List.mem_cons_of_mem _ (List.mem_append_left _ (List.mem_append_right _ (List.mem_append_right _ (List.mem_append_left _ h)))))), (fun _ h => (List.mem_cons_of_mem _ (List.mem_append_left _ (List.mem_append_right _ (List.mem_append_right _ (List.mem_append_right _ h)))))), trivial⟩
set_option maxRecDepth 20000 in
theorem ggX9_tall_X9_bits : GoodIn wsX9_tall wsX9_bits := (goodIn_cons (good_rb bq_wsX9_tall ([(3, 2)] : List (Nat × Nat)) rfl (by decide +kernel)) (good_rb bq_wsX9_tall ([] : List (Nat × Nat)) rfl (by decide +kernel)))
set_option maxRecDepth 20000 in
theorem gX9_tall_X9_bits : GoodIn wsX9_tall (va_wsS RX9 370 yX9_bits wsX9_bits) := goodIn_app (good_rp ([73, 74, 6] : List Nat) rfl (by decide +kernel)) ggX9_tall_X9_bits
set_option maxRecDepth 20000 in
theorem ggX9_tall_X9_felledBy : GoodIn wsX9_tall wsX9_felledBy := (goodIn_cons (good_rb bq_wsX9_tall ([(0, 13)] : List (Nat × Nat)) rfl (by decide +kernel)) (goodIn_app (goodIn_app (good_rb bq_wsX9_tall ([(0, 1), (0, 14), (0, 15), (0, 16), (0, 5), (0, 17), (0, 18), (0, 19), (0, 20), (0, 21), (0, 22), (0, 23), (0, 0), (1, 0), (1, 1), (1, 2), (1, 3), (1, 4), (1, 5), (1, 6), (1, 7), (1, 8), (1, 9), (1, 10)] : List (Nat × Nat)) rfl (by decide +kernel)) (goodIn_app (good_rb bq_wsX9_tall ([(1, 11), (1, 12), (1, 13), (1, 14), (1, 15), (1, 16), (1, 17), (1, 18), (1, 19), (1, 20), (1, 21), (1, 22), (1, 23), (2, 0), (2, 1), (2, 2), (2, 3), (2, 4), (2, 5), (2, 6), (2, 7), (2, 8), (2, 9), (2, 10)] : List (Nat × Nat)) rfl (by decide +kernel)) (good_rb bq_wsX9_tall ([(2, 11), (2, 12), (2, 13), (2, 14), (2, 15), (2, 16), (2, 17), (2, 18), (2, 19), (2, 20), (2, 21), (2, 22), (2, 23)] : List (Nat × Nat)) rfl (by decide +kernel)))) (goodIn_sb (fun _ h => (List.mem_cons_of_mem _ (List.mem_append_right _ h))) (by decide +kernel))))
set_option maxRecDepth 20000 in
theorem gX9_tall_X9_felledBy : GoodIn wsX9_tall (wsV RX9 429 RX9 yX9_felledBy wsX9_felledBy) := goodIn_app (good_rp ([11, 12, 13, 6] : List Nat) rfl (by decide +kernel)) ggX9_tall_X9_felledBy
set_option maxRecDepth 20000 in
theorem ggX9_tall_X9_in : GoodIn wsX9_tall wsX9_in := (goodIn_cons (good_rb bq_wsX9_tall ([(0, 9)] : List (Nat × Nat)) rfl (by decide +kernel)) (good_rb bq_wsX9_tall ([] : List (Nat × Nat)) rfl (by decide +kernel)))
set_option maxRecDepth 20000 in
theorem gX9_tall_X9_in : GoodIn wsX9_tall (va_wsS RX9 131 yX9_in wsX9_in) := goodIn_app (good_rp ([8, 9, 6] : List Nat) rfl (by decide +kernel)) ggX9_tall_X9_in
set_option maxRecDepth 20000 in
theorem ggX9_tall_X9_isHall : GoodIn wsX9_tall wsX9_isHall := (goodIn_cons (good_rb bq_wsX9_tall ([(0, 6)] : List (Nat × Nat)) rfl (by decide +kernel)) (goodIn_app (good_rb bq_wsX9_tall ([(0, 0)] : List (Nat × Nat)) rfl (by decide +kernel)) (goodIn_sb (fun _ h => (List.mem_cons_of_mem _ (List.mem_append_right _ h))) (by decide +kernel))))
set_option maxRecDepth 20000 in
theorem gX9_tall_X9_isHall : GoodIn wsX9_tall (wsV RX9 404 RX9 yX9_isHall wsX9_isHall) := goodIn_app (good_rp ([3, 4, 5, 6] : List Nat) rfl (by decide +kernel)) ggX9_tall_X9_isHall
set_option maxRecDepth 20000 in
theorem bq_wsX9_undo : subq wsX9_undo [[.fieldLink RX9 299 "ChairCaneModel" "pastMany" "I", .methodLink RX9 400 yX9_movesAll, .instanceMethod yX9_movesAll, .selects RX9 yX9_movesAll yX9_movesAll, .initialized RX9, .code yX9_movesAll cX9_movesAll 3 none, .fieldLink RX9 390 "ChairCaneModel" "pastAt" "I", .fieldLink RX9 386 "ChairCaneModel" "takesBack" "Z", .fieldLink RX9 9 "ChairCaneModel" "scalar" "[I", .fieldLink RX9 13 "ChairCaneModel" "cane" "[I", .fieldLink RX9 16 "ChairCaneModel" "is" "[I", .methodLink RX9 393 yX9_moves, .instanceMethod yX9_moves, .selects RX9 yX9_moves yX9_moves, .code yX9_moves cX9_moves 3 (some .int), .fieldLink RX9 100 "ChairCaneModel" "past" "[I", .methodLink RX9 396 yX9_movesRow, .instanceMethod yX9_movesRow, .selects RX9 yX9_movesRow yX9_movesRow, .code yX9_movesRow cX9_movesRow 3 none]] := ⟨(fun _ h => (List.mem_cons_of_mem _ (List.mem_append_left _ h))), trivial⟩
set_option maxRecDepth 20000 in
theorem ggX9_undo_X9_movesAll : GoodIn wsX9_undo wsX9_movesAll := (goodIn_cons (good_rb bq_wsX9_undo ([(0, 5)] : List (Nat × Nat)) rfl (by decide +kernel)) (goodIn_app (good_rb bq_wsX9_undo ([(0, 6), (0, 7), (0, 8), (0, 9), (0, 10), (0, 11), (0, 12), (0, 13), (0, 4), (0, 14), (0, 15), (0, 16), (0, 17), (0, 18), (0, 19)] : List (Nat × Nat)) rfl (by decide +kernel)) (goodIn_sb (fun _ h => (List.mem_cons_of_mem _ (List.mem_append_right _ h))) (by decide +kernel))))
set_option maxRecDepth 20000 in
theorem gX9_undo_X9_movesAll : GoodIn wsX9_undo (wsV RX9 400 RX9 yX9_movesAll wsX9_movesAll) := goodIn_app (good_rp ([2, 3, 4, 5] : List Nat) rfl (by decide +kernel)) ggX9_undo_X9_movesAll
set_option maxRecDepth 20000 in
theorem bq_wsX9_way : subq wsX9_way [wsX9_way_r1, wsX9_way_r2] := ⟨(fun _ h => (List.mem_cons_of_mem _ (List.mem_append_left _ (List.mem_append_left _ h)))), (fun _ h => (List.mem_cons_of_mem _ (List.mem_append_left _ (List.mem_append_right _ h)))), trivial⟩
set_option maxRecDepth 20000 in
theorem ggX9_way_X9_in : GoodIn wsX9_way wsX9_in := (goodIn_cons (good_rb bq_wsX9_way ([(0, 10)] : List (Nat × Nat)) rfl (by decide +kernel)) (good_rb bq_wsX9_way ([] : List (Nat × Nat)) rfl (by decide +kernel)))
set_option maxRecDepth 20000 in
theorem gX9_way_X9_in : GoodIn wsX9_way (va_wsS RX9 131 yX9_in wsX9_in) := goodIn_app (good_rp ([9, 10, 6] : List Nat) rfl (by decide +kernel)) ggX9_way_X9_in
set_option maxRecDepth 20000 in
theorem ggX9_way_X9_isHall : GoodIn wsX9_way wsX9_isHall := (goodIn_cons (good_rb bq_wsX9_way ([(0, 6)] : List (Nat × Nat)) rfl (by decide +kernel)) (goodIn_app (good_rb bq_wsX9_way ([(0, 7)] : List (Nat × Nat)) rfl (by decide +kernel)) (goodIn_sb (fun _ h => (List.mem_cons_of_mem _ (List.mem_append_right _ h))) (by decide +kernel))))
set_option maxRecDepth 20000 in
theorem gX9_way_X9_isHall : GoodIn wsX9_way (wsV RX9 404 RX9 yX9_isHall wsX9_isHall) := goodIn_app (good_rp ([3, 4, 5, 6] : List Nat) rfl (by decide +kernel)) ggX9_way_X9_isHall
set_option maxRecDepth 20000 in
theorem ggX9_way_X9_nextOf : GoodIn wsX9_way wsX9_nextOf := (goodIn_cons (good_rb bq_wsX9_way ([(0, 19)] : List (Nat × Nat)) rfl (by decide +kernel)) (goodIn_app (goodIn_app (good_rb bq_wsX9_way ([(0, 7), (0, 1), (0, 20), (0, 21), (0, 5), (0, 22), (0, 23), (1, 0), (1, 1), (1, 2), (1, 3), (1, 4), (1, 5), (1, 6), (1, 7), (1, 8), (1, 9), (1, 10), (1, 11), (1, 12), (1, 13), (1, 14), (1, 15), (1, 16)] : List (Nat × Nat)) rfl (by decide +kernel)) (good_rb bq_wsX9_way ([(1, 17), (1, 18), (1, 19)] : List (Nat × Nat)) rfl (by decide +kernel))) (goodIn_sb (fun _ h => (List.mem_cons_of_mem _ (List.mem_append_right _ h))) (by decide +kernel))))
set_option maxRecDepth 20000 in
theorem gX9_way_X9_nextOf : GoodIn wsX9_way (wsV RX9 434 RX9 yX9_nextOf wsX9_nextOf) := goodIn_app (good_rp ([17, 18, 19, 6] : List Nat) rfl (by decide +kernel)) ggX9_way_X9_nextOf
set_option maxRecDepth 20000 in
theorem ggX9_way_X9_those : GoodIn wsX9_way wsX9_those := (goodIn_cons (good_rb bq_wsX9_way ([(0, 14)] : List (Nat × Nat)) rfl (by decide +kernel)) (goodIn_app (good_rb bq_wsX9_way ([(0, 7), (0, 15)] : List (Nat × Nat)) rfl (by decide +kernel)) (goodIn_sb (fun _ h => (List.mem_cons_of_mem _ (List.mem_append_right _ h))) (by decide +kernel))))
set_option maxRecDepth 20000 in
theorem gX9_way_X9_those : GoodIn wsX9_way (wsV RX9 341 RX9 yX9_those wsX9_those) := goodIn_app (good_rp ([12, 13, 14, 6] : List Nat) rfl (by decide +kernel)) ggX9_way_X9_those
noncomputable def b_X9_moves_20 (F : Nat)    (y0 : Int32) (mi : Nat → Int32) (pr : Nat → Int32) : Option (Int32 × (Nat → Int32) × (Nat → Int32)) :=
  if ib (mi 42) 260 then (some (y0, (uF mi 42 ((mi 42) + 1)), (upd pr (Int32.toNatClampNeg (mi 42)) y0))) else none
noncomputable def f_X9_moves (F : Nat)  (x1 : Int32) (mi : Nat → Int32) (pr : Nat → Int32) : Option (Int32 × (Nat → Int32) × (Nat → Int32)) :=
  if (mi 43) = 0 then (b_X9_moves_20 F x1 mi pr) else (if ib (mi 42) 260 then (b_X9_moves_20 F (pr (Int32.toNatClampNeg (mi 42))) mi pr) else none)
set_option maxRecDepth 20000 in
theorem bq_wsX9_moves : subq wsX9_moves [[.fieldLink RX9 386 "ChairCaneModel" "takesBack" "Z", .fieldLink RX9 100 "ChairCaneModel" "past" "[I", .fieldLink RX9 390 "ChairCaneModel" "pastAt" "I"]] := ⟨(fun _ h => (List.mem_cons_of_mem _ (List.mem_append_left _ h))), trivial⟩
set_option maxHeartbeats 4000000 in
set_option maxRecDepth 100000 in
theorem c_X9_moves (l : Launch) (D : va_G) (k : Nat → ClassId) (sz : Nat)  (va : Nat → Nat) (F : Nat)  (x1 : Int32) (mi : Nat → Int32) (pr : Nat → Int32)  {res : Int32 × (Nat → Int32) × (Nat → Int32)} (h : f_X9_moves F x1 mi pr = some res) : CtI l yX9_moves wsX9_moves (rmK 1 0 0) [.ref (va 0), .int x1] D k sz (([((va 0), .inr (7, [.int (mi 0), .ref (va 1), .ref (va 2), .ref (va 3), .ref (va 4), .ref (va 5), .ref (va 6), .ref (va 7), .ref (va 8), .ref (va 9), .ref (va 10), .ref (va 11), .ref (va 12), .ref (va 13), .ref (va 14), .ref (va 15), .ref (va 16), .ref (va 17), .int (mi 18), .int (mi 19), .int (mi 20), .int (mi 21), .int (mi 22), .int (mi 23), .int (mi 24), .int (mi 25), .int (mi 26), .int (mi 27), .ref (va 18), .ref (va 19), .ref (va 20), .ref (va 21), .ref (va 22), .ref (va 23), .ref (va 24), .ref (va 25), .ref (va 26), .ref (va 27), .ref (va 28), .ref (va 29), .ref (va 30), .int (mi 41), .int (mi 42), .int (mi 43), .ref (va 31), .ref (va 32), .ref (va 33), .ref (va 34), .ref (va 35), .ref (va 36), .ref (va 37), .int (mi 51), .int (mi 52)]))] : va_W) ++ (([((va 29), hcI k 260 pr)] : va_W))) (fun r (_ : Unit) => r = res.1) (fun _ : Unit => ([((va 0), .inr (7, [.int (res.2.1 0), .ref (va 1), .ref (va 2), .ref (va 3), .ref (va 4), .ref (va 5), .ref (va 6), .ref (va 7), .ref (va 8), .ref (va 9), .ref (va 10), .ref (va 11), .ref (va 12), .ref (va 13), .ref (va 14), .ref (va 15), .ref (va 16), .ref (va 17), .int (res.2.1 18), .int (res.2.1 19), .int (res.2.1 20), .int (res.2.1 21), .int (res.2.1 22), .int (res.2.1 23), .int (res.2.1 24), .int (res.2.1 25), .int (res.2.1 26), .int (res.2.1 27), .ref (va 18), .ref (va 19), .ref (va 20), .ref (va 21), .ref (va 22), .ref (va 23), .ref (va 24), .ref (va 25), .ref (va 26), .ref (va 27), .ref (va 28), .ref (va 29), .ref (va 30), .int (res.2.1 41), .int (res.2.1 42), .int (res.2.1 43), .ref (va 31), .ref (va 32), .ref (va 33), .ref (va 34), .ref (va 35), .ref (va 36), .ref (va 37), .int (res.2.1 51), .int (res.2.1 52)]))] : va_W) ++ (([((va 29), hcI k 260 res.2.2)] : va_W))) 0 0 := by
  refine CtI.mk (cc := cX9_moves) (maxL := 3) (ret := (some .int)) (by decide) rfl (Nat.le_of_ble_eq_true rfl) ?_
  intro p e s m below meth c A ls E hP hD hS hl
  obtain ⟨hx, hb, hr, hml, hown, hts, hlocks, hin, hG, hA⟩ := E
  have hown : s.vm.findClass RX9 = some m.cls := hown
  have in9 : ∀ w ∈ u_ws RX9 TX9 53, w ∈ wsX9_moves := fun _ h => List.mem_cons_of_mem _ (List.mem_append_right _ h)
  have hl : lv_has ls 3 [(0, .ref (va 0)), (1, .int x1)] := hl
  have B20 : ∀ (y0 : Int32) (mi : Nat → Int32) (pr : Nat → Int32) (H : Heap) (locs : List Loc) (ls : Array Slot), b_X9_moves_20 F y0 mi pr = some res → va_P D vwCl (([((va 0), .inr (7, [.int (mi 0), .ref (va 1), .ref (va 2), .ref (va 3), .ref (va 4), .ref (va 5), .ref (va 6), .ref (va 7), .ref (va 8), .ref (va 9), .ref (va 10), .ref (va 11), .ref (va 12), .ref (va 13), .ref (va 14), .ref (va 15), .ref (va 16), .ref (va 17), .int (mi 18), .int (mi 19), .int (mi 20), .int (mi 21), .int (mi 22), .int (mi 23), .int (mi 24), .int (mi 25), .int (mi 26), .int (mi 27), .ref (va 18), .ref (va 19), .ref (va 20), .ref (va 21), .ref (va 22), .ref (va 23), .ref (va 24), .ref (va 25), .ref (va 26), .ref (va 27), .ref (va 28), .ref (va 29), .ref (va 30), .int (mi 41), .int (mi 42), .int (mi 43), .ref (va 31), .ref (va 32), .ref (va 33), .ref (va 34), .ref (va 35), .ref (va 36), .ref (va 37), .int (mi 51), .int (mi 52)]))] : va_W) ++ (([((va 29), hcI k 260 pr)] : va_W))) H → va_D A (([((va 0), .inr (7, [.int (mi 0), .ref (va 1), .ref (va 2), .ref (va 3), .ref (va 4), .ref (va 5), .ref (va 6), .ref (va 7), .ref (va 8), .ref (va 9), .ref (va 10), .ref (va 11), .ref (va 12), .ref (va 13), .ref (va 14), .ref (va 15), .ref (va 16), .ref (va 17), .int (mi 18), .int (mi 19), .int (mi 20), .int (mi 21), .int (mi 22), .int (mi 23), .int (mi 24), .int (mi 25), .int (mi 26), .int (mi 27), .ref (va 18), .ref (va 19), .ref (va 20), .ref (va 21), .ref (va 22), .ref (va 23), .ref (va 24), .ref (va 25), .ref (va 26), .ref (va 27), .ref (va 28), .ref (va 29), .ref (va 30), .int (mi 41), .int (mi 42), .int (mi 43), .ref (va 31), .ref (va 32), .ref (va 33), .ref (va 34), .ref (va 35), .ref (va 36), .ref (va 37), .int (mi 51), .int (mi 52)]))] : va_W) ++ (([((va 29), hcI k 260 pr)] : va_W))) → va_S A s.heap H locs → lv_has ls 3 [(0, .ref (va 0))] → W p l e (rmK 1 0 0) s m (List.toArray [.ref (va 0), .int x1]) below meth c H locs 0 0 (MQ below (va_Qi (fun r (_ : Unit) => r = res.1) (hcB D (fun _ : Unit => ([((va 0), .inr (7, [.int (res.2.1 0), .ref (va 1), .ref (va 2), .ref (va 3), .ref (va 4), .ref (va 5), .ref (va 6), .ref (va 7), .ref (va 8), .ref (va 9), .ref (va 10), .ref (va 11), .ref (va 12), .ref (va 13), .ref (va 14), .ref (va 15), .ref (va 16), .ref (va 17), .int (res.2.1 18), .int (res.2.1 19), .int (res.2.1 20), .int (res.2.1 21), .int (res.2.1 22), .int (res.2.1 23), .int (res.2.1 24), .int (res.2.1 25), .int (res.2.1 26), .int (res.2.1 27), .ref (va 18), .ref (va 19), .ref (va 20), .ref (va 21), .ref (va 22), .ref (va 23), .ref (va 24), .ref (va 25), .ref (va 26), .ref (va 27), .ref (va 28), .ref (va 29), .ref (va 30), .int (res.2.1 41), .int (res.2.1 42), .int (res.2.1 43), .ref (va 31), .ref (va 32), .ref (va 33), .ref (va 34), .ref (va 35), .ref (va 36), .ref (va 37), .int (res.2.1 51), .int (res.2.1 52)]))] : va_W) ++ (([((va 29), hcI k 260 res.2.2)] : va_W))) A) A) (List.toArray [.ref (va 0), .int x1]) s 0 0 A) (F0 m 20 ls [.int y0]) := by
    intro y0 mi pr H locs ls h hP hD hS hl
    refine lv_istore_n (lv' := [(2, .int y0), (0, .ref (va 0))]) hx hb dX9_moves_20 rfl hl (by decide) rfl (fun ls hl => ?_)
    refine lv_aload_n hx hb dX9_moves_21 rfl (lv_at hl 1 rfl) ?_
    refine va_get (D := D) (ci := 7) (v := .ref (va 29)) (C := RX9) (T := TX9) (N := 53) hx hb hts in9 hown hG.1 hP 0 rfl rfl 39 (by decide) (hts (.fieldLink RX9 100 "ChairCaneModel" "past" "[I") (mem_b bq_wsX9_moves 0 1 rfl)) (fun _ h9 => h9) rfl dX9_moves_22 ?_
    refine lv_aload_n hx hb dX9_moves_25 rfl (lv_at hl 1 rfl) ?_
    refine va_get (D := D) (ci := 7) (v := .int (mi 42)) (C := RX9) (T := TX9) (N := 53) hx hb hts in9 hown hG.1 hP 0 rfl rfl 42 (by decide) (hts (.fieldLink RX9 390 "ChairCaneModel" "pastAt" "I") (mem_b bq_wsX9_moves 0 2 rfl)) (fun _ h9 => h9) rfl dX9_moves_26 ?_
    refine lv_iload_n hx hb dX9_moves_29 rfl (lv_at hl 0 rfl) ?_
    obtain ⟨g1, h⟩ := fw_g h
    refine va_iast hx hb hG.1 hP hD hS 1 0 rfl rfl (ib_vp g1) dX9_moves_30 (fun H locs hP hD hS => ?_)
    refine lv_aload_n hx hb dX9_moves_31 rfl (lv_at hl 1 rfl) ?_
    refine lv_dup hx hb dX9_moves_32 rfl ?_
    refine va_get (D := D) (ci := 7) (v := .int (mi 42)) (C := RX9) (T := TX9) (N := 53) hx hb hts in9 hown hG.1 hP 0 rfl rfl 42 (by decide) (hts (.fieldLink RX9 390 "ChairCaneModel" "pastAt" "I") (mem_b bq_wsX9_moves 0 2 rfl)) (fun _ h9 => h9) rfl dX9_moves_33 ?_
    refine lv_iconst (v := 1) hx hb dX9_moves_36 (by decide) ?_
    refine lv_iadd hx hb dX9_moves_37 ?_
    refine va_put (D := D) (ci := 7) (v := .int ((mi 42) + 1)) (C := RX9) (T := TX9) (N := 53) hx hb hts in9 tyX9 tyX9_ok nmX9 hown hG.1 hP hD hS 0 rfl rfl 42 (by decide) (hts (.fieldLink RX9 390 "ChairCaneModel" "pastAt" "I") (mem_b bq_wsX9_moves 0 2 rfl)) (fun _ h9 => h9) rfl (tyX9_ok 42 (by decide)) rfl rfl (Nat.le_of_ble_eq_true rfl) dX9_moves_38 (fun H locs hP hD hS => ?_)
    refine lv_iload_n hx hb dX9_moves_41 rfl (lv_at hl 0 rfl) ?_
    exact fw_endI (rv := fun b : Int32 × (Nat → Int32) × (Nat → Int32) => b.1) (wp := fun b : Int32 × (Nat → Int32) × (Nat → Int32) => ([((va 0), .inr (7, [.int (b.2.1 0), .ref (va 1), .ref (va 2), .ref (va 3), .ref (va 4), .ref (va 5), .ref (va 6), .ref (va 7), .ref (va 8), .ref (va 9), .ref (va 10), .ref (va 11), .ref (va 12), .ref (va 13), .ref (va 14), .ref (va 15), .ref (va 16), .ref (va 17), .int (b.2.1 18), .int (b.2.1 19), .int (b.2.1 20), .int (b.2.1 21), .int (b.2.1 22), .int (b.2.1 23), .int (b.2.1 24), .int (b.2.1 25), .int (b.2.1 26), .int (b.2.1 27), .ref (va 18), .ref (va 19), .ref (va 20), .ref (va 21), .ref (va 22), .ref (va 23), .ref (va 24), .ref (va 25), .ref (va 26), .ref (va 27), .ref (va 28), .ref (va 29), .ref (va 30), .int (b.2.1 41), .int (b.2.1 42), .int (b.2.1 43), .ref (va 31), .ref (va 32), .ref (va 33), .ref (va 34), .ref (va 35), .ref (va 36), .ref (va 37), .int (b.2.1 51), .int (b.2.1 52)]))] : va_W) ++ (([((va 29), hcI k 260 b.2.2)] : va_W))) hx hb hr hlocks h rfl hP hD hS dX9_moves_42
  refine lv_aload_n hx hb dX9_moves_0 rfl (lv_at hl 0 rfl) ?_
  refine va_get (D := D) (ci := 7) (v := .int (mi 43)) (C := RX9) (T := TX9) (N := 53) hx hb hts in9 hown hG.1 hP 0 rfl rfl 43 (by decide) (hts (.fieldLink RX9 386 "ChairCaneModel" "takesBack" "Z") (mem_b bq_wsX9_moves 0 0 rfl)) (fun _ h9 => h9) rfl dX9_moves_1 ?_
  refine lv_if_eq (tgt := 19) hx hb dX9_moves_4 (by decide) (fun c2 => ?_) (fun c2 => ?_)
  · have h := fw_t c2 h
    refine lv_iload_n hx hb dX9_moves_19 rfl (lv_at hl 1 rfl) ?_
    exact B20 _ _ _ _ _ _ h hP hD hS (lv_sub hl [0] rfl)
  · have h := fw_f c2 h
    refine lv_aload_n hx hb dX9_moves_7 rfl (lv_at hl 0 rfl) ?_
    refine va_get (D := D) (ci := 7) (v := .ref (va 29)) (C := RX9) (T := TX9) (N := 53) hx hb hts in9 hown hG.1 hP 0 rfl rfl 39 (by decide) (hts (.fieldLink RX9 100 "ChairCaneModel" "past" "[I") (mem_b bq_wsX9_moves 0 1 rfl)) (fun _ h9 => h9) rfl dX9_moves_8 ?_
    refine lv_aload_n hx hb dX9_moves_11 rfl (lv_at hl 0 rfl) ?_
    refine va_get (D := D) (ci := 7) (v := .int (mi 42)) (C := RX9) (T := TX9) (N := 53) hx hb hts in9 hown hG.1 hP 0 rfl rfl 42 (by decide) (hts (.fieldLink RX9 390 "ChairCaneModel" "pastAt" "I") (mem_b bq_wsX9_moves 0 2 rfl)) (fun _ h9 => h9) rfl dX9_moves_12 ?_
    obtain ⟨g3, h⟩ := fw_g h
    refine va_iald hx hb hG.1 hP 1 0 rfl rfl (ib_vp g3) dX9_moves_15 ?_
    refine lv_goto (tgt := 20) hx hb dX9_moves_16 (by decide) ?_
    exact B20 _ _ _ _ _ _ h hP hD hS (lv_sub hl [0] rfl)
noncomputable def b_X9_movesRow_2 (F : Nat) (fn : Nat)   (k2 : (Int32 × (Nat → Int32) × (Nat → Int32) × (Nat → Int32)) → Option ((Nat → Int32) × (Nat → Int32) × (Nat → Int32))) (a2 : (Int32 × (Nat → Int32) × (Nat → Int32) × (Nat → Int32))) : Option ((Nat → Int32) × (Nat → Int32) × (Nat → Int32)) :=
  if (Int32.ofNat fn) ≤ a2.1 then (some (a2.2.1, a2.2.2.1, a2.2.2.2)) else (if ib a2.1 fn then (Option.bind (f_X9_moves F (a2.2.2.2 (Int32.toNatClampNeg a2.1)) a2.2.1 a2.2.2.1) (fun q3 => (k2 ((a2.1 + 1), q3.2.1, q3.2.2, (upd a2.2.2.2 (Int32.toNatClampNeg a2.1) q3.1))))) else none)
noncomputable def f_X9_movesRow (F : Nat) (fn : Nat)  (mi : Nat → Int32) (pr : Nat → Int32) (fr : Nat → Int32) : Option ((Nat → Int32) × (Nat → Int32) × (Nat → Int32)) :=
  lp (b_X9_movesRow_2 F fn) F (0, mi, pr, fr)
set_option maxHeartbeats 4000000 in
set_option maxRecDepth 100000 in
theorem c_X9_movesRow (l : Launch) (D : va_G) (k : Nat → ClassId) (sz : Nat)  (va : Nat → Nat) (fa : Nat) (F : Nat) (fn : Nat)  (mi : Nat → Int32) (pr : Nat → Int32) (fr : Nat → Int32)  {res : (Nat → Int32) × (Nat → Int32) × (Nat → Int32)} (h : f_X9_movesRow F fn mi pr fr = some res) : CtV l yX9_movesRow wsX9_movesRow (rmK 2 0 0) [.ref (va 0), .ref fa] D k sz (([((va 0), .inr (7, [.int (mi 0), .ref (va 1), .ref (va 2), .ref (va 3), .ref (va 4), .ref (va 5), .ref (va 6), .ref (va 7), .ref (va 8), .ref (va 9), .ref (va 10), .ref (va 11), .ref (va 12), .ref (va 13), .ref (va 14), .ref (va 15), .ref (va 16), .ref (va 17), .int (mi 18), .int (mi 19), .int (mi 20), .int (mi 21), .int (mi 22), .int (mi 23), .int (mi 24), .int (mi 25), .int (mi 26), .int (mi 27), .ref (va 18), .ref (va 19), .ref (va 20), .ref (va 21), .ref (va 22), .ref (va 23), .ref (va 24), .ref (va 25), .ref (va 26), .ref (va 27), .ref (va 28), .ref (va 29), .ref (va 30), .int (mi 41), .int (mi 42), .int (mi 43), .ref (va 31), .ref (va 32), .ref (va 33), .ref (va 34), .ref (va 35), .ref (va 36), .ref (va 37), .int (mi 51), .int (mi 52)]))] : va_W) ++ (([((va 29), hcI k 260 pr)] : va_W) ++ (([(fa, hcI k fn fr)] : va_W)))) (fun (_ : Unit) => True) (fun _ : Unit => ([((va 0), .inr (7, [.int (res.1 0), .ref (va 1), .ref (va 2), .ref (va 3), .ref (va 4), .ref (va 5), .ref (va 6), .ref (va 7), .ref (va 8), .ref (va 9), .ref (va 10), .ref (va 11), .ref (va 12), .ref (va 13), .ref (va 14), .ref (va 15), .ref (va 16), .ref (va 17), .int (res.1 18), .int (res.1 19), .int (res.1 20), .int (res.1 21), .int (res.1 22), .int (res.1 23), .int (res.1 24), .int (res.1 25), .int (res.1 26), .int (res.1 27), .ref (va 18), .ref (va 19), .ref (va 20), .ref (va 21), .ref (va 22), .ref (va 23), .ref (va 24), .ref (va 25), .ref (va 26), .ref (va 27), .ref (va 28), .ref (va 29), .ref (va 30), .int (res.1 41), .int (res.1 42), .int (res.1 43), .ref (va 31), .ref (va 32), .ref (va 33), .ref (va 34), .ref (va 35), .ref (va 36), .ref (va 37), .int (res.1 51), .int (res.1 52)]))] : va_W) ++ (([((va 29), hcI k 260 res.2.1)] : va_W) ++ (([(fa, hcI k fn res.2.2)] : va_W)))) 0 0 := by
  refine CtV.mk (cc := cX9_movesRow) (maxL := 3) (ret := none) (by decide) rfl (Nat.le_of_ble_eq_true rfl) ?_
  intro p e s m below meth c A ls E hP hD hS hl
  obtain ⟨hx, hb, hr, hml, hown, hts, hlocks, hin, hG, hA⟩ := E
  have hown : s.vm.findClass RX9 = some m.cls := hown
  have in9 : ∀ w ∈ u_ws RX9 TX9 53, w ∈ wsX9_movesRow := fun _ h => List.mem_cons_of_mem _ (List.mem_append_right _ h)
  have hl : lv_has ls 3 [(0, .ref (va 0)), (1, .ref fa)] := hl
  have B2 : ∀ a2 : (Int32 × (Nat → Int32) × (Nat → Int32) × (Nat → Int32)), lp (b_X9_movesRow_2 F fn) F a2 = some res → ∀ (H : Heap) (locs : List Loc) (ls : Array Slot), va_P D vwCl (([((va 0), .inr (7, [.int (a2.2.1 0), .ref (va 1), .ref (va 2), .ref (va 3), .ref (va 4), .ref (va 5), .ref (va 6), .ref (va 7), .ref (va 8), .ref (va 9), .ref (va 10), .ref (va 11), .ref (va 12), .ref (va 13), .ref (va 14), .ref (va 15), .ref (va 16), .ref (va 17), .int (a2.2.1 18), .int (a2.2.1 19), .int (a2.2.1 20), .int (a2.2.1 21), .int (a2.2.1 22), .int (a2.2.1 23), .int (a2.2.1 24), .int (a2.2.1 25), .int (a2.2.1 26), .int (a2.2.1 27), .ref (va 18), .ref (va 19), .ref (va 20), .ref (va 21), .ref (va 22), .ref (va 23), .ref (va 24), .ref (va 25), .ref (va 26), .ref (va 27), .ref (va 28), .ref (va 29), .ref (va 30), .int (a2.2.1 41), .int (a2.2.1 42), .int (a2.2.1 43), .ref (va 31), .ref (va 32), .ref (va 33), .ref (va 34), .ref (va 35), .ref (va 36), .ref (va 37), .int (a2.2.1 51), .int (a2.2.1 52)]))] : va_W) ++ (([((va 29), hcI k 260 a2.2.2.1)] : va_W) ++ (([(fa, hcI k fn a2.2.2.2)] : va_W)))) H → va_D A (([((va 0), .inr (7, [.int (a2.2.1 0), .ref (va 1), .ref (va 2), .ref (va 3), .ref (va 4), .ref (va 5), .ref (va 6), .ref (va 7), .ref (va 8), .ref (va 9), .ref (va 10), .ref (va 11), .ref (va 12), .ref (va 13), .ref (va 14), .ref (va 15), .ref (va 16), .ref (va 17), .int (a2.2.1 18), .int (a2.2.1 19), .int (a2.2.1 20), .int (a2.2.1 21), .int (a2.2.1 22), .int (a2.2.1 23), .int (a2.2.1 24), .int (a2.2.1 25), .int (a2.2.1 26), .int (a2.2.1 27), .ref (va 18), .ref (va 19), .ref (va 20), .ref (va 21), .ref (va 22), .ref (va 23), .ref (va 24), .ref (va 25), .ref (va 26), .ref (va 27), .ref (va 28), .ref (va 29), .ref (va 30), .int (a2.2.1 41), .int (a2.2.1 42), .int (a2.2.1 43), .ref (va 31), .ref (va 32), .ref (va 33), .ref (va 34), .ref (va 35), .ref (va 36), .ref (va 37), .int (a2.2.1 51), .int (a2.2.1 52)]))] : va_W) ++ (([((va 29), hcI k 260 a2.2.2.1)] : va_W) ++ (([(fa, hcI k fn a2.2.2.2)] : va_W)))) → va_S A s.heap H locs → lv_has ls 3 [(0, .ref (va 0)), (1, .ref fa), (2, .int a2.1)] → W p l e (rmK 2 0 0) s m (List.toArray [.ref (va 0), .ref fa]) below meth c H locs 0 0 (MQ below (va_Qv (fun (_ : Unit) => True) (hcB D (fun _ : Unit => ([((va 0), .inr (7, [.int (res.1 0), .ref (va 1), .ref (va 2), .ref (va 3), .ref (va 4), .ref (va 5), .ref (va 6), .ref (va 7), .ref (va 8), .ref (va 9), .ref (va 10), .ref (va 11), .ref (va 12), .ref (va 13), .ref (va 14), .ref (va 15), .ref (va 16), .ref (va 17), .int (res.1 18), .int (res.1 19), .int (res.1 20), .int (res.1 21), .int (res.1 22), .int (res.1 23), .int (res.1 24), .int (res.1 25), .int (res.1 26), .int (res.1 27), .ref (va 18), .ref (va 19), .ref (va 20), .ref (va 21), .ref (va 22), .ref (va 23), .ref (va 24), .ref (va 25), .ref (va 26), .ref (va 27), .ref (va 28), .ref (va 29), .ref (va 30), .int (res.1 41), .int (res.1 42), .int (res.1 43), .ref (va 31), .ref (va 32), .ref (va 33), .ref (va 34), .ref (va 35), .ref (va 36), .ref (va 37), .int (res.1 51), .int (res.1 52)]))] : va_W) ++ (([((va 29), hcI k 260 res.2.1)] : va_W) ++ (([(fa, hcI k fn res.2.2)] : va_W)))) A) A) (List.toArray [.ref (va 0), .ref fa]) s 0 0 A) (F0 m 2 ls []) := by
    refine lp_W ?_ F
    intro k2 hk2 a2 h H locs ls hP hD hS hl
    have hc2 : ∀ (v2 : Int32) (mi : Nat → Int32) (pr : Nat → Int32) (fr : Nat → Int32), k2 (v2, mi, pr, fr) = some res → ∀ (H : Heap) (locs : List Loc) (ls : Array Slot), va_P D vwCl (([((va 0), .inr (7, [.int (mi 0), .ref (va 1), .ref (va 2), .ref (va 3), .ref (va 4), .ref (va 5), .ref (va 6), .ref (va 7), .ref (va 8), .ref (va 9), .ref (va 10), .ref (va 11), .ref (va 12), .ref (va 13), .ref (va 14), .ref (va 15), .ref (va 16), .ref (va 17), .int (mi 18), .int (mi 19), .int (mi 20), .int (mi 21), .int (mi 22), .int (mi 23), .int (mi 24), .int (mi 25), .int (mi 26), .int (mi 27), .ref (va 18), .ref (va 19), .ref (va 20), .ref (va 21), .ref (va 22), .ref (va 23), .ref (va 24), .ref (va 25), .ref (va 26), .ref (va 27), .ref (va 28), .ref (va 29), .ref (va 30), .int (mi 41), .int (mi 42), .int (mi 43), .ref (va 31), .ref (va 32), .ref (va 33), .ref (va 34), .ref (va 35), .ref (va 36), .ref (va 37), .int (mi 51), .int (mi 52)]))] : va_W) ++ (([((va 29), hcI k 260 pr)] : va_W) ++ (([(fa, hcI k fn fr)] : va_W)))) H → va_D A (([((va 0), .inr (7, [.int (mi 0), .ref (va 1), .ref (va 2), .ref (va 3), .ref (va 4), .ref (va 5), .ref (va 6), .ref (va 7), .ref (va 8), .ref (va 9), .ref (va 10), .ref (va 11), .ref (va 12), .ref (va 13), .ref (va 14), .ref (va 15), .ref (va 16), .ref (va 17), .int (mi 18), .int (mi 19), .int (mi 20), .int (mi 21), .int (mi 22), .int (mi 23), .int (mi 24), .int (mi 25), .int (mi 26), .int (mi 27), .ref (va 18), .ref (va 19), .ref (va 20), .ref (va 21), .ref (va 22), .ref (va 23), .ref (va 24), .ref (va 25), .ref (va 26), .ref (va 27), .ref (va 28), .ref (va 29), .ref (va 30), .int (mi 41), .int (mi 42), .int (mi 43), .ref (va 31), .ref (va 32), .ref (va 33), .ref (va 34), .ref (va 35), .ref (va 36), .ref (va 37), .int (mi 51), .int (mi 52)]))] : va_W) ++ (([((va 29), hcI k 260 pr)] : va_W) ++ (([(fa, hcI k fn fr)] : va_W)))) → va_S A s.heap H locs → lv_has ls 3 [(0, .ref (va 0)), (1, .ref fa), (2, .int v2)] → W p l e (rmK 2 0 0) s m (List.toArray [.ref (va 0), .ref fa]) below meth c H locs 0 0 (MQ below (va_Qv (fun (_ : Unit) => True) (hcB D (fun _ : Unit => ([((va 0), .inr (7, [.int (res.1 0), .ref (va 1), .ref (va 2), .ref (va 3), .ref (va 4), .ref (va 5), .ref (va 6), .ref (va 7), .ref (va 8), .ref (va 9), .ref (va 10), .ref (va 11), .ref (va 12), .ref (va 13), .ref (va 14), .ref (va 15), .ref (va 16), .ref (va 17), .int (res.1 18), .int (res.1 19), .int (res.1 20), .int (res.1 21), .int (res.1 22), .int (res.1 23), .int (res.1 24), .int (res.1 25), .int (res.1 26), .int (res.1 27), .ref (va 18), .ref (va 19), .ref (va 20), .ref (va 21), .ref (va 22), .ref (va 23), .ref (va 24), .ref (va 25), .ref (va 26), .ref (va 27), .ref (va 28), .ref (va 29), .ref (va 30), .int (res.1 41), .int (res.1 42), .int (res.1 43), .ref (va 31), .ref (va 32), .ref (va 33), .ref (va 34), .ref (va 35), .ref (va 36), .ref (va 37), .int (res.1 51), .int (res.1 52)]))] : va_W) ++ (([((va 29), hcI k 260 res.2.1)] : va_W) ++ (([(fa, hcI k fn res.2.2)] : va_W)))) A) A) (List.toArray [.ref (va 0), .ref fa]) s 0 0 A) (F0 m 2 ls []) := fun v2 mi pr fr => hk2 (v2, mi, pr, fr)
    refine lv_iload_n hx hb dX9_movesRow_2 rfl (lv_at hl 2 rfl) ?_
    refine lv_aload_n hx hb dX9_movesRow_3 rfl (lv_at hl 1 rfl) ?_
    refine va_alen hx hb hG.1 hP 2 0 rfl rfl (v := (Int32.ofNat fn)) rfl dX9_movesRow_4 ?_
    refine lv_icmp_ge (tgt := 24) hx hb dX9_movesRow_5 (by decide) (fun c1 => ?_) (fun c1 => ?_)
    · have h := fw_t c1 h
      exact fw_endV (wp := fun b : (Nat → Int32) × (Nat → Int32) × (Nat → Int32) => ([((va 0), .inr (7, [.int (b.1 0), .ref (va 1), .ref (va 2), .ref (va 3), .ref (va 4), .ref (va 5), .ref (va 6), .ref (va 7), .ref (va 8), .ref (va 9), .ref (va 10), .ref (va 11), .ref (va 12), .ref (va 13), .ref (va 14), .ref (va 15), .ref (va 16), .ref (va 17), .int (b.1 18), .int (b.1 19), .int (b.1 20), .int (b.1 21), .int (b.1 22), .int (b.1 23), .int (b.1 24), .int (b.1 25), .int (b.1 26), .int (b.1 27), .ref (va 18), .ref (va 19), .ref (va 20), .ref (va 21), .ref (va 22), .ref (va 23), .ref (va 24), .ref (va 25), .ref (va 26), .ref (va 27), .ref (va 28), .ref (va 29), .ref (va 30), .int (b.1 41), .int (b.1 42), .int (b.1 43), .ref (va 31), .ref (va 32), .ref (va 33), .ref (va 34), .ref (va 35), .ref (va 36), .ref (va 37), .int (b.1 51), .int (b.1 52)]))] : va_W) ++ (([((va 29), hcI k 260 b.2.1)] : va_W) ++ (([(fa, hcI k fn b.2.2)] : va_W)))) hx hb hr hlocks h hP hD hS dX9_movesRow_24
    · have h := fw_f c1 h
      refine lv_aload_n hx hb dX9_movesRow_8 rfl (lv_at hl 1 rfl) ?_
      refine lv_iload_n hx hb dX9_movesRow_9 rfl (lv_at hl 2 rfl) ?_
      refine lv_aload_n hx hb dX9_movesRow_10 rfl (lv_at hl 0 rfl) ?_
      refine lv_aload_n hx hb dX9_movesRow_11 rfl (lv_at hl 1 rfl) ?_
      refine lv_iload_n hx hb dX9_movesRow_12 rfl (lv_at hl 2 rfl) ?_
      obtain ⟨g2, h⟩ := fw_g h
      refine va_iald hx hb hG.1 hP 2 0 rfl rfl (ib_vp g2) dX9_movesRow_13 ?_
      refine fw_Vi (As := [.int (a2.2.2.2 (Int32.toNatClampNeg a2.1))]) (rest := [.int a2.1, .ref fa]) (n := 1) (wr := ([(fa, hcI k fn a2.2.2.2)] : va_W)) (rv := fun b : Int32 × (Nat → Int32) × (Nat → Int32) => b.1) (wp := fun b : Int32 × (Nat → Int32) × (Nat → Int32) => ([((va 0), .inr (7, [.int (b.2.1 0), .ref (va 1), .ref (va 2), .ref (va 3), .ref (va 4), .ref (va 5), .ref (va 6), .ref (va 7), .ref (va 8), .ref (va 9), .ref (va 10), .ref (va 11), .ref (va 12), .ref (va 13), .ref (va 14), .ref (va 15), .ref (va 16), .ref (va 17), .int (b.2.1 18), .int (b.2.1 19), .int (b.2.1 20), .int (b.2.1 21), .int (b.2.1 22), .int (b.2.1 23), .int (b.2.1 24), .int (b.2.1 25), .int (b.2.1 26), .int (b.2.1 27), .ref (va 18), .ref (va 19), .ref (va 20), .ref (va 21), .ref (va 22), .ref (va 23), .ref (va 24), .ref (va 25), .ref (va 26), .ref (va 27), .ref (va 28), .ref (va 29), .ref (va 30), .int (b.2.1 41), .int (b.2.1 42), .int (b.2.1 43), .ref (va 31), .ref (va 32), .ref (va 33), .ref (va 34), .ref (va 35), .ref (va 36), .ref (va 37), .int (b.2.1 51), .int (b.2.1 52)]))] : va_W) ++ (([((va 29), hcI k 260 b.2.2)] : va_W))) h hx hb hml hown hts hG hA hP hD hS hl.1 [0, 1] [2] (fun q hq9 => c_X9_moves l D k _  va F (a2.2.2.2 (Int32.toNatClampNeg a2.1)) a2.2.1 a2.2.2.1  hq9) (ci := 7) (q0 := 0) rfl rfl gX9_movesRow_X9_moves rfl ⟨rfl, rfl, Nat.le_of_ble_eq_true rfl, Nat.le_of_ble_eq_true rfl⟩ (by decide +kernel) rfl rfl ⟨by decide +kernel, by decide +kernel, by decide +kernel⟩ ⟨rfl, rfl, Nat.le_of_ble_eq_true rfl, Nat.le_of_ble_eq_true rfl, Nat.le_of_ble_eq_true rfl⟩ dX9_movesRow_14 (fun q3 H locs h hP hD hS => ?_)
      obtain ⟨hP, hD⟩ := cv (w' := ([(fa, hcI k fn a2.2.2.2)] : va_W) ++ (([((va 0), .inr (7, [.int (q3.2.1 0), .ref (va 1), .ref (va 2), .ref (va 3), .ref (va 4), .ref (va 5), .ref (va 6), .ref (va 7), .ref (va 8), .ref (va 9), .ref (va 10), .ref (va 11), .ref (va 12), .ref (va 13), .ref (va 14), .ref (va 15), .ref (va 16), .ref (va 17), .int (q3.2.1 18), .int (q3.2.1 19), .int (q3.2.1 20), .int (q3.2.1 21), .int (q3.2.1 22), .int (q3.2.1 23), .int (q3.2.1 24), .int (q3.2.1 25), .int (q3.2.1 26), .int (q3.2.1 27), .ref (va 18), .ref (va 19), .ref (va 20), .ref (va 21), .ref (va 22), .ref (va 23), .ref (va 24), .ref (va 25), .ref (va 26), .ref (va 27), .ref (va 28), .ref (va 29), .ref (va 30), .int (q3.2.1 41), .int (q3.2.1 42), .int (q3.2.1 43), .ref (va 31), .ref (va 32), .ref (va 33), .ref (va 34), .ref (va 35), .ref (va 36), .ref (va 37), .int (q3.2.1 51), .int (q3.2.1 52)]))] : va_W) ++ (([((va 29), hcI k 260 q3.2.2)] : va_W)))) hP hD rfl
      refine hc_is (z := q3.1) rfl ?_
      refine va_iast hx hb hG.1 hP hD hS 0 0 rfl rfl (ib_vp g2) dX9_movesRow_17 (fun H locs hP hD hS => ?_)
      refine lv_iinc (v := (a2.1 + 1)) (lv' := [(2, .int (a2.1 + 1)), (0, .ref (va 0)), (1, .ref fa)]) hx hb dX9_movesRow_18 hl (k := 2) rfl rfl (by decide) rfl (fun ls hl => ?_)
      refine lv_goto (tgt := 2) hx hb dX9_movesRow_21 (by decide) ?_
      exact hc2 _ _ _ _ h _ _ _ (hP.sub [1, 2, 0] rfl) (hD.sub [1, 2, 0] (by decide +kernel) rfl) hS (lv_sub hl [1, 2, 0] rfl)
  have C2 : ∀ (v2 : Int32) (mi : Nat → Int32) (pr : Nat → Int32) (fr : Nat → Int32), lp (b_X9_movesRow_2 F fn) F (v2, mi, pr, fr) = some res → ∀ (H : Heap) (locs : List Loc) (ls : Array Slot), va_P D vwCl (([((va 0), .inr (7, [.int (mi 0), .ref (va 1), .ref (va 2), .ref (va 3), .ref (va 4), .ref (va 5), .ref (va 6), .ref (va 7), .ref (va 8), .ref (va 9), .ref (va 10), .ref (va 11), .ref (va 12), .ref (va 13), .ref (va 14), .ref (va 15), .ref (va 16), .ref (va 17), .int (mi 18), .int (mi 19), .int (mi 20), .int (mi 21), .int (mi 22), .int (mi 23), .int (mi 24), .int (mi 25), .int (mi 26), .int (mi 27), .ref (va 18), .ref (va 19), .ref (va 20), .ref (va 21), .ref (va 22), .ref (va 23), .ref (va 24), .ref (va 25), .ref (va 26), .ref (va 27), .ref (va 28), .ref (va 29), .ref (va 30), .int (mi 41), .int (mi 42), .int (mi 43), .ref (va 31), .ref (va 32), .ref (va 33), .ref (va 34), .ref (va 35), .ref (va 36), .ref (va 37), .int (mi 51), .int (mi 52)]))] : va_W) ++ (([((va 29), hcI k 260 pr)] : va_W) ++ (([(fa, hcI k fn fr)] : va_W)))) H → va_D A (([((va 0), .inr (7, [.int (mi 0), .ref (va 1), .ref (va 2), .ref (va 3), .ref (va 4), .ref (va 5), .ref (va 6), .ref (va 7), .ref (va 8), .ref (va 9), .ref (va 10), .ref (va 11), .ref (va 12), .ref (va 13), .ref (va 14), .ref (va 15), .ref (va 16), .ref (va 17), .int (mi 18), .int (mi 19), .int (mi 20), .int (mi 21), .int (mi 22), .int (mi 23), .int (mi 24), .int (mi 25), .int (mi 26), .int (mi 27), .ref (va 18), .ref (va 19), .ref (va 20), .ref (va 21), .ref (va 22), .ref (va 23), .ref (va 24), .ref (va 25), .ref (va 26), .ref (va 27), .ref (va 28), .ref (va 29), .ref (va 30), .int (mi 41), .int (mi 42), .int (mi 43), .ref (va 31), .ref (va 32), .ref (va 33), .ref (va 34), .ref (va 35), .ref (va 36), .ref (va 37), .int (mi 51), .int (mi 52)]))] : va_W) ++ (([((va 29), hcI k 260 pr)] : va_W) ++ (([(fa, hcI k fn fr)] : va_W)))) → va_S A s.heap H locs → lv_has ls 3 [(0, .ref (va 0)), (1, .ref fa), (2, .int v2)] → W p l e (rmK 2 0 0) s m (List.toArray [.ref (va 0), .ref fa]) below meth c H locs 0 0 (MQ below (va_Qv (fun (_ : Unit) => True) (hcB D (fun _ : Unit => ([((va 0), .inr (7, [.int (res.1 0), .ref (va 1), .ref (va 2), .ref (va 3), .ref (va 4), .ref (va 5), .ref (va 6), .ref (va 7), .ref (va 8), .ref (va 9), .ref (va 10), .ref (va 11), .ref (va 12), .ref (va 13), .ref (va 14), .ref (va 15), .ref (va 16), .ref (va 17), .int (res.1 18), .int (res.1 19), .int (res.1 20), .int (res.1 21), .int (res.1 22), .int (res.1 23), .int (res.1 24), .int (res.1 25), .int (res.1 26), .int (res.1 27), .ref (va 18), .ref (va 19), .ref (va 20), .ref (va 21), .ref (va 22), .ref (va 23), .ref (va 24), .ref (va 25), .ref (va 26), .ref (va 27), .ref (va 28), .ref (va 29), .ref (va 30), .int (res.1 41), .int (res.1 42), .int (res.1 43), .ref (va 31), .ref (va 32), .ref (va 33), .ref (va 34), .ref (va 35), .ref (va 36), .ref (va 37), .int (res.1 51), .int (res.1 52)]))] : va_W) ++ (([((va 29), hcI k 260 res.2.1)] : va_W) ++ (([(fa, hcI k fn res.2.2)] : va_W)))) A) A) (List.toArray [.ref (va 0), .ref fa]) s 0 0 A) (F0 m 2 ls []) := fun v2 mi pr fr => B2 (v2, mi, pr, fr)
  refine lv_iconst (v := 0) hx hb dX9_movesRow_0 (by decide) ?_
  refine lv_istore_n (lv' := [(2, .int 0), (0, .ref (va 0)), (1, .ref fa)]) hx hb dX9_movesRow_1 rfl hl (by decide) rfl (fun ls hl => ?_)
  exact C2 _ _ _ _ h _ _ _ hP hD hS (lv_sub hl [1, 2, 0] rfl)
noncomputable def b_X9_carryRow_42 (F : Nat) (fn : Nat)  (k2 : (Int32 × (Nat → Int32) × (Nat → Int32) × (Nat → Int32)) → Option ((Nat → Int32) × (Nat → Int32) × (Nat → Int32))) (v2 : Int32) (mi : Nat → Int32) (ir : Nat → Int32) (fr : Nat → Int32) : Option ((Nat → Int32) × (Nat → Int32) × (Nat → Int32)) :=
  k2 ((v2 + 1), (uF mi 51 ((mi 51) + 1)), ir, fr)
noncomputable def b_X9_carryRow_2 (F : Nat) (fn : Nat)   (k2 : (Int32 × (Nat → Int32) × (Nat → Int32) × (Nat → Int32)) → Option ((Nat → Int32) × (Nat → Int32) × (Nat → Int32))) (a2 : (Int32 × (Nat → Int32) × (Nat → Int32) × (Nat → Int32))) : Option ((Nat → Int32) × (Nat → Int32) × (Nat → Int32)) :=
  if (Int32.ofNat fn) ≤ a2.1 then (some (a2.2.1, a2.2.2.1, a2.2.2.2)) else (if (a2.2.1 52) = 0 then (if ib a2.1 fn then (if ib (a2.2.1 51) 2000 then (b_X9_carryRow_42 F fn k2 a2.1 a2.2.1 (upd a2.2.2.1 (Int32.toNatClampNeg (a2.2.1 51)) (a2.2.2.2 (Int32.toNatClampNeg a2.1))) a2.2.2.2) else none) else none) else (if ib (a2.2.1 51) 2000 then (if ib a2.1 fn then (b_X9_carryRow_42 F fn k2 a2.1 a2.2.1 a2.2.2.1 (upd a2.2.2.2 (Int32.toNatClampNeg a2.1) (a2.2.2.1 (Int32.toNatClampNeg (a2.2.1 51))))) else none) else none))
noncomputable def f_X9_carryRow (F : Nat) (fn : Nat)  (mi : Nat → Int32) (ir : Nat → Int32) (fr : Nat → Int32) : Option ((Nat → Int32) × (Nat → Int32) × (Nat → Int32)) :=
  lp (b_X9_carryRow_2 F fn) F (0, mi, ir, fr)
set_option maxRecDepth 20000 in
theorem bq_wsX9_carryRow : subq wsX9_carryRow [[.fieldLink RX9 483 "ChairCaneModel" "goesBack" "Z", .fieldLink RX9 122 "ChairCaneModel" "images" "[I", .fieldLink RX9 486 "ChairCaneModel" "imageAt" "I"]] := ⟨(fun _ h => (List.mem_cons_of_mem _ (List.mem_append_left _ h))), trivial⟩
set_option maxHeartbeats 4000000 in
set_option maxRecDepth 100000 in
theorem c_X9_carryRow (l : Launch) (D : va_G) (k : Nat → ClassId) (sz : Nat)  (va : Nat → Nat) (fa : Nat) (F : Nat) (fn : Nat)  (mi : Nat → Int32) (ir : Nat → Int32) (fr : Nat → Int32)  {res : (Nat → Int32) × (Nat → Int32) × (Nat → Int32)} (h : f_X9_carryRow F fn mi ir fr = some res) : CtV l yX9_carryRow wsX9_carryRow (rmK 1 0 0) [.ref (va 0), .ref fa] D k sz (([((va 0), .inr (7, [.int (mi 0), .ref (va 1), .ref (va 2), .ref (va 3), .ref (va 4), .ref (va 5), .ref (va 6), .ref (va 7), .ref (va 8), .ref (va 9), .ref (va 10), .ref (va 11), .ref (va 12), .ref (va 13), .ref (va 14), .ref (va 15), .ref (va 16), .ref (va 17), .int (mi 18), .int (mi 19), .int (mi 20), .int (mi 21), .int (mi 22), .int (mi 23), .int (mi 24), .int (mi 25), .int (mi 26), .int (mi 27), .ref (va 18), .ref (va 19), .ref (va 20), .ref (va 21), .ref (va 22), .ref (va 23), .ref (va 24), .ref (va 25), .ref (va 26), .ref (va 27), .ref (va 28), .ref (va 29), .ref (va 30), .int (mi 41), .int (mi 42), .int (mi 43), .ref (va 31), .ref (va 32), .ref (va 33), .ref (va 34), .ref (va 35), .ref (va 36), .ref (va 37), .int (mi 51), .int (mi 52)]))] : va_W) ++ (([((va 36), hcI k 2000 ir)] : va_W) ++ (([(fa, hcI k fn fr)] : va_W)))) (fun (_ : Unit) => True) (fun _ : Unit => ([((va 0), .inr (7, [.int (res.1 0), .ref (va 1), .ref (va 2), .ref (va 3), .ref (va 4), .ref (va 5), .ref (va 6), .ref (va 7), .ref (va 8), .ref (va 9), .ref (va 10), .ref (va 11), .ref (va 12), .ref (va 13), .ref (va 14), .ref (va 15), .ref (va 16), .ref (va 17), .int (res.1 18), .int (res.1 19), .int (res.1 20), .int (res.1 21), .int (res.1 22), .int (res.1 23), .int (res.1 24), .int (res.1 25), .int (res.1 26), .int (res.1 27), .ref (va 18), .ref (va 19), .ref (va 20), .ref (va 21), .ref (va 22), .ref (va 23), .ref (va 24), .ref (va 25), .ref (va 26), .ref (va 27), .ref (va 28), .ref (va 29), .ref (va 30), .int (res.1 41), .int (res.1 42), .int (res.1 43), .ref (va 31), .ref (va 32), .ref (va 33), .ref (va 34), .ref (va 35), .ref (va 36), .ref (va 37), .int (res.1 51), .int (res.1 52)]))] : va_W) ++ (([((va 36), hcI k 2000 res.2.1)] : va_W) ++ (([(fa, hcI k fn res.2.2)] : va_W)))) 0 0 := by
  refine CtV.mk (cc := cX9_carryRow) (maxL := 3) (ret := none) (by decide) rfl (Nat.le_of_ble_eq_true rfl) ?_
  intro p e s m below meth c A ls E hP hD hS hl
  obtain ⟨hx, hb, hr, hml, hown, hts, hlocks, hin, hG, hA⟩ := E
  have hown : s.vm.findClass RX9 = some m.cls := hown
  have in9 : ∀ w ∈ u_ws RX9 TX9 53, w ∈ wsX9_carryRow := fun _ h => List.mem_cons_of_mem _ (List.mem_append_right _ h)
  have hl : lv_has ls 3 [(0, .ref (va 0)), (1, .ref fa)] := hl
  have B2 : ∀ a2 : (Int32 × (Nat → Int32) × (Nat → Int32) × (Nat → Int32)), lp (b_X9_carryRow_2 F fn) F a2 = some res → ∀ (H : Heap) (locs : List Loc) (ls : Array Slot), va_P D vwCl (([((va 0), .inr (7, [.int (a2.2.1 0), .ref (va 1), .ref (va 2), .ref (va 3), .ref (va 4), .ref (va 5), .ref (va 6), .ref (va 7), .ref (va 8), .ref (va 9), .ref (va 10), .ref (va 11), .ref (va 12), .ref (va 13), .ref (va 14), .ref (va 15), .ref (va 16), .ref (va 17), .int (a2.2.1 18), .int (a2.2.1 19), .int (a2.2.1 20), .int (a2.2.1 21), .int (a2.2.1 22), .int (a2.2.1 23), .int (a2.2.1 24), .int (a2.2.1 25), .int (a2.2.1 26), .int (a2.2.1 27), .ref (va 18), .ref (va 19), .ref (va 20), .ref (va 21), .ref (va 22), .ref (va 23), .ref (va 24), .ref (va 25), .ref (va 26), .ref (va 27), .ref (va 28), .ref (va 29), .ref (va 30), .int (a2.2.1 41), .int (a2.2.1 42), .int (a2.2.1 43), .ref (va 31), .ref (va 32), .ref (va 33), .ref (va 34), .ref (va 35), .ref (va 36), .ref (va 37), .int (a2.2.1 51), .int (a2.2.1 52)]))] : va_W) ++ (([((va 36), hcI k 2000 a2.2.2.1)] : va_W) ++ (([(fa, hcI k fn a2.2.2.2)] : va_W)))) H → va_D A (([((va 0), .inr (7, [.int (a2.2.1 0), .ref (va 1), .ref (va 2), .ref (va 3), .ref (va 4), .ref (va 5), .ref (va 6), .ref (va 7), .ref (va 8), .ref (va 9), .ref (va 10), .ref (va 11), .ref (va 12), .ref (va 13), .ref (va 14), .ref (va 15), .ref (va 16), .ref (va 17), .int (a2.2.1 18), .int (a2.2.1 19), .int (a2.2.1 20), .int (a2.2.1 21), .int (a2.2.1 22), .int (a2.2.1 23), .int (a2.2.1 24), .int (a2.2.1 25), .int (a2.2.1 26), .int (a2.2.1 27), .ref (va 18), .ref (va 19), .ref (va 20), .ref (va 21), .ref (va 22), .ref (va 23), .ref (va 24), .ref (va 25), .ref (va 26), .ref (va 27), .ref (va 28), .ref (va 29), .ref (va 30), .int (a2.2.1 41), .int (a2.2.1 42), .int (a2.2.1 43), .ref (va 31), .ref (va 32), .ref (va 33), .ref (va 34), .ref (va 35), .ref (va 36), .ref (va 37), .int (a2.2.1 51), .int (a2.2.1 52)]))] : va_W) ++ (([((va 36), hcI k 2000 a2.2.2.1)] : va_W) ++ (([(fa, hcI k fn a2.2.2.2)] : va_W)))) → va_S A s.heap H locs → lv_has ls 3 [(0, .ref (va 0)), (1, .ref fa), (2, .int a2.1)] → W p l e (rmK 1 0 0) s m (List.toArray [.ref (va 0), .ref fa]) below meth c H locs 0 0 (MQ below (va_Qv (fun (_ : Unit) => True) (hcB D (fun _ : Unit => ([((va 0), .inr (7, [.int (res.1 0), .ref (va 1), .ref (va 2), .ref (va 3), .ref (va 4), .ref (va 5), .ref (va 6), .ref (va 7), .ref (va 8), .ref (va 9), .ref (va 10), .ref (va 11), .ref (va 12), .ref (va 13), .ref (va 14), .ref (va 15), .ref (va 16), .ref (va 17), .int (res.1 18), .int (res.1 19), .int (res.1 20), .int (res.1 21), .int (res.1 22), .int (res.1 23), .int (res.1 24), .int (res.1 25), .int (res.1 26), .int (res.1 27), .ref (va 18), .ref (va 19), .ref (va 20), .ref (va 21), .ref (va 22), .ref (va 23), .ref (va 24), .ref (va 25), .ref (va 26), .ref (va 27), .ref (va 28), .ref (va 29), .ref (va 30), .int (res.1 41), .int (res.1 42), .int (res.1 43), .ref (va 31), .ref (va 32), .ref (va 33), .ref (va 34), .ref (va 35), .ref (va 36), .ref (va 37), .int (res.1 51), .int (res.1 52)]))] : va_W) ++ (([((va 36), hcI k 2000 res.2.1)] : va_W) ++ (([(fa, hcI k fn res.2.2)] : va_W)))) A) A) (List.toArray [.ref (va 0), .ref fa]) s 0 0 A) (F0 m 2 ls []) := by
    refine lp_W ?_ F
    intro k2 hk2 a2 h H locs ls hP hD hS hl
    have hc2 : ∀ (v2 : Int32) (mi : Nat → Int32) (ir : Nat → Int32) (fr : Nat → Int32), k2 (v2, mi, ir, fr) = some res → ∀ (H : Heap) (locs : List Loc) (ls : Array Slot), va_P D vwCl (([((va 0), .inr (7, [.int (mi 0), .ref (va 1), .ref (va 2), .ref (va 3), .ref (va 4), .ref (va 5), .ref (va 6), .ref (va 7), .ref (va 8), .ref (va 9), .ref (va 10), .ref (va 11), .ref (va 12), .ref (va 13), .ref (va 14), .ref (va 15), .ref (va 16), .ref (va 17), .int (mi 18), .int (mi 19), .int (mi 20), .int (mi 21), .int (mi 22), .int (mi 23), .int (mi 24), .int (mi 25), .int (mi 26), .int (mi 27), .ref (va 18), .ref (va 19), .ref (va 20), .ref (va 21), .ref (va 22), .ref (va 23), .ref (va 24), .ref (va 25), .ref (va 26), .ref (va 27), .ref (va 28), .ref (va 29), .ref (va 30), .int (mi 41), .int (mi 42), .int (mi 43), .ref (va 31), .ref (va 32), .ref (va 33), .ref (va 34), .ref (va 35), .ref (va 36), .ref (va 37), .int (mi 51), .int (mi 52)]))] : va_W) ++ (([((va 36), hcI k 2000 ir)] : va_W) ++ (([(fa, hcI k fn fr)] : va_W)))) H → va_D A (([((va 0), .inr (7, [.int (mi 0), .ref (va 1), .ref (va 2), .ref (va 3), .ref (va 4), .ref (va 5), .ref (va 6), .ref (va 7), .ref (va 8), .ref (va 9), .ref (va 10), .ref (va 11), .ref (va 12), .ref (va 13), .ref (va 14), .ref (va 15), .ref (va 16), .ref (va 17), .int (mi 18), .int (mi 19), .int (mi 20), .int (mi 21), .int (mi 22), .int (mi 23), .int (mi 24), .int (mi 25), .int (mi 26), .int (mi 27), .ref (va 18), .ref (va 19), .ref (va 20), .ref (va 21), .ref (va 22), .ref (va 23), .ref (va 24), .ref (va 25), .ref (va 26), .ref (va 27), .ref (va 28), .ref (va 29), .ref (va 30), .int (mi 41), .int (mi 42), .int (mi 43), .ref (va 31), .ref (va 32), .ref (va 33), .ref (va 34), .ref (va 35), .ref (va 36), .ref (va 37), .int (mi 51), .int (mi 52)]))] : va_W) ++ (([((va 36), hcI k 2000 ir)] : va_W) ++ (([(fa, hcI k fn fr)] : va_W)))) → va_S A s.heap H locs → lv_has ls 3 [(0, .ref (va 0)), (1, .ref fa), (2, .int v2)] → W p l e (rmK 1 0 0) s m (List.toArray [.ref (va 0), .ref fa]) below meth c H locs 0 0 (MQ below (va_Qv (fun (_ : Unit) => True) (hcB D (fun _ : Unit => ([((va 0), .inr (7, [.int (res.1 0), .ref (va 1), .ref (va 2), .ref (va 3), .ref (va 4), .ref (va 5), .ref (va 6), .ref (va 7), .ref (va 8), .ref (va 9), .ref (va 10), .ref (va 11), .ref (va 12), .ref (va 13), .ref (va 14), .ref (va 15), .ref (va 16), .ref (va 17), .int (res.1 18), .int (res.1 19), .int (res.1 20), .int (res.1 21), .int (res.1 22), .int (res.1 23), .int (res.1 24), .int (res.1 25), .int (res.1 26), .int (res.1 27), .ref (va 18), .ref (va 19), .ref (va 20), .ref (va 21), .ref (va 22), .ref (va 23), .ref (va 24), .ref (va 25), .ref (va 26), .ref (va 27), .ref (va 28), .ref (va 29), .ref (va 30), .int (res.1 41), .int (res.1 42), .int (res.1 43), .ref (va 31), .ref (va 32), .ref (va 33), .ref (va 34), .ref (va 35), .ref (va 36), .ref (va 37), .int (res.1 51), .int (res.1 52)]))] : va_W) ++ (([((va 36), hcI k 2000 res.2.1)] : va_W) ++ (([(fa, hcI k fn res.2.2)] : va_W)))) A) A) (List.toArray [.ref (va 0), .ref fa]) s 0 0 A) (F0 m 2 ls []) := fun v2 mi ir fr => hk2 (v2, mi, ir, fr)
    have B42 : ∀ (v2 : Int32) (mi : Nat → Int32) (ir : Nat → Int32) (fr : Nat → Int32) (H : Heap) (locs : List Loc) (ls : Array Slot), b_X9_carryRow_42 F fn k2 v2 mi ir fr = some res → va_P D vwCl (([((va 0), .inr (7, [.int (mi 0), .ref (va 1), .ref (va 2), .ref (va 3), .ref (va 4), .ref (va 5), .ref (va 6), .ref (va 7), .ref (va 8), .ref (va 9), .ref (va 10), .ref (va 11), .ref (va 12), .ref (va 13), .ref (va 14), .ref (va 15), .ref (va 16), .ref (va 17), .int (mi 18), .int (mi 19), .int (mi 20), .int (mi 21), .int (mi 22), .int (mi 23), .int (mi 24), .int (mi 25), .int (mi 26), .int (mi 27), .ref (va 18), .ref (va 19), .ref (va 20), .ref (va 21), .ref (va 22), .ref (va 23), .ref (va 24), .ref (va 25), .ref (va 26), .ref (va 27), .ref (va 28), .ref (va 29), .ref (va 30), .int (mi 41), .int (mi 42), .int (mi 43), .ref (va 31), .ref (va 32), .ref (va 33), .ref (va 34), .ref (va 35), .ref (va 36), .ref (va 37), .int (mi 51), .int (mi 52)]))] : va_W) ++ (([((va 36), hcI k 2000 ir)] : va_W) ++ (([(fa, hcI k fn fr)] : va_W)))) H → va_D A (([((va 0), .inr (7, [.int (mi 0), .ref (va 1), .ref (va 2), .ref (va 3), .ref (va 4), .ref (va 5), .ref (va 6), .ref (va 7), .ref (va 8), .ref (va 9), .ref (va 10), .ref (va 11), .ref (va 12), .ref (va 13), .ref (va 14), .ref (va 15), .ref (va 16), .ref (va 17), .int (mi 18), .int (mi 19), .int (mi 20), .int (mi 21), .int (mi 22), .int (mi 23), .int (mi 24), .int (mi 25), .int (mi 26), .int (mi 27), .ref (va 18), .ref (va 19), .ref (va 20), .ref (va 21), .ref (va 22), .ref (va 23), .ref (va 24), .ref (va 25), .ref (va 26), .ref (va 27), .ref (va 28), .ref (va 29), .ref (va 30), .int (mi 41), .int (mi 42), .int (mi 43), .ref (va 31), .ref (va 32), .ref (va 33), .ref (va 34), .ref (va 35), .ref (va 36), .ref (va 37), .int (mi 51), .int (mi 52)]))] : va_W) ++ (([((va 36), hcI k 2000 ir)] : va_W) ++ (([(fa, hcI k fn fr)] : va_W)))) → va_S A s.heap H locs → lv_has ls 3 [(0, .ref (va 0)), (1, .ref fa), (2, .int v2)] → W p l e (rmK 1 0 0) s m (List.toArray [.ref (va 0), .ref fa]) below meth c H locs 0 0 (MQ below (va_Qv (fun (_ : Unit) => True) (hcB D (fun _ : Unit => ([((va 0), .inr (7, [.int (res.1 0), .ref (va 1), .ref (va 2), .ref (va 3), .ref (va 4), .ref (va 5), .ref (va 6), .ref (va 7), .ref (va 8), .ref (va 9), .ref (va 10), .ref (va 11), .ref (va 12), .ref (va 13), .ref (va 14), .ref (va 15), .ref (va 16), .ref (va 17), .int (res.1 18), .int (res.1 19), .int (res.1 20), .int (res.1 21), .int (res.1 22), .int (res.1 23), .int (res.1 24), .int (res.1 25), .int (res.1 26), .int (res.1 27), .ref (va 18), .ref (va 19), .ref (va 20), .ref (va 21), .ref (va 22), .ref (va 23), .ref (va 24), .ref (va 25), .ref (va 26), .ref (va 27), .ref (va 28), .ref (va 29), .ref (va 30), .int (res.1 41), .int (res.1 42), .int (res.1 43), .ref (va 31), .ref (va 32), .ref (va 33), .ref (va 34), .ref (va 35), .ref (va 36), .ref (va 37), .int (res.1 51), .int (res.1 52)]))] : va_W) ++ (([((va 36), hcI k 2000 res.2.1)] : va_W) ++ (([(fa, hcI k fn res.2.2)] : va_W)))) A) A) (List.toArray [.ref (va 0), .ref fa]) s 0 0 A) (F0 m 42 ls []) := by
      intro v2 mi ir fr H locs ls h hP hD hS hl
      refine lv_aload_n hx hb dX9_carryRow_42 rfl (lv_at hl 0 rfl) ?_
      refine lv_dup hx hb dX9_carryRow_43 rfl ?_
      refine va_get (D := D) (ci := 7) (v := .int (mi 51)) (C := RX9) (T := TX9) (N := 53) hx hb hts in9 hown hG.1 hP 0 rfl rfl 51 (by decide) (hts (.fieldLink RX9 486 "ChairCaneModel" "imageAt" "I") (mem_b bq_wsX9_carryRow 0 2 rfl)) (fun _ h9 => h9) rfl dX9_carryRow_44 ?_
      refine lv_iconst (v := 1) hx hb dX9_carryRow_47 (by decide) ?_
      refine lv_iadd hx hb dX9_carryRow_48 ?_
      refine va_put (D := D) (ci := 7) (v := .int ((mi 51) + 1)) (C := RX9) (T := TX9) (N := 53) hx hb hts in9 tyX9 tyX9_ok nmX9 hown hG.1 hP hD hS 0 rfl rfl 51 (by decide) (hts (.fieldLink RX9 486 "ChairCaneModel" "imageAt" "I") (mem_b bq_wsX9_carryRow 0 2 rfl)) (fun _ h9 => h9) rfl (tyX9_ok 51 (by decide)) rfl rfl (Nat.le_of_ble_eq_true rfl) dX9_carryRow_49 (fun H locs hP hD hS => ?_)
      refine lv_iinc (v := (v2 + 1)) (lv' := [(2, .int (v2 + 1)), (0, .ref (va 0)), (1, .ref fa)]) hx hb dX9_carryRow_52 hl (k := 2) rfl rfl (by decide) rfl (fun ls hl => ?_)
      refine lv_goto (tgt := 2) hx hb dX9_carryRow_55 (by decide) ?_
      exact hc2 _ _ _ _ h _ _ _ hP hD hS (lv_sub hl [1, 2, 0] rfl)
    refine lv_iload_n hx hb dX9_carryRow_2 rfl (lv_at hl 2 rfl) ?_
    refine lv_aload_n hx hb dX9_carryRow_3 rfl (lv_at hl 1 rfl) ?_
    refine va_alen hx hb hG.1 hP 2 0 rfl rfl (v := (Int32.ofNat fn)) rfl dX9_carryRow_4 ?_
    refine lv_icmp_ge (tgt := 58) hx hb dX9_carryRow_5 (by decide) (fun c1 => ?_) (fun c1 => ?_)
    · have h := fw_t c1 h
      exact fw_endV (wp := fun b : (Nat → Int32) × (Nat → Int32) × (Nat → Int32) => ([((va 0), .inr (7, [.int (b.1 0), .ref (va 1), .ref (va 2), .ref (va 3), .ref (va 4), .ref (va 5), .ref (va 6), .ref (va 7), .ref (va 8), .ref (va 9), .ref (va 10), .ref (va 11), .ref (va 12), .ref (va 13), .ref (va 14), .ref (va 15), .ref (va 16), .ref (va 17), .int (b.1 18), .int (b.1 19), .int (b.1 20), .int (b.1 21), .int (b.1 22), .int (b.1 23), .int (b.1 24), .int (b.1 25), .int (b.1 26), .int (b.1 27), .ref (va 18), .ref (va 19), .ref (va 20), .ref (va 21), .ref (va 22), .ref (va 23), .ref (va 24), .ref (va 25), .ref (va 26), .ref (va 27), .ref (va 28), .ref (va 29), .ref (va 30), .int (b.1 41), .int (b.1 42), .int (b.1 43), .ref (va 31), .ref (va 32), .ref (va 33), .ref (va 34), .ref (va 35), .ref (va 36), .ref (va 37), .int (b.1 51), .int (b.1 52)]))] : va_W) ++ (([((va 36), hcI k 2000 b.2.1)] : va_W) ++ (([(fa, hcI k fn b.2.2)] : va_W)))) hx hb hr hlocks h hP hD hS dX9_carryRow_58
    · have h := fw_f c1 h
      refine lv_aload_n hx hb dX9_carryRow_8 rfl (lv_at hl 0 rfl) ?_
      refine va_get (D := D) (ci := 7) (v := .int (a2.2.1 52)) (C := RX9) (T := TX9) (N := 53) hx hb hts in9 hown hG.1 hP 0 rfl rfl 52 (by decide) (hts (.fieldLink RX9 483 "ChairCaneModel" "goesBack" "Z") (mem_b bq_wsX9_carryRow 0 0 rfl)) (fun _ h9 => h9) rfl dX9_carryRow_9 ?_
      refine lv_if_eq (tgt := 30) hx hb dX9_carryRow_12 (by decide) (fun c2 => ?_) (fun c2 => ?_)
      · have h := fw_t c2 h
        refine lv_aload_n hx hb dX9_carryRow_30 rfl (lv_at hl 0 rfl) ?_
        refine va_get (D := D) (ci := 7) (v := .ref (va 36)) (C := RX9) (T := TX9) (N := 53) hx hb hts in9 hown hG.1 hP 0 rfl rfl 49 (by decide) (hts (.fieldLink RX9 122 "ChairCaneModel" "images" "[I") (mem_b bq_wsX9_carryRow 0 1 rfl)) (fun _ h9 => h9) rfl dX9_carryRow_31 ?_
        refine lv_aload_n hx hb dX9_carryRow_34 rfl (lv_at hl 0 rfl) ?_
        refine va_get (D := D) (ci := 7) (v := .int (a2.2.1 51)) (C := RX9) (T := TX9) (N := 53) hx hb hts in9 hown hG.1 hP 0 rfl rfl 51 (by decide) (hts (.fieldLink RX9 486 "ChairCaneModel" "imageAt" "I") (mem_b bq_wsX9_carryRow 0 2 rfl)) (fun _ h9 => h9) rfl dX9_carryRow_35 ?_
        refine lv_aload_n hx hb dX9_carryRow_38 rfl (lv_at hl 1 rfl) ?_
        refine lv_iload_n hx hb dX9_carryRow_39 rfl (lv_at hl 2 rfl) ?_
        obtain ⟨g3, h⟩ := fw_g h
        refine va_iald hx hb hG.1 hP 2 0 rfl rfl (ib_vp g3) dX9_carryRow_40 ?_
        obtain ⟨g4, h⟩ := fw_g h
        refine va_iast hx hb hG.1 hP hD hS 1 0 rfl rfl (ib_vp g4) dX9_carryRow_41 (fun H locs hP hD hS => ?_)
        exact B42 _ _ _ _ _ _ _ h hP hD hS hl
      · have h := fw_f c2 h
        refine lv_aload_n hx hb dX9_carryRow_15 rfl (lv_at hl 1 rfl) ?_
        refine lv_iload_n hx hb dX9_carryRow_16 rfl (lv_at hl 2 rfl) ?_
        refine lv_aload_n hx hb dX9_carryRow_17 rfl (lv_at hl 0 rfl) ?_
        refine va_get (D := D) (ci := 7) (v := .ref (va 36)) (C := RX9) (T := TX9) (N := 53) hx hb hts in9 hown hG.1 hP 0 rfl rfl 49 (by decide) (hts (.fieldLink RX9 122 "ChairCaneModel" "images" "[I") (mem_b bq_wsX9_carryRow 0 1 rfl)) (fun _ h9 => h9) rfl dX9_carryRow_18 ?_
        refine lv_aload_n hx hb dX9_carryRow_21 rfl (lv_at hl 0 rfl) ?_
        refine va_get (D := D) (ci := 7) (v := .int (a2.2.1 51)) (C := RX9) (T := TX9) (N := 53) hx hb hts in9 hown hG.1 hP 0 rfl rfl 51 (by decide) (hts (.fieldLink RX9 486 "ChairCaneModel" "imageAt" "I") (mem_b bq_wsX9_carryRow 0 2 rfl)) (fun _ h9 => h9) rfl dX9_carryRow_22 ?_
        obtain ⟨g5, h⟩ := fw_g h
        refine va_iald hx hb hG.1 hP 1 0 rfl rfl (ib_vp g5) dX9_carryRow_25 ?_
        obtain ⟨g6, h⟩ := fw_g h
        refine va_iast hx hb hG.1 hP hD hS 2 0 rfl rfl (ib_vp g6) dX9_carryRow_26 (fun H locs hP hD hS => ?_)
        refine lv_goto (tgt := 42) hx hb dX9_carryRow_27 (by decide) ?_
        exact B42 _ _ _ _ _ _ _ h hP hD hS hl
  have C2 : ∀ (v2 : Int32) (mi : Nat → Int32) (ir : Nat → Int32) (fr : Nat → Int32), lp (b_X9_carryRow_2 F fn) F (v2, mi, ir, fr) = some res → ∀ (H : Heap) (locs : List Loc) (ls : Array Slot), va_P D vwCl (([((va 0), .inr (7, [.int (mi 0), .ref (va 1), .ref (va 2), .ref (va 3), .ref (va 4), .ref (va 5), .ref (va 6), .ref (va 7), .ref (va 8), .ref (va 9), .ref (va 10), .ref (va 11), .ref (va 12), .ref (va 13), .ref (va 14), .ref (va 15), .ref (va 16), .ref (va 17), .int (mi 18), .int (mi 19), .int (mi 20), .int (mi 21), .int (mi 22), .int (mi 23), .int (mi 24), .int (mi 25), .int (mi 26), .int (mi 27), .ref (va 18), .ref (va 19), .ref (va 20), .ref (va 21), .ref (va 22), .ref (va 23), .ref (va 24), .ref (va 25), .ref (va 26), .ref (va 27), .ref (va 28), .ref (va 29), .ref (va 30), .int (mi 41), .int (mi 42), .int (mi 43), .ref (va 31), .ref (va 32), .ref (va 33), .ref (va 34), .ref (va 35), .ref (va 36), .ref (va 37), .int (mi 51), .int (mi 52)]))] : va_W) ++ (([((va 36), hcI k 2000 ir)] : va_W) ++ (([(fa, hcI k fn fr)] : va_W)))) H → va_D A (([((va 0), .inr (7, [.int (mi 0), .ref (va 1), .ref (va 2), .ref (va 3), .ref (va 4), .ref (va 5), .ref (va 6), .ref (va 7), .ref (va 8), .ref (va 9), .ref (va 10), .ref (va 11), .ref (va 12), .ref (va 13), .ref (va 14), .ref (va 15), .ref (va 16), .ref (va 17), .int (mi 18), .int (mi 19), .int (mi 20), .int (mi 21), .int (mi 22), .int (mi 23), .int (mi 24), .int (mi 25), .int (mi 26), .int (mi 27), .ref (va 18), .ref (va 19), .ref (va 20), .ref (va 21), .ref (va 22), .ref (va 23), .ref (va 24), .ref (va 25), .ref (va 26), .ref (va 27), .ref (va 28), .ref (va 29), .ref (va 30), .int (mi 41), .int (mi 42), .int (mi 43), .ref (va 31), .ref (va 32), .ref (va 33), .ref (va 34), .ref (va 35), .ref (va 36), .ref (va 37), .int (mi 51), .int (mi 52)]))] : va_W) ++ (([((va 36), hcI k 2000 ir)] : va_W) ++ (([(fa, hcI k fn fr)] : va_W)))) → va_S A s.heap H locs → lv_has ls 3 [(0, .ref (va 0)), (1, .ref fa), (2, .int v2)] → W p l e (rmK 1 0 0) s m (List.toArray [.ref (va 0), .ref fa]) below meth c H locs 0 0 (MQ below (va_Qv (fun (_ : Unit) => True) (hcB D (fun _ : Unit => ([((va 0), .inr (7, [.int (res.1 0), .ref (va 1), .ref (va 2), .ref (va 3), .ref (va 4), .ref (va 5), .ref (va 6), .ref (va 7), .ref (va 8), .ref (va 9), .ref (va 10), .ref (va 11), .ref (va 12), .ref (va 13), .ref (va 14), .ref (va 15), .ref (va 16), .ref (va 17), .int (res.1 18), .int (res.1 19), .int (res.1 20), .int (res.1 21), .int (res.1 22), .int (res.1 23), .int (res.1 24), .int (res.1 25), .int (res.1 26), .int (res.1 27), .ref (va 18), .ref (va 19), .ref (va 20), .ref (va 21), .ref (va 22), .ref (va 23), .ref (va 24), .ref (va 25), .ref (va 26), .ref (va 27), .ref (va 28), .ref (va 29), .ref (va 30), .int (res.1 41), .int (res.1 42), .int (res.1 43), .ref (va 31), .ref (va 32), .ref (va 33), .ref (va 34), .ref (va 35), .ref (va 36), .ref (va 37), .int (res.1 51), .int (res.1 52)]))] : va_W) ++ (([((va 36), hcI k 2000 res.2.1)] : va_W) ++ (([(fa, hcI k fn res.2.2)] : va_W)))) A) A) (List.toArray [.ref (va 0), .ref fa]) s 0 0 A) (F0 m 2 ls []) := fun v2 mi ir fr => B2 (v2, mi, ir, fr)
  refine lv_iconst (v := 0) hx hb dX9_carryRow_0 (by decide) ?_
  refine lv_istore_n (lv' := [(2, .int 0), (0, .ref (va 0)), (1, .ref fa)]) hx hb dX9_carryRow_1 rfl hl (by decide) rfl (fun ls hl => ?_)
  exact C2 _ _ _ _ h _ _ _ hP hD hS (lv_sub hl [1, 2, 0] rfl)
noncomputable def f_X9_movesAll (F : Nat)  (x1 : Int32) (x2 : Int32) (mo : OB) : Option (OB) :=
  if bo x2 then (Option.bind (f_X9_moves F ((mo.2.1 1) (Int32.toNatClampNeg 4)) (uF (uF mo.1 42 (13 * x1)) 43 x2) (mo.2.1 39)) (fun q2 => (Option.bind (f_X9_movesRow F 4 q2.2.1 q2.2.2 (mo.2.1 2)) (fun q3 => (Option.bind (f_X9_movesRow F 8 q3.1 q3.2.1 (mo.2.1 3)) (fun q4 => (some (q4.1, (uF (uF (uF (uF mo.2.1 1 (upd (mo.2.1 1) (Int32.toNatClampNeg 4) q2.1)) 2 q3.2.2) 3 q4.2.2) 39 q4.2.1), mo.2.2)))))))) else none
set_option maxHeartbeats 4000000 in
set_option maxRecDepth 100000 in
theorem c_X9_movesAll (l : Launch) (D : va_G) (k : Nat → ClassId) (sz : Nat)  (va : Nat → Nat) (F : Nat)  (x1 : Int32) (x2 : Int32) (mo : OB)  {res : OB} (h : f_X9_movesAll F x1 x2 mo = some res) : CtV l yX9_movesAll wsX9_movesAll (rmK 3 0 0) [.ref (va 0), .int x1, .int x2] D k sz (moW k va mo) (fun (_ : Unit) => True) (fun _ : Unit => moW k va res) 0 0 := by
  refine CtV.mk (cc := cX9_movesAll) (maxL := 3) (ret := none) (by decide) rfl (Nat.le_of_ble_eq_true rfl) ?_
  intro p e s m below meth c A ls E hP hD hS hl
  obtain ⟨hx, hb, hr, hml, hown, hts, hlocks, hin, hG, hA⟩ := E
  have hown : s.vm.findClass RX9 = some m.cls := hown
  have in9 : ∀ w ∈ u_ws RX9 TX9 53, w ∈ wsX9_movesAll := fun _ h => List.mem_cons_of_mem _ (List.mem_append_right _ h)
  have hl : lv_has ls 3 [(0, .ref (va 0)), (1, .int x1), (2, .int x2)] := hl
  refine lv_aload_n hx hb dX9_movesAll_0 rfl (lv_at hl 0 rfl) ?_
  refine lv_bipush (v := 13) hx hb dX9_movesAll_1 (by decide) ?_
  refine lv_iload_n hx hb dX9_movesAll_3 rfl (lv_at hl 1 rfl) ?_
  refine lv_imul hx hb dX9_movesAll_4 ?_
  refine va_put (D := D) (ci := 7) (v := .int (13 * x1)) (C := RX9) (T := TX9) (N := 53) hx hb hts in9 tyX9 tyX9_ok nmX9 hown hG.1 hP hD hS 0 rfl rfl 42 (by decide) (hts (.fieldLink RX9 390 "ChairCaneModel" "pastAt" "I") (mem_b bq_wsX9_movesAll 0 0 rfl)) (fun _ h9 => h9) rfl (tyX9_ok 42 (by decide)) rfl rfl (Nat.le_of_ble_eq_true rfl) dX9_movesAll_5 (fun H locs hP hD hS => ?_)
  refine lv_aload_n hx hb dX9_movesAll_8 rfl (lv_at hl 0 rfl) ?_
  refine lv_iload_n hx hb dX9_movesAll_9 rfl (lv_at hl 2 rfl) ?_
  obtain ⟨g1, h⟩ := fw_g h
  refine va_put (D := D) (ci := 7) (v := .int x2) (C := RX9) (T := TX9) (N := 53) hx hb hts in9 tyX9 tyX9_ok nmX9 hown hG.1 hP hD hS 0 rfl rfl 43 (by decide) (hts (.fieldLink RX9 386 "ChairCaneModel" "takesBack" "Z") (mem_b bq_wsX9_movesAll 0 1 rfl)) (fun _ h9 => h9) rfl (tyX9_ok 43 (by decide)) (bo_z g1) (bo_f g1) (Nat.le_of_ble_eq_true rfl) dX9_movesAll_10 (fun H locs hP hD hS => ?_)
  refine lv_aload_n hx hb dX9_movesAll_13 rfl (lv_at hl 0 rfl) ?_
  refine va_get (D := D) (ci := 7) (v := .ref (va 1)) (C := RX9) (T := TX9) (N := 53) hx hb hts in9 hown hG.1 hP 0 rfl rfl 1 (by decide) (hts (.fieldLink RX9 9 "ChairCaneModel" "scalar" "[I") (mem_b bq_wsX9_movesAll 0 2 rfl)) (fun _ h9 => h9) rfl dX9_movesAll_14 ?_
  refine lv_iconst (v := 4) hx hb dX9_movesAll_17 (by decide) ?_
  refine lv_aload_n hx hb dX9_movesAll_18 rfl (lv_at hl 0 rfl) ?_
  refine lv_aload_n hx hb dX9_movesAll_19 rfl (lv_at hl 0 rfl) ?_
  refine va_get (D := D) (ci := 7) (v := .ref (va 1)) (C := RX9) (T := TX9) (N := 53) hx hb hts in9 hown hG.1 hP 0 rfl rfl 1 (by decide) (hts (.fieldLink RX9 9 "ChairCaneModel" "scalar" "[I") (mem_b bq_wsX9_movesAll 0 2 rfl)) (fun _ h9 => h9) rfl dX9_movesAll_20 ?_
  refine lv_iconst (v := 4) hx hb dX9_movesAll_23 (by decide) ?_
  refine va_iald hx hb hG.1 hP 1 0 rfl rfl (by unfold vp_in; decide) dX9_movesAll_24 ?_
  obtain ⟨hP, hD⟩ := cv (w' := moW k va ((uF (uF mo.1 42 (13 * x1)) 43 x2), mo.2.1, mo.2.2)) hP hD rfl
  refine fw_Vi (As := [.int ((mo.2.1 1) (Int32.toNatClampNeg 4))]) (rest := [.int 4, .ref (va 1)]) (n := 1) (wr := ([((va 1), hcI k 8 (((uF (uF mo.1 42 (13 * x1)) 43 x2), mo.2.1, mo.2.2).2.1 1)), ((va 2), hcI k 4 (((uF (uF mo.1 42 (13 * x1)) 43 x2), mo.2.1, mo.2.2).2.1 2)), ((va 3), hcI k 8 (((uF (uF mo.1 42 (13 * x1)) 43 x2), mo.2.1, mo.2.2).2.1 3)), ((va 4), hcI k 8 (((uF (uF mo.1 42 (13 * x1)) 43 x2), mo.2.1, mo.2.2).2.1 4)), ((va 5), hcI k 8 (((uF (uF mo.1 42 (13 * x1)) 43 x2), mo.2.1, mo.2.2).2.1 5)), ((va 6), hcI k 8 (((uF (uF mo.1 42 (13 * x1)) 43 x2), mo.2.1, mo.2.2).2.1 6)), ((va 7), hcI k 8 (((uF (uF mo.1 42 (13 * x1)) 43 x2), mo.2.1, mo.2.2).2.1 7)), ((va 8), hcI k 10 (((uF (uF mo.1 42 (13 * x1)) 43 x2), mo.2.1, mo.2.2).2.1 8)), ((va 9), hcI k 10 (((uF (uF mo.1 42 (13 * x1)) 43 x2), mo.2.1, mo.2.2).2.1 9)), ((va 10), hcI k 10 (((uF (uF mo.1 42 (13 * x1)) 43 x2), mo.2.1, mo.2.2).2.1 10)), ((va 11), hcI k 4 (((uF (uF mo.1 42 (13 * x1)) 43 x2), mo.2.1, mo.2.2).2.1 11)), ((va 12), hcI k 4 (((uF (uF mo.1 42 (13 * x1)) 43 x2), mo.2.1, mo.2.2).2.1 12)), ((va 13), hcI k 4 (((uF (uF mo.1 42 (13 * x1)) 43 x2), mo.2.1, mo.2.2).2.1 13)), ((va 14), hcI k 8 (((uF (uF mo.1 42 (13 * x1)) 43 x2), mo.2.1, mo.2.2).2.1 14)), ((va 15), hcI k 8 (((uF (uF mo.1 42 (13 * x1)) 43 x2), mo.2.1, mo.2.2).2.1 15)), ((va 16), hcI k 8 (((uF (uF mo.1 42 (13 * x1)) 43 x2), mo.2.1, mo.2.2).2.1 16)), ((va 17), hcI k 8 (((uF (uF mo.1 42 (13 * x1)) 43 x2), mo.2.1, mo.2.2).2.1 17)), ((va 18), hcY k 400 (((uF (uF mo.1 42 (13 * x1)) 43 x2), mo.2.1, mo.2.2).2.1 28)), ((va 19), hcI k 1800 (((uF (uF mo.1 42 (13 * x1)) 43 x2), mo.2.1, mo.2.2).2.1 29)), ((va 20), hcI k 1800 (((uF (uF mo.1 42 (13 * x1)) 43 x2), mo.2.1, mo.2.2).2.1 30)), ((va 21), hcI k 6 (((uF (uF mo.1 42 (13 * x1)) 43 x2), mo.2.1, mo.2.2).2.1 31)), ((va 22), hcI k 72 (((uF (uF mo.1 42 (13 * x1)) 43 x2), mo.2.1, mo.2.2).2.1 32)), ((va 23), hcI k 72 (((uF (uF mo.1 42 (13 * x1)) 43 x2), mo.2.1, mo.2.2).2.1 33)), ((va 24), hcI k 72 (((uF (uF mo.1 42 (13 * x1)) 43 x2), mo.2.1, mo.2.2).2.1 34)), ((va 25), hcI k 402 (((uF (uF mo.1 42 (13 * x1)) 43 x2), mo.2.1, mo.2.2).2.1 35)), ((va 26), hcJ k 11 (((uF (uF mo.1 42 (13 * x1)) 43 x2), mo.2.1, mo.2.2).2.2 36)), ((va 27), hcJ k 300 (((uF (uF mo.1 42 (13 * x1)) 43 x2), mo.2.1, mo.2.2).2.2 37)), ((va 28), hcI k 8 (((uF (uF mo.1 42 (13 * x1)) 43 x2), mo.2.1, mo.2.2).2.1 38)), ((va 30), hcI k 1 (((uF (uF mo.1 42 (13 * x1)) 43 x2), mo.2.1, mo.2.2).2.1 40)), ((va 31), hcZ k 256 (((uF (uF mo.1 42 (13 * x1)) 43 x2), mo.2.1, mo.2.2).2.1 44)), ((va 32), hcI k 4 (((uF (uF mo.1 42 (13 * x1)) 43 x2), mo.2.1, mo.2.2).2.1 45)), ((va 33), hcI k 4 (((uF (uF mo.1 42 (13 * x1)) 43 x2), mo.2.1, mo.2.2).2.1 46)), ((va 34), hcI k 488 (((uF (uF mo.1 42 (13 * x1)) 43 x2), mo.2.1, mo.2.2).2.1 47)), ((va 35), hcI k 56 (((uF (uF mo.1 42 (13 * x1)) 43 x2), mo.2.1, mo.2.2).2.1 48)), ((va 36), hcI k 2000 (((uF (uF mo.1 42 (13 * x1)) 43 x2), mo.2.1, mo.2.2).2.1 49)), ((va 37), hcZ k 4 (((uF (uF mo.1 42 (13 * x1)) 43 x2), mo.2.1, mo.2.2).2.1 50))] : va_W)) (rv := fun b : Int32 × (Nat → Int32) × (Nat → Int32) => b.1) (wp := fun b : Int32 × (Nat → Int32) × (Nat → Int32) => ([((va 0), .inr (7, [.int (b.2.1 0), .ref (va 1), .ref (va 2), .ref (va 3), .ref (va 4), .ref (va 5), .ref (va 6), .ref (va 7), .ref (va 8), .ref (va 9), .ref (va 10), .ref (va 11), .ref (va 12), .ref (va 13), .ref (va 14), .ref (va 15), .ref (va 16), .ref (va 17), .int (b.2.1 18), .int (b.2.1 19), .int (b.2.1 20), .int (b.2.1 21), .int (b.2.1 22), .int (b.2.1 23), .int (b.2.1 24), .int (b.2.1 25), .int (b.2.1 26), .int (b.2.1 27), .ref (va 18), .ref (va 19), .ref (va 20), .ref (va 21), .ref (va 22), .ref (va 23), .ref (va 24), .ref (va 25), .ref (va 26), .ref (va 27), .ref (va 28), .ref (va 29), .ref (va 30), .int (b.2.1 41), .int (b.2.1 42), .int (b.2.1 43), .ref (va 31), .ref (va 32), .ref (va 33), .ref (va 34), .ref (va 35), .ref (va 36), .ref (va 37), .int (b.2.1 51), .int (b.2.1 52)]))] : va_W) ++ (([((va 29), hcI k 260 b.2.2)] : va_W))) h hx hb hml hown hts hG hA hP hD hS hl.1 [0, 29] [1, 2, 3, 4, 5, 6, 7, 8, 9, 10, 11, 12, 13, 14, 15, 16, 17, 18, 19, 20, 21, 22, 23, 24, 25, 26, 27, 28, 30, 31, 32, 33, 34, 35, 36, 37] (fun q hq9 => c_X9_moves l D k _  va F ((mo.2.1 1) (Int32.toNatClampNeg 4)) (uF (uF mo.1 42 (13 * x1)) 43 x2) (mo.2.1 39)  hq9) (ci := 7) (q0 := 0) rfl rfl gX9_movesAll_X9_moves rfl ⟨rfl, rfl, Nat.le_of_ble_eq_true rfl, Nat.le_of_ble_eq_true rfl⟩ (by decide +kernel) rfl rfl ⟨by decide +kernel, by decide +kernel, by decide +kernel⟩ ⟨rfl, rfl, Nat.le_of_ble_eq_true rfl, Nat.le_of_ble_eq_true rfl, Nat.le_of_ble_eq_true rfl⟩ dX9_movesAll_25 (fun q2 H locs h hP hD hS => ?_)
  obtain ⟨hP, hD⟩ := cvs (w' := moW k va (q2.2.1, (uF mo.2.1 39 q2.2.2), mo.2.2)) hP hD [36, 0, 1, 2, 3, 4, 5, 6, 7, 8, 9, 10, 11, 12, 13, 14, 15, 16, 17, 18, 19, 20, 21, 22, 23, 24, 25, 26, 27, 37, 28, 29, 30, 31, 32, 33, 34, 35] (by decide +kernel) rfl
  refine hc_is (z := q2.1) rfl ?_
  refine va_iast hx hb hG.1 hP hD hS 1 0 rfl rfl (by unfold vp_in; decide) dX9_movesAll_28 (fun H locs hP hD hS => ?_)
  refine lv_aload_n hx hb dX9_movesAll_29 rfl (lv_at hl 0 rfl) ?_
  refine lv_aload_n hx hb dX9_movesAll_30 rfl (lv_at hl 0 rfl) ?_
  refine va_get (D := D) (ci := 7) (v := .ref (va 2)) (C := RX9) (T := TX9) (N := 53) hx hb hts in9 hown hG.1 hP 0 rfl rfl 2 (by decide) (hts (.fieldLink RX9 13 "ChairCaneModel" "cane" "[I") (mem_b bq_wsX9_movesAll 0 3 rfl)) (fun _ h9 => h9) rfl dX9_movesAll_31 ?_
  obtain ⟨hP, hD⟩ := cv (w' := moW k va (q2.2.1, (uF (uF mo.2.1 1 (upd (mo.2.1 1) (Int32.toNatClampNeg 4) q2.1)) 39 q2.2.2), mo.2.2)) hP hD rfl
  refine fw_Vv (As := [.ref (va 2)]) (rest := []) (n := 1) (wr := ([((va 1), hcI k 8 ((q2.2.1, (uF (uF mo.2.1 1 (upd (mo.2.1 1) (Int32.toNatClampNeg 4) q2.1)) 39 q2.2.2), mo.2.2).2.1 1)), ((va 3), hcI k 8 ((q2.2.1, (uF (uF mo.2.1 1 (upd (mo.2.1 1) (Int32.toNatClampNeg 4) q2.1)) 39 q2.2.2), mo.2.2).2.1 3)), ((va 4), hcI k 8 ((q2.2.1, (uF (uF mo.2.1 1 (upd (mo.2.1 1) (Int32.toNatClampNeg 4) q2.1)) 39 q2.2.2), mo.2.2).2.1 4)), ((va 5), hcI k 8 ((q2.2.1, (uF (uF mo.2.1 1 (upd (mo.2.1 1) (Int32.toNatClampNeg 4) q2.1)) 39 q2.2.2), mo.2.2).2.1 5)), ((va 6), hcI k 8 ((q2.2.1, (uF (uF mo.2.1 1 (upd (mo.2.1 1) (Int32.toNatClampNeg 4) q2.1)) 39 q2.2.2), mo.2.2).2.1 6)), ((va 7), hcI k 8 ((q2.2.1, (uF (uF mo.2.1 1 (upd (mo.2.1 1) (Int32.toNatClampNeg 4) q2.1)) 39 q2.2.2), mo.2.2).2.1 7)), ((va 8), hcI k 10 ((q2.2.1, (uF (uF mo.2.1 1 (upd (mo.2.1 1) (Int32.toNatClampNeg 4) q2.1)) 39 q2.2.2), mo.2.2).2.1 8)), ((va 9), hcI k 10 ((q2.2.1, (uF (uF mo.2.1 1 (upd (mo.2.1 1) (Int32.toNatClampNeg 4) q2.1)) 39 q2.2.2), mo.2.2).2.1 9)), ((va 10), hcI k 10 ((q2.2.1, (uF (uF mo.2.1 1 (upd (mo.2.1 1) (Int32.toNatClampNeg 4) q2.1)) 39 q2.2.2), mo.2.2).2.1 10)), ((va 11), hcI k 4 ((q2.2.1, (uF (uF mo.2.1 1 (upd (mo.2.1 1) (Int32.toNatClampNeg 4) q2.1)) 39 q2.2.2), mo.2.2).2.1 11)), ((va 12), hcI k 4 ((q2.2.1, (uF (uF mo.2.1 1 (upd (mo.2.1 1) (Int32.toNatClampNeg 4) q2.1)) 39 q2.2.2), mo.2.2).2.1 12)), ((va 13), hcI k 4 ((q2.2.1, (uF (uF mo.2.1 1 (upd (mo.2.1 1) (Int32.toNatClampNeg 4) q2.1)) 39 q2.2.2), mo.2.2).2.1 13)), ((va 14), hcI k 8 ((q2.2.1, (uF (uF mo.2.1 1 (upd (mo.2.1 1) (Int32.toNatClampNeg 4) q2.1)) 39 q2.2.2), mo.2.2).2.1 14)), ((va 15), hcI k 8 ((q2.2.1, (uF (uF mo.2.1 1 (upd (mo.2.1 1) (Int32.toNatClampNeg 4) q2.1)) 39 q2.2.2), mo.2.2).2.1 15)), ((va 16), hcI k 8 ((q2.2.1, (uF (uF mo.2.1 1 (upd (mo.2.1 1) (Int32.toNatClampNeg 4) q2.1)) 39 q2.2.2), mo.2.2).2.1 16)), ((va 17), hcI k 8 ((q2.2.1, (uF (uF mo.2.1 1 (upd (mo.2.1 1) (Int32.toNatClampNeg 4) q2.1)) 39 q2.2.2), mo.2.2).2.1 17)), ((va 18), hcY k 400 ((q2.2.1, (uF (uF mo.2.1 1 (upd (mo.2.1 1) (Int32.toNatClampNeg 4) q2.1)) 39 q2.2.2), mo.2.2).2.1 28)), ((va 19), hcI k 1800 ((q2.2.1, (uF (uF mo.2.1 1 (upd (mo.2.1 1) (Int32.toNatClampNeg 4) q2.1)) 39 q2.2.2), mo.2.2).2.1 29)), ((va 20), hcI k 1800 ((q2.2.1, (uF (uF mo.2.1 1 (upd (mo.2.1 1) (Int32.toNatClampNeg 4) q2.1)) 39 q2.2.2), mo.2.2).2.1 30)), ((va 21), hcI k 6 ((q2.2.1, (uF (uF mo.2.1 1 (upd (mo.2.1 1) (Int32.toNatClampNeg 4) q2.1)) 39 q2.2.2), mo.2.2).2.1 31)), ((va 22), hcI k 72 ((q2.2.1, (uF (uF mo.2.1 1 (upd (mo.2.1 1) (Int32.toNatClampNeg 4) q2.1)) 39 q2.2.2), mo.2.2).2.1 32)), ((va 23), hcI k 72 ((q2.2.1, (uF (uF mo.2.1 1 (upd (mo.2.1 1) (Int32.toNatClampNeg 4) q2.1)) 39 q2.2.2), mo.2.2).2.1 33)), ((va 24), hcI k 72 ((q2.2.1, (uF (uF mo.2.1 1 (upd (mo.2.1 1) (Int32.toNatClampNeg 4) q2.1)) 39 q2.2.2), mo.2.2).2.1 34)), ((va 25), hcI k 402 ((q2.2.1, (uF (uF mo.2.1 1 (upd (mo.2.1 1) (Int32.toNatClampNeg 4) q2.1)) 39 q2.2.2), mo.2.2).2.1 35)), ((va 26), hcJ k 11 ((q2.2.1, (uF (uF mo.2.1 1 (upd (mo.2.1 1) (Int32.toNatClampNeg 4) q2.1)) 39 q2.2.2), mo.2.2).2.2 36)), ((va 27), hcJ k 300 ((q2.2.1, (uF (uF mo.2.1 1 (upd (mo.2.1 1) (Int32.toNatClampNeg 4) q2.1)) 39 q2.2.2), mo.2.2).2.2 37)), ((va 28), hcI k 8 ((q2.2.1, (uF (uF mo.2.1 1 (upd (mo.2.1 1) (Int32.toNatClampNeg 4) q2.1)) 39 q2.2.2), mo.2.2).2.1 38)), ((va 30), hcI k 1 ((q2.2.1, (uF (uF mo.2.1 1 (upd (mo.2.1 1) (Int32.toNatClampNeg 4) q2.1)) 39 q2.2.2), mo.2.2).2.1 40)), ((va 31), hcZ k 256 ((q2.2.1, (uF (uF mo.2.1 1 (upd (mo.2.1 1) (Int32.toNatClampNeg 4) q2.1)) 39 q2.2.2), mo.2.2).2.1 44)), ((va 32), hcI k 4 ((q2.2.1, (uF (uF mo.2.1 1 (upd (mo.2.1 1) (Int32.toNatClampNeg 4) q2.1)) 39 q2.2.2), mo.2.2).2.1 45)), ((va 33), hcI k 4 ((q2.2.1, (uF (uF mo.2.1 1 (upd (mo.2.1 1) (Int32.toNatClampNeg 4) q2.1)) 39 q2.2.2), mo.2.2).2.1 46)), ((va 34), hcI k 488 ((q2.2.1, (uF (uF mo.2.1 1 (upd (mo.2.1 1) (Int32.toNatClampNeg 4) q2.1)) 39 q2.2.2), mo.2.2).2.1 47)), ((va 35), hcI k 56 ((q2.2.1, (uF (uF mo.2.1 1 (upd (mo.2.1 1) (Int32.toNatClampNeg 4) q2.1)) 39 q2.2.2), mo.2.2).2.1 48)), ((va 36), hcI k 2000 ((q2.2.1, (uF (uF mo.2.1 1 (upd (mo.2.1 1) (Int32.toNatClampNeg 4) q2.1)) 39 q2.2.2), mo.2.2).2.1 49)), ((va 37), hcZ k 4 ((q2.2.1, (uF (uF mo.2.1 1 (upd (mo.2.1 1) (Int32.toNatClampNeg 4) q2.1)) 39 q2.2.2), mo.2.2).2.1 50))] : va_W)) (wp := fun b : (Nat → Int32) × (Nat → Int32) × (Nat → Int32) => ([((va 0), .inr (7, [.int (b.1 0), .ref (va 1), .ref (va 2), .ref (va 3), .ref (va 4), .ref (va 5), .ref (va 6), .ref (va 7), .ref (va 8), .ref (va 9), .ref (va 10), .ref (va 11), .ref (va 12), .ref (va 13), .ref (va 14), .ref (va 15), .ref (va 16), .ref (va 17), .int (b.1 18), .int (b.1 19), .int (b.1 20), .int (b.1 21), .int (b.1 22), .int (b.1 23), .int (b.1 24), .int (b.1 25), .int (b.1 26), .int (b.1 27), .ref (va 18), .ref (va 19), .ref (va 20), .ref (va 21), .ref (va 22), .ref (va 23), .ref (va 24), .ref (va 25), .ref (va 26), .ref (va 27), .ref (va 28), .ref (va 29), .ref (va 30), .int (b.1 41), .int (b.1 42), .int (b.1 43), .ref (va 31), .ref (va 32), .ref (va 33), .ref (va 34), .ref (va 35), .ref (va 36), .ref (va 37), .int (b.1 51), .int (b.1 52)]))] : va_W) ++ (([((va 29), hcI k 260 b.2.1)] : va_W) ++ (([((va 2), hcI k 4 b.2.2)] : va_W)))) h hx hb hml hown hts hG hA hP hD hS hl.1 [0, 29, 2] [1, 3, 4, 5, 6, 7, 8, 9, 10, 11, 12, 13, 14, 15, 16, 17, 18, 19, 20, 21, 22, 23, 24, 25, 26, 27, 28, 30, 31, 32, 33, 34, 35, 36, 37] (fun q hq9 => c_X9_movesRow l D k _  va (va 2) F 4 q2.2.1 q2.2.2 (mo.2.1 2)  hq9) (ci := 7) (q0 := 0) rfl rfl gX9_movesAll_X9_movesRow rfl ⟨rfl, rfl, Nat.le_of_ble_eq_true rfl, Nat.le_of_ble_eq_true rfl⟩ (by decide +kernel) rfl rfl ⟨by decide +kernel, by decide +kernel, by decide +kernel⟩ ⟨rfl, rfl, Nat.le_of_ble_eq_true rfl, Nat.le_of_ble_eq_true rfl, Nat.le_of_ble_eq_true rfl⟩ dX9_movesAll_34 (fun q3 H locs h hP hD hS => ?_)
  obtain ⟨hP, hD⟩ := cvs (w' := moW k va (q3.1, (uF (uF (uF mo.2.1 1 (upd (mo.2.1 1) (Int32.toNatClampNeg 4) q2.1)) 2 q3.2.2) 39 q3.2.1), mo.2.2)) hP hD [35, 0, 37, 1, 2, 3, 4, 5, 6, 7, 8, 9, 10, 11, 12, 13, 14, 15, 16, 17, 18, 19, 20, 21, 22, 23, 24, 25, 26, 36, 27, 28, 29, 30, 31, 32, 33, 34] (by decide +kernel) rfl
  refine lv_aload_n hx hb dX9_movesAll_37 rfl (lv_at hl 0 rfl) ?_
  refine lv_aload_n hx hb dX9_movesAll_38 rfl (lv_at hl 0 rfl) ?_
  refine va_get (D := D) (ci := 7) (v := .ref (va 3)) (C := RX9) (T := TX9) (N := 53) hx hb hts in9 hown hG.1 hP 0 rfl rfl 3 (by decide) (hts (.fieldLink RX9 16 "ChairCaneModel" "is" "[I") (mem_b bq_wsX9_movesAll 0 4 rfl)) (fun _ h9 => h9) rfl dX9_movesAll_39 ?_
  refine fw_Vv (As := [.ref (va 3)]) (rest := []) (n := 1) (wr := ([((va 1), hcI k 8 ((q3.1, (uF (uF (uF mo.2.1 1 (upd (mo.2.1 1) (Int32.toNatClampNeg 4) q2.1)) 2 q3.2.2) 39 q3.2.1), mo.2.2).2.1 1)), ((va 2), hcI k 4 ((q3.1, (uF (uF (uF mo.2.1 1 (upd (mo.2.1 1) (Int32.toNatClampNeg 4) q2.1)) 2 q3.2.2) 39 q3.2.1), mo.2.2).2.1 2)), ((va 4), hcI k 8 ((q3.1, (uF (uF (uF mo.2.1 1 (upd (mo.2.1 1) (Int32.toNatClampNeg 4) q2.1)) 2 q3.2.2) 39 q3.2.1), mo.2.2).2.1 4)), ((va 5), hcI k 8 ((q3.1, (uF (uF (uF mo.2.1 1 (upd (mo.2.1 1) (Int32.toNatClampNeg 4) q2.1)) 2 q3.2.2) 39 q3.2.1), mo.2.2).2.1 5)), ((va 6), hcI k 8 ((q3.1, (uF (uF (uF mo.2.1 1 (upd (mo.2.1 1) (Int32.toNatClampNeg 4) q2.1)) 2 q3.2.2) 39 q3.2.1), mo.2.2).2.1 6)), ((va 7), hcI k 8 ((q3.1, (uF (uF (uF mo.2.1 1 (upd (mo.2.1 1) (Int32.toNatClampNeg 4) q2.1)) 2 q3.2.2) 39 q3.2.1), mo.2.2).2.1 7)), ((va 8), hcI k 10 ((q3.1, (uF (uF (uF mo.2.1 1 (upd (mo.2.1 1) (Int32.toNatClampNeg 4) q2.1)) 2 q3.2.2) 39 q3.2.1), mo.2.2).2.1 8)), ((va 9), hcI k 10 ((q3.1, (uF (uF (uF mo.2.1 1 (upd (mo.2.1 1) (Int32.toNatClampNeg 4) q2.1)) 2 q3.2.2) 39 q3.2.1), mo.2.2).2.1 9)), ((va 10), hcI k 10 ((q3.1, (uF (uF (uF mo.2.1 1 (upd (mo.2.1 1) (Int32.toNatClampNeg 4) q2.1)) 2 q3.2.2) 39 q3.2.1), mo.2.2).2.1 10)), ((va 11), hcI k 4 ((q3.1, (uF (uF (uF mo.2.1 1 (upd (mo.2.1 1) (Int32.toNatClampNeg 4) q2.1)) 2 q3.2.2) 39 q3.2.1), mo.2.2).2.1 11)), ((va 12), hcI k 4 ((q3.1, (uF (uF (uF mo.2.1 1 (upd (mo.2.1 1) (Int32.toNatClampNeg 4) q2.1)) 2 q3.2.2) 39 q3.2.1), mo.2.2).2.1 12)), ((va 13), hcI k 4 ((q3.1, (uF (uF (uF mo.2.1 1 (upd (mo.2.1 1) (Int32.toNatClampNeg 4) q2.1)) 2 q3.2.2) 39 q3.2.1), mo.2.2).2.1 13)), ((va 14), hcI k 8 ((q3.1, (uF (uF (uF mo.2.1 1 (upd (mo.2.1 1) (Int32.toNatClampNeg 4) q2.1)) 2 q3.2.2) 39 q3.2.1), mo.2.2).2.1 14)), ((va 15), hcI k 8 ((q3.1, (uF (uF (uF mo.2.1 1 (upd (mo.2.1 1) (Int32.toNatClampNeg 4) q2.1)) 2 q3.2.2) 39 q3.2.1), mo.2.2).2.1 15)), ((va 16), hcI k 8 ((q3.1, (uF (uF (uF mo.2.1 1 (upd (mo.2.1 1) (Int32.toNatClampNeg 4) q2.1)) 2 q3.2.2) 39 q3.2.1), mo.2.2).2.1 16)), ((va 17), hcI k 8 ((q3.1, (uF (uF (uF mo.2.1 1 (upd (mo.2.1 1) (Int32.toNatClampNeg 4) q2.1)) 2 q3.2.2) 39 q3.2.1), mo.2.2).2.1 17)), ((va 18), hcY k 400 ((q3.1, (uF (uF (uF mo.2.1 1 (upd (mo.2.1 1) (Int32.toNatClampNeg 4) q2.1)) 2 q3.2.2) 39 q3.2.1), mo.2.2).2.1 28)), ((va 19), hcI k 1800 ((q3.1, (uF (uF (uF mo.2.1 1 (upd (mo.2.1 1) (Int32.toNatClampNeg 4) q2.1)) 2 q3.2.2) 39 q3.2.1), mo.2.2).2.1 29)), ((va 20), hcI k 1800 ((q3.1, (uF (uF (uF mo.2.1 1 (upd (mo.2.1 1) (Int32.toNatClampNeg 4) q2.1)) 2 q3.2.2) 39 q3.2.1), mo.2.2).2.1 30)), ((va 21), hcI k 6 ((q3.1, (uF (uF (uF mo.2.1 1 (upd (mo.2.1 1) (Int32.toNatClampNeg 4) q2.1)) 2 q3.2.2) 39 q3.2.1), mo.2.2).2.1 31)), ((va 22), hcI k 72 ((q3.1, (uF (uF (uF mo.2.1 1 (upd (mo.2.1 1) (Int32.toNatClampNeg 4) q2.1)) 2 q3.2.2) 39 q3.2.1), mo.2.2).2.1 32)), ((va 23), hcI k 72 ((q3.1, (uF (uF (uF mo.2.1 1 (upd (mo.2.1 1) (Int32.toNatClampNeg 4) q2.1)) 2 q3.2.2) 39 q3.2.1), mo.2.2).2.1 33)), ((va 24), hcI k 72 ((q3.1, (uF (uF (uF mo.2.1 1 (upd (mo.2.1 1) (Int32.toNatClampNeg 4) q2.1)) 2 q3.2.2) 39 q3.2.1), mo.2.2).2.1 34)), ((va 25), hcI k 402 ((q3.1, (uF (uF (uF mo.2.1 1 (upd (mo.2.1 1) (Int32.toNatClampNeg 4) q2.1)) 2 q3.2.2) 39 q3.2.1), mo.2.2).2.1 35)), ((va 26), hcJ k 11 ((q3.1, (uF (uF (uF mo.2.1 1 (upd (mo.2.1 1) (Int32.toNatClampNeg 4) q2.1)) 2 q3.2.2) 39 q3.2.1), mo.2.2).2.2 36)), ((va 27), hcJ k 300 ((q3.1, (uF (uF (uF mo.2.1 1 (upd (mo.2.1 1) (Int32.toNatClampNeg 4) q2.1)) 2 q3.2.2) 39 q3.2.1), mo.2.2).2.2 37)), ((va 28), hcI k 8 ((q3.1, (uF (uF (uF mo.2.1 1 (upd (mo.2.1 1) (Int32.toNatClampNeg 4) q2.1)) 2 q3.2.2) 39 q3.2.1), mo.2.2).2.1 38)), ((va 30), hcI k 1 ((q3.1, (uF (uF (uF mo.2.1 1 (upd (mo.2.1 1) (Int32.toNatClampNeg 4) q2.1)) 2 q3.2.2) 39 q3.2.1), mo.2.2).2.1 40)), ((va 31), hcZ k 256 ((q3.1, (uF (uF (uF mo.2.1 1 (upd (mo.2.1 1) (Int32.toNatClampNeg 4) q2.1)) 2 q3.2.2) 39 q3.2.1), mo.2.2).2.1 44)), ((va 32), hcI k 4 ((q3.1, (uF (uF (uF mo.2.1 1 (upd (mo.2.1 1) (Int32.toNatClampNeg 4) q2.1)) 2 q3.2.2) 39 q3.2.1), mo.2.2).2.1 45)), ((va 33), hcI k 4 ((q3.1, (uF (uF (uF mo.2.1 1 (upd (mo.2.1 1) (Int32.toNatClampNeg 4) q2.1)) 2 q3.2.2) 39 q3.2.1), mo.2.2).2.1 46)), ((va 34), hcI k 488 ((q3.1, (uF (uF (uF mo.2.1 1 (upd (mo.2.1 1) (Int32.toNatClampNeg 4) q2.1)) 2 q3.2.2) 39 q3.2.1), mo.2.2).2.1 47)), ((va 35), hcI k 56 ((q3.1, (uF (uF (uF mo.2.1 1 (upd (mo.2.1 1) (Int32.toNatClampNeg 4) q2.1)) 2 q3.2.2) 39 q3.2.1), mo.2.2).2.1 48)), ((va 36), hcI k 2000 ((q3.1, (uF (uF (uF mo.2.1 1 (upd (mo.2.1 1) (Int32.toNatClampNeg 4) q2.1)) 2 q3.2.2) 39 q3.2.1), mo.2.2).2.1 49)), ((va 37), hcZ k 4 ((q3.1, (uF (uF (uF mo.2.1 1 (upd (mo.2.1 1) (Int32.toNatClampNeg 4) q2.1)) 2 q3.2.2) 39 q3.2.1), mo.2.2).2.1 50))] : va_W)) (wp := fun b : (Nat → Int32) × (Nat → Int32) × (Nat → Int32) => ([((va 0), .inr (7, [.int (b.1 0), .ref (va 1), .ref (va 2), .ref (va 3), .ref (va 4), .ref (va 5), .ref (va 6), .ref (va 7), .ref (va 8), .ref (va 9), .ref (va 10), .ref (va 11), .ref (va 12), .ref (va 13), .ref (va 14), .ref (va 15), .ref (va 16), .ref (va 17), .int (b.1 18), .int (b.1 19), .int (b.1 20), .int (b.1 21), .int (b.1 22), .int (b.1 23), .int (b.1 24), .int (b.1 25), .int (b.1 26), .int (b.1 27), .ref (va 18), .ref (va 19), .ref (va 20), .ref (va 21), .ref (va 22), .ref (va 23), .ref (va 24), .ref (va 25), .ref (va 26), .ref (va 27), .ref (va 28), .ref (va 29), .ref (va 30), .int (b.1 41), .int (b.1 42), .int (b.1 43), .ref (va 31), .ref (va 32), .ref (va 33), .ref (va 34), .ref (va 35), .ref (va 36), .ref (va 37), .int (b.1 51), .int (b.1 52)]))] : va_W) ++ (([((va 29), hcI k 260 b.2.1)] : va_W) ++ (([((va 3), hcI k 8 b.2.2)] : va_W)))) h hx hb hml hown hts hG hA hP hD hS hl.1 [0, 29, 3] [1, 2, 4, 5, 6, 7, 8, 9, 10, 11, 12, 13, 14, 15, 16, 17, 18, 19, 20, 21, 22, 23, 24, 25, 26, 27, 28, 30, 31, 32, 33, 34, 35, 36, 37] (fun q hq9 => c_X9_movesRow l D k _  va (va 3) F 8 q3.1 q3.2.1 (mo.2.1 3)  hq9) (ci := 7) (q0 := 0) rfl rfl gX9_movesAll_X9_movesRow rfl ⟨rfl, rfl, Nat.le_of_ble_eq_true rfl, Nat.le_of_ble_eq_true rfl⟩ (by decide +kernel) rfl rfl ⟨by decide +kernel, by decide +kernel, by decide +kernel⟩ ⟨rfl, rfl, Nat.le_of_ble_eq_true rfl, Nat.le_of_ble_eq_true rfl, Nat.le_of_ble_eq_true rfl⟩ dX9_movesAll_42 (fun q4 H locs h hP hD hS => ?_)
  obtain ⟨hP, hD⟩ := cvs (w' := moW k va (q4.1, (uF (uF (uF (uF mo.2.1 1 (upd (mo.2.1 1) (Int32.toNatClampNeg 4) q2.1)) 2 q3.2.2) 3 q4.2.2) 39 q4.2.1), mo.2.2)) hP hD [35, 0, 1, 37, 2, 3, 4, 5, 6, 7, 8, 9, 10, 11, 12, 13, 14, 15, 16, 17, 18, 19, 20, 21, 22, 23, 24, 25, 26, 36, 27, 28, 29, 30, 31, 32, 33, 34] (by decide +kernel) rfl
  exact fw_endV (wp := fun b : OB => moW k va b) hx hb hr hlocks h hP hD hS dX9_movesAll_45
noncomputable def b_X9_keepsAct_50 (F : Nat)    (mo : OB) : Option (OB) :=
  Option.bind (f_X9_movesAll F (mo.1 41) 0 mo) (fun q1 => (some ((uF q1.1 41 ((q1.1 41) + 1)), q1.2.1, q1.2.2)))
noncomputable def b_X9_keepsAct_12 (F : Nat)    (k12 : (Int32 × OB) → Option (OB)) (a12 : (Int32 × OB)) : Option (OB) :=
  if 260 ≤ a12.1 then (b_X9_keepsAct_50 F ((uF a12.2.1 41 ((a12.2.1 41) - 1)), a12.2.2.1, a12.2.2.2)) else (if ib a12.1 260 then (if ib (a12.1 - 13) 260 then (k12 ((a12.1 + 1), (a12.2.1, (uF a12.2.2.1 39 (upd (a12.2.2.1 39) (Int32.toNatClampNeg (a12.1 - 13)) ((a12.2.2.1 39) (Int32.toNatClampNeg a12.1)))), a12.2.2.2))) else none) else none)
noncomputable def f_X9_keepsAct (F : Nat)   (mo : OB) : Option (OB) :=
  if (mo.1 41) = 20 then (lp (b_X9_keepsAct_12 F) F (13, mo)) else (b_X9_keepsAct_50 F mo)
set_option maxHeartbeats 4000000 in
set_option maxRecDepth 100000 in
theorem c_X9_keepsAct (l : Launch) (D : va_G) (k : Nat → ClassId) (sz : Nat)  (va : Nat → Nat) (F : Nat)   (mo : OB)  {res : OB} (h : f_X9_keepsAct F mo = some res) : CtV l yX9_keepsAct wsX9_keepsAct (rmK 4 0 0) [.ref (va 0)] D k sz (moW k va mo) (fun (_ : Unit) => True) (fun _ : Unit => moW k va res) 0 0 := by
  refine CtV.mk (cc := cX9_keepsAct) (maxL := 2) (ret := none) (by decide) rfl (Nat.le_of_ble_eq_true rfl) ?_
  intro p e s m below meth c A ls E hP hD hS hl
  obtain ⟨hx, hb, hr, hml, hown, hts, hlocks, hin, hG, hA⟩ := E
  have hown : s.vm.findClass RX9 = some m.cls := hown
  have in9 : ∀ w ∈ u_ws RX9 TX9 53, w ∈ wsX9_keepsAct := fun _ h => List.mem_cons_of_mem _ (List.mem_append_right _ h)
  have hl : lv_has ls 2 [(0, .ref (va 0))] := hl
  have B50 : ∀ (mo : OB) (H : Heap) (locs : List Loc) (ls : Array Slot), b_X9_keepsAct_50 F mo = some res → va_P D vwCl (moW k va mo) H → va_D A (moW k va mo) → va_S A s.heap H locs → lv_has ls 2 [(0, .ref (va 0))] → W p l e (rmK 4 0 0) s m (List.toArray [.ref (va 0)]) below meth c H locs 0 0 (MQ below (va_Qv (fun (_ : Unit) => True) (hcB D (fun _ : Unit => moW k va res) A) A) (List.toArray [.ref (va 0)]) s 0 0 A) (F0 m 50 ls []) := by
    intro mo H locs ls h hP hD hS hl
    refine lv_aload_n hx hb dX9_keepsAct_50 rfl (lv_at hl 0 rfl) ?_
    refine lv_aload_n hx hb dX9_keepsAct_51 rfl (lv_at hl 0 rfl) ?_
    refine va_get (D := D) (ci := 7) (v := .int (mo.1 41)) (C := RX9) (T := TX9) (N := 53) hx hb hts in9 hown hG.1 hP 0 rfl rfl 41 (by decide) (hts (.fieldLink RX9 299 "ChairCaneModel" "pastMany" "I") (mem_b bq_wsX9_keepsAct 0 0 rfl)) (fun _ h9 => h9) rfl dX9_keepsAct_52 ?_
    refine lv_iconst (v := 0) hx hb dX9_keepsAct_55 (by decide) ?_
    refine fw_Vv (As := [.int (mo.1 41), .int 0]) (rest := []) (n := 2) (wr := []) (wp := fun b : OB => moW k va b) h hx hb hml hown hts hG hA hP hD hS hl.1 (List.range (moW k va mo).length) [] (fun q hq9 => c_X9_movesAll l D k _  va F (mo.1 41) 0 mo  hq9) (ci := 7) (q0 := 0) rfl rfl gX9_keepsAct_X9_movesAll rfl ⟨rfl, rfl, Nat.le_of_ble_eq_true rfl, Nat.le_of_ble_eq_true rfl⟩ (by decide +kernel) (al_C _) rfl (al_n _) ⟨rfl, rfl, Nat.le_of_ble_eq_true rfl, Nat.le_of_ble_eq_true rfl, Nat.le_of_ble_eq_true rfl⟩ dX9_keepsAct_56 (fun q1 H locs h hP hD hS => ?_)
    obtain ⟨hP, hD⟩ := cv (w' := moW k va q1) hP hD rfl
    refine lv_aload_n hx hb dX9_keepsAct_59 rfl (lv_at hl 0 rfl) ?_
    refine lv_dup hx hb dX9_keepsAct_60 rfl ?_
    refine va_get (D := D) (ci := 7) (v := .int (q1.1 41)) (C := RX9) (T := TX9) (N := 53) hx hb hts in9 hown hG.1 hP 0 rfl rfl 41 (by decide) (hts (.fieldLink RX9 299 "ChairCaneModel" "pastMany" "I") (mem_b bq_wsX9_keepsAct 0 0 rfl)) (fun _ h9 => h9) rfl dX9_keepsAct_61 ?_
    refine lv_iconst (v := 1) hx hb dX9_keepsAct_64 (by decide) ?_
    refine lv_iadd hx hb dX9_keepsAct_65 ?_
    refine va_put (D := D) (ci := 7) (v := .int ((q1.1 41) + 1)) (C := RX9) (T := TX9) (N := 53) hx hb hts in9 tyX9 tyX9_ok nmX9 hown hG.1 hP hD hS 0 rfl rfl 41 (by decide) (hts (.fieldLink RX9 299 "ChairCaneModel" "pastMany" "I") (mem_b bq_wsX9_keepsAct 0 0 rfl)) (fun _ h9 => h9) rfl (tyX9_ok 41 (by decide)) rfl rfl (Nat.le_of_ble_eq_true rfl) dX9_keepsAct_66 (fun H locs hP hD hS => ?_)
    exact fw_endV (wp := fun b : OB => moW k va b) hx hb hr hlocks h hP hD hS dX9_keepsAct_69
  have B12 : ∀ a12 : (Int32 × OB), lp (b_X9_keepsAct_12 F) F a12 = some res → ∀ (H : Heap) (locs : List Loc) (ls : Array Slot), va_P D vwCl (moW k va a12.2) H → va_D A (moW k va a12.2) → va_S A s.heap H locs → lv_has ls 2 [(0, .ref (va 0)), (1, .int a12.1)] → W p l e (rmK 4 0 0) s m (List.toArray [.ref (va 0)]) below meth c H locs 0 0 (MQ below (va_Qv (fun (_ : Unit) => True) (hcB D (fun _ : Unit => moW k va res) A) A) (List.toArray [.ref (va 0)]) s 0 0 A) (F0 m 12 ls []) := by
    refine lp_W ?_ F
    intro k12 hk12 a12 h H locs ls hP hD hS hl
    have hc12 : ∀ (v1 : Int32) (mo : OB), k12 (v1, mo) = some res → ∀ (H : Heap) (locs : List Loc) (ls : Array Slot), va_P D vwCl (moW k va mo) H → va_D A (moW k va mo) → va_S A s.heap H locs → lv_has ls 2 [(0, .ref (va 0)), (1, .int v1)] → W p l e (rmK 4 0 0) s m (List.toArray [.ref (va 0)]) below meth c H locs 0 0 (MQ below (va_Qv (fun (_ : Unit) => True) (hcB D (fun _ : Unit => moW k va res) A) A) (List.toArray [.ref (va 0)]) s 0 0 A) (F0 m 12 ls []) := fun v1 mo => hk12 (v1, mo)
    refine lv_iload_n hx hb dX9_keepsAct_12 rfl (lv_at hl 1 rfl) ?_
    refine lv_sipush (v := 260) hx hb dX9_keepsAct_13 (by decide) ?_
    refine lv_icmp_ge (tgt := 40) hx hb dX9_keepsAct_16 (by decide) (fun c2 => ?_) (fun c2 => ?_)
    · have h := fw_t c2 h
      refine lv_aload_n hx hb dX9_keepsAct_40 rfl (lv_at hl 0 rfl) ?_
      refine lv_dup hx hb dX9_keepsAct_41 rfl ?_
      refine va_get (D := D) (ci := 7) (v := .int (a12.2.1 41)) (C := RX9) (T := TX9) (N := 53) hx hb hts in9 hown hG.1 hP 0 rfl rfl 41 (by decide) (hts (.fieldLink RX9 299 "ChairCaneModel" "pastMany" "I") (mem_b bq_wsX9_keepsAct 0 0 rfl)) (fun _ h9 => h9) rfl dX9_keepsAct_42 ?_
      refine lv_iconst (v := 1) hx hb dX9_keepsAct_45 (by decide) ?_
      refine lv_isub hx hb dX9_keepsAct_46 ?_
      refine va_put (D := D) (ci := 7) (v := .int ((a12.2.1 41) - 1)) (C := RX9) (T := TX9) (N := 53) hx hb hts in9 tyX9 tyX9_ok nmX9 hown hG.1 hP hD hS 0 rfl rfl 41 (by decide) (hts (.fieldLink RX9 299 "ChairCaneModel" "pastMany" "I") (mem_b bq_wsX9_keepsAct 0 0 rfl)) (fun _ h9 => h9) rfl (tyX9_ok 41 (by decide)) rfl rfl (Nat.le_of_ble_eq_true rfl) dX9_keepsAct_47 (fun H locs hP hD hS => ?_)
      exact B50 _ _ _ _ h hP hD hS (lv_sub hl [0] rfl)
    · have h := fw_f c2 h
      refine lv_aload_n hx hb dX9_keepsAct_19 rfl (lv_at hl 0 rfl) ?_
      refine va_get (D := D) (ci := 7) (v := .ref (va 29)) (C := RX9) (T := TX9) (N := 53) hx hb hts in9 hown hG.1 hP 0 rfl rfl 39 (by decide) (hts (.fieldLink RX9 100 "ChairCaneModel" "past" "[I") (mem_b bq_wsX9_keepsAct 0 1 rfl)) (fun _ h9 => h9) rfl dX9_keepsAct_20 ?_
      refine lv_iload_n hx hb dX9_keepsAct_23 rfl (lv_at hl 1 rfl) ?_
      refine lv_bipush (v := 13) hx hb dX9_keepsAct_24 (by decide) ?_
      refine lv_isub hx hb dX9_keepsAct_26 ?_
      refine lv_aload_n hx hb dX9_keepsAct_27 rfl (lv_at hl 0 rfl) ?_
      refine va_get (D := D) (ci := 7) (v := .ref (va 29)) (C := RX9) (T := TX9) (N := 53) hx hb hts in9 hown hG.1 hP 0 rfl rfl 39 (by decide) (hts (.fieldLink RX9 100 "ChairCaneModel" "past" "[I") (mem_b bq_wsX9_keepsAct 0 1 rfl)) (fun _ h9 => h9) rfl dX9_keepsAct_28 ?_
      refine lv_iload_n hx hb dX9_keepsAct_31 rfl (lv_at hl 1 rfl) ?_
      obtain ⟨g3, h⟩ := fw_g h
      refine va_iald hx hb hG.1 hP 29 0 rfl rfl (ib_vp g3) dX9_keepsAct_32 ?_
      obtain ⟨g4, h⟩ := fw_g h
      refine va_iast hx hb hG.1 hP hD hS 29 0 rfl rfl (ib_vp g4) dX9_keepsAct_33 (fun H locs hP hD hS => ?_)
      refine lv_iinc (v := (a12.1 + 1)) (lv' := [(1, .int (a12.1 + 1)), (0, .ref (va 0))]) hx hb dX9_keepsAct_34 hl (k := 1) rfl rfl (by decide) rfl (fun ls hl => ?_)
      refine lv_goto (tgt := 12) hx hb dX9_keepsAct_37 (by decide) ?_
      exact hc12 _ _ h _ _ _ hP hD hS (lv_sub hl [1, 0] rfl)
  have C12 : ∀ (v1 : Int32) (mo : OB), lp (b_X9_keepsAct_12 F) F (v1, mo) = some res → ∀ (H : Heap) (locs : List Loc) (ls : Array Slot), va_P D vwCl (moW k va mo) H → va_D A (moW k va mo) → va_S A s.heap H locs → lv_has ls 2 [(0, .ref (va 0)), (1, .int v1)] → W p l e (rmK 4 0 0) s m (List.toArray [.ref (va 0)]) below meth c H locs 0 0 (MQ below (va_Qv (fun (_ : Unit) => True) (hcB D (fun _ : Unit => moW k va res) A) A) (List.toArray [.ref (va 0)]) s 0 0 A) (F0 m 12 ls []) := fun v1 mo => B12 (v1, mo)
  refine lv_aload_n hx hb dX9_keepsAct_0 rfl (lv_at hl 0 rfl) ?_
  refine va_get (D := D) (ci := 7) (v := .int (mo.1 41)) (C := RX9) (T := TX9) (N := 53) hx hb hts in9 hown hG.1 hP 0 rfl rfl 41 (by decide) (hts (.fieldLink RX9 299 "ChairCaneModel" "pastMany" "I") (mem_b bq_wsX9_keepsAct 0 0 rfl)) (fun _ h9 => h9) rfl dX9_keepsAct_1 ?_
  refine lv_bipush (v := 20) hx hb dX9_keepsAct_4 (by decide) ?_
  refine lv_icmp_ne (tgt := 50) hx hb dX9_keepsAct_6 (by decide) (fun c5 => ?_) (fun c5 => ?_)
  · have h := fw_f c5 h
    exact B50 _ _ _ _ h hP hD hS hl
  · have h := fw_t c5 h
    refine lv_bipush (v := 13) hx hb dX9_keepsAct_9 (by decide) ?_
    refine lv_istore_n (lv' := [(1, .int 13), (0, .ref (va 0))]) hx hb dX9_keepsAct_11 rfl hl (by decide) rfl (fun ls hl => ?_)
    exact C12 _ _ h _ _ _ hP hD hS (lv_sub hl [1, 0] rfl)
noncomputable def f_X9_undo (F : Nat)   (mo : OB) : Option (Int32 × OB) :=
  if (mo.1 41) = 0 then (some ((-2), mo)) else (Option.bind (f_X9_movesAll F ((mo.1 41) - 1) 1 ((uF mo.1 41 ((mo.1 41) - 1)), mo.2.1, mo.2.2)) (fun q2 => (some ((q2.1 41), q2))))
set_option maxHeartbeats 4000000 in
set_option maxRecDepth 100000 in
theorem c_X9_undo (l : Launch) (D : va_G) (k : Nat → ClassId) (sz : Nat)  (va : Nat → Nat) (F : Nat)   (mo : OB)  {res : Int32 × OB} (h : f_X9_undo F mo = some res) : CtI l yX9_undo wsX9_undo (rmK 4 0 0) [.ref (va 0)] D k sz (moW k va mo) (fun r (_ : Unit) => r = res.1) (fun _ : Unit => moW k va res.2) 0 0 := by
  refine CtI.mk (cc := cX9_undo) (maxL := 1) (ret := (some .int)) (by decide) rfl (Nat.le_of_ble_eq_true rfl) ?_
  intro p e s m below meth c A ls E hP hD hS hl
  obtain ⟨hx, hb, hr, hml, hown, hts, hlocks, hin, hG, hA⟩ := E
  have hown : s.vm.findClass RX9 = some m.cls := hown
  have in9 : ∀ w ∈ u_ws RX9 TX9 53, w ∈ wsX9_undo := fun _ h => List.mem_cons_of_mem _ (List.mem_append_right _ h)
  have hl : lv_has ls 1 [(0, .ref (va 0))] := hl
  refine lv_aload_n hx hb dX9_undo_0 rfl (lv_at hl 0 rfl) ?_
  refine va_get (D := D) (ci := 7) (v := .int (mo.1 41)) (C := RX9) (T := TX9) (N := 53) hx hb hts in9 hown hG.1 hP 0 rfl rfl 41 (by decide) (hts (.fieldLink RX9 299 "ChairCaneModel" "pastMany" "I") (mem_b bq_wsX9_undo 0 0 rfl)) (fun _ h9 => h9) rfl dX9_undo_1 ?_
  refine lv_if_ne (tgt := 10) hx hb dX9_undo_4 (by decide) (fun c1 => ?_) (fun c1 => ?_)
  · have h := fw_f c1 h
    refine lv_aload_n hx hb dX9_undo_10 rfl (lv_at hl 0 rfl) ?_
    refine lv_dup hx hb dX9_undo_11 rfl ?_
    refine va_get (D := D) (ci := 7) (v := .int (mo.1 41)) (C := RX9) (T := TX9) (N := 53) hx hb hts in9 hown hG.1 hP 0 rfl rfl 41 (by decide) (hts (.fieldLink RX9 299 "ChairCaneModel" "pastMany" "I") (mem_b bq_wsX9_undo 0 0 rfl)) (fun _ h9 => h9) rfl dX9_undo_12 ?_
    refine lv_iconst (v := 1) hx hb dX9_undo_15 (by decide) ?_
    refine lv_isub hx hb dX9_undo_16 ?_
    refine va_put (D := D) (ci := 7) (v := .int ((mo.1 41) - 1)) (C := RX9) (T := TX9) (N := 53) hx hb hts in9 tyX9 tyX9_ok nmX9 hown hG.1 hP hD hS 0 rfl rfl 41 (by decide) (hts (.fieldLink RX9 299 "ChairCaneModel" "pastMany" "I") (mem_b bq_wsX9_undo 0 0 rfl)) (fun _ h9 => h9) rfl (tyX9_ok 41 (by decide)) rfl rfl (Nat.le_of_ble_eq_true rfl) dX9_undo_17 (fun H locs hP hD hS => ?_)
    refine lv_aload_n hx hb dX9_undo_20 rfl (lv_at hl 0 rfl) ?_
    refine lv_aload_n hx hb dX9_undo_21 rfl (lv_at hl 0 rfl) ?_
    refine va_get (D := D) (ci := 7) (v := .int ((mo.1 41) - 1)) (C := RX9) (T := TX9) (N := 53) hx hb hts in9 hown hG.1 hP 0 rfl rfl 41 (by decide) (hts (.fieldLink RX9 299 "ChairCaneModel" "pastMany" "I") (mem_b bq_wsX9_undo 0 0 rfl)) (fun _ h9 => h9) rfl dX9_undo_22 ?_
    refine lv_iconst (v := 1) hx hb dX9_undo_25 (by decide) ?_
    obtain ⟨hP, hD⟩ := cv (w' := moW k va ((uF mo.1 41 ((mo.1 41) - 1)), mo.2.1, mo.2.2)) hP hD rfl
    refine fw_Vv (As := [.int ((mo.1 41) - 1), .int 1]) (rest := []) (n := 2) (wr := []) (wp := fun b : OB => moW k va b) h hx hb hml hown hts hG hA hP hD hS hl.1 (List.range (moW k va ((uF mo.1 41 ((mo.1 41) - 1)), mo.2.1, mo.2.2)).length) [] (fun q hq9 => c_X9_movesAll l D k _  va F ((mo.1 41) - 1) 1 ((uF mo.1 41 ((mo.1 41) - 1)), mo.2.1, mo.2.2)  hq9) (ci := 7) (q0 := 0) rfl rfl gX9_undo_X9_movesAll rfl ⟨rfl, rfl, Nat.le_of_ble_eq_true rfl, Nat.le_of_ble_eq_true rfl⟩ (by decide +kernel) (al_C _) rfl (al_n _) ⟨rfl, rfl, Nat.le_of_ble_eq_true rfl, Nat.le_of_ble_eq_true rfl, Nat.le_of_ble_eq_true rfl⟩ dX9_undo_26 (fun q2 H locs h hP hD hS => ?_)
    obtain ⟨hP, hD⟩ := cv (w' := moW k va q2) hP hD rfl
    refine lv_aload_n hx hb dX9_undo_29 rfl (lv_at hl 0 rfl) ?_
    refine va_get (D := D) (ci := 7) (v := .int (q2.1 41)) (C := RX9) (T := TX9) (N := 53) hx hb hts in9 hown hG.1 hP 0 rfl rfl 41 (by decide) (hts (.fieldLink RX9 299 "ChairCaneModel" "pastMany" "I") (mem_b bq_wsX9_undo 0 0 rfl)) (fun _ h9 => h9) rfl dX9_undo_30 ?_
    exact fw_endI (rv := fun b : Int32 × OB => b.1) (wp := fun b : Int32 × OB => moW k va b.2) hx hb hr hlocks h rfl hP hD hS dX9_undo_33
  · have h := fw_t c1 h
    refine lv_bipush (v := (-2)) hx hb dX9_undo_7 (by decide) ?_
    exact fw_endI (rv := fun b : Int32 × OB => b.1) (wp := fun b : Int32 × OB => moW k va b.2) hx hb hr hlocks h rfl hP hD hS dX9_undo_9
noncomputable def b_X9_minute_19 (F : Nat)    (mo : OB) : Option (Int32 × OB) :=
  some ((-1), mo)
noncomputable def f_X9_minute (F : Nat)   (mo : OB) : Option (Int32 × OB) :=
  Option.bind (f_X9_isHall F mo) (fun q1 => (if q1 = 0 then (b_X9_minute_19 F mo) else (if ((mo.2.1 1) (Int32.toNatClampNeg 4)) = 999 then (b_X9_minute_19 F mo) else (Option.bind (f_X9_keepsAct F mo) (fun q4 => (Option.bind (f_X9_goes F q4) (fun q5 => (some (q5.1, q5.2)))))))))
set_option maxHeartbeats 4000000 in
set_option maxRecDepth 100000 in
theorem c_X9_minute (l : Launch) (D : va_G) (k : Nat → ClassId) (sz : Nat)  (va : Nat → Nat) (F : Nat)   (mo : OB)  {res : Int32 × OB} (h : f_X9_minute F mo = some res) : CtI l yX9_minute wsX9_minute (rmK 7 0 0) [.ref (va 0)] D k sz (moW k va mo) (fun r (_ : Unit) => r = res.1) (fun _ : Unit => moW k va res.2) 0 0 := by
  refine CtI.mk (cc := cX9_minute) (maxL := 1) (ret := (some .int)) (by decide) rfl (Nat.le_of_ble_eq_true rfl) ?_
  intro p e s m below meth c A ls E hP hD hS hl
  obtain ⟨hx, hb, hr, hml, hown, hts, hlocks, hin, hG, hA⟩ := E
  have hown : s.vm.findClass RX9 = some m.cls := hown
  have in9 : ∀ w ∈ u_ws RX9 TX9 53, w ∈ wsX9_minute := fun _ h => List.mem_cons_of_mem _ (List.mem_append_right _ h)
  have hl : lv_has ls 1 [(0, .ref (va 0))] := hl
  have B19 : ∀ (mo : OB) (H : Heap) (locs : List Loc) (ls : Array Slot), b_X9_minute_19 F mo = some res → va_P D vwCl (moW k va mo) H → va_D A (moW k va mo) → va_S A s.heap H locs → lv_has ls 1 [] → W p l e (rmK 7 0 0) s m (List.toArray [.ref (va 0)]) below meth c H locs 0 0 (MQ below (va_Qi (fun r (_ : Unit) => r = res.1) (hcB D (fun _ : Unit => moW k va res.2) A) A) (List.toArray [.ref (va 0)]) s 0 0 A) (F0 m 19 ls []) := by
    intro mo H locs ls h hP hD hS hl
    refine lv_iconst (v := (-1)) hx hb dX9_minute_19 (by decide) ?_
    exact fw_endI (rv := fun b : Int32 × OB => b.1) (wp := fun b : Int32 × OB => moW k va b.2) hx hb hr hlocks h rfl hP hD hS dX9_minute_20
  refine lv_aload_n hx hb dX9_minute_0 rfl (lv_at hl 0 rfl) ?_
  refine fw_Vi (As := []) (rest := []) (n := 0) (wr := []) (rv := fun b : Int32 => b) (wp := fun b : Int32 => moW k va mo) h hx hb hml hown hts hG hA hP hD hS hl.1 (List.range (moW k va mo).length) [] (fun q hq9 => c_X9_isHall l D k _  va F  mo  hq9) (ci := 7) (q0 := 0) rfl rfl gX9_minute_X9_isHall rfl ⟨rfl, rfl, Nat.le_of_ble_eq_true rfl, Nat.le_of_ble_eq_true rfl⟩ (by decide +kernel) (al_C _) rfl (al_n _) ⟨rfl, rfl, Nat.le_of_ble_eq_true rfl, Nat.le_of_ble_eq_true rfl, Nat.le_of_ble_eq_true rfl⟩ dX9_minute_1 (fun q1 H locs h hP hD hS => ?_)
  obtain ⟨hP, hD⟩ := cv (w' := moW k va mo) hP hD rfl
  refine hc_is (z := q1) rfl ?_
  refine lv_if_eq (tgt := 19) hx hb dX9_minute_4 (by decide) (fun c2 => ?_) (fun c2 => ?_)
  · have h := fw_t c2 h
    exact B19 _ _ _ _ h hP hD hS (lv_sub hl [] rfl)
  · have h := fw_f c2 h
    refine lv_aload_n hx hb dX9_minute_7 rfl (lv_at hl 0 rfl) ?_
    refine va_get (D := D) (ci := 7) (v := .ref (va 1)) (C := RX9) (T := TX9) (N := 53) hx hb hts in9 hown hG.1 hP 0 rfl rfl 1 (by decide) (hts (.fieldLink RX9 9 "ChairCaneModel" "scalar" "[I") (mem_b bq_wsX9_minute 0 0 rfl)) (fun _ h9 => h9) rfl dX9_minute_8 ?_
    refine lv_iconst (v := 4) hx hb dX9_minute_11 (by decide) ?_
    refine va_iald hx hb hG.1 hP 1 0 rfl rfl (by unfold vp_in; decide) dX9_minute_12 ?_
    refine lv_sipush (v := 999) hx hb dX9_minute_13 (by decide) ?_
    refine lv_icmp_ne (tgt := 21) hx hb dX9_minute_16 (by decide) (fun c3 => ?_) (fun c3 => ?_)
    · have h := fw_f c3 h
      refine lv_aload_n hx hb dX9_minute_21 rfl (lv_at hl 0 rfl) ?_
      refine fw_Vv (As := []) (rest := []) (n := 0) (wr := []) (wp := fun b : OB => moW k va b) h hx hb hml hown hts hG hA hP hD hS hl.1 (List.range (moW k va mo).length) [] (fun q hq9 => c_X9_keepsAct l D k _  va F  mo  hq9) (ci := 7) (q0 := 0) rfl rfl gX9_minute_X9_keepsAct rfl ⟨rfl, rfl, Nat.le_of_ble_eq_true rfl, Nat.le_of_ble_eq_true rfl⟩ (by decide +kernel) (al_C _) rfl (al_n _) ⟨rfl, rfl, Nat.le_of_ble_eq_true rfl, Nat.le_of_ble_eq_true rfl, Nat.le_of_ble_eq_true rfl⟩ dX9_minute_22 (fun q4 H locs h hP hD hS => ?_)
      obtain ⟨hP, hD⟩ := cv (w' := moW k va q4) hP hD rfl
      refine lv_aload_n hx hb dX9_minute_25 rfl (lv_at hl 0 rfl) ?_
      refine fw_Vi (As := []) (rest := []) (n := 0) (wr := []) (rv := fun b : Int32 × OB => b.1) (wp := fun b : Int32 × OB => moW k va b.2) h hx hb hml hown hts hG hA hP hD hS hl.1 (List.range (moW k va q4).length) [] (fun q hq9 => c_X9_goes l D k _  va F  q4  hq9) (ci := 7) (q0 := 0) rfl rfl gX9_minute_X9_goes rfl ⟨rfl, rfl, Nat.le_of_ble_eq_true rfl, Nat.le_of_ble_eq_true rfl⟩ (by decide +kernel) (al_C _) rfl (al_n _) ⟨rfl, rfl, Nat.le_of_ble_eq_true rfl, Nat.le_of_ble_eq_true rfl, Nat.le_of_ble_eq_true rfl⟩ dX9_minute_26 (fun q5 H locs h hP hD hS => ?_)
      obtain ⟨hP, hD⟩ := cv (w' := moW k va q5.2) hP hD rfl
      refine hc_is (z := q5.1) rfl ?_
      exact fw_endI (rv := fun b : Int32 × OB => b.1) (wp := fun b : Int32 × OB => moW k va b.2) hx hb hr hlocks h rfl hP hD hS dX9_minute_29
    · have h := fw_t c3 h
      exact B19 _ _ _ _ h hP hD hS (lv_sub hl [] rfl)
noncomputable def b_X9_isSo_23 (F : Nat)  (mo : OB)  (y0 : Int32) : Option (Int32) :=
  if bo y0 then (some y0) else none
noncomputable def b_X9_isSo_22 (F : Nat)  (mo : OB)   : Option (Int32) :=
  b_X9_isSo_23 F mo 0
noncomputable def f_X9_isSo (F : Nat)  (x1 : Int32) (x2 : Int32) (mo : OB) : Option (Int32) :=
  Option.bind (f_X9_isSitter F x1 mo) (fun q2 => (if q2 = 0 then (b_X9_isSo_22 F mo ) else (if ib x1 8 then (if ((mo.2.1 3) (Int32.toNatClampNeg x1)) = x2 then (b_X9_isSo_23 F mo 1) else (b_X9_isSo_22 F mo )) else none)))
set_option maxHeartbeats 4000000 in
set_option maxRecDepth 100000 in
theorem c_X9_isSo (l : Launch) (D : va_G) (k : Nat → ClassId) (sz : Nat)  (va : Nat → Nat) (F : Nat)  (x1 : Int32) (x2 : Int32) (mo : OB)  {res : Int32} (h : f_X9_isSo F x1 x2 mo = some res) : CtI l yX9_isSo wsX9_isSo (rmK 3 0 0) [.ref (va 0), .int x1, .int x2] D k sz (moW k va mo) (fun r (_ : Unit) => r = res) (fun _ : Unit => moW k va mo) 0 0 := by
  refine CtI.mk (cc := cX9_isSo) (maxL := 3) (ret := (some .boolean)) (by decide) rfl (Nat.le_of_ble_eq_true rfl) ?_
  intro p e s m below meth c A ls E hP hD hS hl
  obtain ⟨hx, hb, hr, hml, hown, hts, hlocks, hin, hG, hA⟩ := E
  have hown : s.vm.findClass RX9 = some m.cls := hown
  have in9 : ∀ w ∈ u_ws RX9 TX9 53, w ∈ wsX9_isSo := fun _ h => List.mem_cons_of_mem _ (List.mem_append_right _ h)
  have hl : lv_has ls 3 [(0, .ref (va 0)), (1, .int x1), (2, .int x2)] := hl
  have B23 : ∀ (y0 : Int32) (H : Heap) (locs : List Loc) (ls : Array Slot), b_X9_isSo_23 F mo y0 = some res → va_P D vwCl (moW k va mo) H → va_D A (moW k va mo) → va_S A s.heap H locs → lv_has ls 3 [] → W p l e (rmK 3 0 0) s m (List.toArray [.ref (va 0), .int x1, .int x2]) below meth c H locs 0 0 (MQ below (va_Qi (fun r (_ : Unit) => r = res) (hcB D (fun _ : Unit => moW k va mo) A) A) (List.toArray [.ref (va 0), .int x1, .int x2]) s 0 0 A) (F0 m 23 ls [.int y0]) := by
    intro y0 H locs ls h hP hD hS hl
    obtain ⟨g1, h⟩ := fw_g h
    exact fw_endZ (rv := fun b : Int32 => b) (wp := fun b : Int32 => moW k va mo) hx hb hr hlocks h (bo_z g1) rfl hP hD hS dX9_isSo_23
  have B22 : ∀ (H : Heap) (locs : List Loc) (ls : Array Slot), b_X9_isSo_22 F mo  = some res → va_P D vwCl (moW k va mo) H → va_D A (moW k va mo) → va_S A s.heap H locs → lv_has ls 3 [] → W p l e (rmK 3 0 0) s m (List.toArray [.ref (va 0), .int x1, .int x2]) below meth c H locs 0 0 (MQ below (va_Qi (fun r (_ : Unit) => r = res) (hcB D (fun _ : Unit => moW k va mo) A) A) (List.toArray [.ref (va 0), .int x1, .int x2]) s 0 0 A) (F0 m 22 ls []) := by
    intro  H locs ls h hP hD hS hl
    refine lv_iconst (v := 0) hx hb dX9_isSo_22 (by decide) ?_
    exact B23 _ _ _ _ h hP hD hS hl
  refine lv_aload_n hx hb dX9_isSo_0 rfl (lv_at hl 0 rfl) ?_
  refine lv_iload_n hx hb dX9_isSo_1 rfl (lv_at hl 1 rfl) ?_
  refine fw_Vi (As := [.int x1]) (rest := []) (n := 1) (wr := []) (rv := fun b : Int32 => b) (wp := fun b : Int32 => moW k va mo) h hx hb hml hown hts hG hA hP hD hS hl.1 (List.range (moW k va mo).length) [] (fun q hq9 => c_X9_isSitter l D k _  va F x1 mo  hq9) (ci := 7) (q0 := 0) rfl rfl gX9_isSo_X9_isSitter rfl ⟨rfl, rfl, Nat.le_of_ble_eq_true rfl, Nat.le_of_ble_eq_true rfl⟩ (by decide +kernel) (al_C _) rfl (al_n _) ⟨rfl, rfl, Nat.le_of_ble_eq_true rfl, Nat.le_of_ble_eq_true rfl, Nat.le_of_ble_eq_true rfl⟩ dX9_isSo_2 (fun q2 H locs h hP hD hS => ?_)
  obtain ⟨hP, hD⟩ := cv (w' := moW k va mo) hP hD rfl
  refine hc_is (z := q2) rfl ?_
  refine lv_if_eq (tgt := 22) hx hb dX9_isSo_5 (by decide) (fun c3 => ?_) (fun c3 => ?_)
  · have h := fw_t c3 h
    exact B22 _ _ _ h hP hD hS (lv_sub hl [] rfl)
  · have h := fw_f c3 h
    refine lv_aload_n hx hb dX9_isSo_8 rfl (lv_at hl 0 rfl) ?_
    refine va_get (D := D) (ci := 7) (v := .ref (va 3)) (C := RX9) (T := TX9) (N := 53) hx hb hts in9 hown hG.1 hP 0 rfl rfl 3 (by decide) (hts (.fieldLink RX9 16 "ChairCaneModel" "is" "[I") (mem_b bq_wsX9_isSo 0 0 rfl)) (fun _ h9 => h9) rfl dX9_isSo_9 ?_
    refine lv_iload_n hx hb dX9_isSo_12 rfl (lv_at hl 1 rfl) ?_
    obtain ⟨g4, h⟩ := fw_g h
    refine va_iald hx hb hG.1 hP 3 0 rfl rfl (ib_vp g4) dX9_isSo_13 ?_
    refine lv_iload_n hx hb dX9_isSo_14 rfl (lv_at hl 2 rfl) ?_
    refine lv_icmp_ne (tgt := 22) hx hb dX9_isSo_15 (by decide) (fun c5 => ?_) (fun c5 => ?_)
    · have h := fw_f c5 h
      exact B22 _ _ _ h hP hD hS (lv_sub hl [] rfl)
    · have h := fw_t c5 h
      refine lv_iconst (v := 1) hx hb dX9_isSo_18 (by decide) ?_
      refine lv_goto (tgt := 23) hx hb dX9_isSo_19 (by decide) ?_
      exact B23 _ _ _ _ h hP hD hS (lv_sub hl [] rfl)
noncomputable def f_X9_sit (F : Nat)  (x1 : Int32) (mo : OB) : Option (Int32 × OB) :=
  Option.bind (f_X9_isSo F x1 0 mo) (fun q1 => (if q1 = 0 then (some ((-1), mo)) else (Option.bind (f_X9_keepsAct F mo) (fun q3 => (if ib x1 8 then (Option.bind (f_X9_settles F (q3.1, (uF q3.2.1 3 (upd (q3.2.1 3) (Int32.toNatClampNeg x1) 1)), q3.2.2)) (fun q5 => (some (q5.1, q5.2)))) else none)))))
set_option maxHeartbeats 4000000 in
set_option maxRecDepth 100000 in
theorem c_X9_sit (l : Launch) (D : va_G) (k : Nat → ClassId) (sz : Nat)  (va : Nat → Nat) (F : Nat)  (x1 : Int32) (mo : OB)  {res : Int32 × OB} (h : f_X9_sit F x1 mo = some res) : CtI l yX9_sit wsX9_sit (rmK 6 0 0) [.ref (va 0), .int x1] D k sz (moW k va mo) (fun r (_ : Unit) => r = res.1) (fun _ : Unit => moW k va res.2) 0 0 := by
  refine CtI.mk (cc := cX9_sit) (maxL := 2) (ret := (some .int)) (by decide) rfl (Nat.le_of_ble_eq_true rfl) ?_
  intro p e s m below meth c A ls E hP hD hS hl
  obtain ⟨hx, hb, hr, hml, hown, hts, hlocks, hin, hG, hA⟩ := E
  have hown : s.vm.findClass RX9 = some m.cls := hown
  have in9 : ∀ w ∈ u_ws RX9 TX9 53, w ∈ wsX9_sit := fun _ h => List.mem_cons_of_mem _ (List.mem_append_right _ h)
  have hl : lv_has ls 2 [(0, .ref (va 0)), (1, .int x1)] := hl
  refine lv_aload_n hx hb dX9_sit_0 rfl (lv_at hl 0 rfl) ?_
  refine lv_iload_n hx hb dX9_sit_1 rfl (lv_at hl 1 rfl) ?_
  refine lv_iconst (v := 0) hx hb dX9_sit_2 (by decide) ?_
  refine fw_Vi (As := [.int x1, .int 0]) (rest := []) (n := 2) (wr := []) (rv := fun b : Int32 => b) (wp := fun b : Int32 => moW k va mo) h hx hb hml hown hts hG hA hP hD hS hl.1 (List.range (moW k va mo).length) [] (fun q hq9 => c_X9_isSo l D k _  va F x1 0 mo  hq9) (ci := 7) (q0 := 0) rfl rfl gX9_sit_X9_isSo rfl ⟨rfl, rfl, Nat.le_of_ble_eq_true rfl, Nat.le_of_ble_eq_true rfl⟩ (by decide +kernel) (al_C _) rfl (al_n _) ⟨rfl, rfl, Nat.le_of_ble_eq_true rfl, Nat.le_of_ble_eq_true rfl, Nat.le_of_ble_eq_true rfl⟩ dX9_sit_3 (fun q1 H locs h hP hD hS => ?_)
  obtain ⟨hP, hD⟩ := cv (w' := moW k va mo) hP hD rfl
  refine hc_is (z := q1) rfl ?_
  refine lv_if_ne (tgt := 11) hx hb dX9_sit_6 (by decide) (fun c2 => ?_) (fun c2 => ?_)
  · have h := fw_f c2 h
    refine lv_aload_n hx hb dX9_sit_11 rfl (lv_at hl 0 rfl) ?_
    refine fw_Vv (As := []) (rest := []) (n := 0) (wr := []) (wp := fun b : OB => moW k va b) h hx hb hml hown hts hG hA hP hD hS hl.1 (List.range (moW k va mo).length) [] (fun q hq9 => c_X9_keepsAct l D k _  va F  mo  hq9) (ci := 7) (q0 := 0) rfl rfl gX9_sit_X9_keepsAct rfl ⟨rfl, rfl, Nat.le_of_ble_eq_true rfl, Nat.le_of_ble_eq_true rfl⟩ (by decide +kernel) (al_C _) rfl (al_n _) ⟨rfl, rfl, Nat.le_of_ble_eq_true rfl, Nat.le_of_ble_eq_true rfl, Nat.le_of_ble_eq_true rfl⟩ dX9_sit_12 (fun q3 H locs h hP hD hS => ?_)
    obtain ⟨hP, hD⟩ := cv (w' := moW k va q3) hP hD rfl
    refine lv_aload_n hx hb dX9_sit_15 rfl (lv_at hl 0 rfl) ?_
    refine va_get (D := D) (ci := 7) (v := .ref (va 3)) (C := RX9) (T := TX9) (N := 53) hx hb hts in9 hown hG.1 hP 0 rfl rfl 3 (by decide) (hts (.fieldLink RX9 16 "ChairCaneModel" "is" "[I") (mem_b bq_wsX9_sit 0 0 rfl)) (fun _ h9 => h9) rfl dX9_sit_16 ?_
    refine lv_iload_n hx hb dX9_sit_19 rfl (lv_at hl 1 rfl) ?_
    refine lv_iconst (v := 1) hx hb dX9_sit_20 (by decide) ?_
    obtain ⟨g4, h⟩ := fw_g h
    refine va_iast hx hb hG.1 hP hD hS 3 0 rfl rfl (ib_vp g4) dX9_sit_21 (fun H locs hP hD hS => ?_)
    refine lv_aload_n hx hb dX9_sit_22 rfl (lv_at hl 0 rfl) ?_
    obtain ⟨hP, hD⟩ := cv (w' := moW k va (q3.1, (uF q3.2.1 3 (upd (q3.2.1 3) (Int32.toNatClampNeg x1) 1)), q3.2.2)) hP hD rfl
    refine fw_Vi (As := []) (rest := []) (n := 0) (wr := []) (rv := fun b : Int32 × OB => b.1) (wp := fun b : Int32 × OB => moW k va b.2) h hx hb hml hown hts hG hA hP hD hS hl.1 (List.range (moW k va (q3.1, (uF q3.2.1 3 (upd (q3.2.1 3) (Int32.toNatClampNeg x1) 1)), q3.2.2)).length) [] (fun q hq9 => c_X9_settles l D k _  va F  (q3.1, (uF q3.2.1 3 (upd (q3.2.1 3) (Int32.toNatClampNeg x1) 1)), q3.2.2)  hq9) (ci := 7) (q0 := 0) rfl rfl gX9_sit_X9_settles rfl ⟨rfl, rfl, Nat.le_of_ble_eq_true rfl, Nat.le_of_ble_eq_true rfl⟩ (by decide +kernel) (al_C _) rfl (al_n _) ⟨rfl, rfl, Nat.le_of_ble_eq_true rfl, Nat.le_of_ble_eq_true rfl, Nat.le_of_ble_eq_true rfl⟩ dX9_sit_23 (fun q5 H locs h hP hD hS => ?_)
    obtain ⟨hP, hD⟩ := cv (w' := moW k va q5.2) hP hD rfl
    refine hc_is (z := q5.1) rfl ?_
    exact fw_endI (rv := fun b : Int32 × OB => b.1) (wp := fun b : Int32 × OB => moW k va b.2) hx hb hr hlocks h rfl hP hD hS dX9_sit_26
  · have h := fw_t c2 h
    refine lv_iconst (v := (-1)) hx hb dX9_sit_9 (by decide) ?_
    exact fw_endI (rv := fun b : Int32 × OB => b.1) (wp := fun b : Int32 × OB => moW k va b.2) hx hb hr hlocks h rfl hP hD hS dX9_sit_10
noncomputable def f_X9_rise (F : Nat)  (x1 : Int32) (mo : OB) : Option (Int32 × OB) :=
  Option.bind (f_X9_isSo F x1 1 mo) (fun q1 => (if q1 = 0 then (some ((-1), mo)) else (Option.bind (f_X9_keepsAct F mo) (fun q3 => (if ib x1 8 then (Option.bind (f_X9_settles F (q3.1, (uF q3.2.1 3 (upd (q3.2.1 3) (Int32.toNatClampNeg x1) 0)), q3.2.2)) (fun q5 => (some (q5.1, q5.2)))) else none)))))
set_option maxHeartbeats 4000000 in
set_option maxRecDepth 100000 in
theorem c_X9_rise (l : Launch) (D : va_G) (k : Nat → ClassId) (sz : Nat)  (va : Nat → Nat) (F : Nat)  (x1 : Int32) (mo : OB)  {res : Int32 × OB} (h : f_X9_rise F x1 mo = some res) : CtI l yX9_rise wsX9_rise (rmK 6 0 0) [.ref (va 0), .int x1] D k sz (moW k va mo) (fun r (_ : Unit) => r = res.1) (fun _ : Unit => moW k va res.2) 0 0 := by
  refine CtI.mk (cc := cX9_rise) (maxL := 2) (ret := (some .int)) (by decide) rfl (Nat.le_of_ble_eq_true rfl) ?_
  intro p e s m below meth c A ls E hP hD hS hl
  obtain ⟨hx, hb, hr, hml, hown, hts, hlocks, hin, hG, hA⟩ := E
  have hown : s.vm.findClass RX9 = some m.cls := hown
  have in9 : ∀ w ∈ u_ws RX9 TX9 53, w ∈ wsX9_rise := fun _ h => List.mem_cons_of_mem _ (List.mem_append_right _ h)
  have hl : lv_has ls 2 [(0, .ref (va 0)), (1, .int x1)] := hl
  refine lv_aload_n hx hb dX9_rise_0 rfl (lv_at hl 0 rfl) ?_
  refine lv_iload_n hx hb dX9_rise_1 rfl (lv_at hl 1 rfl) ?_
  refine lv_iconst (v := 1) hx hb dX9_rise_2 (by decide) ?_
  refine fw_Vi (As := [.int x1, .int 1]) (rest := []) (n := 2) (wr := []) (rv := fun b : Int32 => b) (wp := fun b : Int32 => moW k va mo) h hx hb hml hown hts hG hA hP hD hS hl.1 (List.range (moW k va mo).length) [] (fun q hq9 => c_X9_isSo l D k _  va F x1 1 mo  hq9) (ci := 7) (q0 := 0) rfl rfl gX9_rise_X9_isSo rfl ⟨rfl, rfl, Nat.le_of_ble_eq_true rfl, Nat.le_of_ble_eq_true rfl⟩ (by decide +kernel) (al_C _) rfl (al_n _) ⟨rfl, rfl, Nat.le_of_ble_eq_true rfl, Nat.le_of_ble_eq_true rfl, Nat.le_of_ble_eq_true rfl⟩ dX9_rise_3 (fun q1 H locs h hP hD hS => ?_)
  obtain ⟨hP, hD⟩ := cv (w' := moW k va mo) hP hD rfl
  refine hc_is (z := q1) rfl ?_
  refine lv_if_ne (tgt := 11) hx hb dX9_rise_6 (by decide) (fun c2 => ?_) (fun c2 => ?_)
  · have h := fw_f c2 h
    refine lv_aload_n hx hb dX9_rise_11 rfl (lv_at hl 0 rfl) ?_
    refine fw_Vv (As := []) (rest := []) (n := 0) (wr := []) (wp := fun b : OB => moW k va b) h hx hb hml hown hts hG hA hP hD hS hl.1 (List.range (moW k va mo).length) [] (fun q hq9 => c_X9_keepsAct l D k _  va F  mo  hq9) (ci := 7) (q0 := 0) rfl rfl gX9_rise_X9_keepsAct rfl ⟨rfl, rfl, Nat.le_of_ble_eq_true rfl, Nat.le_of_ble_eq_true rfl⟩ (by decide +kernel) (al_C _) rfl (al_n _) ⟨rfl, rfl, Nat.le_of_ble_eq_true rfl, Nat.le_of_ble_eq_true rfl, Nat.le_of_ble_eq_true rfl⟩ dX9_rise_12 (fun q3 H locs h hP hD hS => ?_)
    obtain ⟨hP, hD⟩ := cv (w' := moW k va q3) hP hD rfl
    refine lv_aload_n hx hb dX9_rise_15 rfl (lv_at hl 0 rfl) ?_
    refine va_get (D := D) (ci := 7) (v := .ref (va 3)) (C := RX9) (T := TX9) (N := 53) hx hb hts in9 hown hG.1 hP 0 rfl rfl 3 (by decide) (hts (.fieldLink RX9 16 "ChairCaneModel" "is" "[I") (mem_b bq_wsX9_rise 0 0 rfl)) (fun _ h9 => h9) rfl dX9_rise_16 ?_
    refine lv_iload_n hx hb dX9_rise_19 rfl (lv_at hl 1 rfl) ?_
    refine lv_iconst (v := 0) hx hb dX9_rise_20 (by decide) ?_
    obtain ⟨g4, h⟩ := fw_g h
    refine va_iast hx hb hG.1 hP hD hS 3 0 rfl rfl (ib_vp g4) dX9_rise_21 (fun H locs hP hD hS => ?_)
    refine lv_aload_n hx hb dX9_rise_22 rfl (lv_at hl 0 rfl) ?_
    obtain ⟨hP, hD⟩ := cv (w' := moW k va (q3.1, (uF q3.2.1 3 (upd (q3.2.1 3) (Int32.toNatClampNeg x1) 0)), q3.2.2)) hP hD rfl
    refine fw_Vi (As := []) (rest := []) (n := 0) (wr := []) (rv := fun b : Int32 × OB => b.1) (wp := fun b : Int32 × OB => moW k va b.2) h hx hb hml hown hts hG hA hP hD hS hl.1 (List.range (moW k va (q3.1, (uF q3.2.1 3 (upd (q3.2.1 3) (Int32.toNatClampNeg x1) 0)), q3.2.2)).length) [] (fun q hq9 => c_X9_settles l D k _  va F  (q3.1, (uF q3.2.1 3 (upd (q3.2.1 3) (Int32.toNatClampNeg x1) 0)), q3.2.2)  hq9) (ci := 7) (q0 := 0) rfl rfl gX9_rise_X9_settles rfl ⟨rfl, rfl, Nat.le_of_ble_eq_true rfl, Nat.le_of_ble_eq_true rfl⟩ (by decide +kernel) (al_C _) rfl (al_n _) ⟨rfl, rfl, Nat.le_of_ble_eq_true rfl, Nat.le_of_ble_eq_true rfl, Nat.le_of_ble_eq_true rfl⟩ dX9_rise_23 (fun q5 H locs h hP hD hS => ?_)
    obtain ⟨hP, hD⟩ := cv (w' := moW k va q5.2) hP hD rfl
    refine hc_is (z := q5.1) rfl ?_
    exact fw_endI (rv := fun b : Int32 × OB => b.1) (wp := fun b : Int32 × OB => moW k va b.2) hx hb hr hlocks h rfl hP hD hS dX9_rise_26
  · have h := fw_t c2 h
    refine lv_iconst (v := (-1)) hx hb dX9_rise_9 (by decide) ?_
    exact fw_endI (rv := fun b : Int32 × OB => b.1) (wp := fun b : Int32 × OB => moW k va b.2) hx hb hr hlocks h rfl hP hD hS dX9_rise_10
noncomputable def f_X9_help (F : Nat)  (x1 : Int32) (mo : OB) : Option (Int32 × OB) :=
  Option.bind (f_X9_isSo F x1 2 mo) (fun q1 => (if q1 = 0 then (some ((-1), mo)) else (Option.bind (f_X9_keepsAct F mo) (fun q3 => (if ib x1 8 then (Option.bind (f_X9_those F 2 (q3.1, (uF q3.2.1 3 (upd (q3.2.1 3) (Int32.toNatClampNeg x1) 0)), q3.2.2)) (fun q5 => (Option.bind (f_X9_bits F q5) (fun q6 => (some (q6, (q3.1, (uF q3.2.1 3 (upd (q3.2.1 3) (Int32.toNatClampNeg x1) 0)), q3.2.2))))))) else none)))))
set_option maxHeartbeats 4000000 in
set_option maxRecDepth 100000 in
theorem c_X9_help (l : Launch) (D : va_G) (k : Nat → ClassId) (sz : Nat)  (va : Nat → Nat) (F : Nat)  (x1 : Int32) (mo : OB)  {res : Int32 × OB} (h : f_X9_help F x1 mo = some res) : CtI l yX9_help wsX9_help (rmK 5 0 0) [.ref (va 0), .int x1] D k sz (moW k va mo) (fun r (_ : Unit) => r = res.1) (fun _ : Unit => moW k va res.2) 0 0 := by
  refine CtI.mk (cc := cX9_help) (maxL := 2) (ret := (some .int)) (by decide) rfl (Nat.le_of_ble_eq_true rfl) ?_
  intro p e s m below meth c A ls E hP hD hS hl
  obtain ⟨hx, hb, hr, hml, hown, hts, hlocks, hin, hG, hA⟩ := E
  have hown : s.vm.findClass RX9 = some m.cls := hown
  have in9 : ∀ w ∈ u_ws RX9 TX9 53, w ∈ wsX9_help := fun _ h => List.mem_cons_of_mem _ (List.mem_append_right _ h)
  have hl : lv_has ls 2 [(0, .ref (va 0)), (1, .int x1)] := hl
  refine lv_aload_n hx hb dX9_help_0 rfl (lv_at hl 0 rfl) ?_
  refine lv_iload_n hx hb dX9_help_1 rfl (lv_at hl 1 rfl) ?_
  refine lv_iconst (v := 2) hx hb dX9_help_2 (by decide) ?_
  refine fw_Vi (As := [.int x1, .int 2]) (rest := []) (n := 2) (wr := []) (rv := fun b : Int32 => b) (wp := fun b : Int32 => moW k va mo) h hx hb hml hown hts hG hA hP hD hS hl.1 (List.range (moW k va mo).length) [] (fun q hq9 => c_X9_isSo l D k _  va F x1 2 mo  hq9) (ci := 7) (q0 := 0) rfl rfl gX9_help_X9_isSo rfl ⟨rfl, rfl, Nat.le_of_ble_eq_true rfl, Nat.le_of_ble_eq_true rfl⟩ (by decide +kernel) (al_C _) rfl (al_n _) ⟨rfl, rfl, Nat.le_of_ble_eq_true rfl, Nat.le_of_ble_eq_true rfl, Nat.le_of_ble_eq_true rfl⟩ dX9_help_3 (fun q1 H locs h hP hD hS => ?_)
  obtain ⟨hP, hD⟩ := cv (w' := moW k va mo) hP hD rfl
  refine hc_is (z := q1) rfl ?_
  refine lv_if_ne (tgt := 11) hx hb dX9_help_6 (by decide) (fun c2 => ?_) (fun c2 => ?_)
  · have h := fw_f c2 h
    refine lv_aload_n hx hb dX9_help_11 rfl (lv_at hl 0 rfl) ?_
    refine fw_Vv (As := []) (rest := []) (n := 0) (wr := []) (wp := fun b : OB => moW k va b) h hx hb hml hown hts hG hA hP hD hS hl.1 (List.range (moW k va mo).length) [] (fun q hq9 => c_X9_keepsAct l D k _  va F  mo  hq9) (ci := 7) (q0 := 0) rfl rfl gX9_help_X9_keepsAct rfl ⟨rfl, rfl, Nat.le_of_ble_eq_true rfl, Nat.le_of_ble_eq_true rfl⟩ (by decide +kernel) (al_C _) rfl (al_n _) ⟨rfl, rfl, Nat.le_of_ble_eq_true rfl, Nat.le_of_ble_eq_true rfl, Nat.le_of_ble_eq_true rfl⟩ dX9_help_12 (fun q3 H locs h hP hD hS => ?_)
    obtain ⟨hP, hD⟩ := cv (w' := moW k va q3) hP hD rfl
    refine lv_aload_n hx hb dX9_help_15 rfl (lv_at hl 0 rfl) ?_
    refine va_get (D := D) (ci := 7) (v := .ref (va 3)) (C := RX9) (T := TX9) (N := 53) hx hb hts in9 hown hG.1 hP 0 rfl rfl 3 (by decide) (hts (.fieldLink RX9 16 "ChairCaneModel" "is" "[I") (mem_b bq_wsX9_help 0 0 rfl)) (fun _ h9 => h9) rfl dX9_help_16 ?_
    refine lv_iload_n hx hb dX9_help_19 rfl (lv_at hl 1 rfl) ?_
    refine lv_iconst (v := 0) hx hb dX9_help_20 (by decide) ?_
    obtain ⟨g4, h⟩ := fw_g h
    refine va_iast hx hb hG.1 hP hD hS 3 0 rfl rfl (ib_vp g4) dX9_help_21 (fun H locs hP hD hS => ?_)
    refine lv_aload_n hx hb dX9_help_22 rfl (lv_at hl 0 rfl) ?_
    refine lv_iconst (v := 2) hx hb dX9_help_23 (by decide) ?_
    obtain ⟨hP, hD⟩ := cv (w' := moW k va (q3.1, (uF q3.2.1 3 (upd (q3.2.1 3) (Int32.toNatClampNeg x1) 0)), q3.2.2)) hP hD rfl
    refine fw_Vi (As := [.int 2]) (rest := []) (n := 1) (wr := []) (rv := fun b : Int32 => b) (wp := fun b : Int32 => moW k va (q3.1, (uF q3.2.1 3 (upd (q3.2.1 3) (Int32.toNatClampNeg x1) 0)), q3.2.2)) h hx hb hml hown hts hG hA hP hD hS hl.1 (List.range (moW k va (q3.1, (uF q3.2.1 3 (upd (q3.2.1 3) (Int32.toNatClampNeg x1) 0)), q3.2.2)).length) [] (fun q hq9 => c_X9_those l D k _  va F 2 (q3.1, (uF q3.2.1 3 (upd (q3.2.1 3) (Int32.toNatClampNeg x1) 0)), q3.2.2)  hq9) (ci := 7) (q0 := 0) rfl rfl gX9_help_X9_those rfl ⟨rfl, rfl, Nat.le_of_ble_eq_true rfl, Nat.le_of_ble_eq_true rfl⟩ (by decide +kernel) (al_C _) rfl (al_n _) ⟨rfl, rfl, Nat.le_of_ble_eq_true rfl, Nat.le_of_ble_eq_true rfl, Nat.le_of_ble_eq_true rfl⟩ dX9_help_24 (fun q5 H locs h hP hD hS => ?_)
    obtain ⟨hP, hD⟩ := cv (w' := moW k va (q3.1, (uF q3.2.1 3 (upd (q3.2.1 3) (Int32.toNatClampNeg x1) 0)), q3.2.2)) hP hD rfl
    refine hc_is (z := q5) rfl ?_
    refine fw_Si (As := [.int q5]) (rest := []) (n := 1) (wr := moW k va (q3.1, (uF q3.2.1 3 (upd (q3.2.1 3) (Int32.toNatClampNeg x1) 0)), q3.2.2)) (rv := fun b : Int32 => b) (wp := fun b : Int32 => []) h hx hb hml hown hts hG hA hP hD hS hl.1 [] (List.range (moW k va (q3.1, (uF q3.2.1 3 (upd (q3.2.1 3) (Int32.toNatClampNeg x1) 0)), q3.2.2)).length) (fun q hq9 => c_X9_bits l D k _   F q5   hq9) gX9_help_X9_bits rfl ⟨rfl, rfl, Nat.le_of_ble_eq_true rfl, Nat.le_of_ble_eq_true rfl⟩ (by decide +kernel) rfl (al_C _) (al_m _) ⟨rfl, rfl, Nat.le_of_ble_eq_true rfl, Nat.le_of_ble_eq_true rfl, Nat.le_of_ble_eq_true rfl⟩ dX9_help_27 (fun q6 H locs h hP hD hS => ?_)
    obtain ⟨hP, hD⟩ := cv (w' := (moW k va (q3.1, (uF q3.2.1 3 (upd (q3.2.1 3) (Int32.toNatClampNeg x1) 0)), q3.2.2)) ++ []) hP hD rfl
    rw [List.append_nil] at hP hD
    refine hc_is (z := q6) rfl ?_
    exact fw_endI (rv := fun b : Int32 × OB => b.1) (wp := fun b : Int32 × OB => moW k va b.2) hx hb hr hlocks h rfl hP hD hS dX9_help_30
  · have h := fw_t c2 h
    refine lv_iconst (v := (-1)) hx hb dX9_help_9 (by decide) ?_
    exact fw_endI (rv := fun b : Int32 × OB => b.1) (wp := fun b : Int32 × OB => moW k va b.2) hx hb hr hlocks h rfl hP hD hS dX9_help_10
noncomputable def b_X9_let_30 (F : Nat)    (mo : OB) : Option (Int32 × OB) :=
  some ((-1), mo)
noncomputable def f_X9_let (F : Nat)  (x1 : Int32) (x2 : Int32) (mo : OB) : Option (Int32 × OB) :=
  Option.bind (f_X9_isStrand F x1 mo) (fun q1 => (if q1 = 0 then (b_X9_let_30 F mo) else (Option.bind (f_X9_in F (Int32.toInt64 x2) 0 99) (fun q3 => (if q3 = 0 then (b_X9_let_30 F mo) else (if ib x1 4 then (if ((mo.2.1 2) (Int32.toNatClampNeg x1)) = x2 then (b_X9_let_30 F mo) else (Option.bind (f_X9_keepsAct F mo) (fun q7 => (Option.bind (f_X9_settles F (q7.1, (uF q7.2.1 2 (upd (q7.2.1 2) (Int32.toNatClampNeg x1) x2)), q7.2.2)) (fun q8 => (some (q8.1, q8.2))))))) else none))))))
set_option maxHeartbeats 4000000 in
set_option maxRecDepth 100000 in
theorem c_X9_let (l : Launch) (D : va_G) (k : Nat → ClassId) (sz : Nat)  (va : Nat → Nat) (F : Nat)  (x1 : Int32) (x2 : Int32) (mo : OB)  {res : Int32 × OB} (h : f_X9_let F x1 x2 mo = some res) : CtI l yX9_let wsX9_let (rmK 6 0 0) [.ref (va 0), .int x1, .int x2] D k sz (moW k va mo) (fun r (_ : Unit) => r = res.1) (fun _ : Unit => moW k va res.2) 0 0 := by
  refine CtI.mk (cc := cX9_let) (maxL := 3) (ret := (some .int)) (by decide) rfl (Nat.le_of_ble_eq_true rfl) ?_
  intro p e s m below meth c A ls E hP hD hS hl
  obtain ⟨hx, hb, hr, hml, hown, hts, hlocks, hin, hG, hA⟩ := E
  have hown : s.vm.findClass RX9 = some m.cls := hown
  have in9 : ∀ w ∈ u_ws RX9 TX9 53, w ∈ wsX9_let := fun _ h => List.mem_cons_of_mem _ (List.mem_append_right _ h)
  have hl : lv_has ls 3 [(0, .ref (va 0)), (1, .int x1), (2, .int x2)] := hl
  have B30 : ∀ (mo : OB) (H : Heap) (locs : List Loc) (ls : Array Slot), b_X9_let_30 F mo = some res → va_P D vwCl (moW k va mo) H → va_D A (moW k va mo) → va_S A s.heap H locs → lv_has ls 3 [] → W p l e (rmK 6 0 0) s m (List.toArray [.ref (va 0), .int x1, .int x2]) below meth c H locs 0 0 (MQ below (va_Qi (fun r (_ : Unit) => r = res.1) (hcB D (fun _ : Unit => moW k va res.2) A) A) (List.toArray [.ref (va 0), .int x1, .int x2]) s 0 0 A) (F0 m 30 ls []) := by
    intro mo H locs ls h hP hD hS hl
    refine lv_iconst (v := (-1)) hx hb dX9_let_30 (by decide) ?_
    exact fw_endI (rv := fun b : Int32 × OB => b.1) (wp := fun b : Int32 × OB => moW k va b.2) hx hb hr hlocks h rfl hP hD hS dX9_let_31
  refine lv_aload_n hx hb dX9_let_0 rfl (lv_at hl 0 rfl) ?_
  refine lv_iload_n hx hb dX9_let_1 rfl (lv_at hl 1 rfl) ?_
  refine fw_Vi (As := [.int x1]) (rest := []) (n := 1) (wr := []) (rv := fun b : Int32 => b) (wp := fun b : Int32 => moW k va mo) h hx hb hml hown hts hG hA hP hD hS hl.1 (List.range (moW k va mo).length) [] (fun q hq9 => c_X9_isStrand l D k _  va F x1 mo  hq9) (ci := 7) (q0 := 0) rfl rfl gX9_let_X9_isStrand rfl ⟨rfl, rfl, Nat.le_of_ble_eq_true rfl, Nat.le_of_ble_eq_true rfl⟩ (by decide +kernel) (al_C _) rfl (al_n _) ⟨rfl, rfl, Nat.le_of_ble_eq_true rfl, Nat.le_of_ble_eq_true rfl, Nat.le_of_ble_eq_true rfl⟩ dX9_let_2 (fun q1 H locs h hP hD hS => ?_)
  obtain ⟨hP, hD⟩ := cv (w' := moW k va mo) hP hD rfl
  refine hc_is (z := q1) rfl ?_
  refine lv_if_eq (tgt := 30) hx hb dX9_let_5 (by decide) (fun c2 => ?_) (fun c2 => ?_)
  · have h := fw_t c2 h
    exact B30 _ _ _ _ h hP hD hS (lv_sub hl [] rfl)
  · have h := fw_f c2 h
    refine lv_iload_n hx hb dX9_let_8 rfl (lv_at hl 2 rfl) ?_
    refine lv_i2l hx hb dX9_let_9 rfl ?_
    refine lv_lconst (v := 0) hx hb dX9_let_10 (by decide) ?_
    refine lv_ldc2 (v := 99) hx hb hown (hts (.constantLong RX9 413 (99)) (mem_b bq_wsX9_let 0 0 rfl)) dX9_let_11 ?_
    refine fw_Si (As := [.long (Int32.toInt64 x2), .long 0, .long 99]) (rest := []) (n := 3) (wr := moW k va mo) (rv := fun b : Int32 => b) (wp := fun b : Int32 => []) h hx hb hml hown hts hG hA hP hD hS hl.1 [] (List.range (moW k va mo).length) (fun q hq9 => c_X9_in l D k _   F (Int32.toInt64 x2) 0 99   hq9) gX9_let_X9_in rfl ⟨rfl, rfl, Nat.le_of_ble_eq_true rfl, Nat.le_of_ble_eq_true rfl⟩ (by decide +kernel) rfl (al_C _) (al_m _) ⟨rfl, rfl, Nat.le_of_ble_eq_true rfl, Nat.le_of_ble_eq_true rfl, Nat.le_of_ble_eq_true rfl⟩ dX9_let_14 (fun q3 H locs h hP hD hS => ?_)
    obtain ⟨hP, hD⟩ := cv (w' := (moW k va mo) ++ []) hP hD rfl
    rw [List.append_nil] at hP hD
    refine hc_is (z := q3) rfl ?_
    refine lv_if_eq (tgt := 30) hx hb dX9_let_17 (by decide) (fun c4 => ?_) (fun c4 => ?_)
    · have h := fw_t c4 h
      exact B30 _ _ _ _ h hP hD hS (lv_sub hl [] rfl)
    · have h := fw_f c4 h
      refine lv_aload_n hx hb dX9_let_20 rfl (lv_at hl 0 rfl) ?_
      refine va_get (D := D) (ci := 7) (v := .ref (va 2)) (C := RX9) (T := TX9) (N := 53) hx hb hts in9 hown hG.1 hP 0 rfl rfl 2 (by decide) (hts (.fieldLink RX9 13 "ChairCaneModel" "cane" "[I") (mem_b bq_wsX9_let 0 1 rfl)) (fun _ h9 => h9) rfl dX9_let_21 ?_
      refine lv_iload_n hx hb dX9_let_24 rfl (lv_at hl 1 rfl) ?_
      obtain ⟨g5, h⟩ := fw_g h
      refine va_iald hx hb hG.1 hP 2 0 rfl rfl (ib_vp g5) dX9_let_25 ?_
      refine lv_iload_n hx hb dX9_let_26 rfl (lv_at hl 2 rfl) ?_
      refine lv_icmp_ne (tgt := 32) hx hb dX9_let_27 (by decide) (fun c6 => ?_) (fun c6 => ?_)
      · have h := fw_f c6 h
        refine lv_aload_n hx hb dX9_let_32 rfl (lv_at hl 0 rfl) ?_
        refine fw_Vv (As := []) (rest := []) (n := 0) (wr := []) (wp := fun b : OB => moW k va b) h hx hb hml hown hts hG hA hP hD hS hl.1 (List.range (moW k va mo).length) [] (fun q hq9 => c_X9_keepsAct l D k _  va F  mo  hq9) (ci := 7) (q0 := 0) rfl rfl gX9_let_X9_keepsAct rfl ⟨rfl, rfl, Nat.le_of_ble_eq_true rfl, Nat.le_of_ble_eq_true rfl⟩ (by decide +kernel) (al_C _) rfl (al_n _) ⟨rfl, rfl, Nat.le_of_ble_eq_true rfl, Nat.le_of_ble_eq_true rfl, Nat.le_of_ble_eq_true rfl⟩ dX9_let_33 (fun q7 H locs h hP hD hS => ?_)
        obtain ⟨hP, hD⟩ := cv (w' := moW k va q7) hP hD rfl
        refine lv_aload_n hx hb dX9_let_36 rfl (lv_at hl 0 rfl) ?_
        refine va_get (D := D) (ci := 7) (v := .ref (va 2)) (C := RX9) (T := TX9) (N := 53) hx hb hts in9 hown hG.1 hP 0 rfl rfl 2 (by decide) (hts (.fieldLink RX9 13 "ChairCaneModel" "cane" "[I") (mem_b bq_wsX9_let 0 1 rfl)) (fun _ h9 => h9) rfl dX9_let_37 ?_
        refine lv_iload_n hx hb dX9_let_40 rfl (lv_at hl 1 rfl) ?_
        refine lv_iload_n hx hb dX9_let_41 rfl (lv_at hl 2 rfl) ?_
        refine va_iast hx hb hG.1 hP hD hS 2 0 rfl rfl (ib_vp g5) dX9_let_42 (fun H locs hP hD hS => ?_)
        refine lv_aload_n hx hb dX9_let_43 rfl (lv_at hl 0 rfl) ?_
        obtain ⟨hP, hD⟩ := cv (w' := moW k va (q7.1, (uF q7.2.1 2 (upd (q7.2.1 2) (Int32.toNatClampNeg x1) x2)), q7.2.2)) hP hD rfl
        refine fw_Vi (As := []) (rest := []) (n := 0) (wr := []) (rv := fun b : Int32 × OB => b.1) (wp := fun b : Int32 × OB => moW k va b.2) h hx hb hml hown hts hG hA hP hD hS hl.1 (List.range (moW k va (q7.1, (uF q7.2.1 2 (upd (q7.2.1 2) (Int32.toNatClampNeg x1) x2)), q7.2.2)).length) [] (fun q hq9 => c_X9_settles l D k _  va F  (q7.1, (uF q7.2.1 2 (upd (q7.2.1 2) (Int32.toNatClampNeg x1) x2)), q7.2.2)  hq9) (ci := 7) (q0 := 0) rfl rfl gX9_let_X9_settles rfl ⟨rfl, rfl, Nat.le_of_ble_eq_true rfl, Nat.le_of_ble_eq_true rfl⟩ (by decide +kernel) (al_C _) rfl (al_n _) ⟨rfl, rfl, Nat.le_of_ble_eq_true rfl, Nat.le_of_ble_eq_true rfl, Nat.le_of_ble_eq_true rfl⟩ dX9_let_44 (fun q8 H locs h hP hD hS => ?_)
        obtain ⟨hP, hD⟩ := cv (w' := moW k va q8.2) hP hD rfl
        refine hc_is (z := q8.1) rfl ?_
        exact fw_endI (rv := fun b : Int32 × OB => b.1) (wp := fun b : Int32 × OB => moW k va b.2) hx hb hr hlocks h rfl hP hD hS dX9_let_47
      · have h := fw_t c6 h
        exact B30 _ _ _ _ h hP hD hS (lv_sub hl [] rfl)
noncomputable def f_X9_carriesAll (F : Nat)  (x1 : Int32) (x2 : Int32) (mo : OB) : Option (OB) :=
  if bo x2 then (Option.bind (f_X9_carryRow F 8 (uF (uF mo.1 51 (400 * x1)) 52 x2) (mo.2.1 49) (mo.2.1 1)) (fun q2 => (Option.bind (f_X9_carryRow F 4 q2.1 q2.2.1 (mo.2.1 2)) (fun q3 => (Option.bind (f_X9_carryRow F 8 q3.1 q3.2.1 (mo.2.1 3)) (fun q4 => (Option.bind (f_X9_carryRow F 8 q4.1 q4.2.1 (mo.2.1 4)) (fun q5 => (Option.bind (f_X9_carryRow F 8 q5.1 q5.2.1 (mo.2.1 5)) (fun q6 => (if x1 = 4 then (some (q6.1, (uF (uF (uF (uF (uF (uF mo.2.1 1 q2.2.2) 2 q3.2.2) 3 q4.2.2) 4 q5.2.2) 5 q6.2.2) 49 q6.2.1), mo.2.2)) else (Option.bind (f_X9_carryRow F 1 q6.1 q6.2.1 (upd (mo.2.1 40) (Int32.toNatClampNeg 0) (q6.1 41))) (fun q8 => (Option.bind (f_X9_carryRow F 8 (uF q8.1 41 (q8.2.2 (Int32.toNatClampNeg 0))) q8.2.1 (mo.2.1 6)) (fun q9 => (Option.bind (f_X9_carryRow F 8 q9.1 q9.2.1 (mo.2.1 7)) (fun q10 => (Option.bind (f_X9_carryRow F 10 q10.1 q10.2.1 (mo.2.1 8)) (fun q11 => (Option.bind (f_X9_carryRow F 10 q11.1 q11.2.1 (mo.2.1 9)) (fun q12 => (Option.bind (f_X9_carryRow F 10 q12.1 q12.2.1 (mo.2.1 10)) (fun q13 => (Option.bind (f_X9_carryRow F 4 q13.1 q13.2.1 (mo.2.1 11)) (fun q14 => (Option.bind (f_X9_carryRow F 260 q14.1 q14.2.1 (mo.2.1 39)) (fun q15 => (some (q15.1, (uF (uF (uF (uF (uF (uF (uF (uF (uF (uF (uF (uF (uF (uF mo.2.1 1 q2.2.2) 2 q3.2.2) 3 q4.2.2) 4 q5.2.2) 5 q6.2.2) 6 q9.2.2) 7 q10.2.2) 8 q11.2.2) 9 q12.2.2) 10 q13.2.2) 11 q14.2.2) 39 q15.2.2) 40 q8.2.2) 49 q15.2.1), mo.2.2))))))))))))))))))))))))))))) else none
set_option maxHeartbeats 4000000 in
set_option maxRecDepth 100000 in
theorem c_X9_carriesAll (l : Launch) (D : va_G) (k : Nat → ClassId) (sz : Nat)  (va : Nat → Nat) (F : Nat)  (x1 : Int32) (x2 : Int32) (mo : OB)  {res : OB} (h : f_X9_carriesAll F x1 x2 mo = some res) : CtV l yX9_carriesAll wsX9_carriesAll (rmK 2 0 0) [.ref (va 0), .int x1, .int x2] D k sz (moW k va mo) (fun (_ : Unit) => True) (fun _ : Unit => moW k va res) 0 0 := by
  refine CtV.mk (cc := cX9_carriesAll) (maxL := 3) (ret := none) (by decide) rfl (Nat.le_of_ble_eq_true rfl) ?_
  intro p e s m below meth c A ls E hP hD hS hl
  obtain ⟨hx, hb, hr, hml, hown, hts, hlocks, hin, hG, hA⟩ := E
  have hown : s.vm.findClass RX9 = some m.cls := hown
  have in9 : ∀ w ∈ u_ws RX9 TX9 53, w ∈ wsX9_carriesAll := fun _ h => List.mem_cons_of_mem _ (List.mem_append_right _ h)
  have hl : lv_has ls 3 [(0, .ref (va 0)), (1, .int x1), (2, .int x2)] := hl
  refine lv_aload_n hx hb dX9_carriesAll_0 rfl (lv_at hl 0 rfl) ?_
  refine lv_sipush (v := 400) hx hb dX9_carriesAll_1 (by decide) ?_
  refine lv_iload_n hx hb dX9_carriesAll_4 rfl (lv_at hl 1 rfl) ?_
  refine lv_imul hx hb dX9_carriesAll_5 ?_
  refine va_put (D := D) (ci := 7) (v := .int (400 * x1)) (C := RX9) (T := TX9) (N := 53) hx hb hts in9 tyX9 tyX9_ok nmX9 hown hG.1 hP hD hS 0 rfl rfl 51 (by decide) (hts (.fieldLink RX9 486 "ChairCaneModel" "imageAt" "I") (mem_b bq_wsX9_carriesAll 0 0 rfl)) (fun _ h9 => h9) rfl (tyX9_ok 51 (by decide)) rfl rfl (Nat.le_of_ble_eq_true rfl) dX9_carriesAll_6 (fun H locs hP hD hS => ?_)
  refine lv_aload_n hx hb dX9_carriesAll_9 rfl (lv_at hl 0 rfl) ?_
  refine lv_iload_n hx hb dX9_carriesAll_10 rfl (lv_at hl 2 rfl) ?_
  obtain ⟨g1, h⟩ := fw_g h
  refine va_put (D := D) (ci := 7) (v := .int x2) (C := RX9) (T := TX9) (N := 53) hx hb hts in9 tyX9 tyX9_ok nmX9 hown hG.1 hP hD hS 0 rfl rfl 52 (by decide) (hts (.fieldLink RX9 483 "ChairCaneModel" "goesBack" "Z") (mem_b bq_wsX9_carriesAll 0 1 rfl)) (fun _ h9 => h9) rfl (tyX9_ok 52 (by decide)) (bo_z g1) (bo_f g1) (Nat.le_of_ble_eq_true rfl) dX9_carriesAll_11 (fun H locs hP hD hS => ?_)
  refine lv_aload_n hx hb dX9_carriesAll_14 rfl (lv_at hl 0 rfl) ?_
  refine lv_aload_n hx hb dX9_carriesAll_15 rfl (lv_at hl 0 rfl) ?_
  refine va_get (D := D) (ci := 7) (v := .ref (va 1)) (C := RX9) (T := TX9) (N := 53) hx hb hts in9 hown hG.1 hP 0 rfl rfl 1 (by decide) (hts (.fieldLink RX9 9 "ChairCaneModel" "scalar" "[I") (mem_b bq_wsX9_carriesAll 0 2 rfl)) (fun _ h9 => h9) rfl dX9_carriesAll_16 ?_
  obtain ⟨hP, hD⟩ := cv (w' := moW k va ((uF (uF mo.1 51 (400 * x1)) 52 x2), mo.2.1, mo.2.2)) hP hD rfl
  refine fw_Vv (As := [.ref (va 1)]) (rest := []) (n := 1) (wr := ([((va 2), hcI k 4 (((uF (uF mo.1 51 (400 * x1)) 52 x2), mo.2.1, mo.2.2).2.1 2)), ((va 3), hcI k 8 (((uF (uF mo.1 51 (400 * x1)) 52 x2), mo.2.1, mo.2.2).2.1 3)), ((va 4), hcI k 8 (((uF (uF mo.1 51 (400 * x1)) 52 x2), mo.2.1, mo.2.2).2.1 4)), ((va 5), hcI k 8 (((uF (uF mo.1 51 (400 * x1)) 52 x2), mo.2.1, mo.2.2).2.1 5)), ((va 6), hcI k 8 (((uF (uF mo.1 51 (400 * x1)) 52 x2), mo.2.1, mo.2.2).2.1 6)), ((va 7), hcI k 8 (((uF (uF mo.1 51 (400 * x1)) 52 x2), mo.2.1, mo.2.2).2.1 7)), ((va 8), hcI k 10 (((uF (uF mo.1 51 (400 * x1)) 52 x2), mo.2.1, mo.2.2).2.1 8)), ((va 9), hcI k 10 (((uF (uF mo.1 51 (400 * x1)) 52 x2), mo.2.1, mo.2.2).2.1 9)), ((va 10), hcI k 10 (((uF (uF mo.1 51 (400 * x1)) 52 x2), mo.2.1, mo.2.2).2.1 10)), ((va 11), hcI k 4 (((uF (uF mo.1 51 (400 * x1)) 52 x2), mo.2.1, mo.2.2).2.1 11)), ((va 12), hcI k 4 (((uF (uF mo.1 51 (400 * x1)) 52 x2), mo.2.1, mo.2.2).2.1 12)), ((va 13), hcI k 4 (((uF (uF mo.1 51 (400 * x1)) 52 x2), mo.2.1, mo.2.2).2.1 13)), ((va 14), hcI k 8 (((uF (uF mo.1 51 (400 * x1)) 52 x2), mo.2.1, mo.2.2).2.1 14)), ((va 15), hcI k 8 (((uF (uF mo.1 51 (400 * x1)) 52 x2), mo.2.1, mo.2.2).2.1 15)), ((va 16), hcI k 8 (((uF (uF mo.1 51 (400 * x1)) 52 x2), mo.2.1, mo.2.2).2.1 16)), ((va 17), hcI k 8 (((uF (uF mo.1 51 (400 * x1)) 52 x2), mo.2.1, mo.2.2).2.1 17)), ((va 18), hcY k 400 (((uF (uF mo.1 51 (400 * x1)) 52 x2), mo.2.1, mo.2.2).2.1 28)), ((va 19), hcI k 1800 (((uF (uF mo.1 51 (400 * x1)) 52 x2), mo.2.1, mo.2.2).2.1 29)), ((va 20), hcI k 1800 (((uF (uF mo.1 51 (400 * x1)) 52 x2), mo.2.1, mo.2.2).2.1 30)), ((va 21), hcI k 6 (((uF (uF mo.1 51 (400 * x1)) 52 x2), mo.2.1, mo.2.2).2.1 31)), ((va 22), hcI k 72 (((uF (uF mo.1 51 (400 * x1)) 52 x2), mo.2.1, mo.2.2).2.1 32)), ((va 23), hcI k 72 (((uF (uF mo.1 51 (400 * x1)) 52 x2), mo.2.1, mo.2.2).2.1 33)), ((va 24), hcI k 72 (((uF (uF mo.1 51 (400 * x1)) 52 x2), mo.2.1, mo.2.2).2.1 34)), ((va 25), hcI k 402 (((uF (uF mo.1 51 (400 * x1)) 52 x2), mo.2.1, mo.2.2).2.1 35)), ((va 26), hcJ k 11 (((uF (uF mo.1 51 (400 * x1)) 52 x2), mo.2.1, mo.2.2).2.2 36)), ((va 27), hcJ k 300 (((uF (uF mo.1 51 (400 * x1)) 52 x2), mo.2.1, mo.2.2).2.2 37)), ((va 28), hcI k 8 (((uF (uF mo.1 51 (400 * x1)) 52 x2), mo.2.1, mo.2.2).2.1 38)), ((va 29), hcI k 260 (((uF (uF mo.1 51 (400 * x1)) 52 x2), mo.2.1, mo.2.2).2.1 39)), ((va 30), hcI k 1 (((uF (uF mo.1 51 (400 * x1)) 52 x2), mo.2.1, mo.2.2).2.1 40)), ((va 31), hcZ k 256 (((uF (uF mo.1 51 (400 * x1)) 52 x2), mo.2.1, mo.2.2).2.1 44)), ((va 32), hcI k 4 (((uF (uF mo.1 51 (400 * x1)) 52 x2), mo.2.1, mo.2.2).2.1 45)), ((va 33), hcI k 4 (((uF (uF mo.1 51 (400 * x1)) 52 x2), mo.2.1, mo.2.2).2.1 46)), ((va 34), hcI k 488 (((uF (uF mo.1 51 (400 * x1)) 52 x2), mo.2.1, mo.2.2).2.1 47)), ((va 35), hcI k 56 (((uF (uF mo.1 51 (400 * x1)) 52 x2), mo.2.1, mo.2.2).2.1 48)), ((va 37), hcZ k 4 (((uF (uF mo.1 51 (400 * x1)) 52 x2), mo.2.1, mo.2.2).2.1 50))] : va_W)) (wp := fun b : (Nat → Int32) × (Nat → Int32) × (Nat → Int32) => ([((va 0), .inr (7, [.int (b.1 0), .ref (va 1), .ref (va 2), .ref (va 3), .ref (va 4), .ref (va 5), .ref (va 6), .ref (va 7), .ref (va 8), .ref (va 9), .ref (va 10), .ref (va 11), .ref (va 12), .ref (va 13), .ref (va 14), .ref (va 15), .ref (va 16), .ref (va 17), .int (b.1 18), .int (b.1 19), .int (b.1 20), .int (b.1 21), .int (b.1 22), .int (b.1 23), .int (b.1 24), .int (b.1 25), .int (b.1 26), .int (b.1 27), .ref (va 18), .ref (va 19), .ref (va 20), .ref (va 21), .ref (va 22), .ref (va 23), .ref (va 24), .ref (va 25), .ref (va 26), .ref (va 27), .ref (va 28), .ref (va 29), .ref (va 30), .int (b.1 41), .int (b.1 42), .int (b.1 43), .ref (va 31), .ref (va 32), .ref (va 33), .ref (va 34), .ref (va 35), .ref (va 36), .ref (va 37), .int (b.1 51), .int (b.1 52)]))] : va_W) ++ (([((va 36), hcI k 2000 b.2.1)] : va_W) ++ (([((va 1), hcI k 8 b.2.2)] : va_W)))) h hx hb hml hown hts hG hA hP hD hS hl.1 [0, 36, 1] [2, 3, 4, 5, 6, 7, 8, 9, 10, 11, 12, 13, 14, 15, 16, 17, 18, 19, 20, 21, 22, 23, 24, 25, 26, 27, 28, 29, 30, 31, 32, 33, 34, 35, 37] (fun q hq9 => c_X9_carryRow l D k _  va (va 1) F 8 (uF (uF mo.1 51 (400 * x1)) 52 x2) (mo.2.1 49) (mo.2.1 1)  hq9) (ci := 7) (q0 := 0) rfl rfl gX9_carriesAll_X9_carryRow rfl ⟨rfl, rfl, Nat.le_of_ble_eq_true rfl, Nat.le_of_ble_eq_true rfl⟩ (by decide +kernel) rfl rfl ⟨by decide +kernel, by decide +kernel, by decide +kernel⟩ ⟨rfl, rfl, Nat.le_of_ble_eq_true rfl, Nat.le_of_ble_eq_true rfl, Nat.le_of_ble_eq_true rfl⟩ dX9_carriesAll_19 (fun q2 H locs h hP hD hS => ?_)
  obtain ⟨hP, hD⟩ := cvs (w' := moW k va (q2.1, (uF (uF mo.2.1 1 q2.2.2) 49 q2.2.1), mo.2.2)) hP hD [35, 37, 0, 1, 2, 3, 4, 5, 6, 7, 8, 9, 10, 11, 12, 13, 14, 15, 16, 17, 18, 19, 20, 21, 22, 23, 24, 25, 26, 27, 28, 29, 30, 31, 32, 33, 36, 34] (by decide +kernel) rfl
  refine lv_aload_n hx hb dX9_carriesAll_22 rfl (lv_at hl 0 rfl) ?_
  refine lv_aload_n hx hb dX9_carriesAll_23 rfl (lv_at hl 0 rfl) ?_
  refine va_get (D := D) (ci := 7) (v := .ref (va 2)) (C := RX9) (T := TX9) (N := 53) hx hb hts in9 hown hG.1 hP 0 rfl rfl 2 (by decide) (hts (.fieldLink RX9 13 "ChairCaneModel" "cane" "[I") (mem_b bq_wsX9_carriesAll 0 3 rfl)) (fun _ h9 => h9) rfl dX9_carriesAll_24 ?_
  refine fw_Vv (As := [.ref (va 2)]) (rest := []) (n := 1) (wr := ([((va 1), hcI k 8 ((q2.1, (uF (uF mo.2.1 1 q2.2.2) 49 q2.2.1), mo.2.2).2.1 1)), ((va 3), hcI k 8 ((q2.1, (uF (uF mo.2.1 1 q2.2.2) 49 q2.2.1), mo.2.2).2.1 3)), ((va 4), hcI k 8 ((q2.1, (uF (uF mo.2.1 1 q2.2.2) 49 q2.2.1), mo.2.2).2.1 4)), ((va 5), hcI k 8 ((q2.1, (uF (uF mo.2.1 1 q2.2.2) 49 q2.2.1), mo.2.2).2.1 5)), ((va 6), hcI k 8 ((q2.1, (uF (uF mo.2.1 1 q2.2.2) 49 q2.2.1), mo.2.2).2.1 6)), ((va 7), hcI k 8 ((q2.1, (uF (uF mo.2.1 1 q2.2.2) 49 q2.2.1), mo.2.2).2.1 7)), ((va 8), hcI k 10 ((q2.1, (uF (uF mo.2.1 1 q2.2.2) 49 q2.2.1), mo.2.2).2.1 8)), ((va 9), hcI k 10 ((q2.1, (uF (uF mo.2.1 1 q2.2.2) 49 q2.2.1), mo.2.2).2.1 9)), ((va 10), hcI k 10 ((q2.1, (uF (uF mo.2.1 1 q2.2.2) 49 q2.2.1), mo.2.2).2.1 10)), ((va 11), hcI k 4 ((q2.1, (uF (uF mo.2.1 1 q2.2.2) 49 q2.2.1), mo.2.2).2.1 11)), ((va 12), hcI k 4 ((q2.1, (uF (uF mo.2.1 1 q2.2.2) 49 q2.2.1), mo.2.2).2.1 12)), ((va 13), hcI k 4 ((q2.1, (uF (uF mo.2.1 1 q2.2.2) 49 q2.2.1), mo.2.2).2.1 13)), ((va 14), hcI k 8 ((q2.1, (uF (uF mo.2.1 1 q2.2.2) 49 q2.2.1), mo.2.2).2.1 14)), ((va 15), hcI k 8 ((q2.1, (uF (uF mo.2.1 1 q2.2.2) 49 q2.2.1), mo.2.2).2.1 15)), ((va 16), hcI k 8 ((q2.1, (uF (uF mo.2.1 1 q2.2.2) 49 q2.2.1), mo.2.2).2.1 16)), ((va 17), hcI k 8 ((q2.1, (uF (uF mo.2.1 1 q2.2.2) 49 q2.2.1), mo.2.2).2.1 17)), ((va 18), hcY k 400 ((q2.1, (uF (uF mo.2.1 1 q2.2.2) 49 q2.2.1), mo.2.2).2.1 28)), ((va 19), hcI k 1800 ((q2.1, (uF (uF mo.2.1 1 q2.2.2) 49 q2.2.1), mo.2.2).2.1 29)), ((va 20), hcI k 1800 ((q2.1, (uF (uF mo.2.1 1 q2.2.2) 49 q2.2.1), mo.2.2).2.1 30)), ((va 21), hcI k 6 ((q2.1, (uF (uF mo.2.1 1 q2.2.2) 49 q2.2.1), mo.2.2).2.1 31)), ((va 22), hcI k 72 ((q2.1, (uF (uF mo.2.1 1 q2.2.2) 49 q2.2.1), mo.2.2).2.1 32)), ((va 23), hcI k 72 ((q2.1, (uF (uF mo.2.1 1 q2.2.2) 49 q2.2.1), mo.2.2).2.1 33)), ((va 24), hcI k 72 ((q2.1, (uF (uF mo.2.1 1 q2.2.2) 49 q2.2.1), mo.2.2).2.1 34)), ((va 25), hcI k 402 ((q2.1, (uF (uF mo.2.1 1 q2.2.2) 49 q2.2.1), mo.2.2).2.1 35)), ((va 26), hcJ k 11 ((q2.1, (uF (uF mo.2.1 1 q2.2.2) 49 q2.2.1), mo.2.2).2.2 36)), ((va 27), hcJ k 300 ((q2.1, (uF (uF mo.2.1 1 q2.2.2) 49 q2.2.1), mo.2.2).2.2 37)), ((va 28), hcI k 8 ((q2.1, (uF (uF mo.2.1 1 q2.2.2) 49 q2.2.1), mo.2.2).2.1 38)), ((va 29), hcI k 260 ((q2.1, (uF (uF mo.2.1 1 q2.2.2) 49 q2.2.1), mo.2.2).2.1 39)), ((va 30), hcI k 1 ((q2.1, (uF (uF mo.2.1 1 q2.2.2) 49 q2.2.1), mo.2.2).2.1 40)), ((va 31), hcZ k 256 ((q2.1, (uF (uF mo.2.1 1 q2.2.2) 49 q2.2.1), mo.2.2).2.1 44)), ((va 32), hcI k 4 ((q2.1, (uF (uF mo.2.1 1 q2.2.2) 49 q2.2.1), mo.2.2).2.1 45)), ((va 33), hcI k 4 ((q2.1, (uF (uF mo.2.1 1 q2.2.2) 49 q2.2.1), mo.2.2).2.1 46)), ((va 34), hcI k 488 ((q2.1, (uF (uF mo.2.1 1 q2.2.2) 49 q2.2.1), mo.2.2).2.1 47)), ((va 35), hcI k 56 ((q2.1, (uF (uF mo.2.1 1 q2.2.2) 49 q2.2.1), mo.2.2).2.1 48)), ((va 37), hcZ k 4 ((q2.1, (uF (uF mo.2.1 1 q2.2.2) 49 q2.2.1), mo.2.2).2.1 50))] : va_W)) (wp := fun b : (Nat → Int32) × (Nat → Int32) × (Nat → Int32) => ([((va 0), .inr (7, [.int (b.1 0), .ref (va 1), .ref (va 2), .ref (va 3), .ref (va 4), .ref (va 5), .ref (va 6), .ref (va 7), .ref (va 8), .ref (va 9), .ref (va 10), .ref (va 11), .ref (va 12), .ref (va 13), .ref (va 14), .ref (va 15), .ref (va 16), .ref (va 17), .int (b.1 18), .int (b.1 19), .int (b.1 20), .int (b.1 21), .int (b.1 22), .int (b.1 23), .int (b.1 24), .int (b.1 25), .int (b.1 26), .int (b.1 27), .ref (va 18), .ref (va 19), .ref (va 20), .ref (va 21), .ref (va 22), .ref (va 23), .ref (va 24), .ref (va 25), .ref (va 26), .ref (va 27), .ref (va 28), .ref (va 29), .ref (va 30), .int (b.1 41), .int (b.1 42), .int (b.1 43), .ref (va 31), .ref (va 32), .ref (va 33), .ref (va 34), .ref (va 35), .ref (va 36), .ref (va 37), .int (b.1 51), .int (b.1 52)]))] : va_W) ++ (([((va 36), hcI k 2000 b.2.1)] : va_W) ++ (([((va 2), hcI k 4 b.2.2)] : va_W)))) h hx hb hml hown hts hG hA hP hD hS hl.1 [0, 36, 2] [1, 3, 4, 5, 6, 7, 8, 9, 10, 11, 12, 13, 14, 15, 16, 17, 18, 19, 20, 21, 22, 23, 24, 25, 26, 27, 28, 29, 30, 31, 32, 33, 34, 35, 37] (fun q hq9 => c_X9_carryRow l D k _  va (va 2) F 4 q2.1 q2.2.1 (mo.2.1 2)  hq9) (ci := 7) (q0 := 0) rfl rfl gX9_carriesAll_X9_carryRow rfl ⟨rfl, rfl, Nat.le_of_ble_eq_true rfl, Nat.le_of_ble_eq_true rfl⟩ (by decide +kernel) rfl rfl ⟨by decide +kernel, by decide +kernel, by decide +kernel⟩ ⟨rfl, rfl, Nat.le_of_ble_eq_true rfl, Nat.le_of_ble_eq_true rfl, Nat.le_of_ble_eq_true rfl⟩ dX9_carriesAll_27 (fun q3 H locs h hP hD hS => ?_)
  obtain ⟨hP, hD⟩ := cvs (w' := moW k va (q3.1, (uF (uF (uF mo.2.1 1 q2.2.2) 2 q3.2.2) 49 q3.2.1), mo.2.2)) hP hD [35, 0, 37, 1, 2, 3, 4, 5, 6, 7, 8, 9, 10, 11, 12, 13, 14, 15, 16, 17, 18, 19, 20, 21, 22, 23, 24, 25, 26, 27, 28, 29, 30, 31, 32, 33, 36, 34] (by decide +kernel) rfl
  refine lv_aload_n hx hb dX9_carriesAll_30 rfl (lv_at hl 0 rfl) ?_
  refine lv_aload_n hx hb dX9_carriesAll_31 rfl (lv_at hl 0 rfl) ?_
  refine va_get (D := D) (ci := 7) (v := .ref (va 3)) (C := RX9) (T := TX9) (N := 53) hx hb hts in9 hown hG.1 hP 0 rfl rfl 3 (by decide) (hts (.fieldLink RX9 16 "ChairCaneModel" "is" "[I") (mem_b bq_wsX9_carriesAll 0 4 rfl)) (fun _ h9 => h9) rfl dX9_carriesAll_32 ?_
  refine fw_Vv (As := [.ref (va 3)]) (rest := []) (n := 1) (wr := ([((va 1), hcI k 8 ((q3.1, (uF (uF (uF mo.2.1 1 q2.2.2) 2 q3.2.2) 49 q3.2.1), mo.2.2).2.1 1)), ((va 2), hcI k 4 ((q3.1, (uF (uF (uF mo.2.1 1 q2.2.2) 2 q3.2.2) 49 q3.2.1), mo.2.2).2.1 2)), ((va 4), hcI k 8 ((q3.1, (uF (uF (uF mo.2.1 1 q2.2.2) 2 q3.2.2) 49 q3.2.1), mo.2.2).2.1 4)), ((va 5), hcI k 8 ((q3.1, (uF (uF (uF mo.2.1 1 q2.2.2) 2 q3.2.2) 49 q3.2.1), mo.2.2).2.1 5)), ((va 6), hcI k 8 ((q3.1, (uF (uF (uF mo.2.1 1 q2.2.2) 2 q3.2.2) 49 q3.2.1), mo.2.2).2.1 6)), ((va 7), hcI k 8 ((q3.1, (uF (uF (uF mo.2.1 1 q2.2.2) 2 q3.2.2) 49 q3.2.1), mo.2.2).2.1 7)), ((va 8), hcI k 10 ((q3.1, (uF (uF (uF mo.2.1 1 q2.2.2) 2 q3.2.2) 49 q3.2.1), mo.2.2).2.1 8)), ((va 9), hcI k 10 ((q3.1, (uF (uF (uF mo.2.1 1 q2.2.2) 2 q3.2.2) 49 q3.2.1), mo.2.2).2.1 9)), ((va 10), hcI k 10 ((q3.1, (uF (uF (uF mo.2.1 1 q2.2.2) 2 q3.2.2) 49 q3.2.1), mo.2.2).2.1 10)), ((va 11), hcI k 4 ((q3.1, (uF (uF (uF mo.2.1 1 q2.2.2) 2 q3.2.2) 49 q3.2.1), mo.2.2).2.1 11)), ((va 12), hcI k 4 ((q3.1, (uF (uF (uF mo.2.1 1 q2.2.2) 2 q3.2.2) 49 q3.2.1), mo.2.2).2.1 12)), ((va 13), hcI k 4 ((q3.1, (uF (uF (uF mo.2.1 1 q2.2.2) 2 q3.2.2) 49 q3.2.1), mo.2.2).2.1 13)), ((va 14), hcI k 8 ((q3.1, (uF (uF (uF mo.2.1 1 q2.2.2) 2 q3.2.2) 49 q3.2.1), mo.2.2).2.1 14)), ((va 15), hcI k 8 ((q3.1, (uF (uF (uF mo.2.1 1 q2.2.2) 2 q3.2.2) 49 q3.2.1), mo.2.2).2.1 15)), ((va 16), hcI k 8 ((q3.1, (uF (uF (uF mo.2.1 1 q2.2.2) 2 q3.2.2) 49 q3.2.1), mo.2.2).2.1 16)), ((va 17), hcI k 8 ((q3.1, (uF (uF (uF mo.2.1 1 q2.2.2) 2 q3.2.2) 49 q3.2.1), mo.2.2).2.1 17)), ((va 18), hcY k 400 ((q3.1, (uF (uF (uF mo.2.1 1 q2.2.2) 2 q3.2.2) 49 q3.2.1), mo.2.2).2.1 28)), ((va 19), hcI k 1800 ((q3.1, (uF (uF (uF mo.2.1 1 q2.2.2) 2 q3.2.2) 49 q3.2.1), mo.2.2).2.1 29)), ((va 20), hcI k 1800 ((q3.1, (uF (uF (uF mo.2.1 1 q2.2.2) 2 q3.2.2) 49 q3.2.1), mo.2.2).2.1 30)), ((va 21), hcI k 6 ((q3.1, (uF (uF (uF mo.2.1 1 q2.2.2) 2 q3.2.2) 49 q3.2.1), mo.2.2).2.1 31)), ((va 22), hcI k 72 ((q3.1, (uF (uF (uF mo.2.1 1 q2.2.2) 2 q3.2.2) 49 q3.2.1), mo.2.2).2.1 32)), ((va 23), hcI k 72 ((q3.1, (uF (uF (uF mo.2.1 1 q2.2.2) 2 q3.2.2) 49 q3.2.1), mo.2.2).2.1 33)), ((va 24), hcI k 72 ((q3.1, (uF (uF (uF mo.2.1 1 q2.2.2) 2 q3.2.2) 49 q3.2.1), mo.2.2).2.1 34)), ((va 25), hcI k 402 ((q3.1, (uF (uF (uF mo.2.1 1 q2.2.2) 2 q3.2.2) 49 q3.2.1), mo.2.2).2.1 35)), ((va 26), hcJ k 11 ((q3.1, (uF (uF (uF mo.2.1 1 q2.2.2) 2 q3.2.2) 49 q3.2.1), mo.2.2).2.2 36)), ((va 27), hcJ k 300 ((q3.1, (uF (uF (uF mo.2.1 1 q2.2.2) 2 q3.2.2) 49 q3.2.1), mo.2.2).2.2 37)), ((va 28), hcI k 8 ((q3.1, (uF (uF (uF mo.2.1 1 q2.2.2) 2 q3.2.2) 49 q3.2.1), mo.2.2).2.1 38)), ((va 29), hcI k 260 ((q3.1, (uF (uF (uF mo.2.1 1 q2.2.2) 2 q3.2.2) 49 q3.2.1), mo.2.2).2.1 39)), ((va 30), hcI k 1 ((q3.1, (uF (uF (uF mo.2.1 1 q2.2.2) 2 q3.2.2) 49 q3.2.1), mo.2.2).2.1 40)), ((va 31), hcZ k 256 ((q3.1, (uF (uF (uF mo.2.1 1 q2.2.2) 2 q3.2.2) 49 q3.2.1), mo.2.2).2.1 44)), ((va 32), hcI k 4 ((q3.1, (uF (uF (uF mo.2.1 1 q2.2.2) 2 q3.2.2) 49 q3.2.1), mo.2.2).2.1 45)), ((va 33), hcI k 4 ((q3.1, (uF (uF (uF mo.2.1 1 q2.2.2) 2 q3.2.2) 49 q3.2.1), mo.2.2).2.1 46)), ((va 34), hcI k 488 ((q3.1, (uF (uF (uF mo.2.1 1 q2.2.2) 2 q3.2.2) 49 q3.2.1), mo.2.2).2.1 47)), ((va 35), hcI k 56 ((q3.1, (uF (uF (uF mo.2.1 1 q2.2.2) 2 q3.2.2) 49 q3.2.1), mo.2.2).2.1 48)), ((va 37), hcZ k 4 ((q3.1, (uF (uF (uF mo.2.1 1 q2.2.2) 2 q3.2.2) 49 q3.2.1), mo.2.2).2.1 50))] : va_W)) (wp := fun b : (Nat → Int32) × (Nat → Int32) × (Nat → Int32) => ([((va 0), .inr (7, [.int (b.1 0), .ref (va 1), .ref (va 2), .ref (va 3), .ref (va 4), .ref (va 5), .ref (va 6), .ref (va 7), .ref (va 8), .ref (va 9), .ref (va 10), .ref (va 11), .ref (va 12), .ref (va 13), .ref (va 14), .ref (va 15), .ref (va 16), .ref (va 17), .int (b.1 18), .int (b.1 19), .int (b.1 20), .int (b.1 21), .int (b.1 22), .int (b.1 23), .int (b.1 24), .int (b.1 25), .int (b.1 26), .int (b.1 27), .ref (va 18), .ref (va 19), .ref (va 20), .ref (va 21), .ref (va 22), .ref (va 23), .ref (va 24), .ref (va 25), .ref (va 26), .ref (va 27), .ref (va 28), .ref (va 29), .ref (va 30), .int (b.1 41), .int (b.1 42), .int (b.1 43), .ref (va 31), .ref (va 32), .ref (va 33), .ref (va 34), .ref (va 35), .ref (va 36), .ref (va 37), .int (b.1 51), .int (b.1 52)]))] : va_W) ++ (([((va 36), hcI k 2000 b.2.1)] : va_W) ++ (([((va 3), hcI k 8 b.2.2)] : va_W)))) h hx hb hml hown hts hG hA hP hD hS hl.1 [0, 36, 3] [1, 2, 4, 5, 6, 7, 8, 9, 10, 11, 12, 13, 14, 15, 16, 17, 18, 19, 20, 21, 22, 23, 24, 25, 26, 27, 28, 29, 30, 31, 32, 33, 34, 35, 37] (fun q hq9 => c_X9_carryRow l D k _  va (va 3) F 8 q3.1 q3.2.1 (mo.2.1 3)  hq9) (ci := 7) (q0 := 0) rfl rfl gX9_carriesAll_X9_carryRow rfl ⟨rfl, rfl, Nat.le_of_ble_eq_true rfl, Nat.le_of_ble_eq_true rfl⟩ (by decide +kernel) rfl rfl ⟨by decide +kernel, by decide +kernel, by decide +kernel⟩ ⟨rfl, rfl, Nat.le_of_ble_eq_true rfl, Nat.le_of_ble_eq_true rfl, Nat.le_of_ble_eq_true rfl⟩ dX9_carriesAll_35 (fun q4 H locs h hP hD hS => ?_)
  obtain ⟨hP, hD⟩ := cvs (w' := moW k va (q4.1, (uF (uF (uF (uF mo.2.1 1 q2.2.2) 2 q3.2.2) 3 q4.2.2) 49 q4.2.1), mo.2.2)) hP hD [35, 0, 1, 37, 2, 3, 4, 5, 6, 7, 8, 9, 10, 11, 12, 13, 14, 15, 16, 17, 18, 19, 20, 21, 22, 23, 24, 25, 26, 27, 28, 29, 30, 31, 32, 33, 36, 34] (by decide +kernel) rfl
  refine lv_aload_n hx hb dX9_carriesAll_38 rfl (lv_at hl 0 rfl) ?_
  refine lv_aload_n hx hb dX9_carriesAll_39 rfl (lv_at hl 0 rfl) ?_
  refine va_get (D := D) (ci := 7) (v := .ref (va 4)) (C := RX9) (T := TX9) (N := 53) hx hb hts in9 hown hG.1 hP 0 rfl rfl 4 (by decide) (hts (.fieldLink RX9 19 "ChairCaneModel" "strandOf" "[I") (mem_b bq_wsX9_carriesAll 0 5 rfl)) (fun _ h9 => h9) rfl dX9_carriesAll_40 ?_
  refine fw_Vv (As := [.ref (va 4)]) (rest := []) (n := 1) (wr := ([((va 1), hcI k 8 ((q4.1, (uF (uF (uF (uF mo.2.1 1 q2.2.2) 2 q3.2.2) 3 q4.2.2) 49 q4.2.1), mo.2.2).2.1 1)), ((va 2), hcI k 4 ((q4.1, (uF (uF (uF (uF mo.2.1 1 q2.2.2) 2 q3.2.2) 3 q4.2.2) 49 q4.2.1), mo.2.2).2.1 2)), ((va 3), hcI k 8 ((q4.1, (uF (uF (uF (uF mo.2.1 1 q2.2.2) 2 q3.2.2) 3 q4.2.2) 49 q4.2.1), mo.2.2).2.1 3)), ((va 5), hcI k 8 ((q4.1, (uF (uF (uF (uF mo.2.1 1 q2.2.2) 2 q3.2.2) 3 q4.2.2) 49 q4.2.1), mo.2.2).2.1 5)), ((va 6), hcI k 8 ((q4.1, (uF (uF (uF (uF mo.2.1 1 q2.2.2) 2 q3.2.2) 3 q4.2.2) 49 q4.2.1), mo.2.2).2.1 6)), ((va 7), hcI k 8 ((q4.1, (uF (uF (uF (uF mo.2.1 1 q2.2.2) 2 q3.2.2) 3 q4.2.2) 49 q4.2.1), mo.2.2).2.1 7)), ((va 8), hcI k 10 ((q4.1, (uF (uF (uF (uF mo.2.1 1 q2.2.2) 2 q3.2.2) 3 q4.2.2) 49 q4.2.1), mo.2.2).2.1 8)), ((va 9), hcI k 10 ((q4.1, (uF (uF (uF (uF mo.2.1 1 q2.2.2) 2 q3.2.2) 3 q4.2.2) 49 q4.2.1), mo.2.2).2.1 9)), ((va 10), hcI k 10 ((q4.1, (uF (uF (uF (uF mo.2.1 1 q2.2.2) 2 q3.2.2) 3 q4.2.2) 49 q4.2.1), mo.2.2).2.1 10)), ((va 11), hcI k 4 ((q4.1, (uF (uF (uF (uF mo.2.1 1 q2.2.2) 2 q3.2.2) 3 q4.2.2) 49 q4.2.1), mo.2.2).2.1 11)), ((va 12), hcI k 4 ((q4.1, (uF (uF (uF (uF mo.2.1 1 q2.2.2) 2 q3.2.2) 3 q4.2.2) 49 q4.2.1), mo.2.2).2.1 12)), ((va 13), hcI k 4 ((q4.1, (uF (uF (uF (uF mo.2.1 1 q2.2.2) 2 q3.2.2) 3 q4.2.2) 49 q4.2.1), mo.2.2).2.1 13)), ((va 14), hcI k 8 ((q4.1, (uF (uF (uF (uF mo.2.1 1 q2.2.2) 2 q3.2.2) 3 q4.2.2) 49 q4.2.1), mo.2.2).2.1 14)), ((va 15), hcI k 8 ((q4.1, (uF (uF (uF (uF mo.2.1 1 q2.2.2) 2 q3.2.2) 3 q4.2.2) 49 q4.2.1), mo.2.2).2.1 15)), ((va 16), hcI k 8 ((q4.1, (uF (uF (uF (uF mo.2.1 1 q2.2.2) 2 q3.2.2) 3 q4.2.2) 49 q4.2.1), mo.2.2).2.1 16)), ((va 17), hcI k 8 ((q4.1, (uF (uF (uF (uF mo.2.1 1 q2.2.2) 2 q3.2.2) 3 q4.2.2) 49 q4.2.1), mo.2.2).2.1 17)), ((va 18), hcY k 400 ((q4.1, (uF (uF (uF (uF mo.2.1 1 q2.2.2) 2 q3.2.2) 3 q4.2.2) 49 q4.2.1), mo.2.2).2.1 28)), ((va 19), hcI k 1800 ((q4.1, (uF (uF (uF (uF mo.2.1 1 q2.2.2) 2 q3.2.2) 3 q4.2.2) 49 q4.2.1), mo.2.2).2.1 29)), ((va 20), hcI k 1800 ((q4.1, (uF (uF (uF (uF mo.2.1 1 q2.2.2) 2 q3.2.2) 3 q4.2.2) 49 q4.2.1), mo.2.2).2.1 30)), ((va 21), hcI k 6 ((q4.1, (uF (uF (uF (uF mo.2.1 1 q2.2.2) 2 q3.2.2) 3 q4.2.2) 49 q4.2.1), mo.2.2).2.1 31)), ((va 22), hcI k 72 ((q4.1, (uF (uF (uF (uF mo.2.1 1 q2.2.2) 2 q3.2.2) 3 q4.2.2) 49 q4.2.1), mo.2.2).2.1 32)), ((va 23), hcI k 72 ((q4.1, (uF (uF (uF (uF mo.2.1 1 q2.2.2) 2 q3.2.2) 3 q4.2.2) 49 q4.2.1), mo.2.2).2.1 33)), ((va 24), hcI k 72 ((q4.1, (uF (uF (uF (uF mo.2.1 1 q2.2.2) 2 q3.2.2) 3 q4.2.2) 49 q4.2.1), mo.2.2).2.1 34)), ((va 25), hcI k 402 ((q4.1, (uF (uF (uF (uF mo.2.1 1 q2.2.2) 2 q3.2.2) 3 q4.2.2) 49 q4.2.1), mo.2.2).2.1 35)), ((va 26), hcJ k 11 ((q4.1, (uF (uF (uF (uF mo.2.1 1 q2.2.2) 2 q3.2.2) 3 q4.2.2) 49 q4.2.1), mo.2.2).2.2 36)), ((va 27), hcJ k 300 ((q4.1, (uF (uF (uF (uF mo.2.1 1 q2.2.2) 2 q3.2.2) 3 q4.2.2) 49 q4.2.1), mo.2.2).2.2 37)), ((va 28), hcI k 8 ((q4.1, (uF (uF (uF (uF mo.2.1 1 q2.2.2) 2 q3.2.2) 3 q4.2.2) 49 q4.2.1), mo.2.2).2.1 38)), ((va 29), hcI k 260 ((q4.1, (uF (uF (uF (uF mo.2.1 1 q2.2.2) 2 q3.2.2) 3 q4.2.2) 49 q4.2.1), mo.2.2).2.1 39)), ((va 30), hcI k 1 ((q4.1, (uF (uF (uF (uF mo.2.1 1 q2.2.2) 2 q3.2.2) 3 q4.2.2) 49 q4.2.1), mo.2.2).2.1 40)), ((va 31), hcZ k 256 ((q4.1, (uF (uF (uF (uF mo.2.1 1 q2.2.2) 2 q3.2.2) 3 q4.2.2) 49 q4.2.1), mo.2.2).2.1 44)), ((va 32), hcI k 4 ((q4.1, (uF (uF (uF (uF mo.2.1 1 q2.2.2) 2 q3.2.2) 3 q4.2.2) 49 q4.2.1), mo.2.2).2.1 45)), ((va 33), hcI k 4 ((q4.1, (uF (uF (uF (uF mo.2.1 1 q2.2.2) 2 q3.2.2) 3 q4.2.2) 49 q4.2.1), mo.2.2).2.1 46)), ((va 34), hcI k 488 ((q4.1, (uF (uF (uF (uF mo.2.1 1 q2.2.2) 2 q3.2.2) 3 q4.2.2) 49 q4.2.1), mo.2.2).2.1 47)), ((va 35), hcI k 56 ((q4.1, (uF (uF (uF (uF mo.2.1 1 q2.2.2) 2 q3.2.2) 3 q4.2.2) 49 q4.2.1), mo.2.2).2.1 48)), ((va 37), hcZ k 4 ((q4.1, (uF (uF (uF (uF mo.2.1 1 q2.2.2) 2 q3.2.2) 3 q4.2.2) 49 q4.2.1), mo.2.2).2.1 50))] : va_W)) (wp := fun b : (Nat → Int32) × (Nat → Int32) × (Nat → Int32) => ([((va 0), .inr (7, [.int (b.1 0), .ref (va 1), .ref (va 2), .ref (va 3), .ref (va 4), .ref (va 5), .ref (va 6), .ref (va 7), .ref (va 8), .ref (va 9), .ref (va 10), .ref (va 11), .ref (va 12), .ref (va 13), .ref (va 14), .ref (va 15), .ref (va 16), .ref (va 17), .int (b.1 18), .int (b.1 19), .int (b.1 20), .int (b.1 21), .int (b.1 22), .int (b.1 23), .int (b.1 24), .int (b.1 25), .int (b.1 26), .int (b.1 27), .ref (va 18), .ref (va 19), .ref (va 20), .ref (va 21), .ref (va 22), .ref (va 23), .ref (va 24), .ref (va 25), .ref (va 26), .ref (va 27), .ref (va 28), .ref (va 29), .ref (va 30), .int (b.1 41), .int (b.1 42), .int (b.1 43), .ref (va 31), .ref (va 32), .ref (va 33), .ref (va 34), .ref (va 35), .ref (va 36), .ref (va 37), .int (b.1 51), .int (b.1 52)]))] : va_W) ++ (([((va 36), hcI k 2000 b.2.1)] : va_W) ++ (([((va 4), hcI k 8 b.2.2)] : va_W)))) h hx hb hml hown hts hG hA hP hD hS hl.1 [0, 36, 4] [1, 2, 3, 5, 6, 7, 8, 9, 10, 11, 12, 13, 14, 15, 16, 17, 18, 19, 20, 21, 22, 23, 24, 25, 26, 27, 28, 29, 30, 31, 32, 33, 34, 35, 37] (fun q hq9 => c_X9_carryRow l D k _  va (va 4) F 8 q4.1 q4.2.1 (mo.2.1 4)  hq9) (ci := 7) (q0 := 0) rfl rfl gX9_carriesAll_X9_carryRow rfl ⟨rfl, rfl, Nat.le_of_ble_eq_true rfl, Nat.le_of_ble_eq_true rfl⟩ (by decide +kernel) rfl rfl ⟨by decide +kernel, by decide +kernel, by decide +kernel⟩ ⟨rfl, rfl, Nat.le_of_ble_eq_true rfl, Nat.le_of_ble_eq_true rfl, Nat.le_of_ble_eq_true rfl⟩ dX9_carriesAll_43 (fun q5 H locs h hP hD hS => ?_)
  obtain ⟨hP, hD⟩ := cvs (w' := moW k va (q5.1, (uF (uF (uF (uF (uF mo.2.1 1 q2.2.2) 2 q3.2.2) 3 q4.2.2) 4 q5.2.2) 49 q5.2.1), mo.2.2)) hP hD [35, 0, 1, 2, 37, 3, 4, 5, 6, 7, 8, 9, 10, 11, 12, 13, 14, 15, 16, 17, 18, 19, 20, 21, 22, 23, 24, 25, 26, 27, 28, 29, 30, 31, 32, 33, 36, 34] (by decide +kernel) rfl
  refine lv_aload_n hx hb dX9_carriesAll_46 rfl (lv_at hl 0 rfl) ?_
  refine lv_aload_n hx hb dX9_carriesAll_47 rfl (lv_at hl 0 rfl) ?_
  refine va_get (D := D) (ci := 7) (v := .ref (va 5)) (C := RX9) (T := TX9) (N := 53) hx hb hts in9 hown hG.1 hP 0 rfl rfl 5 (by decide) (hts (.fieldLink RX9 22 "ChairCaneModel" "weight" "[I") (mem_b bq_wsX9_carriesAll 0 6 rfl)) (fun _ h9 => h9) rfl dX9_carriesAll_48 ?_
  refine fw_Vv (As := [.ref (va 5)]) (rest := []) (n := 1) (wr := ([((va 1), hcI k 8 ((q5.1, (uF (uF (uF (uF (uF mo.2.1 1 q2.2.2) 2 q3.2.2) 3 q4.2.2) 4 q5.2.2) 49 q5.2.1), mo.2.2).2.1 1)), ((va 2), hcI k 4 ((q5.1, (uF (uF (uF (uF (uF mo.2.1 1 q2.2.2) 2 q3.2.2) 3 q4.2.2) 4 q5.2.2) 49 q5.2.1), mo.2.2).2.1 2)), ((va 3), hcI k 8 ((q5.1, (uF (uF (uF (uF (uF mo.2.1 1 q2.2.2) 2 q3.2.2) 3 q4.2.2) 4 q5.2.2) 49 q5.2.1), mo.2.2).2.1 3)), ((va 4), hcI k 8 ((q5.1, (uF (uF (uF (uF (uF mo.2.1 1 q2.2.2) 2 q3.2.2) 3 q4.2.2) 4 q5.2.2) 49 q5.2.1), mo.2.2).2.1 4)), ((va 6), hcI k 8 ((q5.1, (uF (uF (uF (uF (uF mo.2.1 1 q2.2.2) 2 q3.2.2) 3 q4.2.2) 4 q5.2.2) 49 q5.2.1), mo.2.2).2.1 6)), ((va 7), hcI k 8 ((q5.1, (uF (uF (uF (uF (uF mo.2.1 1 q2.2.2) 2 q3.2.2) 3 q4.2.2) 4 q5.2.2) 49 q5.2.1), mo.2.2).2.1 7)), ((va 8), hcI k 10 ((q5.1, (uF (uF (uF (uF (uF mo.2.1 1 q2.2.2) 2 q3.2.2) 3 q4.2.2) 4 q5.2.2) 49 q5.2.1), mo.2.2).2.1 8)), ((va 9), hcI k 10 ((q5.1, (uF (uF (uF (uF (uF mo.2.1 1 q2.2.2) 2 q3.2.2) 3 q4.2.2) 4 q5.2.2) 49 q5.2.1), mo.2.2).2.1 9)), ((va 10), hcI k 10 ((q5.1, (uF (uF (uF (uF (uF mo.2.1 1 q2.2.2) 2 q3.2.2) 3 q4.2.2) 4 q5.2.2) 49 q5.2.1), mo.2.2).2.1 10)), ((va 11), hcI k 4 ((q5.1, (uF (uF (uF (uF (uF mo.2.1 1 q2.2.2) 2 q3.2.2) 3 q4.2.2) 4 q5.2.2) 49 q5.2.1), mo.2.2).2.1 11)), ((va 12), hcI k 4 ((q5.1, (uF (uF (uF (uF (uF mo.2.1 1 q2.2.2) 2 q3.2.2) 3 q4.2.2) 4 q5.2.2) 49 q5.2.1), mo.2.2).2.1 12)), ((va 13), hcI k 4 ((q5.1, (uF (uF (uF (uF (uF mo.2.1 1 q2.2.2) 2 q3.2.2) 3 q4.2.2) 4 q5.2.2) 49 q5.2.1), mo.2.2).2.1 13)), ((va 14), hcI k 8 ((q5.1, (uF (uF (uF (uF (uF mo.2.1 1 q2.2.2) 2 q3.2.2) 3 q4.2.2) 4 q5.2.2) 49 q5.2.1), mo.2.2).2.1 14)), ((va 15), hcI k 8 ((q5.1, (uF (uF (uF (uF (uF mo.2.1 1 q2.2.2) 2 q3.2.2) 3 q4.2.2) 4 q5.2.2) 49 q5.2.1), mo.2.2).2.1 15)), ((va 16), hcI k 8 ((q5.1, (uF (uF (uF (uF (uF mo.2.1 1 q2.2.2) 2 q3.2.2) 3 q4.2.2) 4 q5.2.2) 49 q5.2.1), mo.2.2).2.1 16)), ((va 17), hcI k 8 ((q5.1, (uF (uF (uF (uF (uF mo.2.1 1 q2.2.2) 2 q3.2.2) 3 q4.2.2) 4 q5.2.2) 49 q5.2.1), mo.2.2).2.1 17)), ((va 18), hcY k 400 ((q5.1, (uF (uF (uF (uF (uF mo.2.1 1 q2.2.2) 2 q3.2.2) 3 q4.2.2) 4 q5.2.2) 49 q5.2.1), mo.2.2).2.1 28)), ((va 19), hcI k 1800 ((q5.1, (uF (uF (uF (uF (uF mo.2.1 1 q2.2.2) 2 q3.2.2) 3 q4.2.2) 4 q5.2.2) 49 q5.2.1), mo.2.2).2.1 29)), ((va 20), hcI k 1800 ((q5.1, (uF (uF (uF (uF (uF mo.2.1 1 q2.2.2) 2 q3.2.2) 3 q4.2.2) 4 q5.2.2) 49 q5.2.1), mo.2.2).2.1 30)), ((va 21), hcI k 6 ((q5.1, (uF (uF (uF (uF (uF mo.2.1 1 q2.2.2) 2 q3.2.2) 3 q4.2.2) 4 q5.2.2) 49 q5.2.1), mo.2.2).2.1 31)), ((va 22), hcI k 72 ((q5.1, (uF (uF (uF (uF (uF mo.2.1 1 q2.2.2) 2 q3.2.2) 3 q4.2.2) 4 q5.2.2) 49 q5.2.1), mo.2.2).2.1 32)), ((va 23), hcI k 72 ((q5.1, (uF (uF (uF (uF (uF mo.2.1 1 q2.2.2) 2 q3.2.2) 3 q4.2.2) 4 q5.2.2) 49 q5.2.1), mo.2.2).2.1 33)), ((va 24), hcI k 72 ((q5.1, (uF (uF (uF (uF (uF mo.2.1 1 q2.2.2) 2 q3.2.2) 3 q4.2.2) 4 q5.2.2) 49 q5.2.1), mo.2.2).2.1 34)), ((va 25), hcI k 402 ((q5.1, (uF (uF (uF (uF (uF mo.2.1 1 q2.2.2) 2 q3.2.2) 3 q4.2.2) 4 q5.2.2) 49 q5.2.1), mo.2.2).2.1 35)), ((va 26), hcJ k 11 ((q5.1, (uF (uF (uF (uF (uF mo.2.1 1 q2.2.2) 2 q3.2.2) 3 q4.2.2) 4 q5.2.2) 49 q5.2.1), mo.2.2).2.2 36)), ((va 27), hcJ k 300 ((q5.1, (uF (uF (uF (uF (uF mo.2.1 1 q2.2.2) 2 q3.2.2) 3 q4.2.2) 4 q5.2.2) 49 q5.2.1), mo.2.2).2.2 37)), ((va 28), hcI k 8 ((q5.1, (uF (uF (uF (uF (uF mo.2.1 1 q2.2.2) 2 q3.2.2) 3 q4.2.2) 4 q5.2.2) 49 q5.2.1), mo.2.2).2.1 38)), ((va 29), hcI k 260 ((q5.1, (uF (uF (uF (uF (uF mo.2.1 1 q2.2.2) 2 q3.2.2) 3 q4.2.2) 4 q5.2.2) 49 q5.2.1), mo.2.2).2.1 39)), ((va 30), hcI k 1 ((q5.1, (uF (uF (uF (uF (uF mo.2.1 1 q2.2.2) 2 q3.2.2) 3 q4.2.2) 4 q5.2.2) 49 q5.2.1), mo.2.2).2.1 40)), ((va 31), hcZ k 256 ((q5.1, (uF (uF (uF (uF (uF mo.2.1 1 q2.2.2) 2 q3.2.2) 3 q4.2.2) 4 q5.2.2) 49 q5.2.1), mo.2.2).2.1 44)), ((va 32), hcI k 4 ((q5.1, (uF (uF (uF (uF (uF mo.2.1 1 q2.2.2) 2 q3.2.2) 3 q4.2.2) 4 q5.2.2) 49 q5.2.1), mo.2.2).2.1 45)), ((va 33), hcI k 4 ((q5.1, (uF (uF (uF (uF (uF mo.2.1 1 q2.2.2) 2 q3.2.2) 3 q4.2.2) 4 q5.2.2) 49 q5.2.1), mo.2.2).2.1 46)), ((va 34), hcI k 488 ((q5.1, (uF (uF (uF (uF (uF mo.2.1 1 q2.2.2) 2 q3.2.2) 3 q4.2.2) 4 q5.2.2) 49 q5.2.1), mo.2.2).2.1 47)), ((va 35), hcI k 56 ((q5.1, (uF (uF (uF (uF (uF mo.2.1 1 q2.2.2) 2 q3.2.2) 3 q4.2.2) 4 q5.2.2) 49 q5.2.1), mo.2.2).2.1 48)), ((va 37), hcZ k 4 ((q5.1, (uF (uF (uF (uF (uF mo.2.1 1 q2.2.2) 2 q3.2.2) 3 q4.2.2) 4 q5.2.2) 49 q5.2.1), mo.2.2).2.1 50))] : va_W)) (wp := fun b : (Nat → Int32) × (Nat → Int32) × (Nat → Int32) => ([((va 0), .inr (7, [.int (b.1 0), .ref (va 1), .ref (va 2), .ref (va 3), .ref (va 4), .ref (va 5), .ref (va 6), .ref (va 7), .ref (va 8), .ref (va 9), .ref (va 10), .ref (va 11), .ref (va 12), .ref (va 13), .ref (va 14), .ref (va 15), .ref (va 16), .ref (va 17), .int (b.1 18), .int (b.1 19), .int (b.1 20), .int (b.1 21), .int (b.1 22), .int (b.1 23), .int (b.1 24), .int (b.1 25), .int (b.1 26), .int (b.1 27), .ref (va 18), .ref (va 19), .ref (va 20), .ref (va 21), .ref (va 22), .ref (va 23), .ref (va 24), .ref (va 25), .ref (va 26), .ref (va 27), .ref (va 28), .ref (va 29), .ref (va 30), .int (b.1 41), .int (b.1 42), .int (b.1 43), .ref (va 31), .ref (va 32), .ref (va 33), .ref (va 34), .ref (va 35), .ref (va 36), .ref (va 37), .int (b.1 51), .int (b.1 52)]))] : va_W) ++ (([((va 36), hcI k 2000 b.2.1)] : va_W) ++ (([((va 5), hcI k 8 b.2.2)] : va_W)))) h hx hb hml hown hts hG hA hP hD hS hl.1 [0, 36, 5] [1, 2, 3, 4, 6, 7, 8, 9, 10, 11, 12, 13, 14, 15, 16, 17, 18, 19, 20, 21, 22, 23, 24, 25, 26, 27, 28, 29, 30, 31, 32, 33, 34, 35, 37] (fun q hq9 => c_X9_carryRow l D k _  va (va 5) F 8 q5.1 q5.2.1 (mo.2.1 5)  hq9) (ci := 7) (q0 := 0) rfl rfl gX9_carriesAll_X9_carryRow rfl ⟨rfl, rfl, Nat.le_of_ble_eq_true rfl, Nat.le_of_ble_eq_true rfl⟩ (by decide +kernel) rfl rfl ⟨by decide +kernel, by decide +kernel, by decide +kernel⟩ ⟨rfl, rfl, Nat.le_of_ble_eq_true rfl, Nat.le_of_ble_eq_true rfl, Nat.le_of_ble_eq_true rfl⟩ dX9_carriesAll_51 (fun q6 H locs h hP hD hS => ?_)
  obtain ⟨hP, hD⟩ := cvs (w' := moW k va (q6.1, (uF (uF (uF (uF (uF (uF mo.2.1 1 q2.2.2) 2 q3.2.2) 3 q4.2.2) 4 q5.2.2) 5 q6.2.2) 49 q6.2.1), mo.2.2)) hP hD [35, 0, 1, 2, 3, 37, 4, 5, 6, 7, 8, 9, 10, 11, 12, 13, 14, 15, 16, 17, 18, 19, 20, 21, 22, 23, 24, 25, 26, 27, 28, 29, 30, 31, 32, 33, 36, 34] (by decide +kernel) rfl
  refine lv_iload_n hx hb dX9_carriesAll_54 rfl (lv_at hl 1 rfl) ?_
  refine lv_iconst (v := 4) hx hb dX9_carriesAll_55 (by decide) ?_
  refine lv_icmp_ne (tgt := 60) hx hb dX9_carriesAll_56 (by decide) (fun c7 => ?_) (fun c7 => ?_)
  · have h := fw_f c7 h
    refine lv_aload_n hx hb dX9_carriesAll_60 rfl (lv_at hl 0 rfl) ?_
    refine va_get (D := D) (ci := 7) (v := .ref (va 30)) (C := RX9) (T := TX9) (N := 53) hx hb hts in9 hown hG.1 hP 0 rfl rfl 40 (by decide) (hts (.fieldLink RX9 103 "ChairCaneModel" "pastOf" "[I") (mem_b bq_wsX9_carriesAll 0 7 rfl)) (fun _ h9 => h9) rfl dX9_carriesAll_61 ?_
    refine lv_iconst (v := 0) hx hb dX9_carriesAll_64 (by decide) ?_
    refine lv_aload_n hx hb dX9_carriesAll_65 rfl (lv_at hl 0 rfl) ?_
    refine va_get (D := D) (ci := 7) (v := .int (q6.1 41)) (C := RX9) (T := TX9) (N := 53) hx hb hts in9 hown hG.1 hP 0 rfl rfl 41 (by decide) (hts (.fieldLink RX9 299 "ChairCaneModel" "pastMany" "I") (mem_b bq_wsX9_carriesAll 0 8 rfl)) (fun _ h9 => h9) rfl dX9_carriesAll_66 ?_
    refine va_iast hx hb hG.1 hP hD hS 30 0 rfl rfl (by unfold vp_in; decide) dX9_carriesAll_69 (fun H locs hP hD hS => ?_)
    refine lv_aload_n hx hb dX9_carriesAll_70 rfl (lv_at hl 0 rfl) ?_
    refine lv_aload_n hx hb dX9_carriesAll_71 rfl (lv_at hl 0 rfl) ?_
    refine va_get (D := D) (ci := 7) (v := .ref (va 30)) (C := RX9) (T := TX9) (N := 53) hx hb hts in9 hown hG.1 hP 0 rfl rfl 40 (by decide) (hts (.fieldLink RX9 103 "ChairCaneModel" "pastOf" "[I") (mem_b bq_wsX9_carriesAll 0 7 rfl)) (fun _ h9 => h9) rfl dX9_carriesAll_72 ?_
    obtain ⟨hP, hD⟩ := cv (w' := moW k va (q6.1, (uF (uF (uF (uF (uF (uF (uF mo.2.1 1 q2.2.2) 2 q3.2.2) 3 q4.2.2) 4 q5.2.2) 5 q6.2.2) 40 (upd (mo.2.1 40) (Int32.toNatClampNeg 0) (q6.1 41))) 49 q6.2.1), mo.2.2)) hP hD rfl
    refine fw_Vv (As := [.ref (va 30)]) (rest := []) (n := 1) (wr := ([((va 1), hcI k 8 ((q6.1, (uF (uF (uF (uF (uF (uF (uF mo.2.1 1 q2.2.2) 2 q3.2.2) 3 q4.2.2) 4 q5.2.2) 5 q6.2.2) 40 (upd (mo.2.1 40) (Int32.toNatClampNeg 0) (q6.1 41))) 49 q6.2.1), mo.2.2).2.1 1)), ((va 2), hcI k 4 ((q6.1, (uF (uF (uF (uF (uF (uF (uF mo.2.1 1 q2.2.2) 2 q3.2.2) 3 q4.2.2) 4 q5.2.2) 5 q6.2.2) 40 (upd (mo.2.1 40) (Int32.toNatClampNeg 0) (q6.1 41))) 49 q6.2.1), mo.2.2).2.1 2)), ((va 3), hcI k 8 ((q6.1, (uF (uF (uF (uF (uF (uF (uF mo.2.1 1 q2.2.2) 2 q3.2.2) 3 q4.2.2) 4 q5.2.2) 5 q6.2.2) 40 (upd (mo.2.1 40) (Int32.toNatClampNeg 0) (q6.1 41))) 49 q6.2.1), mo.2.2).2.1 3)), ((va 4), hcI k 8 ((q6.1, (uF (uF (uF (uF (uF (uF (uF mo.2.1 1 q2.2.2) 2 q3.2.2) 3 q4.2.2) 4 q5.2.2) 5 q6.2.2) 40 (upd (mo.2.1 40) (Int32.toNatClampNeg 0) (q6.1 41))) 49 q6.2.1), mo.2.2).2.1 4)), ((va 5), hcI k 8 ((q6.1, (uF (uF (uF (uF (uF (uF (uF mo.2.1 1 q2.2.2) 2 q3.2.2) 3 q4.2.2) 4 q5.2.2) 5 q6.2.2) 40 (upd (mo.2.1 40) (Int32.toNatClampNeg 0) (q6.1 41))) 49 q6.2.1), mo.2.2).2.1 5)), ((va 6), hcI k 8 ((q6.1, (uF (uF (uF (uF (uF (uF (uF mo.2.1 1 q2.2.2) 2 q3.2.2) 3 q4.2.2) 4 q5.2.2) 5 q6.2.2) 40 (upd (mo.2.1 40) (Int32.toNatClampNeg 0) (q6.1 41))) 49 q6.2.1), mo.2.2).2.1 6)), ((va 7), hcI k 8 ((q6.1, (uF (uF (uF (uF (uF (uF (uF mo.2.1 1 q2.2.2) 2 q3.2.2) 3 q4.2.2) 4 q5.2.2) 5 q6.2.2) 40 (upd (mo.2.1 40) (Int32.toNatClampNeg 0) (q6.1 41))) 49 q6.2.1), mo.2.2).2.1 7)), ((va 8), hcI k 10 ((q6.1, (uF (uF (uF (uF (uF (uF (uF mo.2.1 1 q2.2.2) 2 q3.2.2) 3 q4.2.2) 4 q5.2.2) 5 q6.2.2) 40 (upd (mo.2.1 40) (Int32.toNatClampNeg 0) (q6.1 41))) 49 q6.2.1), mo.2.2).2.1 8)), ((va 9), hcI k 10 ((q6.1, (uF (uF (uF (uF (uF (uF (uF mo.2.1 1 q2.2.2) 2 q3.2.2) 3 q4.2.2) 4 q5.2.2) 5 q6.2.2) 40 (upd (mo.2.1 40) (Int32.toNatClampNeg 0) (q6.1 41))) 49 q6.2.1), mo.2.2).2.1 9)), ((va 10), hcI k 10 ((q6.1, (uF (uF (uF (uF (uF (uF (uF mo.2.1 1 q2.2.2) 2 q3.2.2) 3 q4.2.2) 4 q5.2.2) 5 q6.2.2) 40 (upd (mo.2.1 40) (Int32.toNatClampNeg 0) (q6.1 41))) 49 q6.2.1), mo.2.2).2.1 10)), ((va 11), hcI k 4 ((q6.1, (uF (uF (uF (uF (uF (uF (uF mo.2.1 1 q2.2.2) 2 q3.2.2) 3 q4.2.2) 4 q5.2.2) 5 q6.2.2) 40 (upd (mo.2.1 40) (Int32.toNatClampNeg 0) (q6.1 41))) 49 q6.2.1), mo.2.2).2.1 11)), ((va 12), hcI k 4 ((q6.1, (uF (uF (uF (uF (uF (uF (uF mo.2.1 1 q2.2.2) 2 q3.2.2) 3 q4.2.2) 4 q5.2.2) 5 q6.2.2) 40 (upd (mo.2.1 40) (Int32.toNatClampNeg 0) (q6.1 41))) 49 q6.2.1), mo.2.2).2.1 12)), ((va 13), hcI k 4 ((q6.1, (uF (uF (uF (uF (uF (uF (uF mo.2.1 1 q2.2.2) 2 q3.2.2) 3 q4.2.2) 4 q5.2.2) 5 q6.2.2) 40 (upd (mo.2.1 40) (Int32.toNatClampNeg 0) (q6.1 41))) 49 q6.2.1), mo.2.2).2.1 13)), ((va 14), hcI k 8 ((q6.1, (uF (uF (uF (uF (uF (uF (uF mo.2.1 1 q2.2.2) 2 q3.2.2) 3 q4.2.2) 4 q5.2.2) 5 q6.2.2) 40 (upd (mo.2.1 40) (Int32.toNatClampNeg 0) (q6.1 41))) 49 q6.2.1), mo.2.2).2.1 14)), ((va 15), hcI k 8 ((q6.1, (uF (uF (uF (uF (uF (uF (uF mo.2.1 1 q2.2.2) 2 q3.2.2) 3 q4.2.2) 4 q5.2.2) 5 q6.2.2) 40 (upd (mo.2.1 40) (Int32.toNatClampNeg 0) (q6.1 41))) 49 q6.2.1), mo.2.2).2.1 15)), ((va 16), hcI k 8 ((q6.1, (uF (uF (uF (uF (uF (uF (uF mo.2.1 1 q2.2.2) 2 q3.2.2) 3 q4.2.2) 4 q5.2.2) 5 q6.2.2) 40 (upd (mo.2.1 40) (Int32.toNatClampNeg 0) (q6.1 41))) 49 q6.2.1), mo.2.2).2.1 16)), ((va 17), hcI k 8 ((q6.1, (uF (uF (uF (uF (uF (uF (uF mo.2.1 1 q2.2.2) 2 q3.2.2) 3 q4.2.2) 4 q5.2.2) 5 q6.2.2) 40 (upd (mo.2.1 40) (Int32.toNatClampNeg 0) (q6.1 41))) 49 q6.2.1), mo.2.2).2.1 17)), ((va 18), hcY k 400 ((q6.1, (uF (uF (uF (uF (uF (uF (uF mo.2.1 1 q2.2.2) 2 q3.2.2) 3 q4.2.2) 4 q5.2.2) 5 q6.2.2) 40 (upd (mo.2.1 40) (Int32.toNatClampNeg 0) (q6.1 41))) 49 q6.2.1), mo.2.2).2.1 28)), ((va 19), hcI k 1800 ((q6.1, (uF (uF (uF (uF (uF (uF (uF mo.2.1 1 q2.2.2) 2 q3.2.2) 3 q4.2.2) 4 q5.2.2) 5 q6.2.2) 40 (upd (mo.2.1 40) (Int32.toNatClampNeg 0) (q6.1 41))) 49 q6.2.1), mo.2.2).2.1 29)), ((va 20), hcI k 1800 ((q6.1, (uF (uF (uF (uF (uF (uF (uF mo.2.1 1 q2.2.2) 2 q3.2.2) 3 q4.2.2) 4 q5.2.2) 5 q6.2.2) 40 (upd (mo.2.1 40) (Int32.toNatClampNeg 0) (q6.1 41))) 49 q6.2.1), mo.2.2).2.1 30)), ((va 21), hcI k 6 ((q6.1, (uF (uF (uF (uF (uF (uF (uF mo.2.1 1 q2.2.2) 2 q3.2.2) 3 q4.2.2) 4 q5.2.2) 5 q6.2.2) 40 (upd (mo.2.1 40) (Int32.toNatClampNeg 0) (q6.1 41))) 49 q6.2.1), mo.2.2).2.1 31)), ((va 22), hcI k 72 ((q6.1, (uF (uF (uF (uF (uF (uF (uF mo.2.1 1 q2.2.2) 2 q3.2.2) 3 q4.2.2) 4 q5.2.2) 5 q6.2.2) 40 (upd (mo.2.1 40) (Int32.toNatClampNeg 0) (q6.1 41))) 49 q6.2.1), mo.2.2).2.1 32)), ((va 23), hcI k 72 ((q6.1, (uF (uF (uF (uF (uF (uF (uF mo.2.1 1 q2.2.2) 2 q3.2.2) 3 q4.2.2) 4 q5.2.2) 5 q6.2.2) 40 (upd (mo.2.1 40) (Int32.toNatClampNeg 0) (q6.1 41))) 49 q6.2.1), mo.2.2).2.1 33)), ((va 24), hcI k 72 ((q6.1, (uF (uF (uF (uF (uF (uF (uF mo.2.1 1 q2.2.2) 2 q3.2.2) 3 q4.2.2) 4 q5.2.2) 5 q6.2.2) 40 (upd (mo.2.1 40) (Int32.toNatClampNeg 0) (q6.1 41))) 49 q6.2.1), mo.2.2).2.1 34)), ((va 25), hcI k 402 ((q6.1, (uF (uF (uF (uF (uF (uF (uF mo.2.1 1 q2.2.2) 2 q3.2.2) 3 q4.2.2) 4 q5.2.2) 5 q6.2.2) 40 (upd (mo.2.1 40) (Int32.toNatClampNeg 0) (q6.1 41))) 49 q6.2.1), mo.2.2).2.1 35)), ((va 26), hcJ k 11 ((q6.1, (uF (uF (uF (uF (uF (uF (uF mo.2.1 1 q2.2.2) 2 q3.2.2) 3 q4.2.2) 4 q5.2.2) 5 q6.2.2) 40 (upd (mo.2.1 40) (Int32.toNatClampNeg 0) (q6.1 41))) 49 q6.2.1), mo.2.2).2.2 36)), ((va 27), hcJ k 300 ((q6.1, (uF (uF (uF (uF (uF (uF (uF mo.2.1 1 q2.2.2) 2 q3.2.2) 3 q4.2.2) 4 q5.2.2) 5 q6.2.2) 40 (upd (mo.2.1 40) (Int32.toNatClampNeg 0) (q6.1 41))) 49 q6.2.1), mo.2.2).2.2 37)), ((va 28), hcI k 8 ((q6.1, (uF (uF (uF (uF (uF (uF (uF mo.2.1 1 q2.2.2) 2 q3.2.2) 3 q4.2.2) 4 q5.2.2) 5 q6.2.2) 40 (upd (mo.2.1 40) (Int32.toNatClampNeg 0) (q6.1 41))) 49 q6.2.1), mo.2.2).2.1 38)), ((va 29), hcI k 260 ((q6.1, (uF (uF (uF (uF (uF (uF (uF mo.2.1 1 q2.2.2) 2 q3.2.2) 3 q4.2.2) 4 q5.2.2) 5 q6.2.2) 40 (upd (mo.2.1 40) (Int32.toNatClampNeg 0) (q6.1 41))) 49 q6.2.1), mo.2.2).2.1 39)), ((va 31), hcZ k 256 ((q6.1, (uF (uF (uF (uF (uF (uF (uF mo.2.1 1 q2.2.2) 2 q3.2.2) 3 q4.2.2) 4 q5.2.2) 5 q6.2.2) 40 (upd (mo.2.1 40) (Int32.toNatClampNeg 0) (q6.1 41))) 49 q6.2.1), mo.2.2).2.1 44)), ((va 32), hcI k 4 ((q6.1, (uF (uF (uF (uF (uF (uF (uF mo.2.1 1 q2.2.2) 2 q3.2.2) 3 q4.2.2) 4 q5.2.2) 5 q6.2.2) 40 (upd (mo.2.1 40) (Int32.toNatClampNeg 0) (q6.1 41))) 49 q6.2.1), mo.2.2).2.1 45)), ((va 33), hcI k 4 ((q6.1, (uF (uF (uF (uF (uF (uF (uF mo.2.1 1 q2.2.2) 2 q3.2.2) 3 q4.2.2) 4 q5.2.2) 5 q6.2.2) 40 (upd (mo.2.1 40) (Int32.toNatClampNeg 0) (q6.1 41))) 49 q6.2.1), mo.2.2).2.1 46)), ((va 34), hcI k 488 ((q6.1, (uF (uF (uF (uF (uF (uF (uF mo.2.1 1 q2.2.2) 2 q3.2.2) 3 q4.2.2) 4 q5.2.2) 5 q6.2.2) 40 (upd (mo.2.1 40) (Int32.toNatClampNeg 0) (q6.1 41))) 49 q6.2.1), mo.2.2).2.1 47)), ((va 35), hcI k 56 ((q6.1, (uF (uF (uF (uF (uF (uF (uF mo.2.1 1 q2.2.2) 2 q3.2.2) 3 q4.2.2) 4 q5.2.2) 5 q6.2.2) 40 (upd (mo.2.1 40) (Int32.toNatClampNeg 0) (q6.1 41))) 49 q6.2.1), mo.2.2).2.1 48)), ((va 37), hcZ k 4 ((q6.1, (uF (uF (uF (uF (uF (uF (uF mo.2.1 1 q2.2.2) 2 q3.2.2) 3 q4.2.2) 4 q5.2.2) 5 q6.2.2) 40 (upd (mo.2.1 40) (Int32.toNatClampNeg 0) (q6.1 41))) 49 q6.2.1), mo.2.2).2.1 50))] : va_W)) (wp := fun b : (Nat → Int32) × (Nat → Int32) × (Nat → Int32) => ([((va 0), .inr (7, [.int (b.1 0), .ref (va 1), .ref (va 2), .ref (va 3), .ref (va 4), .ref (va 5), .ref (va 6), .ref (va 7), .ref (va 8), .ref (va 9), .ref (va 10), .ref (va 11), .ref (va 12), .ref (va 13), .ref (va 14), .ref (va 15), .ref (va 16), .ref (va 17), .int (b.1 18), .int (b.1 19), .int (b.1 20), .int (b.1 21), .int (b.1 22), .int (b.1 23), .int (b.1 24), .int (b.1 25), .int (b.1 26), .int (b.1 27), .ref (va 18), .ref (va 19), .ref (va 20), .ref (va 21), .ref (va 22), .ref (va 23), .ref (va 24), .ref (va 25), .ref (va 26), .ref (va 27), .ref (va 28), .ref (va 29), .ref (va 30), .int (b.1 41), .int (b.1 42), .int (b.1 43), .ref (va 31), .ref (va 32), .ref (va 33), .ref (va 34), .ref (va 35), .ref (va 36), .ref (va 37), .int (b.1 51), .int (b.1 52)]))] : va_W) ++ (([((va 36), hcI k 2000 b.2.1)] : va_W) ++ (([((va 30), hcI k 1 b.2.2)] : va_W)))) h hx hb hml hown hts hG hA hP hD hS hl.1 [0, 36, 30] [1, 2, 3, 4, 5, 6, 7, 8, 9, 10, 11, 12, 13, 14, 15, 16, 17, 18, 19, 20, 21, 22, 23, 24, 25, 26, 27, 28, 29, 31, 32, 33, 34, 35, 37] (fun q hq9 => c_X9_carryRow l D k _  va (va 30) F 1 q6.1 q6.2.1 (upd (mo.2.1 40) (Int32.toNatClampNeg 0) (q6.1 41))  hq9) (ci := 7) (q0 := 0) rfl rfl gX9_carriesAll_X9_carryRow rfl ⟨rfl, rfl, Nat.le_of_ble_eq_true rfl, Nat.le_of_ble_eq_true rfl⟩ (by decide +kernel) rfl rfl ⟨by decide +kernel, by decide +kernel, by decide +kernel⟩ ⟨rfl, rfl, Nat.le_of_ble_eq_true rfl, Nat.le_of_ble_eq_true rfl, Nat.le_of_ble_eq_true rfl⟩ dX9_carriesAll_75 (fun q8 H locs h hP hD hS => ?_)
    obtain ⟨hP, hD⟩ := cvs (w' := moW k va (q8.1, (uF (uF (uF (uF (uF (uF (uF mo.2.1 1 q2.2.2) 2 q3.2.2) 3 q4.2.2) 4 q5.2.2) 5 q6.2.2) 40 q8.2.2) 49 q8.2.1), mo.2.2)) hP hD [35, 0, 1, 2, 3, 4, 5, 6, 7, 8, 9, 10, 11, 12, 13, 14, 15, 16, 17, 18, 19, 20, 21, 22, 23, 24, 25, 26, 27, 28, 37, 29, 30, 31, 32, 33, 36, 34] (by decide +kernel) rfl
    refine lv_aload_n hx hb dX9_carriesAll_78 rfl (lv_at hl 0 rfl) ?_
    refine lv_aload_n hx hb dX9_carriesAll_79 rfl (lv_at hl 0 rfl) ?_
    refine va_get (D := D) (ci := 7) (v := .ref (va 30)) (C := RX9) (T := TX9) (N := 53) hx hb hts in9 hown hG.1 hP 0 rfl rfl 40 (by decide) (hts (.fieldLink RX9 103 "ChairCaneModel" "pastOf" "[I") (mem_b bq_wsX9_carriesAll 0 7 rfl)) (fun _ h9 => h9) rfl dX9_carriesAll_80 ?_
    refine lv_iconst (v := 0) hx hb dX9_carriesAll_83 (by decide) ?_
    refine va_iald hx hb hG.1 hP 30 0 rfl rfl (by unfold vp_in; decide) dX9_carriesAll_84 ?_
    refine va_put (D := D) (ci := 7) (v := .int (q8.2.2 (Int32.toNatClampNeg 0))) (C := RX9) (T := TX9) (N := 53) hx hb hts in9 tyX9 tyX9_ok nmX9 hown hG.1 hP hD hS 0 rfl rfl 41 (by decide) (hts (.fieldLink RX9 299 "ChairCaneModel" "pastMany" "I") (mem_b bq_wsX9_carriesAll 0 8 rfl)) (fun _ h9 => h9) rfl (tyX9_ok 41 (by decide)) rfl rfl (Nat.le_of_ble_eq_true rfl) dX9_carriesAll_85 (fun H locs hP hD hS => ?_)
    refine lv_aload_n hx hb dX9_carriesAll_88 rfl (lv_at hl 0 rfl) ?_
    refine lv_aload_n hx hb dX9_carriesAll_89 rfl (lv_at hl 0 rfl) ?_
    refine va_get (D := D) (ci := 7) (v := .ref (va 6)) (C := RX9) (T := TX9) (N := 53) hx hb hts in9 hown hG.1 hP 0 rfl rfl 6 (by decide) (hts (.fieldLink RX9 25 "ChairCaneModel" "height" "[I") (mem_b bq_wsX9_carriesAll 0 9 rfl)) (fun _ h9 => h9) rfl dX9_carriesAll_90 ?_
    obtain ⟨hP, hD⟩ := cv (w' := moW k va ((uF q8.1 41 (q8.2.2 (Int32.toNatClampNeg 0))), (uF (uF (uF (uF (uF (uF (uF mo.2.1 1 q2.2.2) 2 q3.2.2) 3 q4.2.2) 4 q5.2.2) 5 q6.2.2) 40 q8.2.2) 49 q8.2.1), mo.2.2)) hP hD rfl
    refine fw_Vv (As := [.ref (va 6)]) (rest := []) (n := 1) (wr := ([((va 1), hcI k 8 (((uF q8.1 41 (q8.2.2 (Int32.toNatClampNeg 0))), (uF (uF (uF (uF (uF (uF (uF mo.2.1 1 q2.2.2) 2 q3.2.2) 3 q4.2.2) 4 q5.2.2) 5 q6.2.2) 40 q8.2.2) 49 q8.2.1), mo.2.2).2.1 1)), ((va 2), hcI k 4 (((uF q8.1 41 (q8.2.2 (Int32.toNatClampNeg 0))), (uF (uF (uF (uF (uF (uF (uF mo.2.1 1 q2.2.2) 2 q3.2.2) 3 q4.2.2) 4 q5.2.2) 5 q6.2.2) 40 q8.2.2) 49 q8.2.1), mo.2.2).2.1 2)), ((va 3), hcI k 8 (((uF q8.1 41 (q8.2.2 (Int32.toNatClampNeg 0))), (uF (uF (uF (uF (uF (uF (uF mo.2.1 1 q2.2.2) 2 q3.2.2) 3 q4.2.2) 4 q5.2.2) 5 q6.2.2) 40 q8.2.2) 49 q8.2.1), mo.2.2).2.1 3)), ((va 4), hcI k 8 (((uF q8.1 41 (q8.2.2 (Int32.toNatClampNeg 0))), (uF (uF (uF (uF (uF (uF (uF mo.2.1 1 q2.2.2) 2 q3.2.2) 3 q4.2.2) 4 q5.2.2) 5 q6.2.2) 40 q8.2.2) 49 q8.2.1), mo.2.2).2.1 4)), ((va 5), hcI k 8 (((uF q8.1 41 (q8.2.2 (Int32.toNatClampNeg 0))), (uF (uF (uF (uF (uF (uF (uF mo.2.1 1 q2.2.2) 2 q3.2.2) 3 q4.2.2) 4 q5.2.2) 5 q6.2.2) 40 q8.2.2) 49 q8.2.1), mo.2.2).2.1 5)), ((va 7), hcI k 8 (((uF q8.1 41 (q8.2.2 (Int32.toNatClampNeg 0))), (uF (uF (uF (uF (uF (uF (uF mo.2.1 1 q2.2.2) 2 q3.2.2) 3 q4.2.2) 4 q5.2.2) 5 q6.2.2) 40 q8.2.2) 49 q8.2.1), mo.2.2).2.1 7)), ((va 8), hcI k 10 (((uF q8.1 41 (q8.2.2 (Int32.toNatClampNeg 0))), (uF (uF (uF (uF (uF (uF (uF mo.2.1 1 q2.2.2) 2 q3.2.2) 3 q4.2.2) 4 q5.2.2) 5 q6.2.2) 40 q8.2.2) 49 q8.2.1), mo.2.2).2.1 8)), ((va 9), hcI k 10 (((uF q8.1 41 (q8.2.2 (Int32.toNatClampNeg 0))), (uF (uF (uF (uF (uF (uF (uF mo.2.1 1 q2.2.2) 2 q3.2.2) 3 q4.2.2) 4 q5.2.2) 5 q6.2.2) 40 q8.2.2) 49 q8.2.1), mo.2.2).2.1 9)), ((va 10), hcI k 10 (((uF q8.1 41 (q8.2.2 (Int32.toNatClampNeg 0))), (uF (uF (uF (uF (uF (uF (uF mo.2.1 1 q2.2.2) 2 q3.2.2) 3 q4.2.2) 4 q5.2.2) 5 q6.2.2) 40 q8.2.2) 49 q8.2.1), mo.2.2).2.1 10)), ((va 11), hcI k 4 (((uF q8.1 41 (q8.2.2 (Int32.toNatClampNeg 0))), (uF (uF (uF (uF (uF (uF (uF mo.2.1 1 q2.2.2) 2 q3.2.2) 3 q4.2.2) 4 q5.2.2) 5 q6.2.2) 40 q8.2.2) 49 q8.2.1), mo.2.2).2.1 11)), ((va 12), hcI k 4 (((uF q8.1 41 (q8.2.2 (Int32.toNatClampNeg 0))), (uF (uF (uF (uF (uF (uF (uF mo.2.1 1 q2.2.2) 2 q3.2.2) 3 q4.2.2) 4 q5.2.2) 5 q6.2.2) 40 q8.2.2) 49 q8.2.1), mo.2.2).2.1 12)), ((va 13), hcI k 4 (((uF q8.1 41 (q8.2.2 (Int32.toNatClampNeg 0))), (uF (uF (uF (uF (uF (uF (uF mo.2.1 1 q2.2.2) 2 q3.2.2) 3 q4.2.2) 4 q5.2.2) 5 q6.2.2) 40 q8.2.2) 49 q8.2.1), mo.2.2).2.1 13)), ((va 14), hcI k 8 (((uF q8.1 41 (q8.2.2 (Int32.toNatClampNeg 0))), (uF (uF (uF (uF (uF (uF (uF mo.2.1 1 q2.2.2) 2 q3.2.2) 3 q4.2.2) 4 q5.2.2) 5 q6.2.2) 40 q8.2.2) 49 q8.2.1), mo.2.2).2.1 14)), ((va 15), hcI k 8 (((uF q8.1 41 (q8.2.2 (Int32.toNatClampNeg 0))), (uF (uF (uF (uF (uF (uF (uF mo.2.1 1 q2.2.2) 2 q3.2.2) 3 q4.2.2) 4 q5.2.2) 5 q6.2.2) 40 q8.2.2) 49 q8.2.1), mo.2.2).2.1 15)), ((va 16), hcI k 8 (((uF q8.1 41 (q8.2.2 (Int32.toNatClampNeg 0))), (uF (uF (uF (uF (uF (uF (uF mo.2.1 1 q2.2.2) 2 q3.2.2) 3 q4.2.2) 4 q5.2.2) 5 q6.2.2) 40 q8.2.2) 49 q8.2.1), mo.2.2).2.1 16)), ((va 17), hcI k 8 (((uF q8.1 41 (q8.2.2 (Int32.toNatClampNeg 0))), (uF (uF (uF (uF (uF (uF (uF mo.2.1 1 q2.2.2) 2 q3.2.2) 3 q4.2.2) 4 q5.2.2) 5 q6.2.2) 40 q8.2.2) 49 q8.2.1), mo.2.2).2.1 17)), ((va 18), hcY k 400 (((uF q8.1 41 (q8.2.2 (Int32.toNatClampNeg 0))), (uF (uF (uF (uF (uF (uF (uF mo.2.1 1 q2.2.2) 2 q3.2.2) 3 q4.2.2) 4 q5.2.2) 5 q6.2.2) 40 q8.2.2) 49 q8.2.1), mo.2.2).2.1 28)), ((va 19), hcI k 1800 (((uF q8.1 41 (q8.2.2 (Int32.toNatClampNeg 0))), (uF (uF (uF (uF (uF (uF (uF mo.2.1 1 q2.2.2) 2 q3.2.2) 3 q4.2.2) 4 q5.2.2) 5 q6.2.2) 40 q8.2.2) 49 q8.2.1), mo.2.2).2.1 29)), ((va 20), hcI k 1800 (((uF q8.1 41 (q8.2.2 (Int32.toNatClampNeg 0))), (uF (uF (uF (uF (uF (uF (uF mo.2.1 1 q2.2.2) 2 q3.2.2) 3 q4.2.2) 4 q5.2.2) 5 q6.2.2) 40 q8.2.2) 49 q8.2.1), mo.2.2).2.1 30)), ((va 21), hcI k 6 (((uF q8.1 41 (q8.2.2 (Int32.toNatClampNeg 0))), (uF (uF (uF (uF (uF (uF (uF mo.2.1 1 q2.2.2) 2 q3.2.2) 3 q4.2.2) 4 q5.2.2) 5 q6.2.2) 40 q8.2.2) 49 q8.2.1), mo.2.2).2.1 31)), ((va 22), hcI k 72 (((uF q8.1 41 (q8.2.2 (Int32.toNatClampNeg 0))), (uF (uF (uF (uF (uF (uF (uF mo.2.1 1 q2.2.2) 2 q3.2.2) 3 q4.2.2) 4 q5.2.2) 5 q6.2.2) 40 q8.2.2) 49 q8.2.1), mo.2.2).2.1 32)), ((va 23), hcI k 72 (((uF q8.1 41 (q8.2.2 (Int32.toNatClampNeg 0))), (uF (uF (uF (uF (uF (uF (uF mo.2.1 1 q2.2.2) 2 q3.2.2) 3 q4.2.2) 4 q5.2.2) 5 q6.2.2) 40 q8.2.2) 49 q8.2.1), mo.2.2).2.1 33)), ((va 24), hcI k 72 (((uF q8.1 41 (q8.2.2 (Int32.toNatClampNeg 0))), (uF (uF (uF (uF (uF (uF (uF mo.2.1 1 q2.2.2) 2 q3.2.2) 3 q4.2.2) 4 q5.2.2) 5 q6.2.2) 40 q8.2.2) 49 q8.2.1), mo.2.2).2.1 34)), ((va 25), hcI k 402 (((uF q8.1 41 (q8.2.2 (Int32.toNatClampNeg 0))), (uF (uF (uF (uF (uF (uF (uF mo.2.1 1 q2.2.2) 2 q3.2.2) 3 q4.2.2) 4 q5.2.2) 5 q6.2.2) 40 q8.2.2) 49 q8.2.1), mo.2.2).2.1 35)), ((va 26), hcJ k 11 (((uF q8.1 41 (q8.2.2 (Int32.toNatClampNeg 0))), (uF (uF (uF (uF (uF (uF (uF mo.2.1 1 q2.2.2) 2 q3.2.2) 3 q4.2.2) 4 q5.2.2) 5 q6.2.2) 40 q8.2.2) 49 q8.2.1), mo.2.2).2.2 36)), ((va 27), hcJ k 300 (((uF q8.1 41 (q8.2.2 (Int32.toNatClampNeg 0))), (uF (uF (uF (uF (uF (uF (uF mo.2.1 1 q2.2.2) 2 q3.2.2) 3 q4.2.2) 4 q5.2.2) 5 q6.2.2) 40 q8.2.2) 49 q8.2.1), mo.2.2).2.2 37)), ((va 28), hcI k 8 (((uF q8.1 41 (q8.2.2 (Int32.toNatClampNeg 0))), (uF (uF (uF (uF (uF (uF (uF mo.2.1 1 q2.2.2) 2 q3.2.2) 3 q4.2.2) 4 q5.2.2) 5 q6.2.2) 40 q8.2.2) 49 q8.2.1), mo.2.2).2.1 38)), ((va 29), hcI k 260 (((uF q8.1 41 (q8.2.2 (Int32.toNatClampNeg 0))), (uF (uF (uF (uF (uF (uF (uF mo.2.1 1 q2.2.2) 2 q3.2.2) 3 q4.2.2) 4 q5.2.2) 5 q6.2.2) 40 q8.2.2) 49 q8.2.1), mo.2.2).2.1 39)), ((va 30), hcI k 1 (((uF q8.1 41 (q8.2.2 (Int32.toNatClampNeg 0))), (uF (uF (uF (uF (uF (uF (uF mo.2.1 1 q2.2.2) 2 q3.2.2) 3 q4.2.2) 4 q5.2.2) 5 q6.2.2) 40 q8.2.2) 49 q8.2.1), mo.2.2).2.1 40)), ((va 31), hcZ k 256 (((uF q8.1 41 (q8.2.2 (Int32.toNatClampNeg 0))), (uF (uF (uF (uF (uF (uF (uF mo.2.1 1 q2.2.2) 2 q3.2.2) 3 q4.2.2) 4 q5.2.2) 5 q6.2.2) 40 q8.2.2) 49 q8.2.1), mo.2.2).2.1 44)), ((va 32), hcI k 4 (((uF q8.1 41 (q8.2.2 (Int32.toNatClampNeg 0))), (uF (uF (uF (uF (uF (uF (uF mo.2.1 1 q2.2.2) 2 q3.2.2) 3 q4.2.2) 4 q5.2.2) 5 q6.2.2) 40 q8.2.2) 49 q8.2.1), mo.2.2).2.1 45)), ((va 33), hcI k 4 (((uF q8.1 41 (q8.2.2 (Int32.toNatClampNeg 0))), (uF (uF (uF (uF (uF (uF (uF mo.2.1 1 q2.2.2) 2 q3.2.2) 3 q4.2.2) 4 q5.2.2) 5 q6.2.2) 40 q8.2.2) 49 q8.2.1), mo.2.2).2.1 46)), ((va 34), hcI k 488 (((uF q8.1 41 (q8.2.2 (Int32.toNatClampNeg 0))), (uF (uF (uF (uF (uF (uF (uF mo.2.1 1 q2.2.2) 2 q3.2.2) 3 q4.2.2) 4 q5.2.2) 5 q6.2.2) 40 q8.2.2) 49 q8.2.1), mo.2.2).2.1 47)), ((va 35), hcI k 56 (((uF q8.1 41 (q8.2.2 (Int32.toNatClampNeg 0))), (uF (uF (uF (uF (uF (uF (uF mo.2.1 1 q2.2.2) 2 q3.2.2) 3 q4.2.2) 4 q5.2.2) 5 q6.2.2) 40 q8.2.2) 49 q8.2.1), mo.2.2).2.1 48)), ((va 37), hcZ k 4 (((uF q8.1 41 (q8.2.2 (Int32.toNatClampNeg 0))), (uF (uF (uF (uF (uF (uF (uF mo.2.1 1 q2.2.2) 2 q3.2.2) 3 q4.2.2) 4 q5.2.2) 5 q6.2.2) 40 q8.2.2) 49 q8.2.1), mo.2.2).2.1 50))] : va_W)) (wp := fun b : (Nat → Int32) × (Nat → Int32) × (Nat → Int32) => ([((va 0), .inr (7, [.int (b.1 0), .ref (va 1), .ref (va 2), .ref (va 3), .ref (va 4), .ref (va 5), .ref (va 6), .ref (va 7), .ref (va 8), .ref (va 9), .ref (va 10), .ref (va 11), .ref (va 12), .ref (va 13), .ref (va 14), .ref (va 15), .ref (va 16), .ref (va 17), .int (b.1 18), .int (b.1 19), .int (b.1 20), .int (b.1 21), .int (b.1 22), .int (b.1 23), .int (b.1 24), .int (b.1 25), .int (b.1 26), .int (b.1 27), .ref (va 18), .ref (va 19), .ref (va 20), .ref (va 21), .ref (va 22), .ref (va 23), .ref (va 24), .ref (va 25), .ref (va 26), .ref (va 27), .ref (va 28), .ref (va 29), .ref (va 30), .int (b.1 41), .int (b.1 42), .int (b.1 43), .ref (va 31), .ref (va 32), .ref (va 33), .ref (va 34), .ref (va 35), .ref (va 36), .ref (va 37), .int (b.1 51), .int (b.1 52)]))] : va_W) ++ (([((va 36), hcI k 2000 b.2.1)] : va_W) ++ (([((va 6), hcI k 8 b.2.2)] : va_W)))) h hx hb hml hown hts hG hA hP hD hS hl.1 [0, 36, 6] [1, 2, 3, 4, 5, 7, 8, 9, 10, 11, 12, 13, 14, 15, 16, 17, 18, 19, 20, 21, 22, 23, 24, 25, 26, 27, 28, 29, 30, 31, 32, 33, 34, 35, 37] (fun q hq9 => c_X9_carryRow l D k _  va (va 6) F 8 (uF q8.1 41 (q8.2.2 (Int32.toNatClampNeg 0))) q8.2.1 (mo.2.1 6)  hq9) (ci := 7) (q0 := 0) rfl rfl gX9_carriesAll_X9_carryRow rfl ⟨rfl, rfl, Nat.le_of_ble_eq_true rfl, Nat.le_of_ble_eq_true rfl⟩ (by decide +kernel) rfl rfl ⟨by decide +kernel, by decide +kernel, by decide +kernel⟩ ⟨rfl, rfl, Nat.le_of_ble_eq_true rfl, Nat.le_of_ble_eq_true rfl, Nat.le_of_ble_eq_true rfl⟩ dX9_carriesAll_93 (fun q9 H locs h hP hD hS => ?_)
    obtain ⟨hP, hD⟩ := cvs (w' := moW k va (q9.1, (uF (uF (uF (uF (uF (uF (uF (uF mo.2.1 1 q2.2.2) 2 q3.2.2) 3 q4.2.2) 4 q5.2.2) 5 q6.2.2) 6 q9.2.2) 40 q8.2.2) 49 q9.2.1), mo.2.2)) hP hD [35, 0, 1, 2, 3, 4, 37, 5, 6, 7, 8, 9, 10, 11, 12, 13, 14, 15, 16, 17, 18, 19, 20, 21, 22, 23, 24, 25, 26, 27, 28, 29, 30, 31, 32, 33, 36, 34] (by decide +kernel) rfl
    refine lv_aload_n hx hb dX9_carriesAll_96 rfl (lv_at hl 0 rfl) ?_
    refine lv_aload_n hx hb dX9_carriesAll_97 rfl (lv_at hl 0 rfl) ?_
    refine va_get (D := D) (ci := 7) (v := .ref (va 7)) (C := RX9) (T := TX9) (N := 53) hx hb hts in9 hown hG.1 hP 0 rfl rfl 7 (by decide) (hts (.fieldLink RX9 28 "ChairCaneModel" "chairOf" "[I") (mem_b bq_wsX9_carriesAll 0 10 rfl)) (fun _ h9 => h9) rfl dX9_carriesAll_98 ?_
    refine fw_Vv (As := [.ref (va 7)]) (rest := []) (n := 1) (wr := ([((va 1), hcI k 8 ((q9.1, (uF (uF (uF (uF (uF (uF (uF (uF mo.2.1 1 q2.2.2) 2 q3.2.2) 3 q4.2.2) 4 q5.2.2) 5 q6.2.2) 6 q9.2.2) 40 q8.2.2) 49 q9.2.1), mo.2.2).2.1 1)), ((va 2), hcI k 4 ((q9.1, (uF (uF (uF (uF (uF (uF (uF (uF mo.2.1 1 q2.2.2) 2 q3.2.2) 3 q4.2.2) 4 q5.2.2) 5 q6.2.2) 6 q9.2.2) 40 q8.2.2) 49 q9.2.1), mo.2.2).2.1 2)), ((va 3), hcI k 8 ((q9.1, (uF (uF (uF (uF (uF (uF (uF (uF mo.2.1 1 q2.2.2) 2 q3.2.2) 3 q4.2.2) 4 q5.2.2) 5 q6.2.2) 6 q9.2.2) 40 q8.2.2) 49 q9.2.1), mo.2.2).2.1 3)), ((va 4), hcI k 8 ((q9.1, (uF (uF (uF (uF (uF (uF (uF (uF mo.2.1 1 q2.2.2) 2 q3.2.2) 3 q4.2.2) 4 q5.2.2) 5 q6.2.2) 6 q9.2.2) 40 q8.2.2) 49 q9.2.1), mo.2.2).2.1 4)), ((va 5), hcI k 8 ((q9.1, (uF (uF (uF (uF (uF (uF (uF (uF mo.2.1 1 q2.2.2) 2 q3.2.2) 3 q4.2.2) 4 q5.2.2) 5 q6.2.2) 6 q9.2.2) 40 q8.2.2) 49 q9.2.1), mo.2.2).2.1 5)), ((va 6), hcI k 8 ((q9.1, (uF (uF (uF (uF (uF (uF (uF (uF mo.2.1 1 q2.2.2) 2 q3.2.2) 3 q4.2.2) 4 q5.2.2) 5 q6.2.2) 6 q9.2.2) 40 q8.2.2) 49 q9.2.1), mo.2.2).2.1 6)), ((va 8), hcI k 10 ((q9.1, (uF (uF (uF (uF (uF (uF (uF (uF mo.2.1 1 q2.2.2) 2 q3.2.2) 3 q4.2.2) 4 q5.2.2) 5 q6.2.2) 6 q9.2.2) 40 q8.2.2) 49 q9.2.1), mo.2.2).2.1 8)), ((va 9), hcI k 10 ((q9.1, (uF (uF (uF (uF (uF (uF (uF (uF mo.2.1 1 q2.2.2) 2 q3.2.2) 3 q4.2.2) 4 q5.2.2) 5 q6.2.2) 6 q9.2.2) 40 q8.2.2) 49 q9.2.1), mo.2.2).2.1 9)), ((va 10), hcI k 10 ((q9.1, (uF (uF (uF (uF (uF (uF (uF (uF mo.2.1 1 q2.2.2) 2 q3.2.2) 3 q4.2.2) 4 q5.2.2) 5 q6.2.2) 6 q9.2.2) 40 q8.2.2) 49 q9.2.1), mo.2.2).2.1 10)), ((va 11), hcI k 4 ((q9.1, (uF (uF (uF (uF (uF (uF (uF (uF mo.2.1 1 q2.2.2) 2 q3.2.2) 3 q4.2.2) 4 q5.2.2) 5 q6.2.2) 6 q9.2.2) 40 q8.2.2) 49 q9.2.1), mo.2.2).2.1 11)), ((va 12), hcI k 4 ((q9.1, (uF (uF (uF (uF (uF (uF (uF (uF mo.2.1 1 q2.2.2) 2 q3.2.2) 3 q4.2.2) 4 q5.2.2) 5 q6.2.2) 6 q9.2.2) 40 q8.2.2) 49 q9.2.1), mo.2.2).2.1 12)), ((va 13), hcI k 4 ((q9.1, (uF (uF (uF (uF (uF (uF (uF (uF mo.2.1 1 q2.2.2) 2 q3.2.2) 3 q4.2.2) 4 q5.2.2) 5 q6.2.2) 6 q9.2.2) 40 q8.2.2) 49 q9.2.1), mo.2.2).2.1 13)), ((va 14), hcI k 8 ((q9.1, (uF (uF (uF (uF (uF (uF (uF (uF mo.2.1 1 q2.2.2) 2 q3.2.2) 3 q4.2.2) 4 q5.2.2) 5 q6.2.2) 6 q9.2.2) 40 q8.2.2) 49 q9.2.1), mo.2.2).2.1 14)), ((va 15), hcI k 8 ((q9.1, (uF (uF (uF (uF (uF (uF (uF (uF mo.2.1 1 q2.2.2) 2 q3.2.2) 3 q4.2.2) 4 q5.2.2) 5 q6.2.2) 6 q9.2.2) 40 q8.2.2) 49 q9.2.1), mo.2.2).2.1 15)), ((va 16), hcI k 8 ((q9.1, (uF (uF (uF (uF (uF (uF (uF (uF mo.2.1 1 q2.2.2) 2 q3.2.2) 3 q4.2.2) 4 q5.2.2) 5 q6.2.2) 6 q9.2.2) 40 q8.2.2) 49 q9.2.1), mo.2.2).2.1 16)), ((va 17), hcI k 8 ((q9.1, (uF (uF (uF (uF (uF (uF (uF (uF mo.2.1 1 q2.2.2) 2 q3.2.2) 3 q4.2.2) 4 q5.2.2) 5 q6.2.2) 6 q9.2.2) 40 q8.2.2) 49 q9.2.1), mo.2.2).2.1 17)), ((va 18), hcY k 400 ((q9.1, (uF (uF (uF (uF (uF (uF (uF (uF mo.2.1 1 q2.2.2) 2 q3.2.2) 3 q4.2.2) 4 q5.2.2) 5 q6.2.2) 6 q9.2.2) 40 q8.2.2) 49 q9.2.1), mo.2.2).2.1 28)), ((va 19), hcI k 1800 ((q9.1, (uF (uF (uF (uF (uF (uF (uF (uF mo.2.1 1 q2.2.2) 2 q3.2.2) 3 q4.2.2) 4 q5.2.2) 5 q6.2.2) 6 q9.2.2) 40 q8.2.2) 49 q9.2.1), mo.2.2).2.1 29)), ((va 20), hcI k 1800 ((q9.1, (uF (uF (uF (uF (uF (uF (uF (uF mo.2.1 1 q2.2.2) 2 q3.2.2) 3 q4.2.2) 4 q5.2.2) 5 q6.2.2) 6 q9.2.2) 40 q8.2.2) 49 q9.2.1), mo.2.2).2.1 30)), ((va 21), hcI k 6 ((q9.1, (uF (uF (uF (uF (uF (uF (uF (uF mo.2.1 1 q2.2.2) 2 q3.2.2) 3 q4.2.2) 4 q5.2.2) 5 q6.2.2) 6 q9.2.2) 40 q8.2.2) 49 q9.2.1), mo.2.2).2.1 31)), ((va 22), hcI k 72 ((q9.1, (uF (uF (uF (uF (uF (uF (uF (uF mo.2.1 1 q2.2.2) 2 q3.2.2) 3 q4.2.2) 4 q5.2.2) 5 q6.2.2) 6 q9.2.2) 40 q8.2.2) 49 q9.2.1), mo.2.2).2.1 32)), ((va 23), hcI k 72 ((q9.1, (uF (uF (uF (uF (uF (uF (uF (uF mo.2.1 1 q2.2.2) 2 q3.2.2) 3 q4.2.2) 4 q5.2.2) 5 q6.2.2) 6 q9.2.2) 40 q8.2.2) 49 q9.2.1), mo.2.2).2.1 33)), ((va 24), hcI k 72 ((q9.1, (uF (uF (uF (uF (uF (uF (uF (uF mo.2.1 1 q2.2.2) 2 q3.2.2) 3 q4.2.2) 4 q5.2.2) 5 q6.2.2) 6 q9.2.2) 40 q8.2.2) 49 q9.2.1), mo.2.2).2.1 34)), ((va 25), hcI k 402 ((q9.1, (uF (uF (uF (uF (uF (uF (uF (uF mo.2.1 1 q2.2.2) 2 q3.2.2) 3 q4.2.2) 4 q5.2.2) 5 q6.2.2) 6 q9.2.2) 40 q8.2.2) 49 q9.2.1), mo.2.2).2.1 35)), ((va 26), hcJ k 11 ((q9.1, (uF (uF (uF (uF (uF (uF (uF (uF mo.2.1 1 q2.2.2) 2 q3.2.2) 3 q4.2.2) 4 q5.2.2) 5 q6.2.2) 6 q9.2.2) 40 q8.2.2) 49 q9.2.1), mo.2.2).2.2 36)), ((va 27), hcJ k 300 ((q9.1, (uF (uF (uF (uF (uF (uF (uF (uF mo.2.1 1 q2.2.2) 2 q3.2.2) 3 q4.2.2) 4 q5.2.2) 5 q6.2.2) 6 q9.2.2) 40 q8.2.2) 49 q9.2.1), mo.2.2).2.2 37)), ((va 28), hcI k 8 ((q9.1, (uF (uF (uF (uF (uF (uF (uF (uF mo.2.1 1 q2.2.2) 2 q3.2.2) 3 q4.2.2) 4 q5.2.2) 5 q6.2.2) 6 q9.2.2) 40 q8.2.2) 49 q9.2.1), mo.2.2).2.1 38)), ((va 29), hcI k 260 ((q9.1, (uF (uF (uF (uF (uF (uF (uF (uF mo.2.1 1 q2.2.2) 2 q3.2.2) 3 q4.2.2) 4 q5.2.2) 5 q6.2.2) 6 q9.2.2) 40 q8.2.2) 49 q9.2.1), mo.2.2).2.1 39)), ((va 30), hcI k 1 ((q9.1, (uF (uF (uF (uF (uF (uF (uF (uF mo.2.1 1 q2.2.2) 2 q3.2.2) 3 q4.2.2) 4 q5.2.2) 5 q6.2.2) 6 q9.2.2) 40 q8.2.2) 49 q9.2.1), mo.2.2).2.1 40)), ((va 31), hcZ k 256 ((q9.1, (uF (uF (uF (uF (uF (uF (uF (uF mo.2.1 1 q2.2.2) 2 q3.2.2) 3 q4.2.2) 4 q5.2.2) 5 q6.2.2) 6 q9.2.2) 40 q8.2.2) 49 q9.2.1), mo.2.2).2.1 44)), ((va 32), hcI k 4 ((q9.1, (uF (uF (uF (uF (uF (uF (uF (uF mo.2.1 1 q2.2.2) 2 q3.2.2) 3 q4.2.2) 4 q5.2.2) 5 q6.2.2) 6 q9.2.2) 40 q8.2.2) 49 q9.2.1), mo.2.2).2.1 45)), ((va 33), hcI k 4 ((q9.1, (uF (uF (uF (uF (uF (uF (uF (uF mo.2.1 1 q2.2.2) 2 q3.2.2) 3 q4.2.2) 4 q5.2.2) 5 q6.2.2) 6 q9.2.2) 40 q8.2.2) 49 q9.2.1), mo.2.2).2.1 46)), ((va 34), hcI k 488 ((q9.1, (uF (uF (uF (uF (uF (uF (uF (uF mo.2.1 1 q2.2.2) 2 q3.2.2) 3 q4.2.2) 4 q5.2.2) 5 q6.2.2) 6 q9.2.2) 40 q8.2.2) 49 q9.2.1), mo.2.2).2.1 47)), ((va 35), hcI k 56 ((q9.1, (uF (uF (uF (uF (uF (uF (uF (uF mo.2.1 1 q2.2.2) 2 q3.2.2) 3 q4.2.2) 4 q5.2.2) 5 q6.2.2) 6 q9.2.2) 40 q8.2.2) 49 q9.2.1), mo.2.2).2.1 48)), ((va 37), hcZ k 4 ((q9.1, (uF (uF (uF (uF (uF (uF (uF (uF mo.2.1 1 q2.2.2) 2 q3.2.2) 3 q4.2.2) 4 q5.2.2) 5 q6.2.2) 6 q9.2.2) 40 q8.2.2) 49 q9.2.1), mo.2.2).2.1 50))] : va_W)) (wp := fun b : (Nat → Int32) × (Nat → Int32) × (Nat → Int32) => ([((va 0), .inr (7, [.int (b.1 0), .ref (va 1), .ref (va 2), .ref (va 3), .ref (va 4), .ref (va 5), .ref (va 6), .ref (va 7), .ref (va 8), .ref (va 9), .ref (va 10), .ref (va 11), .ref (va 12), .ref (va 13), .ref (va 14), .ref (va 15), .ref (va 16), .ref (va 17), .int (b.1 18), .int (b.1 19), .int (b.1 20), .int (b.1 21), .int (b.1 22), .int (b.1 23), .int (b.1 24), .int (b.1 25), .int (b.1 26), .int (b.1 27), .ref (va 18), .ref (va 19), .ref (va 20), .ref (va 21), .ref (va 22), .ref (va 23), .ref (va 24), .ref (va 25), .ref (va 26), .ref (va 27), .ref (va 28), .ref (va 29), .ref (va 30), .int (b.1 41), .int (b.1 42), .int (b.1 43), .ref (va 31), .ref (va 32), .ref (va 33), .ref (va 34), .ref (va 35), .ref (va 36), .ref (va 37), .int (b.1 51), .int (b.1 52)]))] : va_W) ++ (([((va 36), hcI k 2000 b.2.1)] : va_W) ++ (([((va 7), hcI k 8 b.2.2)] : va_W)))) h hx hb hml hown hts hG hA hP hD hS hl.1 [0, 36, 7] [1, 2, 3, 4, 5, 6, 8, 9, 10, 11, 12, 13, 14, 15, 16, 17, 18, 19, 20, 21, 22, 23, 24, 25, 26, 27, 28, 29, 30, 31, 32, 33, 34, 35, 37] (fun q hq9 => c_X9_carryRow l D k _  va (va 7) F 8 q9.1 q9.2.1 (mo.2.1 7)  hq9) (ci := 7) (q0 := 0) rfl rfl gX9_carriesAll_X9_carryRow rfl ⟨rfl, rfl, Nat.le_of_ble_eq_true rfl, Nat.le_of_ble_eq_true rfl⟩ (by decide +kernel) rfl rfl ⟨by decide +kernel, by decide +kernel, by decide +kernel⟩ ⟨rfl, rfl, Nat.le_of_ble_eq_true rfl, Nat.le_of_ble_eq_true rfl, Nat.le_of_ble_eq_true rfl⟩ dX9_carriesAll_101 (fun q10 H locs h hP hD hS => ?_)
    obtain ⟨hP, hD⟩ := cvs (w' := moW k va (q10.1, (uF (uF (uF (uF (uF (uF (uF (uF (uF mo.2.1 1 q2.2.2) 2 q3.2.2) 3 q4.2.2) 4 q5.2.2) 5 q6.2.2) 6 q9.2.2) 7 q10.2.2) 40 q8.2.2) 49 q10.2.1), mo.2.2)) hP hD [35, 0, 1, 2, 3, 4, 5, 37, 6, 7, 8, 9, 10, 11, 12, 13, 14, 15, 16, 17, 18, 19, 20, 21, 22, 23, 24, 25, 26, 27, 28, 29, 30, 31, 32, 33, 36, 34] (by decide +kernel) rfl
    refine lv_aload_n hx hb dX9_carriesAll_104 rfl (lv_at hl 0 rfl) ?_
    refine lv_aload_n hx hb dX9_carriesAll_105 rfl (lv_at hl 0 rfl) ?_
    refine va_get (D := D) (ci := 7) (v := .ref (va 8)) (C := RX9) (T := TX9) (N := 53) hx hb hts in9 hown hG.1 hP 0 rfl rfl 8 (by decide) (hts (.fieldLink RX9 31 "ChairCaneModel" "noteMinute" "[I") (mem_b bq_wsX9_carriesAll 0 11 rfl)) (fun _ h9 => h9) rfl dX9_carriesAll_106 ?_
    refine fw_Vv (As := [.ref (va 8)]) (rest := []) (n := 1) (wr := ([((va 1), hcI k 8 ((q10.1, (uF (uF (uF (uF (uF (uF (uF (uF (uF mo.2.1 1 q2.2.2) 2 q3.2.2) 3 q4.2.2) 4 q5.2.2) 5 q6.2.2) 6 q9.2.2) 7 q10.2.2) 40 q8.2.2) 49 q10.2.1), mo.2.2).2.1 1)), ((va 2), hcI k 4 ((q10.1, (uF (uF (uF (uF (uF (uF (uF (uF (uF mo.2.1 1 q2.2.2) 2 q3.2.2) 3 q4.2.2) 4 q5.2.2) 5 q6.2.2) 6 q9.2.2) 7 q10.2.2) 40 q8.2.2) 49 q10.2.1), mo.2.2).2.1 2)), ((va 3), hcI k 8 ((q10.1, (uF (uF (uF (uF (uF (uF (uF (uF (uF mo.2.1 1 q2.2.2) 2 q3.2.2) 3 q4.2.2) 4 q5.2.2) 5 q6.2.2) 6 q9.2.2) 7 q10.2.2) 40 q8.2.2) 49 q10.2.1), mo.2.2).2.1 3)), ((va 4), hcI k 8 ((q10.1, (uF (uF (uF (uF (uF (uF (uF (uF (uF mo.2.1 1 q2.2.2) 2 q3.2.2) 3 q4.2.2) 4 q5.2.2) 5 q6.2.2) 6 q9.2.2) 7 q10.2.2) 40 q8.2.2) 49 q10.2.1), mo.2.2).2.1 4)), ((va 5), hcI k 8 ((q10.1, (uF (uF (uF (uF (uF (uF (uF (uF (uF mo.2.1 1 q2.2.2) 2 q3.2.2) 3 q4.2.2) 4 q5.2.2) 5 q6.2.2) 6 q9.2.2) 7 q10.2.2) 40 q8.2.2) 49 q10.2.1), mo.2.2).2.1 5)), ((va 6), hcI k 8 ((q10.1, (uF (uF (uF (uF (uF (uF (uF (uF (uF mo.2.1 1 q2.2.2) 2 q3.2.2) 3 q4.2.2) 4 q5.2.2) 5 q6.2.2) 6 q9.2.2) 7 q10.2.2) 40 q8.2.2) 49 q10.2.1), mo.2.2).2.1 6)), ((va 7), hcI k 8 ((q10.1, (uF (uF (uF (uF (uF (uF (uF (uF (uF mo.2.1 1 q2.2.2) 2 q3.2.2) 3 q4.2.2) 4 q5.2.2) 5 q6.2.2) 6 q9.2.2) 7 q10.2.2) 40 q8.2.2) 49 q10.2.1), mo.2.2).2.1 7)), ((va 9), hcI k 10 ((q10.1, (uF (uF (uF (uF (uF (uF (uF (uF (uF mo.2.1 1 q2.2.2) 2 q3.2.2) 3 q4.2.2) 4 q5.2.2) 5 q6.2.2) 6 q9.2.2) 7 q10.2.2) 40 q8.2.2) 49 q10.2.1), mo.2.2).2.1 9)), ((va 10), hcI k 10 ((q10.1, (uF (uF (uF (uF (uF (uF (uF (uF (uF mo.2.1 1 q2.2.2) 2 q3.2.2) 3 q4.2.2) 4 q5.2.2) 5 q6.2.2) 6 q9.2.2) 7 q10.2.2) 40 q8.2.2) 49 q10.2.1), mo.2.2).2.1 10)), ((va 11), hcI k 4 ((q10.1, (uF (uF (uF (uF (uF (uF (uF (uF (uF mo.2.1 1 q2.2.2) 2 q3.2.2) 3 q4.2.2) 4 q5.2.2) 5 q6.2.2) 6 q9.2.2) 7 q10.2.2) 40 q8.2.2) 49 q10.2.1), mo.2.2).2.1 11)), ((va 12), hcI k 4 ((q10.1, (uF (uF (uF (uF (uF (uF (uF (uF (uF mo.2.1 1 q2.2.2) 2 q3.2.2) 3 q4.2.2) 4 q5.2.2) 5 q6.2.2) 6 q9.2.2) 7 q10.2.2) 40 q8.2.2) 49 q10.2.1), mo.2.2).2.1 12)), ((va 13), hcI k 4 ((q10.1, (uF (uF (uF (uF (uF (uF (uF (uF (uF mo.2.1 1 q2.2.2) 2 q3.2.2) 3 q4.2.2) 4 q5.2.2) 5 q6.2.2) 6 q9.2.2) 7 q10.2.2) 40 q8.2.2) 49 q10.2.1), mo.2.2).2.1 13)), ((va 14), hcI k 8 ((q10.1, (uF (uF (uF (uF (uF (uF (uF (uF (uF mo.2.1 1 q2.2.2) 2 q3.2.2) 3 q4.2.2) 4 q5.2.2) 5 q6.2.2) 6 q9.2.2) 7 q10.2.2) 40 q8.2.2) 49 q10.2.1), mo.2.2).2.1 14)), ((va 15), hcI k 8 ((q10.1, (uF (uF (uF (uF (uF (uF (uF (uF (uF mo.2.1 1 q2.2.2) 2 q3.2.2) 3 q4.2.2) 4 q5.2.2) 5 q6.2.2) 6 q9.2.2) 7 q10.2.2) 40 q8.2.2) 49 q10.2.1), mo.2.2).2.1 15)), ((va 16), hcI k 8 ((q10.1, (uF (uF (uF (uF (uF (uF (uF (uF (uF mo.2.1 1 q2.2.2) 2 q3.2.2) 3 q4.2.2) 4 q5.2.2) 5 q6.2.2) 6 q9.2.2) 7 q10.2.2) 40 q8.2.2) 49 q10.2.1), mo.2.2).2.1 16)), ((va 17), hcI k 8 ((q10.1, (uF (uF (uF (uF (uF (uF (uF (uF (uF mo.2.1 1 q2.2.2) 2 q3.2.2) 3 q4.2.2) 4 q5.2.2) 5 q6.2.2) 6 q9.2.2) 7 q10.2.2) 40 q8.2.2) 49 q10.2.1), mo.2.2).2.1 17)), ((va 18), hcY k 400 ((q10.1, (uF (uF (uF (uF (uF (uF (uF (uF (uF mo.2.1 1 q2.2.2) 2 q3.2.2) 3 q4.2.2) 4 q5.2.2) 5 q6.2.2) 6 q9.2.2) 7 q10.2.2) 40 q8.2.2) 49 q10.2.1), mo.2.2).2.1 28)), ((va 19), hcI k 1800 ((q10.1, (uF (uF (uF (uF (uF (uF (uF (uF (uF mo.2.1 1 q2.2.2) 2 q3.2.2) 3 q4.2.2) 4 q5.2.2) 5 q6.2.2) 6 q9.2.2) 7 q10.2.2) 40 q8.2.2) 49 q10.2.1), mo.2.2).2.1 29)), ((va 20), hcI k 1800 ((q10.1, (uF (uF (uF (uF (uF (uF (uF (uF (uF mo.2.1 1 q2.2.2) 2 q3.2.2) 3 q4.2.2) 4 q5.2.2) 5 q6.2.2) 6 q9.2.2) 7 q10.2.2) 40 q8.2.2) 49 q10.2.1), mo.2.2).2.1 30)), ((va 21), hcI k 6 ((q10.1, (uF (uF (uF (uF (uF (uF (uF (uF (uF mo.2.1 1 q2.2.2) 2 q3.2.2) 3 q4.2.2) 4 q5.2.2) 5 q6.2.2) 6 q9.2.2) 7 q10.2.2) 40 q8.2.2) 49 q10.2.1), mo.2.2).2.1 31)), ((va 22), hcI k 72 ((q10.1, (uF (uF (uF (uF (uF (uF (uF (uF (uF mo.2.1 1 q2.2.2) 2 q3.2.2) 3 q4.2.2) 4 q5.2.2) 5 q6.2.2) 6 q9.2.2) 7 q10.2.2) 40 q8.2.2) 49 q10.2.1), mo.2.2).2.1 32)), ((va 23), hcI k 72 ((q10.1, (uF (uF (uF (uF (uF (uF (uF (uF (uF mo.2.1 1 q2.2.2) 2 q3.2.2) 3 q4.2.2) 4 q5.2.2) 5 q6.2.2) 6 q9.2.2) 7 q10.2.2) 40 q8.2.2) 49 q10.2.1), mo.2.2).2.1 33)), ((va 24), hcI k 72 ((q10.1, (uF (uF (uF (uF (uF (uF (uF (uF (uF mo.2.1 1 q2.2.2) 2 q3.2.2) 3 q4.2.2) 4 q5.2.2) 5 q6.2.2) 6 q9.2.2) 7 q10.2.2) 40 q8.2.2) 49 q10.2.1), mo.2.2).2.1 34)), ((va 25), hcI k 402 ((q10.1, (uF (uF (uF (uF (uF (uF (uF (uF (uF mo.2.1 1 q2.2.2) 2 q3.2.2) 3 q4.2.2) 4 q5.2.2) 5 q6.2.2) 6 q9.2.2) 7 q10.2.2) 40 q8.2.2) 49 q10.2.1), mo.2.2).2.1 35)), ((va 26), hcJ k 11 ((q10.1, (uF (uF (uF (uF (uF (uF (uF (uF (uF mo.2.1 1 q2.2.2) 2 q3.2.2) 3 q4.2.2) 4 q5.2.2) 5 q6.2.2) 6 q9.2.2) 7 q10.2.2) 40 q8.2.2) 49 q10.2.1), mo.2.2).2.2 36)), ((va 27), hcJ k 300 ((q10.1, (uF (uF (uF (uF (uF (uF (uF (uF (uF mo.2.1 1 q2.2.2) 2 q3.2.2) 3 q4.2.2) 4 q5.2.2) 5 q6.2.2) 6 q9.2.2) 7 q10.2.2) 40 q8.2.2) 49 q10.2.1), mo.2.2).2.2 37)), ((va 28), hcI k 8 ((q10.1, (uF (uF (uF (uF (uF (uF (uF (uF (uF mo.2.1 1 q2.2.2) 2 q3.2.2) 3 q4.2.2) 4 q5.2.2) 5 q6.2.2) 6 q9.2.2) 7 q10.2.2) 40 q8.2.2) 49 q10.2.1), mo.2.2).2.1 38)), ((va 29), hcI k 260 ((q10.1, (uF (uF (uF (uF (uF (uF (uF (uF (uF mo.2.1 1 q2.2.2) 2 q3.2.2) 3 q4.2.2) 4 q5.2.2) 5 q6.2.2) 6 q9.2.2) 7 q10.2.2) 40 q8.2.2) 49 q10.2.1), mo.2.2).2.1 39)), ((va 30), hcI k 1 ((q10.1, (uF (uF (uF (uF (uF (uF (uF (uF (uF mo.2.1 1 q2.2.2) 2 q3.2.2) 3 q4.2.2) 4 q5.2.2) 5 q6.2.2) 6 q9.2.2) 7 q10.2.2) 40 q8.2.2) 49 q10.2.1), mo.2.2).2.1 40)), ((va 31), hcZ k 256 ((q10.1, (uF (uF (uF (uF (uF (uF (uF (uF (uF mo.2.1 1 q2.2.2) 2 q3.2.2) 3 q4.2.2) 4 q5.2.2) 5 q6.2.2) 6 q9.2.2) 7 q10.2.2) 40 q8.2.2) 49 q10.2.1), mo.2.2).2.1 44)), ((va 32), hcI k 4 ((q10.1, (uF (uF (uF (uF (uF (uF (uF (uF (uF mo.2.1 1 q2.2.2) 2 q3.2.2) 3 q4.2.2) 4 q5.2.2) 5 q6.2.2) 6 q9.2.2) 7 q10.2.2) 40 q8.2.2) 49 q10.2.1), mo.2.2).2.1 45)), ((va 33), hcI k 4 ((q10.1, (uF (uF (uF (uF (uF (uF (uF (uF (uF mo.2.1 1 q2.2.2) 2 q3.2.2) 3 q4.2.2) 4 q5.2.2) 5 q6.2.2) 6 q9.2.2) 7 q10.2.2) 40 q8.2.2) 49 q10.2.1), mo.2.2).2.1 46)), ((va 34), hcI k 488 ((q10.1, (uF (uF (uF (uF (uF (uF (uF (uF (uF mo.2.1 1 q2.2.2) 2 q3.2.2) 3 q4.2.2) 4 q5.2.2) 5 q6.2.2) 6 q9.2.2) 7 q10.2.2) 40 q8.2.2) 49 q10.2.1), mo.2.2).2.1 47)), ((va 35), hcI k 56 ((q10.1, (uF (uF (uF (uF (uF (uF (uF (uF (uF mo.2.1 1 q2.2.2) 2 q3.2.2) 3 q4.2.2) 4 q5.2.2) 5 q6.2.2) 6 q9.2.2) 7 q10.2.2) 40 q8.2.2) 49 q10.2.1), mo.2.2).2.1 48)), ((va 37), hcZ k 4 ((q10.1, (uF (uF (uF (uF (uF (uF (uF (uF (uF mo.2.1 1 q2.2.2) 2 q3.2.2) 3 q4.2.2) 4 q5.2.2) 5 q6.2.2) 6 q9.2.2) 7 q10.2.2) 40 q8.2.2) 49 q10.2.1), mo.2.2).2.1 50))] : va_W)) (wp := fun b : (Nat → Int32) × (Nat → Int32) × (Nat → Int32) => ([((va 0), .inr (7, [.int (b.1 0), .ref (va 1), .ref (va 2), .ref (va 3), .ref (va 4), .ref (va 5), .ref (va 6), .ref (va 7), .ref (va 8), .ref (va 9), .ref (va 10), .ref (va 11), .ref (va 12), .ref (va 13), .ref (va 14), .ref (va 15), .ref (va 16), .ref (va 17), .int (b.1 18), .int (b.1 19), .int (b.1 20), .int (b.1 21), .int (b.1 22), .int (b.1 23), .int (b.1 24), .int (b.1 25), .int (b.1 26), .int (b.1 27), .ref (va 18), .ref (va 19), .ref (va 20), .ref (va 21), .ref (va 22), .ref (va 23), .ref (va 24), .ref (va 25), .ref (va 26), .ref (va 27), .ref (va 28), .ref (va 29), .ref (va 30), .int (b.1 41), .int (b.1 42), .int (b.1 43), .ref (va 31), .ref (va 32), .ref (va 33), .ref (va 34), .ref (va 35), .ref (va 36), .ref (va 37), .int (b.1 51), .int (b.1 52)]))] : va_W) ++ (([((va 36), hcI k 2000 b.2.1)] : va_W) ++ (([((va 8), hcI k 10 b.2.2)] : va_W)))) h hx hb hml hown hts hG hA hP hD hS hl.1 [0, 36, 8] [1, 2, 3, 4, 5, 6, 7, 9, 10, 11, 12, 13, 14, 15, 16, 17, 18, 19, 20, 21, 22, 23, 24, 25, 26, 27, 28, 29, 30, 31, 32, 33, 34, 35, 37] (fun q hq9 => c_X9_carryRow l D k _  va (va 8) F 10 q10.1 q10.2.1 (mo.2.1 8)  hq9) (ci := 7) (q0 := 0) rfl rfl gX9_carriesAll_X9_carryRow rfl ⟨rfl, rfl, Nat.le_of_ble_eq_true rfl, Nat.le_of_ble_eq_true rfl⟩ (by decide +kernel) rfl rfl ⟨by decide +kernel, by decide +kernel, by decide +kernel⟩ ⟨rfl, rfl, Nat.le_of_ble_eq_true rfl, Nat.le_of_ble_eq_true rfl, Nat.le_of_ble_eq_true rfl⟩ dX9_carriesAll_109 (fun q11 H locs h hP hD hS => ?_)
    obtain ⟨hP, hD⟩ := cvs (w' := moW k va (q11.1, (uF (uF (uF (uF (uF (uF (uF (uF (uF (uF mo.2.1 1 q2.2.2) 2 q3.2.2) 3 q4.2.2) 4 q5.2.2) 5 q6.2.2) 6 q9.2.2) 7 q10.2.2) 8 q11.2.2) 40 q8.2.2) 49 q11.2.1), mo.2.2)) hP hD [35, 0, 1, 2, 3, 4, 5, 6, 37, 7, 8, 9, 10, 11, 12, 13, 14, 15, 16, 17, 18, 19, 20, 21, 22, 23, 24, 25, 26, 27, 28, 29, 30, 31, 32, 33, 36, 34] (by decide +kernel) rfl
    refine lv_aload_n hx hb dX9_carriesAll_112 rfl (lv_at hl 0 rfl) ?_
    refine lv_aload_n hx hb dX9_carriesAll_113 rfl (lv_at hl 0 rfl) ?_
    refine va_get (D := D) (ci := 7) (v := .ref (va 9)) (C := RX9) (T := TX9) (N := 53) hx hb hts in9 hown hG.1 hP 0 rfl rfl 9 (by decide) (hts (.fieldLink RX9 34 "ChairCaneModel" "noteWho" "[I") (mem_b bq_wsX9_carriesAll 0 12 rfl)) (fun _ h9 => h9) rfl dX9_carriesAll_114 ?_
    refine fw_Vv (As := [.ref (va 9)]) (rest := []) (n := 1) (wr := ([((va 1), hcI k 8 ((q11.1, (uF (uF (uF (uF (uF (uF (uF (uF (uF (uF mo.2.1 1 q2.2.2) 2 q3.2.2) 3 q4.2.2) 4 q5.2.2) 5 q6.2.2) 6 q9.2.2) 7 q10.2.2) 8 q11.2.2) 40 q8.2.2) 49 q11.2.1), mo.2.2).2.1 1)), ((va 2), hcI k 4 ((q11.1, (uF (uF (uF (uF (uF (uF (uF (uF (uF (uF mo.2.1 1 q2.2.2) 2 q3.2.2) 3 q4.2.2) 4 q5.2.2) 5 q6.2.2) 6 q9.2.2) 7 q10.2.2) 8 q11.2.2) 40 q8.2.2) 49 q11.2.1), mo.2.2).2.1 2)), ((va 3), hcI k 8 ((q11.1, (uF (uF (uF (uF (uF (uF (uF (uF (uF (uF mo.2.1 1 q2.2.2) 2 q3.2.2) 3 q4.2.2) 4 q5.2.2) 5 q6.2.2) 6 q9.2.2) 7 q10.2.2) 8 q11.2.2) 40 q8.2.2) 49 q11.2.1), mo.2.2).2.1 3)), ((va 4), hcI k 8 ((q11.1, (uF (uF (uF (uF (uF (uF (uF (uF (uF (uF mo.2.1 1 q2.2.2) 2 q3.2.2) 3 q4.2.2) 4 q5.2.2) 5 q6.2.2) 6 q9.2.2) 7 q10.2.2) 8 q11.2.2) 40 q8.2.2) 49 q11.2.1), mo.2.2).2.1 4)), ((va 5), hcI k 8 ((q11.1, (uF (uF (uF (uF (uF (uF (uF (uF (uF (uF mo.2.1 1 q2.2.2) 2 q3.2.2) 3 q4.2.2) 4 q5.2.2) 5 q6.2.2) 6 q9.2.2) 7 q10.2.2) 8 q11.2.2) 40 q8.2.2) 49 q11.2.1), mo.2.2).2.1 5)), ((va 6), hcI k 8 ((q11.1, (uF (uF (uF (uF (uF (uF (uF (uF (uF (uF mo.2.1 1 q2.2.2) 2 q3.2.2) 3 q4.2.2) 4 q5.2.2) 5 q6.2.2) 6 q9.2.2) 7 q10.2.2) 8 q11.2.2) 40 q8.2.2) 49 q11.2.1), mo.2.2).2.1 6)), ((va 7), hcI k 8 ((q11.1, (uF (uF (uF (uF (uF (uF (uF (uF (uF (uF mo.2.1 1 q2.2.2) 2 q3.2.2) 3 q4.2.2) 4 q5.2.2) 5 q6.2.2) 6 q9.2.2) 7 q10.2.2) 8 q11.2.2) 40 q8.2.2) 49 q11.2.1), mo.2.2).2.1 7)), ((va 8), hcI k 10 ((q11.1, (uF (uF (uF (uF (uF (uF (uF (uF (uF (uF mo.2.1 1 q2.2.2) 2 q3.2.2) 3 q4.2.2) 4 q5.2.2) 5 q6.2.2) 6 q9.2.2) 7 q10.2.2) 8 q11.2.2) 40 q8.2.2) 49 q11.2.1), mo.2.2).2.1 8)), ((va 10), hcI k 10 ((q11.1, (uF (uF (uF (uF (uF (uF (uF (uF (uF (uF mo.2.1 1 q2.2.2) 2 q3.2.2) 3 q4.2.2) 4 q5.2.2) 5 q6.2.2) 6 q9.2.2) 7 q10.2.2) 8 q11.2.2) 40 q8.2.2) 49 q11.2.1), mo.2.2).2.1 10)), ((va 11), hcI k 4 ((q11.1, (uF (uF (uF (uF (uF (uF (uF (uF (uF (uF mo.2.1 1 q2.2.2) 2 q3.2.2) 3 q4.2.2) 4 q5.2.2) 5 q6.2.2) 6 q9.2.2) 7 q10.2.2) 8 q11.2.2) 40 q8.2.2) 49 q11.2.1), mo.2.2).2.1 11)), ((va 12), hcI k 4 ((q11.1, (uF (uF (uF (uF (uF (uF (uF (uF (uF (uF mo.2.1 1 q2.2.2) 2 q3.2.2) 3 q4.2.2) 4 q5.2.2) 5 q6.2.2) 6 q9.2.2) 7 q10.2.2) 8 q11.2.2) 40 q8.2.2) 49 q11.2.1), mo.2.2).2.1 12)), ((va 13), hcI k 4 ((q11.1, (uF (uF (uF (uF (uF (uF (uF (uF (uF (uF mo.2.1 1 q2.2.2) 2 q3.2.2) 3 q4.2.2) 4 q5.2.2) 5 q6.2.2) 6 q9.2.2) 7 q10.2.2) 8 q11.2.2) 40 q8.2.2) 49 q11.2.1), mo.2.2).2.1 13)), ((va 14), hcI k 8 ((q11.1, (uF (uF (uF (uF (uF (uF (uF (uF (uF (uF mo.2.1 1 q2.2.2) 2 q3.2.2) 3 q4.2.2) 4 q5.2.2) 5 q6.2.2) 6 q9.2.2) 7 q10.2.2) 8 q11.2.2) 40 q8.2.2) 49 q11.2.1), mo.2.2).2.1 14)), ((va 15), hcI k 8 ((q11.1, (uF (uF (uF (uF (uF (uF (uF (uF (uF (uF mo.2.1 1 q2.2.2) 2 q3.2.2) 3 q4.2.2) 4 q5.2.2) 5 q6.2.2) 6 q9.2.2) 7 q10.2.2) 8 q11.2.2) 40 q8.2.2) 49 q11.2.1), mo.2.2).2.1 15)), ((va 16), hcI k 8 ((q11.1, (uF (uF (uF (uF (uF (uF (uF (uF (uF (uF mo.2.1 1 q2.2.2) 2 q3.2.2) 3 q4.2.2) 4 q5.2.2) 5 q6.2.2) 6 q9.2.2) 7 q10.2.2) 8 q11.2.2) 40 q8.2.2) 49 q11.2.1), mo.2.2).2.1 16)), ((va 17), hcI k 8 ((q11.1, (uF (uF (uF (uF (uF (uF (uF (uF (uF (uF mo.2.1 1 q2.2.2) 2 q3.2.2) 3 q4.2.2) 4 q5.2.2) 5 q6.2.2) 6 q9.2.2) 7 q10.2.2) 8 q11.2.2) 40 q8.2.2) 49 q11.2.1), mo.2.2).2.1 17)), ((va 18), hcY k 400 ((q11.1, (uF (uF (uF (uF (uF (uF (uF (uF (uF (uF mo.2.1 1 q2.2.2) 2 q3.2.2) 3 q4.2.2) 4 q5.2.2) 5 q6.2.2) 6 q9.2.2) 7 q10.2.2) 8 q11.2.2) 40 q8.2.2) 49 q11.2.1), mo.2.2).2.1 28)), ((va 19), hcI k 1800 ((q11.1, (uF (uF (uF (uF (uF (uF (uF (uF (uF (uF mo.2.1 1 q2.2.2) 2 q3.2.2) 3 q4.2.2) 4 q5.2.2) 5 q6.2.2) 6 q9.2.2) 7 q10.2.2) 8 q11.2.2) 40 q8.2.2) 49 q11.2.1), mo.2.2).2.1 29)), ((va 20), hcI k 1800 ((q11.1, (uF (uF (uF (uF (uF (uF (uF (uF (uF (uF mo.2.1 1 q2.2.2) 2 q3.2.2) 3 q4.2.2) 4 q5.2.2) 5 q6.2.2) 6 q9.2.2) 7 q10.2.2) 8 q11.2.2) 40 q8.2.2) 49 q11.2.1), mo.2.2).2.1 30)), ((va 21), hcI k 6 ((q11.1, (uF (uF (uF (uF (uF (uF (uF (uF (uF (uF mo.2.1 1 q2.2.2) 2 q3.2.2) 3 q4.2.2) 4 q5.2.2) 5 q6.2.2) 6 q9.2.2) 7 q10.2.2) 8 q11.2.2) 40 q8.2.2) 49 q11.2.1), mo.2.2).2.1 31)), ((va 22), hcI k 72 ((q11.1, (uF (uF (uF (uF (uF (uF (uF (uF (uF (uF mo.2.1 1 q2.2.2) 2 q3.2.2) 3 q4.2.2) 4 q5.2.2) 5 q6.2.2) 6 q9.2.2) 7 q10.2.2) 8 q11.2.2) 40 q8.2.2) 49 q11.2.1), mo.2.2).2.1 32)), ((va 23), hcI k 72 ((q11.1, (uF (uF (uF (uF (uF (uF (uF (uF (uF (uF mo.2.1 1 q2.2.2) 2 q3.2.2) 3 q4.2.2) 4 q5.2.2) 5 q6.2.2) 6 q9.2.2) 7 q10.2.2) 8 q11.2.2) 40 q8.2.2) 49 q11.2.1), mo.2.2).2.1 33)), ((va 24), hcI k 72 ((q11.1, (uF (uF (uF (uF (uF (uF (uF (uF (uF (uF mo.2.1 1 q2.2.2) 2 q3.2.2) 3 q4.2.2) 4 q5.2.2) 5 q6.2.2) 6 q9.2.2) 7 q10.2.2) 8 q11.2.2) 40 q8.2.2) 49 q11.2.1), mo.2.2).2.1 34)), ((va 25), hcI k 402 ((q11.1, (uF (uF (uF (uF (uF (uF (uF (uF (uF (uF mo.2.1 1 q2.2.2) 2 q3.2.2) 3 q4.2.2) 4 q5.2.2) 5 q6.2.2) 6 q9.2.2) 7 q10.2.2) 8 q11.2.2) 40 q8.2.2) 49 q11.2.1), mo.2.2).2.1 35)), ((va 26), hcJ k 11 ((q11.1, (uF (uF (uF (uF (uF (uF (uF (uF (uF (uF mo.2.1 1 q2.2.2) 2 q3.2.2) 3 q4.2.2) 4 q5.2.2) 5 q6.2.2) 6 q9.2.2) 7 q10.2.2) 8 q11.2.2) 40 q8.2.2) 49 q11.2.1), mo.2.2).2.2 36)), ((va 27), hcJ k 300 ((q11.1, (uF (uF (uF (uF (uF (uF (uF (uF (uF (uF mo.2.1 1 q2.2.2) 2 q3.2.2) 3 q4.2.2) 4 q5.2.2) 5 q6.2.2) 6 q9.2.2) 7 q10.2.2) 8 q11.2.2) 40 q8.2.2) 49 q11.2.1), mo.2.2).2.2 37)), ((va 28), hcI k 8 ((q11.1, (uF (uF (uF (uF (uF (uF (uF (uF (uF (uF mo.2.1 1 q2.2.2) 2 q3.2.2) 3 q4.2.2) 4 q5.2.2) 5 q6.2.2) 6 q9.2.2) 7 q10.2.2) 8 q11.2.2) 40 q8.2.2) 49 q11.2.1), mo.2.2).2.1 38)), ((va 29), hcI k 260 ((q11.1, (uF (uF (uF (uF (uF (uF (uF (uF (uF (uF mo.2.1 1 q2.2.2) 2 q3.2.2) 3 q4.2.2) 4 q5.2.2) 5 q6.2.2) 6 q9.2.2) 7 q10.2.2) 8 q11.2.2) 40 q8.2.2) 49 q11.2.1), mo.2.2).2.1 39)), ((va 30), hcI k 1 ((q11.1, (uF (uF (uF (uF (uF (uF (uF (uF (uF (uF mo.2.1 1 q2.2.2) 2 q3.2.2) 3 q4.2.2) 4 q5.2.2) 5 q6.2.2) 6 q9.2.2) 7 q10.2.2) 8 q11.2.2) 40 q8.2.2) 49 q11.2.1), mo.2.2).2.1 40)), ((va 31), hcZ k 256 ((q11.1, (uF (uF (uF (uF (uF (uF (uF (uF (uF (uF mo.2.1 1 q2.2.2) 2 q3.2.2) 3 q4.2.2) 4 q5.2.2) 5 q6.2.2) 6 q9.2.2) 7 q10.2.2) 8 q11.2.2) 40 q8.2.2) 49 q11.2.1), mo.2.2).2.1 44)), ((va 32), hcI k 4 ((q11.1, (uF (uF (uF (uF (uF (uF (uF (uF (uF (uF mo.2.1 1 q2.2.2) 2 q3.2.2) 3 q4.2.2) 4 q5.2.2) 5 q6.2.2) 6 q9.2.2) 7 q10.2.2) 8 q11.2.2) 40 q8.2.2) 49 q11.2.1), mo.2.2).2.1 45)), ((va 33), hcI k 4 ((q11.1, (uF (uF (uF (uF (uF (uF (uF (uF (uF (uF mo.2.1 1 q2.2.2) 2 q3.2.2) 3 q4.2.2) 4 q5.2.2) 5 q6.2.2) 6 q9.2.2) 7 q10.2.2) 8 q11.2.2) 40 q8.2.2) 49 q11.2.1), mo.2.2).2.1 46)), ((va 34), hcI k 488 ((q11.1, (uF (uF (uF (uF (uF (uF (uF (uF (uF (uF mo.2.1 1 q2.2.2) 2 q3.2.2) 3 q4.2.2) 4 q5.2.2) 5 q6.2.2) 6 q9.2.2) 7 q10.2.2) 8 q11.2.2) 40 q8.2.2) 49 q11.2.1), mo.2.2).2.1 47)), ((va 35), hcI k 56 ((q11.1, (uF (uF (uF (uF (uF (uF (uF (uF (uF (uF mo.2.1 1 q2.2.2) 2 q3.2.2) 3 q4.2.2) 4 q5.2.2) 5 q6.2.2) 6 q9.2.2) 7 q10.2.2) 8 q11.2.2) 40 q8.2.2) 49 q11.2.1), mo.2.2).2.1 48)), ((va 37), hcZ k 4 ((q11.1, (uF (uF (uF (uF (uF (uF (uF (uF (uF (uF mo.2.1 1 q2.2.2) 2 q3.2.2) 3 q4.2.2) 4 q5.2.2) 5 q6.2.2) 6 q9.2.2) 7 q10.2.2) 8 q11.2.2) 40 q8.2.2) 49 q11.2.1), mo.2.2).2.1 50))] : va_W)) (wp := fun b : (Nat → Int32) × (Nat → Int32) × (Nat → Int32) => ([((va 0), .inr (7, [.int (b.1 0), .ref (va 1), .ref (va 2), .ref (va 3), .ref (va 4), .ref (va 5), .ref (va 6), .ref (va 7), .ref (va 8), .ref (va 9), .ref (va 10), .ref (va 11), .ref (va 12), .ref (va 13), .ref (va 14), .ref (va 15), .ref (va 16), .ref (va 17), .int (b.1 18), .int (b.1 19), .int (b.1 20), .int (b.1 21), .int (b.1 22), .int (b.1 23), .int (b.1 24), .int (b.1 25), .int (b.1 26), .int (b.1 27), .ref (va 18), .ref (va 19), .ref (va 20), .ref (va 21), .ref (va 22), .ref (va 23), .ref (va 24), .ref (va 25), .ref (va 26), .ref (va 27), .ref (va 28), .ref (va 29), .ref (va 30), .int (b.1 41), .int (b.1 42), .int (b.1 43), .ref (va 31), .ref (va 32), .ref (va 33), .ref (va 34), .ref (va 35), .ref (va 36), .ref (va 37), .int (b.1 51), .int (b.1 52)]))] : va_W) ++ (([((va 36), hcI k 2000 b.2.1)] : va_W) ++ (([((va 9), hcI k 10 b.2.2)] : va_W)))) h hx hb hml hown hts hG hA hP hD hS hl.1 [0, 36, 9] [1, 2, 3, 4, 5, 6, 7, 8, 10, 11, 12, 13, 14, 15, 16, 17, 18, 19, 20, 21, 22, 23, 24, 25, 26, 27, 28, 29, 30, 31, 32, 33, 34, 35, 37] (fun q hq9 => c_X9_carryRow l D k _  va (va 9) F 10 q11.1 q11.2.1 (mo.2.1 9)  hq9) (ci := 7) (q0 := 0) rfl rfl gX9_carriesAll_X9_carryRow rfl ⟨rfl, rfl, Nat.le_of_ble_eq_true rfl, Nat.le_of_ble_eq_true rfl⟩ (by decide +kernel) rfl rfl ⟨by decide +kernel, by decide +kernel, by decide +kernel⟩ ⟨rfl, rfl, Nat.le_of_ble_eq_true rfl, Nat.le_of_ble_eq_true rfl, Nat.le_of_ble_eq_true rfl⟩ dX9_carriesAll_117 (fun q12 H locs h hP hD hS => ?_)
    obtain ⟨hP, hD⟩ := cvs (w' := moW k va (q12.1, (uF (uF (uF (uF (uF (uF (uF (uF (uF (uF (uF mo.2.1 1 q2.2.2) 2 q3.2.2) 3 q4.2.2) 4 q5.2.2) 5 q6.2.2) 6 q9.2.2) 7 q10.2.2) 8 q11.2.2) 9 q12.2.2) 40 q8.2.2) 49 q12.2.1), mo.2.2)) hP hD [35, 0, 1, 2, 3, 4, 5, 6, 7, 37, 8, 9, 10, 11, 12, 13, 14, 15, 16, 17, 18, 19, 20, 21, 22, 23, 24, 25, 26, 27, 28, 29, 30, 31, 32, 33, 36, 34] (by decide +kernel) rfl
    refine lv_aload_n hx hb dX9_carriesAll_120 rfl (lv_at hl 0 rfl) ?_
    refine lv_aload_n hx hb dX9_carriesAll_121 rfl (lv_at hl 0 rfl) ?_
    refine va_get (D := D) (ci := 7) (v := .ref (va 10)) (C := RX9) (T := TX9) (N := 53) hx hb hts in9 hown hG.1 hP 0 rfl rfl 10 (by decide) (hts (.fieldLink RX9 37 "ChairCaneModel" "noteIs" "[I") (mem_b bq_wsX9_carriesAll 0 13 rfl)) (fun _ h9 => h9) rfl dX9_carriesAll_122 ?_
    refine fw_Vv (As := [.ref (va 10)]) (rest := []) (n := 1) (wr := ([((va 1), hcI k 8 ((q12.1, (uF (uF (uF (uF (uF (uF (uF (uF (uF (uF (uF mo.2.1 1 q2.2.2) 2 q3.2.2) 3 q4.2.2) 4 q5.2.2) 5 q6.2.2) 6 q9.2.2) 7 q10.2.2) 8 q11.2.2) 9 q12.2.2) 40 q8.2.2) 49 q12.2.1), mo.2.2).2.1 1)), ((va 2), hcI k 4 ((q12.1, (uF (uF (uF (uF (uF (uF (uF (uF (uF (uF (uF mo.2.1 1 q2.2.2) 2 q3.2.2) 3 q4.2.2) 4 q5.2.2) 5 q6.2.2) 6 q9.2.2) 7 q10.2.2) 8 q11.2.2) 9 q12.2.2) 40 q8.2.2) 49 q12.2.1), mo.2.2).2.1 2)), ((va 3), hcI k 8 ((q12.1, (uF (uF (uF (uF (uF (uF (uF (uF (uF (uF (uF mo.2.1 1 q2.2.2) 2 q3.2.2) 3 q4.2.2) 4 q5.2.2) 5 q6.2.2) 6 q9.2.2) 7 q10.2.2) 8 q11.2.2) 9 q12.2.2) 40 q8.2.2) 49 q12.2.1), mo.2.2).2.1 3)), ((va 4), hcI k 8 ((q12.1, (uF (uF (uF (uF (uF (uF (uF (uF (uF (uF (uF mo.2.1 1 q2.2.2) 2 q3.2.2) 3 q4.2.2) 4 q5.2.2) 5 q6.2.2) 6 q9.2.2) 7 q10.2.2) 8 q11.2.2) 9 q12.2.2) 40 q8.2.2) 49 q12.2.1), mo.2.2).2.1 4)), ((va 5), hcI k 8 ((q12.1, (uF (uF (uF (uF (uF (uF (uF (uF (uF (uF (uF mo.2.1 1 q2.2.2) 2 q3.2.2) 3 q4.2.2) 4 q5.2.2) 5 q6.2.2) 6 q9.2.2) 7 q10.2.2) 8 q11.2.2) 9 q12.2.2) 40 q8.2.2) 49 q12.2.1), mo.2.2).2.1 5)), ((va 6), hcI k 8 ((q12.1, (uF (uF (uF (uF (uF (uF (uF (uF (uF (uF (uF mo.2.1 1 q2.2.2) 2 q3.2.2) 3 q4.2.2) 4 q5.2.2) 5 q6.2.2) 6 q9.2.2) 7 q10.2.2) 8 q11.2.2) 9 q12.2.2) 40 q8.2.2) 49 q12.2.1), mo.2.2).2.1 6)), ((va 7), hcI k 8 ((q12.1, (uF (uF (uF (uF (uF (uF (uF (uF (uF (uF (uF mo.2.1 1 q2.2.2) 2 q3.2.2) 3 q4.2.2) 4 q5.2.2) 5 q6.2.2) 6 q9.2.2) 7 q10.2.2) 8 q11.2.2) 9 q12.2.2) 40 q8.2.2) 49 q12.2.1), mo.2.2).2.1 7)), ((va 8), hcI k 10 ((q12.1, (uF (uF (uF (uF (uF (uF (uF (uF (uF (uF (uF mo.2.1 1 q2.2.2) 2 q3.2.2) 3 q4.2.2) 4 q5.2.2) 5 q6.2.2) 6 q9.2.2) 7 q10.2.2) 8 q11.2.2) 9 q12.2.2) 40 q8.2.2) 49 q12.2.1), mo.2.2).2.1 8)), ((va 9), hcI k 10 ((q12.1, (uF (uF (uF (uF (uF (uF (uF (uF (uF (uF (uF mo.2.1 1 q2.2.2) 2 q3.2.2) 3 q4.2.2) 4 q5.2.2) 5 q6.2.2) 6 q9.2.2) 7 q10.2.2) 8 q11.2.2) 9 q12.2.2) 40 q8.2.2) 49 q12.2.1), mo.2.2).2.1 9)), ((va 11), hcI k 4 ((q12.1, (uF (uF (uF (uF (uF (uF (uF (uF (uF (uF (uF mo.2.1 1 q2.2.2) 2 q3.2.2) 3 q4.2.2) 4 q5.2.2) 5 q6.2.2) 6 q9.2.2) 7 q10.2.2) 8 q11.2.2) 9 q12.2.2) 40 q8.2.2) 49 q12.2.1), mo.2.2).2.1 11)), ((va 12), hcI k 4 ((q12.1, (uF (uF (uF (uF (uF (uF (uF (uF (uF (uF (uF mo.2.1 1 q2.2.2) 2 q3.2.2) 3 q4.2.2) 4 q5.2.2) 5 q6.2.2) 6 q9.2.2) 7 q10.2.2) 8 q11.2.2) 9 q12.2.2) 40 q8.2.2) 49 q12.2.1), mo.2.2).2.1 12)), ((va 13), hcI k 4 ((q12.1, (uF (uF (uF (uF (uF (uF (uF (uF (uF (uF (uF mo.2.1 1 q2.2.2) 2 q3.2.2) 3 q4.2.2) 4 q5.2.2) 5 q6.2.2) 6 q9.2.2) 7 q10.2.2) 8 q11.2.2) 9 q12.2.2) 40 q8.2.2) 49 q12.2.1), mo.2.2).2.1 13)), ((va 14), hcI k 8 ((q12.1, (uF (uF (uF (uF (uF (uF (uF (uF (uF (uF (uF mo.2.1 1 q2.2.2) 2 q3.2.2) 3 q4.2.2) 4 q5.2.2) 5 q6.2.2) 6 q9.2.2) 7 q10.2.2) 8 q11.2.2) 9 q12.2.2) 40 q8.2.2) 49 q12.2.1), mo.2.2).2.1 14)), ((va 15), hcI k 8 ((q12.1, (uF (uF (uF (uF (uF (uF (uF (uF (uF (uF (uF mo.2.1 1 q2.2.2) 2 q3.2.2) 3 q4.2.2) 4 q5.2.2) 5 q6.2.2) 6 q9.2.2) 7 q10.2.2) 8 q11.2.2) 9 q12.2.2) 40 q8.2.2) 49 q12.2.1), mo.2.2).2.1 15)), ((va 16), hcI k 8 ((q12.1, (uF (uF (uF (uF (uF (uF (uF (uF (uF (uF (uF mo.2.1 1 q2.2.2) 2 q3.2.2) 3 q4.2.2) 4 q5.2.2) 5 q6.2.2) 6 q9.2.2) 7 q10.2.2) 8 q11.2.2) 9 q12.2.2) 40 q8.2.2) 49 q12.2.1), mo.2.2).2.1 16)), ((va 17), hcI k 8 ((q12.1, (uF (uF (uF (uF (uF (uF (uF (uF (uF (uF (uF mo.2.1 1 q2.2.2) 2 q3.2.2) 3 q4.2.2) 4 q5.2.2) 5 q6.2.2) 6 q9.2.2) 7 q10.2.2) 8 q11.2.2) 9 q12.2.2) 40 q8.2.2) 49 q12.2.1), mo.2.2).2.1 17)), ((va 18), hcY k 400 ((q12.1, (uF (uF (uF (uF (uF (uF (uF (uF (uF (uF (uF mo.2.1 1 q2.2.2) 2 q3.2.2) 3 q4.2.2) 4 q5.2.2) 5 q6.2.2) 6 q9.2.2) 7 q10.2.2) 8 q11.2.2) 9 q12.2.2) 40 q8.2.2) 49 q12.2.1), mo.2.2).2.1 28)), ((va 19), hcI k 1800 ((q12.1, (uF (uF (uF (uF (uF (uF (uF (uF (uF (uF (uF mo.2.1 1 q2.2.2) 2 q3.2.2) 3 q4.2.2) 4 q5.2.2) 5 q6.2.2) 6 q9.2.2) 7 q10.2.2) 8 q11.2.2) 9 q12.2.2) 40 q8.2.2) 49 q12.2.1), mo.2.2).2.1 29)), ((va 20), hcI k 1800 ((q12.1, (uF (uF (uF (uF (uF (uF (uF (uF (uF (uF (uF mo.2.1 1 q2.2.2) 2 q3.2.2) 3 q4.2.2) 4 q5.2.2) 5 q6.2.2) 6 q9.2.2) 7 q10.2.2) 8 q11.2.2) 9 q12.2.2) 40 q8.2.2) 49 q12.2.1), mo.2.2).2.1 30)), ((va 21), hcI k 6 ((q12.1, (uF (uF (uF (uF (uF (uF (uF (uF (uF (uF (uF mo.2.1 1 q2.2.2) 2 q3.2.2) 3 q4.2.2) 4 q5.2.2) 5 q6.2.2) 6 q9.2.2) 7 q10.2.2) 8 q11.2.2) 9 q12.2.2) 40 q8.2.2) 49 q12.2.1), mo.2.2).2.1 31)), ((va 22), hcI k 72 ((q12.1, (uF (uF (uF (uF (uF (uF (uF (uF (uF (uF (uF mo.2.1 1 q2.2.2) 2 q3.2.2) 3 q4.2.2) 4 q5.2.2) 5 q6.2.2) 6 q9.2.2) 7 q10.2.2) 8 q11.2.2) 9 q12.2.2) 40 q8.2.2) 49 q12.2.1), mo.2.2).2.1 32)), ((va 23), hcI k 72 ((q12.1, (uF (uF (uF (uF (uF (uF (uF (uF (uF (uF (uF mo.2.1 1 q2.2.2) 2 q3.2.2) 3 q4.2.2) 4 q5.2.2) 5 q6.2.2) 6 q9.2.2) 7 q10.2.2) 8 q11.2.2) 9 q12.2.2) 40 q8.2.2) 49 q12.2.1), mo.2.2).2.1 33)), ((va 24), hcI k 72 ((q12.1, (uF (uF (uF (uF (uF (uF (uF (uF (uF (uF (uF mo.2.1 1 q2.2.2) 2 q3.2.2) 3 q4.2.2) 4 q5.2.2) 5 q6.2.2) 6 q9.2.2) 7 q10.2.2) 8 q11.2.2) 9 q12.2.2) 40 q8.2.2) 49 q12.2.1), mo.2.2).2.1 34)), ((va 25), hcI k 402 ((q12.1, (uF (uF (uF (uF (uF (uF (uF (uF (uF (uF (uF mo.2.1 1 q2.2.2) 2 q3.2.2) 3 q4.2.2) 4 q5.2.2) 5 q6.2.2) 6 q9.2.2) 7 q10.2.2) 8 q11.2.2) 9 q12.2.2) 40 q8.2.2) 49 q12.2.1), mo.2.2).2.1 35)), ((va 26), hcJ k 11 ((q12.1, (uF (uF (uF (uF (uF (uF (uF (uF (uF (uF (uF mo.2.1 1 q2.2.2) 2 q3.2.2) 3 q4.2.2) 4 q5.2.2) 5 q6.2.2) 6 q9.2.2) 7 q10.2.2) 8 q11.2.2) 9 q12.2.2) 40 q8.2.2) 49 q12.2.1), mo.2.2).2.2 36)), ((va 27), hcJ k 300 ((q12.1, (uF (uF (uF (uF (uF (uF (uF (uF (uF (uF (uF mo.2.1 1 q2.2.2) 2 q3.2.2) 3 q4.2.2) 4 q5.2.2) 5 q6.2.2) 6 q9.2.2) 7 q10.2.2) 8 q11.2.2) 9 q12.2.2) 40 q8.2.2) 49 q12.2.1), mo.2.2).2.2 37)), ((va 28), hcI k 8 ((q12.1, (uF (uF (uF (uF (uF (uF (uF (uF (uF (uF (uF mo.2.1 1 q2.2.2) 2 q3.2.2) 3 q4.2.2) 4 q5.2.2) 5 q6.2.2) 6 q9.2.2) 7 q10.2.2) 8 q11.2.2) 9 q12.2.2) 40 q8.2.2) 49 q12.2.1), mo.2.2).2.1 38)), ((va 29), hcI k 260 ((q12.1, (uF (uF (uF (uF (uF (uF (uF (uF (uF (uF (uF mo.2.1 1 q2.2.2) 2 q3.2.2) 3 q4.2.2) 4 q5.2.2) 5 q6.2.2) 6 q9.2.2) 7 q10.2.2) 8 q11.2.2) 9 q12.2.2) 40 q8.2.2) 49 q12.2.1), mo.2.2).2.1 39)), ((va 30), hcI k 1 ((q12.1, (uF (uF (uF (uF (uF (uF (uF (uF (uF (uF (uF mo.2.1 1 q2.2.2) 2 q3.2.2) 3 q4.2.2) 4 q5.2.2) 5 q6.2.2) 6 q9.2.2) 7 q10.2.2) 8 q11.2.2) 9 q12.2.2) 40 q8.2.2) 49 q12.2.1), mo.2.2).2.1 40)), ((va 31), hcZ k 256 ((q12.1, (uF (uF (uF (uF (uF (uF (uF (uF (uF (uF (uF mo.2.1 1 q2.2.2) 2 q3.2.2) 3 q4.2.2) 4 q5.2.2) 5 q6.2.2) 6 q9.2.2) 7 q10.2.2) 8 q11.2.2) 9 q12.2.2) 40 q8.2.2) 49 q12.2.1), mo.2.2).2.1 44)), ((va 32), hcI k 4 ((q12.1, (uF (uF (uF (uF (uF (uF (uF (uF (uF (uF (uF mo.2.1 1 q2.2.2) 2 q3.2.2) 3 q4.2.2) 4 q5.2.2) 5 q6.2.2) 6 q9.2.2) 7 q10.2.2) 8 q11.2.2) 9 q12.2.2) 40 q8.2.2) 49 q12.2.1), mo.2.2).2.1 45)), ((va 33), hcI k 4 ((q12.1, (uF (uF (uF (uF (uF (uF (uF (uF (uF (uF (uF mo.2.1 1 q2.2.2) 2 q3.2.2) 3 q4.2.2) 4 q5.2.2) 5 q6.2.2) 6 q9.2.2) 7 q10.2.2) 8 q11.2.2) 9 q12.2.2) 40 q8.2.2) 49 q12.2.1), mo.2.2).2.1 46)), ((va 34), hcI k 488 ((q12.1, (uF (uF (uF (uF (uF (uF (uF (uF (uF (uF (uF mo.2.1 1 q2.2.2) 2 q3.2.2) 3 q4.2.2) 4 q5.2.2) 5 q6.2.2) 6 q9.2.2) 7 q10.2.2) 8 q11.2.2) 9 q12.2.2) 40 q8.2.2) 49 q12.2.1), mo.2.2).2.1 47)), ((va 35), hcI k 56 ((q12.1, (uF (uF (uF (uF (uF (uF (uF (uF (uF (uF (uF mo.2.1 1 q2.2.2) 2 q3.2.2) 3 q4.2.2) 4 q5.2.2) 5 q6.2.2) 6 q9.2.2) 7 q10.2.2) 8 q11.2.2) 9 q12.2.2) 40 q8.2.2) 49 q12.2.1), mo.2.2).2.1 48)), ((va 37), hcZ k 4 ((q12.1, (uF (uF (uF (uF (uF (uF (uF (uF (uF (uF (uF mo.2.1 1 q2.2.2) 2 q3.2.2) 3 q4.2.2) 4 q5.2.2) 5 q6.2.2) 6 q9.2.2) 7 q10.2.2) 8 q11.2.2) 9 q12.2.2) 40 q8.2.2) 49 q12.2.1), mo.2.2).2.1 50))] : va_W)) (wp := fun b : (Nat → Int32) × (Nat → Int32) × (Nat → Int32) => ([((va 0), .inr (7, [.int (b.1 0), .ref (va 1), .ref (va 2), .ref (va 3), .ref (va 4), .ref (va 5), .ref (va 6), .ref (va 7), .ref (va 8), .ref (va 9), .ref (va 10), .ref (va 11), .ref (va 12), .ref (va 13), .ref (va 14), .ref (va 15), .ref (va 16), .ref (va 17), .int (b.1 18), .int (b.1 19), .int (b.1 20), .int (b.1 21), .int (b.1 22), .int (b.1 23), .int (b.1 24), .int (b.1 25), .int (b.1 26), .int (b.1 27), .ref (va 18), .ref (va 19), .ref (va 20), .ref (va 21), .ref (va 22), .ref (va 23), .ref (va 24), .ref (va 25), .ref (va 26), .ref (va 27), .ref (va 28), .ref (va 29), .ref (va 30), .int (b.1 41), .int (b.1 42), .int (b.1 43), .ref (va 31), .ref (va 32), .ref (va 33), .ref (va 34), .ref (va 35), .ref (va 36), .ref (va 37), .int (b.1 51), .int (b.1 52)]))] : va_W) ++ (([((va 36), hcI k 2000 b.2.1)] : va_W) ++ (([((va 10), hcI k 10 b.2.2)] : va_W)))) h hx hb hml hown hts hG hA hP hD hS hl.1 [0, 36, 10] [1, 2, 3, 4, 5, 6, 7, 8, 9, 11, 12, 13, 14, 15, 16, 17, 18, 19, 20, 21, 22, 23, 24, 25, 26, 27, 28, 29, 30, 31, 32, 33, 34, 35, 37] (fun q hq9 => c_X9_carryRow l D k _  va (va 10) F 10 q12.1 q12.2.1 (mo.2.1 10)  hq9) (ci := 7) (q0 := 0) rfl rfl gX9_carriesAll_X9_carryRow rfl ⟨rfl, rfl, Nat.le_of_ble_eq_true rfl, Nat.le_of_ble_eq_true rfl⟩ (by decide +kernel) rfl rfl ⟨by decide +kernel, by decide +kernel, by decide +kernel⟩ ⟨rfl, rfl, Nat.le_of_ble_eq_true rfl, Nat.le_of_ble_eq_true rfl, Nat.le_of_ble_eq_true rfl⟩ dX9_carriesAll_125 (fun q13 H locs h hP hD hS => ?_)
    obtain ⟨hP, hD⟩ := cvs (w' := moW k va (q13.1, (uF (uF (uF (uF (uF (uF (uF (uF (uF (uF (uF (uF mo.2.1 1 q2.2.2) 2 q3.2.2) 3 q4.2.2) 4 q5.2.2) 5 q6.2.2) 6 q9.2.2) 7 q10.2.2) 8 q11.2.2) 9 q12.2.2) 10 q13.2.2) 40 q8.2.2) 49 q13.2.1), mo.2.2)) hP hD [35, 0, 1, 2, 3, 4, 5, 6, 7, 8, 37, 9, 10, 11, 12, 13, 14, 15, 16, 17, 18, 19, 20, 21, 22, 23, 24, 25, 26, 27, 28, 29, 30, 31, 32, 33, 36, 34] (by decide +kernel) rfl
    refine lv_aload_n hx hb dX9_carriesAll_128 rfl (lv_at hl 0 rfl) ?_
    refine lv_aload_n hx hb dX9_carriesAll_129 rfl (lv_at hl 0 rfl) ?_
    refine va_get (D := D) (ci := 7) (v := .ref (va 11)) (C := RX9) (T := TX9) (N := 53) hx hb hts in9 hown hG.1 hP 0 rfl rfl 11 (by decide) (hts (.fieldLink RX9 40 "ChairCaneModel" "toldCane" "[I") (mem_b bq_wsX9_carriesAll 0 14 rfl)) (fun _ h9 => h9) rfl dX9_carriesAll_130 ?_
    refine fw_Vv (As := [.ref (va 11)]) (rest := []) (n := 1) (wr := ([((va 1), hcI k 8 ((q13.1, (uF (uF (uF (uF (uF (uF (uF (uF (uF (uF (uF (uF mo.2.1 1 q2.2.2) 2 q3.2.2) 3 q4.2.2) 4 q5.2.2) 5 q6.2.2) 6 q9.2.2) 7 q10.2.2) 8 q11.2.2) 9 q12.2.2) 10 q13.2.2) 40 q8.2.2) 49 q13.2.1), mo.2.2).2.1 1)), ((va 2), hcI k 4 ((q13.1, (uF (uF (uF (uF (uF (uF (uF (uF (uF (uF (uF (uF mo.2.1 1 q2.2.2) 2 q3.2.2) 3 q4.2.2) 4 q5.2.2) 5 q6.2.2) 6 q9.2.2) 7 q10.2.2) 8 q11.2.2) 9 q12.2.2) 10 q13.2.2) 40 q8.2.2) 49 q13.2.1), mo.2.2).2.1 2)), ((va 3), hcI k 8 ((q13.1, (uF (uF (uF (uF (uF (uF (uF (uF (uF (uF (uF (uF mo.2.1 1 q2.2.2) 2 q3.2.2) 3 q4.2.2) 4 q5.2.2) 5 q6.2.2) 6 q9.2.2) 7 q10.2.2) 8 q11.2.2) 9 q12.2.2) 10 q13.2.2) 40 q8.2.2) 49 q13.2.1), mo.2.2).2.1 3)), ((va 4), hcI k 8 ((q13.1, (uF (uF (uF (uF (uF (uF (uF (uF (uF (uF (uF (uF mo.2.1 1 q2.2.2) 2 q3.2.2) 3 q4.2.2) 4 q5.2.2) 5 q6.2.2) 6 q9.2.2) 7 q10.2.2) 8 q11.2.2) 9 q12.2.2) 10 q13.2.2) 40 q8.2.2) 49 q13.2.1), mo.2.2).2.1 4)), ((va 5), hcI k 8 ((q13.1, (uF (uF (uF (uF (uF (uF (uF (uF (uF (uF (uF (uF mo.2.1 1 q2.2.2) 2 q3.2.2) 3 q4.2.2) 4 q5.2.2) 5 q6.2.2) 6 q9.2.2) 7 q10.2.2) 8 q11.2.2) 9 q12.2.2) 10 q13.2.2) 40 q8.2.2) 49 q13.2.1), mo.2.2).2.1 5)), ((va 6), hcI k 8 ((q13.1, (uF (uF (uF (uF (uF (uF (uF (uF (uF (uF (uF (uF mo.2.1 1 q2.2.2) 2 q3.2.2) 3 q4.2.2) 4 q5.2.2) 5 q6.2.2) 6 q9.2.2) 7 q10.2.2) 8 q11.2.2) 9 q12.2.2) 10 q13.2.2) 40 q8.2.2) 49 q13.2.1), mo.2.2).2.1 6)), ((va 7), hcI k 8 ((q13.1, (uF (uF (uF (uF (uF (uF (uF (uF (uF (uF (uF (uF mo.2.1 1 q2.2.2) 2 q3.2.2) 3 q4.2.2) 4 q5.2.2) 5 q6.2.2) 6 q9.2.2) 7 q10.2.2) 8 q11.2.2) 9 q12.2.2) 10 q13.2.2) 40 q8.2.2) 49 q13.2.1), mo.2.2).2.1 7)), ((va 8), hcI k 10 ((q13.1, (uF (uF (uF (uF (uF (uF (uF (uF (uF (uF (uF (uF mo.2.1 1 q2.2.2) 2 q3.2.2) 3 q4.2.2) 4 q5.2.2) 5 q6.2.2) 6 q9.2.2) 7 q10.2.2) 8 q11.2.2) 9 q12.2.2) 10 q13.2.2) 40 q8.2.2) 49 q13.2.1), mo.2.2).2.1 8)), ((va 9), hcI k 10 ((q13.1, (uF (uF (uF (uF (uF (uF (uF (uF (uF (uF (uF (uF mo.2.1 1 q2.2.2) 2 q3.2.2) 3 q4.2.2) 4 q5.2.2) 5 q6.2.2) 6 q9.2.2) 7 q10.2.2) 8 q11.2.2) 9 q12.2.2) 10 q13.2.2) 40 q8.2.2) 49 q13.2.1), mo.2.2).2.1 9)), ((va 10), hcI k 10 ((q13.1, (uF (uF (uF (uF (uF (uF (uF (uF (uF (uF (uF (uF mo.2.1 1 q2.2.2) 2 q3.2.2) 3 q4.2.2) 4 q5.2.2) 5 q6.2.2) 6 q9.2.2) 7 q10.2.2) 8 q11.2.2) 9 q12.2.2) 10 q13.2.2) 40 q8.2.2) 49 q13.2.1), mo.2.2).2.1 10)), ((va 12), hcI k 4 ((q13.1, (uF (uF (uF (uF (uF (uF (uF (uF (uF (uF (uF (uF mo.2.1 1 q2.2.2) 2 q3.2.2) 3 q4.2.2) 4 q5.2.2) 5 q6.2.2) 6 q9.2.2) 7 q10.2.2) 8 q11.2.2) 9 q12.2.2) 10 q13.2.2) 40 q8.2.2) 49 q13.2.1), mo.2.2).2.1 12)), ((va 13), hcI k 4 ((q13.1, (uF (uF (uF (uF (uF (uF (uF (uF (uF (uF (uF (uF mo.2.1 1 q2.2.2) 2 q3.2.2) 3 q4.2.2) 4 q5.2.2) 5 q6.2.2) 6 q9.2.2) 7 q10.2.2) 8 q11.2.2) 9 q12.2.2) 10 q13.2.2) 40 q8.2.2) 49 q13.2.1), mo.2.2).2.1 13)), ((va 14), hcI k 8 ((q13.1, (uF (uF (uF (uF (uF (uF (uF (uF (uF (uF (uF (uF mo.2.1 1 q2.2.2) 2 q3.2.2) 3 q4.2.2) 4 q5.2.2) 5 q6.2.2) 6 q9.2.2) 7 q10.2.2) 8 q11.2.2) 9 q12.2.2) 10 q13.2.2) 40 q8.2.2) 49 q13.2.1), mo.2.2).2.1 14)), ((va 15), hcI k 8 ((q13.1, (uF (uF (uF (uF (uF (uF (uF (uF (uF (uF (uF (uF mo.2.1 1 q2.2.2) 2 q3.2.2) 3 q4.2.2) 4 q5.2.2) 5 q6.2.2) 6 q9.2.2) 7 q10.2.2) 8 q11.2.2) 9 q12.2.2) 10 q13.2.2) 40 q8.2.2) 49 q13.2.1), mo.2.2).2.1 15)), ((va 16), hcI k 8 ((q13.1, (uF (uF (uF (uF (uF (uF (uF (uF (uF (uF (uF (uF mo.2.1 1 q2.2.2) 2 q3.2.2) 3 q4.2.2) 4 q5.2.2) 5 q6.2.2) 6 q9.2.2) 7 q10.2.2) 8 q11.2.2) 9 q12.2.2) 10 q13.2.2) 40 q8.2.2) 49 q13.2.1), mo.2.2).2.1 16)), ((va 17), hcI k 8 ((q13.1, (uF (uF (uF (uF (uF (uF (uF (uF (uF (uF (uF (uF mo.2.1 1 q2.2.2) 2 q3.2.2) 3 q4.2.2) 4 q5.2.2) 5 q6.2.2) 6 q9.2.2) 7 q10.2.2) 8 q11.2.2) 9 q12.2.2) 10 q13.2.2) 40 q8.2.2) 49 q13.2.1), mo.2.2).2.1 17)), ((va 18), hcY k 400 ((q13.1, (uF (uF (uF (uF (uF (uF (uF (uF (uF (uF (uF (uF mo.2.1 1 q2.2.2) 2 q3.2.2) 3 q4.2.2) 4 q5.2.2) 5 q6.2.2) 6 q9.2.2) 7 q10.2.2) 8 q11.2.2) 9 q12.2.2) 10 q13.2.2) 40 q8.2.2) 49 q13.2.1), mo.2.2).2.1 28)), ((va 19), hcI k 1800 ((q13.1, (uF (uF (uF (uF (uF (uF (uF (uF (uF (uF (uF (uF mo.2.1 1 q2.2.2) 2 q3.2.2) 3 q4.2.2) 4 q5.2.2) 5 q6.2.2) 6 q9.2.2) 7 q10.2.2) 8 q11.2.2) 9 q12.2.2) 10 q13.2.2) 40 q8.2.2) 49 q13.2.1), mo.2.2).2.1 29)), ((va 20), hcI k 1800 ((q13.1, (uF (uF (uF (uF (uF (uF (uF (uF (uF (uF (uF (uF mo.2.1 1 q2.2.2) 2 q3.2.2) 3 q4.2.2) 4 q5.2.2) 5 q6.2.2) 6 q9.2.2) 7 q10.2.2) 8 q11.2.2) 9 q12.2.2) 10 q13.2.2) 40 q8.2.2) 49 q13.2.1), mo.2.2).2.1 30)), ((va 21), hcI k 6 ((q13.1, (uF (uF (uF (uF (uF (uF (uF (uF (uF (uF (uF (uF mo.2.1 1 q2.2.2) 2 q3.2.2) 3 q4.2.2) 4 q5.2.2) 5 q6.2.2) 6 q9.2.2) 7 q10.2.2) 8 q11.2.2) 9 q12.2.2) 10 q13.2.2) 40 q8.2.2) 49 q13.2.1), mo.2.2).2.1 31)), ((va 22), hcI k 72 ((q13.1, (uF (uF (uF (uF (uF (uF (uF (uF (uF (uF (uF (uF mo.2.1 1 q2.2.2) 2 q3.2.2) 3 q4.2.2) 4 q5.2.2) 5 q6.2.2) 6 q9.2.2) 7 q10.2.2) 8 q11.2.2) 9 q12.2.2) 10 q13.2.2) 40 q8.2.2) 49 q13.2.1), mo.2.2).2.1 32)), ((va 23), hcI k 72 ((q13.1, (uF (uF (uF (uF (uF (uF (uF (uF (uF (uF (uF (uF mo.2.1 1 q2.2.2) 2 q3.2.2) 3 q4.2.2) 4 q5.2.2) 5 q6.2.2) 6 q9.2.2) 7 q10.2.2) 8 q11.2.2) 9 q12.2.2) 10 q13.2.2) 40 q8.2.2) 49 q13.2.1), mo.2.2).2.1 33)), ((va 24), hcI k 72 ((q13.1, (uF (uF (uF (uF (uF (uF (uF (uF (uF (uF (uF (uF mo.2.1 1 q2.2.2) 2 q3.2.2) 3 q4.2.2) 4 q5.2.2) 5 q6.2.2) 6 q9.2.2) 7 q10.2.2) 8 q11.2.2) 9 q12.2.2) 10 q13.2.2) 40 q8.2.2) 49 q13.2.1), mo.2.2).2.1 34)), ((va 25), hcI k 402 ((q13.1, (uF (uF (uF (uF (uF (uF (uF (uF (uF (uF (uF (uF mo.2.1 1 q2.2.2) 2 q3.2.2) 3 q4.2.2) 4 q5.2.2) 5 q6.2.2) 6 q9.2.2) 7 q10.2.2) 8 q11.2.2) 9 q12.2.2) 10 q13.2.2) 40 q8.2.2) 49 q13.2.1), mo.2.2).2.1 35)), ((va 26), hcJ k 11 ((q13.1, (uF (uF (uF (uF (uF (uF (uF (uF (uF (uF (uF (uF mo.2.1 1 q2.2.2) 2 q3.2.2) 3 q4.2.2) 4 q5.2.2) 5 q6.2.2) 6 q9.2.2) 7 q10.2.2) 8 q11.2.2) 9 q12.2.2) 10 q13.2.2) 40 q8.2.2) 49 q13.2.1), mo.2.2).2.2 36)), ((va 27), hcJ k 300 ((q13.1, (uF (uF (uF (uF (uF (uF (uF (uF (uF (uF (uF (uF mo.2.1 1 q2.2.2) 2 q3.2.2) 3 q4.2.2) 4 q5.2.2) 5 q6.2.2) 6 q9.2.2) 7 q10.2.2) 8 q11.2.2) 9 q12.2.2) 10 q13.2.2) 40 q8.2.2) 49 q13.2.1), mo.2.2).2.2 37)), ((va 28), hcI k 8 ((q13.1, (uF (uF (uF (uF (uF (uF (uF (uF (uF (uF (uF (uF mo.2.1 1 q2.2.2) 2 q3.2.2) 3 q4.2.2) 4 q5.2.2) 5 q6.2.2) 6 q9.2.2) 7 q10.2.2) 8 q11.2.2) 9 q12.2.2) 10 q13.2.2) 40 q8.2.2) 49 q13.2.1), mo.2.2).2.1 38)), ((va 29), hcI k 260 ((q13.1, (uF (uF (uF (uF (uF (uF (uF (uF (uF (uF (uF (uF mo.2.1 1 q2.2.2) 2 q3.2.2) 3 q4.2.2) 4 q5.2.2) 5 q6.2.2) 6 q9.2.2) 7 q10.2.2) 8 q11.2.2) 9 q12.2.2) 10 q13.2.2) 40 q8.2.2) 49 q13.2.1), mo.2.2).2.1 39)), ((va 30), hcI k 1 ((q13.1, (uF (uF (uF (uF (uF (uF (uF (uF (uF (uF (uF (uF mo.2.1 1 q2.2.2) 2 q3.2.2) 3 q4.2.2) 4 q5.2.2) 5 q6.2.2) 6 q9.2.2) 7 q10.2.2) 8 q11.2.2) 9 q12.2.2) 10 q13.2.2) 40 q8.2.2) 49 q13.2.1), mo.2.2).2.1 40)), ((va 31), hcZ k 256 ((q13.1, (uF (uF (uF (uF (uF (uF (uF (uF (uF (uF (uF (uF mo.2.1 1 q2.2.2) 2 q3.2.2) 3 q4.2.2) 4 q5.2.2) 5 q6.2.2) 6 q9.2.2) 7 q10.2.2) 8 q11.2.2) 9 q12.2.2) 10 q13.2.2) 40 q8.2.2) 49 q13.2.1), mo.2.2).2.1 44)), ((va 32), hcI k 4 ((q13.1, (uF (uF (uF (uF (uF (uF (uF (uF (uF (uF (uF (uF mo.2.1 1 q2.2.2) 2 q3.2.2) 3 q4.2.2) 4 q5.2.2) 5 q6.2.2) 6 q9.2.2) 7 q10.2.2) 8 q11.2.2) 9 q12.2.2) 10 q13.2.2) 40 q8.2.2) 49 q13.2.1), mo.2.2).2.1 45)), ((va 33), hcI k 4 ((q13.1, (uF (uF (uF (uF (uF (uF (uF (uF (uF (uF (uF (uF mo.2.1 1 q2.2.2) 2 q3.2.2) 3 q4.2.2) 4 q5.2.2) 5 q6.2.2) 6 q9.2.2) 7 q10.2.2) 8 q11.2.2) 9 q12.2.2) 10 q13.2.2) 40 q8.2.2) 49 q13.2.1), mo.2.2).2.1 46)), ((va 34), hcI k 488 ((q13.1, (uF (uF (uF (uF (uF (uF (uF (uF (uF (uF (uF (uF mo.2.1 1 q2.2.2) 2 q3.2.2) 3 q4.2.2) 4 q5.2.2) 5 q6.2.2) 6 q9.2.2) 7 q10.2.2) 8 q11.2.2) 9 q12.2.2) 10 q13.2.2) 40 q8.2.2) 49 q13.2.1), mo.2.2).2.1 47)), ((va 35), hcI k 56 ((q13.1, (uF (uF (uF (uF (uF (uF (uF (uF (uF (uF (uF (uF mo.2.1 1 q2.2.2) 2 q3.2.2) 3 q4.2.2) 4 q5.2.2) 5 q6.2.2) 6 q9.2.2) 7 q10.2.2) 8 q11.2.2) 9 q12.2.2) 10 q13.2.2) 40 q8.2.2) 49 q13.2.1), mo.2.2).2.1 48)), ((va 37), hcZ k 4 ((q13.1, (uF (uF (uF (uF (uF (uF (uF (uF (uF (uF (uF (uF mo.2.1 1 q2.2.2) 2 q3.2.2) 3 q4.2.2) 4 q5.2.2) 5 q6.2.2) 6 q9.2.2) 7 q10.2.2) 8 q11.2.2) 9 q12.2.2) 10 q13.2.2) 40 q8.2.2) 49 q13.2.1), mo.2.2).2.1 50))] : va_W)) (wp := fun b : (Nat → Int32) × (Nat → Int32) × (Nat → Int32) => ([((va 0), .inr (7, [.int (b.1 0), .ref (va 1), .ref (va 2), .ref (va 3), .ref (va 4), .ref (va 5), .ref (va 6), .ref (va 7), .ref (va 8), .ref (va 9), .ref (va 10), .ref (va 11), .ref (va 12), .ref (va 13), .ref (va 14), .ref (va 15), .ref (va 16), .ref (va 17), .int (b.1 18), .int (b.1 19), .int (b.1 20), .int (b.1 21), .int (b.1 22), .int (b.1 23), .int (b.1 24), .int (b.1 25), .int (b.1 26), .int (b.1 27), .ref (va 18), .ref (va 19), .ref (va 20), .ref (va 21), .ref (va 22), .ref (va 23), .ref (va 24), .ref (va 25), .ref (va 26), .ref (va 27), .ref (va 28), .ref (va 29), .ref (va 30), .int (b.1 41), .int (b.1 42), .int (b.1 43), .ref (va 31), .ref (va 32), .ref (va 33), .ref (va 34), .ref (va 35), .ref (va 36), .ref (va 37), .int (b.1 51), .int (b.1 52)]))] : va_W) ++ (([((va 36), hcI k 2000 b.2.1)] : va_W) ++ (([((va 11), hcI k 4 b.2.2)] : va_W)))) h hx hb hml hown hts hG hA hP hD hS hl.1 [0, 36, 11] [1, 2, 3, 4, 5, 6, 7, 8, 9, 10, 12, 13, 14, 15, 16, 17, 18, 19, 20, 21, 22, 23, 24, 25, 26, 27, 28, 29, 30, 31, 32, 33, 34, 35, 37] (fun q hq9 => c_X9_carryRow l D k _  va (va 11) F 4 q13.1 q13.2.1 (mo.2.1 11)  hq9) (ci := 7) (q0 := 0) rfl rfl gX9_carriesAll_X9_carryRow rfl ⟨rfl, rfl, Nat.le_of_ble_eq_true rfl, Nat.le_of_ble_eq_true rfl⟩ (by decide +kernel) rfl rfl ⟨by decide +kernel, by decide +kernel, by decide +kernel⟩ ⟨rfl, rfl, Nat.le_of_ble_eq_true rfl, Nat.le_of_ble_eq_true rfl, Nat.le_of_ble_eq_true rfl⟩ dX9_carriesAll_133 (fun q14 H locs h hP hD hS => ?_)
    obtain ⟨hP, hD⟩ := cvs (w' := moW k va (q14.1, (uF (uF (uF (uF (uF (uF (uF (uF (uF (uF (uF (uF (uF mo.2.1 1 q2.2.2) 2 q3.2.2) 3 q4.2.2) 4 q5.2.2) 5 q6.2.2) 6 q9.2.2) 7 q10.2.2) 8 q11.2.2) 9 q12.2.2) 10 q13.2.2) 11 q14.2.2) 40 q8.2.2) 49 q14.2.1), mo.2.2)) hP hD [35, 0, 1, 2, 3, 4, 5, 6, 7, 8, 9, 37, 10, 11, 12, 13, 14, 15, 16, 17, 18, 19, 20, 21, 22, 23, 24, 25, 26, 27, 28, 29, 30, 31, 32, 33, 36, 34] (by decide +kernel) rfl
    refine lv_aload_n hx hb dX9_carriesAll_136 rfl (lv_at hl 0 rfl) ?_
    refine lv_aload_n hx hb dX9_carriesAll_137 rfl (lv_at hl 0 rfl) ?_
    refine va_get (D := D) (ci := 7) (v := .ref (va 29)) (C := RX9) (T := TX9) (N := 53) hx hb hts in9 hown hG.1 hP 0 rfl rfl 39 (by decide) (hts (.fieldLink RX9 100 "ChairCaneModel" "past" "[I") (mem_b bq_wsX9_carriesAll 0 15 rfl)) (fun _ h9 => h9) rfl dX9_carriesAll_138 ?_
    refine fw_Vv (As := [.ref (va 29)]) (rest := []) (n := 1) (wr := ([((va 1), hcI k 8 ((q14.1, (uF (uF (uF (uF (uF (uF (uF (uF (uF (uF (uF (uF (uF mo.2.1 1 q2.2.2) 2 q3.2.2) 3 q4.2.2) 4 q5.2.2) 5 q6.2.2) 6 q9.2.2) 7 q10.2.2) 8 q11.2.2) 9 q12.2.2) 10 q13.2.2) 11 q14.2.2) 40 q8.2.2) 49 q14.2.1), mo.2.2).2.1 1)), ((va 2), hcI k 4 ((q14.1, (uF (uF (uF (uF (uF (uF (uF (uF (uF (uF (uF (uF (uF mo.2.1 1 q2.2.2) 2 q3.2.2) 3 q4.2.2) 4 q5.2.2) 5 q6.2.2) 6 q9.2.2) 7 q10.2.2) 8 q11.2.2) 9 q12.2.2) 10 q13.2.2) 11 q14.2.2) 40 q8.2.2) 49 q14.2.1), mo.2.2).2.1 2)), ((va 3), hcI k 8 ((q14.1, (uF (uF (uF (uF (uF (uF (uF (uF (uF (uF (uF (uF (uF mo.2.1 1 q2.2.2) 2 q3.2.2) 3 q4.2.2) 4 q5.2.2) 5 q6.2.2) 6 q9.2.2) 7 q10.2.2) 8 q11.2.2) 9 q12.2.2) 10 q13.2.2) 11 q14.2.2) 40 q8.2.2) 49 q14.2.1), mo.2.2).2.1 3)), ((va 4), hcI k 8 ((q14.1, (uF (uF (uF (uF (uF (uF (uF (uF (uF (uF (uF (uF (uF mo.2.1 1 q2.2.2) 2 q3.2.2) 3 q4.2.2) 4 q5.2.2) 5 q6.2.2) 6 q9.2.2) 7 q10.2.2) 8 q11.2.2) 9 q12.2.2) 10 q13.2.2) 11 q14.2.2) 40 q8.2.2) 49 q14.2.1), mo.2.2).2.1 4)), ((va 5), hcI k 8 ((q14.1, (uF (uF (uF (uF (uF (uF (uF (uF (uF (uF (uF (uF (uF mo.2.1 1 q2.2.2) 2 q3.2.2) 3 q4.2.2) 4 q5.2.2) 5 q6.2.2) 6 q9.2.2) 7 q10.2.2) 8 q11.2.2) 9 q12.2.2) 10 q13.2.2) 11 q14.2.2) 40 q8.2.2) 49 q14.2.1), mo.2.2).2.1 5)), ((va 6), hcI k 8 ((q14.1, (uF (uF (uF (uF (uF (uF (uF (uF (uF (uF (uF (uF (uF mo.2.1 1 q2.2.2) 2 q3.2.2) 3 q4.2.2) 4 q5.2.2) 5 q6.2.2) 6 q9.2.2) 7 q10.2.2) 8 q11.2.2) 9 q12.2.2) 10 q13.2.2) 11 q14.2.2) 40 q8.2.2) 49 q14.2.1), mo.2.2).2.1 6)), ((va 7), hcI k 8 ((q14.1, (uF (uF (uF (uF (uF (uF (uF (uF (uF (uF (uF (uF (uF mo.2.1 1 q2.2.2) 2 q3.2.2) 3 q4.2.2) 4 q5.2.2) 5 q6.2.2) 6 q9.2.2) 7 q10.2.2) 8 q11.2.2) 9 q12.2.2) 10 q13.2.2) 11 q14.2.2) 40 q8.2.2) 49 q14.2.1), mo.2.2).2.1 7)), ((va 8), hcI k 10 ((q14.1, (uF (uF (uF (uF (uF (uF (uF (uF (uF (uF (uF (uF (uF mo.2.1 1 q2.2.2) 2 q3.2.2) 3 q4.2.2) 4 q5.2.2) 5 q6.2.2) 6 q9.2.2) 7 q10.2.2) 8 q11.2.2) 9 q12.2.2) 10 q13.2.2) 11 q14.2.2) 40 q8.2.2) 49 q14.2.1), mo.2.2).2.1 8)), ((va 9), hcI k 10 ((q14.1, (uF (uF (uF (uF (uF (uF (uF (uF (uF (uF (uF (uF (uF mo.2.1 1 q2.2.2) 2 q3.2.2) 3 q4.2.2) 4 q5.2.2) 5 q6.2.2) 6 q9.2.2) 7 q10.2.2) 8 q11.2.2) 9 q12.2.2) 10 q13.2.2) 11 q14.2.2) 40 q8.2.2) 49 q14.2.1), mo.2.2).2.1 9)), ((va 10), hcI k 10 ((q14.1, (uF (uF (uF (uF (uF (uF (uF (uF (uF (uF (uF (uF (uF mo.2.1 1 q2.2.2) 2 q3.2.2) 3 q4.2.2) 4 q5.2.2) 5 q6.2.2) 6 q9.2.2) 7 q10.2.2) 8 q11.2.2) 9 q12.2.2) 10 q13.2.2) 11 q14.2.2) 40 q8.2.2) 49 q14.2.1), mo.2.2).2.1 10)), ((va 11), hcI k 4 ((q14.1, (uF (uF (uF (uF (uF (uF (uF (uF (uF (uF (uF (uF (uF mo.2.1 1 q2.2.2) 2 q3.2.2) 3 q4.2.2) 4 q5.2.2) 5 q6.2.2) 6 q9.2.2) 7 q10.2.2) 8 q11.2.2) 9 q12.2.2) 10 q13.2.2) 11 q14.2.2) 40 q8.2.2) 49 q14.2.1), mo.2.2).2.1 11)), ((va 12), hcI k 4 ((q14.1, (uF (uF (uF (uF (uF (uF (uF (uF (uF (uF (uF (uF (uF mo.2.1 1 q2.2.2) 2 q3.2.2) 3 q4.2.2) 4 q5.2.2) 5 q6.2.2) 6 q9.2.2) 7 q10.2.2) 8 q11.2.2) 9 q12.2.2) 10 q13.2.2) 11 q14.2.2) 40 q8.2.2) 49 q14.2.1), mo.2.2).2.1 12)), ((va 13), hcI k 4 ((q14.1, (uF (uF (uF (uF (uF (uF (uF (uF (uF (uF (uF (uF (uF mo.2.1 1 q2.2.2) 2 q3.2.2) 3 q4.2.2) 4 q5.2.2) 5 q6.2.2) 6 q9.2.2) 7 q10.2.2) 8 q11.2.2) 9 q12.2.2) 10 q13.2.2) 11 q14.2.2) 40 q8.2.2) 49 q14.2.1), mo.2.2).2.1 13)), ((va 14), hcI k 8 ((q14.1, (uF (uF (uF (uF (uF (uF (uF (uF (uF (uF (uF (uF (uF mo.2.1 1 q2.2.2) 2 q3.2.2) 3 q4.2.2) 4 q5.2.2) 5 q6.2.2) 6 q9.2.2) 7 q10.2.2) 8 q11.2.2) 9 q12.2.2) 10 q13.2.2) 11 q14.2.2) 40 q8.2.2) 49 q14.2.1), mo.2.2).2.1 14)), ((va 15), hcI k 8 ((q14.1, (uF (uF (uF (uF (uF (uF (uF (uF (uF (uF (uF (uF (uF mo.2.1 1 q2.2.2) 2 q3.2.2) 3 q4.2.2) 4 q5.2.2) 5 q6.2.2) 6 q9.2.2) 7 q10.2.2) 8 q11.2.2) 9 q12.2.2) 10 q13.2.2) 11 q14.2.2) 40 q8.2.2) 49 q14.2.1), mo.2.2).2.1 15)), ((va 16), hcI k 8 ((q14.1, (uF (uF (uF (uF (uF (uF (uF (uF (uF (uF (uF (uF (uF mo.2.1 1 q2.2.2) 2 q3.2.2) 3 q4.2.2) 4 q5.2.2) 5 q6.2.2) 6 q9.2.2) 7 q10.2.2) 8 q11.2.2) 9 q12.2.2) 10 q13.2.2) 11 q14.2.2) 40 q8.2.2) 49 q14.2.1), mo.2.2).2.1 16)), ((va 17), hcI k 8 ((q14.1, (uF (uF (uF (uF (uF (uF (uF (uF (uF (uF (uF (uF (uF mo.2.1 1 q2.2.2) 2 q3.2.2) 3 q4.2.2) 4 q5.2.2) 5 q6.2.2) 6 q9.2.2) 7 q10.2.2) 8 q11.2.2) 9 q12.2.2) 10 q13.2.2) 11 q14.2.2) 40 q8.2.2) 49 q14.2.1), mo.2.2).2.1 17)), ((va 18), hcY k 400 ((q14.1, (uF (uF (uF (uF (uF (uF (uF (uF (uF (uF (uF (uF (uF mo.2.1 1 q2.2.2) 2 q3.2.2) 3 q4.2.2) 4 q5.2.2) 5 q6.2.2) 6 q9.2.2) 7 q10.2.2) 8 q11.2.2) 9 q12.2.2) 10 q13.2.2) 11 q14.2.2) 40 q8.2.2) 49 q14.2.1), mo.2.2).2.1 28)), ((va 19), hcI k 1800 ((q14.1, (uF (uF (uF (uF (uF (uF (uF (uF (uF (uF (uF (uF (uF mo.2.1 1 q2.2.2) 2 q3.2.2) 3 q4.2.2) 4 q5.2.2) 5 q6.2.2) 6 q9.2.2) 7 q10.2.2) 8 q11.2.2) 9 q12.2.2) 10 q13.2.2) 11 q14.2.2) 40 q8.2.2) 49 q14.2.1), mo.2.2).2.1 29)), ((va 20), hcI k 1800 ((q14.1, (uF (uF (uF (uF (uF (uF (uF (uF (uF (uF (uF (uF (uF mo.2.1 1 q2.2.2) 2 q3.2.2) 3 q4.2.2) 4 q5.2.2) 5 q6.2.2) 6 q9.2.2) 7 q10.2.2) 8 q11.2.2) 9 q12.2.2) 10 q13.2.2) 11 q14.2.2) 40 q8.2.2) 49 q14.2.1), mo.2.2).2.1 30)), ((va 21), hcI k 6 ((q14.1, (uF (uF (uF (uF (uF (uF (uF (uF (uF (uF (uF (uF (uF mo.2.1 1 q2.2.2) 2 q3.2.2) 3 q4.2.2) 4 q5.2.2) 5 q6.2.2) 6 q9.2.2) 7 q10.2.2) 8 q11.2.2) 9 q12.2.2) 10 q13.2.2) 11 q14.2.2) 40 q8.2.2) 49 q14.2.1), mo.2.2).2.1 31)), ((va 22), hcI k 72 ((q14.1, (uF (uF (uF (uF (uF (uF (uF (uF (uF (uF (uF (uF (uF mo.2.1 1 q2.2.2) 2 q3.2.2) 3 q4.2.2) 4 q5.2.2) 5 q6.2.2) 6 q9.2.2) 7 q10.2.2) 8 q11.2.2) 9 q12.2.2) 10 q13.2.2) 11 q14.2.2) 40 q8.2.2) 49 q14.2.1), mo.2.2).2.1 32)), ((va 23), hcI k 72 ((q14.1, (uF (uF (uF (uF (uF (uF (uF (uF (uF (uF (uF (uF (uF mo.2.1 1 q2.2.2) 2 q3.2.2) 3 q4.2.2) 4 q5.2.2) 5 q6.2.2) 6 q9.2.2) 7 q10.2.2) 8 q11.2.2) 9 q12.2.2) 10 q13.2.2) 11 q14.2.2) 40 q8.2.2) 49 q14.2.1), mo.2.2).2.1 33)), ((va 24), hcI k 72 ((q14.1, (uF (uF (uF (uF (uF (uF (uF (uF (uF (uF (uF (uF (uF mo.2.1 1 q2.2.2) 2 q3.2.2) 3 q4.2.2) 4 q5.2.2) 5 q6.2.2) 6 q9.2.2) 7 q10.2.2) 8 q11.2.2) 9 q12.2.2) 10 q13.2.2) 11 q14.2.2) 40 q8.2.2) 49 q14.2.1), mo.2.2).2.1 34)), ((va 25), hcI k 402 ((q14.1, (uF (uF (uF (uF (uF (uF (uF (uF (uF (uF (uF (uF (uF mo.2.1 1 q2.2.2) 2 q3.2.2) 3 q4.2.2) 4 q5.2.2) 5 q6.2.2) 6 q9.2.2) 7 q10.2.2) 8 q11.2.2) 9 q12.2.2) 10 q13.2.2) 11 q14.2.2) 40 q8.2.2) 49 q14.2.1), mo.2.2).2.1 35)), ((va 26), hcJ k 11 ((q14.1, (uF (uF (uF (uF (uF (uF (uF (uF (uF (uF (uF (uF (uF mo.2.1 1 q2.2.2) 2 q3.2.2) 3 q4.2.2) 4 q5.2.2) 5 q6.2.2) 6 q9.2.2) 7 q10.2.2) 8 q11.2.2) 9 q12.2.2) 10 q13.2.2) 11 q14.2.2) 40 q8.2.2) 49 q14.2.1), mo.2.2).2.2 36)), ((va 27), hcJ k 300 ((q14.1, (uF (uF (uF (uF (uF (uF (uF (uF (uF (uF (uF (uF (uF mo.2.1 1 q2.2.2) 2 q3.2.2) 3 q4.2.2) 4 q5.2.2) 5 q6.2.2) 6 q9.2.2) 7 q10.2.2) 8 q11.2.2) 9 q12.2.2) 10 q13.2.2) 11 q14.2.2) 40 q8.2.2) 49 q14.2.1), mo.2.2).2.2 37)), ((va 28), hcI k 8 ((q14.1, (uF (uF (uF (uF (uF (uF (uF (uF (uF (uF (uF (uF (uF mo.2.1 1 q2.2.2) 2 q3.2.2) 3 q4.2.2) 4 q5.2.2) 5 q6.2.2) 6 q9.2.2) 7 q10.2.2) 8 q11.2.2) 9 q12.2.2) 10 q13.2.2) 11 q14.2.2) 40 q8.2.2) 49 q14.2.1), mo.2.2).2.1 38)), ((va 30), hcI k 1 ((q14.1, (uF (uF (uF (uF (uF (uF (uF (uF (uF (uF (uF (uF (uF mo.2.1 1 q2.2.2) 2 q3.2.2) 3 q4.2.2) 4 q5.2.2) 5 q6.2.2) 6 q9.2.2) 7 q10.2.2) 8 q11.2.2) 9 q12.2.2) 10 q13.2.2) 11 q14.2.2) 40 q8.2.2) 49 q14.2.1), mo.2.2).2.1 40)), ((va 31), hcZ k 256 ((q14.1, (uF (uF (uF (uF (uF (uF (uF (uF (uF (uF (uF (uF (uF mo.2.1 1 q2.2.2) 2 q3.2.2) 3 q4.2.2) 4 q5.2.2) 5 q6.2.2) 6 q9.2.2) 7 q10.2.2) 8 q11.2.2) 9 q12.2.2) 10 q13.2.2) 11 q14.2.2) 40 q8.2.2) 49 q14.2.1), mo.2.2).2.1 44)), ((va 32), hcI k 4 ((q14.1, (uF (uF (uF (uF (uF (uF (uF (uF (uF (uF (uF (uF (uF mo.2.1 1 q2.2.2) 2 q3.2.2) 3 q4.2.2) 4 q5.2.2) 5 q6.2.2) 6 q9.2.2) 7 q10.2.2) 8 q11.2.2) 9 q12.2.2) 10 q13.2.2) 11 q14.2.2) 40 q8.2.2) 49 q14.2.1), mo.2.2).2.1 45)), ((va 33), hcI k 4 ((q14.1, (uF (uF (uF (uF (uF (uF (uF (uF (uF (uF (uF (uF (uF mo.2.1 1 q2.2.2) 2 q3.2.2) 3 q4.2.2) 4 q5.2.2) 5 q6.2.2) 6 q9.2.2) 7 q10.2.2) 8 q11.2.2) 9 q12.2.2) 10 q13.2.2) 11 q14.2.2) 40 q8.2.2) 49 q14.2.1), mo.2.2).2.1 46)), ((va 34), hcI k 488 ((q14.1, (uF (uF (uF (uF (uF (uF (uF (uF (uF (uF (uF (uF (uF mo.2.1 1 q2.2.2) 2 q3.2.2) 3 q4.2.2) 4 q5.2.2) 5 q6.2.2) 6 q9.2.2) 7 q10.2.2) 8 q11.2.2) 9 q12.2.2) 10 q13.2.2) 11 q14.2.2) 40 q8.2.2) 49 q14.2.1), mo.2.2).2.1 47)), ((va 35), hcI k 56 ((q14.1, (uF (uF (uF (uF (uF (uF (uF (uF (uF (uF (uF (uF (uF mo.2.1 1 q2.2.2) 2 q3.2.2) 3 q4.2.2) 4 q5.2.2) 5 q6.2.2) 6 q9.2.2) 7 q10.2.2) 8 q11.2.2) 9 q12.2.2) 10 q13.2.2) 11 q14.2.2) 40 q8.2.2) 49 q14.2.1), mo.2.2).2.1 48)), ((va 37), hcZ k 4 ((q14.1, (uF (uF (uF (uF (uF (uF (uF (uF (uF (uF (uF (uF (uF mo.2.1 1 q2.2.2) 2 q3.2.2) 3 q4.2.2) 4 q5.2.2) 5 q6.2.2) 6 q9.2.2) 7 q10.2.2) 8 q11.2.2) 9 q12.2.2) 10 q13.2.2) 11 q14.2.2) 40 q8.2.2) 49 q14.2.1), mo.2.2).2.1 50))] : va_W)) (wp := fun b : (Nat → Int32) × (Nat → Int32) × (Nat → Int32) => ([((va 0), .inr (7, [.int (b.1 0), .ref (va 1), .ref (va 2), .ref (va 3), .ref (va 4), .ref (va 5), .ref (va 6), .ref (va 7), .ref (va 8), .ref (va 9), .ref (va 10), .ref (va 11), .ref (va 12), .ref (va 13), .ref (va 14), .ref (va 15), .ref (va 16), .ref (va 17), .int (b.1 18), .int (b.1 19), .int (b.1 20), .int (b.1 21), .int (b.1 22), .int (b.1 23), .int (b.1 24), .int (b.1 25), .int (b.1 26), .int (b.1 27), .ref (va 18), .ref (va 19), .ref (va 20), .ref (va 21), .ref (va 22), .ref (va 23), .ref (va 24), .ref (va 25), .ref (va 26), .ref (va 27), .ref (va 28), .ref (va 29), .ref (va 30), .int (b.1 41), .int (b.1 42), .int (b.1 43), .ref (va 31), .ref (va 32), .ref (va 33), .ref (va 34), .ref (va 35), .ref (va 36), .ref (va 37), .int (b.1 51), .int (b.1 52)]))] : va_W) ++ (([((va 36), hcI k 2000 b.2.1)] : va_W) ++ (([((va 29), hcI k 260 b.2.2)] : va_W)))) h hx hb hml hown hts hG hA hP hD hS hl.1 [0, 36, 29] [1, 2, 3, 4, 5, 6, 7, 8, 9, 10, 11, 12, 13, 14, 15, 16, 17, 18, 19, 20, 21, 22, 23, 24, 25, 26, 27, 28, 30, 31, 32, 33, 34, 35, 37] (fun q hq9 => c_X9_carryRow l D k _  va (va 29) F 260 q14.1 q14.2.1 (mo.2.1 39)  hq9) (ci := 7) (q0 := 0) rfl rfl gX9_carriesAll_X9_carryRow rfl ⟨rfl, rfl, Nat.le_of_ble_eq_true rfl, Nat.le_of_ble_eq_true rfl⟩ (by decide +kernel) rfl rfl ⟨by decide +kernel, by decide +kernel, by decide +kernel⟩ ⟨rfl, rfl, Nat.le_of_ble_eq_true rfl, Nat.le_of_ble_eq_true rfl, Nat.le_of_ble_eq_true rfl⟩ dX9_carriesAll_141 (fun q15 H locs h hP hD hS => ?_)
    obtain ⟨hP, hD⟩ := cvs (w' := moW k va (q15.1, (uF (uF (uF (uF (uF (uF (uF (uF (uF (uF (uF (uF (uF (uF mo.2.1 1 q2.2.2) 2 q3.2.2) 3 q4.2.2) 4 q5.2.2) 5 q6.2.2) 6 q9.2.2) 7 q10.2.2) 8 q11.2.2) 9 q12.2.2) 10 q13.2.2) 11 q14.2.2) 39 q15.2.2) 40 q8.2.2) 49 q15.2.1), mo.2.2)) hP hD [35, 0, 1, 2, 3, 4, 5, 6, 7, 8, 9, 10, 11, 12, 13, 14, 15, 16, 17, 18, 19, 20, 21, 22, 23, 24, 25, 26, 27, 37, 28, 29, 30, 31, 32, 33, 36, 34] (by decide +kernel) rfl
    exact fw_endV (wp := fun b : OB => moW k va b) hx hb hr hlocks h hP hD hS dX9_carriesAll_144
  · have h := fw_t c7 h
    exact fw_endV (wp := fun b : OB => moW k va b) hx hb hr hlocks h hP hD hS dX9_carriesAll_59
noncomputable def f_X9_keepsAll (F : Nat)   (mo : OB) : Option (OB) :=
  Option.bind (f_X9_carriesAll F 4 0 mo) (fun q1 => (some q1))
set_option maxHeartbeats 4000000 in
set_option maxRecDepth 100000 in
theorem c_X9_keepsAll (l : Launch) (D : va_G) (k : Nat → ClassId) (sz : Nat)  (va : Nat → Nat) (F : Nat)   (mo : OB)  {res : OB} (h : f_X9_keepsAll F mo = some res) : CtV l yX9_keepsAll wsX9_keepsAll (rmK 3 0 0) [.ref (va 0)] D k sz (moW k va mo) (fun (_ : Unit) => True) (fun _ : Unit => moW k va res) 0 0 := by
  refine CtV.mk (cc := cX9_keepsAll) (maxL := 1) (ret := none) (by decide) rfl (Nat.le_of_ble_eq_true rfl) ?_
  intro p e s m below meth c A ls E hP hD hS hl
  obtain ⟨hx, hb, hr, hml, hown, hts, hlocks, hin, hG, hA⟩ := E
  have hown : s.vm.findClass RX9 = some m.cls := hown
  have in9 : ∀ w ∈ u_ws RX9 TX9 53, w ∈ wsX9_keepsAll := fun _ h => List.mem_cons_of_mem _ (List.mem_append_right _ h)
  have hl : lv_has ls 1 [(0, .ref (va 0))] := hl
  refine lv_aload_n hx hb dX9_keepsAll_0 rfl (lv_at hl 0 rfl) ?_
  refine lv_iconst (v := 4) hx hb dX9_keepsAll_1 (by decide) ?_
  refine lv_iconst (v := 0) hx hb dX9_keepsAll_2 (by decide) ?_
  refine fw_Vv (As := [.int 4, .int 0]) (rest := []) (n := 2) (wr := []) (wp := fun b : OB => moW k va b) h hx hb hml hown hts hG hA hP hD hS hl.1 (List.range (moW k va mo).length) [] (fun q hq9 => c_X9_carriesAll l D k _  va F 4 0 mo  hq9) (ci := 7) (q0 := 0) rfl rfl gX9_keepsAll_X9_carriesAll rfl ⟨rfl, rfl, Nat.le_of_ble_eq_true rfl, Nat.le_of_ble_eq_true rfl⟩ (by decide +kernel) (al_C _) rfl (al_n _) ⟨rfl, rfl, Nat.le_of_ble_eq_true rfl, Nat.le_of_ble_eq_true rfl, Nat.le_of_ble_eq_true rfl⟩ dX9_keepsAll_3 (fun q1 H locs h hP hD hS => ?_)
  obtain ⟨hP, hD⟩ := cv (w' := moW k va q1) hP hD rfl
  exact fw_endV (wp := fun b : OB => moW k va b) hx hb hr hlocks h hP hD hS dX9_keepsAll_6
noncomputable def f_X9_laysBack (F : Nat)   (mo : OB) : Option (OB) :=
  Option.bind (f_X9_carriesAll F 4 1 mo) (fun q1 => (some q1))
set_option maxHeartbeats 4000000 in
set_option maxRecDepth 100000 in
theorem c_X9_laysBack (l : Launch) (D : va_G) (k : Nat → ClassId) (sz : Nat)  (va : Nat → Nat) (F : Nat)   (mo : OB)  {res : OB} (h : f_X9_laysBack F mo = some res) : CtV l yX9_laysBack wsX9_laysBack (rmK 3 0 0) [.ref (va 0)] D k sz (moW k va mo) (fun (_ : Unit) => True) (fun _ : Unit => moW k va res) 0 0 := by
  refine CtV.mk (cc := cX9_laysBack) (maxL := 1) (ret := none) (by decide) rfl (Nat.le_of_ble_eq_true rfl) ?_
  intro p e s m below meth c A ls E hP hD hS hl
  obtain ⟨hx, hb, hr, hml, hown, hts, hlocks, hin, hG, hA⟩ := E
  have hown : s.vm.findClass RX9 = some m.cls := hown
  have in9 : ∀ w ∈ u_ws RX9 TX9 53, w ∈ wsX9_laysBack := fun _ h => List.mem_cons_of_mem _ (List.mem_append_right _ h)
  have hl : lv_has ls 1 [(0, .ref (va 0))] := hl
  refine lv_aload_n hx hb dX9_laysBack_0 rfl (lv_at hl 0 rfl) ?_
  refine lv_iconst (v := 4) hx hb dX9_laysBack_1 (by decide) ?_
  refine lv_iconst (v := 1) hx hb dX9_laysBack_2 (by decide) ?_
  refine fw_Vv (As := [.int 4, .int 1]) (rest := []) (n := 2) (wr := []) (wp := fun b : OB => moW k va b) h hx hb hml hown hts hG hA hP hD hS hl.1 (List.range (moW k va mo).length) [] (fun q hq9 => c_X9_carriesAll l D k _  va F 4 1 mo  hq9) (ci := 7) (q0 := 0) rfl rfl gX9_laysBack_X9_carriesAll rfl ⟨rfl, rfl, Nat.le_of_ble_eq_true rfl, Nat.le_of_ble_eq_true rfl⟩ (by decide +kernel) (al_C _) rfl (al_n _) ⟨rfl, rfl, Nat.le_of_ble_eq_true rfl, Nat.le_of_ble_eq_true rfl, Nat.le_of_ble_eq_true rfl⟩ dX9_laysBack_3 (fun q1 H locs h hP hD hS => ?_)
  obtain ⟨hP, hD⟩ := cv (w' := moW k va q1) hP hD rfl
  exact fw_endV (wp := fun b : OB => moW k va b) hx hb hr hlocks h hP hD hS dX9_laysBack_6
noncomputable def b_X9_ahead_44 (F : Nat)    (mo : OB) : Option (Int32 × OB) :=
  some ((-1), mo)
noncomputable def b_X9_ahead_89 (F : Nat)    (y0 : Int32) (mo : OB) : Option (Int32 × OB) :=
  Option.bind (f_X9_laysBack F mo) (fun q1 => (some (y0, q1)))
noncomputable def b_X9_ahead_32 (F : Nat)    (v1 : Int32) (v2 : Int32) (v3 : Int32) (mo : OB) : Option (Int32 × OB) :=
  Option.bind (f_X9_in F (Int32.toInt64 v2) 0 100) (fun q2 => (if q2 = 0 then (b_X9_ahead_44 F mo) else (Option.bind (f_X9_keepsAll F mo) (fun q4 => (Option.bind (f_X9_goFor F v2 q4) (fun q5 => (if v3 = 0 then (if ib v1 8 then (b_X9_ahead_89 F ((q5.2.1 3) (Int32.toNatClampNeg v1)) q5) else none) else (if v3 = 1 then (Option.bind (f_X9_givesNow F v1 q5) (fun q10 => (b_X9_ahead_89 F q10 q5))) else (Option.bind (f_X9_those F 2 q5) (fun q8 => (Option.bind (f_X9_bits F q8) (fun q9 => (b_X9_ahead_89 F q9 q5)))))))))))))
noncomputable def f_X9_ahead (F : Nat)  (x1 : Int32) (x2 : Int32) (x3 : Int32) (mo : OB) : Option (Int32 × OB) :=
  Option.bind (f_X9_isHall F mo) (fun q12 => (if q12 = 0 then (b_X9_ahead_44 F mo) else (Option.bind (f_X9_in F (Int32.toInt64 x3) 0 2) (fun q14 => (if q14 = 0 then (b_X9_ahead_44 F mo) else (if 2 ≤ x3 then (b_X9_ahead_32 F x1 x2 x3 mo) else (Option.bind (f_X9_isSitter F x1 mo) (fun q17 => (if q17 = 0 then (b_X9_ahead_44 F mo) else (b_X9_ahead_32 F x1 x2 x3 mo))))))))))
set_option maxHeartbeats 4000000 in
set_option maxRecDepth 100000 in
theorem c_X9_ahead (l : Launch) (D : va_G) (k : Nat → ClassId) (sz : Nat)  (va : Nat → Nat) (F : Nat)  (x1 : Int32) (x2 : Int32) (x3 : Int32) (mo : OB)  {res : Int32 × OB} (h : f_X9_ahead F x1 x2 x3 mo = some res) : CtI l yX9_ahead wsX9_ahead (rmK 8 0 0) [.ref (va 0), .int x1, .int x2, .int x3] D k sz (moW k va mo) (fun r (_ : Unit) => r = res.1) (fun _ : Unit => moW k va res.2) 0 0 := by
  refine CtI.mk (cc := cX9_ahead) (maxL := 5) (ret := (some .int)) (by decide) rfl (Nat.le_of_ble_eq_true rfl) ?_
  intro p e s m below meth c A ls E hP hD hS hl
  obtain ⟨hx, hb, hr, hml, hown, hts, hlocks, hin, hG, hA⟩ := E
  have hown : s.vm.findClass RX9 = some m.cls := hown
  have in9 : ∀ w ∈ u_ws RX9 TX9 53, w ∈ wsX9_ahead := fun _ h => List.mem_cons_of_mem _ (List.mem_append_right _ h)
  have hl : lv_has ls 5 [(0, .ref (va 0)), (1, .int x1), (2, .int x2), (3, .int x3)] := hl
  have B44 : ∀ (mo : OB) (H : Heap) (locs : List Loc) (ls : Array Slot), b_X9_ahead_44 F mo = some res → va_P D vwCl (moW k va mo) H → va_D A (moW k va mo) → va_S A s.heap H locs → lv_has ls 5 [] → W p l e (rmK 8 0 0) s m (List.toArray [.ref (va 0), .int x1, .int x2, .int x3]) below meth c H locs 0 0 (MQ below (va_Qi (fun r (_ : Unit) => r = res.1) (hcB D (fun _ : Unit => moW k va res.2) A) A) (List.toArray [.ref (va 0), .int x1, .int x2, .int x3]) s 0 0 A) (F0 m 44 ls []) := by
    intro mo H locs ls h hP hD hS hl
    refine lv_iconst (v := (-1)) hx hb dX9_ahead_44 (by decide) ?_
    exact fw_endI (rv := fun b : Int32 × OB => b.1) (wp := fun b : Int32 × OB => moW k va b.2) hx hb hr hlocks h rfl hP hD hS dX9_ahead_45
  have B89 : ∀ (y0 : Int32) (mo : OB) (H : Heap) (locs : List Loc) (ls : Array Slot), b_X9_ahead_89 F y0 mo = some res → va_P D vwCl (moW k va mo) H → va_D A (moW k va mo) → va_S A s.heap H locs → lv_has ls 5 [(0, .ref (va 0))] → W p l e (rmK 8 0 0) s m (List.toArray [.ref (va 0), .int x1, .int x2, .int x3]) below meth c H locs 0 0 (MQ below (va_Qi (fun r (_ : Unit) => r = res.1) (hcB D (fun _ : Unit => moW k va res.2) A) A) (List.toArray [.ref (va 0), .int x1, .int x2, .int x3]) s 0 0 A) (F0 m 89 ls [.int y0]) := by
    intro y0 mo H locs ls h hP hD hS hl
    refine lv_istore (lv' := [(4, .int y0), (0, .ref (va 0))]) hx hb dX9_ahead_89 hl (by decide) rfl (fun ls hl => ?_)
    refine lv_aload_n hx hb dX9_ahead_91 rfl (lv_at hl 1 rfl) ?_
    refine fw_Vv (As := []) (rest := []) (n := 0) (wr := []) (wp := fun b : OB => moW k va b) h hx hb hml hown hts hG hA hP hD hS hl.1 (List.range (moW k va mo).length) [] (fun q hq9 => c_X9_laysBack l D k _  va F  mo  hq9) (ci := 7) (q0 := 0) rfl rfl gX9_ahead_X9_laysBack rfl ⟨rfl, rfl, Nat.le_of_ble_eq_true rfl, Nat.le_of_ble_eq_true rfl⟩ (by decide +kernel) (al_C _) rfl (al_n _) ⟨rfl, rfl, Nat.le_of_ble_eq_true rfl, Nat.le_of_ble_eq_true rfl, Nat.le_of_ble_eq_true rfl⟩ dX9_ahead_92 (fun q1 H locs h hP hD hS => ?_)
    obtain ⟨hP, hD⟩ := cv (w' := moW k va q1) hP hD rfl
    refine lv_iload hx hb dX9_ahead_95 (lv_at hl 0 rfl) ?_
    exact fw_endI (rv := fun b : Int32 × OB => b.1) (wp := fun b : Int32 × OB => moW k va b.2) hx hb hr hlocks h rfl hP hD hS dX9_ahead_97
  have B32 : ∀ (v1 : Int32) (v2 : Int32) (v3 : Int32) (mo : OB) (H : Heap) (locs : List Loc) (ls : Array Slot), b_X9_ahead_32 F v1 v2 v3 mo = some res → va_P D vwCl (moW k va mo) H → va_D A (moW k va mo) → va_S A s.heap H locs → lv_has ls 5 [(0, .ref (va 0)), (1, .int v1), (2, .int v2), (3, .int v3)] → W p l e (rmK 8 0 0) s m (List.toArray [.ref (va 0), .int x1, .int x2, .int x3]) below meth c H locs 0 0 (MQ below (va_Qi (fun r (_ : Unit) => r = res.1) (hcB D (fun _ : Unit => moW k va res.2) A) A) (List.toArray [.ref (va 0), .int x1, .int x2, .int x3]) s 0 0 A) (F0 m 32 ls []) := by
    intro v1 v2 v3 mo H locs ls h hP hD hS hl
    refine lv_iload_n hx hb dX9_ahead_32 rfl (lv_at hl 2 rfl) ?_
    refine lv_i2l hx hb dX9_ahead_33 rfl ?_
    refine lv_lconst (v := 0) hx hb dX9_ahead_34 (by decide) ?_
    refine lv_ldc2 (v := 100) hx hb hown (hts (.constantLong RX9 418 (100)) (mem_b bq_wsX9_ahead 0 1 rfl)) dX9_ahead_35 ?_
    refine fw_Si (As := [.long (Int32.toInt64 v2), .long 0, .long 100]) (rest := []) (n := 3) (wr := moW k va mo) (rv := fun b : Int32 => b) (wp := fun b : Int32 => []) h hx hb hml hown hts hG hA hP hD hS hl.1 [] (List.range (moW k va mo).length) (fun q hq9 => c_X9_in l D k _   F (Int32.toInt64 v2) 0 100   hq9) gX9_ahead_X9_in rfl ⟨rfl, rfl, Nat.le_of_ble_eq_true rfl, Nat.le_of_ble_eq_true rfl⟩ (by decide +kernel) rfl (al_C _) (al_m _) ⟨rfl, rfl, Nat.le_of_ble_eq_true rfl, Nat.le_of_ble_eq_true rfl, Nat.le_of_ble_eq_true rfl⟩ dX9_ahead_38 (fun q2 H locs h hP hD hS => ?_)
    obtain ⟨hP, hD⟩ := cv (w' := (moW k va mo) ++ []) hP hD rfl
    rw [List.append_nil] at hP hD
    refine hc_is (z := q2) rfl ?_
    refine lv_if_ne (tgt := 46) hx hb dX9_ahead_41 (by decide) (fun c3 => ?_) (fun c3 => ?_)
    · have h := fw_f c3 h
      refine lv_aload_n hx hb dX9_ahead_46 rfl (lv_at hl 0 rfl) ?_
      refine fw_Vv (As := []) (rest := []) (n := 0) (wr := []) (wp := fun b : OB => moW k va b) h hx hb hml hown hts hG hA hP hD hS hl.1 (List.range (moW k va mo).length) [] (fun q hq9 => c_X9_keepsAll l D k _  va F  mo  hq9) (ci := 7) (q0 := 0) rfl rfl gX9_ahead_X9_keepsAll rfl ⟨rfl, rfl, Nat.le_of_ble_eq_true rfl, Nat.le_of_ble_eq_true rfl⟩ (by decide +kernel) (al_C _) rfl (al_n _) ⟨rfl, rfl, Nat.le_of_ble_eq_true rfl, Nat.le_of_ble_eq_true rfl, Nat.le_of_ble_eq_true rfl⟩ dX9_ahead_47 (fun q4 H locs h hP hD hS => ?_)
      obtain ⟨hP, hD⟩ := cv (w' := moW k va q4) hP hD rfl
      refine lv_aload_n hx hb dX9_ahead_50 rfl (lv_at hl 0 rfl) ?_
      refine lv_iload_n hx hb dX9_ahead_51 rfl (lv_at hl 2 rfl) ?_
      refine fw_Vv (As := [.int v2]) (rest := []) (n := 1) (wr := []) (wp := fun b : OB => moW k va b) h hx hb hml hown hts hG hA hP hD hS hl.1 (List.range (moW k va q4).length) [] (fun q hq9 => c_X9_goFor l D k _  va F v2 q4  hq9) (ci := 7) (q0 := 0) rfl rfl gX9_ahead_X9_goFor rfl ⟨rfl, rfl, Nat.le_of_ble_eq_true rfl, Nat.le_of_ble_eq_true rfl⟩ (by decide +kernel) (al_C _) rfl (al_n _) ⟨rfl, rfl, Nat.le_of_ble_eq_true rfl, Nat.le_of_ble_eq_true rfl, Nat.le_of_ble_eq_true rfl⟩ dX9_ahead_52 (fun q5 H locs h hP hD hS => ?_)
      obtain ⟨hP, hD⟩ := cv (w' := moW k va q5) hP hD rfl
      refine lv_iload_n hx hb dX9_ahead_55 rfl (lv_at hl 3 rfl) ?_
      refine lv_if_ne (tgt := 68) hx hb dX9_ahead_56 (by decide) (fun c6 => ?_) (fun c6 => ?_)
      · have h := fw_f c6 h
        refine lv_iload_n hx hb dX9_ahead_68 rfl (lv_at hl 3 rfl) ?_
        refine lv_iconst (v := 1) hx hb dX9_ahead_69 (by decide) ?_
        refine lv_icmp_ne (tgt := 81) hx hb dX9_ahead_70 (by decide) (fun c7 => ?_) (fun c7 => ?_)
        · have h := fw_f c7 h
          refine lv_aload_n hx hb dX9_ahead_81 rfl (lv_at hl 0 rfl) ?_
          refine lv_iconst (v := 2) hx hb dX9_ahead_82 (by decide) ?_
          refine fw_Vi (As := [.int 2]) (rest := []) (n := 1) (wr := []) (rv := fun b : Int32 => b) (wp := fun b : Int32 => moW k va q5) h hx hb hml hown hts hG hA hP hD hS hl.1 (List.range (moW k va q5).length) [] (fun q hq9 => c_X9_those l D k _  va F 2 q5  hq9) (ci := 7) (q0 := 0) rfl rfl gX9_ahead_X9_those rfl ⟨rfl, rfl, Nat.le_of_ble_eq_true rfl, Nat.le_of_ble_eq_true rfl⟩ (by decide +kernel) (al_C _) rfl (al_n _) ⟨rfl, rfl, Nat.le_of_ble_eq_true rfl, Nat.le_of_ble_eq_true rfl, Nat.le_of_ble_eq_true rfl⟩ dX9_ahead_83 (fun q8 H locs h hP hD hS => ?_)
          obtain ⟨hP, hD⟩ := cv (w' := moW k va q5) hP hD rfl
          refine hc_is (z := q8) rfl ?_
          refine fw_Si (As := [.int q8]) (rest := []) (n := 1) (wr := moW k va q5) (rv := fun b : Int32 => b) (wp := fun b : Int32 => []) h hx hb hml hown hts hG hA hP hD hS hl.1 [] (List.range (moW k va q5).length) (fun q hq9 => c_X9_bits l D k _   F q8   hq9) gX9_ahead_X9_bits rfl ⟨rfl, rfl, Nat.le_of_ble_eq_true rfl, Nat.le_of_ble_eq_true rfl⟩ (by decide +kernel) rfl (al_C _) (al_m _) ⟨rfl, rfl, Nat.le_of_ble_eq_true rfl, Nat.le_of_ble_eq_true rfl, Nat.le_of_ble_eq_true rfl⟩ dX9_ahead_86 (fun q9 H locs h hP hD hS => ?_)
          obtain ⟨hP, hD⟩ := cv (w' := (moW k va q5) ++ []) hP hD rfl
          rw [List.append_nil] at hP hD
          refine hc_is (z := q9) rfl ?_
          exact B89 _ _ _ _ _ h hP hD hS (lv_sub hl [0] rfl)
        · have h := fw_t c7 h
          refine lv_aload_n hx hb dX9_ahead_73 rfl (lv_at hl 0 rfl) ?_
          refine lv_iload_n hx hb dX9_ahead_74 rfl (lv_at hl 1 rfl) ?_
          refine fw_Vi (As := [.int v1]) (rest := []) (n := 1) (wr := []) (rv := fun b : Int32 => b) (wp := fun b : Int32 => moW k va q5) h hx hb hml hown hts hG hA hP hD hS hl.1 (List.range (moW k va q5).length) [] (fun q hq9 => c_X9_givesNow l D k _  va F v1 q5  hq9) (ci := 7) (q0 := 0) rfl rfl gX9_ahead_X9_givesNow rfl ⟨rfl, rfl, Nat.le_of_ble_eq_true rfl, Nat.le_of_ble_eq_true rfl⟩ (by decide +kernel) (al_C _) rfl (al_n _) ⟨rfl, rfl, Nat.le_of_ble_eq_true rfl, Nat.le_of_ble_eq_true rfl, Nat.le_of_ble_eq_true rfl⟩ dX9_ahead_75 (fun q10 H locs h hP hD hS => ?_)
          obtain ⟨hP, hD⟩ := cv (w' := moW k va q5) hP hD rfl
          refine hc_is (z := q10) rfl ?_
          refine lv_goto (tgt := 89) hx hb dX9_ahead_78 (by decide) ?_
          exact B89 _ _ _ _ _ h hP hD hS (lv_sub hl [0] rfl)
      · have h := fw_t c6 h
        refine lv_aload_n hx hb dX9_ahead_59 rfl (lv_at hl 0 rfl) ?_
        refine va_get (D := D) (ci := 7) (v := .ref (va 3)) (C := RX9) (T := TX9) (N := 53) hx hb hts in9 hown hG.1 hP 0 rfl rfl 3 (by decide) (hts (.fieldLink RX9 16 "ChairCaneModel" "is" "[I") (mem_b bq_wsX9_ahead 0 2 rfl)) (fun _ h9 => h9) rfl dX9_ahead_60 ?_
        refine lv_iload_n hx hb dX9_ahead_63 rfl (lv_at hl 1 rfl) ?_
        obtain ⟨g11, h⟩ := fw_g h
        refine va_iald hx hb hG.1 hP 3 0 rfl rfl (ib_vp g11) dX9_ahead_64 ?_
        refine lv_goto (tgt := 89) hx hb dX9_ahead_65 (by decide) ?_
        exact B89 _ _ _ _ _ h hP hD hS (lv_sub hl [0] rfl)
    · have h := fw_t c3 h
      exact B44 _ _ _ _ h hP hD hS (lv_sub hl [] rfl)
  refine lv_aload_n hx hb dX9_ahead_0 rfl (lv_at hl 0 rfl) ?_
  refine fw_Vi (As := []) (rest := []) (n := 0) (wr := []) (rv := fun b : Int32 => b) (wp := fun b : Int32 => moW k va mo) h hx hb hml hown hts hG hA hP hD hS hl.1 (List.range (moW k va mo).length) [] (fun q hq9 => c_X9_isHall l D k _  va F  mo  hq9) (ci := 7) (q0 := 0) rfl rfl gX9_ahead_X9_isHall rfl ⟨rfl, rfl, Nat.le_of_ble_eq_true rfl, Nat.le_of_ble_eq_true rfl⟩ (by decide +kernel) (al_C _) rfl (al_n _) ⟨rfl, rfl, Nat.le_of_ble_eq_true rfl, Nat.le_of_ble_eq_true rfl, Nat.le_of_ble_eq_true rfl⟩ dX9_ahead_1 (fun q12 H locs h hP hD hS => ?_)
  obtain ⟨hP, hD⟩ := cv (w' := moW k va mo) hP hD rfl
  refine hc_is (z := q12) rfl ?_
  refine lv_if_eq (tgt := 44) hx hb dX9_ahead_4 (by decide) (fun c13 => ?_) (fun c13 => ?_)
  · have h := fw_t c13 h
    exact B44 _ _ _ _ h hP hD hS (lv_sub hl [] rfl)
  · have h := fw_f c13 h
    refine lv_iload_n hx hb dX9_ahead_7 rfl (lv_at hl 3 rfl) ?_
    refine lv_i2l hx hb dX9_ahead_8 rfl ?_
    refine lv_lconst (v := 0) hx hb dX9_ahead_9 (by decide) ?_
    refine lv_ldc2 (v := 2) hx hb hown (hts (.constantLong RX9 365 (2)) (mem_b bq_wsX9_ahead 0 0 rfl)) dX9_ahead_10 ?_
    refine fw_Si (As := [.long (Int32.toInt64 x3), .long 0, .long 2]) (rest := []) (n := 3) (wr := moW k va mo) (rv := fun b : Int32 => b) (wp := fun b : Int32 => []) h hx hb hml hown hts hG hA hP hD hS hl.1 [] (List.range (moW k va mo).length) (fun q hq9 => c_X9_in l D k _   F (Int32.toInt64 x3) 0 2   hq9) gX9_ahead_X9_in rfl ⟨rfl, rfl, Nat.le_of_ble_eq_true rfl, Nat.le_of_ble_eq_true rfl⟩ (by decide +kernel) rfl (al_C _) (al_m _) ⟨rfl, rfl, Nat.le_of_ble_eq_true rfl, Nat.le_of_ble_eq_true rfl, Nat.le_of_ble_eq_true rfl⟩ dX9_ahead_13 (fun q14 H locs h hP hD hS => ?_)
    obtain ⟨hP, hD⟩ := cv (w' := (moW k va mo) ++ []) hP hD rfl
    rw [List.append_nil] at hP hD
    refine hc_is (z := q14) rfl ?_
    refine lv_if_eq (tgt := 44) hx hb dX9_ahead_16 (by decide) (fun c15 => ?_) (fun c15 => ?_)
    · have h := fw_t c15 h
      exact B44 _ _ _ _ h hP hD hS (lv_sub hl [] rfl)
    · have h := fw_f c15 h
      refine lv_iload_n hx hb dX9_ahead_19 rfl (lv_at hl 3 rfl) ?_
      refine lv_iconst (v := 2) hx hb dX9_ahead_20 (by decide) ?_
      refine lv_icmp_ge (tgt := 32) hx hb dX9_ahead_21 (by decide) (fun c16 => ?_) (fun c16 => ?_)
      · have h := fw_t c16 h
        exact B32 _ _ _ _ _ _ _ h hP hD hS hl
      · have h := fw_f c16 h
        refine lv_aload_n hx hb dX9_ahead_24 rfl (lv_at hl 0 rfl) ?_
        refine lv_iload_n hx hb dX9_ahead_25 rfl (lv_at hl 1 rfl) ?_
        refine fw_Vi (As := [.int x1]) (rest := []) (n := 1) (wr := []) (rv := fun b : Int32 => b) (wp := fun b : Int32 => moW k va mo) h hx hb hml hown hts hG hA hP hD hS hl.1 (List.range (moW k va mo).length) [] (fun q hq9 => c_X9_isSitter l D k _  va F x1 mo  hq9) (ci := 7) (q0 := 0) rfl rfl gX9_ahead_X9_isSitter rfl ⟨rfl, rfl, Nat.le_of_ble_eq_true rfl, Nat.le_of_ble_eq_true rfl⟩ (by decide +kernel) (al_C _) rfl (al_n _) ⟨rfl, rfl, Nat.le_of_ble_eq_true rfl, Nat.le_of_ble_eq_true rfl, Nat.le_of_ble_eq_true rfl⟩ dX9_ahead_26 (fun q17 H locs h hP hD hS => ?_)
        obtain ⟨hP, hD⟩ := cv (w' := moW k va mo) hP hD rfl
        refine hc_is (z := q17) rfl ?_
        refine lv_if_eq (tgt := 44) hx hb dX9_ahead_29 (by decide) (fun c18 => ?_) (fun c18 => ?_)
        · have h := fw_t c18 h
          exact B44 _ _ _ _ h hP hD hS (lv_sub hl [] rfl)
        · have h := fw_f c18 h
          exact B32 _ _ _ _ _ _ _ h hP hD hS hl
noncomputable def b_X9_falls_17 (F : Nat)    (mo : OB) : Option (Int32 × OB) :=
  some ((-1), mo)
noncomputable def b_X9_falls_81 (F : Nat)    (v2 : Int32) (mo : OB) : Option (Int32 × OB) :=
  Option.bind (f_X9_laysBack F mo) (fun q1 => (some (v2, q1)))
noncomputable def b_X9_falls_74 (F : Nat)   (k28 : (Int32 × Int32 × Int32 × OB) → Option (Int32 × OB)) (v1 : Int32) (v3 : Int32) (y0 : Int32) (mo : OB) : Option (Int32 × OB) :=
  k28 (v1, y0, (v3 + 1), mo)
noncomputable def b_X9_falls_28 (F : Nat)    (k28 : (Int32 × Int32 × Int32 × OB) → Option (Int32 × OB)) (a28 : (Int32 × Int32 × Int32 × OB)) : Option (Int32 × OB) :=
  if 200 ≤ a28.2.2.1 then (b_X9_falls_81 F a28.2.1 a28.2.2.2) else (if a28.2.1 = (-2) then (Option.bind (f_X9_goes F a28.2.2.2) (fun q4 => (if q4.1 = 0 then (b_X9_falls_74 F k28 a28.1 a28.2.2.1 (-2) q4.2) else (if a28.1 = 0 then (b_X9_falls_74 F k28 a28.1 a28.2.2.1 (((q4.2.2.1 1) (Int32.toNatClampNeg 4)) - 1) q4.2) else (b_X9_falls_74 F k28 a28.1 a28.2.2.1 q4.1 q4.2))))) else (b_X9_falls_81 F a28.2.1 a28.2.2.2))
noncomputable def f_X9_falls (F : Nat)  (x1 : Int32) (mo : OB) : Option (Int32 × OB) :=
  Option.bind (f_X9_isHall F mo) (fun q7 => (if q7 = 0 then (b_X9_falls_17 F mo) else (Option.bind (f_X9_in F (Int32.toInt64 x1) 0 1) (fun q9 => (if q9 = 0 then (b_X9_falls_17 F mo) else (Option.bind (f_X9_keepsAll F mo) (fun q11 => (lp (b_X9_falls_28 F) F (x1, (-2), 0, q11)))))))))
set_option maxHeartbeats 4000000 in
set_option maxRecDepth 100000 in
theorem c_X9_falls (l : Launch) (D : va_G) (k : Nat → ClassId) (sz : Nat)  (va : Nat → Nat) (F : Nat)  (x1 : Int32) (mo : OB)  {res : Int32 × OB} (h : f_X9_falls F x1 mo = some res) : CtI l yX9_falls wsX9_falls (rmK 7 0 0) [.ref (va 0), .int x1] D k sz (moW k va mo) (fun r (_ : Unit) => r = res.1) (fun _ : Unit => moW k va res.2) 0 0 := by
  refine CtI.mk (cc := cX9_falls) (maxL := 5) (ret := (some .int)) (by decide) rfl (Nat.le_of_ble_eq_true rfl) ?_
  intro p e s m below meth c A ls E hP hD hS hl
  obtain ⟨hx, hb, hr, hml, hown, hts, hlocks, hin, hG, hA⟩ := E
  have hown : s.vm.findClass RX9 = some m.cls := hown
  have in9 : ∀ w ∈ u_ws RX9 TX9 53, w ∈ wsX9_falls := fun _ h => List.mem_cons_of_mem _ (List.mem_append_right _ h)
  have hl : lv_has ls 5 [(0, .ref (va 0)), (1, .int x1)] := hl
  have B17 : ∀ (mo : OB) (H : Heap) (locs : List Loc) (ls : Array Slot), b_X9_falls_17 F mo = some res → va_P D vwCl (moW k va mo) H → va_D A (moW k va mo) → va_S A s.heap H locs → lv_has ls 5 [] → W p l e (rmK 7 0 0) s m (List.toArray [.ref (va 0), .int x1]) below meth c H locs 0 0 (MQ below (va_Qi (fun r (_ : Unit) => r = res.1) (hcB D (fun _ : Unit => moW k va res.2) A) A) (List.toArray [.ref (va 0), .int x1]) s 0 0 A) (F0 m 17 ls []) := by
    intro mo H locs ls h hP hD hS hl
    refine lv_iconst (v := (-1)) hx hb dX9_falls_17 (by decide) ?_
    exact fw_endI (rv := fun b : Int32 × OB => b.1) (wp := fun b : Int32 × OB => moW k va b.2) hx hb hr hlocks h rfl hP hD hS dX9_falls_18
  have B81 : ∀ (v2 : Int32) (mo : OB) (H : Heap) (locs : List Loc) (ls : Array Slot), b_X9_falls_81 F v2 mo = some res → va_P D vwCl (moW k va mo) H → va_D A (moW k va mo) → va_S A s.heap H locs → lv_has ls 5 [(0, .ref (va 0)), (2, .int v2)] → W p l e (rmK 7 0 0) s m (List.toArray [.ref (va 0), .int x1]) below meth c H locs 0 0 (MQ below (va_Qi (fun r (_ : Unit) => r = res.1) (hcB D (fun _ : Unit => moW k va res.2) A) A) (List.toArray [.ref (va 0), .int x1]) s 0 0 A) (F0 m 81 ls []) := by
    intro v2 mo H locs ls h hP hD hS hl
    refine lv_aload_n hx hb dX9_falls_81 rfl (lv_at hl 0 rfl) ?_
    refine fw_Vv (As := []) (rest := []) (n := 0) (wr := []) (wp := fun b : OB => moW k va b) h hx hb hml hown hts hG hA hP hD hS hl.1 (List.range (moW k va mo).length) [] (fun q hq9 => c_X9_laysBack l D k _  va F  mo  hq9) (ci := 7) (q0 := 0) rfl rfl gX9_falls_X9_laysBack rfl ⟨rfl, rfl, Nat.le_of_ble_eq_true rfl, Nat.le_of_ble_eq_true rfl⟩ (by decide +kernel) (al_C _) rfl (al_n _) ⟨rfl, rfl, Nat.le_of_ble_eq_true rfl, Nat.le_of_ble_eq_true rfl, Nat.le_of_ble_eq_true rfl⟩ dX9_falls_82 (fun q1 H locs h hP hD hS => ?_)
    obtain ⟨hP, hD⟩ := cv (w' := moW k va q1) hP hD rfl
    refine lv_iload_n hx hb dX9_falls_85 rfl (lv_at hl 1 rfl) ?_
    exact fw_endI (rv := fun b : Int32 × OB => b.1) (wp := fun b : Int32 × OB => moW k va b.2) hx hb hr hlocks h rfl hP hD hS dX9_falls_86
  have B28 : ∀ a28 : (Int32 × Int32 × Int32 × OB), lp (b_X9_falls_28 F) F a28 = some res → ∀ (H : Heap) (locs : List Loc) (ls : Array Slot), va_P D vwCl (moW k va a28.2.2.2) H → va_D A (moW k va a28.2.2.2) → va_S A s.heap H locs → lv_has ls 5 [(0, .ref (va 0)), (1, .int a28.1), (2, .int a28.2.1), (3, .int a28.2.2.1)] → W p l e (rmK 7 0 0) s m (List.toArray [.ref (va 0), .int x1]) below meth c H locs 0 0 (MQ below (va_Qi (fun r (_ : Unit) => r = res.1) (hcB D (fun _ : Unit => moW k va res.2) A) A) (List.toArray [.ref (va 0), .int x1]) s 0 0 A) (F0 m 28 ls []) := by
    refine lp_W ?_ F
    intro k28 hk28 a28 h H locs ls hP hD hS hl
    have hc28 : ∀ (v1 : Int32) (v2 : Int32) (v3 : Int32) (mo : OB), k28 (v1, v2, v3, mo) = some res → ∀ (H : Heap) (locs : List Loc) (ls : Array Slot), va_P D vwCl (moW k va mo) H → va_D A (moW k va mo) → va_S A s.heap H locs → lv_has ls 5 [(0, .ref (va 0)), (1, .int v1), (2, .int v2), (3, .int v3)] → W p l e (rmK 7 0 0) s m (List.toArray [.ref (va 0), .int x1]) below meth c H locs 0 0 (MQ below (va_Qi (fun r (_ : Unit) => r = res.1) (hcB D (fun _ : Unit => moW k va res.2) A) A) (List.toArray [.ref (va 0), .int x1]) s 0 0 A) (F0 m 28 ls []) := fun v1 v2 v3 mo => hk28 (v1, v2, v3, mo)
    have B74 : ∀ (v1 : Int32) (v3 : Int32) (y0 : Int32) (mo : OB) (H : Heap) (locs : List Loc) (ls : Array Slot), b_X9_falls_74 F k28 v1 v3 y0 mo = some res → va_P D vwCl (moW k va mo) H → va_D A (moW k va mo) → va_S A s.heap H locs → lv_has ls 5 [(0, .ref (va 0)), (1, .int v1), (3, .int v3)] → W p l e (rmK 7 0 0) s m (List.toArray [.ref (va 0), .int x1]) below meth c H locs 0 0 (MQ below (va_Qi (fun r (_ : Unit) => r = res.1) (hcB D (fun _ : Unit => moW k va res.2) A) A) (List.toArray [.ref (va 0), .int x1]) s 0 0 A) (F0 m 74 ls [.int y0]) := by
      intro v1 v3 y0 mo H locs ls h hP hD hS hl
      refine lv_istore_n (lv' := [(2, .int y0), (0, .ref (va 0)), (1, .int v1), (3, .int v3)]) hx hb dX9_falls_74 rfl hl (by decide) rfl (fun ls hl => ?_)
      refine lv_iinc (v := (v3 + 1)) (lv' := [(3, .int (v3 + 1)), (2, .int y0), (0, .ref (va 0)), (1, .int v1)]) hx hb dX9_falls_75 hl (k := 3) rfl rfl (by decide) rfl (fun ls hl => ?_)
      refine lv_goto (tgt := 28) hx hb dX9_falls_78 (by decide) ?_
      exact hc28 _ _ _ _ h _ _ _ hP hD hS (lv_sub hl [2, 3, 1, 0] rfl)
    refine lv_iload_n hx hb dX9_falls_28 rfl (lv_at hl 3 rfl) ?_
    refine lv_sipush (v := 200) hx hb dX9_falls_29 (by decide) ?_
    refine lv_icmp_ge (tgt := 81) hx hb dX9_falls_32 (by decide) (fun c2 => ?_) (fun c2 => ?_)
    · have h := fw_t c2 h
      exact B81 _ _ _ _ _ h hP hD hS (lv_sub hl [0, 2] rfl)
    · have h := fw_f c2 h
      refine lv_iload_n hx hb dX9_falls_35 rfl (lv_at hl 2 rfl) ?_
      refine lv_bipush (v := (-2)) hx hb dX9_falls_36 (by decide) ?_
      refine lv_icmp_ne (tgt := 81) hx hb dX9_falls_38 (by decide) (fun c3 => ?_) (fun c3 => ?_)
      · have h := fw_f c3 h
        exact B81 _ _ _ _ _ h hP hD hS (lv_sub hl [0, 2] rfl)
      · have h := fw_t c3 h
        refine lv_aload_n hx hb dX9_falls_41 rfl (lv_at hl 0 rfl) ?_
        refine fw_Vi (As := []) (rest := []) (n := 0) (wr := []) (rv := fun b : Int32 × OB => b.1) (wp := fun b : Int32 × OB => moW k va b.2) h hx hb hml hown hts hG hA hP hD hS hl.1 (List.range (moW k va a28.2.2.2).length) [] (fun q hq9 => c_X9_goes l D k _  va F  a28.2.2.2  hq9) (ci := 7) (q0 := 0) rfl rfl gX9_falls_X9_goes rfl ⟨rfl, rfl, Nat.le_of_ble_eq_true rfl, Nat.le_of_ble_eq_true rfl⟩ (by decide +kernel) (al_C _) rfl (al_n _) ⟨rfl, rfl, Nat.le_of_ble_eq_true rfl, Nat.le_of_ble_eq_true rfl, Nat.le_of_ble_eq_true rfl⟩ dX9_falls_42 (fun q4 H locs h hP hD hS => ?_)
        obtain ⟨hP, hD⟩ := cv (w' := moW k va q4.2) hP hD rfl
        refine hc_is (z := q4.1) rfl ?_
        refine lv_istore (lv' := [(4, .int q4.1), (0, .ref (va 0)), (1, .int a28.1), (2, .int a28.2.1), (3, .int a28.2.2.1)]) hx hb dX9_falls_45 hl (by decide) rfl (fun ls hl => ?_)
        refine lv_iload hx hb dX9_falls_47 (lv_at hl 0 rfl) ?_
        refine lv_if_ne (tgt := 57) hx hb dX9_falls_49 (by decide) (fun c5 => ?_) (fun c5 => ?_)
        · have h := fw_f c5 h
          refine lv_iload_n hx hb dX9_falls_57 rfl (lv_at hl 2 rfl) ?_
          refine lv_if_ne (tgt := 72) hx hb dX9_falls_58 (by decide) (fun c6 => ?_) (fun c6 => ?_)
          · have h := fw_f c6 h
            refine lv_iload hx hb dX9_falls_72 (lv_at hl 0 rfl) ?_
            exact B74 _ _ _ _ _ _ _ h hP hD hS (lv_sub hl [1, 2, 4] rfl)
          · have h := fw_t c6 h
            refine lv_aload_n hx hb dX9_falls_61 rfl (lv_at hl 1 rfl) ?_
            refine va_get (D := D) (ci := 7) (v := .ref (va 1)) (C := RX9) (T := TX9) (N := 53) hx hb hts in9 hown hG.1 hP 0 rfl rfl 1 (by decide) (hts (.fieldLink RX9 9 "ChairCaneModel" "scalar" "[I") (mem_b bq_wsX9_falls 0 0 rfl)) (fun _ h9 => h9) rfl dX9_falls_62 ?_
            refine lv_iconst (v := 4) hx hb dX9_falls_65 (by decide) ?_
            refine va_iald hx hb hG.1 hP 1 0 rfl rfl (by unfold vp_in; decide) dX9_falls_66 ?_
            refine lv_iconst (v := 1) hx hb dX9_falls_67 (by decide) ?_
            refine lv_isub hx hb dX9_falls_68 ?_
            refine lv_goto (tgt := 74) hx hb dX9_falls_69 (by decide) ?_
            exact B74 _ _ _ _ _ _ _ h hP hD hS (lv_sub hl [1, 2, 4] rfl)
        · have h := fw_t c5 h
          refine lv_bipush (v := (-2)) hx hb dX9_falls_52 (by decide) ?_
          refine lv_goto (tgt := 74) hx hb dX9_falls_54 (by decide) ?_
          exact B74 _ _ _ _ _ _ _ h hP hD hS (lv_sub hl [1, 2, 4] rfl)
  have C28 : ∀ (v1 : Int32) (v2 : Int32) (v3 : Int32) (mo : OB), lp (b_X9_falls_28 F) F (v1, v2, v3, mo) = some res → ∀ (H : Heap) (locs : List Loc) (ls : Array Slot), va_P D vwCl (moW k va mo) H → va_D A (moW k va mo) → va_S A s.heap H locs → lv_has ls 5 [(0, .ref (va 0)), (1, .int v1), (2, .int v2), (3, .int v3)] → W p l e (rmK 7 0 0) s m (List.toArray [.ref (va 0), .int x1]) below meth c H locs 0 0 (MQ below (va_Qi (fun r (_ : Unit) => r = res.1) (hcB D (fun _ : Unit => moW k va res.2) A) A) (List.toArray [.ref (va 0), .int x1]) s 0 0 A) (F0 m 28 ls []) := fun v1 v2 v3 mo => B28 (v1, v2, v3, mo)
  refine lv_aload_n hx hb dX9_falls_0 rfl (lv_at hl 0 rfl) ?_
  refine fw_Vi (As := []) (rest := []) (n := 0) (wr := []) (rv := fun b : Int32 => b) (wp := fun b : Int32 => moW k va mo) h hx hb hml hown hts hG hA hP hD hS hl.1 (List.range (moW k va mo).length) [] (fun q hq9 => c_X9_isHall l D k _  va F  mo  hq9) (ci := 7) (q0 := 0) rfl rfl gX9_falls_X9_isHall rfl ⟨rfl, rfl, Nat.le_of_ble_eq_true rfl, Nat.le_of_ble_eq_true rfl⟩ (by decide +kernel) (al_C _) rfl (al_n _) ⟨rfl, rfl, Nat.le_of_ble_eq_true rfl, Nat.le_of_ble_eq_true rfl, Nat.le_of_ble_eq_true rfl⟩ dX9_falls_1 (fun q7 H locs h hP hD hS => ?_)
  obtain ⟨hP, hD⟩ := cv (w' := moW k va mo) hP hD rfl
  refine hc_is (z := q7) rfl ?_
  refine lv_if_eq (tgt := 17) hx hb dX9_falls_4 (by decide) (fun c8 => ?_) (fun c8 => ?_)
  · have h := fw_t c8 h
    exact B17 _ _ _ _ h hP hD hS (lv_sub hl [] rfl)
  · have h := fw_f c8 h
    refine lv_iload_n hx hb dX9_falls_7 rfl (lv_at hl 1 rfl) ?_
    refine lv_i2l hx hb dX9_falls_8 rfl ?_
    refine lv_lconst (v := 0) hx hb dX9_falls_9 (by decide) ?_
    refine lv_lconst (v := 1) hx hb dX9_falls_10 (by decide) ?_
    refine fw_Si (As := [.long (Int32.toInt64 x1), .long 0, .long 1]) (rest := []) (n := 3) (wr := moW k va mo) (rv := fun b : Int32 => b) (wp := fun b : Int32 => []) h hx hb hml hown hts hG hA hP hD hS hl.1 [] (List.range (moW k va mo).length) (fun q hq9 => c_X9_in l D k _   F (Int32.toInt64 x1) 0 1   hq9) gX9_falls_X9_in rfl ⟨rfl, rfl, Nat.le_of_ble_eq_true rfl, Nat.le_of_ble_eq_true rfl⟩ (by decide +kernel) rfl (al_C _) (al_m _) ⟨rfl, rfl, Nat.le_of_ble_eq_true rfl, Nat.le_of_ble_eq_true rfl, Nat.le_of_ble_eq_true rfl⟩ dX9_falls_11 (fun q9 H locs h hP hD hS => ?_)
    obtain ⟨hP, hD⟩ := cv (w' := (moW k va mo) ++ []) hP hD rfl
    rw [List.append_nil] at hP hD
    refine hc_is (z := q9) rfl ?_
    refine lv_if_ne (tgt := 19) hx hb dX9_falls_14 (by decide) (fun c10 => ?_) (fun c10 => ?_)
    · have h := fw_f c10 h
      refine lv_aload_n hx hb dX9_falls_19 rfl (lv_at hl 0 rfl) ?_
      refine fw_Vv (As := []) (rest := []) (n := 0) (wr := []) (wp := fun b : OB => moW k va b) h hx hb hml hown hts hG hA hP hD hS hl.1 (List.range (moW k va mo).length) [] (fun q hq9 => c_X9_keepsAll l D k _  va F  mo  hq9) (ci := 7) (q0 := 0) rfl rfl gX9_falls_X9_keepsAll rfl ⟨rfl, rfl, Nat.le_of_ble_eq_true rfl, Nat.le_of_ble_eq_true rfl⟩ (by decide +kernel) (al_C _) rfl (al_n _) ⟨rfl, rfl, Nat.le_of_ble_eq_true rfl, Nat.le_of_ble_eq_true rfl, Nat.le_of_ble_eq_true rfl⟩ dX9_falls_20 (fun q11 H locs h hP hD hS => ?_)
      obtain ⟨hP, hD⟩ := cv (w' := moW k va q11) hP hD rfl
      refine lv_bipush (v := (-2)) hx hb dX9_falls_23 (by decide) ?_
      refine lv_istore_n (lv' := [(2, .int (-2)), (0, .ref (va 0)), (1, .int x1)]) hx hb dX9_falls_25 rfl hl (by decide) rfl (fun ls hl => ?_)
      refine lv_iconst (v := 0) hx hb dX9_falls_26 (by decide) ?_
      refine lv_istore_n (lv' := [(3, .int 0), (2, .int (-2)), (0, .ref (va 0)), (1, .int x1)]) hx hb dX9_falls_27 rfl hl (by decide) rfl (fun ls hl => ?_)
      exact C28 _ _ _ _ h _ _ _ hP hD hS (lv_sub hl [2, 3, 1, 0] rfl)
    · have h := fw_t c10 h
      exact B17 _ _ _ _ h hP hD hS (lv_sub hl [] rfl)
noncomputable def f_X9_felledBy (F : Nat)  (x1 : Int32) (mo : OB) : Option (Int32 × OB) :=
  Option.bind (f_X9_keepsAll F mo) (fun q1 => (if ib x1 8 then (Option.bind (f_X9_settles F (q1.1, (uF q1.2.1 3 (upd (q1.2.1 3) (Int32.toNatClampNeg x1) 0)), q1.2.2)) (fun q3 => (Option.bind (f_X9_laysBack F q3.2) (fun q4 => (some (q3.1, q4)))))) else none))
set_option maxHeartbeats 4000000 in
set_option maxRecDepth 100000 in
theorem c_X9_felledBy (l : Launch) (D : va_G) (k : Nat → ClassId) (sz : Nat)  (va : Nat → Nat) (F : Nat)  (x1 : Int32) (mo : OB)  {res : Int32 × OB} (h : f_X9_felledBy F x1 mo = some res) : CtI l yX9_felledBy wsX9_felledBy (rmK 6 0 0) [.ref (va 0), .int x1] D k sz (moW k va mo) (fun r (_ : Unit) => r = res.1) (fun _ : Unit => moW k va res.2) 0 0 := by
  refine CtI.mk (cc := cX9_felledBy) (maxL := 3) (ret := (some .int)) (by decide) rfl (Nat.le_of_ble_eq_true rfl) ?_
  intro p e s m below meth c A ls E hP hD hS hl
  obtain ⟨hx, hb, hr, hml, hown, hts, hlocks, hin, hG, hA⟩ := E
  have hown : s.vm.findClass RX9 = some m.cls := hown
  have in9 : ∀ w ∈ u_ws RX9 TX9 53, w ∈ wsX9_felledBy := fun _ h => List.mem_cons_of_mem _ (List.mem_append_right _ h)
  have hl : lv_has ls 3 [(0, .ref (va 0)), (1, .int x1)] := hl
  refine lv_aload_n hx hb dX9_felledBy_0 rfl (lv_at hl 0 rfl) ?_
  refine fw_Vv (As := []) (rest := []) (n := 0) (wr := []) (wp := fun b : OB => moW k va b) h hx hb hml hown hts hG hA hP hD hS hl.1 (List.range (moW k va mo).length) [] (fun q hq9 => c_X9_keepsAll l D k _  va F  mo  hq9) (ci := 7) (q0 := 0) rfl rfl gX9_felledBy_X9_keepsAll rfl ⟨rfl, rfl, Nat.le_of_ble_eq_true rfl, Nat.le_of_ble_eq_true rfl⟩ (by decide +kernel) (al_C _) rfl (al_n _) ⟨rfl, rfl, Nat.le_of_ble_eq_true rfl, Nat.le_of_ble_eq_true rfl, Nat.le_of_ble_eq_true rfl⟩ dX9_felledBy_1 (fun q1 H locs h hP hD hS => ?_)
  obtain ⟨hP, hD⟩ := cv (w' := moW k va q1) hP hD rfl
  refine lv_aload_n hx hb dX9_felledBy_4 rfl (lv_at hl 0 rfl) ?_
  refine va_get (D := D) (ci := 7) (v := .ref (va 3)) (C := RX9) (T := TX9) (N := 53) hx hb hts in9 hown hG.1 hP 0 rfl rfl 3 (by decide) (hts (.fieldLink RX9 16 "ChairCaneModel" "is" "[I") (mem_b bq_wsX9_felledBy 0 0 rfl)) (fun _ h9 => h9) rfl dX9_felledBy_5 ?_
  refine lv_iload_n hx hb dX9_felledBy_8 rfl (lv_at hl 1 rfl) ?_
  refine lv_iconst (v := 0) hx hb dX9_felledBy_9 (by decide) ?_
  obtain ⟨g2, h⟩ := fw_g h
  refine va_iast hx hb hG.1 hP hD hS 3 0 rfl rfl (ib_vp g2) dX9_felledBy_10 (fun H locs hP hD hS => ?_)
  refine lv_aload_n hx hb dX9_felledBy_11 rfl (lv_at hl 0 rfl) ?_
  obtain ⟨hP, hD⟩ := cv (w' := moW k va (q1.1, (uF q1.2.1 3 (upd (q1.2.1 3) (Int32.toNatClampNeg x1) 0)), q1.2.2)) hP hD rfl
  refine fw_Vi (As := []) (rest := []) (n := 0) (wr := []) (rv := fun b : Int32 × OB => b.1) (wp := fun b : Int32 × OB => moW k va b.2) h hx hb hml hown hts hG hA hP hD hS hl.1 (List.range (moW k va (q1.1, (uF q1.2.1 3 (upd (q1.2.1 3) (Int32.toNatClampNeg x1) 0)), q1.2.2)).length) [] (fun q hq9 => c_X9_settles l D k _  va F  (q1.1, (uF q1.2.1 3 (upd (q1.2.1 3) (Int32.toNatClampNeg x1) 0)), q1.2.2)  hq9) (ci := 7) (q0 := 0) rfl rfl gX9_felledBy_X9_settles rfl ⟨rfl, rfl, Nat.le_of_ble_eq_true rfl, Nat.le_of_ble_eq_true rfl⟩ (by decide +kernel) (al_C _) rfl (al_n _) ⟨rfl, rfl, Nat.le_of_ble_eq_true rfl, Nat.le_of_ble_eq_true rfl, Nat.le_of_ble_eq_true rfl⟩ dX9_felledBy_12 (fun q3 H locs h hP hD hS => ?_)
  obtain ⟨hP, hD⟩ := cv (w' := moW k va q3.2) hP hD rfl
  refine hc_is (z := q3.1) rfl ?_
  refine lv_istore_n (lv' := [(2, .int q3.1), (0, .ref (va 0)), (1, .int x1)]) hx hb dX9_felledBy_15 rfl hl (by decide) rfl (fun ls hl => ?_)
  refine lv_aload_n hx hb dX9_felledBy_16 rfl (lv_at hl 1 rfl) ?_
  refine fw_Vv (As := []) (rest := []) (n := 0) (wr := []) (wp := fun b : OB => moW k va b) h hx hb hml hown hts hG hA hP hD hS hl.1 (List.range (moW k va q3.2).length) [] (fun q hq9 => c_X9_laysBack l D k _  va F  q3.2  hq9) (ci := 7) (q0 := 0) rfl rfl gX9_felledBy_X9_laysBack rfl ⟨rfl, rfl, Nat.le_of_ble_eq_true rfl, Nat.le_of_ble_eq_true rfl⟩ (by decide +kernel) (al_C _) rfl (al_n _) ⟨rfl, rfl, Nat.le_of_ble_eq_true rfl, Nat.le_of_ble_eq_true rfl, Nat.le_of_ble_eq_true rfl⟩ dX9_felledBy_17 (fun q4 H locs h hP hD hS => ?_)
  obtain ⟨hP, hD⟩ := cv (w' := moW k va q4) hP hD rfl
  refine lv_iload_n hx hb dX9_felledBy_20 rfl (lv_at hl 0 rfl) ?_
  exact fw_endI (rv := fun b : Int32 × OB => b.1) (wp := fun b : Int32 × OB => moW k va b.2) hx hb hr hlocks h rfl hP hD hS dX9_felledBy_21
noncomputable def b_X9_felled_18 (F : Nat)    (y0 : Int32) (mo : OB) : Option (Int32 × OB) :=
  some (y0, mo)
noncomputable def f_X9_felled (F : Nat)  (x1 : Int32) (mo : OB) : Option (Int32 × OB) :=
  Option.bind (f_X9_isSo F x1 1 mo) (fun q1 => (if q1 = 0 then (b_X9_felled_18 F (-1) mo) else (Option.bind (f_X9_felledBy F x1 mo) (fun q3 => (b_X9_felled_18 F q3.1 q3.2)))))
set_option maxHeartbeats 4000000 in
set_option maxRecDepth 100000 in
theorem c_X9_felled (l : Launch) (D : va_G) (k : Nat → ClassId) (sz : Nat)  (va : Nat → Nat) (F : Nat)  (x1 : Int32) (mo : OB)  {res : Int32 × OB} (h : f_X9_felled F x1 mo = some res) : CtI l yX9_felled wsX9_felled (rmK 7 0 0) [.ref (va 0), .int x1] D k sz (moW k va mo) (fun r (_ : Unit) => r = res.1) (fun _ : Unit => moW k va res.2) 0 0 := by
  refine CtI.mk (cc := cX9_felled) (maxL := 2) (ret := (some .int)) (by decide) rfl (Nat.le_of_ble_eq_true rfl) ?_
  intro p e s m below meth c A ls E hP hD hS hl
  obtain ⟨hx, hb, hr, hml, hown, hts, hlocks, hin, hG, hA⟩ := E
  have hown : s.vm.findClass RX9 = some m.cls := hown
  have in9 : ∀ w ∈ u_ws RX9 TX9 53, w ∈ wsX9_felled := fun _ h => List.mem_cons_of_mem _ (List.mem_append_right _ h)
  have hl : lv_has ls 2 [(0, .ref (va 0)), (1, .int x1)] := hl
  have B18 : ∀ (y0 : Int32) (mo : OB) (H : Heap) (locs : List Loc) (ls : Array Slot), b_X9_felled_18 F y0 mo = some res → va_P D vwCl (moW k va mo) H → va_D A (moW k va mo) → va_S A s.heap H locs → lv_has ls 2 [] → W p l e (rmK 7 0 0) s m (List.toArray [.ref (va 0), .int x1]) below meth c H locs 0 0 (MQ below (va_Qi (fun r (_ : Unit) => r = res.1) (hcB D (fun _ : Unit => moW k va res.2) A) A) (List.toArray [.ref (va 0), .int x1]) s 0 0 A) (F0 m 18 ls [.int y0]) := by
    intro y0 mo H locs ls h hP hD hS hl
    exact fw_endI (rv := fun b : Int32 × OB => b.1) (wp := fun b : Int32 × OB => moW k va b.2) hx hb hr hlocks h rfl hP hD hS dX9_felled_18
  refine lv_aload_n hx hb dX9_felled_0 rfl (lv_at hl 0 rfl) ?_
  refine lv_iload_n hx hb dX9_felled_1 rfl (lv_at hl 1 rfl) ?_
  refine lv_iconst (v := 1) hx hb dX9_felled_2 (by decide) ?_
  refine fw_Vi (As := [.int x1, .int 1]) (rest := []) (n := 2) (wr := []) (rv := fun b : Int32 => b) (wp := fun b : Int32 => moW k va mo) h hx hb hml hown hts hG hA hP hD hS hl.1 (List.range (moW k va mo).length) [] (fun q hq9 => c_X9_isSo l D k _  va F x1 1 mo  hq9) (ci := 7) (q0 := 0) rfl rfl gX9_felled_X9_isSo rfl ⟨rfl, rfl, Nat.le_of_ble_eq_true rfl, Nat.le_of_ble_eq_true rfl⟩ (by decide +kernel) (al_C _) rfl (al_n _) ⟨rfl, rfl, Nat.le_of_ble_eq_true rfl, Nat.le_of_ble_eq_true rfl, Nat.le_of_ble_eq_true rfl⟩ dX9_felled_3 (fun q1 H locs h hP hD hS => ?_)
  obtain ⟨hP, hD⟩ := cv (w' := moW k va mo) hP hD rfl
  refine hc_is (z := q1) rfl ?_
  refine lv_if_eq (tgt := 17) hx hb dX9_felled_6 (by decide) (fun c2 => ?_) (fun c2 => ?_)
  · have h := fw_t c2 h
    refine lv_iconst (v := (-1)) hx hb dX9_felled_17 (by decide) ?_
    exact B18 _ _ _ _ _ h hP hD hS (lv_sub hl [] rfl)
  · have h := fw_f c2 h
    refine lv_aload_n hx hb dX9_felled_9 rfl (lv_at hl 0 rfl) ?_
    refine lv_iload_n hx hb dX9_felled_10 rfl (lv_at hl 1 rfl) ?_
    refine fw_Vi (As := [.int x1]) (rest := []) (n := 1) (wr := []) (rv := fun b : Int32 × OB => b.1) (wp := fun b : Int32 × OB => moW k va b.2) h hx hb hml hown hts hG hA hP hD hS hl.1 (List.range (moW k va mo).length) [] (fun q hq9 => c_X9_felledBy l D k _  va F x1 mo  hq9) (ci := 7) (q0 := 0) rfl rfl gX9_felled_X9_felledBy rfl ⟨rfl, rfl, Nat.le_of_ble_eq_true rfl, Nat.le_of_ble_eq_true rfl⟩ (by decide +kernel) (al_C _) rfl (al_n _) ⟨rfl, rfl, Nat.le_of_ble_eq_true rfl, Nat.le_of_ble_eq_true rfl, Nat.le_of_ble_eq_true rfl⟩ dX9_felled_11 (fun q3 H locs h hP hD hS => ?_)
    obtain ⟨hP, hD⟩ := cv (w' := moW k va q3.2) hP hD rfl
    refine hc_is (z := q3.1) rfl ?_
    refine lv_goto (tgt := 18) hx hb dX9_felled_14 (by decide) ?_
    exact B18 _ _ _ _ _ h hP hD hS (lv_sub hl [] rfl)
noncomputable def b_X9_tall_17 (F : Nat)    (mo : OB) : Option (Int32 × OB) :=
  some ((-1), mo)
noncomputable def b_X9_tall_91 (F : Nat)    (y0 : Int32) (mo : OB) : Option (Int32 × OB) :=
  some (y0, mo)
noncomputable def b_X9_tall_76 (F : Nat)   (k28 : (Int32 × Int32 × Int32 × Int32 × OB) → Option (Int32 × OB)) (v1 : Int32) (v2 : Int32) (v3 : Int32) (v4 : Int32) (mo : OB) : Option (Int32 × OB) :=
  k28 (v1, v2, v3, (v4 + 1), mo)
noncomputable def b_X9_tall_28 (F : Nat)    (k28 : (Int32 × Int32 × Int32 × Int32 × OB) → Option (Int32 × OB)) (a28 : (Int32 × Int32 × Int32 × Int32 × OB)) : Option (Int32 × OB) :=
  if ((a28.2.2.2.2.2.1 1) (Int32.toNatClampNeg 3)) ≤ a28.2.2.2.1 then (if a28.1 = 0 then (b_X9_tall_91 F a28.2.1 a28.2.2.2.2) else (b_X9_tall_91 F a28.2.2.1 a28.2.2.2.2)) else (if ib a28.2.2.2.1 8 then (if ((a28.2.2.2.2.2.1 3) (Int32.toNatClampNeg a28.2.2.2.1)) = 1 then (Option.bind (f_X9_felledBy F a28.2.2.2.1 a28.2.2.2.2) (fun q5 => (Option.bind (f_X9_bits F q5.1) (fun q6 => (if q6 ≤ a28.2.2.1 then (b_X9_tall_76 F k28 a28.1 a28.2.1 a28.2.2.1 a28.2.2.2.1 q5.2) else (Option.bind (f_X9_felledBy F a28.2.2.2.1 q5.2) (fun q8 => (Option.bind (f_X9_bits F q8.1) (fun q9 => (b_X9_tall_76 F k28 a28.1 a28.2.2.2.1 q9 a28.2.2.2.1 q8.2)))))))))) else (b_X9_tall_76 F k28 a28.1 a28.2.1 a28.2.2.1 a28.2.2.2.1 a28.2.2.2.2)) else none)
noncomputable def f_X9_tall (F : Nat)  (x1 : Int32) (mo : OB) : Option (Int32 × OB) :=
  Option.bind (f_X9_isHall F mo) (fun q10 => (if q10 = 0 then (b_X9_tall_17 F mo) else (Option.bind (f_X9_in F (Int32.toInt64 x1) 0 1) (fun q12 => (if q12 = 0 then (b_X9_tall_17 F mo) else (lp (b_X9_tall_28 F) F (x1, (-2), (-2), 0, mo)))))))
set_option maxHeartbeats 4000000 in
set_option maxRecDepth 100000 in
theorem c_X9_tall (l : Launch) (D : va_G) (k : Nat → ClassId) (sz : Nat)  (va : Nat → Nat) (F : Nat)  (x1 : Int32) (mo : OB)  {res : Int32 × OB} (h : f_X9_tall F x1 mo = some res) : CtI l yX9_tall wsX9_tall (rmK 7 0 0) [.ref (va 0), .int x1] D k sz (moW k va mo) (fun r (_ : Unit) => r = res.1) (fun _ : Unit => moW k va res.2) 0 0 := by
  refine CtI.mk (cc := cX9_tall) (maxL := 5) (ret := (some .int)) (by decide) rfl (Nat.le_of_ble_eq_true rfl) ?_
  intro p e s m below meth c A ls E hP hD hS hl
  obtain ⟨hx, hb, hr, hml, hown, hts, hlocks, hin, hG, hA⟩ := E
  have hown : s.vm.findClass RX9 = some m.cls := hown
  have in9 : ∀ w ∈ u_ws RX9 TX9 53, w ∈ wsX9_tall := fun _ h => List.mem_cons_of_mem _ (List.mem_append_right _ h)
  have hl : lv_has ls 5 [(0, .ref (va 0)), (1, .int x1)] := hl
  have B17 : ∀ (mo : OB) (H : Heap) (locs : List Loc) (ls : Array Slot), b_X9_tall_17 F mo = some res → va_P D vwCl (moW k va mo) H → va_D A (moW k va mo) → va_S A s.heap H locs → lv_has ls 5 [] → W p l e (rmK 7 0 0) s m (List.toArray [.ref (va 0), .int x1]) below meth c H locs 0 0 (MQ below (va_Qi (fun r (_ : Unit) => r = res.1) (hcB D (fun _ : Unit => moW k va res.2) A) A) (List.toArray [.ref (va 0), .int x1]) s 0 0 A) (F0 m 17 ls []) := by
    intro mo H locs ls h hP hD hS hl
    refine lv_iconst (v := (-1)) hx hb dX9_tall_17 (by decide) ?_
    exact fw_endI (rv := fun b : Int32 × OB => b.1) (wp := fun b : Int32 × OB => moW k va b.2) hx hb hr hlocks h rfl hP hD hS dX9_tall_18
  have B91 : ∀ (y0 : Int32) (mo : OB) (H : Heap) (locs : List Loc) (ls : Array Slot), b_X9_tall_91 F y0 mo = some res → va_P D vwCl (moW k va mo) H → va_D A (moW k va mo) → va_S A s.heap H locs → lv_has ls 5 [] → W p l e (rmK 7 0 0) s m (List.toArray [.ref (va 0), .int x1]) below meth c H locs 0 0 (MQ below (va_Qi (fun r (_ : Unit) => r = res.1) (hcB D (fun _ : Unit => moW k va res.2) A) A) (List.toArray [.ref (va 0), .int x1]) s 0 0 A) (F0 m 91 ls [.int y0]) := by
    intro y0 mo H locs ls h hP hD hS hl
    exact fw_endI (rv := fun b : Int32 × OB => b.1) (wp := fun b : Int32 × OB => moW k va b.2) hx hb hr hlocks h rfl hP hD hS dX9_tall_91
  have B28 : ∀ a28 : (Int32 × Int32 × Int32 × Int32 × OB), lp (b_X9_tall_28 F) F a28 = some res → ∀ (H : Heap) (locs : List Loc) (ls : Array Slot), va_P D vwCl (moW k va a28.2.2.2.2) H → va_D A (moW k va a28.2.2.2.2) → va_S A s.heap H locs → lv_has ls 5 [(0, .ref (va 0)), (1, .int a28.1), (2, .int a28.2.1), (3, .int a28.2.2.1), (4, .int a28.2.2.2.1)] → W p l e (rmK 7 0 0) s m (List.toArray [.ref (va 0), .int x1]) below meth c H locs 0 0 (MQ below (va_Qi (fun r (_ : Unit) => r = res.1) (hcB D (fun _ : Unit => moW k va res.2) A) A) (List.toArray [.ref (va 0), .int x1]) s 0 0 A) (F0 m 28 ls []) := by
    refine lp_W ?_ F
    intro k28 hk28 a28 h H locs ls hP hD hS hl
    have hc28 : ∀ (v1 : Int32) (v2 : Int32) (v3 : Int32) (v4 : Int32) (mo : OB), k28 (v1, v2, v3, v4, mo) = some res → ∀ (H : Heap) (locs : List Loc) (ls : Array Slot), va_P D vwCl (moW k va mo) H → va_D A (moW k va mo) → va_S A s.heap H locs → lv_has ls 5 [(0, .ref (va 0)), (1, .int v1), (2, .int v2), (3, .int v3), (4, .int v4)] → W p l e (rmK 7 0 0) s m (List.toArray [.ref (va 0), .int x1]) below meth c H locs 0 0 (MQ below (va_Qi (fun r (_ : Unit) => r = res.1) (hcB D (fun _ : Unit => moW k va res.2) A) A) (List.toArray [.ref (va 0), .int x1]) s 0 0 A) (F0 m 28 ls []) := fun v1 v2 v3 v4 mo => hk28 (v1, v2, v3, v4, mo)
    have B76 : ∀ (v1 : Int32) (v2 : Int32) (v3 : Int32) (v4 : Int32) (mo : OB) (H : Heap) (locs : List Loc) (ls : Array Slot), b_X9_tall_76 F k28 v1 v2 v3 v4 mo = some res → va_P D vwCl (moW k va mo) H → va_D A (moW k va mo) → va_S A s.heap H locs → lv_has ls 5 [(0, .ref (va 0)), (1, .int v1), (2, .int v2), (3, .int v3), (4, .int v4)] → W p l e (rmK 7 0 0) s m (List.toArray [.ref (va 0), .int x1]) below meth c H locs 0 0 (MQ below (va_Qi (fun r (_ : Unit) => r = res.1) (hcB D (fun _ : Unit => moW k va res.2) A) A) (List.toArray [.ref (va 0), .int x1]) s 0 0 A) (F0 m 76 ls []) := by
      intro v1 v2 v3 v4 mo H locs ls h hP hD hS hl
      refine lv_iinc (v := (v4 + 1)) (lv' := [(4, .int (v4 + 1)), (0, .ref (va 0)), (1, .int v1), (2, .int v2), (3, .int v3)]) hx hb dX9_tall_76 hl (k := 4) rfl rfl (by decide) rfl (fun ls hl => ?_)
      refine lv_goto (tgt := 28) hx hb dX9_tall_79 (by decide) ?_
      exact hc28 _ _ _ _ _ h _ _ _ hP hD hS (lv_sub hl [1, 2, 3, 4, 0] rfl)
    refine lv_iload hx hb dX9_tall_28 (lv_at hl 4 rfl) ?_
    refine lv_aload_n hx hb dX9_tall_30 rfl (lv_at hl 0 rfl) ?_
    refine va_get (D := D) (ci := 7) (v := .ref (va 1)) (C := RX9) (T := TX9) (N := 53) hx hb hts in9 hown hG.1 hP 0 rfl rfl 1 (by decide) (hts (.fieldLink RX9 9 "ChairCaneModel" "scalar" "[I") (mem_b bq_wsX9_tall 0 0 rfl)) (fun _ h9 => h9) rfl dX9_tall_31 ?_
    refine lv_iconst (v := 3) hx hb dX9_tall_34 (by decide) ?_
    refine va_iald hx hb hG.1 hP 1 0 rfl rfl (by unfold vp_in; decide) dX9_tall_35 ?_
    refine lv_icmp_ge (tgt := 82) hx hb dX9_tall_36 (by decide) (fun c1 => ?_) (fun c1 => ?_)
    · have h := fw_t c1 h
      refine lv_iload_n hx hb dX9_tall_82 rfl (lv_at hl 1 rfl) ?_
      refine lv_if_ne (tgt := 90) hx hb dX9_tall_83 (by decide) (fun c2 => ?_) (fun c2 => ?_)
      · have h := fw_f c2 h
        refine lv_iload_n hx hb dX9_tall_90 rfl (lv_at hl 3 rfl) ?_
        exact B91 _ _ _ _ _ h hP hD hS (lv_sub hl [] rfl)
      · have h := fw_t c2 h
        refine lv_iload_n hx hb dX9_tall_86 rfl (lv_at hl 2 rfl) ?_
        refine lv_goto (tgt := 91) hx hb dX9_tall_87 (by decide) ?_
        exact B91 _ _ _ _ _ h hP hD hS (lv_sub hl [] rfl)
    · have h := fw_f c1 h
      refine lv_aload_n hx hb dX9_tall_39 rfl (lv_at hl 0 rfl) ?_
      refine va_get (D := D) (ci := 7) (v := .ref (va 3)) (C := RX9) (T := TX9) (N := 53) hx hb hts in9 hown hG.1 hP 0 rfl rfl 3 (by decide) (hts (.fieldLink RX9 16 "ChairCaneModel" "is" "[I") (mem_b bq_wsX9_tall 0 1 rfl)) (fun _ h9 => h9) rfl dX9_tall_40 ?_
      refine lv_iload hx hb dX9_tall_43 (lv_at hl 4 rfl) ?_
      obtain ⟨g3, h⟩ := fw_g h
      refine va_iald hx hb hG.1 hP 3 0 rfl rfl (ib_vp g3) dX9_tall_45 ?_
      refine lv_iconst (v := 1) hx hb dX9_tall_46 (by decide) ?_
      refine lv_icmp_ne (tgt := 76) hx hb dX9_tall_47 (by decide) (fun c4 => ?_) (fun c4 => ?_)
      · have h := fw_f c4 h
        exact B76 _ _ _ _ _ _ _ _ h hP hD hS hl
      · have h := fw_t c4 h
        refine lv_aload_n hx hb dX9_tall_50 rfl (lv_at hl 0 rfl) ?_
        refine lv_iload hx hb dX9_tall_51 (lv_at hl 4 rfl) ?_
        refine fw_Vi (As := [.int a28.2.2.2.1]) (rest := []) (n := 1) (wr := []) (rv := fun b : Int32 × OB => b.1) (wp := fun b : Int32 × OB => moW k va b.2) h hx hb hml hown hts hG hA hP hD hS hl.1 (List.range (moW k va a28.2.2.2.2).length) [] (fun q hq9 => c_X9_felledBy l D k _  va F a28.2.2.2.1 a28.2.2.2.2  hq9) (ci := 7) (q0 := 0) rfl rfl gX9_tall_X9_felledBy rfl ⟨rfl, rfl, Nat.le_of_ble_eq_true rfl, Nat.le_of_ble_eq_true rfl⟩ (by decide +kernel) (al_C _) rfl (al_n _) ⟨rfl, rfl, Nat.le_of_ble_eq_true rfl, Nat.le_of_ble_eq_true rfl, Nat.le_of_ble_eq_true rfl⟩ dX9_tall_53 (fun q5 H locs h hP hD hS => ?_)
        obtain ⟨hP, hD⟩ := cv (w' := moW k va q5.2) hP hD rfl
        refine hc_is (z := q5.1) rfl ?_
        refine fw_Si (As := [.int q5.1]) (rest := []) (n := 1) (wr := moW k va q5.2) (rv := fun b : Int32 => b) (wp := fun b : Int32 => []) h hx hb hml hown hts hG hA hP hD hS hl.1 [] (List.range (moW k va q5.2).length) (fun q hq9 => c_X9_bits l D k _   F q5.1   hq9) gX9_tall_X9_bits rfl ⟨rfl, rfl, Nat.le_of_ble_eq_true rfl, Nat.le_of_ble_eq_true rfl⟩ (by decide +kernel) rfl (al_C _) (al_m _) ⟨rfl, rfl, Nat.le_of_ble_eq_true rfl, Nat.le_of_ble_eq_true rfl, Nat.le_of_ble_eq_true rfl⟩ dX9_tall_56 (fun q6 H locs h hP hD hS => ?_)
        obtain ⟨hP, hD⟩ := cv (w' := (moW k va q5.2) ++ []) hP hD rfl
        rw [List.append_nil] at hP hD
        refine hc_is (z := q6) rfl ?_
        refine lv_iload_n hx hb dX9_tall_59 rfl (lv_at hl 3 rfl) ?_
        refine lv_icmp_le (tgt := 76) hx hb dX9_tall_60 (by decide) (fun c7 => ?_) (fun c7 => ?_)
        · have h := fw_t c7 h
          exact B76 _ _ _ _ _ _ _ _ h hP hD hS hl
        · have h := fw_f c7 h
          refine lv_iload hx hb dX9_tall_63 (lv_at hl 4 rfl) ?_
          refine lv_istore_n (lv' := [(2, .int a28.2.2.2.1), (0, .ref (va 0)), (1, .int a28.1), (3, .int a28.2.2.1), (4, .int a28.2.2.2.1)]) hx hb dX9_tall_65 rfl hl (by decide) rfl (fun ls hl => ?_)
          refine lv_aload_n hx hb dX9_tall_66 rfl (lv_at hl 1 rfl) ?_
          refine lv_iload hx hb dX9_tall_67 (lv_at hl 4 rfl) ?_
          refine fw_Vi (As := [.int a28.2.2.2.1]) (rest := []) (n := 1) (wr := []) (rv := fun b : Int32 × OB => b.1) (wp := fun b : Int32 × OB => moW k va b.2) h hx hb hml hown hts hG hA hP hD hS hl.1 (List.range (moW k va q5.2).length) [] (fun q hq9 => c_X9_felledBy l D k _  va F a28.2.2.2.1 q5.2  hq9) (ci := 7) (q0 := 0) rfl rfl gX9_tall_X9_felledBy rfl ⟨rfl, rfl, Nat.le_of_ble_eq_true rfl, Nat.le_of_ble_eq_true rfl⟩ (by decide +kernel) (al_C _) rfl (al_n _) ⟨rfl, rfl, Nat.le_of_ble_eq_true rfl, Nat.le_of_ble_eq_true rfl, Nat.le_of_ble_eq_true rfl⟩ dX9_tall_69 (fun q8 H locs h hP hD hS => ?_)
          obtain ⟨hP, hD⟩ := cv (w' := moW k va q8.2) hP hD rfl
          refine hc_is (z := q8.1) rfl ?_
          refine fw_Si (As := [.int q8.1]) (rest := []) (n := 1) (wr := moW k va q8.2) (rv := fun b : Int32 => b) (wp := fun b : Int32 => []) h hx hb hml hown hts hG hA hP hD hS hl.1 [] (List.range (moW k va q8.2).length) (fun q hq9 => c_X9_bits l D k _   F q8.1   hq9) gX9_tall_X9_bits rfl ⟨rfl, rfl, Nat.le_of_ble_eq_true rfl, Nat.le_of_ble_eq_true rfl⟩ (by decide +kernel) rfl (al_C _) (al_m _) ⟨rfl, rfl, Nat.le_of_ble_eq_true rfl, Nat.le_of_ble_eq_true rfl, Nat.le_of_ble_eq_true rfl⟩ dX9_tall_72 (fun q9 H locs h hP hD hS => ?_)
          obtain ⟨hP, hD⟩ := cv (w' := (moW k va q8.2) ++ []) hP hD rfl
          rw [List.append_nil] at hP hD
          refine hc_is (z := q9) rfl ?_
          refine lv_istore_n (lv' := [(3, .int q9), (2, .int a28.2.2.2.1), (0, .ref (va 0)), (1, .int a28.1), (4, .int a28.2.2.2.1)]) hx hb dX9_tall_75 rfl hl (by decide) rfl (fun ls hl => ?_)
          exact B76 _ _ _ _ _ _ _ _ h hP hD hS (lv_sub hl [2, 3, 1, 0, 4] rfl)
  have C28 : ∀ (v1 : Int32) (v2 : Int32) (v3 : Int32) (v4 : Int32) (mo : OB), lp (b_X9_tall_28 F) F (v1, v2, v3, v4, mo) = some res → ∀ (H : Heap) (locs : List Loc) (ls : Array Slot), va_P D vwCl (moW k va mo) H → va_D A (moW k va mo) → va_S A s.heap H locs → lv_has ls 5 [(0, .ref (va 0)), (1, .int v1), (2, .int v2), (3, .int v3), (4, .int v4)] → W p l e (rmK 7 0 0) s m (List.toArray [.ref (va 0), .int x1]) below meth c H locs 0 0 (MQ below (va_Qi (fun r (_ : Unit) => r = res.1) (hcB D (fun _ : Unit => moW k va res.2) A) A) (List.toArray [.ref (va 0), .int x1]) s 0 0 A) (F0 m 28 ls []) := fun v1 v2 v3 v4 mo => B28 (v1, v2, v3, v4, mo)
  refine lv_aload_n hx hb dX9_tall_0 rfl (lv_at hl 0 rfl) ?_
  refine fw_Vi (As := []) (rest := []) (n := 0) (wr := []) (rv := fun b : Int32 => b) (wp := fun b : Int32 => moW k va mo) h hx hb hml hown hts hG hA hP hD hS hl.1 (List.range (moW k va mo).length) [] (fun q hq9 => c_X9_isHall l D k _  va F  mo  hq9) (ci := 7) (q0 := 0) rfl rfl gX9_tall_X9_isHall rfl ⟨rfl, rfl, Nat.le_of_ble_eq_true rfl, Nat.le_of_ble_eq_true rfl⟩ (by decide +kernel) (al_C _) rfl (al_n _) ⟨rfl, rfl, Nat.le_of_ble_eq_true rfl, Nat.le_of_ble_eq_true rfl, Nat.le_of_ble_eq_true rfl⟩ dX9_tall_1 (fun q10 H locs h hP hD hS => ?_)
  obtain ⟨hP, hD⟩ := cv (w' := moW k va mo) hP hD rfl
  refine hc_is (z := q10) rfl ?_
  refine lv_if_eq (tgt := 17) hx hb dX9_tall_4 (by decide) (fun c11 => ?_) (fun c11 => ?_)
  · have h := fw_t c11 h
    exact B17 _ _ _ _ h hP hD hS (lv_sub hl [] rfl)
  · have h := fw_f c11 h
    refine lv_iload_n hx hb dX9_tall_7 rfl (lv_at hl 1 rfl) ?_
    refine lv_i2l hx hb dX9_tall_8 rfl ?_
    refine lv_lconst (v := 0) hx hb dX9_tall_9 (by decide) ?_
    refine lv_lconst (v := 1) hx hb dX9_tall_10 (by decide) ?_
    refine fw_Si (As := [.long (Int32.toInt64 x1), .long 0, .long 1]) (rest := []) (n := 3) (wr := moW k va mo) (rv := fun b : Int32 => b) (wp := fun b : Int32 => []) h hx hb hml hown hts hG hA hP hD hS hl.1 [] (List.range (moW k va mo).length) (fun q hq9 => c_X9_in l D k _   F (Int32.toInt64 x1) 0 1   hq9) gX9_tall_X9_in rfl ⟨rfl, rfl, Nat.le_of_ble_eq_true rfl, Nat.le_of_ble_eq_true rfl⟩ (by decide +kernel) rfl (al_C _) (al_m _) ⟨rfl, rfl, Nat.le_of_ble_eq_true rfl, Nat.le_of_ble_eq_true rfl, Nat.le_of_ble_eq_true rfl⟩ dX9_tall_11 (fun q12 H locs h hP hD hS => ?_)
    obtain ⟨hP, hD⟩ := cv (w' := (moW k va mo) ++ []) hP hD rfl
    rw [List.append_nil] at hP hD
    refine hc_is (z := q12) rfl ?_
    refine lv_if_ne (tgt := 19) hx hb dX9_tall_14 (by decide) (fun c13 => ?_) (fun c13 => ?_)
    · have h := fw_f c13 h
      refine lv_bipush (v := (-2)) hx hb dX9_tall_19 (by decide) ?_
      refine lv_istore_n (lv' := [(2, .int (-2)), (0, .ref (va 0)), (1, .int x1)]) hx hb dX9_tall_21 rfl hl (by decide) rfl (fun ls hl => ?_)
      refine lv_bipush (v := (-2)) hx hb dX9_tall_22 (by decide) ?_
      refine lv_istore_n (lv' := [(3, .int (-2)), (2, .int (-2)), (0, .ref (va 0)), (1, .int x1)]) hx hb dX9_tall_24 rfl hl (by decide) rfl (fun ls hl => ?_)
      refine lv_iconst (v := 0) hx hb dX9_tall_25 (by decide) ?_
      refine lv_istore (lv' := [(4, .int 0), (3, .int (-2)), (2, .int (-2)), (0, .ref (va 0)), (1, .int x1)]) hx hb dX9_tall_26 hl (by decide) rfl (fun ls hl => ?_)
      exact C28 _ _ _ _ _ h _ _ _ hP hD hS (lv_sub hl [3, 4, 2, 1, 0] rfl)
    · have h := fw_t c13 h
      exact B17 _ _ _ _ h hP hD hS (lv_sub hl [] rfl)
noncomputable def b_X9_ease_17 (F : Nat)  (mo : OB)   : Option (Int32) :=
  some (-1)
noncomputable def b_X9_ease_100 (F : Nat)  (mo : OB)  (y0 : Int32) : Option (Int32) :=
  some y0
noncomputable def b_X9_ease_80 (F : Nat)  (mo : OB) (k37 : (Int32 × Int32 × Int32 × Int32 × Int32) → Option (Int32)) (v1 : Int32) (v2 : Int32) (v3 : Int32) (v4 : Int32) (v5 : Int32) : Option (Int32) :=
  k37 (v1, v2, v3, v4, (v5 + 1))
noncomputable def b_X9_ease_37 (F : Nat)  (mo : OB)  (k37 : (Int32 × Int32 × Int32 × Int32 × Int32) → Option (Int32)) (a37 : (Int32 × Int32 × Int32 × Int32 × Int32)) : Option (Int32) :=
  if a37.2.1 < a37.2.2.2.2 then (if a37.1 = 0 then (Option.bind (f_X9_bits F a37.2.2.2.1) (fun q3 => (b_X9_ease_100 F mo q3))) else (b_X9_ease_100 F mo a37.2.2.2.1)) else (if (a37.2.2.2.2 &&& (a37.2.1 ^^^ (-1))) = 0 then (Option.bind (f_X9_bits F a37.2.2.2.2) (fun q5 => (Option.bind (f_X9_bits F a37.2.2.2.1) (fun q6 => (if q5 ≤ q6 then (b_X9_ease_80 F mo k37 a37.1 a37.2.1 a37.2.2.1 a37.2.2.2.1 a37.2.2.2.2) else (Option.bind (f_X9_dropsOf F (a37.2.2.1 ||| a37.2.2.2.2) mo) (fun q8 => (if q8 = 0 then (b_X9_ease_80 F mo k37 a37.1 a37.2.1 a37.2.2.1 a37.2.2.2.2 a37.2.2.2.2) else (b_X9_ease_80 F mo k37 a37.1 a37.2.1 a37.2.2.1 a37.2.2.2.1 a37.2.2.2.2))))))))) else (b_X9_ease_80 F mo k37 a37.1 a37.2.1 a37.2.2.1 a37.2.2.2.1 a37.2.2.2.2))
noncomputable def f_X9_ease (F : Nat)  (x1 : Int32) (mo : OB) : Option (Int32) :=
  Option.bind (f_X9_isHall F mo) (fun q10 => (if q10 = 0 then (b_X9_ease_17 F mo ) else (Option.bind (f_X9_in F (Int32.toInt64 x1) 0 1) (fun q12 => (if q12 = 0 then (b_X9_ease_17 F mo ) else (Option.bind (f_X9_those F 0 mo) (fun q14 => (Option.bind (f_X9_those F 1 mo) (fun q15 => (lp (b_X9_ease_37 F mo) F (x1, q14, q15, 0, 0)))))))))))
set_option maxHeartbeats 4000000 in
set_option maxRecDepth 100000 in
theorem c_X9_ease (l : Launch) (D : va_G) (k : Nat → ClassId) (sz : Nat)  (va : Nat → Nat) (F : Nat)  (x1 : Int32) (mo : OB)  {res : Int32} (h : f_X9_ease F x1 mo = some res) : CtI l yX9_ease wsX9_ease (rmK 5 0 0) [.ref (va 0), .int x1] D k sz (moW k va mo) (fun r (_ : Unit) => r = res) (fun _ : Unit => moW k va mo) 0 0 := by
  refine CtI.mk (cc := cX9_ease) (maxL := 6) (ret := (some .int)) (by decide) rfl (Nat.le_of_ble_eq_true rfl) ?_
  intro p e s m below meth c A ls E hP hD hS hl
  obtain ⟨hx, hb, hr, hml, hown, hts, hlocks, hin, hG, hA⟩ := E
  have hown : s.vm.findClass RX9 = some m.cls := hown
  have in9 : ∀ w ∈ u_ws RX9 TX9 53, w ∈ wsX9_ease := fun _ h => List.mem_cons_of_mem _ (List.mem_append_right _ h)
  have hl : lv_has ls 6 [(0, .ref (va 0)), (1, .int x1)] := hl
  have B17 : ∀ (H : Heap) (locs : List Loc) (ls : Array Slot), b_X9_ease_17 F mo  = some res → va_P D vwCl (moW k va mo) H → va_D A (moW k va mo) → va_S A s.heap H locs → lv_has ls 6 [] → W p l e (rmK 5 0 0) s m (List.toArray [.ref (va 0), .int x1]) below meth c H locs 0 0 (MQ below (va_Qi (fun r (_ : Unit) => r = res) (hcB D (fun _ : Unit => moW k va mo) A) A) (List.toArray [.ref (va 0), .int x1]) s 0 0 A) (F0 m 17 ls []) := by
    intro  H locs ls h hP hD hS hl
    refine lv_iconst (v := (-1)) hx hb dX9_ease_17 (by decide) ?_
    exact fw_endI (rv := fun b : Int32 => b) (wp := fun b : Int32 => moW k va mo) hx hb hr hlocks h rfl hP hD hS dX9_ease_18
  have B100 : ∀ (y0 : Int32) (H : Heap) (locs : List Loc) (ls : Array Slot), b_X9_ease_100 F mo y0 = some res → va_P D vwCl (moW k va mo) H → va_D A (moW k va mo) → va_S A s.heap H locs → lv_has ls 6 [] → W p l e (rmK 5 0 0) s m (List.toArray [.ref (va 0), .int x1]) below meth c H locs 0 0 (MQ below (va_Qi (fun r (_ : Unit) => r = res) (hcB D (fun _ : Unit => moW k va mo) A) A) (List.toArray [.ref (va 0), .int x1]) s 0 0 A) (F0 m 100 ls [.int y0]) := by
    intro y0 H locs ls h hP hD hS hl
    exact fw_endI (rv := fun b : Int32 => b) (wp := fun b : Int32 => moW k va mo) hx hb hr hlocks h rfl hP hD hS dX9_ease_100
  have B37 : ∀ a37 : (Int32 × Int32 × Int32 × Int32 × Int32), lp (b_X9_ease_37 F mo) F a37 = some res → ∀ (H : Heap) (locs : List Loc) (ls : Array Slot), va_P D vwCl (moW k va mo) H → va_D A (moW k va mo) → va_S A s.heap H locs → lv_has ls 6 [(0, .ref (va 0)), (1, .int a37.1), (2, .int a37.2.1), (3, .int a37.2.2.1), (4, .int a37.2.2.2.1), (5, .int a37.2.2.2.2)] → W p l e (rmK 5 0 0) s m (List.toArray [.ref (va 0), .int x1]) below meth c H locs 0 0 (MQ below (va_Qi (fun r (_ : Unit) => r = res) (hcB D (fun _ : Unit => moW k va mo) A) A) (List.toArray [.ref (va 0), .int x1]) s 0 0 A) (F0 m 37 ls []) := by
    refine lp_W ?_ F
    intro k37 hk37 a37 h H locs ls hP hD hS hl
    have hc37 : ∀ (v1 : Int32) (v2 : Int32) (v3 : Int32) (v4 : Int32) (v5 : Int32), k37 (v1, v2, v3, v4, v5) = some res → ∀ (H : Heap) (locs : List Loc) (ls : Array Slot), va_P D vwCl (moW k va mo) H → va_D A (moW k va mo) → va_S A s.heap H locs → lv_has ls 6 [(0, .ref (va 0)), (1, .int v1), (2, .int v2), (3, .int v3), (4, .int v4), (5, .int v5)] → W p l e (rmK 5 0 0) s m (List.toArray [.ref (va 0), .int x1]) below meth c H locs 0 0 (MQ below (va_Qi (fun r (_ : Unit) => r = res) (hcB D (fun _ : Unit => moW k va mo) A) A) (List.toArray [.ref (va 0), .int x1]) s 0 0 A) (F0 m 37 ls []) := fun v1 v2 v3 v4 v5 => hk37 (v1, v2, v3, v4, v5)
    have B80 : ∀ (v1 : Int32) (v2 : Int32) (v3 : Int32) (v4 : Int32) (v5 : Int32) (H : Heap) (locs : List Loc) (ls : Array Slot), b_X9_ease_80 F mo k37 v1 v2 v3 v4 v5 = some res → va_P D vwCl (moW k va mo) H → va_D A (moW k va mo) → va_S A s.heap H locs → lv_has ls 6 [(0, .ref (va 0)), (1, .int v1), (2, .int v2), (3, .int v3), (4, .int v4), (5, .int v5)] → W p l e (rmK 5 0 0) s m (List.toArray [.ref (va 0), .int x1]) below meth c H locs 0 0 (MQ below (va_Qi (fun r (_ : Unit) => r = res) (hcB D (fun _ : Unit => moW k va mo) A) A) (List.toArray [.ref (va 0), .int x1]) s 0 0 A) (F0 m 80 ls []) := by
      intro v1 v2 v3 v4 v5 H locs ls h hP hD hS hl
      refine lv_iinc (v := (v5 + 1)) (lv' := [(5, .int (v5 + 1)), (0, .ref (va 0)), (1, .int v1), (2, .int v2), (3, .int v3), (4, .int v4)]) hx hb dX9_ease_80 hl (k := 5) rfl rfl (by decide) rfl (fun ls hl => ?_)
      refine lv_goto (tgt := 37) hx hb dX9_ease_83 (by decide) ?_
      exact hc37 _ _ _ _ _ h _ _ _ hP hD hS (lv_sub hl [1, 2, 3, 4, 5, 0] rfl)
    refine lv_iload hx hb dX9_ease_37 (lv_at hl 5 rfl) ?_
    refine lv_iload_n hx hb dX9_ease_39 rfl (lv_at hl 2 rfl) ?_
    refine lv_icmp_gt (tgt := 86) hx hb dX9_ease_40 (by decide) (fun c1 => ?_) (fun c1 => ?_)
    · have h := fw_t c1 h
      refine lv_iload_n hx hb dX9_ease_86 rfl (lv_at hl 1 rfl) ?_
      refine lv_if_ne (tgt := 98) hx hb dX9_ease_87 (by decide) (fun c2 => ?_) (fun c2 => ?_)
      · have h := fw_f c2 h
        refine lv_iload hx hb dX9_ease_98 (lv_at hl 4 rfl) ?_
        exact B100 _ _ _ _ h hP hD hS (lv_sub hl [] rfl)
      · have h := fw_t c2 h
        refine lv_iload hx hb dX9_ease_90 (lv_at hl 4 rfl) ?_
        refine fw_Si (As := [.int a37.2.2.2.1]) (rest := []) (n := 1) (wr := moW k va mo) (rv := fun b : Int32 => b) (wp := fun b : Int32 => []) h hx hb hml hown hts hG hA hP hD hS hl.1 [] (List.range (moW k va mo).length) (fun q hq9 => c_X9_bits l D k _   F a37.2.2.2.1   hq9) gX9_ease_X9_bits rfl ⟨rfl, rfl, Nat.le_of_ble_eq_true rfl, Nat.le_of_ble_eq_true rfl⟩ (by decide +kernel) rfl (al_C _) (al_m _) ⟨rfl, rfl, Nat.le_of_ble_eq_true rfl, Nat.le_of_ble_eq_true rfl, Nat.le_of_ble_eq_true rfl⟩ dX9_ease_92 (fun q3 H locs h hP hD hS => ?_)
        obtain ⟨hP, hD⟩ := cv (w' := (moW k va mo) ++ []) hP hD rfl
        rw [List.append_nil] at hP hD
        refine hc_is (z := q3) rfl ?_
        refine lv_goto (tgt := 100) hx hb dX9_ease_95 (by decide) ?_
        exact B100 _ _ _ _ h hP hD hS (lv_sub hl [] rfl)
    · have h := fw_f c1 h
      refine lv_iload hx hb dX9_ease_43 (lv_at hl 5 rfl) ?_
      refine lv_iload_n hx hb dX9_ease_45 rfl (lv_at hl 2 rfl) ?_
      refine lv_iconst (v := (-1)) hx hb dX9_ease_46 (by decide) ?_
      refine lv_ixor hx hb dX9_ease_47 ?_
      refine lv_iand hx hb dX9_ease_48 ?_
      refine lv_if_ne (tgt := 80) hx hb dX9_ease_49 (by decide) (fun c4 => ?_) (fun c4 => ?_)
      · have h := fw_f c4 h
        exact B80 _ _ _ _ _ _ _ _ h hP hD hS hl
      · have h := fw_t c4 h
        refine lv_iload hx hb dX9_ease_52 (lv_at hl 5 rfl) ?_
        refine fw_Si (As := [.int a37.2.2.2.2]) (rest := []) (n := 1) (wr := moW k va mo) (rv := fun b : Int32 => b) (wp := fun b : Int32 => []) h hx hb hml hown hts hG hA hP hD hS hl.1 [] (List.range (moW k va mo).length) (fun q hq9 => c_X9_bits l D k _   F a37.2.2.2.2   hq9) gX9_ease_X9_bits rfl ⟨rfl, rfl, Nat.le_of_ble_eq_true rfl, Nat.le_of_ble_eq_true rfl⟩ (by decide +kernel) rfl (al_C _) (al_m _) ⟨rfl, rfl, Nat.le_of_ble_eq_true rfl, Nat.le_of_ble_eq_true rfl, Nat.le_of_ble_eq_true rfl⟩ dX9_ease_54 (fun q5 H locs h hP hD hS => ?_)
        obtain ⟨hP, hD⟩ := cv (w' := (moW k va mo) ++ []) hP hD rfl
        rw [List.append_nil] at hP hD
        refine hc_is (z := q5) rfl ?_
        refine lv_iload hx hb dX9_ease_57 (lv_at hl 4 rfl) ?_
        refine fw_Si (As := [.int a37.2.2.2.1]) (rest := [.int q5]) (n := 1) (wr := moW k va mo) (rv := fun b : Int32 => b) (wp := fun b : Int32 => []) h hx hb hml hown hts hG hA hP hD hS hl.1 [] (List.range (moW k va mo).length) (fun q hq9 => c_X9_bits l D k _   F a37.2.2.2.1   hq9) gX9_ease_X9_bits rfl ⟨rfl, rfl, Nat.le_of_ble_eq_true rfl, Nat.le_of_ble_eq_true rfl⟩ (by decide +kernel) rfl (al_C _) (al_m _) ⟨rfl, rfl, Nat.le_of_ble_eq_true rfl, Nat.le_of_ble_eq_true rfl, Nat.le_of_ble_eq_true rfl⟩ dX9_ease_59 (fun q6 H locs h hP hD hS => ?_)
        obtain ⟨hP, hD⟩ := cv (w' := (moW k va mo) ++ []) hP hD rfl
        rw [List.append_nil] at hP hD
        refine hc_is (z := q6) rfl ?_
        refine lv_icmp_le (tgt := 80) hx hb dX9_ease_62 (by decide) (fun c7 => ?_) (fun c7 => ?_)
        · have h := fw_t c7 h
          exact B80 _ _ _ _ _ _ _ _ h hP hD hS hl
        · have h := fw_f c7 h
          refine lv_aload_n hx hb dX9_ease_65 rfl (lv_at hl 0 rfl) ?_
          refine lv_iload_n hx hb dX9_ease_66 rfl (lv_at hl 3 rfl) ?_
          refine lv_iload hx hb dX9_ease_67 (lv_at hl 5 rfl) ?_
          refine lv_ior hx hb dX9_ease_69 ?_
          refine fw_Vi (As := [.int (a37.2.2.1 ||| a37.2.2.2.2)]) (rest := []) (n := 1) (wr := []) (rv := fun b : Int32 => b) (wp := fun b : Int32 => moW k va mo) h hx hb hml hown hts hG hA hP hD hS hl.1 (List.range (moW k va mo).length) [] (fun q hq9 => c_X9_dropsOf l D k _  va F (a37.2.2.1 ||| a37.2.2.2.2) mo  hq9) (ci := 7) (q0 := 0) rfl rfl gX9_ease_X9_dropsOf rfl ⟨rfl, rfl, Nat.le_of_ble_eq_true rfl, Nat.le_of_ble_eq_true rfl⟩ (by decide +kernel) (al_C _) rfl (al_n _) ⟨rfl, rfl, Nat.le_of_ble_eq_true rfl, Nat.le_of_ble_eq_true rfl, Nat.le_of_ble_eq_true rfl⟩ dX9_ease_70 (fun q8 H locs h hP hD hS => ?_)
          obtain ⟨hP, hD⟩ := cv (w' := moW k va mo) hP hD rfl
          refine hc_is (z := q8) rfl ?_
          refine lv_if_ne (tgt := 80) hx hb dX9_ease_73 (by decide) (fun c9 => ?_) (fun c9 => ?_)
          · have h := fw_f c9 h
            exact B80 _ _ _ _ _ _ _ _ h hP hD hS hl
          · have h := fw_t c9 h
            refine lv_iload hx hb dX9_ease_76 (lv_at hl 5 rfl) ?_
            refine lv_istore (lv' := [(4, .int a37.2.2.2.2), (0, .ref (va 0)), (1, .int a37.1), (2, .int a37.2.1), (3, .int a37.2.2.1), (5, .int a37.2.2.2.2)]) hx hb dX9_ease_78 hl (by decide) rfl (fun ls hl => ?_)
            exact B80 _ _ _ _ _ _ _ _ h hP hD hS (lv_sub hl [1, 2, 3, 4, 0, 5] rfl)
  have C37 : ∀ (v1 : Int32) (v2 : Int32) (v3 : Int32) (v4 : Int32) (v5 : Int32), lp (b_X9_ease_37 F mo) F (v1, v2, v3, v4, v5) = some res → ∀ (H : Heap) (locs : List Loc) (ls : Array Slot), va_P D vwCl (moW k va mo) H → va_D A (moW k va mo) → va_S A s.heap H locs → lv_has ls 6 [(0, .ref (va 0)), (1, .int v1), (2, .int v2), (3, .int v3), (4, .int v4), (5, .int v5)] → W p l e (rmK 5 0 0) s m (List.toArray [.ref (va 0), .int x1]) below meth c H locs 0 0 (MQ below (va_Qi (fun r (_ : Unit) => r = res) (hcB D (fun _ : Unit => moW k va mo) A) A) (List.toArray [.ref (va 0), .int x1]) s 0 0 A) (F0 m 37 ls []) := fun v1 v2 v3 v4 v5 => B37 (v1, v2, v3, v4, v5)
  refine lv_aload_n hx hb dX9_ease_0 rfl (lv_at hl 0 rfl) ?_
  refine fw_Vi (As := []) (rest := []) (n := 0) (wr := []) (rv := fun b : Int32 => b) (wp := fun b : Int32 => moW k va mo) h hx hb hml hown hts hG hA hP hD hS hl.1 (List.range (moW k va mo).length) [] (fun q hq9 => c_X9_isHall l D k _  va F  mo  hq9) (ci := 7) (q0 := 0) rfl rfl gX9_ease_X9_isHall rfl ⟨rfl, rfl, Nat.le_of_ble_eq_true rfl, Nat.le_of_ble_eq_true rfl⟩ (by decide +kernel) (al_C _) rfl (al_n _) ⟨rfl, rfl, Nat.le_of_ble_eq_true rfl, Nat.le_of_ble_eq_true rfl, Nat.le_of_ble_eq_true rfl⟩ dX9_ease_1 (fun q10 H locs h hP hD hS => ?_)
  obtain ⟨hP, hD⟩ := cv (w' := moW k va mo) hP hD rfl
  refine hc_is (z := q10) rfl ?_
  refine lv_if_eq (tgt := 17) hx hb dX9_ease_4 (by decide) (fun c11 => ?_) (fun c11 => ?_)
  · have h := fw_t c11 h
    exact B17 _ _ _ h hP hD hS (lv_sub hl [] rfl)
  · have h := fw_f c11 h
    refine lv_iload_n hx hb dX9_ease_7 rfl (lv_at hl 1 rfl) ?_
    refine lv_i2l hx hb dX9_ease_8 rfl ?_
    refine lv_lconst (v := 0) hx hb dX9_ease_9 (by decide) ?_
    refine lv_lconst (v := 1) hx hb dX9_ease_10 (by decide) ?_
    refine fw_Si (As := [.long (Int32.toInt64 x1), .long 0, .long 1]) (rest := []) (n := 3) (wr := moW k va mo) (rv := fun b : Int32 => b) (wp := fun b : Int32 => []) h hx hb hml hown hts hG hA hP hD hS hl.1 [] (List.range (moW k va mo).length) (fun q hq9 => c_X9_in l D k _   F (Int32.toInt64 x1) 0 1   hq9) gX9_ease_X9_in rfl ⟨rfl, rfl, Nat.le_of_ble_eq_true rfl, Nat.le_of_ble_eq_true rfl⟩ (by decide +kernel) rfl (al_C _) (al_m _) ⟨rfl, rfl, Nat.le_of_ble_eq_true rfl, Nat.le_of_ble_eq_true rfl, Nat.le_of_ble_eq_true rfl⟩ dX9_ease_11 (fun q12 H locs h hP hD hS => ?_)
    obtain ⟨hP, hD⟩ := cv (w' := (moW k va mo) ++ []) hP hD rfl
    rw [List.append_nil] at hP hD
    refine hc_is (z := q12) rfl ?_
    refine lv_if_ne (tgt := 19) hx hb dX9_ease_14 (by decide) (fun c13 => ?_) (fun c13 => ?_)
    · have h := fw_f c13 h
      refine lv_aload_n hx hb dX9_ease_19 rfl (lv_at hl 0 rfl) ?_
      refine lv_iconst (v := 0) hx hb dX9_ease_20 (by decide) ?_
      refine fw_Vi (As := [.int 0]) (rest := []) (n := 1) (wr := []) (rv := fun b : Int32 => b) (wp := fun b : Int32 => moW k va mo) h hx hb hml hown hts hG hA hP hD hS hl.1 (List.range (moW k va mo).length) [] (fun q hq9 => c_X9_those l D k _  va F 0 mo  hq9) (ci := 7) (q0 := 0) rfl rfl gX9_ease_X9_those rfl ⟨rfl, rfl, Nat.le_of_ble_eq_true rfl, Nat.le_of_ble_eq_true rfl⟩ (by decide +kernel) (al_C _) rfl (al_n _) ⟨rfl, rfl, Nat.le_of_ble_eq_true rfl, Nat.le_of_ble_eq_true rfl, Nat.le_of_ble_eq_true rfl⟩ dX9_ease_21 (fun q14 H locs h hP hD hS => ?_)
      obtain ⟨hP, hD⟩ := cv (w' := moW k va mo) hP hD rfl
      refine hc_is (z := q14) rfl ?_
      refine lv_istore_n (lv' := [(2, .int q14), (0, .ref (va 0)), (1, .int x1)]) hx hb dX9_ease_24 rfl hl (by decide) rfl (fun ls hl => ?_)
      refine lv_aload_n hx hb dX9_ease_25 rfl (lv_at hl 1 rfl) ?_
      refine lv_iconst (v := 1) hx hb dX9_ease_26 (by decide) ?_
      refine fw_Vi (As := [.int 1]) (rest := []) (n := 1) (wr := []) (rv := fun b : Int32 => b) (wp := fun b : Int32 => moW k va mo) h hx hb hml hown hts hG hA hP hD hS hl.1 (List.range (moW k va mo).length) [] (fun q hq9 => c_X9_those l D k _  va F 1 mo  hq9) (ci := 7) (q0 := 0) rfl rfl gX9_ease_X9_those rfl ⟨rfl, rfl, Nat.le_of_ble_eq_true rfl, Nat.le_of_ble_eq_true rfl⟩ (by decide +kernel) (al_C _) rfl (al_n _) ⟨rfl, rfl, Nat.le_of_ble_eq_true rfl, Nat.le_of_ble_eq_true rfl, Nat.le_of_ble_eq_true rfl⟩ dX9_ease_27 (fun q15 H locs h hP hD hS => ?_)
      obtain ⟨hP, hD⟩ := cv (w' := moW k va mo) hP hD rfl
      refine hc_is (z := q15) rfl ?_
      refine lv_istore_n (lv' := [(3, .int q15), (2, .int q14), (0, .ref (va 0)), (1, .int x1)]) hx hb dX9_ease_30 rfl hl (by decide) rfl (fun ls hl => ?_)
      refine lv_iconst (v := 0) hx hb dX9_ease_31 (by decide) ?_
      refine lv_istore (lv' := [(4, .int 0), (3, .int q15), (2, .int q14), (0, .ref (va 0)), (1, .int x1)]) hx hb dX9_ease_32 hl (by decide) rfl (fun ls hl => ?_)
      refine lv_iconst (v := 0) hx hb dX9_ease_34 (by decide) ?_
      refine lv_istore (lv' := [(5, .int 0), (4, .int 0), (3, .int q15), (2, .int q14), (0, .ref (va 0)), (1, .int x1)]) hx hb dX9_ease_35 hl (by decide) rfl (fun ls hl => ?_)
      exact C37 _ _ _ _ _ h _ _ _ hP hD hS (lv_sub hl [4, 5, 3, 2, 1, 0] rfl)
    · have h := fw_t c13 h
      exact B17 _ _ _ h hP hD hS (lv_sub hl [] rfl)
noncomputable def b_X9_nextOf_47 (F : Nat)  (mo : OB) (k2 : (Int32 × Int32) → Option (Int32)) (v1 : Int32) (v2 : Int32) : Option (Int32) :=
  k2 (v1, (v2 + 1))
noncomputable def b_X9_nextOf_2 (F : Nat)  (mo : OB)  (k2 : (Int32 × Int32) → Option (Int32)) (a2 : (Int32 × Int32)) : Option (Int32) :=
  if ((mo.2.1 1) (Int32.toNatClampNeg 3)) ≤ a2.2 then (some (-1)) else (Option.bind (f_X9_has F a2.1 a2.2) (fun q2 => (if q2 = 0 then (b_X9_nextOf_47 F mo k2 a2.1 a2.2) else (Option.bind (f_X9_dropsOf F (a2.1 &&& ((1 <<< (a2.2 &&& 31)) ^^^ (-1))) mo) (fun q4 => (if q4 = 0 then (if ib (a2.1 &&& ((1 <<< (a2.2 &&& 31)) ^^^ (-1))) 256 then (if ((mo.2.1 44) (Int32.toNatClampNeg (a2.1 &&& ((1 <<< (a2.2 &&& 31)) ^^^ (-1))))) = 0 then (b_X9_nextOf_47 F mo k2 a2.1 a2.2) else (some a2.2)) else none) else (b_X9_nextOf_47 F mo k2 a2.1 a2.2)))))))
noncomputable def f_X9_nextOf (F : Nat)  (x1 : Int32) (mo : OB) : Option (Int32) :=
  lp (b_X9_nextOf_2 F mo) F (x1, 0)
set_option maxHeartbeats 4000000 in
set_option maxRecDepth 100000 in
theorem c_X9_nextOf (l : Launch) (D : va_G) (k : Nat → ClassId) (sz : Nat)  (va : Nat → Nat) (F : Nat)  (x1 : Int32) (mo : OB)  {res : Int32} (h : f_X9_nextOf F x1 mo = some res) : CtI l yX9_nextOf wsX9_nextOf (rmK 5 0 0) [.ref (va 0), .int x1] D k sz (moW k va mo) (fun r (_ : Unit) => r = res) (fun _ : Unit => moW k va mo) 0 0 := by
  refine CtI.mk (cc := cX9_nextOf) (maxL := 4) (ret := (some .int)) (by decide) rfl (Nat.le_of_ble_eq_true rfl) ?_
  intro p e s m below meth c A ls E hP hD hS hl
  obtain ⟨hx, hb, hr, hml, hown, hts, hlocks, hin, hG, hA⟩ := E
  have hown : s.vm.findClass RX9 = some m.cls := hown
  have in9 : ∀ w ∈ u_ws RX9 TX9 53, w ∈ wsX9_nextOf := fun _ h => List.mem_cons_of_mem _ (List.mem_append_right _ h)
  have hl : lv_has ls 4 [(0, .ref (va 0)), (1, .int x1)] := hl
  have B2 : ∀ a2 : (Int32 × Int32), lp (b_X9_nextOf_2 F mo) F a2 = some res → ∀ (H : Heap) (locs : List Loc) (ls : Array Slot), va_P D vwCl (moW k va mo) H → va_D A (moW k va mo) → va_S A s.heap H locs → lv_has ls 4 [(0, .ref (va 0)), (1, .int a2.1), (2, .int a2.2)] → W p l e (rmK 5 0 0) s m (List.toArray [.ref (va 0), .int x1]) below meth c H locs 0 0 (MQ below (va_Qi (fun r (_ : Unit) => r = res) (hcB D (fun _ : Unit => moW k va mo) A) A) (List.toArray [.ref (va 0), .int x1]) s 0 0 A) (F0 m 2 ls []) := by
    refine lp_W ?_ F
    intro k2 hk2 a2 h H locs ls hP hD hS hl
    have hc2 : ∀ (v1 : Int32) (v2 : Int32), k2 (v1, v2) = some res → ∀ (H : Heap) (locs : List Loc) (ls : Array Slot), va_P D vwCl (moW k va mo) H → va_D A (moW k va mo) → va_S A s.heap H locs → lv_has ls 4 [(0, .ref (va 0)), (1, .int v1), (2, .int v2)] → W p l e (rmK 5 0 0) s m (List.toArray [.ref (va 0), .int x1]) below meth c H locs 0 0 (MQ below (va_Qi (fun r (_ : Unit) => r = res) (hcB D (fun _ : Unit => moW k va mo) A) A) (List.toArray [.ref (va 0), .int x1]) s 0 0 A) (F0 m 2 ls []) := fun v1 v2 => hk2 (v1, v2)
    have B47 : ∀ (v1 : Int32) (v2 : Int32) (H : Heap) (locs : List Loc) (ls : Array Slot), b_X9_nextOf_47 F mo k2 v1 v2 = some res → va_P D vwCl (moW k va mo) H → va_D A (moW k va mo) → va_S A s.heap H locs → lv_has ls 4 [(0, .ref (va 0)), (1, .int v1), (2, .int v2)] → W p l e (rmK 5 0 0) s m (List.toArray [.ref (va 0), .int x1]) below meth c H locs 0 0 (MQ below (va_Qi (fun r (_ : Unit) => r = res) (hcB D (fun _ : Unit => moW k va mo) A) A) (List.toArray [.ref (va 0), .int x1]) s 0 0 A) (F0 m 47 ls []) := by
      intro v1 v2 H locs ls h hP hD hS hl
      refine lv_iinc (v := (v2 + 1)) (lv' := [(2, .int (v2 + 1)), (0, .ref (va 0)), (1, .int v1)]) hx hb dX9_nextOf_47 hl (k := 2) rfl rfl (by decide) rfl (fun ls hl => ?_)
      refine lv_goto (tgt := 2) hx hb dX9_nextOf_50 (by decide) ?_
      exact hc2 _ _ h _ _ _ hP hD hS (lv_sub hl [1, 2, 0] rfl)
    refine lv_iload_n hx hb dX9_nextOf_2 rfl (lv_at hl 2 rfl) ?_
    refine lv_aload_n hx hb dX9_nextOf_3 rfl (lv_at hl 0 rfl) ?_
    refine va_get (D := D) (ci := 7) (v := .ref (va 1)) (C := RX9) (T := TX9) (N := 53) hx hb hts in9 hown hG.1 hP 0 rfl rfl 1 (by decide) (hts (.fieldLink RX9 9 "ChairCaneModel" "scalar" "[I") (mem_b bq_wsX9_nextOf 0 0 rfl)) (fun _ h9 => h9) rfl dX9_nextOf_4 ?_
    refine lv_iconst (v := 3) hx hb dX9_nextOf_7 (by decide) ?_
    refine va_iald hx hb hG.1 hP 1 0 rfl rfl (by unfold vp_in; decide) dX9_nextOf_8 ?_
    refine lv_icmp_ge (tgt := 53) hx hb dX9_nextOf_9 (by decide) (fun c1 => ?_) (fun c1 => ?_)
    · have h := fw_t c1 h
      refine lv_iconst (v := (-1)) hx hb dX9_nextOf_53 (by decide) ?_
      exact fw_endI (rv := fun b : Int32 => b) (wp := fun b : Int32 => moW k va mo) hx hb hr hlocks h rfl hP hD hS dX9_nextOf_54
    · have h := fw_f c1 h
      refine lv_iload_n hx hb dX9_nextOf_12 rfl (lv_at hl 1 rfl) ?_
      refine lv_iconst (v := 1) hx hb dX9_nextOf_13 (by decide) ?_
      refine lv_iload_n hx hb dX9_nextOf_14 rfl (lv_at hl 2 rfl) ?_
      refine lv_ishl hx hb dX9_nextOf_15 ?_
      refine lv_iconst (v := (-1)) hx hb dX9_nextOf_16 (by decide) ?_
      refine lv_ixor hx hb dX9_nextOf_17 ?_
      refine lv_iand hx hb dX9_nextOf_18 ?_
      refine lv_istore_n (lv' := [(3, .int (a2.1 &&& ((1 <<< (a2.2 &&& 31)) ^^^ (-1)))), (0, .ref (va 0)), (1, .int a2.1), (2, .int a2.2)]) hx hb dX9_nextOf_19 rfl hl (by decide) rfl (fun ls hl => ?_)
      refine lv_iload_n hx hb dX9_nextOf_20 rfl (lv_at hl 2 rfl) ?_
      refine lv_iload_n hx hb dX9_nextOf_21 rfl (lv_at hl 3 rfl) ?_
      refine fw_Si (As := [.int a2.1, .int a2.2]) (rest := []) (n := 2) (wr := moW k va mo) (rv := fun b : Int32 => b) (wp := fun b : Int32 => []) h hx hb hml hown hts hG hA hP hD hS hl.1 [] (List.range (moW k va mo).length) (fun q hq9 => c_X9_has l D k _   F a2.1 a2.2   hq9) gX9_nextOf_X9_has rfl ⟨rfl, rfl, Nat.le_of_ble_eq_true rfl, Nat.le_of_ble_eq_true rfl⟩ (by decide +kernel) rfl (al_C _) (al_m _) ⟨rfl, rfl, Nat.le_of_ble_eq_true rfl, Nat.le_of_ble_eq_true rfl, Nat.le_of_ble_eq_true rfl⟩ dX9_nextOf_22 (fun q2 H locs h hP hD hS => ?_)
      obtain ⟨hP, hD⟩ := cv (w' := (moW k va mo) ++ []) hP hD rfl
      rw [List.append_nil] at hP hD
      refine hc_is (z := q2) rfl ?_
      refine lv_if_eq (tgt := 47) hx hb dX9_nextOf_25 (by decide) (fun c3 => ?_) (fun c3 => ?_)
      · have h := fw_t c3 h
        exact B47 _ _ _ _ _ h hP hD hS (lv_sub hl [1, 2, 3] rfl)
      · have h := fw_f c3 h
        refine lv_aload_n hx hb dX9_nextOf_28 rfl (lv_at hl 1 rfl) ?_
        refine lv_iload_n hx hb dX9_nextOf_29 rfl (lv_at hl 0 rfl) ?_
        refine fw_Vi (As := [.int (a2.1 &&& ((1 <<< (a2.2 &&& 31)) ^^^ (-1)))]) (rest := []) (n := 1) (wr := []) (rv := fun b : Int32 => b) (wp := fun b : Int32 => moW k va mo) h hx hb hml hown hts hG hA hP hD hS hl.1 (List.range (moW k va mo).length) [] (fun q hq9 => c_X9_dropsOf l D k _  va F (a2.1 &&& ((1 <<< (a2.2 &&& 31)) ^^^ (-1))) mo  hq9) (ci := 7) (q0 := 0) rfl rfl gX9_nextOf_X9_dropsOf rfl ⟨rfl, rfl, Nat.le_of_ble_eq_true rfl, Nat.le_of_ble_eq_true rfl⟩ (by decide +kernel) (al_C _) rfl (al_n _) ⟨rfl, rfl, Nat.le_of_ble_eq_true rfl, Nat.le_of_ble_eq_true rfl, Nat.le_of_ble_eq_true rfl⟩ dX9_nextOf_30 (fun q4 H locs h hP hD hS => ?_)
        obtain ⟨hP, hD⟩ := cv (w' := moW k va mo) hP hD rfl
        refine hc_is (z := q4) rfl ?_
        refine lv_if_ne (tgt := 47) hx hb dX9_nextOf_33 (by decide) (fun c5 => ?_) (fun c5 => ?_)
        · have h := fw_f c5 h
          exact B47 _ _ _ _ _ h hP hD hS (lv_sub hl [1, 2, 3] rfl)
        · have h := fw_t c5 h
          refine lv_aload_n hx hb dX9_nextOf_36 rfl (lv_at hl 1 rfl) ?_
          refine va_get (D := D) (ci := 7) (v := .ref (va 31)) (C := RX9) (T := TX9) (N := 53) hx hb hts in9 hown hG.1 hP 0 rfl rfl 44 (by decide) (hts (.fieldLink RX9 106 "ChairCaneModel" "canRise" "[Z") (mem_b bq_wsX9_nextOf 0 1 rfl)) (fun _ h9 => h9) rfl dX9_nextOf_37 ?_
          refine lv_iload_n hx hb dX9_nextOf_40 rfl (lv_at hl 0 rfl) ?_
          obtain ⟨g6, h⟩ := fw_g h
          refine va_zald hx hb hG.1 hP 31 2 rfl rfl (ib_vp g6) dX9_nextOf_41 ?_
          refine lv_if_eq (tgt := 47) hx hb dX9_nextOf_42 (by decide) (fun c7 => ?_) (fun c7 => ?_)
          · have h := fw_t c7 h
            exact B47 _ _ _ _ _ h hP hD hS (lv_sub hl [1, 2, 3] rfl)
          · have h := fw_f c7 h
            refine lv_iload_n hx hb dX9_nextOf_45 rfl (lv_at hl 3 rfl) ?_
            exact fw_endI (rv := fun b : Int32 => b) (wp := fun b : Int32 => moW k va mo) hx hb hr hlocks h rfl hP hD hS dX9_nextOf_46
  have C2 : ∀ (v1 : Int32) (v2 : Int32), lp (b_X9_nextOf_2 F mo) F (v1, v2) = some res → ∀ (H : Heap) (locs : List Loc) (ls : Array Slot), va_P D vwCl (moW k va mo) H → va_D A (moW k va mo) → va_S A s.heap H locs → lv_has ls 4 [(0, .ref (va 0)), (1, .int v1), (2, .int v2)] → W p l e (rmK 5 0 0) s m (List.toArray [.ref (va 0), .int x1]) below meth c H locs 0 0 (MQ below (va_Qi (fun r (_ : Unit) => r = res) (hcB D (fun _ : Unit => moW k va mo) A) A) (List.toArray [.ref (va 0), .int x1]) s 0 0 A) (F0 m 2 ls []) := fun v1 v2 => B2 (v1, v2)
  refine lv_iconst (v := 0) hx hb dX9_nextOf_0 (by decide) ?_
  refine lv_istore_n (lv' := [(2, .int 0), (0, .ref (va 0)), (1, .int x1)]) hx hb dX9_nextOf_1 rfl hl (by decide) rfl (fun ls hl => ?_)
  exact C2 _ _ h _ _ _ hP hD hS (lv_sub hl [1, 2, 0] rfl)
noncomputable def b_X9_way_19 (F : Nat)    (mo : OB) : Option (Int32 × OB) :=
  some ((-3), mo)
noncomputable def b_X9_way_131 (F : Nat)    (y0 : Int32) (mo : OB) : Option (Int32 × OB) :=
  some (y0, mo)
noncomputable def b_X9_way_118 (F : Nat)    (v3 : Int32) (mo : OB) : Option (Int32 × OB) :=
  if v3 = 0 then (b_X9_way_131 F (-1) mo) else (Option.bind (f_X9_nextOf F v3 mo) (fun q2 => (b_X9_way_131 F q2 mo)))
noncomputable def b_X9_way_90 (F : Nat)    (k90 : (Int32 × Int32 × Int32 × OB) → Option (Int32 × OB)) (a90 : (Int32 × Int32 × Int32 × OB)) : Option (Int32 × OB) :=
  if a90.1 ≤ a90.2.2.1 then (b_X9_way_118 F a90.2.1 a90.2.2.2) else (if a90.2.1 = 0 then (b_X9_way_118 F a90.2.1 a90.2.2.2) else (Option.bind (f_X9_nextOf F a90.2.1 a90.2.2.2) (fun q5 => (k90 (a90.1, (a90.2.1 &&& ((1 <<< (q5 &&& 31)) ^^^ (-1))), (a90.2.2.1 + 1), a90.2.2.2)))))
noncomputable def b_X9_way_67 (F : Nat)   (k30 : (Int32 × Int32 × Int32 × OB) → Option (Int32 × OB)) (v1 : Int32) (v2 : Int32) (v3 : Int32) (mo : OB) : Option (Int32 × OB) :=
  k30 (v1, v2, (v3 + 1), mo)
noncomputable def b_X9_way_66 (F : Nat)   (k30 : (Int32 × Int32 × Int32 × OB) → Option (Int32 × OB)) (v1 : Int32) (v2 : Int32) (v3 : Int32) (y0 : Int32) (y1 : Int32) (mo : OB) : Option (Int32 × OB) :=
  if ib y1 256 then (b_X9_way_67 F k30 v1 v2 v3 (mo.1, (uF mo.2.1 44 (upd (mo.2.1 44) (Int32.toNatClampNeg y1) (vp_nar .boolean y0))), mo.2.2)) else none
noncomputable def b_X9_way_61 (F : Nat)   (k30 : (Int32 × Int32 × Int32 × OB) → Option (Int32 × OB)) (v1 : Int32) (v2 : Int32) (v3 : Int32) (y0 : Int32) (mo : OB) : Option (Int32 × OB) :=
  b_X9_way_66 F k30 v1 v2 v3 1 y0 mo
noncomputable def b_X9_way_30 (F : Nat)    (k30 : (Int32 × Int32 × Int32 × OB) → Option (Int32 × OB)) (a30 : (Int32 × Int32 × Int32 × OB)) : Option (Int32 × OB) :=
  if a30.2.1 < a30.2.2.1 then (if ib a30.2.1 256 then (if ((a30.2.2.2.2.1 44) (Int32.toNatClampNeg a30.2.1)) = 0 then (some ((-2), a30.2.2.2)) else (lp (b_X9_way_90 F) F (a30.1, a30.2.1, 0, a30.2.2.2))) else none) else (if (a30.2.2.1 &&& (a30.2.1 ^^^ (-1))) = 0 then (if a30.2.2.1 = 0 then (b_X9_way_61 F k30 a30.1 a30.2.1 a30.2.2.1 a30.2.2.1 a30.2.2.2) else (Option.bind (f_X9_nextOf F a30.2.2.1 a30.2.2.2) (fun q12 => (if q12 = (-1) then (b_X9_way_66 F k30 a30.1 a30.2.1 a30.2.2.1 0 a30.2.2.1 a30.2.2.2) else (b_X9_way_61 F k30 a30.1 a30.2.1 a30.2.2.1 a30.2.2.1 a30.2.2.2))))) else (b_X9_way_67 F k30 a30.1 a30.2.1 a30.2.2.1 a30.2.2.2))
noncomputable def f_X9_way (F : Nat)  (x1 : Int32) (mo : OB) : Option (Int32 × OB) :=
  Option.bind (f_X9_isHall F mo) (fun q14 => (if q14 = 0 then (b_X9_way_19 F mo) else (Option.bind (f_X9_in F (Int32.toInt64 x1) 0 7) (fun q16 => (if q16 = 0 then (b_X9_way_19 F mo) else (Option.bind (f_X9_those F 1 mo) (fun q18 => (lp (b_X9_way_30 F) F (x1, q18, 0, mo)))))))))
set_option maxHeartbeats 4000000 in
set_option maxRecDepth 100000 in
theorem c_X9_way (l : Launch) (D : va_G) (k : Nat → ClassId) (sz : Nat)  (va : Nat → Nat) (F : Nat)  (x1 : Int32) (mo : OB)  {res : Int32 × OB} (h : f_X9_way F x1 mo = some res) : CtI l yX9_way wsX9_way (rmK 6 0 0) [.ref (va 0), .int x1] D k sz (moW k va mo) (fun r (_ : Unit) => r = res.1) (fun _ : Unit => moW k va res.2) 0 0 := by
  refine CtI.mk (cc := cX9_way) (maxL := 5) (ret := (some .int)) (by decide) rfl (Nat.le_of_ble_eq_true rfl) ?_
  intro p e s m below meth c A ls E hP hD hS hl
  obtain ⟨hx, hb, hr, hml, hown, hts, hlocks, hin, hG, hA⟩ := E
  have hown : s.vm.findClass RX9 = some m.cls := hown
  have in9 : ∀ w ∈ u_ws RX9 TX9 53, w ∈ wsX9_way := fun _ h => List.mem_cons_of_mem _ (List.mem_append_right _ h)
  have hl : lv_has ls 5 [(0, .ref (va 0)), (1, .int x1)] := hl
  have B19 : ∀ (mo : OB) (H : Heap) (locs : List Loc) (ls : Array Slot), b_X9_way_19 F mo = some res → va_P D vwCl (moW k va mo) H → va_D A (moW k va mo) → va_S A s.heap H locs → lv_has ls 5 [] → W p l e (rmK 6 0 0) s m (List.toArray [.ref (va 0), .int x1]) below meth c H locs 0 0 (MQ below (va_Qi (fun r (_ : Unit) => r = res.1) (hcB D (fun _ : Unit => moW k va res.2) A) A) (List.toArray [.ref (va 0), .int x1]) s 0 0 A) (F0 m 19 ls []) := by
    intro mo H locs ls h hP hD hS hl
    refine lv_bipush (v := (-3)) hx hb dX9_way_19 (by decide) ?_
    exact fw_endI (rv := fun b : Int32 × OB => b.1) (wp := fun b : Int32 × OB => moW k va b.2) hx hb hr hlocks h rfl hP hD hS dX9_way_21
  have B131 : ∀ (y0 : Int32) (mo : OB) (H : Heap) (locs : List Loc) (ls : Array Slot), b_X9_way_131 F y0 mo = some res → va_P D vwCl (moW k va mo) H → va_D A (moW k va mo) → va_S A s.heap H locs → lv_has ls 5 [] → W p l e (rmK 6 0 0) s m (List.toArray [.ref (va 0), .int x1]) below meth c H locs 0 0 (MQ below (va_Qi (fun r (_ : Unit) => r = res.1) (hcB D (fun _ : Unit => moW k va res.2) A) A) (List.toArray [.ref (va 0), .int x1]) s 0 0 A) (F0 m 131 ls [.int y0]) := by
    intro y0 mo H locs ls h hP hD hS hl
    exact fw_endI (rv := fun b : Int32 × OB => b.1) (wp := fun b : Int32 × OB => moW k va b.2) hx hb hr hlocks h rfl hP hD hS dX9_way_131
  have B118 : ∀ (v3 : Int32) (mo : OB) (H : Heap) (locs : List Loc) (ls : Array Slot), b_X9_way_118 F v3 mo = some res → va_P D vwCl (moW k va mo) H → va_D A (moW k va mo) → va_S A s.heap H locs → lv_has ls 5 [(0, .ref (va 0)), (3, .int v3)] → W p l e (rmK 6 0 0) s m (List.toArray [.ref (va 0), .int x1]) below meth c H locs 0 0 (MQ below (va_Qi (fun r (_ : Unit) => r = res.1) (hcB D (fun _ : Unit => moW k va res.2) A) A) (List.toArray [.ref (va 0), .int x1]) s 0 0 A) (F0 m 118 ls []) := by
    intro v3 mo H locs ls h hP hD hS hl
    refine lv_iload_n hx hb dX9_way_118 rfl (lv_at hl 1 rfl) ?_
    refine lv_if_ne (tgt := 126) hx hb dX9_way_119 (by decide) (fun c1 => ?_) (fun c1 => ?_)
    · have h := fw_f c1 h
      refine lv_aload_n hx hb dX9_way_126 rfl (lv_at hl 0 rfl) ?_
      refine lv_iload_n hx hb dX9_way_127 rfl (lv_at hl 1 rfl) ?_
      refine fw_Vi (As := [.int v3]) (rest := []) (n := 1) (wr := []) (rv := fun b : Int32 => b) (wp := fun b : Int32 => moW k va mo) h hx hb hml hown hts hG hA hP hD hS hl.1 (List.range (moW k va mo).length) [] (fun q hq9 => c_X9_nextOf l D k _  va F v3 mo  hq9) (ci := 7) (q0 := 0) rfl rfl gX9_way_X9_nextOf rfl ⟨rfl, rfl, Nat.le_of_ble_eq_true rfl, Nat.le_of_ble_eq_true rfl⟩ (by decide +kernel) (al_C _) rfl (al_n _) ⟨rfl, rfl, Nat.le_of_ble_eq_true rfl, Nat.le_of_ble_eq_true rfl, Nat.le_of_ble_eq_true rfl⟩ dX9_way_128 (fun q2 H locs h hP hD hS => ?_)
      obtain ⟨hP, hD⟩ := cv (w' := moW k va mo) hP hD rfl
      refine hc_is (z := q2) rfl ?_
      exact B131 _ _ _ _ _ h hP hD hS (lv_sub hl [] rfl)
    · have h := fw_t c1 h
      refine lv_iconst (v := (-1)) hx hb dX9_way_122 (by decide) ?_
      refine lv_goto (tgt := 131) hx hb dX9_way_123 (by decide) ?_
      exact B131 _ _ _ _ _ h hP hD hS (lv_sub hl [] rfl)
  have B90 : ∀ a90 : (Int32 × Int32 × Int32 × OB), lp (b_X9_way_90 F) F a90 = some res → ∀ (H : Heap) (locs : List Loc) (ls : Array Slot), va_P D vwCl (moW k va a90.2.2.2) H → va_D A (moW k va a90.2.2.2) → va_S A s.heap H locs → lv_has ls 5 [(0, .ref (va 0)), (1, .int a90.1), (3, .int a90.2.1), (4, .int a90.2.2.1)] → W p l e (rmK 6 0 0) s m (List.toArray [.ref (va 0), .int x1]) below meth c H locs 0 0 (MQ below (va_Qi (fun r (_ : Unit) => r = res.1) (hcB D (fun _ : Unit => moW k va res.2) A) A) (List.toArray [.ref (va 0), .int x1]) s 0 0 A) (F0 m 90 ls []) := by
    refine lp_W ?_ F
    intro k90 hk90 a90 h H locs ls hP hD hS hl
    have hc90 : ∀ (v1 : Int32) (v3 : Int32) (v4 : Int32) (mo : OB), k90 (v1, v3, v4, mo) = some res → ∀ (H : Heap) (locs : List Loc) (ls : Array Slot), va_P D vwCl (moW k va mo) H → va_D A (moW k va mo) → va_S A s.heap H locs → lv_has ls 5 [(0, .ref (va 0)), (1, .int v1), (3, .int v3), (4, .int v4)] → W p l e (rmK 6 0 0) s m (List.toArray [.ref (va 0), .int x1]) below meth c H locs 0 0 (MQ below (va_Qi (fun r (_ : Unit) => r = res.1) (hcB D (fun _ : Unit => moW k va res.2) A) A) (List.toArray [.ref (va 0), .int x1]) s 0 0 A) (F0 m 90 ls []) := fun v1 v3 v4 mo => hk90 (v1, v3, v4, mo)
    refine lv_iload hx hb dX9_way_90 (lv_at hl 3 rfl) ?_
    refine lv_iload_n hx hb dX9_way_92 rfl (lv_at hl 1 rfl) ?_
    refine lv_icmp_ge (tgt := 118) hx hb dX9_way_93 (by decide) (fun c3 => ?_) (fun c3 => ?_)
    · have h := fw_t c3 h
      exact B118 _ _ _ _ _ h hP hD hS (lv_sub hl [0, 2] rfl)
    · have h := fw_f c3 h
      refine lv_iload_n hx hb dX9_way_96 rfl (lv_at hl 2 rfl) ?_
      refine lv_if_eq (tgt := 118) hx hb dX9_way_97 (by decide) (fun c4 => ?_) (fun c4 => ?_)
      · have h := fw_t c4 h
        exact B118 _ _ _ _ _ h hP hD hS (lv_sub hl [0, 2] rfl)
      · have h := fw_f c4 h
        refine lv_iload_n hx hb dX9_way_100 rfl (lv_at hl 2 rfl) ?_
        refine lv_iconst (v := 1) hx hb dX9_way_101 (by decide) ?_
        refine lv_aload_n hx hb dX9_way_102 rfl (lv_at hl 0 rfl) ?_
        refine lv_iload_n hx hb dX9_way_103 rfl (lv_at hl 2 rfl) ?_
        refine fw_Vi (As := [.int a90.2.1]) (rest := [.int 1, .int a90.2.1]) (n := 1) (wr := []) (rv := fun b : Int32 => b) (wp := fun b : Int32 => moW k va a90.2.2.2) h hx hb hml hown hts hG hA hP hD hS hl.1 (List.range (moW k va a90.2.2.2).length) [] (fun q hq9 => c_X9_nextOf l D k _  va F a90.2.1 a90.2.2.2  hq9) (ci := 7) (q0 := 0) rfl rfl gX9_way_X9_nextOf rfl ⟨rfl, rfl, Nat.le_of_ble_eq_true rfl, Nat.le_of_ble_eq_true rfl⟩ (by decide +kernel) (al_C _) rfl (al_n _) ⟨rfl, rfl, Nat.le_of_ble_eq_true rfl, Nat.le_of_ble_eq_true rfl, Nat.le_of_ble_eq_true rfl⟩ dX9_way_104 (fun q5 H locs h hP hD hS => ?_)
        obtain ⟨hP, hD⟩ := cv (w' := moW k va a90.2.2.2) hP hD rfl
        refine hc_is (z := q5) rfl ?_
        refine lv_ishl hx hb dX9_way_107 ?_
        refine lv_iconst (v := (-1)) hx hb dX9_way_108 (by decide) ?_
        refine lv_ixor hx hb dX9_way_109 ?_
        refine lv_iand hx hb dX9_way_110 ?_
        refine lv_istore_n (lv' := [(3, .int (a90.2.1 &&& ((1 <<< (q5 &&& 31)) ^^^ (-1)))), (0, .ref (va 0)), (1, .int a90.1), (4, .int a90.2.2.1)]) hx hb dX9_way_111 rfl hl (by decide) rfl (fun ls hl => ?_)
        refine lv_iinc (v := (a90.2.2.1 + 1)) (lv' := [(4, .int (a90.2.2.1 + 1)), (3, .int (a90.2.1 &&& ((1 <<< (q5 &&& 31)) ^^^ (-1)))), (0, .ref (va 0)), (1, .int a90.1)]) hx hb dX9_way_112 hl (k := 3) rfl rfl (by decide) rfl (fun ls hl => ?_)
        refine lv_goto (tgt := 90) hx hb dX9_way_115 (by decide) ?_
        exact hc90 _ _ _ _ h _ _ _ hP hD hS (lv_sub hl [2, 3, 1, 0] rfl)
  have C90 : ∀ (v1 : Int32) (v3 : Int32) (v4 : Int32) (mo : OB), lp (b_X9_way_90 F) F (v1, v3, v4, mo) = some res → ∀ (H : Heap) (locs : List Loc) (ls : Array Slot), va_P D vwCl (moW k va mo) H → va_D A (moW k va mo) → va_S A s.heap H locs → lv_has ls 5 [(0, .ref (va 0)), (1, .int v1), (3, .int v3), (4, .int v4)] → W p l e (rmK 6 0 0) s m (List.toArray [.ref (va 0), .int x1]) below meth c H locs 0 0 (MQ below (va_Qi (fun r (_ : Unit) => r = res.1) (hcB D (fun _ : Unit => moW k va res.2) A) A) (List.toArray [.ref (va 0), .int x1]) s 0 0 A) (F0 m 90 ls []) := fun v1 v3 v4 mo => B90 (v1, v3, v4, mo)
  have B30 : ∀ a30 : (Int32 × Int32 × Int32 × OB), lp (b_X9_way_30 F) F a30 = some res → ∀ (H : Heap) (locs : List Loc) (ls : Array Slot), va_P D vwCl (moW k va a30.2.2.2) H → va_D A (moW k va a30.2.2.2) → va_S A s.heap H locs → lv_has ls 5 [(0, .ref (va 0)), (1, .int a30.1), (2, .int a30.2.1), (3, .int a30.2.2.1)] → W p l e (rmK 6 0 0) s m (List.toArray [.ref (va 0), .int x1]) below meth c H locs 0 0 (MQ below (va_Qi (fun r (_ : Unit) => r = res.1) (hcB D (fun _ : Unit => moW k va res.2) A) A) (List.toArray [.ref (va 0), .int x1]) s 0 0 A) (F0 m 30 ls []) := by
    refine lp_W ?_ F
    intro k30 hk30 a30 h H locs ls hP hD hS hl
    have hc30 : ∀ (v1 : Int32) (v2 : Int32) (v3 : Int32) (mo : OB), k30 (v1, v2, v3, mo) = some res → ∀ (H : Heap) (locs : List Loc) (ls : Array Slot), va_P D vwCl (moW k va mo) H → va_D A (moW k va mo) → va_S A s.heap H locs → lv_has ls 5 [(0, .ref (va 0)), (1, .int v1), (2, .int v2), (3, .int v3)] → W p l e (rmK 6 0 0) s m (List.toArray [.ref (va 0), .int x1]) below meth c H locs 0 0 (MQ below (va_Qi (fun r (_ : Unit) => r = res.1) (hcB D (fun _ : Unit => moW k va res.2) A) A) (List.toArray [.ref (va 0), .int x1]) s 0 0 A) (F0 m 30 ls []) := fun v1 v2 v3 mo => hk30 (v1, v2, v3, mo)
    have B67 : ∀ (v1 : Int32) (v2 : Int32) (v3 : Int32) (mo : OB) (H : Heap) (locs : List Loc) (ls : Array Slot), b_X9_way_67 F k30 v1 v2 v3 mo = some res → va_P D vwCl (moW k va mo) H → va_D A (moW k va mo) → va_S A s.heap H locs → lv_has ls 5 [(0, .ref (va 0)), (1, .int v1), (2, .int v2), (3, .int v3)] → W p l e (rmK 6 0 0) s m (List.toArray [.ref (va 0), .int x1]) below meth c H locs 0 0 (MQ below (va_Qi (fun r (_ : Unit) => r = res.1) (hcB D (fun _ : Unit => moW k va res.2) A) A) (List.toArray [.ref (va 0), .int x1]) s 0 0 A) (F0 m 67 ls []) := by
      intro v1 v2 v3 mo H locs ls h hP hD hS hl
      refine lv_iinc (v := (v3 + 1)) (lv' := [(3, .int (v3 + 1)), (0, .ref (va 0)), (1, .int v1), (2, .int v2)]) hx hb dX9_way_67 hl (k := 3) rfl rfl (by decide) rfl (fun ls hl => ?_)
      refine lv_goto (tgt := 30) hx hb dX9_way_70 (by decide) ?_
      exact hc30 _ _ _ _ h _ _ _ hP hD hS (lv_sub hl [1, 2, 3, 0] rfl)
    have B66 : ∀ (v1 : Int32) (v2 : Int32) (v3 : Int32) (y0 : Int32) (y1 : Int32) (mo : OB) (H : Heap) (locs : List Loc) (ls : Array Slot), b_X9_way_66 F k30 v1 v2 v3 y0 y1 mo = some res → va_P D vwCl (moW k va mo) H → va_D A (moW k va mo) → va_S A s.heap H locs → lv_has ls 5 [(0, .ref (va 0)), (1, .int v1), (2, .int v2), (3, .int v3)] → W p l e (rmK 6 0 0) s m (List.toArray [.ref (va 0), .int x1]) below meth c H locs 0 0 (MQ below (va_Qi (fun r (_ : Unit) => r = res.1) (hcB D (fun _ : Unit => moW k va res.2) A) A) (List.toArray [.ref (va 0), .int x1]) s 0 0 A) (F0 m 66 ls [.int y0, .int y1, .ref (va 31)]) := by
      intro v1 v2 v3 y0 y1 mo H locs ls h hP hD hS hl
      obtain ⟨g6, h⟩ := fw_g h
      refine va_zast hx hb hG.1 hP hD hS 31 2 rfl rfl (ib_vp g6) dX9_way_66 (fun H locs hP hD hS => ?_)
      exact B67 _ _ _ _ _ _ _ h hP hD hS hl
    have B61 : ∀ (v1 : Int32) (v2 : Int32) (v3 : Int32) (y0 : Int32) (mo : OB) (H : Heap) (locs : List Loc) (ls : Array Slot), b_X9_way_61 F k30 v1 v2 v3 y0 mo = some res → va_P D vwCl (moW k va mo) H → va_D A (moW k va mo) → va_S A s.heap H locs → lv_has ls 5 [(0, .ref (va 0)), (1, .int v1), (2, .int v2), (3, .int v3)] → W p l e (rmK 6 0 0) s m (List.toArray [.ref (va 0), .int x1]) below meth c H locs 0 0 (MQ below (va_Qi (fun r (_ : Unit) => r = res.1) (hcB D (fun _ : Unit => moW k va res.2) A) A) (List.toArray [.ref (va 0), .int x1]) s 0 0 A) (F0 m 61 ls [.int y0, .ref (va 31)]) := by
      intro v1 v2 v3 y0 mo H locs ls h hP hD hS hl
      refine lv_iconst (v := 1) hx hb dX9_way_61 (by decide) ?_
      refine lv_goto (tgt := 66) hx hb dX9_way_62 (by decide) ?_
      exact B66 _ _ _ _ _ _ _ _ _ h hP hD hS hl
    refine lv_iload_n hx hb dX9_way_30 rfl (lv_at hl 3 rfl) ?_
    refine lv_iload_n hx hb dX9_way_31 rfl (lv_at hl 2 rfl) ?_
    refine lv_icmp_gt (tgt := 73) hx hb dX9_way_32 (by decide) (fun c7 => ?_) (fun c7 => ?_)
    · have h := fw_t c7 h
      refine lv_aload_n hx hb dX9_way_73 rfl (lv_at hl 0 rfl) ?_
      refine va_get (D := D) (ci := 7) (v := .ref (va 31)) (C := RX9) (T := TX9) (N := 53) hx hb hts in9 hown hG.1 hP 0 rfl rfl 44 (by decide) (hts (.fieldLink RX9 106 "ChairCaneModel" "canRise" "[Z") (mem_b bq_wsX9_way 0 1 rfl)) (fun _ h9 => h9) rfl dX9_way_74 ?_
      refine lv_iload_n hx hb dX9_way_77 rfl (lv_at hl 2 rfl) ?_
      obtain ⟨g8, h⟩ := fw_g h
      refine va_zald hx hb hG.1 hP 31 2 rfl rfl (ib_vp g8) dX9_way_78 ?_
      refine lv_if_ne (tgt := 85) hx hb dX9_way_79 (by decide) (fun c9 => ?_) (fun c9 => ?_)
      · have h := fw_f c9 h
        refine lv_iload_n hx hb dX9_way_85 rfl (lv_at hl 2 rfl) ?_
        refine lv_istore_n (lv' := [(3, .int a30.2.1), (0, .ref (va 0)), (1, .int a30.1), (2, .int a30.2.1)]) hx hb dX9_way_86 rfl hl (by decide) rfl (fun ls hl => ?_)
        refine lv_iconst (v := 0) hx hb dX9_way_87 (by decide) ?_
        refine lv_istore (lv' := [(4, .int 0), (3, .int a30.2.1), (0, .ref (va 0)), (1, .int a30.1), (2, .int a30.2.1)]) hx hb dX9_way_88 hl (by decide) rfl (fun ls hl => ?_)
        exact C90 _ _ _ _ h _ _ _ hP hD hS (lv_sub hl [2, 3, 1, 0] rfl)
      · have h := fw_t c9 h
        refine lv_bipush (v := (-2)) hx hb dX9_way_82 (by decide) ?_
        exact fw_endI (rv := fun b : Int32 × OB => b.1) (wp := fun b : Int32 × OB => moW k va b.2) hx hb hr hlocks h rfl hP hD hS dX9_way_84
    · have h := fw_f c7 h
      refine lv_iload_n hx hb dX9_way_35 rfl (lv_at hl 3 rfl) ?_
      refine lv_iload_n hx hb dX9_way_36 rfl (lv_at hl 2 rfl) ?_
      refine lv_iconst (v := (-1)) hx hb dX9_way_37 (by decide) ?_
      refine lv_ixor hx hb dX9_way_38 ?_
      refine lv_iand hx hb dX9_way_39 ?_
      refine lv_if_ne (tgt := 67) hx hb dX9_way_40 (by decide) (fun c10 => ?_) (fun c10 => ?_)
      · have h := fw_f c10 h
        exact B67 _ _ _ _ _ _ _ h hP hD hS hl
      · have h := fw_t c10 h
        refine lv_aload_n hx hb dX9_way_43 rfl (lv_at hl 0 rfl) ?_
        refine va_get (D := D) (ci := 7) (v := .ref (va 31)) (C := RX9) (T := TX9) (N := 53) hx hb hts in9 hown hG.1 hP 0 rfl rfl 44 (by decide) (hts (.fieldLink RX9 106 "ChairCaneModel" "canRise" "[Z") (mem_b bq_wsX9_way 0 1 rfl)) (fun _ h9 => h9) rfl dX9_way_44 ?_
        refine lv_iload_n hx hb dX9_way_47 rfl (lv_at hl 3 rfl) ?_
        refine lv_iload_n hx hb dX9_way_48 rfl (lv_at hl 3 rfl) ?_
        refine lv_if_eq (tgt := 61) hx hb dX9_way_49 (by decide) (fun c11 => ?_) (fun c11 => ?_)
        · have h := fw_t c11 h
          exact B61 _ _ _ _ _ _ _ _ h hP hD hS hl
        · have h := fw_f c11 h
          refine lv_aload_n hx hb dX9_way_52 rfl (lv_at hl 0 rfl) ?_
          refine lv_iload_n hx hb dX9_way_53 rfl (lv_at hl 3 rfl) ?_
          refine fw_Vi (As := [.int a30.2.2.1]) (rest := [.int a30.2.2.1, .ref (va 31)]) (n := 1) (wr := []) (rv := fun b : Int32 => b) (wp := fun b : Int32 => moW k va a30.2.2.2) h hx hb hml hown hts hG hA hP hD hS hl.1 (List.range (moW k va a30.2.2.2).length) [] (fun q hq9 => c_X9_nextOf l D k _  va F a30.2.2.1 a30.2.2.2  hq9) (ci := 7) (q0 := 0) rfl rfl gX9_way_X9_nextOf rfl ⟨rfl, rfl, Nat.le_of_ble_eq_true rfl, Nat.le_of_ble_eq_true rfl⟩ (by decide +kernel) (al_C _) rfl (al_n _) ⟨rfl, rfl, Nat.le_of_ble_eq_true rfl, Nat.le_of_ble_eq_true rfl, Nat.le_of_ble_eq_true rfl⟩ dX9_way_54 (fun q12 H locs h hP hD hS => ?_)
          obtain ⟨hP, hD⟩ := cv (w' := moW k va a30.2.2.2) hP hD rfl
          refine hc_is (z := q12) rfl ?_
          refine lv_iconst (v := (-1)) hx hb dX9_way_57 (by decide) ?_
          refine lv_icmp_eq (tgt := 65) hx hb dX9_way_58 (by decide) (fun c13 => ?_) (fun c13 => ?_)
          · have h := fw_t c13 h
            refine lv_iconst (v := 0) hx hb dX9_way_65 (by decide) ?_
            exact B66 _ _ _ _ _ _ _ _ _ h hP hD hS hl
          · have h := fw_f c13 h
            exact B61 _ _ _ _ _ _ _ _ h hP hD hS hl
  have C30 : ∀ (v1 : Int32) (v2 : Int32) (v3 : Int32) (mo : OB), lp (b_X9_way_30 F) F (v1, v2, v3, mo) = some res → ∀ (H : Heap) (locs : List Loc) (ls : Array Slot), va_P D vwCl (moW k va mo) H → va_D A (moW k va mo) → va_S A s.heap H locs → lv_has ls 5 [(0, .ref (va 0)), (1, .int v1), (2, .int v2), (3, .int v3)] → W p l e (rmK 6 0 0) s m (List.toArray [.ref (va 0), .int x1]) below meth c H locs 0 0 (MQ below (va_Qi (fun r (_ : Unit) => r = res.1) (hcB D (fun _ : Unit => moW k va res.2) A) A) (List.toArray [.ref (va 0), .int x1]) s 0 0 A) (F0 m 30 ls []) := fun v1 v2 v3 mo => B30 (v1, v2, v3, mo)
  refine lv_aload_n hx hb dX9_way_0 rfl (lv_at hl 0 rfl) ?_
  refine fw_Vi (As := []) (rest := []) (n := 0) (wr := []) (rv := fun b : Int32 => b) (wp := fun b : Int32 => moW k va mo) h hx hb hml hown hts hG hA hP hD hS hl.1 (List.range (moW k va mo).length) [] (fun q hq9 => c_X9_isHall l D k _  va F  mo  hq9) (ci := 7) (q0 := 0) rfl rfl gX9_way_X9_isHall rfl ⟨rfl, rfl, Nat.le_of_ble_eq_true rfl, Nat.le_of_ble_eq_true rfl⟩ (by decide +kernel) (al_C _) rfl (al_n _) ⟨rfl, rfl, Nat.le_of_ble_eq_true rfl, Nat.le_of_ble_eq_true rfl, Nat.le_of_ble_eq_true rfl⟩ dX9_way_1 (fun q14 H locs h hP hD hS => ?_)
  obtain ⟨hP, hD⟩ := cv (w' := moW k va mo) hP hD rfl
  refine hc_is (z := q14) rfl ?_
  refine lv_if_eq (tgt := 19) hx hb dX9_way_4 (by decide) (fun c15 => ?_) (fun c15 => ?_)
  · have h := fw_t c15 h
    exact B19 _ _ _ _ h hP hD hS (lv_sub hl [] rfl)
  · have h := fw_f c15 h
    refine lv_iload_n hx hb dX9_way_7 rfl (lv_at hl 1 rfl) ?_
    refine lv_i2l hx hb dX9_way_8 rfl ?_
    refine lv_lconst (v := 0) hx hb dX9_way_9 (by decide) ?_
    refine lv_ldc2 (v := 7) hx hb hown (hts (.constantLong RX9 432 (7)) (mem_b bq_wsX9_way 0 0 rfl)) dX9_way_10 ?_
    refine fw_Si (As := [.long (Int32.toInt64 x1), .long 0, .long 7]) (rest := []) (n := 3) (wr := moW k va mo) (rv := fun b : Int32 => b) (wp := fun b : Int32 => []) h hx hb hml hown hts hG hA hP hD hS hl.1 [] (List.range (moW k va mo).length) (fun q hq9 => c_X9_in l D k _   F (Int32.toInt64 x1) 0 7   hq9) gX9_way_X9_in rfl ⟨rfl, rfl, Nat.le_of_ble_eq_true rfl, Nat.le_of_ble_eq_true rfl⟩ (by decide +kernel) rfl (al_C _) (al_m _) ⟨rfl, rfl, Nat.le_of_ble_eq_true rfl, Nat.le_of_ble_eq_true rfl, Nat.le_of_ble_eq_true rfl⟩ dX9_way_13 (fun q16 H locs h hP hD hS => ?_)
    obtain ⟨hP, hD⟩ := cv (w' := (moW k va mo) ++ []) hP hD rfl
    rw [List.append_nil] at hP hD
    refine hc_is (z := q16) rfl ?_
    refine lv_if_ne (tgt := 22) hx hb dX9_way_16 (by decide) (fun c17 => ?_) (fun c17 => ?_)
    · have h := fw_f c17 h
      refine lv_aload_n hx hb dX9_way_22 rfl (lv_at hl 0 rfl) ?_
      refine lv_iconst (v := 1) hx hb dX9_way_23 (by decide) ?_
      refine fw_Vi (As := [.int 1]) (rest := []) (n := 1) (wr := []) (rv := fun b : Int32 => b) (wp := fun b : Int32 => moW k va mo) h hx hb hml hown hts hG hA hP hD hS hl.1 (List.range (moW k va mo).length) [] (fun q hq9 => c_X9_those l D k _  va F 1 mo  hq9) (ci := 7) (q0 := 0) rfl rfl gX9_way_X9_those rfl ⟨rfl, rfl, Nat.le_of_ble_eq_true rfl, Nat.le_of_ble_eq_true rfl⟩ (by decide +kernel) (al_C _) rfl (al_n _) ⟨rfl, rfl, Nat.le_of_ble_eq_true rfl, Nat.le_of_ble_eq_true rfl, Nat.le_of_ble_eq_true rfl⟩ dX9_way_24 (fun q18 H locs h hP hD hS => ?_)
      obtain ⟨hP, hD⟩ := cv (w' := moW k va mo) hP hD rfl
      refine hc_is (z := q18) rfl ?_
      refine lv_istore_n (lv' := [(2, .int q18), (0, .ref (va 0)), (1, .int x1)]) hx hb dX9_way_27 rfl hl (by decide) rfl (fun ls hl => ?_)
      refine lv_iconst (v := 0) hx hb dX9_way_28 (by decide) ?_
      refine lv_istore_n (lv' := [(3, .int 0), (2, .int q18), (0, .ref (va 0)), (1, .int x1)]) hx hb dX9_way_29 rfl hl (by decide) rfl (fun ls hl => ?_)
      exact C30 _ _ _ _ h _ _ _ hP hD hS (lv_sub hl [2, 3, 1, 0] rfl)
    · have h := fw_t c17 h
      exact B19 _ _ _ _ h hP hD hS (lv_sub hl [] rfl)
noncomputable def b_X9_most_60 (F : Nat)   (k30 : (Int32 × Int32 × Int32 × Int32 × Int32 × OB) → Option (Int32 × OB)) (v1 : Int32) (v2 : Int32) (v3 : Int32) (v5 : Int32) (y0 : Int32) (mo : OB) : Option (Int32 × OB) :=
  k30 (v1, v2, v3, y0, (v5 + 1), mo)
noncomputable def b_X9_most_30 (F : Nat)    (k30 : (Int32 × Int32 × Int32 × Int32 × Int32 × OB) → Option (Int32 × OB)) (a30 : (Int32 × Int32 × Int32 × Int32 × Int32 × OB)) : Option (Int32 × OB) :=
  if 99 < a30.2.2.2.2.1 then (if ib a30.1 4 then (some (a30.2.2.2.1, (a30.2.2.2.2.2.1, (uF a30.2.2.2.2.2.2.1 2 (upd (a30.2.2.2.2.2.2.1 2) (Int32.toNatClampNeg a30.1) a30.2.1)), a30.2.2.2.2.2.2.2))) else none) else (if ib a30.1 4 then (Option.bind (f_X9_dropsOf F a30.2.2.1 (a30.2.2.2.2.2.1, (uF a30.2.2.2.2.2.2.1 2 (upd (a30.2.2.2.2.2.2.1 2) (Int32.toNatClampNeg a30.1) a30.2.2.2.2.1)), a30.2.2.2.2.2.2.2)) (fun q4 => (if q4 = 0 then (b_X9_most_60 F k30 a30.1 a30.2.1 a30.2.2.1 a30.2.2.2.2.1 a30.2.2.2.2.1 (a30.2.2.2.2.2.1, (uF a30.2.2.2.2.2.2.1 2 (upd (a30.2.2.2.2.2.2.1 2) (Int32.toNatClampNeg a30.1) a30.2.2.2.2.1)), a30.2.2.2.2.2.2.2)) else (b_X9_most_60 F k30 a30.1 a30.2.1 a30.2.2.1 a30.2.2.2.2.1 a30.2.2.2.1 (a30.2.2.2.2.2.1, (uF a30.2.2.2.2.2.2.1 2 (upd (a30.2.2.2.2.2.2.1 2) (Int32.toNatClampNeg a30.1) a30.2.2.2.2.1)), a30.2.2.2.2.2.2.2))))) else none)
noncomputable def f_X9_most (F : Nat)  (x1 : Int32) (mo : OB) : Option (Int32 × OB) :=
  Option.bind (f_X9_isStrand F x1 mo) (fun q6 => (if q6 = 0 then (some ((-1), mo)) else (if ib x1 4 then (Option.bind (f_X9_those F 1 mo) (fun q9 => (lp (b_X9_most_30 F) F (x1, ((mo.2.1 2) (Int32.toNatClampNeg x1)), q9, (-2), 0, mo)))) else none)))
set_option maxHeartbeats 4000000 in
set_option maxRecDepth 100000 in
theorem c_X9_most (l : Launch) (D : va_G) (k : Nat → ClassId) (sz : Nat)  (va : Nat → Nat) (F : Nat)  (x1 : Int32) (mo : OB)  {res : Int32 × OB} (h : f_X9_most F x1 mo = some res) : CtI l yX9_most wsX9_most (rmK 5 0 0) [.ref (va 0), .int x1] D k sz (moW k va mo) (fun r (_ : Unit) => r = res.1) (fun _ : Unit => moW k va res.2) 0 0 := by
  refine CtI.mk (cc := cX9_most) (maxL := 6) (ret := (some .int)) (by decide) rfl (Nat.le_of_ble_eq_true rfl) ?_
  intro p e s m below meth c A ls E hP hD hS hl
  obtain ⟨hx, hb, hr, hml, hown, hts, hlocks, hin, hG, hA⟩ := E
  have hown : s.vm.findClass RX9 = some m.cls := hown
  have in9 : ∀ w ∈ u_ws RX9 TX9 53, w ∈ wsX9_most := fun _ h => List.mem_cons_of_mem _ (List.mem_append_right _ h)
  have hl : lv_has ls 6 [(0, .ref (va 0)), (1, .int x1)] := hl
  have B30 : ∀ a30 : (Int32 × Int32 × Int32 × Int32 × Int32 × OB), lp (b_X9_most_30 F) F a30 = some res → ∀ (H : Heap) (locs : List Loc) (ls : Array Slot), va_P D vwCl (moW k va a30.2.2.2.2.2) H → va_D A (moW k va a30.2.2.2.2.2) → va_S A s.heap H locs → lv_has ls 6 [(0, .ref (va 0)), (1, .int a30.1), (2, .int a30.2.1), (3, .int a30.2.2.1), (4, .int a30.2.2.2.1), (5, .int a30.2.2.2.2.1)] → W p l e (rmK 5 0 0) s m (List.toArray [.ref (va 0), .int x1]) below meth c H locs 0 0 (MQ below (va_Qi (fun r (_ : Unit) => r = res.1) (hcB D (fun _ : Unit => moW k va res.2) A) A) (List.toArray [.ref (va 0), .int x1]) s 0 0 A) (F0 m 30 ls []) := by
    refine lp_W ?_ F
    intro k30 hk30 a30 h H locs ls hP hD hS hl
    have hc30 : ∀ (v1 : Int32) (v2 : Int32) (v3 : Int32) (v4 : Int32) (v5 : Int32) (mo : OB), k30 (v1, v2, v3, v4, v5, mo) = some res → ∀ (H : Heap) (locs : List Loc) (ls : Array Slot), va_P D vwCl (moW k va mo) H → va_D A (moW k va mo) → va_S A s.heap H locs → lv_has ls 6 [(0, .ref (va 0)), (1, .int v1), (2, .int v2), (3, .int v3), (4, .int v4), (5, .int v5)] → W p l e (rmK 5 0 0) s m (List.toArray [.ref (va 0), .int x1]) below meth c H locs 0 0 (MQ below (va_Qi (fun r (_ : Unit) => r = res.1) (hcB D (fun _ : Unit => moW k va res.2) A) A) (List.toArray [.ref (va 0), .int x1]) s 0 0 A) (F0 m 30 ls []) := fun v1 v2 v3 v4 v5 mo => hk30 (v1, v2, v3, v4, v5, mo)
    have B60 : ∀ (v1 : Int32) (v2 : Int32) (v3 : Int32) (v5 : Int32) (y0 : Int32) (mo : OB) (H : Heap) (locs : List Loc) (ls : Array Slot), b_X9_most_60 F k30 v1 v2 v3 v5 y0 mo = some res → va_P D vwCl (moW k va mo) H → va_D A (moW k va mo) → va_S A s.heap H locs → lv_has ls 6 [(0, .ref (va 0)), (1, .int v1), (2, .int v2), (3, .int v3), (5, .int v5)] → W p l e (rmK 5 0 0) s m (List.toArray [.ref (va 0), .int x1]) below meth c H locs 0 0 (MQ below (va_Qi (fun r (_ : Unit) => r = res.1) (hcB D (fun _ : Unit => moW k va res.2) A) A) (List.toArray [.ref (va 0), .int x1]) s 0 0 A) (F0 m 60 ls [.int y0]) := by
      intro v1 v2 v3 v5 y0 mo H locs ls h hP hD hS hl
      refine lv_istore (lv' := [(4, .int y0), (0, .ref (va 0)), (1, .int v1), (2, .int v2), (3, .int v3), (5, .int v5)]) hx hb dX9_most_60 hl (by decide) rfl (fun ls hl => ?_)
      refine lv_iinc (v := (v5 + 1)) (lv' := [(5, .int (v5 + 1)), (4, .int y0), (0, .ref (va 0)), (1, .int v1), (2, .int v2), (3, .int v3)]) hx hb dX9_most_62 hl (k := 5) rfl rfl (by decide) rfl (fun ls hl => ?_)
      refine lv_goto (tgt := 30) hx hb dX9_most_65 (by decide) ?_
      exact hc30 _ _ _ _ _ _ h _ _ _ hP hD hS (lv_sub hl [2, 3, 4, 5, 1, 0] rfl)
    refine lv_iload hx hb dX9_most_30 (lv_at hl 5 rfl) ?_
    refine lv_bipush (v := 99) hx hb dX9_most_32 (by decide) ?_
    refine lv_icmp_gt (tgt := 68) hx hb dX9_most_34 (by decide) (fun c1 => ?_) (fun c1 => ?_)
    · have h := fw_t c1 h
      refine lv_aload_n hx hb dX9_most_68 rfl (lv_at hl 0 rfl) ?_
      refine va_get (D := D) (ci := 7) (v := .ref (va 2)) (C := RX9) (T := TX9) (N := 53) hx hb hts in9 hown hG.1 hP 0 rfl rfl 2 (by decide) (hts (.fieldLink RX9 13 "ChairCaneModel" "cane" "[I") (mem_b bq_wsX9_most 0 0 rfl)) (fun _ h9 => h9) rfl dX9_most_69 ?_
      refine lv_iload_n hx hb dX9_most_72 rfl (lv_at hl 1 rfl) ?_
      refine lv_iload_n hx hb dX9_most_73 rfl (lv_at hl 2 rfl) ?_
      obtain ⟨g2, h⟩ := fw_g h
      refine va_iast hx hb hG.1 hP hD hS 2 0 rfl rfl (ib_vp g2) dX9_most_74 (fun H locs hP hD hS => ?_)
      refine lv_iload hx hb dX9_most_75 (lv_at hl 4 rfl) ?_
      exact fw_endI (rv := fun b : Int32 × OB => b.1) (wp := fun b : Int32 × OB => moW k va b.2) hx hb hr hlocks h rfl hP hD hS dX9_most_77
    · have h := fw_f c1 h
      refine lv_aload_n hx hb dX9_most_37 rfl (lv_at hl 0 rfl) ?_
      refine va_get (D := D) (ci := 7) (v := .ref (va 2)) (C := RX9) (T := TX9) (N := 53) hx hb hts in9 hown hG.1 hP 0 rfl rfl 2 (by decide) (hts (.fieldLink RX9 13 "ChairCaneModel" "cane" "[I") (mem_b bq_wsX9_most 0 0 rfl)) (fun _ h9 => h9) rfl dX9_most_38 ?_
      refine lv_iload_n hx hb dX9_most_41 rfl (lv_at hl 1 rfl) ?_
      refine lv_iload hx hb dX9_most_42 (lv_at hl 5 rfl) ?_
      obtain ⟨g3, h⟩ := fw_g h
      refine va_iast hx hb hG.1 hP hD hS 2 0 rfl rfl (ib_vp g3) dX9_most_44 (fun H locs hP hD hS => ?_)
      refine lv_aload_n hx hb dX9_most_45 rfl (lv_at hl 0 rfl) ?_
      refine lv_iload_n hx hb dX9_most_46 rfl (lv_at hl 3 rfl) ?_
      obtain ⟨hP, hD⟩ := cv (w' := moW k va (a30.2.2.2.2.2.1, (uF a30.2.2.2.2.2.2.1 2 (upd (a30.2.2.2.2.2.2.1 2) (Int32.toNatClampNeg a30.1) a30.2.2.2.2.1)), a30.2.2.2.2.2.2.2)) hP hD rfl
      refine fw_Vi (As := [.int a30.2.2.1]) (rest := []) (n := 1) (wr := []) (rv := fun b : Int32 => b) (wp := fun b : Int32 => moW k va (a30.2.2.2.2.2.1, (uF a30.2.2.2.2.2.2.1 2 (upd (a30.2.2.2.2.2.2.1 2) (Int32.toNatClampNeg a30.1) a30.2.2.2.2.1)), a30.2.2.2.2.2.2.2)) h hx hb hml hown hts hG hA hP hD hS hl.1 (List.range (moW k va (a30.2.2.2.2.2.1, (uF a30.2.2.2.2.2.2.1 2 (upd (a30.2.2.2.2.2.2.1 2) (Int32.toNatClampNeg a30.1) a30.2.2.2.2.1)), a30.2.2.2.2.2.2.2)).length) [] (fun q hq9 => c_X9_dropsOf l D k _  va F a30.2.2.1 (a30.2.2.2.2.2.1, (uF a30.2.2.2.2.2.2.1 2 (upd (a30.2.2.2.2.2.2.1 2) (Int32.toNatClampNeg a30.1) a30.2.2.2.2.1)), a30.2.2.2.2.2.2.2)  hq9) (ci := 7) (q0 := 0) rfl rfl gX9_most_X9_dropsOf rfl ⟨rfl, rfl, Nat.le_of_ble_eq_true rfl, Nat.le_of_ble_eq_true rfl⟩ (by decide +kernel) (al_C _) rfl (al_n _) ⟨rfl, rfl, Nat.le_of_ble_eq_true rfl, Nat.le_of_ble_eq_true rfl, Nat.le_of_ble_eq_true rfl⟩ dX9_most_47 (fun q4 H locs h hP hD hS => ?_)
      obtain ⟨hP, hD⟩ := cv (w' := moW k va (a30.2.2.2.2.2.1, (uF a30.2.2.2.2.2.2.1 2 (upd (a30.2.2.2.2.2.2.1 2) (Int32.toNatClampNeg a30.1) a30.2.2.2.2.1)), a30.2.2.2.2.2.2.2)) hP hD rfl
      refine hc_is (z := q4) rfl ?_
      refine lv_if_ne (tgt := 58) hx hb dX9_most_50 (by decide) (fun c5 => ?_) (fun c5 => ?_)
      · have h := fw_f c5 h
        refine lv_iload hx hb dX9_most_58 (lv_at hl 4 rfl) ?_
        exact B60 _ _ _ _ _ _ _ _ _ h hP hD hS (lv_sub hl [0, 1, 2, 3, 5] rfl)
      · have h := fw_t c5 h
        refine lv_iload hx hb dX9_most_53 (lv_at hl 5 rfl) ?_
        refine lv_goto (tgt := 60) hx hb dX9_most_55 (by decide) ?_
        exact B60 _ _ _ _ _ _ _ _ _ h hP hD hS (lv_sub hl [0, 1, 2, 3, 5] rfl)
  have C30 : ∀ (v1 : Int32) (v2 : Int32) (v3 : Int32) (v4 : Int32) (v5 : Int32) (mo : OB), lp (b_X9_most_30 F) F (v1, v2, v3, v4, v5, mo) = some res → ∀ (H : Heap) (locs : List Loc) (ls : Array Slot), va_P D vwCl (moW k va mo) H → va_D A (moW k va mo) → va_S A s.heap H locs → lv_has ls 6 [(0, .ref (va 0)), (1, .int v1), (2, .int v2), (3, .int v3), (4, .int v4), (5, .int v5)] → W p l e (rmK 5 0 0) s m (List.toArray [.ref (va 0), .int x1]) below meth c H locs 0 0 (MQ below (va_Qi (fun r (_ : Unit) => r = res.1) (hcB D (fun _ : Unit => moW k va res.2) A) A) (List.toArray [.ref (va 0), .int x1]) s 0 0 A) (F0 m 30 ls []) := fun v1 v2 v3 v4 v5 mo => B30 (v1, v2, v3, v4, v5, mo)
  refine lv_aload_n hx hb dX9_most_0 rfl (lv_at hl 0 rfl) ?_
  refine lv_iload_n hx hb dX9_most_1 rfl (lv_at hl 1 rfl) ?_
  refine fw_Vi (As := [.int x1]) (rest := []) (n := 1) (wr := []) (rv := fun b : Int32 => b) (wp := fun b : Int32 => moW k va mo) h hx hb hml hown hts hG hA hP hD hS hl.1 (List.range (moW k va mo).length) [] (fun q hq9 => c_X9_isStrand l D k _  va F x1 mo  hq9) (ci := 7) (q0 := 0) rfl rfl gX9_most_X9_isStrand rfl ⟨rfl, rfl, Nat.le_of_ble_eq_true rfl, Nat.le_of_ble_eq_true rfl⟩ (by decide +kernel) (al_C _) rfl (al_n _) ⟨rfl, rfl, Nat.le_of_ble_eq_true rfl, Nat.le_of_ble_eq_true rfl, Nat.le_of_ble_eq_true rfl⟩ dX9_most_2 (fun q6 H locs h hP hD hS => ?_)
  obtain ⟨hP, hD⟩ := cv (w' := moW k va mo) hP hD rfl
  refine hc_is (z := q6) rfl ?_
  refine lv_if_ne (tgt := 10) hx hb dX9_most_5 (by decide) (fun c7 => ?_) (fun c7 => ?_)
  · have h := fw_f c7 h
    refine lv_aload_n hx hb dX9_most_10 rfl (lv_at hl 0 rfl) ?_
    refine va_get (D := D) (ci := 7) (v := .ref (va 2)) (C := RX9) (T := TX9) (N := 53) hx hb hts in9 hown hG.1 hP 0 rfl rfl 2 (by decide) (hts (.fieldLink RX9 13 "ChairCaneModel" "cane" "[I") (mem_b bq_wsX9_most 0 0 rfl)) (fun _ h9 => h9) rfl dX9_most_11 ?_
    refine lv_iload_n hx hb dX9_most_14 rfl (lv_at hl 1 rfl) ?_
    obtain ⟨g8, h⟩ := fw_g h
    refine va_iald hx hb hG.1 hP 2 0 rfl rfl (ib_vp g8) dX9_most_15 ?_
    refine lv_istore_n (lv' := [(2, .int ((mo.2.1 2) (Int32.toNatClampNeg x1))), (0, .ref (va 0)), (1, .int x1)]) hx hb dX9_most_16 rfl hl (by decide) rfl (fun ls hl => ?_)
    refine lv_aload_n hx hb dX9_most_17 rfl (lv_at hl 1 rfl) ?_
    refine lv_iconst (v := 1) hx hb dX9_most_18 (by decide) ?_
    refine fw_Vi (As := [.int 1]) (rest := []) (n := 1) (wr := []) (rv := fun b : Int32 => b) (wp := fun b : Int32 => moW k va mo) h hx hb hml hown hts hG hA hP hD hS hl.1 (List.range (moW k va mo).length) [] (fun q hq9 => c_X9_those l D k _  va F 1 mo  hq9) (ci := 7) (q0 := 0) rfl rfl gX9_most_X9_those rfl ⟨rfl, rfl, Nat.le_of_ble_eq_true rfl, Nat.le_of_ble_eq_true rfl⟩ (by decide +kernel) (al_C _) rfl (al_n _) ⟨rfl, rfl, Nat.le_of_ble_eq_true rfl, Nat.le_of_ble_eq_true rfl, Nat.le_of_ble_eq_true rfl⟩ dX9_most_19 (fun q9 H locs h hP hD hS => ?_)
    obtain ⟨hP, hD⟩ := cv (w' := moW k va mo) hP hD rfl
    refine hc_is (z := q9) rfl ?_
    refine lv_istore_n (lv' := [(3, .int q9), (2, .int ((mo.2.1 2) (Int32.toNatClampNeg x1))), (0, .ref (va 0)), (1, .int x1)]) hx hb dX9_most_22 rfl hl (by decide) rfl (fun ls hl => ?_)
    refine lv_bipush (v := (-2)) hx hb dX9_most_23 (by decide) ?_
    refine lv_istore (lv' := [(4, .int (-2)), (3, .int q9), (2, .int ((mo.2.1 2) (Int32.toNatClampNeg x1))), (0, .ref (va 0)), (1, .int x1)]) hx hb dX9_most_25 hl (by decide) rfl (fun ls hl => ?_)
    refine lv_iconst (v := 0) hx hb dX9_most_27 (by decide) ?_
    refine lv_istore (lv' := [(5, .int 0), (4, .int (-2)), (3, .int q9), (2, .int ((mo.2.1 2) (Int32.toNatClampNeg x1))), (0, .ref (va 0)), (1, .int x1)]) hx hb dX9_most_28 hl (by decide) rfl (fun ls hl => ?_)
    exact C30 _ _ _ _ _ _ h _ _ _ hP hD hS (lv_sub hl [4, 5, 3, 2, 1, 0] rfl)
  · have h := fw_t c7 h
    refine lv_iconst (v := (-1)) hx hb dX9_most_8 (by decide) ?_
    exact fw_endI (rv := fun b : Int32 × OB => b.1) (wp := fun b : Int32 × OB => moW k va b.2) hx hb hr hlocks h rfl hP hD hS dX9_most_9
noncomputable def b_X9_heavy_28 (F : Nat)    (mo : OB) : Option (Int32 × OB) :=
  some ((-1), mo)
noncomputable def b_X9_heavy_123 (F : Nat)    (y0 : Int32) (mo : OB) : Option (Int32 × OB) :=
  some (y0, mo)
noncomputable def b_X9_heavy_99 (F : Nat)   (k58 : (Int32 × Int32 × Int32 × Int32 × Int32 × Int32 × Int32 × OB) → Option (Int32 × OB)) (v1 : Int32) (v2 : Int32) (v3 : Int32) (v4 : Int32) (v5 : Int32) (v6 : Int32) (v7 : Int32) (mo : OB) : Option (Int32 × OB) :=
  k58 (v1, v2, v3, v4, v5, v6, (v7 + 1), mo)
noncomputable def b_X9_heavy_94 (F : Nat)   (k58 : (Int32 × Int32 × Int32 × Int32 × Int32 × Int32 × Int32 × OB) → Option (Int32 × OB)) (v1 : Int32) (v2 : Int32) (v3 : Int32) (v4 : Int32) (v5 : Int32) (v7 : Int32) (y0 : Int32) (mo : OB) : Option (Int32 × OB) :=
  b_X9_heavy_99 F k58 v1 v2 v3 v4 (v5 + 1) y0 v7 mo
noncomputable def b_X9_heavy_58 (F : Nat)    (k58 : (Int32 × Int32 × Int32 × Int32 × Int32 × Int32 × Int32 × OB) → Option (Int32 × OB)) (a58 : (Int32 × Int32 × Int32 × Int32 × Int32 × Int32 × Int32 × OB)) : Option (Int32 × OB) :=
  if 20 < a58.2.2.2.2.2.2.1 then (if ib a58.1 8 then (if a58.2.1 = 0 then (b_X9_heavy_123 F a58.2.2.2.2.1 (a58.2.2.2.2.2.2.2.1, (uF a58.2.2.2.2.2.2.2.2.1 5 (upd (a58.2.2.2.2.2.2.2.2.1 5) (Int32.toNatClampNeg a58.1) a58.2.2.1)), a58.2.2.2.2.2.2.2.2.2)) else (b_X9_heavy_123 F a58.2.2.2.2.2.1 (a58.2.2.2.2.2.2.2.1, (uF a58.2.2.2.2.2.2.2.2.1 5 (upd (a58.2.2.2.2.2.2.2.2.1 5) (Int32.toNatClampNeg a58.1) a58.2.2.1)), a58.2.2.2.2.2.2.2.2.2))) else none) else (if ib a58.1 8 then (Option.bind (f_X9_dropsOf F a58.2.2.2.1 (a58.2.2.2.2.2.2.2.1, (uF a58.2.2.2.2.2.2.2.2.1 5 (upd (a58.2.2.2.2.2.2.2.2.1 5) (Int32.toNatClampNeg a58.1) a58.2.2.2.2.2.2.1)), a58.2.2.2.2.2.2.2.2.2)) (fun q5 => (if q5 = 0 then (if a58.2.2.2.2.1 = 0 then (b_X9_heavy_94 F k58 a58.1 a58.2.1 a58.2.2.1 a58.2.2.2.1 a58.2.2.2.2.1 a58.2.2.2.2.2.2.1 a58.2.2.2.2.2.2.1 (a58.2.2.2.2.2.2.2.1, (uF a58.2.2.2.2.2.2.2.2.1 5 (upd (a58.2.2.2.2.2.2.2.2.1 5) (Int32.toNatClampNeg a58.1) a58.2.2.2.2.2.2.1)), a58.2.2.2.2.2.2.2.2.2)) else (b_X9_heavy_94 F k58 a58.1 a58.2.1 a58.2.2.1 a58.2.2.2.1 a58.2.2.2.2.1 a58.2.2.2.2.2.2.1 a58.2.2.2.2.2.1 (a58.2.2.2.2.2.2.2.1, (uF a58.2.2.2.2.2.2.2.2.1 5 (upd (a58.2.2.2.2.2.2.2.2.1 5) (Int32.toNatClampNeg a58.1) a58.2.2.2.2.2.2.1)), a58.2.2.2.2.2.2.2.2.2))) else (b_X9_heavy_99 F k58 a58.1 a58.2.1 a58.2.2.1 a58.2.2.2.1 a58.2.2.2.2.1 a58.2.2.2.2.2.1 a58.2.2.2.2.2.2.1 (a58.2.2.2.2.2.2.2.1, (uF a58.2.2.2.2.2.2.2.2.1 5 (upd (a58.2.2.2.2.2.2.2.2.1 5) (Int32.toNatClampNeg a58.1) a58.2.2.2.2.2.2.1)), a58.2.2.2.2.2.2.2.2.2))))) else none)
noncomputable def f_X9_heavy (F : Nat)  (x1 : Int32) (x2 : Int32) (mo : OB) : Option (Int32 × OB) :=
  Option.bind (f_X9_isSitter F x1 mo) (fun q8 => (if q8 = 0 then (b_X9_heavy_28 F mo) else (if ib x1 8 then (if ((mo.2.1 3) (Int32.toNatClampNeg x1)) = 2 then (b_X9_heavy_28 F mo) else (Option.bind (f_X9_in F (Int32.toInt64 x2) 0 1) (fun q12 => (if q12 = 0 then (b_X9_heavy_28 F mo) else (Option.bind (f_X9_those F 1 mo) (fun q14 => (lp (b_X9_heavy_58 F) F (x1, x2, ((mo.2.1 5) (Int32.toNatClampNeg x1)), (q14 ||| (1 <<< (x1 &&& 31))), 0, (-2), 1, mo)))))))) else none)))
set_option maxHeartbeats 4000000 in
set_option maxRecDepth 100000 in
theorem c_X9_heavy (l : Launch) (D : va_G) (k : Nat → ClassId) (sz : Nat)  (va : Nat → Nat) (F : Nat)  (x1 : Int32) (x2 : Int32) (mo : OB)  {res : Int32 × OB} (h : f_X9_heavy F x1 x2 mo = some res) : CtI l yX9_heavy wsX9_heavy (rmK 5 0 0) [.ref (va 0), .int x1, .int x2] D k sz (moW k va mo) (fun r (_ : Unit) => r = res.1) (fun _ : Unit => moW k va res.2) 0 0 := by
  refine CtI.mk (cc := cX9_heavy) (maxL := 8) (ret := (some .int)) (by decide) rfl (Nat.le_of_ble_eq_true rfl) ?_
  intro p e s m below meth c A ls E hP hD hS hl
  obtain ⟨hx, hb, hr, hml, hown, hts, hlocks, hin, hG, hA⟩ := E
  have hown : s.vm.findClass RX9 = some m.cls := hown
  have in9 : ∀ w ∈ u_ws RX9 TX9 53, w ∈ wsX9_heavy := fun _ h => List.mem_cons_of_mem _ (List.mem_append_right _ h)
  have hl : lv_has ls 8 [(0, .ref (va 0)), (1, .int x1), (2, .int x2)] := hl
  have B28 : ∀ (mo : OB) (H : Heap) (locs : List Loc) (ls : Array Slot), b_X9_heavy_28 F mo = some res → va_P D vwCl (moW k va mo) H → va_D A (moW k va mo) → va_S A s.heap H locs → lv_has ls 8 [] → W p l e (rmK 5 0 0) s m (List.toArray [.ref (va 0), .int x1, .int x2]) below meth c H locs 0 0 (MQ below (va_Qi (fun r (_ : Unit) => r = res.1) (hcB D (fun _ : Unit => moW k va res.2) A) A) (List.toArray [.ref (va 0), .int x1, .int x2]) s 0 0 A) (F0 m 28 ls []) := by
    intro mo H locs ls h hP hD hS hl
    refine lv_iconst (v := (-1)) hx hb dX9_heavy_28 (by decide) ?_
    exact fw_endI (rv := fun b : Int32 × OB => b.1) (wp := fun b : Int32 × OB => moW k va b.2) hx hb hr hlocks h rfl hP hD hS dX9_heavy_29
  have B123 : ∀ (y0 : Int32) (mo : OB) (H : Heap) (locs : List Loc) (ls : Array Slot), b_X9_heavy_123 F y0 mo = some res → va_P D vwCl (moW k va mo) H → va_D A (moW k va mo) → va_S A s.heap H locs → lv_has ls 8 [] → W p l e (rmK 5 0 0) s m (List.toArray [.ref (va 0), .int x1, .int x2]) below meth c H locs 0 0 (MQ below (va_Qi (fun r (_ : Unit) => r = res.1) (hcB D (fun _ : Unit => moW k va res.2) A) A) (List.toArray [.ref (va 0), .int x1, .int x2]) s 0 0 A) (F0 m 123 ls [.int y0]) := by
    intro y0 mo H locs ls h hP hD hS hl
    exact fw_endI (rv := fun b : Int32 × OB => b.1) (wp := fun b : Int32 × OB => moW k va b.2) hx hb hr hlocks h rfl hP hD hS dX9_heavy_123
  have B58 : ∀ a58 : (Int32 × Int32 × Int32 × Int32 × Int32 × Int32 × Int32 × OB), lp (b_X9_heavy_58 F) F a58 = some res → ∀ (H : Heap) (locs : List Loc) (ls : Array Slot), va_P D vwCl (moW k va a58.2.2.2.2.2.2.2) H → va_D A (moW k va a58.2.2.2.2.2.2.2) → va_S A s.heap H locs → lv_has ls 8 [(0, .ref (va 0)), (1, .int a58.1), (2, .int a58.2.1), (3, .int a58.2.2.1), (4, .int a58.2.2.2.1), (5, .int a58.2.2.2.2.1), (6, .int a58.2.2.2.2.2.1), (7, .int a58.2.2.2.2.2.2.1)] → W p l e (rmK 5 0 0) s m (List.toArray [.ref (va 0), .int x1, .int x2]) below meth c H locs 0 0 (MQ below (va_Qi (fun r (_ : Unit) => r = res.1) (hcB D (fun _ : Unit => moW k va res.2) A) A) (List.toArray [.ref (va 0), .int x1, .int x2]) s 0 0 A) (F0 m 58 ls []) := by
    refine lp_W ?_ F
    intro k58 hk58 a58 h H locs ls hP hD hS hl
    have hc58 : ∀ (v1 : Int32) (v2 : Int32) (v3 : Int32) (v4 : Int32) (v5 : Int32) (v6 : Int32) (v7 : Int32) (mo : OB), k58 (v1, v2, v3, v4, v5, v6, v7, mo) = some res → ∀ (H : Heap) (locs : List Loc) (ls : Array Slot), va_P D vwCl (moW k va mo) H → va_D A (moW k va mo) → va_S A s.heap H locs → lv_has ls 8 [(0, .ref (va 0)), (1, .int v1), (2, .int v2), (3, .int v3), (4, .int v4), (5, .int v5), (6, .int v6), (7, .int v7)] → W p l e (rmK 5 0 0) s m (List.toArray [.ref (va 0), .int x1, .int x2]) below meth c H locs 0 0 (MQ below (va_Qi (fun r (_ : Unit) => r = res.1) (hcB D (fun _ : Unit => moW k va res.2) A) A) (List.toArray [.ref (va 0), .int x1, .int x2]) s 0 0 A) (F0 m 58 ls []) := fun v1 v2 v3 v4 v5 v6 v7 mo => hk58 (v1, v2, v3, v4, v5, v6, v7, mo)
    have B99 : ∀ (v1 : Int32) (v2 : Int32) (v3 : Int32) (v4 : Int32) (v5 : Int32) (v6 : Int32) (v7 : Int32) (mo : OB) (H : Heap) (locs : List Loc) (ls : Array Slot), b_X9_heavy_99 F k58 v1 v2 v3 v4 v5 v6 v7 mo = some res → va_P D vwCl (moW k va mo) H → va_D A (moW k va mo) → va_S A s.heap H locs → lv_has ls 8 [(0, .ref (va 0)), (1, .int v1), (2, .int v2), (3, .int v3), (4, .int v4), (5, .int v5), (6, .int v6), (7, .int v7)] → W p l e (rmK 5 0 0) s m (List.toArray [.ref (va 0), .int x1, .int x2]) below meth c H locs 0 0 (MQ below (va_Qi (fun r (_ : Unit) => r = res.1) (hcB D (fun _ : Unit => moW k va res.2) A) A) (List.toArray [.ref (va 0), .int x1, .int x2]) s 0 0 A) (F0 m 99 ls []) := by
      intro v1 v2 v3 v4 v5 v6 v7 mo H locs ls h hP hD hS hl
      refine lv_iinc (v := (v7 + 1)) (lv' := [(7, .int (v7 + 1)), (0, .ref (va 0)), (1, .int v1), (2, .int v2), (3, .int v3), (4, .int v4), (5, .int v5), (6, .int v6)]) hx hb dX9_heavy_99 hl (k := 7) rfl rfl (by decide) rfl (fun ls hl => ?_)
      refine lv_goto (tgt := 58) hx hb dX9_heavy_102 (by decide) ?_
      exact hc58 _ _ _ _ _ _ _ _ h _ _ _ hP hD hS (lv_sub hl [1, 2, 3, 4, 5, 6, 7, 0] rfl)
    have B94 : ∀ (v1 : Int32) (v2 : Int32) (v3 : Int32) (v4 : Int32) (v5 : Int32) (v7 : Int32) (y0 : Int32) (mo : OB) (H : Heap) (locs : List Loc) (ls : Array Slot), b_X9_heavy_94 F k58 v1 v2 v3 v4 v5 v7 y0 mo = some res → va_P D vwCl (moW k va mo) H → va_D A (moW k va mo) → va_S A s.heap H locs → lv_has ls 8 [(0, .ref (va 0)), (1, .int v1), (2, .int v2), (3, .int v3), (4, .int v4), (5, .int v5), (7, .int v7)] → W p l e (rmK 5 0 0) s m (List.toArray [.ref (va 0), .int x1, .int x2]) below meth c H locs 0 0 (MQ below (va_Qi (fun r (_ : Unit) => r = res.1) (hcB D (fun _ : Unit => moW k va res.2) A) A) (List.toArray [.ref (va 0), .int x1, .int x2]) s 0 0 A) (F0 m 94 ls [.int y0]) := by
      intro v1 v2 v3 v4 v5 v7 y0 mo H locs ls h hP hD hS hl
      refine lv_istore (lv' := [(6, .int y0), (0, .ref (va 0)), (1, .int v1), (2, .int v2), (3, .int v3), (4, .int v4), (5, .int v5), (7, .int v7)]) hx hb dX9_heavy_94 hl (by decide) rfl (fun ls hl => ?_)
      refine lv_iinc (v := (v5 + 1)) (lv' := [(5, .int (v5 + 1)), (6, .int y0), (0, .ref (va 0)), (1, .int v1), (2, .int v2), (3, .int v3), (4, .int v4), (7, .int v7)]) hx hb dX9_heavy_96 hl (k := 6) rfl rfl (by decide) rfl (fun ls hl => ?_)
      exact B99 _ _ _ _ _ _ _ _ _ _ _ h hP hD hS (lv_sub hl [2, 3, 4, 5, 6, 0, 1, 7] rfl)
    refine lv_iload hx hb dX9_heavy_58 (lv_at hl 7 rfl) ?_
    refine lv_bipush (v := 20) hx hb dX9_heavy_60 (by decide) ?_
    refine lv_icmp_gt (tgt := 105) hx hb dX9_heavy_62 (by decide) (fun c1 => ?_) (fun c1 => ?_)
    · have h := fw_t c1 h
      refine lv_aload_n hx hb dX9_heavy_105 rfl (lv_at hl 0 rfl) ?_
      refine va_get (D := D) (ci := 7) (v := .ref (va 5)) (C := RX9) (T := TX9) (N := 53) hx hb hts in9 hown hG.1 hP 0 rfl rfl 5 (by decide) (hts (.fieldLink RX9 22 "ChairCaneModel" "weight" "[I") (mem_b bq_wsX9_heavy 0 1 rfl)) (fun _ h9 => h9) rfl dX9_heavy_106 ?_
      refine lv_iload_n hx hb dX9_heavy_109 rfl (lv_at hl 1 rfl) ?_
      refine lv_iload_n hx hb dX9_heavy_110 rfl (lv_at hl 3 rfl) ?_
      obtain ⟨g2, h⟩ := fw_g h
      refine va_iast hx hb hG.1 hP hD hS 5 0 rfl rfl (ib_vp g2) dX9_heavy_111 (fun H locs hP hD hS => ?_)
      refine lv_iload_n hx hb dX9_heavy_112 rfl (lv_at hl 2 rfl) ?_
      refine lv_if_ne (tgt := 121) hx hb dX9_heavy_113 (by decide) (fun c3 => ?_) (fun c3 => ?_)
      · have h := fw_f c3 h
        refine lv_iload hx hb dX9_heavy_121 (lv_at hl 6 rfl) ?_
        exact B123 _ _ _ _ _ h hP hD hS (lv_sub hl [] rfl)
      · have h := fw_t c3 h
        refine lv_iload hx hb dX9_heavy_116 (lv_at hl 5 rfl) ?_
        refine lv_goto (tgt := 123) hx hb dX9_heavy_118 (by decide) ?_
        exact B123 _ _ _ _ _ h hP hD hS (lv_sub hl [] rfl)
    · have h := fw_f c1 h
      refine lv_aload_n hx hb dX9_heavy_65 rfl (lv_at hl 0 rfl) ?_
      refine va_get (D := D) (ci := 7) (v := .ref (va 5)) (C := RX9) (T := TX9) (N := 53) hx hb hts in9 hown hG.1 hP 0 rfl rfl 5 (by decide) (hts (.fieldLink RX9 22 "ChairCaneModel" "weight" "[I") (mem_b bq_wsX9_heavy 0 1 rfl)) (fun _ h9 => h9) rfl dX9_heavy_66 ?_
      refine lv_iload_n hx hb dX9_heavy_69 rfl (lv_at hl 1 rfl) ?_
      refine lv_iload hx hb dX9_heavy_70 (lv_at hl 7 rfl) ?_
      obtain ⟨g4, h⟩ := fw_g h
      refine va_iast hx hb hG.1 hP hD hS 5 0 rfl rfl (ib_vp g4) dX9_heavy_72 (fun H locs hP hD hS => ?_)
      refine lv_aload_n hx hb dX9_heavy_73 rfl (lv_at hl 0 rfl) ?_
      refine lv_iload hx hb dX9_heavy_74 (lv_at hl 4 rfl) ?_
      obtain ⟨hP, hD⟩ := cv (w' := moW k va (a58.2.2.2.2.2.2.2.1, (uF a58.2.2.2.2.2.2.2.2.1 5 (upd (a58.2.2.2.2.2.2.2.2.1 5) (Int32.toNatClampNeg a58.1) a58.2.2.2.2.2.2.1)), a58.2.2.2.2.2.2.2.2.2)) hP hD rfl
      refine fw_Vi (As := [.int a58.2.2.2.1]) (rest := []) (n := 1) (wr := []) (rv := fun b : Int32 => b) (wp := fun b : Int32 => moW k va (a58.2.2.2.2.2.2.2.1, (uF a58.2.2.2.2.2.2.2.2.1 5 (upd (a58.2.2.2.2.2.2.2.2.1 5) (Int32.toNatClampNeg a58.1) a58.2.2.2.2.2.2.1)), a58.2.2.2.2.2.2.2.2.2)) h hx hb hml hown hts hG hA hP hD hS hl.1 (List.range (moW k va (a58.2.2.2.2.2.2.2.1, (uF a58.2.2.2.2.2.2.2.2.1 5 (upd (a58.2.2.2.2.2.2.2.2.1 5) (Int32.toNatClampNeg a58.1) a58.2.2.2.2.2.2.1)), a58.2.2.2.2.2.2.2.2.2)).length) [] (fun q hq9 => c_X9_dropsOf l D k _  va F a58.2.2.2.1 (a58.2.2.2.2.2.2.2.1, (uF a58.2.2.2.2.2.2.2.2.1 5 (upd (a58.2.2.2.2.2.2.2.2.1 5) (Int32.toNatClampNeg a58.1) a58.2.2.2.2.2.2.1)), a58.2.2.2.2.2.2.2.2.2)  hq9) (ci := 7) (q0 := 0) rfl rfl gX9_heavy_X9_dropsOf rfl ⟨rfl, rfl, Nat.le_of_ble_eq_true rfl, Nat.le_of_ble_eq_true rfl⟩ (by decide +kernel) (al_C _) rfl (al_n _) ⟨rfl, rfl, Nat.le_of_ble_eq_true rfl, Nat.le_of_ble_eq_true rfl, Nat.le_of_ble_eq_true rfl⟩ dX9_heavy_76 (fun q5 H locs h hP hD hS => ?_)
      obtain ⟨hP, hD⟩ := cv (w' := moW k va (a58.2.2.2.2.2.2.2.1, (uF a58.2.2.2.2.2.2.2.2.1 5 (upd (a58.2.2.2.2.2.2.2.2.1 5) (Int32.toNatClampNeg a58.1) a58.2.2.2.2.2.2.1)), a58.2.2.2.2.2.2.2.2.2)) hP hD rfl
      refine hc_is (z := q5) rfl ?_
      refine lv_if_ne (tgt := 99) hx hb dX9_heavy_79 (by decide) (fun c6 => ?_) (fun c6 => ?_)
      · have h := fw_f c6 h
        exact B99 _ _ _ _ _ _ _ _ _ _ _ h hP hD hS hl
      · have h := fw_t c6 h
        refine lv_iload hx hb dX9_heavy_82 (lv_at hl 5 rfl) ?_
        refine lv_if_ne (tgt := 92) hx hb dX9_heavy_84 (by decide) (fun c7 => ?_) (fun c7 => ?_)
        · have h := fw_f c7 h
          refine lv_iload hx hb dX9_heavy_92 (lv_at hl 6 rfl) ?_
          exact B94 _ _ _ _ _ _ _ _ _ _ _ h hP hD hS (lv_sub hl [0, 1, 2, 3, 4, 5, 7] rfl)
        · have h := fw_t c7 h
          refine lv_iload hx hb dX9_heavy_87 (lv_at hl 7 rfl) ?_
          refine lv_goto (tgt := 94) hx hb dX9_heavy_89 (by decide) ?_
          exact B94 _ _ _ _ _ _ _ _ _ _ _ h hP hD hS (lv_sub hl [0, 1, 2, 3, 4, 5, 7] rfl)
  have C58 : ∀ (v1 : Int32) (v2 : Int32) (v3 : Int32) (v4 : Int32) (v5 : Int32) (v6 : Int32) (v7 : Int32) (mo : OB), lp (b_X9_heavy_58 F) F (v1, v2, v3, v4, v5, v6, v7, mo) = some res → ∀ (H : Heap) (locs : List Loc) (ls : Array Slot), va_P D vwCl (moW k va mo) H → va_D A (moW k va mo) → va_S A s.heap H locs → lv_has ls 8 [(0, .ref (va 0)), (1, .int v1), (2, .int v2), (3, .int v3), (4, .int v4), (5, .int v5), (6, .int v6), (7, .int v7)] → W p l e (rmK 5 0 0) s m (List.toArray [.ref (va 0), .int x1, .int x2]) below meth c H locs 0 0 (MQ below (va_Qi (fun r (_ : Unit) => r = res.1) (hcB D (fun _ : Unit => moW k va res.2) A) A) (List.toArray [.ref (va 0), .int x1, .int x2]) s 0 0 A) (F0 m 58 ls []) := fun v1 v2 v3 v4 v5 v6 v7 mo => B58 (v1, v2, v3, v4, v5, v6, v7, mo)
  refine lv_aload_n hx hb dX9_heavy_0 rfl (lv_at hl 0 rfl) ?_
  refine lv_iload_n hx hb dX9_heavy_1 rfl (lv_at hl 1 rfl) ?_
  refine fw_Vi (As := [.int x1]) (rest := []) (n := 1) (wr := []) (rv := fun b : Int32 => b) (wp := fun b : Int32 => moW k va mo) h hx hb hml hown hts hG hA hP hD hS hl.1 (List.range (moW k va mo).length) [] (fun q hq9 => c_X9_isSitter l D k _  va F x1 mo  hq9) (ci := 7) (q0 := 0) rfl rfl gX9_heavy_X9_isSitter rfl ⟨rfl, rfl, Nat.le_of_ble_eq_true rfl, Nat.le_of_ble_eq_true rfl⟩ (by decide +kernel) (al_C _) rfl (al_n _) ⟨rfl, rfl, Nat.le_of_ble_eq_true rfl, Nat.le_of_ble_eq_true rfl, Nat.le_of_ble_eq_true rfl⟩ dX9_heavy_2 (fun q8 H locs h hP hD hS => ?_)
  obtain ⟨hP, hD⟩ := cv (w' := moW k va mo) hP hD rfl
  refine hc_is (z := q8) rfl ?_
  refine lv_if_eq (tgt := 28) hx hb dX9_heavy_5 (by decide) (fun c9 => ?_) (fun c9 => ?_)
  · have h := fw_t c9 h
    exact B28 _ _ _ _ h hP hD hS (lv_sub hl [] rfl)
  · have h := fw_f c9 h
    refine lv_aload_n hx hb dX9_heavy_8 rfl (lv_at hl 0 rfl) ?_
    refine va_get (D := D) (ci := 7) (v := .ref (va 3)) (C := RX9) (T := TX9) (N := 53) hx hb hts in9 hown hG.1 hP 0 rfl rfl 3 (by decide) (hts (.fieldLink RX9 16 "ChairCaneModel" "is" "[I") (mem_b bq_wsX9_heavy 0 0 rfl)) (fun _ h9 => h9) rfl dX9_heavy_9 ?_
    refine lv_iload_n hx hb dX9_heavy_12 rfl (lv_at hl 1 rfl) ?_
    obtain ⟨g10, h⟩ := fw_g h
    refine va_iald hx hb hG.1 hP 3 0 rfl rfl (ib_vp g10) dX9_heavy_13 ?_
    refine lv_iconst (v := 2) hx hb dX9_heavy_14 (by decide) ?_
    refine lv_icmp_eq (tgt := 28) hx hb dX9_heavy_15 (by decide) (fun c11 => ?_) (fun c11 => ?_)
    · have h := fw_t c11 h
      exact B28 _ _ _ _ h hP hD hS (lv_sub hl [] rfl)
    · have h := fw_f c11 h
      refine lv_iload_n hx hb dX9_heavy_18 rfl (lv_at hl 2 rfl) ?_
      refine lv_i2l hx hb dX9_heavy_19 rfl ?_
      refine lv_lconst (v := 0) hx hb dX9_heavy_20 (by decide) ?_
      refine lv_lconst (v := 1) hx hb dX9_heavy_21 (by decide) ?_
      refine fw_Si (As := [.long (Int32.toInt64 x2), .long 0, .long 1]) (rest := []) (n := 3) (wr := moW k va mo) (rv := fun b : Int32 => b) (wp := fun b : Int32 => []) h hx hb hml hown hts hG hA hP hD hS hl.1 [] (List.range (moW k va mo).length) (fun q hq9 => c_X9_in l D k _   F (Int32.toInt64 x2) 0 1   hq9) gX9_heavy_X9_in rfl ⟨rfl, rfl, Nat.le_of_ble_eq_true rfl, Nat.le_of_ble_eq_true rfl⟩ (by decide +kernel) rfl (al_C _) (al_m _) ⟨rfl, rfl, Nat.le_of_ble_eq_true rfl, Nat.le_of_ble_eq_true rfl, Nat.le_of_ble_eq_true rfl⟩ dX9_heavy_22 (fun q12 H locs h hP hD hS => ?_)
      obtain ⟨hP, hD⟩ := cv (w' := (moW k va mo) ++ []) hP hD rfl
      rw [List.append_nil] at hP hD
      refine hc_is (z := q12) rfl ?_
      refine lv_if_ne (tgt := 30) hx hb dX9_heavy_25 (by decide) (fun c13 => ?_) (fun c13 => ?_)
      · have h := fw_f c13 h
        refine lv_aload_n hx hb dX9_heavy_30 rfl (lv_at hl 0 rfl) ?_
        refine va_get (D := D) (ci := 7) (v := .ref (va 5)) (C := RX9) (T := TX9) (N := 53) hx hb hts in9 hown hG.1 hP 0 rfl rfl 5 (by decide) (hts (.fieldLink RX9 22 "ChairCaneModel" "weight" "[I") (mem_b bq_wsX9_heavy 0 1 rfl)) (fun _ h9 => h9) rfl dX9_heavy_31 ?_
        refine lv_iload_n hx hb dX9_heavy_34 rfl (lv_at hl 1 rfl) ?_
        refine va_iald hx hb hG.1 hP 5 0 rfl rfl (ib_vp g10) dX9_heavy_35 ?_
        refine lv_istore_n (lv' := [(3, .int ((mo.2.1 5) (Int32.toNatClampNeg x1))), (0, .ref (va 0)), (1, .int x1), (2, .int x2)]) hx hb dX9_heavy_36 rfl hl (by decide) rfl (fun ls hl => ?_)
        refine lv_aload_n hx hb dX9_heavy_37 rfl (lv_at hl 1 rfl) ?_
        refine lv_iconst (v := 1) hx hb dX9_heavy_38 (by decide) ?_
        refine fw_Vi (As := [.int 1]) (rest := []) (n := 1) (wr := []) (rv := fun b : Int32 => b) (wp := fun b : Int32 => moW k va mo) h hx hb hml hown hts hG hA hP hD hS hl.1 (List.range (moW k va mo).length) [] (fun q hq9 => c_X9_those l D k _  va F 1 mo  hq9) (ci := 7) (q0 := 0) rfl rfl gX9_heavy_X9_those rfl ⟨rfl, rfl, Nat.le_of_ble_eq_true rfl, Nat.le_of_ble_eq_true rfl⟩ (by decide +kernel) (al_C _) rfl (al_n _) ⟨rfl, rfl, Nat.le_of_ble_eq_true rfl, Nat.le_of_ble_eq_true rfl, Nat.le_of_ble_eq_true rfl⟩ dX9_heavy_39 (fun q14 H locs h hP hD hS => ?_)
        obtain ⟨hP, hD⟩ := cv (w' := moW k va mo) hP hD rfl
        refine hc_is (z := q14) rfl ?_
        refine lv_iconst (v := 1) hx hb dX9_heavy_42 (by decide) ?_
        refine lv_iload_n hx hb dX9_heavy_43 rfl (lv_at hl 2 rfl) ?_
        refine lv_ishl hx hb dX9_heavy_44 ?_
        refine lv_ior hx hb dX9_heavy_45 ?_
        refine lv_istore (lv' := [(4, .int (q14 ||| (1 <<< (x1 &&& 31)))), (3, .int ((mo.2.1 5) (Int32.toNatClampNeg x1))), (0, .ref (va 0)), (1, .int x1), (2, .int x2)]) hx hb dX9_heavy_46 hl (by decide) rfl (fun ls hl => ?_)
        refine lv_iconst (v := 0) hx hb dX9_heavy_48 (by decide) ?_
        refine lv_istore (lv' := [(5, .int 0), (4, .int (q14 ||| (1 <<< (x1 &&& 31)))), (3, .int ((mo.2.1 5) (Int32.toNatClampNeg x1))), (0, .ref (va 0)), (1, .int x1), (2, .int x2)]) hx hb dX9_heavy_49 hl (by decide) rfl (fun ls hl => ?_)
        refine lv_bipush (v := (-2)) hx hb dX9_heavy_51 (by decide) ?_
        refine lv_istore (lv' := [(6, .int (-2)), (5, .int 0), (4, .int (q14 ||| (1 <<< (x1 &&& 31)))), (3, .int ((mo.2.1 5) (Int32.toNatClampNeg x1))), (0, .ref (va 0)), (1, .int x1), (2, .int x2)]) hx hb dX9_heavy_53 hl (by decide) rfl (fun ls hl => ?_)
        refine lv_iconst (v := 1) hx hb dX9_heavy_55 (by decide) ?_
        refine lv_istore (lv' := [(7, .int 1), (6, .int (-2)), (5, .int 0), (4, .int (q14 ||| (1 <<< (x1 &&& 31)))), (3, .int ((mo.2.1 5) (Int32.toNatClampNeg x1))), (0, .ref (va 0)), (1, .int x1), (2, .int x2)]) hx hb dX9_heavy_56 hl (by decide) rfl (fun ls hl => ?_)
        exact C58 _ _ _ _ _ _ _ _ h _ _ _ hP hD hS (lv_sub hl [5, 6, 7, 4, 3, 2, 1, 0] rfl)
      · have h := fw_t c13 h
        exact B28 _ _ _ _ h hP hD hS (lv_sub hl [] rfl)
